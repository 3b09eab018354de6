/-! a row filled; a state begun -/
theorem c_fill (N : Nat) {o n : Nat} (hk : z_kw true o = (20, n)) (hn : n < 2 ^ 31) (hN : n < N) (x : Int32) (μ : z_S) : ∃ μ', f_J7_fill_53178 N o x μ = some ((), μ') ∧ μ'.2 = μ.2 ∧ ∀ a j, μ'.1 a j = if a = o ∧ j < n then x else μ.1 a j := by
  have key : ∀ m k μ', k ≤ n → n - k < m → μ'.2 = μ.2 → (∀ a j, μ'.1 a j = if a = o ∧ j < k then x else μ.1 a j) → ∃ μ2, f_J7_fill_53178_L5 N o x (nI n) m (nI k) μ' = some ((), μ2) ∧ μ2.2 = μ.2 ∧ ∀ a j, μ2.1 a j = if a = o ∧ j < n then x else μ.1 a j := by
    intro m
    induction m with
    | zero => intro k μ' h1 h2; omega
    | succ m ih =>
      intro k μ' h1 h2 h3 h4
      show ∃ μ2, b_J7_fill_53178_L5 N o x (nI n) (f_J7_fill_53178_L5 N o x (nI n) m) (nI k) μ' = _ ∧ _
      unfold b_J7_fill_53178_L5
      rw [hk]
      by_cases hlt : k < n
      · have ek : nI k + 1 = nI (k + 1) := nI_1 k
        rw [if_pos (nI_lt hlt hn), z_in_nI hlt hn, z_bd_eq, z_bd_eq, ek, nI_toNat (by omega)]
        refine ih (k + 1) _ (by omega) (by omega) h3 (fun a j => ?_)
        rw [sI_1, h4]
        by_cases ha : a = o
        · by_cases hj : j = k
          · rw [if_pos ⟨ha, hj⟩, if_pos ⟨ha, by omega⟩]
          · rw [if_neg (fun q => hj q.2)]
            by_cases hl : j < k
            · rw [if_pos ⟨ha, hl⟩, if_pos ⟨ha, by omega⟩]
            · rw [if_neg (fun q => hl q.2), if_neg (by omega)]
        · rw [if_neg (fun q => ha q.1), if_neg (fun q => ha q.1), if_neg (fun q => ha q.1)]
      · have : k = n := by omega
        subst this
        rw [if_neg (nI_nlt (Nat.le_refl _) hn)]
        exact ⟨μ', rfl, h3, h4⟩
  unfold f_J7_fill_53178
  rw [z_kd_ok (by rw [hk]), z_bd_eq, hk]
  exact key N 0 μ (Nat.zero_le _) (by omega) rfl (fun a j => by rw [if_neg (fun q => absurd q.2 (Nat.not_lt_zero _))])
def nBegin (h : aH) : aN := (0, (fun k => if k < hCnt h 2 then hHelp h k 0 else 0), (fun g => if g < hCnt h 1 then hStock h g else 0), (fun _ => 0), (fun _ => 0), (fun _ => 0))
/-- the state object s is one -/
def stK (s : Nat) : Prop := z_kw true s = (8, 0) ∧ z_kw true (s + 1) = (20, 3) ∧ z_kw true (s + 2) = (20, 4) ∧ z_kw true (s + 3) = (20, 8) ∧ z_kw true (s + 4) = (20, 8) ∧ z_kw true (s + 5) = (20, 8)
theorem cpin_nI {α : Type} {m n0 n1 : Nat} (hm : m < 2 ^ 31) (h0 : m ≤ n0) (h1 : m ≤ n1) (X : Option α) : z_cpin (0 : Int32) (0 : Int32) (nI m) n0 n1 X = X := by
  refine z_cpin_ok ?_ X
  rw [nI_toNat hm, show (0 : Int32).toNatClampNeg = 0 from rfl]
  rintro (h | h | h | h | h)
  · exact absurd h (by decide)
  · exact absurd h (by decide)
  · exact nI_pos hm h
  · omega
  · omega
theorem c_rest (N : Nat) (hN : 9 ≤ N) {s o : Nat} {h : aH} {μ : z_S} (hs : stK s) (ho : z_kw true o = (2, 0)) (hd : s + 6 ≤ o ∨ o + 36 ≤ s) (ok : okH h) (hc : cH o h μ) : ∃ μ', f_X8_rest N s o μ = some ((), μ') ∧ μ'.2 = μ.2 ∧ ∀ a j, μ'.1 a j = if a = s + 1 ∧ j < 3 then nI (nLeft (nBegin h) j) else μ.1 a j := by
  have h2 := ok.2.2.1
  obtain ⟨μ1, e1, f1, g1⟩ := c_fill N hs.2.1 (by decide) (by omega) 0 μ
  have ecnt : μ1.1 (o + 1) 2 = nI (hCnt h 2) := by rw [g1, if_neg (by omega)]; exact hc.1 2 (by decide)
  refine ⟨z_cpS μ1 (o + 29) 0 (s + 1) 0 (hCnt h 2), ?_, ?_, fun a j => ?_⟩
  · unfold f_X8_rest
    rw [z_ko_ok hs.1, z_ko_ok ho, e1, z_bn_sm, ecnt, cpin_nI (by omega) (by omega) (by omega), z_bd_eq, nI_toNat (by omega)]
    rfl
  · rw [cpS_2]; exact f1
  · rw [cpS_1]
    show _ = if a = s + 1 ∧ j < 3 then nI (if j < hCnt h 2 then hHelp h j 0 else 0) else μ.1 a j
    by_cases ha : a = s + 1
    · by_cases hj : j < hCnt h 2
      · rw [if_pos ⟨ha, by omega, by omega⟩, if_pos ⟨ha, by omega⟩, if_pos hj, g1, if_neg (by omega), Nat.zero_add, Nat.sub_zero]
        exact (hc.2.2.2.2.2.2.2.1 j hj).1
      · rw [if_neg (c := a = s + 1 ∧ 0 ≤ j ∧ j < 0 + hCnt h 2) (by omega), if_neg hj, g1]; rfl
    · rw [if_neg (fun q => ha q.1), if_neg (fun q => ha q.1), g1, if_neg (fun q => ha q.1)]
theorem c_begin (N : Nat) (hN : 9 ≤ N) {s o : Nat} {h : aH} {μ : z_S} (hs : stK s) (ho : z_kw true o = (2, 0)) (hd : s + 6 ≤ o ∨ o + 36 ≤ s) (ok : okH h) (hc : cH o h μ) : ∃ μ', f_X8_begin N s o μ = some ((), μ') ∧ cN s (nBegin h) μ' ∧ (∀ a j, a < s ∨ s + 6 ≤ a → μ'.1 a j = μ.1 a j) ∧ μ'.2 = μ.2 := by
  have h1 := ok.2.1
  have k3 : hCnt h 0 ≤ 8 ∧ hCnt h 1 ≤ 4 ∧ hCnt h 2 ≤ 3 := ⟨ok.1, ok.2.1, ok.2.2.1⟩
  obtain ⟨μ2, e2, f2, g2⟩ := c_fill N hs.2.2.1 (by decide) (by omega) 0 (z_setI μ s 0 0)
  obtain ⟨μ3, e3, f3, g3⟩ := c_fill N hs.2.2.2.1 (by decide) (by omega) (-1) μ2
  obtain ⟨μ4, e4, f4, g4⟩ := c_fill N hs.2.2.2.2.1 (by decide) (by omega) 0 μ3
  obtain ⟨μ5, e5, f5, g5⟩ := c_fill N hs.2.2.2.2.2 (by decide) (by omega) (-1) μ4
  have out5 : ∀ a j, a < s ∨ s + 6 ≤ a → μ5.1 a j = μ.1 a j := fun a j ha => by
    rw [g5, if_neg (by omega), g4, if_neg (by omega), g3, if_neg (by omega), g2, if_neg (by omega), sI_1, if_neg (by omega)]
  have hc5 : cH o h μ5 := cH_of hc k3 (fun q j h1 h2 => out5 q j (by omega))
  have ecnt : μ5.1 (o + 1) 1 = nI (hCnt h 1) := hc5.1 1 (by decide)
  have out6 : ∀ a j, a ≠ s + 2 → (z_cpS μ5 (o + 28) 0 (s + 2) 0 (hCnt h 1)).1 a j = μ5.1 a j := fun a j ha => by rw [cpS_1, if_neg (fun q => ha q.1)]
  have hc6 : cH o h (z_cpS μ5 (o + 28) 0 (s + 2) 0 (hCnt h 1)) := cH_of hc5 k3 (fun q j h1 h2 => out6 q j (by omega))
  obtain ⟨μ7, e7, f7, g7⟩ := c_rest N hN hs ho hd ok hc6
  refine ⟨μ7, ?_, ⟨?_, fun k hk => ?_, fun k hk => ?_, fun k hk => ?_, fun k hk => ?_, fun k hk => ?_⟩, fun a j ha => ?_, ?_⟩
  · unfold f_X8_begin
    rw [z_ko_ok hs.1, z_ko_ok ho, z_bd_eq, e2, z_bn_sm, e3, z_bn_sm, e4, z_bn_sm, e5, z_bn_sm, ecnt, cpin_nI (by omega) (by omega) (by omega), z_bd_eq, nI_toNat (by omega), show (0 : Int32).toNatClampNeg = 0 from rfl, e7, z_bn_sm]
  · rw [g7, if_neg (by omega), out6 _ _ (by omega), g5, if_neg (by omega), g4, if_neg (by omega), g3, if_neg (by omega), g2, if_neg (by omega), sI_1, if_pos ⟨rfl, rfl⟩]; rfl
  · rw [g7, if_pos ⟨rfl, hk⟩]
  · rw [g7, if_neg (by omega), cpS_1]
    show _ = nI (if k < hCnt h 1 then hStock h k else 0)
    by_cases hj : k < hCnt h 1
    · rw [if_pos ⟨rfl, by omega, by omega⟩, if_pos hj, Nat.zero_add, Nat.sub_zero]
      exact hc5.2.2.2.2.2.2.1 k hj
    · rw [if_neg (by omega), if_neg hj, g5, if_neg (by omega), g4, if_neg (by omega), g3, if_neg (by omega), g2, if_pos ⟨rfl, hk⟩]; rfl
  · rw [g7, if_neg (by omega), out6 _ _ (by omega), g5, if_neg (by omega), g4, if_neg (by omega), g3, if_pos ⟨rfl, hk⟩]; rfl
  · rw [g7, if_neg (by omega), out6 _ _ (by omega), g5, if_neg (by omega), g4, if_pos ⟨rfl, hk⟩]; rfl
  · rw [g7, if_neg (by omega), out6 _ _ (by omega), g5, if_pos ⟨rfl, hk⟩]; rfl
  · rw [g7, if_neg (by omega), out6 _ _ (by omega), out5 _ _ ha]
  · rw [f7, cpS_2, f5, f4, f3, f2]; rfl
/-! on: the state that a row of bytes tells -/
def tN (h : aH) (t : Nat → Nat) : aN := (256 * t 0 + t 1, (fun k => if k < hCnt h 2 then t (2 + k) else 0), (fun k => if k < hCnt h 1 then t (2 + hCnt h 2 + k) else 0), (fun k => if k < hCnt h 0 then t (2 + hCnt h 2 + hCnt h 1 + 3 * k) else 0), (fun k => if k < hCnt h 0 then t (2 + hCnt h 2 + hCnt h 1 + 3 * k + 1) else 0), (fun k => if k < hCnt h 0 then t (2 + hCnt h 2 + hCnt h 1 + 3 * k + 2) else 0))
theorem c_ld1 (N : Nat) {t : Nat → Nat} {n : Nat} (hn : n ≤ 3) (e : Int32 → z_S → Option (Unit × z_S)) : ∀ m k μ, k ≤ n → n - k < m → (∀ j, μ.1 2 j = nI (t j)) → μ.1 (z_hn μ.2.2.1 + 1) 2 = nI n → ∃ μ2, f_X11_loadScratch_L30 N e m (nI (2 + k)) (nI k) μ = e (nI (2 + n)) μ2 ∧ μ2.2 = μ.2 ∧ ∀ a j, μ2.1 a j = if a = 46 ∧ k ≤ j ∧ j < n then nI (t (2 + j)) else μ.1 a j := by
  intro m
  induction m with
  | zero => intro k μ h1 h2; omega
  | succ m ih =>
    intro k μ h1 h2 ht hcn
    show ∃ μ2, b_X11_loadScratch_L30 N (f_X11_loadScratch_L30 N e m) e (nI (2 + k)) (nI k) μ = _ ∧ _
    unfold b_X11_loadScratch_L30
    rw [hcn]
    by_cases hlt : k < n
    · have ek : nI k + 1 = nI (k + 1) := nI_1 k
      have ek2 : nI (2 + k) + 1 = nI (2 + (k + 1)) := nI_1 (2 + k)
      rw [if_pos (nI_lt hlt (by omega)), z_bd_eq, z_in_nI (show 2 + k < 1600 by omega) (by decide), z_in_nI (show k < 3 by omega) (by decide), z_bd_eq, z_bd_eq, ek, ek2, nI_toNat (by omega), nI_toNat (by omega), ht]
      have hz := z_hn_lt μ.2.2.1
      obtain ⟨μ2, g1, g2, g3⟩ := ih (k + 1) (z_setI μ 46 k (nI (t (2 + k)))) (by omega) (by omega) (fun j => by rw [sI_1, if_neg (by omega)]; exact ht j) (by rw [sI_22, sI_1, if_neg (by omega)]; exact hcn)
      refine ⟨μ2, g1, g2, fun a j => ?_⟩
      rw [g3, sI_1]
      by_cases ha : a = 46
      · by_cases hj : j = k
        · rw [if_neg (by omega), if_pos ⟨ha, hj⟩, if_pos ⟨ha, by omega, by omega⟩, hj]
        · rw [if_neg (c := a = 46 ∧ j = k) (by omega)]
          by_cases hl : k ≤ j ∧ j < n
          · rw [if_pos ⟨ha, by omega, by omega⟩, if_pos ⟨ha, hl⟩]
          · rw [if_neg (by omega), if_neg (by omega)]
      · rw [if_neg (fun q => ha q.1), if_neg (fun q => ha q.1), if_neg (fun q => ha q.1)]
    · have : k = n := by omega
      subst this
      rw [if_neg (nI_nlt (Nat.le_refl _) (by omega))]
      exact ⟨μ, rfl, rfl, fun a j => by rw [if_neg (by omega)]⟩
theorem c_ld2 (N : Nat) {t : Nat → Nat} {n b : Nat} (hn : n ≤ 4) (hb : b ≤ 10) (e : Int32 → z_S → Option (Unit × z_S)) : ∀ m k μ, k ≤ n → n - k < m → (∀ j, μ.1 2 j = nI (t j)) → μ.1 (z_hn μ.2.2.1 + 1) 1 = nI n → ∃ μ2, f_X11_loadScratch_L72 N e m (nI (b + k)) (nI k) μ = e (nI (b + n)) μ2 ∧ μ2.2 = μ.2 ∧ ∀ a j, μ2.1 a j = if a = 47 ∧ k ≤ j ∧ j < n then nI (t (b + j)) else μ.1 a j := by
  intro m
  induction m with
  | zero => intro k μ h1 h2; omega
  | succ m ih =>
    intro k μ h1 h2 ht hcn
    show ∃ μ2, b_X11_loadScratch_L72 N (f_X11_loadScratch_L72 N e m) e (nI (b + k)) (nI k) μ = _ ∧ _
    unfold b_X11_loadScratch_L72
    rw [hcn]
    by_cases hlt : k < n
    · have ek : nI k + 1 = nI (k + 1) := nI_1 k
      have ek2 : nI (b + k) + 1 = nI (b + (k + 1)) := nI_1 (b + k)
      rw [if_pos (nI_lt hlt (by omega)), z_bd_eq, z_in_nI (show b + k < 1600 by omega) (by decide), z_in_nI (show k < 4 by omega) (by decide), z_bd_eq, z_bd_eq, ek, ek2, nI_toNat (by omega), nI_toNat (by omega), ht]
      have hz := z_hn_lt μ.2.2.1
      obtain ⟨μ2, g1, g2, g3⟩ := ih (k + 1) (z_setI μ 47 k (nI (t (b + k)))) (by omega) (by omega) (fun j => by rw [sI_1, if_neg (by omega)]; exact ht j) (by rw [sI_22, sI_1, if_neg (by omega)]; exact hcn)
      refine ⟨μ2, g1, g2, fun a j => ?_⟩
      rw [g3, sI_1]
      by_cases ha : a = 47
      · by_cases hj : j = k
        · rw [if_neg (by omega), if_pos ⟨ha, hj⟩, if_pos ⟨ha, by omega, by omega⟩, hj]
        · rw [if_neg (c := a = 47 ∧ j = k) (by omega)]
          by_cases hl : k ≤ j ∧ j < n
          · rw [if_pos ⟨ha, by omega, by omega⟩, if_pos ⟨ha, hl⟩]
          · rw [if_neg (by omega), if_neg (by omega)]
      · rw [if_neg (fun q => ha q.1), if_neg (fun q => ha q.1), if_neg (fun q => ha q.1)]
    · have : k = n := by omega
      subst this
      rw [if_neg (nI_nlt (Nat.le_refl _) (by omega))]
      exact ⟨μ, rfl, rfl, fun a j => by rw [if_neg (by omega)]⟩
theorem c_ld3 (N : Nat) {t : Nat → Nat} {n b : Nat} (hn : n ≤ 8) (hb : b ≤ 10) : ∀ m k μ, k ≤ n → n - k < m → (∀ j, μ.1 2 j = nI (t j)) → μ.1 (z_hn μ.2.2.1 + 1) 0 = nI n → ∃ μ2, f_X11_loadScratch_L114 N m (nI (b + 3 * k)) (nI k) μ = some ((), μ2) ∧ μ2.2 = μ.2 ∧ (∀ a j, a < 48 ∨ 50 < a → μ2.1 a j = μ.1 a j) ∧ ∀ j, (if k ≤ j ∧ j < n then μ2.1 48 j = nI (t (b + 3 * j)) - 1 ∧ μ2.1 49 j = nI (t (b + 3 * j + 1)) ∧ μ2.1 50 j = nI (t (b + 3 * j + 2)) - 1 else μ2.1 48 j = μ.1 48 j ∧ μ2.1 49 j = μ.1 49 j ∧ μ2.1 50 j = μ.1 50 j) := by
  intro m
  induction m with
  | zero => intro k μ h1 h2; omega
  | succ m ih =>
    intro k μ h1 h2 ht hcn
    show ∃ μ2, b_X11_loadScratch_L114 N (f_X11_loadScratch_L114 N m) (nI (b + 3 * k)) (nI k) μ = _ ∧ _
    unfold b_X11_loadScratch_L114
    rw [hcn]
    by_cases hlt : k < n
    · have ek : nI k + 1 = nI (k + 1) := nI_1 k
      have ek2 : nI (b + 3 * k) + 1 = nI (b + 3 * k + 1) := nI_1 _
      have ek3 : nI (b + 3 * k + 1) + 1 = nI (b + 3 * k + 2) := nI_1 _
      have ek4 : nI (b + 3 * k + 2) + 1 = nI (b + 3 * (k + 1)) := nI_1 _
      rw [if_pos (nI_lt hlt (by omega))]
      simp only [z_bd_eq]
      rw [ek, ek2, ek3, ek4, z_in_nI (show b + 3 * k < 1600 by omega) (by decide), z_in_nI (show b + 3 * k + 1 < 1600 by omega) (by decide), z_in_nI (show b + 3 * k + 2 < 1600 by omega) (by decide), z_in_nI (show k < 8 by omega) (by decide), z_in_nI (show k < 8 by omega) (by decide), z_in_nI (show k < 8 by omega) (by decide), nI_toNat (show b + 3 * k < 2 ^ 31 by omega), nI_toNat (show b + 3 * k + 1 < 2 ^ 31 by omega), nI_toNat (show b + 3 * k + 2 < 2 ^ 31 by omega), nI_toNat (show k < 2 ^ 31 by omega), ht]
      have t1 : (z_setI μ 48 k (nI (t (b + 3 * k)) - 1)).1 2 (b + 3 * k + 1) = nI (t (b + 3 * k + 1)) := by rw [sI_1, if_neg (by omega)]; exact ht _
      rw [t1]
      have t2 : (z_setI (z_setI μ 48 k (nI (t (b + 3 * k)) - 1)) 49 k (nI (t (b + 3 * k + 1)))).1 2 (b + 3 * k + 2) = nI (t (b + 3 * k + 2)) := by rw [sI_1, if_neg (by omega), sI_1, if_neg (by omega)]; exact ht _
      rw [t2]
      have hz := z_hn_lt μ.2.2.1
      generalize hμ3 : z_setI (z_setI (z_setI μ 48 k (nI (t (b + 3 * k)) - 1)) 49 k (nI (t (b + 3 * k + 1)))) 50 k (nI (t (b + 3 * k + 2)) - 1) = μ3
      have out : ∀ a j, a < 48 ∨ 50 < a → μ3.1 a j = μ.1 a j := fun a j ha => by rw [← hμ3, sI_1, if_neg (by omega), sI_1, if_neg (by omega), sI_1, if_neg (by omega)]
      have oth : ∀ j, j ≠ k → μ3.1 48 j = μ.1 48 j ∧ μ3.1 49 j = μ.1 49 j ∧ μ3.1 50 j = μ.1 50 j := fun j hj => by
        rw [← hμ3]
        refine ⟨?_, ?_, ?_⟩ <;> rw [sI_1, if_neg (by omega), sI_1, if_neg (by omega), sI_1, if_neg (by omega)]
      have own : μ3.1 48 k = nI (t (b + 3 * k)) - 1 ∧ μ3.1 49 k = nI (t (b + 3 * k + 1)) ∧ μ3.1 50 k = nI (t (b + 3 * k + 2)) - 1 := by
        rw [← hμ3]
        refine ⟨?_, ?_, ?_⟩
        · rw [sI_1, if_neg (by omega), sI_1, if_neg (by omega), sI_1, if_pos ⟨rfl, rfl⟩]
        · rw [sI_1, if_neg (by omega), sI_1, if_pos ⟨rfl, rfl⟩]
        · rw [sI_1, if_pos ⟨rfl, rfl⟩]
      have hb2 : μ3.2 = μ.2 := by rw [← hμ3]; rfl
      obtain ⟨μ2, g1, g2, g3, g4⟩ := ih (k + 1) μ3 (by omega) (by omega) (fun j => by rw [out _ _ (by omega)]; exact ht j) (by rw [hb2, out _ _ (by omega)]; exact hcn)
      refine ⟨μ2, g1, g2.trans hb2, fun a j ha => (g3 a j ha).trans (out a j ha), fun j => ?_⟩
      have g5 := g4 j
      by_cases hj : j = k
      · rw [if_neg (by omega)] at g5
        rw [if_pos (by omega), g5.1, g5.2.1, g5.2.2, hj]
        exact own
      · by_cases hl : k ≤ j ∧ j < n
        · rw [if_pos (by omega)] at g5
          rw [if_pos hl]
          exact g5
        · rw [if_neg (by omega)] at g5
          rw [if_neg hl, g5.1, g5.2.1, g5.2.2]
          exact oth j hj
    · have : k = n := by omega
      subst this
      rw [if_neg (nI_nlt (Nat.le_refl _) (by omega))]
      exact ⟨μ, rfl, rfl, fun a j _ => rfl, fun j => by rw [if_neg (by omega)]; exact ⟨rfl, rfl, rfl⟩⟩
