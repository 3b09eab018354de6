/-! the reference's rows: emptied, copied -/
theorem hp_45 (N : Nat) (e : z_S → Option (Int32 × z_S)) : ∀ f k ν, k ≤ 5 → 5 - k < f → ∃ ν', f_X12_heap_L45 N e f (nI k) ν = e ν' ∧ ν'.2 = ν.2 ∧ ∀ a j, ν'.1 a j = if a = 284 ∧ k ≤ j ∧ j < 5 then 0 else ν.1 a j := by
  intro f
  induction f with
  | zero => intro k ν _ h; omega
  | succ f ih =>
    intro k ν h1 h2
    show ∃ ν', b_X12_heap_L45 N _ e (nI k) ν = _ ∧ _
    unfold b_X12_heap_L45
    by_cases c : k < 5
    · rw [if_pos (show nI k < (5 : Int32) from nI_lt (b := 5) c (by decide)), z_in_nI (show k < 10 by omega) (by decide), nI_toNat (by omega), z_bd_eq, z_bd_eq, show nI k + 1 = nI (k + 1) from nI_1 _]
      obtain ⟨ν', r1, r2, r3⟩ := ih (k + 1) (z_setI ν 284 k 0) (by omega) (by omega)
      refine ⟨ν', r1, r2, fun a j => ?_⟩
      rw [r3]
      by_cases d1 : a = 284 ∧ k + 1 ≤ j ∧ j < 5
      · rw [if_pos d1, if_pos (by omega)]
      · rw [if_neg d1, sI_1]
        by_cases d2 : a = 284 ∧ j = k
        · rw [if_pos d2, if_pos (by omega)]
        · rw [if_neg d2, if_neg (by omega)]
    · rw [if_neg (show ¬ nI k < (5 : Int32) from nI_nlt (b := 5) (by omega) (by omega))]
      exact ⟨ν, rfl, rfl, fun a j => by rw [if_neg (by omega)]⟩
theorem hp_65 (N : Nat) (e : z_S → Option (Int32 × z_S)) : ∀ f k ν, k ≤ 32 → 32 - k < f → ∃ ν', f_X12_heap_L65 N e f (nI k) ν = e ν' ∧ ν'.2 = ν.2 ∧ ∀ a j, ν'.1 a j = if a = 288 ∧ k ≤ j ∧ j < 32 then 0 else ν.1 a j := by
  intro f
  induction f with
  | zero => intro k ν _ h; omega
  | succ f ih =>
    intro k ν h1 h2
    show ∃ ν', b_X12_heap_L65 N _ e (nI k) ν = _ ∧ _
    unfold b_X12_heap_L65
    by_cases c : k < 32
    · rw [if_pos (show nI k < (32 : Int32) from nI_lt (b := 32) c (by decide)), z_in_nI (show k < 64 by omega) (by decide), nI_toNat (by omega), z_bd_eq, z_bd_eq, show nI k + 1 = nI (k + 1) from nI_1 _]
      obtain ⟨ν', r1, r2, r3⟩ := ih (k + 1) (z_setI ν 288 k 0) (by omega) (by omega)
      refine ⟨ν', r1, r2, fun a j => ?_⟩
      rw [r3]
      by_cases d1 : a = 288 ∧ k + 1 ≤ j ∧ j < 32
      · rw [if_pos d1, if_pos (by omega)]
      · rw [if_neg d1, sI_1]
        by_cases d2 : a = 288 ∧ j = k
        · rw [if_pos d2, if_pos (by omega)]
        · rw [if_neg d2, if_neg (by omega)]
    · rw [if_neg (show ¬ nI k < (32 : Int32) from nI_nlt (b := 32) (by omega) (by omega))]
      exact ⟨ν, rfl, rfl, fun a j => by rw [if_neg (by omega)]⟩
theorem hp_86 (N : Nat) (e : z_S → Option (Int32 × z_S)) : ∀ f k ν, k ≤ 8 → 8 - k < f → ∃ ν', f_X12_heap_L86 N e f (nI k) ν = e ν' ∧ ν'.2 = ν.2 ∧ ∀ a j, ν'.1 a j = if a = 289 ∧ k ≤ j ∧ j < 8 then 0 else ν.1 a j := by
  intro f
  induction f with
  | zero => intro k ν _ h; omega
  | succ f ih =>
    intro k ν h1 h2
    show ∃ ν', b_X12_heap_L86 N _ e (nI k) ν = _ ∧ _
    unfold b_X12_heap_L86
    by_cases c : k < 8
    · rw [if_pos (show nI k < (8 : Int32) from nI_lt (b := 8) c (by decide)), z_in_nI (show k < 16 by omega) (by decide), nI_toNat (by omega), z_bd_eq, z_bd_eq, show nI k + 1 = nI (k + 1) from nI_1 _]
      obtain ⟨ν', r1, r2, r3⟩ := ih (k + 1) (z_setI ν 289 k 0) (by omega) (by omega)
      refine ⟨ν', r1, r2, fun a j => ?_⟩
      rw [r3]
      by_cases d1 : a = 289 ∧ k + 1 ≤ j ∧ j < 8
      · rw [if_pos d1, if_pos (by omega)]
      · rw [if_neg d1, sI_1]
        by_cases d2 : a = 289 ∧ j = k
        · rw [if_pos d2, if_pos (by omega)]
        · rw [if_neg d2, if_neg (by omega)]
    · rw [if_neg (show ¬ nI k < (8 : Int32) from nI_nlt (b := 8) (by omega) (by omega))]
      exact ⟨ν, rfl, rfl, fun a j => by rw [if_neg (by omega)]⟩
theorem hp_107 (N : Nat) (e : z_S → Option (Int32 × z_S)) : ∀ f k ν, k ≤ 64 → 64 - k < f → ∃ ν', f_X12_heap_L107 N e f (nI k) ν = e ν' ∧ ν'.2 = ν.2 ∧ ∀ a j, ν'.1 a j = if a = 290 ∧ k ≤ j ∧ j < 64 then 0 else ν.1 a j := by
  intro f
  induction f with
  | zero => intro k ν _ h; omega
  | succ f ih =>
    intro k ν h1 h2
    show ∃ ν', b_X12_heap_L107 N _ e (nI k) ν = _ ∧ _
    unfold b_X12_heap_L107
    by_cases c : k < 64
    · rw [if_pos (show nI k < (64 : Int32) from nI_lt (b := 64) c (by decide)), z_in_nI (show k < 128 by omega) (by decide), nI_toNat (by omega), z_bd_eq, z_bd_eq, show nI k + 1 = nI (k + 1) from nI_1 _]
      obtain ⟨ν', r1, r2, r3⟩ := ih (k + 1) (z_setI ν 290 k 0) (by omega) (by omega)
      refine ⟨ν', r1, r2, fun a j => ?_⟩
      rw [r3]
      by_cases d1 : a = 290 ∧ k + 1 ≤ j ∧ j < 64
      · rw [if_pos d1, if_pos (by omega)]
      · rw [if_neg d1, sI_1]
        by_cases d2 : a = 290 ∧ j = k
        · rw [if_pos d2, if_pos (by omega)]
        · rw [if_neg d2, if_neg (by omega)]
    · rw [if_neg (show ¬ nI k < (64 : Int32) from nI_nlt (b := 64) (by omega) (by omega))]
      exact ⟨ν, rfl, rfl, fun a j => by rw [if_neg (by omega)]⟩
theorem sd_303 (N : Nat) (e : z_S → Option (Unit × z_S)) : ∀ f k ν, k ≤ 32 → 32 - k < f → ∃ ν', f_X12_stands_L303 N e f (nI k) ν = e ν' ∧ ν'.2 = ν.2 ∧ ∀ a j, ν'.1 a j = if a = 296 ∧ k ≤ j ∧ j < 32 then 0 else ν.1 a j := by
  intro f
  induction f with
  | zero => intro k ν _ h; omega
  | succ f ih =>
    intro k ν h1 h2
    show ∃ ν', b_X12_stands_L303 N _ e (nI k) ν = _ ∧ _
    unfold b_X12_stands_L303
    by_cases c : k < 32
    · rw [if_pos (show nI k < (32 : Int32) from nI_lt (b := 32) c (by decide)), z_in_nI (show k < 32 by omega) (by decide), nI_toNat (by omega), z_bd_eq, z_bd_eq, show nI k + 1 = nI (k + 1) from nI_1 _]
      obtain ⟨ν', r1, r2, r3⟩ := ih (k + 1) (z_setI ν 296 k 0) (by omega) (by omega)
      refine ⟨ν', r1, r2, fun a j => ?_⟩
      rw [r3]
      by_cases d1 : a = 296 ∧ k + 1 ≤ j ∧ j < 32
      · rw [if_pos d1, if_pos (by omega)]
      · rw [if_neg d1, sI_1]
        by_cases d2 : a = 296 ∧ j = k
        · rw [if_pos d2, if_pos (by omega)]
        · rw [if_neg d2, if_neg (by omega)]
    · rw [if_neg (show ¬ nI k < (32 : Int32) from nI_nlt (b := 32) (by omega) (by omega))]
      exact ⟨ν, rfl, rfl, fun a j => by rw [if_neg (by omega)]⟩
theorem sd_2 (N : Nat) (e : z_S → Option (Unit × z_S)) : ∀ f k ν, k ≤ 5 → 5 - k < f → ∃ ν', f_X12_stands_L2 N e f (nI k) ν = e ν' ∧ ν'.2 = ν.2 ∧ ∀ a j, ν'.1 a j = if a = 284 ∧ 5 + k ≤ j ∧ j < 10 then ν.1 284 (j - 5) else ν.1 a j := by
  intro f
  induction f with
  | zero => intro k ν _ h; omega
  | succ f ih =>
    intro k ν h1 h2
    show ∃ ν', b_X12_stands_L2 N _ e (nI k) ν = _ ∧ _
    unfold b_X12_stands_L2
    by_cases c : k < 5
    · rw [if_pos (show nI k < (5 : Int32) from nI_lt (b := 5) c (by decide)), z_in_nI (show k < 10 by omega) (by decide), show (5 : Int32) + nI k = nI (5 + k) from nI_add _ _, z_in_nI (show 5 + k < 10 by omega) (by decide), nI_toNat (show k < 2 ^ 31 by omega), nI_toNat (show 5 + k < 2 ^ 31 by omega), z_bd_eq, z_bd_eq, show nI k + 1 = nI (k + 1) from nI_1 _]
      obtain ⟨ν', r1, r2, r3⟩ := ih (k + 1) (z_setI ν 284 (5 + k) (ν.1 284 k)) (by omega) (by omega)
      refine ⟨ν', r1, r2, fun a j => ?_⟩
      rw [r3]
      by_cases d1 : a = 284 ∧ 5 + (k + 1) ≤ j ∧ j < 10
      · rw [if_pos d1, if_pos (by omega), sI_1, if_neg (by omega)]
      · rw [if_neg d1, sI_1]
        by_cases d2 : a = 284 ∧ j = 5 + k
        · rw [if_pos d2, if_pos (by omega), show j - 5 = k by omega]
        · rw [if_neg d2, if_neg (by omega)]
    · rw [if_neg (show ¬ nI k < (5 : Int32) from nI_nlt (b := 5) (by omega) (by omega))]
      exact ⟨ν, rfl, rfl, fun a j => by rw [if_neg (by omega)]⟩
theorem sd_73 (N : Nat) (e : z_S → Option (Unit × z_S)) : ∀ f k ν, k ≤ 4 → 4 - k < f → ∃ ν', f_X12_stands_L73 N e f (nI k) ν = e ν' ∧ ν'.2 = ν.2 ∧ ∀ a j, ν'.1 a j = if a = 287 ∧ 4 + k ≤ j ∧ j < 8 then ν.1 287 (j - 4) else ν.1 a j := by
  intro f
  induction f with
  | zero => intro k ν _ h; omega
  | succ f ih =>
    intro k ν h1 h2
    show ∃ ν', b_X12_stands_L73 N _ e (nI k) ν = _ ∧ _
    unfold b_X12_stands_L73
    by_cases c : k < 4
    · rw [if_pos (show nI k < (4 : Int32) from nI_lt (b := 4) c (by decide)), z_in_nI (show k < 8 by omega) (by decide), show (4 : Int32) + nI k = nI (4 + k) from nI_add _ _, z_in_nI (show 4 + k < 8 by omega) (by decide), nI_toNat (show k < 2 ^ 31 by omega), nI_toNat (show 4 + k < 2 ^ 31 by omega), z_bd_eq, z_bd_eq, show nI k + 1 = nI (k + 1) from nI_1 _]
      obtain ⟨ν', r1, r2, r3⟩ := ih (k + 1) (z_setI ν 287 (4 + k) (ν.1 287 k)) (by omega) (by omega)
      refine ⟨ν', r1, r2, fun a j => ?_⟩
      rw [r3]
      by_cases d1 : a = 287 ∧ 4 + (k + 1) ≤ j ∧ j < 8
      · rw [if_pos d1, if_pos (by omega), sI_1, if_neg (by omega)]
      · rw [if_neg d1, sI_1]
        by_cases d2 : a = 287 ∧ j = 4 + k
        · rw [if_pos d2, if_pos (by omega), show j - 4 = k by omega]
        · rw [if_neg d2, if_neg (by omega)]
    · rw [if_neg (show ¬ nI k < (4 : Int32) from nI_nlt (b := 4) (by omega) (by omega))]
      exact ⟨ν, rfl, rfl, fun a j => by rw [if_neg (by omega)]⟩
theorem sd_100 (N : Nat) (e : z_S → Option (Unit × z_S)) : ∀ f k ν, k ≤ 32 → 32 - k < f → ∃ ν', f_X12_stands_L100 N e f (nI k) ν = e ν' ∧ ν'.2 = ν.2 ∧ ∀ a j, ν'.1 a j = if a = 288 ∧ 32 + k ≤ j ∧ j < 64 then ν.1 288 (j - 32) else ν.1 a j := by
  intro f
  induction f with
  | zero => intro k ν _ h; omega
  | succ f ih =>
    intro k ν h1 h2
    show ∃ ν', b_X12_stands_L100 N _ e (nI k) ν = _ ∧ _
    unfold b_X12_stands_L100
    by_cases c : k < 32
    · rw [if_pos (show nI k < (32 : Int32) from nI_lt (b := 32) c (by decide)), z_in_nI (show k < 64 by omega) (by decide), show (32 : Int32) + nI k = nI (32 + k) from nI_add _ _, z_in_nI (show 32 + k < 64 by omega) (by decide), nI_toNat (show k < 2 ^ 31 by omega), nI_toNat (show 32 + k < 2 ^ 31 by omega), z_bd_eq, z_bd_eq, show nI k + 1 = nI (k + 1) from nI_1 _]
      obtain ⟨ν', r1, r2, r3⟩ := ih (k + 1) (z_setI ν 288 (32 + k) (ν.1 288 k)) (by omega) (by omega)
      refine ⟨ν', r1, r2, fun a j => ?_⟩
      rw [r3]
      by_cases d1 : a = 288 ∧ 32 + (k + 1) ≤ j ∧ j < 64
      · rw [if_pos d1, if_pos (by omega), sI_1, if_neg (by omega)]
      · rw [if_neg d1, sI_1]
        by_cases d2 : a = 288 ∧ j = 32 + k
        · rw [if_pos d2, if_pos (by omega), show j - 32 = k by omega]
        · rw [if_neg d2, if_neg (by omega)]
    · rw [if_neg (show ¬ nI k < (32 : Int32) from nI_nlt (b := 32) (by omega) (by omega))]
      exact ⟨ν, rfl, rfl, fun a j => by rw [if_neg (by omega)]⟩
theorem sd_129 (N : Nat) (e : z_S → Option (Unit × z_S)) : ∀ f k ν, k ≤ 8 → 8 - k < f → ∃ ν', f_X12_stands_L129 N e f (nI k) ν = e ν' ∧ ν'.2 = ν.2 ∧ ∀ a j, ν'.1 a j = if a = 289 ∧ 8 + k ≤ j ∧ j < 16 then ν.1 289 (j - 8) else ν.1 a j := by
  intro f
  induction f with
  | zero => intro k ν _ h; omega
  | succ f ih =>
    intro k ν h1 h2
    show ∃ ν', b_X12_stands_L129 N _ e (nI k) ν = _ ∧ _
    unfold b_X12_stands_L129
    by_cases c : k < 8
    · rw [if_pos (show nI k < (8 : Int32) from nI_lt (b := 8) c (by decide)), z_in_nI (show k < 16 by omega) (by decide), show (8 : Int32) + nI k = nI (8 + k) from nI_add _ _, z_in_nI (show 8 + k < 16 by omega) (by decide), nI_toNat (show k < 2 ^ 31 by omega), nI_toNat (show 8 + k < 2 ^ 31 by omega), z_bd_eq, z_bd_eq, show nI k + 1 = nI (k + 1) from nI_1 _]
      obtain ⟨ν', r1, r2, r3⟩ := ih (k + 1) (z_setI ν 289 (8 + k) (ν.1 289 k)) (by omega) (by omega)
      refine ⟨ν', r1, r2, fun a j => ?_⟩
      rw [r3]
      by_cases d1 : a = 289 ∧ 8 + (k + 1) ≤ j ∧ j < 16
      · rw [if_pos d1, if_pos (by omega), sI_1, if_neg (by omega)]
      · rw [if_neg d1, sI_1]
        by_cases d2 : a = 289 ∧ j = 8 + k
        · rw [if_pos d2, if_pos (by omega), show j - 8 = k by omega]
        · rw [if_neg d2, if_neg (by omega)]
    · rw [if_neg (show ¬ nI k < (8 : Int32) from nI_nlt (b := 8) (by omega) (by omega))]
      exact ⟨ν, rfl, rfl, fun a j => by rw [if_neg (by omega)]⟩
theorem sd_158 (N : Nat) (e : z_S → Option (Unit × z_S)) : ∀ f k ν, k ≤ 64 → 64 - k < f → ∃ ν', f_X12_stands_L158 N e f (nI k) ν = e ν' ∧ ν'.2 = ν.2 ∧ ∀ a j, ν'.1 a j = if a = 290 ∧ 64 + k ≤ j ∧ j < 128 then ν.1 290 (j - 64) else ν.1 a j := by
  intro f
  induction f with
  | zero => intro k ν _ h; omega
  | succ f ih =>
    intro k ν h1 h2
    show ∃ ν', b_X12_stands_L158 N _ e (nI k) ν = _ ∧ _
    unfold b_X12_stands_L158
    by_cases c : k < 64
    · rw [if_pos (show nI k < (64 : Int32) from nI_lt (b := 64) c (by decide)), z_in_nI (show k < 128 by omega) (by decide), show (64 : Int32) + nI k = nI (64 + k) from nI_add _ _, z_in_nI (show 64 + k < 128 by omega) (by decide), nI_toNat (show k < 2 ^ 31 by omega), nI_toNat (show 64 + k < 2 ^ 31 by omega), z_bd_eq, z_bd_eq, show nI k + 1 = nI (k + 1) from nI_1 _]
      obtain ⟨ν', r1, r2, r3⟩ := ih (k + 1) (z_setI ν 290 (64 + k) (ν.1 290 k)) (by omega) (by omega)
      refine ⟨ν', r1, r2, fun a j => ?_⟩
      rw [r3]
      by_cases d1 : a = 290 ∧ 64 + (k + 1) ≤ j ∧ j < 128
      · rw [if_pos d1, if_pos (by omega), sI_1, if_neg (by omega)]
      · rw [if_neg d1, sI_1]
        by_cases d2 : a = 290 ∧ j = 64 + k
        · rw [if_pos d2, if_pos (by omega), show j - 64 = k by omega]
        · rw [if_neg d2, if_neg (by omega)]
    · rw [if_neg (show ¬ nI k < (64 : Int32) from nI_nlt (b := 64) (by omega) (by omega))]
      exact ⟨ν, rfl, rfl, fun a j => by rw [if_neg (by omega)]⟩
theorem sd_187 (N : Nat) (e : z_S → Option (Unit × z_S)) : ∀ f k ν, k ≤ 9 → 9 - k < f → ∃ ν', f_X12_stands_L187 N e f (nI k) ν = e ν' ∧ ν'.2 = ν.2 ∧ ∀ a j, ν'.1 a j = if a = 291 ∧ 9 + k ≤ j ∧ j < 18 then ν.1 291 (j - 9) else ν.1 a j := by
  intro f
  induction f with
  | zero => intro k ν _ h; omega
  | succ f ih =>
    intro k ν h1 h2
    show ∃ ν', b_X12_stands_L187 N _ e (nI k) ν = _ ∧ _
    unfold b_X12_stands_L187
    by_cases c : k < 9
    · rw [if_pos (show nI k < (9 : Int32) from nI_lt (b := 9) c (by decide)), z_in_nI (show k < 18 by omega) (by decide), show (9 : Int32) + nI k = nI (9 + k) from nI_add _ _, z_in_nI (show 9 + k < 18 by omega) (by decide), nI_toNat (show k < 2 ^ 31 by omega), nI_toNat (show 9 + k < 2 ^ 31 by omega), z_bd_eq, z_bd_eq, show nI k + 1 = nI (k + 1) from nI_1 _]
      obtain ⟨ν', r1, r2, r3⟩ := ih (k + 1) (z_setI ν 291 (9 + k) (ν.1 291 k)) (by omega) (by omega)
      refine ⟨ν', r1, r2, fun a j => ?_⟩
      rw [r3]
      by_cases d1 : a = 291 ∧ 9 + (k + 1) ≤ j ∧ j < 18
      · rw [if_pos d1, if_pos (by omega), sI_1, if_neg (by omega)]
      · rw [if_neg d1, sI_1]
        by_cases d2 : a = 291 ∧ j = 9 + k
        · rw [if_pos d2, if_pos (by omega), show j - 9 = k by omega]
        · rw [if_neg d2, if_neg (by omega)]
    · rw [if_neg (show ¬ nI k < (9 : Int32) from nI_nlt (b := 9) (by omega) (by omega))]
      exact ⟨ν, rfl, rfl, fun a j => by rw [if_neg (by omega)]⟩
theorem sd_29 (N : Nat) (e : z_S → Option (Unit × z_S)) : ∀ f k ν, k ≤ 24 → 24 - k < f → ∃ ν', f_X12_stands_L29 N e f (nI k) ν = e ν' ∧ ν'.2.2 = ν.2.2 ∧ (∀ a j, ν'.2.1 a j = if a = 285 ∧ 24 + k ≤ j ∧ j < 48 then ν.2.1 285 (j - 24) else ν.2.1 a j) ∧ ∀ a j, ν'.1 a j = if a = 286 ∧ 24 + k ≤ j ∧ j < 48 then ν.1 286 (j - 24) else ν.1 a j := by
  intro f
  induction f with
  | zero => intro k ν _ h; omega
  | succ f ih =>
    intro k ν h1 h2
    show ∃ ν', b_X12_stands_L29 N _ e (nI k) ν = _ ∧ _
    unfold b_X12_stands_L29
    by_cases c : k < 24
    · rw [if_pos (show nI k < (24 : Int32) from nI_lt (b := 24) c (by decide)), z_in_nI (show k < 48 by omega) (by decide), show (24 : Int32) + nI k = nI (24 + k) from nI_add _ _, z_in_nI (show 24 + k < 48 by omega) (by decide), z_bd_eq, z_in_nI (show k < 48 by omega) (by decide), z_in_nI (show 24 + k < 48 by omega) (by decide), nI_toNat (show k < 2 ^ 31 by omega), nI_toNat (show 24 + k < 2 ^ 31 by omega), z_bd_eq, z_bd_eq, show nI k + 1 = nI (k + 1) from nI_1 _, sJ_1]
      obtain ⟨ν', r1, r2, r3, r4⟩ := ih (k + 1) (z_setI (z_setJ ν 285 (24 + k) (ν.2.1 285 k)) 286 (24 + k) (ν.1 286 k)) (by omega) (by omega)
      refine ⟨ν', r1, r2, fun a j => ?_, fun a j => ?_⟩
      · rw [r3]
        by_cases d1 : a = 285 ∧ 24 + (k + 1) ≤ j ∧ j < 48
        · rw [if_pos d1, if_pos (by omega), sI_21, sJ_21, if_neg (by omega)]
        · rw [if_neg d1, sI_21, sJ_21]
          by_cases d2 : a = 285 ∧ j = 24 + k
          · rw [if_pos d2, if_pos (by omega), show j - 24 = k by omega]
          · rw [if_neg d2, if_neg (by omega)]
      · rw [r4]
        by_cases d1 : a = 286 ∧ 24 + (k + 1) ≤ j ∧ j < 48
        · rw [if_pos d1, if_pos (by omega), sI_1, if_neg (by omega), sJ_1]
        · rw [if_neg d1, sI_1]
          by_cases d2 : a = 286 ∧ j = 24 + k
          · rw [if_pos d2, if_pos (by omega), show j - 24 = k by omega]
          · rw [if_neg d2, if_neg (by omega), sJ_1]
    · rw [if_neg (show ¬ nI k < (24 : Int32) from nI_nlt (b := 24) (by omega) (by omega))]
      exact ⟨ν, rfl, rfl, fun a j => by rw [if_neg (by omega)], fun a j => by rw [if_neg (by omega)]⟩
theorem sd_216 (N : Nat) (e : z_S → Option (Unit × z_S)) : ∀ f k ν, k ≤ 2 → 2 - k < f → ∃ ν', f_X12_stands_L216 N e f (nI k) ν = e ν' ∧ ν'.2 = ν.2 ∧ ∀ a j, ν'.1 a j = if (a = 292 ∨ a = 293 ∨ a = 294) ∧ 2 + k ≤ j ∧ j < 4 then ν.1 a (j - 2) else ν.1 a j := by
  intro f
  induction f with
  | zero => intro k ν _ h; omega
  | succ f ih =>
    intro k ν h1 h2
    show ∃ ν', b_X12_stands_L216 N _ e (nI k) ν = _ ∧ _
    unfold b_X12_stands_L216
    by_cases c : k < 2
    · rw [if_pos (show nI k < (2 : Int32) from nI_lt (b := 2) c (by decide)), z_in_nI (show k < 4 by omega) (by decide), show (2 : Int32) + nI k = nI (2 + k) from nI_add _ _, z_in_nI (show 2 + k < 4 by omega) (by decide), z_bd_eq, z_in_nI (show k < 4 by omega) (by decide), z_in_nI (show 2 + k < 4 by omega) (by decide), z_bd_eq, z_in_nI (show k < 4 by omega) (by decide), z_in_nI (show 2 + k < 4 by omega) (by decide), nI_toNat (show k < 2 ^ 31 by omega), nI_toNat (show 2 + k < 2 ^ 31 by omega), z_bd_eq, z_bd_eq, show nI k + 1 = nI (k + 1) from nI_1 _, sI_1, if_neg (by omega), sI_1, if_neg (by omega), sI_1, if_neg (by omega)]
      obtain ⟨ν', r1, r2, r3⟩ := ih (k + 1) (z_setI (z_setI (z_setI ν 292 (2 + k) (ν.1 292 k)) 293 (2 + k) (ν.1 293 k)) 294 (2 + k) (ν.1 294 k)) (by omega) (by omega)
      refine ⟨ν', r1, r2, fun a j => ?_⟩
      rw [r3]
      by_cases d1 : (a = 292 ∨ a = 293 ∨ a = 294) ∧ 2 + (k + 1) ≤ j ∧ j < 4
      · rw [if_pos d1, if_pos (by omega), sI_1, if_neg (by omega), sI_1, if_neg (by omega), sI_1, if_neg (by omega)]
      · rw [if_neg d1, sI_1]
        by_cases d2 : a = 294 ∧ j = 2 + k
        · rw [if_pos d2, if_pos (by omega), d2.1, show j - 2 = k by omega]
        · rw [if_neg d2, sI_1]
          by_cases d3 : a = 293 ∧ j = 2 + k
          · rw [if_pos d3, if_pos (by omega), d3.1, show j - 2 = k by omega]
          · rw [if_neg d3, sI_1]
            by_cases d4 : a = 292 ∧ j = 2 + k
            · rw [if_pos d4, if_pos (by omega), d4.1, show j - 2 = k by omega]
            · rw [if_neg d4, if_neg (by omega)]
    · rw [if_neg (show ¬ nI k < (2 : Int32) from nI_nlt (b := 2) (by omega) (by omega))]
      exact ⟨ν, rfl, rfl, fun a j => by rw [if_neg (by omega)]⟩
theorem sd_271 (N : Nat) (e : z_S → Option (Unit × z_S)) {m : Nat} (hm : m ≤ 1600) : ∀ f k ν, k ≤ m → m - k < f → ν.1 253 51 = nI m → ∃ ν', f_X12_stands_L271 N e f (nI k) ν = e ν' ∧ ν'.2 = ν.2 ∧ ∀ a j, ν'.1 a j = if a = 295 ∧ 1600 + k ≤ j ∧ j < 1600 + m then ν.1 295 (j - 1600) else ν.1 a j := by
  intro f
  induction f with
  | zero => intro k ν _ h; omega
  | succ f ih =>
    intro k ν h1 h2 h51
    show ∃ ν', b_X12_stands_L271 N _ e (nI k) ν = _ ∧ _
    unfold b_X12_stands_L271
    rw [h51]
    by_cases c : k < m
    · rw [if_pos (nI_lt c (by omega)), z_in_nI (show k < 3200 by omega) (by decide), show (1600 : Int32) + nI k = nI (1600 + k) from nI_add _ _, z_in_nI (show 1600 + k < 3200 by omega) (by decide), nI_toNat (show k < 2 ^ 31 by omega), nI_toNat (show 1600 + k < 2 ^ 31 by omega), z_bd_eq, z_bd_eq, show nI k + 1 = nI (k + 1) from nI_1 _]
      obtain ⟨ν', r1, r2, r3⟩ := ih (k + 1) (z_setI ν 295 (1600 + k) (ν.1 295 k)) (by omega) (by omega) (by rw [sI_1, if_neg (by omega)]; exact h51)
      refine ⟨ν', r1, r2, fun a j => ?_⟩
      rw [r3]
      by_cases d1 : a = 295 ∧ 1600 + (k + 1) ≤ j ∧ j < 1600 + m
      · rw [if_pos d1, if_pos (by omega), sI_1, if_neg (by omega)]
      · rw [if_neg d1, sI_1]
        by_cases d2 : a = 295 ∧ j = 1600 + k
        · rw [if_pos d2, if_pos (by omega), show j - 1600 = k by omega]
        · rw [if_neg d2, if_neg (by omega)]
    · rw [if_neg (nI_nlt (by omega) (by omega))]
      exact ⟨ν, rfl, rfl, fun a j => by rw [if_neg (by omega)]⟩
theorem sd_328 (N : Nat) (e : z_S → Option (Unit × z_S)) {m : Nat} (hm : m ≤ 4) : ∀ f k ν, k ≤ m → m - k < f → ν.1 284 6 = nI m → ∃ ν', f_X12_stands_L328 N e f (nI k) ν = e ν' ∧ ν'.2 = ν.2 ∧ ∀ a j, ν'.1 a j = if a = 296 ∧ 4 + k ≤ j ∧ j < 4 + m then ν.1 287 j else ν.1 a j := by
  intro f
  induction f with
  | zero => intro k ν _ h; omega
  | succ f ih =>
    intro k ν h1 h2 h51
    show ∃ ν', b_X12_stands_L328 N _ e (nI k) ν = _ ∧ _
    unfold b_X12_stands_L328 f_X12_giftMany
    rw [z_bn_sm, h51]
    by_cases c : k < m
    · rw [if_pos (nI_lt c (by omega)), show (4 : Int32) + nI k = nI (4 + k) from nI_add _ _, z_in_nI (show 4 + k < 8 by omega) (by decide), z_in_nI (show 4 + k < 32 by omega) (by decide), nI_toNat (show 4 + k < 2 ^ 31 by omega), z_bd_eq, z_bd_eq, show nI k + 1 = nI (k + 1) from nI_1 _]
      obtain ⟨ν', r1, r2, r3⟩ := ih (k + 1) (z_setI ν 296 (4 + k) (ν.1 287 (4 + k))) (by omega) (by omega) (by rw [sI_1, if_neg (by omega)]; exact h51)
      refine ⟨ν', r1, r2, fun a j => ?_⟩
      rw [r3]
      by_cases d1 : a = 296 ∧ 4 + (k + 1) ≤ j ∧ j < 4 + m
      · rw [if_pos d1, if_pos (by omega), sI_1, if_neg (by omega)]
      · rw [if_neg d1, sI_1]
        by_cases d2 : a = 296 ∧ j = 4 + k
        · rw [if_pos d2, if_pos (by omega), d2.2]
        · rw [if_neg d2, if_neg (by omega)]
    · rw [if_neg (nI_nlt (by omega) (by omega))]
      exact ⟨ν, rfl, rfl, fun a j => by rw [if_neg (by omega)]⟩
