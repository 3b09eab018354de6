/-! like: one more pair -/
theorem cnt_one {h h' : aH} {l p : Nat} (e : ∀ i, i ≠ p → hOdds h' l i = hOdds h l i) : ∀ n, cntO h' l n ≤ cntO h l n + (if p < n then 1 else 0)
  | 0 => Nat.zero_le _
  | n + 1 => by
    have ih := cnt_one e n
    show cntO h' l n + (if hOdds h' l n = 0 then 0 else 1) ≤ cntO h l n + (if hOdds h l n = 0 then 0 else 1) + (if p < n + 1 then 1 else 0)
    by_cases c : n = p
    · subst c
      rw [if_neg (by omega)] at ih
      rw [if_pos (show n < n + 1 by omega)]
      have : (if hOdds h' l n = 0 then 0 else 1) ≤ 1 := by split <;> omega
      omega
    · rw [e n c]
      by_cases d : p < n
      · rw [if_pos d] at ih
        rw [if_pos (show p < n + 1 by omega)]
        omega
      · rw [if_neg d] at ih
        rw [if_neg (show ¬ p < n + 1 by omega)]
        omega
theorem cnt_eq {h h' : aH} {l : Nat} : ∀ n, (∀ i, i < n → hOdds h' l i = hOdds h l i) → cntO h' l n = cntO h l n
  | 0, _ => rfl
  | n + 1, e => by
    show cntO h' l n + (if hOdds h' l n = 0 then 0 else 1) = cntO h l n + (if hOdds h l n = 0 then 0 else 1)
    rw [cnt_eq n (fun i hi => e i (by omega)), e n (by omega)]
theorem sum_one {h : aH} {a b v : Nat} (hab : b < a) : ∀ n, sumO (hLk h a b v) n ≤ sumO h n + (if a < n then 1 else 0)
  | 0 => Nat.zero_le _
  | n + 1 => by
    have ih := sum_one (h := h) (v := v) hab n
    show sumO (hLk h a b v) n + cntO (hLk h a b v) n n ≤ sumO h n + cntO h n n + (if a < n + 1 then 1 else 0)
    have eo : ∀ i j, hOdds (hLk h a b v) i j = if (i = a ∧ j = b) ∨ (i = b ∧ j = a) then v + 1 else hOdds h i j := fun _ _ => rfl
    by_cases c : n = a
    · subst c
      rw [if_neg (by omega)] at ih
      rw [if_pos (show n < n + 1 by omega)]
      have := cnt_one (h := h) (h' := hLk h n b v) (l := n) (p := b) (fun i hi => by rw [eo, if_neg (by omega)]) n
      have q : (if b < n then 1 else 0) ≤ 1 := by split <;> omega
      omega
    · have := cnt_eq (h := h) (h' := hLk h a b v) (l := n) n (fun i hi => by rw [eo, if_neg (by omega)])
      rw [this]
      by_cases d : a < n
      · rw [if_pos d] at ih
        rw [if_pos (show a < n + 1 by omega)]
        omega
      · rw [if_neg d] at ih
        rw [if_neg (show ¬ a < n + 1 by omega)]
        omega
theorem hLk_sym (h : aH) (a b v : Nat) : hLk h a b v = hLk h b a v := by
  unfold hLk
  congr 1
  funext i j
  by_cases c : (i = a ∧ j = b) ∨ (i = b ∧ j = a)
  · rw [if_pos c, if_pos (by omega)]
  · rw [if_neg c, if_neg (by omega)]
theorem okH_lk {h : aH} (ok : okH h) {a b v : Nat} (hc : hCnt h 4 < 10) (ha : a < hCnt h 0) (hb : b < hCnt h 0) (hab : a ≠ b) (hv : v ≤ 10) : okH (hLk h a b v) := by
  have hs : sumO (hLk h a b v) 8 ≤ sumO h 8 + 1 := by
    rcases Nat.lt_or_gt_of_ne hab with y | y
    · rw [hLk_sym]
      have := sum_one (h := h) (v := v) y 8
      split at this <;> omega
    · have := sum_one (h := h) (v := v) y 8
      split at this <;> omega
  obtain ⟨p1, p2, p3, p4, p5, p6, p7, p8, p9, p10, p11, p12, p13, p14, ⟨p15, p15b⟩, p16, p17, p18, p19, p20, p21⟩ := ok
  refine ⟨p1, p2, p3, p4, show hCnt h 4 + 1 ≤ 10 by omega, fun k i hi => ?_, p7, p8, p9, p10, p11, p12, fun x y => ?_, fun x y => ?_, ⟨fun x => ?_, show sumO (hLk h a b v) 8 ≤ hCnt h 4 + 1 by omega⟩, fun x y z => ?_, p17, p18, p19, p20, p21⟩
  · show isNm (if k < 3 then hName h k i else [1])
    by_cases d : k < 3
    · rw [if_pos d]
      have hi' : i < (if k = 4 then hCnt h 4 + 1 else hCnt h k) := hi
      rw [if_neg (by omega)] at hi'
      exact p6 k i hi'
    · rw [if_neg d]
      exact nm_1
  · show (if (x = a ∧ y = b) ∨ (x = b ∧ y = a) then v + 1 else hOdds h x y) ≤ 11
    split
    · omega
    · exact p13 x y
  · show (if (x = a ∧ y = b) ∨ (x = b ∧ y = a) then v + 1 else hOdds h x y) = (if (y = a ∧ x = b) ∨ (y = b ∧ x = a) then v + 1 else hOdds h y x)
    by_cases c : (x = a ∧ y = b) ∨ (x = b ∧ y = a)
    · rw [if_pos c, if_pos (by omega)]
    · rw [if_neg c, if_neg (by omega), p14]
  · show (if (x = a ∧ x = b) ∨ (x = b ∧ x = a) then v + 1 else hOdds h x x) = 0
    rw [if_neg (by omega)]
    exact p15 x
  · show (if (x = a ∧ y = b) ∨ (x = b ∧ y = a) then v + 1 else hOdds h x y) = 0
    have z' : hCnt h 0 ≤ x := z
    rw [if_neg (by omega)]
    exact p16 x y z'
