/-! rows as numbers of four figures -/
def codN (r : Nat → Nat) : Nat → Nat
  | 0 => 0
  | n + 1 => 4 * codN r n + r n
/-- next row: the last place k where a figure can be one more -/
theorem cod_le {f r s : Nat → Nat} : ∀ n, (∀ l, l < n → r l = f l) → (∀ l, l < n → s l ≤ f l) → codN s n ≤ codN r n
  | 0, _, _ => Nat.le_refl 0
  | n + 1, h1, h2 => by
    have h := cod_le n (fun l hl => h1 l (by omega)) (fun l hl => h2 l (by omega))
    show 4 * codN s n + s n ≤ 4 * codN r n + r n
    have := h1 n (by omega)
    have := h2 n (by omega)
    omega
theorem cod_same {r s : Nat → Nat} : ∀ n, (∀ l, l < n → r l = s l) → codN r n = codN s n
  | 0, _ => rfl
  | n + 1, h => by
    show 4 * codN r n + r n = 4 * codN s n + s n
    rw [cod_same n (fun l hl => h l (by omega)), h n (by omega)]
theorem cod_next {f r r' : Nat → Nat} {k : Nat} (h1 : ∀ l, l < k → r' l = r l) (h2 : r' k = r k + 1) : ∀ n, k < n → (∀ l, k < l → l < n → r l = f l ∧ r' l = 0 ∧ f l ≤ 3) → codN r n < codN r' n ∧ ∀ s, (∀ l, l < n → s l ≤ f l) → codN r n < codN s n → codN r' n ≤ codN s n
  | 0, hk, _ => by omega
  | n + 1, hk, h3 => by
    by_cases e : k = n
    · subst e
      have c : codN r' k = codN r k := cod_same k h1
      refine ⟨?_, fun s hs hlt => ?_⟩
      · show 4 * codN r k + r k < 4 * codN r' k + r' k
        omega
      · show 4 * codN r' k + r' k ≤ codN s (k + 1)
        have hlt' : 4 * codN r k + r k < codN s (k + 1) := hlt
        omega
    · obtain ⟨i1, i2⟩ := cod_next h1 h2 n (by omega) (fun l q1 q2 => h3 l q1 (by omega))
      obtain ⟨z1, z2, z3⟩ := h3 n (by omega) (by omega)
      refine ⟨?_, fun s hs hlt => ?_⟩
      · show 4 * codN r n + r n < 4 * codN r' n + r' n
        omega
      · have hlt' : 4 * codN r n + r n < 4 * codN s n + s n := hlt
        have hsn := hs n (by omega)
        have := i2 s (fun l hl => hs l (by omega)) (by omega)
        show 4 * codN r' n + r' n ≤ 4 * codN s n + s n
        omega
theorem cod_inj {r s : Nat → Nat} : ∀ n, (∀ l, l < n → r l ≤ 3) → (∀ l, l < n → s l ≤ 3) → codN r n = codN s n → ∀ l, l < n → r l = s l
  | 0, _, _, _, l, hl => by omega
  | n + 1, h1, h2, h, l, hl => by
    have h' : 4 * codN r n + r n = 4 * codN s n + s n := h
    have a := h1 n (by omega)
    have b := h2 n (by omega)
    by_cases e : l = n
    · rw [e]; omega
    · exact cod_inj n (fun l hl => h1 l (by omega)) (fun l hl => h2 l (by omega)) (by omega) l (by omega)
theorem cod_lt {r : Nat → Nat} : ∀ n, (∀ l, l < n → r l ≤ 3) → codN r n < 4 ^ n
  | 0, _ => Nat.zero_lt_one
  | n + 1, h => by
    have h1 := cod_lt n (fun l hl => h l (by omega))
    have h2 := h n (by omega)
    show 4 * codN r n + r n < 4 ^ (n + 1)
    rw [Nat.pow_succ]
    omega
theorem codN_8 (r : Nat → Nat) : codN r 8 = 4 * (4 * (4 * (4 * (4 * (4 * (4 * r 0 + r 1) + r 2) + r 3) + r 4) + r 5) + r 6) + r 7 := by
  show 4 * (4 * (4 * (4 * (4 * (4 * (4 * (4 * 0 + r 0) + r 1) + r 2) + r 3) + r 4) + r 5) + r 6) + r 7 = _
  omega
/-! what a row of answers is worth -/
def wrmR (W : Nat → Nat → Int) (r : Nat → Nat) (n : Nat) : Int := sumC (fun l => if 0 < r l then W l (r l - 1) else 0) n
def p4 (l : Nat) : Int := if l = 0 then 16384 else if l = 1 then 4096 else if l = 2 then 1024 else if l = 3 then 256 else if l = 4 then 64 else if l = 5 then 16 else if l = 6 then 4 else 1
def worV (W : Nat → Nat → Int) (l i : Nat) : Int := (268435456 + W l i) * 65536 - (i + 1 : Int) * p4 l
def valR (W : Nat → Nat → Int) (r : Nat → Nat) : Int := (cntP r 8 : Int) * 17592186044416 + wrmR W r 8 * 65536 - (codN r 8 : Int)
theorem valR_sum (W : Nat → Nat → Int) (r : Nat → Nat) : sumC (fun l => if 0 < r l then worV W l (r l - 1) else 0) 8 = valR W r := by
  have key : ∀ n, sumC (fun l => if 0 < r l then worV W l (r l - 1) else 0) n = (cntP r n : Int) * 17592186044416 + wrmR W r n * 65536 - sumC (fun l => (r l : Int) * p4 l) n := by
    intro n
    induction n with
    | zero =>
      show (0 : Int) = ((0 : Nat) : Int) * 17592186044416 + 0 * 65536 - 0
      omega
    | succ n ih =>
      have e1 : wrmR W r (n + 1) = wrmR W r n + (if 0 < r n then W n (r n - 1) else 0) := rfl
      show sumC _ n + (if 0 < r n then worV W n (r n - 1) else 0) = ((if 0 < r n then cntP r n + 1 else cntP r n : Nat) : Int) * _ + wrmR W r (n + 1) * 65536 - (sumC _ n + (r n : Int) * p4 n)
      rw [ih, e1]
      by_cases h : 0 < r n
      · rw [if_pos h, if_pos h, if_pos h]
        unfold worV
        have e2 : ((r n - 1 : Nat) : Int) + 1 = (r n : Int) := by omega
        rw [e2]
        omega
      · rw [if_neg h, if_neg h, if_neg h]
        have e2 : (r n : Int) = 0 := by omega
        rw [e2, Int.zero_mul]
        omega
  rw [key 8]
  unfold valR
  have : sumC (fun l => (r l : Int) * p4 l) 8 = (codN r 8 : Int) := by
    rw [codN_8]
    show 0 + (r 0 : Int) * 16384 + (r 1 : Int) * 4096 + (r 2 : Int) * 1024 + (r 3 : Int) * 256 + (r 4 : Int) * 64 + (r 5 : Int) * 16 + (r 6 : Int) * 4 + (r 7 : Int) * 1 = _
    omega
  rw [this]
theorem wrm_bd {W : Nat → Nat → Int} (hW : ∀ l i, bdM (W l i)) (r : Nat → Nat) : ∀ n : Nat, -(1000000 * (n : Int)) ≤ wrmR W r n ∧ wrmR W r n ≤ 1000000 * (n : Int)
  | 0 => ⟨Int.le_refl 0, Int.le_refl 0⟩
  | n + 1 => by
    have h := wrm_bd hW r n
    have e1 : wrmR W r (n + 1) = wrmR W r n + (if 0 < r n then W n (r n - 1) else 0) := rfl
    have hw := hW n (r n - 1)
    unfold bdM at hw
    rw [e1]
    split <;> omega
theorem wor_nn {W : Nat → Nat → Int} (hW : ∀ l i, bdM (W l i)) (l i : Nat) (hi : i < 3) : 0 ≤ worV W l i := by
  have hw := hW l i
  unfold bdM at hw
  have hp : 1 ≤ p4 l ∧ p4 l ≤ 16384 := by
    unfold p4
    repeat' split
    all_goals omega
  unfold worV
  have : (i + 1 : Int) * p4 l ≤ 3 * 16384 := Int.mul_le_mul (by omega) hp.2 (by omega) (by decide)
  omega
/-- a row can be: L letters, K helpers; ab: who bears whose letter that is open; t: times; lf: minutes left -/
def Feas (L K : Nat) (ab : Nat → Nat → Prop) (t : Nat → Nat → Nat) (lf : Nat → Nat) (r : Nat → Nat) : Prop := (∀ l, l < L → r l ≤ K) ∧ (∀ l, L ≤ l → r l = 0) ∧ (∀ l, l < L → 0 < r l → ab l (r l - 1)) ∧ ∀ i, i < K → sumL (fun l => if r l = i + 1 then t l i else 0) 8 ≤ lf i
def isBest (L K : Nat) (ab : Nat → Nat → Prop) (t : Nat → Nat → Nat) (lf : Nat → Nat) (W : Nat → Nat → Int) (r : Nat → Nat) : Prop := Feas L K ab t lf r ∧ ∀ s, Feas L K ab t lf s → valR W s ≤ valR W r
theorem Feas_3 {L K : Nat} {ab : Nat → Nat → Prop} {t : Nat → Nat → Nat} {lf : Nat → Nat} {r : Nat → Nat} (hK : K ≤ 3) (h : Feas L K ab t lf r) (l : Nat) : r l ≤ 3 := by
  rcases Nat.lt_or_ge l L with q | q
  · have := h.1 l q; omega
  · rw [h.2.1 l q]; omega
theorem best_uniq {L K : Nat} {ab : Nat → Nat → Prop} {t : Nat → Nat → Nat} {lf : Nat → Nat} {W : Nat → Nat → Int} {r s : Nat → Nat} (hK : K ≤ 3) (hL : L ≤ 8) (hr : isBest L K ab t lf W r) (hs : isBest L K ab t lf W s) : ∀ l, r l = s l := by
  have e : valR W r = valR W s := by
    have h1 := hr.2 s hs.1
    have h2 := hs.2 r hr.1
    omega
  have cr := cod_lt (r := r) 8 (fun l _ => Feas_3 hK hr.1 l)
  have cs := cod_lt (r := s) 8 (fun l _ => Feas_3 hK hs.1 l)
  have c4 : 4 ^ 8 = 65536 := by decide
  have ec : codN r 8 = codN s 8 := by
    unfold valR at e
    omega
  intro l
  rcases Nat.lt_or_ge l 8 with q | q
  · exact cod_inj 8 (fun l _ => Feas_3 hK hr.1 l) (fun l _ => Feas_3 hK hs.1 l) ec l q
  · rw [hr.1.2.1 l (by omega), hs.1.2.1 l (by omega)]
/-- a later row that isn't better in answers and warmth is worth less -/
theorem val_lt {W : Nat → Nat → Int} (hW : ∀ l i, bdM (W l i)) {r s : Nat → Nat} (hr : ∀ l, r l ≤ 3) (hs : ∀ l, s l ≤ 3) (hc : codN r 8 ≤ codN s 8) (h : cntP s 8 < cntP r 8 ∨ (cntP s 8 = cntP r 8 ∧ wrmR W s 8 ≤ wrmR W r 8)) : valR W s ≤ valR W r := by
  have cr := cod_lt (r := r) 8 (fun l _ => hr l)
  have cs := cod_lt (r := s) 8 (fun l _ => hs l)
  have c4 : 4 ^ 8 = 65536 := by decide
  have w1 := wrm_bd hW r 8
  have w2 := wrm_bd hW s 8
  unfold valR
  omega
theorem val_gt {W : Nat → Nat → Int} (hW : ∀ l i, bdM (W l i)) {r s : Nat → Nat} (hr : ∀ l, r l ≤ 3) (hs : ∀ l, s l ≤ 3) (h : cntP r 8 < cntP s 8 ∨ (cntP s 8 = cntP r 8 ∧ wrmR W r 8 < wrmR W s 8)) : valR W r ≤ valR W s := by
  have cr := cod_lt (r := r) 8 (fun l _ => hr l)
  have cs := cod_lt (r := s) 8 (fun l _ => hs l)
  have c4 : 4 ^ 8 = 65536 := by decide
  have w1 := wrm_bd hW r 8
  have w2 := wrm_bd hW s 8
  unfold valR
  omega
/-! columns: the letters that anybody can answer, one behind another -/
def colI (op : Nat → Bool) : Nat → Nat
  | 0 => 0
  | l + 1 => if op l then colI op l + 1 else colI op l
def colL (op : Nat → Bool) : Nat → Nat → Nat
  | 0, _ => 0
  | l + 1, c => if op l = true ∧ c = colI op l then l else colL op l c
theorem colI_le (op : Nat → Bool) : ∀ l, colI op l ≤ l
  | 0 => Nat.le_refl 0
  | l + 1 => by
    have h := colI_le op l
    show (if op l = true then colI op l + 1 else colI op l) ≤ l + 1
    split <;> omega
theorem colI_mono (op : Nat → Bool) {a : Nat} : ∀ b, a ≤ b → colI op a ≤ colI op b
  | 0, h => by rw [show a = 0 by omega]; exact Nat.le_refl _
  | b + 1, h => by
    by_cases e : a = b + 1
    · rw [e]; exact Nat.le_refl _
    · have := colI_mono op b (show a ≤ b by omega)
      show colI op a ≤ (if op b = true then colI op b + 1 else colI op b)
      split <;> omega
theorem colI_lt (op : Nat → Bool) {a b : Nat} (h : a < b) (ho : op a = true) : colI op a < colI op b := by
  have h1 : colI op (a + 1) ≤ colI op b := colI_mono op b h
  have h2 : colI op (a + 1) = colI op a + 1 := if_pos ho
  omega
theorem colL_of (op : Nat → Bool) {a : Nat} (ho : op a = true) : ∀ n, a < n → colL op n (colI op a) = a
  | 0, h => by omega
  | n + 1, h => by
    show (if op n = true ∧ colI op a = colI op n then n else colL op n (colI op a)) = a
    by_cases e : a = n
    · subst e
      rw [if_pos ⟨ho, rfl⟩]
    · have := colI_lt op (show a < n by omega) ho
      rw [if_neg (by omega)]
      exact colL_of op ho n (by omega)
theorem colL_op (op : Nat → Bool) : ∀ n c, c < colI op n → op (colL op n c) = true ∧ colI op (colL op n c) = c ∧ colL op n c < n
  | 0, c, h => absurd h (Nat.not_lt_zero _)
  | n + 1, c, h => by
    have h' : c < (if op n = true then colI op n + 1 else colI op n) := h
    show op (if op n = true ∧ c = colI op n then n else colL op n c) = true ∧ colI op (if op n = true ∧ c = colI op n then n else colL op n c) = c ∧ (if op n = true ∧ c = colI op n then n else colL op n c) < n + 1
    by_cases e : op n = true ∧ c = colI op n
    · rw [if_pos e]
      exact ⟨e.1, e.2.symm, by omega⟩
    · rw [if_neg e]
      have hc : c < colI op n := by
        by_cases o : op n = true
        · rw [if_pos o] at h'
          have : c ≠ colI op n := fun z => e ⟨o, z⟩
          omega
        · rw [if_neg o] at h'; exact h'
      obtain ⟨g1, g2, g3⟩ := colL_op op n c hc
      exact ⟨g1, g2, by omega⟩
theorem col_sumC (op : Nat → Bool) (F : Nat → Int) : ∀ n, (∀ l, l < n → op l = false → F l = 0) → sumC (fun c => F (colL op n c)) (colI op n) = sumC F n
  | 0, _ => rfl
  | n + 1, h => by
    have ih := col_sumC op F n (fun l hl ho => h l (by omega) ho)
    have e0 : sumC (fun c => F (colL op (n + 1) c)) (colI op n) = sumC (fun c => F (colL op n c)) (colI op n) := sumC_ext _ (fun c hc => by
      show F (if op n = true ∧ c = colI op n then n else colL op n c) = _
      rw [if_neg (by omega)])
    show sumC (fun c => F (colL op (n + 1) c)) (if op n = true then colI op n + 1 else colI op n) = sumC F n + F n
    by_cases o : op n = true
    · rw [if_pos o]
      show sumC (fun c => F (colL op (n + 1) c)) (colI op n) + F (if op n = true ∧ colI op n = colI op n then n else colL op n (colI op n)) = _
      rw [if_pos ⟨o, rfl⟩, e0, ih]
    · rw [if_neg o, e0, ih, h n (by omega) (by cases ho : op n; rfl; exact absurd ho o)]
      omega
theorem col_sumL (op : Nat → Bool) (F : Nat → Nat) : ∀ n, (∀ l, l < n → op l = false → F l = 0) → sumL (fun c => F (colL op n c)) (colI op n) = sumL F n
  | 0, _ => rfl
  | n + 1, h => by
    have ih := col_sumL op F n (fun l hl ho => h l (by omega) ho)
    have e0 : sumL (fun c => F (colL op (n + 1) c)) (colI op n) = sumL (fun c => F (colL op n c)) (colI op n) := sumL_ext _ (fun c hc => by
      show F (if op n = true ∧ c = colI op n then n else colL op n c) = _
      rw [if_neg (by omega)])
    show sumL (fun c => F (colL op (n + 1) c)) (if op n = true then colI op n + 1 else colI op n) = sumL F n + F n
    by_cases o : op n = true
    · rw [if_pos o]
      show sumL (fun c => F (colL op (n + 1) c)) (colI op n) + F (if op n = true ∧ colI op n = colI op n then n else colL op n (colI op n)) = _
      rw [if_pos ⟨o, rfl⟩, e0, ih]
    · rw [if_neg o, e0, ih, h n (by omega) (by cases ho : op n; rfl; exact absurd ho o)]
      omega
