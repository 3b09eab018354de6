/-! children: groups of letters, and how likely they are -/
def bJ (v : Int) : Prop := -1 ≤ v ∧ v ≤ 10000000000
theorem jJ_toInt {v : Int} (h : bJ v) : (iJ v).toInt = v := Int64.toInt_ofInt_of_le (by have := h.1; omega) (by have := h.2; omega)
theorem jJ_lt {a b : Int} (ha : bJ a) (hb : bJ b) : iJ a < iJ b ↔ a < b := by rw [Int64.lt_iff_toInt_lt, jJ_toInt ha, jJ_toInt hb]
theorem ob_lt {a b : Nat} (ha : a ≤ 10000000001) (hb : b ≤ 10000000000) : iJ ((a : Int) - 1) < lN b ↔ a ≤ b := by
  rw [lN_iJ, jJ_lt (by unfold bJ; omega) (by unfold bJ; omega)]
  omega
theorem oc_lt {a b : Nat} (ha : a ≤ 10000000000) (hb : b ≤ 10000000000) : lN a < lN b ↔ a < b := by
  rw [lN_iJ, lN_iJ, jJ_lt (by unfold bJ; omega) (by unfold bJ; omega)]
  omega
def prodL (f : Nat → Nat) : Nat → Nat
  | 0 => 1
  | n + 1 => prodL f n * f n
theorem prodL_congr {f g : Nat → Nat} : ∀ n, (∀ k, k < n → f k = g k) → prodL f n = prodL g n
  | 0, _ => rfl
  | n + 1, h => by
    show prodL f n * f n = prodL g n * g n
    rw [prodL_congr n (fun k hk => h k (by omega)), h n (by omega)]
theorem prodL_le {f g : Nat → Nat} : ∀ n, (∀ k, k < n → f k ≤ g k) → prodL f n ≤ prodL g n
  | 0, _ => Nat.le_refl _
  | n + 1, h => Nat.mul_le_mul (prodL_le n (fun k hk => h k (by omega))) (h n (by omega))
theorem prodL_mul (f g : Nat → Nat) : ∀ n, prodL (fun k => f k * g k) n = prodL f n * prodL g n
  | 0 => rfl
  | n + 1 => by
    show prodL (fun k => f k * g k) n * (f n * g n) = prodL f n * f n * (prodL g n * g n)
    rw [prodL_mul f g n, Nat.mul_mul_mul_comm]
theorem prodL_one {f : Nat → Nat} : ∀ n, (∀ k, k < n → f k = 1) → prodL f n = 1
  | 0, _ => rfl
  | n + 1, h => by
    show prodL f n * f n = 1
    rw [prodL_one n (fun k hk => h k (by omega)), h n (by omega)]
/-- over the corner of pairs: by rows, by columns -/
theorem prodL_swap (g : Nat → Nat → Nat) : ∀ n, prodL (fun l => prodL (g l) l) n = prodL (fun i => prodL (fun l => if i < l then g l i else 1) n) n
  | 0 => rfl
  | n + 1 => by
    show prodL (fun l => prodL (g l) l) n * prodL (g n) n = prodL (fun i => prodL (fun l => if i < l then g l i else 1) n * (if i < n then g n i else 1)) n * (prodL (fun l => if n < l then g l n else 1) n * (if n < n then g n n else 1))
    rw [prodL_mul, prodL_swap g n, if_neg (Nat.lt_irrefl n), Nat.mul_one, prodL_one (f := fun l => if n < l then g l n else 1) n (fun k hk => if_neg (by omega)), Nat.mul_one]
    rw [prodL_congr (f := g n) (g := fun i => if i < n then g n i else 1) n (fun k hk => (if_pos hk).symm)]
/-- what a pair brings -/
def facO (h : aH) (R : Nat → Nat) (l i : Nat) : Nat := if hOdds h l i = 0 then 1 else if R l = R i then hOdds h l i - 1 else 11 - hOdds h l i
def mxO (h : aH) (l i : Nat) : Nat := if hOdds h l i = 0 then 1 else if hOdds h l i - 1 < 11 - hOdds h l i then 11 - hOdds h l i else hOdds h l i - 1
def rowO (h : aH) (R : Nat → Nat) (l : Nat) : Nat := prodL (facO h R l) l
def bstO (h : aH) (l : Nat) : Nat := prodL (mxO h l) l
def odO (h : aH) (R : Nat → Nat) (n : Nat) : Nat := prodL (rowO h R) n
/-- what may come from letter l on, m of them -/
def hopO (h : aH) (l : Nat) : Nat → Nat
  | 0 => 1
  | m + 1 => hopO h (l + 1) m * bstO h l
theorem facO_le {h : aH} {R : Nat → Nat} {l i : Nat} : facO h R l i ≤ mxO h l i := by
  unfold facO mxO
  split
  · exact Nat.le_refl _
  · split
    · split <;> omega
    · split <;> omega
theorem rowO_le {h : aH} {R : Nat → Nat} {l : Nat} : rowO h R l ≤ bstO h l := prodL_le l (fun _ _ => facO_le)
theorem mx_pow {h : aH} (hb : ∀ a b, hOdds h a b ≤ 11) (l : Nat) : ∀ n, prodL (mxO h l) n ≤ 10 ^ cntO h l n
  | 0 => Nat.le_refl _
  | n + 1 => by
    have ih := mx_pow hb l n
    have := hb l n
    show prodL (mxO h l) n * mxO h l n ≤ 10 ^ (cntO h l n + if hOdds h l n = 0 then 0 else 1)
    unfold mxO at *
    by_cases c : hOdds h l n = 0
    · rw [if_pos c, if_pos c, Nat.mul_one]
      exact ih
    · rw [if_neg c, if_neg c, Nat.pow_succ]
      refine Nat.mul_le_mul ih ?_
      split <;> omega
theorem hop_pow {h : aH} (hb : ∀ a b, hOdds h a b ≤ 11) : ∀ m l x, x ≤ 10 ^ sumO h l → x * hopO h l m ≤ 10 ^ sumO h (l + m)
  | 0, l, x, hx => by rw [show x * hopO h l 0 = x from Nat.mul_one x]; exact hx
  | m + 1, l, x, hx => by
    have := hop_pow hb m (l + 1) (x * bstO h l) (by
      show x * bstO h l ≤ 10 ^ (sumO h l + cntO h l l)
      rw [Nat.pow_add]
      exact Nat.mul_le_mul hx (mx_pow hb l l))
    rw [show l + 1 + m = l + (m + 1) by omega] at this
    rw [show x * hopO h l (m + 1) = x * bstO h l * hopO h (l + 1) m by
      show x * (hopO h (l + 1) m * bstO h l) = _
      rw [Nat.mul_comm (hopO h (l + 1) m), Nat.mul_assoc]]
    exact this
theorem od_pow {h : aH} (hb : ∀ a b, hOdds h a b ≤ 11) (R : Nat → Nat) : ∀ n, odO h R n ≤ 10 ^ sumO h n
  | 0 => Nat.le_refl _
  | n + 1 => by
    show odO h R n * rowO h R n ≤ 10 ^ (sumO h n + cntO h n n)
    rw [Nat.pow_add]
    exact Nat.mul_le_mul (od_pow hb R n) (Nat.le_trans rowO_le (mx_pow hb n n))
theorem od_hop {h : aH} (R : Nat → Nat) : ∀ m l, odO h R (l + m) ≤ odO h R l * hopO h l m
  | 0, l => by rw [show odO h R l * hopO h l 0 = odO h R l from Nat.mul_one _]; exact Nat.le_refl _
  | m + 1, l => by
    have ih := od_hop (h := h) R m (l + 1)
    rw [show l + 1 + m = l + (m + 1) by omega] at ih
    refine Nat.le_trans ih ?_
    show odO h R l * rowO h R l * hopO h (l + 1) m ≤ odO h R l * (hopO h (l + 1) m * bstO h l)
    rw [Nat.mul_comm (hopO h (l + 1) m), Nat.mul_assoc]
    exact Nat.mul_le_mul_left _ (Nat.mul_le_mul_right _ rowO_le)
theorem sumO_mono (h : aH) {a : Nat} : ∀ b, a ≤ b → sumO h a ≤ sumO h b
  | 0, q => by rw [show a = 0 by omega]; exact Nat.le_refl _
  | b + 1, q => by
    by_cases z : a = b + 1
    · rw [z]; exact Nat.le_refl _
    · have := sumO_mono h b (show a ≤ b by omega)
      show sumO h a ≤ sumO h b + cntO h b b
      omega
theorem sumO_10 {h : aH} (ok : okH h) {n : Nat} (hn : n ≤ 8) : 10 ^ sumO h n ≤ 10000000000 := by
  have h1 := sumO_mono h 8 hn
  have h2 : sumO h 8 ≤ hCnt h 4 := ok.2.2.2.2.2.2.2.2.2.2.2.2.2.2.1.2
  have h3 := ok.2.2.2.2.1
  exact Nat.le_trans (Nat.pow_le_pow_right (by decide) (show sumO h n ≤ 10 by omega)) (by decide)
theorem fac_same {h : aH} {R S : Nat → Nat} {n : Nat} (e : ∀ q, q < n → R q = S q) {l i : Nat} (hl : l < n) (hi : i < n) : facO h R l i = facO h S l i := by
  unfold facO
  rw [e l hl, e i hi]
theorem od_same {h : aH} {R S : Nat → Nat} (n : Nat) (e : ∀ q, q < n → R q = S q) : odO h R n = odO h S n :=
  prodL_congr n (fun l hl => prodL_congr l (fun i hi => fac_same (n := n) e hl (by omega)))
/-- how many groups stand among the first -/
def grpN (R : Nat → Nat) : Nat → Nat
  | 0 => 0
  | n + 1 => if R n < grpN R n then grpN R n else R n + 1
theorem grp_same {R S : Nat → Nat} : ∀ n, (∀ q, q < n → R q = S q) → grpN R n = grpN S n
  | 0, _ => rfl
  | n + 1, e => by
    show (if R n < grpN R n then grpN R n else R n + 1) = (if S n < grpN S n then grpN S n else S n + 1)
    rw [grp_same n (fun q hq => e q (by omega)), e n (by omega)]
def rgs (L : Nat) (R : Nat → Nat) : Prop := ∀ q, q < L → R q ≤ grpN R q
theorem grp_le {R : Nat → Nat} : ∀ n, (∀ q, q < n → R q ≤ grpN R q) → grpN R n ≤ n
  | 0, _ => Nat.le_refl _
  | n + 1, e => by
    have := grp_le n (fun q hq => e q (by omega))
    have := e n (by omega)
    show (if R n < grpN R n then grpN R n else R n + 1) ≤ n + 1
    split <;> omega
theorem grp_mem {R : Nat → Nat} : ∀ n q, q < n → R q < grpN R n
  | 0, q, hq => by omega
  | n + 1, q, hq => by
    show R q < (if R n < grpN R n then grpN R n else R n + 1)
    by_cases z : q = n
    · subst z
      split
      · assumption
      · omega
    · have := grp_mem (R := R) n q (by omega)
      split <;> omega
/-- the best so far, and 1; none: 0 -/
def bvO (h : aH) : Option (Nat → Nat) → Nat
  | none => 0
  | some R => odO h R (hCnt h 0) + 1
/-- what a search through X makes of the best so far -/
def updO (h : aH) (X : (Nat → Nat) → Prop) (b b' : Option (Nat → Nat)) : Prop :=
  (b' = b ∨ ∃ R, b' = some R ∧ X R ∧ bvO h b < odO h R (hCnt h 0) + 1 ∧ ∀ S, X S → odO h S (hCnt h 0) = odO h R (hCnt h 0) → lexB (hCnt h 0) 0 R S) ∧ ∀ S, X S → odO h S (hCnt h 0) + 1 ≤ bvO h b'
theorem updO_le {h : aH} {X : (Nat → Nat) → Prop} {b b' : Option (Nat → Nat)} (u : updO h X b b') : bvO h b ≤ bvO h b' := by
  rcases u.1 with e | ⟨R, e, -, g, -⟩
  · rw [e]; exact Nat.le_refl _
  · rw [e]
    exact Nat.le_of_lt g
theorem updO_tr {h : aH} {X Y Z : (Nat → Nat) → Prop} {b b1 b2 : Option (Nat → Nat)} (u : updO h X b b1) (v : updO h Y b1 b2) (hX : ∀ S, X S → Z S) (hY : ∀ S, Y S → Z S) (hZ : ∀ S, Z S → X S ∨ Y S) (hl : ∀ R S, X R → Y S → lexB (hCnt h 0) 0 R S) : updO h Z b b2 := by
  have ule := updO_le u
  have vle := updO_le v
  refine ⟨?_, fun S hS => ?_⟩
  · rcases v.1 with e | ⟨R, e, xR, g, hR⟩
    · rw [e]
      rcases u.1 with e' | ⟨R, e', xR, g, hR⟩
      · exact Or.inl e'
      · refine Or.inr ⟨R, e', hX R xR, g, fun S hS ho => ?_⟩
        rcases hZ S hS with y | y
        · exact hR S y ho
        · exact hl R S xR y
    · refine Or.inr ⟨R, e, hY R xR, by omega, fun S hS ho => ?_⟩
      rcases hZ S hS with y | y
      · have := u.2 S y
        omega
      · exact hR S y ho
  · rcases hZ S hS with y | y
    · have := u.2 S y; omega
    · exact v.2 S y
theorem updO_no {h : aH} {X : (Nat → Nat) → Prop} {b : Option (Nat → Nat)} (hn : ∀ S, X S → odO h S (hCnt h 0) + 1 ≤ bvO h b) : updO h X b b := ⟨Or.inl rfl, hn⟩
theorem updO_iff {h : aH} {X Y : (Nat → Nat) → Prop} {b b' : Option (Nat → Nat)} (u : updO h X b b') (e1 : ∀ S, X S → Y S) (e2 : ∀ S, Y S → X S) : updO h Y b b' := by
  refine ⟨?_, fun S hS => u.2 S (e2 S hS)⟩
  rcases u.1 with e | ⟨R, e, xR, g, hR⟩
  · exact Or.inl e
  · exact Or.inr ⟨R, e, e1 R xR, g, fun S hS => hR S (e2 S hS)⟩
/-- the groups: the likeliest, of those the first -/
def bstK (h : aH) (R : Nat → Nat) : Prop := rgs (hCnt h 0) R ∧ ∀ S, rgs (hCnt h 0) S → odO h S (hCnt h 0) ≤ odO h R (hCnt h 0) ∧ (odO h S (hCnt h 0) = odO h R (hCnt h 0) → lexB (hCnt h 0) 0 R S)
theorem bstK_uniq {h : aH} {R S : Nat → Nat} (a : bstK h R) (b : bstK h S) : ∀ l, l < hCnt h 0 → R l = S l := by
  have h1 := a.2 S b.1
  have h2 := b.2 R a.1
  exact lexB_anti (h1.2 (by omega)) (h2.2 (by omega))
