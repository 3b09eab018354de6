/-! the plan is read off -/
theorem run_bd {V : Nat → Int} {Wf : Int → Int} (hV : ∀ k, k < 10 → bdM (V k)) (hW : ∀ a, bdM (Wf a)) : ∀ (cs : List Int32) (st fin : List Int), (∀ c ∈ cs, c.toInt ≤ 9999) → (∀ x ∈ st, bdM x) → runV V Wf st cs = some fin → ∀ x ∈ fin, bdM x := by
  intro cs
  induction cs with
  | nil => intro st fin _ h2 h3; cases h3; exact h2
  | cons c cs ih =>
    intro st fin h1 h2 h3
    unfold runV at h3
    cases hst : stepV V Wf st c with
    | none => rw [hst] at h3; cases h3
    | some st' =>
      rw [hst] at h3
      have h3' : (if st'.length ≤ 64 then runV V Wf st' cs else none) = some fin := h3
      by_cases hle : st'.length ≤ 64
      · rw [if_pos hle] at h3'
        exact ih st' fin (fun c' hc' => h1 c' (by simp [hc'])) (stepV_bd hV hW (h1 c (by simp)) h2 hst) h3'
      · rw [if_neg hle] at h3'
        cases h3'
theorem formV_bd {h : aH} {n : aN} (ok : okH h) (hn : okN h n) {l : Nat} (hl : l < 8) (i f : Nat) : bdM (formV h n l i f) := by
  have h9 := (ok.2.2.2.2.2.2.2.2.2.2.2.2.2.2.2.2.2.1 i).2.2.1
  exact run_bd (fun k _ => envV_bd ok hn hl (bd_nat (by omega)) k) (wishF_bd (fun g _ => envW_bd ok l g)) (formC h f) [] _ (formC_ok ok).1 (fun x hx => by cases hx) (formV_run ok n l i f) _ (by simp)
def warmW (h : aH) (n : aN) (l i : Nat) : Int := if l < 8 then warmV h n l i else 0
theorem warmW_bd {h : aH} {n : aN} (ok : okH h) (hn : okN h n) (l i : Nat) : bdM (warmW h n l i) := by
  unfold warmW
  by_cases hl : l < 8
  · rw [if_pos hl]; exact formV_bd ok hn hl i 1
  · rw [if_neg hl]; exact bd_0
theorem p4_dig {c l : Nat} (hl : l < 8) (hc : c < 65536) : ((nI c >>> (((14 : Int32) - (2 : Int32) * nI l) &&& 31)) &&& (3 : Int32)) = nI (c / 4 ^ (7 - l) % 4) := by
  have and3 : ∀ x : Nat, x < 65536 → nI x &&& (3 : Int32) = nI (x % 4) := fun x hx => pk_andN (n := x) (by omega) 2 (by decide)
  have hs : l = 0 ∨ l = 1 ∨ l = 2 ∨ l = 3 ∨ l = 4 ∨ l = 5 ∨ l = 6 ∨ l = 7 := by omega
  rcases hs with rfl | rfl | rfl | rfl | rfl | rfl | rfl | rfl
  · rw [pk_shrN (by omega) _ 14 (by decide), and3 _ (by omega)]
  · rw [pk_shrN (by omega) _ 12 (by decide), and3 _ (by omega)]
  · rw [pk_shrN (by omega) _ 10 (by decide), and3 _ (by omega)]
  · rw [pk_shrN (by omega) _ 8 (by decide), and3 _ (by omega)]
  · rw [pk_shrN (by omega) _ 6 (by decide), and3 _ (by omega)]
  · rw [pk_shrN (by omega) _ 4 (by decide), and3 _ (by omega)]
  · rw [pk_shrN (by omega) _ 2 (by decide), and3 _ (by omega)]
  · rw [pk_shrN (by omega) _ 0 (by decide), and3 _ (by omega)]
theorem cod_dig {r : Nat → Nat} (hr : ∀ l, r l ≤ 3) {l : Nat} (hl : l < 8) : codN r 8 / 4 ^ (7 - l) % 4 = r l := by
  have h0 := hr 0
  have h1 := hr 1
  have h2 := hr 2
  have h3 := hr 3
  have h4 := hr 4
  have h5 := hr 5
  have h6 := hr 6
  have h7 := hr 7
  rw [codN_8]
  have hs : l = 0 ∨ l = 1 ∨ l = 2 ∨ l = 3 ∨ l = 4 ∨ l = 5 ∨ l = 6 ∨ l = 7 := by omega
  rcases hs with rfl | rfl | rfl | rfl | rfl | rfl | rfl | rfl
  · show _ / 16384 % 4 = r 0
    omega
  · show _ / 4096 % 4 = r 1
    omega
  · show _ / 1024 % 4 = r 2
    omega
  · show _ / 256 % 4 = r 3
    omega
  · show _ / 64 % 4 = r 4
    omega
  · show _ / 16 % 4 = r 5
    omega
  · show _ / 4 % 4 = r 6
    omega
  · show _ / 1 % 4 = r 7
    omega
theorem c_readOff {W : Nat → Nat → Int} (hW : ∀ l i, bdM (W l i)) {R : Nat → Nat} (hR : ∀ l, R l ≤ 3) (N : Nat) (hN : 20 ≤ N) (μ : z_S) : ∃ μ', f_X1_readOff N (iJ (valR W R)) μ = some ((), μ') ∧ (∀ l, l < 8 → μ'.1 9 l = nI (R l) - 1) ∧ μ'.1 8 2 = nI (cntP R 8) ∧ μ'.2.1 8 3 = iJ (wrmR W R 8) ∧ μ'.2.2 = μ.2.2 ∧ (∀ a j, a ≠ 8 → a ≠ 9 → μ'.1 a j = μ.1 a j) := by
  have cl := cod_lt (r := R) 8 (fun l _ => hR l)
  have c4 : 4 ^ 8 = 65536 := by decide
  rw [c4] at cl
  have wb := wrm_bd hW R 8
  have cb := cntP_le R 8
  have ex : ((-iJ (valR W R)) &&& (65535 : Int64)).toInt32 = nI (codN R 8) := by
    rw [← Int64.ofInt_neg, andJ, iJ_I, nI_iI]
    congr 1
    unfold valR
    omega
  have key : ∀ f l μ1, l ≤ 8 → 8 - l < f → μ1.1 8 2 = nI (cntP R l) → (∀ k, k < l → μ1.1 9 k = nI (R k) - 1) → ∀ e, ∃ μ', f_X1_readOff_L16 N (iJ (valR W R)) (nI (codN R 8)) e f (nI l) μ1 = e μ' ∧ (∀ k, k < 8 → μ'.1 9 k = nI (R k) - 1) ∧ μ'.1 8 2 = nI (cntP R 8) ∧ μ'.2 = μ1.2 ∧ (∀ a j, a ≠ 8 → a ≠ 9 → μ'.1 a j = μ1.1 a j) := by
    intro f
    induction f with
    | zero => intro l μ1 h1 h2; omega
    | succ f ih =>
      intro l μ1 h1 h2 h3 h4 e
      show ∃ μ', b_X1_readOff_L16 N (iJ (valR W R)) (nI (codN R 8)) (f_X1_readOff_L16 N (iJ (valR W R)) (nI (codN R 8)) e f) e (nI l) μ1 = _ ∧ _
      unfold b_X1_readOff_L16 f_X1_readOff_B62 f_X1_rowShift
      by_cases hlt : l < 8
      · have ek : nI l + 1 = nI (l + 1) := nI_1 l
        have hRl := hR l
        simp only [z_bd_eq]
        rw [if_pos (show nI l < (8 : Int32) from nI_lt (b := 8) hlt (by decide)), z_bn_sm, p4_dig hlt cl, cod_dig hR hlt, z_in_nI hlt (by decide), z_in_nI hlt (by decide), nI_toNat (by omega), ek]
        have d1 : (z_setI μ1 9 l (nI (R l) - 1)).1 9 l = nI (R l) - 1 := by rw [sI_1, if_pos ⟨rfl, rfl⟩]
        have d2 : (z_setI μ1 9 l (nI (R l) - 1)).1 8 2 = nI (cntP R l) := by rw [sI_1, if_neg (by omega)]; exact h3
        have ec : cntP R (l + 1) = if 0 < R l then cntP R l + 1 else cntP R l := rfl
        rw [d1, d2]
        have go : ∀ v, v = nI (cntP R (l + 1)) → ∃ μ', f_X1_readOff_L16 N (iJ (valR W R)) (nI (codN R 8)) e f (nI (l + 1)) (z_setI (z_setI μ1 9 l (nI (R l) - 1)) 8 2 v) = e μ' ∧ (∀ k, k < 8 → μ'.1 9 k = nI (R k) - 1) ∧ μ'.1 8 2 = nI (cntP R 8) ∧ μ'.2 = μ1.2 ∧ (∀ a j, a ≠ 8 → a ≠ 9 → μ'.1 a j = μ1.1 a j) := by
          intro v hv
          obtain ⟨μ', r1, r2, r3, r4, r5⟩ := ih (l + 1) (z_setI (z_setI μ1 9 l (nI (R l) - 1)) 8 2 v) (by omega) (by omega) (by rw [sI_1, if_pos ⟨rfl, rfl⟩]; exact hv) (fun k hk => by
            rw [sI_1, if_neg (by omega), sI_1]
            by_cases z : k = l
            · rw [if_pos ⟨rfl, z⟩, z]
            · rw [if_neg (fun q => z q.2)]; exact h4 k (by omega)) e
          exact ⟨μ', r1, r2, r3, r4, fun a j w1 w2 => by rw [r5 a j w1 w2, sI_1, if_neg (fun q => w1 q.1), sI_1, if_neg (fun q => w2 q.1)]⟩
        by_cases hz : R l = 0
        · rw [if_pos (show nI (R l) - 1 = (-1 : Int32) from (nI_m1 (by omega)).mpr hz)]
          refine go _ ?_
          rw [ec, if_neg (by omega), show (0 : Int32) = nI 0 from rfl, nI_add]; rfl
        · rw [if_neg (show ¬ nI (R l) - 1 = (-1 : Int32) from fun z => hz ((nI_m1 (by omega)).mp z))]
          refine go _ ?_
          rw [ec, if_pos (by omega)]; exact nI_1 _
      · have : l = 8 := by omega
        subst this
        rw [if_neg (show ¬ nI 8 < (8 : Int32) by decide)]
        exact ⟨μ1, rfl, h4, h3, rfl, fun _ _ _ _ => rfl⟩
  unfold f_X1_readOff
  simp only [z_bd_eq]
  rw [ex]
  obtain ⟨μ', r1, r2, r3, r4, r5⟩ := key N 0 (z_setI μ 8 2 0) (by omega) (by omega) (by rw [sI_1, if_pos ⟨rfl, rfl⟩]; rfl) (fun k hk => by omega) (fun μ72 => some ((), z_setJ μ72 8 3 (((iJ (valR W R) + (nI (codN R 8)).toInt64) >>> ((16 : Int32).toInt64 &&& 63)) - ((μ72.1 8 2).toInt64 <<< ((28 : Int32).toInt64 &&& 63)))))
  have r1' : f_X1_readOff_L16 N (iJ (valR W R)) (nI (codN R 8)) (fun μ72 => some ((), z_setJ μ72 8 3 (((iJ (valR W R) + (nI (codN R 8)).toInt64) >>> ((16 : Int32).toInt64 &&& 63)) - ((μ72.1 8 2).toInt64 <<< ((28 : Int32).toInt64 &&& 63))))) N (0 : Int32) (z_setI μ 8 2 0) = _ := r1
  rw [r1']
  have eJ : ((iJ (valR W R) + (nI (codN R 8)).toInt64) >>> ((16 : Int32).toInt64 &&& 63)) - ((nI (cntP R 8)).toInt64 <<< ((28 : Int32).toInt64 &&& 63)) = iJ (wrmR W R 8) := by
    rw [nI_J (by omega), nI_J (by omega), ← Int64.ofInt_add, shlJ _ _ 28 (iJ 268435456) (by decide) (by decide), ← Int64.ofInt_mul]
    have es : iJ (valR W R + (codN R 8 : Int)) >>> ((16 : Int32).toInt64 &&& 63) = iJ ((cntP R 8 : Int) * 268435456 + wrmR W R 8) := by
      apply Int64.toInt_inj.mp
      rw [shrJ _ _ 16 (by decide), Int64.toInt_ofInt_of_le (by unfold valR; omega) (by unfold valR; omega), Int64.toInt_ofInt_of_le (by omega) (by omega)]
      unfold valR
      omega
    rw [es, ← Int64.ofInt_sub]
    congr 1
    omega
  rw [r3, eJ]
  refine ⟨_, rfl, fun l hl => ?_, ?_, ?_, ?_, fun a j w1 w2 => ?_⟩
  · rw [sJ_1]; exact r2 l hl
  · rw [sJ_1]; exact r3
  · rw [sJ_21, if_pos ⟨rfl, rfl⟩]
  · show μ'.2.2 = _
    rw [r4]; rfl
  · rw [sJ_1, r5 a j w1 w2, sI_1, if_neg (fun q => w1 q.1)]
theorem c_mostL {m : Nat} (hm : m ≤ 8) (N o s : Nat) (μ : z_S) (e : Int64 → z_S → Option (Unit × z_S)) : ∀ f T v, 1 ≤ T → T ≤ 2 ^ m → 2 ^ m - T < f → ∃ v', f_X1_plan_L117 N o s (nI (2 ^ m - 1)) e f v (nI T) μ = e v' μ ∧ v.toInt ≤ v'.toInt ∧ (∀ S, T ≤ S → S < 2 ^ m → bB μ S ≤ v'.toInt) ∧ (v' = v ∨ ∃ S, T ≤ S ∧ S < 2 ^ m ∧ v'.toInt = bB μ S) := by
  have hm2 : 2 ^ m ≤ 256 := Nat.le_trans (Nat.pow_le_pow_right (by decide) hm) (by decide)
  intro f
  induction f with
  | zero => intro T v _ h1 h2; omega
  | succ f ih =>
    intro T v h1 h2 h3
    show ∃ v', b_X1_plan_L117 N o s (nI (2 ^ m - 1)) (f_X1_plan_L117 N o s (nI (2 ^ m - 1)) e f) e v (nI T) μ = _ ∧ _
    unfold b_X1_plan_L117 f_J9_max_f86c9
    by_cases hlt : 2 ^ m - 1 < T
    · rw [if_pos (nI_lt hlt (by omega))]
      exact ⟨v, rfl, Int.le_refl _, fun S w1 w2 => by omega, Or.inl rfl⟩
    · have ek : nI T + 1 = nI (T + 1) := nI_1 T
      rw [if_neg (nI_nlt (by omega) (by omega)), z_in_nI (show T < 256 by omega) (by decide), nI_toNat (by omega)]
      by_cases c : v < μ.2.1 20 T
      · rw [if_pos c, z_bn_sm, z_bd_eq, ek]
        rw [Int64.lt_iff_toInt_lt] at c
        obtain ⟨v', r1, r2, r3, r4⟩ := ih (T + 1) (μ.2.1 20 T) (by omega) (by omega) (by omega)
        refine ⟨v', r1, by omega, fun S w1 w2 => ?_, Or.inr ?_⟩
        · by_cases z : S = T
          · rw [z]; exact r2
          · exact r3 S (by omega) w2
        · rcases r4 with z | ⟨S, z1, z2, z3⟩
          · exact ⟨T, Nat.le_refl _, by omega, by rw [z]⟩
          · exact ⟨S, by omega, z2, z3⟩
      · rw [if_neg c, z_bn_sm, z_bd_eq, ek]
        rw [Int64.lt_iff_toInt_lt] at c
        obtain ⟨v', r1, r2, r3, r4⟩ := ih (T + 1) v (by omega) (by omega) (by omega)
        refine ⟨v', r1, r2, fun S w1 w2 => ?_, ?_⟩
        · by_cases z : S = T
          · rw [z]
            show (μ.2.1 20 T).toInt ≤ _
            omega
          · exact r3 S (by omega) w2
        · rcases r4 with z | ⟨S, z1, z2, z3⟩
          · exact Or.inl z
          · exact Or.inr ⟨S, by omega, z2, z3⟩
theorem k20 : z_kw true 20 = (21, 256) := by decide +kernel
theorem c_fillJ (N : Nat) (hN : 300 ≤ N) {n : Nat} (hn : n ≤ 256) (x : Int64) (μ : z_S) : ∃ μ', f_J7_fill_bad5a N 20 (0 : Int32) (nI n) x μ = some ((), μ') ∧ μ'.1 = μ.1 ∧ μ'.2.2 = μ.2.2 ∧ ∀ a j, μ'.2.1 a j = if a = 20 ∧ j < n then x else μ.2.1 a j := by
  have key : ∀ m k μ', k ≤ n → n - k < m → μ'.1 = μ.1 → μ'.2.2 = μ.2.2 → (∀ a j, μ'.2.1 a j = if a = 20 ∧ j < k then x else μ.2.1 a j) → ∃ μ2, f_J7_fill_bad5a_L10 N 20 (nI n) x m (nI k) μ' = some ((), μ2) ∧ μ2.1 = μ.1 ∧ μ2.2.2 = μ.2.2 ∧ ∀ a j, μ2.2.1 a j = if a = 20 ∧ j < n then x else μ.2.1 a j := by
    intro m
    induction m with
    | zero => intro k μ' h1 h2; omega
    | succ m ih =>
      intro k μ' h1 h2 h3 h3' h4
      show ∃ μ2, b_J7_fill_bad5a_L10 N 20 (nI n) x (f_J7_fill_bad5a_L10 N 20 (nI n) x m) (nI k) μ' = _ ∧ _
      unfold b_J7_fill_bad5a_L10
      rw [k20]
      by_cases hlt : k < n
      · have ek : nI k + 1 = nI (k + 1) := nI_1 k
        rw [if_pos (nI_lt hlt (by omega)), z_in_nI (show k < 256 by omega) (by decide), z_bd_eq, z_bd_eq, ek, nI_toNat (by omega)]
        refine ih (k + 1) _ (by omega) (by omega) h3 h3' (fun a j => ?_)
        rw [sJ_21, h4]
        by_cases ha : a = 20
        · by_cases hj : j = k
          · rw [if_pos ⟨ha, hj⟩, if_pos ⟨ha, by omega⟩]
          · rw [if_neg (fun q => hj q.2)]
            by_cases hl : j < k
            · rw [if_pos ⟨ha, hl⟩, if_pos ⟨ha, by omega⟩]
            · rw [if_neg (fun q => hl q.2), if_neg (by omega)]
        · rw [if_neg (fun q => ha q.1), if_neg (fun q => ha q.1), if_neg (fun q => ha q.1)]
      · have : k = n := by omega
        subst this
        rw [if_neg (nI_nlt (Nat.le_refl _) (by omega))]
        exact ⟨μ', rfl, h3, h3', h4⟩
  unfold f_J7_fill_bad5a f_J7_rangeCheck_23922
  rw [z_kd_ok (by rw [k20]), k20, if_neg (show ¬ nI n < (0 : Int32) from nI_pos (by omega)), if_neg (by decide), if_neg (show ¬ Int32.ofNat 256 < nI n from nI_nlt (a := 256) hn (by decide)), z_bn_sm]
  exact key N 0 μ (Nat.zero_le _) (by omega) rfl rfl (fun a j => by rw [if_neg (fun q => absurd q.2 (Nat.not_lt_zero _))])
