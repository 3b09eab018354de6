/-! the groups that come next -/
theorem cos_bd {r : Nat → Nat} : ∀ n, (∀ l, l < n → r l ≤ 8) → codS r n < 9 ^ n
  | 0, _ => Nat.one_pos
  | n + 1, h => by
    have := cos_bd n (fun l hl => h l (by omega))
    have := h n (by omega)
    show 9 * codS r n + r n < 9 ^ (n + 1)
    rw [Nat.pow_succ]
    omega
theorem cos_lt {r s : Nat → Nat} {n j : Nat} (h1 : ∀ l, l < n → r l ≤ 8) (h2 : ∀ l, l < n → s l ≤ 8) (hj : j < n) (e : ∀ i, i < j → r i = s i) (hlt : r j < s j) : codS r n < codS s n := by
  rcases Nat.lt_trichotomy (codS r n) (codS s n) with q | q | q
  · exact q
  · have := cos_inj n h1 h2 q j hj; omega
  · obtain ⟨k, k1, k2, k3⟩ := cos_lex n h2 h1 q
    rcases Nat.lt_trichotomy j k with y | y | y
    · have := k2 j y; omega
    · subst y; omega
    · have := e k y; omega
theorem lexB_tot (r s : Nat → Nat) : ∀ n, lexB n 0 r s ∨ ∃ j, j < n ∧ (∀ i, i < j → r i = s i) ∧ s j < r j
  | 0 => Or.inl (Or.inl (fun l _ hl => by omega))
  | n + 1 => by
    rcases lexB_tot r s n with (h | ⟨j, j1, j2, j3, j4⟩) | ⟨j, j1, j2, j3⟩
    · rcases Nat.lt_trichotomy (r n) (s n) with y | y | y
      · exact Or.inl (Or.inr ⟨n, Nat.zero_le _, by omega, fun i q hi => h i q hi, y⟩)
      · refine Or.inl (Or.inl (fun l q hl => ?_))
        by_cases z : l = n
        · rw [z]; exact y
        · exact h l q (by omega)
      · exact Or.inr ⟨n, by omega, fun i hi => h i (Nat.zero_le _) hi, y⟩
    · exact Or.inl (Or.inr ⟨j, j1, by omega, j3, j4⟩)
    · exact Or.inr ⟨j, by omega, j2, j3⟩
theorem lexB_no {r s : Nat → Nat} {n j : Nat} (h : lexB n 0 r s) (hj : j < n) (e : ∀ i, i < j → r i = s i) (hlt : s j < r j) : False := by
  rcases h with h | ⟨k, k1, k2, k3, k4⟩
  · have := h j (Nat.zero_le _) hj; omega
  · rcases Nat.lt_trichotomy j k with y | y | y
    · have := k3 j (Nat.zero_le _) y; omega
    · subst y; omega
    · have := e k y; omega
/-- one more at j, none behind -/
def nxtR (R : Nat → Nat) (j : Nat) : Nat → Nat := fun q => if q < j then R q else if q = j then R j + 1 else 0
theorem nxt_cover {L j : Nat} {R S : Nat → Nat} (hj : j < L) (hm : ∀ q, j < q → q < L → grpN R q ≤ R q) (hS : rgs L S) (hl : lexB L 0 S (nxtR R j)) : lexB L 0 S R ∨ ∀ q, q < L → S q = nxtR R j q := by
  rcases lexB_tot S R L with y | ⟨k, k1, k2, k3⟩
  · exact Or.inl y
  · right
    have n1 : ∀ q, q < j → nxtR R j q = R q := fun q hq => if_pos hq
    have n2 : nxtR R j j = R j + 1 := by unfold nxtR; rw [if_neg (by omega), if_pos rfl]
    have n3 : ∀ q, j < q → nxtR R j q = 0 := fun q hq => by unfold nxtR; rw [if_neg (by omega), if_neg (by omega)]
    rcases Nat.lt_trichotomy k j with y | y | y
    · exact absurd (lexB_no hl k1 (fun i hi => by rw [n1 i (by omega)]; exact k2 i hi) (by rw [n1 k y]; exact k3)) (fun z => z)
    · subst y
      by_cases z : S k = R k + 1
      · rcases hl with hl | ⟨i, i1, i2, i3, i4⟩
        · exact fun q hq => hl q (Nat.zero_le _) hq
        · exfalso
          rcases Nat.lt_trichotomy i k with w | w | w
          · have := k2 i w
            rw [n1 i w] at i4
            omega
          · subst w
            rw [n2] at i4; omega
          · rw [n3 i w] at i4; omega
      · exact absurd (lexB_no hl k1 (fun i hi => by rw [n1 i hi]; exact k2 i hi) (by rw [n2]; omega)) (fun z => z)
    · exfalso
      have a := hS k k1
      rw [grp_same k k2] at a
      have b := hm k y k1
      omega
theorem m_maxG {A : aS} (ok : okS A) (N : Nat) {ν : z_S} {R : Nat → Nat} (hR : rowM 298 R ν) (hr : rgs (hCnt (sH A) 0) R) {j : Nat} (hj : j < hCnt (sH A) 0) (e : Int32 → z_S → Option (Int32 × z_S)) : ∀ f i, i ≤ j → j - i < f → f_X12_isNextGroups_L15 N (nI j) e f (nI (grpN R i - 1)) (nI i) ν = e (nI (grpN R j - 1)) ν := by
  have h8 := ok.2.2.1.1
  intro f
  induction f with
  | zero => intro i h1 h2; omega
  | succ f ih =>
    intro i h1 h2
    show b_X12_isNextGroups_L15 N (nI j) (f_X12_isNextGroups_L15 N (nI j) e f) e (nI (grpN R i - 1)) (nI i) ν = _
    unfold b_X12_isNextGroups_L15 f_X12_isNextGroups_B37
    have gl := grp_le (R := R) i (fun q hq => hr q (by omega))
    by_cases hlt : i < j
    · have ek : nI i + 1 = nI (i + 1) := nI_1 i
      have hi := hr i (by omega)
      have en := ih (i + 1) (by omega) (by omega)
      rw [show grpN R (i + 1) = if R i < grpN R i then grpN R i else R i + 1 from rfl] at en
      simp only [z_bd_eq]
      rw [if_pos (nI_lt hlt (by omega)), z_in_nI (show i < 8 by omega) (by decide), z_in_nI (show i < 8 by omega) (by decide), nI_toNat (show i < 2 ^ 31 by omega), hR i (by omega), ek]
      by_cases c : grpN R i - 1 < R i
      · rw [if_pos (nI_lt c (by omega))]
        rw [if_neg (show ¬ R i < grpN R i by omega), Nat.add_sub_cancel] at en
        exact en
      · rw [if_neg (nI_nlt (by omega) (by omega))]
        by_cases c2 : R i < grpN R i
        · rw [if_pos c2] at en
          exact en
        · rw [if_neg c2, Nat.add_sub_cancel, show R i = grpN R i - 1 by omega] at en
          exact en
    · rw [if_neg (nI_nlt (by omega) (by omega)), show i = j by omega]
theorem m_zeroN {A : aS} (ok : okS A) (N : Nat) : ∀ f i ν R, i ≤ hCnt (sH A) 0 → hCnt (sH A) 0 - i < f → mS A ν → rowM 298 R ν → ∃ ν', f_X12_isNextGroups_L67 N f (nI i) ν = some (1, ν') ∧ sFr ν ν' ∧ rowM 298 (fun q => if i ≤ q ∧ q < hCnt (sH A) 0 then 0 else R q) ν' := by
  have h8 := ok.2.2.1.1
  intro f
  induction f with
  | zero => intro i ν R h1 h2; omega
  | succ f ih =>
    intro i ν R h1 h2 h hR
    show ∃ ν', b_X12_isNextGroups_L67 N (f_X12_isNextGroups_L67 N f) (nI i) ν = _ ∧ _
    unfold b_X12_isNextGroups_L67
    rw [m_lM h, z_bn_sm]
    by_cases hlt : i < hCnt (sH A) 0
    · have ek : nI i + 1 = nI (i + 1) := nI_1 i
      rw [if_pos (nI_lt hlt (by omega)), z_in_nI (show i < 8 by omega) (by decide), nI_toNat (show i < 2 ^ 31 by omega), z_bd_eq, z_bd_eq, ek]
      obtain ⟨ν', r1, r2, r3⟩ := ih (i + 1) (z_setI ν 298 i 0) (upS R i 0) (by omega) (by omega) ((sFr.set ν i 0).w.mS h) (upS_M hR i 0)
      refine ⟨ν', r1, (sFr.set ν i 0).tr r2, fun q hq => ?_⟩
      rw [r3 q hq]
      show nI (if i + 1 ≤ q ∧ q < hCnt (sH A) 0 then 0 else if q = i then 0 else R q) = nI (if i ≤ q ∧ q < hCnt (sH A) 0 then 0 else R q)
      by_cases z : q = i
      · rw [if_neg (by omega), if_pos z, if_pos (by omega)]
      · by_cases y : i + 1 ≤ q ∧ q < hCnt (sH A) 0
        · rw [if_pos y, if_pos (by omega)]
        · rw [if_neg y, if_neg z, if_neg (by omega)]
    · rw [if_neg (nI_nlt (by omega) (by omega))]
      refine ⟨ν, rfl, sFr.rf ν, fun q hq => ?_⟩
      rw [hR q hq]
      show _ = nI (if i ≤ q ∧ q < hCnt (sH A) 0 then 0 else R q)
      rw [if_neg (by omega)]
theorem m_nextK {A : aS} (ok : okS A) (N : Nat) (hN : 20 ≤ N) {ν : z_S} (h : mS A ν) {R : Nat → Nat} (hR : rowM 298 R ν) (hr : rgs (hCnt (sH A) 0) R) (hz : ∀ q, hCnt (sH A) 0 ≤ q → R q = 0) : (∃ j ν', f_X12_isNextGroups N ν = some (1, ν') ∧ sFr ν ν' ∧ rowM 298 (nxtR R j) ν' ∧ j < hCnt (sH A) 0 ∧ R j < grpN R j ∧ ∀ q, j < q → q < hCnt (sH A) 0 → grpN R q ≤ R q) ∨ (f_X12_isNextGroups N ν = some (0, ν) ∧ ∀ q, 0 < q → q < hCnt (sH A) 0 → grpN R q ≤ R q) := by
  have h8 := ok.2.2.1.1
  have key : ∀ f l, l ≤ hCnt (sH A) 0 → l < f → (∀ q, l ≤ q → q < hCnt (sH A) 0 → grpN R q ≤ R q) → (∃ j ν', f_X12_isNextGroups_L7 N (fun y53_1 μ53 => z_in y53_1 8 <| z_in y53_1 8 <| z_bd (z_setI μ53 298 y53_1.toNatClampNeg ((μ53.1 298 y53_1.toNatClampNeg) + (1 : Int32))) fun μ_2 => z_bd (y53_1 + (1 : Int32)) fun x6 => f_X12_isNextGroups_L67 N N x6 μ_2) f (nI l - 1) ν = some (1, ν') ∧ sFr ν ν' ∧ rowM 298 (nxtR R j) ν' ∧ j < hCnt (sH A) 0 ∧ R j < grpN R j ∧ ∀ q, j < q → q < hCnt (sH A) 0 → grpN R q ≤ R q) ∨ (f_X12_isNextGroups_L7 N (fun y53_1 μ53 => z_in y53_1 8 <| z_in y53_1 8 <| z_bd (z_setI μ53 298 y53_1.toNatClampNeg ((μ53.1 298 y53_1.toNatClampNeg) + (1 : Int32))) fun μ_2 => z_bd (y53_1 + (1 : Int32)) fun x6 => f_X12_isNextGroups_L67 N N x6 μ_2) f (nI l - 1) ν = some (0, ν) ∧ ∀ q, 0 < q → q < hCnt (sH A) 0 → grpN R q ≤ R q) := by
    intro f
    generalize hE : (fun (y53_1 : Int32) (μ53 : z_S) => z_in y53_1 8 <| z_in y53_1 8 <| z_bd (z_setI μ53 298 y53_1.toNatClampNeg ((μ53.1 298 y53_1.toNatClampNeg) + (1 : Int32))) fun μ_2 => z_bd (y53_1 + (1 : Int32)) fun x6 => f_X12_isNextGroups_L67 N N x6 μ_2) = E
    induction f with
    | zero => intro l h1 h2; omega
    | succ f ih =>
      intro l h1 h2 hm
      have eS : f_X12_isNextGroups_L7 N E (f + 1) (nI l - 1) ν = b_X12_isNextGroups_L7 N (f_X12_isNextGroups_L7 N E f) E (nI l - 1) ν := rfl
      rw [eS]
      unfold b_X12_isNextGroups_L7
      by_cases z : l ≤ 1
      · refine Or.inr ⟨?_, fun q q1 q2 => hm q (by omega) q2⟩
        rw [if_neg]
        rcases Nat.lt_or_ge l 1 with y | y
        · rw [show l = 0 by omega]; decide
        · rw [show l = 1 by omega]; decide
      · obtain ⟨j, rfl⟩ : ∃ j, l = j + 1 := ⟨l - 1, by omega⟩
        have e1 : nI (j + 1) - 1 = nI j := pk_sub (b := 1) (by omega)
        have e3 : nI j + (-1 : Int32) = nI j - 1 := (Int32.sub_eq_add_neg (nI j) 1).symm
        have q := m_maxG ok N hR hr (show j < hCnt (sH A) 0 by omega) (fun y43_2 μ43 => z_in (nI j) 8 <| if y43_2 < (μ43.1 298 (nI j).toNatClampNeg) then (z_bd (nI j + (-1)) fun x5 => f_X12_isNextGroups_L7 N E f x5 μ43) else E (nI j) μ43) N 0 (Nat.zero_le _) (by omega)
        have q' : f_X12_isNextGroups_L15 N (nI j) (fun y43_2 μ43 => z_in (nI j) 8 <| if y43_2 < (μ43.1 298 (nI j).toNatClampNeg) then (z_bd (nI j + (-1)) fun x5 => f_X12_isNextGroups_L7 N E f x5 μ43) else E (nI j) μ43) N (0 : Int32) (0 : Int32) ν = (z_in (nI j) 8 <| if nI (grpN R j - 1) < (ν.1 298 (nI j).toNatClampNeg) then (z_bd (nI j + (-1)) fun x5 => f_X12_isNextGroups_L7 N E f x5 ν) else E (nI j) ν) := q
        have gl := grp_le (R := R) j (fun q hq => hr q (by omega))
        have gp := grp_mem (R := R) j 0 (by omega)
        have hj := hr j (by omega)
        rw [e1, if_pos (show (0 : Int32) < nI j from nI_lt (a := 0) (by omega) (by omega)), q', z_in_nI (show j < 8 by omega) (by decide), nI_toNat (show j < 2 ^ 31 by omega), hR j (by omega)]
        by_cases c : grpN R j - 1 < R j
        · rw [if_pos (nI_lt c (by omega)), z_bd_eq, e3]
          refine ih j (by omega) (by omega) (fun q q1 q2 => ?_)
          by_cases y : q = j
          · rw [y]; omega
          · exact hm q (by omega) q2
        · have ec : nI (R j) + (1 : Int32) = nI (R j + 1) := nI_1 (R j)
          have ej : nI j + (1 : Int32) = nI (j + 1) := nI_1 j
          rw [if_neg (nI_nlt (by omega) (by omega)), ← hE]
          obtain ⟨ν', r1, r2, r3⟩ := m_zeroN ok N N (j + 1) (z_setI ν 298 j (nI (R j + 1))) (upS R j (R j + 1)) (by omega) (by omega) ((sFr.set ν j _).w.mS h) (upS_M hR j (R j + 1))
          refine Or.inl ⟨j, ν', ?_, (sFr.set ν j _).tr r2, fun q hq => ?_, by omega, by omega, fun q q1 q2 => hm q (by omega) q2⟩
          · rw [← r1]
            show z_in (nI j) 8 (z_in (nI j) 8 (z_bd (z_setI ν 298 (nI j).toNatClampNeg (ν.1 298 (nI j).toNatClampNeg + (1 : Int32))) fun μ_2 => z_bd (nI j + (1 : Int32)) fun x6 => f_X12_isNextGroups_L67 N N x6 μ_2)) = _
            rw [z_in_nI (show j < 8 by omega) (by decide), z_in_nI (show j < 8 by omega) (by decide), nI_toNat (show j < 2 ^ 31 by omega), hR j (by omega), ec, z_bd_eq, z_bd_eq, ej]
          · rw [r3 q hq]
            show nI (if j + 1 ≤ q ∧ q < hCnt (sH A) 0 then 0 else if q = j then R j + 1 else R q) = nI (if q < j then R q else if q = j then R j + 1 else 0)
            rcases Nat.lt_trichotomy q j with y | y | y
            · rw [if_neg (by omega), if_neg (by omega), if_pos y]
            · rw [if_neg (by omega), if_pos y, if_neg (by omega), if_pos y]
            · rw [if_neg (show ¬ q < j by omega), if_neg (show ¬ q = j by omega)]
              by_cases w : q < hCnt (sH A) 0
              · rw [if_pos (by omega), if_neg (show ¬ q = j by omega)]
              · rw [if_neg (by omega), if_neg (show ¬ q = j by omega), hz q (by omega)]
  unfold f_X12_isNextGroups
  rw [m_lM h, z_bn_sm, z_bd_eq]
  exact key N (hCnt (sH A) 0) (Nat.le_refl _) (by omega) (fun q q1 q2 => by omega)
theorem nxt_rgs {L j : Nat} {R : Nat → Nat} (hj : j < L) (hr : rgs L R) (hlt : R j < grpN R j) : rgs L (nxtR R j) := by
  intro q hq
  rcases Nat.lt_trichotomy q j with y | y | y
  · rw [grp_same (R := nxtR R j) (S := R) q (fun i hi => if_pos (by omega)), show nxtR R j q = R q from if_pos y]
    exact hr q hq
  · subst y
    rw [grp_same (R := nxtR R q) (S := R) q (fun i hi => if_pos hi), show nxtR R q q = R q + 1 by unfold nxtR; rw [if_neg (by omega), if_pos rfl]]
    exact hlt
  · rw [show nxtR R j q = 0 by unfold nxtR; rw [if_neg (by omega), if_neg (by omega)]]
    exact Nat.zero_le _
theorem rgs_8 {L : Nat} {R : Nat → Nat} (h8 : L ≤ 8) (hr : rgs L R) : ∀ q, q < L → R q ≤ 8 := fun q hq => by
  have := hr q hq
  have := grp_le (R := R) q (fun i hi => hr i (by omega))
  omega
theorem m_zeroK (N : Nat) (c1 : Int32) (e : z_S → Option (Int32 × z_S)) : ∀ f l ν, l ≤ 8 → 8 - l < f → (∀ k, k < l → ν.1 298 k = 0 ∧ ν.1 300 k = 0) → ∃ ν', f_X12_children_L17 N c1 e f (nI l) ν = e ν' ∧ hFr ν ν' ∧ ∀ k, k < 8 → ν'.1 298 k = 0 ∧ ν'.1 300 k = 0 := by
  intro f
  induction f with
  | zero => intro l ν h1 h2; omega
  | succ f ih =>
    intro l ν h1 h2 h3
    show ∃ ν', b_X12_children_L17 N c1 (f_X12_children_L17 N c1 e f) e (nI l) ν = _ ∧ _
    unfold b_X12_children_L17
    by_cases hlt : l < 8
    · have ek : nI l + 1 = nI (l + 1) := nI_1 l
      rw [if_pos (show nI l < (8 : Int32) from nI_lt (b := 8) hlt (by decide)), z_in_nI hlt (by decide), z_bd_eq, z_in_nI hlt (by decide), z_bd_eq, z_bd_eq, ek, nI_toNat (by omega)]
      obtain ⟨ν', r1, r2, r3⟩ := ih (l + 1) (z_setI (z_setI ν 298 l 0) 300 l 0) (by omega) (by omega) (fun k hk => by
        rw [sI_1, sI_1, sI_1, sI_1]
        by_cases z : k = l
        · rw [if_neg (by omega), if_pos ⟨rfl, z⟩, if_pos ⟨rfl, z⟩]; exact ⟨rfl, rfl⟩
        · rw [if_neg (by omega), if_neg (fun q => z q.2), if_neg (fun q => z q.2), if_neg (by omega)]
          exact h3 k (by omega))
      exact ⟨ν', r1, ⟨r2.1, fun a j q1 q2 q3 => by rw [r2.2 a j q1 q2 q3, sI_1, if_neg (fun z => q2 z.1), sI_1, if_neg (fun z => q1 z.1)]⟩, r3⟩
    · have : l = 8 := by omega
      subst this
      rw [if_neg (show ¬ nI 8 < (8 : Int32) by decide)]
      exact ⟨ν, rfl, ⟨rfl, fun _ _ _ _ _ => rfl⟩, h3⟩
theorem m_copyK (N : Nat) (c1 : Int32) (c2 : Int64) (e : z_S → Option (Int32 × z_S)) {R : Nat → Nat} : ∀ f l ν, l ≤ 8 → 8 - l < f → rowM 298 R ν → (∀ k, k < l → ν.1 300 k = nI (R k)) → ∃ ν', f_X12_children_L77 N c1 c2 e f (nI l) ν = e ν' ∧ ν'.2 = ν.2 ∧ (∀ a j, a ≠ 300 → ν'.1 a j = ν.1 a j) ∧ rowM 300 R ν' := by
  intro f
  induction f with
  | zero => intro l ν h1 h2; omega
  | succ f ih =>
    intro l ν h1 h2 hR h3
    show ∃ ν', b_X12_children_L77 N c1 c2 (f_X12_children_L77 N c1 c2 e f) e (nI l) ν = _ ∧ _
    unfold b_X12_children_L77
    by_cases hlt : l < 8
    · have ek : nI l + 1 = nI (l + 1) := nI_1 l
      rw [if_pos (show nI l < (8 : Int32) from nI_lt (b := 8) hlt (by decide)), z_in_nI hlt (by decide), z_in_nI hlt (by decide), z_bd_eq, z_bd_eq, ek, nI_toNat (by omega), hR l hlt]
      obtain ⟨ν', r1, r2, r3, r4⟩ := ih (l + 1) (z_setI ν 300 l (nI (R l))) (by omega) (by omega) (fun q hq => by rw [sI_1, if_neg (by omega)]; exact hR q hq) (fun k hk => by
        rw [sI_1]
        by_cases z : k = l
        · rw [if_pos ⟨rfl, z⟩, z]
        · rw [if_neg (fun q => z q.2)]
          exact h3 k (by omega))
      exact ⟨ν', r1, r2, fun a j q1 => by rw [r3 a j q1, sI_1, if_neg (fun z => q1 z.1)], r4⟩
    · have : l = 8 := by omega
      subst this
      rw [if_neg (show ¬ nI 8 < (8 : Int32) by decide)]
      exact ⟨ν, rfl, rfl, fun _ _ _ => rfl, h3⟩
theorem m_kidL {A : aS} (ok : okS A) (N : Nat) (hN : 20 ≤ N) (c1 : Int32) (e : z_S → Option (Int32 × z_S)) : ∀ f (R B : Nat → Nat) ν, 9 ^ hCnt (sH A) 0 - codS R (hCnt (sH A) 0) < f → mS A ν → rowM 298 R ν → rowM 300 B ν → rgs (hCnt (sH A) 0) R → (∀ q, hCnt (sH A) 0 ≤ q → R q = 0) → rgs (hCnt (sH A) 0) B → lexB (hCnt (sH A) 0) 0 B R → (∀ S, rgs (hCnt (sH A) 0) S → lexB (hCnt (sH A) 0) 0 S R → odO (sH A) S (hCnt (sH A) 0) ≤ odO (sH A) B (hCnt (sH A) 0) ∧ (odO (sH A) S (hCnt (sH A) 0) = odO (sH A) B (hCnt (sH A) 0) → lexB (hCnt (sH A) 0) 0 B S)) → ∃ B' ν', f_X12_children_L48 N c1 e f (lN (odO (sH A) B (hCnt (sH A) 0))) ν = e ν' ∧ hFr ν ν' ∧ rowM 300 B' ν' ∧ bstK (sH A) B' := by
  have h8 := ok.2.2.1.1
  have hb11 := ok.2.2.1.2.2.2.2.2.2.2.2.2.2.2.2.1
  have hodb : ∀ R, odO (sH A) R (hCnt (sH A) 0) ≤ 10000000000 := fun R => Nat.le_trans (od_pow hb11 R (hCnt (sH A) 0)) (sumO_10 ok.2.2.1 h8)
  intro f
  induction f with
  | zero => intro R B ν h1; omega
  | succ f ih =>
    intro R B ν h1 h hR hB hr hz hrB hBR hall
    show ∃ B' ν', b_X12_children_L48 N c1 (f_X12_children_L48 N c1 e f) e (lN (odO (sH A) B (hCnt (sH A) 0))) ν = _ ∧ _
    unfold b_X12_children_L48
    rcases m_nextK ok N hN h hR hr hz with ⟨j, ν1, p1, p2, p3, p4, p5, p6⟩ | ⟨p1, p2⟩
    · have hr' := nxt_rgs p4 hr p5
      have h1' := p2.w.mS h
      have b8 := rgs_8 h8 hr
      have b8' := rgs_8 h8 hr'
      have n1 : ∀ q, q < j → R q = nxtR R j q := fun q hq => (if_pos hq).symm
      have n2 : R j < nxtR R j j := by unfold nxtR; rw [if_neg (by omega), if_pos rfl]; omega
      have clt := cos_lt (n := hCnt (sH A) 0) b8 b8' p4 n1 n2
      have cbd := cos_bd (hCnt (sH A) 0) b8'
      have hz' : ∀ q, hCnt (sH A) 0 ≤ q → nxtR R j q = 0 := fun q hq => by unfold nxtR; rw [if_neg (by omega), if_neg (by omega)]
      have h300 : ∀ q, ν1.1 300 q = ν.1 300 q := fun q => p2.2 300 q (by decide)
      have fr1 : hFr ν ν1 := ⟨p2.1, fun a j q _ _ => p2.2 a j q⟩
      have lexRN : ∀ S, lexB (hCnt (sH A) 0) 0 S R → (∀ q, q < hCnt (sH A) 0 → S q = nxtR R j q) → False := fun S hS heq =>
        lexB_no hS p4 (fun i hi => by rw [heq i (by omega)]; exact (n1 i hi).symm) (by rw [heq j p4]; exact n2)
      rw [p1, z_bn_sm, if_neg (by decide), m_oddsO ok h1' N hN p3 (fun q hq => by have := b8' q hq; omega), z_bn_sm]
      by_cases c : odO (sH A) B (hCnt (sH A) 0) < odO (sH A) (nxtR R j) (hCnt (sH A) 0)
      · rw [if_pos ((oc_lt (hodb _) (hodb _)).mpr c)]
        obtain ⟨ν2, q1, q2, q3, q4⟩ := m_copyK N c1 (lN (odO (sH A) (nxtR R j) (hCnt (sH A) 0))) (fun μ104 => f_X12_children_L48 N c1 e f (lN (odO (sH A) (nxtR R j) (hCnt (sH A) 0))) μ104) (R := nxtR R j) N 0 ν1 (by omega) (by omega) p3 (fun k hk => by omega)
        have q1' : f_X12_children_L77 N c1 (lN (odO (sH A) (nxtR R j) (hCnt (sH A) 0))) (fun μ104 => f_X12_children_L48 N c1 e f (lN (odO (sH A) (nxtR R j) (hCnt (sH A) 0))) μ104) N (0 : Int32) ν1 = _ := q1
        rw [q1']
        have fr2 : hFr ν1 ν2 := ⟨q2, fun a j _ q _ => q3 a j q⟩
        obtain ⟨B', ν', r1, r2, r3⟩ := ih (nxtR R j) (nxtR R j) ν2 (by omega) (fr2.w.mS h1') (fun q hq => by rw [q3 _ _ (by decide)]; exact p3 q hq) q4 hr' hz' hr' (Or.inl (fun _ _ _ => rfl)) (fun S hS hl => by
          rcases nxt_cover p4 p6 hS hl with y | y
          · have := (hall S hS y).1
            exact ⟨by omega, fun z => by omega⟩
          · rw [od_same (R := S) (S := nxtR R j) (hCnt (sH A) 0) y]
            exact ⟨Nat.le_refl _, fun _ => Or.inl (fun q _ hq => (y q hq).symm)⟩)
        exact ⟨B', ν', r1, fr1.tr (fr2.tr r2), r3⟩
      · rw [if_neg (fun z => c ((oc_lt (hodb _) (hodb _)).mp z))]
        have lexBN : lexB (hCnt (sH A) 0) 0 B (nxtR R j) := by
          rcases lexB_tot B (nxtR R j) (hCnt (sH A) 0) with y | ⟨k, k1, k2, k3⟩
          · exact y
          · exfalso
            rcases lexB_tot B R (hCnt (sH A) 0) with w | ⟨i, i1, i2, i3⟩
            · rcases Nat.lt_trichotomy k j with v | v | v
              · exact lexB_no w k1 (fun i hi => by rw [k2 i hi]; exact (n1 i (by omega)).symm) (by rw [n1 k v]; exact k3)
              · subst v
                exact lexB_no w k1 (fun i hi => by rw [k2 i hi]; exact (n1 i hi).symm) (by omega)
              · exact lexB_no w p4 (fun i hi => by rw [k2 i (by omega)]; exact (n1 i hi).symm) (by rw [k2 j v]; exact n2)
            · exact lexB_no hBR i1 i2 i3
        obtain ⟨B', ν', r1, r2, r3⟩ := ih (nxtR R j) B ν1 (by omega) h1' p3 (fun q hq => by rw [h300]; exact hB q hq) hr' hz' hrB lexBN (fun S hS hl => by
          rcases nxt_cover p4 p6 hS hl with y | y
          · exact hall S hS y
          · rw [od_same (R := S) (S := nxtR R j) (hCnt (sH A) 0) y]
            refine ⟨by omega, fun _ => ?_⟩
            rcases lexBN with w | ⟨k, k1, k2, k3, k4⟩
            · exact Or.inl (fun q a b => (w q a b).trans (y q b).symm)
            · exact Or.inr ⟨k, k1, k2, fun i a b => (k3 i a b).trans (y i (by omega)).symm, by rw [y k k2]; exact k4⟩)
        exact ⟨B', ν', r1, fr1.tr r2, r3⟩
    · rw [p1, z_bn_sm, if_pos rfl]
      refine ⟨B, ν, rfl, ⟨rfl, fun _ _ _ _ _ => rfl⟩, hB, hrB, fun S hS => hall S hS ?_⟩
      rcases lexB_tot S R (hCnt (sH A) 0) with y | ⟨k, k1, k2, k3⟩
      · exact y
      · exfalso
        have a := hS k k1
        rw [grp_same k k2] at a
        by_cases z : k = 0
        · subst z
          have : grpN R 0 = 0 := rfl
          omega
        · have := p2 k (by omega) k1
          omega
theorem m_manyK {A : aS} (ok : okS A) (N : Nat) (c1 : Int32) (e : Int32 → z_S → Option (Int32 × z_S)) {ν : z_S} (h : mS A ν) {B : Nat → Nat} (hB : rowM 300 B ν) (hr : rgs (hCnt (sH A) 0) B) : ∀ f i, i ≤ hCnt (sH A) 0 → hCnt (sH A) 0 - i < f → f_X12_children_L113 N c1 e f (nI (grpN B i)) (nI i) ν = e (nI (grpN B (hCnt (sH A) 0))) ν := by
  have h8 := ok.2.2.1.1
  have b8 := rgs_8 h8 hr
  intro f
  induction f with
  | zero => intro i h1 h2; omega
  | succ f ih =>
    intro i h1 h2
    show b_X12_children_L113 N c1 (f_X12_children_L113 N c1 e f) e (nI (grpN B i)) (nI i) ν = _
    unfold b_X12_children_L113 f_X12_children_B145
    rw [m_lM h, z_bn_sm]
    have gl := grp_le (R := B) i (fun q hq => hr q (by omega))
    by_cases hlt : i < hCnt (sH A) 0
    · have ek : nI i + 1 = nI (i + 1) := nI_1 i
      have en := ih (i + 1) (by omega) (by omega)
      have b := b8 i hlt
      rw [show grpN B (i + 1) = if B i < grpN B i then grpN B i else B i + 1 from rfl] at en
      have eb : nI (B i) + (1 : Int32) = nI (B i + 1) := nI_1 (B i)
      rw [if_pos (nI_lt hlt (by omega)), z_in_nI (show i < 8 by omega) (by decide), z_in_nI (show i < 8 by omega) (by decide), nI_toNat (show i < 2 ^ 31 by omega), hB i (by omega)]
      by_cases c : B i < grpN B i
      · rw [if_pos (nI_lt c (by omega)), z_bd_eq, ek]
        rw [if_pos c] at en
        exact en
      · rw [if_neg (nI_nlt (by omega) (by omega)), z_bd_eq, z_bd_eq, ek, eb]
        rw [if_neg c] at en
        exact en
    · rw [if_neg (nI_nlt (by omega) (by omega)), show i = hCnt (sH A) 0 by omega]
theorem m_kids {A : aS} {ν : z_S} (ok : okS A) (h : mS A ν) (N : Nat) (hN : 50000000 ≤ N) (c1 : Int32) : ∃ B ν', f_X12_children_B15 N c1 ν = (if c1 = (-1 : Int32) then some (nI (grpN B (hCnt (sH A) 0)), ν') else z_in c1 8 (some (ν'.1 300 c1.toNatClampNeg, ν'))) ∧ hFr ν ν' ∧ rowM 300 B ν' ∧ bstK (sH A) B := by
  have h8 := ok.2.2.1.1
  generalize hE3 : (fun (y151_4 : Int32) (μ151 : z_S) => if c1 = (-1 : Int32) then (some (y151_4, μ151)) else z_in c1 8 <| some ((μ151.1 300 c1.toNatClampNeg), μ151)) = E3
  generalize hE2 : (fun μ107 : z_S => f_X12_children_L113 N c1 E3 N (0 : Int32) (0 : Int32) μ107) = E2
  obtain ⟨ν1, p1, p2, p3⟩ := m_zeroK N c1 (fun μ43 => z_bn (f_X12_oddsIn N μ43) fun x2 μ_3 => f_X12_children_L48 N c1 E2 N x2 μ_3) N 0 ν (by omega) (by omega) (fun k hk => by omega)
  have p1' : f_X12_children_B15 N c1 ν = z_bn (f_X12_oddsIn N ν1) fun x2 μ_3 => f_X12_children_L48 N c1 E2 N x2 μ_3 := by
    rw [← hE2, ← hE3] at p1 ⊢
    exact p1
  have h1 := p2.w.mS h
  have z0 : rgs (hCnt (sH A) 0) (fun _ => 0) := fun q hq => Nat.zero_le _
  have r0 : rowM 298 (fun _ => 0) ν1 := fun q hq => (p3 q hq).1
  have p9 : 9 ^ hCnt (sH A) 0 ≤ 43046721 := Nat.le_trans (Nat.pow_le_pow_right (by decide) h8) (by decide)
  obtain ⟨B, ν2, q1, q2, q3, q4⟩ := m_kidL ok N (by omega) c1 E2 N (fun _ => 0) (fun _ => 0) ν1 (by omega) h1 r0 (fun q hq => (p3 q hq).2) z0 (fun _ _ => rfl) z0 (Or.inl (fun _ _ _ => rfl)) (fun S hS hl => by
    have e : ∀ q, q < hCnt (sH A) 0 → S q = 0 := by
      rcases hl with y | ⟨j, j1, j2, j3, j4⟩
      · exact fun q hq => y q (Nat.zero_le _) hq
      · exact absurd j4 (Nat.not_lt_zero _)
    rw [od_same (R := S) (S := fun _ => 0) (hCnt (sH A) 0) e]
    exact ⟨Nat.le_refl _, fun _ => Or.inl (fun q _ hq => (e q hq).symm)⟩)
  have q5 := m_manyK ok N c1 E3 (q2.w.mS h1) q3 q4.1 N 0 (Nat.zero_le _) (by omega)
  have q5' : E2 ν2 = E3 (nI (grpN B (hCnt (sH A) 0))) ν2 := by rw [← hE2]; exact q5
  refine ⟨B, ν2, ?_, p2.tr q2, q3, q4⟩
  rw [p1', m_oddsO ok h1 N (by omega) r0 (fun q hq => Nat.zero_le _), z_bn_sm, q1, q5', ← hE3]
theorem op_children {A : aS} {μ ν : z_S} (ok : okS A) (hc : cS A μ) (hm : mS A ν) (N : Nat) (hN : 50000000 ≤ N) (a : Int32) : z_Op (f_X11_children N a μ) (f_X12_children N a ν) := by
  have h8 := ok.2.2.1.1
  obtain ⟨R, μ', p1, p2, p3, p4, p5⟩ := c_groups ok.2.2.1 (z_hn_k _) (hn56 _) N (by omega) hc.2.2.2.2.2.2.2.1
  obtain ⟨B, ν', q1, q2, q3, q4⟩ := m_kids ok hm N hN a
  have er := bstK_uniq p5 q4
  unfold f_X11_children f_X12_children f_X11_children_B15
  by_cases c : a = (-1 : Int32)
  · rw [if_pos c, if_pos c, q1, p1, z_bn_sm, if_pos c, if_pos c, p3, grp_same (R := R) (S := B) _ er]
    exact ⟨_, _, _, rfl, rfl, A, ok, p2.cS ok hc, q2.w.mS hm⟩
  · rw [if_neg c, if_neg c, c_isL ok hc, z_bn_sm, m_isL ok hm, z_bn_sm]
    by_cases hl : 0 ≤ a.toInt ∧ a.toInt < hCnt (sH A) 0
    · obtain ⟨l, hl1, rfl⟩ := small hl (by omega)
      rw [if_pos hl, if_neg (by decide), if_neg (by decide), q1, p1, z_bn_sm, if_neg c, if_neg c, z_in_nI (show l < 8 by omega) (by decide), z_in_nI (show l < 8 by omega) (by decide), nI_toNat (by omega), p4 l hl1, q3 l (by omega), er l hl1]
      exact ⟨_, _, _, rfl, rfl, A, ok, p2.cS ok hc, q2.w.mS hm⟩
    · rw [if_neg hl, if_pos rfl, if_pos rfl]
      exact ⟨_, _, _, rfl, rfl, A, ok, hc, hm⟩
