/-! the reference lays sheets -/
def sFr (ν ν' : z_S) : Prop := ν'.2 = ν.2 ∧ ∀ a j, a ≠ 298 → ν'.1 a j = ν.1 a j
theorem sFr.rf (ν : z_S) : sFr ν ν := ⟨rfl, fun _ _ _ => rfl⟩
theorem sFr.tr {ν ν1 ν2 : z_S} (h : sFr ν ν1) (g : sFr ν1 ν2) : sFr ν ν2 := ⟨g.1.trans h.1, fun a j h1 => (g.2 a j h1).trans (h.2 a j h1)⟩
theorem sFr.w {ν ν' : z_S} (h : sFr ν ν') : wFr ν ν' := ⟨by rw [h.1], fun a j _ q => h.2 a j (by omega), fun a j _ _ _ => by rw [h.1]⟩
theorem sFr.set (ν : z_S) (j : Nat) (x : Int32) : sFr ν (z_setI ν 298 j x) := ⟨rfl, fun a j' h => by rw [sI_1, if_neg (fun z => h z.1)]⟩
theorem nI_dn (l : Nat) : nI (l + 1) + (-1 : Int32) = nI l := by
  rw [← nI_1 l, Int32.add_assoc, show (1 : Int32) + (-1) = 0 by decide, Int32.add_zero]
theorem m_lM {A : aS} {ν : z_S} (h : mS A ν) {N : Nat} : f_X12_letterMany N ν = some (nI (hCnt (sH A) 0), ν) := by
  unfold f_X12_letterMany
  rw [show ν.1 284 (5 + 0) = nI (hCnt (sH A) 0) from h.2.2.2.2.2.2.1.1 0 (by decide)]
theorem m_apart {A : aS} {ν : z_S} (ok : okS A) (h : mS A ν) (N : Nat) (hN : 10 ≤ N) {l : Nat} (hl : l < hCnt (sH A) 0) {P : Nat → Nat} (hP : rowM 298 P ν) (hb : ∀ q, q ≤ l → P q ≤ 100) : ∃ b, f_X12_isApart N (nI l) ν = some (b, ν) ∧ ((b = 1 ∧ ∀ i, i < l → hNear (sH A) l i = true → P i ≠ P l) ∨ (b = 0 ∧ ∃ i, i < l ∧ hNear (sH A) l i = true ∧ P i = P l)) := by
  have h8 := ok.2.2.1.1
  have hn : ∀ l, l < 8 → ν.1 289 (8 + l) = nI (nearB (sH A) l) := h.2.2.2.2.2.2.1.2.2.2.1
  have e8 : (8 : Int32) + nI l = nI (8 + l) := nI_add 8 l
  have key : ∀ f i, i ≤ l → l - i < f → (∀ j, j < i → hNear (sH A) l j = true → P j ≠ P l) → ∃ b, f_X12_isApart_L2 N (nI l) f (nI i) ν = some (b, ν) ∧ ((b = 1 ∧ ∀ i, i < l → hNear (sH A) l i = true → P i ≠ P l) ∨ (b = 0 ∧ ∃ i, i < l ∧ hNear (sH A) l i = true ∧ P i = P l)) := by
    intro f
    induction f with
    | zero => intro i h1 h2; omega
    | succ f ih =>
      intro i h1 h2 hj
      show ∃ b, b_X12_isApart_L2 N (nI l) (f_X12_isApart_L2 N (nI l) f) (nI i) ν = _ ∧ _
      unfold b_X12_isApart_L2 f_X12_isApart_B41
      by_cases hlt : i < l
      · have ek : nI i + 1 = nI (i + 1) := nI_1 i
        rw [if_pos (nI_lt hlt (by omega)), e8, z_in_nI (show 8 + l < 16 by omega) (by decide), nI_toNat (show 8 + l < 2 ^ 31 by omega), hn l (by omega), z_bd_eq, ek]
        by_cases cn : hNear (sH A) l i = true
        · rw [if_pos ((near_bit (sH A) l (by omega)).mpr cn), z_in_nI (show i < 8 by omega) (by decide), z_in_nI (show l < 8 by omega) (by decide), nI_toNat (show i < 2 ^ 31 by omega), nI_toNat (show l < 2 ^ 31 by omega), hP i (by omega), hP l (by omega)]
          have b1 := hb i (by omega)
          have b2 := hb l (by omega)
          by_cases cp : P i = P l
          · rw [if_pos (by rw [cp])]
            exact ⟨0, rfl, Or.inr ⟨rfl, i, hlt, cn, cp⟩⟩
          · rw [if_neg (fun z => cp ((nI_eq (by omega) (by omega)).mp z))]
            refine ih (i + 1) (by omega) (by omega) (fun j hj1 hn => ?_)
            by_cases z : j = i
            · rw [z]; exact cp
            · exact hj j (by omega) hn
        · rw [if_neg (fun z => cn ((near_bit (sH A) l (by omega)).mp z))]
          refine ih (i + 1) (by omega) (by omega) (fun j hj1 hn => ?_)
          by_cases z : j = i
          · rw [z] at hn; exact absurd hn cn
          · exact hj j (by omega) hn
      · have : i = l := by omega
        subst this
        rw [if_neg (nI_nlt (Nat.le_refl _) (by omega))]
        exact ⟨1, rfl, Or.inl ⟨rfl, hj⟩⟩
  exact key N 0 (Nat.zero_le _) (by omega) (fun j hj => by omega)
def tS : Nat → Nat
  | 0 => 1
  | m + 1 => 9 * (1 + tS m)
def upS (P : Nat → Nat) (l c : Nat) : Nat → Nat := fun q => if q = l then c else P q
theorem upS_M {P : Nat → Nat} {ν : z_S} (h : rowM 298 P ν) (l c : Nat) : rowM 298 (upS P l c) (z_setI ν 298 l (nI c)) := fun q hq => by
  rw [sI_1]
  show _ = nI (if q = l then c else P q)
  by_cases z : q = l
  · rw [if_pos ⟨rfl, z⟩, if_pos z]
  · rw [if_neg (fun y => z y.2), if_neg z]; exact h q hq
theorem m_lay {A : aS} (ok : okS A) (N : Nat) (hN : 20 ≤ N) {k : Nat} (hk : k ≤ 8) (e : Int32 → z_S → Option (Int32 × z_S)) : ∀ m l f ν (P : Nat → Nat), l + m = hCnt (sH A) 0 → tS m ≤ f → mS A ν → rowM 298 P ν → (∀ q, l ≤ q → P q = 0) → (∀ q, q < l → 1 ≤ P q ∧ P q ≤ k ∧ ∀ i, i < q → hNear (sH A) q i = true → P i ≠ P q) →
    (∃ R ν', f_X12_laysSheets_L23 N (nI k) e f (nI l) ν = e (nI (hCnt (sH A) 0)) ν' ∧ sFr ν ν' ∧ rowM 298 R ν' ∧ (∀ q, q < l → R q = P q) ∧ prS (sH A) k R ∧ ∀ S, prS (sH A) k S → (∀ q, q < l → S q = P q) → lexB (hCnt (sH A) 0) l R S) ∨
    (∃ f' ν', f_X12_laysSheets_L23 N (nI k) e f (nI l) ν = f_X12_laysSheets_L23 N (nI k) e f' (nI l + (-1)) ν' ∧ f ≤ f' + tS m ∧ sFr ν ν' ∧ rowM 298 P ν' ∧ ∀ S, prS (sH A) k S → (∀ q, q < l → S q = P q) → False) := by
  have h8 := ok.2.2.1.1
  intro m
  induction m with
  | zero =>
    intro l f ν P h1 h2 h hr hz hP
    obtain ⟨f, rfl⟩ : ∃ f', f = f' + 1 := ⟨f - 1, by have : tS 0 = 1 := rfl; omega⟩
    have hl : l = hCnt (sH A) 0 := by omega
    refine Or.inl ⟨P, ν, ?_, sFr.rf ν, hr, fun _ _ => rfl, fun q hq => hP q (by omega), fun S _ _ => Or.inl (fun q a b => by omega)⟩
    show b_X12_laysSheets_L23 N (nI k) (f_X12_laysSheets_L23 N (nI k) e f) e (nI l) ν = _
    unfold b_X12_laysSheets_L23
    rw [if_neg (show ¬ nI l < (0 : Int32) from nI_nlt (b := 0) (Nat.zero_le _) (by omega)), m_lM h, z_bn_sm, if_neg (nI_nlt (by omega) (by omega)), hl]
  | succ m ih =>
    intro l f ν P h1 h2 h hr hz hP
    have hl : l < hCnt (sH A) 0 := by omega
    have et : tS (m + 1) = 9 * (1 + tS m) := rfl
    have el : nI l + (1 : Int32) = nI (l + 1) := nI_1 l
    have key : ∀ d c g ν1, c + d = k → (d + 1) * (1 + tS m) ≤ g → sFr ν ν1 → rowM 298 (upS P l c) ν1 → (∀ S, prS (sH A) k S → (∀ q, q < l → S q = P q) → S l ≤ c → False) →
        (∃ R ν', f_X12_laysSheets_L23 N (nI k) e g (nI l) ν1 = e (nI (hCnt (sH A) 0)) ν' ∧ sFr ν ν' ∧ rowM 298 R ν' ∧ (∀ q, q < l → R q = P q) ∧ prS (sH A) k R ∧ ∀ S, prS (sH A) k S → (∀ q, q < l → S q = P q) → lexB (hCnt (sH A) 0) l R S) ∨
        (∃ f' ν', f_X12_laysSheets_L23 N (nI k) e g (nI l) ν1 = f_X12_laysSheets_L23 N (nI k) e f' (nI l + (-1)) ν' ∧ g ≤ f' + (d + 1) * (1 + tS m) ∧ sFr ν ν' ∧ rowM 298 P ν' ∧ ∀ S, prS (sH A) k S → (∀ q, q < l → S q = P q) → False) := by
      intro d
      induction d with
      | zero =>
        intro c g ν1 g1 g2 fr1 r1 hno
        obtain ⟨g, rfl⟩ : ∃ g', g = g' + 1 := ⟨g - 1, by omega⟩
        have ec : nI c + 1 = nI (c + 1) := nI_1 c
        have hul : upS P l c l = c := if_pos rfl
        refine Or.inr ⟨g, z_setI (z_setI ν1 298 l (nI (c + 1))) 298 l 0, ?_, by omega, fr1.tr ((sFr.set _ _ _).tr (sFr.set _ _ _)), ?_, fun S hS hSP => hno S hS hSP ?_⟩
        · show b_X12_laysSheets_L23 N (nI k) (f_X12_laysSheets_L23 N (nI k) e g) e (nI l) ν1 = _
          unfold b_X12_laysSheets_L23
          rw [if_neg (show ¬ nI l < (0 : Int32) from nI_nlt (b := 0) (Nat.zero_le _) (by omega)), m_lM (fr1.w.mS h), z_bn_sm, if_pos (nI_lt hl (by omega)), z_in_nI (show l < 8 by omega) (by decide), z_in_nI (show l < 8 by omega) (by decide), nI_toNat (show l < 2 ^ 31 by omega), r1 l (by omega), hul, ec, z_bd_eq, z_in_nI (show l < 8 by omega) (by decide), sI_1, if_pos (show 298 = 298 ∧ l = l from ⟨rfl, rfl⟩), if_pos (nI_lt (show k < c + 1 by omega) (by omega)), z_in_nI (show l < 8 by omega) (by decide)]
          rfl
        · intro q hq
          rw [sI_1]
          by_cases z : q = l
          · rw [if_pos ⟨rfl, z⟩, hz q (by omega)]; rfl
          · rw [if_neg (fun y => z y.2), sI_1, if_neg (fun y => z y.2), r1 q hq]
            show nI (if q = l then c else P q) = _
            rw [if_neg z]
        · have := (hS l hl).2.1
          omega
      | succ d ih2 =>
        intro c g ν1 g1 g2 fr1 r1 hno
        have em : (d + 1 + 1) * (1 + tS m) = (d + 1) * (1 + tS m) + (1 + tS m) := Nat.succ_mul _ _
        generalize hX : (d + 1) * (1 + tS m) = X at *
        obtain ⟨g, rfl⟩ : ∃ g', g = g' + 1 := ⟨g - 1, by omega⟩
        have ec : nI c + 1 = nI (c + 1) := nI_1 c
        have hul : upS P l c l = c := if_pos rfl
        generalize hν2 : z_setI ν1 298 l (nI (c + 1)) = ν2
        have fr2 : sFr ν ν2 := by rw [← hν2]; exact fr1.tr (sFr.set _ _ _)
        have r2 : rowM 298 (upS P l (c + 1)) ν2 := by
          have := upS_M r1 l (c + 1)
          rw [hν2] at this
          intro q hq
          rw [this q hq]
          show nI (if q = l then c + 1 else if q = l then c else P q) = nI (if q = l then c + 1 else P q)
          by_cases z : q = l
          · rw [if_pos z, if_pos z]
          · rw [if_neg z, if_neg z, if_neg z]
        have hul2 : upS P l (c + 1) l = c + 1 := if_pos rfl
        have huo : ∀ q, q ≠ l → upS P l (c + 1) q = P q := fun q hq => if_neg hq
        obtain ⟨b, w1, w2⟩ := m_apart ok (fr2.w.mS h) N (by omega) hl r2 (fun q hq => by
          by_cases z : q = l
          · rw [z, hul2]; omega
          · rw [huo q z]
            have := (hP q (by omega)).2.1
            omega)
        have e1 : f_X12_laysSheets_L23 N (nI k) e (g + 1) (nI l) ν1 = if b = 0 then f_X12_laysSheets_L23 N (nI k) e g (nI l) ν2 else f_X12_laysSheets_L23 N (nI k) e g (nI (l + 1)) ν2 := by
          show b_X12_laysSheets_L23 N (nI k) (f_X12_laysSheets_L23 N (nI k) e g) e (nI l) ν1 = _
          unfold b_X12_laysSheets_L23
          rw [if_neg (show ¬ nI l < (0 : Int32) from nI_nlt (b := 0) (Nat.zero_le _) (by omega)), m_lM (fr1.w.mS h), z_bn_sm, if_pos (nI_lt hl (by omega)), z_in_nI (show l < 8 by omega) (by decide), z_in_nI (show l < 8 by omega) (by decide), nI_toNat (show l < 2 ^ 31 by omega), r1 l (by omega), hul, ec, hν2, z_bd_eq, z_in_nI (show l < 8 by omega) (by decide), r2 l (by omega), hul2, if_neg (nI_nlt (by omega) (by omega)), w1, z_bn_sm, el]
          rfl
        have next : ∀ g3 ν3, X ≤ g3 → sFr ν ν3 → rowM 298 (upS P l (c + 1)) ν3 → (∀ S, prS (sH A) k S → (∀ q, q < l → S q = P q) → S l = c + 1 → False) →
            (∃ R ν', f_X12_laysSheets_L23 N (nI k) e g3 (nI l) ν3 = e (nI (hCnt (sH A) 0)) ν' ∧ sFr ν ν' ∧ rowM 298 R ν' ∧ (∀ q, q < l → R q = P q) ∧ prS (sH A) k R ∧ ∀ S, prS (sH A) k S → (∀ q, q < l → S q = P q) → lexB (hCnt (sH A) 0) l R S) ∨
            (∃ f' ν', f_X12_laysSheets_L23 N (nI k) e g3 (nI l) ν3 = f_X12_laysSheets_L23 N (nI k) e f' (nI l + (-1)) ν' ∧ g3 ≤ f' + X ∧ sFr ν ν' ∧ rowM 298 P ν' ∧ ∀ S, prS (sH A) k S → (∀ q, q < l → S q = P q) → False) := by
          intro g3 ν3 k1 k2 k3 k4
          refine ih2 (c + 1) g3 ν3 (by omega) k1 k2 k3 (fun S hS hSP hle => ?_)
          by_cases z : S l = c + 1
          · exact k4 S hS hSP z
          · exact hno S hS hSP (by omega)
        rw [e1]
        rcases w2 with ⟨rfl, w2⟩ | ⟨rfl, i, i1, i2, i3⟩
        · rw [if_neg (by decide)]
          rcases ih (l + 1) g ν2 (upS P l (c + 1)) (by omega) (by omega) (fr2.w.mS h) r2 (fun q hq => by rw [huo q (by omega)]; exact hz q (by omega)) (fun q hq => by
            by_cases z : q = l
            · subst z
              rw [hul2]
              refine ⟨by omega, by omega, fun i hi hn => ?_⟩
              have := w2 i hi hn
              rw [hul2] at this
              exact this
            · rw [huo q z]
              obtain ⟨y1, y2, y3⟩ := hP q (by omega)
              refine ⟨y1, y2, fun i hi hn => ?_⟩
              rw [huo i (by omega)]
              exact y3 i hi hn) with ⟨R, ν', p1, p2, p3, p4, p5, p6⟩ | ⟨f', ν', p1, p2, p3, p4, p5⟩
          · have hRl : R l = c + 1 := by rw [p4 l (by omega)]; exact hul2
            refine Or.inl ⟨R, ν', p1, fr2.tr p2, p3, fun q hq => by rw [p4 q (by omega)]; exact huo q (by omega), p5, fun S hS hSP => lexB_step hl ?_⟩
            rw [hRl]
            rcases Nat.lt_trichotomy (S l) (c + 1) with y | y | y
            · exact absurd (hno S hS hSP (by omega)) (fun z => z)
            · refine Or.inr ⟨y.symm, p6 S hS (fun q hq => ?_)⟩
              by_cases z : q = l
              · rw [z, hul2]; exact y
              · rw [huo q z]; exact hSP q (by omega)
            · exact Or.inl y
          · have e3 : nI (l + 1) + (-1 : Int32) = nI l := nI_dn l
            rw [p1, e3]
            rcases next f' ν' (by omega) (fr2.tr p3) p4 (fun S hS hSP hSl => p5 S hS (fun q hq => by
              by_cases z : q = l
              · rw [z, hul2]; exact hSl
              · rw [huo q z]; exact hSP q (by omega))) with y | ⟨f2, ν4, q1, q2, q3⟩
            · exact Or.inl y
            · exact Or.inr ⟨f2, ν4, q1, by omega, q3⟩
        · rw [if_pos rfl]
          rcases next g ν2 (by omega) fr2 r2 (fun S hS hSP hSl => by
            have := (hS l hl).2.2 i i1 i2
            rw [hSP i i1, hSl] at this
            rw [huo i (by omega), hul2] at i3
            exact this i3) with y | ⟨f2, ν4, q1, q2, q3⟩
          · exact Or.inl y
          · exact Or.inr ⟨f2, ν4, q1, by omega, q3⟩
    have hle : (k + 1) * (1 + tS m) ≤ 9 * (1 + tS m) := Nat.mul_le_mul_right _ (by omega)
    rcases key k 0 f ν (by omega) (by omega) (sFr.rf ν) (fun q hq => by
      rw [hr q hq]
      show nI (P q) = nI (if q = l then 0 else P q)
      by_cases z : q = l
      · rw [if_pos z, hz q (by omega)]
      · rw [if_neg z]) (fun S hS _ hle => by have := (hS l hl).1; omega) with y | ⟨f2, ν4, q1, q2, q3⟩
    · exact Or.inl y
    · exact Or.inr ⟨f2, ν4, q1, by omega, q3⟩
theorem m_zeroS (N : Nat) (c1 : Int32) (e : z_S → Option (Int32 × z_S)) : ∀ f l ν, l ≤ 8 → 8 - l < f → (∀ k, k < l → ν.1 298 k = 0) → ∃ ν', f_X12_laysSheets_L2 N c1 e f (nI l) ν = e ν' ∧ sFr ν ν' ∧ ∀ k, k < 8 → ν'.1 298 k = 0 := by
  intro f
  induction f with
  | zero => intro l ν h1 h2; omega
  | succ f ih =>
    intro l ν h1 h2 h3
    show ∃ ν', b_X12_laysSheets_L2 N c1 (f_X12_laysSheets_L2 N c1 e f) e (nI l) ν = _ ∧ _
    unfold b_X12_laysSheets_L2
    by_cases hlt : l < 8
    · have ek : nI l + 1 = nI (l + 1) := nI_1 l
      rw [if_pos (show nI l < (8 : Int32) from nI_lt (b := 8) hlt (by decide)), z_in_nI hlt (by decide), z_bd_eq, z_bd_eq, ek, nI_toNat (by omega)]
      obtain ⟨ν', r1, r2, r3⟩ := ih (l + 1) (z_setI ν 298 l 0) (by omega) (by omega) (fun k hk => by
        rw [sI_1]
        by_cases z : k = l
        · rw [if_pos ⟨rfl, z⟩]
        · rw [if_neg (fun q => z q.2)]
          exact h3 k (by omega))
      exact ⟨ν', r1, (sFr.set _ _ _).tr r2, r3⟩
    · have : l = 8 := by omega
      subst this
      rw [if_neg (show ¬ nI 8 < (8 : Int32) by decide)]
      exact ⟨ν, rfl, sFr.rf ν, h3⟩
theorem tS_le : ∀ m, m ≤ 8 → tS m ≤ 100000000 := by decide +kernel
theorem m_lays1 {A : aS} (ok : okS A) (N : Nat) (hN : 200000000 ≤ N) {k : Nat} (hk : k ≤ 8) {ν : z_S} (h : mS A ν) : ∃ b ν', f_X12_laysSheets N (nI k) ν = some (b, ν') ∧ sFr ν ν' ∧ ((b = 1 ∧ ∃ R, rowM 298 R ν' ∧ prS (sH A) k R ∧ ∀ S, prS (sH A) k S → lexB (hCnt (sH A) 0) 0 R S) ∨ (b = 0 ∧ ∀ S, prS (sH A) k S → False)) := by
  have h8 := ok.2.2.1.1
  obtain ⟨ν1, q1, q2, q3⟩ := m_zeroS N (nI k) (fun μ21 => f_X12_laysSheets_L23 N (nI k) (fun y82_2 μ82 => f_X12_laysSheets_B82 N y82_2 μ82) N (0 : Int32) μ21) N 0 ν (by omega) (by omega) (fun k hk => by omega)
  have q1' : f_X12_laysSheets N (nI k) ν = f_X12_laysSheets_L23 N (nI k) (fun y82_2 μ82 => f_X12_laysSheets_B82 N y82_2 μ82) N (0 : Int32) ν1 := q1
  have tl := tS_le (hCnt (sH A) 0) h8
  rcases m_lay ok N (by omega) hk (fun y82_2 μ82 => f_X12_laysSheets_B82 N y82_2 μ82) (hCnt (sH A) 0) 0 N ν1 (fun _ => 0) (by omega) (by omega) (q2.w.mS h) (fun q hq => q3 q hq) (fun _ _ => rfl) (fun q hq => by omega) with ⟨R, ν', p1, p2, p3, p4, p5, p6⟩ | ⟨f', ν', p1, p2, p3, p4, p5⟩
  · have p1' : f_X12_laysSheets_L23 N (nI k) (fun y82_2 μ82 => f_X12_laysSheets_B82 N y82_2 μ82) N (0 : Int32) ν1 = f_X12_laysSheets_B82 N (nI (hCnt (sH A) 0)) ν' := p1
    refine ⟨1, ν', ?_, q2.tr p2, Or.inl ⟨rfl, R, p3, p5, fun S hS => p6 S hS (fun q hq => by omega)⟩⟩
    rw [q1', p1']
    unfold f_X12_laysSheets_B82
    rw [if_neg (show ¬ nI (hCnt (sH A) 0) < (0 : Int32) from nI_nlt (b := 0) (Nat.zero_le _) (by omega))]
  · obtain ⟨f', rfl⟩ : ∃ g, f' = g + 1 := ⟨f' - 1, by omega⟩
    have p1' : f_X12_laysSheets_L23 N (nI k) (fun y82_2 μ82 => f_X12_laysSheets_B82 N y82_2 μ82) N (0 : Int32) ν1 = b_X12_laysSheets_L23 N (nI k) (f_X12_laysSheets_L23 N (nI k) (fun y82_2 μ82 => f_X12_laysSheets_B82 N y82_2 μ82) f') (fun y82_2 μ82 => f_X12_laysSheets_B82 N y82_2 μ82) (nI 0 + (-1)) ν' := p1
    refine ⟨0, ν', ?_, q2.tr p3, Or.inr ⟨rfl, fun S hS => p5 S hS (fun q hq => by omega)⟩⟩
    rw [q1', p1']
    unfold b_X12_laysSheets_L23 f_X12_laysSheets_B82
    rw [if_pos (show nI 0 + (-1) < (0 : Int32) by decide)]
    exact if_pos (by decide)
/-- the fewest kinds, and of the rows with those the first -/
def shB (h : aH) (K : Nat) (R : Nat → Nat) : Prop := K ≤ 8 ∧ prS h K R ∧ (∀ k, k < K → ∀ S, prS h k S → False) ∧ ∀ S, prS h K S → lexB (hCnt h 0) 0 R S
theorem prS_8 {h : aH} (ok : okH h) : prS h 8 (fun q => q + 1) := fun l hl => by
  have := ok.1
  exact ⟨show 1 ≤ l + 1 by omega, show l + 1 ≤ 8 by omega, fun i hi _ => show i + 1 ≠ l + 1 by omega⟩
theorem shB_uniq {h : aH} {K K' : Nat} {R R' : Nat → Nat} (a : shB h K R) (b : shB h K' R') : K = K' ∧ ∀ l, l < hCnt h 0 → R l = R' l := by
  have e : K = K' := by
    rcases Nat.lt_trichotomy K K' with y | y | y
    · exact absurd (b.2.2.1 K y R a.2.1) (fun z => z)
    · exact y
    · exact absurd (a.2.2.1 K' y R' b.2.1) (fun z => z)
  subst e
  exact ⟨rfl, lexB_anti (a.2.2.2 R' b.2.1) (b.2.2.2 R a.2.1)⟩
theorem m_sheetsL {A : aS} (ok : okS A) (N : Nat) (hN : 200000000 ≤ N) (c1 : Int32) (e : Int32 → z_S → Option (Int32 × z_S)) : ∀ d k f ν, k + d = 8 → d < f → mS A ν → (∀ j, j < k → ∀ S, prS (sH A) j S → False) → ∃ K R ν', f_X12_sheets_L17 N c1 e f (nI k) ν = e (nI K) ν' ∧ sFr ν ν' ∧ rowM 298 R ν' ∧ shB (sH A) K R := by
  intro d
  induction d with
  | zero =>
    intro k f ν h1 h2 h hno
    obtain ⟨f, rfl⟩ : ∃ g, f = g + 1 := ⟨f - 1, by omega⟩
    obtain ⟨b, ν', p1, p2, p3⟩ := m_lays1 ok N hN (show k ≤ 8 by omega) h
    show ∃ K R ν', b_X12_sheets_L17 N c1 (f_X12_sheets_L17 N c1 e f) e (nI k) ν = _ ∧ _
    unfold b_X12_sheets_L17
    rw [p1, z_bn_sm]
    rcases p3 with ⟨rfl, R, r1, r2, r3⟩ | ⟨rfl, p3⟩
    · rw [if_neg (by decide)]
      exact ⟨k, R, ν', rfl, p2, r1, by omega, r2, hno, r3⟩
    · have : k = 8 := by omega
      subst this
      exact absurd (p3 _ (prS_8 ok.2.2.1)) (fun z => z)
  | succ d ih =>
    intro k f ν h1 h2 h hno
    obtain ⟨f, rfl⟩ : ∃ g, f = g + 1 := ⟨f - 1, by omega⟩
    obtain ⟨b, ν', p1, p2, p3⟩ := m_lays1 ok N hN (show k ≤ 8 by omega) h
    show ∃ K R ν', b_X12_sheets_L17 N c1 (f_X12_sheets_L17 N c1 e f) e (nI k) ν = _ ∧ _
    unfold b_X12_sheets_L17
    have ek : nI k + 1 = nI (k + 1) := nI_1 k
    rw [p1, z_bn_sm]
    rcases p3 with ⟨rfl, R, r1, r2, r3⟩ | ⟨rfl, p3⟩
    · rw [if_neg (by decide)]
      exact ⟨k, R, ν', rfl, p2, r1, by omega, r2, hno, r3⟩
    · rw [if_pos rfl, z_bd_eq, ek]
      obtain ⟨K, R, ν2, q1, q2, q3, q4⟩ := ih (k + 1) f ν' (by omega) (by omega) (p2.w.mS h) (fun j hj S hS => by
        by_cases z : j = k
        · rw [z] at hS; exact p3 S hS
        · exact hno j (by omega) S hS)
      exact ⟨K, R, ν2, q1, p2.tr q2, q3, q4⟩
theorem c_sheetsL {h : aH} {o : Nat} (ok : okH h) (hk : z_kw true o = (2, 0)) (ho : 56 ≤ o) (N : Nat) (hN : 20 ≤ N) (e : Int32 → z_S → Option (Unit × z_S)) : ∀ d k f μ, k + d = 8 → d < f → cH o h μ → (∀ j, j < k → ∀ S, prS h j S → False) → ∃ K R μ', f_X7_chooseSheets_L7 N o e f (nI k) μ = e (nI K) μ' ∧ oFr μ μ' ∧ (∀ q, q < hCnt h 0 → μ'.1 35 q = nI (R q)) ∧ shB h K R := by
  have h8 := ok.1
  intro d
  induction d with
  | zero =>
    intro k f μ h1 h2 hc hno
    obtain ⟨f, rfl⟩ : ∃ g, f = g + 1 := ⟨f - 1, by omega⟩
    obtain ⟨b, μ', p1, p2, p3, p4⟩ := c_paint ok hk ho N hN (show k ≤ 8 by omega) (hCnt h 0) 0 0 μ 12 (fun _ => 0) (by omega) (by omega) (Nat.zero_le _) hc (fun q hq => by omega)
    have p1' : f_X7_paint N 12 o (0 : Int32) (0 : Int32) (nI k) μ = _ := p1
    show ∃ K R μ', b_X7_chooseSheets_L7 N o (f_X7_chooseSheets_L7 N o e f) e (nI k) μ = _ ∧ _
    unfold b_X7_chooseSheets_L7
    rw [if_neg (show ¬ (8 : Int32) < nI k from nI_nlt (a := 8) (by omega) (by decide)), p1', z_bn_sm]
    rcases p4 with ⟨rfl, R, r1, r2, r3, r4⟩ | ⟨rfl, p4⟩
    · rw [if_neg (by decide)]
      exact ⟨k, R, μ', rfl, ⟨by rw [p2], fun a j q => p3 a j (by omega)⟩, r2, by omega, r3, hno, fun S hS => r4 S hS (fun q hq => by omega)⟩
    · have : k = 8 := by omega
      subst this
      exact absurd (p4 _ (prS_8 ok) (fun q hq => by omega)) (fun z => z)
  | succ d ih =>
    intro k f μ h1 h2 hc hno
    obtain ⟨f, rfl⟩ : ∃ g, f = g + 1 := ⟨f - 1, by omega⟩
    obtain ⟨b, μ', p1, p2, p3, p4⟩ := c_paint ok hk ho N hN (show k ≤ 8 by omega) (hCnt h 0) 0 0 μ 12 (fun _ => 0) (by omega) (by omega) (Nat.zero_le _) hc (fun q hq => by omega)
    have p1' : f_X7_paint N 12 o (0 : Int32) (0 : Int32) (nI k) μ = _ := p1
    have fr1 : oFr μ μ' := ⟨by rw [p2], fun a j q => p3 a j (by omega)⟩
    have ek : nI k + 1 = nI (k + 1) := nI_1 k
    show ∃ K R μ', b_X7_chooseSheets_L7 N o (f_X7_chooseSheets_L7 N o e f) e (nI k) μ = _ ∧ _
    unfold b_X7_chooseSheets_L7
    rw [if_neg (show ¬ (8 : Int32) < nI k from nI_nlt (a := 8) (by omega) (by decide)), p1', z_bn_sm]
    rcases p4 with ⟨rfl, R, r1, r2, r3, r4⟩ | ⟨rfl, p4⟩
    · rw [if_neg (by decide)]
      exact ⟨k, R, μ', rfl, fr1, r2, by omega, r3, hno, fun S hS => r4 S hS (fun q hq => by omega)⟩
    · rw [if_pos rfl, z_bd_eq, ek]
      obtain ⟨K, R, μ2, q1, q2, q3, q4⟩ := ih (k + 1) f μ' (by omega) (by omega) (fr1.cH ok ho hc) (fun j hj S hS => by
        by_cases z : j = k
        · rw [z] at hS; exact p4 S hS (fun q hq => by omega)
        · exact hno j (by omega) S hS)
      exact ⟨K, R, μ2, q1, fr1.tr q2, q3, q4⟩
theorem c_sheets {h : aH} {o : Nat} (ok : okH h) (hk : z_kw true o = (2, 0)) (ho : 56 ≤ o) (N : Nat) (hN : 20 ≤ N) {μ : z_S} (hc : cH o h μ) : ∃ K R μ', f_X7_chooseSheets N o μ = some ((), μ') ∧ oFr μ μ' ∧ μ'.1 34 2 = nI K ∧ (∀ q, q < hCnt h 0 → μ'.1 35 q = nI (R q)) ∧ shB h K R := by
  have fr1 : oFr μ (z_setI μ 34 2 (0 : Int32)) := ⟨rfl, fun a j q => by rw [sI_1, if_neg (by omega)]⟩
  obtain ⟨K, R, μ', p1, p2, p3, p4⟩ := c_sheetsL ok hk ho N hN (fun y24_2 μ24 => z_bd (z_setI μ24 34 2 y24_2) fun μ_3 => some ((), μ_3)) 8 0 N (z_setI μ 34 2 (0 : Int32)) (by omega) (by omega) (fr1.cH ok ho hc) (fun j hj => by omega)
  have p1' : f_X7_chooseSheets_L7 N o (fun y24_2 μ24 => z_bd (z_setI μ24 34 2 y24_2) fun μ_3 => some ((), μ_3)) N (0 : Int32) (z_setI μ 34 2 (0 : Int32)) = some ((), z_setI μ' 34 2 (nI K)) := p1
  refine ⟨K, R, z_setI μ' 34 2 (nI K), ?_, fr1.tr (p2.tr ⟨rfl, fun a j q => by rw [sI_1, if_neg (by omega)]⟩), by rw [sI_1, if_pos ⟨rfl, rfl⟩], fun q hq => by rw [sI_1, if_neg (by omega)]; exact p3 q hq, p4⟩
  unfold f_X7_chooseSheets
  rw [z_ko_ok hk, z_bd_eq, p1']
theorem op_sheets {A : aS} {μ ν : z_S} (ok : okS A) (hc : cS A μ) (hm : mS A ν) (N : Nat) (hN : 200000000 ≤ N) (a : Int32) : z_Op (f_X11_sheets N a μ) (f_X12_sheets N a ν) := by
  have h8 := ok.2.2.1.1
  have ho : 56 ≤ z_hn μ.2.2.1 := by rcases z_hn_lt μ.2.2.1 with z | z <;> rw [z] <;> decide
  obtain ⟨K, R, μ', p1, p2, p3, p4, p5⟩ := c_sheets ok.2.2.1 (z_hn_k _) ho N (by omega) hc.2.2.2.2.2.2.2.1
  obtain ⟨K', R', ν', q1, q2, q3, q4⟩ := m_sheetsL ok N hN a (fun y31_2 μ31 => if a = (-1 : Int32) then (some (y31_2, μ31)) else z_in a 8 <| some ((μ31.1 298 a.toNatClampNeg), μ31)) 8 0 N ν (by omega) (by omega) hm (fun j hj => by omega)
  have q1' : f_X12_sheets_B15 N a ν = _ := q1
  obtain ⟨rfl, er⟩ := shB_uniq p5 q4
  unfold f_X11_sheets f_X12_sheets f_X11_sheets_B15
  by_cases c : a = (-1 : Int32)
  · rw [if_pos c, if_pos c, q1', p1, z_bn_sm, if_pos c, if_pos c, p3]
    exact ⟨_, _, _, rfl, rfl, A, ok, p2.cS ok hc, q2.w.mS hm⟩
  · rw [if_neg c, if_neg c, c_isL ok hc, z_bn_sm, m_isL ok hm, z_bn_sm]
    by_cases hl : 0 ≤ a.toInt ∧ a.toInt < hCnt (sH A) 0
    · obtain ⟨l, hl1, rfl⟩ := small hl (by omega)
      rw [if_pos hl, if_neg (by decide), if_neg (by decide), q1', p1, z_bn_sm, if_neg c, if_neg c, z_in_nI (show l < 8 by omega) (by decide), z_in_nI (show l < 8 by omega) (by decide), nI_toNat (by omega), p4 l hl1, q3 l (by omega), er l hl1]
      exact ⟨_, _, _, rfl, rfl, A, ok, p2.cS ok hc, q2.w.mS hm⟩
    · rw [if_neg hl, if_pos rfl, if_pos rfl]
      exact ⟨_, _, _, rfl, rfl, A, ok, hc, hm⟩
