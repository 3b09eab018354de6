/-! min, max, values and numbers of the reference -/
def kOf (v : Nat) : Nat := [1, 2, 3, 11, 17, 18, 19, 20, 21, 4].getD v 0
theorem kOf_is : ∀ k, k < 34 → ∀ v, v < 10 → pIx (nI k) = nI v → kOf v = k := by decide +kernel
theorem wk_part : ∀ v, v < 10 → wOK (319 + v) (kOf v) := by
  intro v hv
  have h : v = 0 ∨ v = 1 ∨ v = 2 ∨ v = 3 ∨ v = 4 ∨ v = 5 ∨ v = 6 ∨ v = 7 ∨ v = 8 ∨ v = 9 := by omega
  rcases h with rfl | rfl | rfl | rfl | rfl | rfl | rfl | rfl | rfl | rfl
  all_goals exact ⟨_, rfl, rfl, by decide⟩
theorem asksW (N : Nat) : ∀ v, v < 10 → ∀ ν, f_X12_qAsksWord N (nI v) ν = z_bn (f_X12_asks N (319 + v) ν) fun _ μ => some ((), μ) := by
  intro v hv ν
  have h : v = 0 ∨ v = 1 ∨ v = 2 ∨ v = 3 ∨ v = 4 ∨ v = 5 ∨ v = 6 ∨ v = 7 ∨ v = 8 ∨ v = 9 := by omega
  rcases h with rfl | rfl | rfl | rfl | rfl | rfl | rfl | rfl | rfl | rfl
  all_goals rfl
theorem tq_rest {t : Nat → Nat} {n q : Nat} {g as : Bool} {Q W : List Int32} {op base : Nat} {N : Nat} (hN : 1700 ≤ N) {f2 : Nat} {ν : z_S} (hm : mG t n q g ν) (h : qM as Q W op base ν) (h40 : ¬ tkS t n q = nI 40) (h26 : ¬ tkW t n q g = nI 26) (h27 : ¬ tkW t n q g = nI 27) (h6 : ¬ (as = true ∧ tkW t n q g = nI 6)) : ∃ ν1, yFr ν ν1 ∧ mA t n q g ν1 ∧ qM as Q W op base ν1 ∧ f_X12_qPartTold_L2 N (fun μ186 => f_X12_qPartTold_B186 N μ186) (f2 + 2) 1 ν = (if pPart as (tkW t n q g) = (-1 : Int32) then f_X12_qPartTold_B212 N (-1) ν1 else z_bn (f_X12_qAsksWord N (pPart as (tkW t n q g)) ν1) fun _ μ_18 => f_X12_qPartTold_B212 N (pPart as (tkW t n q g)) μ_18) := by
  obtain ⟨ν1, r2, r3, r4, r5⟩ := tq_head (f2 := f2 + 1) hN hm h
  refine ⟨ν1, r2, r3, r4, ?_⟩
  rw [r5, if_neg (show ¬ lk t n q = (40 : Int32) from fun z => h40 ((lk_S hm.1.2.2.2.1 sg_40).mp z)), if_neg h26, if_neg h27, if_neg h6]
  show f_X12_qPartTold_B186 N ν1 = _
  unfold f_X12_qPartTold_B186
  rw [if_pos r3.2.1, (m_wordOf N hN r3 r4.2.2.2.2.2.2).1, z_bn_sm]
  by_cases c : pPart as (tkW t n q g) = -1
  · rw [if_pos c, if_pos c, c]
  · rw [if_neg c, if_neg c]
theorem tq_val {t : Nat → Nat} {n q v : Nat} {g as : Bool} {Q W : List Int32} {op base : Nat} {N : Nat} (hN : 1700 ≤ N) {c1 : Int32} {E : z_S → Option (Unit × z_S)} {f1 f2 : Nat} {ν : z_S} (hm : mG t n q g ν) (h : qM as Q W op base ν) (hl : Q.length < 1680) (hv : v < 10) (hp : pPart as (tkW t n q g) = nI v) : ∃ ν', RT N c1 E f1 (f2 + 2) ν = RP N c1 E f1 N N ν' ∧ zFr ν ν' ∧ mG t n (nxQ t n q) (nxG t n q g) ν' ∧ qM as (Q ++ [nI (40 + v)]) W op base ν' := by
  have nm := nI_nm1 (k := v) (by omega)
  rcases pPart_is as (tkW t n q g) with y | ⟨v', k, k1, k2, k3, k4, k5, k6, k7, k8, k9⟩
  · rw [hp] at y; exact absurd y nm
  · have ev : v' = v := (nI_eq (by omega) (by omega)).mp (k3.symm.trans hp)
    subst ev
    have ek : kOf v' = k := kOf_is k k2 v' k1 (by rw [← k4]; exact k5)
    have hk := tkW_k k2 k4
    have h40 : ¬ tkS t n q = nI 40 := by rw [hk.2.2.2.2.2.2]; decide
    obtain ⟨ν1, r2, r3, r4, r5⟩ := tq_rest (f2 := f2) hN hm h h40 k8 k9 (fun z => k7 z.2)
    rw [hp, if_neg nm] at r5
    obtain ⟨ν2, s1, s2, s3⟩ := m_asks N hN (wk_part v' hv) r3.g
    rcases s3 with ⟨-, s3⟩ | ⟨z, -⟩
    · have hq2 := s2.qM r4
      obtain ⟨ν3, u1, u2, u3⟩ := m_code N hq2 (by omega) (nI (40 + v'))
      have hm3 := u2.mG s3
      refine ⟨ν3, ?_, r2.z.tr (s2.z.tr u2.z), hm3, u3⟩
      rw [← RT_P hm3.2.1]
      unfold RT
      rw [r5, asksW N v' hv, s1, z_bn_sm, z_bn_sm]
      unfold f_X12_qPartTold_B212 f_X12_qPartTold_B237
      rw [if_neg nm, show (40 : Int32) + nI v' = nI (40 + v') from nI_add 40 v', u1, z_bn_sm]
    · rw [ek] at z
      exact absurd k4 z
theorem tq_num {t : Nat → Nat} {n q : Nat} {g as : Bool} {Q W : List Int32} {op base : Nat} {N : Nat} (hN : 1700 ≤ N) {c1 : Int32} {E : z_S → Option (Unit × z_S)} {f1 f2 : Nat} {ν : z_S} (hm : mG t n q g ν) (h : qM as Q W op base ν) (hl : Q.length < 1680) (h40 : ¬ tkS t n q = nI 40) (h26 : ¬ tkW t n q g = nI 26) (h27 : ¬ tkW t n q g = nI 27) (h6 : ¬ (as = true ∧ tkW t n q g = nI 6)) (hp : pPart as (tkW t n q g) = -1) :
    (tkK t n q g = 2 ∧ tkE t n q ≤ q + 4 ∧ ∃ ν', RT N c1 E (f1 + 1) (f2 + 2) ν = RP N c1 E (f1 + 1) N N ν' ∧ zFr ν ν' ∧ mG t n (nxQ t n q) (nxG t n q g) ν' ∧ qM as (Q ++ [nI (1000 + numV t q (tkE t n q - q))]) W op base ν' ∧ numV t q (tkE t n q - q) ≤ 9999) ∨
    (¬ tkK t n q g = 2 ∧ ∃ ν', RT N c1 E (f1 + 1) (f2 + 2) ν = E ν' ∧ zFr ν ν' ∧ mB 1 q ν' ∧ mL ν') ∨ (tkK t n q g = 2 ∧ q + 4 < tkE t n q ∧ ∃ ν', RT N c1 E (f1 + 1) (f2 + 2) ν = E ν' ∧ zFr ν ν' ∧ mB 1 (q + 4) ν' ∧ mL ν') := by
  obtain ⟨ν1, r2, r3, r4, r5⟩ := tq_rest (f2 := f2) hN hm h h40 h26 h27 h6
  rw [if_pos hp] at r5
  obtain ⟨x, ν2, s1, s2, s3⟩ := m_number N hN r3.g (a := 0) (b := 9999) (by decide) (by decide)
  have s1' : f_X12_number N (0 : Int32) (9999 : Int32) ν1 = some (x, ν2) := s1
  have hq2 := s2.qM r4
  obtain ⟨ν3, u1, u2, u3⟩ := m_code N hq2 (by omega) ((1000 : Int32) + x)
  have fr := r2.z.tr (s2.z.tr u2.z)
  have head : f_X12_qPartTold_L2 N (fun μ186 => f_X12_qPartTold_B186 N μ186) (f2 + 2) 1 ν = z_bn (f_X12_qEndsPart N ν3) fun _ μ_17 => some ((), μ_17) := by
    rw [r5]
    unfold f_X12_qPartTold_B212 f_X12_qPartTold_B237
    rw [if_pos rfl, s1', z_bn_sm, u1, z_bn_sm]
  have bad : ∀ f p, 1 ≤ f ∧ f ≤ 5 → mB f p ν2 → ∃ ν', RT N c1 E (f1 + 1) (f2 + 2) ν = E ν' ∧ zFr ν ν' ∧ mB f p ν' ∧ mL ν' := fun f p hf hB => by
    have b3 : mB f p ν3 := ⟨by rw [u2.at (by omega)]; exact hB.1, by rw [u2.at (by omega)]; exact hB.2⟩
    have b5 := mB_ne b3 hf
    refine ⟨ν3, ?_, fr, b3, u3.l (by rw [snoc_len]; omega)⟩
    have ee : f_X12_qEndsPart N ν3 = some ((), ν3) := by
      obtain ⟨N, rfl⟩ : ∃ M, N = M + 1 := ⟨N - 1, by omega⟩
      show b_X12_qEndsPart_L0 (N + 1) _ ν3 = _
      unfold b_X12_qEndsPart_L0
      rw [if_neg b5]
    unfold RT
    rw [head, ee, z_bn_sm, z_bn_sm]
    exact aPa_bad b5
  rcases s3 with ⟨k1, k2, k3, k4, k5, k6⟩ | ⟨k1, k2⟩ | ⟨k1, k2, k3⟩ | ⟨k1, k2, k3, k4⟩
  · have hm3 := u2.mG k6
    left
    refine ⟨k1, k2, ν3, ?_, fr, hm3, ?_, k4⟩
    · rw [← RT_P hm3.2.1]
      unfold RT
      rw [head]
    · rw [k5, show (1000 : Int32) + nI (numV t q (tkE t n q - q)) = nI (1000 + numV t q (tkE t n q - q)) from nI_add 1000 _] at u3
      exact u3
  · right; left
    exact ⟨k1, bad 1 q (by omega) k2⟩
  · right; right
    exact ⟨k1, k2, bad 1 (q + 4) (by omega) k3⟩
  · exfalso
    apply k3
    refine ⟨Nat.zero_le _, ?_⟩
    have hk := tkK_2.mp k1
    have nl : ¬ ltB t q = true := fun z => by
      have w1 := ltB_t.mp z
      have w2 := dgB_t.mp hk.2.1
      omega
    have eE : tkE t n q = endE n (dgB t) q := by unfold tkE; rw [if_neg (by omega), if_neg nl, if_pos hk.2.1]
    have hb := endE_b (P := dgB t) (show q ≤ n by omega)
    have hv := numV_lt (t := t) (q := q) (tkE t n q - q) (fun k a b => hb.2.2.1 k a (by omega))
    have hpw := Nat.pow_le_pow_right (show 0 < 10 by decide) (show tkE t n q - q ≤ 4 by omega)
    have p4 : 10 ^ 4 = 10000 := by decide
    omega
theorem tq_min {t : Nat → Nat} {n q : Nat} {g as : Bool} {Q W : List Int32} {op base k : Nat} {N : Nat} (hN : 1700 ≤ N) {c1 : Int32} {E : z_S → Option (Unit × z_S)} {f1 f2 : Nat} {ν : z_S} (hm : mG t n q g ν) (h : qM as Q W op base ν) (hl : W.length < 1680) (ho : op ≤ 6) (hk : k = 26 ∨ k = 27) (hw : tkW t n q g = nI k) :
    (¬ tkS t n (nxQ t n q) = nI 40 ∧ ∃ ν', RT N c1 E (f1 + 1) (f2 + 2) ν = E ν' ∧ yFr ν ν' ∧ mB 1 (nxQ t n q) ν') ∨ (tkS t n (nxQ t n q) = nI 40 ∧ op = 6 ∧ ∃ ν', RT N c1 E (f1 + 1) (f2 + 2) ν = E ν' ∧ yFr ν ν' ∧ mB 4 (nxQ t n q) ν') ∨
    (tkS t n (nxQ t n q) = nI 40 ∧ op < 6 ∧ ∃ ν', RT N c1 E (f1 + 1) (f2 + 2) ν = RT N c1 E (f1 + 1) (f2 + 1) ν' ∧ zFr ν ν' ∧ mG t n (nxQ t n (nxQ t n q)) (nxG t n (nxQ t n q) (nxG t n q g)) ν' ∧ qM as Q (W ++ [if k = 26 then 21 else 22]) (op + 1) base ν') := by
  obtain ⟨ν1, r2, r3, r4, r5⟩ := tq_head (f2 := f2 + 1) hN hm h
  have n10 : ¬ (1 : Int32) = 0 := by decide
  have hkk := tkW_k (by omega) hw
  have ns : ¬ lk t n q = (40 : Int32) := fun z => by
    have := (lk_S hm.1.2.2.2.1 sg_40).mp z
    rw [hkk.2.2.2.2.2.2] at this
    exact absurd this (by decide)
  generalize hKB : f_X12_qPartTold_L2 N (fun μ186 => f_X12_qPartTold_B186 N μ186) (f2 + 1) = KB at *
  have key : ∃ ν2 v4, f_X12_qPartTold_L2 N (fun μ186 => f_X12_qPartTold_B186 N μ186) (f2 + 1 + 1) 1 ν = f_X12_qPartTold_B101 N KB (fun μ186 => f_X12_qPartTold_B186 N μ186) 1 v4 ν2 ∧ yFr ν1 ν2 ∧ mG t n (nxQ t n q) (nxG t n q g) ν2 ∧ (if v4 = 0 then (22 : Int32) else 21) = if k = 26 then 21 else 22 := by
    rw [if_neg ns] at r5
    rcases hk with rfl | rfl
    · rw [if_pos hw] at r5
      obtain ⟨b, ν2, s1, s2, s3⟩ := m_eats N hN wk_317 r3.g
      rcases s3 with ⟨-, rfl, s3⟩ | ⟨z, -, -⟩
      · refine ⟨ν2, 1, ?_, s2, s3, by rw [if_neg n10, if_pos rfl]⟩
        rw [r5]
        unfold f_X12_qPartTold_B78
        rw [s1, z_bn_sm, if_neg n10]
      · exact absurd hw z
    · rw [if_neg (by rw [hw]; decide), if_pos hw] at r5
      rcases m_eats0 N hN wk_317 r3.2.1 (m_lookA N hN r3) r3 with ⟨z, -⟩ | ⟨-, s1⟩
      · rw [hw] at z; exact absurd z (by decide)
      · obtain ⟨ν2, u1, u2, u3⟩ := m_asks N hN wk_318 r3.g
        rcases u3 with ⟨-, u3⟩ | ⟨z, -⟩
        · refine ⟨ν2, 0, ?_, u2, u3, by rw [if_pos rfl, if_neg (by decide)]⟩
          rw [r5]
          unfold f_X12_qPartTold_B78
          rw [s1, z_bn_sm, if_pos rfl, u1, z_bn_sm]
        · exact absurd hw z
  obtain ⟨ν2, v4, k1, k2, k3, k4⟩ := key
  have hq2 := k2.qM r4
  obtain ⟨ν3, w1, w2, w3⟩ := m_look N hN k3
  have hq3 := w2.qM hq2
  have frA := r2.z.tr (k2.z.tr w2.z)
  have frY := r2.tr (k2.tr w2)
  have hq16 := w3.2.2.2.1
  have hn := w3.1.1
  by_cases c : tkS t n (nxQ t n q) = nI 40
  · right
    have cl : lk t n (nxQ t n q) = (40 : Int32) := (lk_S hm.1.2.2.2.1 sg_40).mpr c
    have e : f_X12_qPartTold_L2 N (fun μ186 => f_X12_qPartTold_B186 N μ186) (f2 + 1 + 1) 1 ν = z_bn (f_X12_qOpens N (if k = 26 then 21 else 22) (nI (nxQ t n q)) ν3) fun _ μ_13 => z_bn (f_X12_asksSign N (40 : Int32) μ_13) fun _ μ_12 => KB 1 μ_12 := by
      rw [k1]
      unfold f_X12_qPartTold_B101 f_X12_qPartTold_B118 f_X12_qPartTold_B139 f_X12_qPartTold_B144 f_X12_qPartTold_B183
      rw [w1, z_bn_sm, if_pos cl, w3.2.2.1, if_neg (nI_nm1 (by omega)), ← k4]
      by_cases c0 : v4 = 0
      · rw [if_pos c0, if_pos c0]
      · rw [if_neg c0, if_neg c0]
    rcases m_opens N hq3 w3.2.1 ho (by omega) (if k = 26 then 21 else 22) (nxQ t n q) with ⟨y, ν4, s1, s2, s3⟩ | ⟨y, ν4, s1, s2, s3⟩
    · left
      have b5 := mB_ne s3 (by omega)
      refine ⟨c, y, ν4, ?_, frY.tr s2, s3⟩
      rw [← RT_bad (N := N) (c1 := c1) (E := E) (f1 := f1) (f2 := f2) b5]
      unfold RT
      rw [e, s1, z_bn_sm, show f_X12_asksSign N (40 : Int32) ν4 = some ((), ν4) by unfold f_X12_asksSign; rw [if_neg b5], z_bn_sm, hKB]
    · right
      have hA := s2.mA w3
      obtain ⟨ν5, u1, u2, u3⟩ := m_asksSign N hN sg_40 hA.g
      have u1' : f_X12_asksSign N (40 : Int32) ν4 = some ((), ν5) := u1
      rcases u3 with ⟨-, u3⟩ | ⟨z, -⟩
      · refine ⟨c, y, ν5, ?_, frA.tr (s2.z.tr u2.z), u3, u2.qM s3⟩
        unfold RT
        rw [e, s1, z_bn_sm, u1', z_bn_sm, hKB]
      · exact absurd c z
  · left
    have cl : ¬ lk t n (nxQ t n q) = (40 : Int32) := fun z => c ((lk_S hm.1.2.2.2.1 sg_40).mp z)
    obtain ⟨ν5, u1, u2, u3⟩ := m_asksSign N hN sg_40 w3.g
    have u1' : f_X12_asksSign N (40 : Int32) ν3 = some ((), ν5) := u1
    rcases u3 with ⟨z, -⟩ | ⟨-, u3⟩
    · exact absurd z c
    · refine ⟨c, ν5, ?_, frY.tr u2, u3⟩
      rw [← RT_bad (N := N) (c1 := c1) (E := E) (f1 := f1) (f2 := f2) (mB_ne u3 (by omega))]
      unfold RT
      have e : f_X12_qPartTold_L2 N (fun μ186 => f_X12_qPartTold_B186 N μ186) (f2 + 1 + 1) 1 ν = KB 1 ν5 := by
        rw [k1]
        unfold f_X12_qPartTold_B101 f_X12_qPartTold_B118 f_X12_qPartTold_B144 f_X12_qPartTold_B183
        rw [w1, z_bn_sm, if_neg cl, if_pos rfl, u1', z_bn_sm]
      rw [e, hKB]
