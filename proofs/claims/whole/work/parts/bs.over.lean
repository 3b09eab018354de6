/-! a question asked of all letters -/
theorem c_valueFor {A : aS} {μ : z_S} (ok : okS A) (h : cS A μ) (N : Nat) (hN : 1700 ≤ N) {cs : List Int32} (hC : cC cs μ) (hl6 : cs.length ≤ 1600) (hok : ∀ c ∈ cs, okc true c) {l : Nat} (hl : l < hCnt (sH A) 0) {v : Int} (hr : runV (envV (sH A) (sN A) l 0) (wishF (envW (sH A) l)) [] cs = some [v]) : ∃ μ', f_X4_valueFor N (z_hn μ.2.2.1) 39 (nI l) 93 μ = some (iI v, μ') ∧ bdM v ∧ cFr μ μ' := by
  have h8 := ok.2.2.1.1
  have ho := z_hn_k μ.2.2.1
  have ho1 := hn56 μ.2.2.1
  have hs : z_kw true 39 = (8, 0) := rfl
  obtain ⟨μ1, p1, p2, p3, p4⟩ := c_lookAt ok.2.2.1 ok.2.2.2.1 ho hs ho1 (by omega) h.2.2.2.2.2.2.2.1 h.2.2.2.2.2.2.2.2.1 N (by omega) hl
  obtain ⟨μ2, hμ2⟩ : ∃ μ2, μ2 = z_setI μ1 5 3 0 := ⟨_, rfl⟩
  have f2 : cFr μ1 μ2 := ⟨by rw [hμ2]; rfl, fun o j hh => by rw [hμ2, sI_1, if_neg (by omega)]⟩
  have env : cEnv (envV (sH A) (sN A) l 0) (envW (sH A) l) μ2 := by
    refine ⟨fun k hk => ?_, fun g hg => ?_⟩
    · rw [hμ2, sI_1]
      by_cases h3 : k = 3
      · rw [if_pos ⟨rfl, h3⟩, h3]; rfl
      · rw [if_neg (fun z => h3 z.2)]; exact p4 _ k hk h3
    · rw [hμ2, sI_1, if_neg (by omega)]; exact p3 g hg
  have f12 := p2.tr f2
  have hcs : ∀ k c, cs[k]? = some c → μ2.1 (93 + 1) (0 + k) = c := fun k c hkc => by rw [Nat.zero_add, f12.2 _ _ (by omega)]; exact hC.2 k c hkc
  obtain ⟨μ', r1, r2, r3, r4⟩ := c_run N k93 (by omega) (fun k _ => envV_bd ok.2.2.1 ok.2.2.2.1 (show l < 8 by omega) bd_0 k) (fun g _ => envW_bd ok.2.2.1 l g) env (cs := cs) (a := 0) (v := v) (by omega) (by omega) (fun c hc => by have := Int32.le_iff_toInt_le.mp (hok c hc).2.1; exact this) hcs hr
  refine ⟨μ', ?_, r2, f12.tr ⟨r3, fun o j hh => r4 o j (by omega) (by omega)⟩⟩
  unfold f_X4_valueFor
  rw [z_ko_ok ho, z_ko_ok hs, z_ko_ok k93, p1, z_bn_sm, z_bd_eq, ← hμ2, f12.2 _ _ (by omega), hC.1]
  rw [Nat.zero_add] at r1
  rw [show f_X4_run N 93 (0 : Int32) (nI cs.length) μ2 = _ from r1, z_bn_sm]
def ansS (k : Nat) (r : Int) (l : Nat) (v : Int) : Int := if k = 0 then (if r = -1 ∧ v = 1 then (l : Int) else r) else if k = 1 then (if v = 1 then (l : Int) else r) else if k = 2 ∨ k = 3 then r + v else if k = 4 then (if l = 0 ∨ r < v then v else r) else (if l = 0 ∨ v < r then v else r)
def ansF (k : Nat) (vf : Nat → Int) : Nat → Nat → Int → Int
  | 0, _, r => r
  | m + 1, l, r => ansF k vf m (l + 1) (ansS k r l (vf l))
theorem ansF_0 {vf : Nat → Int} : ∀ m l r, ¬ r = -1 → ansF 0 vf m l r = r
  | 0, _, _, _ => rfl
  | m + 1, l, r, h => by
    have e : ansS 0 r l (vf l) = r := by
      unfold ansS
      rw [if_pos rfl, if_neg (fun z => h z.1)]
    show ansF 0 vf m (l + 1) (ansS 0 r l (vf l)) = r
    rw [e]
    exact ansF_0 m (l + 1) r h
theorem nJ_l {l : Nat} (h : l < 2 ^ 31) : (nI l).toInt64 = iJ (l : Int) := nI_J h
theorem c_overL {A : aS} {μ0 : z_S} (ok : okS A) (h : cS A μ0) (N : Nat) (hN : 1700 ≤ N) {cs : List Int32} (hC : cC cs μ0) (hl6 : cs.length ≤ 1600) (hok : ∀ c ∈ cs, okc true c) {k : Nat} (hk : k < 6) (h132 : μ0.1 132 2 = nI (28 + k)) {vf : Nat → Int} (hv : ∀ l, l < hCnt (sH A) 0 → runV (envV (sH A) (sN A) l 0) (wishF (envW (sH A) l)) [] cs = some [vf l] ∧ (k < 3 → vf l = 0 ∨ vf l = 1)) : ∀ m f l r μ, l + m = hCnt (sH A) 0 → m < f → cFr μ0 μ → (k = 0 → r = -1) → (3 < k → 0 < l → bdM r) → ∃ μ', f_X5_over_L30 N (z_hn μ0.2.2.1) 39 f (iJ r) (nI l) μ = some (iJ (ansF k vf m l r), μ') ∧ cFr μ0 μ' := by
  intro m
  have h8 := ok.2.2.1.1
  have ho1 := hn56 μ0.2.2.1
  induction m with
  | zero =>
    intro f l r μ h1 h2 h3 h4 h5
    obtain ⟨f, rfl⟩ : ∃ g, f = g + 1 := ⟨f - 1, by omega⟩
    refine ⟨μ, ?_, h3⟩
    show b_X5_over_L30 N (z_hn μ0.2.2.1) 39 _ (iJ r) (nI l) μ = _
    unfold b_X5_over_L30
    rw [h3.2 _ _ (by omega), h.2.2.2.2.2.2.2.1.1 0 (by omega), if_neg (nI_nlt (by omega) (by omega))]
    rfl
  | succ m ih =>
    intro f l r μ h1 h2 h3 h4 h5
    obtain ⟨f, rfl⟩ : ∃ g, f = g + 1 := ⟨f - 1, by omega⟩
    have hl : l < hCnt (sH A) 0 := by omega
    obtain ⟨hr, hbit⟩ := hv l hl
    have hc' := h3.cS ok h
    have hC' : cC cs μ := ⟨by rw [h3.2 _ _ (by omega)]; exact hC.1, fun k c hkc => by rw [h3.2 _ _ (by omega)]; exact hC.2 k c hkc⟩
    obtain ⟨μ1, a1, a2, a3⟩ := c_valueFor ok hc' N hN hC' hl6 hok hl hr
    rw [h3.1] at a1
    have f1 := h3.tr a3
    have e132 : μ1.1 132 2 = nI (28 + k) := by rw [f1.2 _ _ (by omega)]; exact h132
    show ∃ μ', b_X5_over_L30 N (z_hn μ0.2.2.1) 39 _ (iJ r) (nI l) μ = _ ∧ _
    unfold b_X5_over_L30
    rw [h3.2 _ _ (by omega), h.2.2.2.2.2.2.2.1.1 0 (by omega), if_pos (nI_lt hl (by omega)), a1, z_bn_sm, e132]
    show ∃ μ', _ = some (iJ (ansF k vf m (l + 1) (ansS k r l (vf l))), μ') ∧ _
    have v0 : iI (vf l) = 0 ↔ vf l = 0 := iI_eq (b := 0) a2 bd_0
    have eV : (iI (vf l)).toInt64 = iJ (vf l) := iI_J a2
    by_cases k0 : k = 0
    · subst k0
      rw [if_pos (show nI (28 + 0) = (28 : Int32) from rfl)]
      by_cases z : vf l = 0
      · rw [if_pos (v0.mpr z)]
        unfold f_X5_over_B76 f_X5_over_B96 f_X5_over_B106 f_X5_with
        have eW : (z_bd (μ1.1 132 2) fun x1 => if x1 = 29 then (if iI (vf l) = 0 then (some (iJ r, μ1)) else some ((nI l).toInt64, μ1)) else if x1 = 30 then (f_X5_with_B52 N (iJ r) (iI (vf l)) μ1) else if x1 = 31 then (f_X5_with_B52 N (iJ r) (iI (vf l)) μ1) else if x1 = 32 then (z_bn (f_J9_max_f86c9 N (iJ r) (iI (vf l)).toInt64 μ1) fun x2 μ_1 => some (x2, μ_1)) else if x1 = 33 then (z_bn (f_J9_min_f86c9 N (iJ r) (iI (vf l)).toInt64 μ1) fun x3 μ_2 => some (x3, μ_2)) else some (iJ r, μ1)) = some (iJ r, μ1) := by
          rw [z_bd_eq, e132]; rfl
        have es : ansS 0 r l (vf l) = r := by unfold ansS; rw [if_pos rfl, if_neg (by omega)]
        rw [eW, z_bn_sm, z_bd_eq, show nI l + 1 = nI (l + 1) from nI_1 _, e132, es]
        obtain ⟨μ', b1, b2⟩ := ih f (l + 1) r μ1 (by omega) (by omega) f1 h4 (fun z => by omega)
        refine ⟨μ', ?_, b2⟩
        by_cases l0 : nI l = 0
        · rw [if_pos l0, if_pos (show nI (28 + 0) < (32 : Int32) by decide)]; exact b1
        · rw [if_neg l0]; exact b1
      · rw [if_neg (fun y => z (v0.mp y))]
        have hv1 : vf l = 1 := by rcases hbit (by omega) with y | y; exact absurd y z; exact y
        have es : ansS 0 r l (vf l) = (l : Int) := by unfold ansS; rw [if_pos rfl, if_pos ⟨h4 rfl, hv1⟩]
        rw [es, ansF_0 m (l + 1) (l : Int) (by omega), nJ_l (by omega)]
        exact ⟨μ1, rfl, f1⟩
    · rw [if_neg (show ¬ nI (28 + k) = (28 : Int32) from nI_ne (b := 28) (by omega) (by omega) (by omega) rfl)]
      unfold f_X5_over_B76 f_X5_over_B96 f_X5_over_B106
      rw [e132]
      have nx : nI l + 1 = nI (l + 1) := nI_1 _
      have lz : nI l = 0 ↔ l = 0 := nI_eq (b := 0) (by omega) (by omega)
      have go : ∀ r', r' = ansS k r l (vf l) → (3 < k → bdM r') → ∃ μ', f_X5_over_L30 N (z_hn μ0.2.2.1) 39 f (iJ r') (nI (l + 1)) μ1 = some (iJ (ansF k vf m (l + 1) (ansS k r l (vf l))), μ') ∧ cFr μ0 μ' := fun r' er hb => by
        rw [← er]
        exact ih f (l + 1) r' μ1 (by omega) (by omega) f1 (fun z => absurd z k0) (fun z _ => hb z)
      by_cases c0 : l = 0 ∧ 3 < k
      · rw [if_pos (lz.mpr c0.1), if_neg (show ¬ nI (28 + k) < (32 : Int32) from nI_nlt (b := 32) (by omega) (by omega)), z_bd_eq, nx, eV]
        refine go (vf l) ?_ (fun _ => a2)
        unfold ansS
        rw [if_neg k0, if_neg (by omega), if_neg (by omega)]
        by_cases k4 : k = 4
        · rw [if_pos k4, if_pos (Or.inl c0.1)]
        · rw [if_neg k4, if_pos (Or.inl c0.1)]
      · have eW : f_X5_with N (iJ r) (nI l) (iI (vf l)) μ1 = some (iJ (ansS k r l (vf l)), μ1) := by
          unfold f_X5_with f_X5_with_B52
          rw [z_bd_eq, e132]
          unfold ansS
          rcases (show k = 1 ∨ k = 2 ∨ k = 3 ∨ k = 4 ∨ k = 5 by omega) with rfl | rfl | rfl | rfl | rfl
          · rw [if_pos (show nI (28 + 1) = (29 : Int32) from rfl), if_neg k0, if_pos rfl]
            by_cases z : vf l = 0
            · rw [if_pos (v0.mpr z), if_neg (by omega)]
            · rw [if_neg (fun y => z (v0.mp y)), if_pos (by rcases hbit (by omega) with y | y; exact absurd y z; exact y), nJ_l (by omega)]
          · rw [if_neg (show ¬ nI (28 + 2) = (29 : Int32) by decide), if_pos (show nI (28 + 2) = (30 : Int32) from rfl), if_neg k0, if_neg (by omega), if_pos (Or.inl rfl), eV, ← Int64.ofInt_add]
          · rw [if_neg (show ¬ nI (28 + 3) = (29 : Int32) by decide), if_neg (show ¬ nI (28 + 3) = (30 : Int32) by decide), if_pos (show nI (28 + 3) = (31 : Int32) from rfl), if_neg k0, if_neg (by omega), if_pos (Or.inr rfl), eV, ← Int64.ofInt_add]
          · have hbr := h5 (by omega) (by omega)
            rw [if_neg (show ¬ nI (28 + 4) = (29 : Int32) by decide), if_neg (show ¬ nI (28 + 4) = (30 : Int32) by decide), if_neg (show ¬ nI (28 + 4) = (31 : Int32) by decide), if_pos (show nI (28 + 4) = (32 : Int32) from rfl), if_neg k0, if_neg (by omega), if_neg (by omega), if_pos rfl, eV]
            unfold f_J9_max_f86c9
            by_cases z : r < vf l
            · rw [if_pos ((iJ_lt hbr a2).mpr z), z_bn_sm, if_pos (Or.inr z)]
            · rw [if_neg (fun y => z ((iJ_lt hbr a2).mp y)), z_bn_sm, if_neg (by omega)]
          · have hbr := h5 (by omega) (by omega)
            rw [if_neg (show ¬ nI (28 + 5) = (29 : Int32) by decide), if_neg (show ¬ nI (28 + 5) = (30 : Int32) by decide), if_neg (show ¬ nI (28 + 5) = (31 : Int32) by decide), if_neg (show ¬ nI (28 + 5) = (32 : Int32) by decide), if_pos (show nI (28 + 5) = (33 : Int32) from rfl), if_neg k0, if_neg (by omega), if_neg (by omega), if_neg (by omega), eV]
            unfold f_J9_min_f86c9
            by_cases z : vf l < r
            · rw [if_pos ((iJ_lt a2 hbr).mpr z), z_bn_sm, if_pos (Or.inr z)]
            · rw [if_neg (fun y => z ((iJ_lt a2 hbr).mp y)), z_bn_sm, if_neg (by omega)]
        have hb' : 3 < k → bdM (ansS k r l (vf l)) := fun hk3 => by
          have hbr := h5 hk3 (by omega)
          unfold ansS
          rw [if_neg k0, if_neg (by omega), if_neg (by omega)]
          split
          · split
            · exact a2
            · exact hbr
          · split
            · exact a2
            · exact hbr
        obtain ⟨μ', b1, b2⟩ := go _ rfl hb'
        refine ⟨μ', ?_, b2⟩
        rw [eW, z_bn_sm, z_bd_eq, nx]
        by_cases l0 : l = 0
        · rw [if_pos (lz.mpr l0), if_pos (show nI (28 + k) < (32 : Int32) from nI_lt (b := 32) (by omega) (by omega))]; exact b1
        · rw [if_neg (fun y => l0 (lz.mp y))]; exact b1
