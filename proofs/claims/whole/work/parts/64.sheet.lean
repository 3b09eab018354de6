/-! the state now, changed -/
def aNow (A : aS) (n : aN) : aS := aPast A n (sPast A)
theorem cS_now {A : aS} {n : aN} {μ μ' : z_S} (ok : okS A) (h : cS A μ) (hb : μ'.2.2 = μ.2.2) (e : ∀ o j, o < 39 ∨ 45 ≤ o → μ'.1 o j = μ.1 o j) (hn : cN 39 n μ') : cS (aNow A n) μ' := by
  have h' := h
  obtain ⟨a1, a2, a3, a4, a5, a6, a7, a8, a9, b1, ⟨old, b2, b3, b4⟩, c1, c2, d1, d2, d3⟩ := h'
  refine cS_of ok h hb rfl (fun q j h1 h2 g1 g2 g3 g4 => by exact e _ _ (by omega)) (fun j => by exact e _ _ (by omega)) ?_ (fun k => ?_) (fun k hk => ?_) ?_ ?_ ?_ ?_ ?_ ?_ (fun k q hq => ?_) ?_ (fun k x hx => ?_) ?_
  · rw [e _ _ (by omega)]; exact a1
  · rw [e _ _ (by omega)]; exact a2 k
  · rw [e _ _ (by omega)]; exact a4 k hk
  · rw [e _ _ (by omega)]; exact a5
  · rw [e _ _ (by omega)]; exact a6
  · exact hn
  · rw [e _ _ (by omega)]; exact b1
  · exact ⟨old, b2, by rw [e _ _ (by omega)]; exact b3, fun i a hi => cN_of (b4 i a hi) (fun o j h1 h2 => by exact e _ _ (by omega))⟩
  · rw [e _ _ (by omega)]; exact c1
  · exact ⟨by rw [e _ _ (by omega)]; exact (c2 k q hq).1, by rw [e _ _ (by omega)]; exact (c2 k q hq).2⟩
  · rw [e _ _ (by omega)]; exact d1
  · rw [e _ _ (by omega)]; exact d2 k x hx
  · rw [e _ _ (by omega)]; exact d3
theorem mS_now {A : aS} {n : aN} {ν ν' : z_S} (h : mS A ν) (hb : ν'.2 = ν.2) (e : ∀ o j, o ≠ 296 → ν'.1 o j = ν.1 o j) (hn : mN 296 0 n ν') : mS (aNow A n) ν' := by
  have h' := h
  obtain ⟨a1, a2, a3, a4, a5, a6, a7, a8, b1, ⟨nw, b2, b3, b4⟩, c1, c2, d1, d2, d3⟩ := h'
  refine mS_of h rfl (fun q j h1 h2 => by exact e _ _ (by omega)) (fun _ => by rw [hb]) (fun q j hq => by exact e _ _ (by omega)) ?_ (fun k => ?_) (fun k hk => ?_) ?_ ?_ ?_ ?_ ?_ ?_ (fun k q hq => ?_) ?_ (fun k x hx => ?_) ?_
  · rw [e _ _ (by omega)]; exact a1
  · rw [e _ _ (by omega)]; exact a2 k
  · rw [e _ _ (by omega)]; exact a4 k hk
  · rw [e _ _ (by omega)]; exact a5
  · rw [e _ _ (by omega)]; exact a6
  · exact hn
  · rw [e _ _ (by omega)]; exact b1
  · exact ⟨nw, b2, by rw [e _ _ (by omega)]; exact b3, fun i a hi => mN_of (b4 i a hi) (fun j h1 h2 => by exact e _ _ (by omega))⟩
  · rw [e _ _ (by omega)]; exact c1
  · exact ⟨by rw [e _ _ (by omega)]; exact (c2 k q hq).1, by obtain ⟨-, x, y, q1, q2, q3, q4, q5⟩ := c2 k q hq; exact ⟨x, y, q1, q2, q3, by rw [e _ _ (by omega)]; exact q4, by rw [e _ _ (by omega)]; exact q5⟩⟩
  · rw [e _ _ (by omega)]; exact d1
  · rw [e _ _ (by omega)]; exact d2 k x hx
  · rw [hb]; exact d3
theorem ok_now {A : aS} (ok : okS A) {n : aN} (hn : okN (sH A) n) : okS (aNow A n) := ok_past ok hn ok.2.2.2.2.1 ok.2.2.2.2.2.1
/-! who may compare -/
def nb8 (b0 b1 b2 b3 b4 b5 b6 b7 : Bool) : Nat := (if b0 then 1 else 0) + ((if b1 then 2 else 0) + ((if b2 then 4 else 0) + ((if b3 then 8 else 0) + ((if b4 then 16 else 0) + ((if b5 then 32 else 0) + ((if b6 then 64 else 0) + (if b7 then 128 else 0)))))))
theorem nearB_8 (h : aH) (l : Nat) : nearB h l = nb8 (hNear h l 0) (hNear h l 1) (hNear h l 2) (hNear h l 3) (hNear h l 4) (hNear h l 5) (hNear h l 6) (hNear h l 7) := by
  unfold nearB nb8
  have hr : List.range 8 = [0, 1, 2, 3, 4, 5, 6, 7] := by decide
  rw [hr]
  simp only [List.map_cons, List.map_nil, List.sum_cons, List.sum_nil, Nat.add_zero]
theorem nb8_bit : ∀ b0 b1 b2 b3 b4 b5 b6 b7 : Bool, nb8 b0 b1 b2 b3 b4 b5 b6 b7 < 256 ∧ ∀ k, k < 8 → nb8 b0 b1 b2 b3 b4 b5 b6 b7 / 2 ^ k % 2 = (if [b0, b1, b2, b3, b4, b5, b6, b7].getD k false then 1 else 0) := by decide +kernel
theorem nearB_bit (h : aH) (l : Nat) : nearB h l < 256 ∧ ∀ k, k < 8 → nearB h l / 2 ^ k % 2 = if hNear h l k then 1 else 0 := by
  rw [nearB_8]
  obtain ⟨h1, h2⟩ := nb8_bit (hNear h l 0) (hNear h l 1) (hNear h l 2) (hNear h l 3) (hNear h l 4) (hNear h l 5) (hNear h l 6) (hNear h l 7)
  refine ⟨h1, fun k hk => ?_⟩
  rw [h2 k hk]
  rcases (show k = 0 ∨ k = 1 ∨ k = 2 ∨ k = 3 ∨ k = 4 ∨ k = 5 ∨ k = 6 ∨ k = 7 by omega) with rfl | rfl | rfl | rfl | rfl | rfl | rfl | rfl <;> rfl
theorem near_bit (h : aH) (l : Nat) {k : Nat} (hk : k < 8) : ((nI (nearB h l) >>> (nI k &&& 31)) &&& (1 : Int32)) = (1 : Int32) ↔ hNear h l k = true := by
  obtain ⟨h1, h2⟩ := nearB_bit h l
  have hs : ∀ k, k < 8 → ((nI k &&& 31).toBitVec.smod 32).toNat = k := by decide
  rw [pk_shrN (by omega) _ k (hs k hk), pk_andN (Nat.lt_of_le_of_lt (Nat.div_le_self _ _) (by omega)) 1 (by decide), show (2 : Nat) ^ 1 = 2 from rfl, h2 k hk]
  cases hNear h l k
  · exact ⟨fun q => absurd q (by decide), fun q => absurd q (by decide)⟩
  · exact ⟨fun _ => rfl, fun _ => rfl⟩
theorem c_near {h : aH} {μ : z_S} {o : Nat} (hk : z_kw true o = (2, 0)) (hc : cH o h μ) (N : Nat) {l k : Nat} (hl : l < 8) (hk8 : k < 8) : f_X2_isNear N o (nI l) (nI k) μ = some (if hNear h l k then 1 else 0, μ) := by
  unfold f_X2_isNear
  rw [z_ko_ok hk, z_in_nI hl (by decide), nI_toNat (by omega), hc.2.2.2.1 l hl]
  by_cases hn : hNear h l k = true
  · rw [if_pos ((near_bit h l hk8).mpr hn), if_pos hn]
  · rw [if_neg (fun q => hn ((near_bit h l hk8).mp q)), if_neg hn]
/-- whether one told near a letter has this sheet, from the k-th letter on -/
def shN (h : aH) (f : Nat → Nat) (l v : Nat) : Nat → Bool
  | 0 => false
  | n + 1 => shN h f l v n || (hNear h l n && f n == v)
/-- the loop looks from the first on: found at the first place, or not at all -/
theorem shN_false {h : aH} {f : Nat → Nat} {l v : Nat} : ∀ n, (∀ k, k < n → ¬ (hNear h l k = true ∧ f k = v)) → shN h f l v n = false
  | 0, _ => rfl
  | n + 1, hh => by
    show (shN h f l v n || (hNear h l n && f n == v)) = false
    rw [shN_false n (fun k hk => hh k (by omega))]
    have := hh n (by omega)
    cases hn : hNear h l n with
    | false => rfl
    | true =>
      have : ¬ f n = v := fun q => this ⟨hn, q⟩
      simp [this]
theorem shN_true {h : aH} {f : Nat → Nat} {l v k : Nat} (hn : hNear h l k = true) (hf : f k = v) : ∀ n, k < n → shN h f l v n = true
  | 0, hk => absurd hk (Nat.not_lt_zero _)
  | n + 1, hk => by
    show (shN h f l v n || (hNear h l n && f n == v)) = true
    by_cases e : k = n
    · subst e
      simp [hn, hf]
    · rw [shN_true hn hf n (by omega)]
      rfl
theorem c_shN {h : aH} {a : aN} {μ : z_S} {o s : Nat} (ok : okH h) (hs : z_kw true s = (8, 0)) (hk : z_kw true o = (2, 0)) (hc : cH o h μ) (hn : cN s a μ) (hb : ∀ k, nSheet a k < 2 ^ 31) (N : Nat) (hN : 9 ≤ N) {l v : Nat} (hl : l < 8) (hv : v < 2 ^ 31) : f_X8_hasSheetNear N s o (nI l) (nI v) μ = some (if shN h (nSheet a) l v (hCnt h 0) then 1 else 0, μ) := by
  have h8 := ok.1
  have key : ∀ n k, k ≤ hCnt h 0 → hCnt h 0 - k < n → (∀ j, j < k → ¬ (hNear h l j = true ∧ nSheet a j = v)) → f_X8_hasSheetNear_L3 N s o (nI l) (nI v) n (nI k) μ = some (if shN h (nSheet a) l v (hCnt h 0) then 1 else 0, μ) := by
    intro n
    induction n with
    | zero => intro k h1 h2; omega
    | succ n ih =>
      intro k h1 h2 hno
      show b_X8_hasSheetNear_L3 N s o (nI l) (nI v) (f_X8_hasSheetNear_L3 N s o (nI l) (nI v) n) (nI k) μ = _
      unfold b_X8_hasSheetNear_L3 f_X8_hasSheetNear_B37
      rw [hc.1 0 (by decide)]
      by_cases hlt : k < hCnt h 0
      · have ek : nI k + 1 = nI (k + 1) := nI_1 k
        rw [if_pos (nI_lt hlt (by omega)), c_near hk hc N hl (by omega), z_bn_sm]
        by_cases hq : hNear h l k = true
        · rw [if_pos hq, if_neg (by decide), z_in_nI (by omega) (by decide), nI_toNat (by omega), hn.2.2.2.2.1 k (by omega)]
          by_cases hf : nSheet a k = v
          · rw [if_pos (by rw [hf]), shN_true hq hf (hCnt h 0) hlt]
            rfl
          · rw [if_neg (fun q => hf ((nI_eq (hb k) hv).mp q)), z_bd_eq, ek]
            refine ih (k + 1) (by omega) (by omega) (fun j hj => ?_)
            by_cases e : j = k
            · subst e; exact fun q => hf q.2
            · exact hno j (by omega)
        · rw [if_neg hq, if_pos rfl, z_bd_eq, ek]
          refine ih (k + 1) (by omega) (by omega) (fun j hj => ?_)
          by_cases e : j = k
          · subst e; exact fun q => hq q.1
          · exact hno j (by omega)
      · have : k = hCnt h 0 := by omega
        subst this
        rw [if_neg (nI_nlt (Nat.le_refl _) (by omega)), shN_false _ hno]
        rfl
  unfold f_X8_hasSheetNear
  rw [z_ko_ok hs, z_ko_ok hk]
  exact key N 0 (Nat.zero_le _) (by omega) (fun j hj => absurd hj (Nat.not_lt_zero _))
theorem m_shN {A : aS} {ν : z_S} (ok : okS A) (h : mS A ν) (N : Nat) (hN : 9 ≤ N) {l v : Nat} (hl : l < 8) (hv : v < 2 ^ 31) : f_X12_isSheetNear N (nI l) (nI v) ν = some (if shN (sH A) (nSheet (sN A)) l v (hCnt (sH A) 0) then 1 else 0, ν) := by
  have h8 := ok.2.2.1.1
  have hb : ∀ k, nSheet (sN A) k < 2 ^ 31 := fun k => by have := ok.2.2.2.1.2.2.2.2.2.2.1 k; omega
  have key : ∀ n k, k ≤ hCnt (sH A) 0 → hCnt (sH A) 0 - k < n → (∀ j, j < k → ¬ (hNear (sH A) l j = true ∧ nSheet (sN A) j = v)) → f_X12_isSheetNear_L2 N (nI l) (nI v) n (nI k) ν = some (if shN (sH A) (nSheet (sN A)) l v (hCnt (sH A) 0) then 1 else 0, ν) := by
    intro n
    induction n with
    | zero => intro k h1 h2; omega
    | succ n ih =>
      intro k h1 h2 hno
      show b_X12_isSheetNear_L2 N (nI l) (nI v) (f_X12_isSheetNear_L2 N (nI l) (nI v) n) (nI k) ν = _
      unfold b_X12_isSheetNear_L2 f_X12_isSheetNear_B38 f_X12_letterMany
      rw [z_bn_sm, h.2.2.2.2.2.2.1.1 0 (by decide)]
      by_cases hlt : k < hCnt (sH A) 0
      · have ek : nI k + 1 = nI (k + 1) := nI_1 k
        have e8 : (8 : Int32) + nI l = nI (8 + l) := ix1 8 l
        rw [if_pos (nI_lt hlt (by omega)), e8, z_in_nI (by omega) (by decide), nI_toNat (by omega), h.2.2.2.2.2.2.1.2.2.2.1 l hl]
        by_cases hq : hNear (sH A) l k = true
        · rw [if_pos ((near_bit (sH A) l (by omega)).mpr hq), (m_now h N (show k < 8 by omega)).2.1, z_bn_sm]
          by_cases hf : nSheet (sN A) k = v
          · rw [if_pos (by rw [hf]), shN_true hq hf (hCnt (sH A) 0) hlt]
            rfl
          · rw [if_neg (fun q => hf ((nI_eq (hb k) hv).mp q)), z_bd_eq, ek]
            refine ih (k + 1) (by omega) (by omega) (fun j hj => ?_)
            by_cases e : j = k
            · subst e; exact fun q => hf q.2
            · exact hno j (by omega)
        · rw [if_neg (fun q => hq ((near_bit (sH A) l (by omega)).mp q)), z_bd_eq, ek]
          refine ih (k + 1) (by omega) (by omega) (fun j hj => ?_)
          by_cases e : j = k
          · subst e; exact fun q => hq q.1
          · exact hno j (by omega)
      · have : k = hCnt (sH A) 0 := by omega
        subst this
        rw [if_neg (nI_nlt (Nat.le_refl _) (by omega)), shN_false _ hno]
        rfl
  unfold f_X12_isSheetNear
  exact key N 0 (Nat.zero_le _) (by omega) (fun j hj => absurd hj (Nat.not_lt_zero _))
/-! sheet -/
def upN (f : Nat → Nat) (k x : Nat) : Nat → Nat := fun j => if j = k then x else f j
def nSetSheet (s : aN) (k x : Nat) : aN := (s.1, s.2.1, s.2.2.1, s.2.2.2.1, upN (nSheet s) k x, nGift s)
theorem c_setSheet {A : aS} {μ : z_S} (ok : okS A) (h : cS A μ) {k x : Nat} (hk : k < 8) : cS (aNow A (nSetSheet (sN A) k x)) (z_setI μ 43 k (nI x)) := by
  refine cS_now ok h rfl (fun o j ho => by rw [sI_1, if_neg (by omega)]) ?_
  obtain ⟨g1, g2, g3, g4, g5, g6⟩ := h.2.2.2.2.2.2.2.2.1
  refine ⟨?_, fun j hj => ?_, fun j hj => ?_, fun j hj => ?_, fun j hj => ?_, fun j hj => ?_⟩
  · rw [sI_1, if_neg (by omega)]; exact g1
  · rw [sI_1, if_neg (by omega)]; exact g2 j hj
  · rw [sI_1, if_neg (by omega)]; exact g3 j hj
  · rw [sI_1, if_neg (by omega)]; exact g4 j hj
  · rw [sI_1]
    show _ = nI (if j = k then x else nSheet (sN A) j)
    by_cases e : j = k
    · rw [if_pos ⟨rfl, e⟩, if_pos e]
    · rw [if_neg (fun q => e q.2), if_neg e]; exact g5 j hj
  · rw [sI_1, if_neg (by omega)]; exact g6 j hj
theorem m_setSheet {A : aS} {ν : z_S} (h : mS A ν) {k x : Nat} (hk : k < 8) : mS (aNow A (nSetSheet (sN A) k x)) (z_setI ν 296 (8 + 3 * k + 1) (nI x)) := by
  refine mS_now h rfl (fun o j ho => by rw [sI_1, if_neg (fun q => ho q.1)]) ?_
  obtain ⟨g1, g2, g3, g4⟩ := h.2.2.2.2.2.2.2.1
  refine ⟨?_, fun j hj => ?_, fun j hj => ?_, fun j hj => ⟨?_, ?_, ?_⟩⟩
  · rw [sI_1, if_neg (by omega)]; exact g1
  · rw [sI_1, if_neg (by omega)]; exact g2 j hj
  · rw [sI_1, if_neg (by omega)]; exact g3 j hj
  · rw [sI_1, if_neg (by omega)]; exact (g4 j hj).1
  · rw [sI_1]
    show _ = nI (if j = k then x else nSheet (sN A) j)
    by_cases e : j = k
    · rw [if_pos (by omega), if_pos e]
    · rw [if_neg (by omega), if_neg e]; exact (g4 j hj).2.1
  · rw [sI_1, if_neg (by omega)]; exact (g4 j hj).2.2
theorem op_sheet {A : aS} {μ ν : z_S} (ok : okS A) (hc : cS A μ) (hm : mS A ν) (N : Nat) (hN : 40 ≤ N) (a b : Int32) : z_Op (f_X11_sheet N a b μ) (f_X12_sheet N a b ν) := by
  obtain ⟨μ', h1, h2⟩ := c_refZ ok hc N (k := 2) (by decide)
  have h1' : f_X11_refuse N 2 μ = some (0, μ') := h1
  have hno : z_Op (z_bn (f_X11_refuse N 2 μ) fun x1 μ_1 => z_zb x1 (some (x1, μ_1))) (z_bd (z_setI ν 255 2 (ν.1 255 2 + 1)) fun μ_1 => some ((0 : Int32), μ_1)) := by
    rw [h1', z_bn_sm, z_zb_0]
    exact ⟨0, μ', _, rfl, rfl, _, ok_ref ok 2, h2, m_refs hm (by decide)⟩
  have e1 : (1 : Int32).toInt = 1 := rfl
  have e4 : (4 : Int32).toInt = 4 := rfl
  have f1 : (1 : Int64).toInt = 1 := rfl
  have f4 : (4 : Int64).toInt = 4 := rfl
  have h8 := ok.2.2.1.1
  have h10 : ¬ (1 : Int32) = 0 := by decide
  unfold f_X11_sheet f_X12_sheet f_X11_sheet_B18 f_X11_sheet_B53 f_X12_sheet_B38
  rw [c_isL ok hc, z_bn_sm, m_isL ok hm, z_bn_sm]
  by_cases hl : 0 ≤ a.toInt ∧ a.toInt < hCnt (sH A) 0
  · rw [if_pos hl, if_neg h10, if_neg h10, m_isIn, z_bn_sm, i64, f1, f4]
    simp only [Int32.lt_iff_toInt_lt, e1, e4]
    obtain ⟨l, hl1, rfl⟩ := small hl (by omega)
    by_cases hb : 1 ≤ b.toInt ∧ b.toInt ≤ 4
    · rw [if_neg (show ¬ b.toInt < 1 by omega), if_neg (show ¬ 4 < b.toInt by omega), if_pos hb, if_neg h10]
      obtain ⟨v, hv, rfl⟩ := small (w := b) (n := 5) (by omega) (by decide)
      have hv1 : 1 ≤ v := by rw [nI_toInt (by omega)] at hb; omega
      have hN9 := hc.2.2.2.2.2.2.2.2.1
      rw [z_in_nI (show l < 8 by omega) (by decide), nI_toNat (show l < 2 ^ 31 by omega), show μ.1 43 l = nI (nSheet (sN A) l) from hN9.2.2.2.2.1 l (by omega), (m_now hm N (show l < 8 by omega)).2.1, z_bn_sm]
      by_cases he : nI (nSheet (sN A) l) = nI v
      · rw [if_pos he, if_pos he]
        exact hno
      · have hbd : ∀ k, nSheet (sN A) k < 2 ^ 31 := fun k => by have := ok.2.2.2.1.2.2.2.2.2.2.1 k; omega
        rw [if_neg he, if_neg he, c_shN ok.2.2.1 kd_39 (z_hn_k _) hc.2.2.2.2.2.2.2.1 hN9 hbd N (by omega) (by omega) (by omega), z_bn_sm, m_shN ok hm N (by omega) (by omega) (by omega), z_bn_sm]
        by_cases hs : shN (sH A) (nSheet (sN A)) l v (hCnt (sH A) 0) = true
        · rw [if_pos hs, if_neg h10, if_neg h10]
          exact hno
        · rw [if_neg hs, if_pos rfl, if_pos rfl]
          obtain ⟨μ2, r1, r2⟩ := c_remember ok hc N
          obtain ⟨ν2, s1, s2⟩ := m_keeps ok hm N hN
          have ex : ((8 : Int32) + (3 : Int32) * nI l) + (1 : Int32) = nI (8 + 3 * l + 1) := ix3 8 3 l 1
          rw [r1, z_bn_sm, s1, z_bn_sm, ex, z_in_nI (by omega) (by decide), z_in_nI (by omega) (by decide), nI_toNat (show 8 + 3 * l + 1 < 2 ^ 31 by omega), z_bd_eq, z_bd_eq]
          refine ⟨1, _, _, rfl, rfl, _, ok_now (ok_keep ok) ?_, c_setSheet (ok_keep ok) r2 (x := v) (by omega), m_setSheet s2 (x := v) (by omega)⟩
          obtain ⟨q1, q2, q3, q4, q5, q6, q7, q8, q9⟩ := ok.2.2.2.1
          refine ⟨q1, q2, q3, q4, q5, q6, fun k => ?_, q8, fun k hk => ?_⟩
          · show (if k = l then v else nSheet (sN A) k) ≤ 4
            split
            · omega
            · exact q7 k
          · refine ⟨(q9 k hk).1, ?_, (q9 k hk).2.2⟩
            show (if k = l then v else nSheet (sN A) k) = 0
            rw [if_neg (by intro q; subst q; exact absurd hk (by show ¬ hCnt (sH A) 0 ≤ k; omega))]
            exact (q9 k hk).2.1
    · rw [if_neg hb, if_pos rfl]
      by_cases hb1 : b.toInt < 1
      · rw [if_pos hb1]; exact hno
      · rw [if_neg hb1, if_pos (show 4 < b.toInt by omega)]; exact hno
  · rw [if_neg hl, if_pos rfl, if_pos rfl]
    exact hno
