/-! on: whether a state can be -/
def okL (h : aH) (s : aN) (l : Nat) : Prop := nDone s l ≤ hCnt h 2 ∧ nGift s l ≤ hCnt h 1 ∧ nSheet s l ≤ 4 ∧ (nSheet s l = 0 ∨ shN h (nSheet s) l (nSheet s l) (hCnt h 0) = false)
def okT (h : aH) (s : aN) : Prop := nDay s ≤ 999 ∧ (∀ k, k < hCnt h 2 → nLeft s k ≤ hHelp h k 0) ∧ (∀ g, g < hCnt h 1 → nStock s g ≤ hStock h g) ∧ ∀ l, l < hCnt h 0 → okL h s l
def flg (c : Prop) (b : Int32) : Prop := (b = 1 ∧ c) ∨ (b = 0 ∧ ¬ c)
theorem nI_dlt {a b : Nat} (ha : a < 2 ^ 30) (hb : b < 2 ^ 30) : nI a - 1 < nI b ↔ a ≤ b := by
  rw [Int32.lt_iff_toInt_lt, show nI a - (1 : Int32) = nI a - nI 1 from rfl, pk_sub_toInt ha (by decide), nI_toInt (by omega)]
  omega
theorem c_okL {h : aH} {s : aN} {μ : z_S} {o q : Nat} (ok : okH h) (hs : z_kw true q = (8, 0)) (hk : z_kw true o = (2, 0)) (hc : cH o h μ) (hn : cN q s μ) (hb : ∀ k, nDone s k < 256 ∧ nSheet s k < 256 ∧ nGift s k < 256) (N : Nat) (hN : 9 ≤ N) {l : Nat} (hl : l < hCnt h 0) : ∃ b, flg (okL h s l) b ∧ f_X8_letterCanBe N q o (nI l) μ = some (b, μ) := by
  have h8 := ok.1
  have h4 := ok.2.1
  have h3 := ok.2.2.1
  have hbl := hb l
  unfold f_X8_letterCanBe f_X8_letterCanBe_B64
  rw [z_ko_ok hs, z_ko_ok hk]
  rw [z_in_nI (show l < 8 by omega) (by decide), nI_toNat (show l < 2 ^ 31 by omega), hn.2.2.2.1 l (by omega), hc.1 2 (by decide)]
  by_cases c1 : nDone s l ≤ hCnt h 2
  · rw [if_pos ((nI_dlt (by omega) (by omega)).mpr c1), z_in_nI (show l < 8 by omega) (by decide), hn.2.2.2.2.2 l (by omega), hc.1 1 (by decide)]
    by_cases c2 : nGift s l ≤ hCnt h 1
    · rw [if_pos ((nI_dlt (by omega) (by omega)).mpr c2), z_in_nI (show l < 8 by omega) (by decide), hn.2.2.2.2.1 l (by omega)]
      by_cases c3 : nSheet s l ≤ 4
      · rw [if_neg (show ¬ (4 : Int32) < nI (nSheet s l) from nI_nlt (b := nSheet s l) (a := 4) c3 (by decide)), z_in_nI (show l < 8 by omega) (by decide)]
        by_cases c4 : nSheet s l = 0
        · rw [if_pos ((nI_z (by omega)).mpr c4)]
          exact ⟨1, Or.inl ⟨rfl, c1, c2, c3, Or.inl c4⟩, rfl⟩
        · rw [if_neg (fun z => c4 ((nI_z (by omega)).mp z)), z_in_nI (show l < 8 by omega) (by decide), c_shN ok hs hk hc hn (fun k => by have := hb k; omega) N hN (by omega) (by omega), z_bn_sm]
          by_cases c5 : shN h (nSheet s) l (nSheet s l) (hCnt h 0) = true
          · rw [if_pos c5, if_neg (by decide)]
            refine ⟨0, Or.inr ⟨rfl, ?_⟩, rfl⟩
            rintro ⟨-, -, -, z | z⟩
            · exact c4 z
            · rw [c5] at z; cases z
          · rw [if_neg c5, if_pos rfl]
            refine ⟨1, Or.inl ⟨rfl, c1, c2, c3, Or.inr ?_⟩, rfl⟩
            cases hsn : shN h (nSheet s) l (nSheet s l) (hCnt h 0)
            · rfl
            · exact absurd hsn c5
      · rw [if_pos (show (4 : Int32) < nI (nSheet s l) from nI_lt (a := 4) (by omega) (by omega))]
        exact ⟨0, Or.inr ⟨rfl, fun z => c3 z.2.2.1⟩, rfl⟩
    · rw [if_neg (fun z => c2 ((nI_dlt (by omega) (by omega)).mp z))]
      exact ⟨0, Or.inr ⟨rfl, fun z => c2 z.2.1⟩, rfl⟩
  · rw [if_neg (fun z => c1 ((nI_dlt (by omega) (by omega)).mp z))]
    exact ⟨0, Or.inr ⟨rfl, fun z => c1 z.1⟩, rfl⟩
/-- a flag that goes through a row of tests -/
def flv (v : Int32) (P : Nat → Prop) (k n : Nat) (b : Int32) : Prop := (b = 1 ∧ v = 1 ∧ ∀ j, k ≤ j → j < n → P j) ∨ (b = 0 ∧ ¬ (v = 1 ∧ ∀ j, k ≤ j → j < n → P j))
theorem flv_z {P : Nat → Prop} {k n : Nat} {b : Int32} (h : flv 0 P (k + 1) n b) : flv 0 P k n b := by
  rcases h with h | h
  · exact absurd h.2.1 (by decide)
  · exact Or.inr ⟨h.1, fun z => absurd z.1 (by decide)⟩
theorem flv_0 {P : Nat → Prop} {v : Int32} {k n : Nat} {b : Int32} (hk : k < n) (hp : ¬ P k) (h : flv 0 P (k + 1) n b) : flv v P k n b := by
  rcases h with h | h
  · exact absurd h.2.1 (by decide)
  · exact Or.inr ⟨h.1, fun z => hp (z.2 k (Nat.le_refl _) hk)⟩
theorem flv_1 {P : Nat → Prop} {k n : Nat} {b : Int32} (hp : P k) (h : flv 1 P (k + 1) n b) : flv 1 P k n b := by
  have e : (∀ j, k + 1 ≤ j → j < n → P j) ↔ ∀ j, k ≤ j → j < n → P j := by
    constructor
    · intro hh j h1 h2
      by_cases q : j = k
      · subst q; exact hp
      · exact hh j (by omega) h2
    · intro hh j h1 h2; exact hh j (by omega) h2
  unfold flv at h ⊢
  rw [← e]
  exact h
theorem flv_e {P : Nat → Prop} {v : Int32} {n : Nat} (hv : v = 0 ∨ v = 1) : flv v P n n v := by
  rcases hv with rfl | rfl
  · exact Or.inr ⟨rfl, fun z => absurd z.1 (by decide)⟩
  · exact Or.inl ⟨rfl, rfl, fun j h1 h2 => by omega⟩
theorem flv_b {P : Nat → Prop} {v : Int32} {k n : Nat} {b : Int32} (h : flv v P k n b) : b = 0 ∨ b = 1 := by
  rcases h with h | h
  · exact Or.inr h.1
  · exact Or.inl h.1
theorem c_cb1 {h : aH} {s : aN} {μ : z_S} {o q : Nat} (ok : okH h) (hc : cH o h μ) (hn : cN q s μ) (hb : ∀ k, nLeft s k < 256) (N : Nat) (e : Int32 → z_S → Option (Int32 × z_S)) : ∀ m k v, k ≤ hCnt h 2 → hCnt h 2 - k < m → v = 0 ∨ v = 1 → ∃ b, flv v (fun j => nLeft s j ≤ hHelp h j 0) k (hCnt h 2) b ∧ f_X8_canBe_L18 N q o e m v (nI k) μ = e b μ := by
  have h3 := ok.2.2.1
  intro m
  induction m with
  | zero => intro k v h1 h2; omega
  | succ m ih =>
    intro k v h1 h2 hv
    show ∃ b, _ ∧ b_X8_canBe_L18 N q o (f_X8_canBe_L18 N q o e m) e v (nI k) μ = _
    unfold b_X8_canBe_L18 f_X8_canBe_B51 f_X8_canBe_B52
    have ek : nI k + 1 = nI (k + 1) := nI_1 k
    rw [hc.1 2 (by decide)]
    by_cases hlt : k < hCnt h 2
    · rw [if_pos (nI_lt hlt (by omega))]
      simp only [z_bd_eq]
      rw [ek]
      rcases hv with rfl | rfl
      · rw [if_pos rfl]
        obtain ⟨b, g1, g2⟩ := ih (k + 1) 0 (by omega) (by omega) (Or.inl rfl)
        exact ⟨b, flv_z g1, g2⟩
      · have hh := (ok.2.2.2.2.2.2.2.2.2.2.2.2.2.2.2.2.2.1 k).2.1
        have hbk := hb k
        rw [if_neg (by decide), z_in_nI (show k < 3 by omega) (by decide), z_in_nI (show k < 3 by omega) (by decide), nI_toNat (by omega), (hc.2.2.2.2.2.2.2.1 k hlt).1, hn.2.1 k (by omega)]
        by_cases c : nLeft s k ≤ hHelp h k 0
        · rw [if_neg (nI_nlt c (by omega))]
          obtain ⟨b, g1, g2⟩ := ih (k + 1) 1 (by omega) (by omega) (Or.inr rfl)
          exact ⟨b, flv_1 c g1, g2⟩
        · rw [if_pos (nI_lt (by omega) (by omega))]
          obtain ⟨b, g1, g2⟩ := ih (k + 1) 0 (by omega) (by omega) (Or.inl rfl)
          exact ⟨b, flv_0 hlt c g1, g2⟩
    · have : k = hCnt h 2 := by omega
      subst this
      rw [if_neg (nI_nlt (Nat.le_refl _) (by omega))]
      exact ⟨v, flv_e hv, rfl⟩
theorem c_cb2 {h : aH} {s : aN} {μ : z_S} {o q : Nat} (ok : okH h) (hc : cH o h μ) (hn : cN q s μ) (hb : ∀ k, nStock s k < 256) (N : Nat) (e : Int32 → z_S → Option (Int32 × z_S)) : ∀ m k v, k ≤ hCnt h 1 → hCnt h 1 - k < m → v = 0 ∨ v = 1 → ∃ b, flv v (fun j => nStock s j ≤ hStock h j) k (hCnt h 1) b ∧ f_X8_canBe_L61 N q o e m v (nI k) μ = e b μ := by
  have h3 := ok.2.1
  intro m
  induction m with
  | zero => intro k v h1 h2; omega
  | succ m ih =>
    intro k v h1 h2 hv
    show ∃ b, _ ∧ b_X8_canBe_L61 N q o (f_X8_canBe_L61 N q o e m) e v (nI k) μ = _
    unfold b_X8_canBe_L61 f_X8_canBe_B94 f_X8_canBe_B95
    have ek : nI k + 1 = nI (k + 1) := nI_1 k
    rw [hc.1 1 (by decide)]
    by_cases hlt : k < hCnt h 1
    · rw [if_pos (nI_lt hlt (by omega))]
      simp only [z_bd_eq]
      rw [ek]
      rcases hv with rfl | rfl
      · rw [if_pos rfl]
        obtain ⟨b, g1, g2⟩ := ih (k + 1) 0 (by omega) (by omega) (Or.inl rfl)
        exact ⟨b, flv_z g1, g2⟩
      · have hh := ok.2.2.2.2.2.2.2.2.2.2.2.2.2.2.2.2.1 k
        have hbk := hb k
        rw [if_neg (by decide), z_in_nI (show k < 4 by omega) (by decide), z_in_nI (show k < 4 by omega) (by decide), nI_toNat (by omega), hc.2.2.2.2.2.2.1 k hlt, hn.2.2.1 k (by omega)]
        by_cases c : nStock s k ≤ hStock h k
        · rw [if_neg (nI_nlt c (by omega))]
          obtain ⟨b, g1, g2⟩ := ih (k + 1) 1 (by omega) (by omega) (Or.inr rfl)
          exact ⟨b, flv_1 c g1, g2⟩
        · rw [if_pos (nI_lt (by omega) (by omega))]
          obtain ⟨b, g1, g2⟩ := ih (k + 1) 0 (by omega) (by omega) (Or.inl rfl)
          exact ⟨b, flv_0 hlt c g1, g2⟩
    · have : k = hCnt h 1 := by omega
      subst this
      rw [if_neg (nI_nlt (Nat.le_refl _) (by omega))]
      exact ⟨v, flv_e hv, rfl⟩
theorem c_cb3 {h : aH} {s : aN} {μ : z_S} {o q : Nat} (ok : okH h) (hs : z_kw true q = (8, 0)) (hk : z_kw true o = (2, 0)) (hc : cH o h μ) (hn : cN q s μ) (hb : ∀ k, nDone s k < 256 ∧ nSheet s k < 256 ∧ nGift s k < 256) (N : Nat) (hN : 9 ≤ N) : ∀ m k v, k ≤ hCnt h 0 → hCnt h 0 - k < m → v = 0 ∨ v = 1 → ∃ b, flv v (okL h s) k (hCnt h 0) b ∧ f_X8_canBe_L104 N q o m v (nI k) μ = some (b, μ) := by
  have h3 := ok.1
  intro m
  induction m with
  | zero => intro k v h1 h2; omega
  | succ m ih =>
    intro k v h1 h2 hv
    show ∃ b, _ ∧ b_X8_canBe_L104 N q o (f_X8_canBe_L104 N q o m) v (nI k) μ = _
    unfold b_X8_canBe_L104 f_X8_canBe_B131 f_X8_canBe_B132
    have ek : nI k + 1 = nI (k + 1) := nI_1 k
    rw [hc.1 0 (by decide)]
    by_cases hlt : k < hCnt h 0
    · rw [if_pos (nI_lt hlt (by omega))]
      simp only [z_bd_eq]
      rw [ek]
      rcases hv with rfl | rfl
      · rw [if_pos rfl]
        obtain ⟨b, g1, g2⟩ := ih (k + 1) 0 (by omega) (by omega) (Or.inl rfl)
        exact ⟨b, flv_z g1, g2⟩
      · obtain ⟨c, c1, c2⟩ := c_okL ok hs hk hc hn hb N hN hlt
        rw [if_neg (by decide), c2, z_bn_sm]
        rcases c1 with ⟨rfl, c1⟩ | ⟨rfl, c1⟩
        · rw [if_neg (by decide)]
          obtain ⟨b, g1, g2⟩ := ih (k + 1) 1 (by omega) (by omega) (Or.inr rfl)
          exact ⟨b, flv_1 c1 g1, g2⟩
        · rw [if_pos rfl]
          obtain ⟨b, g1, g2⟩ := ih (k + 1) 0 (by omega) (by omega) (Or.inl rfl)
          exact ⟨b, flv_0 hlt c1 g1, g2⟩
    · have : k = hCnt h 0 := by omega
      subst this
      rw [if_neg (nI_nlt (Nat.le_refl _) (by omega)), z_zb_ok hv]
      exact ⟨v, flv_e hv, rfl⟩
theorem c_canBe {h : aH} {s : aN} {μ : z_S} {o q : Nat} (ok : okH h) (hs : z_kw true q = (8, 0)) (hk : z_kw true o = (2, 0)) (hc : cH o h μ) (hn : cN q s μ) (hb0 : nDay s < 2 ^ 31) (hb : ∀ k, nLeft s k < 256 ∧ nStock s k < 256 ∧ nDone s k < 256 ∧ nSheet s k < 256 ∧ nGift s k < 256) (N : Nat) (hN : 10 ≤ N) : ∃ b, flg (okT h s) b ∧ f_X8_canBe N q o μ = some (b, μ) := by
  have h8 := ok.1
  have h4 := ok.2.1
  have h3 := ok.2.2.1
  have main : ∀ v, flg (nDay s ≤ 999) v → ∃ b, flg (okT h s) b ∧ f_X8_canBe_B15 N q o v μ = some (b, μ) := by
    intro v hv
    unfold f_X8_canBe_B15
    have hv2 : v = 0 ∨ v = 1 := by rcases hv with z | z; exact Or.inr z.1; exact Or.inl z.1
    obtain ⟨b1, p1, e1⟩ := c_cb1 ok hc hn (fun k => (hb k).1) N (fun y59_2 μ59 => f_X8_canBe_L61 N q o (fun y102_2 μ102 => f_X8_canBe_L104 N q o N y102_2 (0 : Int32) μ102) N y59_2 (0 : Int32) μ59) N 0 v (Nat.zero_le _) (by omega) hv2
    have e1' : f_X8_canBe_L18 N q o _ N v (0 : Int32) μ = _ := e1
    obtain ⟨b2, p2, e2⟩ := c_cb2 ok hc hn (fun k => (hb k).2.1) N (fun y102_2 μ102 => f_X8_canBe_L104 N q o N y102_2 (0 : Int32) μ102) N 0 b1 (Nat.zero_le _) (by omega) (flv_b p1)
    have e2' : f_X8_canBe_L61 N q o _ N b1 (0 : Int32) μ = _ := e2
    obtain ⟨b3, p3, e3⟩ := c_cb3 ok hs hk hc hn (fun k => (hb k).2.2) N (by omega) N 0 b2 (Nat.zero_le _) (by omega) (flv_b p2)
    have e3' : f_X8_canBe_L104 N q o N b2 (0 : Int32) μ = _ := e3
    rw [e1', e2', e3']
    refine ⟨b3, ?_, rfl⟩
    rcases p3 with ⟨rfl, q1, q2⟩ | ⟨rfl, q⟩
    · rcases p2 with ⟨-, r1, r2⟩ | ⟨r0, r⟩
      · rcases p1 with ⟨-, s1, s2⟩ | ⟨s0, s⟩
        · rcases hv with ⟨-, w⟩ | ⟨w0, w⟩
          · exact Or.inl ⟨rfl, w, fun k hk => s2 k (Nat.zero_le _) hk, fun k hk => r2 k (Nat.zero_le _) hk, fun k hk => q2 k (Nat.zero_le _) hk⟩
          · rw [w0] at s1; exact absurd s1 (by decide)
        · rw [s0] at r1; exact absurd r1 (by decide)
      · rw [r0] at q1; exact absurd q1 (by decide)
    · refine Or.inr ⟨rfl, fun z => q ⟨?_, fun j _ hj => z.2.2.2 j hj⟩⟩
      rcases p2 with ⟨r1, -⟩ | ⟨-, r⟩
      · exact r1
      · refine absurd (⟨?_, fun j _ hj => z.2.2.1 j hj⟩ : b1 = 1 ∧ ∀ j, 0 ≤ j → j < hCnt h 1 → nStock s j ≤ hStock h j) r
        rcases p1 with ⟨s1, -⟩ | ⟨-, s0⟩
        · exact s1
        · refine absurd (⟨?_, fun j _ hj => z.2.1 j hj⟩ : v = 1 ∧ ∀ j, 0 ≤ j → j < hCnt h 2 → nLeft s j ≤ hHelp h j 0) s0
          rcases hv with ⟨w, -⟩ | ⟨-, w⟩
          · exact w
          · exact absurd z.1 w
  unfold f_X8_canBe
  rw [z_ko_ok hs, z_ko_ok hk, hn.1]
  by_cases c : nDay s ≤ 999
  · rw [if_neg (show ¬ (999 : Int32) < nI (nDay s) from nI_nlt (a := 999) c (by decide))]
    exact main 1 (Or.inl ⟨rfl, c⟩)
  · rw [if_pos (show (999 : Int32) < nI (nDay s) from nI_lt (a := 999) (by omega) hb0)]
    exact main 0 (Or.inr ⟨rfl, c⟩)
