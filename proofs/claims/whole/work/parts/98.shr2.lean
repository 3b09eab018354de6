/-! the class shares gifts -/
theorem mxF_le {tk : Nat → Bool} {G : Nat} {v : Nat → Nat → Nat} (hv : ∀ l g, v l g ≤ 81) : ∀ k s, mxF tk G v k s ≤ 81 * k
  | 0, _ => Nat.le_refl 0
  | k + 1, s => by
    have h := mxF_le (tk := tk) (G := G) hv k
    show (if tk (7 - k) = true then maxG (fun g => decide (0 < s g)) (fun g => v (7 - k) g + mxF tk G v k (decS s g)) (mxF tk G v k s) G else mxF tk G v k s) ≤ 81 * (k + 1)
    have h0 := h s
    split
    · rcases maxG_is (fun g => decide (0 < s g)) (fun g => v (7 - k) g + mxF tk G v k (decS s g)) (mxF tk G v k s) G with z | ⟨g, -, -, z⟩
      · rw [z]; omega
      · rw [z]
        have := h (decS s g)
        have := hv (7 - k) g
        show v (7 - k) g + mxF tk G v k (decS s g) ≤ _
        omega
    · omega
theorem mxF_skip {tk : Nat → Bool} {G : Nat} {v : Nat → Nat → Nat} {a : Nat} (s : Nat → Nat) : ∀ b, a ≤ b → b ≤ 8 → (∀ l, a ≤ l → l < b → tk l = false) → mxF tk G v (8 - a) s = mxF tk G v (8 - b) s
  | 0, h, _, _ => by rw [show a = 0 by omega]
  | b + 1, h, hb, hn => by
    by_cases e : a = b + 1
    · rw [e]
    · rw [mxF_skip s b (by omega) (by omega) (fun l q1 q2 => hn l q1 (by omega))]
      rw [show 8 - b = (7 - b) + 1 by omega, show 8 - (b + 1) = 7 - b by omega]
      show (if tk (7 - (7 - b)) = true then _ else mxF tk G v (7 - b) s) = _
      rw [if_neg (by rw [show 7 - (7 - b) = b by omega, hn b (by omega) (by omega)]; decide)]
theorem chF_skip {tk : Nat → Bool} {G : Nat} {v : Nat → Nat → Nat} {a : Nat} (s : Nat → Nat) : ∀ b, a ≤ b → b ≤ 8 → (∀ l, a ≤ l → l < b → tk l = false) → chF tk G v (8 - a) s = chF tk G v (8 - b) s
  | 0, h, _, _ => by rw [show a = 0 by omega]
  | b + 1, h, hb, hn => by
    by_cases e : a = b + 1
    · rw [e]
    · rw [chF_skip s b (by omega) (by omega) (fun l q1 q2 => hn l q1 (by omega))]
      rw [show 8 - b = (7 - b) + 1 by omega, show 8 - (b + 1) = 7 - b by omega]
      show (if tk (7 - (7 - b)) = true ∧ mxF tk G v (7 - b) s ≠ mxF tk G v (7 - b + 1) s then _ else chF tk G v (7 - b) s) = _
      rw [if_neg (fun z => by rw [show 7 - (7 - b) = b by omega, hn b (by omega) (by omega)] at z; exact absurd z.1 (by decide))]
theorem fstG_congr {p q : Nat → Bool} : ∀ n g, (∀ k, g ≤ k → k < g + n → p k = q k) → fstG p n g = fstG q n g
  | 0, _, _ => rfl
  | n + 1, g, h => by
    show (if p g = true then g else fstG p n (g + 1)) = (if q g = true then g else fstG q n (g + 1))
    rw [h g (by omega) (by omega), fstG_congr n (g + 1) (fun k a b => h k (by omega) (by omega))]
theorem decS_c {G : Nat} {s t : Nat → Nat} (h : ∀ g, g < G → s g = t g) {g : Nat} (hg : g < G) : ∀ q, q < G → decS s g q = decS t g q := fun q hq => by unfold decS; rw [h g hg, h q hq]
theorem chP_congr {tk : Nat → Bool} {G : Nat} {v : Nat → Nat → Nat} {k : Nat} {s t : Nat → Nat} (h : ∀ g, g < G → s g = t g) {g : Nat} (hg : g < G) : chP tk G v k s g = chP tk G v k t g := by
  unfold chP
  rw [h g hg, mxF_congr k (decS_c h hg), mxF_congr (k + 1) h]
theorem chF_congr {tk : Nat → Bool} {G : Nat} {v : Nat → Nat → Nat} : ∀ k, k ≤ 8 → ∀ {s t : Nat → Nat}, (∀ g, g < G → s g = t g) → chF tk G v k s = chF tk G v k t
  | 0, _, _, _, _ => rfl
  | k + 1, hk, s, t, h => by
    show (if tk (7 - k) = true ∧ mxF tk G v k s ≠ mxF tk G v (k + 1) s then (fun q => if q = 7 - k then fstG (chP tk G v k s) G 0 + 1 else chF tk G v k (decS s (fstG (chP tk G v k s) G 0)) q) else chF tk G v k s) = (if tk (7 - k) = true ∧ mxF tk G v k t ≠ mxF tk G v (k + 1) t then (fun q => if q = 7 - k then fstG (chP tk G v k t) G 0 + 1 else chF tk G v k (decS t (fstG (chP tk G v k t) G 0)) q) else chF tk G v k t)
    rw [mxF_congr k h, mxF_congr (k + 1) h, chF_congr k (by omega) h, fstG_congr (p := chP tk G v k s) (q := chP tk G v k t) G 0 (fun g _ hg => chP_congr h (by omega))]
    by_cases c : tk (7 - k) = true ∧ mxF tk G v k t ≠ mxF tk G v (k + 1) t
    · rw [if_pos c, if_pos c]
      have hex : ∃ q, 0 ≤ q ∧ q < 0 + G ∧ chP tk G v k t q = true := by
        have em : mxF tk G v (k + 1) t = maxG (fun g => decide (0 < t g)) (fun g => v (7 - k) g + mxF tk G v k (decS t g)) (mxF tk G v k t) G := if_pos c.1
        rcases maxG_is (fun g => decide (0 < t g)) (fun g => v (7 - k) g + mxF tk G v k (decS t g)) (mxF tk G v k t) G with z | ⟨g, g1, g2, g3⟩
        · exact absurd (em.trans z).symm c.2
        · exact ⟨g, Nat.zero_le _, by omega, decide_eq_true ⟨of_decide_eq_true g2, (em.trans g3).symm⟩⟩
      have hlt := (fstG_is (chP tk G v k t) G 0 hex).2.2.1
      rw [chF_congr k (by omega) (decS_c h (show fstG (chP tk G v k t) G 0 < G by omega))]
    · rw [if_neg c, if_neg c]
/-- a stock of all gifts as one number -/
def digS (x g : Nat) : Nat := x / 4 ^ g % 4
theorem dig_dec : ∀ x, x < 256 → ∀ g, g < 4 → 0 < digS x g → 4 ^ g ≤ x ∧ ∀ k, k < 4 → digS (x - 4 ^ g) k = if k = g then digS x g - 1 else digS x k := by decide +kernel
theorem shl4 : ∀ g, g < 4 → (1 : Int32) <<< (((2 : Int32) * nI g) &&& 31) = nI (4 ^ g) := by decide +kernel
theorem or4 : ∀ g, g < 4 → ∀ s, s < 4 → ∀ v, v < 64 → v < 4 ^ g → nI v ||| ((nI s &&& (3 : Int32)) <<< (((2 : Int32) * nI g) &&& 31)) = nI (v + s * 4 ^ g) := by decide +kernel
theorem dig_I {x g : Nat} (hx : x < 256) (hg : g < 4) : ((nI x >>> (((2 : Int32) * nI g) &&& 31)) &&& (3 : Int32)) = nI (digS x g) := by
  have and3 : ∀ y : Nat, y < 65536 → nI y &&& (3 : Int32) = nI (y % 4) := fun y hy => pk_andN (n := y) (by omega) 2 (by decide)
  unfold digS
  have hs : g = 0 ∨ g = 1 ∨ g = 2 ∨ g = 3 := by omega
  rcases hs with rfl | rfl | rfl | rfl
  · rw [pk_shrN (by omega) _ 0 (by decide), and3 _ (by omega)]
  · rw [pk_shrN (by omega) _ 2 (by decide), and3 _ (by omega)]
  · rw [pk_shrN (by omega) _ 4 (by decide), and3 _ (by omega)]
  · rw [pk_shrN (by omega) _ 6 (by decide), and3 _ (by omega)]
def stkC (s : Nat → Nat) : Nat → Nat
  | 0 => 0
  | g + 1 => stkC s g + s g * 4 ^ g
theorem stkC_lt {s : Nat → Nat} (hs : ∀ g, s g ≤ 3) : ∀ g, stkC s g < 4 ^ g
  | 0 => Nat.zero_lt_one
  | g + 1 => by
    have h := stkC_lt hs g
    have h2 : s g * 4 ^ g ≤ 3 * 4 ^ g := Nat.mul_le_mul_right _ (hs g)
    show stkC s g + s g * 4 ^ g < 4 ^ (g + 1)
    rw [Nat.pow_succ]
    omega
theorem stkC_dig {s : Nat → Nat} (hs : ∀ g, s g ≤ 3) {G : Nat} (hG : G ≤ 4) : ∀ g, g < 4 → digS (stkC s G) g = if g < G then s g else 0 := by
  intro g hg
  have h0 := hs 0
  have h1 := hs 1
  have h2 := hs 2
  have h3 := hs 3
  unfold digS
  have hG' : G = 0 ∨ G = 1 ∨ G = 2 ∨ G = 3 ∨ G = 4 := by omega
  have hg' : g = 0 ∨ g = 1 ∨ g = 2 ∨ g = 3 := by omega
  rcases hG' with rfl | rfl | rfl | rfl | rfl
  · show 0 / 4 ^ g % 4 = _
    rw [Nat.zero_div]; rfl
  · show (0 + s 0 * 1) / 4 ^ g % 4 = _
    rcases hg' with rfl | rfl | rfl | rfl
    · show (0 + s 0 * 1) / 1 % 4 = s 0; omega
    · show (0 + s 0 * 1) / 4 % 4 = 0; omega
    · show (0 + s 0 * 1) / 16 % 4 = 0; omega
    · show (0 + s 0 * 1) / 64 % 4 = 0; omega
  · show (0 + s 0 * 1 + s 1 * 4) / 4 ^ g % 4 = _
    rcases hg' with rfl | rfl | rfl | rfl
    · show (0 + s 0 * 1 + s 1 * 4) / 1 % 4 = s 0; omega
    · show (0 + s 0 * 1 + s 1 * 4) / 4 % 4 = s 1; omega
    · show (0 + s 0 * 1 + s 1 * 4) / 16 % 4 = 0; omega
    · show (0 + s 0 * 1 + s 1 * 4) / 64 % 4 = 0; omega
  · show (0 + s 0 * 1 + s 1 * 4 + s 2 * 16) / 4 ^ g % 4 = _
    rcases hg' with rfl | rfl | rfl | rfl
    · show (0 + s 0 * 1 + s 1 * 4 + s 2 * 16) / 1 % 4 = s 0; omega
    · show (0 + s 0 * 1 + s 1 * 4 + s 2 * 16) / 4 % 4 = s 1; omega
    · show (0 + s 0 * 1 + s 1 * 4 + s 2 * 16) / 16 % 4 = s 2; omega
    · show (0 + s 0 * 1 + s 1 * 4 + s 2 * 16) / 64 % 4 = 0; omega
  · show (0 + s 0 * 1 + s 1 * 4 + s 2 * 16 + s 3 * 64) / 4 ^ g % 4 = _
    rcases hg' with rfl | rfl | rfl | rfl
    · show (0 + s 0 * 1 + s 1 * 4 + s 2 * 16 + s 3 * 64) / 1 % 4 = s 0; omega
    · show (0 + s 0 * 1 + s 1 * 4 + s 2 * 16 + s 3 * 64) / 4 % 4 = s 1; omega
    · show (0 + s 0 * 1 + s 1 * 4 + s 2 * 16 + s 3 * 64) / 16 % 4 = s 2; omega
    · show (0 + s 0 * 1 + s 1 * 4 + s 2 * 16 + s 3 * 64) / 64 % 4 = s 3; omega
/-- who may get a gift, what it is worth -/
def tkB (h : aH) (n : aN) (l : Nat) : Bool := decide (l < hCnt h 0 ∧ nGift n l = 0 ∧ 0 < hMail h l 1 ∧ 0 < wAll h l (hCnt h 1))
def shV (h : aH) (l g : Nat) : Nat := hMail h l 1 * hWish h l g
theorem shV_le {h : aH} (ok : okH h) (l g : Nat) : shV h l g ≤ 81 := Nat.mul_le_mul (ok.2.2.2.2.2.2.1 l).2.1 (ok.2.2.2.2.2.2.2.1 l g)
def gFr (μ μ' : z_S) : Prop := μ'.2 = μ.2 ∧ ∀ a j, ¬ (21 ≤ a ∧ a ≤ 33) → μ'.1 a j = μ.1 a j
theorem gFr.rf (μ : z_S) : gFr μ μ := ⟨rfl, fun _ _ _ => rfl⟩
theorem gFr.tr {μ μ1 μ2 : z_S} (h : gFr μ μ1) (g : gFr μ1 μ2) : gFr μ μ2 := ⟨g.1.trans h.1, fun a j h1 => (g.2 a j h1).trans (h.2 a j h1)⟩
theorem gFr.cH {o : Nat} {h : aH} {μ μ' : z_S} (ok : okH h) (ho : 56 ≤ o) (hc : cH o h μ) (g : gFr μ μ') : cH o h μ' := cH_of hc ⟨ok.1, ok.2.1, ok.2.2.1⟩ (fun q j h1 h2 => g.2 q j (by omega))
theorem gFr.cN {s : Nat} {n : aN} {μ μ' : z_S} (hs : 39 ≤ s) (hc : cN s n μ) (g : gFr μ μ') : cN s n μ' := cN_of hc (fun q j h1 h2 => g.2 q j (by omega))
theorem gFr.cS {A : aS} {μ μ' : z_S} (ok : okS A) (h : cS A μ) (g : gFr μ μ') : cS A μ' := cS_scr ok h (by rw [g.1]) (fun o j ho => g.2 o j (by unfold cRel at ho; omega))
theorem c_shL {h : aH} {n : aN} {o s : Nat} (ok : okH h) (hn : okN h n) (hk : plK o s) (N : Nat) (hN : 5 ≤ N) (e : Int32 → z_S → Option (Unit × z_S)) : ∀ f l μ, l ≤ hCnt h 0 → hCnt h 0 - l < f → cH o h μ → cN s n μ → (∀ q, q < l → μ.1 22 q = -1) → (∀ q, q < l → tkB h n q = true → μ.1 23 (colI (tkB h n) q) = nI q) → ∃ μ', f_X6_plan_L5 N o s e f (nI (colI (tkB h n) l)) (nI l) μ = e (nI (colI (tkB h n) (hCnt h 0))) μ' ∧ gFr μ μ' ∧ (∀ q, q < hCnt h 0 → μ'.1 22 q = -1) ∧ ∀ q, q < hCnt h 0 → tkB h n q = true → μ'.1 23 (colI (tkB h n) q) = nI q := by
  obtain ⟨k1, k2, k3, k4, k5⟩ := hk
  have h8 := ok.1
  have h4 := ok.2.1
  intro f
  induction f with
  | zero => intro l μ h1 h2; omega
  | succ f ih =>
    intro l μ h1 h2 hc hcn i1 i2
    show ∃ μ', b_X6_plan_L5 N o s (f_X6_plan_L5 N o s e f) e (nI (colI (tkB h n) l)) (nI l) μ = _ ∧ _
    unfold b_X6_plan_L5 f_X6_plan_B65
    rw [hc.1 0 (by decide)]
    by_cases hlt : l < hCnt h 0
    · have ek : nI l + 1 = nI (l + 1) := nI_1 l
      have hcl := colI_le (tkB h n) l
      have ec : nI (colI (tkB h n) l) + 1 = nI (colI (tkB h n) l + 1) := nI_1 _
      have m := (ok.2.2.2.2.2.2.1 l).2.1
      have w := wAll_le ok l (hCnt h 1)
      have hg := hn.2.2.2.2.2.2.2.1 l
      generalize hμ1 : z_setI μ 22 l (-1) = μ1
      have f1 : gFr μ μ1 := ⟨by rw [← hμ1]; rfl, fun a j ha => by rw [← hμ1, sI_1, if_neg (by omega)]⟩
      have o1 : ∀ a j, ¬ (a = 22 ∧ j = l) → μ1.1 a j = μ.1 a j := fun a j q => by rw [← hμ1, sI_1, if_neg q]
      have d1 : μ1.1 22 l = -1 := by rw [← hμ1, sI_1, if_pos ⟨rfl, rfl⟩]
      have hc1 := f1.cH ok k4 hc
      have hn1 := f1.cN k5 hcn
      have ecI : colI (tkB h n) (l + 1) = if tkB h n l = true then colI (tkB h n) l + 1 else colI (tkB h n) l := rfl
      have no : tkB h n l = false → ∃ μ', f_X6_plan_L5 N o s e f (nI (colI (tkB h n) l)) (nI (l + 1)) μ1 = e (nI (colI (tkB h n) (hCnt h 0))) μ' ∧ gFr μ μ' ∧ (∀ q, q < hCnt h 0 → μ'.1 22 q = -1) ∧ ∀ q, q < hCnt h 0 → tkB h n q = true → μ'.1 23 (colI (tkB h n) q) = nI q := by
        intro hf
        obtain ⟨μ2, r1, r2, r3, r4⟩ := ih (l + 1) μ1 (by omega) (by omega) hc1 hn1 (fun q hq => by
          by_cases z : q = l
          · rw [z]; exact d1
          · rw [o1 _ _ (by omega)]; exact i1 q (by omega)) (fun q hq ht => by
          by_cases z : q = l
          · rw [z, hf] at ht; cases ht
          · rw [o1 _ _ (by omega)]; exact i2 q (by omega) ht)
        rw [ecI, if_neg (by rw [hf]; decide)] at r1
        exact ⟨μ2, r1, f1.tr r2, r3, r4⟩
      have hnot : ∀ P : Prop, (¬ P) → (tkB h n l = true → P) → tkB h n l = false := fun P hP hi => by
        cases ht : tkB h n l
        · rfl
        · exact absurd (hi ht) hP
      simp only [z_bd_eq]
      rw [if_pos (nI_lt hlt (by omega)), z_in_nI (show l < 8 by omega) (by decide), nI_toNat (show l < 2 ^ 31 by omega), hμ1, z_in_nI (show l < 8 by omega) (by decide), z_in_nI (show l < 8 by omega) (by decide), hn1.2.2.2.2.2 l (by omega), (hc1.2.2.1 l hlt).2.1, ek, ec]
      by_cases c1 : nGift n l = 0
      · rw [if_pos (show nI (nGift n l) - 1 = (-1 : Int32) from (nI_m1 (by omega)).mpr c1)]
        by_cases c2 : 0 < hMail h l 1
        · rw [if_pos (show (0 : Int32) < nI (hMail h l 1) from nI_lt (a := 0) c2 (by omega))]
          have ew : f_X2_allWishes N o (nI l) μ1 = some (nI (wAll h l (hCnt h 1)), μ1) := c_wishes (okBase ok hn) o k1 hc1 N hN (show l < 8 by omega)
          rw [ew, z_bn_sm]
          by_cases c3 : 0 < wAll h l (hCnt h 1)
          · have ht : tkB h n l = true := decide_eq_true ⟨hlt, c1, c2, c3⟩
            rw [if_pos (show (0 : Int32) < nI (wAll h l (hCnt h 1)) from nI_lt (a := 0) c3 (by omega)), z_in_nI (show colI (tkB h n) l < 8 by omega) (by decide), nI_toNat (show colI (tkB h n) l < 2 ^ 31 by omega)]
            generalize hμ2 : z_setI μ1 23 (colI (tkB h n) l) (nI l) = μ2
            have f2 : gFr μ1 μ2 := ⟨by rw [← hμ2]; rfl, fun a j ha => by rw [← hμ2, sI_1, if_neg (by omega)]⟩
            have o2 : ∀ a j, ¬ (a = 23 ∧ j = colI (tkB h n) l) → μ2.1 a j = μ1.1 a j := fun a j q => by rw [← hμ2, sI_1, if_neg q]
            have d2 : μ2.1 23 (colI (tkB h n) l) = nI l := by rw [← hμ2, sI_1, if_pos ⟨rfl, rfl⟩]
            obtain ⟨μ3, r1, r2, r3, r4⟩ := ih (l + 1) μ2 (by omega) (by omega) (f2.cH ok k4 hc1) (f2.cN k5 hn1) (fun q hq => by
              rw [o2 _ _ (by omega)]
              by_cases z : q = l
              · rw [z]; exact d1
              · rw [o1 _ _ (by omega)]; exact i1 q (by omega)) (fun q hq hq2 => by
              by_cases z : q = l
              · rw [z]; exact d2
              · have := colI_lt (tkB h n) (show q < l by omega) hq2
                rw [o2 _ _ (by omega), o1 _ _ (by omega)]; exact i2 q (by omega) hq2)
            rw [ecI, if_pos ht] at r1
            exact ⟨μ3, r1, f1.tr (f2.tr r2), r3, r4⟩
          · rw [if_neg (show ¬ (0 : Int32) < nI (wAll h l (hCnt h 1)) from nI_nlt (a := 0) (by omega) (by decide))]
            exact no (hnot _ c3 (fun ht => (of_decide_eq_true ht).2.2.2))
        · rw [if_neg (show ¬ (0 : Int32) < nI (hMail h l 1) from nI_nlt (a := 0) (by omega) (by decide))]
          exact no (hnot _ c2 (fun ht => (of_decide_eq_true ht).2.2.1))
      · rw [if_neg (show ¬ nI (nGift n l) - 1 = (-1 : Int32) from fun z => c1 ((nI_m1 (by omega)).mp z))]
        exact no (hnot _ c1 (fun ht => (of_decide_eq_true ht).2.1))
    · have : l = hCnt h 0 := by omega
      subst this
      rw [if_neg (nI_nlt (Nat.le_refl _) (by omega))]
      exact ⟨μ, rfl, gFr.rf μ, i1, i2⟩
theorem c_stkL {h : aH} {n : aN} {o s : Nat} (ok : okH h) (hn : okN h n) (N : Nat) (c3 : Int32) (e : Int32 → z_S → Option (Unit × z_S)) {μ : z_S} (hc : cH o h μ) (hcn : cN s n μ) : ∀ f g, g ≤ hCnt h 1 → hCnt h 1 - g < f → f_X6_plan_L77 N o s c3 e f (nI (stkC (nStock n) g)) (nI g) μ = e (nI (stkC (nStock n) (hCnt h 1))) μ := by
  have h4 := ok.2.1
  have hs3 := hn.2.2.2.1
  intro f
  induction f with
  | zero => intro g h1 h2; omega
  | succ f ih =>
    intro g h1 h2
    show b_X6_plan_L77 N o s c3 (f_X6_plan_L77 N o s c3 e f) e (nI (stkC (nStock n) g)) (nI g) μ = _
    unfold b_X6_plan_L77
    rw [hc.1 1 (by decide)]
    by_cases hlt : g < hCnt h 1
    · have ek : nI g + 1 = nI (g + 1) := nI_1 g
      have hl := stkC_lt hs3 g
      have hp : 4 ^ g ≤ 64 := Nat.le_trans (Nat.pow_le_pow_right (by decide) (show g ≤ 3 by omega)) (by decide)
      have hsg := hs3 g
      rw [if_pos (nI_lt hlt (by omega)), z_in_nI (show g < 4 by omega) (by decide), nI_toNat (by omega), hcn.2.2.1 g (by omega), or4 g (by omega) (nStock n g) (by omega) (stkC (nStock n) g) (by omega) hl, z_bd_eq, z_bd_eq, ek]
      exact ih (g + 1) (by omega) (by omega)
    · have : g = hCnt h 1 := by omega
      subst this
      rw [if_neg (nI_nlt (Nat.le_refl _) (by omega))]
def witS (x y : Nat) : Prop := ∀ g, g < 4 → digS x g ≤ digS y g
theorem c_within {x y : Nat} (hx : x < 256) (hy : y < 256) (N : Nat) (hN : 10 ≤ N) (μ : z_S) : ∃ b, f_X6_isWithin N (nI x) (nI y) μ = some (b, μ) ∧ ((witS x y ∧ b = 1) ∨ (¬ witS x y ∧ b = 0)) := by
  have key : ∀ f g, g ≤ 4 → 4 - g < f → (∀ k, k < g → digS x k ≤ digS y k) → ∃ b, f_X6_isWithin_L2 N (nI x) (nI y) f (nI (2 * g)) μ = some (b, μ) ∧ ((witS x y ∧ b = 1) ∨ (¬ witS x y ∧ b = 0)) := by
    intro f
    induction f with
    | zero => intro g h1 h2; omega
    | succ f ih =>
      intro g h1 h2 hk
      show ∃ b, b_X6_isWithin_L2 N (nI x) (nI y) (f_X6_isWithin_L2 N (nI x) (nI y) f) (nI (2 * g)) μ = _ ∧ _
      unfold b_X6_isWithin_L2
      by_cases hlt : g < 4
      · have ek : nI (2 * g) + 2 = nI (2 * (g + 1)) := ix1 (2 * g) 2
        have e2 : nI (2 * g) = (2 : Int32) * nI g := (pk_mul 2 g).symm
        have b1 : digS x g < 4 := Nat.mod_lt _ (by decide)
        have b2 : digS y g < 4 := Nat.mod_lt _ (by decide)
        rw [if_pos (show nI (2 * g) < (8 : Int32) from nI_lt (b := 8) (by omega) (by decide)), z_bd_eq, ek, e2, dig_I hx hlt, dig_I hy hlt]
        by_cases c : digS x g ≤ digS y g
        · rw [if_neg (nI_nlt c (by omega))]
          refine ih (g + 1) (by omega) (by omega) (fun k hk1 => ?_)
          by_cases z : k = g
          · rw [z]; exact c
          · exact hk k (by omega)
        · rw [if_pos (nI_lt (by omega) (by omega))]
          exact ⟨0, rfl, Or.inr ⟨fun z => c (z g hlt), rfl⟩⟩
      · have : g = 4 := by omega
        subst this
        rw [if_neg (show ¬ nI (2 * 4) < (8 : Int32) by decide)]
        exact ⟨1, rfl, Or.inl ⟨hk, rfl⟩⟩
  exact key N 0 (by omega) (by omega) (fun k hk => by omega)
