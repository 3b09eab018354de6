theorem vlF_le {v : Nat → Nat → Nat} (hv : ∀ l g, v l g ≤ 81) (r : Nat → Nat) : ∀ k, vlF v r k ≤ 81 * k
  | 0 => Nat.le_refl 0
  | k + 1 => by
    have h := vlF_le hv r k
    have h2 := hv (7 - k) (r (7 - k) - 1)
    show (if 0 < r (7 - k) then v (7 - k) (r (7 - k) - 1) else 0) + vlF v r k ≤ 81 * (k + 1)
    split <;> omega
def figG (h : aH) (n : aN) (l : Nat) : Nat := if l < hCnt h 0 ∧ nGift n l = 0 then hCnt h 1 else 0
def okG (h : aH) (n : aN) (R : Nat → Nat) : Prop := (∀ l, R l ≤ figG h n l) ∧ givP h n R
def bestG (h : aH) (n : aN) (B : Nat → Nat) : Prop := okG h n B ∧ ∀ s, okG h n s → vlF (shV h) s 8 ≤ vlF (shV h) B 8 ∧ (vlF (shV h) s 8 = vlF (shV h) B 8 → codF B 8 ≤ codF s 8)
def hFr (ν ν' : z_S) : Prop := ν'.2 = ν.2 ∧ ∀ a j, a ≠ 298 → a ≠ 300 → a ≠ 304 → ν'.1 a j = ν.1 a j
theorem hFr.w {ν ν' : z_S} (h : hFr ν ν') : wFr ν ν' := ⟨by rw [h.1], fun a j _ q => h.2 a j (by omega) (by omega) (by omega), fun a j _ _ _ => by rw [h.1]⟩
theorem hFr.tr {ν ν1 ν2 : z_S} (h : hFr ν ν1) (g : hFr ν1 ν2) : hFr ν ν2 := ⟨g.1.trans h.1, fun a j h1 h2 h3 => (g.2 a j h1 h2 h3).trans (h.2 a j h1 h2 h3)⟩
theorem m_copyG (N : Nat) (hN : 20 ≤ N) (c1 c2 : Int32) {R : Nat → Nat} (e : z_S → Option (Int32 × z_S)) {ν : z_S} (hr : rowM 298 R ν) : ∃ ν', f_X12_shared_L115 N c1 c2 e N (0 : Int32) ν = e ν' ∧ ν'.2 = ν.2 ∧ rowM 300 R ν' ∧ ∀ a j, a ≠ 300 → ν'.1 a j = ν.1 a j := by
  have key : ∀ f l ν1, l ≤ 8 → 8 - l < f → ν1.2 = ν.2 → (∀ a j, a ≠ 300 → ν1.1 a j = ν.1 a j) → (∀ k, k < l → ν1.1 300 k = nI (R k)) → ∃ ν', f_X12_shared_L115 N c1 c2 e f (nI l) ν1 = e ν' ∧ ν'.2 = ν.2 ∧ rowM 300 R ν' ∧ ∀ a j, a ≠ 300 → ν'.1 a j = ν.1 a j := by
    intro f
    induction f with
    | zero => intro l ν1 h1 h2; omega
    | succ f ih =>
      intro l ν1 h1 h2 h3 h4 h5
      show ∃ ν', b_X12_shared_L115 N c1 c2 (f_X12_shared_L115 N c1 c2 e f) e (nI l) ν1 = _ ∧ _
      unfold b_X12_shared_L115
      by_cases hlt : l < 8
      · have ek : nI l + 1 = nI (l + 1) := nI_1 l
        rw [if_pos (show nI l < (8 : Int32) from nI_lt (b := 8) hlt (by decide)), z_in_nI hlt (by decide), z_in_nI hlt (by decide), z_bd_eq, z_bd_eq, ek, nI_toNat (by omega), h4 _ _ (by decide), hr l hlt]
        refine ih (l + 1) _ (by omega) (by omega) h3 (fun a j ha => by rw [sI_1, if_neg (fun z => ha z.1)]; exact h4 a j ha) (fun k hk => ?_)
        rw [sI_1]
        by_cases z : k = l
        · rw [if_pos ⟨rfl, z⟩, z]
        · rw [if_neg (fun q => z q.2)]; exact h5 k (by omega)
      · have : l = 8 := by omega
        subst this
        rw [if_neg (show ¬ nI 8 < (8 : Int32) by decide)]
        exact ⟨ν1, rfl, h3, h5, h4⟩
  exact key N 0 ν (by omega) (by omega) rfl (fun _ _ _ => rfl) (fun k hk => by omega)
theorem m_zeroG (N : Nat) (c1 : Int32) (e : z_S → Option (Int32 × z_S)) : ∀ f l ν, l ≤ 8 → 8 - l < f → (∀ k, k < l → ν.1 298 k = 0 ∧ ν.1 300 k = 0) → ∃ ν', f_X12_shared_L17 N c1 e f (nI l) ν = e ν' ∧ ν'.2 = ν.2 ∧ (∀ a j, a ≠ 298 → a ≠ 300 → ν'.1 a j = ν.1 a j) ∧ ∀ k, k < 8 → ν'.1 298 k = 0 ∧ ν'.1 300 k = 0 := by
  intro f
  induction f with
  | zero => intro l ν h1 h2; omega
  | succ f ih =>
    intro l ν h1 h2 h3
    show ∃ ν', b_X12_shared_L17 N c1 (f_X12_shared_L17 N c1 e f) e (nI l) ν = _ ∧ _
    unfold b_X12_shared_L17
    by_cases hlt : l < 8
    · have ek : nI l + 1 = nI (l + 1) := nI_1 l
      rw [if_pos (show nI l < (8 : Int32) from nI_lt (b := 8) hlt (by decide)), z_in_nI hlt (by decide), z_bd_eq, z_in_nI hlt (by decide), z_bd_eq, z_bd_eq, ek, nI_toNat (by omega)]
      obtain ⟨ν', r1, r2, r3, r4⟩ := ih (l + 1) (z_setI (z_setI ν 298 l 0) 300 l 0) (by omega) (by omega) (fun k hk => by
        rw [sI_1, sI_1, sI_1, sI_1]
        by_cases z : k = l
        · rw [if_neg (by omega), if_pos ⟨rfl, z⟩, if_pos ⟨rfl, z⟩]; exact ⟨rfl, rfl⟩
        · rw [if_neg (by omega), if_neg (fun q => z q.2), if_neg (fun q => z q.2), if_neg (by omega)]
          exact h3 k (by omega))
      exact ⟨ν', r1, r2, fun a j q1 q2 => by rw [r3 a j q1 q2, sI_1, if_neg (fun z => q2 z.1), sI_1, if_neg (fun z => q1 z.1)], r4⟩
    · have : l = 8 := by omega
      subst this
      rw [if_neg (show ¬ nI 8 < (8 : Int32) by decide)]
      exact ⟨ν, rfl, rfl, fun _ _ _ _ => rfl, h3⟩
theorem m_figG {A : aS} (ok : okS A) (N : Nat) (c1 : Int32) (e : z_S → Option (Int32 × z_S)) : ∀ f l ν, l ≤ hCnt (sH A) 0 → hCnt (sH A) 0 - l < f → mS A ν → (∀ k, k < l → ν.1 299 k = nI (figG (sH A) (sN A) k)) → ∃ ν', f_X12_shared_L45 N c1 e f (nI l) ν = e ν' ∧ ν'.2 = ν.2 ∧ (∀ a j, a ≠ 299 → ν'.1 a j = ν.1 a j) ∧ ∀ k, k < hCnt (sH A) 0 → ν'.1 299 k = nI (figG (sH A) (sN A) k) := by
  have h8 := ok.2.2.1.1
  have h4 := ok.2.2.1.2.1
  intro f
  induction f with
  | zero => intro l ν h1 h2; omega
  | succ f ih =>
    intro l ν h1 h2 h hf
    show ∃ ν', b_X12_shared_L45 N c1 (f_X12_shared_L45 N c1 e f) e (nI l) ν = _ ∧ _
    unfold b_X12_shared_L45 f_X12_shared_B74 f_X12_letterMany f_X12_giftMany
    rw [z_bn_sm, h.2.2.2.2.2.2.1.1 0 (by decide)]
    by_cases hlt : l < hCnt (sH A) 0
    · have ek : nI l + 1 = nI (l + 1) := nI_1 l
      have hd := ok.2.2.2.1.2.2.2.2.2.2.2.1 l
      have go : ∀ v, v = nI (figG (sH A) (sN A) l) → ∃ ν', f_X12_shared_L45 N c1 e f (nI (l + 1)) (z_setI ν 299 l v) = e ν' ∧ ν'.2 = ν.2 ∧ (∀ a j, a ≠ 299 → ν'.1 a j = ν.1 a j) ∧ ∀ k, k < hCnt (sH A) 0 → ν'.1 299 k = nI (figG (sH A) (sN A) k) := by
        intro v hv
        have fr : wFr ν (z_setI ν 299 l v) := ⟨rfl, fun a j _ q => by rw [sI_1, if_neg (by omega)], fun _ _ _ _ _ => rfl⟩
        obtain ⟨ν', r1, r2, r3, r4⟩ := ih (l + 1) (z_setI ν 299 l v) (by omega) (by omega) (fr.mS h) (fun k hk => by
          rw [sI_1]
          by_cases z : k = l
          · rw [if_pos ⟨rfl, z⟩, z]; exact hv
          · rw [if_neg (fun q => z q.2)]; exact hf k (by omega))
        exact ⟨ν', r1, r2, fun a j q => by rw [r3 a j q, sI_1, if_neg (fun z => q z.1)], r4⟩
      simp only [z_bd_eq]
      rw [if_pos (nI_lt hlt (by omega)), (m_now h N (show l < 8 by omega)).2.2, z_bn_sm, z_bn_sm, z_in_nI (show l < 8 by omega) (by decide), z_in_nI (show l < 8 by omega) (by decide), nI_toNat (by omega), ek, h.2.2.2.2.2.2.1.1 1 (by decide)]
      by_cases c : nGift (sN A) l = 0
      · rw [if_pos ((nI_z (by omega)).mpr c)]
        exact go _ (by unfold figG; rw [if_pos ⟨hlt, c⟩])
      · rw [if_neg (fun z => c ((nI_z (by omega)).mp z))]
        exact go _ (by unfold figG; rw [if_neg (fun z => c z.2)]; rfl)
    · have : l = hCnt (sH A) 0 := by omega
      subst this
      rw [if_neg (nI_nlt (Nat.le_refl _) (by omega))]
      exact ⟨ν, rfl, rfl, fun _ _ _ => rfl, hf⟩
theorem m_shL {A : aS} (ok : okS A) (N : Nat) (hN : 20 ≤ N) (c1 : Int32) (e : Int32 → z_S → Option (Int32 × z_S)) : ∀ f (R B : Nat → Nat) ν, 390625 - codF R 8 < f → mS A ν → (∀ l, l < hCnt (sH A) 0 → ν.1 299 l = nI (figG (sH A) (sN A) l)) → rowM 298 R ν → rowM 300 B ν → (∀ l, R l ≤ figG (sH A) (sN A) l) → okG (sH A) (sN A) B → codF B 8 ≤ codF R 8 → (∀ s, okG (sH A) (sN A) s → codF s 8 ≤ codF R 8 → vlF (shV (sH A)) s 8 ≤ vlF (shV (sH A)) B 8 ∧ (vlF (shV (sH A)) s 8 = vlF (shV (sH A)) B 8 → codF B 8 ≤ codF s 8)) → ∃ B' ν', f_X12_shared_L83 N c1 e f (nI (vlF (shV (sH A)) B 8)) ν = e (nI (vlF (shV (sH A)) B' 8)) ν' ∧ hFr ν ν' ∧ bestG (sH A) (sN A) B' ∧ rowM 300 B' ν' := by
  have h8 := ok.2.2.1.1
  have h4 := ok.2.2.1.2.1
  have hF4 : ∀ l, figG (sH A) (sN A) l ≤ 4 := fun l => by unfold figG; split <;> omega
  have hFG : ∀ l, figG (sH A) (sN A) l ≤ hCnt (sH A) 1 := fun l => by unfold figG; split <;> omega
  have hF0 : ∀ l, hCnt (sH A) 0 ≤ l → figG (sH A) (sN A) l = 0 := fun l hl => by unfold figG; rw [if_neg (by omega)]
  have hvb := vlF_le (shV_le ok.2.2.1)
  intro f
  induction f with
  | zero => intro R B ν h; omega
  | succ f ih =>
    intro R B ν hf h hfig hr hb hRF hB hcod hall
    show ∃ B' ν', b_X12_shared_L83 N c1 (f_X12_shared_L83 N c1 e f) e (nI (vlF (shV (sH A)) B 8)) ν = _ ∧ _
    unfold b_X12_shared_L83
    have hR4 : ∀ l, R l ≤ 4 := fun l => Nat.le_trans (hRF l) (hF4 l)
    have hz : ∀ l, hCnt (sH A) 0 ≤ l → R l = 0 := fun l hl => by have := hRF l; rw [hF0 l hl] at this; omega
    obtain ⟨ν1, n1, n2, n3⟩ := m_next ok h N hN (fun l => Nat.le_trans (hR4 l) (by decide)) (fun l => Nat.le_trans (hF4 l) (by decide)) hRF hz hfig hr
    have fr1 : hFr ν ν1 := ⟨n1, fun a j q _ _ => n2 a j q⟩
    have h1 := fr1.w.mS h
    rcases n3 with ⟨k, k1, k2, k3, k4, k5⟩ | ⟨k1, k2⟩
    · have hnF : ∀ l, rowN R k l ≤ figG (sH A) (sN A) l := fun l => by
        unfold rowN
        split
        · exact hRF l
        · split
          · next z => rw [z]; omega
          · exact Nat.zero_le _
      have hn4 : ∀ l, rowN R k l ≤ 4 := fun l => Nat.le_trans (hnF l) (hF4 l)
      have hnG : ∀ l, rowN R k l ≤ hCnt (sH A) 1 := fun l => Nat.le_trans (hnF l) (hFG l)
      have hnz : ∀ l, hCnt (sH A) 0 ≤ l → rowN R k l = 0 := fun l hl => by have := hnF l; rw [hF0 l hl] at this; omega
      have nxt := cof_next (f := figG (sH A) (sN A)) (r := R) (r' := rowN R k) (k := k) (fun l hl => if_pos hl) (by unfold rowN; rw [if_neg (Nat.lt_irrefl k), if_pos rfl]) 8 (by omega) (fun l q1 q2 => by
        refine ⟨?_, ?_, hF4 l⟩
        · rcases Nat.lt_or_ge l (hCnt (sH A) 0) with y | y
          · exact k3 l q1 y
          · rw [hz l y, hF0 l y]
        · unfold rowN
          rw [if_neg (by omega), if_neg (by omega)])
      obtain ⟨x1, x2⟩ := nxt
      have cl := cof_lt (r := rowN R k) 8 (fun l _ => hn4 l)
      have c5 : 5 ^ 8 = 390625 := by decide
      rw [c5] at cl
      have cover : ∀ s, okG (sH A) (sN A) s → codF s 8 ≤ codF (rowN R k) 8 → codF s 8 ≤ codF R 8 ∨ s = rowN R k := by
        intro s hs hle
        rcases Nat.lt_or_ge (codF R 8) (codF s 8) with y | y
        · right
          have := x2 s (fun l _ => hs.1 l) y
          funext l
          rcases Nat.lt_or_ge l 8 with w | w
          · exact cof_inj 8 (fun l _ => Nat.le_trans (hs.1 l) (hF4 l)) (fun l _ => hn4 l) (by omega) l w
          · have := hs.1 l
            rw [hF0 l (by omega)] at this
            rw [hnz l (by omega)]
            omega
        · exact Or.inl y
      have vb1 := hvb (rowN R k) 8
      have vb2 := hvb B 8
      have skip : ∀ ν2, hFr ν1 ν2 → rowM 298 (rowN R k) ν2 → (∀ l, l < 8 → ν2.1 300 l = ν1.1 300 l) → (okG (sH A) (sN A) (rowN R k) → vlF (shV (sH A)) (rowN R k) 8 ≤ vlF (shV (sH A)) B 8) → ∃ B' ν', f_X12_shared_L83 N c1 e f (nI (vlF (shV (sH A)) B 8)) ν2 = e (nI (vlF (shV (sH A)) B' 8)) ν' ∧ hFr ν ν' ∧ bestG (sH A) (sN A) B' ∧ rowM 300 B' ν' := by
        intro ν2 g1 g2 g3 g5
        have fr2 := fr1.tr g1
        obtain ⟨B', ν', r1, r2, r3⟩ := ih (rowN R k) B ν2 (by omega) (fr2.w.mS h) (fun l hl => by rw [fr2.2 _ _ (by decide) (by decide) (by decide)]; exact hfig l hl) g2 (fun l hl => by rw [g3 l hl, n2 _ _ (by decide)]; exact hb l hl) hnF hB (by omega) (fun s hs hle => by
          rcases cover s hs hle with y | y
          · exact hall s hs y
          · subst y
            exact ⟨g5 hs, fun _ => by omega⟩)
        exact ⟨B', ν', r1, fr2.tr r2, r3⟩
      rw [k4, z_bn_sm, if_neg (by decide), m_shIn ok h1 N hN hnG hnz k5, z_bn_sm]
      by_cases cv : vlF (shV (sH A)) B 8 < vlF (shV (sH A)) (rowN R k) 8
      · rw [if_pos (nI_lt cv (by omega))]
        obtain ⟨b, ν2, c1', c2, c3⟩ := m_canGive ok h1 N hN hnG k5
        rw [c1', z_bn_sm]
        have r298 : rowM 298 (rowN R k) ν2 := fun l hl => by rw [c2.2 _ _ (by decide)]; exact k5 l hl
        have fr2 : hFr ν1 ν2 := ⟨c2.1, fun a j _ _ q => c2.2 a j q⟩
        rcases c3 with ⟨c3, rfl⟩ | ⟨c3, rfl⟩
        · rw [if_neg (by decide)]
          obtain ⟨ν4, d1, d2, d3, d4⟩ := m_copyG N hN c1 (nI (vlF (shV (sH A)) (rowN R k) 8)) (fun μ142 => f_X12_shared_L83 N c1 e f (nI (vlF (shV (sH A)) (rowN R k) 8)) μ142) (ν := ν2) (R := rowN R k) r298
          rw [d1]
          have fr4 : hFr ν2 ν4 := ⟨d2, fun a j _ q _ => d4 a j q⟩
          have frA := fr1.tr (fr2.tr fr4)
          have hok : okG (sH A) (sN A) (rowN R k) := ⟨hnF, c3⟩
          obtain ⟨B', ν', r1, r2, r3⟩ := ih (rowN R k) (rowN R k) ν4 (by omega) (frA.w.mS h) (fun l hl => by rw [frA.2 _ _ (by decide) (by decide) (by decide)]; exact hfig l hl) (fun l hl => by rw [d4 _ _ (by decide)]; exact r298 l hl) d3 hnF hok (Nat.le_refl _) (fun s hs hle => by
            rcases cover s hs hle with y | y
            · have := (hall s hs y).1
              exact ⟨by omega, fun z => by omega⟩
            · subst y
              exact ⟨Nat.le_refl _, fun _ => Nat.le_refl _⟩)
          exact ⟨B', ν', r1, frA.tr r2, r3⟩
        · rw [if_pos rfl]
          exact skip ν2 fr2 r298 (fun l _ => c2.2 _ _ (by decide)) (fun z => absurd z.2 c3)
      · rw [if_neg (nI_nlt (by omega) (by omega))]
        exact skip ν1 ⟨rfl, fun _ _ _ _ _ => rfl⟩ k5 (fun _ _ => rfl) (fun _ => by omega)
    · rw [k2, z_bn_sm, if_pos rfl]
      refine ⟨B, ν1, rfl, fr1, ⟨hB, fun s hs => hall s hs ?_⟩, fun l hl => by rw [n2 _ _ (by decide)]; exact hb l hl⟩
      refine cof_le (f := figG (sH A) (sN A)) 8 (fun l hl => ?_) (fun l _ => hs.1 l)
      rcases Nat.lt_or_ge l (hCnt (sH A) 0) with y | y
      · exact k1 l y
      · rw [hz l y, hF0 l y]
theorem m_share {A : aS} {ν : z_S} (ok : okS A) (h : mS A ν) (N : Nat) (hN : 400000 ≤ N) (c1 : Int32) : ∃ B ν', f_X12_shared_B15 N c1 ν = (if c1 = (-1 : Int32) then some (nI (vlF (shV (sH A)) B 8), ν') else z_in c1 8 (some ((ν'.1 300 c1.toNatClampNeg) - (1 : Int32), ν'))) ∧ wFr ν ν' ∧ bestG (sH A) (sN A) B ∧ rowM 300 B ν' := by
  have h8 := ok.2.2.1.1
  have h4 := ok.2.2.1.2.1
  obtain ⟨ν2, q1, q2, q3, q4⟩ := m_zeroG N c1 (fun μ43 => f_X12_shared_L45 N c1 (fun μ81 => f_X12_shared_L83 N c1 (fun y145_2 μ145 => if c1 = (-1 : Int32) then (some (y145_2, μ145)) else z_in c1 8 <| some (((μ145.1 300 c1.toNatClampNeg) - (1 : Int32)), μ145)) N (0 : Int32) μ81) N (0 : Int32) μ43) N 0 ν (by omega) (by omega) (fun k hk => by omega)
  have q1' : f_X12_shared_B15 N c1 ν = f_X12_shared_L45 N c1 (fun μ81 => f_X12_shared_L83 N c1 (fun y145_2 μ145 => if c1 = (-1 : Int32) then (some (y145_2, μ145)) else z_in c1 8 <| some (((μ145.1 300 c1.toNatClampNeg) - (1 : Int32)), μ145)) N (0 : Int32) μ81) N (0 : Int32) ν2 := q1
  have fr2 : wFr ν ν2 := ⟨by rw [q2], fun a j _ z => q3 a j (by omega) (by omega), fun a j _ _ _ => by rw [q2]⟩
  obtain ⟨ν3, r1, r2, r3, r4⟩ := m_figG ok N c1 (fun μ81 => f_X12_shared_L83 N c1 (fun y145_2 μ145 => if c1 = (-1 : Int32) then (some (y145_2, μ145)) else z_in c1 8 <| some (((μ145.1 300 c1.toNatClampNeg) - (1 : Int32)), μ145)) N (0 : Int32) μ81) N 0 ν2 (Nat.zero_le _) (by omega) (fr2.mS h) (fun k hk => by omega)
  have r1' : f_X12_shared_L45 N c1 (fun μ81 => f_X12_shared_L83 N c1 (fun y145_2 μ145 => if c1 = (-1 : Int32) then (some (y145_2, μ145)) else z_in c1 8 <| some (((μ145.1 300 c1.toNatClampNeg) - (1 : Int32)), μ145)) N (0 : Int32) μ81) N (0 : Int32) ν2 = _ := r1
  have fr3 : wFr ν ν3 := fr2.tr ⟨by rw [r2], fun a j _ z => r3 a j (by omega), fun a j _ _ _ => by rw [r2]⟩
  have zk : okG (sH A) (sN A) (fun _ => 0) := ⟨fun _ => Nat.zero_le _, fun g hg => by rw [sumL_0 _ (fun c hc => if_neg (show ¬ (0 : Nat) = g + 1 by omega))]; exact Nat.zero_le _⟩
  have hF4 : ∀ l, figG (sH A) (sN A) l ≤ 4 := fun l => by unfold figG; split <;> omega
  have v0 : vlF (shV (sH A)) (fun _ => 0) 8 = 0 := by rw [vlF_sum]; exact sumL_0 8 (fun c hc => if_neg (Nat.lt_irrefl 0))
  obtain ⟨B, ν4, s1, s2, s3, s4⟩ := m_shL ok N (by omega) c1 (fun y145_2 μ145 => if c1 = (-1 : Int32) then (some (y145_2, μ145)) else z_in c1 8 <| some (((μ145.1 300 c1.toNatClampNeg) - (1 : Int32)), μ145)) N (fun _ => 0) (fun _ => 0) ν3 (by omega) (fr3.mS h) r4 (fun l hl => by rw [r3 _ _ (by decide)]; exact (q4 l hl).1) (fun l hl => by rw [r3 _ _ (by decide)]; exact (q4 l hl).2) (fun _ => Nat.zero_le _) zk (Nat.le_refl _) (fun s hs hle => by
    have e0 : codF (fun _ => 0) 8 = 0 := rfl
    have es : s = fun _ => 0 := funext fun l => by
      rcases Nat.lt_or_ge l 8 with y | y
      · exact cof_inj 8 (fun l _ => Nat.le_trans (hs.1 l) (hF4 l)) (fun l _ => Nat.zero_le 4) (by omega) l y
      · have := hs.1 l
        unfold figG at this
        rw [if_neg (by omega)] at this
        omega
    rw [es]
    exact ⟨Nat.le_refl _, fun _ => Nat.le_refl _⟩)
  rw [v0] at s1
  have s1' : f_X12_shared_L83 N c1 (fun y145_2 μ145 => if c1 = (-1 : Int32) then (some (y145_2, μ145)) else z_in c1 8 <| some (((μ145.1 300 c1.toNatClampNeg) - (1 : Int32)), μ145)) N (0 : Int32) ν3 = _ := s1
  refine ⟨B, ν4, ?_, fr3.tr s2.w, s3, s4⟩
  rw [q1', r1', s1']
theorem wAll_0 {h : aH} {l : Nat} : ∀ G, wAll h l G = 0 → ∀ g, g < G → hWish h l g = 0
  | 0, _, g, hg => by omega
  | G + 1, hw, g, hg => by
    have e : wAll h l (G + 1) = wAll h l G + hWish h l G := rfl
    by_cases z : g = G
    · rw [z]; omega
    · exact wAll_0 G (by omega) g (by omega)
theorem okG_fs {h : aH} {n : aN} (ok : okH h) {s : Nat → Nat} (hs : okG h n s) : FsF (tkB h n) (hCnt h 1) (shV h) 8 (nStock n) s := by
  have h8 := ok.1
  refine ⟨fun l _ _ => ?_, fun l _ _ ht hp => ?_, fun g hg => ?_⟩
  · have := hs.1 l
    unfold figG at this
    split at this <;> omega
  · have hf := hs.1 l
    unfold figG at hf
    by_cases c : l < hCnt h 0 ∧ nGift n l = 0
    · rw [if_pos c] at hf
      have hno := of_decide_eq_false ht
      unfold shV
      by_cases c1 : 0 < hMail h l 1
      · have hw : wAll h l (hCnt h 1) = 0 := by
          rcases Nat.eq_zero_or_pos (wAll h l (hCnt h 1)) with y | y
          · exact y
          · exact absurd ⟨c.1, c.2, c1, y⟩ hno
        rw [wAll_0 _ hw _ (by omega), Nat.mul_zero]
      · rw [show hMail h l 1 = 0 by omega, Nat.zero_mul]
    · rw [if_neg c] at hf; omega
  · rw [cnF_sum, sumL_to8 h8 (fun l hl => by
      show (if s l = g + 1 then 1 else 0) = 0
      have := hs.1 l
      unfold figG at this
      rw [if_neg (by omega)] at this
      rw [if_neg (by omega)])]
    exact hs.2 g hg
theorem shr_best {h : aH} {n : aN} (ok : okH h) {B : Nat → Nat} (hB : bestG h n B) : vlF (shV h) B 8 = mxF (tkB h n) (hCnt h 1) (shV h) 8 (nStock n) ∧ ∀ l, l < 8 → shrR h n l = B l := by
  have h8 := ok.1
  have h4 := ok.2.1
  obtain ⟨p1, p2, p3, p4⟩ := chF_p (tk := tkB h n) (G := hCnt h 1) (v := shV h) 8 (Nat.le_refl _) (nStock n)
  have hF4 : ∀ l, figG h n l ≤ 4 := fun l => by unfold figG; split <;> omega
  have okR : okG h n (shrR h n) := by
    refine ⟨fun l => ?_, fun g hg => ?_⟩
    · by_cases ht : tkB h n l = true
      · have d := of_decide_eq_true ht
        unfold figG
        rw [if_pos ⟨d.1, d.2.1⟩]
        exact p1.1 l (by omega) (by omega)
      · have : shrR h n l = 0 := p2 l (Or.inr (Or.inr (by cases hq : tkB h n l; rfl; exact absurd hq ht)))
        rw [this]; exact Nat.zero_le _
    · have := p1.2.2 g hg
      rw [cnF_sum] at this
      refine Nat.le_trans ?_ this
      exact sumL_pre 8 h8
  have v1 := (hB.2 _ okR).1
  have v2 := mxF_up 8 (Nat.le_refl _) (nStock n) (okG_fs ok hB.1)
  have ve : vlF (shV h) (shrR h n) 8 = mxF (tkB h n) (hCnt h 1) (shV h) 8 (nStock n) := p3
  have vB : vlF (shV h) B 8 = mxF (tkB h n) (hCnt h 1) (shV h) 8 (nStock n) := by omega
  refine ⟨vB, ?_⟩
  have l1 : lexF 0 (shrR h n) B := p4 B (okG_fs ok hB.1) vB
  have l2 : lexF 0 B (shrR h n) := by
    have hc := (hB.2 _ okR).2 (by omega)
    rcases Nat.lt_or_ge (codF B 8) (codF (shrR h n) 8) with y | y
    · obtain ⟨j, j1, j2, j3⟩ := cof_lex 8 (fun l _ => Nat.le_trans (hB.1.1 l) (hF4 l)) (fun l _ => Nat.le_trans (okR.1 l) (hF4 l)) y
      exact Or.inr ⟨j, Nat.zero_le _, j1, fun i _ hi => j2 i hi, j3⟩
    · exact Or.inl (fun l _ hl => cof_inj 8 (fun l _ => Nat.le_trans (hB.1.1 l) (hF4 l)) (fun l _ => Nat.le_trans (okR.1 l) (hF4 l)) (by omega) l hl)
  exact lexF_anti l1 l2
theorem op_shared {A : aS} {μ ν : z_S} (ok : okS A) (hc : cS A μ) (hm : mS A ν) (N : Nat) (hN : 400000 ≤ N) (a : Int32) : z_Op (f_X11_shared N a μ) (f_X12_shared N a ν) := by
  have h8 := ok.2.2.1.1
  obtain ⟨μ', p1, p2, p3, p4⟩ := c_share ok.2.2.1 ok.2.2.2.1 (plK39 μ.2.2.1) N (by omega) hc.2.2.2.2.2.2.2.1 hc.2.2.2.2.2.2.2.2.1
  obtain ⟨B, ν', q1, q2, q3, q4⟩ := m_share ok hm N hN a
  obtain ⟨b1, b2⟩ := shr_best ok.2.2.1 q3
  unfold f_X11_shared f_X12_shared f_X11_shared_B15
  by_cases c : a = (-1 : Int32)
  · rw [if_pos c, if_pos c, q1, p1, z_bn_sm, if_pos c, if_pos c, p3, b1]
    exact ⟨_, _, _, rfl, rfl, A, ok, p2.cS ok hc, q2.mS hm⟩
  · rw [if_neg c, if_neg c, c_isL ok hc, z_bn_sm, m_isL ok hm, z_bn_sm]
    by_cases hl : 0 ≤ a.toInt ∧ a.toInt < hCnt (sH A) 0
    · obtain ⟨l, hl1, rfl⟩ := small hl (by omega)
      rw [if_pos hl, if_neg (by decide), if_neg (by decide), q1, p1, z_bn_sm, if_neg c, if_neg c, z_in_nI (show l < 8 by omega) (by decide), z_in_nI (show l < 8 by omega) (by decide), nI_toNat (by omega), p4 l hl1, q4 l (by omega), b2 l (by omega)]
      exact ⟨_, _, _, rfl, rfl, A, ok, p2.cS ok hc, q2.mS hm⟩
    · rw [if_neg hl, if_pos rfl, if_pos rfl]
      exact ⟨_, _, _, rfl, rfl, A, ok, hc, hm⟩
