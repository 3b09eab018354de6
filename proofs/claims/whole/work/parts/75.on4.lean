theorem mN_tN {A : aS} {ν ν4 : z_S} (ok : okS A) (hm : mS A ν) (h0 : ν4.1 296 0 = nI (256 * sTape A 0 + sTape A 1))
    (h1 : ∀ j, 1 ≤ j → ν4.1 296 j = if 8 ≤ j ∧ j < 8 + 3 * hCnt (sH A) 0 then nI (sTape A (2 + hCnt (sH A) 2 + hCnt (sH A) 1 + (j - 8))) else if 4 ≤ j ∧ j < 4 + hCnt (sH A) 1 then nI (sTape A (2 + hCnt (sH A) 2 + (j - 4))) else if 1 ≤ j ∧ j < 1 + hCnt (sH A) 2 then nI (sTape A (2 + (j - 1))) else ν.1 296 j) : mN 296 0 (tN (sH A) (sTape A)) ν4 := by
  have h8 := ok.2.2.1.1
  have h4 := ok.2.2.1.2.1
  have h3 := ok.2.2.1.2.2.1
  obtain ⟨o1, o2, o3, o4, o5, o6, o7, o8, o9⟩ := ok.2.2.2.1
  have m := hm.2.2.2.2.2.2.2.1
  refine ⟨h0, fun k hk => ?_, fun k hk => ?_, fun k hk => ?_⟩
  · rw [h1 _ (by omega)]
    show _ = nI (if k < hCnt (sH A) 2 then sTape A (2 + k) else 0)
    by_cases c : k < hCnt (sH A) 2
    · rw [if_neg (by omega), if_neg (by omega), if_pos (by omega), if_pos c, show 2 + (0 + 1 + k - 1) = 2 + k by omega]
    · rw [if_neg (by omega), if_neg (by omega), if_neg (by omega), if_neg c, m.2.1 k hk, o3 k (by omega)]
  · rw [h1 _ (by omega)]
    show _ = nI (if k < hCnt (sH A) 1 then sTape A (2 + hCnt (sH A) 2 + k) else 0)
    by_cases c : k < hCnt (sH A) 1
    · rw [if_neg (by omega), if_pos (by omega), if_pos c, show 2 + hCnt (sH A) 2 + (0 + 4 + k - 4) = 2 + hCnt (sH A) 2 + k by omega]
    · rw [if_neg (by omega), if_neg (by omega), if_neg (by omega), if_neg c, m.2.2.1 k hk, o5 k (by omega)]
  · obtain ⟨m1, m2, m3⟩ := m.2.2.2 k hk
    rw [h1 _ (by omega), h1 _ (by omega), h1 _ (by omega)]
    show _ = nI (if k < hCnt (sH A) 0 then sTape A (2 + hCnt (sH A) 2 + hCnt (sH A) 1 + 3 * k) else 0) ∧ _ = nI (if k < hCnt (sH A) 0 then sTape A (2 + hCnt (sH A) 2 + hCnt (sH A) 1 + 3 * k + 1) else 0) ∧ _ = nI (if k < hCnt (sH A) 0 then sTape A (2 + hCnt (sH A) 2 + hCnt (sH A) 1 + 3 * k + 2) else 0)
    by_cases c : k < hCnt (sH A) 0
    · rw [if_pos c, if_pos c, if_pos c, if_pos (by omega), if_pos (by omega), if_pos (by omega), show 0 + 8 + 3 * k - 8 = 3 * k by omega, show 0 + 9 + 3 * k - 8 = 3 * k + 1 by omega, show 0 + 10 + 3 * k - 8 = 3 * k + 2 by omega]
      exact ⟨rfl, rfl, rfl⟩
    · obtain ⟨z1, z2, z3⟩ := o9 k (by omega)
      rw [if_neg c, if_neg c, if_neg c, if_neg (by omega), if_neg (by omega), if_neg (by omega), if_neg (by omega), if_neg (by omega), if_neg (by omega), if_neg (by omega), if_neg (by omega), if_neg (by omega), m1, m2, m3, z1, z2, z3]
      exact ⟨rfl, rfl, rfl⟩
theorem m_onS {A : aS} {ν : z_S} (ok : okS A) (h : mS A ν) (N : Nat) (hN : 60 ≤ N) : ∃ ν', (z_bd (z_setI ν 296 0 (((256 : Int32) * (ν.1 254 0)) + (ν.1 254 1))) fun μ_4 => f_X12_on_L57 N (fun y88_2 μ88 => f_X12_on_L90 N (fun y121_2 μ121 => f_X12_on_L123 N y121_2 (fun μ156 => z_bd (z_setI μ156 253 68 (0 : Int32)) fun μ_11 => some ((1 : Int32), μ_11)) N (0 : Int32) μ121) N y88_2 (0 : Int32) μ88) N (2 : Int32) (0 : Int32) μ_4) = some (1, ν') ∧ mS (aPast A (tN (sH A) (sTape A)) []) ν' := by
  have h8 := ok.2.2.1.1
  have h4 := ok.2.2.1.2.1
  have h3 := ok.2.2.1.2.2.1
  have ht := h.2.1
  have e5 : (256 : Int32) * nI (sTape A 0) + nI (sTape A 1) = nI (256 * sTape A 0 + sTape A 1) := by
    rw [show (256 : Int32) = nI 256 from rfl, pk_mul, nI_add]
  rw [z_bd_eq, ht, ht, e5]
  generalize hν1 : z_setI ν 296 0 (nI (256 * sTape A 0 + sTape A 1)) = ν1
  have o1 : ∀ a j, ¬ (a = 296 ∧ j = 0) → ν1.1 a j = ν.1 a j := fun a j q => by rw [← hν1, sI_1, if_neg q]
  have d1 : ν1.1 296 0 = nI (256 * sTape A 0 + sTape A 1) := by rw [← hν1, sI_1, if_pos ⟨rfl, rfl⟩]
  have f1 : ν1.2 = ν.2 := by rw [← hν1]; rfl
  obtain ⟨ν2, g1, g2, g3⟩ := m_on1 N (t := sTape A) (n := hCnt (sH A) 2) h3 (fun y88_2 μ88 => f_X12_on_L90 N (fun y121_2 μ121 => f_X12_on_L123 N y121_2 (fun μ156 => z_bd (z_setI μ156 253 68 (0 : Int32)) fun μ_11 => some ((1 : Int32), μ_11)) N (0 : Int32) μ121) N y88_2 (0 : Int32) μ88) N 0 ν1 (Nat.zero_le _) (by omega) (fun j => by rw [o1 _ _ (by omega)]; exact ht j) (by rw [o1 _ _ (by omega)]; exact h.2.2.2.2.2.2.1.1 2 (by decide))
  have o2 : ∀ a j, a ≠ 296 → ν2.1 a j = ν.1 a j := fun a j q => by rw [g3, if_neg (fun z => q z.1), o1 _ _ (fun z => q z.1)]
  obtain ⟨ν3, k1, k2, k3⟩ := m_on2 N (t := sTape A) (n := hCnt (sH A) 1) (b := 2 + hCnt (sH A) 2) h4 (by omega) (fun y121_2 μ121 => f_X12_on_L123 N y121_2 (fun μ156 => z_bd (z_setI μ156 253 68 (0 : Int32)) fun μ_11 => some ((1 : Int32), μ_11)) N (0 : Int32) μ121) N 0 ν2 (Nat.zero_le _) (by omega) (fun j => by rw [o2 _ _ (by omega)]; exact ht j) (by rw [o2 _ _ (by omega)]; exact h.2.2.2.2.2.2.1.1 1 (by decide))
  have o3 : ∀ a j, a ≠ 296 → ν3.1 a j = ν.1 a j := fun a j q => by rw [k3, if_neg (fun z => q z.1), o2 _ _ q]
  obtain ⟨ν4, q1, q2, q3⟩ := m_on3 N (t := sTape A) (n := hCnt (sH A) 0) (b := 2 + hCnt (sH A) 2 + hCnt (sH A) 1) h8 (by omega) (fun μ156 => z_bd (z_setI μ156 253 68 (0 : Int32)) fun μ_11 => some ((1 : Int32), μ_11)) N 0 ν3 (Nat.zero_le _) (by omega) (fun j => by rw [o3 _ _ (by omega)]; exact ht j) (by rw [o3 _ _ (by omega)]; exact h.2.2.2.2.2.2.1.1 0 (by decide))
  have o4 : ∀ a j, a ≠ 296 → ν4.1 a j = ν.1 a j := fun a j q => by rw [q3, if_neg (fun z => q z.1), o3 _ _ q]
  have g1' : f_X12_on_L57 N (fun y88_2 μ88 => f_X12_on_L90 N (fun y121_2 μ121 => f_X12_on_L123 N y121_2 (fun μ156 => z_bd (z_setI μ156 253 68 (0 : Int32)) fun μ_11 => some ((1 : Int32), μ_11)) N (0 : Int32) μ121) N y88_2 (0 : Int32) μ88) N (2 : Int32) (0 : Int32) ν1 = _ := g1
  have k1' : f_X12_on_L90 N (fun y121_2 μ121 => f_X12_on_L123 N y121_2 (fun μ156 => z_bd (z_setI μ156 253 68 (0 : Int32)) fun μ_11 => some ((1 : Int32), μ_11)) N (0 : Int32) μ121) N (nI (2 + hCnt (sH A) 2)) (0 : Int32) ν2 = _ := k1
  have q1' : f_X12_on_L123 N (nI (2 + hCnt (sH A) 2 + hCnt (sH A) 1)) (fun μ156 => z_bd (z_setI μ156 253 68 (0 : Int32)) fun μ_11 => some ((1 : Int32), μ_11)) N (0 : Int32) ν3 = _ := q1
  rw [g1', k1', q1', z_bd_eq]
  refine ⟨_, rfl, ?_⟩
  have hN4 : mN 296 0 (tN (sH A) (sTape A)) ν4 := by
    refine mN_tN ok h ?_ (fun j hj => ?_)
    · rw [q3, if_neg (by omega), k3, if_neg (by omega), g3, if_neg (by omega)]; exact d1
    · rw [q3]
      by_cases c1 : 8 ≤ j ∧ j < 8 + 3 * hCnt (sH A) 0
      · rw [if_pos ⟨rfl, c1⟩, if_pos c1]
      · rw [if_neg (fun z => c1 z.2), if_neg c1, k3]
        by_cases c2 : 4 ≤ j ∧ j < 4 + hCnt (sH A) 1
        · rw [if_pos ⟨rfl, c2⟩, if_pos c2]
        · rw [if_neg (fun z => c2 z.2), if_neg c2, g3]
          by_cases c3 : 1 ≤ j ∧ j < 1 + hCnt (sH A) 2
          · rw [if_pos ⟨rfl, c3⟩, if_pos c3]
          · rw [if_neg (fun z => c3 z.2), if_neg c3, o1 _ _ (by omega)]
  exact m_noPast (mS_now (n := tN (sH A) (sTape A)) h (q2.trans (k2.trans (g2.trans f1))) o4 hN4)
theorem op_on {A : aS} {μ ν : z_S} (ok : okS A) (hc : cS A μ) (hm : mS A ν) (N : Nat) (hN : 60 ≤ N) : z_Op (f_X11_on N μ) (f_X12_on N ν) := by
  have h8 := ok.2.2.1.1
  have h4 := ok.2.2.1.2.1
  have h3 := ok.2.2.1.2.2.1
  have him : imgN A = 2 + hCnt (sH A) 2 + hCnt (sH A) 1 + 3 * hCnt (sH A) 0 := rfl
  have hsl := ok.1
  have htb := ok.2.1
  have ok0 : okS (aLen A 0) := ok_len ok (Nat.zero_le _)
  have hc0 : cS (aLen A 0) (z_setI μ 1 1 0) := c_len ok hc 0
  have hm0 : mS (aLen A 0) (z_setI ν 253 1 0) := m_len hm 0
  obtain ⟨μr, r1, r2⟩ := c_refZ ok0 hc0 N (k := 5) (by decide)
  have r1' : f_X11_refuse N 5 (z_setI μ 1 1 0) = some (0, μr) := r1
  have r3 := m_refs hm0 (k := 5) (by decide)
  have hC0 : f_X11_on_B77 N 0 μ = some (0, μr) := by
    unfold f_X11_on_B77
    rw [z_bd_eq, if_pos rfl, r1', z_bn_sm, z_zb_0]
  have hM0 : f_X12_isImage N (nI (sLen A)) (z_setI ν 253 1 0) = some (0, z_setI ν 253 1 0) → f_X12_on N ν = some (0, z_setI (z_setI ν 253 1 0) 255 5 ((z_setI ν 253 1 0).1 255 5 + 1)) := by
    intro z
    unfold f_X12_on
    rw [hm.1, z_bd_eq, z_bd_eq, z, z_bn_sm, if_pos rfl, z_bd_eq]
  have hno : f_X11_on N μ = f_X11_on_B77 N 0 μ → f_X12_isImage N (nI (sLen A)) (z_setI ν 253 1 0) = some (0, z_setI ν 253 1 0) → z_Op (f_X11_on N μ) (f_X12_on N ν) := by
    intro z1 z2
    exact ⟨0, _, _, z1.trans hC0, hM0 z2, _, ok_ref ok0 5, r2, r3⟩
  obtain ⟨i1, i2⟩ := m_isImage ok0 hm0 N hN (n := sLen A) hsl
  have x1 : (((3 : Int32) + nI (hCnt (sH A) 2)) + nI (hCnt (sH A) 1)) + ((3 : Int32) * nI (hCnt (sH A) 0)) = nI (imgN A + 1) := by
    rw [show (3 : Int32) = nI 3 from rfl, pk_mul, nI_add, nI_add, nI_add, him]
    congr 1
    omega
  have hseg : (segN (sTape A) 0 (imgN A)).length = imgN A := segN_len _ _ _
  have hget : ∀ (f : Nat → Nat) m i k, k < m → (segN f i m).getD k 0 = f (i + k) := by
    intro f m
    induction m with
    | zero => intro i k hk; omega
    | succ m ih =>
      intro i k hk
      show (f i :: segN f (i + 1) m).getD k 0 = _
      cases k with
      | zero => rfl
      | succ k =>
        show (segN f (i + 1) m).getD k 0 = _
        rw [ih (i + 1) k (by omega), show i + 1 + k = i + (k + 1) by omega]
  have hchk : f_X11_checkByte N 2 (nI (imgN A)) μ = some (nI (chk (segN (sTape A) 0 (imgN A))), μ) := by
    have := c_chk (o := 2) (μ := μ) (L := segN (sTape A) 0 (imgN A)) N (by omega) (by omega) (by decide) (by rw [hseg]; show _ ≤ 1600; omega) (by decide) (fun x hx => by obtain ⟨k, hk⟩ := segN_mem _ _ hx; rw [hk]; exact htb k) (fun k hk => by rw [hc.2.1, hget _ _ _ _ (by omega), Nat.zero_add])
    rw [hseg] at this
    exact this
  have hcl := chk_lt (segN (sTape A) 0 (imgN A))
  have htl := htb (imgN A)
  have ep : nI (imgN A + 1) - (1 : Int32) = nI (imgN A) := nI_pred _
  have hon : f_X11_on N μ = if sLen A = imgN A + 1 ∧ chk (segN (sTape A) 0 (imgN A)) = sTape A (imgN A) then f_X11_on_B77 N 1 μ else f_X11_on_B77 N 0 μ := by
    unfold f_X11_on f_X11_on_B76
    rw [hc.2.2.2.2.2.2.2.1.1 2 (by decide), hc.2.2.2.2.2.2.2.1.1 1 (by decide), hc.2.2.2.2.2.2.2.1.1 0 (by decide), x1, z_bd_eq, hc.1, ep]
    by_cases c1 : sLen A = imgN A + 1
    · rw [if_pos (by rw [c1]), hchk, z_bn_sm, z_in_nI (show imgN A < 1600 by omega) (by decide), nI_toNat (show imgN A < 2 ^ 31 by omega), hc.2.1]
      by_cases c2 : chk (segN (sTape A) 0 (imgN A)) = sTape A (imgN A)
      · rw [if_pos (by rw [c2]), if_pos ⟨c1, c2⟩]
      · rw [if_neg (fun z => c2 ((nI_eq (by omega) (by omega)).mp z)), if_neg (fun z => c2 z.2)]
    · rw [if_neg (fun z => c1 ((nI_eq (by omega) (by omega)).mp z)), if_neg (fun z => c1 z.1)]
  by_cases c : sLen A = imgN A + 1 ∧ chk (segN (sTape A) 0 (imgN A)) = sTape A (imgN A)
  · rw [if_pos c] at hon
    obtain ⟨b, hb, i3⟩ := i1 c
    obtain ⟨μ1, l1, l2, l3, l4⟩ := c_load ok0 hc0 N (by omega)
    have hz := z_hn_lt μ.2.2.1
    have hc1 : cS (aLen A 0) μ1 := cS_scr ok0 hc0 (by rw [l4]) (fun o j ho => l3 o j (by unfold cRel at ho; omega))
    have tb : ∀ k, nLeft (tN (sH A) (sTape A)) k < 256 ∧ nStock (tN (sH A) (sTape A)) k < 256 ∧ nDone (tN (sH A) (sTape A)) k < 256 ∧ nSheet (tN (sH A) (sTape A)) k < 256 ∧ nGift (tN (sH A) (sTape A)) k < 256 := by
      have tif : ∀ (p : Prop) [Decidable p] (i : Nat), (if p then sTape A i else 0) < 256 := by
        intro p _ i
        by_cases q : p
        · rw [if_pos q]; exact htb i
        · rw [if_neg q]; decide
      exact fun k => ⟨tif _ _, tif _ _, tif _ _, tif _ _, tif _ _⟩
    have tb0 : nDay (tN (sH A) (sTape A)) < 2 ^ 31 := by
      have := htb 0
      have := htb 1
      show 256 * sTape A 0 + sTape A 1 < 2 ^ 31
      omega
    obtain ⟨b2, hb2, k1⟩ := c_canBe (h := sH A) (s := tN (sH A) (sTape A)) (μ := μ1) (o := z_hn μ1.2.2.1) (q := 45) ok.2.2.1 (by decide +kernel) (z_hn_k _) hc1.2.2.2.2.2.2.2.1 l2 tb0 tb N (by omega)
    have hbb : b = b2 := by
      rcases hb with ⟨p1, p2⟩ | ⟨p1, p2⟩
      · rcases hb2 with ⟨q1, q2⟩ | ⟨q1, q2⟩
        · rw [p1, q1]
        · exact absurd p2 q2
      · rcases hb2 with ⟨q1, q2⟩ | ⟨q1, q2⟩
        · exact absurd q2 p2
        · rw [p1, q1]
    subst hbb
    rcases hb with ⟨rfl, hT⟩ | ⟨rfl, hT⟩
    · obtain ⟨μ2, p1, p2, p3, p4⟩ := c_copy N (s0 := 39) (s1 := 45) (by decide +kernel) (by decide +kernel) (by omega) μ1
      have hc2 : cS (aNow (aLen A 0) (tN (sH A) (sTape A))) μ2 := cS_now ok0 hc1 (by rw [p4]) (fun o j ho => p3 o j (by omega)) (p2 _ l2)
      have ok2 : okS (aNow (aLen A 0) (tN (sH A) (sTape A))) := ok_now ok0 (okN_tN ok.2.2.1 hT)
      obtain ⟨ν2, s1, s2⟩ := m_onS ok0 hm0 N hN
      refine ⟨1, z_setI μ2 0 17 0, ν2, ?_, ?_, _, ok_noPast ok2, c_noPast ok2 hc2, s2⟩
      · rw [hon]
        unfold f_X11_on_B77
        rw [z_bd_eq, if_neg (by decide), l1, z_bn_sm, k1, z_bn_sm, if_neg (by decide), p1, z_bn_sm, z_bd_eq]
      · unfold f_X12_on
        rw [hm.1, z_bd_eq, z_bd_eq, i3, z_bn_sm, if_neg (by decide)]
        exact s1
    · obtain ⟨μq, q1, q2⟩ := c_refZ ok0 hc1 N (k := 5) (by decide)
      have q1' : f_X11_refuse N 5 μ1 = some (0, μq) := q1
      refine ⟨0, μq, _, ?_, hM0 i3, _, ok_ref ok0 5, q2, r3⟩
      rw [hon]
      unfold f_X11_on_B77
      rw [z_bd_eq, if_neg (by decide), l1, z_bn_sm, k1, z_bn_sm, if_pos rfl, q1', z_bn_sm, z_zb_0]
  · rw [if_neg c] at hon
    exact hno hon (i2 c)
