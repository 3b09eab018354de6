/-! give -/
def nSetGift (s : aN) (l g : Nat) : aN := (s.1, s.2.1, upN (nStock s) g (nStock s g - 1), s.2.2.2.1, nSheet s, upN (nGift s) l (g + 1))
theorem op_give {A : aS} {μ ν : z_S} (ok : okS A) (hc : cS A μ) (hm : mS A ν) (N : Nat) (hN : 40 ≤ N) (a b : Int32) : z_Op (f_X11_give N a b μ) (f_X12_give N a b ν) := by
  obtain ⟨μ', h1, h2⟩ := c_refN ok hc N (k := 2) (by decide)
  have h1' : f_X11_refuseNumber N 2 μ = some (-1, μ') := h1
  obtain ⟨ν', g1, g2⟩ := m_refuses hm N (k := 2) (by decide)
  have g1' : f_X12_refuses N 2 ν = some (-1, ν') := g1
  have hno : z_Op (z_bn (f_X11_refuseNumber N 2 μ) fun x1 μ_1 => some (x1, μ_1)) (z_bn (f_X12_refuses N 2 ν) fun x1 μ_1 => some (x1, μ_1)) := by
    rw [h1', z_bn_sm, g1', z_bn_sm]
    exact ⟨-1, μ', ν', rfl, rfl, _, ok_ref ok 2, h2, g2⟩
  have h8 := ok.2.2.1.1
  have h4 := ok.2.2.1.2.1
  have h10 : ¬ (1 : Int32) = 0 := by decide
  unfold f_X11_give f_X12_give f_X11_give_B16 f_X11_give_B47 f_X12_give_B35
  rw [c_isL ok hc, z_bn_sm, m_isL ok hm, z_bn_sm]
  by_cases hl : 0 ≤ a.toInt ∧ a.toInt < hCnt (sH A) 0
  · rw [if_pos hl, if_neg h10, if_neg h10, c_isG ok hc, z_bn_sm, m_isG ok hm, z_bn_sm]
    by_cases hg : 0 ≤ b.toInt ∧ b.toInt < hCnt (sH A) 1
    · rw [if_pos hg, if_neg h10, if_neg h10]
      obtain ⟨l, hl1, rfl⟩ := small hl (by omega)
      obtain ⟨g, hg1, rfl⟩ := small hg (by omega)
      have hN9 := hc.2.2.2.2.2.2.2.2.1
      have hgb : nGift (sN A) l < 2 ^ 30 := by have := ok.2.2.2.1.2.2.2.2.2.2.2.1 l; omega
      have hsb : nStock (sN A) g ≤ 3 := ok.2.2.2.1.2.2.2.1 g
      have e4 : (4 : Int32) + nI g = nI (4 + g) := ix1 4 g
      have hst : ν.1 296 (4 + g) = nI (nStock (sN A) g) := by
        have := hm.2.2.2.2.2.2.2.1.2.2.1 g (by omega)
        rw [show 0 + 4 + g = 4 + g by omega] at this
        exact this
      rw [z_in_nI (show l < 8 by omega) (by decide), nI_toNat (show l < 2 ^ 31 by omega), show μ.1 44 l = nI (nGift (sN A) l) - 1 from hN9.2.2.2.2.2 l (by omega), (m_now hm N (show l < 8 by omega)).2.2, z_bn_sm]
      by_cases hz : nGift (sN A) l = 0
      · rw [if_pos ((nI_m1 hgb).mpr hz), hz, if_neg (show ¬ (0 : Int32) < nI 0 by decide), z_in_nI (show g < 4 by omega) (by decide), nI_toNat (show g < 2 ^ 31 by omega), show μ.1 41 g = nI (nStock (sN A) g) from hN9.2.2.1 g (by omega), e4, z_in_nI (show 4 + g < 32 by omega) (by decide), nI_toNat (show 4 + g < 2 ^ 31 by omega), hst]
        by_cases hs : nStock (sN A) g = 0
        · rw [hs, if_neg (show ¬ (0 : Int32) < nI 0 by decide), if_pos (show nI 0 = (0 : Int32) from rfl)]
          exact hno
        · rw [if_pos (show (0 : Int32) < nI (nStock (sN A) g) from nI_lt (a := 0) (by omega) (by omega)), if_neg (fun q => hs ((nI_z (by omega)).mp q))]
          obtain ⟨μ2, r1, r2⟩ := c_remember ok hc N
          obtain ⟨ν2, s1, s2⟩ := m_keeps ok hm N hN
          have k9 := r2.2.2.2.2.2.2.2.2.1
          have m9 := s2.2.2.2.2.2.2.2.1
          have ex : ((8 : Int32) + (3 : Int32) * nI l) + (2 : Int32) = nI (8 + 3 * l + 2) := ix3 8 3 l 2
          have eg : nI g + (1 : Int32) = nI (g + 1) := nI_1 g
          have es : nI (nStock (sN A) g) - (1 : Int32) = nI (nStock (sN A) g - 1) := pk_sub (b := 1) (by omega)
          have q41 : (z_setI μ2 44 l (nI g)).1 41 g = nI (nStock (sN A) g) := by rw [sI_1, if_neg (by omega)]; exact k9.2.2.1 g (by omega)
          have q296 : ν2.1 296 (4 + g) = nI (nStock (sN A) g) := by
            have := m9.2.2.1 g (by omega)
            rw [show 0 + 4 + g = 4 + g by omega] at this
            exact this
          rw [r1, z_bn_sm, s1, z_bn_sm]
          simp only [z_bd_eq]
          rw [z_in_nI (show l < 8 by omega) (by decide), z_in_nI (show g < 4 by omega) (by decide), z_in_nI (show g < 4 by omega) (by decide), z_in_nI (show g < 4 by omega) (by decide), z_in_nI (show 4 + g < 32 by omega) (by decide), z_in_nI (show 4 + g < 32 by omega) (by decide), ex, z_in_nI (show 8 + 3 * l + 2 < 32 by omega) (by decide), z_in_nI (show 4 + g < 32 by omega) (by decide), nI_toNat (show 8 + 3 * l + 2 < 2 ^ 31 by omega), nI_toNat (show 4 + g < 2 ^ 31 by omega), q41, q296, es, eg]
          have r41 : (z_setI (z_setI μ2 44 l (nI g)) 41 g (nI (nStock (sN A) g - 1))).1 41 g = nI (nStock (sN A) g - 1) := by rw [sI_1, if_pos ⟨rfl, rfl⟩]
          have r296 : (z_setI (z_setI ν2 296 (4 + g) (nI (nStock (sN A) g - 1))) 296 (8 + 3 * l + 2) (nI (g + 1))).1 296 (4 + g) = nI (nStock (sN A) g - 1) := by rw [sI_1, if_neg (by omega), sI_1, if_pos ⟨rfl, rfl⟩]
          rw [r41, r296]
          refine ⟨_, _, _, rfl, rfl, aNow (aKeep A) (nSetGift (sN A) l g), ok_now (ok_keep ok) ?_, ?_, ?_⟩
          · obtain ⟨q1, q2, q3, q4, q5, q6, q7, q8, q9⟩ := ok.2.2.2.1
            refine ⟨q1, q2, q3, fun k => ?_, fun k hk => ?_, q6, q7, fun k => ?_, fun k hk => ?_⟩
            · show (if k = g then nStock (sN A) g - 1 else nStock (sN A) k) ≤ 3
              split
              · omega
              · exact q4 k
            · show (if k = g then nStock (sN A) g - 1 else nStock (sN A) k) = 0
              have hk' : hCnt (sH A) 1 ≤ k := hk
              rw [if_neg (by omega)]
              exact q5 k hk
            · show (if k = l then g + 1 else nGift (sN A) k) ≤ hCnt (sH A) 1
              split
              · omega
              · exact q8 k
            · have hk' : hCnt (sH A) 0 ≤ k := hk
              refine ⟨(q9 k hk).1, (q9 k hk).2.1, ?_⟩
              show (if k = l then g + 1 else nGift (sN A) k) = 0
              rw [if_neg (by omega)]
              exact (q9 k hk).2.2
          · refine cS_now (ok_keep ok) r2 rfl (fun o j ho => by rw [sI_1, if_neg (by omega), sI_1, if_neg (by omega)]) ?_
            obtain ⟨g1, g2, g3, g4, g5, g6⟩ := k9
            refine ⟨?_, fun j hj => ?_, fun j hj => ?_, fun j hj => ?_, fun j hj => ?_, fun j hj => ?_⟩
            · rw [sI_1, if_neg (by omega), sI_1, if_neg (by omega)]; exact g1
            · rw [sI_1, if_neg (by omega), sI_1, if_neg (by omega)]; exact g2 j hj
            · rw [sI_1]
              show _ = nI (if j = g then nStock (sN A) g - 1 else nStock (sN A) j)
              by_cases e : j = g
              · rw [if_pos ⟨rfl, e⟩, if_pos e]
              · rw [if_neg (fun q => e q.2), if_neg e, sI_1, if_neg (by omega)]; exact g3 j hj
            · rw [sI_1, if_neg (by omega), sI_1, if_neg (by omega)]; exact g4 j hj
            · rw [sI_1, if_neg (by omega), sI_1, if_neg (by omega)]; exact g5 j hj
            · rw [sI_1, if_neg (by omega), sI_1]
              show _ = nI (if j = l then g + 1 else nGift (sN A) j) - 1
              by_cases e : j = l
              · rw [if_pos ⟨rfl, e⟩, if_pos e]
                exact (nI_pred g).symm
              · rw [if_neg (fun q => e q.2), if_neg e]; exact g6 j hj
          · refine mS_now s2 rfl (fun o j ho => by rw [sI_1, if_neg (fun q => ho q.1), sI_1, if_neg (fun q => ho q.1)]) ?_
            obtain ⟨g1, g2, g3, g4⟩ := m9
            refine ⟨?_, fun j hj => ?_, fun j hj => ?_, fun j hj => ⟨?_, ?_, ?_⟩⟩
            · rw [sI_1, if_neg (by omega), sI_1, if_neg (by omega)]; exact g1
            · rw [sI_1, if_neg (by omega), sI_1, if_neg (by omega)]; exact g2 j hj
            · rw [sI_1, if_neg (by omega), sI_1]
              show _ = nI (if j = g then nStock (sN A) g - 1 else nStock (sN A) j)
              by_cases e : j = g
              · rw [if_pos (by omega), if_pos e]
              · rw [if_neg (by omega), if_neg e]; exact g3 j hj
            · rw [sI_1, if_neg (by omega), sI_1, if_neg (by omega)]; exact (g4 j hj).1
            · rw [sI_1, if_neg (by omega), sI_1, if_neg (by omega)]; exact (g4 j hj).2.1
            · rw [sI_1]
              show _ = nI (if j = l then g + 1 else nGift (sN A) j)
              by_cases e : j = l
              · rw [if_pos (by omega), if_pos e]
              · rw [if_neg (by omega), if_neg e, sI_1, if_neg (by omega)]; exact (g4 j hj).2.2
      · rw [if_neg (fun q => hz ((nI_m1 hgb).mp q)), if_pos (show (0 : Int32) < nI (nGift (sN A) l) from nI_lt (a := 0) (by omega) (by omega))]
        exact hno
    · rw [if_neg hg, if_pos rfl, if_pos rfl]
      exact hno
  · rw [if_neg hl, if_pos rfl, if_pos rfl]
    exact hno
