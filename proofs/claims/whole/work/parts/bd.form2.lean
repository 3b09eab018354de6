/-! takes, warm told -/
theorem st_form {N : Nat} (hN : 1700 ≤ N) {t : Nat → Nat} {n s q f0 : Nat} {g : Bool} {h : aH} {cd sz : Nat} {tl : Nat → Nat} {μ ν : z_S} (H : HS t n s q g h cd sz tl μ ν) (hs : s < 80) (hf0 : f0 < 2) (hnone : hForm h f0 = none) (hszq : sz ≤ q) (b : Int32) : cRes t n s q μ ν (z_bn (f_X9_readHeapSum N (z_hn μ.2.2.2) (nI f0) μ) fun x3 μ_4 => f_X3_statement_B259 N (nI (5 + f0)) x3 μ_4) (f_X12_codesTold N (nI f0) b ν) := by
  obtain ⟨ok, hc, hm, hk, hmk, htl, hcd, hsz⟩ := H
  obtain ⟨o, ho⟩ : ∃ o, o = z_hn μ.2.2.2 := ⟨_, rfl⟩
  have h56 : 56 ≤ o := ho ▸ hn56 _
  have o6 : o = 56 ∨ o = 96 := by rw [ho]; exact z_hn_lt _
  have ko : z_kw true o = (2, 0) := by rw [ho]; exact z_hn_k _
  have k32 : z_kw true (o + 32) = (0, 0) := by rw [ho]; cases μ.2.2.2 <;> rfl
  rw [← ho] at hk
  have hn := hc.1.1
  have hq := hc.2.2.2
  unfold f_X9_readHeapSum f_X12_codesTold f_X12_codesTold_B23 f_X9_sum
  rw [← ho, z_ko_ok ko, z_bd_eq, z_bd_eq, if_pos hm.2.1, z_in_nI (show f0 < 4 by omega) (by decide), nI_toNat (by omega)]
  have hn293 : ν.1 293 f0 = -1 := by
    have := hmk.2.2.2.2.2.2.2.2.2.2.2 f0 hf0
    rw [hnone] at this
    exact this
  rw [if_pos hn293, if_pos hm.2.1, z_bd_eq, z_bd_eq, z_bd_eq, z_bd_eq, z_bd_eq]
  obtain ⟨μa, hμa⟩ : ∃ μa, μa = z_setI (z_setI μ 93 1 0) 92 2 0 := ⟨_, rfl⟩
  obtain ⟨νa, hνa⟩ : ∃ νa, νa = z_setI (z_setI (z_setI (z_setI (z_setI ν 253 53 1) 253 95 0) 253 97 0) 253 98 0) 253 99 0 := ⟨_, rfl⟩
  rw [← hμa, ← hνa]
  have ea : ∀ a j, ¬ (a = 93 ∧ j = 1) → ¬ (a = 92 ∧ j = 2) → μa.1 a j = μ.1 a j := fun a j z1 z2 => by rw [hμa, sI_1, if_neg z2, sI_1, if_neg z1]
  have eν : ∀ a j, ¬ (a = 253 ∧ (j = 53 ∨ j = 95 ∨ j = 97 ∨ j = 98 ∨ j = 99)) → νa.1 a j = ν.1 a j := fun a j z => by rw [hνa, sI_1, if_neg (by omega), sI_1, if_neg (by omega), sI_1, if_neg (by omega), sI_1, if_neg (by omega), sI_1, if_neg (by omega)]
  have hca : cG t n q g μa := by rw [hμa]; exact cG_set (cG_set hc (by omega) _ _) (by omega) _ _
  have hma : mG t n q g νa := mG_set hm fun a j z => eν a j (by omega)
  have hCa : cC [] μa := ⟨by rw [hμa, sI_1, if_neg (by omega), sI_1, if_pos ⟨rfl, rfl⟩]; rfl, fun k c hkc => by cases hkc⟩
  have hqa : qM false [] [] 0 0 νa := by
    refine ⟨?_, fun k c hkc => (by cases hkc), ?_, fun k c hkc => (by cases hkc), ?_, ?_, ?_⟩
    · rw [hνa, sI_1, if_neg (by omega), sI_1, if_neg (by omega), sI_1, if_neg (by omega), sI_1, if_pos ⟨rfl, rfl⟩]; rfl
    · rw [hνa, sI_1, if_neg (by omega), sI_1, if_neg (by omega), sI_1, if_pos ⟨rfl, rfl⟩]; rfl
    · rw [hνa, sI_1, if_neg (by omega), sI_1, if_pos ⟨rfl, rfl⟩]; rfl
    · rw [hνa, sI_1, if_pos ⟨rfl, rfl⟩]; rfl
    · rw [hνa, sI_1, if_neg (by omega), sI_1, if_neg (by omega), sI_1, if_neg (by omega), sI_1, if_neg (by omega), sI_1, if_pos ⟨rfl, rfl⟩]; rfl
  have h92 : μa.1 92 2 = if (false : Bool) = true then 1 else 0 := by rw [hμa, sI_1, if_pos ⟨rfl, rfl⟩]; rfl
  have fca : sFc o μ μa := ⟨by rw [hμa]; rfl, fun a j z => ea a j (by omega) (by omega)⟩
  have fma : sFm ν νa := by
    refine ⟨by rw [hνa]; rfl, fun _ _ _ => by rw [hνa]; rfl, fun a j z => eν a j (by omega)⟩
  have S := sums_ok hN (D := 40) (by omega) (show 0 ≤ 6 by omega) (Or.inl rfl) hca hCa h92 hma hqa (Nat.zero_le _) (Nat.zero_le _)
  have eX : (z_bd (z_setI μ 93 1 0) fun μ_1 => some ((0 : Int32), μ_1)) = some (0, z_setI μ 93 1 0) := rfl
  rcases S with ⟨q', g', Dl, μ1, ν1, s1, s2, s3, s4, s5, s6, s7, s8, s9, s10, s11, s12⟩ | ⟨f, p, μ1, ν1, s1, s2, s3, s4, s5, s6, s7, s8, s9⟩
  · rw [List.nil_append] at s6 s8
    have hq' := s5.2.2.2
    have s1' : r_X9 N 40 3 (0 : Int32) μa = some (1, μ1) := s1
    rw [s1', z_bn_sm, s2, z_bn_sm, if_pos s7.2.1]
    have f1 : ∀ c j, o ≤ c → c < o + 36 → μ1.1 c j = μ.1 c j := fun c j z1 z2 => by rw [s3.2 c j (by omega) (by omega) (by omega), ea c j (by omega) (by omega)]
    have f1b : μ1.2 = μ.2 := s3.1.trans fca.1
    have g1 : ∀ c j, (284 ≤ c ∧ c ≤ 295) ∨ (c = 253 ∧ j = 51) → ν1.1 c j = ν.1 c j := fun c j z => by rw [s4.2 c j (by omega) (by omega) (by omega), eν c j (by omega)]
    have h51 : ν1.1 253 51 = nI cd := by rw [g1 _ _ (by omega)]; exact hmk.2.2.2.2.2.2.2.2.2.2.1
    rw [z_in_nI (show f0 < 4 by omega) (by decide), z_bd_eq, h51]
    unfold f_X2_keep f_X0_addAll
    rw [z_ko_ok ko, z_ko_ok k93, z_in_nI hf0 (by decide), nI_toNat (by omega), z_bd_eq, z_ko_ok k32, z_ko_ok k93, f1 _ _ (by omega) (by omega), hk.2.1]
    obtain ⟨μ2, hμ2⟩ : ∃ μ2, μ2 = z_setI μ1 (o + 34) f0 (nI sz) := ⟨_, rfl⟩
    rw [← hμ2]
    obtain ⟨μ3, t1, t2, t3, t4, t5⟩ := c_allL (N := N) k32 (by omega) (C := Dl) (by omega) N 0 sz μ2 (by omega) (by omega) (by omega) (by rw [hμ2]; exact ⟨by rw [sI_1, if_neg (by omega)]; exact s6.1, fun k c hkc => by rw [sI_1, if_neg (by omega)]; exact s6.2 k c hkc⟩) (by rw [hμ2, sI_1, if_neg (by omega), f1 _ _ (by omega) (by omega)]; exact hk.2.1)
    have t1' : f_X0_addAll_L2 N (o + 32) 93 N (0 : Int32) μ2 = some ((), μ3) := t1
    rw [t1', z_bn_sm, z_in_nI hf0 (by decide), z_bd_eq, z_bn_sm, z_zb_1, z_bn_sm, t3, Nat.sub_zero]
    obtain ⟨μ4, hμ4⟩ : ∃ μ4, μ4 = z_setI μ3 (o + 35) f0 (nI (sz + Dl.length)) := ⟨_, rfl⟩
    rw [← hμ4]
    have e4 : z_hn μ4.2.2.2 = o := by rw [hμ4]; show z_hn μ3.2.2.2 = o; rw [t2.1, hμ2]; show z_hn μ1.2.2.2 = o; rw [f1b]; exact ho.symm
    have hb := b259 (N := N) (K := 5 + f0) (x := 1) (μ := μ4) (by omega) (Or.inr rfl)
    rw [e4] at hb
    rw [hb]
    have T : ∀ c j, o ≤ c → c < o + 36 → ¬ ((c = o + 34 ∨ c = o + 35) ∧ j = f0) → ¬ (c = o + 33 ∧ sz ≤ j) → ¬ (c = o + 32 ∧ j = 1) → μ4.1 c j = μ.1 c j := fun c j z1 z2 z3 z4 z5 => by
      rw [hμ4, sI_1, if_neg (by omega)]
      by_cases d : c = o + 33
      · subst d
        rw [t5 j (by omega), hμ2, sI_1, if_neg (by omega), f1 _ _ z1 z2]
      · rw [t2.2 c j (by omega) (by omega), hμ2, sI_1, if_neg (by omega), f1 _ _ z1 z2]
    have m4 : μ4.1 (o + 1) (5 + f0) + 1 = nI (tl (5 + f0) + 1) := by rw [T _ _ (by omega) (by omega) (by omega) (by omega) (by omega), hk.2.2.2.1 (5 + f0) (by omega), nI_1]
    rw [m4]
    have t0 : tl (5 + f0) = 0 := by
      have : f0 = 0 ∨ f0 = 1 := by omega
      rcases this with rfl | rfl
      · have := hk.2.2.2.2.2.1; rw [if_pos hnone] at this; exact this
      · have := hk.2.2.2.2.2.2.1; rw [if_pos hnone] at this; exact this
    obtain ⟨ν2, hν2⟩ : ∃ ν2, ν2 = z_setI ν1 293 f0 (nI cd) := ⟨_, rfl⟩
    rw [← hν2]
    have lm : (Dl.map cmap).length = Dl.length := List.length_map _
    obtain ⟨ν3, u1, u2, u3, u4, u5⟩ := m_copyL (N := N) (nI f0) (fun μ119 => z_in (nI f0) 4 <| z_bd (z_setI μ119 294 f0 (μ119.1 253 51)) fun μ_10 => some ((), μ_10)) (Q := Dl.map cmap) (cd := cd) (by omega) N 0 ν2 (by omega) (by omega) (by rw [hν2, sI_1, if_neg (by omega)]; exact s8.1) (fun k c hkc => by rw [hν2, sI_1, if_neg (by omega)]; exact s8.2.1 k c hkc) (by rw [hν2, sI_1, if_neg (by omega)]; exact h51)
    have u1' : f_X12_codesTold_L80 N (nI f0) (fun μ119 => z_in (nI f0) 4 <| z_bd (z_setI μ119 294 f0 (μ119.1 253 51)) fun μ_10 => some ((), μ_10)) N (0 : Int32) ν2 = _ := u1
    rw [u1', z_in_nI (show f0 < 4 by omega) (by decide), z_bd_eq, u4, lm]
    rw [lm] at u3
    have G : ∀ c j, (284 ≤ c ∧ c ≤ 295) ∨ (c = 253 ∧ j = 51) → ¬ ((c = 293 ∨ c = 294) ∧ j = f0) → ¬ (c = 295 ∧ cd ≤ j) → c ≠ 253 → (z_setI ν3 294 f0 (nI (cd + Dl.length))).1 c j = ν.1 c j := fun c j z1 z2 z3 z4 => by
      rw [sI_1, if_neg (by omega), u3 c j (by omega) (by omega), hν2, sI_1, if_neg (by omega), g1 c j z1]
    have okFD : okF Dl := okF_of s11 s12
    refine Or.inl ⟨hFo h f0 Dl, q', g', cd + Dl.length, sz + Dl.length, bmp tl (5 + f0), z_setI μ4 (o + 1) (5 + f0) (nI (tl (5 + f0) + 1)), z_setI ν3 294 f0 (nI (cd + Dl.length)), rfl, rfl, ?_, ?_, ⟨okH_fo ok okFD, cG_set ?_ (by omega) _ _, ?_, ?_, ?_, bmp_le htl, by omega, by omega⟩, by omega⟩
    · rw [← ho]
      have : sFc o μ μ4 := by
        refine (fca.tr s3.s).tr ?_
        refine ⟨by rw [hμ4]; show μ3.2 = _; rw [t2.1, hμ2]; rfl, fun a j z => ?_⟩
        rw [hμ4, sI_1, if_neg (by omega), t2.2 a j (by omega) (by omega), hμ2, sI_1, if_neg (by omega)]
      exact this.tr (sFc.set _ _ _ (by omega))
    · refine (fma.tr s4.s).tr ?_
      refine ⟨by show ν3.2.2 = _; rw [u2, hν2]; rfl, fun a j z => by show ν3.2.1 a j = _; rw [u2, hν2]; rfl, fun a j z => ?_⟩
      rw [sI_1, if_neg (by omega), u3 a j (by omega) (by omega), hν2, sI_1, if_neg (by omega)]
    · rw [hμ4]
      refine cG_set ?_ (by omega) _ _
      obtain ⟨⟨x1, x2, x3, x4, x5⟩, ⟨y1, y2, y3, y4, y5, y6, y7⟩, y8, y9⟩ := s5
      have e1 : ∀ a j, a ≤ 3 → μ3.1 a j = μ1.1 a j := fun a j z => by rw [t2.2 a j (by omega) (by omega), hμ2, sI_1, if_neg (by omega)]
      exact ⟨⟨x1, by rw [e1 _ _ (by omega)]; exact x2, fun k => by rw [e1 _ _ (by omega)]; exact x3 k, x4, fun k c hkc => by rw [e1 _ _ (by omega)]; exact x5 k c hkc⟩, ⟨by rw [e1 _ _ (by omega)]; exact y1, by rw [e1 _ _ (by omega)]; exact y2, by rw [e1 _ _ (by omega)]; exact y3, by rw [e1 _ _ (by omega)]; exact y4, by rw [e1 _ _ (by omega)]; exact y5, fun a b => by rw [e1 _ _ (by omega)]; exact y6 a b, fun a b => by rw [e1 _ _ (by omega)]; exact y7 a b⟩, by rw [e1 _ _ (by omega)]; exact y8, y9⟩
    · refine mG_set s7 fun a j z => ?_
      rw [sI_1, if_neg (by omega), u3 a j (by omega) (by omega), hν2, sI_1, if_neg (by omega)]
    · have e5 : z_hn (z_setI μ4 (o + 1) (5 + f0) (nI (tl (5 + f0) + 1))).2.2.2 = o := e4
      rw [e5]
      have hch : cH o (hFo h f0 Dl) (z_setI μ4 (o + 1) (5 + f0) (nI (tl (5 + f0) + 1))) := by
        refine cH_fo (a := sz) ok hk.1 hk.2.2.1 ?_ ?_ (by omega) (fun k c hkc => ?_) (fun c j z1 z2 z3 z4 z5 z6 => ?_)
        · rw [sI_1, if_neg (by omega), hμ4, sI_1, if_neg (by omega), t2.2 _ _ (by omega) (by omega), hμ2, sI_1, if_pos ⟨rfl, rfl⟩]
        · rw [sI_1, if_neg (by omega), hμ4, sI_1, if_pos ⟨rfl, rfl⟩]
        · rw [sI_1, if_neg (by omega), hμ4, sI_1, if_neg (by omega)]
          exact t4 k c (by rw [Nat.zero_add]; exact hkc)
        · rw [sI_1, if_neg (by omega), T c j z1 z2 z3 z4 (by omega)]
      refine ⟨hch, ?_, fun f b hf hb2 hlt => ?_, fun k hk10 => ?_, fun k hk5 => ?_, ?_, ?_, fun k => ?_⟩
      · rw [sI_1, if_neg (by omega), hμ4, sI_1, if_neg (by omega), t3]; rfl
      · rw [sI_1, if_neg (by omega)] at hb2
        by_cases d : f = f0
        · rw [hμ4, sI_1, if_pos ⟨rfl, d⟩] at hb2
          have := (nI_eq (by omega) hlt).mp hb2
          omega
        · rw [T _ _ (by omega) (by omega) (by omega) (by omega) (by omega)] at hb2
          have := hk.2.2.1 f b hf hb2 hlt
          omega
      · unfold bmp
        by_cases d : k = 5 + f0
        · rw [if_pos d, d, sI_1, if_pos ⟨rfl, rfl⟩]
        · rw [if_neg d, sI_1, if_neg (by omega), T _ _ (by omega) (by omega) (by omega) (by omega) (by omega)]
          exact hk.2.2.2.1 k hk10
      · unfold bmp
        rw [if_neg (by omega)]
        exact hk.2.2.2.2.1 k hk5
      · unfold bmp
        show (if 5 = 5 + f0 then tl (5 + f0) + 1 else tl 5) = if (if 0 = f0 then some Dl else hForm h 0) = none then 0 else 1
        by_cases d : f0 = 0
        · subst d; rw [if_pos rfl, if_pos rfl, if_neg (by intro z; cases z), t0]
        · rw [if_neg (show ¬ 5 = 5 + f0 by omega), if_neg (show ¬ 0 = f0 by omega)]; exact hk.2.2.2.2.2.1
      · unfold bmp
        show (if 6 = 5 + f0 then tl (5 + f0) + 1 else tl 6) = if (if 1 = f0 then some Dl else hForm h 1) = none then 0 else 1
        by_cases d : f0 = 1
        · subst d; rw [if_pos rfl, if_pos rfl, if_neg (by intro z; cases z), t0]
        · rw [if_neg (show ¬ 6 = 5 + f0 by omega), if_neg (show ¬ 1 = f0 by omega)]; exact hk.2.2.2.2.2.2.1
      · unfold bmp
        split
        · omega
        · exact hk.2.2.2.2.2.2.2 k
    · refine mK_fo ok hmk ?_ ?_ ?_ (fun k c hkc => ?_) G ?_
      · rw [sI_1, if_neg (by omega), u4, lm]
      · rw [sI_1, if_neg (by omega), u3 _ _ (by omega) (by omega), hν2, sI_1, if_pos ⟨rfl, rfl⟩]
      · rw [sI_1, if_pos ⟨rfl, rfl⟩]
      · rw [sI_1, if_neg (by omega)]
        exact u5 k (cmap c) (by omega) (by rw [List.getElem?_map, hkc]; rfl)
      · show ν3.2.1 = _
        rw [u2, hν2]
        show ν1.2.1 = _
        rw [s4.1, hνa]; rfl
  · have s1' : r_X9 N 40 3 (0 : Int32) μa = some (0, μ1) := s1
    rw [s1', z_bn_sm, s2, z_bn_sm, if_neg (mB_ne s6 ⟨s7, s8⟩)]
    obtain ⟨m, m1, m2⟩ := s9.1
    have f1b : μ1.2 = μ.2 := s3.1.trans fca.1
    have h32 : μ1.1 (o + 32) 1 = nI sz := by rw [s3.2 _ _ (by omega) (by omega) (by omega), ea _ _ (by omega) (by omega)]; exact hk.2.1
    unfold f_X2_keep f_X0_addAll
    rw [z_ko_ok ko, z_ko_ok k93, z_in_nI hf0 (by decide), nI_toNat (by omega), z_bd_eq, z_ko_ok k32, z_ko_ok k93, h32]
    obtain ⟨μ2, hμ2⟩ : ∃ μ2, μ2 = z_setI μ1 (o + 34) f0 (nI sz) := ⟨_, rfl⟩
    rw [← hμ2]
    obtain ⟨μ3, sz3, t1, t2, t3, t4⟩ := c_allB (N := N) k32 (by omega) m1 N 0 sz μ2 (by omega) (by omega) (by omega) (by rw [hμ2, sI_1, if_neg (by omega)]; exact m2) (by rw [hμ2, sI_1, if_neg (by omega)]; exact h32)
    have t1' : f_X0_addAll_L2 N (o + 32) 93 N (0 : Int32) μ2 = some ((), μ3) := t1
    rw [t1', z_bn_sm, z_in_nI hf0 (by decide), z_bd_eq, z_bn_sm, z_zb_0, z_bn_sm]
    have F : sFc o μ (z_setI μ3 (o + 35) f0 (μ3.1 (o + 32) 1)) := by
      refine (fca.tr s3.s).tr ⟨by show μ3.2 = _; rw [t2.1, hμ2]; rfl, fun a j z => ?_⟩
      rw [sI_1, if_neg (by omega), t2.2 a j (by omega) (by omega), hμ2, sI_1, if_neg (by omega)]
    have B : cB f p (z_setI μ3 (o + 35) f0 (μ3.1 (o + 32) 1)) := by
      have e1 : ∀ j, (z_setI μ3 (o + 35) f0 (μ3.1 (o + 32) 1)).1 1 j = μ1.1 1 j := fun j => by rw [sI_1, if_neg (by omega), t2.2 _ _ (by omega) (by omega), hμ2, sI_1, if_neg (by omega)]
      exact ⟨by rw [e1]; exact s5.1, by rw [e1]; exact s5.2⟩
    rw [ho] at F B
    have := st_bad (N := N) (K := 5 + f0) (t := t) (n := n) (s := s) (q := q) (by omega) ⟨s7, s8⟩ F (fma.tr s4.s) B s6
    rw [← ho] at this
    exact this
