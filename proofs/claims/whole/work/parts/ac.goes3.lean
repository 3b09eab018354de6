theorem z_bn_as {α β γ : Type} (x : Option (α × z_S)) (f : α → z_S → Option (β × z_S)) (g : β → z_S → Option (γ × z_S)) : z_bn (z_bn x f) g = z_bn x (fun a μ => z_bn (f a μ) g) := by
  cases x with
  | none => rfl
  | some p => rfl
/-- a bracket ends -/
theorem g_close {t : Nat → Nat} {n q : Nat} {g as : Bool} {Q V pd : List Int32} {b : Int32} {op base : Nat} {N : Nat} (hN : 1700 ≤ N) {c1 : Int32} {E : z_S → Option (Unit × z_S)} {f1 f3 : Nat} {ν : z_S} (hm : mG t n q g ν) (h : qM as Q (V ++ [b] ++ pd) (op + 1) base ν) (ho : op ≤ 6) (hl : Q.length + V.length + pd.length < 1670) (hv : base ≤ V.length) (hb : b = 20 ∨ b = 23 ∨ b = 24) (hp : ∀ p ∈ pd, ¬ isBr p) (hs : tkS t n q = nI 41) : ∃ ν', RG N c1 E f1 (f3 + 1) ν = RP N c1 E f1 f3 N ν' ∧ zFr ν ν' ∧ mG t n (nxQ t n q) (nxG t n q g) ν' ∧ qM as (Q ++ pd.reverse ++ (if b = 20 then [] else if b = 23 then [5] else [6])) V op base ν' := by
  have br : isBr b := by rcases hb with rfl | rfl | rfl <;> exact ⟨by decide, by decide⟩
  have lV := snoc_len V b
  obtain ⟨ν1, r1, r2, r3⟩ := m_look N hN hm
  have hq1 := r2.qM h
  have eb := m_brk1 N hN hq1 (by omega) hv br hp
  have fr2 := yFr.set ν1 (j := 2) (nI (q + 1)) (by omega)
  have hm2 := m_step1 (by decide) r3 hs
  have hq2 := fr2.qM hq1
  obtain ⟨ν3, s1, s2, s3⟩ := m_dropsTo (as := as) (op := op + 1) N (Or.inr ⟨V, b, rfl, br, hv⟩) pd.length pd N Q _ rfl (by omega) (by omega) hp hq2
  have s1' : f_X12_qDropsToBracket N (z_setI ν1 253 2 (nI (q + 1))) = some ((), ν3) := s1
  obtain ⟨t1, t2⟩ := qM_top s3
  have hq4 := qM_op (qM_pop s3) op
  have fr4 : jFr ν3 (z_setI (z_setI ν3 253 97 (nI V.length)) 253 98 (nI op)) := (jFr.set ν3 _ (by omega)).tr (jFr.set _ _ (by omega))
  have key : ∃ ν', f_X12_qGoesOn_B43 N (f_X12_qGoesOn_L0 N (fun μ122 => f_X12_qGoesOn_B122 N μ122) f3) (fun μ122 => f_X12_qGoesOn_B122 N μ122) ν1 = z_bn (f_X12_qEndsPart N ν') (fun _ μ_7 => f_X12_qGoesOn_L0 N (fun μ122 => f_X12_qGoesOn_B122 N μ122) f3 μ_7) ∧ jFr (z_setI ν1 253 2 (nI (q + 1))) ν' ∧ qM as (Q ++ pd.reverse ++ (if b = 20 then [] else if b = 23 then [5] else [6])) V op base ν' := by
    unfold f_X12_qGoesOn_B43 f_X12_qGoesOn_B112 f_X12_qGoesOn_B115
    have e1 : nI q + (1 : Int32) = nI (q + 1) := nI_1 q
    rw [r3.2.2.1, e1, z_bd_eq, s1', z_bn_sm, t2, show nI (V.length + 1) - (1 : Int32) = nI V.length from pk_sub (b := 1) (by omega), z_bd_eq, show (z_setI ν3 253 97 (nI V.length)).1 253 98 - (1 : Int32) = nI op by rw [sI_1, if_neg (by omega), s3.2.2.2.2.1]; exact pk_sub (b := 1) (by omega), z_bd_eq]
    rw [hq4.2.2.1, z_in_nI (show V.length < 1700 by omega) (by decide), z_in_nI (show V.length < 1700 by omega) (by decide), nI_toNat (by omega), show (z_setI (z_setI ν3 253 97 (nI V.length)) 253 98 (nI op)).1 331 V.length = b by rw [sI_1, if_neg (by omega), sI_1, if_neg (by omega)]; exact t1]
    have lQ : (Q ++ pd.reverse).length = Q.length + pd.length := by rw [List.length_append, List.length_reverse]
    by_cases c20 : b = 20
    · rw [if_pos c20, if_pos c20, List.append_nil]
      exact ⟨_, rfl, s2.tr fr4, hq4⟩
    · rw [if_neg c20, if_neg c20]
      by_cases c23 : b = 23
      · rw [if_pos c23, if_pos c23]
        obtain ⟨ν5, u1, u2, u3⟩ := m_code N hq4 (by omega) 5
        rw [u1, z_bn_sm]
        exact ⟨ν5, rfl, s2.tr (fr4.tr u2), u3⟩
      · rw [if_neg c23, if_neg c23]
        obtain ⟨ν5, u1, u2, u3⟩ := m_code N hq4 (by omega) 6
        rw [u1, z_bn_sm]
        exact ⟨ν5, rfl, s2.tr (fr4.tr u2), u3⟩
  obtain ⟨ν', k1, k2, k3⟩ := key
  refine ⟨ν', ?_, r2.z.tr (fr2.z.tr k2.z), k2.mG hm2, k3⟩
  unfold RG RP
  have e : f_X12_qGoesOn_L0 N (fun μ122 => f_X12_qGoesOn_B122 N μ122) (f3 + 1) ν = f_X12_qGoesOn_B43 N (f_X12_qGoesOn_L0 N (fun μ122 => f_X12_qGoesOn_B122 N μ122) f3) (fun μ122 => f_X12_qGoesOn_B122 N μ122) ν1 := by
    show b_X12_qGoesOn_L0 N (f_X12_qGoesOn_L0 N (fun μ122 => f_X12_qGoesOn_B122 N μ122) f3) (fun μ122 => f_X12_qGoesOn_B122 N μ122) ν = _
    unfold b_X12_qGoesOn_L0
    rw [if_pos hm.2.1, r1, z_bn_sm, if_pos (show lk t n q = (41 : Int32) from (lk_S hm.1.2.2.2.1 sg_41).mpr hs), eb, z_bn_sm]
    by_cases c20 : b = 20
    · rw [if_pos c20]
    · rw [if_neg c20, eb, z_bn_sm]
      by_cases c23 : b = 23
      · rw [if_pos c23]
      · rw [if_neg c23, eb, z_bn_sm]
        have c24 : b = 24 := by rcases hb with z | z | z; exact absurd z c20; exact absurd z c23; exact z
        rw [if_pos c24]
  rw [e, k1, z_bn_as]
  rfl
theorem qM_set {as : Bool} {Q V : List Int32} {op base : Nat} {ν : z_S} {b : Int32} (h : qM as Q (V ++ [b]) op base ν) (x : Int32) : qM as Q (V ++ [x]) op base (z_setI ν 331 V.length x) := by
  obtain ⟨h1, h2, h3, h4, h5, h6, h7⟩ := h
  refine ⟨?_, fun k c hc => ?_, ?_, fun k c hc => ?_, ?_, ?_, ?_⟩
  · rw [sI_1, if_neg (by omega)]; exact h1
  · rw [sI_1, if_neg (by omega)]; exact h2 k c hc
  · rw [sI_1, if_neg (by omega), h3, snoc_len, snoc_len]
  · rw [sI_1]
    rcases snoc_get hc with ⟨y, z⟩ | ⟨y, z⟩
    · rw [if_neg (by omega)]
      refine h4 k c ?_
      rw [List.getElem?_append_left y]
      exact z
    · rw [if_pos ⟨rfl, y⟩, z]
  · rw [sI_1, if_neg (by omega)]; exact h5
  · rw [sI_1, if_neg (by omega)]; exact h6
  · rw [sI_1, if_neg (by omega)]; exact h7
/-- the comma of min and max -/
theorem g_comma {t : Nat → Nat} {n q : Nat} {g as : Bool} {Q V pd : List Int32} {b : Int32} {op base : Nat} {N : Nat} (hN : 1700 ≤ N) {c1 : Int32} {E : z_S → Option (Unit × z_S)} {f1 f3 : Nat} {ν : z_S} (hm : mG t n q g ν) (h : qM as Q (V ++ [b] ++ pd) op base ν) (hl : Q.length + V.length + pd.length < 1670) (hv : base ≤ V.length) (hb : b = 21 ∨ b = 22) (hp : ∀ p ∈ pd, ¬ isBr p) (h42 : ¬ tkS t n q = nI 42) (h47 : ¬ tkS t n q = nI 47) (h43 : ¬ tkS t n q = nI 43) (h45 : ¬ tkS t n q = nI 45) : (tkS t n q = nI 44 ∧ ∃ ν', RG N c1 E (f1 + 1) (f3 + 1) ν = RT N c1 E f1 N ν' ∧ zFr ν ν' ∧ mG t n (nxQ t n q) (nxG t n q g) ν' ∧ qM as (Q ++ pd.reverse) (V ++ [b + 2]) op base ν') ∨ (¬ tkS t n q = nI 44 ∧ ∃ ν', RG N c1 E (f1 + 1) (f3 + 1) ν = E ν' ∧ yFr ν ν' ∧ mB 1 q ν') := by
  have br : isBr b := by rcases hb with rfl | rfl <;> exact ⟨by decide, by decide⟩
  have lV := snoc_len V b
  obtain ⟨ν1, r1, r2, r3, r4⟩ := g_none (c1 := c1) (E := E) (f1 := f1 + 1) (f3 := f3) hN hm h (by omega) (Or.inr ⟨V, rfl, br, hv⟩) hp (fun z => by rcases hb with rfl | rfl <;> rcases z.2 with y | y | y <;> exact absurd y (by decide)) h42 h47 h43 h45
  have r1' : RG N c1 E (f1 + 1) (f3 + 1) ν = z_bn (f_X12_qGoesOn_B326 N ν1) (aGo N c1 E (f1 + 1)) := by
    rw [r1]
    rcases hb with z | z
    · rw [if_pos z]
    · rw [if_neg (by rw [z]; decide), if_pos z]
  obtain ⟨ν2, s1, s2, s3⟩ := m_asksSign N hN sg_44 r3.g
  have s1' : f_X12_asksSign N (44 : Int32) ν1 = some ((), ν2) := s1
  have hq2 := s2.qM r4
  rcases s3 with ⟨y, s3⟩ | ⟨y, s3⟩
  · left
    obtain ⟨ν3, u1, u2, u3⟩ := m_dropsTo (as := as) (op := op) N (Or.inr ⟨V, b, rfl, br, hv⟩) pd.length pd N Q _ rfl (by omega) (by omega) hp hq2
    have u1' : f_X12_qDropsToBracket N ν2 = some ((), ν3) := u1
    obtain ⟨t1, t2⟩ := qM_top u3
    have fr4 : jFr ν3 (z_setI ν3 331 V.length (b + 2)) := ⟨rfl, fun a j _ _ z => by rw [sI_1, if_neg (fun w => z w.1)]⟩
    have hm4 := fr4.mG (u2.mG s3)
    refine ⟨y, z_setI ν3 331 V.length (b + 2), ?_, r2.z.tr (s2.z.tr (u2.z.tr fr4.z)), hm4, qM_set u3 (b + 2)⟩
    rw [r1', ← aGo_1 hm4.2.1]
    unfold f_X12_qGoesOn_B326
    rw [s1', z_bn_sm, if_pos s3.2.1, u1', z_bn_sm, t2, show nI (V.length + 1) - (1 : Int32) = nI V.length from pk_sub (b := 1) (by omega), z_bd_eq, z_in_nI (show V.length < 1700 by omega) (by decide), z_in_nI (show V.length < 1700 by omega) (by decide), nI_toNat (by omega), t1, z_bd_eq, z_bn_sm]
  · right
    refine ⟨y, ν2, ?_, r2.tr s2, s3⟩
    rw [r1', ← aGo_0 (N := N) (c1 := c1) (E := E) (f := f1)]
    unfold f_X12_qGoesOn_B326
    rw [s1', z_bn_sm, if_neg (by rw [s3.1]; decide), z_bn_sm]
