/-! the reference's codes and what waits -/
def qM (as : Bool) (Q W : List Int32) (op base : Nat) (ν : z_S) : Prop := ν.1 253 95 = nI Q.length ∧ (∀ k c, Q[k]? = some c → ν.1 330 k = c) ∧ ν.1 253 97 = nI W.length ∧ (∀ k c, W[k]? = some c → ν.1 331 k = c) ∧ ν.1 253 98 = nI op ∧ ν.1 253 99 = nI base ∧ ν.1 253 53 = if as = true then 0 else 1
/-- not too many codes -/
def mL (ν : z_S) : Prop := ∃ k : Nat, k ≤ 1690 ∧ ν.1 253 95 = nI k
theorem qM.l {as : Bool} {Q W : List Int32} {op base : Nat} {ν : z_S} (h : qM as Q W op base ν) (hl : Q.length ≤ 1690) : mL ν := ⟨Q.length, hl, h.1⟩
/-- codes and waits alone have changed -/
def jFr (ν ν' : z_S) : Prop := ν'.2 = ν.2 ∧ ∀ a j, ¬ (a = 253 ∧ (j = 95 ∨ j = 97 ∨ j = 98 ∨ j = 99)) → a ≠ 330 → a ≠ 331 → ν'.1 a j = ν.1 a j
theorem jFr.rf (ν : z_S) : jFr ν ν := ⟨rfl, fun _ _ _ _ _ => rfl⟩
theorem jFr.tr {ν ν1 ν2 : z_S} (h : jFr ν ν1) (g : jFr ν1 ν2) : jFr ν ν2 := ⟨g.1.trans h.1, fun a j q r s => (g.2 a j q r s).trans (h.2 a j q r s)⟩
/-- all that a sum changes -/
def zFr (ν ν' : z_S) : Prop := ν'.2 = ν.2 ∧ ∀ a j, ¬ (a = 253 ∧ (j = 2 ∨ j = 4 ∨ ((j = 5 ∨ j = 6) ∧ ¬ ν'.1 253 5 = 0) ∨ j = 38 ∨ j = 95 ∨ j = 97 ∨ j = 98 ∨ j = 99)) → a ≠ 330 → a ≠ 331 → ν'.1 a j = ν.1 a j
theorem zFr.rf (ν : z_S) : zFr ν ν := ⟨rfl, fun _ _ _ _ _ => rfl⟩
theorem zFr.f5 {ν ν' : z_S} (g : zFr ν ν') : ¬ ν'.1 253 5 = ν.1 253 5 → ¬ ν'.1 253 5 = 0 := fun z c => z (g.2 253 5 (fun w => by
  rcases w.2 with w | w | w | w
  · omega
  · omega
  · exact w.2 c
  · omega) (by decide) (by decide))
theorem zFr.tr {ν ν1 ν2 : z_S} (h : zFr ν ν1) (g : zFr ν1 ν2) : zFr ν ν2 := ⟨g.1.trans h.1, fun a j q r s => (g.2 a j q r s).trans (h.2 a j (fun w => by
  rcases w with ⟨w1, w | w | w | w⟩
  · exact q ⟨w1, Or.inl w⟩
  · exact q ⟨w1, Or.inr (Or.inl w)⟩
  · exact fr_56 g.f5 (a := a) (j := j) (fun z => q ⟨z.1, Or.inr (Or.inr (Or.inl z.2))⟩) ⟨w1, w⟩
  · exact q ⟨w1, Or.inr (Or.inr (Or.inr w))⟩) r s)⟩
theorem jFr.z {ν ν' : z_S} (h : jFr ν ν') : zFr ν ν' := ⟨h.1, fun a j q r s => h.2 a j (fun w => q ⟨w.1, Or.inr (Or.inr (Or.inr (Or.inr w.2)))⟩) r s⟩
theorem yFr.z {ν ν' : z_S} (h : yFr ν ν') : zFr ν ν' := ⟨h.1, fun a j q r s => h.2 a j (fun w => by
  rcases w with ⟨w1, w | w | w | w⟩
  · exact q ⟨w1, Or.inl w⟩
  · exact q ⟨w1, Or.inr (Or.inl w)⟩
  · exact q ⟨w1, Or.inr (Or.inr (Or.inl w))⟩
  · exact q ⟨w1, Or.inr (Or.inr (Or.inr (Or.inl w)))⟩)⟩
theorem mW_no2 : ∀ q ∈ mWords, q.1 ≠ 330 ∧ q.1 ≠ 331 := by decide +kernel
theorem zFr.mX {t : Nat → Nat} {n : Nat} {ν ν' : z_S} (g : zFr ν ν') (h : mX t n ν) : mX t n ν' := ⟨h.1, by rw [g.2 _ _ (by omega) (by decide) (by decide)]; exact h.2.1, fun k => by rw [g.2 _ _ (by omega) (by decide) (by decide)]; exact h.2.2.1 k, h.2.2.2.1, fun q hq k c hc => by rw [g.2 _ _ (fun z => mW_no q hq z.1) (mW_no2 q hq).1 (mW_no2 q hq).2]; exact h.2.2.2.2 q hq k c hc⟩
theorem jFr.at {ν ν' : z_S} (g : jFr ν ν') {j : Nat} (h : ¬ (j = 95 ∨ j = 97 ∨ j = 98 ∨ j = 99)) : ν'.1 253 j = ν.1 253 j := g.2 _ _ (fun z => h z.2) (by decide) (by decide)
theorem jFr.mA {t : Nat → Nat} {n q : Nat} {g : Bool} {ν ν' : z_S} (f : jFr ν ν') (h : mA t n q g ν) : mA t n q g ν' := by
  obtain ⟨h1, h2, h3, h4, h5, d, h6, h7, h8⟩ := h
  exact ⟨f.z.mX h1, by rw [f.at (by omega)]; exact h2, by rw [f.at (by omega)]; exact h3, h4, h5, d, by rw [f.at (by omega)]; exact h6, h7, h8⟩
theorem jFr.mG {t : Nat → Nat} {n q : Nat} {g : Bool} {ν ν' : z_S} (f : jFr ν ν') (h : mG t n q g ν) : mG t n q g ν' := by
  obtain ⟨h1, h2, p, d, h3, h4, h5, h6, h7, h8⟩ := h
  exact ⟨f.z.mX h1, by rw [f.at (by omega)]; exact h2, p, d, by rw [f.at (by omega)]; exact h3, h4, h5, by rw [f.at (by omega)]; exact h6, h7, h8⟩
theorem yFr.qM {as : Bool} {Q W : List Int32} {op base : Nat} {ν ν' : z_S} (f : yFr ν ν') (h : qM as Q W op base ν) : qM as Q W op base ν' := by
  obtain ⟨h1, h2, h3, h4, h5, h6, h7⟩ := h
  have at1 : ∀ j, ¬ (j = 2 ∨ j = 4 ∨ j = 5 ∨ j = 6 ∨ j = 38) → ν'.1 253 j = ν.1 253 j := fun j hj => f.2 _ _ (fun z => hj (by rcases z.2 with w | w | w | w; exact Or.inl w; exact Or.inr (Or.inl w); (rcases w.1 with v | v; exact Or.inr (Or.inr (Or.inl v)); exact Or.inr (Or.inr (Or.inr (Or.inl v)))); exact Or.inr (Or.inr (Or.inr (Or.inr w)))))
  exact ⟨by rw [at1 95 (by omega)]; exact h1, fun k c hc => by rw [f.2 _ _ (by omega)]; exact h2 k c hc, by rw [at1 97 (by omega)]; exact h3, fun k c hc => by rw [f.2 _ _ (by omega)]; exact h4 k c hc, by rw [at1 98 (by omega)]; exact h5, by rw [at1 99 (by omega)]; exact h6, by rw [at1 53 (by omega)]; exact h7⟩
theorem snoc_get {α : Type} {L : List α} {x c : α} {k : Nat} (h : (L ++ [x])[k]? = some c) : (k < L.length ∧ L[k]? = some c) ∨ (k = L.length ∧ c = x) := by
  rcases Nat.lt_or_ge k L.length with y | y
  · rw [List.getElem?_append_left y] at h
    exact Or.inl ⟨y, h⟩
  · rw [List.getElem?_append_right y] at h
    by_cases z : k = L.length
    · rw [z, Nat.sub_self] at h
      exact Or.inr ⟨z, (Option.some.inj h).symm⟩
    · rw [List.getElem?_eq_none (by rw [List.length_singleton]; omega)] at h
      cases h
theorem snoc_len {α : Type} (L : List α) (x : α) : (L ++ [x]).length = L.length + 1 := by rw [List.length_append, List.length_singleton]
theorem m_code {as : Bool} {Q W : List Int32} {op base : Nat} (N : Nat) {ν : z_S} (h : qM as Q W op base ν) (hQ : Q.length < 1700) (x : Int32) : ∃ ν', f_X12_qCode N x ν = some ((), ν') ∧ jFr ν ν' ∧ qM as (Q ++ [x]) W op base ν' := by
  obtain ⟨h1, h2, h3, h4, h5, h6, h7⟩ := h
  unfold f_X12_qCode
  rw [h1, z_in_nI hQ (by decide), nI_toNat (by omega), z_bd_eq, z_bd_eq]
  have e1 : (z_setI ν 330 Q.length x).1 253 95 + (1 : Int32) = nI (Q.length + 1) := by
    rw [sI_1, if_neg (by omega), h1]; exact nI_1 _
  rw [e1]
  refine ⟨_, rfl, ⟨rfl, fun a j q r s => by rw [sI_1, if_neg (by omega), sI_1, if_neg (by omega)]⟩, ?_, fun k c hc => ?_, ?_, fun k c hc => ?_, ?_, ?_, ?_⟩
  · rw [sI_1, if_pos ⟨rfl, rfl⟩, snoc_len]
  · rw [sI_1, if_neg (by omega), sI_1]
    rcases snoc_get hc with ⟨y, z⟩ | ⟨y, z⟩
    · rw [if_neg (by omega)]; exact h2 k c z
    · rw [if_pos ⟨rfl, y⟩, z]
  · rw [sI_1, if_neg (by omega), sI_1, if_neg (by omega)]; exact h3
  · rw [sI_1, if_neg (by omega), sI_1, if_neg (by omega)]; exact h4 k c hc
  · rw [sI_1, if_neg (by omega), sI_1, if_neg (by omega)]; exact h5
  · rw [sI_1, if_neg (by omega), sI_1, if_neg (by omega)]; exact h6
  · rw [sI_1, if_neg (by omega), sI_1, if_neg (by omega)]; exact h7
theorem qM_top {as : Bool} {Q W : List Int32} {op base : Nat} {ν : z_S} {x : Int32} (h : qM as Q (W ++ [x]) op base ν) : ν.1 331 W.length = x ∧ ν.1 253 97 = nI (W.length + 1) := by
  refine ⟨h.2.2.2.1 W.length x ?_, by rw [h.2.2.1, snoc_len]⟩
  rw [List.getElem?_append_right (Nat.le_refl _), Nat.sub_self]
  rfl
/-- one that waits is taken away -/
theorem qM_pop {as : Bool} {Q W : List Int32} {op base : Nat} {ν : z_S} {x : Int32} (h : qM as Q (W ++ [x]) op base ν) : qM as Q W op base (z_setI ν 253 97 (nI W.length)) := by
  obtain ⟨h1, h2, h3, h4, h5, h6, h7⟩ := h
  refine ⟨?_, fun k c hc => ?_, ?_, fun k c hc => ?_, ?_, ?_, ?_⟩
  · rw [sI_1, if_neg (by omega)]; exact h1
  · rw [sI_1, if_neg (by omega)]; exact h2 k c hc
  · rw [sI_1, if_pos ⟨rfl, rfl⟩]
  · rw [sI_1, if_neg (by omega)]
    refine h4 k c ?_
    rw [List.getElem?_append_left (List.getElem?_eq_some_iff.mp hc).1]
    exact hc
  · rw [sI_1, if_neg (by omega)]; exact h5
  · rw [sI_1, if_neg (by omega)]; exact h6
  · rw [sI_1, if_neg (by omega)]; exact h7
theorem jFr.set (ν : z_S) {j : Nat} (x : Int32) (h : j = 95 ∨ j = 97 ∨ j = 98 ∨ j = 99) : jFr ν (z_setI ν 253 j x) := ⟨rfl, fun a i q _ _ => by rw [sI_1, if_neg (by omega)]⟩
theorem m_drops {as : Bool} {Q W : List Int32} {op base : Nat} (N : Nat) {ν : z_S} {x : Int32} (h : qM as Q (W ++ [x]) op base ν) (hQ : Q.length + W.length < 1690) : ∃ ν', f_X12_qDrops N ν = some ((), ν') ∧ jFr ν ν' ∧ qM as (Q ++ [x]) W op base ν' := by
  obtain ⟨t1, t2⟩ := qM_top h
  have e1 : nI (W.length + 1) - (1 : Int32) = nI W.length := pk_sub (b := 1) (by omega)
  unfold f_X12_qDrops
  rw [t2, e1, z_bd_eq]
  have hp := qM_pop h
  rw [show (z_setI ν 253 97 (nI W.length)).1 253 97 = nI W.length by rw [sI_1, if_pos ⟨rfl, rfl⟩], z_in_nI (show W.length < 1700 by omega) (by decide), nI_toNat (by omega), show (z_setI ν 253 97 (nI W.length)).1 331 W.length = x by rw [sI_1, if_neg (by omega)]; exact t1]
  obtain ⟨ν', r1, r2, r3⟩ := m_code N hp (by omega) x
  rw [r1, z_bn_sm]
  exact ⟨ν', rfl, (jFr.set ν _ (by omega)).tr r2, r3⟩
/-- one more waits -/
theorem qM_push {as : Bool} {Q W : List Int32} {op base : Nat} {ν : z_S} (h : qM as Q W op base ν) (x : Int32) {ν' : z_S} (e : ν' = z_setI (z_setI ν 331 W.length x) 253 97 (nI (W.length + 1))) : qM as Q (W ++ [x]) op base ν' ∧ jFr ν ν' := by
  obtain ⟨h1, h2, h3, h4, h5, h6, h7⟩ := h
  subst e
  refine ⟨⟨?_, fun k c hc => ?_, ?_, fun k c hc => ?_, ?_, ?_, ?_⟩, rfl, fun a j q r s => by rw [sI_1, if_neg (by omega), sI_1, if_neg (by omega)]⟩
  · rw [sI_1, if_neg (by omega), sI_1, if_neg (by omega)]; exact h1
  · rw [sI_1, if_neg (by omega), sI_1, if_neg (by omega)]; exact h2 k c hc
  · rw [sI_1, if_pos ⟨rfl, rfl⟩, snoc_len]
  · rw [sI_1, if_neg (by omega), sI_1]
    rcases snoc_get hc with ⟨y, z⟩ | ⟨y, z⟩
    · rw [if_neg (by omega)]; exact h4 k c z
    · rw [if_pos ⟨rfl, y⟩, z]
  · rw [sI_1, if_neg (by omega), sI_1, if_neg (by omega)]; exact h5
  · rw [sI_1, if_neg (by omega), sI_1, if_neg (by omega)]; exact h6
  · rw [sI_1, if_neg (by omega), sI_1, if_neg (by omega)]; exact h7
theorem qM_op {as : Bool} {Q W : List Int32} {op base : Nat} {ν : z_S} (h : qM as Q W op base ν) (op' : Nat) : qM as Q W op' base (z_setI ν 253 98 (nI op')) := by
  obtain ⟨h1, h2, h3, h4, h5, h6, h7⟩ := h
  exact ⟨by rw [sI_1, if_neg (by omega)]; exact h1, fun k c hc => by rw [sI_1, if_neg (by omega)]; exact h2 k c hc, by rw [sI_1, if_neg (by omega)]; exact h3, fun k c hc => by rw [sI_1, if_neg (by omega)]; exact h4 k c hc, by rw [sI_1, if_pos ⟨rfl, rfl⟩], by rw [sI_1, if_neg (by omega)]; exact h6, by rw [sI_1, if_neg (by omega)]; exact h7⟩
theorem m_opens {as : Bool} {Q W : List Int32} {op base : Nat} (N : Nat) {ν : z_S} (h : qM as Q W op base ν) (h5 : ν.1 253 5 = 0) (ho : op ≤ 6) (hW : W.length < 1690) (x : Int32) (p : Nat) : (op = 6 ∧ ∃ ν', f_X12_qOpens N x (nI p) ν = some ((), ν') ∧ yFr ν ν' ∧ mB 4 p ν') ∨ (op < 6 ∧ ∃ ν', f_X12_qOpens N x (nI p) ν = some ((), ν') ∧ jFr ν ν' ∧ qM as Q (W ++ [x]) (op + 1) base ν') := by
  unfold f_X12_qOpens
  rw [if_pos h5, h.2.2.2.2.1]
  by_cases c : op = 6
  · left
    rw [if_pos (show nI op = (6 : Int32) by rw [c]; rfl)]
    obtain ⟨ν', r1, r2, r3⟩ := m_failAt N 4 p h5
    have r1' : f_X12_fail N (4 : Int32) (nI p) ν = some ((), ν') := r1
    rw [r1', z_bn_sm]
    exact ⟨c, ν', rfl, r2, r3⟩
  · right
    rw [if_neg (show ¬ nI op = (6 : Int32) from fun z => c ((nI_eq (b := 6) (by omega) (by decide)).mp z)), show nI op + (1 : Int32) = nI (op + 1) from nI_1 op, z_bd_eq]
    have hp := qM_op h (op + 1)
    have e97 : (z_setI ν 253 98 (nI (op + 1))).1 253 97 = nI W.length := hp.2.2.1
    rw [e97, z_in_nI (show W.length < 1700 by omega) (by decide), nI_toNat (by omega), z_bd_eq, z_bd_eq, show (z_setI (z_setI ν 253 98 (nI (op + 1))) 331 W.length x).1 253 97 + (1 : Int32) = nI (W.length + 1) by rw [sI_1, if_neg (by omega), e97]; exact nI_1 _]
    obtain ⟨w1, w2⟩ := qM_push hp x rfl
    exact ⟨by omega, _, rfl, (jFr.set ν _ (by omega)).tr w2, w1⟩
