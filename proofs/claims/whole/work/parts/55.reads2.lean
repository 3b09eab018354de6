/-- a call of the class and one of the reference: they answer alike, and tell one state again -/
def z_Op {α : Type} (F G : Option (α × z_S)) : Prop := ∃ r μ' ν', F = some (r, μ') ∧ G = some (r, ν') ∧ z_INV μ' ν'
theorem z_Op.read {α : Type} {A : aS} {μ ν : z_S} {F G : Option (α × z_S)} {r : α} (ok : okS A) (hc : cS A μ) (hm : mS A ν) (h1 : F = some (r, μ)) (h2 : G = some (r, ν)) : z_Op F G := ⟨r, μ, ν, h1, h2, A, ok, hc, hm⟩
theorem op_fault {A : aS} {μ ν : z_S} (ok : okS A) (hc : cS A μ) (hm : mS A ν) (N : Nat) (w : Int32) : z_Op (f_X11_fault N w μ) (f_X12_fault N w ν) := z_Op.read ok hc hm (c_fault hc N w) (m_fault hm N w)
theorem m_status {A : aS} {ν : z_S} (h : mS A ν) (N : Nat) (w : Int32) : f_X12_status N w ν = some (p_status A w, ν) := by
  unfold f_X12_status p_status
  rw [m_isIn, z_bn_sm, i64]
  have e0 : (0 : Int64).toInt = 0 := rfl
  have e5 : (5 : Int64).toInt = 5 := rfl
  have e6 : (6 : Int32).toInt = 6 := rfl
  rw [e0, e5]
  simp only [Int32.lt_iff_toInt_lt, e6, Int32.toInt_zero]
  by_cases h0 : w.toInt < 0
  · rw [if_pos h0, if_neg (show ¬ (0 ≤ w.toInt ∧ w.toInt ≤ 5) by omega), if_pos rfl]
  · rw [if_neg h0]
    by_cases h1 : w.toInt < 6
    · obtain ⟨k, hk, rfl⟩ := small (w := w) (n := 6) (by omega) (by decide)
      rw [if_pos h1, if_pos (show 0 ≤ (nI k).toInt ∧ (nI k).toInt ≤ 5 by omega), if_neg (by decide), z_in_nI hk (by decide), nI_toNat (by omega), h.2.2.2.1 k hk]
    · rw [if_neg h1, if_neg (show ¬ (0 ≤ w.toInt ∧ w.toInt ≤ 5) by omega), if_pos rfl]
theorem op_status {A : aS} {μ ν : z_S} (ok : okS A) (hc : cS A μ) (hm : mS A ν) (N : Nat) (w : Int32) : z_Op (f_X11_status N w μ) (f_X12_status N w ν) := z_Op.read ok hc hm (c_status hc N w) (m_status hm N w)
/-! octet -/
def p_octet (A : aS) (w : Int32) : Int32 := if 0 ≤ w.toInt ∧ w.toInt < (sImg A).length then nI ((sImg A).getD w.toNatClampNeg 0) else -1
theorem c_octet {A : aS} {μ : z_S} (ok : okS A) (h : cS A μ) (N : Nat) (w : Int32) : f_X11_octet N w μ = some (p_octet A w, μ) := by
  unfold f_X11_octet f_X11_octet_B12 p_octet
  obtain ⟨-, -, -, -, -, -, -, -, -, -, -, -, -, d1, d2, -⟩ := h
  have hl := ok.2.2.2.2.2.2.2.2.1
  rw [d1]
  simp only [Int32.lt_iff_toInt_lt, nI_toInt (show (sImg A).length < 2 ^ 31 by omega), Int32.toInt_zero]
  by_cases h0 : w.toInt < 0
  · rw [if_pos h0, if_neg (by omega)]
  · rw [if_neg h0]
    by_cases h1 : w.toInt < (sImg A).length
    · obtain ⟨k, hk, rfl⟩ := small (w := w) (n := (sImg A).length) (by omega) (by omega)
      rw [if_pos h1, if_pos ⟨by omega, h1⟩, z_in_nI (show k < 34 by omega) (by decide), nI_toNat (by omega), d2 k _ (List.getElem?_eq_getElem hk), List.getD_eq_getElem?_getD, List.getElem?_eq_getElem hk]
      rfl
    · rw [if_neg h1, if_neg (by omega)]
theorem m_octet {A : aS} {ν : z_S} (ok : okS A) (h : mS A ν) (N : Nat) (w : Int32) : f_X12_octet N w ν = some (p_octet A w, ν) := by
  unfold f_X12_octet p_octet
  obtain ⟨-, -, -, -, -, -, -, -, -, -, -, -, d1, d2, -⟩ := h
  have hl := ok.2.2.2.2.2.2.2.2.1
  rw [d1]
  simp only [Int32.lt_iff_toInt_lt, nI_toInt (show (sImg A).length < 2 ^ 31 by omega), Int32.toInt_zero]
  by_cases h0 : w.toInt < 0
  · rw [if_pos h0, if_neg (by omega)]
  · rw [if_neg h0]
    by_cases h1 : w.toInt < (sImg A).length
    · obtain ⟨k, hk, rfl⟩ := small (w := w) (n := (sImg A).length) (by omega) (by omega)
      rw [if_pos h1, if_pos ⟨by omega, h1⟩, z_in_nI (show k < 34 by omega) (by decide), nI_toNat (by omega), d2 k _ (List.getElem?_eq_getElem hk), List.getD_eq_getElem?_getD, List.getElem?_eq_getElem hk]
      rfl
    · rw [if_neg h1, if_neg (by omega)]
theorem op_octet {A : aS} {μ ν : z_S} (ok : okS A) (hc : cS A μ) (hm : mS A ν) (N : Nat) (w : Int32) : z_Op (f_X11_octet N w μ) (f_X12_octet N w ν) := z_Op.read ok hc hm (c_octet ok hc N w) (m_octet ok hm N w)
/-! mail -/
def p_mail (A : aS) (l : Nat) (w : Int32) : Int32 :=
  if w = 0 then nI (hMail (sH A) l 0) else if w = 1 then nI (hMail (sH A) l 1) else if w = 2 then nI (hMail (sH A) l 2) else if w = 3 then nI (nDone (sN A) l) - 1 else if w = 4 then nI (nSheet (sN A) l) else if w = 5 then nI (nGift (sN A) l) - 1 else
  if w = 6 then nI (wAll (sH A) l (hCnt (sH A) 1)) else if w = 7 then nI (nearB (sH A) l) else -1
theorem c_mail {A : aS} {μ : z_S} (ok : okS A) (h : cS A μ) (N : Nat) (hN : 5 ≤ N) (l w : Int32) : f_X11_mail N l w μ = some (if 0 ≤ l.toInt ∧ l.toInt < hCnt (sH A) 0 then p_mail A l.toNatClampNeg w else -1, μ) := by
  unfold f_X11_mail
  rw [c_isL ok h, z_bn_sm]
  by_cases hl : 0 ≤ l.toInt ∧ l.toInt < hCnt (sH A) 0
  · rw [if_pos hl, if_pos hl, if_neg (by decide), z_bd_eq]
    have hk := ok.2.2.1.1
    obtain ⟨k, hk1, rfl⟩ := small hl (by omega)
    have hH := h.2.2.2.2.2.2.2.1
    have hN9 := h.2.2.2.2.2.2.2.2.1
    rw [nI_toNat (by omega)]
    unfold p_mail
    have m3 := hH.2.2.1 k hk1
    split
    · rw [z_in_nI (by omega) (by decide), m3.1]
    · split
      · rw [z_in_nI (by omega) (by decide), m3.2.1]
      · split
        · rw [z_in_nI (by omega) (by decide), m3.2.2]
        · split
          · rw [z_in_nI (by omega) (by decide)]; exact congrArg (fun z => some (z, μ)) (hN9.2.2.2.1 k (by omega))
          · split
            · rw [z_in_nI (by omega) (by decide)]; exact congrArg (fun z => some (z, μ)) (hN9.2.2.2.2.1 k (by omega))
            · split
              · rw [z_in_nI (by omega) (by decide)]; exact congrArg (fun z => some (z, μ)) (hN9.2.2.2.2.2 k (by omega))
              · split
                · rw [c_wishes ok _ (z_hn_k _) hH N hN (by omega), z_bn_sm]
                · split
                  · rw [z_in_nI (by omega) (by decide), hH.2.2.2.1 k (by omega)]
                  · rfl
  · rw [if_neg hl, if_neg hl, if_pos rfl]
theorem m_now {A : aS} {ν : z_S} (h : mS A ν) (N : Nat) {k : Nat} (hk : k < 8) : f_X12_doneOf N (nI k) ν = some (nI (nDone (sN A) k), ν) ∧ f_X12_sheetOf N (nI k) ν = some (nI (nSheet (sN A) k), ν) ∧ f_X12_giftOf N (nI k) ν = some (nI (nGift (sN A) k), ν) := by
  have hn := h.2.2.2.2.2.2.2.1.2.2.2 k hk
  have e1 : ((8 : Int32) + (3 : Int32) * nI k) = nI (8 + 3 * k) := ix2 8 3 k
  have e2 : ((8 : Int32) + (3 : Int32) * nI k) + (1 : Int32) = nI (8 + 3 * k + 1) := ix3 8 3 k 1
  have e3 : ((8 : Int32) + (3 : Int32) * nI k) + (2 : Int32) = nI (8 + 3 * k + 2) := ix3 8 3 k 2
  refine ⟨?_, ?_, ?_⟩
  · unfold f_X12_doneOf
    rw [e1, z_in_nI (by omega) (by decide), nI_toNat (by omega)]
    have := hn.1
    rw [Nat.zero_add] at this
    rw [this]
  · unfold f_X12_sheetOf
    rw [e2, z_in_nI (by omega) (by decide), nI_toNat (by omega)]
    have := hn.2.1
    rw [show 0 + 9 + 3 * k = 8 + 3 * k + 1 by omega] at this
    rw [this]
  · unfold f_X12_giftOf
    rw [e3, z_in_nI (by omega) (by decide), nI_toNat (by omega)]
    have := hn.2.2
    rw [show 0 + 10 + 3 * k = 8 + 3 * k + 2 by omega] at this
    rw [this]
theorem m_mail {A : aS} {ν : z_S} (ok : okS A) (h : mS A ν) (N : Nat) (hN : 5 ≤ N) (l w : Int32) : f_X12_mail N l w ν = some (if 0 ≤ l.toInt ∧ l.toInt < hCnt (sH A) 0 then p_mail A l.toNatClampNeg w else -1, ν) := by
  unfold f_X12_mail
  rw [m_isL ok h, z_bn_sm]
  by_cases hl : 0 ≤ l.toInt ∧ l.toInt < hCnt (sH A) 0
  · rw [if_pos hl, if_pos hl, if_neg (by decide), z_bd_eq]
    have hk := ok.2.2.1.1
    obtain ⟨k, hk1, rfl⟩ := small hl (by omega)
    have hH := h.2.2.2.2.2.2.1
    obtain ⟨n1, n2, n3⟩ := m_now h N (show k < 8 by omega)
    have hB : ∀ j, j < 3 → f_X12_mail_B56 N (nI k) (nI j) ν = some (nI (hMail (sH A) k j), ν) := by
      intro j hj
      unfold f_X12_mail_B56
      have e : ((24 : Int32) + (3 : Int32) * nI k) + nI j = nI (24 + 3 * k + j) := ix3 24 3 k j
      rw [e, z_in_nI (by omega) (by decide), nI_toNat (by omega), hH.2.2.1 k hk1 j hj]
    rw [nI_toNat (by omega)]
    unfold p_mail
    split
    · next hw => subst hw; exact hB 0 (by decide)
    · split
      · next hw => subst hw; exact hB 1 (by decide)
      · split
        · next hw => subst hw; exact hB 2 (by decide)
        · split
          · rw [n1, z_bn_sm]
          · split
            · rw [n2, z_bn_sm]
            · split
              · rw [n3, z_bn_sm]
              · split
                · rw [m_wishes ok h N hN (by omega), z_bn_sm]
                · split
                  · have e : (8 : Int32) + nI k = nI (8 + k) := ix1 8 k
                    rw [e, z_in_nI (by omega) (by decide), nI_toNat (by omega), hH.2.2.2.1 k (by omega)]
                  · rfl
  · rw [if_neg hl, if_neg hl, if_pos rfl]
theorem op_mail {A : aS} {μ ν : z_S} (ok : okS A) (hc : cS A μ) (hm : mS A ν) (N : Nat) (hN : 5 ≤ N) (l w : Int32) : z_Op (f_X11_mail N l w μ) (f_X12_mail N l w ν) := z_Op.read ok hc hm (c_mail ok hc N hN l w) (m_mail ok hm N hN l w)
