/-! seed -/
def aSeed (A : aS) (k : Nat) : aS := (A.1, A.2.1, A.2.2.1, A.2.2.2.1, A.2.2.2.2.1, A.2.2.2.2.2.1, A.2.2.2.2.2.2.1, A.2.2.2.2.2.2.2.1, k)
theorem op_seed {A : aS} {μ ν : z_S} (ok : okS A) (hc : cS A μ) (hm : mS A ν) (N : Nat) (w : Int32) : z_Op (f_X11_seed N w μ) (f_X12_seed N w ν) := by
  unfold f_X11_seed f_X12_seed
  by_cases h0 : w < 0
  · rw [if_pos h0, if_pos h0]
    obtain ⟨μ', h1, h2⟩ := c_refZ ok hc N (k := 5) (by decide)
    have h1' : f_X11_refuse N 5 μ = some (0, μ') := h1
    rw [h1', z_bn_sm, z_zb_0]
    exact ⟨0, μ', _, rfl, rfl, _, ok_ref ok 5, h2, m_refs hm (by decide)⟩
  · rw [if_neg h0, if_neg h0]
    obtain ⟨k, hk, rfl⟩ := nI_of h0
    refine ⟨1, _, _, rfl, rfl, aSeed A k, ?_, ?_, ?_⟩
    · obtain ⟨o1, o2, o3, o4, o5, o6, o7, o8, o9, o10, o11⟩ := ok
      exact ⟨o1, o2, o3, o4, o5, o6, o7, o8, o9, o10, hk⟩
    · have h := hc
      have h' := h
      obtain ⟨a1, a2, a3, a4, a5, a6, a7, a8, a9, b1, ⟨old, b2, b3, b4⟩, c1, c2, d1, d2, d3⟩ := h'
      refine cS_of ok h rfl rfl (fun q j h1 h2 g1 g2 g3 g4 => by rw [sI_1, if_neg (by omega)]) (fun j => by rw [sI_1, if_neg (by omega)]) ?_ (fun k => ?_) (fun k hk => ?_) ?_ ?_ ?_ ?_ ?_ ?_ (fun k q hq => ?_) ?_ (fun k x hx => ?_) ?_
      · rw [sI_1, if_neg (by omega)]; exact a1
      · rw [sI_1, if_neg (by omega)]; exact a2 k
      · rw [sI_1, if_neg (by omega)]; exact a4 k hk
      · rw [sI_1, if_neg (by omega)]; exact a5
      · rw [sI_1, if_neg (by omega)]; exact a6
      · exact cN_of a9 (fun o j h1 h2 => by rw [sI_1, if_neg (by omega)])
      · rw [sI_1, if_neg (by omega)]; exact b1
      · exact ⟨old, b2, by rw [sI_1, if_neg (by omega)]; exact b3, fun i a hi => cN_of (b4 i a hi) (fun o j h1 h2 => by rw [sI_1, if_neg (by omega)])⟩
      · rw [sI_1, if_neg (by omega)]; exact c1
      · exact ⟨by rw [sI_1, if_neg (by omega)]; exact (c2 k q hq).1, by rw [sI_1, if_neg (by omega)]; exact (c2 k q hq).2⟩
      · rw [sI_1, if_neg (by omega)]; exact d1
      · rw [sI_1, if_neg (by omega)]; exact d2 k x hx
      · rw [sI_1, if_pos ⟨rfl, rfl⟩]; rfl
    · have h := hm
      have h' := h
      obtain ⟨a1, a2, a3, a4, a5, a6, a7, a8, b1, ⟨nw, b2, b3, b4⟩, c1, c2, d1, d2, d3⟩ := h'
      refine mS_of h rfl (fun q j h1 h2 => by rfl) (fun _ => by rw [sJ_21, if_neg (by omega)]) (fun q j hq => by rfl) ?_ (fun k => ?_) (fun k hk => ?_) ?_ ?_ ?_ ?_ ?_ ?_ (fun k q hq => ?_) ?_ (fun k x hx => ?_) ?_
      · skip; exact a1
      · skip; exact a2 k
      · skip; exact a4 k hk
      · skip; exact a5
      · skip; exact a6
      · exact mN_of a8 (fun j h1 h2 => by rfl)
      · skip; exact b1
      · exact ⟨nw, b2, by skip; exact b3, fun i a hi => mN_of (b4 i a hi) (fun j h1 h2 => by rfl)⟩
      · skip; exact c1
      · exact ⟨by skip; exact (c2 k q hq).1, by obtain ⟨-, x, y, q1, q2, q3, q4, q5⟩ := c2 k q hq; exact ⟨x, y, q1, q2, q3, by skip; exact q4, by skip; exact q5⟩⟩
      · skip; exact d1
      · skip; exact d2 k x hx
      · rw [sJ_21, if_pos ⟨rfl, rfl⟩, nI_l hk]; rfl
/-! end -/
def aLen (A : aS) (n : Nat) : aS := ((n, A.1.2), A.2)
theorem op_end {A : aS} {μ ν : z_S} (ok : okS A) (hc : cS A μ) (hm : mS A ν) (N : Nat) (w : Int32) : z_Op (f_X11_end N w μ) (f_X12_end N w ν) := by
  unfold f_X11_end f_X12_end f_X11_end_B15 f_X12_end_B12
  have hl := ok.1
  obtain ⟨μ', h1, h2⟩ := c_refZ ok hc N (k := 0) (by decide)
  have h1' : f_X11_refuse N 0 μ = some (0, μ') := h1
  have hno : z_Op (z_bn (f_X11_refuse N 0 μ) fun x1 μ_1 => z_zb x1 (some (x1, μ_1))) (z_bd (z_setI ν 255 0 (ν.1 255 0 + 1)) fun μ_1 => some ((0 : Int32), μ_1)) := by
    rw [h1', z_bn_sm, z_zb_0]
    exact ⟨0, μ', _, rfl, rfl, _, ok_ref ok 0, h2, m_refs hm (by decide)⟩
  rw [hc.1, hm.1]
  by_cases h0 : w < 0
  · rw [if_pos h0, if_pos h0]
    exact hno
  · rw [if_neg h0, if_neg h0]
    obtain ⟨k, hk, rfl⟩ := nI_of h0
    by_cases hlt : nI (sLen A) < nI k
    · rw [if_pos hlt, if_pos hlt]
      exact hno
    · rw [if_neg hlt, if_neg hlt]
      have hle : k ≤ sLen A := Nat.not_lt.mp (fun q => hlt (nI_lt q hk))
      refine ⟨1, _, _, rfl, rfl, aLen A k, ?_, ?_, ?_⟩
      · obtain ⟨o1, o2⟩ := ok
        exact ⟨Nat.le_trans hle o1, o2⟩
      · have h := hc
        have h' := h
        obtain ⟨a1, a2, a3, a4, a5, a6, a7, a8, a9, b1, ⟨old, b2, b3, b4⟩, c1, c2, d1, d2, d3⟩ := h'
        refine cS_of ok h rfl rfl (fun q j h1 h2 g1 g2 g3 g4 => by rw [sI_1, if_neg (by omega)]) (fun j => by rw [sI_1, if_neg (by omega)]) ?_ (fun k => ?_) (fun k hk => ?_) ?_ ?_ ?_ ?_ ?_ ?_ (fun k q hq => ?_) ?_ (fun k x hx => ?_) ?_
        · rw [sI_1, if_pos ⟨rfl, rfl⟩]; rfl
        · rw [sI_1, if_neg (by omega)]; exact a2 k
        · rw [sI_1, if_neg (by omega)]; exact a4 k hk
        · rw [sI_1, if_neg (by omega)]; exact a5
        · rw [sI_1, if_neg (by omega)]; exact a6
        · exact cN_of a9 (fun o j h1 h2 => by rw [sI_1, if_neg (by omega)])
        · rw [sI_1, if_neg (by omega)]; exact b1
        · exact ⟨old, b2, by rw [sI_1, if_neg (by omega)]; exact b3, fun i a hi => cN_of (b4 i a hi) (fun o j h1 h2 => by rw [sI_1, if_neg (by omega)])⟩
        · rw [sI_1, if_neg (by omega)]; exact c1
        · exact ⟨by rw [sI_1, if_neg (by omega)]; exact (c2 k q hq).1, by rw [sI_1, if_neg (by omega)]; exact (c2 k q hq).2⟩
        · rw [sI_1, if_neg (by omega)]; exact d1
        · rw [sI_1, if_neg (by omega)]; exact d2 k x hx
        · rw [sI_1, if_neg (by omega)]; exact d3
      · have h := hm
        have h' := h
        obtain ⟨a1, a2, a3, a4, a5, a6, a7, a8, b1, ⟨nw, b2, b3, b4⟩, c1, c2, d1, d2, d3⟩ := h'
        refine mS_of h rfl (fun q j h1 h2 => by rw [sI_1, if_neg (by omega)]) (fun _ => rfl) (fun q j hq => by rw [sI_1, if_neg (by omega)]) ?_ (fun k => ?_) (fun k hk => ?_) ?_ ?_ ?_ ?_ ?_ ?_ (fun k q hq => ?_) ?_ (fun k x hx => ?_) ?_
        · rw [sI_1, if_pos ⟨rfl, rfl⟩]; rfl
        · rw [sI_1, if_neg (by omega)]; exact a2 k
        · rw [sI_1, if_neg (by omega)]; exact a4 k hk
        · rw [sI_1, if_neg (by omega)]; exact a5
        · rw [sI_1, if_neg (by omega)]; exact a6
        · exact mN_of a8 (fun j h1 h2 => by rw [sI_1, if_neg (by omega)])
        · rw [sI_1, if_neg (by omega)]; exact b1
        · exact ⟨nw, b2, by rw [sI_1, if_neg (by omega)]; exact b3, fun i a hi => mN_of (b4 i a hi) (fun j h1 h2 => by rw [sI_1, if_neg (by omega)])⟩
        · rw [sI_1, if_neg (by omega)]; exact c1
        · exact ⟨by rw [sI_1, if_neg (by omega)]; exact (c2 k q hq).1, by obtain ⟨-, x, y, q1, q2, q3, q4, q5⟩ := c2 k q hq; exact ⟨x, y, q1, q2, q3, by rw [sI_1, if_neg (by omega)]; exact q4, by rw [sI_1, if_neg (by omega)]; exact q5⟩⟩
        · rw [sI_1, if_neg (by omega)]; exact d1
        · rw [sI_1, if_neg (by omega)]; exact d2 k x hx
        · exact d3
