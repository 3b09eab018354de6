/-! the reference: a heap begun; the heap stands -/
theorem m_start {t : Nat → Nat} {n N : Nat} (hN : 1700 ≤ N) {ν : z_S} (hn : n ≤ 1600) (h1 : ν.1 253 1 = nI n) (h254 : ∀ k, ν.1 254 k = nI (t k)) (ht : ∀ k, t k < 256) (hw : ∀ q ∈ mWords, ∀ k c, q.2[k]? = some c → ν.1 q.1 k = nI c) : ∃ ν', f_X12_heap N ν = f_X12_heap_L154 N (fun μ176 => f_X12_heap_B176 N μ176) N ν' ∧ ν'.2 = ν.2 ∧ (∀ a j, ¬ ((a = 253 ∧ (1 ≤ j ∧ j ≤ 6 ∨ j = 51 ∨ j = 52)) ∨ (a = 284 ∧ j < 5) ∨ (a = 288 ∧ j < 32) ∨ (a = 289 ∧ j < 8) ∨ (a = 290 ∧ j < 64) ∨ (a = 292 ∧ j < 2) ∨ (a = 293 ∧ j < 2)) → ν'.1 a j = ν.1 a j) ∧ mG t n (skp t n 0) false ν' ∧ mK hInit 0 ν' ∧ ν'.1 253 52 = nI 0 ∧ ν'.1 253 6 = -1 ∧ ν'.1 253 1 = 0 := by
  unfold f_X12_heap
  rw [z_bd_eq, z_bd_eq, z_bd_eq, z_bd_eq, z_bd_eq, z_bd_eq, z_bd_eq, z_bd_eq, h1]
  obtain ⟨ν1, hν1⟩ : ∃ ν1, ν1 = z_setI (z_setI (z_setI (z_setI (z_setI (z_setI (z_setI (z_setI ν 253 3 (nI n)) 253 1 0) 253 2 0) 253 4 (-1)) 253 5 0) 253 6 (-1)) 253 52 0) 253 51 0 := ⟨_, rfl⟩
  rw [← hν1]
  have e1 : ∀ a j, ¬ (a = 253 ∧ (1 ≤ j ∧ j ≤ 6 ∨ j = 51 ∨ j = 52)) → ν1.1 a j = ν.1 a j := fun a j z => by rw [hν1, sI_1, if_neg (by omega), sI_1, if_neg (by omega), sI_1, if_neg (by omega), sI_1, if_neg (by omega), sI_1, if_neg (by omega), sI_1, if_neg (by omega), sI_1, if_neg (by omega), sI_1, if_neg (by omega)]
  obtain ⟨E4, hE4⟩ : ∃ E4 : z_S → Option (Int32 × z_S), E4 = (fun μ126 => z_bd (z_setI μ126 293 0 (-1 : Int32)) fun μ_13 => z_bd (z_setI μ_13 293 1 (-1 : Int32)) fun μ_14 => z_bd (z_setI μ_14 292 0 (3 : Int32)) fun μ_15 => z_bd (z_setI μ_15 292 1 (0 : Int32)) fun μ_16 => f_X12_heap_L154 N (fun μ176 => f_X12_heap_B176 N μ176) N μ_16) := ⟨_, rfl⟩
  rw [← hE4]
  obtain ⟨ν2, r1, r2, r3⟩ := hp_45 N (fun μ63 => f_X12_heap_L65 N (fun μ84 => f_X12_heap_L86 N (fun μ105 => f_X12_heap_L107 N E4 N (0 : Int32) μ105) N (0 : Int32) μ84) N (0 : Int32) μ63) N 0 ν1 (by omega) (by omega)
  obtain ⟨ν3, s1, s2, s3⟩ := hp_65 N (fun μ84 => f_X12_heap_L86 N (fun μ105 => f_X12_heap_L107 N E4 N (0 : Int32) μ105) N (0 : Int32) μ84) N 0 ν2 (by omega) (by omega)
  obtain ⟨ν4, t1, t2, t3⟩ := hp_86 N (fun μ105 => f_X12_heap_L107 N E4 N (0 : Int32) μ105) N 0 ν3 (by omega) (by omega)
  obtain ⟨ν5, u1, u2, u3⟩ := hp_107 N E4 N 0 ν4 (by omega) (by omega)
  obtain ⟨ν6, hν6⟩ : ∃ ν6, ν6 = z_setI (z_setI (z_setI (z_setI ν5 293 0 (-1)) 293 1 (-1)) 292 0 3) 292 1 0 := ⟨_, rfl⟩
  have e6 : ∀ a j, ¬ ((a = 292 ∨ a = 293) ∧ j < 2) → ν6.1 a j = ν5.1 a j := fun a j z => by rw [hν6, sI_1, if_neg (by omega), sI_1, if_neg (by omega), sI_1, if_neg (by omega), sI_1, if_neg (by omega)]
  have e5 : ∀ a j, ¬ ((a = 284 ∧ j < 5) ∨ (a = 288 ∧ j < 32) ∨ (a = 289 ∧ j < 8) ∨ (a = 290 ∧ j < 64)) → ν5.1 a j = ν1.1 a j := fun a j z => by rw [u3, if_neg (by omega), t3, if_neg (by omega), s3, if_neg (by omega), r3, if_neg (by omega)]
  have E : ∀ a j, ¬ ((a = 253 ∧ (1 ≤ j ∧ j ≤ 6 ∨ j = 51 ∨ j = 52)) ∨ (a = 284 ∧ j < 5) ∨ (a = 288 ∧ j < 32) ∨ (a = 289 ∧ j < 8) ∨ (a = 290 ∧ j < 64) ∨ (a = 292 ∧ j < 2) ∨ (a = 293 ∧ j < 2)) → ν6.1 a j = ν.1 a j := fun a j z => by rw [e6 a j (by omega), e5 a j (by omega), e1 a j (by omega)]
  have W : ∀ q ∈ mWords, ¬ (q.1 = 253 ∨ q.1 = 284 ∨ q.1 = 288 ∨ q.1 = 289 ∨ q.1 = 290 ∨ q.1 = 292 ∨ q.1 = 293) := by decide +kernel
  have c253 : ∀ j, ν6.1 253 j = ν1.1 253 j := fun j => by rw [e6 _ _ (by omega), e5 _ _ (by omega)]
  refine ⟨ν6, ?_, ?_, E, ⟨⟨hn, ?_, fun k => by rw [E _ _ (by omega)]; exact h254 k, ht, fun q hq k c hc => by rw [E _ _ (by have := W q hq; omega)]; exact hw q hq k c hc⟩, ?_, 0, 0, ?_, Nat.zero_le _, rfl, ?_, by omega, by constructor <;> intro z <;> first | cases z | omega⟩, ⟨fun k hk => ?_, fun k hk i hi => absurd hi (Nat.not_lt_zero _), fun i hi => absurd hi (Nat.not_lt_zero _), fun i hi => ?_, fun i hi w hw => ?_, fun x hx y hy => ?_, fun w hw => absurd hw (Nat.not_lt_zero _), fun i hi => absurd hi (Nat.not_lt_zero _), ?_, ?_, ?_, fun f hf => ?_⟩, ?_, ?_, ?_⟩
  · have r1' : f_X12_heap_L45 N (fun μ63 => f_X12_heap_L65 N (fun μ84 => f_X12_heap_L86 N (fun μ105 => f_X12_heap_L107 N E4 N (0 : Int32) μ105) N (0 : Int32) μ84) N (0 : Int32) μ63) N (0 : Int32) ν1 = _ := r1
    rw [r1']
    show f_X12_heap_L65 N (fun μ84 => f_X12_heap_L86 N (fun μ105 => f_X12_heap_L107 N E4 N (0 : Int32) μ105) N (0 : Int32) μ84) N (0 : Int32) ν2 = _
    have s1' : f_X12_heap_L65 N (fun μ84 => f_X12_heap_L86 N (fun μ105 => f_X12_heap_L107 N E4 N (0 : Int32) μ105) N (0 : Int32) μ84) N (0 : Int32) ν2 = _ := s1
    rw [s1']
    show f_X12_heap_L86 N (fun μ105 => f_X12_heap_L107 N E4 N (0 : Int32) μ105) N (0 : Int32) ν3 = _
    have t1' : f_X12_heap_L86 N (fun μ105 => f_X12_heap_L107 N E4 N (0 : Int32) μ105) N (0 : Int32) ν3 = _ := t1
    rw [t1']
    show f_X12_heap_L107 N E4 N (0 : Int32) ν4 = _
    have u1' : f_X12_heap_L107 N E4 N (0 : Int32) ν4 = _ := u1
    rw [u1', hE4]
    dsimp only
    rw [z_bd_eq, z_bd_eq, z_bd_eq, z_bd_eq, ← hν6]
  · rw [hν6]
    show ν5.2 = _
    rw [u2, t2, s2, r2, hν1]
    rfl
  · rw [c253, hν1, sI_1, if_neg (by omega), sI_1, if_neg (by omega), sI_1, if_neg (by omega), sI_1, if_neg (by omega), sI_1, if_neg (by omega), sI_1, if_neg (by omega), sI_1, if_neg (by omega), sI_1, if_pos ⟨rfl, rfl⟩]
  · rw [c253, hν1, sI_1, if_neg (by omega), sI_1, if_neg (by omega), sI_1, if_neg (by omega), sI_1, if_pos ⟨rfl, rfl⟩]
  · rw [c253, hν1, sI_1, if_neg (by omega), sI_1, if_neg (by omega), sI_1, if_neg (by omega), sI_1, if_neg (by omega), sI_1, if_neg (by omega), sI_1, if_pos ⟨rfl, rfl⟩]; rfl
  · rw [c253, hν1, sI_1, if_neg (by omega), sI_1, if_neg (by omega), sI_1, if_neg (by omega), sI_1, if_neg (by omega), sI_1, if_pos ⟨rfl, rfl⟩]; rfl
  · rw [e6 _ _ (by omega), u3, if_neg (by omega), t3, if_neg (by omega), s3, if_neg (by omega), r3, if_pos (by omega)]; rfl
  · rw [e6 _ _ (by omega), u3, if_neg (by omega), t3, if_pos (by omega)]
    have : nearB hInit i = 0 := by rw [nearB_8]; rfl
    rw [this]; rfl
  · rw [e6 _ _ (by omega), u3, if_neg (by omega), t3, if_neg (by omega), s3, if_pos (by omega)]; rfl
  · rw [e6 _ _ (by omega), u3, if_pos (by omega)]; rfl
  · rw [hν6, sI_1, if_neg (by omega), sI_1, if_pos ⟨rfl, rfl⟩]; rfl
  · rw [hν6, sI_1, if_pos ⟨rfl, rfl⟩]; rfl
  · rw [c253, hν1, sI_1, if_pos ⟨rfl, rfl⟩]; rfl
  · show ν6.1 293 f = -1
    rcases (show f = 0 ∨ f = 1 by omega) with rfl | rfl
    · rw [hν6, sI_1, if_neg (by omega), sI_1, if_neg (by omega), sI_1, if_neg (by omega), sI_1, if_pos ⟨rfl, rfl⟩]
    · rw [hν6, sI_1, if_neg (by omega), sI_1, if_neg (by omega), sI_1, if_pos ⟨rfl, rfl⟩]
  · rw [c253, hν1, sI_1, if_neg (by omega), sI_1, if_pos ⟨rfl, rfl⟩]; rfl
  · rw [c253, hν1, sI_1, if_neg (by omega), sI_1, if_neg (by omega), sI_1, if_pos ⟨rfl, rfl⟩]
  · rw [c253, hν1, sI_1, if_neg (by omega), sI_1, if_neg (by omega), sI_1, if_neg (by omega), sI_1, if_neg (by omega), sI_1, if_neg (by omega), sI_1, if_neg (by omega), sI_1, if_pos ⟨rfl, rfl⟩]
theorem ok_begin {h : aH} (ok : okH h) : okN h (nBegin h) := by
  have p17 := ok.2.2.2.2.2.2.2.2.2.2.2.2.2.2.2.2.1
  have p18 := ok.2.2.2.2.2.2.2.2.2.2.2.2.2.2.2.2.2.1
  refine ⟨Nat.zero_le _, fun k => ?_, fun k hk => ?_, fun k => ?_, fun k hk => ?_, fun k => Nat.zero_le _, fun k => Nat.zero_le _, fun k => Nat.zero_le _, fun k hk => ⟨rfl, rfl, rfl⟩⟩
  · show (if k < hCnt h 2 then hHelp h k 0 else 0) ≤ 240
    split
    · exact (p18 k).2.1
    · omega
  · show (if k < hCnt h 2 then hHelp h k 0 else 0) = 0
    rw [if_neg (by omega)]
  · show (if k < hCnt h 1 then hStock h k else 0) ≤ 3
    split
    · exact p17 k
    · omega
  · show (if k < hCnt h 1 then hStock h k else 0) = 0
    rw [if_neg (by omega)]
theorem m_stands {h : aH} (ok : okH h) {N cd : Nat} (hN : 1700 ≤ N) (hcd : cd ≤ 1600) {ν : z_S} (hm : mK h cd ν) : ∃ ν', f_X12_stands N ν = some ((), ν') ∧ ν'.2.2 = ν.2.2 ∧ (∀ a j, a ≠ 285 → ν'.2.1 a j = ν.2.1 a j) ∧ (∀ a j, ¬ ((284 ≤ a ∧ a ≤ 296) ∨ (a = 253 ∧ (j = 65 ∨ j = 68))) → ν'.1 a j = ν.1 a j) ∧ mH h ν' ∧ mN 296 0 (nBegin h) ν' ∧ ν'.1 253 68 = 0 ∧ ν'.1 253 65 = 0 := by
  have q8 := ok.1
  have q2 := ok.2.1
  have q3 := ok.2.2.1
  obtain ⟨p1, p2, p3, p4, p5, p6, p7, p8, p9, p10, p12, p11⟩ := hm
  obtain ⟨Ef, hEf⟩ : ∃ Ef : z_S → Option (Unit × z_S), Ef = (fun μ358 => z_bd (z_setI μ358 253 68 (0 : Int32)) fun μ_17 => z_bd (z_setI μ_17 253 65 (0 : Int32)) fun μ_18 => some ((), μ_18)) := ⟨_, rfl⟩
  obtain ⟨Ee, hEe⟩ : ∃ Ee : z_S → Option (Unit × z_S), Ee = (fun μ322 => z_bn (f_X12_leftAnew N μ322) fun _ μ_14 => f_X12_stands_L328 N Ef N (0 : Int32) μ_14) := ⟨_, rfl⟩
  obtain ⟨Ed, hEd⟩ : ∃ Ed : z_S → Option (Unit × z_S), Ed = (fun μ301 => f_X12_stands_L303 N Ee N (0 : Int32) μ301) := ⟨_, rfl⟩
  obtain ⟨Ec, hEc⟩ : ∃ Ec : z_S → Option (Unit × z_S), Ec = (fun μ269 => f_X12_stands_L271 N Ed N (0 : Int32) μ269) := ⟨_, rfl⟩
  obtain ⟨Eb, hEb⟩ : ∃ Eb : z_S → Option (Unit × z_S), Eb = (fun μ214 => f_X12_stands_L216 N Ec N (0 : Int32) μ214) := ⟨_, rfl⟩
  obtain ⟨Ea, hEa⟩ : ∃ Ea : z_S → Option (Unit × z_S), Ea = (fun μ185 => f_X12_stands_L187 N Eb N (0 : Int32) μ185) := ⟨_, rfl⟩
  obtain ⟨E9, hE9⟩ : ∃ E9 : z_S → Option (Unit × z_S), E9 = (fun μ156 => f_X12_stands_L158 N Ea N (0 : Int32) μ156) := ⟨_, rfl⟩
  obtain ⟨E8, hE8⟩ : ∃ E8 : z_S → Option (Unit × z_S), E8 = (fun μ127 => f_X12_stands_L129 N E9 N (0 : Int32) μ127) := ⟨_, rfl⟩
  obtain ⟨E7, hE7⟩ : ∃ E7 : z_S → Option (Unit × z_S), E7 = (fun μ98 => f_X12_stands_L100 N E8 N (0 : Int32) μ98) := ⟨_, rfl⟩
  obtain ⟨E6, hE6⟩ : ∃ E6 : z_S → Option (Unit × z_S), E6 = (fun μ71 => f_X12_stands_L73 N E7 N (0 : Int32) μ71) := ⟨_, rfl⟩
  obtain ⟨E5, hE5⟩ : ∃ E5 : z_S → Option (Unit × z_S), E5 = (fun μ27 => f_X12_stands_L29 N E6 N (0 : Int32) μ27) := ⟨_, rfl⟩
  have top : f_X12_stands N ν = f_X12_stands_L2 N E5 N (0 : Int32) ν := by
    rw [hE5, hE6, hE7, hE8, hE9, hEa, hEb, hEc, hEd, hEe, hEf]
    rfl
  obtain ⟨ν1, a1, a2, a3⟩ := sd_2 N E5 N 0 ν (by omega) (by omega)
  obtain ⟨ν2, b1, b2, b3, b4⟩ := sd_29 N E6 N 0 ν1 (by omega) (by omega)
  obtain ⟨ν3, c1, c2, c3⟩ := sd_73 N E7 N 0 ν2 (by omega) (by omega)
  obtain ⟨ν4, d1, d2, d3⟩ := sd_100 N E8 N 0 ν3 (by omega) (by omega)
  obtain ⟨ν5, e1, e2, e3⟩ := sd_129 N E9 N 0 ν4 (by omega) (by omega)
  obtain ⟨ν6, f1, f2, f3⟩ := sd_158 N Ea N 0 ν5 (by omega) (by omega)
  obtain ⟨ν7, g1, g2, g3⟩ := sd_187 N Eb N 0 ν6 (by omega) (by omega)
  obtain ⟨ν8, i1, i2, i3⟩ := sd_216 N Ec N 0 ν7 (by omega) (by omega)
  have h51 : ν8.1 253 51 = nI cd := by
    rw [i3, if_neg (by omega), g3, if_neg (by omega), f3, if_neg (by omega), e3, if_neg (by omega), d3, if_neg (by omega), c3, if_neg (by omega), b4, if_neg (by omega), a3, if_neg (by omega)]; exact p12
  obtain ⟨ν9, j1, j2, j3⟩ := sd_271 N Ed (m := cd) hcd N 0 ν8 (by omega) (by omega) h51
  obtain ⟨νa, k1, k2, k3⟩ := sd_303 N Ee N 0 ν9 (by omega) (by omega)
  have A : ∀ a j, ¬ ((284 ≤ a ∧ a ≤ 296)) → νa.1 a j = ν.1 a j := fun a j z => by
    rw [k3, if_neg (by omega), j3, if_neg (by omega), i3, if_neg (by omega), g3, if_neg (by omega), f3, if_neg (by omega), e3, if_neg (by omega), d3, if_neg (by omega), c3, if_neg (by omega), b4, if_neg (by omega), a3, if_neg (by omega)]
  have AJ : ∀ a j, νa.2.1 a j = if a = 285 ∧ 24 + 0 ≤ j ∧ j < 48 then ν.2.1 285 (j - 24) else ν.2.1 a j := fun a j => by
    rw [k2, j2, i2, g2, f2, e2, d2, c2, b3, a2]
  have A22 : νa.2.2 = ν.2.2 := by rw [k2, j2, i2, g2, f2, e2, d2, c2, b2, a2]
  have m284 : ∀ k, k < 5 → νa.1 284 (5 + k) = nI (hCnt h k) := fun k hk => by
    rw [k3, if_neg (by omega), j3, if_neg (by omega), i3, if_neg (by omega), g3, if_neg (by omega), f3, if_neg (by omega), e3, if_neg (by omega), d3, if_neg (by omega), c3, if_neg (by omega), b4, if_neg (by omega), a3, if_pos (by omega), show 5 + k - 5 = k by omega]; exact p1 k hk
  have hH : mH h νa := by
    refine ⟨m284, fun k hk i hi => ?_, fun i hi w hw => ?_, fun i hi => ?_, fun i hi w hw => ?_, fun x hx y hy => ?_, fun w hw => ?_, fun i hi w hw => ?_, ?_, ?_, fun f hf => ?_⟩
    · have := ok_8 ok hk
      rw [AJ, if_pos (by omega), show 24 + 8 * k + i - 24 = 8 * k + i by omega]; exact p2 k hk i hi
    · rw [k3, if_neg (by omega), j3, if_neg (by omega), i3, if_neg (by omega), g3, if_neg (by omega), f3, if_neg (by omega), e3, if_neg (by omega), d3, if_neg (by omega), c3, if_neg (by omega), b4, if_pos (by omega), a3, if_neg (by omega), show 24 + 3 * i + w - 24 = 3 * i + w by omega]; exact p3 i hi w hw
    · rw [k3, if_neg (by omega), j3, if_neg (by omega), i3, if_neg (by omega), g3, if_neg (by omega), f3, if_neg (by omega), e3, if_pos (by omega), d3, if_neg (by omega), c3, if_neg (by omega), b4, if_neg (by omega), a3, if_neg (by omega), show 8 + i - 8 = i by omega]; exact p4 i hi
    · rw [k3, if_neg (by omega), j3, if_neg (by omega), i3, if_neg (by omega), g3, if_neg (by omega), f3, if_neg (by omega), e3, if_neg (by omega), d3, if_pos (by omega), c3, if_neg (by omega), b4, if_neg (by omega), a3, if_neg (by omega), show 32 + 4 * i + w - 32 = 4 * i + w by omega]; exact p5 i hi w hw
    · rw [k3, if_neg (by omega), j3, if_neg (by omega), i3, if_neg (by omega), g3, if_neg (by omega), f3, if_pos (by omega), e3, if_neg (by omega), d3, if_neg (by omega), c3, if_neg (by omega), b4, if_neg (by omega), a3, if_neg (by omega), show 64 + 8 * x + y - 64 = 8 * x + y by omega]; exact p6 x hx y hy
    · rw [k3, if_neg (by omega), j3, if_neg (by omega), i3, if_neg (by omega), g3, if_neg (by omega), f3, if_neg (by omega), e3, if_neg (by omega), d3, if_neg (by omega), c3, if_pos (by omega), b4, if_neg (by omega), a3, if_neg (by omega), show 4 + w - 4 = w by omega]; exact p7 w hw
    · rw [k3, if_neg (by omega), j3, if_neg (by omega), i3, if_neg (by omega), g3, if_pos (by omega), f3, if_neg (by omega), e3, if_neg (by omega), d3, if_neg (by omega), c3, if_neg (by omega), b4, if_neg (by omega), a3, if_neg (by omega), show 9 + 3 * i + w - 9 = 3 * i + w by omega]; exact p8 i hi w hw
    · rw [k3, if_neg (by omega), j3, if_neg (by omega), i3, if_pos (by omega), g3, if_neg (by omega), f3, if_neg (by omega), e3, if_neg (by omega), d3, if_neg (by omega), c3, if_neg (by omega), b4, if_neg (by omega), a3, if_neg (by omega)]; exact p9
    · rw [k3, if_neg (by omega), j3, if_neg (by omega), i3, if_pos (by omega), g3, if_neg (by omega), f3, if_neg (by omega), e3, if_neg (by omega), d3, if_neg (by omega), c3, if_neg (by omega), b4, if_neg (by omega), a3, if_neg (by omega)]; exact p10
    · have F : ∀ a, a = 293 ∨ a = 294 → νa.1 a (2 + f) = ν.1 a f := fun a ha => by
        rw [k3, if_neg (by omega), j3, if_neg (by omega), i3, if_pos (by omega), g3, if_neg (by omega), f3, if_neg (by omega), e3, if_neg (by omega), d3, if_neg (by omega), c3, if_neg (by omega), b4, if_neg (by omega), a3, if_neg (by omega), show 2 + f - 2 = f by omega]
      have pf := p11 f hf
      cases hf2 : hForm h f with
      | none =>
        rw [hf2] at pf
        show νa.1 293 (2 + f) = -1
        rw [F 293 (by omega)]
        exact pf
      | some cs =>
        rw [hf2] at pf
        obtain ⟨x, y, z1, z2, z3, z4, z5⟩ := pf
        refine ⟨x, y, by rw [F 293 (by omega)]; exact z1, by rw [F 294 (by omega)]; exact z2, by omega, z4, fun k c hkc => ?_⟩
        have := (List.getElem?_eq_some_iff.mp hkc).1
        rw [k3, if_neg (by omega), j3, if_pos (by omega), i3, if_neg (by omega), g3, if_neg (by omega), f3, if_neg (by omega), e3, if_neg (by omega), d3, if_neg (by omega), c3, if_neg (by omega), b4, if_neg (by omega), a3, if_neg (by omega), show 1600 + x + k - 1600 = x + k by omega]; exact z5 k c hkc
  obtain ⟨νb, l1, l2, l3⟩ := m_leftAnew ok N (by omega) hH
  have h6 : νb.1 284 6 = nI (hCnt h 1) := by rw [l3, if_neg (by omega)]; exact m284 1 (by omega)
  obtain ⟨νc, n1, n2, n3⟩ := sd_328 N Ef (m := hCnt h 1) q2 N 0 νb (by omega) (by omega) h6
  have e287 : ∀ g, g < hCnt h 1 → νb.1 287 (4 + g) = nI (hStock h g) := fun g hg => by rw [l3, if_neg (by omega)]; exact hH.2.2.2.2.2.2.1 g hg
  have K : ∀ a j, a ≠ 296 → νc.1 a j = νa.1 a j := fun a j z => by rw [n3, if_neg (by omega), l3, if_neg (by omega)]
  have K0 : ∀ j, j < 32 → νc.1 296 j = if 4 ≤ j ∧ j < 4 + hCnt h 1 then νb.1 287 j else if 1 ≤ j ∧ j < 1 + hCnt h 2 then nI (hHelp h (j - 1) 0) else 0 := fun j hj => by
    rw [n3]
    by_cases d : 4 ≤ j ∧ j < 4 + hCnt h 1
    · rw [if_pos (by omega), if_pos d]
    · rw [if_neg (by omega), if_neg d, l3]
      by_cases dd : 1 ≤ j ∧ j < 1 + hCnt h 2
      · rw [if_pos (by omega), if_pos dd]
      · rw [if_neg (by omega), if_neg dd, k3, if_pos (by omega)]
  refine ⟨z_setI (z_setI νc 253 68 0) 253 65 0, ?_, ?_, fun a j z => ?_, fun a j z => ?_, ?_, ?_, ?_, ?_⟩
  · rw [top]
    have a1' : f_X12_stands_L2 N E5 N (0 : Int32) ν = _ := a1
    have b1' : f_X12_stands_L29 N E6 N (0 : Int32) ν1 = _ := b1
    have c1' : f_X12_stands_L73 N E7 N (0 : Int32) ν2 = _ := c1
    have d1' : f_X12_stands_L100 N E8 N (0 : Int32) ν3 = _ := d1
    have e1' : f_X12_stands_L129 N E9 N (0 : Int32) ν4 = _ := e1
    have f1' : f_X12_stands_L158 N Ea N (0 : Int32) ν5 = _ := f1
    have g1' : f_X12_stands_L187 N Eb N (0 : Int32) ν6 = _ := g1
    have i1' : f_X12_stands_L216 N Ec N (0 : Int32) ν7 = _ := i1
    have j1' : f_X12_stands_L271 N Ed N (0 : Int32) ν8 = _ := j1
    have k1' : f_X12_stands_L303 N Ee N (0 : Int32) ν9 = _ := k1
    have n1' : f_X12_stands_L328 N Ef N (0 : Int32) νb = _ := n1
    rw [a1', show E5 ν1 = f_X12_stands_L29 N E6 N (0 : Int32) ν1 by rw [hE5], b1', show E6 ν2 = f_X12_stands_L73 N E7 N (0 : Int32) ν2 by rw [hE6], c1', show E7 ν3 = f_X12_stands_L100 N E8 N (0 : Int32) ν3 by rw [hE7], d1', show E8 ν4 = f_X12_stands_L129 N E9 N (0 : Int32) ν4 by rw [hE8], e1', show E9 ν5 = f_X12_stands_L158 N Ea N (0 : Int32) ν5 by rw [hE9], f1', show Ea ν6 = f_X12_stands_L187 N Eb N (0 : Int32) ν6 by rw [hEa], g1', show Eb ν7 = f_X12_stands_L216 N Ec N (0 : Int32) ν7 by rw [hEb], i1', show Ec ν8 = f_X12_stands_L271 N Ed N (0 : Int32) ν8 by rw [hEc], j1', show Ed ν9 = f_X12_stands_L303 N Ee N (0 : Int32) ν9 by rw [hEd], k1', hEe]
    show z_bn (f_X12_leftAnew N νa) (fun _ μ_14 => f_X12_stands_L328 N Ef N (0 : Int32) μ_14) = _
    rw [l1, z_bn_sm, n1', hEf]
    dsimp only
    rw [z_bd_eq, z_bd_eq]
  · show νc.2.2 = _
    rw [n2, l2, A22]
  · show νc.2.1 a j = _
    rw [n2, l2, AJ, if_neg (fun w => z w.1)]
  · rw [sI_1, if_neg (by omega), sI_1, if_neg (by omega), K a j (by omega), A a j (by omega)]
  · have e : ∀ a j, 284 ≤ a → a ≤ 295 → (z_setI (z_setI νc 253 68 0) 253 65 0).1 a j = νa.1 a j := fun a j z1 z2 => by
      rw [sI_1, if_neg (by omega), sI_1, if_neg (by omega), K a j (by omega)]
    obtain ⟨y1, y2, y3, y4, y5, y6, y7, y8, y9, y10, y11⟩ := hH
    refine ⟨fun k hk => by rw [e _ _ (by omega) (by omega)]; exact y1 k hk, fun k hk i hi => ?_, fun i hi w hw => by rw [e _ _ (by omega) (by omega)]; exact y3 i hi w hw, fun i hi => by rw [e _ _ (by omega) (by omega)]; exact y4 i hi, fun i hi w hw => by rw [e _ _ (by omega) (by omega)]; exact y5 i hi w hw, fun x hx y hy => by rw [e _ _ (by omega) (by omega)]; exact y6 x hx y hy, fun w hw => by rw [e _ _ (by omega) (by omega)]; exact y7 w hw, fun i hi w hw => by rw [e _ _ (by omega) (by omega)]; exact y8 i hi w hw, by rw [e _ _ (by omega) (by omega)]; exact y9, by rw [e _ _ (by omega) (by omega)]; exact y10, fun f hf => ?_⟩
    · show νc.2.1 285 _ = _
      rw [n2, l2]; exact y2 k hk i hi
    · have pf := y11 f hf
      cases hf2 : hForm h f with
      | none =>
        rw [hf2] at pf
        show (z_setI (z_setI νc 253 68 0) 253 65 0).1 293 (2 + f) = -1
        rw [e _ _ (by omega) (by omega)]
        exact pf
      | some cs =>
        rw [hf2] at pf
        obtain ⟨x, y, z1, z2, z3, z4, z5⟩ := pf
        exact ⟨x, y, by rw [e _ _ (by omega) (by omega)]; exact z1, by rw [e _ _ (by omega) (by omega)]; exact z2, z3, z4, fun k c hkc => by rw [e _ _ (by omega) (by omega)]; exact z5 k c hkc⟩
  · have e : ∀ j, (z_setI (z_setI νc 253 68 0) 253 65 0).1 296 j = νc.1 296 j := fun j => by rw [sI_1, if_neg (by omega), sI_1, if_neg (by omega)]
    refine ⟨?_, fun k hk => ?_, fun k hk => ?_, fun k hk => ⟨?_, ?_, ?_⟩⟩
    · rw [e, K0 _ (by omega), if_neg (by omega), if_neg (by omega)]; rfl
    · rw [e, K0 _ (by omega), if_neg (by omega)]
      show _ = nI (if k < hCnt h 2 then hHelp h k 0 else 0)
      by_cases d : k < hCnt h 2
      · rw [if_pos (by omega), if_pos d, show 0 + 1 + k - 1 = k by omega]
      · rw [if_neg (by omega), if_neg d]; rfl
    · rw [e, K0 _ (by omega)]
      show _ = nI (if k < hCnt h 1 then hStock h k else 0)
      by_cases d : k < hCnt h 1
      · rw [if_pos (by omega), if_pos d, show 0 + 4 + k = 4 + k by omega]; exact e287 k d
      · rw [if_neg (by omega), if_neg (by omega), if_neg d]; rfl
    · rw [e, K0 _ (by omega), if_neg (by omega), if_neg (by omega)]; rfl
    · rw [e, K0 _ (by omega), if_neg (by omega), if_neg (by omega)]; rfl
    · rw [e, K0 _ (by omega), if_neg (by omega), if_neg (by omega)]; rfl
  · rw [sI_1, if_neg (by omega), sI_1, if_pos ⟨rfl, rfl⟩]
  · rw [sI_1, if_pos ⟨rfl, rfl⟩]
