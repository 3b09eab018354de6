/-! heaps half told -/
def up2 {α : Type} (f : Nat → Nat → α) (a b : Nat) (x : α) : Nat → Nat → α := fun i j => if i = a ∧ j = b then x else f i j
def hMk (cnt : Nat → Nat) (nm : Nat → Nat → List Nat) (mail wish : Nat → Nat → Nat) (near : Nat → Nat → Bool) (odds : Nat → Nat → Nat) (stock : Nat → Nat) (help : Nat → Nat → Nat) (mc : Nat × Nat) (form : Nat → Option (List Int32)) : aH := (cnt, nm, mail, wish, near, odds, stock, help, mc, form)
/-- nothing told yet -/
def hInit : aH := hMk (fun _ => 0) (fun _ _ => []) (fun _ _ => 0) (fun _ _ => 0) (fun _ _ => false) (fun _ _ => 0) (fun _ => 0) (fun _ w => if w = 0 then 1 else 0) (3, 0) (fun _ => none)
theorem okH_init : okH hInit := by
  refine ⟨by decide, by decide, by decide, by decide, by decide, fun k i hi => absurd hi (Nat.not_lt_zero _), fun _ => ⟨Nat.zero_le 20, Nat.zero_le 9, Nat.zero_le 10⟩, fun _ _ => Nat.zero_le 9, fun _ _ _ => rfl, fun _ _ => rfl, fun _ => rfl, fun _ _ _ => rfl, fun _ _ => Nat.zero_le 11, fun _ _ => rfl, ⟨fun _ => rfl, ?_⟩, fun _ _ _ => rfl, fun _ => Nat.zero_le 3, fun _ => ⟨Nat.le_refl 1, show 1 ≤ 240 by decide, Nat.zero_le 9, Nat.zero_le 10⟩, by decide, by decide, fun f cs h => ?_⟩
  · show sumO hInit 8 ≤ 0
    decide
  · exact absurd h (by intro z; cases z)
/-- the reference's heap that is being told; cd codes kept -/
def mK (h : aH) (cd : Nat) (ν : z_S) : Prop :=
  (∀ k, k < 5 → ν.1 284 k = nI (hCnt h k)) ∧ (∀ k, k < 3 → ∀ i, i < hCnt h k → ν.2.1 285 (8 * k + i) = lN (pk27 (hName h k i))) ∧
  (∀ l, l < hCnt h 0 → ∀ w, w < 3 → ν.1 286 (3 * l + w) = nI (hMail h l w)) ∧
  (∀ l, l < 8 → ν.1 289 l = nI (nearB h l)) ∧ (∀ l, l < 8 → ∀ g, g < 4 → ν.1 288 (4 * l + g) = nI (hWish h l g)) ∧ (∀ a, a < 8 → ∀ b, b < 8 → ν.1 290 (8 * a + b) = nI (hOdds h a b)) ∧
  (∀ g, g < hCnt h 1 → ν.1 287 g = nI (hStock h g)) ∧ (∀ i, i < hCnt h 2 → ∀ w, w < 3 → ν.1 291 (3 * i + w) = nI (hHelp h i w)) ∧
  ν.1 292 0 = nI (hMiss h) ∧ ν.1 292 1 = nI (hCold h) ∧ ν.1 253 51 = nI cd ∧
  ∀ f, f < 2 → match hForm h f with
    | none => ν.1 293 f = -1
    | some cs => ∃ a b : Nat, ν.1 293 f = nI a ∧ ν.1 294 f = nI b ∧ b ≤ cd ∧ b = a + cs.length ∧ ∀ k c, cs[k]? = some c → ν.1 295 (a + k) = cmap c
/-- the class' heap that is being told; sz codes kept; how often each kind was told -/
def cK (o : Nat) (h : aH) (sz : Nat) (tl : Nat → Nat) (μ : z_S) : Prop :=
  cH o h μ ∧ μ.1 (o + 32) 1 = nI sz ∧ (∀ f b, f < 2 → μ.1 (o + 35) f = nI b → b < 2 ^ 31 → b ≤ sz) ∧ (∀ k, k < 10 → μ.1 (o + 1) k = nI (tl k)) ∧ (∀ k, k < 5 → tl k = hCnt h k) ∧ (tl 5 = if hForm h 0 = none then 0 else 1) ∧ (tl 6 = if hForm h 1 = none then 0 else 1) ∧ ∀ k, tl k < 1000
