/-! WHAT A STATE IS: pure values that both memories tell -/
/-- DAY, minutes LEFT, stock, who answered (0 none, else the helper and 1), SHEET, GIFT (0 none, else the gift and 1) -/
abbrev aN : Type := Nat × (Nat → Nat) × (Nat → Nat) × (Nat → Nat) × (Nat → Nat) × (Nat → Nat)
def nDay (s : aN) : Nat := s.1
def nLeft (s : aN) : Nat → Nat := s.2.1
def nStock (s : aN) : Nat → Nat := s.2.2.1
def nDone (s : aN) : Nat → Nat := s.2.2.2.1
def nSheet (s : aN) : Nat → Nat := s.2.2.2.2.1
def nGift (s : aN) : Nat → Nat := s.2.2.2.2.2
/-- a heap: counts (letters, gifts, helpers, pairs near, pairs like); names by kind; age, need, grave; wishes; near; odds (0 none, else N and 1); stock; time, hand, bears; missed, cold; the two formulas as codes of the class -/
abbrev aH : Type := (Nat → Nat) × (Nat → Nat → List Nat) × (Nat → Nat → Nat) × (Nat → Nat → Nat) × (Nat → Nat → Bool) × (Nat → Nat → Nat) × (Nat → Nat) × (Nat → Nat → Nat) × (Nat × Nat) × (Nat → Option (List Int32))
def hCnt (h : aH) : Nat → Nat := h.1
def hName (h : aH) : Nat → Nat → List Nat := h.2.1
def hMail (h : aH) : Nat → Nat → Nat := h.2.2.1
def hWish (h : aH) : Nat → Nat → Nat := h.2.2.2.1
def hNear (h : aH) : Nat → Nat → Bool := h.2.2.2.2.1
def hOdds (h : aH) : Nat → Nat → Nat := h.2.2.2.2.2.1
def hStock (h : aH) : Nat → Nat := h.2.2.2.2.2.2.1
def hHelp (h : aH) : Nat → Nat → Nat := h.2.2.2.2.2.2.2.1
def hMiss (h : aH) : Nat := h.2.2.2.2.2.2.2.2.1.1
def hCold (h : aH) : Nat := h.2.2.2.2.2.2.2.2.1.2
def hForm (h : aH) : Nat → Option (List Int32) := h.2.2.2.2.2.2.2.2.2
/-- those told near a letter, as bits -/
def nearB (h : aH) (l : Nat) : Nat := ((List.range 8).map (fun k => if hNear h l k then 2 ^ k else 0)).sum
/-- a name's letters (1 .. 26), six places of five bits; as the reference's number -/
def pk32 : List Nat → Nat → Nat
  | _, 0 => 0
  | [], n + 1 => 32 * 0 + pk32 [] n
  | c :: r, n + 1 => c * 32 ^ n + pk32 r n
def pk27 (l : List Nat) : Nat := l.foldl (fun v c => 27 * v + c) 0
/-- the reference's code for a code of the class (in a formula; in a question 'all' is 1 here and 13 there) -/
def cmap (c : Int32) : Int32 := if 0 ≤ c then c + 1000 else if -10 ≤ c then 39 - c else if c = -23 then 60 else -10 - c
def crel (c m : Int32) : Prop := m = cmap c ∨ (c = 1 ∧ m = 13)
/-- which formula stands where none is told -/
def formD (f : Nat) : List Int32 := if f = 0 then [20] else [-4]
def okN (h : aH) (s : aN) : Prop := nDay s ≤ 999 ∧ (∀ k, nLeft s k ≤ 240) ∧ (∀ k, hCnt h 2 ≤ k → nLeft s k = 0) ∧ (∀ k, nStock s k ≤ 3) ∧ (∀ k, hCnt h 1 ≤ k → nStock s k = 0) ∧ (∀ k, nDone s k ≤ hCnt h 2) ∧ (∀ k, nSheet s k ≤ 4) ∧ (∀ k, nGift s k ≤ hCnt h 1) ∧ ∀ k, hCnt h 0 ≤ k → nDone s k = 0 ∧ nSheet s k = 0 ∧ nGift s k = 0
/-- the class' state object s -/
def cN (s : Nat) (a : aN) (μ : z_S) : Prop := μ.1 s 0 = nI (nDay a) ∧ (∀ k, k < 3 → μ.1 (s + 1) k = nI (nLeft a k)) ∧ (∀ k, k < 4 → μ.1 (s + 2) k = nI (nStock a k)) ∧ (∀ k, k < 8 → μ.1 (s + 3) k = nI (nDone a k) - 1) ∧ (∀ k, k < 8 → μ.1 (s + 4) k = nI (nSheet a k)) ∧ ∀ k, k < 8 → μ.1 (s + 5) k = nI (nGift a k) - 1
/-- the reference's row o, from b on -/
def mN (o b : Nat) (a : aN) (ν : z_S) : Prop := ν.1 o b = nI (nDay a) ∧ (∀ k, k < 3 → ν.1 o (b + 1 + k) = nI (nLeft a k)) ∧ (∀ k, k < 4 → ν.1 o (b + 4 + k) = nI (nStock a k)) ∧ ∀ k, k < 8 → ν.1 o (b + 8 + 3 * k) = nI (nDone a k) ∧ ν.1 o (b + 9 + 3 * k) = nI (nSheet a k) ∧ ν.1 o (b + 10 + 3 * k) = nI (nGift a k)
/-- the class' heap object o -/
def cH (o : Nat) (h : aH) (μ : z_S) : Prop :=
  (∀ k, k < 5 → μ.1 (o + 1) k = nI (hCnt h k)) ∧ (∀ k, k < 3 → ∀ i, i < hCnt h k → μ.1 (o + 3 + k) i = nI (pk32 (hName h k i) 6)) ∧
  (∀ l, l < hCnt h 0 → μ.1 (o + 6) l = nI (hMail h l 0) ∧ μ.1 (o + 7) l = nI (hMail h l 1) ∧ μ.1 (o + 8) l = nI (hMail h l 2)) ∧
  (∀ l, l < 8 → μ.1 (o + 9) l = nI (nearB h l)) ∧ (∀ l, l < 8 → ∀ g, g < 4 → μ.1 (o + 11 + l) g = nI (hWish h l g)) ∧ (∀ a, a < 8 → ∀ b, b < 8 → μ.1 (o + 20 + a) b = nI (hOdds h a b) - 1) ∧
  (∀ g, g < hCnt h 1 → μ.1 (o + 28) g = nI (hStock h g)) ∧ (∀ i, i < hCnt h 2 → μ.1 (o + 29) i = nI (hHelp h i 0) ∧ μ.1 (o + 30) i = nI (hHelp h i 1) ∧ μ.1 (o + 31) i = nI (hHelp h i 2)) ∧
  μ.1 o 15 = nI (hMiss h) ∧ μ.1 o 16 = nI (hCold h) ∧
  ∀ f, f < 2 → ∃ a b : Nat, μ.1 (o + 34) f = nI a ∧ μ.1 (o + 35) f = nI b ∧ b ≤ 1600 ∧ b = a + ((hForm h f).getD (formD f)).length ∧ ∀ k c, ((hForm h f).getD (formD f))[k]? = some c → μ.1 (o + 33) (a + k) = c
/-- the reference's standing heap -/
def mH (h : aH) (ν : z_S) : Prop :=
  (∀ k, k < 5 → ν.1 284 (5 + k) = nI (hCnt h k)) ∧ (∀ k, k < 3 → ∀ i, i < hCnt h k → ν.2.1 285 (24 + 8 * k + i) = lN (pk27 (hName h k i))) ∧
  (∀ l, l < hCnt h 0 → ∀ w, w < 3 → ν.1 286 (24 + 3 * l + w) = nI (hMail h l w)) ∧
  (∀ l, l < 8 → ν.1 289 (8 + l) = nI (nearB h l)) ∧ (∀ l, l < 8 → ∀ g, g < 4 → ν.1 288 (32 + 4 * l + g) = nI (hWish h l g)) ∧ (∀ a, a < 8 → ∀ b, b < 8 → ν.1 290 (64 + 8 * a + b) = nI (hOdds h a b)) ∧
  (∀ g, g < hCnt h 1 → ν.1 287 (4 + g) = nI (hStock h g)) ∧ (∀ i, i < hCnt h 2 → ∀ w, w < 3 → ν.1 291 (9 + 3 * i + w) = nI (hHelp h i w)) ∧
  ν.1 292 2 = nI (hMiss h) ∧ ν.1 292 3 = nI (hCold h) ∧
  ∀ f, f < 2 → match hForm h f with
    | none => ν.1 293 (2 + f) = -1
    | some cs => ∃ a b : Nat, ν.1 293 (2 + f) = nI a ∧ ν.1 294 (2 + f) = nI b ∧ b ≤ 1600 ∧ b = a + cs.length ∧ ∀ k c, cs[k]? = some c → ν.1 295 (1600 + a + k) = cmap c
/-- how deep the pile gets, and what it holds behind a code of a formula or a question; none where it can't be worked out -/
def cStep (d : Nat) (c : Int32) : Option Nat :=
  if -10 ≤ c then some (d + 1) else if c = -22 ∨ c = -23 then (if 1 ≤ d then some d else none) else if -21 ≤ c then (if 2 ≤ d then some (d - 1) else none) else none
def cRun : Nat → Nat → List Int32 → Option Nat
  | _, d, [] => some d
  | m, d, c :: r => match cStep d c with
    | none => none
    | some d' => if d' ≤ m then cRun m d' r else none
/-- codes that tell one number, within 64 places -/
def okC (cs : List Int32) : Prop := cRun 64 0 cs = some 1 ∧ ∀ c ∈ cs, -23 ≤ c ∧ c ≤ 9999
/-- codes of a heap's formula: no number, sheet, done, gift, wish, tests -/
def okF (cs : List Int32) : Prop := okC cs ∧ ∀ c ∈ cs, -6 ≤ c ∨ (-16 ≤ c ∧ c ≤ -11)
/-- how many pairs are told alike, a letter's with those before it; and of the first letters -/
def cntO (h : aH) (l : Nat) : Nat → Nat
  | 0 => 0
  | n + 1 => cntO h l n + if hOdds h l n = 0 then 0 else 1
def sumO (h : aH) : Nat → Nat
  | 0 => 0
  | n + 1 => sumO h n + cntO h n n
def okH (h : aH) : Prop :=
  hCnt h 0 ≤ 8 ∧ hCnt h 1 ≤ 4 ∧ hCnt h 2 ≤ 3 ∧ hCnt h 3 ≤ 20 ∧ hCnt h 4 ≤ 10 ∧ (∀ k i, i < hCnt h k → 1 ≤ (hName h k i).length ∧ (hName h k i).length ≤ 6 ∧ ∀ c ∈ hName h k i, 1 ≤ c ∧ c ≤ 26) ∧
  (∀ l, hMail h l 0 ≤ 20 ∧ hMail h l 1 ≤ 9 ∧ hMail h l 2 ≤ 10) ∧ (∀ l g, hWish h l g ≤ 9) ∧ (∀ l g, hCnt h 0 ≤ l ∨ hCnt h 1 ≤ g → hWish h l g = 0) ∧
  (∀ a b, hNear h a b = hNear h b a) ∧ (∀ a, hNear h a a = false) ∧ (∀ a b, hCnt h 0 ≤ a → hNear h a b = false) ∧
  (∀ a b, hOdds h a b ≤ 11) ∧ (∀ a b, hOdds h a b = hOdds h b a) ∧ ((∀ a, hOdds h a a = 0) ∧ sumO h 8 ≤ hCnt h 4) ∧ (∀ a b, hCnt h 0 ≤ a → hOdds h a b = 0) ∧
  (∀ g, hStock h g ≤ 3) ∧ (∀ i, 1 ≤ hHelp h i 0 ∧ hHelp h i 0 ≤ 240 ∧ hHelp h i 1 ≤ 9 ∧ hHelp h i 2 ≤ 10) ∧ hMiss h ≤ 99 ∧ hCold h ≤ 100 ∧ ∀ f cs, hForm h f = some cs → okF cs
/-- the tape; refusals; fault and place; the heap; the state now; those that can be undone, the latest first; minutes seen; the image; the seed -/
abbrev aS : Type := (Nat × (Nat → Nat)) × (Nat → Int32) × (Int32 × Int32) × aH × aN × List aN × List (Nat × Nat) × List Nat × Nat
def sLen (A : aS) : Nat := A.1.1
def sTape (A : aS) : Nat → Nat := A.1.2
def sRef (A : aS) : Nat → Int32 := A.2.1
def sFault (A : aS) : Int32 := A.2.2.1.1
def sPlace (A : aS) : Int32 := A.2.2.1.2
def sH (A : aS) : aH := A.2.2.2.1
def sN (A : aS) : aN := A.2.2.2.2.1
def sPast (A : aS) : List aN := A.2.2.2.2.2.1
def sSeen (A : aS) : List (Nat × Nat) := A.2.2.2.2.2.2.1
def sImg (A : aS) : List Nat := A.2.2.2.2.2.2.2.1
def sSeed (A : aS) : Nat := A.2.2.2.2.2.2.2.2
def okS (A : aS) : Prop := sLen A ≤ 1600 ∧ (∀ k, sTape A k < 256) ∧ okH (sH A) ∧ okN (sH A) (sN A) ∧ (sPast A).length ≤ 20 ∧ (∀ a ∈ sPast A, okN (sH A) a) ∧ (sSeen A).length ≤ 16 ∧ (∀ q ∈ sSeen A, q.1 < hCnt (sH A) 0 ∧ q.2 < 65536) ∧ (sImg A).length ≤ 34 ∧ (∀ x ∈ sImg A, x < 256) ∧ sSeed A < 2 ^ 31
/-- the packed words of the class -/
def cWords : List Int32 := [408572082, 41058304, 475172864, 253810848, 244535296, 659000672, 781819904, 475056128, 412455936, 274088114, 680956928, 269946880, 72403552, 672503392, 773403648, 446287012, 116789248, 781820083, 136085504, 492210354, 646092416, 150410240, 522190848, 48365568, 486146048, 46530560, 446103552, 438042624, 211373696, 404344832, 510268864, 687474048, 452579328, 407948928]
/-- the class' memory tells A -/
def cS (A : aS) (μ : z_S) : Prop :=
  μ.1 1 1 = nI (sLen A) ∧ (∀ k, μ.1 2 k = nI (sTape A k)) ∧ (∀ k c, cWords[k]? = some c → μ.1 3 k = c) ∧ (∀ k, k < 6 → μ.1 55 k = sRef A k) ∧ μ.1 1 2 = sFault A ∧ μ.1 1 3 = sPlace A ∧ μ.2.2.2 = !μ.2.2.1 ∧
  cH (z_hn μ.2.2.1) (sH A) μ ∧ cN 39 (sN A) μ ∧
  μ.1 0 17 = nI (sPast A).length ∧ (∃ old : Nat, old < 20 ∧ μ.1 0 18 = nI old ∧ ∀ i a, (sPast A)[i]? = some a → cN (133 + 6 * ((old + (sPast A).length - 1 - i) % 20)) a μ) ∧
  μ.1 0 15 = nI (sSeen A).length ∧ (∀ k q, (sSeen A)[k]? = some q → μ.1 52 k = nI q.1 ∧ μ.1 53 k = nI q.2) ∧
  μ.1 0 16 = nI (sImg A).length ∧ (∀ k x, (sImg A)[k]? = some x → μ.1 54 k = nI x) ∧ μ.1 0 19 = nI (sSeed A)
/-- the words of the reference, as rows of letters -/
def mWords : List (Nat × List Nat) := [(256, [108, 101, 116, 116, 101, 114]), (257, [97, 103, 101]), (258, [110, 101, 101, 100]), (259, [103, 114, 97, 118, 101]), (260, [103, 105, 102, 116]), (261, [115, 116, 111, 99, 107]), (262, [119, 105, 115, 104]), (263, [110, 101, 97, 114]), (264, [108, 105, 107, 101]), (265, [104, 101, 108, 112, 101, 114]), (266, [116, 105, 109, 101]), (267, [104, 97, 110, 100]), (268, [98, 101, 97, 114, 115]), (269, [116, 97, 107, 101, 115]), (270, [119, 97, 114, 109]), (271, [109, 105, 115, 115, 101, 100]), (272, [99, 111, 108, 100]), (273, [119, 105, 115, 104, 101, 115]), (274, [100, 97, 121]), (275, [110, 117, 109, 98, 101, 114]), (276, [115, 104, 101, 101, 116]), (277, [100, 111, 110, 101]), (278, [111, 114]), (279, [97, 110, 100]), (280, [110, 111, 116]), (281, [97, 108, 108]), (282, [109, 105, 110]), (283, [109, 97, 120]), (307, [102, 105, 114, 115, 116]), (308, [108, 97, 115, 116]), (309, [111, 102, 116, 101, 110]), (310, [116, 111, 116, 97, 108]), (311, [109, 111, 115, 116]), (312, [108, 101, 97, 115, 116]), (313, [110, 111, 116]), (314, [97, 110, 100]), (315, [111, 114]), (316, [97, 108, 108]), (317, [109, 105, 110]), (318, [109, 97, 120]), (319, [97, 103, 101]), (320, [110, 101, 101, 100]), (321, [103, 114, 97, 118, 101]), (322, [104, 97, 110, 100]), (323, [119, 105, 115, 104, 101, 115]), (324, [100, 97, 121]), (325, [110, 117, 109, 98, 101, 114]), (326, [115, 104, 101, 101, 116]), (327, [100, 111, 110, 101]), (328, [103, 105, 102, 116]), (329, [119, 105, 115, 104])]
/-- the reference's memory tells A -/
def mS (A : aS) (ν : z_S) : Prop :=
  ν.1 253 1 = nI (sLen A) ∧ (∀ k, ν.1 254 k = nI (sTape A k)) ∧ (∀ q ∈ mWords, ∀ k c, q.2[k]? = some c → ν.1 q.1 k = nI c) ∧ (∀ k, k < 6 → ν.1 255 k = sRef A k) ∧ ν.1 253 7 = sFault A ∧ ν.1 253 8 = sPlace A ∧
  mH (sH A) ν ∧ mN 296 0 (sN A) ν ∧
  ν.1 253 68 = nI (sPast A).length ∧ (∃ nw : Nat, nw < 20 ∧ ν.1 253 69 = nI nw ∧ ∀ i a, (sPast A)[i]? = some a → mN 306 (32 * ((nw + 20 - i) % 20)) a ν) ∧
  ν.1 253 65 = nI (sSeen A).length ∧ (∀ k q, (sSeen A)[k]? = some q → ν.1 305 (3 * k) = nI q.1 ∧ ∃ a b : Nat, a < 256 ∧ b < 256 ∧ q.2 = 256 * a + b ∧ ν.1 305 (3 * k + 1) = nI a ∧ ν.1 305 (3 * k + 2) = nI b) ∧
  ν.1 253 105 = nI (sImg A).length ∧ (∀ k x, (sImg A)[k]? = some x → ν.1 333 k = nI x) ∧ ν.2.1 253 70 = lN (sSeed A)
/-- the two memories tell one state -/
def z_INV (μ ν : z_S) : Prop := ∃ A, okS A ∧ cS A μ ∧ mS A ν
