/-! A SKY'S TEXT, told once: bytes b, of which n stand; where one is, the fault, its place -/
abbrev By : Type := Nat → Nat
def pR (p : Nat → Bool) (b : By) (n : Nat) : Nat → Nat → Nat
  | 0, i => i
  | f + 1, i => if i < n ∧ p (b i) = true then pR p b n f (i + 1) else i
/-- from i on as long as p holds -/
def pE (p : Nat → Bool) (b : By) (n i : Nat) : Nat := pR p b n (n - i) i
theorem pE_s {p : Nat → Bool} {b : By} {n i : Nat} (h : i < n) (hp : p (b i) = true) : pE p b n i = pE p b n (i + 1) := by
  unfold pE
  rw [show n - i = (n - (i + 1)) + 1 by omega, pR, if_pos ⟨h, hp⟩]
theorem pE_e {p : Nat → Bool} {b : By} {n i : Nat} (h : ¬ (i < n ∧ p (b i) = true)) : pE p b n i = i := by
  unfold pE
  cases n - i with
  | zero => rfl
  | succ f => rw [pR, if_neg h]
theorem pE_ind {p : Nat → Bool} {b : By} {n : Nat} {Q : Nat → Prop} (h0 : ∀ i, ¬ (i < n ∧ p (b i) = true) → Q i) (h1 : ∀ i, i < n → p (b i) = true → Q (i + 1) → Q i) : ∀ i, Q i := by
  have g : ∀ m i, n - i = m → Q i := by
    intro m
    induction m with
    | zero => exact fun i hi => h0 i (fun z => by omega)
    | succ m ih =>
      intro i hi
      by_cases e : i < n ∧ p (b i) = true
      · exact h1 i e.1 e.2 (ih (i + 1) (by omega))
      · exact h0 i e
  exact fun i => g _ i rfl
theorem pE_ge (p : Nat → Bool) (b : By) (n : Nat) : ∀ i, i ≤ pE p b n i :=
  pE_ind (p := p) (b := b) (n := n) (Q := fun i => i ≤ pE p b n i) (fun i h => by rw [pE_e h]; exact Nat.le_refl _) (fun i h hp ih => by rw [pE_s h hp]; omega)
theorem pE_le (p : Nat → Bool) (b : By) (n : Nat) : ∀ i, i ≤ n → pE p b n i ≤ n :=
  pE_ind (p := p) (b := b) (n := n) (Q := fun i => i ≤ n → pE p b n i ≤ n) (fun i h q => by rw [pE_e h]; exact q) (fun i h hp ih _ => by rw [pE_s h hp]; exact ih h)
theorem pE_in (p : Nat → Bool) (b : By) (n : Nat) : ∀ i, ∀ k, i ≤ k → k < pE p b n i → p (b k) = true ∧ k < n :=
  pE_ind (p := p) (b := b) (n := n) (Q := fun i => ∀ k, i ≤ k → k < pE p b n i → p (b k) = true ∧ k < n) (fun i h k h1 h2 => by rw [pE_e h] at h2; omega) (fun i h hp ih k h1 h2 => by
    rw [pE_s h hp] at h2
    by_cases e : k = i
    · rw [e]; exact ⟨hp, h⟩
    · exact ih k (by omega) h2)
theorem pE_end (p : Nat → Bool) (b : By) (n : Nat) : ∀ i, ¬ (pE p b n i < n ∧ p (b (pE p b n i)) = true) :=
  pE_ind (p := p) (b := b) (n := n) (Q := fun i => ¬ (pE p b n i < n ∧ p (b (pE p b n i)) = true)) (fun i h => by rw [pE_e h]; exact h) (fun i h hp ih => by rw [pE_s h hp]; exact ih)
theorem pE_id (p : Nat → Bool) (b : By) (n i : Nat) : pE p b n (pE p b n i) = pE p b n i := pE_e (pE_end p b n i)
def isBl (c : Nat) : Bool := decide (c = 32)
def isDg (c : Nat) : Bool := decide (48 ≤ c ∧ c ≤ 57)
def isLe (c : Nat) : Bool := decide (97 ≤ c ∧ c ≤ 122)
/-- behind the blanks -/
def bS (b : By) (n i : Nat) : Nat := pE isBl b n i
/-- behind the letters -/
def wE (b : By) (n i : Nat) : Nat := pE isLe b n i
/-- what k digits from i on say, at most 100,000 -/
def pV (b : By) (i : Nat) : Nat → Nat
  | 0 => 0
  | k + 1 => min (10 * pV b i k + (b (i + k) - 48)) 100000
theorem pV_le (b : By) (i : Nat) : ∀ k, pV b i k ≤ 100000
  | 0 => Nat.zero_le _
  | k + 1 => Nat.min_le_right _ _
/-- where one is, the fault (0: none), its place -/
abbrev Ps : Type := Nat × Nat × Nat
def nE (b : By) (n i : Nat) : Nat := pE isDg b n (bS b n i)
def nV (b : By) (n i : Nat) : Nat := pV b (bS b n i) (nE b n i - bS b n i)
def nmS (b : By) (n : Nat) (s : Ps) (lo : Nat) (hi : Int) : Ps :=
  if ¬ s.2.1 = 0 then s else if nE b n s.1 = bS b n s.1 then (nE b n s.1, 1, bS b n s.1) else if nV b n s.1 < lo ∨ hi < (nV b n s.1 : Int) then (nE b n s.1, 2, bS b n s.1) else (nE b n s.1, 0, s.2.2)
def nmX (b : By) (n : Nat) (s : Ps) (lo : Nat) (hi : Int) : Nat := if (nmS b n s lo hi).2.1 = 0 then nV b n s.1 else lo
def faA (s : Ps) (k pl : Nat) : Ps := if s.2.1 = 0 then (s.1, k, pl) else s
def enA (b : By) (n : Nat) (s : Ps) : Ps := if ¬ s.2.1 = 0 then s else if bS b n s.1 < n ∧ b (bS b n s.1) = 59 then (bS b n s.1 + 1, 0, s.2.2) else (bS b n s.1, 1, bS b n s.1)
theorem nmS_f {b : By} {n : Nat} {s : Ps} {lo : Nat} {hi : Int} (h : ¬ s.2.1 = 0) : nmS b n s lo hi = s := by unfold nmS; rw [if_pos h]
theorem nmS_f0 {b : By} {n : Nat} {s : Ps} {lo : Nat} {hi : Int} (h : (nmS b n s lo hi).2.1 = 0) : s.2.1 = 0 := Decidable.byContradiction fun q => q (by rw [nmS_f q] at h; exact h)
theorem nmX_lo {b : By} {n : Nat} {s : Ps} {lo : Nat} {hi : Int} : lo ≤ nmX b n s lo hi := by
  unfold nmX
  by_cases h : (nmS b n s lo hi).2.1 = 0
  · rw [if_pos h]
    have h0 := nmS_f0 h
    unfold nmS at h
    rw [if_neg (by simpa using h0)] at h
    by_cases h1 : nE b n s.1 = bS b n s.1
    · rw [if_pos h1] at h; cases h
    · rw [if_neg h1] at h
      by_cases h2 : nV b n s.1 < lo ∨ hi < (nV b n s.1 : Int)
      · rw [if_pos h2] at h; cases h
      · omega
  · rw [if_neg h]; exact Nat.le_refl _
theorem nmX_hi {b : By} {n : Nat} {s : Ps} {lo : Nat} {hi : Int} (h : (nmS b n s lo hi).2.1 = 0) : (nmX b n s lo hi : Int) ≤ hi := by
  have h9 := h
  unfold nmX
  rw [if_pos h]
  have h0 := nmS_f0 h
  unfold nmS at h
  rw [if_neg (by simpa using h0)] at h
  by_cases h1 : nE b n s.1 = bS b n s.1
  · rw [if_pos h1] at h; cases h
  · rw [if_neg h1] at h
    by_cases h2 : nV b n s.1 < lo ∨ hi < (nV b n s.1 : Int)
    · rw [if_pos h2] at h; cases h
    · omega
theorem nmX_le {b : By} {n : Nat} {s : Ps} {lo : Nat} {hi : Int} {m : Nat} (h1 : lo ≤ m) (h2 : hi ≤ (m : Int)) : nmX b n s lo hi ≤ m := by
  by_cases h : (nmS b n s lo hi).2.1 = 0
  · have := nmX_hi h; omega
  · unfold nmX; rw [if_neg h]; exact h1
/-- several numbers, one behind the other -/
def nmT (b : By) (n : Nat) : List (Nat × Int) → Ps → Ps
  | [], s => s
  | q :: l, s => nmT b n l (nmS b n s q.1 q.2)
def nmY (b : By) (n : Nat) : List (Nat × Int) → Ps → Nat → Nat
  | [], _, _ => 0
  | q :: _, s, 0 => nmX b n s q.1 q.2
  | q :: l, s, j + 1 => nmY b n l (nmS b n s q.1 q.2) j
/-! what a clause does to the sky -/
def kSet (k : Sk) (i v : Nat) : Sk := (fun j => if j = i then v else kT k j, k.2)
def kPw (k : Sk) (r : Nat → Nat) : Sk := (fun j => if j = 10 then kT k 10 + 1 else kT k j, fun i j => if i = kT k 10 then r j else kW k i j, kC k, kF k, kI k)
def kPc (k : Sk) (r : Nat → Nat) : Sk := (fun j => if j = 2 then kT k 2 + 1 else kT k j, kW k, fun i j => if i = kT k 2 then r j else kC k i j, kF k, kI k)
def kPf (k : Sk) (r : Nat → Nat) : Sk := (fun j => if j = 3 then kT k 3 + 1 else kT k j, kW k, kC k, fun i j => if i = kT k 3 then r j else kF k i j, kI k)
def kPi (k : Sk) (r : Nat → Nat) : Sk := (fun j => if j = 4 then kT k 4 + 1 else kT k j, kW k, kC k, kF k, fun i j => if i = kT k 4 then r j else kI k i j)
def kSn (k : Sk) (c o m : Nat) : Sk := (kT k, kW k, fun i j => if i = c ∧ j = 5 then o else if i = c ∧ j = 6 then m else kC k i j, kF k, kI k)
/-- the place is taken, by one of the first n rows -/
def hasF (f : Nat → Nat → Nat) (x y : Nat) : Nat → Bool
  | 0 => false
  | n + 1 => hasF f x y n || decide (f n 0 = x ∧ f n 1 = y)
theorem hasF_t {f : Nat → Nat → Nat} {x y : Nat} : ∀ {n}, hasF f x y n = true ↔ ∃ i, i < n ∧ f i 0 = x ∧ f i 1 = y
  | 0 => ⟨(fun h => by cases h), fun ⟨i, h, _⟩ => absurd h (Nat.not_lt_zero i)⟩
  | n + 1 => by
    rw [hasF, Bool.or_eq_true, hasF_t (n := n), decide_eq_true_eq]
    constructor
    · rintro (⟨i, h1, h2⟩ | h)
      · exact ⟨i, by omega, h2⟩
      · exact ⟨n, by omega, h⟩
    · rintro ⟨i, h1, h2⟩
      by_cases e : i = n
      · rw [e] at h2; exact Or.inr h2
      · exact Or.inl ⟨i, by omega, h2⟩
abbrev qlW : List (Nat × Int) := [(0, 2), (0, 49), (0, 2), (0, 2)]
abbrev qlC (k : Sk) : List (Nat × Int) := [(0, (kT k 0 : Int) - 1), (0, (kT k 1 : Int) - 1), (0, 2), (0, 49), (1, 999)]
abbrev qlS (k : Sk) : List (Nat × Int) := [(0, (kT k 2 : Int) - 1), (0, 6), (0, 999)]
abbrev qlF (k : Sk) : List (Nat × Int) := [(0, (kT k 0 : Int) - 1), (0, (kT k 1 : Int) - 1)]
abbrev qlFb : List (Nat × Int) := [(0, 6), (0, 99), (0, 99), (0, 9)]
abbrev qlI (k : Sk) : List (Nat × Int) := [(0, (kT k 0 : Int) - 1), (0, (kT k 1 : Int) - 1 - 1)]
abbrev qlIb : List (Nat × Int) := [(0, 49)]
/-- a second one of a cell: a fault at Y -/
def twA (b : By) (n : Nat) (s : Ps) (l : List (Nat × Int)) (h : Bool) : Ps := if h = true then faA (nmT b n l s) 2 (bS b n (nmS b n s (l.headD (0, 0)).1 (l.headD (0, 0)).2).1) else nmT b n l s
def rdF1 (b : By) (n : Nat) (s : Ps) (k : Sk) : Ps := twA b n s (qlF k) (hasF (kF k) (nmY b n (qlF k) s 0) (nmY b n (qlF k) s 1) (kT k 3))
def rdI1 (b : By) (n : Nat) (s : Ps) (k : Sk) : Ps := twA b n s (qlI k) (hasF (kI k) (nmY b n (qlI k) s 0) (nmY b n (qlI k) s 1) (kT k 4))
def rwC (b : By) (n : Nat) (s : Ps) (k : Sk) : Nat → Nat := fun j => if j = 5 then 7 else if j = 6 then 1000 else nmY b n (qlC k) s j
def rwF (b : By) (n : Nat) (s : Ps) (k : Sk) : Nat → Nat := fun j => if j < 2 then nmY b n (qlF k) s j else nmY b n qlFb (rdF1 b n s k) (j - 2)
def rwG (b : By) (n : Nat) (s : Ps) (k : Sk) : Nat → Nat := fun j => if j < 2 then nmY b n (qlI k) s j else nmY b n qlIb (rdI1 b n s k) (j - 2)
/-- one number of the facts: which, from, to -/
def fT : Nat → Nat × Nat × Int
  | 6 => (5, 0, 2)
  | 7 => (6, 1, 99)
  | 8 => (7, 1, 999)
  | 9 => (8, 1, 99)
  | _ => (9, 0, 9)
/-- the numbers behind a word: 0 sky, 1 wind, 2 cloud, 3 seen, 4 field, 5 glacier, 6 join, 7 rate, 8 hold, 9 hail, 10 flood -/
def rdS (b : By) (n w : Nat) (s : Ps) (k : Sk) : Ps := match w with
  | 0 => nmT b n [(2, 8), (2, 8)] s
  | 1 => nmT b n qlW s
  | 2 => nmT b n (qlC k) s
  | 3 => nmT b n (qlS k) s
  | 4 => nmT b n qlFb (rdF1 b n s k)
  | 5 => nmT b n qlIb (rdI1 b n s k)
  | w => nmS b n s (fT w).2.1 (fT w).2.2
def rdK (b : By) (n w : Nat) (s : Ps) (k : Sk) : Sk := match w with
  | 0 => kSet (kSet k 0 (nmY b n [(2, 8), (2, 8)] s 0)) 1 (nmY b n [(2, 8), (2, 8)] s 1)
  | 1 => kPw k (nmY b n qlW s)
  | 2 => kPc k (rwC b n s k)
  | 3 => if nmY b n (qlS k) s 2 < kC k (nmY b n (qlS k) s 0) 6 then kSn k (nmY b n (qlS k) s 0) (nmY b n (qlS k) s 1) (nmY b n (qlS k) s 2) else k
  | 4 => kPf k (rwF b n s k)
  | 5 => kPi k (rwG b n s k)
  | w => kSet k (fT w).1 (nmX b n s (fT w).2.1 (fT w).2.2)
/-- no room for one more of these -/
def fuA (k : Sk) : Nat → Bool
  | 1 => decide (9 ≤ kT k 10)
  | 2 => decide (8 ≤ kT k 2)
  | 4 => decide (12 ≤ kT k 3)
  | 5 => decide (3 ≤ kT k 4)
  | _ => false
/-- the letters from i on, m of them -/
def ltA (b : By) (i m : Nat) : List Nat := (List.range m).map fun j => b (i + j)
/-- the tag of a word's text -/
def wT : Nat → Nat
  | 0 => 14
  | 1 => 15
  | 2 => 2
  | 3 => 13
  | 4 => 3
  | 5 => 5
  | 6 => 8
  | 7 => 12
  | 8 => 7
  | 9 => 6
  | _ => 4
/-- the word that stands at i, of the last m -/
def woR (l : List Nat) : Nat → Option Nat
  | 0 => none
  | m + 1 => if l = ow_ch (wT (10 - m)) then some (10 - m) else woR l m
def woA (b : By) (n i : Nat) : Option Nat := woR (ltA b i (wE b n i - i)) 11
/-- a clause at i, the c-th -/
def clS (b : By) (n c i : Nat) (k : Sk) : Ps := match woA b n i with
  | none => (0, 1, i)
  | some w => if 60 ≤ c ∨ fuA k w = true then (0, 3, i) else if w = 0 ∧ 0 < c then (0, 4, i) else enA b n (rdS b n w (wE b n i, 0, 0) k)
def clK (b : By) (n c i : Nat) (k : Sk) : Sk := match woA b n i with
  | none => k
  | some w => if 60 ≤ c ∨ fuA k w = true then k else if w = 0 ∧ 0 < c then k else rdK b n w (wE b n i, 0, 0) k
/-- all clauses from the c-th on, m at most -/
def goS (b : By) (n : Nat) : Nat → Nat → Ps → Sk → Ps × Sk
  | 0, _, s, k => (s, k)
  | m + 1, c, s, k => if s.2.1 = 0 ∧ s.1 < n then goS b n m (c + 1) (bS b n (clS b n c s.1 k).1, (clS b n c s.1 k).2) (clK b n c s.1 k) else (s, k)
/-- a sky of no clauses -/
def k0 : Sk := (fun j => if j = 0 then 6 else if j = 1 then 5 else if j = 6 then 20 else if j = 7 then 999 else if j = 8 then 50 else if j = 9 then 1 else 0, fun _ _ => 0, fun _ _ => 0, fun _ _ => 0, fun _ _ => 0)
def skR (b : By) (n : Nat) : Ps × Sk := goS b n 61 0 (bS b n 0, 0, 0) k0
