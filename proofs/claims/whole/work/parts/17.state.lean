/-! THE ABSTRACT STATE, and how both sides hold it -/
/-- rows of numbers: how many, and their places -/
abbrev Tb : Type := Nat × (Nat → Nat → Nat)
/-- told (0 W, 1 H, 2 clouds, 3 fields, 4 glaciers, 5 law, 6 rate, 7 hold, 8 hail, 9 flood, 10 winds), winds, clouds, fields, glaciers -/
abbrev Sk : Type := (Nat → Nat) × (Nat → Nat → Nat) × (Nat → Nat → Nat) × (Nat → Nat → Nat) × (Nat → Nat → Nat)
def kT (s : Sk) : Nat → Nat := s.1
def kW (s : Sk) : Nat → Nat → Nat := s.2.1
def kC (s : Sk) : Nat → Nat → Nat := s.2.2.1
def kF (s : Sk) : Nat → Nat → Nat := s.2.2.2.1
def kI (s : Sk) : Nat → Nat → Nat := s.2.2.2.2
/-- orders, bids, gauges -/
abbrev Bk : Type := Tb × Tb × Tb
/-- tape: how many bytes, the bytes; the fault's place; the sky; the book; images -/
abbrev St : Type := Nat × (Nat → Nat) × Int32 × Sk × Bk × Nat × (Nat → Bk)
def aTc (A : St) : Nat := A.1
def aTp (A : St) : Nat → Nat := A.2.1
def aPl (A : St) : Int32 := A.2.2.1
def aSk (A : St) : Sk := A.2.2.2.1
def aBk (A : St) : Bk := A.2.2.2.2.1
def aIn (A : St) : Nat := A.2.2.2.2.2.1
def aIm (A : St) : Nat → Bk := A.2.2.2.2.2.2
/-- the least a number can be (of a wind's hour and so on) stands in the words of the document -/
def VS (s : Sk) : Prop :=
  (2 ≤ kT s 0 ∧ kT s 0 ≤ 8) ∧ (2 ≤ kT s 1 ∧ kT s 1 ≤ 8) ∧ kT s 2 ≤ 8 ∧ kT s 3 ≤ 12 ∧ kT s 4 ≤ 3 ∧ kT s 5 ≤ 2 ∧ (1 ≤ kT s 6 ∧ kT s 6 ≤ 99) ∧ (1 ≤ kT s 7 ∧ kT s 7 ≤ 999) ∧ (1 ≤ kT s 8 ∧ kT s 8 ≤ 99) ∧ kT s 9 ≤ 9 ∧ kT s 10 ≤ 9 ∧
  (∀ k, k < kT s 10 → kW s k 0 ≤ 2 ∧ kW s k 1 ≤ 49 ∧ kW s k 2 ≤ 2 ∧ kW s k 3 ≤ 2) ∧
  (∀ k, k < kT s 2 → kC s k 0 < kT s 0 ∧ kC s k 1 < kT s 1 ∧ kC s k 2 ≤ 2 ∧ kC s k 3 ≤ 49 ∧ (1 ≤ kC s k 4 ∧ kC s k 4 ≤ 999) ∧ kC s k 5 ≤ 7 ∧ kC s k 6 ≤ 1000) ∧
  (∀ k, k < kT s 3 → kF s k 0 < kT s 0 ∧ kF s k 1 < kT s 1 ∧ kF s k 2 ≤ 6 ∧ kF s k 3 ≤ 99 ∧ kF s k 4 ≤ 99 ∧ kF s k 5 ≤ 9) ∧
  (∀ k, k < kT s 4 → kI s k 0 < kT s 0 ∧ kI s k 1 + 1 < kT s 1 ∧ kI s k 2 ≤ 49) ∧
  (∀ k j, k < kT s 3 → j < kT s 3 → kF s k 0 = kF s j 0 → kF s k 1 = kF s j 1 → k = j) ∧
  (∀ k j, k < kT s 4 → j < kT s 4 → kI s k 0 = kI s j 0 → kI s k 1 = kI s j 1 → k = j)
def VB (s : Sk) (b : Bk) : Prop :=
  b.1.1 ≤ 30 ∧ b.2.1.1 ≤ 8 ∧ b.2.2.1 ≤ 9 ∧
  (∀ k, k < b.1.1 → b.1.2 k 0 < 50 ∧ b.1.2 k 1 < kT s 2 ∧ b.1.2 k 2 ≤ 2 ∧ b.1.2 k 3 ≤ 999 ∧ (b.1.2 k 2 = 0 → 1 ≤ b.1.2 k 3) ∧ (b.1.2 k 2 = 1 → b.1.2 k 3 ≤ 8) ∧ (b.1.2 k 2 = 2 → b.1.2 k 3 = 0)) ∧
  (∀ k, k < b.2.1.1 → b.2.1.2 k 0 ≤ 6 ∧ (1 ≤ b.2.1.2 k 1 ∧ b.2.1.2 k 1 ≤ 999) ∧ b.2.1.2 k 2 ≤ 99) ∧
  (∀ k, k < b.2.2.1 → b.2.2.2 k 0 < kT s 0 ∧ b.2.2.2 k 1 < kT s 1 ∧ b.2.2.2 k 2 ≤ 9999) ∧
  (∀ k j, k < b.2.2.1 → j < b.2.2.1 → b.2.2.2 k 0 = b.2.2.2 j 0 → b.2.2.2 k 1 = b.2.2.2 j 1 → k = j)
def VA (A : St) : Prop := aTc A ≤ 600 ∧ (∀ j, j < aTc A → aTp A j < 256) ∧ VS (aSk A) ∧ VB (aSk A) (aBk A) ∧ aIn A ≤ 3 ∧ ∀ i, i < aIn A → VB (aSk A) (aIm A i)
/-! the component's side -/
/-- a table object o with its numbers at a holds the rows -/
def tbR (σ : Mem) (o a wd : Nat) (t : Tb) : Prop := rI σ o 3 = nI t.1 ∧ ∀ k, k < t.1 → ∀ i, i < wd → rI σ a (k * wd + i) = nI (t.2 k i)
def bkC (σ : Mem) (o : Nat) (b : Bk) : Prop := tbR σ o (o + 1) 4 b.1 ∧ tbR σ (o + 2) (o + 3) 3 b.2.1 ∧ tbR σ (o + 4) (o + 5) 3 b.2.2
/-- no wind told yet, or one of no later hour -/
def lateB (s : Sk) (n : Nat) : Option Nat → Bool
  | none => true
  | some b => decide (kW s b 1 ≤ kW s n 1)
/-- the wind told last of the latest hour up to h, of the first n -/
def wOf (s : Sk) (z h : Nat) : Nat → Option Nat
  | 0 => none
  | n + 1 => if (decide (kW s n 0 = z ∧ kW s n 1 ≤ h) && lateB s n (wOf s z h n)) = true then some n else wOf s z h n
/-- how a cloud at height z goes in hour h, across (way 0) or down (1) -/
def blw (s : Sk) (z h way : Nat) : Int := match wOf s z h (kT s 10) with
  | none => 0
  | some k => (kW s k (2 + way) : Int) - 1
def isInB (s : Sk) (x y : Int) : Bool := decide (0 ≤ x ∧ x < kT s 0 ∧ 0 ≤ y ∧ y < kT s 1)
/-- where a cloud alone is in an hour -/
def ps (s : Sk) (k : Nat) : Nat → Option (Nat × Nat)
  | 0 => if kC s k 3 = 0 then some (kC s k 0, kC s k 1) else none
  | h + 1 => if h + 1 = kC s k 3 then some (kC s k 0, kC s k 1) else match ps s k h with
    | none => none
    | some q => if isInB s ((q.1 : Int) + blw s (kC s k 2) (h + 1) 0) ((q.2 : Int) + blw s (kC s k 2) (h + 1) 1) = true then some (((q.1 : Int) + blw s (kC s k 2) (h + 1) 0).toNat, ((q.2 : Int) + blw s (kC s k 2) (h + 1) 1).toNat) else none
def tr (s : Sk) (k h : Nat) : Int32 := match ps s k h with
  | none => -1
  | some q => nI (8 * q.2 + q.1)
/-- a sky: facts row, then winds, clouds, fields, glaciers, trails -/
def skC (σ : Mem) (f : Nat) (s : Sk) : Prop :=
  (∀ i, (i = 0 ∨ i = 1 ∨ (5 ≤ i ∧ i ≤ 9)) → rI σ (f + 1) i = nI (kT s i)) ∧
  tbR σ (f + 2) (f + 3) 4 (kT s 10, kW s) ∧ tbR σ (f + 4) (f + 5) 7 (kT s 2, kC s) ∧ tbR σ (f + 6) (f + 7) 6 (kT s 3, kF s) ∧ tbR σ (f + 8) (f + 9) 3 (kT s 4, kI s) ∧
  ∀ k, k < kT s 2 → ∀ h, h < 50 → rI σ (f + 11) (k * 50 + h) = tr s k h
def IC (A : St) (σ : Mem) : Prop :=
  ow_n0 ≤ mN σ ∧ rI σ 0 1 = nI (aTc A) ∧ (∀ j, j < aTc A → rI σ 2 j = nI (aTp A j)) ∧ rI σ 0 4 = aPl A ∧ skC σ 4 (aSk A) ∧ bkC σ 31 (aBk A) ∧ rI σ 0 7 = nI (aIn A) ∧ ∀ i, i < aIn A → bkC σ (39 + 7 * i) (aIm A i)
/-! the model's side -/
/-- rows of an int[][] at a, how many in field f -/
def rwR (σ : Mem) (f a wd : Nat) (t : Tb) : Prop := rI σ 108 f = nI t.1 ∧ ∀ k, k < t.1 → ∀ i, i < wd → rI σ (a + 1 + k) i = nI (t.2 k i)
def bkM (σ : Mem) (b : Bk) : Prop := rwR σ 19 184 4 b.1 ∧ rwR σ 20 215 3 b.2.1 ∧ rwR σ 21 224 3 b.2.2
/-- a book laid out in one row -/
def bkK (σ : Mem) (a : Nat) (b : Bk) : Prop := rI σ a 0 = nI b.1.1 ∧ rI σ a 1 = nI b.2.1.1 ∧ rI σ a 2 = nI b.2.2.1 ∧
  (∀ k, k < b.1.1 → ∀ i, i < 4 → rI σ a (3 + (k * 4 + i)) = nI (b.1.2 k i)) ∧ (∀ k, k < b.2.1.1 → ∀ i, i < 3 → rI σ a (123 + (k * 3 + i)) = nI (b.2.1.2 k i)) ∧ (∀ k, k < b.2.2.1 → ∀ i, i < 3 → rI σ a (147 + (k * 3 + i)) = nI (b.2.2.2 k i))
def skM (σ : Mem) (s : Sk) : Prop :=
  (∀ i, i < 11 → rI σ 111 i = nI (kT s i)) ∧ (∀ k, k < kT s 10 → ∀ i, i < 4 → rI σ (123 + k) i = nI (kW s k i)) ∧ (∀ k, k < kT s 2 → ∀ i, i < 7 → rI σ (142 + k) i = nI (kC s k i)) ∧
  (∀ k, k < kT s 3 → ∀ i, i < 6 → rI σ (164 + k) i = nI (kF s k i)) ∧ ∀ k, k < kT s 4 → ∀ i, i < 3 → rI σ (181 + k) i = nI (kI s k i)
def IM (A : St) (σ : Mem) : Prop :=
  ow_n0 ≤ mN σ ∧ rI σ 108 1 = nI (aTc A) ∧ (∀ j, j < aTc A → rI σ 109 j = nI (aTp A j)) ∧ rI σ 108 3 = aPl A ∧ skM σ (aSk A) ∧ bkM σ (aBk A) ∧ rI σ 108 22 = nI (aIn A) ∧ ∀ i, i < aIn A → bkK σ (235 + i) (aIm A i)
/-! what a call of one side leaves alone -/
def frC (σ σ' : Mem) : Prop := (∀ a, 108 ≤ a → a < 368 → ∀ j, rI σ' a j = rI σ a j) ∧ (∀ j, rL σ' 367 j = rL σ 367 j) ∧ mN σ ≤ mN σ'
def frM (σ σ' : Mem) : Prop := (∀ a, a < 108 → ∀ j, rI σ' a j = rI σ a j) ∧ (∀ a, a < 368 → ∀ j, rL σ' a j = rL σ a j) ∧ mN σ ≤ mN σ'
theorem IM.frame {A : St} {σ σ' : Mem} (h : IM A σ) (hf : frC σ σ') (hv : VA A) : IM A σ' := by
  obtain ⟨h1, h2, h3, h4, h5, h6, h7, h8⟩ := h
  obtain ⟨v1, v2, v3, v4, v5, v6⟩ := hv
  obtain ⟨s1, s2, s3, s4, s5, -, -, -, -, -, s6, -⟩ := v3
  obtain ⟨b1, b2, b3, -⟩ := v4
  have f := fun a q1 q2 j => hf.1 a q1 q2 j
  refine ⟨Nat.le_trans h1 hf.2.2, by rw [f 108 (by omega) (by omega)]; exact h2, fun j hj => by rw [f 109 (by omega) (by omega)]; exact h3 j hj, by rw [f 108 (by omega) (by omega)]; exact h4, ?_, ?_, by rw [f 108 (by omega) (by omega)]; exact h7, fun i hi => ?_⟩
  · obtain ⟨k1, k2, k3, k4, k5⟩ := h5
    exact ⟨fun i hi => by rw [f 111 (by omega) (by omega)]; exact k1 i hi, fun k hk i hi => by rw [f (123 + k) (by omega) (by omega)]; exact k2 k hk i hi, fun k hk i hi => by rw [f (142 + k) (by omega) (by omega)]; exact k3 k hk i hi,
      fun k hk i hi => by rw [f (164 + k) (by omega) (by omega)]; exact k4 k hk i hi, fun k hk i hi => by rw [f (181 + k) (by omega) (by omega)]; exact k5 k hk i hi⟩
  · obtain ⟨k1, k2, k3⟩ := h6
    exact ⟨⟨by rw [f 108 (by omega) (by omega)]; exact k1.1, fun k hk i hi => by rw [f (184 + 1 + k) (by omega) (by omega)]; exact k1.2 k hk i hi⟩, ⟨by rw [f 108 (by omega) (by omega)]; exact k2.1, fun k hk i hi => by rw [f (215 + 1 + k) (by omega) (by omega)]; exact k2.2 k hk i hi⟩,
      ⟨by rw [f 108 (by omega) (by omega)]; exact k3.1, fun k hk i hi => by rw [f (224 + 1 + k) (by omega) (by omega)]; exact k3.2 k hk i hi⟩⟩
  · obtain ⟨k1, k2, k3, k4, k5, k6⟩ := h8 i hi
    have g := f (235 + i) (by omega) (by omega)
    exact ⟨by rw [g]; exact k1, by rw [g]; exact k2, by rw [g]; exact k3, fun k hk i hi => by rw [g]; exact k4 k hk i hi, fun k hk i hi => by rw [g]; exact k5 k hk i hi, fun k hk i hi => by rw [g]; exact k6 k hk i hi⟩
theorem tbR.frame {σ σ' : Mem} {o a wd : Nat} {t : Tb} (h : tbR σ o a wd t) (h1 : ∀ j, rI σ' o j = rI σ o j) (h2 : ∀ j, rI σ' a j = rI σ a j) : tbR σ' o a wd t := ⟨by rw [h1]; exact h.1, fun k hk i hi => by rw [h2]; exact h.2 k hk i hi⟩
theorem IC.frame {A : St} {σ σ' : Mem} (h : IC A σ) (hf : frM σ σ') (hv : VA A) : IC A σ' := by
  obtain ⟨h1, h2, h3, h4, h5, h6, h7, h8⟩ := h
  obtain ⟨v1, v2, v3, v4, v5, v6⟩ := hv
  have f := fun a q1 j => hf.1 a q1 j
  refine ⟨Nat.le_trans h1 hf.2.2, by rw [f 0 (by omega)]; exact h2, fun j hj => by rw [f 2 (by omega)]; exact h3 j hj, by rw [f 0 (by omega)]; exact h4, ?_, ?_, by rw [f 0 (by omega)]; exact h7, fun i hi => ?_⟩
  · obtain ⟨k1, k2, k3, k4, k5, k6⟩ := h5
    exact ⟨fun i hi => by rw [f (4 + 1) (by omega)]; exact k1 i hi, k2.frame (f _ (by omega)) (f _ (by omega)), k3.frame (f _ (by omega)) (f _ (by omega)), k4.frame (f _ (by omega)) (f _ (by omega)), k5.frame (f _ (by omega)) (f _ (by omega)), fun k hk h hh => by rw [f (4 + 11) (by omega)]; exact k6 k hk h hh⟩
  · obtain ⟨k1, k2, k3⟩ := h6
    exact ⟨k1.frame (f _ (by omega)) (f _ (by omega)), k2.frame (f _ (by omega)) (f _ (by omega)), k3.frame (f _ (by omega)) (f _ (by omega))⟩
  · obtain ⟨k1, k2, k3⟩ := h8 i hi
    exact ⟨k1.frame (f _ (by omega)) (f _ (by omega)), k2.frame (f _ (by omega)) (f _ (by omega)), k3.frame (f _ (by omega)) (f _ (by omega))⟩
