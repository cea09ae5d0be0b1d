/-! what the written proofs use: values by equations -/
theorem ltN {x y : Int32} {a b : Nat} (p : x = nI a) (q : y = nI b) (ha : a < 2 ^ 31) (hb : b < 2 ^ 31) : x < y ↔ a < b := by subst p; subst q; rw [nI_ltI ha hb]
theorem leN {x y : Int32} {a b : Nat} (p : x = nI a) (q : y = nI b) (ha : a < 2 ^ 31) (hb : b < 2 ^ 31) : x ≤ y ↔ a ≤ b := by subst p; subst q; rw [nI_leI ha hb]
theorem eqN {x y : Int32} {a b : Nat} (p : x = nI a) (q : y = nI b) (ha : a < 2 ^ 31) (hb : b < 2 ^ 31) : x = y ↔ a = b := by subst p; subst q; exact nI_eq ha hb
theorem ltZ {x y : Int32} {a b : Int} (p : x = iZ a) (q : y = iZ b) (h1 : -1000000 ≤ a) (h2 : a ≤ 1000000) (h3 : -1000000 ≤ b) (h4 : b ≤ 1000000) : x < y ↔ a < b := by subst p; subst q; exact iZ_lt h1 h2 h3 h4
theorem leZ {x y : Int32} {a b : Int} (p : x = iZ a) (q : y = iZ b) (h1 : -1000000 ≤ a) (h2 : a ≤ 1000000) (h3 : -1000000 ≤ b) (h4 : b ≤ 1000000) : x ≤ y ↔ a ≤ b := by subst p; subst q; exact iZ_le h1 h2 h3 h4
theorem eqZ {x y : Int32} {a b : Int} (p : x = iZ a) (q : y = iZ b) (h1 : -1000000 ≤ a) (h2 : a ≤ 1000000) (h3 : -1000000 ≤ b) (h4 : b ≤ 1000000) : x = y ↔ a = b := by subst p; subst q; exact iZ_eq h1 h2 h3 h4
theorem ntZ {x : Int32} {a : Nat} (p : x = nI a) : x = iZ (a : Int) := p.trans (iZ_nat a).symm
theorem m1Z : (-1 : Int32) = iZ (-1) := by decide
theorem ngZ {x : Int32} {a : Int} (p : x = iZ a) : -x = iZ (-a) := by subst p; exact (Int32.ofInt_neg a).symm
theorem adZ {x y : Int32} {a b : Int} (p : x = iZ a) (q : y = iZ b) : x + y = iZ (a + b) := by subst p; subst q; exact iZ_add a b
theorem sbZ {x y : Int32} {a b : Int} (p : x = iZ a) (q : y = iZ b) : x - y = iZ (a - b) := by subst p; subst q; exact iZ_sub a b
theorem mlZ {x y : Int32} {a b : Int} (p : x = iZ a) (q : y = iZ b) : x * y = iZ (a * b) := by subst p; subst q; exact (Int32.ofInt_mul a b).symm
theorem zN {x : Int32} {a : Int} (p : x = iZ a) (h : 0 ≤ a) : x = nI a.toNat := by rw [p, ← iZ_nat, Int.toNat_of_nonneg h]
theorem adE {x y : Int32} {a b : Nat} (p : x = nI a) (q : y = nI b) : x + y = nI (a + b) := by subst p; subst q; exact nI_add a b
theorem sbE {x y : Int32} {a b : Nat} (p : x = nI a) (q : y = nI b) (h : b ≤ a) : x - y = nI (a - b) := by subst p; subst q; exact nI_sub h
theorem mlE {x y : Int32} {a b : Nat} (p : x = nI a) (q : y = nI b) : x * y = nI (a * b) := by subst p; subst q; exact nI_mul a b
theorem dvE {x y : Int32} {a b : Nat} (p : x = nI a) (q : y = nI b) (ha : a < 2 ^ 31) (hb : b < 2 ^ 31) : x / y = nI (a / b) := by
  subst p; subst q
  apply Int32.toInt_inj.mp
  have hd : a / b ≤ a := Nat.div_le_self a b
  rw [Int32.toInt_div_of_ne_left _ _ (by intro z; have := congrArg Int32.toInt z; rw [nI_toInt ha] at this; revert this; rw [show (Int32.minValue).toInt = -2147483648 from rfl]; omega), nI_toInt ha, nI_toInt hb, nI_toInt (by omega)]
  exact (Int.ofNat_tdiv a b).symm
theorem rmE {x y : Int32} {a b : Nat} (p : x = nI a) (q : y = nI b) (ha : a < 2 ^ 31) (hb : b < 2 ^ 31) : x - x / y * y = nI (a % b) := by
  rw [dvE p q ha hb, p, q, nI_mul, nI_sub (by have := Nat.div_mul_le_self a b; exact this)]
  congr 1
  have := Nat.div_add_mod a b
  rw [Nat.mul_comm] at this
  omega
theorem minE {x y : Int32} {a b : Nat} (p : x = nI a) (q : y = nI b) (ha : a < 2 ^ 31) (hb : b < 2 ^ 31) : (if y < x then y else x) = nI (min a b) := by
  subst p; subst q
  by_cases h : b < a
  · rw [if_pos (nI_lt h ha), Nat.min_eq_right (by omega)]
  · rw [if_neg (nI_nlt (by omega) hb), Nat.min_eq_left (by omega)]
theorem maxE {x y : Int32} {a b : Nat} (p : x = nI a) (q : y = nI b) (ha : a < 2 ^ 31) (hb : b < 2 ^ 31) : (if x < y then y else x) = nI (max a b) := by
  subst p; subst q
  by_cases h : a < b
  · rw [if_pos (nI_lt h hb), Nat.max_eq_right (by omega)]
  · rw [if_neg (nI_nlt (by omega) ha), Nat.max_eq_left (by omega)]
theorem clE {x : Int32} {j : Nat} (p : x = nI j) (h : j < 2 ^ 31) : x.toNatClampNeg = j := by subst p; exact nI_cl h
theorem ldE {σ : Mem} {q j : Nat} {x y : Int32} (p : x = nI j) (hj : j < 2 ^ 31) (h : rI σ q j = y) : rI σ q x.toNatClampNeg = y := by rw [clE p hj]; exact h
theorem wrE {σ : Mem} {q j : Nat} {x y y' : Int32} (p : x = nI j) (hj : j < 2 ^ 31) (h : y = y') : wI σ q x.toNatClampNeg y = wI σ q j y' := by rw [clE p hj, h]
theorem rwE {q j : Nat} {x : Int32} (p : x = nI j) (hj : j < 2 ^ 31) : q + 1 + x.toNatClampNeg = q + 1 + j := by rw [clE p hj]
theorem nar_bI (b : Bool) : vp_nar .boolean (bI b) = bI b := by cases b <;> rfl
theorem wrB {σ : Mem} {q j : Nat} {x : Int32} {b : Bool} (p : x = nI j) (hj : j < 2 ^ 31) : wI σ q x.toNatClampNeg (vp_nar .boolean (bI b)) = wI σ q j (bI b) := by rw [clE p hj, nar_bI]
theorem aOKx {σ : Mem} {a kd n j : Nat} {x : Int32} (p : x = nI j) (h : a < ow_n0) (hk : kS a = kd) (hl : lS a = n) (hj : j < n) (hn : n < 2 ^ 31) : aOK true σ a kd x := by subst p; exact aOK_t h hk hl hj hn
theorem retE {P : Option AV → Mem → Prop} {σ : Mem} {x y : Int32} (h : x = y) (hP : P (some (.int y)) σ) : P (some (.int x)) σ := by rw [h]; exact hP
