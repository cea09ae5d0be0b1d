/-! THE MARKET, as numbers: m how many each bid wants, pr its price, n bids, W water -/
/-- the sum of f over those of the first n of which q holds -/
def sP (f : Nat → Nat) (q : Nat → Bool) : Nat → Nat
  | 0 => 0
  | n + 1 => sP f q n + if q n = true then f n else 0
theorem sP_congr (f : Nat → Nat) {q r : Nat → Bool} : ∀ n, (∀ j, j < n → q j = r j) → sP f q n = sP f r n
  | 0, _ => rfl
  | n + 1, h => by rw [sP, sP, sP_congr f n (fun j hj => h j (by omega)), h n (by omega)]
theorem sP_ins (f : Nat → Nat) {q r : Nat → Bool} {i : Nat} (hq : q i = false) (hr : r i = true) (h : ∀ j, j ≠ i → r j = q j) : ∀ n, i < n → sP f r n = sP f q n + f i
  | 0, hi => by omega
  | n + 1, hi => by
    rw [sP, sP]
    by_cases e : i = n
    · subst e
      rw [sP_congr f i (fun j hj => h j (by omega)), hr, hq, if_pos rfl, if_neg (by decide)]
      omega
    · rw [sP_ins f hq hr h n (by omega), h n (fun z => e z.symm)]
      omega
/-- j is served before i -/
def befB (pr : Nat → Nat) (i j : Nat) : Bool := decide (pr i < pr j ∨ (pr j = pr i ∧ j < i))
/-- what bid i gets -/
def gA (m pr : Nat → Nat) (n W i : Nat) : Nat := min (m i) (W - sP m (befB pr i) n)
/-- the most price of those of the first k that are in q and get less than they want -/
def mPr (m pr : Nat → Nat) (n W : Nat) (q : Nat → Bool) : Nat → Nat
  | 0 => 0
  | k + 1 => max (mPr m pr n W q k) (if (q k && decide (gA m pr n W k < m k)) = true then pr k else 0)
theorem mPr_congr (m pr : Nat → Nat) (n W : Nat) {q r : Nat → Bool} : ∀ k, (∀ j, j < k → q j = r j) → mPr m pr n W q k = mPr m pr n W r k
  | 0, _ => rfl
  | k + 1, h => by rw [mPr, mPr, mPr_congr m pr n W k (fun j hj => h j (by omega)), h k (by omega)]
theorem mPr_ins (m pr : Nat → Nat) (n W : Nat) {q r : Nat → Bool} {i : Nat} (hq : q i = false) (hr : r i = true) (h : ∀ j, j ≠ i → r j = q j) : ∀ k, i < k → mPr m pr n W r k = max (mPr m pr n W q k) (if gA m pr n W i < m i then pr i else 0)
  | 0, hi => by omega
  | k + 1, hi => by
    rw [mPr, mPr]
    by_cases e : i = k
    · subst e
      rw [mPr_congr m pr n W i (fun j hj => h j (by omega)), hr, hq]
      by_cases z : gA m pr n W i < m i
      · rw [if_pos z, if_pos (by rw [decide_eq_true z]; rfl), if_neg (by simp)]; omega
      · rw [if_neg z, if_neg (by rw [decide_eq_false z]; decide), if_neg (by simp)]; omega
    · rw [mPr_ins m pr n W hq hr h k (by omega), h k (fun z => e z.symm)]
      omega
/-- served by the model: all of price P and more, and the first i of price P - 1 -/
def svM (pr : Nat → Nat) (P i j : Nat) : Bool := decide (P ≤ pr j ∨ (pr j + 1 = P ∧ j < i))
theorem svM_bef {pr : Nat → Nat} {P i : Nat} (h : pr i + 1 = P) : svM pr P i = befB pr i := by
  funext j
  unfold svM befB
  exact decide_eq_decide.mpr (by omega)
theorem svM_skip {pr : Nat → Nat} {P i : Nat} (h : ¬ pr i + 1 = P) : svM pr P (i + 1) = svM pr P i := by
  funext j
  unfold svM
  refine decide_eq_decide.mpr ⟨fun z => ?_, fun z => by omega⟩
  rcases z with z | z
  · exact Or.inl z
  · by_cases e : j = i
    · subst e; exact absurd z.1 h
    · exact Or.inr ⟨z.1, by omega⟩
theorem svM_in {pr : Nat → Nat} {P i : Nat} (h : pr i + 1 = P) : svM pr P i i = false ∧ svM pr P (i + 1) i = true ∧ ∀ j, j ≠ i → svM pr P (i + 1) j = svM pr P i j :=
  ⟨decide_eq_false (by omega), decide_eq_true (by omega), fun j hj => decide_eq_decide.mpr (by omega)⟩
theorem svM_next {pr : Nat → Nat} {P n : Nat} : ∀ j, j < n → svM pr (P + 1) n j = svM pr P 0 j := fun j hj => decide_eq_decide.mpr (by omega)
