/-! WAYS to EXPLAIN: how many, and which clouds fell in all of them -/
theorem an1 (x : Int32) : x &&& -1 = x := Int32.toBitVec_inj.mp (by rw [Int32.toBitVec_and, show (-1 : Int32).toBitVec = BitVec.allOnes 32 by decide, BitVec.and_allOnes])
theorem an_a (a b c : Int32) : (a &&& b) &&& c = a &&& (b &&& c) := Int32.and_assoc a b c
theorem an_c (a b : Int32) : a &&& b = b &&& a := Int32.and_comm a b
theorem ad_a (a b c : Int32) : (a + b) + c = a + (b + c) := Int32.add_assoc a b c
theorem ad_0 (a : Int32) : a + nI 0 = a := Int32.add_zero a
def zr (l : Nat → Nat) : Nat → Bool
  | 0 => true
  | n + 1 => zr l n && decide (l n = 0)
def sb (l : Nat → Nat) (i x : Nat) : Nat → Nat := fun j => if j = i then l j - x else l j
def anI (f : Nat → Int32) : Nat → Int32
  | 0 => -1
  | n + 1 => anI f n &&& f n
def bitk (k : Nat) : Int32 := nI 1 <<< (nI k &&& 31)
def tk (ok : Nat → Nat → Bool) (q : Nat → Nat) (k : Nat) (l : Nat → Nat) (i : Nat) : Bool := ok k i && decide (q k ≤ l i)
def wy (G : Nat) (ok : Nat → Nat → Bool) (q : Nat → Nat) : Nat → Nat → (Nat → Nat) → Nat
  | 0, _, l => if zr l G = true then 1 else 0
  | m + 1, k, l => wy G ok q m (k + 1) l + sumN (fun i => if tk ok q k l i = true then wy G ok q m (k + 1) (sb l i (q k)) else 0) G
def sr (G : Nat) (ok : Nat → Nat → Bool) (q : Nat → Nat) : Nat → Nat → Int32 → (Nat → Nat) → Int32
  | 0, _, f, l => if zr l G = true then f else -1
  | m + 1, k, f, l => sr G ok q m (k + 1) f l &&& anI (fun i => if tk ok q k l i = true then sr G ok q m (k + 1) (f ||| bitk k) (sb l i (q k)) else -1) G
def wat (q : Nat → Nat) : Nat → Nat → Nat
  | 0, _ => 0
  | m + 1, k => q k + wat q m (k + 1)
theorem zr_iff (l : Nat → Nat) : ∀ n, zr l n = true ↔ ∀ i, i < n → l i = 0
  | 0 => ⟨fun _ i hi => absurd hi (Nat.not_lt_zero i), fun _ => rfl⟩
  | n + 1 => by
    rw [zr, Bool.and_eq_true, zr_iff l n, decide_eq_true_eq]
    constructor
    · intro h i hi
      by_cases e : i = n
      · rw [e]; exact h.2
      · exact h.1 i (by omega)
    · exact fun h => ⟨fun i hi => h i (by omega), h n (by omega)⟩
theorem sumN_congr {f g : Nat → Nat} : ∀ n, (∀ i, i < n → f i = g i) → sumN f n = sumN g n
  | 0, _ => rfl
  | n + 1, h => by rw [sumN, sumN, sumN_congr n (fun i hi => h i (by omega)), h n (by omega)]
theorem anI_congr {f g : Nat → Int32} : ∀ n, (∀ i, i < n → f i = g i) → anI f n = anI g n
  | 0, _ => rfl
  | n + 1, h => by rw [anI, anI, anI_congr n (fun i hi => h i (by omega)), h n (by omega)]
theorem sumN_zero {f : Nat → Nat} : ∀ n, (∀ i, i < n → f i = 0) → sumN f n = 0
  | 0, _ => rfl
  | n + 1, h => by rw [sumN, sumN_zero n (fun i hi => h i (by omega)), h n (by omega)]
theorem anI_m1 {f : Nat → Int32} : ∀ n, (∀ i, i < n → f i = -1) → anI f n = -1
  | 0, _ => rfl
  | n + 1, h => by rw [anI, anI_m1 n (fun i hi => h i (by omega)), h n (by omega), an1]
theorem sumN_mem {f : Nat → Nat} : ∀ n i, i < n → f i ≤ sumN f n
  | 0, i, h => absurd h (Nat.not_lt_zero i)
  | n + 1, i, h => by
    rw [sumN]
    by_cases e : i = n
    · rw [e]; omega
    · have := sumN_mem (f := f) n i (by omega); omega
theorem sumN_sb {l : Nat → Nat} {i x : Nat} (hx : x ≤ l i) : ∀ n, sumN (sb l i x) n = if i < n then sumN l n - x else sumN l n
  | 0 => by rw [if_neg (by omega)]; rfl
  | n + 1 => by
    rw [sumN, sumN, sumN_sb hx n]
    by_cases e : i = n
    · subst e
      rw [if_neg (by omega), if_pos (by omega)]
      unfold sb; rw [if_pos rfl]; omega
    · have en : sb l i x n = l n := by unfold sb; rw [if_neg (fun z => e z.symm)]
      rw [en]
      by_cases h : i < n
      · have := sumN_mem (f := l) n i h
        rw [if_pos h, if_pos (by omega)]; omega
      · rw [if_neg h, if_neg (by omega)]
theorem zr_sum (l : Nat → Nat) (n : Nat) : zr l n = true ↔ sumN l n = 0 := by
  rw [zr_iff]
  constructor
  · exact sumN_zero n
  · intro h i hi
    have := sumN_mem (f := l) n i hi; omega
section WYS
variable {G : Nat} {ok : Nat → Nat → Bool} {q : Nat → Nat}
/-- where more is lacking than can fall there is no way -/
theorem no_way : ∀ m k l f, wat q m k < sumN l G → wy G ok q m k l = 0 ∧ sr G ok q m k f l = -1
  | 0, k, l, f, h => by
    have : ¬ zr l G = true := fun z => by rw [zr_sum] at z; rw [z] at h; exact Nat.not_lt_zero _ h
    rw [wy, sr, if_neg this, if_neg this]; exact ⟨rfl, rfl⟩
  | m + 1, k, l, f, h => by
    rw [wat] at h
    have h1 := no_way m (k + 1) l f (by omega)
    have h2 : ∀ i, i < G → tk ok q k l i = true → ∀ g, wy G ok q m (k + 1) (sb l i (q k)) = 0 ∧ sr G ok q m (k + 1) g (sb l i (q k)) = -1 := fun i hi ht g => by
      unfold tk at ht
      rw [Bool.and_eq_true, decide_eq_true_eq] at ht
      refine no_way m (k + 1) _ g ?_
      rw [sumN_sb ht.2, if_pos hi]; omega
    rw [wy, sr, h1.1, h1.2]
    constructor
    · rw [Nat.zero_add]
      refine sumN_zero G fun i hi => ?_
      by_cases ht : tk ok q k l i = true
      · rw [if_pos ht]; exact (h2 i hi ht f).1
      · rw [if_neg ht]
    · rw [an_c, an1]
      refine anI_m1 G fun i hi => ?_
      by_cases ht : tk ok q k l i = true
      · rw [if_pos ht]; exact (h2 i hi ht _).2
      · rw [if_neg ht]
theorem sumN_le {f : Nat → Nat} {b : Nat} : ∀ n, (∀ i, i < n → f i ≤ b) → sumN f n ≤ n * b
  | 0, _ => Nat.zero_le _
  | n + 1, h => by
    rw [sumN, Nat.add_mul, Nat.one_mul]
    have := sumN_le n (fun i hi => h i (by omega)); have := h n (by omega); omega
theorem wy_le (hG : G ≤ 9) : ∀ m k l, wy G ok q m k l ≤ 10 ^ m
  | 0, k, l => by
    rw [wy]
    by_cases h : zr l G = true
    · rw [if_pos h]; exact Nat.le_refl _
    · rw [if_neg h]; exact Nat.zero_le _
  | m + 1, k, l => by
    rw [wy, Nat.pow_succ]
    have h1 := wy_le hG m (k + 1) l
    have h2 := sumN_le (f := fun i => if tk ok q k l i = true then wy G ok q m (k + 1) (sb l i (q k)) else 0) (b := 10 ^ m) G (fun i _ => by
      by_cases ht : tk ok q k l i = true
      · show (if tk ok q k l i = true then _ else 0) ≤ _
        rw [if_pos ht]; exact wy_le hG m (k + 1) _
      · show (if tk ok q k l i = true then _ else 0) ≤ _
        rw [if_neg ht]; exact Nat.zero_le _)
    have h3 := Nat.mul_le_mul_right (10 ^ m) hG
    omega
/-- a way has no cloud beyond a mask -/
theorem sr_mask {M : Int32} : ∀ m k f l, f &&& M = f → (∀ j, k ≤ j → j < k + m → bitk j &&& M = bitk j) → 0 < wy G ok q m k l → sr G ok q m k f l &&& M = sr G ok q m k f l
  | 0, k, f, l, hf, _, hw => by
    rw [wy] at hw
    by_cases h : zr l G = true
    · rw [sr, if_pos h]; exact hf
    · rw [if_neg h] at hw; exact absurd hw (Nat.lt_irrefl 0)
  | m + 1, k, f, l, hf, hb, hw => by
    have hor : (f ||| bitk k) &&& M = f ||| bitk k := by
      have := hb k (Nat.le_refl _) (by omega)
      apply Int32.toBitVec_inj.mp
      have e1 := congrArg Int32.toBitVec hf
      have e2 := congrArg Int32.toBitVec this
      rw [Int32.toBitVec_and] at e1 e2
      rw [Int32.toBitVec_and, Int32.toBitVec_or]
      apply BitVec.eq_of_getLsbD_eq
      intro i hi
      have f1 := congrArg (fun z : BitVec 32 => z.getLsbD i) e1
      have f2 := congrArg (fun z : BitVec 32 => z.getLsbD i) e2
      simp only [BitVec.getLsbD_and, BitVec.getLsbD_or] at f1 f2 ⊢
      cases h1 : f.toBitVec.getLsbD i <;> cases h2 : (bitk k).toBitVec.getLsbD i <;> cases h3 : M.toBitVec.getLsbD i <;> simp_all
    have aux : ∀ (g : Nat → Int32) (n i : Nat), i < n → g i &&& M = g i → anI g n &&& M = anI g n := by
      intro g n
      induction n with
      | zero => exact fun i hi => absurd hi (Nat.not_lt_zero i)
      | succ n ih =>
        intro i hi hg
        rw [anI]
        by_cases e : i = n
        · subst e; rw [an_a, hg]
        · rw [an_a, an_c (g n), ← an_a, ih i (by omega) hg]
    rw [wy] at hw
    rw [sr]
    by_cases h0 : 0 < wy G ok q m (k + 1) l
    · have := sr_mask m (k + 1) f l hf (fun j h1 h2 => hb j (by omega) (by omega)) h0
      rw [an_a, an_c _ M, ← an_a, this]
    · have hs : 0 < sumN (fun i => if tk ok q k l i = true then wy G ok q m (k + 1) (sb l i (q k)) else 0) G := by omega
      have hex : ∃ i, i < G ∧ tk ok q k l i = true ∧ 0 < wy G ok q m (k + 1) (sb l i (q k)) := Classical.byContradiction fun hn => by
        rw [sumN_zero G (fun i hi => by
          by_cases ht : tk ok q k l i = true
          · show (if tk ok q k l i = true then _ else 0) = 0
            rw [if_pos ht]
            exact Nat.eq_zero_of_not_pos (fun z => hn ⟨i, hi, ht, z⟩)
          · show (if tk ok q k l i = true then _ else 0) = 0
            rw [if_neg ht])] at hs
        exact Nat.lt_irrefl 0 hs
      obtain ⟨i, hi, ht, hwi⟩ := hex
      have := sr_mask m (k + 1) (f ||| bitk k) (sb l i (q k)) hor (fun j h1 h2 => hb j (by omega) (by omega)) hwi
      rw [an_a, aux _ G i hi (by
        show (if tk ok q k l i = true then _ else _) &&& M = (if tk ok q k l i = true then _ else _)
        rw [if_pos ht]; exact this)]
end WYS
/-- in how many hours up to n a cloud alone is in a cell -/
def cntH (s : Sk) (k x y : Nat) : Nat → Nat
  | 0 => 0
  | n + 1 => cntH s k x y n + if ps s k n = some (x, y) then 1 else 0
theorem cntH_le (s : Sk) (k x y : Nat) : ∀ n, cntH s k x y n ≤ n
  | 0 => Nat.le_refl _
  | n + 1 => by
    rw [cntH]
    have := cntH_le s k x y n
    by_cases h : ps s k n = some (x, y)
    · rw [if_pos h]; omega
    · rw [if_neg h]; omega
theorem tr_eq {s : Sk} (hv : VS s) {k h x y : Nat} (hk : k < kT s 2) (hx : x < 8) (hy : y < 8) : tr s k h = nI (8 * y + x) ↔ ps s k h = some (x, y) := by
  have s1 := hv.1
  have s2 := hv.2.1
  unfold tr
  cases e : ps s k h with
  | none =>
    constructor
    · exact fun q => absurd q.symm (nI_m1 (by omega))
    · intro q; cases q
  | some q =>
    have hq := ps_in hv hk h q e
    show nI (8 * q.2 + q.1) = nI (8 * y + x) ↔ _
    rw [nI_eq (by omega) (by omega)]
    constructor
    · intro z
      have e1 : q.1 = x := by omega
      have e2 : q.2 = y := by omega
      rw [← e1, ← e2]
    · intro z; cases z; rfl
