/-! SHARE: factorials, ones, Euclid on the component's side -/
theorem fc_le : ∀ n, n ≤ 6 → fcN n ≤ 720 := by decide
theorem fc_pos : ∀ n, 0 < fcN n
  | 0 => Nat.zero_lt_one
  | n + 1 => Nat.mul_pos (Nat.succ_pos n) (fc_pos n)
theorem onN_lt {q k : Nat} (hk : k < 8) (hq : q < 2 ^ k) : onN q ≤ k := by
  unfold onN
  have aux : ∀ m, sumN (fun i => q / 2 ^ i % 2) m ≤ min m k := by
    intro m
    induction m with
    | zero => exact Nat.zero_le _
    | succ m ih =>
      rw [sumN]
      have h2 := Nat.mod_lt (q / 2 ^ m) (show 0 < 2 by decide)
      by_cases e : m < k
      · omega
      · have : q / 2 ^ m = 0 := Nat.div_eq_of_lt (Nat.lt_of_lt_of_le hq (Nat.pow_le_pow_right (by decide) (by omega)))
        rw [this]; omega
  exact Nat.le_trans (aux 8) (Nat.min_le_right _ _)
section SHB
variable {w : Wd} {d : Nat} {σ : Mem} {s : Sk} {P : Option AV → Mem → Prop} {X : Nat → Mem → Prop}
theorem s_ordersOf {n : Nat} (hn : n ≤ 6) (hP : P (some (.int (nI (fcN n)))) σ) : Ret w true (d + 1) 0 0 m_Worth_ordersOf [.int (nI n)] σ P X := by
  refine meth_ok k_Worth_ordersOf q_Worth_ordersOf rfl fun At hAt => ?_
  have loop : ∀ j, j ≤ 6 → j + 1 ≤ max n 1 → At 4 [.int (nI n), .int (nI (fcN (j + 1))), .int (nI (j + 2))] [] σ 0 0 := by
    refine upto fun j hj ih => ?_
    intro h1
    have fin : n < j + 2 → P (some (.int (nI (fcN (j + 1))))) σ := fun h => by
      have : fcN (j + 1) = fcN n := by
        by_cases e : n = 0
        · subst e
          have : j = 0 := by omega
          subst this; rfl
        · rw [show j + 1 = n by omega]
      rw [this]; exact hP
    refine hAt 3 _ _ _ _ _ _ ?_
    refine And.intro (fun hq => ?_) (fun hq => ?_)
    · have c6 : n < j + 2 := (ltN (a := n) (b := j + 2) rfl rfl (by omega) (by omega)).mp hq
      clear hq
      refine hAt 2 _ _ _ _ _ _ ?_
      exact fin (by omega)
    · have c6 : j + 2 ≤ n := Nat.le_of_not_lt (fun zq => hq ((ltN (a := n) (b := j + 2) rfl rfl (by omega) (by omega)).mpr zq))
      clear hq
      refine hAt 3 _ _ _ _ _ _ ?_
      refine And.intro (fun hq => ?_) (fun hq => ?_)
      · have c12 : 6 < j + 2 := (ltN (a := 6) (b := j + 2) rfl rfl (by omega) (by omega)).mp hq
        clear hq
        exact absurd c12 (by omega)
      · have c12 : j + 2 ≤ 6 := Nat.le_of_not_lt (fun zq => hq ((ltN (a := 6) (b := j + 2) rfl rfl (by omega) (by omega)).mpr zq))
        clear hq
        refine hAt 6 _ _ _ _ _ _ ?_
        refine Eq.mpr (congrArg (fun xq : Int32 => At 4 [.int (nI n), .int xq, .int ((nI (j + 2)) + nI 1)] [] σ 0 0) (show (nI (fcN (j + 1))) * (nI (j + 2)) = nI ((fcN (j + 1)) * (j + 2)) from (mlE rfl rfl))) ?_
        refine Eq.mpr (congrArg (fun xq : Int32 => At 4 [.int (nI n), .int (nI ((fcN (j + 1)) * (j + 2))), .int xq] [] σ 0 0) (show (nI (j + 2)) + nI 1 = nI (j + 2 + 1) from (adE rfl rfl))) ?_
        have z := ih (by omega) (by omega)
        rw [show fcN (j + 1 + 1) = fcN (j + 1) * (j + 2) from Nat.mul_comm _ _] at z
        exact z
  refine hAt 4 _ _ _ _ _ _ ?_
  exact loop 0 (by omega) (by omega)
theorem s_factorial {n : Nat} (hn : n ≤ 6) (hP : P (some (.long (lN (fcN n)))) σ) : Ret w true (d + 1) 0 0 m_Mo_factorial [.int (nI n)] σ P X := by
  refine meth_ok k_Mo_factorial q_Mo_factorial rfl fun At hAt => ?_
  have loop : ∀ j, j ≤ 6 → j + 1 ≤ max n 1 → At 4 [.int (nI n), .long (lN (fcN (j + 1))), junk, .int (nI (j + 2))] [] σ 0 0 := by
    refine upto fun j hj ih => ?_
    intro h1
    have fin : n < j + 2 → P (some (.long (lN (fcN (j + 1))))) σ := fun h => by
      have : fcN (j + 1) = fcN n := by
        by_cases e : n = 0
        · subst e
          have : j = 0 := by omega
          subst this; rfl
        · rw [show j + 1 = n by omega]
      rw [this]; exact hP
    refine hAt 3 _ _ _ _ _ _ ?_
    refine And.intro (fun hq => ?_) (fun hq => ?_)
    · have c6 : n < j + 2 := (ltN (a := n) (b := j + 2) rfl rfl (by omega) (by omega)).mp hq
      clear hq
      refine hAt 2 _ _ _ _ _ _ ?_
      exact fin (by omega)
    · have c6 : j + 2 ≤ n := Nat.le_of_not_lt (fun zq => hq ((ltN (a := n) (b := j + 2) rfl rfl (by omega) (by omega)).mpr zq))
      clear hq
      refine hAt 7 _ _ _ _ _ _ ?_
      refine Eq.mpr (congrArg (fun xq : Int32 => At 4 [.int (nI n), .long ((lN (fcN (j + 1))) * ((nI (j + 2)).toInt64)), junk, .int xq] [] σ 0 0) (show (nI (j + 2)) + nI 1 = nI (j + 2 + 1) from (adE rfl rfl))) ?_
      have z := ih (by omega) (by omega)
      rw [show fcN (j + 1 + 1) = fcN (j + 1) * (j + 2) from Nat.mul_comm _ _, ← l_mul, ← l_of (show j + 2 < 2 ^ 31 by omega)] at z
      exact z
  refine hAt 4 _ _ _ _ _ _ ?_
  exact loop 0 (by omega) (by omega)
theorem s_ones {q : Nat} (hq : q < 2 ^ 31) (hP : P (some (.int (nI (onN q)))) σ) : Ret w true (d + 1) 0 0 m_Mo_ones [.int (nI q)] σ P X := by
  refine meth_ok k_Mo_ones q_Mo_ones rfl fun At hAt => ?_
  have loop : ∀ i, i ≤ 8 → At 4 [.int (nI q), .int (nI (sumN (fun i => q / 2 ^ i % 2) i)), .int (nI i)] [] σ 0 0 := by
    refine upto fun i hi ih => ?_
    have bit : i < 8 → (nI q >>> (nI i &&& 31)) &&& nI 1 = nI (q / 2 ^ i % 2) := fun h => by rw [bit_s _ i (by omega), u32_nI (by omega)]
    refine hAt 3 _ _ _ _ _ _ ?_
    refine And.intro (fun hq => ?_) (fun hq => ?_)
    · have c7 : 8 ≤ i := (leN (a := 8) (b := i) rfl rfl (by omega) (by omega)).mp hq
      clear hq
      refine hAt 2 _ _ _ _ _ _ ?_
      have e : i = 8 := by omega
      subst e
      exact hP
    · have c7 : i < 8 := Nat.lt_of_not_le (fun zq => hq ((leN (a := 8) (b := i) rfl rfl (by omega) (by omega)).mpr zq))
      clear hq
      refine hAt 10 _ _ _ _ _ _ ?_
      refine Eq.mpr (congrArg (fun xq : Int32 => At 4 [.int (nI q), .int xq, .int (nI i + nI 1)] [] σ 0 0) (show (nI (sumN (fun i => q / 2 ^ i % 2) i)) + (((nI q) >>> ((nI i) &&& 31)) &&& (nI 1)) = nI ((sumN (fun i => q / 2 ^ i % 2) i) + (q / 2 ^ i % 2)) from (adE rfl (bit (by omega))))) ?_
      refine Eq.mpr (congrArg (fun xq : Int32 => At 4 [.int (nI q), .int (nI ((sumN (fun i => q / 2 ^ i % 2) i) + (q / 2 ^ i % 2))), .int xq] [] σ 0 0) (show nI i + nI 1 = nI (i + 1) from (adE rfl rfl))) ?_
      exact ih c7
  refine hAt 4 _ _ _ _ _ _ ?_
  exact loop 0 (by omega)
theorem s_commonOf {a0 b0 : Nat} (ha : a0 < 2 ^ 63) (hb : b0 < 1024) (hP : P (some (.long (lN (Nat.gcd b0 a0)))) σ) : Ret w true (d + 1) 0 0 m_Worth_commonOf [.long (lN a0), .long (lN b0)] σ P X := by
  refine meth_ok k_Worth_commonOf q_Worth_commonOf rfl fun At hAt => ?_
  have one : ∀ a b st z9 z10, a < 2 ^ 63 → b < 2 ^ 63 → b ≠ 0 → st < 100 → (∀ z9 z10, At 9 [.long (lN a0), junk, .long (lN b0), junk, .long (lN b), junk, .long (lN (a % b)), junk, .int (nI (st + 1)), z9, z10] [] σ 0 0) → At 9 [.long (lN a0), junk, .long (lN b0), junk, .long (lN a), junk, .long (lN b), junk, .int (nI st), z9, z10] [] σ 0 0 := by
    intro a b st z9 z10 h1 h2 h3 h4 hn
    refine hAt 3 _ _ _ _ _ _ ?_
    refine And.intro (fun hq => ?_) (fun hq => ?_)
    · have c13 : 100 ≤ st := (leN (a := 100) (b := st) rfl rfl (by omega) (by omega)).mp hq
      clear hq
      exact absurd c13 (by omega)
    · have c13 : st < 100 := Nat.lt_of_not_le (fun zq => hq ((leN (a := 100) (b := st) rfl rfl (by omega) (by omega)).mpr zq))
      clear hq
      refine hAt 4 _ _ _ _ _ _ ?_
      refine And.intro (fun hq => ?_) (fun hq => ?_)
      · have c20 : lg_cmp (lN b) (lN 0) = nI 0 := hq
        clear hq
        exact absurd (l_inj h2 (by decide) (lcmp0.mp c20)) h3
      · have c20 : ¬ lg_cmp (lN b) (lN 0) = nI 0 := hq
        clear hq
        refine hAt 10 _ _ _ _ _ _ ?_
        refine And.intro ((fun z => h3 (l_inj h2 (by decide) z))) ?_
        refine Eq.mpr (congrArg (fun xq : Int32 => At 9 [.long (lN a0), junk, .long (lN b0), junk, .long (lN b), junk, .long ((lN a) - (lN a) / (lN b) * (lN b)), junk, .int xq, .long ((lN a) - (lN a) / (lN b) * (lN b)), junk] [] σ 0 0) (show nI st + nI 1 = nI (st + 1) from (adE rfl rfl))) ?_
        have z := hn (.long (lN (a % b))) junk
        rw [← l_mod h1 h2] at z
        exact z
  have out : ∀ a st z9 z10, st ≤ 100 → P (some (.long (lN a))) σ → At 9 [.long (lN a0), junk, .long (lN b0), junk, .long (lN a), junk, .long (lN 0), junk, .int (nI st), z9, z10] [] σ 0 0 := by
    intro a st z9 z10 h1 hp
    refine hAt 3 _ _ _ _ _ _ ?_
    refine And.intro (fun hq => ?_) (fun hq => ?_)
    · have c13 : 100 ≤ st := (leN (a := 100) (b := st) rfl rfl (by omega) (by omega)).mp hq
      clear hq
      refine hAt 2 _ _ _ _ _ _ ?_
      exact hp
    · have c13 : st < 100 := Nat.lt_of_not_le (fun zq => hq ((leN (a := 100) (b := st) rfl rfl (by omega) (by omega)).mpr zq))
      clear hq
      refine hAt 4 _ _ _ _ _ _ ?_
      refine And.intro (fun hq => ?_) (fun hq => ?_)
      · have c20 : lg_cmp (lN 0) (lN 0) = nI 0 := hq
        clear hq
        refine hAt 2 _ _ _ _ _ _ ?_
        exact hp
      · have c20 : ¬ lg_cmp (lN 0) (lN 0) = nI 0 := hq
        clear hq
        exact absurd (lcmp0.mpr rfl) c20
  have all : ∀ j a b st z9 z10, a < 2 ^ 63 → b < 2 ^ j → j ≤ 40 → st + 2 * j ≤ 100 → P (some (.long (lN (Nat.gcd b a)))) σ → At 9 [.long (lN a0), junk, .long (lN b0), junk, .long (lN a), junk, .long (lN b), junk, .int (nI st), z9, z10] [] σ 0 0 := by
    intro j
    induction j with
    | zero =>
      intro a b st z9 z10 h1 h2 _ h4 hp
      have : b = 0 := by omega
      subst this
      rw [Nat.gcd_zero_left] at hp
      exact out a st z9 z10 (by omega) hp
    | succ j ih =>
      intro a b st z9 z10 h1 h2 h3 h4 hp
      have hj : 2 ^ (j + 1) ≤ 2 ^ 40 := Nat.pow_le_pow_right (by decide) h3
      by_cases e : b = 0
      · subst e
        rw [Nat.gcd_zero_left] at hp
        exact out a st z9 z10 (by omega) hp
      · have hr : a % b < b := Nat.mod_lt _ (by omega)
        rw [Nat.gcd_rec] at hp
        refine one a b st z9 z10 h1 (by omega) e (by omega) (fun z9 z10 => ?_)
        by_cases e2 : a % b = 0
        · rw [e2, Nat.gcd_zero_left] at hp
          rw [e2]
          exact out b (st + 1) z9 z10 (by omega) hp
        · rw [Nat.gcd_rec] at hp
          refine one b (a % b) (st + 1) z9 z10 (by omega) (by omega) e2 (by omega) (fun z9 z10 => ?_)
          refine ih (a % b) (b % (a % b)) (st + 1 + 1) z9 z10 (by omega) ?_ (by omega) (by omega) hp
          have h5 : b % (a % b) < a % b := Nat.mod_lt _ (by omega)
          have h6 : b % (a % b) + a % b ≤ b := by
            have := Nat.div_add_mod b (a % b)
            have h7 : 1 ≤ b / (a % b) := (Nat.le_div_iff_mul_le (by omega)).mpr (by omega)
            have := Nat.mul_le_mul_left (a % b) h7
            omega
          have := Nat.pow_succ 2 j
          omega
  refine hAt 6 _ _ _ _ _ _ ?_
  exact all 10 a0 b0 0 _ _ ha hb (by omega) (by omega) hP
end SHB
