/-! DOUBT and the WORST, on both sides -/
theorem or_a (a b c : Int64) : (a ||| b) ||| c = a ||| (b ||| c) := Int64.or_assoc a b c
theorem or_0 (a : Int64) : a ||| lN 0 = a := Int64.or_zero
theorem bt_bv : ∀ c, c < 64 → (bt c).toBitVec = 1#64 <<< c := by decide
theorem sh_bv : ∀ c, c < 64 → (((nI c).toInt64.toUInt64 &&& Int64.toUInt64 63).toBitVec % 64).toNat = c := by decide
theorem bit_eq {x : BitVec 64} {c : Nat} (hc : c < 64) : (x &&& (1#64 <<< c) = 0#64) ↔ x.getLsbD c = false := by
  constructor
  · intro h
    have := congrArg (fun z : BitVec 64 => z.getLsbD c) h
    simpa [hc] using this
  · intro h
    apply BitVec.eq_of_getLsbD_eq
    intro i hi
    by_cases e : i = c
    · subst e; simp [h]
    · simp only [BitVec.getLsbD_and, BitVec.getLsbD_shiftLeft, BitVec.getLsbD_one, BitVec.getLsbD_zero]
      by_cases e2 : i < c
      · simp [e2]
      · have : ¬ (i - c = 0) := by omega
        simp [this]
theorem bit_eq2 {x : BitVec 64} {c : Nat} : ((x >>> c) &&& 1#64 = 0#64) ↔ x.getLsbD c = false := by
  constructor
  · intro h
    have := congrArg (fun z : BitVec 64 => z.getLsbD 0) h
    simpa using this
  · intro h
    apply BitVec.eq_of_getLsbD_eq
    intro i hi
    by_cases e : i = 0
    · subst e; simp [h]
    · simp only [BitVec.getLsbD_and, BitVec.getLsbD_one, BitVec.getLsbD_zero]
      simp [e]
theorem hasB_n {b : Int64} {c : Nat} (hc : c < 64) : hasB b c = false ↔ b.toBitVec.getLsbD c = false := by
  unfold hasB
  rw [decide_eq_false_iff_not, Classical.not_not, ← bit_eq hc, ← bt_bv c hc]
  constructor
  · intro h; have := congrArg Int64.toBitVec h; exact this
  · intro h; exact Int64.toBitVec_inj.mp h
theorem hasB_u {b : Int64} {c : Nat} (hc : c < 64) : (((b.toUInt64 >>> ((nI c).toInt64.toUInt64 &&& Int64.toUInt64 63)).toInt64) &&& lN 1 = lN 0) ↔ hasB b c = false := by
  rw [hasB_n hc, ← bit_eq2]
  have e : ((b.toUInt64 >>> ((nI c).toInt64.toUInt64 &&& Int64.toUInt64 63)).toInt64).toBitVec = b.toBitVec >>> c := by
    show (b.toUInt64 >>> ((nI c).toInt64.toUInt64 &&& Int64.toUInt64 63)).toBitVec = _
    rw [UInt64.toBitVec_shiftRight, BitVec.ushiftRight_eq', sh_bv c hc]; rfl
  rw [← e]
  constructor
  · intro h; have := congrArg Int64.toBitVec h; exact this
  · intro h; exact Int64.toBitVec_inj.mp h
theorem hasB_u1 {b : Int64} {c : Nat} (hc : c < 64) : (((b.toUInt64 >>> ((nI c).toInt64.toUInt64 &&& Int64.toUInt64 63)).toInt64) &&& lN 1 = lN 1) ↔ hasB b c = true := by
  have h := hasB_u (b := b) hc
  have g : ∀ x : BitVec 64, x &&& 1#64 = 0#64 ∨ x &&& 1#64 = 1#64 := fun x => by
    cases e : x.getLsbD 0 with
    | false => exact Or.inl (by have := (bit_eq2 (x := x) (c := 0)).mpr e; simpa using this)
    | true =>
      refine Or.inr (BitVec.eq_of_getLsbD_eq fun i hi => ?_)
      by_cases e2 : i = 0
      · subst e2; simp [e]
      · simp only [BitVec.getLsbD_and, BitVec.getLsbD_one]; simp [e2]
  obtain ⟨y, hy⟩ : ∃ y, y = (b.toUInt64 >>> ((nI c).toInt64.toUInt64 &&& Int64.toUInt64 63)).toInt64 := ⟨_, rfl⟩
  rw [← hy] at h ⊢
  have g2 : y &&& lN 1 = lN 0 ∨ y &&& lN 1 = lN 1 := (g y.toBitVec).imp (fun z => Int64.toBitVec_inj.mp z) (fun z => Int64.toBitVec_inj.mp z)
  cases e : hasB b c with
  | false => rw [h.mpr e]; exact ⟨fun z => absurd z (by decide), fun z => by cases z⟩
  | true => exact ⟨fun _ => rfl, fun _ => g2.resolve_left (fun z => by rw [h.mp z] at e; cases e)⟩
def btr (s : Sk) (n : Nat) : Option Nat → Bool
  | none => true
  | some b => decide (kF s b 4 < kF s n 4)
/-- the field of the most V in cells told as bits, of the first n -/
def drs (s : Sk) (b : Int64) : Nat → Option Nat
  | 0 => none
  | n + 1 => if (hasB b (kT s 0 * kF s n 1 + kF s n 0) && btr s n (drs s b n)) = true then some n else drs s b n
theorem drs_lt (s : Sk) (bits : Int64) : ∀ n b, drs s bits n = some b → b < n
  | 0, b, e => by cases e
  | n + 1, b, e => by
    rw [drs] at e
    by_cases g : (hasB bits (kT s 0 * kF s n 1 + kF s n 0) && btr s n (drs s bits n)) = true
    · rw [if_pos g] at e; cases e; omega
    · rw [if_neg g] at e
      have := drs_lt s bits n b e; omega
theorem cel_lt {W H x y : Nat} (hW : W ≤ 8) (hH : H ≤ 8) (hx : x < W) (hy : y < H) : W * y + x < W * H ∧ W * H ≤ 64 := by
  have h1 : W * (y + 1) ≤ W * H := Nat.mul_le_mul_left W hy
  have h2 : W * H ≤ 8 * 8 := Nat.mul_le_mul hW hH
  rw [Nat.mul_add] at h1
  exact ⟨by omega, by omega⟩
section DBC
variable {w : Wd} {d : Nat} {σ : Mem} {s : Sk} {P : Option AV → Mem → Prop} {X : Nat → Mem → Prop}
theorem s_dearestIn {bits : Int64} (hS : skP σ 4 s) (hv : VS s) (hP : P (some (.int (oI (drs s bits (kT s 3))))) σ) : Ret w true (d + 4) 0 0 m_Sky_dearestIn [.ref 3, .long bits] σ P X := by
  obtain ⟨s1, s2, s3, s4, s5, -, -, -, -, -, s6, s7, s8, s9, s10, -⟩ := id hv
  refine meth_ok k_Sky_dearestIn q_Sky_dearestIn rfl fun At hAt => ?_
  have loop : ∀ k, k ≤ kT s 3 → ∀ z5, At 5 [.ref 3, .long bits, junk, .int (oI (drs s bits k)), .int (nI k), z5] [] σ 0 0 := by
    refine upto fun k hk ih => ?_
    intro z5
    refine hAt 4 _ _ _ _ _ _ ?_
    refine s_Table_size (a := 10) (na := 11) (mo := 12) (wd := 6) rfl ?_
    refine Eq.mpr (congrArg (fun xq : Int32 => At 14 [.ref (3), .long (bits), junk, .int (oI (drs s bits k)), .int (nI k), z5] [.int xq, .int (nI k)] σ 0 0) (show rI σ 10 3 = nI (kT s 3) from hS.2.2.2.1.1)) ?_
    refine hAt 1 _ _ _ _ _ _ ?_
    refine And.intro (fun hq => ?_) (fun hq => ?_)
    · have c14 : kT s 3 ≤ k := (leN (a := kT s 3) (b := k) rfl rfl (by omega) (by omega)).mp hq
      clear hq
      refine hAt 2 _ _ _ _ _ _ ?_
      have e : k = kT s 3 := by omega
      subst e
      exact hP
    · have c14 : k < kT s 3 := Nat.lt_of_not_le (fun zq => hq ((leN (a := kT s 3) (b := k) rfl rfl (by omega) (by omega)).mpr zq))
      clear hq
      have b := s9 k c14
      have eb : bo s (kF s k 0 : Int) (kF s k 1 : Int) = bt (kT s 0 * kF s k 1 + kF s k 0) := by
        rw [bo, if_pos (isInB_s.mpr (by omega))]; rfl
      have q := ih c14
      have skip : ¬ (hasB bits (kT s 0 * kF s k 1 + kF s k 0) && btr s k (drs s bits k)) = true → ∀ z5, At 5 [.ref 3, .long bits, junk, .int (oI (drs s bits k)), .int (nI (k + 1)), z5] [] σ 0 0 := by
        intro g
        rw [show drs s bits (k + 1) = drs s bits k by rw [drs, if_neg g]] at q
        exact q
      have take : (hasB bits (kT s 0 * kF s k 1 + kF s k 0) && btr s k (drs s bits k)) = true → ∀ z5, At 5 [.ref 3, .long bits, junk, .int (nI k), .int (nI (k + 1)), z5] [] σ 0 0 := by
        intro g
        rw [show drs s bits (k + 1) = some k by rw [drs, if_pos g]] at q
        exact q
      refine hAt 7 _ _ _ _ _ _ ?_
      refine s_Table_get (a := 10) (na := 11) (mo := 12) (wd := 6) rfl (show k < 12 by omega) (show 0 < 6 by omega) ?_
      refine Eq.mpr (congrArg (fun xq : Int32 => At 29 [.ref (3), .long (bits), junk, .int (oI (drs s bits k)), .int (nI k), z5] [.int xq, .ref (3), .long (bits)] σ 0 0) (show rI σ 11 (k * 6 + 0) = nI (kF s k 0) from (hS.2.2.2.1.2 k (by omega) 0 (by omega)))) ?_
      refine hAt 5 _ _ _ _ _ _ ?_
      refine s_Table_get (a := 10) (na := 11) (mo := 12) (wd := 6) rfl (show k < 12 by omega) (show 1 < 6 by omega) ?_
      refine Eq.mpr (congrArg (fun xq : Int32 => At 39 [.ref (3), .long (bits), junk, .int (oI (drs s bits k)), .int (nI k), z5] [.int xq, .int (nI (kF s k 0)), .ref (3), .long (bits)] σ 0 0) (show rI σ 11 (k * 6 + 1) = nI (kF s k 1) from (hS.2.2.2.1.2 k (by omega) 1 (by omega)))) ?_
      refine hAt 0 _ _ _ _ _ _ ?_
      refine Eq.mpr (congrArg (fun xq : Int32 => At 39 [.ref (3), .long (bits), junk, .int (oI (drs s bits k)), .int (nI k), z5] [.int (nI (kF s k 1)), .int xq, .ref (3), .long (bits)] σ 0 0) (ntZ rfl)) ?_
      refine Eq.mpr (congrArg (fun xq : Int32 => At 39 [.ref (3), .long (bits), junk, .int (oI (drs s bits k)), .int (nI k), z5] [.int xq, .int (iZ ((kF s k 0 : Nat) : Int)), .ref (3), .long (bits)] σ 0 0) (ntZ rfl)) ?_
      refine hAt 5 _ _ _ _ _ _ ?_
      refine s_bitOf hS hv (by omega) (by omega) ?_
      refine And.intro (fun hq => ?_) (fun hq => ?_)
      · have c45 : lg_cmp (bits &&& (bo s ((kF s k 0 : Nat) : Int) ((kF s k 1 : Nat) : Int))) (lN 0) = nI 0 := hq
        clear hq
        have e45 := lcmp0.mp c45
        rw [eb] at e45
        have e45 : hasB bits (kT s 0 * kF s k 1 + kF s k 0) = false := decide_eq_false (fun z => z e45)
        refine hAt 4 _ _ _ _ _ _ ?_
        refine And.intro (fun _ => ?_) (fun hq => absurd hq (by decide))
        refine hAt 2 _ _ _ _ _ _ ?_
        refine Eq.mpr (congrArg (fun xq : Int32 => At 5 [.ref (3), .long (bits), junk, .int (oI (drs s bits k)), .int xq, .int (nI 0)] [] σ 0 0) (show nI k + nI 1 = nI (k + 1) from (adE rfl rfl))) ?_
        exact skip (fun y => by rw [e45] at y; cases y) _
      · have c45 : ¬ lg_cmp (bits &&& (bo s ((kF s k 0 : Nat) : Int) ((kF s k 1 : Nat) : Int))) (lN 0) = nI 0 := hq
        clear hq
        have e45 := fun z => c45 (lcmp0.mpr z)
        rw [eb] at e45
        have e45 : hasB bits (kT s 0 * kF s k 1 + kF s k 0) = true := decide_eq_true e45
        refine hAt 5 _ _ _ _ _ _ ?_
        refine And.intro (fun hq => absurd hq (by decide)) (fun _ => ?_)
        refine hAt 3 _ _ _ _ _ _ ?_
        cases e62 : drs s bits k with
        | none =>
          rw [e62] at take
          refine And.intro (fun _ => ?_) (fun hq => absurd rfl hq)
          refine hAt 4 _ _ _ _ _ _ ?_
          refine Eq.mpr (congrArg (fun xq : Int32 => At 5 [.ref (3), .long (bits), junk, .int (nI k), .int xq, .int (nI 1)] [] σ 0 0) (show nI k + nI 1 = nI (k + 1) from (adE rfl rfl))) ?_
          exact take (by rw [e45]; rfl) _
        | some bb62 =>
          have hb := drs_lt s bits k bb62 e62
          have b2 := s9 bb62 (by omega)
          rw [e62] at skip take
          refine And.intro (fun hq => absurd hq (nI_m1 (by omega))) (fun _ => ?_)
          refine hAt 5 _ _ _ _ _ _ ?_
          refine s_Table_get (a := 10) (na := 11) (mo := 12) (wd := 6) rfl (show k < 12 by omega) (show 4 < 6 by omega) ?_
          refine Eq.mpr (congrArg (fun xq : Int32 => At 75 [.ref (3), .long (bits), junk, .int (oI (some bb62)), .int (nI k), .int (nI 1)] [.int xq] σ 0 0) (show rI σ 11 (k * 6 + 4) = nI (kF s k 4) from (hS.2.2.2.1.2 k (by omega) 4 (by omega)))) ?_
          refine hAt 5 _ _ _ _ _ _ ?_
          refine s_Table_get (a := 10) (na := 11) (mo := 12) (wd := 6) rfl (show bb62 < 12 by omega) (show 4 < 6 by omega) ?_
          refine Eq.mpr (congrArg (fun xq : Int32 => At 84 [.ref (3), .long (bits), junk, .int (oI (some bb62)), .int (nI k), .int (nI 1)] [.int xq, .int (nI (kF s k 4))] σ 0 0) (show rI σ 11 (bb62 * 6 + 4) = nI (kF s bb62 4) from (hS.2.2.2.1.2 bb62 (by omega) 4 (by omega)))) ?_
          refine hAt 1 _ _ _ _ _ _ ?_
          refine And.intro (fun hq => ?_) (fun hq => ?_)
          · have c84 : kF s k 4 ≤ kF s bb62 4 := (leN (a := kF s k 4) (b := kF s bb62 4) rfl rfl (by omega) (by omega)).mp hq
            clear hq
            refine hAt 2 _ _ _ _ _ _ ?_
            refine Eq.mpr (congrArg (fun xq : Int32 => At 5 [.ref (3), .long (bits), junk, .int (oI (some bb62)), .int xq, .int (nI 1)] [] σ 0 0) (show nI k + nI 1 = nI (k + 1) from (adE rfl rfl))) ?_
            exact skip (fun y => by rw [e45] at y; have y2 := of_decide_eq_true (show decide (kF s bb62 4 < kF s k 4) = true from y); omega) _
          · have c84 : kF s bb62 4 < kF s k 4 := Nat.lt_of_not_le (fun zq => hq ((leN (a := kF s k 4) (b := kF s bb62 4) rfl rfl (by omega) (by omega)).mpr zq))
            clear hq
            refine hAt 4 _ _ _ _ _ _ ?_
            refine Eq.mpr (congrArg (fun xq : Int32 => At 5 [.ref (3), .long (bits), junk, .int (nI k), .int xq, .int (nI 1)] [] σ 0 0) (show nI k + nI 1 = nI (k + 1) from (adE rfl rfl))) ?_
            exact take (by rw [e45]; exact decide_eq_true c84) _
  refine hAt 4 _ _ _ _ _ _ ?_
  exact loop 0 (by omega) _
theorem s_Mcell {x y : Int} (hS : skM σ s) (hv : VS s) (hx : 0 ≤ x ∧ x ≤ 100) (hy : 0 ≤ y ∧ y ≤ 100) (hP : P (some (.int (nI (kT s 0 * y.toNat + x.toNat)))) σ) : Ret w true (d + 1) 0 0 m_Mo_cell [.ref 108, .int (iZ x), .int (iZ y)] σ P X := by
  refine meth_ok k_Mo_cell q_Mo_cell rfl fun At hAt => ?_
  refine hAt 4 _ _ _ _ _ _ ?_
  refine And.intro (aOKx (n := 11) (j := 0) rfl (by decide) rfl rfl (by omega) (by omega)) ?_
  refine Eq.mpr (congrArg (fun xq : Int32 => At 6 [.ref (108), .int (iZ x), .int (iZ y)] [.int xq] σ 0 0) (show rI σ 111 (nI 0).toNatClampNeg = nI (kT s 0) from (ldE rfl (by omega) (hS.1 0 (by omega))))) ?_
  refine hAt 5 _ _ _ _ _ _ ?_
  refine retE (adZ (mlZ (ntZ rfl) rfl) rfl) ?_
  rw [show nI (kT s 0 * y.toNat + x.toNat) = iZ (((kT s 0 : Int) * y) + x) by rw [← iZ_nat]; congr 1; rw [Int.natCast_add, Int.natCast_mul, Int.toNat_of_nonneg (by omega), Int.toNat_of_nonneg (by omega)]] at hP
  exact hP
theorem s_couldBe {k h : Nat} (hS : skM σ s) (hv : VS s) (hk : k < kT s 2) (hh : h < 50) (hP : P (some (.long (dbt s k h))) σ) : Ret w true (d + 3) 0 0 m_Mo_couldBe [.ref 108, .int (nI k), .int (nI h)] σ P X := by
  obtain ⟨s1, s2, s3, s4, s5, -, -, -, -, -, s6, s7, s8, s9, s10, -⟩ := id hv
  have b := s8 k hk
  have hWH : kT s 0 * kT s 1 ≤ 8 * 8 := Nat.mul_le_mul s1.2 s2.2
  refine meth_ok k_Mo_couldBe q_Mo_couldBe rfl fun At hAt => ?_
  have in3 : ∀ (bits tn : Int64) (g c : Nat) (i j : Int), -1 ≤ i → i ≤ 1 → -1 ≤ j → j ≤ 1 → c < kT s 0 * kT s 1 → (∀ z11 z12 z13, At 95 [.ref 108, .int (nI k), .int (nI h), .long bits, junk, .int (nI g), .long (tn ||| ar s (((c % kT s 0 : Nat) : Int) + i) (((c / kT s 0 : Nat) : Int) + j) 9), junk, .int (iZ i), .int (iZ j), .int (nI (c + 1)), z11, z12, z13] [] σ 0 0) → ∀ n, n ≤ 9 → ∀ z12 z13, At 130 [.ref 108, .int (nI k), .int (nI h), .long bits, junk, .int (nI g), .long (tn ||| ar s (((c % kT s 0 : Nat) : Int) + i) (((c / kT s 0 : Nat) : Int) + j) n), junk, .int (iZ i), .int (iZ j), .int (nI c), .int (nI n), z12, z13] [] σ 0 0 := by
    intro bits tn g c i j hi1 hi2 hj1 hj2 hc nxt
    have hm : c % kT s 0 < kT s 0 := Nat.mod_lt _ (by omega)
    have hd : c / kT s 0 ≤ c := Nat.div_le_self _ _
    have hd0 : (0 : Int) ≤ ((c / kT s 0 : Nat) : Int) := Int.natCast_nonneg _
    refine upto fun n hn ih => ?_
    intro z12 z13
    have ea : ar s (((c % kT s 0 : Nat) : Int) + i) (((c / kT s 0 : Nat) : Int) + j) (n + 1) = ar s (((c % kT s 0 : Nat) : Int) + i) (((c / kT s 0 : Nat) : Int) + j) n ||| bo s (((((c % kT s 0 : Nat) : Int) + i) + ((n % 3 : Nat) : Int)) - 1) (((((c / kT s 0 : Nat) : Int) + j) + ((n / 3 : Nat) : Int)) - 1) := rfl
    refine hAt 3 _ _ _ _ _ _ ?_
    refine And.intro (fun hq => ?_) (fun hq => ?_)
    · have c134 : 9 ≤ n := (leN (a := 9) (b := n) rfl rfl (by omega) (by omega)).mp hq
      clear hq
      refine hAt 2 _ _ _ _ _ _ ?_
      refine Eq.mpr (congrArg (fun xq : Int32 => At 95 [.ref (108), .int (nI k), .int (nI h), .long (bits), junk, .int (nI g), .long (tn ||| ar s (((c % kT s 0 : Nat) : Int) + i) (((c / kT s 0 : Nat) : Int) + j) n), junk, .int (iZ i), .int (iZ j), .int xq, .int (nI n), z12, z13] [] σ 0 0) (show nI c + nI 1 = nI (c + 1) from (adE rfl rfl))) ?_
      have e : n = 9 := by omega
      subst e
      exact nxt _ _ _
    · have c134 : n < 9 := Nat.lt_of_not_le (fun zq => hq ((leN (a := 9) (b := n) rfl rfl (by omega) (by omega)).mpr zq))
      clear hq
      refine hAt 5 _ _ _ _ _ _ ?_
      refine And.intro (aOKx (n := 11) (j := 0) rfl (by decide) rfl rfl (by omega) (by omega)) ?_
      refine Eq.mpr (congrArg (fun xq : Int32 => At 145 [.ref (108), .int (nI k), .int (nI h), .long (bits), junk, .int (nI g), .long (tn ||| ar s (((c % kT s 0 : Nat) : Int) + i) (((c / kT s 0 : Nat) : Int) + j) n), junk, .int (iZ i), .int (iZ j), .int (nI c), .int (nI n), z12, z13] [.int xq, .int (nI c)] σ 0 0) (show rI σ 111 (nI 0).toNatClampNeg = nI (kT s 0) from (ldE rfl (by omega) (hS.1 0 (by omega))))) ?_
      refine hAt 15 _ _ _ _ _ _ ?_
      refine And.intro (nI_z (c := kT s 0) (by omega) (by omega)) ?_
      refine And.intro (by decide) ?_
      refine And.intro (aOKx (n := 11) (j := 0) rfl (by decide) rfl rfl (by omega) (by omega)) ?_
      refine Eq.mpr (congrArg (fun xq : Int32 => At 166 [.ref (108), .int (nI k), .int (nI h), .long (bits), junk, .int (nI g), .long (tn ||| ar s (((c % kT s 0 : Nat) : Int) + i) (((c / kT s 0 : Nat) : Int) + j) n), junk, .int (iZ i), .int (iZ j), .int (nI c), .int (nI n), .int (((((nI c) - (nI c) / (nI (kT s 0)) * (nI (kT s 0))) + (iZ i)) + ((nI n) - (nI n) / (nI 3) * (nI 3))) - nI 1), z13] [.int xq, .int (nI c)] σ 0 0) (show rI σ 111 (nI 0).toNatClampNeg = nI (kT s 0) from (ldE rfl (by omega) (hS.1 0 (by omega))))) ?_
      refine hAt 13 _ _ _ _ _ _ ?_
      refine And.intro (nI_z (c := kT s 0) (by omega) (by omega)) ?_
      refine And.intro (by decide) ?_
      refine Eq.mpr (congrArg (fun xq : Int32 => At 184 [.ref (108), .int (nI k), .int (nI h), .long (bits), junk, .int (nI g), .long (tn ||| ar s (((c % kT s 0 : Nat) : Int) + i) (((c / kT s 0 : Nat) : Int) + j) n), junk, .int (iZ i), .int (iZ j), .int (nI c), .int (nI n), .int (((((nI c) - (nI c) / (nI (kT s 0)) * (nI (kT s 0))) + (iZ i)) + ((nI n) - (nI n) / (nI 3) * (nI 3))) - nI 1), .int (((((nI c) / (nI (kT s 0))) + (iZ j)) + ((nI n) / (nI 3))) - nI 1)] [.int (((((nI c) / (nI (kT s 0))) + (iZ j)) + ((nI n) / (nI 3))) - nI 1), .int xq, .ref (108)] σ 0 0) (show ((((nI c) - (nI c) / (nI (kT s 0)) * (nI (kT s 0))) + (iZ i)) + ((nI n) - (nI n) / (nI 3) * (nI 3))) - nI 1 = iZ (((((c % (kT s 0) : Nat) : Int) + i) + ((n % 3 : Nat) : Int)) - 1) from (sbZ (adZ (adZ (ntZ (rmE rfl rfl (by omega) (by omega))) rfl) (ntZ (rmE rfl rfl (by omega) (by omega)))) (ntZ rfl)))) ?_
      refine Eq.mpr (congrArg (fun xq : Int32 => At 184 [.ref (108), .int (nI k), .int (nI h), .long (bits), junk, .int (nI g), .long (tn ||| ar s (((c % kT s 0 : Nat) : Int) + i) (((c / kT s 0 : Nat) : Int) + j) n), junk, .int (iZ i), .int (iZ j), .int (nI c), .int (nI n), .int (((((nI c) - (nI c) / (nI (kT s 0)) * (nI (kT s 0))) + (iZ i)) + ((nI n) - (nI n) / (nI 3) * (nI 3))) - nI 1), .int (((((nI c) / (nI (kT s 0))) + (iZ j)) + ((nI n) / (nI 3))) - nI 1)] [.int xq, .int (iZ (((((c % (kT s 0) : Nat) : Int) + i) + ((n % 3 : Nat) : Int)) - 1)), .ref (108)] σ 0 0) (show ((((nI c) / (nI (kT s 0))) + (iZ j)) + ((nI n) / (nI 3))) - nI 1 = iZ (((((c / (kT s 0) : Nat) : Int) + j) + ((n / 3 : Nat) : Int)) - 1) from (sbZ (adZ (adZ (ntZ (dvE rfl rfl (by omega) (by omega))) rfl) (ntZ (dvE rfl rfl (by omega) (by omega)))) (ntZ rfl)))) ?_
      refine hAt 2 _ _ _ _ _ _ ?_
      refine s_isInZ hS hv (by omega) (by omega) ?_
      refine And.intro (fun hq => ?_) (fun hq => ?_)
      · have c187 : isInB s (((((c % (kT s 0) : Nat) : Int) + i) + ((n % 3 : Nat) : Int)) - 1) (((((c / (kT s 0) : Nat) : Int) + j) + ((n / 3 : Nat) : Int)) - 1) = false := bI_eq hq
        clear hq
        refine hAt 2 _ _ _ _ _ _ ?_
        refine Eq.mpr (congrArg (fun xq : Int32 => At 130 [.ref (108), .int (nI k), .int (nI h), .long (bits), junk, .int (nI g), .long (tn ||| ar s (((c % kT s 0 : Nat) : Int) + i) (((c / kT s 0 : Nat) : Int) + j) n), junk, .int (iZ i), .int (iZ j), .int (nI c), .int xq, .int (((((nI c) - (nI c) / (nI (kT s 0)) * (nI (kT s 0))) + (iZ i)) + ((nI n) - (nI n) / (nI 3) * (nI 3))) - nI 1), .int (((((nI c) / (nI (kT s 0))) + (iZ j)) + ((nI n) / (nI 3))) - nI 1)] [] σ 0 0) (show nI n + nI 1 = nI (n + 1) from (adE rfl rfl))) ?_
        refine Eq.mpr (congrArg (fun xq : Int32 => At 130 [.ref (108), .int (nI k), .int (nI h), .long (bits), junk, .int (nI g), .long (tn ||| ar s (((c % kT s 0 : Nat) : Int) + i) (((c / kT s 0 : Nat) : Int) + j) n), junk, .int (iZ i), .int (iZ j), .int (nI c), .int (nI (n + 1)), .int xq, .int (((((nI c) / (nI (kT s 0))) + (iZ j)) + ((nI n) / (nI 3))) - nI 1)] [] σ 0 0) (show ((((nI c) - (nI c) / (nI (kT s 0)) * (nI (kT s 0))) + (iZ i)) + ((nI n) - (nI n) / (nI 3) * (nI 3))) - nI 1 = iZ (((((c % (kT s 0) : Nat) : Int) + i) + ((n % 3 : Nat) : Int)) - 1) from (sbZ (adZ (adZ (ntZ (rmE rfl rfl (by omega) (by omega))) rfl) (ntZ (rmE rfl rfl (by omega) (by omega)))) (ntZ rfl)))) ?_
        refine Eq.mpr (congrArg (fun xq : Int32 => At 130 [.ref (108), .int (nI k), .int (nI h), .long (bits), junk, .int (nI g), .long (tn ||| ar s (((c % kT s 0 : Nat) : Int) + i) (((c / kT s 0 : Nat) : Int) + j) n), junk, .int (iZ i), .int (iZ j), .int (nI c), .int (nI (n + 1)), .int (iZ (((((c % (kT s 0) : Nat) : Int) + i) + ((n % 3 : Nat) : Int)) - 1)), .int xq] [] σ 0 0) (show ((((nI c) / (nI (kT s 0))) + (iZ j)) + ((nI n) / (nI 3))) - nI 1 = iZ (((((c / (kT s 0) : Nat) : Int) + j) + ((n / 3 : Nat) : Int)) - 1) from (sbZ (adZ (adZ (ntZ (dvE rfl rfl (by omega) (by omega))) rfl) (ntZ (dvE rfl rfl (by omega) (by omega)))) (ntZ rfl)))) ?_
        have q := ih (by omega) (.int (iZ (((((c % kT s 0 : Nat) : Int) + i) + ((n % 3 : Nat) : Int)) - 1))) (.int (iZ (((((c / kT s 0 : Nat) : Int) + j) + ((n / 3 : Nat) : Int)) - 1)))
        rw [ea, bo, if_neg (by rw [c187]; decide), or_0] at q
        exact q
      · have c187 : isInB s (((((c % (kT s 0) : Nat) : Int) + i) + ((n % 3 : Nat) : Int)) - 1) (((((c / (kT s 0) : Nat) : Int) + j) + ((n / 3 : Nat) : Int)) - 1) = true := bI_ne hq
        clear hq
        have g187 := isInB_s.mp c187
        refine hAt 5 _ _ _ _ _ _ ?_
        refine Eq.mpr (congrArg (fun xq : Int32 => At 198 [.ref (108), .int (nI k), .int (nI h), .long (bits), junk, .int (nI g), .long (tn ||| ar s (((c % kT s 0 : Nat) : Int) + i) (((c / kT s 0 : Nat) : Int) + j) n), junk, .int (iZ i), .int (iZ j), .int (nI c), .int (nI n), .int (((((nI c) - (nI c) / (nI (kT s 0)) * (nI (kT s 0))) + (iZ i)) + ((nI n) - (nI n) / (nI 3) * (nI 3))) - nI 1), .int (((((nI c) / (nI (kT s 0))) + (iZ j)) + ((nI n) / (nI 3))) - nI 1)] [.int (((((nI c) / (nI (kT s 0))) + (iZ j)) + ((nI n) / (nI 3))) - nI 1), .int xq, .ref (108), .long (lN 1), .long (tn ||| ar s (((c % kT s 0 : Nat) : Int) + i) (((c / kT s 0 : Nat) : Int) + j) n)] σ 0 0) (show ((((nI c) - (nI c) / (nI (kT s 0)) * (nI (kT s 0))) + (iZ i)) + ((nI n) - (nI n) / (nI 3) * (nI 3))) - nI 1 = iZ (((((c % (kT s 0) : Nat) : Int) + i) + ((n % 3 : Nat) : Int)) - 1) from (sbZ (adZ (adZ (ntZ (rmE rfl rfl (by omega) (by omega))) rfl) (ntZ (rmE rfl rfl (by omega) (by omega)))) (ntZ rfl)))) ?_
        refine Eq.mpr (congrArg (fun xq : Int32 => At 198 [.ref (108), .int (nI k), .int (nI h), .long (bits), junk, .int (nI g), .long (tn ||| ar s (((c % kT s 0 : Nat) : Int) + i) (((c / kT s 0 : Nat) : Int) + j) n), junk, .int (iZ i), .int (iZ j), .int (nI c), .int (nI n), .int (((((nI c) - (nI c) / (nI (kT s 0)) * (nI (kT s 0))) + (iZ i)) + ((nI n) - (nI n) / (nI 3) * (nI 3))) - nI 1), .int (((((nI c) / (nI (kT s 0))) + (iZ j)) + ((nI n) / (nI 3))) - nI 1)] [.int xq, .int (iZ (((((c % (kT s 0) : Nat) : Int) + i) + ((n % 3 : Nat) : Int)) - 1)), .ref (108), .long (lN 1), .long (tn ||| ar s (((c % kT s 0 : Nat) : Int) + i) (((c / kT s 0 : Nat) : Int) + j) n)] σ 0 0) (show ((((nI c) / (nI (kT s 0))) + (iZ j)) + ((nI n) / (nI 3))) - nI 1 = iZ (((((c / (kT s 0) : Nat) : Int) + j) + ((n / 3 : Nat) : Int)) - 1) from (sbZ (adZ (adZ (ntZ (dvE rfl rfl (by omega) (by omega))) rfl) (ntZ (dvE rfl rfl (by omega) (by omega)))) (ntZ rfl)))) ?_
        refine hAt 6 _ _ _ _ _ _ ?_
        refine s_Mcell hS hv (by omega) (by omega) ?_
        refine Eq.mpr (congrArg (fun xq : Int32 => At 130 [.ref (108), .int (nI k), .int (nI h), .long (bits), junk, .int (nI g), .long ((tn ||| ar s (((c % kT s 0 : Nat) : Int) + i) (((c / kT s 0 : Nat) : Int) + j) n) ||| ((lN 1) <<< ((nI (kT s 0 * (((((c / (kT s 0) : Nat) : Int) + j) + ((n / 3 : Nat) : Int)) - 1).toNat + (((((c % (kT s 0) : Nat) : Int) + i) + ((n % 3 : Nat) : Int)) - 1).toNat)).toInt64 &&& 63))), junk, .int (iZ i), .int (iZ j), .int (nI c), .int xq, .int (((((nI c) - (nI c) / (nI (kT s 0)) * (nI (kT s 0))) + (iZ i)) + ((nI n) - (nI n) / (nI 3) * (nI 3))) - nI 1), .int (((((nI c) / (nI (kT s 0))) + (iZ j)) + ((nI n) / (nI 3))) - nI 1)] [] σ 0 0) (show nI n + nI 1 = nI (n + 1) from (adE rfl rfl))) ?_
        refine Eq.mpr (congrArg (fun xq : Int32 => At 130 [.ref (108), .int (nI k), .int (nI h), .long (bits), junk, .int (nI g), .long ((tn ||| ar s (((c % kT s 0 : Nat) : Int) + i) (((c / kT s 0 : Nat) : Int) + j) n) ||| ((lN 1) <<< ((nI (kT s 0 * (((((c / (kT s 0) : Nat) : Int) + j) + ((n / 3 : Nat) : Int)) - 1).toNat + (((((c % (kT s 0) : Nat) : Int) + i) + ((n % 3 : Nat) : Int)) - 1).toNat)).toInt64 &&& 63))), junk, .int (iZ i), .int (iZ j), .int (nI c), .int (nI (n + 1)), .int xq, .int (((((nI c) / (nI (kT s 0))) + (iZ j)) + ((nI n) / (nI 3))) - nI 1)] [] σ 0 0) (show ((((nI c) - (nI c) / (nI (kT s 0)) * (nI (kT s 0))) + (iZ i)) + ((nI n) - (nI n) / (nI 3) * (nI 3))) - nI 1 = iZ (((((c % (kT s 0) : Nat) : Int) + i) + ((n % 3 : Nat) : Int)) - 1) from (sbZ (adZ (adZ (ntZ (rmE rfl rfl (by omega) (by omega))) rfl) (ntZ (rmE rfl rfl (by omega) (by omega)))) (ntZ rfl)))) ?_
        refine Eq.mpr (congrArg (fun xq : Int32 => At 130 [.ref (108), .int (nI k), .int (nI h), .long (bits), junk, .int (nI g), .long ((tn ||| ar s (((c % kT s 0 : Nat) : Int) + i) (((c / kT s 0 : Nat) : Int) + j) n) ||| ((lN 1) <<< ((nI (kT s 0 * (((((c / (kT s 0) : Nat) : Int) + j) + ((n / 3 : Nat) : Int)) - 1).toNat + (((((c % (kT s 0) : Nat) : Int) + i) + ((n % 3 : Nat) : Int)) - 1).toNat)).toInt64 &&& 63))), junk, .int (iZ i), .int (iZ j), .int (nI c), .int (nI (n + 1)), .int (iZ (((((c % (kT s 0) : Nat) : Int) + i) + ((n % 3 : Nat) : Int)) - 1)), .int xq] [] σ 0 0) (show ((((nI c) / (nI (kT s 0))) + (iZ j)) + ((nI n) / (nI 3))) - nI 1 = iZ (((((c / (kT s 0) : Nat) : Int) + j) + ((n / 3 : Nat) : Int)) - 1) from (sbZ (adZ (adZ (ntZ (dvE rfl rfl (by omega) (by omega))) rfl) (ntZ (dvE rfl rfl (by omega) (by omega)))) (ntZ rfl)))) ?_
        have q := ih (by omega) (.int (iZ (((((c % kT s 0 : Nat) : Int) + i) + ((n % 3 : Nat) : Int)) - 1))) (.int (iZ (((((c / kT s 0 : Nat) : Int) + j) + ((n / 3 : Nat) : Int)) - 1)))
        rw [ea, bo, if_pos c187, ← or_a] at q
        exact q
  have in2 : ∀ (bits : Int64) (g : Nat) (i j : Int), -1 ≤ i → i ≤ 1 → -1 ≤ j → j ≤ 1 → g < 1000 → (∀ z8 z9 z10 z11 z12 z13 (z6 z7 : AV), At 49 [.ref 108, .int (nI k), .int (nI h), .long (spd s bits i j (kT s 0 * kT s 1)), junk, .int (nI (g + 1)), z6, z7, z8, z9, z10, z11, z12, z13] [] σ 0 0) → ∀ c, c ≤ kT s 0 * kT s 1 → ∀ z11 z12 z13, At 95 [.ref 108, .int (nI k), .int (nI h), .long bits, junk, .int (nI g), .long (spd s bits i j c), junk, .int (iZ i), .int (iZ j), .int (nI c), z11, z12, z13] [] σ 0 0 := by
    intro bits g i j hi1 hi2 hj1 hj2 hg nxt
    refine upto fun c hc ih => ?_
    intro z11 z12 z13
    refine hAt 5 _ _ _ _ _ _ ?_
    refine And.intro (aOKx (n := 11) (j := 0) rfl (by decide) rfl rfl (by omega) (by omega)) ?_
    refine Eq.mpr (congrArg (fun xq : Int32 => At 103 [.ref (108), .int (nI k), .int (nI h), .long (bits), junk, .int (nI g), .long (spd s bits i j c), junk, .int (iZ i), .int (iZ j), .int (nI c), z11, z12, z13] [.int xq, .int (nI c)] σ 0 0) (show rI σ 111 (nI 0).toNatClampNeg = nI (kT s 0) from (ldE rfl (by omega) (hS.1 0 (by omega))))) ?_
    refine hAt 4 _ _ _ _ _ _ ?_
    refine And.intro (aOKx (n := 11) (j := 1) rfl (by decide) rfl rfl (by omega) (by omega)) ?_
    refine Eq.mpr (congrArg (fun xq : Int32 => At 109 [.ref (108), .int (nI k), .int (nI h), .long (bits), junk, .int (nI g), .long (spd s bits i j c), junk, .int (iZ i), .int (iZ j), .int (nI c), z11, z12, z13] [.int xq, .int (nI (kT s 0)), .int (nI c)] σ 0 0) (show rI σ 111 (nI 1).toNatClampNeg = nI (kT s 1) from (ldE rfl (by omega) (hS.1 1 (by omega))))) ?_
    refine hAt 2 _ _ _ _ _ _ ?_
    refine And.intro (fun hq => ?_) (fun hq => ?_)
    · have c110 : (kT s 0) * (kT s 1) ≤ c := (leN (a := (kT s 0) * (kT s 1)) (b := c) (mlE rfl rfl) rfl (by omega) (by omega)).mp hq
      clear hq
      refine hAt 4 _ _ _ _ _ _ ?_
      refine Eq.mpr (congrArg (fun xq : Int32 => At 49 [.ref (108), .int (nI k), .int (nI h), .long (spd s bits i j c), junk, .int xq, .long (spd s bits i j c), junk, .int (iZ i), .int (iZ j), .int (nI c), z11, z12, z13] [] σ 0 0) (show nI g + nI 1 = nI (g + 1) from (adE rfl rfl))) ?_
      have e : c = kT s 0 * kT s 1 := by omega
      subst e
      exact nxt _ _ _ _ _ _ _ _
    · have c110 : c < (kT s 0) * (kT s 1) := Nat.lt_of_not_le (fun zq => hq ((leN (a := (kT s 0) * (kT s 1)) (b := c) (mlE rfl rfl) rfl (by omega) (by omega)).mpr zq))
      clear hq
      refine hAt 8 _ _ _ _ _ _ ?_
      refine And.intro (fun hq => ?_) (fun hq => ?_)
      · have c121 : ¬ lg_cmp ((((bits).toUInt64 >>> ((nI c).toInt64.toUInt64 &&& Int64.toUInt64 63)).toInt64) &&& (lN 1)) (lN 0) = nI 0 := hq
        clear hq
        refine hAt 2 _ _ _ _ _ _ ?_
        have e : hasB bits c = true := by
          cases g : hasB bits c with
          | true => rfl
          | false => exact absurd (lcmp0.mpr ((hasB_u (by omega)).mpr g)) c121
        have q := in3 bits (spd s bits i j c) g c i j hi1 hi2 hj1 hj2 (by omega) (fun z11 z12 z13 => by have q := ih (by omega) z11 z12 z13; rw [spd, if_pos e] at q; exact q) 0 (by omega) z12 z13
        rw [show ar s (((c % kT s 0 : Nat) : Int) + i) (((c / kT s 0 : Nat) : Int) + j) 0 = lN 0 from rfl, or_0] at q
        exact q
      · have c121 : lg_cmp ((((bits).toUInt64 >>> ((nI c).toInt64.toUInt64 &&& Int64.toUInt64 63)).toInt64) &&& (lN 1)) (lN 0) = nI 0 := hq
        clear hq
        refine hAt 3 _ _ _ _ _ _ ?_
        refine Eq.mpr (congrArg (fun xq : Int32 => At 95 [.ref (108), .int (nI k), .int (nI h), .long (bits), junk, .int (nI g), .long (spd s bits i j c), junk, .int (iZ i), .int (iZ j), .int xq, z11, z12, z13] [] σ 0 0) (show nI c + nI 1 = nI (c + 1) from (adE rfl rfl))) ?_
        have e := (hasB_u (by omega)).mp (lcmp0.mp c121)
        have q := ih (by omega) z11 z12 z13
        rw [spd, if_neg (by rw [e]; decide)] at q
        exact q
  have in1 : ∀ n, n ≤ h + 1 → kC s k 3 < n → ∀ z8 z9 z10 z11 z12 z13 (z6 z7 : AV), At 49 [.ref 108, .int (nI k), .int (nI h), .long (dbt s k (n - 1)), junk, .int (nI n), z6, z7, z8, z9, z10, z11, z12, z13] [] σ 0 0 := by
    refine upto fun n hn ih => ?_
    intro hg z8 z9 z10 z11 z12 z13 z6 z7
    obtain ⟨m, rfl⟩ : ∃ m, n = m + 1 := ⟨n - 1, by omega⟩
    rw [Nat.add_sub_cancel]
    have b0 := blw_b hv (kC s k 2) (m + 1) 0 (by omega)
    have b1 := blw_b hv (kC s k 2) (m + 1) 1 (by omega)
    refine hAt 3 _ _ _ _ _ _ ?_
    refine And.intro (fun hq => ?_) (fun hq => ?_)
    · have c52 : h < m + 1 := (ltN (a := h) (b := m + 1) rfl rfl (by omega) (by omega)).mp hq
      clear hq
      refine hAt 2 _ _ _ _ _ _ ?_
      have e : m = h := by omega
      subst e
      exact hP
    · have c52 : m + 1 ≤ h := Nat.le_of_not_lt (fun zq => hq ((ltN (a := h) (b := m + 1) rfl rfl (by omega) (by omega)).mpr zq))
      clear hq
      refine hAt 7 _ _ _ _ _ _ ?_
      refine And.intro (mx_r (q := 141) (n := 8) (k := 7) rfl rfl (show k < 8 by omega)) (And.intro (Or.inl rfl) ?_)
      refine Eq.mpr (congrArg (fun xq : Nat => At 65 [.ref (108), .int (nI k), .int (nI h), .long (dbt s k m), junk, .int (nI (m + 1)), .long (lN 0), junk, z8, z9, z10, z11, z12, z13] [.ref xq, .ref (108)] σ 0 0) (rwE rfl (by omega))) ?_
      refine hAt 2 _ _ _ _ _ _ ?_
      refine And.intro (mx_e (q := 141) (n := 8) (k := 7) (j := k) (i := 2) rfl (by omega) (by omega) rfl) ?_
      refine Eq.mpr (congrArg (fun xq : Int32 => At 67 [.ref (108), .int (nI k), .int (nI h), .long (dbt s k m), junk, .int (nI (m + 1)), .long (lN 0), junk, z8, z9, z10, z11, z12, z13] [.int xq, .ref (108)] σ 0 0) (show rI σ (141 + 1 + k) (nI 2).toNatClampNeg = nI (kC s k 2) from (ldE rfl (by omega) (hS.2.2.1 k (by omega) 2 (by omega))))) ?_
      refine hAt 9 _ _ _ _ _ _ ?_
      refine s_blows hS hv (by omega) (by omega) (by omega) ?_
      refine And.intro (mx_r (q := 141) (n := 8) (k := 7) rfl rfl (show k < 8 by omega)) (And.intro (Or.inl rfl) ?_)
      refine Eq.mpr (congrArg (fun xq : Nat => At 82 [.ref (108), .int (nI k), .int (nI h), .long (dbt s k m), junk, .int (nI (m + 1)), .long (lN 0), junk, .int (iZ (blw s (kC s k 2) (m + 1) 0)), z9, z10, z11, z12, z13] [.ref xq, .ref (108)] σ 0 0) (rwE rfl (by omega))) ?_
      refine hAt 2 _ _ _ _ _ _ ?_
      refine And.intro (mx_e (q := 141) (n := 8) (k := 7) (j := k) (i := 2) rfl (by omega) (by omega) rfl) ?_
      refine Eq.mpr (congrArg (fun xq : Int32 => At 84 [.ref (108), .int (nI k), .int (nI h), .long (dbt s k m), junk, .int (nI (m + 1)), .long (lN 0), junk, .int (iZ (blw s (kC s k 2) (m + 1) 0)), z9, z10, z11, z12, z13] [.int xq, .ref (108)] σ 0 0) (show rI σ (141 + 1 + k) (nI 2).toNatClampNeg = nI (kC s k 2) from (ldE rfl (by omega) (hS.2.2.1 k (by omega) 2 (by omega))))) ?_
      refine hAt 6 _ _ _ _ _ _ ?_
      refine s_blows hS hv (by omega) (by omega) (by omega) ?_
      refine in2 (dbt s k m) (m + 1) _ _ b0.1 b0.2 b1.1 b1.2 (by omega) (fun z8 z9 z10 z11 z12 z13 z6 z7 => ?_) 0 (by omega) _ _ _
      have q := ih (by omega) (by omega) z8 z9 z10 z11 z12 z13 z6 z7
      rw [Nat.add_sub_cancel, dbt_s (by omega)] at q
      exact q
  refine hAt 5 _ _ _ _ _ _ ?_
  refine And.intro (mx_r (q := 141) (n := 8) (k := 7) rfl rfl (show k < 8 by omega)) (And.intro (Or.inl rfl) ?_)
  refine Eq.mpr (congrArg (fun xq : Nat => At 7 [.ref (108), .int (nI k), .int (nI h), junk, junk, junk, junk, junk, junk, junk, junk, junk, junk, junk] [.ref xq, .int (nI h)] σ 0 0) (rwE rfl (by omega))) ?_
  refine hAt 2 _ _ _ _ _ _ ?_
  refine And.intro (mx_e (q := 141) (n := 8) (k := 7) (j := k) (i := 3) rfl (by omega) (by omega) rfl) ?_
  refine Eq.mpr (congrArg (fun xq : Int32 => At 9 [.ref (108), .int (nI k), .int (nI h), junk, junk, junk, junk, junk, junk, junk, junk, junk, junk, junk] [.int xq, .int (nI h)] σ 0 0) (show rI σ (141 + 1 + k) (nI 3).toNatClampNeg = nI (kC s k 3) from (ldE rfl (by omega) (hS.2.2.1 k (by omega) 3 (by omega))))) ?_
  refine hAt 1 _ _ _ _ _ _ ?_
  refine And.intro (fun hq => ?_) (fun hq => ?_)
  · have c9 : kC s k 3 ≤ h := (leN (a := kC s k 3) (b := h) rfl rfl (by omega) (by omega)).mp hq
    clear hq
    refine hAt 6 _ _ _ _ _ _ ?_
    refine And.intro (mx_r (q := 141) (n := 8) (k := 7) rfl rfl (show k < 8 by omega)) (And.intro (Or.inl rfl) ?_)
    refine Eq.mpr (congrArg (fun xq : Nat => At 22 [.ref (108), .int (nI k), .int (nI h), junk, junk, junk, junk, junk, junk, junk, junk, junk, junk, junk] [.ref xq, .ref (108), .long (lN 1)] σ 0 0) (rwE rfl (by omega))) ?_
    refine hAt 2 _ _ _ _ _ _ ?_
    refine And.intro (mx_e (q := 141) (n := 8) (k := 7) (j := k) (i := 0) rfl (by omega) (by omega) rfl) ?_
    refine Eq.mpr (congrArg (fun xq : Int32 => At 24 [.ref (108), .int (nI k), .int (nI h), junk, junk, junk, junk, junk, junk, junk, junk, junk, junk, junk] [.int xq, .ref (108), .long (lN 1)] σ 0 0) (show rI σ (141 + 1 + k) (nI 0).toNatClampNeg = nI (kC s k 0) from (ldE rfl (by omega) (hS.2.2.1 k (by omega) 0 (by omega))))) ?_
    refine hAt 4 _ _ _ _ _ _ ?_
    refine And.intro (mx_r (q := 141) (n := 8) (k := 7) rfl rfl (show k < 8 by omega)) (And.intro (Or.inl rfl) ?_)
    refine Eq.mpr (congrArg (fun xq : Nat => At 30 [.ref (108), .int (nI k), .int (nI h), junk, junk, junk, junk, junk, junk, junk, junk, junk, junk, junk] [.ref xq, .int (nI (kC s k 0)), .ref (108), .long (lN 1)] σ 0 0) (rwE rfl (by omega))) ?_
    refine hAt 2 _ _ _ _ _ _ ?_
    refine And.intro (mx_e (q := 141) (n := 8) (k := 7) (j := k) (i := 1) rfl (by omega) (by omega) rfl) ?_
    refine Eq.mpr (congrArg (fun xq : Int32 => At 32 [.ref (108), .int (nI k), .int (nI h), junk, junk, junk, junk, junk, junk, junk, junk, junk, junk, junk] [.int xq, .int (nI (kC s k 0)), .ref (108), .long (lN 1)] σ 0 0) (show rI σ (141 + 1 + k) (nI 1).toNatClampNeg = nI (kC s k 1) from (ldE rfl (by omega) (hS.2.2.1 k (by omega) 1 (by omega))))) ?_
    refine hAt 0 _ _ _ _ _ _ ?_
    refine Eq.mpr (congrArg (fun xq : Int32 => At 32 [.ref (108), .int (nI k), .int (nI h), junk, junk, junk, junk, junk, junk, junk, junk, junk, junk, junk] [.int (nI (kC s k 1)), .int xq, .ref (108), .long (lN 1)] σ 0 0) (ntZ rfl)) ?_
    refine Eq.mpr (congrArg (fun xq : Int32 => At 32 [.ref (108), .int (nI k), .int (nI h), junk, junk, junk, junk, junk, junk, junk, junk, junk, junk, junk] [.int xq, .int (iZ ((kC s k 0 : Nat) : Int)), .ref (108), .long (lN 1)] σ 0 0) (ntZ rfl)) ?_
    refine hAt 7 _ _ _ _ _ _ ?_
    refine s_Mcell hS hv (by omega) (by omega) ?_
    refine And.intro (mx_r (q := 141) (n := 8) (k := 7) rfl rfl (show k < 8 by omega)) (And.intro (Or.inl rfl) ?_)
    refine Eq.mpr (congrArg (fun xq : Nat => At 43 [.ref (108), .int (nI k), .int (nI h), .long ((lN 1) <<< ((nI (kT s 0 * (((kC s k 1 : Nat) : Int)).toNat + (((kC s k 0 : Nat) : Int)).toNat)).toInt64 &&& 63)), junk, junk, junk, junk, junk, junk, junk, junk, junk, junk] [.ref xq] σ 0 0) (rwE rfl (by omega))) ?_
    refine hAt 2 _ _ _ _ _ _ ?_
    refine And.intro (mx_e (q := 141) (n := 8) (k := 7) (j := k) (i := 3) rfl (by omega) (by omega) rfl) ?_
    refine Eq.mpr (congrArg (fun xq : Int32 => At 45 [.ref (108), .int (nI k), .int (nI h), .long ((lN 1) <<< ((nI (kT s 0 * (((kC s k 1 : Nat) : Int)).toNat + (((kC s k 0 : Nat) : Int)).toNat)).toInt64 &&& 63)), junk, junk, junk, junk, junk, junk, junk, junk, junk, junk] [.int xq] σ 0 0) (show rI σ (141 + 1 + k) (nI 3).toNatClampNeg = nI (kC s k 3) from (ldE rfl (by omega) (hS.2.2.1 k (by omega) 3 (by omega))))) ?_
    refine hAt 3 _ _ _ _ _ _ ?_
    refine Eq.mpr (congrArg (fun xq : Int32 => At 49 [.ref (108), .int (nI k), .int (nI h), .long ((lN 1) <<< ((nI (kT s 0 * (((kC s k 1 : Nat) : Int)).toNat + (((kC s k 0 : Nat) : Int)).toNat)).toInt64 &&& 63)), junk, .int xq, junk, junk, junk, junk, junk, junk, junk, junk] [] σ 0 0) (show (nI (kC s k 3)) + nI 1 = nI (kC s k 3 + 1) from (adE rfl rfl))) ?_
    have q := in1 (kC s k 3 + 1) (by omega) (by omega) junk junk junk junk junk junk junk junk
    rw [Nat.add_sub_cancel, dbt_at, bo, if_pos (isInB_s.mpr (by omega))] at q
    exact q
  · have c9 : h < kC s k 3 := Nat.lt_of_not_le (fun zq => hq ((leN (a := kC s k 3) (b := h) rfl rfl (by omega) (by omega)).mpr zq))
    clear hq
    refine hAt 2 _ _ _ _ _ _ ?_
    rw [dbt_lt (by omega)] at hP; exact hP
end DBC
