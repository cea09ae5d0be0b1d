/-! THE SKY on the component's side: winds, cells as bits -/
theorem upto {N : Nat} {Q : Nat → Prop} (h : ∀ k, k ≤ N → (k < N → Q (k + 1)) → Q k) : ∀ k, k ≤ N → Q k := by
  have g : ∀ m k, k + m = N → Q k := by
    intro m
    induction m with
    | zero => exact fun k hk => h k (by omega) (fun z => absurd z (by omega))
    | succ m ih => exact fun k hk => h k (by omega) (fun _ => ih (k + 1) (by omega))
  exact fun k hk => g (N - k) k (by omega)
def skP (σ : Mem) (f : Nat) (s : Sk) : Prop :=
  (∀ i, (i = 0 ∨ i = 1 ∨ (5 ≤ i ∧ i ≤ 9)) → rI σ (f + 1) i = nI (kT s i)) ∧
  tbR σ (f + 2) (f + 3) 4 (kT s 10, kW s) ∧ tbR σ (f + 4) (f + 5) 7 (kT s 2, kC s) ∧ tbR σ (f + 6) (f + 7) 6 (kT s 3, kF s) ∧ tbR σ (f + 8) (f + 9) 3 (kT s 4, kI s)
theorem skC.p {σ : Mem} {f : Nat} {s : Sk} (h : skC σ f s) : skP σ f s := ⟨h.1, h.2.1, h.2.2.1, h.2.2.2.1, h.2.2.2.2.1⟩
section SKC
variable {w : Wd} {d : Nat} {σ : Mem} {s : Sk} {P : Option AV → Mem → Prop} {X : Nat → Mem → Prop}
theorem s_windAt_3 {z h : Nat} (hS : skP σ 4 s) (hv : VS s) (hz : z < 1000) (hh : h < 1000) (hP : P (some (.int (oI (wOf s z h (kT s 10))))) σ) : Ret w true (d + 2) 0 0 m_Sky_windAt [.ref 3, .int (nI z), .int (nI h)] σ P X := by
  obtain ⟨s1, s2, s3, s4, s5, -, -, -, -, -, s6, s7, s8, s9, s10, -⟩ := hv
  refine meth_ok k_Sky_windAt q_Sky_windAt rfl fun At hAt => ?_
  have loop : ∀ k, k ≤ kT s 10 → ∀ z5, At 5 [.ref 3, .int (nI z), .int (nI h), .int (oI (wOf s z h k)), .int (nI k), z5] [] σ 0 0 := by
    refine upto fun k hk ih => ?_
    intro z5
    refine hAt 4 _ _ _ _ _ _ ?_
    refine s_Table_size (a := 6) (na := 7) (mo := 9) (wd := 4) rfl ?_
    refine Eq.mpr (congrArg (fun xq : Int32 => At 14 [.ref (3), .int (nI z), .int (nI h), .int (oI (wOf s z h k)), .int (nI k), z5] [.int xq, .int (nI k)] σ 0 0) (show rI σ 6 3 = nI (kT s 10) from hS.2.1.1)) ?_
    refine hAt 1 _ _ _ _ _ _ ?_
    refine And.intro (fun hq => ?_) (fun hq => ?_)
    · have c14 : kT s 10 ≤ k := (leN (a := kT s 10) (b := k) rfl rfl (by omega) (by omega)).mp hq
      clear hq
      refine hAt 2 _ _ _ _ _ _ ?_
      obtain rfl : k = kT s 10 := by omega
      exact hP
    · have c14 : k < kT s 10 := Nat.lt_of_not_le (fun zq => hq ((leN (a := kT s 10) (b := k) rfl rfl (by omega) (by omega)).mpr zq))
      clear hq
      have b := s7 k c14
      have q := ih c14
      have skip : ¬ (decide (kW s k 0 = z ∧ kW s k 1 ≤ h) && lateB s k (wOf s z h k)) = true → ∀ z5, At 5 [.ref 3, .int (nI z), .int (nI h), .int (oI (wOf s z h k)), .int (nI (k + 1)), z5] [] σ 0 0 := by
        intro g
        rw [show wOf s z h (k + 1) = wOf s z h k by rw [wOf, if_neg g]] at q
        exact q
      have take : (decide (kW s k 0 = z ∧ kW s k 1 ≤ h) && lateB s k (wOf s z h k)) = true → ∀ z5, At 5 [.ref 3, .int (nI z), .int (nI h), .int (nI k), .int (nI (k + 1)), z5] [] σ 0 0 := by
        intro g
        rw [show wOf s z h (k + 1) = some k by rw [wOf, if_pos g]] at q
        exact q
      refine hAt 5 _ _ _ _ _ _ ?_
      refine s_Table_get (a := 6) (na := 7) (mo := 9) (wd := 4) rfl (show k < 9 by omega) (show 0 < 4 by omega) ?_
      refine Eq.mpr (congrArg (fun xq : Int32 => At 27 [.ref (3), .int (nI z), .int (nI h), .int (oI (wOf s z h k)), .int (nI k), z5] [.int xq] σ 0 0) (show rI σ 7 (k * 4 + 0) = nI (kW s k 0) from (hS.2.1.2 k (by omega) 0 (by omega)))) ?_
      refine hAt 2 _ _ _ _ _ _ ?_
      refine And.intro (fun hq => ?_) (fun hq => ?_)
      · have c28 : ¬ kW s k 0 = z := fun zq => hq ((eqN (a := kW s k 0) (b := z) rfl rfl (by omega) (by omega)).mpr zq)
        clear hq
        refine hAt 4 _ _ _ _ _ _ ?_
        refine And.intro (fun _ => ?_) (fun hq => absurd hq (by decide))
        refine hAt 2 _ _ _ _ _ _ ?_
        refine Eq.mpr (congrArg (fun xq : Int32 => At 5 [.ref (3), .int (nI z), .int (nI h), .int (oI (wOf s z h k)), .int xq, .int (nI 0)] [] σ 0 0) (show nI k + nI 1 = nI (k + 1) from (adE rfl rfl))) ?_
        exact skip (fun y => by rw [Bool.and_eq_true, decide_eq_true_eq] at y; omega) _
      · have c28 : kW s k 0 = z := (eqN (a := kW s k 0) (b := z) rfl rfl (by omega) (by omega)).mp hq
        clear hq
        refine hAt 5 _ _ _ _ _ _ ?_
        refine s_Table_get (a := 6) (na := 7) (mo := 9) (wd := 4) rfl (show k < 9 by omega) (show 1 < 4 by omega) ?_
        refine Eq.mpr (congrArg (fun xq : Int32 => At 41 [.ref (3), .int (nI z), .int (nI h), .int (oI (wOf s z h k)), .int (nI k), z5] [.int xq] σ 0 0) (show rI σ 7 (k * 4 + 1) = nI (kW s k 1) from (hS.2.1.2 k (by omega) 1 (by omega)))) ?_
        refine hAt 2 _ _ _ _ _ _ ?_
        refine And.intro (fun hq => ?_) (fun hq => ?_)
        · have c42 : h < kW s k 1 := (ltN (a := h) (b := kW s k 1) rfl rfl (by omega) (by omega)).mp hq
          clear hq
          refine hAt 4 _ _ _ _ _ _ ?_
          refine And.intro (fun _ => ?_) (fun hq => absurd hq (by decide))
          refine hAt 2 _ _ _ _ _ _ ?_
          refine Eq.mpr (congrArg (fun xq : Int32 => At 5 [.ref (3), .int (nI z), .int (nI h), .int (oI (wOf s z h k)), .int xq, .int (nI 0)] [] σ 0 0) (show nI k + nI 1 = nI (k + 1) from (adE rfl rfl))) ?_
          exact skip (fun y => by rw [Bool.and_eq_true, decide_eq_true_eq] at y; omega) _
        · have c42 : kW s k 1 ≤ h := Nat.le_of_not_lt (fun zq => hq ((ltN (a := h) (b := kW s k 1) rfl rfl (by omega) (by omega)).mpr zq))
          clear hq
          refine hAt 5 _ _ _ _ _ _ ?_
          refine And.intro (fun hq => absurd hq (by decide)) (fun _ => ?_)
          refine hAt 3 _ _ _ _ _ _ ?_
          cases e59 : wOf s z h k with
          | none =>
            rw [e59] at skip
            refine And.intro (fun _ => ?_) (fun hq => absurd rfl hq)
            refine hAt 4 _ _ _ _ _ _ ?_
            refine Eq.mpr (congrArg (fun xq : Int32 => At 5 [.ref (3), .int (nI z), .int (nI h), .int (nI k), .int xq, .int (nI 1)] [] σ 0 0) (show nI k + nI 1 = nI (k + 1) from (adE rfl rfl))) ?_
            exact take (by rw [e59, decide_eq_true ⟨c28, by omega⟩]; rfl) _
          | some bb59 =>
            have hb := wOf_lt s z h k bb59 e59
            have b2 := s7 bb59 (by omega)
            rw [e59] at skip take
            refine And.intro (fun hq => absurd hq (nI_m1 (by omega))) (fun _ => ?_)
            refine hAt 5 _ _ _ _ _ _ ?_
            refine s_Table_get (a := 6) (na := 7) (mo := 9) (wd := 4) rfl (show k < 9 by omega) (show 1 < 4 by omega) ?_
            refine Eq.mpr (congrArg (fun xq : Int32 => At 72 [.ref (3), .int (nI z), .int (nI h), .int (oI (some bb59)), .int (nI k), .int (nI 1)] [.int xq] σ 0 0) (show rI σ 7 (k * 4 + 1) = nI (kW s k 1) from (hS.2.1.2 k (by omega) 1 (by omega)))) ?_
            refine hAt 5 _ _ _ _ _ _ ?_
            refine s_Table_get (a := 6) (na := 7) (mo := 9) (wd := 4) rfl (show bb59 < 9 by omega) (show 1 < 4 by omega) ?_
            refine Eq.mpr (congrArg (fun xq : Int32 => At 81 [.ref (3), .int (nI z), .int (nI h), .int (oI (some bb59)), .int (nI k), .int (nI 1)] [.int xq, .int (nI (kW s k 1))] σ 0 0) (show rI σ 7 (bb59 * 4 + 1) = nI (kW s bb59 1) from (hS.2.1.2 bb59 (by omega) 1 (by omega)))) ?_
            refine hAt 1 _ _ _ _ _ _ ?_
            refine And.intro (fun hq => ?_) (fun hq => ?_)
            · have c81 : kW s k 1 < kW s bb59 1 := (ltN (a := kW s k 1) (b := kW s bb59 1) rfl rfl (by omega) (by omega)).mp hq
              clear hq
              refine hAt 2 _ _ _ _ _ _ ?_
              refine Eq.mpr (congrArg (fun xq : Int32 => At 5 [.ref (3), .int (nI z), .int (nI h), .int (oI (some bb59)), .int xq, .int (nI 1)] [] σ 0 0) (show nI k + nI 1 = nI (k + 1) from (adE rfl rfl))) ?_
              refine skip (fun y => ?_) _
              rw [Bool.and_eq_true, decide_eq_true_eq] at y
              have y2 := of_decide_eq_true (show decide (kW s bb59 1 ≤ kW s k 1) = true from y.2)
              omega
            · have c81 : kW s bb59 1 ≤ kW s k 1 := Nat.le_of_not_lt (fun zq => hq ((ltN (a := kW s k 1) (b := kW s bb59 1) rfl rfl (by omega) (by omega)).mpr zq))
              clear hq
              refine hAt 4 _ _ _ _ _ _ ?_
              refine Eq.mpr (congrArg (fun xq : Int32 => At 5 [.ref (3), .int (nI z), .int (nI h), .int (nI k), .int xq, .int (nI 1)] [] σ 0 0) (show nI k + nI 1 = nI (k + 1) from (adE rfl rfl))) ?_
              exact take (by rw [Bool.and_eq_true, decide_eq_true_eq]; exact ⟨⟨c28, by omega⟩, decide_eq_true (by omega)⟩) _
  refine hAt 4 _ _ _ _ _ _ ?_
  exact loop 0 (by omega) _
theorem s_windAt_17 {z h : Nat} (hS : skP σ 18 s) (hv : VS s) (hz : z < 1000) (hh : h < 1000) (hP : P (some (.int (oI (wOf s z h (kT s 10))))) σ) : Ret w true (d + 2) 0 0 m_Sky_windAt [.ref 17, .int (nI z), .int (nI h)] σ P X := by
  obtain ⟨s1, s2, s3, s4, s5, -, -, -, -, -, s6, s7, s8, s9, s10, -⟩ := hv
  refine meth_ok k_Sky_windAt q_Sky_windAt rfl fun At hAt => ?_
  have loop : ∀ k, k ≤ kT s 10 → ∀ z5, At 5 [.ref 17, .int (nI z), .int (nI h), .int (oI (wOf s z h k)), .int (nI k), z5] [] σ 0 0 := by
    refine upto fun k hk ih => ?_
    intro z5
    refine hAt 4 _ _ _ _ _ _ ?_
    refine s_Table_size (a := 20) (na := 21) (mo := 9) (wd := 4) rfl ?_
    refine Eq.mpr (congrArg (fun xq : Int32 => At 14 [.ref (17), .int (nI z), .int (nI h), .int (oI (wOf s z h k)), .int (nI k), z5] [.int xq, .int (nI k)] σ 0 0) (show rI σ 20 3 = nI (kT s 10) from hS.2.1.1)) ?_
    refine hAt 1 _ _ _ _ _ _ ?_
    refine And.intro (fun hq => ?_) (fun hq => ?_)
    · have c14 : kT s 10 ≤ k := (leN (a := kT s 10) (b := k) rfl rfl (by omega) (by omega)).mp hq
      clear hq
      refine hAt 2 _ _ _ _ _ _ ?_
      obtain rfl : k = kT s 10 := by omega
      exact hP
    · have c14 : k < kT s 10 := Nat.lt_of_not_le (fun zq => hq ((leN (a := kT s 10) (b := k) rfl rfl (by omega) (by omega)).mpr zq))
      clear hq
      have b := s7 k c14
      have q := ih c14
      have skip : ¬ (decide (kW s k 0 = z ∧ kW s k 1 ≤ h) && lateB s k (wOf s z h k)) = true → ∀ z5, At 5 [.ref 17, .int (nI z), .int (nI h), .int (oI (wOf s z h k)), .int (nI (k + 1)), z5] [] σ 0 0 := by
        intro g
        rw [show wOf s z h (k + 1) = wOf s z h k by rw [wOf, if_neg g]] at q
        exact q
      have take : (decide (kW s k 0 = z ∧ kW s k 1 ≤ h) && lateB s k (wOf s z h k)) = true → ∀ z5, At 5 [.ref 17, .int (nI z), .int (nI h), .int (nI k), .int (nI (k + 1)), z5] [] σ 0 0 := by
        intro g
        rw [show wOf s z h (k + 1) = some k by rw [wOf, if_pos g]] at q
        exact q
      refine hAt 5 _ _ _ _ _ _ ?_
      refine s_Table_get (a := 20) (na := 21) (mo := 9) (wd := 4) rfl (show k < 9 by omega) (show 0 < 4 by omega) ?_
      refine Eq.mpr (congrArg (fun xq : Int32 => At 27 [.ref (17), .int (nI z), .int (nI h), .int (oI (wOf s z h k)), .int (nI k), z5] [.int xq] σ 0 0) (show rI σ 21 (k * 4 + 0) = nI (kW s k 0) from (hS.2.1.2 k (by omega) 0 (by omega)))) ?_
      refine hAt 2 _ _ _ _ _ _ ?_
      refine And.intro (fun hq => ?_) (fun hq => ?_)
      · have c28 : ¬ kW s k 0 = z := fun zq => hq ((eqN (a := kW s k 0) (b := z) rfl rfl (by omega) (by omega)).mpr zq)
        clear hq
        refine hAt 4 _ _ _ _ _ _ ?_
        refine And.intro (fun _ => ?_) (fun hq => absurd hq (by decide))
        refine hAt 2 _ _ _ _ _ _ ?_
        refine Eq.mpr (congrArg (fun xq : Int32 => At 5 [.ref (17), .int (nI z), .int (nI h), .int (oI (wOf s z h k)), .int xq, .int (nI 0)] [] σ 0 0) (show nI k + nI 1 = nI (k + 1) from (adE rfl rfl))) ?_
        exact skip (fun y => by rw [Bool.and_eq_true, decide_eq_true_eq] at y; omega) _
      · have c28 : kW s k 0 = z := (eqN (a := kW s k 0) (b := z) rfl rfl (by omega) (by omega)).mp hq
        clear hq
        refine hAt 5 _ _ _ _ _ _ ?_
        refine s_Table_get (a := 20) (na := 21) (mo := 9) (wd := 4) rfl (show k < 9 by omega) (show 1 < 4 by omega) ?_
        refine Eq.mpr (congrArg (fun xq : Int32 => At 41 [.ref (17), .int (nI z), .int (nI h), .int (oI (wOf s z h k)), .int (nI k), z5] [.int xq] σ 0 0) (show rI σ 21 (k * 4 + 1) = nI (kW s k 1) from (hS.2.1.2 k (by omega) 1 (by omega)))) ?_
        refine hAt 2 _ _ _ _ _ _ ?_
        refine And.intro (fun hq => ?_) (fun hq => ?_)
        · have c42 : h < kW s k 1 := (ltN (a := h) (b := kW s k 1) rfl rfl (by omega) (by omega)).mp hq
          clear hq
          refine hAt 4 _ _ _ _ _ _ ?_
          refine And.intro (fun _ => ?_) (fun hq => absurd hq (by decide))
          refine hAt 2 _ _ _ _ _ _ ?_
          refine Eq.mpr (congrArg (fun xq : Int32 => At 5 [.ref (17), .int (nI z), .int (nI h), .int (oI (wOf s z h k)), .int xq, .int (nI 0)] [] σ 0 0) (show nI k + nI 1 = nI (k + 1) from (adE rfl rfl))) ?_
          exact skip (fun y => by rw [Bool.and_eq_true, decide_eq_true_eq] at y; omega) _
        · have c42 : kW s k 1 ≤ h := Nat.le_of_not_lt (fun zq => hq ((ltN (a := h) (b := kW s k 1) rfl rfl (by omega) (by omega)).mpr zq))
          clear hq
          refine hAt 5 _ _ _ _ _ _ ?_
          refine And.intro (fun hq => absurd hq (by decide)) (fun _ => ?_)
          refine hAt 3 _ _ _ _ _ _ ?_
          cases e59 : wOf s z h k with
          | none =>
            rw [e59] at skip
            refine And.intro (fun _ => ?_) (fun hq => absurd rfl hq)
            refine hAt 4 _ _ _ _ _ _ ?_
            refine Eq.mpr (congrArg (fun xq : Int32 => At 5 [.ref (17), .int (nI z), .int (nI h), .int (nI k), .int xq, .int (nI 1)] [] σ 0 0) (show nI k + nI 1 = nI (k + 1) from (adE rfl rfl))) ?_
            exact take (by rw [e59, decide_eq_true ⟨c28, by omega⟩]; rfl) _
          | some bb59 =>
            have hb := wOf_lt s z h k bb59 e59
            have b2 := s7 bb59 (by omega)
            rw [e59] at skip take
            refine And.intro (fun hq => absurd hq (nI_m1 (by omega))) (fun _ => ?_)
            refine hAt 5 _ _ _ _ _ _ ?_
            refine s_Table_get (a := 20) (na := 21) (mo := 9) (wd := 4) rfl (show k < 9 by omega) (show 1 < 4 by omega) ?_
            refine Eq.mpr (congrArg (fun xq : Int32 => At 72 [.ref (17), .int (nI z), .int (nI h), .int (oI (some bb59)), .int (nI k), .int (nI 1)] [.int xq] σ 0 0) (show rI σ 21 (k * 4 + 1) = nI (kW s k 1) from (hS.2.1.2 k (by omega) 1 (by omega)))) ?_
            refine hAt 5 _ _ _ _ _ _ ?_
            refine s_Table_get (a := 20) (na := 21) (mo := 9) (wd := 4) rfl (show bb59 < 9 by omega) (show 1 < 4 by omega) ?_
            refine Eq.mpr (congrArg (fun xq : Int32 => At 81 [.ref (17), .int (nI z), .int (nI h), .int (oI (some bb59)), .int (nI k), .int (nI 1)] [.int xq, .int (nI (kW s k 1))] σ 0 0) (show rI σ 21 (bb59 * 4 + 1) = nI (kW s bb59 1) from (hS.2.1.2 bb59 (by omega) 1 (by omega)))) ?_
            refine hAt 1 _ _ _ _ _ _ ?_
            refine And.intro (fun hq => ?_) (fun hq => ?_)
            · have c81 : kW s k 1 < kW s bb59 1 := (ltN (a := kW s k 1) (b := kW s bb59 1) rfl rfl (by omega) (by omega)).mp hq
              clear hq
              refine hAt 2 _ _ _ _ _ _ ?_
              refine Eq.mpr (congrArg (fun xq : Int32 => At 5 [.ref (17), .int (nI z), .int (nI h), .int (oI (some bb59)), .int xq, .int (nI 1)] [] σ 0 0) (show nI k + nI 1 = nI (k + 1) from (adE rfl rfl))) ?_
              refine skip (fun y => ?_) _
              rw [Bool.and_eq_true, decide_eq_true_eq] at y
              have y2 := of_decide_eq_true (show decide (kW s bb59 1 ≤ kW s k 1) = true from y.2)
              omega
            · have c81 : kW s bb59 1 ≤ kW s k 1 := Nat.le_of_not_lt (fun zq => hq ((ltN (a := kW s k 1) (b := kW s bb59 1) rfl rfl (by omega) (by omega)).mpr zq))
              clear hq
              refine hAt 4 _ _ _ _ _ _ ?_
              refine Eq.mpr (congrArg (fun xq : Int32 => At 5 [.ref (17), .int (nI z), .int (nI h), .int (nI k), .int xq, .int (nI 1)] [] σ 0 0) (show nI k + nI 1 = nI (k + 1) from (adE rfl rfl))) ?_
              exact take (by rw [Bool.and_eq_true, decide_eq_true_eq]; exact ⟨⟨c28, by omega⟩, decide_eq_true (by omega)⟩) _
  refine hAt 4 _ _ _ _ _ _ ?_
  exact loop 0 (by omega) _
def bt (c : Nat) : Int64 := lN 1 <<< ((nI c).toInt64 &&& 63)
def bo (s : Sk) (x y : Int) : Int64 := if isInB s x y = true then bt (kT s 0 * y.toNat + x.toNat) else lN 0
def ar (s : Sk) (x y : Int) : Nat → Int64
  | 0 => lN 0
  | n + 1 => ar s x y n ||| bo s (x + ((n % 3 : Nat) : Int) - 1) (y + ((n / 3 : Nat) : Int) - 1)
def hasB (b : Int64) (c : Nat) : Bool := decide (¬ b &&& bt c = lN 0)
def spd (s : Sk) (fr : Int64) (i j : Int) : Nat → Int64
  | 0 => lN 0
  | c + 1 => if hasB fr c = true then spd s fr i j c ||| ar s (((c % kT s 0 : Nat) : Int) + i) (((c / kT s 0 : Nat) : Int) + j) 9 else spd s fr i j c
/-- where a cloud can be -/
def dbt (s : Sk) (k : Nat) : Nat → Int64
  | 0 => if kC s k 3 = 0 then bo s (kC s k 0) (kC s k 1) else lN 0
  | h + 1 => if h + 1 < kC s k 3 then lN 0 else if h + 1 = kC s k 3 then bo s (kC s k 0) (kC s k 1) else spd s (dbt s k h) (blw s (kC s k 2) (h + 1) 0) (blw s (kC s k 2) (h + 1) 1) (kT s 0 * kT s 1)
theorem dbt_lt {s : Sk} {k : Nat} : ∀ {h}, h < kC s k 3 → dbt s k h = lN 0
  | 0, q => by rw [dbt, if_neg (by omega)]
  | h + 1, q => by rw [dbt, if_pos q]
theorem dbt_at {s : Sk} {k : Nat} : dbt s k (kC s k 3) = bo s (kC s k 0) (kC s k 1) := by
  cases e : kC s k 3 with
  | zero => rw [dbt, if_pos e]
  | succ h => rw [dbt, if_neg (by omega), if_pos e.symm]
theorem dbt_s {s : Sk} {k h : Nat} (q : kC s k 3 ≤ h) : dbt s k (h + 1) = spd s (dbt s k h) (blw s (kC s k 2) (h + 1) 0) (blw s (kC s k 2) (h + 1) 1) (kT s 0 * kT s 1) := by rw [dbt, if_neg (by omega), if_neg (by omega)]
theorem isInB_s {s : Sk} {x y : Int} : isInB s x y = true ↔ (0 ≤ x ∧ x < kT s 0 ∧ 0 ≤ y ∧ y < kT s 1) := by unfold isInB; exact decide_eq_true_iff
theorem lcmp0 {x y : Int64} : lg_cmp x y = nI 0 ↔ x = y := by
  unfold lg_cmp
  by_cases h1 : x > y
  · rw [if_pos h1]
    exact ⟨fun q => absurd q (by decide), fun q => absurd h1 (by rw [q]; exact Int64.lt_irrefl)⟩
  · rw [if_neg h1]
    by_cases h2 : x = y
    · rw [if_pos h2]; exact ⟨fun _ => h2, fun _ => rfl⟩
    · rw [if_neg h2]; exact ⟨fun q => absurd q (by decide), fun q => absurd q h2⟩
theorem s_isInside_3 {x y : Int} (hS : skP σ 4 s) (hv : VS s) (hx : -100 ≤ x ∧ x ≤ 100) (hy : -100 ≤ y ∧ y ≤ 100) (hP : P (some (.int (bI (isInB s x y)))) σ) : Ret w true (d + 2) 0 0 m_Sky_isInside [.ref 3, .int (iZ x), .int (iZ y)] σ P X := by
  obtain ⟨s1, s2, s3, s4, s5, -, -, -, -, -, s6, s7, s8, s9, s10, -⟩ := hv
  refine meth_ok k_Sky_isInside q_Sky_isInside rfl fun At hAt => ?_
  have no : ¬ (0 ≤ x ∧ x < kT s 0 ∧ 0 ≤ y ∧ y < kT s 1) → P (some (.int (nI 0))) σ := fun q => by
    rw [show isInB s x y = false from decide_eq_false q] at hP; exact hP
  refine hAt 2 _ _ _ _ _ _ ?_
  refine And.intro (fun hq => ?_) (fun hq => ?_)
  · have c1 : (x : Int) < 0 := (ltZ (a := x) (b := 0) rfl (ntZ rfl) (by omega) (by omega) (by omega) (by omega)).mp hq
    clear hq
    refine hAt 2 _ _ _ _ _ _ ?_
    refine And.intro (rfl) ?_
    exact no (by omega)
  · have c1 : (0 : Int) ≤ (x : Int) := Int.not_lt.mp (fun zq => hq ((ltZ (a := x) (b := 0) rfl (ntZ rfl) (by omega) (by omega) (by omega) (by omega)).mpr zq))
    clear hq
    refine hAt 5 _ _ _ _ _ _ ?_
    refine s_Row_get (a := 4) (na := 5) (n := 10) rfl (show 0 < 10 by omega) ?_
    refine Eq.mpr (congrArg (fun xq : Int32 => At 13 [.ref (3), .int (iZ x), .int (iZ y)] [.int xq, .int (iZ x)] σ 0 0) (show rI σ 5 0 = nI (kT s 0) from (hS.1 0 (by omega)))) ?_
    refine hAt 1 _ _ _ _ _ _ ?_
    refine And.intro (fun hq => ?_) (fun hq => ?_)
    · have c13 : ((kT s 0 : Nat) : Int) ≤ x := (leZ (a := ((kT s 0 : Nat) : Int)) (b := x) (ntZ rfl) rfl (by omega) (by omega) (by omega) (by omega)).mp hq
      clear hq
      refine hAt 2 _ _ _ _ _ _ ?_
      refine And.intro (rfl) ?_
      exact no (by omega)
    · have c13 : (x : Int) < ((kT s 0 : Nat) : Int) := Int.not_le.mp (fun zq => hq ((leZ (a := ((kT s 0 : Nat) : Int)) (b := x) (ntZ rfl) rfl (by omega) (by omega) (by omega) (by omega)).mpr zq))
      clear hq
      refine hAt 2 _ _ _ _ _ _ ?_
      refine And.intro (fun hq => ?_) (fun hq => ?_)
      · have c17 : (y : Int) < 0 := (ltZ (a := y) (b := 0) rfl (ntZ rfl) (by omega) (by omega) (by omega) (by omega)).mp hq
        clear hq
        refine hAt 2 _ _ _ _ _ _ ?_
        refine And.intro (rfl) ?_
        exact no (by omega)
      · have c17 : (0 : Int) ≤ (y : Int) := Int.not_lt.mp (fun zq => hq ((ltZ (a := y) (b := 0) rfl (ntZ rfl) (by omega) (by omega) (by omega) (by omega)).mpr zq))
        clear hq
        refine hAt 5 _ _ _ _ _ _ ?_
        refine s_Row_get (a := 4) (na := 5) (n := 10) rfl (show 1 < 10 by omega) ?_
        refine Eq.mpr (congrArg (fun xq : Int32 => At 29 [.ref (3), .int (iZ x), .int (iZ y)] [.int xq, .int (iZ y)] σ 0 0) (show rI σ 5 1 = nI (kT s 1) from (hS.1 1 (by omega)))) ?_
        refine hAt 1 _ _ _ _ _ _ ?_
        refine And.intro (fun hq => ?_) (fun hq => ?_)
        · have c29 : ((kT s 1 : Nat) : Int) ≤ y := (leZ (a := ((kT s 1 : Nat) : Int)) (b := y) (ntZ rfl) rfl (by omega) (by omega) (by omega) (by omega)).mp hq
          clear hq
          refine hAt 2 _ _ _ _ _ _ ?_
          refine And.intro (rfl) ?_
          exact no (by omega)
        · have c29 : (y : Int) < ((kT s 1 : Nat) : Int) := Int.not_le.mp (fun zq => hq ((leZ (a := ((kT s 1 : Nat) : Int)) (b := y) (ntZ rfl) rfl (by omega) (by omega) (by omega) (by omega)).mpr zq))
          clear hq
          refine hAt 3 _ _ _ _ _ _ ?_
          refine And.intro (rfl) ?_
          rw [show isInB s x y = true from decide_eq_true (by omega)] at hP; exact hP
theorem s_across_3 {z h : Nat} (hS : skP σ 4 s) (hv : VS s) (hP : P (some (.int (iZ (blw s z h 0)))) σ) : Ret w true (d + 2) 0 0 m_Sky_across [.ref 3, .int (oI (wOf s z h (kT s 10)))] σ P X := by
  obtain ⟨s1, s2, s3, s4, s5, -, -, -, -, -, s6, s7, s8, s9, s10, -⟩ := hv
  unfold blw at hP
  refine meth_ok k_Sky_across q_Sky_across rfl fun At hAt => ?_
  refine hAt 3 _ _ _ _ _ _ ?_
  cases e2 : wOf s z h (kT s 10) with
  | none =>
    rw [e2] at hP
    refine And.intro (fun hq => absurd rfl hq) (fun _ => ?_)
    refine hAt 3 _ _ _ _ _ _ ?_
    exact hP
  | some bb2 =>
    rw [e2] at hP
    have hb := wOf_lt s z h _ _ e2
    have b2 := s7 bb2 hb
    refine And.intro (fun _ => ?_) (fun hq => absurd hq (nI_m1 (by omega)))
    refine hAt 5 _ _ _ _ _ _ ?_
    refine s_Table_get (a := 6) (na := 7) (mo := 9) (wd := 4) rfl (show bb2 < 9 by omega) (show 2 < 4 by omega) ?_
    refine Eq.mpr (congrArg (fun xq : Int32 => At 18 [.ref (3), .int (oI (some bb2))] [.int xq] σ 0 0) (show rI σ 7 (bb2 * 4 + 2) = nI (kW s bb2 2) from (hS.2.1.2 bb2 (by omega) 2 (by omega)))) ?_
    refine hAt 3 _ _ _ _ _ _ ?_
    refine retE (sbZ (ntZ rfl) (ntZ rfl)) ?_
    exact hP
theorem s_down_3 {z h : Nat} (hS : skP σ 4 s) (hv : VS s) (hP : P (some (.int (iZ (blw s z h 1)))) σ) : Ret w true (d + 2) 0 0 m_Sky_down [.ref 3, .int (oI (wOf s z h (kT s 10)))] σ P X := by
  obtain ⟨s1, s2, s3, s4, s5, -, -, -, -, -, s6, s7, s8, s9, s10, -⟩ := hv
  unfold blw at hP
  refine meth_ok k_Sky_down q_Sky_down rfl fun At hAt => ?_
  refine hAt 3 _ _ _ _ _ _ ?_
  cases e2 : wOf s z h (kT s 10) with
  | none =>
    rw [e2] at hP
    refine And.intro (fun hq => absurd rfl hq) (fun _ => ?_)
    refine hAt 3 _ _ _ _ _ _ ?_
    exact hP
  | some bb2 =>
    rw [e2] at hP
    have hb := wOf_lt s z h _ _ e2
    have b2 := s7 bb2 hb
    refine And.intro (fun _ => ?_) (fun hq => absurd hq (nI_m1 (by omega)))
    refine hAt 5 _ _ _ _ _ _ ?_
    refine s_Table_get (a := 6) (na := 7) (mo := 9) (wd := 4) rfl (show bb2 < 9 by omega) (show 3 < 4 by omega) ?_
    refine Eq.mpr (congrArg (fun xq : Int32 => At 18 [.ref (3), .int (oI (some bb2))] [.int xq] σ 0 0) (show rI σ 7 (bb2 * 4 + 3) = nI (kW s bb2 3) from (hS.2.1.2 bb2 (by omega) 3 (by omega)))) ?_
    refine hAt 3 _ _ _ _ _ _ ?_
    refine retE (sbZ (ntZ rfl) (ntZ rfl)) ?_
    exact hP
theorem s_isInside_17 {x y : Int} (hS : skP σ 18 s) (hv : VS s) (hx : -100 ≤ x ∧ x ≤ 100) (hy : -100 ≤ y ∧ y ≤ 100) (hP : P (some (.int (bI (isInB s x y)))) σ) : Ret w true (d + 2) 0 0 m_Sky_isInside [.ref 17, .int (iZ x), .int (iZ y)] σ P X := by
  obtain ⟨s1, s2, s3, s4, s5, -, -, -, -, -, s6, s7, s8, s9, s10, -⟩ := hv
  refine meth_ok k_Sky_isInside q_Sky_isInside rfl fun At hAt => ?_
  have no : ¬ (0 ≤ x ∧ x < kT s 0 ∧ 0 ≤ y ∧ y < kT s 1) → P (some (.int (nI 0))) σ := fun q => by
    rw [show isInB s x y = false from decide_eq_false q] at hP; exact hP
  refine hAt 2 _ _ _ _ _ _ ?_
  refine And.intro (fun hq => ?_) (fun hq => ?_)
  · have c1 : (x : Int) < 0 := (ltZ (a := x) (b := 0) rfl (ntZ rfl) (by omega) (by omega) (by omega) (by omega)).mp hq
    clear hq
    refine hAt 2 _ _ _ _ _ _ ?_
    refine And.intro (rfl) ?_
    exact no (by omega)
  · have c1 : (0 : Int) ≤ (x : Int) := Int.not_lt.mp (fun zq => hq ((ltZ (a := x) (b := 0) rfl (ntZ rfl) (by omega) (by omega) (by omega) (by omega)).mpr zq))
    clear hq
    refine hAt 5 _ _ _ _ _ _ ?_
    refine s_Row_get (a := 18) (na := 19) (n := 10) rfl (show 0 < 10 by omega) ?_
    refine Eq.mpr (congrArg (fun xq : Int32 => At 13 [.ref (17), .int (iZ x), .int (iZ y)] [.int xq, .int (iZ x)] σ 0 0) (show rI σ 19 0 = nI (kT s 0) from (hS.1 0 (by omega)))) ?_
    refine hAt 1 _ _ _ _ _ _ ?_
    refine And.intro (fun hq => ?_) (fun hq => ?_)
    · have c13 : ((kT s 0 : Nat) : Int) ≤ x := (leZ (a := ((kT s 0 : Nat) : Int)) (b := x) (ntZ rfl) rfl (by omega) (by omega) (by omega) (by omega)).mp hq
      clear hq
      refine hAt 2 _ _ _ _ _ _ ?_
      refine And.intro (rfl) ?_
      exact no (by omega)
    · have c13 : (x : Int) < ((kT s 0 : Nat) : Int) := Int.not_le.mp (fun zq => hq ((leZ (a := ((kT s 0 : Nat) : Int)) (b := x) (ntZ rfl) rfl (by omega) (by omega) (by omega) (by omega)).mpr zq))
      clear hq
      refine hAt 2 _ _ _ _ _ _ ?_
      refine And.intro (fun hq => ?_) (fun hq => ?_)
      · have c17 : (y : Int) < 0 := (ltZ (a := y) (b := 0) rfl (ntZ rfl) (by omega) (by omega) (by omega) (by omega)).mp hq
        clear hq
        refine hAt 2 _ _ _ _ _ _ ?_
        refine And.intro (rfl) ?_
        exact no (by omega)
      · have c17 : (0 : Int) ≤ (y : Int) := Int.not_lt.mp (fun zq => hq ((ltZ (a := y) (b := 0) rfl (ntZ rfl) (by omega) (by omega) (by omega) (by omega)).mpr zq))
        clear hq
        refine hAt 5 _ _ _ _ _ _ ?_
        refine s_Row_get (a := 18) (na := 19) (n := 10) rfl (show 1 < 10 by omega) ?_
        refine Eq.mpr (congrArg (fun xq : Int32 => At 29 [.ref (17), .int (iZ x), .int (iZ y)] [.int xq, .int (iZ y)] σ 0 0) (show rI σ 19 1 = nI (kT s 1) from (hS.1 1 (by omega)))) ?_
        refine hAt 1 _ _ _ _ _ _ ?_
        refine And.intro (fun hq => ?_) (fun hq => ?_)
        · have c29 : ((kT s 1 : Nat) : Int) ≤ y := (leZ (a := ((kT s 1 : Nat) : Int)) (b := y) (ntZ rfl) rfl (by omega) (by omega) (by omega) (by omega)).mp hq
          clear hq
          refine hAt 2 _ _ _ _ _ _ ?_
          refine And.intro (rfl) ?_
          exact no (by omega)
        · have c29 : (y : Int) < ((kT s 1 : Nat) : Int) := Int.not_le.mp (fun zq => hq ((leZ (a := ((kT s 1 : Nat) : Int)) (b := y) (ntZ rfl) rfl (by omega) (by omega) (by omega) (by omega)).mpr zq))
          clear hq
          refine hAt 3 _ _ _ _ _ _ ?_
          refine And.intro (rfl) ?_
          rw [show isInB s x y = true from decide_eq_true (by omega)] at hP; exact hP
theorem s_across_17 {z h : Nat} (hS : skP σ 18 s) (hv : VS s) (hP : P (some (.int (iZ (blw s z h 0)))) σ) : Ret w true (d + 2) 0 0 m_Sky_across [.ref 17, .int (oI (wOf s z h (kT s 10)))] σ P X := by
  obtain ⟨s1, s2, s3, s4, s5, -, -, -, -, -, s6, s7, s8, s9, s10, -⟩ := hv
  unfold blw at hP
  refine meth_ok k_Sky_across q_Sky_across rfl fun At hAt => ?_
  refine hAt 3 _ _ _ _ _ _ ?_
  cases e2 : wOf s z h (kT s 10) with
  | none =>
    rw [e2] at hP
    refine And.intro (fun hq => absurd rfl hq) (fun _ => ?_)
    refine hAt 3 _ _ _ _ _ _ ?_
    exact hP
  | some bb2 =>
    rw [e2] at hP
    have hb := wOf_lt s z h _ _ e2
    have b2 := s7 bb2 hb
    refine And.intro (fun _ => ?_) (fun hq => absurd hq (nI_m1 (by omega)))
    refine hAt 5 _ _ _ _ _ _ ?_
    refine s_Table_get (a := 20) (na := 21) (mo := 9) (wd := 4) rfl (show bb2 < 9 by omega) (show 2 < 4 by omega) ?_
    refine Eq.mpr (congrArg (fun xq : Int32 => At 18 [.ref (17), .int (oI (some bb2))] [.int xq] σ 0 0) (show rI σ 21 (bb2 * 4 + 2) = nI (kW s bb2 2) from (hS.2.1.2 bb2 (by omega) 2 (by omega)))) ?_
    refine hAt 3 _ _ _ _ _ _ ?_
    refine retE (sbZ (ntZ rfl) (ntZ rfl)) ?_
    exact hP
theorem s_down_17 {z h : Nat} (hS : skP σ 18 s) (hv : VS s) (hP : P (some (.int (iZ (blw s z h 1)))) σ) : Ret w true (d + 2) 0 0 m_Sky_down [.ref 17, .int (oI (wOf s z h (kT s 10)))] σ P X := by
  obtain ⟨s1, s2, s3, s4, s5, -, -, -, -, -, s6, s7, s8, s9, s10, -⟩ := hv
  unfold blw at hP
  refine meth_ok k_Sky_down q_Sky_down rfl fun At hAt => ?_
  refine hAt 3 _ _ _ _ _ _ ?_
  cases e2 : wOf s z h (kT s 10) with
  | none =>
    rw [e2] at hP
    refine And.intro (fun hq => absurd rfl hq) (fun _ => ?_)
    refine hAt 3 _ _ _ _ _ _ ?_
    exact hP
  | some bb2 =>
    rw [e2] at hP
    have hb := wOf_lt s z h _ _ e2
    have b2 := s7 bb2 hb
    refine And.intro (fun _ => ?_) (fun hq => absurd hq (nI_m1 (by omega)))
    refine hAt 5 _ _ _ _ _ _ ?_
    refine s_Table_get (a := 20) (na := 21) (mo := 9) (wd := 4) rfl (show bb2 < 9 by omega) (show 3 < 4 by omega) ?_
    refine Eq.mpr (congrArg (fun xq : Int32 => At 18 [.ref (17), .int (oI (some bb2))] [.int xq] σ 0 0) (show rI σ 21 (bb2 * 4 + 3) = nI (kW s bb2 3) from (hS.2.1.2 bb2 (by omega) 3 (by omega)))) ?_
    refine hAt 3 _ _ _ _ _ _ ?_
    refine retE (sbZ (ntZ rfl) (ntZ rfl)) ?_
    exact hP
theorem s_bitOf {x y : Int} (hS : skP σ 4 s) (hv : VS s) (hx : -100 ≤ x ∧ x ≤ 100) (hy : -100 ≤ y ∧ y ≤ 100) (hP : P (some (.long (bo s x y))) σ) : Ret w true (d + 3) 0 0 m_Sky_bitOf [.ref 3, .int (iZ x), .int (iZ y)] σ P X := by
  refine meth_ok k_Sky_bitOf q_Sky_bitOf rfl fun At hAt => ?_
  refine hAt 5 _ _ _ _ _ _ ?_
  refine s_isInside_3 hS hv (by omega) (by omega) ?_
  refine And.intro (fun hq => ?_) (fun hq => ?_)
  · have c6 : isInB s x y = false := bI_eq hq
    clear hq
    refine hAt 2 _ _ _ _ _ _ ?_
    rw [bo, if_neg (by rw [c6]; decide)] at hP; exact hP
  · have c6 : isInB s x y = true := bI_ne hq
    clear hq
    refine hAt 5 _ _ _ _ _ _ ?_
    refine s_Row_get (a := 4) (na := 5) (n := 10) rfl (show 0 < 10 by omega) ?_
    refine Eq.mpr (congrArg (fun xq : Int32 => At 18 [.ref (3), .int (iZ x), .int (iZ y)] [.int xq, .long (lN 1)] σ 0 0) (show rI σ 5 0 = nI (kT s 0) from (hS.1 0 (by omega)))) ?_
    refine hAt 7 _ _ _ _ _ _ ?_
    have q := isInB_s.mp c6
    rw [bo, if_pos c6, bt, show nI (kT s 0 * y.toNat + x.toNat) = nI (kT s 0) * iZ y + iZ x by rw [← iZ_nat (kT s 0), ← iZ_nat, mlZ rfl rfl, adZ rfl rfl]; congr 1; rw [Int.natCast_add, Int.natCast_mul, Int.toNat_of_nonneg (by omega), Int.toNat_of_nonneg (by omega)]] at hP
    exact hP
theorem s_around {x y : Int} (hS : skP σ 4 s) (hv : VS s) (hx : -50 ≤ x ∧ x ≤ 50) (hy : -50 ≤ y ∧ y ≤ 50) (hP : P (some (.long (ar s x y 9))) σ) : Ret w true (d + 4) 0 0 m_Sky_around [.ref 3, .int (iZ x), .int (iZ y)] σ P X := by
  refine meth_ok k_Sky_around q_Sky_around rfl fun At hAt => ?_
  have inner : ∀ (J : Nat) (jj : Int), J < 3 → jj = y - 1 + J → (∀ z6, At 7 [.ref 3, .int (iZ x), .int (iZ y), .long (ar s x y (3 * (J + 1))), junk, .int (iZ (jj + 1)), z6] [] σ 0 0) → ∀ I : Nat, I ≤ 3 → ∀ ii : Int, ii = x - 1 + I → At 20 [.ref 3, .int (iZ x), .int (iZ y), .long (ar s x y (3 * J + I)), junk, .int (iZ jj), .int (iZ ii)] [] σ 0 0 := by
    intro J jj hJ hj nxt
    refine upto fun I hI ih => ?_
    intro ii hi
    refine hAt 5 _ _ _ _ _ _ ?_
    refine And.intro (fun hq => ?_) (fun hq => ?_)
    · have c25 : (x + 1 : Int) < ii := (ltZ (a := x + 1) (b := ii) (adZ rfl (ntZ rfl)) rfl (by omega) (by omega) (by omega) (by omega)).mp hq
      clear hq
      refine hAt 2 _ _ _ _ _ _ ?_
      refine Eq.mpr (congrArg (fun xq : Int32 => At 7 [.ref (3), .int (iZ x), .int (iZ y), .long (ar s x y (3 * J + I)), junk, .int xq, .int (iZ ii)] [] σ 0 0) (show (iZ jj) + nI 1 = iZ (jj + 1) from (adZ rfl (ntZ rfl)))) ?_
      have e : I = 3 := by omega
      subst e
      exact nxt _
    · have c25 : (ii : Int) ≤ (x + 1 : Int) := Int.not_lt.mp (fun zq => hq ((ltZ (a := x + 1) (b := ii) (adZ rfl (ntZ rfl)) rfl (by omega) (by omega) (by omega) (by omega)).mpr zq))
      clear hq
      refine hAt 9 _ _ _ _ _ _ ?_
      refine s_bitOf hS hv (by omega) (by omega) ?_
      refine Eq.mpr (congrArg (fun xq : Int32 => At 20 [.ref (3), .int (iZ x), .int (iZ y), .long ((ar s x y (3 * J + I)) ||| (bo s ii jj)), junk, .int (iZ jj), .int xq] [] σ 0 0) (show (iZ ii) + nI 1 = iZ (ii + 1) from (adZ rfl (ntZ rfl)))) ?_
      have e : ar s x y (3 * J + (I + 1)) = ar s x y (3 * J + I) ||| bo s ii jj := by
        show ar s x y (3 * J + I) ||| bo s (x + (((3 * J + I) % 3 : Nat) : Int) - 1) (y + (((3 * J + I) / 3 : Nat) : Int) - 1) = _
        rw [show x + (((3 * J + I) % 3 : Nat) : Int) - 1 = ii by omega, show y + (((3 * J + I) / 3 : Nat) : Int) - 1 = jj by omega]
      have q := ih (by omega) (ii + 1) (by omega)
      rw [e] at q
      exact q
  have outer : ∀ J : Nat, J ≤ 3 → ∀ (jj : Int) z6, jj = y - 1 + J → At 7 [.ref 3, .int (iZ x), .int (iZ y), .long (ar s x y (3 * J)), junk, .int (iZ jj), z6] [] σ 0 0 := by
    refine upto fun J hJ ih => ?_
    intro jj z6 hj
    refine hAt 5 _ _ _ _ _ _ ?_
    refine And.intro (fun hq => ?_) (fun hq => ?_)
    · have c12 : (y + 1 : Int) < jj := (ltZ (a := y + 1) (b := jj) (adZ rfl (ntZ rfl)) rfl (by omega) (by omega) (by omega) (by omega)).mp hq
      clear hq
      refine hAt 2 _ _ _ _ _ _ ?_
      have e : J = 3 := by omega
      subst e
      exact hP
    · have c12 : (jj : Int) ≤ (y + 1 : Int) := Int.not_lt.mp (fun zq => hq ((ltZ (a := y + 1) (b := jj) (adZ rfl (ntZ rfl)) rfl (by omega) (by omega) (by omega) (by omega)).mpr zq))
      clear hq
      refine hAt 4 _ _ _ _ _ _ ?_
      refine Eq.mpr (congrArg (fun xq : Int32 => At 20 [.ref (3), .int (iZ x), .int (iZ y), .long (ar s x y (3 * J)), junk, .int (iZ jj), .int xq] [] σ 0 0) (show (iZ x) - nI 1 = iZ (x - 1) from (sbZ rfl (ntZ rfl)))) ?_
      exact inner J jj (by omega) hj (fun z6 => ih (by omega) _ _ (by omega)) 0 (by omega) _ (by omega)
  refine hAt 6 _ _ _ _ _ _ ?_
  refine Eq.mpr (congrArg (fun xq : Int32 => At 7 [.ref (3), .int (iZ x), .int (iZ y), .long (lN 0), junk, .int xq, junk] [] σ 0 0) (show (iZ y) - nI 1 = iZ (y - 1) from (sbZ rfl (ntZ rfl)))) ?_
  exact outer 0 (by omega) _ _ (by omega)
theorem s_spread {fr : Int64} {z h : Nat} (hS : skP σ 4 s) (hv : VS s) (hP : P (some (.long (spd s fr (blw s z h 0) (blw s z h 1) (kT s 0 * kT s 1)))) σ) : Ret w true (d + 5) 0 0 m_Sky_spread [.ref 3, .long fr, .int (oI (wOf s z h (kT s 10)))] σ P X := by
  have b0 := blw_b hv z h 0 (by omega)
  have b1 := blw_b hv z h 1 (by omega)
  obtain ⟨s1, s2, s3, s4, s5, -, -, -, -, -, s6, s7, s8, s9, s10, -⟩ := id hv
  refine meth_ok k_Sky_spread q_Sky_spread rfl fun At hAt => ?_
  have inner : ∀ y, y < kT s 1 → (∀ z7, At 6 [.ref 3, .long fr, junk, .int (oI (wOf s z h (kT s 10))), .long (spd s fr (blw s z h 0) (blw s z h 1) (kT s 0 * (y + 1))), junk, .int (nI (y + 1)), z7] [] σ 0 0) → ∀ x, x ≤ kT s 0 → At 22 [.ref 3, .long fr, junk, .int (oI (wOf s z h (kT s 10))), .long (spd s fr (blw s z h 0) (blw s z h 1) (kT s 0 * y + x)), junk, .int (nI y), .int (nI x)] [] σ 0 0 := by
    intro y hy nxt
    refine upto fun x hx ih => ?_
    have em : (kT s 0 * y + x) % kT s 0 = x % kT s 0 := Nat.mul_add_mod _ _ _
    have ed : x < kT s 0 → (kT s 0 * y + x) / kT s 0 = y := fun q => by rw [Nat.mul_add_div (by omega), Nat.div_eq_of_lt q, Nat.add_zero]
    have eb : x < kT s 0 → bo s (x : Int) (y : Int) = bt (kT s 0 * y + x) := fun q => by
      rw [bo, if_pos (isInB_s.mpr (by omega))]; rfl
    refine hAt 5 _ _ _ _ _ _ ?_
    refine s_Row_get (a := 4) (na := 5) (n := 10) rfl (show 0 < 10 by omega) ?_
    refine Eq.mpr (congrArg (fun xq : Int32 => At 32 [.ref (3), .long (fr), junk, .int (oI (wOf s z h (kT s 10))), .long (spd s fr (blw s z h 0) (blw s z h 1) (kT s 0 * y + x)), junk, .int (nI y), .int (nI x)] [.int xq, .int (nI x)] σ 0 0) (show rI σ 5 0 = nI (kT s 0) from (hS.1 0 (by omega)))) ?_
    refine hAt 1 _ _ _ _ _ _ ?_
    refine And.intro (fun hq => ?_) (fun hq => ?_)
    · have c32 : kT s 0 ≤ x := (leN (a := kT s 0) (b := x) rfl rfl (by omega) (by omega)).mp hq
      clear hq
      refine hAt 2 _ _ _ _ _ _ ?_
      refine Eq.mpr (congrArg (fun xq : Int32 => At 6 [.ref (3), .long (fr), junk, .int (oI (wOf s z h (kT s 10))), .long (spd s fr (blw s z h 0) (blw s z h 1) (kT s 0 * y + x)), junk, .int xq, .int (nI x)] [] σ 0 0) (show nI y + nI 1 = nI (y + 1) from (adE rfl rfl))) ?_
      have e : x = kT s 0 := by omega
      subst e
      rw [show kT s 0 * y + kT s 0 = kT s 0 * (y + 1) from rfl]
      exact nxt _
    · have c32 : x < kT s 0 := Nat.lt_of_not_le (fun zq => hq ((leN (a := kT s 0) (b := x) rfl rfl (by omega) (by omega)).mpr zq))
      clear hq
      refine hAt 4 _ _ _ _ _ _ ?_
      refine Eq.mpr (congrArg (fun xq : Int32 => At 41 [.ref (3), .long (fr), junk, .int (oI (wOf s z h (kT s 10))), .long (spd s fr (blw s z h 0) (blw s z h 1) (kT s 0 * y + x)), junk, .int (nI y), .int (nI x)] [.int (nI y), .int xq, .ref (3), .long (fr)] σ 0 0) (ntZ rfl)) ?_
      refine Eq.mpr (congrArg (fun xq : Int32 => At 41 [.ref (3), .long (fr), junk, .int (oI (wOf s z h (kT s 10))), .long (spd s fr (blw s z h 0) (blw s z h 1) (kT s 0 * y + x)), junk, .int (nI y), .int (nI x)] [.int xq, .int (iZ (x : Int)), .ref (3), .long (fr)] σ 0 0) (ntZ rfl)) ?_
      refine hAt 5 _ _ _ _ _ _ ?_
      refine s_bitOf hS hv (by omega) (by omega) ?_
      refine And.intro (fun hq => ?_) (fun hq => ?_)
      · have c47 : lg_cmp (fr &&& (bo s (x : Int) (y : Int))) (lN 0) = nI 0 := hq
        clear hq
        refine hAt 2 _ _ _ _ _ _ ?_
        refine Eq.mpr (congrArg (fun xq : Int32 => At 22 [.ref (3), .long (fr), junk, .int (oI (wOf s z h (kT s 10))), .long (spd s fr (blw s z h 0) (blw s z h 1) (kT s 0 * y + x)), junk, .int (nI y), .int xq] [] σ 0 0) (show nI x + nI 1 = nI (x + 1) from (adE rfl rfl))) ?_
        have e := lcmp0.mp c47
        rw [eb (by omega)] at e
        have q := ih (by omega)
        rw [← Nat.add_assoc, spd, if_neg (by unfold hasB; rw [decide_eq_true_iff]; exact fun z => z e)] at q
        exact q
      · have c47 : ¬ lg_cmp (fr &&& (bo s (x : Int) (y : Int))) (lN 0) = nI 0 := hq
        clear hq
        refine hAt 12 _ _ _ _ _ _ ?_
        refine s_across_3 (z := z) (h := h) hS hv ?_
        refine s_down_3 (z := z) (h := h) hS hv ?_
        refine Eq.mpr (congrArg (fun xq : Int32 => At 69 [.ref (3), .long (fr), junk, .int (oI (wOf s z h (kT s 10))), .long (spd s fr (blw s z h 0) (blw s z h 1) (kT s 0 * y + x)), junk, .int (nI y), .int (nI x)] [.int (nI y + (iZ (blw s z h 1))), .int xq, .ref (3), .long (spd s fr (blw s z h 0) (blw s z h 1) (kT s 0 * y + x))] σ 0 0) (show nI x + (iZ (blw s z h 0)) = iZ ((x : Int) + (blw s z h 0)) from (adZ (ntZ rfl) rfl))) ?_
        refine Eq.mpr (congrArg (fun xq : Int32 => At 69 [.ref (3), .long (fr), junk, .int (oI (wOf s z h (kT s 10))), .long (spd s fr (blw s z h 0) (blw s z h 1) (kT s 0 * y + x)), junk, .int (nI y), .int (nI x)] [.int xq, .int (iZ ((x : Int) + (blw s z h 0))), .ref (3), .long (spd s fr (blw s z h 0) (blw s z h 1) (kT s 0 * y + x))] σ 0 0) (show nI y + (iZ (blw s z h 1)) = iZ ((y : Int) + (blw s z h 1)) from (adZ (ntZ rfl) rfl))) ?_
        refine hAt 5 _ _ _ _ _ _ ?_
        refine s_around hS hv (by omega) (by omega) ?_
        refine Eq.mpr (congrArg (fun xq : Int32 => At 22 [.ref (3), .long (fr), junk, .int (oI (wOf s z h (kT s 10))), .long ((spd s fr (blw s z h 0) (blw s z h 1) (kT s 0 * y + x)) ||| (ar s ((x : Int) + (blw s z h 0)) ((y : Int) + (blw s z h 1)) 9)), junk, .int (nI y), .int xq] [] σ 0 0) (show nI x + nI 1 = nI (x + 1) from (adE rfl rfl))) ?_
        have e := fun z => c47 (lcmp0.mpr z)
        rw [eb (by omega)] at e
        have q := ih (by omega)
        rw [← Nat.add_assoc, spd, if_pos (show hasB fr (kT s 0 * y + x) = true from decide_eq_true e), em, ed (by omega), Nat.mod_eq_of_lt (by omega)] at q
        exact q
  have outer : ∀ y, y ≤ kT s 1 → ∀ z7, At 6 [.ref 3, .long fr, junk, .int (oI (wOf s z h (kT s 10))), .long (spd s fr (blw s z h 0) (blw s z h 1) (kT s 0 * y)), junk, .int (nI y), z7] [] σ 0 0 := by
    refine upto fun y hy ih => ?_
    intro z7
    refine hAt 5 _ _ _ _ _ _ ?_
    refine s_Row_get (a := 4) (na := 5) (n := 10) rfl (show 1 < 10 by omega) ?_
    refine Eq.mpr (congrArg (fun xq : Int32 => At 16 [.ref (3), .long (fr), junk, .int (oI (wOf s z h (kT s 10))), .long (spd s fr (blw s z h 0) (blw s z h 1) (kT s 0 * y)), junk, .int (nI y), z7] [.int xq, .int (nI y)] σ 0 0) (show rI σ 5 1 = nI (kT s 1) from (hS.1 1 (by omega)))) ?_
    refine hAt 1 _ _ _ _ _ _ ?_
    refine And.intro (fun hq => ?_) (fun hq => ?_)
    · have c16 : kT s 1 ≤ y := (leN (a := kT s 1) (b := y) rfl rfl (by omega) (by omega)).mp hq
      clear hq
      refine hAt 2 _ _ _ _ _ _ ?_
      have e : y = kT s 1 := by omega
      subst e
      exact hP
    · have c16 : y < kT s 1 := Nat.lt_of_not_le (fun zq => hq ((leN (a := kT s 1) (b := y) rfl rfl (by omega) (by omega)).mpr zq))
      clear hq
      refine hAt 2 _ _ _ _ _ _ ?_
      exact inner y (by omega) (fun z7 => ih (by omega) z7) 0 (by omega)
  refine hAt 4 _ _ _ _ _ _ ?_
  exact outer 0 (by omega) _
theorem s_reach {k h : Nat} (hS : skP σ 4 s) (hv : VS s) (hk : k < kT s 2) (hh : h < 50) (hP : P (some (.long (dbt s k h))) σ) : Ret w true (d + 6) 0 0 m_Sky_reach [.ref 3, .int (nI k), .int (nI h)] σ P X := by
  obtain ⟨s1, s2, s3, s4, s5, -, -, -, -, -, s6, s7, s8, s9, s10, -⟩ := id hv
  have b := s8 k hk
  refine meth_ok k_Sky_reach q_Sky_reach rfl fun At hAt => ?_
  have loop : ∀ n, n ≤ h + 1 → kC s k 3 < n → At 46 [.ref 3, .int (nI k), .int (nI h), .int (nI (kC s k 3)), .long (dbt s k (n - 1)), junk, .int (nI n)] [] σ 0 0 := by
    refine upto fun n hn ih => ?_
    intro hg
    obtain ⟨m, rfl⟩ : ∃ m, n = m + 1 := ⟨n - 1, by omega⟩
    rw [Nat.add_sub_cancel]
    refine hAt 3 _ _ _ _ _ _ ?_
    refine And.intro (fun hq => ?_) (fun hq => ?_)
    · have c49 : h < m + 1 := (ltN (a := h) (b := m + 1) rfl rfl (by omega) (by omega)).mp hq
      clear hq
      refine hAt 2 _ _ _ _ _ _ ?_
      have e : m = h := by omega
      subst e
      exact hP
    · have c49 : m + 1 ≤ h := Nat.le_of_not_lt (fun zq => hq ((ltN (a := h) (b := m + 1) rfl rfl (by omega) (by omega)).mpr zq))
      clear hq
      refine hAt 3 _ _ _ _ _ _ ?_
      refine And.intro (fun hq => ?_) (fun hq => ?_)
      · have c56 : 50 ≤ m + 1 := (leN (a := 50) (b := m + 1) rfl rfl (by omega) (by omega)).mp hq
        clear hq
        exact absurd c56 (by omega)
      · have c56 : m + 1 < 50 := Nat.lt_of_not_le (fun zq => hq ((leN (a := 50) (b := m + 1) rfl rfl (by omega) (by omega)).mpr zq))
        clear hq
        refine hAt 8 _ _ _ _ _ _ ?_
        refine s_Table_get (a := 8) (na := 9) (mo := 8) (wd := 7) rfl (show k < 8 by omega) (show 2 < 7 by omega) ?_
        refine Eq.mpr (congrArg (fun xq : Int32 => At 72 [.ref (3), .int (nI k), .int (nI h), .int (nI (kC s k 3)), .long (dbt s k m), junk, .int (nI (m + 1))] [.int xq, .ref (3), .long (dbt s k m), .ref (3)] σ 0 0) (show rI σ 9 (k * 7 + 2) = nI (kC s k 2) from (hS.2.2.1.2 k (by omega) 2 (by omega)))) ?_
        refine hAt 6 _ _ _ _ _ _ ?_
        refine s_windAt_3 hS hv (by omega) (by omega) ?_
        refine s_spread (z := (kC s k 2)) (h := (m + 1)) hS hv ?_
        refine Eq.mpr (congrArg (fun xq : Int32 => At 46 [.ref (3), .int (nI k), .int (nI h), .int (nI (kC s k 3)), .long (spd s (dbt s k m) (blw s (kC s k 2) (m + 1) 0) (blw s (kC s k 2) (m + 1) 1) (kT s 0 * kT s 1)), junk, .int xq] [] σ 0 0) (show (nI (m + 1)) + nI 1 = nI (m + 1 + 1) from (adE rfl rfl))) ?_
        have q := ih (by omega) (by omega)
        rw [Nat.add_sub_cancel, dbt_s (by omega)] at q
        exact q
  refine hAt 5 _ _ _ _ _ _ ?_
  refine s_Table_get (a := 8) (na := 9) (mo := 8) (wd := 7) rfl (show k < 8 by omega) (show 3 < 7 by omega) ?_
  refine Eq.mpr (congrArg (fun xq : Int32 => At 9 [.ref (3), .int (nI k), .int (nI h), junk, junk, junk, junk] [.int xq] σ 0 0) (show rI σ 9 (k * 7 + 3) = nI (kC s k 3) from (hS.2.2.1.2 k (by omega) 3 (by omega)))) ?_
  refine hAt 4 _ _ _ _ _ _ ?_
  refine And.intro (fun hq => ?_) (fun hq => ?_)
  · have c12 : kC s k 3 ≤ h := (leN (a := kC s k 3) (b := h) rfl rfl (by omega) (by omega)).mp hq
    clear hq
    refine hAt 6 _ _ _ _ _ _ ?_
    refine s_Table_get (a := 8) (na := 9) (mo := 8) (wd := 7) rfl (show k < 8 by omega) (show 0 < 7 by omega) ?_
    refine Eq.mpr (congrArg (fun xq : Int32 => At 27 [.ref (3), .int (nI k), .int (nI h), .int (nI (kC s k 3)), junk, junk, junk] [.int xq, .ref (3)] σ 0 0) (show rI σ 9 (k * 7 + 0) = nI (kC s k 0) from (hS.2.2.1.2 k (by omega) 0 (by omega)))) ?_
    refine hAt 5 _ _ _ _ _ _ ?_
    refine s_Table_get (a := 8) (na := 9) (mo := 8) (wd := 7) rfl (show k < 8 by omega) (show 1 < 7 by omega) ?_
    refine Eq.mpr (congrArg (fun xq : Int32 => At 36 [.ref (3), .int (nI k), .int (nI h), .int (nI (kC s k 3)), junk, junk, junk] [.int xq, .int (nI (kC s k 0)), .ref (3)] σ 0 0) (show rI σ 9 (k * 7 + 1) = nI (kC s k 1) from (hS.2.2.1.2 k (by omega) 1 (by omega)))) ?_
    refine hAt 0 _ _ _ _ _ _ ?_
    refine Eq.mpr (congrArg (fun xq : Int32 => At 36 [.ref (3), .int (nI k), .int (nI h), .int (nI (kC s k 3)), junk, junk, junk] [.int (nI (kC s k 1)), .int xq, .ref (3)] σ 0 0) (ntZ rfl)) ?_
    refine Eq.mpr (congrArg (fun xq : Int32 => At 36 [.ref (3), .int (nI k), .int (nI h), .int (nI (kC s k 3)), junk, junk, junk] [.int xq, .int (iZ ((kC s k 0 : Nat) : Int)), .ref (3)] σ 0 0) (ntZ rfl)) ?_
    refine hAt 6 _ _ _ _ _ _ ?_
    refine s_bitOf hS hv (by omega) (by omega) ?_
    refine Eq.mpr (congrArg (fun xq : Int32 => At 46 [.ref (3), .int (nI k), .int (nI h), .int (nI (kC s k 3)), .long (bo s ((kC s k 0 : Nat) : Int) ((kC s k 1 : Nat) : Int)), junk, .int xq] [] σ 0 0) (show (nI (kC s k 3)) + nI 1 = nI (kC s k 3 + 1) from (adE rfl rfl))) ?_
    have q := loop (kC s k 3 + 1) (by omega) (by omega)
    rw [Nat.add_sub_cancel, dbt_at] at q
    exact q
  · have c12 : h < kC s k 3 := Nat.lt_of_not_le (fun zq => hq ((leN (a := kC s k 3) (b := h) rfl rfl (by omega) (by omega)).mpr zq))
    clear hq
    refine hAt 2 _ _ _ _ _ _ ?_
    rw [dbt_lt (by omega)] at hP; exact hP
end SKC
