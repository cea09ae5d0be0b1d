/-! WINDS on the model's side; small whole numbers -/
def iZ (x : Int) : Int32 := Int32.ofInt x
theorem iZ_nat (n : Nat) : iZ (n : Int) = nI n := Int32.ofInt_eq_ofNat
theorem iZ_add (a b : Int) : iZ a + iZ b = iZ (a + b) := (Int32.ofInt_add a b).symm
theorem iZ_sub (a b : Int) : iZ a - iZ b = iZ (a - b) := (Int32.ofInt_sub a b).symm
theorem iZ_toInt {a : Int} (h1 : -1000000 ≤ a) (h2 : a ≤ 1000000) : (iZ a).toInt = a := Int32.toInt_ofInt_of_le (by omega) (by omega)
theorem iZ_lt {a b : Int} (h1 : -1000000 ≤ a) (h2 : a ≤ 1000000) (h3 : -1000000 ≤ b) (h4 : b ≤ 1000000) : iZ a < iZ b ↔ a < b := by rw [Int32.lt_iff_toInt_lt, iZ_toInt h1 h2, iZ_toInt h3 h4]
theorem iZ_le {a b : Int} (h1 : -1000000 ≤ a) (h2 : a ≤ 1000000) (h3 : -1000000 ≤ b) (h4 : b ≤ 1000000) : iZ a ≤ iZ b ↔ a ≤ b := by rw [Int32.le_iff_toInt_le, iZ_toInt h1 h2, iZ_toInt h3 h4]
theorem iZ_eq {a b : Int} (h1 : -1000000 ≤ a) (h2 : a ≤ 1000000) (h3 : -1000000 ≤ b) (h4 : b ≤ 1000000) : iZ a = iZ b ↔ a = b := ⟨fun q => by have := congrArg Int32.toInt q; rwa [iZ_toInt h1 h2, iZ_toInt h3 h4] at this, fun q => by rw [q]⟩
def oI : Option Nat → Int32
  | none => -1
  | some k => nI k
theorem wOf_lt (s : Sk) (z h : Nat) : ∀ n b, wOf s z h n = some b → b < n
  | 0, b, e => by cases e
  | n + 1, b, e => by
    rw [wOf] at e
    by_cases g : (decide (kW s n 0 = z ∧ kW s n 1 ≤ h) && lateB s n (wOf s z h n)) = true
    · rw [if_pos g] at e; cases e; omega
    · rw [if_neg g] at e
      have := wOf_lt s z h n b e; omega
section WM
variable {w : Wd} {d : Nat} {σ : Mem} {s : Sk} {P : Option AV → Mem → Prop} {X : Nat → Mem → Prop}
theorem s_windOf {z h : Nat} (hS : skM σ s) (hv : VS s) (hz : z < 1000) (hh : h < 1000) (hP : P (some (.int (oI (wOf s z h (kT s 10))))) σ) : Ret w true (d + 1) 0 0 m_Mo_windOf [.ref 108, .int (nI z), .int (nI h)] σ P X := by
  obtain ⟨s1, s2, s3, s4, s5, -, -, -, -, -, s6, s7, -⟩ := hv
  refine meth_ok k_Mo_windOf q_Mo_windOf rfl fun At hAt => ?_
  have loop : ∀ m k, k + m = kT s 10 → At 5 [.ref 108, .int (nI z), .int (nI h), .int (oI (wOf s z h k)), .int (nI k)] [] σ 0 0 := by
    intro m
    induction m with
    | zero =>
      intro k hk
      have e : k = kT s 10 := by omega
      subst e
      refine hAt 80 _ _ _ _ _ _ ?_
      refine And.intro (aOK_t (n := 11) (j := 10) (by decide) rfl rfl (by omega) (by omega)) ?_
      exact And.intro (fun _ => hP) (fun q => absurd (show rI σ 111 10 ≤ nI (kT s 10) by rw [hS.1 10 (by omega)]; exact nI_le (Nat.le_refl _) (by omega)) q)
    | succ m ih =>
      intro k hk
      have hk' : k < kT s 10 := by omega
      have r0 := hS.2.1 k hk' 0 (by omega)
      have r1 := hS.2.1 k hk' 1 (by omega)
      have b := s7 k hk'
      have q := ih (k + 1) (by omega)
      rw [nI_s] at q
      have skip : ¬ (decide (kW s k 0 = z ∧ kW s k 1 ≤ h) && lateB s k (wOf s z h k)) = true → At 5 [.ref 108, .int (nI z), .int (nI h), .int (oI (wOf s z h k)), .int (nI k + nI 1)] [] σ 0 0 := by
        intro g
        rw [show wOf s z h (k + 1) = wOf s z h k by rw [wOf, if_neg g]] at q
        exact q
      have take : (decide (kW s k 0 = z ∧ kW s k 1 ≤ h) && lateB s k (wOf s z h k)) = true → At 5 [.ref 108, .int (nI z), .int (nI h), .int (nI k), .int (nI k + nI 1)] [] σ 0 0 := by
        intro g
        rw [show wOf s z h (k + 1) = some k by rw [wOf, if_pos g]] at q
        exact q
      refine hAt 80 _ _ _ _ _ _ ?_
      refine And.intro (aOK_t (n := 11) (j := 10) (by decide) rfl rfl (by omega) (by omega)) ?_
      refine And.intro (fun q => absurd (show rI σ 111 10 ≤ nI k from q) (by rw [hS.1 10 (by omega)]; exact nI_ge hk' (by omega))) (fun _ => ?_)
      refine And.intro (mx_r (q := 122) (n := 9) (k := 4) rfl rfl (show k < 9 by omega)) (And.intro (Or.inl rfl) ?_)
      rw [nI_cl (by omega)]
      refine And.intro (mx_e (q := 122) (n := 9) (k := 4) (i := 0) rfl (by omega) (by omega) rfl) ?_
      refine And.intro (fun g => skip (fun y => g ?_)) (fun g0 => ?_)
      · rw [Bool.and_eq_true, decide_eq_true_eq] at y
        exact r0.trans (congrArg nI y.1.1)
      have g0' : kW s k 0 = z := (nI_eq (by omega) (by omega)).mp (r0.symm.trans g0)
      refine And.intro (mx_r (q := 122) (n := 9) (k := 4) rfl rfl (show k < 9 by omega)) (And.intro (Or.inl rfl) ?_)
      rw [nI_cl (by omega)]
      refine And.intro (mx_e (q := 122) (n := 9) (k := 4) (i := 1) rfl (by omega) (by omega) rfl) ?_
      refine And.intro (fun g => skip (fun y => ?_)) (fun g1 => ?_)
      · rw [Bool.and_eq_true, decide_eq_true_eq] at y
        have g' : nI h < rI σ (122 + 1 + k) 1 := g
        rw [r1, nI_ltI (by omega) (by omega)] at g'
        omega
      have g1' : kW s k 1 ≤ h := by
        have g' : ¬ nI h < rI σ (122 + 1 + k) 1 := g1
        rw [r1, nI_ltI (by omega) (by omega)] at g'
        omega
      cases e : wOf s z h k with
      | none =>
        refine And.intro (fun _ => ?_) (fun g => absurd rfl g)
        exact take (by rw [e, decide_eq_true ⟨g0', g1'⟩]; rfl)
      | some b =>
        have hb := wOf_lt s z h k b e
        have rb := hS.2.1 b (by omega) 1 (by omega)
        have bb := s7 b (by omega)
        rw [e] at skip take
        refine And.intro (fun g => absurd g (nI_m1 (by omega))) (fun _ => ?_)
        refine And.intro (mx_r (q := 122) (n := 9) (k := 4) rfl rfl (show k < 9 by omega)) (And.intro (Or.inl rfl) ?_)
        rw [nI_cl (by omega)]
        refine And.intro (mx_e (q := 122) (n := 9) (k := 4) (i := 1) rfl (by omega) (by omega) rfl) ?_
        refine And.intro (mx_r (q := 122) (n := 9) (k := 4) rfl rfl (show b < 9 by omega)) (And.intro (Or.inl rfl) ?_)
        rw [show (oI (some b)).toNatClampNeg = b from nI_cl (by omega)]
        refine And.intro (mx_e (q := 122) (n := 9) (k := 4) (i := 1) rfl (by omega) (by omega) rfl) ?_
        refine And.intro (fun g => skip (fun y => ?_)) (fun g => take ?_)
        · have g' : rI σ (122 + 1 + k) 1 < rI σ (122 + 1 + b) 1 := g
          rw [r1, rb, nI_ltI (by omega) (by omega)] at g'
          rw [Bool.and_eq_true, decide_eq_true_eq] at y
          have y2 := of_decide_eq_true (show decide (kW s b 1 ≤ kW s k 1) = true from y.2)
          omega
        · have g' : ¬ rI σ (122 + 1 + k) 1 < rI σ (122 + 1 + b) 1 := g
          rw [r1, rb, nI_ltI (by omega) (by omega)] at g'
          rw [Bool.and_eq_true, decide_eq_true_eq]
          exact ⟨⟨g0', g1'⟩, decide_eq_true (by omega)⟩
  exact hAt 80 _ _ _ _ _ _ (loop (kT s 10) 0 (by omega))
theorem s_blows {z h way : Nat} (hS : skM σ s) (hv : VS s) (hz : z < 1000) (hh : h < 1000) (hw : way < 2) (hP : P (some (.int (iZ (blw s z h way)))) σ) : Ret w true (d + 2) 0 0 m_Mo_blows [.ref 108, .int (nI z), .int (nI h), .int (nI way)] σ P X := by
  have hv' := hv
  obtain ⟨s1, s2, s3, s4, s5, -, -, -, -, -, s6, s7, -⟩ := hv
  refine meth_ok k_Mo_blows q_Mo_blows rfl fun At hAt => hAt 80 _ _ _ _ _ _ ?_
  refine s_windOf hS hv' hz hh ?_
  unfold blw at hP
  cases e : wOf s z h (kT s 10) with
  | none =>
    rw [e] at hP
    exact And.intro (fun g => absurd rfl g) (fun _ => hP)
  | some b =>
    rw [e] at hP
    have hb := wOf_lt s z h _ b e
    have rb := hS.2.1 b hb (2 + way) (by omega)
    refine And.intro (fun _ => ?_) (fun g => absurd g (nI_m1 (by omega)))
    refine And.intro (mx_r (q := 122) (n := 9) (k := 4) rfl rfl (show b < 9 by omega)) (And.intro (Or.inl rfl) ?_)
    rw [show (oI (some b)).toNatClampNeg = b from nI_cl (by omega)]
    refine And.intro (mx_e (q := 122) (n := 9) (k := 4) (i := 2 + way) rfl (by omega) (by omega) (nI_add 2 way)) ?_
    have e1 : rI σ (122 + 1 + b) (nI 2 + nI way).toNatClampNeg - nI 1 = iZ ((kW s b (2 + way) : Int) - 1) := by
      rw [nI_add, nI_cl (by omega), rb, ← iZ_nat, ← iZ_nat, iZ_sub]; rfl
    rw [← e1] at hP
    exact hP
end WM
