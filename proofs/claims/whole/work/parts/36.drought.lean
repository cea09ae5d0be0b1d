/-! DROUGHT -/
/-- of the first f fields that thirst yet the first of the least part: n what they need, g what they have -/
def dLess (n g : Nat → Nat) (f : Nat) : Option Nat → Bool
  | none => true
  | some b => decide (g f * n b < g b * n f)
def dBest (n g : Nat → Nat) : Nat → Option Nat
  | 0 => none
  | f + 1 => if (decide (g f < n f) && dLess n g f (dBest n g f)) = true then some f else dBest n g f
theorem dBest_lt (n g : Nat → Nat) : ∀ f b, dBest n g f = some b → b < f ∧ g b < n b
  | 0, b, e => by cases e
  | f + 1, b, e => by
    rw [dBest] at e
    by_cases h : (decide (g f < n f) && dLess n g f (dBest n g f)) = true
    · rw [if_pos h] at e
      cases e
      rw [Bool.and_eq_true, decide_eq_true_eq] at h
      exact ⟨by omega, h.1⟩
    · rw [if_neg h] at e
      have := dBest_lt n g f b e
      exact ⟨by omega, this.2⟩
def dInc (g : Nat → Nat) : Option Nat → Nat → Nat
  | none => g
  | some b => fun f => if f = b then g f + 1 else g f
def dGo (n : Nat → Nat) (F : Nat) : Nat → Nat → Nat
  | 0 => fun _ => 0
  | w + 1 => dInc (dGo n F w) (dBest n (dGo n F w) F)
theorem dGo_le (n : Nat → Nat) (F : Nat) : ∀ w f, dGo n F w f ≤ n f
  | 0, f => Nat.zero_le _
  | w + 1, f => by
    have ih := dGo_le n F w
    show dInc (dGo n F w) (dBest n (dGo n F w) F) f ≤ n f
    cases e : dBest n (dGo n F w) F with
    | none => exact ih f
    | some b =>
      have := dBest_lt n _ F b e
      show (if f = b then dGo n F w f + 1 else dGo n F w f) ≤ n f
      by_cases h : f = b
      · rw [if_pos h, h]; exact this.2
      · rw [if_neg h]; exact ih f
/-- nothing more is given: it stays so -/
theorem dGo_stop (n : Nat → Nat) (F w : Nat) (h : dBest n (dGo n F w) F = none) : ∀ m, dGo n F (w + m) = dGo n F w
  | 0 => rfl
  | m + 1 => by
    show dInc (dGo n F (w + m)) (dBest n (dGo n F (w + m)) F) = _
    rw [dGo_stop n F w h m, h]; rfl
section DR
variable {w : Wd} {d : Nat} {σ : Mem} {s : Sk} {P : Option AV → Mem → Prop} {X : Nat → Mem → Prop}
def kN (s : Sk) (f : Nat) : Nat := kF s f 3
theorem s_hasLess {g : Nat → Nat} {a b : Nat} (hS : skC σ 4 s) (hv : VS s) (hg : ∀ f, f < kT s 3 → rI σ 104 f = nI (g f)) (hgb : ∀ f, g f ≤ kN s f) (ha : a < kT s 3) (hb : b < kT s 3)
    (hP : P (some (.int (bI (decide (g a * kN s b < g b * kN s a))))) σ) : Ret w true (d + 2) 0 0 m_Market_hasLess [.ref 98, .int (nI a), .int (nI b)] σ P X := by
  obtain ⟨s1, s2, s3, s4, s5, -, -, -, -, -, s6, s7, s8, s9, -⟩ := hv
  have ca := s9 a ha
  have cb := s9 b hb
  have na : g a ≤ 99 := Nat.le_trans (hgb a) ca.2.2.2.1
  have nb : g b ≤ 99 := Nat.le_trans (hgb b) cb.2.2.2.1
  have pa : g a * kN s b ≤ 99 * 99 := Nat.mul_le_mul na cb.2.2.2.1
  have pb : g b * kN s a ≤ 99 * 99 := Nat.mul_le_mul nb ca.2.2.2.1
  have ra := hS.2.2.2.1.2 a ha 3 (by omega)
  have rb := hS.2.2.2.1.2 b hb 3 (by omega)
  have e1 : rI σ 104 a * rI σ 11 (b * 6 + 3) = nI (g a * kN s b) := by rw [hg a ha, show rI σ 11 (b * 6 + 3) = nI (kN s b) from rb, nI_mul]
  have e2 : rI σ 104 b * rI σ 11 (a * 6 + 3) = nI (g b * kN s a) := by rw [hg b hb, show rI σ 11 (a * 6 + 3) = nI (kN s a) from ra, nI_mul]
  refine meth_ok k_Market_hasLess q_Market_hasLess rfl fun At hAt => hAt 50 _ _ _ _ _ _ ?_
  refine s_Row_get (a := 103) (na := 104) (n := 12) rfl (show a < 12 by omega) ?_
  refine s_Table_get (a := 10) (na := 11) (mo := 12) (wd := 6) rfl (show b < 12 by omega) (show 3 < 6 by omega) ?_
  refine s_Row_get (a := 103) (na := 104) (n := 12) rfl (show b < 12 by omega) ?_
  refine s_Table_get (a := 10) (na := 11) (mo := 12) (wd := 6) rfl (show a < 12 by omega) (show 3 < 6 by omega) ?_
  refine And.intro (fun q => And.intro rfl ?_) (fun q => And.intro rfl ?_)
  · have q' : rI σ 104 b * rI σ 11 (a * 6 + 3) ≤ rI σ 104 a * rI σ 11 (b * 6 + 3) := q
    rw [e1, e2, nI_leI (by omega) (by omega)] at q'
    rw [decide_eq_false (by omega)] at hP
    exact hP
  · have q' : ¬ rI σ 104 b * rI σ 11 (a * 6 + 3) ≤ rI σ 104 a * rI σ 11 (b * 6 + 3) := q
    rw [e1, e2, nI_leI (by omega) (by omega)] at q'
    rw [decide_eq_true (by omega)] at hP
    exact hP
theorem s_driest {g : Nat → Nat} (hS : skC σ 4 s) (hv : VS s) (hg : ∀ f, f < kT s 3 → rI σ 104 f = nI (g f)) (hgb : ∀ f, g f ≤ kN s f) (hP : P (some (.int (oI (dBest (kN s) g (kT s 3))))) σ) : Ret w true (d + 3) 0 0 m_Market_driest [.ref 98] σ P X := by
  have hv' := hv
  obtain ⟨s1, s2, s3, s4, s5, -, -, -, -, -, s6, s7, s8, s9, -⟩ := hv
  refine meth_ok k_Market_driest q_Market_driest rfl fun At hAt => ?_
  have loop : ∀ m k, k + m = kT s 3 → ∀ z, At 4 [.ref 98, .int (oI (dBest (kN s) g k)), .int (nI k), z] [] σ 0 0 := by
    intro m
    induction m with
    | zero =>
      intro k hk z
      have e : k = kT s 3 := by omega
      subst e
      refine hAt 80 _ _ _ _ _ _ ?_
      refine s_Table_size (a := 10) (na := 11) (mo := 12) (wd := 6) rfl ?_
      exact And.intro (fun _ => hP) (fun q => absurd (show rI σ 10 3 ≤ nI (kT s 3) by rw [hS.2.2.2.1.1]; exact nI_le (Nat.le_refl _) (by omega)) q)
    | succ m ih =>
      intro k hk z
      have hk' : k < kT s 3 := by omega
      have c := s9 k hk'
      have nk : g k ≤ 99 := Nat.le_trans (hgb k) c.2.2.2.1
      have r3 : rI σ 11 (k * 6 + 3) = nI (kN s k) := hS.2.2.2.1.2 k hk' 3 (by omega)
      have n3 : kN s k ≤ 99 := c.2.2.2.1
      have q := ih (k + 1) (by omega)
      rw [nI_s] at q
      have skip : ¬ (decide (g k < kN s k) && dLess (kN s) g k (dBest (kN s) g k)) = true → ∀ z, At 4 [.ref 98, .int (oI (dBest (kN s) g k)), .int (nI k + nI 1), z] [] σ 0 0 := by
        intro h z
        rw [show dBest (kN s) g (k + 1) = dBest (kN s) g k by rw [dBest, if_neg h]] at q
        exact q z
      have take : (decide (g k < kN s k) && dLess (kN s) g k (dBest (kN s) g k)) = true → ∀ z, At 4 [.ref 98, .int (nI k), .int (nI k + nI 1), z] [] σ 0 0 := by
        intro h z
        rw [show dBest (kN s) g (k + 1) = some k by rw [dBest, if_pos h]] at q
        exact q z
      refine hAt 80 _ _ _ _ _ _ ?_
      refine s_Table_size (a := 10) (na := 11) (mo := 12) (wd := 6) rfl ?_
      refine And.intro (fun q => absurd (show rI σ 10 3 ≤ nI k from q) (by rw [hS.2.2.2.1.1]; exact nI_ge hk' (by omega))) (fun _ => ?_)
      refine s_Row_get (a := 103) (na := 104) (n := 12) rfl (show k < 12 by omega) ?_
      refine s_Table_get (a := 10) (na := 11) (mo := 12) (wd := 6) rfl (show k < 12 by omega) (show 3 < 6 by omega) ?_
      refine And.intro (fun h => ?_) (fun h => ?_)
      · have h' : rI σ 11 (k * 6 + 3) ≤ rI σ 104 k := h
        rw [r3, hg k hk', nI_leI (by omega) (by omega)] at h'
        refine And.intro (fun _ => skip (fun y => ?_) _) (fun y => absurd rfl y)
        rw [Bool.and_eq_true, decide_eq_true_eq] at y
        omega
      · have h' : ¬ rI σ 11 (k * 6 + 3) ≤ rI σ 104 k := h
        rw [r3, hg k hk', nI_leI (by omega) (by omega)] at h'
        refine And.intro (fun y => absurd y (by decide)) (fun _ => ?_)
        cases e : dBest (kN s) g k with
        | none =>
          rw [e] at take
          exact And.intro (fun _ => take (by rw [decide_eq_true (by omega)]; rfl) _) (fun y => absurd rfl y)
        | some b =>
          have hb := dBest_lt _ _ k b e
          rw [e] at take skip
          refine And.intro (fun y => absurd y (nI_m1 (by omega))) (fun _ => ?_)
          refine s_hasLess hS hv' hg hgb hk' (show b < kT s 3 by omega) ?_
          refine And.intro (fun y => skip (fun u => ?_) _) (fun y => take ?_ _)
          · rw [Bool.and_eq_true] at u
            have u2 := of_decide_eq_true (show decide (g k * kN s b < g b * kN s k) = true from u.2)
            exact absurd u2 (of_decide_eq_false (bI_eq y))
          · rw [Bool.and_eq_true]
            exact ⟨decide_eq_true (by omega), bI_ne y⟩
  exact hAt 80 _ _ _ _ _ _ (loop (kT s 3) 0 (by omega) _)
end DR
