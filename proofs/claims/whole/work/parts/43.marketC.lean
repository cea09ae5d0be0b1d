/-! THE MARKET on the component's side -/
def betP (pr : Nat → Nat) (k : Nat) : Option Nat → Bool
  | none => true
  | some b => decide (pr b < pr k)
def bsL (dn : Nat → Bool) (pr : Nat → Nat) : Nat → Option Nat
  | 0 => none
  | k + 1 => if (! dn k && betP pr k (bsL dn pr k)) = true then some k else bsL dn pr k
theorem bsL_some {dn : Nat → Bool} {pr : Nat → Nat} : ∀ k b, bsL dn pr k = some b → b < k ∧ dn b = false ∧ ∀ j, j < k → dn j = false → j ≠ b → befB pr j b = true
  | 0, b, e => by cases e
  | k + 1, b, e => by
    rw [bsL] at e
    by_cases h : (! dn k && betP pr k (bsL dn pr k)) = true
    · rw [if_pos h] at e
      cases e
      rw [Bool.and_eq_true] at h
      refine ⟨by omega, by simpa using h.1, fun j hj hd hne => ?_⟩
      cases e2 : bsL dn pr k with
      | none =>
        have : ∀ m j, j < m → bsL dn pr m = none → dn j = true := by
          intro m
          induction m with
          | zero => intro j hj; omega
          | succ m ih =>
            intro j hj e
            rw [bsL] at e
            by_cases h : (! dn m && betP pr m (bsL dn pr m)) = true
            · rw [if_pos h] at e; cases e
            · rw [if_neg h] at e
              by_cases z : j = m
              · subst z
                rw [e] at h
                cases q : dn j with
                | true => rfl
                | false => exact absurd (by rw [q]; rfl) h
              · exact ih j (by omega) e
        have := this k j (by omega) e2
        rw [this] at hd; cases hd
      | some c =>
        have hc := bsL_some k c e2
        rw [e2] at h
        have h2 := of_decide_eq_true (show decide (pr c < pr k) = true from h.2)
        by_cases z : j = c
        · subst z
          exact decide_eq_true (Or.inl h2)
        · have := of_decide_eq_true (hc.2.2 j (by omega) hd z)
          exact decide_eq_true (Or.inl (by omega))
    · rw [if_neg h] at e
      have hc := bsL_some k b e
      refine ⟨by omega, hc.2.1, fun j hj hd hne => ?_⟩
      by_cases z : j = k
      · subst z
        have : ¬ pr b < pr j := fun y => h (by rw [e, hd]; exact decide_eq_true y)
        exact decide_eq_true (by omega)
      · exact hc.2.2 j (by omega) hd hne
theorem bsL_none {dn : Nat → Bool} {pr : Nat → Nat} : ∀ m, bsL dn pr m = none → ∀ j, j < m → dn j = true
  | 0, _, j, hj => by omega
  | m + 1, e, j, hj => by
    rw [bsL] at e
    by_cases h : (! dn m && betP pr m (bsL dn pr m)) = true
    · rw [if_pos h] at e; cases e
    · rw [if_neg h] at e
      by_cases z : j = m
      · subst z
        rw [e] at h
        cases q : dn j with
        | true => rfl
        | false => exact absurd (by rw [q]; rfl) h
      · exact bsL_none m e j (by omega)
theorem cnt_le (dn : Nat → Bool) : ∀ n, sP (fun _ => 1) dn n ≤ n
  | 0 => Nat.le_refl _
  | n + 1 => by
    rw [sP]
    have := cnt_le dn n
    by_cases h : dn n = true
    · rw [if_pos h]; omega
    · rw [if_neg h]; omega
theorem cnt_all (dn : Nat → Bool) : ∀ n, sP (fun _ => 1) dn n = n → ∀ j, j < n → dn j = true
  | 0, _, j, hj => by omega
  | n + 1, e, j, hj => by
    rw [sP] at e
    have := cnt_le dn n
    by_cases h : dn n = true
    · rw [if_pos h] at e
      by_cases z : j = n
      · rw [z]; exact h
      · exact cnt_all dn n (by omega) j (by omega)
    · rw [if_neg h] at e; omega
theorem cnt_full (dn : Nat → Bool) : ∀ n, (∀ j, j < n → dn j = true) → sP (fun _ => 1) dn n = n
  | 0, _ => rfl
  | n + 1, h => by rw [sP, cnt_full dn n (fun j hj => h j (by omega)), if_pos (h n (by omega))]
/-- done ones are closed: who comes before one of them is done -/
def clD (pr : Nat → Nat) (n : Nat) (dn : Nat → Bool) : Prop := ∀ i j, i < n → j < n → dn i = true → befB pr i j = true → dn j = true
theorem clD_bef {pr : Nat → Nat} {n b : Nat} {dn : Nat → Bool} (hc : clD pr n dn) (hb : bsL dn pr n = some b) : ∀ j, j < n → befB pr b j = dn j := by
  obtain ⟨h1, h2, h3⟩ := bsL_some n b hb
  intro j hj
  cases e : dn j with
  | true =>
    by_cases z : j = b
    · rw [z, h2] at e; cases e
    · cases q : befB pr b j with
      | true => rfl
      | false =>
        have : befB pr j b = true := by
          have q' := of_decide_eq_false q
          exact decide_eq_true (by omega)
        have := hc j b hj h1 e this
        rw [h2] at this; cases this
  | false =>
    cases q : befB pr b j with
    | false => rfl
    | true =>
      by_cases z : j = b
      · subst z
        have := of_decide_eq_true q
        omega
      · have y := of_decide_eq_true (h3 j hj e z)
        have := of_decide_eq_true q
        omega
def insD (dn : Nat → Bool) (b j : Nat) : Bool := decide (j = b) || dn j
theorem insD_in {dn : Nat → Bool} {b : Nat} : insD dn b b = true ∧ ∀ j, j ≠ b → insD dn b j = dn j :=
  ⟨by unfold insD; simp, fun j hj => by unfold insD; simp [hj]⟩
theorem clD_ins {pr : Nat → Nat} {n b : Nat} {dn : Nat → Bool} (hc : clD pr n dn) (hb : bsL dn pr n = some b) : clD pr n (insD dn b) := by
  intro i j hi hj h1 h2
  by_cases z : j = b
  · rw [z]; exact insD_in.1
  · rw [insD_in.2 j z]
    by_cases y : i = b
    · subst y; rw [← clD_bef hc hb j hj]; exact h2
    · rw [insD_in.2 i y] at h1
      exact hc i j hi hj h1 h2
