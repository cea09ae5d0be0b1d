/-! bestLeft, serve -/
section SV
variable {w : Wd} {d : Nat} {σ : Mem} {P : Option AV → Mem → Prop} {X : Nat → Mem → Prop}
theorem s_bestLeft {t : Tb} {pr : Nat → Nat} {dn : Nat → Bool} (hb : tbR σ 33 34 3 t) (hn : t.1 ≤ 8) (hp : ∀ k, k < t.1 → t.2 k 2 = pr k ∧ pr k ≤ 99) (hd : ∀ k, k < t.1 → rI σ 100 k = bI (dn k)) (hP : P (some (.int (oI (bsL dn pr t.1)))) σ) :
    Ret w true (d + 2) 0 0 m_Market_bestLeft [.ref 98] σ P X := by
  refine meth_ok k_Market_bestLeft q_Market_bestLeft rfl fun At hAt => ?_
  have loop : ∀ m k, k + m = t.1 → ∀ z, At 4 [.ref 98, .int (oI (bsL dn pr k)), .int (nI k), z] [] σ 0 0 := by
    intro m
    induction m with
    | zero =>
      intro k hk z
      have e : k = t.1 := by omega
      subst e
      refine hAt 80 _ _ _ _ _ _ ?_
      refine s_Table_size (a := 33) (na := 34) (mo := 8) (wd := 3) rfl ?_
      exact And.intro (fun _ => hP) (fun y => absurd (show rI σ 33 3 ≤ nI t.1 by rw [hb.1]; exact nI_le (Nat.le_refl _) (by omega)) y)
    | succ m ih =>
      intro k hk z
      have hk' : k < t.1 := by omega
      have y := ih (k + 1) (by omega)
      rw [nI_s] at y
      have rk : rI σ 34 (k * 3 + 2) = nI (pr k) := by rw [hb.2 k hk' 2 (by omega), (hp k hk').1]
      have ck := (hp k hk').2
      have hdk := hd k hk'
      have skip : ¬ (! dn k && betP pr k (bsL dn pr k)) = true → ∀ z, At 4 [.ref 98, .int (oI (bsL dn pr k)), .int (nI k + nI 1), z] [] σ 0 0 := by
        intro h z
        rw [show bsL dn pr (k + 1) = bsL dn pr k by rw [bsL, if_neg h]] at y
        exact y z
      have take : (! dn k && betP pr k (bsL dn pr k)) = true → ∀ z, At 4 [.ref 98, .int (nI k), .int (nI k + nI 1), z] [] σ 0 0 := by
        intro h z
        rw [show bsL dn pr (k + 1) = some k by rw [bsL, if_pos h]] at y
        exact y z
      refine hAt 80 _ _ _ _ _ _ ?_
      refine s_Table_size (a := 33) (na := 34) (mo := 8) (wd := 3) rfl ?_
      refine And.intro (fun y => absurd (show rI σ 33 3 ≤ nI k from y) (by rw [hb.1]; exact nI_ge hk' (by omega))) (fun _ => ?_)
      cases e : bsL dn pr k with
      | none =>
        rw [e] at skip take
        refine And.intro (fun _ => ?_) (fun y => absurd rfl y)
        refine s_Row_get (a := 99) (na := 100) (n := 8) rfl (show k < 8 by omega) ?_
        rw [hdk]
        cases q : dn k with
        | true =>
          rw [q] at skip
          exact And.intro (fun _ => skip (by simp) _) (fun y => absurd y (by decide))
        | false =>
          rw [q] at take
          exact And.intro (fun y => absurd rfl y) (fun _ => And.intro (fun y => absurd y (by decide)) (fun _ => take rfl _))
      | some b =>
        have hbb := bsL_some k b e
        rw [e] at skip take
        have rb : rI σ 34 (b * 3 + 2) = nI (pr b) := by rw [hb.2 b (by omega) 2 (by omega), (hp b (by omega)).1]
        have cb := (hp b (by omega)).2
        refine And.intro (fun y => absurd y (nI_m1 (by omega))) (fun _ => ?_)
        refine s_Table_get (a := 33) (na := 34) (mo := 8) (wd := 3) rfl (show k < 8 by omega) (show 2 < 3 by omega) ?_
        refine s_Table_get (a := 33) (na := 34) (mo := 8) (wd := 3) rfl (show b < 8 by omega) (show 2 < 3 by omega) ?_
        refine And.intro (fun g => ?_) (fun g => ?_)
        · have g' : rI σ 34 (k * 3 + 2) ≤ rI σ 34 (b * 3 + 2) := g
          rw [rk, rb, nI_leI (by omega) (by omega)] at g'
          have sk := skip (fun u => by
            rw [Bool.and_eq_true] at u
            have := of_decide_eq_true (show decide (pr b < pr k) = true from u.2)
            omega)
          refine s_Row_get (a := 99) (na := 100) (n := 8) rfl (show k < 8 by omega) ?_
          exact And.intro (fun _ => sk _) (fun _ => And.intro (fun _ => sk _) (fun y => absurd rfl y))
        · have g' : ¬ rI σ 34 (k * 3 + 2) ≤ rI σ 34 (b * 3 + 2) := g
          rw [rk, rb, nI_leI (by omega) (by omega)] at g'
          have hl : betP pr k (some b) = true := decide_eq_true (by omega)
          refine s_Row_get (a := 99) (na := 100) (n := 8) rfl (show k < 8 by omega) ?_
          rw [hdk]
          cases q : dn k with
          | true =>
            rw [q] at skip
            exact And.intro (fun _ => skip (by simp) _) (fun y => absurd y (by decide))
          | false =>
            rw [q, hl] at take
            exact And.intro (fun y => absurd rfl y) (fun _ => And.intro (fun y => absurd y (by decide)) (fun _ => take rfl _))
  exact hAt 80 _ _ _ _ _ _ (loop t.1 0 (by omega) _)
end SV
