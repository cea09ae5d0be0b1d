/-! serve -/
section SVD
variable {w : Wd} {d : Nat} {σ : Mem} {P : Option AV → Mem → Prop} {X : Nat → Mem → Prop}
theorem s_serve {n W : Nat} {m pr : Nat → Nat} (hb : rI σ 33 3 = nI n) (hr : ∀ k, k < n → rI σ 34 (k * 3 + 1) = nI (m k) ∧ rI σ 34 (k * 3 + 2) = nI (pr k)) (hn : n ≤ 8) (hW : W ≤ 9999) (hm : ∀ k, k < n → m k ≤ 999 ∧ pr k ≤ 99)
    (hP : ∀ τ, (∀ a j, a ≠ 98 → a ≠ 100 → ¬ (a = 96 ∧ j = 5) → rI τ a j = rI σ a j) → τ.2 = σ.2 → (∀ i, i < n → rI τ 100 i = nI (gA m pr n W i)) → rI τ 96 5 = nI (mPr m pr n W (fun _ => true) n) → P none τ) :
    Ret w true (d + 3) 0 0 m_Market_serve [.ref 96, .int (nI W)] σ P X := by
  have gm : ∀ i, gA m pr n W i ≤ m i := fun i => Nat.min_le_left _ _
  refine meth_ok k_Market_serve q_Market_serve rfl fun At hAt => ?_
  have loop : ∀ l k, k + l = n → ∀ τ z1 z2 (dn : Nat → Bool), (∀ a j, a ≠ 98 → a ≠ 100 → ¬ (a = 96 ∧ j = 5) → rI τ a j = rI σ a j) → τ.2 = σ.2 → clD pr n dn → sP (fun _ => 1) dn n = k → (∀ i, i < n → rI τ 98 i = bI (dn i)) → (∀ i, i < n → dn i = true → rI τ 100 i = nI (gA m pr n W i)) →
      rI τ 96 5 = nI (mPr m pr n W dn n) → At 17 [.ref 96, .int (nI W), .int (nI (W - sP m dn n)), .int (nI k), z1, z2] [] τ 0 0 := by
    intro l
    induction l with
    | zero =>
      intro k hk τ z1 z2 dn t1 t2 t3 t4 t5 t6 t7
      have e : k = n := by omega
      have hall := cnt_all dn n (t4.trans e)
      subst e
      refine hAt 80 _ _ _ _ _ _ ?_
      refine s_Table_size (a := 33) (na := 34) (mo := 8) (wd := 3) rfl ?_
      refine And.intro (fun _ => ?_) (fun y => absurd (show rI τ 33 3 ≤ nI k by rw [t1 _ _ (by omega) (by omega) (by omega), hb]; exact nI_le (Nat.le_refl _) (by omega)) y)
      exact hP τ t1 t2 (fun i hi => t6 i hi (hall i hi)) (by rw [t7, mPr_congr m pr k W (q := dn) (r := fun _ => true) k hall])
    | succ l ih =>
      intro k hk τ z1 z2 dn t1 t2 t3 t4 t5 t6 t7
      have tb : tbR τ 33 34 3 (n, fun k i => if i = 1 then m k else if i = 2 then pr k else (rI σ 34 (k * 3)).toNatClampNeg) ∨ True := Or.inr trivial
      refine hAt 80 _ _ _ _ _ _ ?_
      refine s_Table_size (a := 33) (na := 34) (mo := 8) (wd := 3) rfl ?_
      refine And.intro (fun y => absurd (show rI τ 33 3 ≤ nI k from y) (by rw [t1 _ _ (by omega) (by omega) (by omega), hb]; exact nI_ge (by omega) (by omega))) (fun _ => ?_)
      sorry
  refine hAt 80 _ _ _ _ _ _ ?_
  refine s_Row_setAll (a := 97) (na := 98) (n := 8) rfl ?_
  have e0 : sP m (fun _ => false) n = 0 := sP_none m n (fun _ _ => rfl)
  have y := loop n 0 (by omega) (uI (wI σ 96 5 (nI 0)) 98 (fun j => if j < 8 then nI 0 else rI (wI σ 96 5 (nI 0)) 98 j)) junk junk (fun _ => false) (fun a j h1 h2 h3 => by rw [rI_uI, if_neg h1, rI_wI, if_neg h3]) rfl (fun i j _ _ h => by cases h) (sP_none _ n (fun _ _ => rfl))
    (fun i hi => by rw [rI_uI, if_pos rfl, if_pos (by omega)]; rfl) (fun i _ h => by cases h) (by rw [rI_uI, if_neg (by omega), rI_wI, if_pos ⟨rfl, rfl⟩, mPr_none m pr n W n (fun _ _ => rfl)])
  rw [e0] at y
  exact y
end SVD
