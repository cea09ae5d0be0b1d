/-! DROUGHT, both sides -/
theorem skC.frame {σ τ : Mem} {s : Sk} (h : skC σ 4 s) (f : ∀ a j, 5 ≤ a → a ≤ 15 → rI τ a j = rI σ a j) : skC τ 4 s := by
  obtain ⟨k1, k2, k3, k4, k5, k6⟩ := h
  have g := fun a (h1 : 5 ≤ a) (h2 : a ≤ 15) j => f a j h1 h2
  exact ⟨fun i hi => by rw [f _ _ (by omega) (by omega)]; exact k1 i hi, k2.frame (g _ (by omega) (by omega)) (g _ (by omega) (by omega)), k3.frame (g _ (by omega) (by omega)) (g _ (by omega) (by omega)), k4.frame (g _ (by omega) (by omega)) (g _ (by omega) (by omega)), k5.frame (g _ (by omega) (by omega)) (g _ (by omega) (by omega)), fun k hk h hh => by rw [f _ _ (by omega) (by omega)]; exact k6 k hk h hh⟩
/-- the places of the component that the abstract state speaks of -/
theorem IC.scr {A : St} {σ τ : Mem} (h : IC A σ) (f : ∀ a j, (a < 16 ∧ a ≠ 3) ∨ (31 ≤ a ∧ a < 59) → rI τ a j = rI σ a j) (hn : mN σ ≤ mN τ) (hi : aIn A ≤ 3) : IC A τ := by
  obtain ⟨h1, h2, h3, h4, h5, h6, h7, h8⟩ := h
  have g := fun a (h : (a < 16 ∧ a ≠ 3) ∨ (31 ≤ a ∧ a < 59)) j => f a j h
  refine ⟨Nat.le_trans h1 hn, by rw [f _ _ (by omega)]; exact h2, fun j hj => by rw [f _ _ (by omega)]; exact h3 j hj, by rw [f _ _ (by omega)]; exact h4, h5.frame (fun a j q1 q2 => f a j (by omega)), ?_, by rw [f _ _ (by omega)]; exact h7, fun i hi => ?_⟩
  · obtain ⟨k1, k2, k3⟩ := h6
    exact ⟨k1.frame (g _ (by omega)) (g _ (by omega)), k2.frame (g _ (by omega)) (g _ (by omega)), k3.frame (g _ (by omega)) (g _ (by omega))⟩
  · obtain ⟨k1, k2, k3⟩ := h8 i hi
    exact ⟨k1.frame (g _ (by omega)) (g _ (by omega)), k2.frame (g _ (by omega)) (g _ (by omega)), k3.frame (g _ (by omega)) (g _ (by omega))⟩
section DR2
variable {w : Wd} {d : Nat} {A : St} {v : AV}
theorem s_ration {σ : Mem} {s : Sk} {P : Option AV → Mem → Prop} {X : Nat → Mem → Prop} {q : Nat} (hS : skC σ 4 s) (hv : VS s) (hq : q ≤ 9999) (hP : ∀ τ, (∀ a j, a ≠ 104 → rI τ a j = rI σ a j) → τ.2 = σ.2 → (∀ f, f < kT s 3 → rI τ 104 f = nI (dGo (kN s) (kT s 3) q f)) → P none τ) : Ret w true (d + 4) 0 0 m_Market_ration [.ref 98, .int (nI q)] σ P X := by
  have hF : kT s 3 ≤ 12 := hv.2.2.2.1
  refine meth_ok k_Market_ration q_Market_ration rfl fun At hAt => ?_
  have loop : ∀ m k, k + m = q → ∀ τ z, (∀ a j, a ≠ 104 → rI τ a j = rI σ a j) → τ.2 = σ.2 → (∀ f, f < kT s 3 → rI τ 104 f = nI (dGo (kN s) (kT s 3) k f)) → At 10 [.ref 98, .int (nI q), .int (nI k), z] [] τ 0 0 := by
    intro m
    induction m with
    | zero =>
      intro k hk τ z t1 t2 t3
      have e : k = q := by omega
      subst e
      refine hAt 80 _ _ _ _ _ _ ?_
      exact And.intro (fun _ => hP τ t1 t2 t3) (fun y => absurd (nI_le (Nat.le_refl _) (by omega)) y)
    | succ m ih =>
      intro k hk τ z t1 t2 t3
      refine hAt 80 _ _ _ _ _ _ ?_
      refine And.intro (fun y => absurd y (nI_ge (by omega) (by omega))) (fun _ => ?_)
      refine And.intro (fun y => absurd y (nI_ge (show k < 9999 by omega) (by omega))) (fun _ => ?_)
      refine s_driest (g := dGo (kN s) (kT s 3) k) (hS.frame (fun a j h1 h2 => t1 a j (by omega))) hv t3 (fun f => dGo_le _ _ _ f) ?_
      cases e : dBest (kN s) (dGo (kN s) (kT s 3) k) (kT s 3) with
      | none =>
        refine And.intro (fun y => absurd rfl y) (fun _ => ?_)
        refine hP τ t1 t2 (fun f hf => ?_)
        rw [show q = k + (m + 1) by omega, dGo_stop _ _ k e]
        exact t3 f hf
      | some b =>
        have hb := dBest_lt _ _ _ b e
        have hg := dGo_le (kN s) (kT s 3) k b
        refine And.intro (fun _ => ?_) (fun y => absurd y (nI_m1 (by omega)))
        refine s_Row_add (a := 103) (na := 104) (n := 12) rfl (show b < 12 by omega) ?_
        have y := ih (k + 1) (by omega) (wI τ 104 b (rI τ 104 b + nI 1)) (.int (nI b)) (fun a j h => by rw [rI_wI, if_neg (fun z => h z.1)]; exact t1 a j h) t2 (fun f hf => by
          have e2 : dGo (kN s) (kT s 3) (k + 1) f = if f = b then dGo (kN s) (kT s 3) k f + 1 else dGo (kN s) (kT s 3) k f := by
            show dInc (dGo (kN s) (kT s 3) k) (dBest (kN s) (dGo (kN s) (kT s 3) k) (kT s 3)) f = _
            rw [e]; rfl
          rw [e2, rI_wI]
          by_cases h : f = b
          · rw [if_pos ⟨rfl, h⟩, if_pos h, ← h, t3 f hf, nI_add]
          · rw [if_neg (fun z => h z.2), if_neg h, t3 f hf])
        rw [nI_s k] at y
        exact y
  refine hAt 80 _ _ _ _ _ _ ?_
  refine s_Row_setAll (a := 103) (na := 104) (n := 12) rfl ?_
  refine loop q 0 (by omega) _ _ (fun a j h => by rw [rI_uI, if_neg h]) rfl (fun f hf => ?_)
  rw [rI_uI, if_pos rfl, if_pos (by omega)]; rfl
/-- what DROUGHT gives -/
def drA (A : St) (q f : Nat) : Nat := dGo (kN (aSk A)) (kT (aSk A) 3) q f
theorem CC_drought_bad1 {x y : Int32} (hx : y < nI 0 ∨ nI (kT (aSk A) 3) ≤ y) : CC w (d + 7) m_OC_drought [.int x, .int y] A 3 v A := by
  intro σ P X hI _ hX
  refine meth_ok k_OC_drought q_OC_drought rfl fun At hAt => hAt 50 _ _ _ _ _ _ ?_
  exact callG 1 6 (by omega) (by omega) (s_needField_bad hI hx (by omega) (by omega) (fun n => hX 2 rfl _ (frC.nX σ n) (hI.nX n)))
theorem CC_drought_bad2 {x : Int32} {j : Nat} (hv : VA A) (hj : j < kT (aSk A) 3) (hy : x < nI 0 ∨ nI 10000 ≤ x) : CC w (d + 7) m_OC_drought [.int x, .int (nI j)] A 1 v A := by
  intro σ P X hI _ hX
  refine meth_ok k_OC_drought q_OC_drought rfl fun At hAt => hAt 50 _ _ _ _ _ _ ?_
  refine callG 0 0 (by omega) (by omega) (s_needField_ok hI hv hj ?_)
  refine s_isWater ?_
  rw [decide_eq_false (in_bad' (n := 9999) (by omega) hy)]
  exact callG 1 6 (by omega) (by omega) (s_need_bad rfl (by omega) (by omega) hI.n (fun n => hX 0 rfl _ (frC.nX σ n) (hI.nX n)))
theorem CC_drought_ok {q j : Nat} (hv : VA A) (hj : j < kT (aSk A) 3) (hq : q ≤ 9999) : CC w (d + 7) m_OC_drought [.int (nI q), .int (nI j)] A 0 (.int (nI (drA A q j))) A := by
  intro σ P X hI hP _
  have hn : kT (aSk A) 3 ≤ 12 := hv.2.2.1.2.2.2.1
  have hP' : ∀ σ' x, frC σ σ' → IC A σ' → x = nI (drA A q j) → P (some (.int x)) σ' := fun σ' x h1 h2 h3 => by rw [h3]; exact hP rfl σ' h1 h2
  refine meth_ok k_OC_drought q_OC_drought rfl fun At hAt => hAt 50 _ _ _ _ _ _ ?_
  refine callG 0 0 (by omega) (by omega) (s_needField_ok hI hv hj ?_)
  refine s_isWater ?_
  rw [decide_eq_true ⟨nI_nlt (Nat.zero_le _) (by omega), nI_nlt (by omega) (by omega)⟩]
  refine callG 0 0 (by omega) (by omega) (s_need_ok (by decide) ?_)
  refine s_ration hI.sk hv.2.2.1 hq fun τ t1 t2 t3 => ?_
  refine s_Row_get (a := 103) (na := 104) (n := 12) rfl (show j < 12 by omega) ?_
  have hN : mN τ = mN σ := congrArg (fun z => z.2.2.1) t2
  exact hP' τ _ ⟨fun a h1 h2 i => t1 a i (by omega), fun i => congrArg (fun z => z.1 367 i) t2, by omega⟩ (hI.scr (fun a i h => t1 a i (by omega)) (by omega) hv.2.2.2.2.1) (t3 j hj)
end DR2
