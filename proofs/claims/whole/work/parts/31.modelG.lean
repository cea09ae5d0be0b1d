/-! THE MODEL'S IMAGES, all of a book -/
section MG
variable {w : Wd} {d : Nat} {A : St} {v : AV}
theorem s_keepsAll {b : Bool} {i : Nat} {σ : Mem} {P : Option AV → Mem → Prop} {X : Nat → Mem → Prop} (hi : i < 3) (hP : ∀ τ, kp b (234 + 1 + i) 174 σ τ → P none τ) : Ret w true (d + 2) 0 0 m_Mo_keepsAll [.ref 108, .ref (234 + 1 + i), .int (bI b)] σ P X := by
  refine meth_ok k_Mo_keepsAll q_Mo_keepsAll rfl fun At hAt => ?_
  have L3 : (∀ τ z, kp b (234 + 1 + i) (147 + 9 * 3) σ τ → At 155 [.ref 108, .ref (234 + 1 + i), .int (bI b), .int (nI 9), z] [] τ 0 0) → ∀ m k, k + m = 9 → ∀ τ z, kp b (234 + 1 + i) (147 + k * 3) σ τ → At 155 [.ref 108, .ref (234 + 1 + i), .int (bI b), .int (nI k), z] [] τ 0 0 := by
    intro hend m
    induction m with
    | zero =>
      intro k hk τ z hτ
      have ek : k = 9 := by omega
      subst ek
      exact hend τ z hτ
    | succ m ih =>
      intro k hk τ z hτ
      have inn : ∀ m2 j, j + m2 = 3 → ∀ τ, kp b (234 + 1 + i) (147 + (k * 3 + j)) σ τ → At 164 [.ref 108, .ref (234 + 1 + i), .int (bI b), .int (nI k), .int (nI j)] [] τ 0 0 := by
        intro m2
        induction m2 with
        | zero =>
          intro j hj τ hτ
          have ej : j = 3 := by omega
          subst ej
          refine hAt 50 _ _ _ _ _ _ ?_
          refine And.intro (fun _ => ?_) (fun q => absurd (nI_le (by omega) (by omega)) q)
          have q := ih (k + 1) (by omega) τ (.int (nI 3)) (by rw [Nat.add_mul]; exact hτ)
          rw [nI_s] at q
          exact q
        | succ m2 ih2 =>
          intro j hj τ hτ
          have hp : 147 + (k * 3 + j) < 174 := by omega
          have ea : bkAd (147 + (k * 3 + j)) = 224 + 1 + k := by unfold bkAd; rw [if_neg (by omega), if_neg (by omega), if_neg (by omega)]; omega
          have ej : bkJ (147 + (k * 3 + j)) = j := by unfold bkJ; rw [if_neg (by omega), if_neg (by omega), if_neg (by omega)]; omega
          have st := hτ.step hp (by omega)
          have ev : bkv τ (147 + (k * 3 + j)) = rI τ (224 + 1 + k) j := by unfold bkv; rw [ea, ej]
          rw [ea, ej, ev] at st
          have q := ih2 (j + 1) (by omega) _ st
          rw [nI_s] at q
          refine hAt 50 _ _ _ _ _ _ ?_
          refine And.intro (fun q => absurd q (nI_ge (by omega) (by omega))) (fun _ => ?_)
          refine And.intro (mx_r (q := 224) (n := 9) (k := 3) rfl rfl (show k < 9 by omega)) (And.intro (Or.inl rfl) ?_)
          refine And.intro (mx_r (q := 224) (n := 9) (k := 3) rfl rfl (show k < 9 by omega)) (And.intro (Or.inl rfl) ?_)
          rw [nI_cl (by omega)]
          refine And.intro (mx_e (q := 224) (n := 9) (k := 3) rfl (show k < 9 by omega) (show j < 3 by omega) rfl) ?_
          rw [nI_cl (by omega)]
          refine s_keeps hi hτ.2.2.1 (by omega) ?_
          refine And.intro (mx_e (q := 224) (n := 9) (k := 3) rfl (show k < 9 by omega) (show j < 3 by omega) rfl) ?_
          rw [nI_cl (by omega)]
          exact q
      refine hAt 50 _ _ _ _ _ _ ?_
      refine And.intro (fun q => absurd q (nI_ge (by omega) (by omega))) (fun _ => ?_)
      exact inn 3 0 (by omega) τ hτ
  have E3 : ∀ τ z, kp b (234 + 1 + i) (147 + 9 * 3) σ τ → At 155 [.ref 108, .ref (234 + 1 + i), .int (bI b), .int (nI 9), z] [] τ 0 0 := fun τ z h => by
    refine hAt 50 _ _ _ _ _ _ ?_
    exact And.intro (fun _ => hP τ h) (fun q => absurd (nI_le (by omega) (by omega)) q)
  have L2 : (∀ τ z, kp b (234 + 1 + i) (123 + 8 * 3) σ τ → At 102 [.ref 108, .ref (234 + 1 + i), .int (bI b), .int (nI 8), z] [] τ 0 0) → ∀ m k, k + m = 8 → ∀ τ z, kp b (234 + 1 + i) (123 + k * 3) σ τ → At 102 [.ref 108, .ref (234 + 1 + i), .int (bI b), .int (nI k), z] [] τ 0 0 := by
    intro hend m
    induction m with
    | zero =>
      intro k hk τ z hτ
      have ek : k = 8 := by omega
      subst ek
      exact hend τ z hτ
    | succ m ih =>
      intro k hk τ z hτ
      have inn : ∀ m2 j, j + m2 = 3 → ∀ τ, kp b (234 + 1 + i) (123 + (k * 3 + j)) σ τ → At 111 [.ref 108, .ref (234 + 1 + i), .int (bI b), .int (nI k), .int (nI j)] [] τ 0 0 := by
        intro m2
        induction m2 with
        | zero =>
          intro j hj τ hτ
          have ej : j = 3 := by omega
          subst ej
          refine hAt 50 _ _ _ _ _ _ ?_
          refine And.intro (fun _ => ?_) (fun q => absurd (nI_le (by omega) (by omega)) q)
          have q := ih (k + 1) (by omega) τ (.int (nI 3)) (by rw [Nat.add_mul]; exact hτ)
          rw [nI_s] at q
          exact q
        | succ m2 ih2 =>
          intro j hj τ hτ
          have hp : 123 + (k * 3 + j) < 174 := by omega
          have ea : bkAd (123 + (k * 3 + j)) = 215 + 1 + k := by unfold bkAd; rw [if_neg (by omega), if_neg (by omega), if_pos (by omega)]; omega
          have ej : bkJ (123 + (k * 3 + j)) = j := by unfold bkJ; rw [if_neg (by omega), if_neg (by omega), if_pos (by omega)]; omega
          have st := hτ.step hp (by omega)
          have ev : bkv τ (123 + (k * 3 + j)) = rI τ (215 + 1 + k) j := by unfold bkv; rw [ea, ej]
          rw [ea, ej, ev] at st
          have q := ih2 (j + 1) (by omega) _ st
          rw [nI_s] at q
          refine hAt 50 _ _ _ _ _ _ ?_
          refine And.intro (fun q => absurd q (nI_ge (by omega) (by omega))) (fun _ => ?_)
          refine And.intro (mx_r (q := 215) (n := 8) (k := 3) rfl rfl (show k < 8 by omega)) (And.intro (Or.inl rfl) ?_)
          refine And.intro (mx_r (q := 215) (n := 8) (k := 3) rfl rfl (show k < 8 by omega)) (And.intro (Or.inl rfl) ?_)
          rw [nI_cl (by omega)]
          refine And.intro (mx_e (q := 215) (n := 8) (k := 3) rfl (show k < 8 by omega) (show j < 3 by omega) rfl) ?_
          rw [nI_cl (by omega)]
          refine s_keeps hi hτ.2.2.1 (by omega) ?_
          refine And.intro (mx_e (q := 215) (n := 8) (k := 3) rfl (show k < 8 by omega) (show j < 3 by omega) rfl) ?_
          rw [nI_cl (by omega)]
          exact q
      refine hAt 50 _ _ _ _ _ _ ?_
      refine And.intro (fun q => absurd q (nI_ge (by omega) (by omega))) (fun _ => ?_)
      exact inn 3 0 (by omega) τ hτ
  have E2 : ∀ τ z, kp b (234 + 1 + i) (123 + 8 * 3) σ τ → At 102 [.ref 108, .ref (234 + 1 + i), .int (bI b), .int (nI 8), z] [] τ 0 0 := fun τ z h => by
    refine hAt 50 _ _ _ _ _ _ ?_
    exact And.intro (fun _ => L3 E3 9 0 (by omega) τ z h) (fun q => absurd (nI_le (by omega) (by omega)) q)
  have L1 : (∀ τ z, kp b (234 + 1 + i) (3 + 30 * 4) σ τ → At 49 [.ref 108, .ref (234 + 1 + i), .int (bI b), .int (nI 30), z] [] τ 0 0) → ∀ m k, k + m = 30 → ∀ τ z, kp b (234 + 1 + i) (3 + k * 4) σ τ → At 49 [.ref 108, .ref (234 + 1 + i), .int (bI b), .int (nI k), z] [] τ 0 0 := by
    intro hend m
    induction m with
    | zero =>
      intro k hk τ z hτ
      have ek : k = 30 := by omega
      subst ek
      exact hend τ z hτ
    | succ m ih =>
      intro k hk τ z hτ
      have inn : ∀ m2 j, j + m2 = 4 → ∀ τ, kp b (234 + 1 + i) (3 + (k * 4 + j)) σ τ → At 58 [.ref 108, .ref (234 + 1 + i), .int (bI b), .int (nI k), .int (nI j)] [] τ 0 0 := by
        intro m2
        induction m2 with
        | zero =>
          intro j hj τ hτ
          have ej : j = 4 := by omega
          subst ej
          refine hAt 50 _ _ _ _ _ _ ?_
          refine And.intro (fun _ => ?_) (fun q => absurd (nI_le (by omega) (by omega)) q)
          have q := ih (k + 1) (by omega) τ (.int (nI 4)) (by rw [Nat.add_mul]; exact hτ)
          rw [nI_s] at q
          exact q
        | succ m2 ih2 =>
          intro j hj τ hτ
          have hp : 3 + (k * 4 + j) < 174 := by omega
          have ea : bkAd (3 + (k * 4 + j)) = 184 + 1 + k := by unfold bkAd; rw [if_neg (by omega), if_pos (by omega)]; omega
          have ej : bkJ (3 + (k * 4 + j)) = j := by unfold bkJ; rw [if_neg (by omega), if_pos (by omega)]; omega
          have st := hτ.step hp (by omega)
          have ev : bkv τ (3 + (k * 4 + j)) = rI τ (184 + 1 + k) j := by unfold bkv; rw [ea, ej]
          rw [ea, ej, ev] at st
          have q := ih2 (j + 1) (by omega) _ st
          rw [nI_s] at q
          refine hAt 50 _ _ _ _ _ _ ?_
          refine And.intro (fun q => absurd q (nI_ge (by omega) (by omega))) (fun _ => ?_)
          refine And.intro (mx_r (q := 184) (n := 30) (k := 4) rfl rfl (show k < 30 by omega)) (And.intro (Or.inl rfl) ?_)
          refine And.intro (mx_r (q := 184) (n := 30) (k := 4) rfl rfl (show k < 30 by omega)) (And.intro (Or.inl rfl) ?_)
          rw [nI_cl (by omega)]
          refine And.intro (mx_e (q := 184) (n := 30) (k := 4) rfl (show k < 30 by omega) (show j < 4 by omega) rfl) ?_
          rw [nI_cl (by omega)]
          refine s_keeps hi hτ.2.2.1 (by omega) ?_
          refine And.intro (mx_e (q := 184) (n := 30) (k := 4) rfl (show k < 30 by omega) (show j < 4 by omega) rfl) ?_
          rw [nI_cl (by omega)]
          exact q
      refine hAt 50 _ _ _ _ _ _ ?_
      refine And.intro (fun q => absurd q (nI_ge (by omega) (by omega))) (fun _ => ?_)
      exact inn 4 0 (by omega) τ hτ
  have E1 : ∀ τ z, kp b (234 + 1 + i) (3 + 30 * 4) σ τ → At 49 [.ref 108, .ref (234 + 1 + i), .int (bI b), .int (nI 30), z] [] τ 0 0 := fun τ z h => by
    refine hAt 50 _ _ _ _ _ _ ?_
    exact And.intro (fun _ => L2 E2 8 0 (by omega) τ z h) (fun q => absurd (nI_le (by omega) (by omega)) q)
  have k0 : kp b (234 + 1 + i) 0 σ (wI σ 108 23 (nI 0)) := by
    refine ⟨fun a j h1 h2 h3 => by rw [rI_wI, if_neg (by omega)], by simp [rI_wI], by simp [rI_wI], fun q hq => ?_, fun q => ?_, rfl⟩
    · rw [if_neg (by omega)]
      have := bkAd_r hq
      unfold bkv
      rw [rI_wI, if_neg (by omega)]
    · rw [if_neg (by omega), rI_wI, if_neg (by omega)]
  refine hAt 50 _ _ _ _ _ _ ?_
  have k1 := k0.step (by omega) (by omega)
  refine s_keeps hi k0.2.2.1 (by omega) ?_
  have k2 := k1.step (by omega) (by omega)
  refine s_keeps hi k1.2.2.1 (by omega) ?_
  have k3 := k2.step (by omega) (by omega)
  refine s_keeps hi k2.2.2.1 (by omega) ?_
  exact L1 E1 30 0 (by omega) _ _ k3
end MG
