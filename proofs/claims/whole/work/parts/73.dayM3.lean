/-! THE DAY on the model's side: joins -/
section DM3
variable {w : Wd} {d : Nat} {σ0 σ : Mem} {s : Sk} {P : Option AV → Mem → Prop} {X : Nat → Mem → Prop}
theorem s_joinsTo {D : Dy} {h j k : Nat} {A : Nat → Prop} {c : Nat} (hS0 : skM σ0 s) (hv : VS s) (hd : DVx s A c D) (hc8 : c ≤ 7992) (hc : eM σ0 s (fun _ => h) D σ) (hjk : j < k) (hk : k < kT s 2) (tj : gN D 0 j = 1) (tk : gN D 0 k = 1) (hP : ∀ τ, eM σ0 s (fun _ => h) (djn s D j k) τ → τ.2 = σ.2 → P none τ) : Ret w true (d + 2) 0 0 m_Mo_joinsTo [.ref 108, .int (nI k), .int (nI j)] σ P X := by
  have hn := hv.2.2.1
  have hF := hv.2.2.2.1
  have hJ : kT s 5 ≤ 2 := hv.2.2.2.2.2.1
  have hS := hc.sk hS0 hv
  have vj := (hd.1 j (by omega) tj).2
  have vk := (hd.1 k hk tk).2
  have rj : rs D (8 + j) ≤ 7992 := Nat.le_trans (hd.rs_le (by omega) (by omega)) hc8
  have rk : rs D (8 + k) ≤ 7992 := Nat.le_trans (hd.rs_le (by omega) (by omega)) hc8
  have gj : ∀ o, o < 8 → gN D (8 + j) o ≤ 7992 := fun o ho => Nat.le_trans (gN_rs ho) rj
  have gk : ∀ o, o < 8 → gN D (8 + k) o ≤ 7992 := fun o ho => Nat.le_trans (gN_rs ho) rk
  have mj := hc.min j (by omega) tj
  have mk := hc.min k hk tk
  have oj := hc.own j (by omega) tj
  have ok := hc.own k hk tk
  have hO : jnO s D j k < 8 := by unfold jnO; by_cases q : ltr s D k j = true <;> simp [q] <;> omega
  obtain ⟨σ1, e1⟩ : ∃ σ1, σ1 = wI (wI σ 108 47 (gD D 0 2 + nI 1)) 238 k (bI false) := ⟨_, rfl⟩
  have g1 : ∀ a x, rI σ1 a x = if a = 238 ∧ x = k then bI false else if a = 108 ∧ x = 47 then gD D 0 2 + nI 1 else rI σ a x := fun a x => by rw [e1, rI_wI, rI_wI]
  have hx1 : eM σ0 s (fun _ => h) (sD (sR (sN D 0 k 0) (8 + k) (fun _ => 0)) 0 2 (gD D 0 2 + nI 1)) σ1 := by
    have a1 := hc.wjoi (v := gD D 0 2 + nI 1) hn hF
    refine a1.cl (k := k) ⟨fun a x h3 ha => ?_, ?_, ?_⟩ (fun t i q => ?_) (fun t i => ?_) (fun a x q1 q2 q3 => ?_) (fun i _ _ _ => rfl) ⟨?_, fun z => ?_⟩ (fun z => ?_) (fun z => ?_) (fun z => ?_) hn hF (by omega)
    · rw [g1, if_neg (by omega), if_neg (by omega)]; exact hc.1.1 a x h3 ha
    · rw [e1]; exact hc.1.2.1
    · rw [e1]; exact hc.1.2.2
    · rw [gN_sD, gR_ne (by omega), gN_ne (by omega), gN_sD]
    · rw [gD_sD, gD_sR, gD_sN, gD_sD]
    · rw [e1, rI_wI, if_neg (by omega)]
    · rw [g1, if_pos ⟨rfl, rfl⟩, gN_sD, gR_ne (by omega), gN_eq]; rfl
    · rw [gN_sD, gR_ne (by omega), gN_eq] at z; cases z
    · rw [gN_sD, gR_ne (by omega), gN_eq] at z; cases z
    · rw [gN_sD, gR_ne (by omega), gN_eq] at z; cases z
    · rw [gN_sD, gR_ne (by omega), gN_eq] at z; cases z
  have fin : ∀ τ, (∀ a x, ¬ ((a = 241 ∨ a = 242) ∧ x = j) → ¬ (a = 244 + 1 + j ∧ x < 8) → rI τ a x = rI σ1 a x) → τ.2 = σ1.2 → rI τ 241 j = nI (gN (djn s D j k) 1 j) → rI τ 242 j = nI (gN (djn s D j k) 2 j) → (∀ o, o < 8 → rI τ (244 + 1 + j) o = nI (gN (djn s D j k) (8 + j) o)) → P none τ := by
    intro τ h1 h2 h41 h42 h44
    have tj1 : gN (djn s D j k) 0 j = 1 := by rw [gN_djn, if_neg (by omega), if_neg (by omega), if_neg (by omega), if_neg (by omega), if_neg (by omega)]; exact tj
    refine hP τ (hx1.cl (k := j) ⟨fun a x h3 ha => ?_, fun a ha x => ?_, ?_⟩ (fun t i q => ?_) (fun t i => ?_) (fun a x q1 q2 q3 => h1 a x (by omega) q3) (fun i _ _ _ => rfl) ⟨?_, fun _ q hq => ?_⟩ (fun _ => h41) (fun _ => h42) (fun _ => h44) hn hF (by omega)) (h2.trans (by rw [e1]; rfl))
    · rw [h1 a x (by omega) (by omega)]; exact hx1.1.1 a x h3 ha
    · rw [show rL τ a x = rL σ1 a x from congrArg (fun z => z.1 a x) h2]; exact hx1.1.2.1 a ha x
    · rw [show mN τ = mN σ1 from congrArg (fun z => z.2.2.1) h2]; exact hx1.1.2.2
    · rw [gN_djn, gN_sD, gN_sR, gN_sN, if_neg (by omega), if_neg (by omega), if_neg (by omega)]
    · unfold djn jn0
      by_cases q5 : kT s 5 = 2
      · rw [if_pos q5]; rfl
      · rw [if_neg q5]; rfl
    · rw [h1 _ _ (by omega) (by omega), tj1, g1, if_neg (by omega), if_neg (by omega), (hc.2.1 j (by omega)).1, tj]
    · rw [h1 _ _ (by omega) (by omega), h1 _ _ (by omega) (by omega), g1, if_neg (by omega), if_neg (by omega), g1, if_neg (by omega), if_neg (by omega)]
      exact (hc.2.1 j (by omega)).2 tj q hq
  refine meth_ok k_Mo_joinsTo q_Mo_joinsTo rfl fun At hAt => ?_
  have l2 : kT s 5 = 2 → ∀ z3 z4 i, i ≤ 8 → ∀ τ, (∀ a x, ¬ (a = 244 + 1 + j ∧ x < 8) → rI τ a x = rI σ1 a x) → τ.2 = σ1.2 → (∀ o, o < 8 → rI τ (244 + 1 + j) o = nI (if o < i then gN D (8 + j) o + gN D (8 + k) o else gN D (8 + j) o)) → At 110 [.ref 108, .int (nI k), .int (nI j), z3, .int z4, .int (nI i)] [] τ 0 0 := by
    intro h5 z3 z4
    refine upto fun i hi ih => ?_
    intro τ h1 h2 h3
    have gji := gj i
    have gki := gk i
    have r1 : i < 8 → rI τ (244 + 1 + j) i = nI (gN D (8 + j) i) := fun q => by rw [h3 i q, if_neg (by omega)]
    have r2 : i < 8 → rI τ (244 + 1 + k) i = nI (gN D (8 + k) i) := fun q => by rw [h1 _ _ (by omega), g1, if_neg (by omega), if_neg (by omega)]; exact hc.par k i hk tk q
    refine hAt 3 _ _ _ _ _ _ ?_
    refine And.intro (fun hq => ?_) (fun hq => ?_)
    · have c114 : 8 ≤ i := (leN (a := 8) (b := i) rfl rfl (by omega) (by omega)).mp hq
      clear hq
      refine hAt 1 _ _ _ _ _ _ ?_
      have e : i = 8 := by omega
      subst e
      refine fin τ (fun a x u1 u2 => h1 a x u2) h2 ?_ ?_ (fun o ho => ?_)
      · rw [h1 _ _ (by omega), g1, if_neg (by omega), if_neg (by omega), gN_djn, if_neg (by omega), if_neg (by omega), if_neg (by omega), if_neg (by omega), if_neg (by omega)]; exact oj
      · rw [h1 _ _ (by omega), g1, if_neg (by omega), if_neg (by omega), gN_djn, if_neg (by omega), if_neg (by omega), if_neg (by omega), if_neg (by omega), if_neg (by omega)]; exact mj
      · rw [h3 o ho, if_pos ho, gN_djn, if_pos ⟨rfl, ho⟩, if_pos h5]
    · have c114 : i < 8 := Nat.lt_of_not_le (fun zq => hq ((leN (a := 8) (b := i) rfl rfl (by omega) (by omega)).mpr zq))
      clear hq
      have gji := gji c114
      have gki := gki c114
      refine hAt 4 _ _ _ _ _ _ ?_
      refine And.intro (mx_r (q := 244) (n := 8) (k := 8) rfl rfl (show j < 8 by omega)) (And.intro (Or.inl rfl) ?_)
      refine Eq.mpr (congrArg (fun xq : Nat => At 123 [.ref (108), .int (nI k), .int (nI j), z3, .int (z4), .int (nI i)] [.ref xq] τ 0 0) (rwE rfl (by omega))) ?_
      refine hAt 3 _ _ _ _ _ _ ?_
      refine And.intro (mx_e (q := 244) (n := 8) (k := 8) (j := j) (i := i) rfl (by omega) (by omega) rfl) ?_
      refine Eq.mpr (congrArg (fun xq : Int32 => At 127 [.ref (108), .int (nI k), .int (nI j), z3, .int (z4), .int (nI i)] [.int xq, .int (nI i), .ref (244 + 1 + j)] τ 0 0) (show rI τ (244 + 1 + j) (nI i).toNatClampNeg = nI (gN D (8 + j) i) from (ldE rfl (by omega) (r1 (by omega))))) ?_
      refine hAt 4 _ _ _ _ _ _ ?_
      refine And.intro (mx_r (q := 244) (n := 8) (k := 8) rfl rfl (show k < 8 by omega)) (And.intro (Or.inl rfl) ?_)
      refine Eq.mpr (congrArg (fun xq : Nat => At 133 [.ref (108), .int (nI k), .int (nI j), z3, .int (z4), .int (nI i)] [.ref xq, .int (nI (gN D (8 + j) i)), .int (nI i), .ref (244 + 1 + j)] τ 0 0) (rwE rfl (by omega))) ?_
      refine hAt 2 _ _ _ _ _ _ ?_
      refine And.intro (mx_e (q := 244) (n := 8) (k := 8) (j := k) (i := i) rfl (by omega) (by omega) rfl) ?_
      refine Eq.mpr (congrArg (fun xq : Int32 => At 136 [.ref (108), .int (nI k), .int (nI j), z3, .int (z4), .int (nI i)] [.int xq, .int (nI (gN D (8 + j) i)), .int (nI i), .ref (244 + 1 + j)] τ 0 0) (show rI τ (244 + 1 + k) (nI i).toNatClampNeg = nI (gN D (8 + k) i) from (ldE rfl (by omega) (r2 (by omega))))) ?_
      refine hAt 2 _ _ _ _ _ _ ?_
      refine And.intro (mx_e (q := 244) (n := 8) (k := 8) (j := j) (i := i) rfl (by omega) (by omega) rfl) ?_
      refine Eq.mpr (congrArg (fun xq : Mem => At 138 [.ref (108), .int (nI k), .int (nI j), z3, .int (z4), .int (nI i)] [] xq 0 0) (wrE (σ := τ) (q := 244 + 1 + j) (p := rfl) (hj := by omega) (h := (adE rfl rfl)))) ?_
      refine hAt 2 _ _ _ _ _ _ ?_
      refine Eq.mpr (congrArg (fun xq : Int32 => At 110 [.ref (108), .int (nI k), .int (nI j), z3, .int (z4), .int xq] [] (wI τ (244 + 1 + j) i (nI (gN D (8 + j) i + (gN D (8 + k) i)))) 0 0) (show nI i + nI 1 = nI (i + 1) from (adE rfl rfl))) ?_
      refine ih c114 _ (fun a x u => ?_) h2 (fun o ho => ?_)
      · rw [rI_wI, if_neg (by omega)]; exact h1 a x u
      · rw [rI_wI]
        by_cases e : o = i
        · subst e; rw [if_pos ⟨rfl, rfl⟩, if_pos (by omega)]
        · rw [if_neg (by omega), h3 o ho]
          by_cases q2 : o < i
          · rw [if_pos q2, if_pos (by omega)]
          · rw [if_neg q2, if_neg (by omega)]
  have l3 : ¬ kT s 5 = 2 → ∀ z3 i, i ≤ 8 → ∀ τ, (∀ a x, ¬ ((a = 241 ∨ a = 242) ∧ x = j) → ¬ (a = 244 + 1 + j ∧ x < 8) → rI τ a x = rI σ1 a x) → τ.2 = σ1.2 → rI τ 241 j = nI (jnO s D j k) → rI τ 242 j = nI (jnM s D j k) → (∀ o, o < i → rI τ (244 + 1 + j) o = nI (if o = jnO s D j k then rs D (8 + j) + rs D (8 + k) else 0)) → At 176 [.ref 108, .int (nI k), .int (nI j), z3, .int (nI (rs D (8 + k) + rs D (8 + j))), .int (nI i)] [] τ 0 0 := by
    intro h5 z3
    refine upto fun i hi ih => ?_
    intro τ h1 h2 h41 h42 h44
    refine hAt 3 _ _ _ _ _ _ ?_
    refine And.intro (fun hq => ?_) (fun hq => ?_)
    · have c180 : 8 ≤ i := (leN (a := 8) (b := i) rfl rfl (by omega) (by omega)).mp hq
      clear hq
      refine hAt 1 _ _ _ _ _ _ ?_
      have e : i = 8 := by omega
      subst e
      refine fin τ h1 h2 ?_ ?_ (fun o ho => ?_)
      · rw [h41, gN_djn, if_neg (by omega), if_neg (by omega), if_pos ⟨h5, rfl, rfl⟩]
      · rw [h42, gN_djn, if_neg (by omega), if_pos ⟨h5, rfl, rfl⟩]
      · rw [h44 o ho, gN_djn, if_pos (show 8 + j = 8 + j ∧ o < 8 from ⟨rfl, ho⟩), if_neg h5]
    · have c180 : i < 8 := Nat.lt_of_not_le (fun zq => hq ((leN (a := 8) (b := i) rfl rfl (by omega) (by omega)).mpr zq))
      clear hq
      refine hAt 4 _ _ _ _ _ _ ?_
      refine And.intro (mx_r (q := 244) (n := 8) (k := 8) rfl rfl (show j < 8 by omega)) (And.intro (Or.inl rfl) ?_)
      refine Eq.mpr (congrArg (fun xq : Nat => At 189 [.ref (108), .int (nI k), .int (nI j), z3, .int (nI (rs D (8 + k) + rs D (8 + j))), .int (nI i)] [.ref xq] τ 0 0) (rwE rfl (by omega))) ?_
      refine hAt 6 _ _ _ _ _ _ ?_
      refine And.intro (aOKx (n := 8) (j := j) rfl (by decide) rfl rfl (by omega) (by omega)) ?_
      refine Eq.mpr (congrArg (fun xq : Int32 => At 199 [.ref (108), .int (nI k), .int (nI j), z3, .int (nI (rs D (8 + k) + rs D (8 + j))), .int (nI i)] [.int xq, .int (nI i), .int (nI i), .ref (244 + 1 + j)] τ 0 0) (show rI τ 241 (nI j).toNatClampNeg = nI (jnO s D j k) from (ldE rfl (by omega) h41))) ?_
      refine hAt 1 _ _ _ _ _ _ ?_
      refine And.intro (fun hq => ?_) (fun hq => ?_)
      · have c199 : ¬ i = jnO s D j k := fun zq => hq ((eqN (a := i) (b := jnO s D j k) rfl rfl (by omega) (by omega)).mpr zq)
        clear hq
        refine hAt 2 _ _ _ _ _ _ ?_
        refine And.intro (mx_e (q := 244) (n := 8) (k := 8) (j := j) (i := i) rfl (by omega) (by omega) rfl) ?_
        refine Eq.mpr (congrArg (fun xq : Mem => At 209 [.ref (108), .int (nI k), .int (nI j), z3, .int (nI (rs D (8 + k) + rs D (8 + j))), .int (nI i)] [] xq 0 0) (wrE (σ := τ) (q := 244 + 1 + j) (p := rfl) (hj := by omega) (h := rfl))) ?_
        refine hAt 2 _ _ _ _ _ _ ?_
        refine Eq.mpr (congrArg (fun xq : Int32 => At 176 [.ref (108), .int (nI k), .int (nI j), z3, .int (nI (rs D (8 + k) + rs D (8 + j))), .int xq] [] (wI τ (244 + 1 + j) i (nI 0)) 0 0) (show nI i + nI 1 = nI (i + 1) from (adE rfl rfl))) ?_
        refine ih c180 _ (fun a x u1 u2 => ?_) h2 ?_ ?_ (fun o ho => ?_)
        · rw [rI_wI, if_neg (by omega)]; exact h1 a x u1 u2
        · rw [rI_wI, if_neg (by omega)]; exact h41
        · rw [rI_wI, if_neg (by omega)]; exact h42
        · rw [rI_wI]
          by_cases e : o = i
          · subst e; rw [if_pos ⟨rfl, rfl⟩, if_neg c199]
          · rw [if_neg (by omega)]; exact h44 o (by omega)
      · have c199 : i = jnO s D j k := (eqN (a := i) (b := jnO s D j k) rfl rfl (by omega) (by omega)).mp hq
        clear hq
        refine hAt 3 _ _ _ _ _ _ ?_
        refine And.intro (mx_e (q := 244) (n := 8) (k := 8) (j := j) (i := i) rfl (by omega) (by omega) rfl) ?_
        refine Eq.mpr (congrArg (fun xq : Mem => At 209 [.ref (108), .int (nI k), .int (nI j), z3, .int (nI (rs D (8 + k) + rs D (8 + j))), .int (nI i)] [] xq 0 0) (wrE (σ := τ) (q := 244 + 1 + j) (p := rfl) (hj := by omega) (h := rfl))) ?_
        refine hAt 2 _ _ _ _ _ _ ?_
        refine Eq.mpr (congrArg (fun xq : Int32 => At 176 [.ref (108), .int (nI k), .int (nI j), z3, .int (nI (rs D (8 + k) + rs D (8 + j))), .int xq] [] (wI τ (244 + 1 + j) i (nI (rs D (8 + k) + rs D (8 + j)))) 0 0) (show nI i + nI 1 = nI (i + 1) from (adE rfl rfl))) ?_
        refine ih c180 _ (fun a x u1 u2 => ?_) h2 ?_ ?_ (fun o ho => ?_)
        · rw [rI_wI, if_neg (by omega)]; exact h1 a x u1 u2
        · rw [rI_wI, if_neg (by omega)]; exact h41
        · rw [rI_wI, if_neg (by omega)]; exact h42
        · rw [rI_wI]
          by_cases e : o = i
          · subst e; rw [if_pos ⟨rfl, rfl⟩, if_pos c199, Nat.add_comm]
          · rw [if_neg (by omega)]; exact h44 o (by omega)
  have at58 : At 58 [.ref 108, .int (nI k), .int (nI j), junk, junk, junk] [.int (bI (ltr s D k j))] σ 0 0 := by
    skip
    refine hAt 5 _ _ _ _ _ _ ?_
    refine And.intro (mx_r (q := 244) (n := 8) (k := 8) rfl rfl (show k < 8 by omega)) (And.intro (Or.inl rfl) ?_)
    refine Eq.mpr (congrArg (fun xq : Nat => At 65 [.ref (108), .int (nI k), .int (nI j), .int (bI (ltr s D k j)), junk, junk] [.ref xq] σ 0 0) (rwE rfl (by omega))) ?_
    refine hAt 5 _ _ _ _ _ _ ?_
    refine s_Mpsum hc hn hk tk ?_
    refine And.intro (mx_r (q := 244) (n := 8) (k := 8) rfl rfl (show j < 8 by omega)) (And.intro (Or.inl rfl) ?_)
    refine Eq.mpr (congrArg (fun xq : Nat => At 74 [.ref (108), .int (nI k), .int (nI j), .int (bI (ltr s D k j)), junk, junk] [.ref xq, .int (nI (rs D (8 + k)))] σ 0 0) (rwE rfl (by omega))) ?_
    refine hAt 6 _ _ _ _ _ _ ?_
    refine s_Mpsum hc hn (by omega) tj ?_
    refine Eq.mpr (congrArg (fun xq : Int32 => At 85 [.ref (108), .int (nI k), .int (nI j), .int (bI (ltr s D k j)), .int ((nI (rs D (8 + k))) + (nI (rs D (8 + j)))), junk] [.int xq, .ref (108)] σ 0 0) (show rI σ 108 47 = gD D 0 2 from hc.joi)) ?_
    refine hAt 8 _ _ _ _ _ _ ?_
    refine And.intro (aOKx (n := 8) (j := k) rfl (by decide) rfl rfl (by omega) (by omega)) ?_
    refine Eq.mpr (congrArg (fun xq : Mem => At 97 [.ref (108), .int (nI k), .int (nI j), .int (bI (ltr s D k j)), .int ((nI (rs D (8 + k))) + (nI (rs D (8 + j)))), junk] [] xq 0 0) (wrB (σ := (wI σ 108 47 ((gD D 0 2) + nI 1))) (q := 238) (p := rfl) (hj := by omega) (b := false))) ?_
    refine hAt 4 _ _ _ _ _ _ ?_
    refine And.intro (aOKx (n := 11) (j := 5) rfl (by decide) rfl rfl (by omega) (by omega)) ?_
    refine Eq.mpr (congrArg (fun xq : Int32 => At 103 [.ref (108), .int (nI k), .int (nI j), .int (bI (ltr s D k j)), .int ((nI (rs D (8 + k))) + (nI (rs D (8 + j)))), junk] [.int xq] (wI (wI σ 108 47 ((gD D 0 2) + nI 1)) 238 k (bI false)) 0 0) (show rI (wI (wI σ 108 47 ((gD D 0 2) + nI 1)) 238 k (bI false)) 111 (nI 5).toNatClampNeg = nI (kT s 5) from (ldE rfl (by omega) (by rw [rI_wI, if_neg (by omega), rI_wI, if_neg (by omega)]; exact (hS.1 5 (by omega)))))) ?_
    refine hAt 2 _ _ _ _ _ _ ?_
    refine And.intro (fun hq => ?_) (fun hq => ?_)
    · have c104 : ¬ kT s 5 = 2 := fun zq => hq ((eqN (a := kT s 5) (b := 2) rfl rfl (by omega) (by omega)).mpr zq)
      clear hq
      refine hAt 2 _ _ _ _ _ _ ?_
      refine And.intro (fun hq => ?_) (fun hq => ?_)
      · have c146 : ltr s D k j = false := bI_eq hq
        clear hq
        refine hAt 2 _ _ _ _ _ _ ?_
        refine Eq.mpr (congrArg (fun xq : Int32 => At 176 [.ref (108), .int (nI k), .int (nI j), .int (bI (ltr s D k j)), .int xq, .int (nI 0)] [] (wI (wI σ 108 47 ((gD D 0 2) + nI 1)) 238 k (bI false)) 0 0) (show (nI (rs D (8 + k))) + (nI (rs D (8 + j))) = nI (rs D (8 + k) + (rs D (8 + j))) from (adE rfl rfl))) ?_
        refine l3 c104 _ 0 (by omega) _ (fun a x _ _ => by rw [e1]) (by rw [e1]) ?_ ?_ (fun o ho => absurd ho (Nat.not_lt_zero o))
        · rw [rI_wI, if_neg (by omega), rI_wI, if_neg (by omega), oj]; unfold jnO; rw [c146]; rfl
        · rw [rI_wI, if_neg (by omega), rI_wI, if_neg (by omega), mj]; unfold jnM; rw [c146]; rfl
      · have c146 : ltr s D k j = true := bI_ne hq
        clear hq
        refine hAt 7 _ _ _ _ _ _ ?_
        refine And.intro (aOKx (n := 8) (j := k) rfl (by decide) rfl rfl (by omega) (by omega)) ?_
        refine Eq.mpr (congrArg (fun xq : Int32 => At 160 [.ref (108), .int (nI k), .int (nI j), .int (bI (ltr s D k j)), .int ((nI (rs D (8 + k))) + (nI (rs D (8 + j)))), junk] [.int xq, .int (nI j), .ref (241)] (wI (wI σ 108 47 ((gD D 0 2) + nI 1)) 238 k (bI false)) 0 0) (show rI (wI (wI σ 108 47 ((gD D 0 2) + nI 1)) 238 k (bI false)) 241 (nI k).toNatClampNeg = nI (gN D 1 k) from (ldE rfl (by omega) (by rw [rI_wI, if_neg (by omega), rI_wI, if_neg (by omega)]; exact ok)))) ?_
        refine hAt 1 _ _ _ _ _ _ ?_
        refine And.intro (aOKx (n := 8) (j := j) rfl (by decide) rfl rfl (by omega) (by omega)) ?_
        refine Eq.mpr (congrArg (fun xq : Mem => At 161 [.ref (108), .int (nI k), .int (nI j), .int (bI (ltr s D k j)), .int ((nI (rs D (8 + k))) + (nI (rs D (8 + j)))), junk] [] xq 0 0) (wrE (σ := (wI (wI σ 108 47 ((gD D 0 2) + nI 1)) 238 k (bI false))) (q := 241) (p := rfl) (hj := by omega) (h := rfl))) ?_
        refine hAt 7 _ _ _ _ _ _ ?_
        refine And.intro (aOKx (n := 8) (j := k) rfl (by decide) rfl rfl (by omega) (by omega)) ?_
        refine Eq.mpr (congrArg (fun xq : Int32 => At 172 [.ref (108), .int (nI k), .int (nI j), .int (bI (ltr s D k j)), .int ((nI (rs D (8 + k))) + (nI (rs D (8 + j)))), junk] [.int xq, .int (nI j), .ref (242)] (wI (wI (wI σ 108 47 ((gD D 0 2) + nI 1)) 238 k (bI false)) 241 j (nI (gN D 1 k))) 0 0) (show rI (wI (wI (wI σ 108 47 ((gD D 0 2) + nI 1)) 238 k (bI false)) 241 j (nI (gN D 1 k))) 242 (nI k).toNatClampNeg = nI (gN D 2 k) from (ldE rfl (by omega) (by rw [rI_wI, if_neg (by omega), rI_wI, if_neg (by omega), rI_wI, if_neg (by omega)]; exact mk)))) ?_
        refine hAt 1 _ _ _ _ _ _ ?_
        refine And.intro (aOKx (n := 8) (j := j) rfl (by decide) rfl rfl (by omega) (by omega)) ?_
        refine Eq.mpr (congrArg (fun xq : Mem => At 173 [.ref (108), .int (nI k), .int (nI j), .int (bI (ltr s D k j)), .int ((nI (rs D (8 + k))) + (nI (rs D (8 + j)))), junk] [] xq 0 0) (wrE (σ := (wI (wI (wI σ 108 47 ((gD D 0 2) + nI 1)) 238 k (bI false)) 241 j (nI (gN D 1 k)))) (q := 242) (p := rfl) (hj := by omega) (h := rfl))) ?_
        refine hAt 2 _ _ _ _ _ _ ?_
        refine Eq.mpr (congrArg (fun xq : Int32 => At 176 [.ref (108), .int (nI k), .int (nI j), .int (bI (ltr s D k j)), .int xq, .int (nI 0)] [] (wI (wI (wI (wI σ 108 47 ((gD D 0 2) + nI 1)) 238 k (bI false)) 241 j (nI (gN D 1 k))) 242 j (nI (gN D 2 k))) 0 0) (show (nI (rs D (8 + k))) + (nI (rs D (8 + j))) = nI (rs D (8 + k) + (rs D (8 + j))) from (adE rfl rfl))) ?_
        refine l3 c104 _ 0 (by omega) _ (fun a x u1 u2 => ?_) (by rw [e1]; rfl) ?_ ?_ (fun o ho => absurd ho (Nat.not_lt_zero o))
        · rw [rI_wI, if_neg (by omega), rI_wI, if_neg (by omega), e1]
        · rw [rI_wI, if_neg (by omega), rI_wI, if_pos ⟨rfl, rfl⟩]; unfold jnO; rw [c146]; rfl
        · rw [rI_wI, if_pos ⟨rfl, rfl⟩]; unfold jnM; rw [c146]; rfl
    · have c104 : kT s 5 = 2 := (eqN (a := kT s 5) (b := 2) rfl rfl (by omega) (by omega)).mp hq
      clear hq
      refine hAt 2 _ _ _ _ _ _ ?_
      refine Eq.mpr (congrArg (fun xq : Int32 => At 110 [.ref (108), .int (nI k), .int (nI j), .int (bI (ltr s D k j)), .int xq, .int (nI 0)] [] (wI (wI σ 108 47 ((gD D 0 2) + nI 1)) 238 k (bI false)) 0 0) (show (nI (rs D (8 + k))) + (nI (rs D (8 + j))) = nI (rs D (8 + k) + (rs D (8 + j))) from (adE rfl rfl))) ?_
      refine l2 c104 _ _ 0 (by omega) _ (fun a x _ => by rw [e1]) (by rw [e1]) (fun o ho => ?_)
      rw [rI_wI, if_neg (by omega), rI_wI, if_neg (by omega), if_neg (by omega)]
      exact hc.par j o (by omega) tj ho
  refine hAt 4 _ _ _ _ _ _ ?_
  refine And.intro (aOKx (n := 11) (j := 5) rfl (by decide) rfl rfl (by omega) (by omega)) ?_
  refine Eq.mpr (congrArg (fun xq : Int32 => At 6 [.ref (108), .int (nI k), .int (nI j), junk, junk, junk] [.int xq] σ 0 0) (show rI σ 111 (nI 5).toNatClampNeg = nI (kT s 5) from (ldE rfl (by omega) (hS.1 5 (by omega))))) ?_
  refine hAt 1 _ _ _ _ _ _ ?_
  refine And.intro (fun hq => ?_) (fun hq => ?_)
  · have c6 : ¬ kT s 5 = 0 := fun zq => hq ((eqN (a := kT s 5) (b := 0) rfl rfl (by omega) (by omega)).mpr zq)
    clear hq
    refine hAt 4 _ _ _ _ _ _ ?_
    refine And.intro (mx_r (q := 244) (n := 8) (k := 8) rfl rfl (show k < 8 by omega)) (And.intro (Or.inl rfl) ?_)
    refine Eq.mpr (congrArg (fun xq : Nat => At 38 [.ref (108), .int (nI k), .int (nI j), junk, junk, junk] [.ref xq] σ 0 0) (rwE rfl (by omega))) ?_
    refine hAt 5 _ _ _ _ _ _ ?_
    refine s_Mpsum hc hn hk tk ?_
    refine And.intro (mx_r (q := 244) (n := 8) (k := 8) rfl rfl (show j < 8 by omega)) (And.intro (Or.inl rfl) ?_)
    refine Eq.mpr (congrArg (fun xq : Nat => At 47 [.ref (108), .int (nI k), .int (nI j), junk, junk, junk] [.ref xq, .int (nI (rs D (8 + k)))] σ 0 0) (rwE rfl (by omega))) ?_
    refine hAt 2 _ _ _ _ _ _ ?_
    refine s_Mpsum hc hn (by omega) tj ?_
    refine And.intro (fun hq => ?_) (fun hq => ?_)
    · have c50 : rs D (8 + k) ≤ rs D (8 + j) := (leN (a := rs D (8 + k)) (b := rs D (8 + j)) rfl rfl (by omega) (by omega)).mp hq
      clear hq
      refine hAt 1 _ _ _ _ _ _ ?_
      have e : ltr s D k j = false := by unfold ltr; rw [if_neg c6]; exact decide_eq_false (by omega)
      rw [e] at at58
      exact at58
    · have c50 : rs D (8 + j) < rs D (8 + k) := Nat.lt_of_not_le (fun zq => hq ((leN (a := rs D (8 + k)) (b := rs D (8 + j)) rfl rfl (by omega) (by omega)).mpr zq))
      clear hq
      refine hAt 2 _ _ _ _ _ _ ?_
      have e : ltr s D k j = true := by unfold ltr; rw [if_neg c6]; exact decide_eq_true c50
      rw [e] at at58
      exact at58
  · have c6 : kT s 5 = 0 := (eqN (a := kT s 5) (b := 0) rfl rfl (by omega) (by omega)).mp hq
    clear hq
    refine hAt 4 _ _ _ _ _ _ ?_
    refine And.intro (aOKx (n := 8) (j := k) rfl (by decide) rfl rfl (by omega) (by omega)) ?_
    refine Eq.mpr (congrArg (fun xq : Int32 => At 15 [.ref (108), .int (nI k), .int (nI j), junk, junk, junk] [.int xq] σ 0 0) (show rI σ 242 (nI k).toNatClampNeg = nI (gN D 2 k) from (ldE rfl (by omega) mk))) ?_
    refine hAt 4 _ _ _ _ _ _ ?_
    refine And.intro (aOKx (n := 8) (j := j) rfl (by decide) rfl rfl (by omega) (by omega)) ?_
    refine Eq.mpr (congrArg (fun xq : Int32 => At 21 [.ref (108), .int (nI k), .int (nI j), junk, junk, junk] [.int xq, .int (nI (gN D 2 k))] σ 0 0) (show rI σ 242 (nI j).toNatClampNeg = nI (gN D 2 j) from (ldE rfl (by omega) mj))) ?_
    refine hAt 1 _ _ _ _ _ _ ?_
    refine And.intro (fun hq => ?_) (fun hq => ?_)
    · have c21 : gN D 2 j ≤ gN D 2 k := (leN (a := gN D 2 j) (b := gN D 2 k) rfl rfl (by omega) (by omega)).mp hq
      clear hq
      refine hAt 2 _ _ _ _ _ _ ?_
      have e : ltr s D k j = false := by unfold ltr; rw [if_pos c6]; exact decide_eq_false (by omega)
      rw [e] at at58
      exact at58
    · have c21 : gN D 2 k < gN D 2 j := Nat.lt_of_not_le (fun zq => hq ((leN (a := gN D 2 j) (b := gN D 2 k) rfl rfl (by omega) (by omega)).mpr zq))
      clear hq
      refine hAt 2 _ _ _ _ _ _ ?_
      have e : ltr s D k j = true := by unfold ltr; rw [if_pos c6]; exact decide_eq_true c21
      rw [e] at at58
      exact at58
theorem s_joinsAll {D : Dy} {h : Nat} (hS0 : skM σ0 s) (hv : VS s) (hd : DV s (h + 1) D) (hc : eM σ0 s (fun _ => h) D σ) (hP : ∀ τ, eM σ0 s (fun _ => h) (fld (ja1 s h) D (kT s 2)) τ → τ.2 = σ.2 → P none τ) : Ret w true (d + 3) 0 0 m_Mo_joinsAll [.ref 108] σ P X := by
  have hn := hv.2.2.1
  have s8 := hv.2.2.2.2.2.2.2.2.2.2.2.2.1
  have s1 := hv.1
  have s2 := hv.2.1
  refine meth_ok k_Mo_joinsAll q_Mo_joinsAll rfl fun At hAt => ?_
  have loop : ∀ k, k ≤ kT s 2 → ∀ τ z2, eM σ0 s (fun _ => h) (fld (ja1 s h) D k) τ → τ.2 = σ.2 → At 2 [.ref 108, .int (nI k), z2] [] τ 0 0 := by
    refine upto fun k hk ih => ?_
    intro τ z2 hx ht2
    have hS := hx.sk hS0 hv
    have hdk := fld_dv (f := ja1 s h) (n := kT s 2) (fun D k hk hd => ja1_dv (h := h) hv hk hd) hd k hk
    have pk1 : ∀ i, i < kT s 2 → gN (fld (ja1 s h) D k) 0 i = 1 → ∃ q, ps s i h = some q := fun i hi q => by
      have := (hdk.1 i hi q).1
      unfold pA at this
      rw [Nat.add_sub_cancel] at this
      cases e : ps s i h with
      | none => exact absurd e this.2
      | some q => exact ⟨q, rfl⟩
    obtain ⟨E, hE⟩ : ∃ E, E = fld (ja1 s h) D k := ⟨_, rfl⟩
    have nxt : fld (ja1 s h) D (k + 1) = ja1 s h E k := by rw [hE]; rfl
    rw [nxt] at ih
    rw [← hE] at hx hdk pk1
    have n98 : k < kT s 2 → ∀ τ' z2, eM σ0 s (fun _ => h) (ja1 s h E k) τ' → τ'.2 = σ.2 → At 98 [.ref 108, .int (nI k), .int z2] [] τ' 0 0 := by
      intro hk2 τ' z2 u1 u2
      refine hAt 2 _ _ _ _ _ _ ?_
      refine Eq.mpr (congrArg (fun xq : Int32 => At 2 [.ref (108), .int xq, .int (z2)] [] τ' 0 0) (show nI k + nI 1 = nI (k + 1) from (adE rfl rfl))) ?_
      exact ih hk2 τ' _ u1 u2
    have don : k < kT s 2 → ∀ j, j ≤ k → ∀ τ', eM σ0 s (fun _ => h) (ja1 s h E k) τ' → τ'.2 = σ.2 → gN (ja1 s h E k) 0 k ≠ 1 → At 14 [.ref 108, .int (nI k), .int (nI j)] [] τ' 0 0 := by
      intro hk2 j hj τ' u1 u2 u3
      refine hAt 3 _ _ _ _ _ _ ?_
      refine And.intro (fun hq => ?_) (fun hq => ?_)
      · have c16 : k ≤ j := (leN (a := k) (b := j) rfl rfl (by omega) (by omega)).mp hq
        clear hq
        exact n98 hk2 τ' _ u1 u2
      · have c16 : j < k := Nat.lt_of_not_le (fun zq => hq ((leN (a := k) (b := j) rfl rfl (by omega) (by omega)).mpr zq))
        clear hq
        refine hAt 4 _ _ _ _ _ _ ?_
        refine And.intro (aOKx (n := 8) (j := k) rfl (by decide) rfl rfl (by omega) (by omega)) ?_
        refine Eq.mpr (congrArg (fun xq : Int32 => At 25 [.ref (108), .int (nI k), .int (nI j)] [.int xq] τ' 0 0) (show rI τ' 238 (nI k).toNatClampNeg = bI (decide (gN (ja1 s h E k) 0 k = 1)) from (ldE rfl (by omega) ((u1.2.1 k hk2).1)))) ?_
        refine hAt 1 _ _ _ _ _ _ ?_
        refine And.intro (fun hq => ?_) (fun hq => ?_)
        · have c25 : ¬ (gN (ja1 s h E k) 0 k = 1) := of_decide_eq_false (bI_eq hq)
          clear hq
          exact n98 hk2 τ' _ u1 u2
        · have c25 : gN (ja1 s h E k) 0 k = 1 := of_decide_eq_true (bI_ne hq)
          clear hq
          exact absurd c25 u3
    have inn : k < kT s 2 → ∀ j, j ≤ k → bes s E h k j = none → At 14 [.ref 108, .int (nI k), .int (nI j)] [] τ 0 0 := by
      intro hk2
      have bk := s8 k hk2
      refine upto fun j hj ih2 => ?_
      intro hno
      have step : j < k → besP s E h k j = false → bes s E h k (j + 1) = none := fun _ q => by rw [bes, hno]; simp only [q]; rfl
      have hit : j < k → besP s E h k j = true → bes s E h k k = some j := fun hjk q => by
        have aux : ∀ m, bes s E h k (j + 1 + m) = some j := by
          intro m
          induction m with
          | zero => show bes s E h k (j + 1) = some j; rw [bes, hno]; simp only [q, if_true]
          | succ m im => show bes s E h k ((j + 1 + m) + 1) = some j; rw [bes, im]
        have := aux (k - (j + 1))
        rw [show j + 1 + (k - (j + 1)) = k by omega] at this
        exact this
      refine hAt 3 _ _ _ _ _ _ ?_
      refine And.intro (fun hq => ?_) (fun hq => ?_)
      · have c16 : k ≤ j := (leN (a := k) (b := j) rfl rfl (by omega) (by omega)).mp hq
        clear hq
        have e : j = k := by omega
        rw [e] at hno
        refine n98 hk2 τ _ ?_ ht2
        unfold ja1
        by_cases q : gN E 0 k = 1
        · rw [if_pos q, hno]; exact hx
        · rw [if_neg q]; exact hx
      · have c16 : j < k := Nat.lt_of_not_le (fun zq => hq ((leN (a := k) (b := j) rfl rfl (by omega) (by omega)).mpr zq))
        clear hq
        have bj := s8 j (by omega)
        refine hAt 4 _ _ _ _ _ _ ?_
        refine And.intro (aOKx (n := 8) (j := k) rfl (by decide) rfl rfl (by omega) (by omega)) ?_
        refine Eq.mpr (congrArg (fun xq : Int32 => At 25 [.ref (108), .int (nI k), .int (nI j)] [.int xq] τ 0 0) (show rI τ 238 (nI k).toNatClampNeg = bI (decide (gN E 0 k = 1)) from (ldE rfl (by omega) ((hx.2.1 k (by omega)).1)))) ?_
        refine hAt 1 _ _ _ _ _ _ ?_
        refine And.intro (fun hq => ?_) (fun hq => ?_)
        · have c25 : ¬ (gN E 0 k = 1) := of_decide_eq_false (bI_eq hq)
          clear hq
          refine n98 hk2 τ _ ?_ ht2
          rw [ja1, if_neg c25]; exact hx
        · have c25 : gN E 0 k = 1 := of_decide_eq_true (bI_ne hq)
          clear hq
          refine hAt 4 _ _ _ _ _ _ ?_
          refine And.intro (aOKx (n := 8) (j := j) rfl (by decide) rfl rfl (by omega) (by omega)) ?_
          refine Eq.mpr (congrArg (fun xq : Int32 => At 34 [.ref (108), .int (nI k), .int (nI j)] [.int xq] τ 0 0) (show rI τ 238 (nI j).toNatClampNeg = bI (decide (gN E 0 j = 1)) from (ldE rfl (by omega) ((hx.2.1 j (by omega)).1)))) ?_
          refine hAt 1 _ _ _ _ _ _ ?_
          refine And.intro (fun hq => ?_) (fun hq => ?_)
          · have c34 : ¬ (gN E 0 j = 1) := of_decide_eq_false (bI_eq hq)
            clear hq
            refine hAt 2 _ _ _ _ _ _ ?_
            refine Eq.mpr (congrArg (fun xq : Int32 => At 14 [.ref (108), .int (nI k), .int xq] [] τ 0 0) (show nI j + nI 1 = nI (j + 1) from (adE rfl rfl))) ?_
            exact ih2 c16 (step c16 (decide_eq_false (fun z => c34 z.1)))
          · have c34 : gN E 0 j = 1 := of_decide_eq_true (bI_ne hq)
            clear hq
            obtain ⟨qj, hqj⟩ := pk1 j (by omega) c34
            obtain ⟨qk, hqk⟩ := pk1 k hk2 c25
            have bqj := ps_in hv (by omega) _ qj hqj
            have bqk := ps_in hv hk2 _ qk hqk
            have xj := (hx.2.1 j (by omega)).2 c34 qj hqj
            have xk := (hx.2.1 k hk2).2 c25 qk hqk
            refine hAt 4 _ _ _ _ _ _ ?_
            refine And.intro (aOKx (n := 8) (j := j) rfl (by decide) rfl rfl (by omega) (by omega)) ?_
            refine Eq.mpr (congrArg (fun xq : Int32 => At 43 [.ref (108), .int (nI k), .int (nI j)] [.int xq] τ 0 0) (show rI τ 239 (nI j).toNatClampNeg = nI qj.1 from (ldE rfl (by omega) xj.1))) ?_
            refine hAt 4 _ _ _ _ _ _ ?_
            refine And.intro (aOKx (n := 8) (j := k) rfl (by decide) rfl rfl (by omega) (by omega)) ?_
            refine Eq.mpr (congrArg (fun xq : Int32 => At 49 [.ref (108), .int (nI k), .int (nI j)] [.int xq, .int (nI qj.1)] τ 0 0) (show rI τ 239 (nI k).toNatClampNeg = nI qk.1 from (ldE rfl (by omega) xk.1))) ?_
            refine hAt 1 _ _ _ _ _ _ ?_
            refine And.intro (fun hq => ?_) (fun hq => ?_)
            · have c49 : ¬ qj.1 = qk.1 := fun zq => hq ((eqN (a := qj.1) (b := qk.1) rfl rfl (by omega) (by omega)).mpr zq)
              clear hq
              refine hAt 2 _ _ _ _ _ _ ?_
              refine Eq.mpr (congrArg (fun xq : Int32 => At 14 [.ref (108), .int (nI k), .int xq] [] τ 0 0) (show nI j + nI 1 = nI (j + 1) from (adE rfl rfl))) ?_
              exact ih2 c16 (step c16 (decide_eq_false (fun z => by have := z.2.2; rw [hqj, hqk] at this; cases this; exact c49 rfl)))
            · have c49 : qj.1 = qk.1 := (eqN (a := qj.1) (b := qk.1) rfl rfl (by omega) (by omega)).mp hq
              clear hq
              refine hAt 4 _ _ _ _ _ _ ?_
              refine And.intro (aOKx (n := 8) (j := j) rfl (by decide) rfl rfl (by omega) (by omega)) ?_
              refine Eq.mpr (congrArg (fun xq : Int32 => At 58 [.ref (108), .int (nI k), .int (nI j)] [.int xq] τ 0 0) (show rI τ 240 (nI j).toNatClampNeg = nI qj.2 from (ldE rfl (by omega) xj.2))) ?_
              refine hAt 4 _ _ _ _ _ _ ?_
              refine And.intro (aOKx (n := 8) (j := k) rfl (by decide) rfl rfl (by omega) (by omega)) ?_
              refine Eq.mpr (congrArg (fun xq : Int32 => At 64 [.ref (108), .int (nI k), .int (nI j)] [.int xq, .int (nI qj.2)] τ 0 0) (show rI τ 240 (nI k).toNatClampNeg = nI qk.2 from (ldE rfl (by omega) xk.2))) ?_
              refine hAt 1 _ _ _ _ _ _ ?_
              refine And.intro (fun hq => ?_) (fun hq => ?_)
              · have c64 : ¬ qj.2 = qk.2 := fun zq => hq ((eqN (a := qj.2) (b := qk.2) rfl rfl (by omega) (by omega)).mpr zq)
                clear hq
                refine hAt 2 _ _ _ _ _ _ ?_
                refine Eq.mpr (congrArg (fun xq : Int32 => At 14 [.ref (108), .int (nI k), .int xq] [] τ 0 0) (show nI j + nI 1 = nI (j + 1) from (adE rfl rfl))) ?_
                exact ih2 c16 (step c16 (decide_eq_false (fun z => by have := z.2.2; rw [hqj, hqk] at this; cases this; exact c64 rfl)))
              · have c64 : qj.2 = qk.2 := (eqN (a := qj.2) (b := qk.2) rfl rfl (by omega) (by omega)).mp hq
                clear hq
                refine hAt 4 _ _ _ _ _ _ ?_
                refine And.intro (mx_r (q := 141) (n := 8) (k := 7) rfl rfl (show j < 8 by omega)) (And.intro (Or.inl rfl) ?_)
                refine Eq.mpr (congrArg (fun xq : Nat => At 73 [.ref (108), .int (nI k), .int (nI j)] [.ref xq] τ 0 0) (rwE rfl (by omega))) ?_
                refine hAt 2 _ _ _ _ _ _ ?_
                refine And.intro (mx_e (q := 141) (n := 8) (k := 7) (j := j) (i := 2) rfl (by omega) (by omega) rfl) ?_
                refine Eq.mpr (congrArg (fun xq : Int32 => At 75 [.ref (108), .int (nI k), .int (nI j)] [.int xq] τ 0 0) (show rI τ (141 + 1 + j) (nI 2).toNatClampNeg = nI (kC s j 2) from (ldE rfl (by omega) (hS.2.2.1 j (by omega) 2 (by omega))))) ?_
                refine hAt 4 _ _ _ _ _ _ ?_
                refine And.intro (mx_r (q := 141) (n := 8) (k := 7) rfl rfl (show k < 8 by omega)) (And.intro (Or.inl rfl) ?_)
                refine Eq.mpr (congrArg (fun xq : Nat => At 81 [.ref (108), .int (nI k), .int (nI j)] [.ref xq, .int (nI (kC s j 2))] τ 0 0) (rwE rfl (by omega))) ?_
                refine hAt 2 _ _ _ _ _ _ ?_
                refine And.intro (mx_e (q := 141) (n := 8) (k := 7) (j := k) (i := 2) rfl (by omega) (by omega) rfl) ?_
                refine Eq.mpr (congrArg (fun xq : Int32 => At 83 [.ref (108), .int (nI k), .int (nI j)] [.int xq, .int (nI (kC s j 2))] τ 0 0) (show rI τ (141 + 1 + k) (nI 2).toNatClampNeg = nI (kC s k 2) from (ldE rfl (by omega) (hS.2.2.1 k (by omega) 2 (by omega))))) ?_
                refine hAt 1 _ _ _ _ _ _ ?_
                refine And.intro (fun hq => ?_) (fun hq => ?_)
                · have c83 : ¬ kC s j 2 = kC s k 2 := fun zq => hq ((eqN (a := kC s j 2) (b := kC s k 2) rfl rfl (by omega) (by omega)).mpr zq)
                  clear hq
                  refine hAt 2 _ _ _ _ _ _ ?_
                  refine Eq.mpr (congrArg (fun xq : Int32 => At 14 [.ref (108), .int (nI k), .int xq] [] τ 0 0) (show nI j + nI 1 = nI (j + 1) from (adE rfl rfl))) ?_
                  exact ih2 c16 (step c16 (decide_eq_false (fun z => c83 z.2.1)))
                · have c83 : kC s j 2 = kC s k 2 := (eqN (a := kC s j 2) (b := kC s k 2) rfl rfl (by omega) (by omega)).mp hq
                  clear hq
                  refine hAt 6 _ _ _ _ _ _ ?_
                  refine s_joinsTo hS0 hv hdk (cap_le hv (h + 1)) hx c16 hk2 c34 c25 (fun τ2 hc2 g2 => ?_)
                  refine Eq.mpr (congrArg (fun xq : Int32 => At 14 [.ref (108), .int (nI k), .int xq] [] τ2 0 0) (show nI j + nI 1 = nI (j + 1) from (adE rfl rfl))) ?_
                  have ht := hit c16 (decide_eq_true ⟨c34, c83, by rw [hqj, hqk]; exact congrArg some (Prod.ext c49 c64)⟩)
                  have ej : ja1 s h E k = djn s E j k := by rw [ja1, if_pos c25, ht]; rfl
                  refine don hk2 (j + 1) (by omega) τ2 (by rw [ej]; exact hc2) (g2.trans ht2) ?_
                  rw [ej, gN_djn, if_neg (by omega), if_neg (by omega), if_neg (by omega), if_neg (by omega), if_pos ⟨rfl, rfl⟩]; decide
    refine hAt 5 _ _ _ _ _ _ ?_
    refine And.intro (aOKx (n := 11) (j := 2) rfl (by decide) rfl rfl (by omega) (by omega)) ?_
    refine Eq.mpr (congrArg (fun xq : Int32 => At 9 [.ref (108), .int (nI k), z2] [.int xq, .int (nI k)] τ 0 0) (show rI τ 111 (nI 2).toNatClampNeg = nI (kT s 2) from (ldE rfl (by omega) (hS.1 2 (by omega))))) ?_
    refine hAt 1 _ _ _ _ _ _ ?_
    refine And.intro (fun hq => ?_) (fun hq => ?_)
    · have c9 : kT s 2 ≤ k := (leN (a := kT s 2) (b := k) rfl rfl (by omega) (by omega)).mp hq
      clear hq
      refine hAt 1 _ _ _ _ _ _ ?_
      have e : k = kT s 2 := by omega
      rw [← e] at hP
      rw [hE] at hx
      exact hP τ hx ht2
    · have c9 : k < kT s 2 := Nat.lt_of_not_le (fun zq => hq ((leN (a := kT s 2) (b := k) rfl rfl (by omega) (by omega)).mpr zq))
      clear hq
      refine hAt 2 _ _ _ _ _ _ ?_
      exact inn c9 0 (by omega) rfl
  refine hAt 2 _ _ _ _ _ _ ?_
  exact loop 0 (by omega) σ _ hc rfl
end DM3
