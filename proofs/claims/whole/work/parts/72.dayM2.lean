/-! THE DAY on the model's side: clouds go, come and join -/
theorem mx_row {σ : Mem} {q n k j : Nat} (h : mxB q n k = true) (hj : j < n) : ∀ i, i < k → aOK true σ (q + 1 + j) 12 (nI i) := fun i hi => mx_e h hj hi rfl
section DM2
variable {w : Wd} {d : Nat} {σ0 σ : Mem} {s : Sk} {P : Option AV → Mem → Prop} {X : Nat → Mem → Prop}
theorem s_Mpsum {D : Dy} {k : Nat} {hf : Nat → Nat} (hc : eM σ0 s hf D σ) (hn : kT s 2 ≤ 8) (hk : k < kT s 2) (hp : gN D 0 k = 1) (hP : P (some (.int (nI (rs D (8 + k))))) σ) : Ret w true (d + 1) 0 0 m_Mo_sum [.ref (244 + 1 + k)] σ P X :=
  s_sum8 (f := gN D (8 + k)) (mx_row (q := 244) (n := 8) (k := 8) rfl (by omega)) (fun i hi => hc.par k i hk hp hi) hP
theorem s_moves {D : Dy} {h : Nat} (hS0 : skM σ0 s) (hv : VS s) (hh : h < 50) (hd : DV s h D) (hc : eM σ0 s (fun _ => h - 1) D σ) (hP : ∀ τ, eM σ0 s (fun _ => h) (fld (mv1 s h) D (kT s 2)) τ → τ.2 = σ.2 → P none τ) : Ret w true (d + 3) 0 0 m_Mo_moves [.ref 108, .int (nI h)] σ P X := by
  have hn := hv.2.2.1
  have hF := hv.2.2.2.1
  have s1 := hv.1
  have s2 := hv.2.1
  have s8 := hv.2.2.2.2.2.2.2.2.2.2.2.2.1
  refine meth_ok k_Mo_moves q_Mo_moves rfl fun At hAt => ?_
  have loop : ∀ k, k ≤ kT s 2 → ∀ τ z3, eM σ0 s (goF h k) (fld (mv1 s h) D k) τ → τ.2 = σ.2 → At 2 [.ref 108, .int (nI h), .int (nI k), z3] [] τ 0 0 := by
    refine upto fun k hk ih => ?_
    intro τ z3 hx ht2
    have hS := hx.sk hS0 hv
    have b8 : k < kT s 2 → _ := s8 k
    have e0 : gN (fld (mv1 s h) D k) 0 k = gN D 0 k := fld_0 (fun E i j q => by
      unfold mv1
      by_cases y : gN E 0 i = 1
      · rw [if_pos y]; exact go1_0 q
      · rw [if_neg y]; exact cm1_0 q) _ k (Nat.le_refl k)
    have gk : goF h k k = h - 1 := if_neg (by omega)
    have gs : ∀ i, i ≠ k → goF h (k + 1) i = goF h k i := fun i hi => by unfold goF; by_cases q : i < k <;> simp [q] <;> omega
    have gk1 : goF h (k + 1) k = h := if_pos (by omega)
    obtain ⟨E, hE⟩ : ∃ E, E = fld (mv1 s h) D k := ⟨_, rfl⟩
    have nxt : fld (mv1 s h) D (k + 1) = mv1 s h E k := by rw [hE]; rfl
    rw [nxt] at ih
    rw [← hE] at hx e0
    have ihN : ∀ τ' z3, eM σ0 s (goF h (k + 1)) (mv1 s h E k) τ' → τ'.2 = σ.2 → k < kT s 2 → At 237 [.ref 108, .int (nI h), .int (nI k), z3] [] τ' 0 0 := by
      intro τ' z3 u1 u2 u3
      refine hAt 2 _ _ _ _ _ _ ?_
      refine Eq.mpr (congrArg (fun xq : Int32 => At 2 [.ref (108), .int (nI h), .int xq, z3] [] τ' 0 0) (show nI k + nI 1 = nI (k + 1) from (adE rfl rfl))) ?_
      exact ih u3 _ _ u1 u2
    have stay237 : ∀ z3, k < kT s 2 → mv1 s h E k = E → (gN E 0 k ≠ 1) → At 237 [.ref 108, .int (nI h), .int (nI k), z3] [] τ 0 0 := fun z3 hk2 q1 q2 => by
      refine ihN τ z3 ?_ ht2 hk2
      rw [q1]
      exact hx.congrF (fun i hi t => by
        by_cases e : i = k
        · rw [e] at t; exact absurd t q2
        · exact gs i e)
    have inn : k < kT s 2 → gN E 0 k ≠ 1 → kC s k 3 = h → ∀ o, o ≤ 8 → ∀ τ', (∀ a j, ¬ (238 ≤ a ∧ a ≤ 242 ∧ j = k) → ¬ (a = 244 + 1 + k ∧ j < 8) → rI τ' a j = rI τ a j) → τ'.2 = τ.2 → rI τ' 238 k = bI true → rI τ' 239 k = nI (kC s k 0) → rI τ' 240 k = nI (kC s k 1) → rI τ' 241 k = nI (kC s k 5) → rI τ' 242 k = nI (kC s k 6) → (∀ i, i < o → rI τ' (244 + 1 + k) i = nI (if i = kC s k 5 then kC s k 4 else 0)) → At 195 [.ref 108, .int (nI h), .int (nI k), .int (nI o)] [] τ' 0 0 := by
      intro hk2 hno hT
      have bk := s8 k hk2
      refine upto fun o ho ih2 => ?_
      intro τ' h1 h2 v38 v39 v40 v41 v42 v44
      have hS' : skM τ' s := hS.scr2 hv (fun a j u1 u2 => h1 a j (by omega) (by omega))
      refine hAt 3 _ _ _ _ _ _ ?_
      refine And.intro (fun hq => ?_) (fun hq => ?_)
      · have c198 : 8 ≤ o := (leN (a := 8) (b := o) rfl rfl (by omega) (by omega)).mp hq
        clear hq
        have e : o = 8 := by omega
        subst e
        have y := ihN τ' (.int (nI 8)) ?_ (h2.trans ht2) hk2
        · exact y
        · have t0 : gN (mv1 s h E k) 0 k = 1 := by rw [mv1, if_neg hno, cm1, if_pos hT, gN_ne (by omega), gN_ne (by omega), gR_ne (by omega), gN_eq]
          have em : mv1 s h E k = cm1 s h E k := by rw [mv1, if_neg hno]
          rw [em] at t0 ⊢
          refine hx.cl (k := k) ⟨fun a j h3 ha => ?_, fun a ha j => ?_, ?_⟩ (fun t i q => cm1_hi (by omega)) (fun t i => cm1_gD) (fun a j q1 q2 q3 => h1 a j q2 q3) (fun i hi hik ti => gs i hik) ⟨?_, fun _ q hq => ?_⟩ (fun _ => ?_) (fun _ => ?_) (fun _ o ho => ?_) hn hF (by omega)
          · rw [h1 a j (by omega) (by omega)]; exact hx.1.1 a j h3 ha
          · rw [show rL τ' a j = rL τ a j from congrArg (fun z => z.1 a j) h2]; exact hx.1.2.1 a ha j
          · rw [show mN τ' = mN τ from congrArg (fun z => z.2.2.1) h2]; exact hx.1.2.2
          · rw [v38, decide_eq_true t0]
          · rw [gk1, ← hT, ps_at] at hq
            cases hq
            exact ⟨v39, v40⟩
          · rw [v41, cm1, if_pos hT, gN_ne (by omega), gN_eq]
          · rw [v42, cm1, if_pos hT, gN_eq]
          · rw [v44 o ho, cm1, if_pos hT, gN_ne (by omega), gN_ne (by omega), gR_eq ho]
      · have c198 : o < 8 := Nat.lt_of_not_le (fun zq => hq ((leN (a := 8) (b := o) rfl rfl (by omega) (by omega)).mpr zq))
        clear hq
        refine hAt 4 _ _ _ _ _ _ ?_
        refine And.intro (mx_r (q := 244) (n := 8) (k := 8) rfl rfl (show k < 8 by omega)) (And.intro (Or.inl rfl) ?_)
        refine Eq.mpr (congrArg (fun xq : Nat => At 207 [.ref (108), .int (nI h), .int (nI k), .int (nI o)] [.ref xq] τ' 0 0) (rwE rfl (by omega))) ?_
        refine hAt 6 _ _ _ _ _ _ ?_
        refine And.intro (aOKx (n := 8) (j := k) rfl (by decide) rfl rfl (by omega) (by omega)) ?_
        refine Eq.mpr (congrArg (fun xq : Int32 => At 215 [.ref (108), .int (nI h), .int (nI k), .int (nI o)] [.int xq, .int (nI o), .int (nI o), .ref (244 + 1 + k)] τ' 0 0) (show rI τ' 241 (nI k).toNatClampNeg = nI (kC s k 5) from (ldE rfl (by omega) v41))) ?_
        refine hAt 1 _ _ _ _ _ _ ?_
        refine And.intro (fun hq => ?_) (fun hq => ?_)
        · have c215 : ¬ o = kC s k 5 := fun zq => hq ((eqN (a := o) (b := kC s k 5) rfl rfl (by omega) (by omega)).mpr zq)
          clear hq
          refine hAt 2 _ _ _ _ _ _ ?_
          refine And.intro (mx_e (q := 244) (n := 8) (k := 8) (j := k) (i := o) rfl (by omega) (by omega) rfl) ?_
          refine Eq.mpr (congrArg (fun xq : Mem => At 231 [.ref (108), .int (nI h), .int (nI k), .int (nI o)] [] xq 0 0) (wrE (σ := τ') (q := 244 + 1 + k) (p := rfl) (hj := by omega) (h := rfl))) ?_
          refine hAt 2 _ _ _ _ _ _ ?_
          refine Eq.mpr (congrArg (fun xq : Int32 => At 195 [.ref (108), .int (nI h), .int (nI k), .int xq] [] (wI τ' (244 + 1 + k) o (nI 0)) 0 0) (show nI o + nI 1 = nI (o + 1) from (adE rfl rfl))) ?_
          refine ih2 c198 _ (fun a j u1 u2 => ?_) h2 ?_ ?_ ?_ ?_ ?_ (fun i hi => ?_)
          · rw [rI_wI, if_neg (by omega)]; exact h1 a j u1 u2
          · rw [rI_wI, if_neg (by omega)]; exact v38
          · rw [rI_wI, if_neg (by omega)]; exact v39
          · rw [rI_wI, if_neg (by omega)]; exact v40
          · rw [rI_wI, if_neg (by omega)]; exact v41
          · rw [rI_wI, if_neg (by omega)]; exact v42
          · rw [rI_wI]
            by_cases e : i = o
            · rw [if_pos ⟨rfl, e⟩, e, if_neg c215]
            · rw [if_neg (fun z => e z.2)]; exact v44 i (by omega)
        · have c215 : o = kC s k 5 := (eqN (a := o) (b := kC s k 5) rfl rfl (by omega) (by omega)).mp hq
          clear hq
          refine hAt 4 _ _ _ _ _ _ ?_
          refine And.intro (mx_r (q := 141) (n := 8) (k := 7) rfl rfl (show k < 8 by omega)) (And.intro (Or.inl rfl) ?_)
          refine Eq.mpr (congrArg (fun xq : Nat => At 224 [.ref (108), .int (nI h), .int (nI k), .int (nI o)] [.ref xq, .int (nI o), .ref (244 + 1 + k)] τ' 0 0) (rwE rfl (by omega))) ?_
          refine hAt 2 _ _ _ _ _ _ ?_
          refine And.intro (mx_e (q := 141) (n := 8) (k := 7) (j := k) (i := 4) rfl (by omega) (by omega) rfl) ?_
          refine Eq.mpr (congrArg (fun xq : Int32 => At 226 [.ref (108), .int (nI h), .int (nI k), .int (nI o)] [.int xq, .int (nI o), .ref (244 + 1 + k)] τ' 0 0) (show rI τ' (141 + 1 + k) (nI 4).toNatClampNeg = nI (kC s k 4) from (ldE rfl (by omega) (hS'.2.2.1 k (by omega) 4 (by omega))))) ?_
          refine hAt 2 _ _ _ _ _ _ ?_
          refine And.intro (mx_e (q := 244) (n := 8) (k := 8) (j := k) (i := o) rfl (by omega) (by omega) rfl) ?_
          refine Eq.mpr (congrArg (fun xq : Mem => At 231 [.ref (108), .int (nI h), .int (nI k), .int (nI o)] [] xq 0 0) (wrE (σ := τ') (q := 244 + 1 + k) (p := rfl) (hj := by omega) (h := rfl))) ?_
          refine hAt 2 _ _ _ _ _ _ ?_
          refine Eq.mpr (congrArg (fun xq : Int32 => At 195 [.ref (108), .int (nI h), .int (nI k), .int xq] [] (wI τ' (244 + 1 + k) o (nI (kC s k 4))) 0 0) (show nI o + nI 1 = nI (o + 1) from (adE rfl rfl))) ?_
          refine ih2 c198 _ (fun a j u1 u2 => ?_) h2 ?_ ?_ ?_ ?_ ?_ (fun i hi => ?_)
          · rw [rI_wI, if_neg (by omega)]; exact h1 a j u1 u2
          · rw [rI_wI, if_neg (by omega)]; exact v38
          · rw [rI_wI, if_neg (by omega)]; exact v39
          · rw [rI_wI, if_neg (by omega)]; exact v40
          · rw [rI_wI, if_neg (by omega)]; exact v41
          · rw [rI_wI, if_neg (by omega)]; exact v42
          · rw [rI_wI]
            by_cases e : i = o
            · rw [if_pos ⟨rfl, e⟩, e, if_pos c215]
            · rw [if_neg (fun z => e z.2)]; exact v44 i (by omega)
    refine hAt 5 _ _ _ _ _ _ ?_
    refine And.intro (aOKx (n := 11) (j := 2) rfl (by decide) rfl rfl (by omega) (by omega)) ?_
    refine Eq.mpr (congrArg (fun xq : Int32 => At 9 [.ref (108), .int (nI h), .int (nI k), z3] [.int xq, .int (nI k)] τ 0 0) (show rI τ 111 (nI 2).toNatClampNeg = nI (kT s 2) from (ldE rfl (by omega) (hS.1 2 (by omega))))) ?_
    refine hAt 1 _ _ _ _ _ _ ?_
    refine And.intro (fun hq => ?_) (fun hq => ?_)
    · have c9 : kT s 2 ≤ k := (leN (a := kT s 2) (b := k) rfl rfl (by omega) (by omega)).mp hq
      clear hq
      refine hAt 1 _ _ _ _ _ _ ?_
      have e : k = kT s 2 := by omega
      rw [← e] at hP
      rw [hE] at hx
      exact hP τ (hx.congrF (fun i hi _ => by unfold goF; rw [if_pos (by omega)])) ht2
    · have c9 : k < kT s 2 := Nat.lt_of_not_le (fun zq => hq ((leN (a := kT s 2) (b := k) rfl rfl (by omega) (by omega)).mpr zq))
      clear hq
      have b8 := b8 c9
      refine hAt 4 _ _ _ _ _ _ ?_
      refine And.intro (aOKx (n := 8) (j := k) rfl (by decide) rfl rfl (by omega) (by omega)) ?_
      refine Eq.mpr (congrArg (fun xq : Int32 => At 18 [.ref (108), .int (nI h), .int (nI k), z3] [.int xq] τ 0 0) (show rI τ 238 (nI k).toNatClampNeg = bI (decide (gN E 0 k = 1)) from (ldE rfl (by omega) ((hx.2.1 k (by omega)).1)))) ?_
      refine hAt 1 _ _ _ _ _ _ ?_
      refine And.intro (fun hq => ?_) (fun hq => ?_)
      · have c18 : ¬ (gN E 0 k = 1) := of_decide_eq_false (bI_eq hq)
        clear hq
        refine hAt 4 _ _ _ _ _ _ ?_
        refine And.intro (mx_r (q := 141) (n := 8) (k := 7) rfl rfl (show k < 8 by omega)) (And.intro (Or.inl rfl) ?_)
        refine Eq.mpr (congrArg (fun xq : Nat => At 123 [.ref (108), .int (nI h), .int (nI k), z3] [.ref xq] τ 0 0) (rwE rfl (by omega))) ?_
        refine hAt 2 _ _ _ _ _ _ ?_
        refine And.intro (mx_e (q := 141) (n := 8) (k := 7) (j := k) (i := 3) rfl (by omega) (by omega) rfl) ?_
        refine Eq.mpr (congrArg (fun xq : Int32 => At 125 [.ref (108), .int (nI h), .int (nI k), z3] [.int xq] τ 0 0) (show rI τ (141 + 1 + k) (nI 3).toNatClampNeg = nI (kC s k 3) from (ldE rfl (by omega) (hS.2.2.1 k (by omega) 3 (by omega))))) ?_
        refine hAt 2 _ _ _ _ _ _ ?_
        refine And.intro (fun hq => ?_) (fun hq => ?_)
        · have c126 : ¬ kC s k 3 = h := fun zq => hq ((eqN (a := kC s k 3) (b := h) rfl rfl (by omega) (by omega)).mpr zq)
          clear hq
          refine stay237 _ c9 ?_ c18
          rw [mv1, if_neg c18, cm1, if_neg c126]
        · have c126 : kC s k 3 = h := (eqN (a := kC s k 3) (b := h) rfl rfl (by omega) (by omega)).mp hq
          clear hq
          refine hAt 5 _ _ _ _ _ _ ?_
          refine And.intro (aOKx (n := 8) (j := k) rfl (by decide) rfl rfl (by omega) (by omega)) ?_
          refine Eq.mpr (congrArg (fun xq : Mem => At 136 [.ref (108), .int (nI h), .int (nI k), z3] [] xq 0 0) (wrB (σ := τ) (q := 238) (p := rfl) (hj := by omega) (b := true))) ?_
          refine hAt 7 _ _ _ _ _ _ ?_
          refine And.intro (mx_r (q := 141) (n := 8) (k := 7) rfl rfl (show k < 8 by omega)) (And.intro (Or.inl rfl) ?_)
          refine Eq.mpr (congrArg (fun xq : Nat => At 147 [.ref (108), .int (nI h), .int (nI k), z3] [.ref xq, .int (nI k), .ref (239)] (wI τ 238 k (bI true)) 0 0) (rwE rfl (by omega))) ?_
          refine hAt 2 _ _ _ _ _ _ ?_
          refine And.intro (mx_e (q := 141) (n := 8) (k := 7) (j := k) (i := 0) rfl (by omega) (by omega) rfl) ?_
          refine Eq.mpr (congrArg (fun xq : Int32 => At 149 [.ref (108), .int (nI h), .int (nI k), z3] [.int xq, .int (nI k), .ref (239)] (wI τ 238 k (bI true)) 0 0) (show rI (wI τ 238 k (bI true)) (141 + 1 + k) (nI 0).toNatClampNeg = nI (kC s k 0) from (ldE rfl (by omega) (by rw [rI_wI, if_neg (by omega)]; exact (hS.2.2.1 k (by omega) 0 (by omega)))))) ?_
          refine hAt 1 _ _ _ _ _ _ ?_
          refine And.intro (aOKx (n := 8) (j := k) rfl (by decide) rfl rfl (by omega) (by omega)) ?_
          refine Eq.mpr (congrArg (fun xq : Mem => At 150 [.ref (108), .int (nI h), .int (nI k), z3] [] xq 0 0) (wrE (σ := (wI τ 238 k (bI true))) (q := 239) (p := rfl) (hj := by omega) (h := rfl))) ?_
          refine hAt 7 _ _ _ _ _ _ ?_
          refine And.intro (mx_r (q := 141) (n := 8) (k := 7) rfl rfl (show k < 8 by omega)) (And.intro (Or.inl rfl) ?_)
          refine Eq.mpr (congrArg (fun xq : Nat => At 161 [.ref (108), .int (nI h), .int (nI k), z3] [.ref xq, .int (nI k), .ref (240)] (wI (wI τ 238 k (bI true)) 239 k (nI (kC s k 0))) 0 0) (rwE rfl (by omega))) ?_
          refine hAt 2 _ _ _ _ _ _ ?_
          refine And.intro (mx_e (q := 141) (n := 8) (k := 7) (j := k) (i := 1) rfl (by omega) (by omega) rfl) ?_
          refine Eq.mpr (congrArg (fun xq : Int32 => At 163 [.ref (108), .int (nI h), .int (nI k), z3] [.int xq, .int (nI k), .ref (240)] (wI (wI τ 238 k (bI true)) 239 k (nI (kC s k 0))) 0 0) (show rI (wI (wI τ 238 k (bI true)) 239 k (nI (kC s k 0))) (141 + 1 + k) (nI 1).toNatClampNeg = nI (kC s k 1) from (ldE rfl (by omega) (by rw [rI_wI, if_neg (by omega), rI_wI, if_neg (by omega)]; exact (hS.2.2.1 k (by omega) 1 (by omega)))))) ?_
          refine hAt 1 _ _ _ _ _ _ ?_
          refine And.intro (aOKx (n := 8) (j := k) rfl (by decide) rfl rfl (by omega) (by omega)) ?_
          refine Eq.mpr (congrArg (fun xq : Mem => At 164 [.ref (108), .int (nI h), .int (nI k), z3] [] xq 0 0) (wrE (σ := (wI (wI τ 238 k (bI true)) 239 k (nI (kC s k 0)))) (q := 240) (p := rfl) (hj := by omega) (h := rfl))) ?_
          refine hAt 7 _ _ _ _ _ _ ?_
          refine And.intro (mx_r (q := 141) (n := 8) (k := 7) rfl rfl (show k < 8 by omega)) (And.intro (Or.inl rfl) ?_)
          refine Eq.mpr (congrArg (fun xq : Nat => At 175 [.ref (108), .int (nI h), .int (nI k), z3] [.ref xq, .int (nI k), .ref (241)] (wI (wI (wI τ 238 k (bI true)) 239 k (nI (kC s k 0))) 240 k (nI (kC s k 1))) 0 0) (rwE rfl (by omega))) ?_
          refine hAt 2 _ _ _ _ _ _ ?_
          refine And.intro (mx_e (q := 141) (n := 8) (k := 7) (j := k) (i := 5) rfl (by omega) (by omega) rfl) ?_
          refine Eq.mpr (congrArg (fun xq : Int32 => At 177 [.ref (108), .int (nI h), .int (nI k), z3] [.int xq, .int (nI k), .ref (241)] (wI (wI (wI τ 238 k (bI true)) 239 k (nI (kC s k 0))) 240 k (nI (kC s k 1))) 0 0) (show rI (wI (wI (wI τ 238 k (bI true)) 239 k (nI (kC s k 0))) 240 k (nI (kC s k 1))) (141 + 1 + k) (nI 5).toNatClampNeg = nI (kC s k 5) from (ldE rfl (by omega) (by rw [rI_wI, if_neg (by omega), rI_wI, if_neg (by omega), rI_wI, if_neg (by omega)]; exact (hS.2.2.1 k (by omega) 5 (by omega)))))) ?_
          refine hAt 1 _ _ _ _ _ _ ?_
          refine And.intro (aOKx (n := 8) (j := k) rfl (by decide) rfl rfl (by omega) (by omega)) ?_
          refine Eq.mpr (congrArg (fun xq : Mem => At 178 [.ref (108), .int (nI h), .int (nI k), z3] [] xq 0 0) (wrE (σ := (wI (wI (wI τ 238 k (bI true)) 239 k (nI (kC s k 0))) 240 k (nI (kC s k 1)))) (q := 241) (p := rfl) (hj := by omega) (h := rfl))) ?_
          refine hAt 7 _ _ _ _ _ _ ?_
          refine And.intro (mx_r (q := 141) (n := 8) (k := 7) rfl rfl (show k < 8 by omega)) (And.intro (Or.inl rfl) ?_)
          refine Eq.mpr (congrArg (fun xq : Nat => At 189 [.ref (108), .int (nI h), .int (nI k), z3] [.ref xq, .int (nI k), .ref (242)] (wI (wI (wI (wI τ 238 k (bI true)) 239 k (nI (kC s k 0))) 240 k (nI (kC s k 1))) 241 k (nI (kC s k 5))) 0 0) (rwE rfl (by omega))) ?_
          refine hAt 2 _ _ _ _ _ _ ?_
          refine And.intro (mx_e (q := 141) (n := 8) (k := 7) (j := k) (i := 6) rfl (by omega) (by omega) rfl) ?_
          refine Eq.mpr (congrArg (fun xq : Int32 => At 192 [.ref (108), .int (nI h), .int (nI k), z3] [.int xq, .int (nI k), .ref (242)] (wI (wI (wI (wI τ 238 k (bI true)) 239 k (nI (kC s k 0))) 240 k (nI (kC s k 1))) 241 k (nI (kC s k 5))) 0 0) (show rI (wI (wI (wI (wI τ 238 k (bI true)) 239 k (nI (kC s k 0))) 240 k (nI (kC s k 1))) 241 k (nI (kC s k 5))) (141 + 1 + k) (nI 6).toNatClampNeg = nI (kC s k 6) from (ldE rfl (by omega) (by rw [rI_wI, if_neg (by omega), rI_wI, if_neg (by omega), rI_wI, if_neg (by omega), rI_wI, if_neg (by omega)]; exact (hS.2.2.1 k (by omega) 6 (by omega)))))) ?_
          refine hAt 1 _ _ _ _ _ _ ?_
          refine And.intro (aOKx (n := 8) (j := k) rfl (by decide) rfl rfl (by omega) (by omega)) ?_
          refine Eq.mpr (congrArg (fun xq : Mem => At 193 [.ref (108), .int (nI h), .int (nI k), z3] [] xq 0 0) (wrE (σ := (wI (wI (wI (wI τ 238 k (bI true)) 239 k (nI (kC s k 0))) 240 k (nI (kC s k 1))) 241 k (nI (kC s k 5)))) (q := 242) (p := rfl) (hj := by omega) (h := rfl))) ?_
          refine hAt 2 _ _ _ _ _ _ ?_
          refine inn c9 c18 c126 0 (by omega) _ (fun a j u1 u2 => ?_) rfl ?_ ?_ ?_ ?_ ?_ (fun i hi => absurd hi (Nat.not_lt_zero i))
          · rw [rI_wI, if_neg (by omega), rI_wI, if_neg (by omega), rI_wI, if_neg (by omega), rI_wI, if_neg (by omega), rI_wI, if_neg (by omega)]
          · rw [rI_wI, if_neg (by omega), rI_wI, if_neg (by omega), rI_wI, if_neg (by omega), rI_wI, if_neg (by omega), rI_wI, if_pos ⟨rfl, rfl⟩]
          · rw [rI_wI, if_neg (by omega), rI_wI, if_neg (by omega), rI_wI, if_neg (by omega), rI_wI, if_pos ⟨rfl, rfl⟩]
          · rw [rI_wI, if_neg (by omega), rI_wI, if_neg (by omega), rI_wI, if_pos ⟨rfl, rfl⟩]
          · rw [rI_wI, if_neg (by omega), rI_wI, if_pos ⟨rfl, rfl⟩]
          · rw [rI_wI, if_pos ⟨rfl, rfl⟩]
      · have c18 : gN E 0 k = 1 := of_decide_eq_true (bI_ne hq)
        clear hq
        have hdk := (hd.1 k c9 (by rw [← e0]; exact c18)).1
        obtain ⟨q, hq⟩ : ∃ q, ps s k (h - 1) = some q := by
          cases e : ps s k (h - 1) with
          | none => exact absurd e hdk.2
          | some q => exact ⟨q, rfl⟩
        have hq2 := ps_in hv c9 _ q hq
        have ⟨r39, r40⟩ := (hx.2.1 k c9).2 c18 q (by rw [gk]; exact hq)
        have b0 := blw_b hv (kC s k 2) h 0 (by omega)
        have b1 := blw_b hv (kC s k 2) h 1 (by omega)
        have hps := ps_some hdk.1 hq
        refine hAt 5 _ _ _ _ _ _ ?_
        refine And.intro (aOKx (n := 8) (j := k) rfl (by decide) rfl rfl (by omega) (by omega)) ?_
        refine Eq.mpr (congrArg (fun xq : Int32 => At 28 [.ref (108), .int (nI h), .int (nI k), z3] [.int xq, .int (nI k), .ref (239)] τ 0 0) (show rI τ 239 (nI k).toNatClampNeg = nI q.1 from (ldE rfl (by omega) r39))) ?_
        refine hAt 5 _ _ _ _ _ _ ?_
        refine And.intro (mx_r (q := 141) (n := 8) (k := 7) rfl rfl (show k < 8 by omega)) (And.intro (Or.inl rfl) ?_)
        refine Eq.mpr (congrArg (fun xq : Nat => At 35 [.ref (108), .int (nI h), .int (nI k), z3] [.ref xq, .ref (108), .int (nI q.1), .int (nI k), .ref (239)] τ 0 0) (rwE rfl (by omega))) ?_
        refine hAt 2 _ _ _ _ _ _ ?_
        refine And.intro (mx_e (q := 141) (n := 8) (k := 7) (j := k) (i := 2) rfl (by omega) (by omega) rfl) ?_
        refine Eq.mpr (congrArg (fun xq : Int32 => At 37 [.ref (108), .int (nI h), .int (nI k), z3] [.int xq, .ref (108), .int (nI q.1), .int (nI k), .ref (239)] τ 0 0) (show rI τ (141 + 1 + k) (nI 2).toNatClampNeg = nI (kC s k 2) from (ldE rfl (by omega) (hS.2.2.1 k (by omega) 2 (by omega))))) ?_
        refine hAt 5 _ _ _ _ _ _ ?_
        refine s_blows (hS) hv (by omega) (by omega) (by omega) ?_
        refine And.intro (aOKx (n := 8) (j := k) rfl (by decide) rfl rfl (by omega) (by omega)) ?_
        refine Eq.mpr (congrArg (fun xq : Mem => At 44 [.ref (108), .int (nI h), .int (nI k), z3] [] xq 0 0) (wrE (σ := τ) (q := 239) (p := rfl) (hj := by omega) (h := (adZ (ntZ rfl) rfl)))) ?_
        refine hAt 5 _ _ _ _ _ _ ?_
        refine And.intro (aOKx (n := 8) (j := k) rfl (by decide) rfl rfl (by omega) (by omega)) ?_
        refine Eq.mpr (congrArg (fun xq : Int32 => At 51 [.ref (108), .int (nI h), .int (nI k), z3] [.int xq, .int (nI k), .ref (240)] (wI τ 239 k (iZ (((q.1 : Nat) : Int) + (blw s (kC s k 2) h 0)))) 0 0) (show rI (wI τ 239 k (iZ (((q.1 : Nat) : Int) + (blw s (kC s k 2) h 0)))) 240 (nI k).toNatClampNeg = nI q.2 from (ldE rfl (by omega) (by rw [rI_wI, if_neg (by omega)]; exact r40)))) ?_
        refine hAt 5 _ _ _ _ _ _ ?_
        refine And.intro (mx_r (q := 141) (n := 8) (k := 7) rfl rfl (show k < 8 by omega)) (And.intro (Or.inl rfl) ?_)
        refine Eq.mpr (congrArg (fun xq : Nat => At 58 [.ref (108), .int (nI h), .int (nI k), z3] [.ref xq, .ref (108), .int (nI q.2), .int (nI k), .ref (240)] (wI τ 239 k (iZ (((q.1 : Nat) : Int) + (blw s (kC s k 2) h 0)))) 0 0) (rwE rfl (by omega))) ?_
        refine hAt 2 _ _ _ _ _ _ ?_
        refine And.intro (mx_e (q := 141) (n := 8) (k := 7) (j := k) (i := 2) rfl (by omega) (by omega) rfl) ?_
        refine Eq.mpr (congrArg (fun xq : Int32 => At 60 [.ref (108), .int (nI h), .int (nI k), z3] [.int xq, .ref (108), .int (nI q.2), .int (nI k), .ref (240)] (wI τ 239 k (iZ (((q.1 : Nat) : Int) + (blw s (kC s k 2) h 0)))) 0 0) (show rI (wI τ 239 k (iZ (((q.1 : Nat) : Int) + (blw s (kC s k 2) h 0)))) (141 + 1 + k) (nI 2).toNatClampNeg = nI (kC s k 2) from (ldE rfl (by omega) (by rw [rI_wI, if_neg (by omega)]; exact (hS.2.2.1 k (by omega) 2 (by omega)))))) ?_
        refine hAt 5 _ _ _ _ _ _ ?_
        refine s_blows (hS.scr2 hv (fun a j u1 u2 => by rw [rI_wI, if_neg (by omega)])) hv (by omega) (by omega) (by omega) ?_
        refine And.intro (aOKx (n := 8) (j := k) rfl (by decide) rfl rfl (by omega) (by omega)) ?_
        refine Eq.mpr (congrArg (fun xq : Mem => At 67 [.ref (108), .int (nI h), .int (nI k), z3] [] xq 0 0) (wrE (σ := (wI τ 239 k (iZ (((q.1 : Nat) : Int) + (blw s (kC s k 2) h 0))))) (q := 240) (p := rfl) (hj := by omega) (h := (adZ (ntZ rfl) rfl)))) ?_
        refine hAt 5 _ _ _ _ _ _ ?_
        refine And.intro (aOKx (n := 8) (j := k) rfl (by decide) rfl rfl (by omega) (by omega)) ?_
        refine Eq.mpr (congrArg (fun xq : Int32 => At 74 [.ref (108), .int (nI h), .int (nI k), z3] [.int xq, .ref (108)] (wI (wI τ 239 k (iZ (((q.1 : Nat) : Int) + (blw s (kC s k 2) h 0)))) 240 k (iZ (((q.2 : Nat) : Int) + (blw s (kC s k 2) h 1)))) 0 0) (show rI (wI (wI τ 239 k (iZ (((q.1 : Nat) : Int) + (blw s (kC s k 2) h 0)))) 240 k (iZ (((q.2 : Nat) : Int) + (blw s (kC s k 2) h 1)))) 239 (nI k).toNatClampNeg = iZ (((q.1 : Nat) : Int) + (blw s (kC s k 2) h 0)) from (ldE rfl (by omega) (by rw [rI_wI, if_neg (by omega), rI_wI, if_pos ⟨rfl, rfl⟩])))) ?_
        refine hAt 4 _ _ _ _ _ _ ?_
        refine And.intro (aOKx (n := 8) (j := k) rfl (by decide) rfl rfl (by omega) (by omega)) ?_
        refine Eq.mpr (congrArg (fun xq : Int32 => At 80 [.ref (108), .int (nI h), .int (nI k), z3] [.int xq, .int (iZ (((q.1 : Nat) : Int) + (blw s (kC s k 2) h 0))), .ref (108)] (wI (wI τ 239 k (iZ (((q.1 : Nat) : Int) + (blw s (kC s k 2) h 0)))) 240 k (iZ (((q.2 : Nat) : Int) + (blw s (kC s k 2) h 1)))) 0 0) (show rI (wI (wI τ 239 k (iZ (((q.1 : Nat) : Int) + (blw s (kC s k 2) h 0)))) 240 k (iZ (((q.2 : Nat) : Int) + (blw s (kC s k 2) h 1)))) 240 (nI k).toNatClampNeg = iZ (((q.2 : Nat) : Int) + (blw s (kC s k 2) h 1)) from (ldE rfl (by omega) (by rw [rI_wI, if_pos ⟨rfl, rfl⟩])))) ?_
        refine hAt 2 _ _ _ _ _ _ ?_
        refine s_isInZ (hS.scr2 hv (fun a j u1 u2 => by rw [rI_wI, if_neg (by omega), rI_wI, if_neg (by omega)])) hv (by omega) (by omega) ?_
        refine And.intro (fun hq => ?_) (fun hq => ?_)
        · have c83 : isInB s (((q.1 : Nat) : Int) + (blw s (kC s k 2) h 0)) (((q.2 : Nat) : Int) + (blw s (kC s k 2) h 1)) = false := bI_eq hq
          clear hq
          refine hAt 5 _ _ _ _ _ _ ?_
          refine And.intro (aOKx (n := 8) (j := k) rfl (by decide) rfl rfl (by omega) (by omega)) ?_
          refine Eq.mpr (congrArg (fun xq : Mem => At 96 [.ref (108), .int (nI h), .int (nI k), z3] [] xq 0 0) (wrB (σ := (wI (wI τ 239 k (iZ (((q.1 : Nat) : Int) + (blw s (kC s k 2) h 0)))) 240 k (iZ (((q.2 : Nat) : Int) + (blw s (kC s k 2) h 1))))) (q := 238) (p := rfl) (hj := by omega) (b := false))) ?_
          refine hAt 3 _ _ _ _ _ _ ?_
          refine Eq.mpr (congrArg (fun xq : Int32 => At 101 [.ref (108), .int (nI h), .int (nI k), z3] [.int xq, .ref (108)] (wI (wI (wI τ 239 k (iZ (((q.1 : Nat) : Int) + (blw s (kC s k 2) h 0)))) 240 k (iZ (((q.2 : Nat) : Int) + (blw s (kC s k 2) h 1)))) 238 k (bI false)) 0 0) (show rI (wI (wI (wI τ 239 k (iZ (((q.1 : Nat) : Int) + (blw s (kC s k 2) h 0)))) 240 k (iZ (((q.2 : Nat) : Int) + (blw s (kC s k 2) h 1)))) 238 k (bI false)) 108 43 = gD E 0 1 from (by rw [rI_wI, if_neg (by omega), rI_wI, if_neg (by omega), rI_wI, if_neg (by omega)]; exact hx.gon))) ?_
          refine hAt 4 _ _ _ _ _ _ ?_
          refine And.intro (mx_r (q := 244) (n := 8) (k := 8) rfl rfl (show k < 8 by omega)) (And.intro (Or.inl rfl) ?_)
          refine Eq.mpr (congrArg (fun xq : Nat => At 107 [.ref (108), .int (nI h), .int (nI k), z3] [.ref xq, .int (gD E 0 1), .ref (108)] (wI (wI (wI τ 239 k (iZ (((q.1 : Nat) : Int) + (blw s (kC s k 2) h 0)))) 240 k (iZ (((q.2 : Nat) : Int) + (blw s (kC s k 2) h 1)))) 238 k (bI false)) 0 0) (rwE rfl (by omega))) ?_
          refine hAt 4 _ _ _ _ _ _ ?_
          refine s_sum8 (a := 244 + 1 + k) (f := gN E (8 + k)) (mx_row (q := 244) (n := 8) (k := 8) rfl (by omega)) (fun i hi => by rw [rI_wI, if_neg (by omega), rI_wI, if_neg (by omega), rI_wI, if_neg (by omega)]; exact hx.par k i c9 c18 hi) ?_
          rw [if_neg (by rw [c83]; decide)] at hps
          refine ihN _ _ ?_ ht2 c9
          rw [mv1, if_pos c18, go1, if_pos ⟨c18, hps⟩]
          have g1 : eM σ0 s (goF h (k + 1)) (sR (sN E 0 k 0) (8 + k) (fun _ => 0)) (wI (wI (wI τ 239 k (iZ ((q.1 : Int) + (blw s (kC s k 2) h 0)))) 240 k (iZ ((q.2 : Int) + (blw s (kC s k 2) h 1)))) 238 k (bI false)) := by
            refine hx.cl (k := k) ⟨fun a j h3 ha => ?_, hx.1.2.1, hx.1.2.2⟩ (fun t i q => ?_) (fun t i => rfl) (fun a j q1 q2 q3 => ?_) (fun i hi hik ti => gs i hik) ⟨?_, fun z q' hq' => ?_⟩ (fun z => ?_) (fun z => ?_) (fun z o ho => ?_) hn hF (by omega)
            · rw [rI_wI, if_neg (by omega), rI_wI, if_neg (by omega), rI_wI, if_neg (by omega)]; exact hx.1.1 a j h3 ha
            · rw [gR_ne (by omega), gN_ne (by omega)]
            · rw [rI_wI, if_neg (by omega), rI_wI, if_neg (by omega), rI_wI, if_neg (by omega)]
            · rw [rI_wI, if_pos ⟨rfl, rfl⟩, gR_ne (by omega), gN_eq]; rfl
            · rw [gR_ne (by omega), gN_eq] at z; cases z
            · rw [gR_ne (by omega), gN_eq] at z; cases z
            · rw [gR_ne (by omega), gN_eq] at z; cases z
            · rw [gR_ne (by omega), gN_eq] at z; cases z
          exact g1.wgon (v := gD E 0 1 + nI (rs E (8 + k))) hn hF
        · have c83 : isInB s (((q.1 : Nat) : Int) + (blw s (kC s k 2) h 0)) (((q.2 : Nat) : Int) + (blw s (kC s k 2) h 1)) = true := bI_ne hq
          clear hq
          refine hAt 1 _ _ _ _ _ _ ?_
          rw [if_pos c83] at hps
          have hz := isInB_s.mp c83
          refine ihN _ _ ?_ ht2 c9
          rw [mv1, if_pos c18, go1, if_neg (fun z => by rw [hps] at z; cases z.2)]
          refine hx.cl (k := k) ⟨fun a j h3 ha => ?_, hx.1.2.1, hx.1.2.2⟩ (fun t i q => rfl) (fun t i => rfl) (fun a j q1 q2 q3 => ?_) (fun i hi hik ti => gs i hik) ⟨?_, fun _ q' hq' => ?_⟩ (fun _ => ?_) (fun _ => ?_) (fun _ o ho => ?_) hn hF (by omega)
          · rw [rI_wI, if_neg (by omega), rI_wI, if_neg (by omega)]; exact hx.1.1 a j h3 ha
          · rw [rI_wI, if_neg (by omega), rI_wI, if_neg (by omega)]
          · rw [rI_wI, if_neg (by omega), rI_wI, if_neg (by omega)]; exact (hx.2.1 k c9).1
          · rw [gk1, hps] at hq'
            cases hq'
            refine ⟨?_, ?_⟩
            · rw [rI_wI, if_neg (by omega), rI_wI, if_pos ⟨rfl, rfl⟩]; exact zN rfl (by omega)
            · rw [rI_wI, if_pos ⟨rfl, rfl⟩]; exact zN rfl (by omega)
          · rw [rI_wI, if_neg (by omega), rI_wI, if_neg (by omega)]; exact hx.own k c9 c18
          · rw [rI_wI, if_neg (by omega), rI_wI, if_neg (by omega)]; exact hx.min k c9 c18
          · rw [rI_wI, if_neg (by omega), rI_wI, if_neg (by omega)]; exact hx.par k o c9 c18 ho
  refine hAt 2 _ _ _ _ _ _ ?_
  exact loop 0 (by omega) σ _ (hc.congrF (fun i _ _ => by unfold goF; rw [if_neg (by omega)])) rfl
end DM2
