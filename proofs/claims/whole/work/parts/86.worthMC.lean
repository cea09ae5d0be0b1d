/-! WORTH on the model's side -/
theorem unS_le (sn : Nat → Bool) : ∀ m, unS sn m ≤ m
  | 0 => Nat.le_refl _
  | m + 1 => by
    have := unS_le sn m
    unfold unS at this ⊢
    rw [sumN]; split <;> omega
/-- what the model holds while it serves: a f to field f -/
def woH (s : Sk) (q : Nat) (g : Nat → Nat → Nat) (lf a : Nat → Nat) (τ : Mem) : Prop :=
  wM (kT s 2) (kT s 3) (rmS s) g lf τ ∧ (∀ k f, k < kT s 2 → f < kT s 3 → g k f ≤ rmS s k f) ∧ (∀ k, k < kT s 2 → sumN (g k) (kT s 3) + lf k = kC s k 4) ∧ (∀ k, q / 2 ^ k % 2 ≠ 1 → ∀ f, g k f = 0) ∧ ∀ f, f < kT s 3 → sumN (fun k => g k f) (kT s 2) = a f
theorem woH.flo {s : Sk} {q : Nat} {g : Nat → Nat → Nat} {lf a : Nat → Nat} {τ : Mem} (h : woH s q g lf a τ) : flo (kT s 2) (kT s 3) (rmS s) (QS s q) g a :=
  ⟨h.2.1, fun k hk => by
    unfold QS
    by_cases e : q / 2 ^ k % 2 = 1
    · rw [if_pos e]; have := h.2.2.1 k hk; omega
    · rw [if_neg e, sumN_zero _ (fun f _ => h.2.2.2.1 k e f)]; exact Nat.le_refl _, fun f hf => (h.2.2.2.2 f hf).symm⟩
theorem woH.cert {s : Sk} {q f0 : Nat} {g : Nat → Nat → Nat} {lf a : Nat → Nat} {sn : Nat → Bool} {τ : Mem} (h : woH s q g lf a τ) (hF : gvF (kT s 2) (kT s 3) q (rmS s) g lf (fun _ => false) f0 sn) : ∃ R C, R f0 = true ∧ (∀ f, f < kT s 3 → R f = true → f = f0 ∨ 0 < a f) ∧ cert (kT s 2) (kT s 3) (rmS s) (QS s q) g R C := by
  refine ⟨fun f => decide (sn f = true ∧ (f = f0 ∨ 0 < a f)), fun k => @decide (q / 2 ^ k % 2 ≠ 1 ∨ ∃ x, x < kT s 3 ∧ sn x = true ∧ g k x < rmS s k x) (Classical.propDecidable _), decide_eq_true ⟨hF.2.1, Or.inl rfl⟩, fun f _ z => (of_decide_eq_true z).2, fun k hk z => ?_, fun k hk z f hf y => ?_⟩
  · have z2 : q / 2 ^ k % 2 ≠ 1 ∨ ∃ x, x < kT s 3 ∧ sn x = true ∧ g k x < rmS s k x := @of_decide_eq_true _ (Classical.propDecidable _) z
    by_cases e : q / 2 ^ k % 2 = 1
    · rcases z2 with u | ⟨x, x1, x2, x3⟩
      · exact absurd e u
      · have c := hF.2.2 x x1 x2 rfl k hk e x3
        have r := h.2.2.1 k hk
        refine ⟨by unfold QS; rw [if_pos e]; omega, fun f hf y => decide_eq_true ⟨c.2 f hf y, Or.inr ?_⟩⟩
        rw [← h.2.2.2.2 f hf]
        exact Nat.lt_of_lt_of_le y (sumN_mem (f := fun k => g k f) (kT s 2) k hk)
    · refine ⟨by unfold QS; rw [if_neg e]; exact sumN_zero _ (fun f _ => h.2.2.2.1 k e f), fun f hf y => ?_⟩
      rw [h.2.2.2.1 k e f] at y; omega
  · have z2 : ¬ (q / 2 ^ k % 2 ≠ 1 ∨ ∃ x, x < kT s 3 ∧ sn x = true ∧ g k x < rmS s k x) := fun u => z (@decide_eq_true _ (Classical.propDecidable _) u)
    have y2 := of_decide_eq_true y
    have b := h.2.1 k f hk hf
    by_cases u : g k f < rmS s k f
    · exact absurd (Or.inr ⟨f, hf, y2.1, u⟩) z2
    · omega
section WN
variable {w : Wd} {d : Nat} {σ : Mem} {s : Sk} {P : Option AV → Mem → Prop} {X : Nat → Mem → Prop}
theorem s_laysCan (hS : skM σ s) (hv : VS s) (hP : ∀ τ, (∀ a j, a ≠ 336 → a ≠ 337 → ¬ (339 ≤ a ∧ a < 347) → rI τ a j = rI σ a j) → τ.2 = σ.2 → (∀ k f, k < kT s 2 → f < kT s 3 → rI τ (338 + 1 + k) f = nI (rmS s k f)) → P none τ) : Ret w true (d + 4) 0 0 m_Mo_laysCan [.ref 108] σ P X := by
  have hn := hv.2.2.1
  have hF := hv.2.2.2.1
  have s1 := hv.1
  have s2 := hv.2.1
  have bF := hv.2.2.2.2.2.2.2.2.2.2.2.2.2.1
  refine meth_ok k_Mo_laysCan q_Mo_laysCan rfl fun At hAt => ?_
  have loop : ∀ k, k ≤ kT s 2 → ∀ τ z2 z3, (∀ a j, a ≠ 336 → a ≠ 337 → ¬ (339 ≤ a ∧ a < 347) → rI τ a j = rI σ a j) → τ.2 = σ.2 → (∀ i f, i < k → f < kT s 3 → rI τ (338 + 1 + i) f = nI (rmS s i f)) → At 2 [.ref 108, .int (nI k), z2, z3] [] τ 0 0 := by
    refine upto fun k hk ih => ?_
    intro τ z2 z3 t1 t2 t3
    have hS1 : skM τ s := hS.scr2 hv (fun a j h1 h2 => t1 a j (by omega) (by omega) (by omega))
    have mid : k < kT s 2 → ∀ τ0, alS s k 50 τ τ0 → ∀ f, f ≤ kT s 3 → ∀ τ2 z3, (∀ a j, ¬ (a = 338 + 1 + k) → rI τ2 a j = rI τ0 a j) → τ2.2 = τ0.2 → (∀ x, x < f → rI τ2 (338 + 1 + k) x = nI (rmS s k x)) → At 19 [.ref 108, .int (nI k), .int (nI f), z3] [] τ2 0 0 := by
      intro hk2 τ0 hal
      refine upto fun f hf ih2 => ?_
      intro τ2 z3 g1 g2 g3
      have g0 : ∀ a j, a ≠ 336 → a ≠ 337 → ¬ (a = 338 + 1 + k) → rI τ2 a j = rI τ a j := fun a j u1 u2 u3 => (g1 a j u3).trans (hal.1 a j u1 u2)
      have hS2 : skM τ2 s := hS1.scr2 hv (fun a j h1 h2 => g0 a j (by omega) (by omega) (by omega))
      have bf := bF f
      have inn : f < kT s 3 → ∀ h, h ≤ 50 → ∀ τ3, (∀ a j, ¬ (a = 338 + 1 + k) → rI τ3 a j = rI τ0 a j) → τ3.2 = τ0.2 → (∀ x, x < f → rI τ3 (338 + 1 + k) x = nI (rmS s k x)) → rI τ3 (338 + 1 + k) f = nI (kT s 6 * cntH s k (kF s f 0) (kF s f 1) h) → At 40 [.ref 108, .int (nI k), .int (nI f), .int (nI h)] [] τ3 0 0 := by
        intro hf2
        have bf := bf hf2
        refine upto fun h hh ih3 => ?_
        intro τ3 g1 g2 g3 g4
        have g0 : ∀ a j, a ≠ 336 → a ≠ 337 → ¬ (a = 338 + 1 + k) → rI τ3 a j = rI τ a j := fun a j u1 u2 u3 => (g1 a j u3).trans (hal.1 a j u1 u2)
        have hS3 : skM τ3 s := hS1.scr2 hv (fun a j h1 h2 => g0 a j (by omega) (by omega) (by omega))
        have a1 := g1 336 h (by omega)
        have a2 := g1 337 h (by omega)
        have hal' : h < 50 → ((rI τ3 336 h = nI (kF s f 0) ∧ rI τ3 337 h = nI (kF s f 1)) ↔ ps s k h = some (kF s f 0, kF s f 1)) := fun q => by
          rw [a1, a2]; exact alR_eq hv (by omega) (hal.2.2 h q) (by omega) (by omega)
        have stp : ∀ x, h < 50 → x = kT s 6 * cntH s k (kF s f 0) (kF s f 1) (h + 1) → At 40 [.ref 108, .int (nI k), .int (nI f), .int (nI (h + 1))] [] (wI τ3 (338 + 1 + k) f (nI x)) 0 0 := fun x hh2 e => by
          refine ih3 hh2 _ (fun a j u => ?_) g2 (fun y hy => ?_) ?_
          · rw [rI_wI, if_neg (by omega)]; exact g1 a j u
          · rw [rI_wI, if_neg (by omega)]; exact g3 y hy
          · rw [rI_wI, if_pos ⟨rfl, rfl⟩, e]
        refine hAt 3 _ _ _ _ _ _ ?_
        refine And.intro (fun hq => ?_) (fun hq => ?_)
        · have c43 : 50 ≤ h := (leN (a := 50) (b := h) rfl rfl (by omega) (by omega)).mp hq
          clear hq
          refine hAt 2 _ _ _ _ _ _ ?_
          refine Eq.mpr (congrArg (fun xq : Int32 => At 19 [.ref (108), .int (nI k), .int xq, .int (nI h)] [] τ3 0 0) (show nI f + nI 1 = nI (f + 1) from (adE rfl rfl))) ?_
          have e : h = 50 := by omega
          subst e
          refine ih2 hf2 τ3 _ g1 g2 (fun x hx => ?_)
          by_cases e : x = f
          · subst e; exact g4
          · exact g3 x (by omega)
        · have c43 : h < 50 := Nat.lt_of_not_le (fun zq => hq ((leN (a := 50) (b := h) rfl rfl (by omega) (by omega)).mpr zq))
          clear hq
          refine hAt 4 _ _ _ _ _ _ ?_
          refine And.intro (mx_r (q := 338) (n := 8) (k := 12) rfl rfl (show k < 8 by omega)) (And.intro (Or.inl rfl) ?_)
          refine Eq.mpr (congrArg (fun xq : Nat => At 52 [.ref (108), .int (nI k), .int (nI f), .int (nI h)] [.ref xq] τ3 0 0) (rwE rfl (by omega))) ?_
          refine hAt 3 _ _ _ _ _ _ ?_
          refine And.intro (mx_e (q := 338) (n := 8) (k := 12) (j := k) (i := f) rfl (by omega) (by omega) rfl) ?_
          refine Eq.mpr (congrArg (fun xq : Int32 => At 55 [.ref (108), .int (nI k), .int (nI f), .int (nI h)] [.int xq, .int (nI f), .ref (338 + 1 + k)] τ3 0 0) (show rI τ3 (338 + 1 + k) (nI f).toNatClampNeg = nI (kT s 6 * cntH s k (kF s f 0) (kF s f 1) h) from (ldE rfl (by omega) g4))) ?_
          refine hAt 4 _ _ _ _ _ _ ?_
          refine And.intro (aOKx (n := 50) (j := h) rfl (by decide) rfl rfl (by omega) (by omega)) ?_
          refine Eq.mpr (congrArg (fun xq : Int32 => At 61 [.ref (108), .int (nI k), .int (nI f), .int (nI h)] [.int xq, .int (nI (kT s 6 * cntH s k (kF s f 0) (kF s f 1) h)), .int (nI f), .ref (338 + 1 + k)] τ3 0 0) (show rI τ3 336 (nI h).toNatClampNeg = rI τ3 336 h from (ldE rfl (by omega) rfl))) ?_
          refine hAt 4 _ _ _ _ _ _ ?_
          refine And.intro (mx_r (q := 163) (n := 12) (k := 6) rfl rfl (show f < 12 by omega)) (And.intro (Or.inl rfl) ?_)
          refine Eq.mpr (congrArg (fun xq : Nat => At 67 [.ref (108), .int (nI k), .int (nI f), .int (nI h)] [.ref xq, .int (rI τ3 336 h), .int (nI (kT s 6 * cntH s k (kF s f 0) (kF s f 1) h)), .int (nI f), .ref (338 + 1 + k)] τ3 0 0) (rwE rfl (by omega))) ?_
          refine hAt 2 _ _ _ _ _ _ ?_
          refine And.intro (mx_e (q := 163) (n := 12) (k := 6) (j := f) (i := 0) rfl (by omega) (by omega) rfl) ?_
          refine Eq.mpr (congrArg (fun xq : Int32 => At 69 [.ref (108), .int (nI k), .int (nI f), .int (nI h)] [.int xq, .int (rI τ3 336 h), .int (nI (kT s 6 * cntH s k (kF s f 0) (kF s f 1) h)), .int (nI f), .ref (338 + 1 + k)] τ3 0 0) (show rI τ3 (163 + 1 + f) (nI 0).toNatClampNeg = nI (kF s f 0) from (ldE rfl (by omega) (hS3.2.2.2.1 f (by omega) 0 (by omega))))) ?_
          refine hAt 1 _ _ _ _ _ _ ?_
          refine And.intro (fun hq => ?_) (fun hq => ?_)
          · have c69 : ¬ rI τ3 336 h = nI (kF s f 0) := hq
            clear hq
            refine hAt 3 _ _ _ _ _ _ ?_
            refine And.intro (mx_e (q := 338) (n := 8) (k := 12) (j := k) (i := f) rfl (by omega) (by omega) rfl) ?_
            refine Eq.mpr (congrArg (fun xq : Mem => At 102 [.ref (108), .int (nI k), .int (nI f), .int (nI h)] [] xq 0 0) (wrE (σ := τ3) (q := 338 + 1 + k) (p := rfl) (hj := by omega) (h := (adE rfl rfl)))) ?_
            refine hAt 2 _ _ _ _ _ _ ?_
            refine Eq.mpr (congrArg (fun xq : Int32 => At 40 [.ref (108), .int (nI k), .int (nI f), .int xq] [] (wI τ3 (338 + 1 + k) f (nI (kT s 6 * cntH s k (kF s f 0) (kF s f 1) h + 0))) 0 0) (show nI h + nI 1 = nI (h + 1) from (adE rfl rfl))) ?_
            exact stp _ c43 (by rw [cntH, if_neg (fun z => c69 ((hal' c43).mpr z).1), Nat.add_zero, Nat.add_zero])
          · have c69 : rI τ3 336 h = nI (kF s f 0) := hq
            clear hq
            refine hAt 4 _ _ _ _ _ _ ?_
            refine And.intro (aOKx (n := 50) (j := h) rfl (by decide) rfl rfl (by omega) (by omega)) ?_
            refine Eq.mpr (congrArg (fun xq : Int32 => At 78 [.ref (108), .int (nI k), .int (nI f), .int (nI h)] [.int xq, .int (nI (kT s 6 * cntH s k (kF s f 0) (kF s f 1) h)), .int (nI f), .ref (338 + 1 + k)] τ3 0 0) (show rI τ3 337 (nI h).toNatClampNeg = rI τ3 337 h from (ldE rfl (by omega) rfl))) ?_
            refine hAt 4 _ _ _ _ _ _ ?_
            refine And.intro (mx_r (q := 163) (n := 12) (k := 6) rfl rfl (show f < 12 by omega)) (And.intro (Or.inl rfl) ?_)
            refine Eq.mpr (congrArg (fun xq : Nat => At 84 [.ref (108), .int (nI k), .int (nI f), .int (nI h)] [.ref xq, .int (rI τ3 337 h), .int (nI (kT s 6 * cntH s k (kF s f 0) (kF s f 1) h)), .int (nI f), .ref (338 + 1 + k)] τ3 0 0) (rwE rfl (by omega))) ?_
            refine hAt 2 _ _ _ _ _ _ ?_
            refine And.intro (mx_e (q := 163) (n := 12) (k := 6) (j := f) (i := 1) rfl (by omega) (by omega) rfl) ?_
            refine Eq.mpr (congrArg (fun xq : Int32 => At 86 [.ref (108), .int (nI k), .int (nI f), .int (nI h)] [.int xq, .int (rI τ3 337 h), .int (nI (kT s 6 * cntH s k (kF s f 0) (kF s f 1) h)), .int (nI f), .ref (338 + 1 + k)] τ3 0 0) (show rI τ3 (163 + 1 + f) (nI 1).toNatClampNeg = nI (kF s f 1) from (ldE rfl (by omega) (hS3.2.2.2.1 f (by omega) 1 (by omega))))) ?_
            refine hAt 1 _ _ _ _ _ _ ?_
            refine And.intro (fun hq => ?_) (fun hq => ?_)
            · have c86 : ¬ rI τ3 337 h = nI (kF s f 1) := hq
              clear hq
              refine hAt 3 _ _ _ _ _ _ ?_
              refine And.intro (mx_e (q := 338) (n := 8) (k := 12) (j := k) (i := f) rfl (by omega) (by omega) rfl) ?_
              refine Eq.mpr (congrArg (fun xq : Mem => At 102 [.ref (108), .int (nI k), .int (nI f), .int (nI h)] [] xq 0 0) (wrE (σ := τ3) (q := 338 + 1 + k) (p := rfl) (hj := by omega) (h := (adE rfl rfl)))) ?_
              refine hAt 2 _ _ _ _ _ _ ?_
              refine Eq.mpr (congrArg (fun xq : Int32 => At 40 [.ref (108), .int (nI k), .int (nI f), .int xq] [] (wI τ3 (338 + 1 + k) f (nI (kT s 6 * cntH s k (kF s f 0) (kF s f 1) h + 0))) 0 0) (show nI h + nI 1 = nI (h + 1) from (adE rfl rfl))) ?_
              exact stp _ c43 (by rw [cntH, if_neg (fun z => c86 ((hal' c43).mpr z).2), Nat.add_zero, Nat.add_zero])
            · have c86 : rI τ3 337 h = nI (kF s f 1) := hq
              clear hq
              refine hAt 4 _ _ _ _ _ _ ?_
              refine And.intro (aOKx (n := 11) (j := 6) rfl (by decide) rfl rfl (by omega) (by omega)) ?_
              refine Eq.mpr (congrArg (fun xq : Int32 => At 96 [.ref (108), .int (nI k), .int (nI f), .int (nI h)] [.int xq, .int (nI (kT s 6 * cntH s k (kF s f 0) (kF s f 1) h)), .int (nI f), .ref (338 + 1 + k)] τ3 0 0) (show rI τ3 111 (nI 6).toNatClampNeg = nI (kT s 6) from (ldE rfl (by omega) (hS3.1 6 (by omega))))) ?_
              refine hAt 3 _ _ _ _ _ _ ?_
              refine And.intro (mx_e (q := 338) (n := 8) (k := 12) (j := k) (i := f) rfl (by omega) (by omega) rfl) ?_
              refine Eq.mpr (congrArg (fun xq : Mem => At 102 [.ref (108), .int (nI k), .int (nI f), .int (nI h)] [] xq 0 0) (wrE (σ := τ3) (q := 338 + 1 + k) (p := rfl) (hj := by omega) (h := (adE rfl rfl)))) ?_
              refine hAt 2 _ _ _ _ _ _ ?_
              refine Eq.mpr (congrArg (fun xq : Int32 => At 40 [.ref (108), .int (nI k), .int (nI f), .int xq] [] (wI τ3 (338 + 1 + k) f (nI (kT s 6 * cntH s k (kF s f 0) (kF s f 1) h + (kT s 6)))) 0 0) (show nI h + nI 1 = nI (h + 1) from (adE rfl rfl))) ?_
              exact stp _ c43 (by rw [cntH, if_pos ((hal' c43).mp ⟨c69, c86⟩), Nat.mul_succ])
      refine hAt 5 _ _ _ _ _ _ ?_
      refine And.intro (aOKx (n := 11) (j := 3) rfl (by decide) rfl rfl (by omega) (by omega)) ?_
      refine Eq.mpr (congrArg (fun xq : Int32 => At 26 [.ref (108), .int (nI k), .int (nI f), z3] [.int xq, .int (nI f)] τ2 0 0) (show rI τ2 111 (nI 3).toNatClampNeg = nI (kT s 3) from (ldE rfl (by omega) (hS2.1 3 (by omega))))) ?_
      refine hAt 1 _ _ _ _ _ _ ?_
      refine And.intro (fun hq => ?_) (fun hq => ?_)
      · have c26 : kT s 3 ≤ f := (leN (a := kT s 3) (b := f) rfl rfl (by omega) (by omega)).mp hq
        clear hq
        refine hAt 2 _ _ _ _ _ _ ?_
        refine Eq.mpr (congrArg (fun xq : Int32 => At 2 [.ref (108), .int xq, .int (nI f), z3] [] τ2 0 0) (show nI k + nI 1 = nI (k + 1) from (adE rfl rfl))) ?_
        have e : f = kT s 3 := by omega
        subst e
        refine ih hk2 τ2 _ _ (fun a j u1 u2 u3 => ?_) (g2.trans (hal.2.1.trans t2)) (fun i x hi hx => ?_)
        · exact (g0 a j u1 u2 (by omega)).trans (t1 a j u1 u2 u3)
        · by_cases e : i = k
          · subst e; exact g3 x hx
          · exact (g0 _ x (by omega) (by omega) (by omega)).trans (t3 i x (by omega) hx)
      · have c26 : f < kT s 3 := Nat.lt_of_not_le (fun zq => hq ((leN (a := kT s 3) (b := f) rfl rfl (by omega) (by omega)).mpr zq))
        clear hq
        refine hAt 4 _ _ _ _ _ _ ?_
        refine And.intro (mx_r (q := 338) (n := 8) (k := 12) rfl rfl (show k < 8 by omega)) (And.intro (Or.inl rfl) ?_)
        refine Eq.mpr (congrArg (fun xq : Nat => At 35 [.ref (108), .int (nI k), .int (nI f), z3] [.ref xq] τ2 0 0) (rwE rfl (by omega))) ?_
        refine hAt 3 _ _ _ _ _ _ ?_
        refine And.intro (mx_e (q := 338) (n := 8) (k := 12) (j := k) (i := f) rfl (by omega) (by omega) rfl) ?_
        refine Eq.mpr (congrArg (fun xq : Mem => At 38 [.ref (108), .int (nI k), .int (nI f), z3] [] xq 0 0) (wrE (σ := τ2) (q := 338 + 1 + k) (p := rfl) (hj := by omega) (h := rfl))) ?_
        refine hAt 2 _ _ _ _ _ _ ?_
        refine inn c26 0 (Nat.zero_le _) _ (fun a j u => ?_) g2 (fun x hx => ?_) ?_
        · rw [rI_wI, if_neg (by omega)]; exact g1 a j u
        · rw [rI_wI, if_neg (by omega)]; exact g3 x hx
        · rw [rI_wI, if_pos ⟨rfl, rfl⟩]; rfl
    refine hAt 5 _ _ _ _ _ _ ?_
    refine And.intro (aOKx (n := 11) (j := 2) rfl (by decide) rfl rfl (by omega) (by omega)) ?_
    refine Eq.mpr (congrArg (fun xq : Int32 => At 9 [.ref (108), .int (nI k), z2, z3] [.int xq, .int (nI k)] τ 0 0) (show rI τ 111 (nI 2).toNatClampNeg = nI (kT s 2) from (ldE rfl (by omega) (hS1.1 2 (by omega))))) ?_
    refine hAt 1 _ _ _ _ _ _ ?_
    refine And.intro (fun hq => ?_) (fun hq => ?_)
    · have c9 : kT s 2 ≤ k := (leN (a := kT s 2) (b := k) rfl rfl (by omega) (by omega)).mp hq
      clear hq
      refine hAt 1 _ _ _ _ _ _ ?_
      have e : k = kT s 2 := by omega
      subst e
      exact hP τ t1 t2 t3
    · have c9 : k < kT s 2 := Nat.lt_of_not_le (fun zq => hq ((leN (a := kT s 2) (b := k) rfl rfl (by omega) (by omega)).mpr zq))
      clear hq
      refine hAt 5 _ _ _ _ _ _ ?_
      refine s_laysAlone hS1 hv (by omega) fun τ2 hal => ?_
      exact mid c9 τ2 hal 0 (Nat.zero_le _) τ2 _ (fun _ _ _ => rfl) rfl (fun x hx => absurd hx (Nat.not_lt_zero x))
  refine hAt 2 _ _ _ _ _ _ ?_
  exact loop 0 (Nat.zero_le _) σ _ _ (fun _ _ _ _ _ => rfl) rfl (fun i _ hi => absurd hi (Nat.not_lt_zero i))
theorem s_worthOf {q : Nat} (hS : skM σ s) (hv : VS s) (hq : q < 2 ^ 31) (h338 : ∀ k f, k < kT s 2 → f < kT s 3 → rI σ (338 + 1 + k) f = nI (rmS s k f)) (hP : ∀ τ, (∀ a j, ¬ (347 ≤ a ∧ a ≤ 357) → rI τ a j = rI σ a j) → τ.2 = σ.2 → (∃ a, isW s q 108 a) → P (some (.int (nI (woS s q)))) τ) : Ret w true (d + 14) 0 0 m_Mo_worthOf [.ref 108, .int (nI q)] σ P X := by
  have hn := hv.2.2.1
  have hF := hv.2.2.2.1
  have bF := hv.2.2.2.2.2.2.2.2.2.2.2.2.2.1
  have bC := hv.2.2.2.2.2.2.2.2.2.2.2.2.1
  have hi := kyS_inj hv
  refine meth_ok k_Mo_worthOf q_Mo_worthOf rfl fun At hAt => ?_
  have lp : ∀ m p, p + m = 9 → ∀ τ g lf a z4 z5 z6 z7, (∀ a j, ¬ (347 ≤ a ∧ a ≤ 357) → rI τ a j = rI σ a j) → τ.2 = σ.2 → woH s q g lf a τ → isW s q ((9 - p) * 12) a → At 67 [.ref 108, .int (nI q), .int (nI (sumN (fun f => prS s f * a f) (kT s 3))), .int (nI p), z4, z5, z6, z7] [] τ 0 0 := by
    intro m p hpm
    have hm9 : p ≤ 9 := by omega
    clear hpm
    revert hm9
    induction p with
    | zero =>
      intro _ τ g lf a z4 z5 z6 z7 t1 t2 hw hg
      refine hAt 2 _ _ _ _ _ _ ?_
      refine And.intro (fun _ => ?_) (fun hq => absurd hq (by decide))
      refine hAt 2 _ _ _ _ _ _ ?_
      have e := woV_eq (p := prS s) hi hg
      rw [e]
      exact hP τ t1 t2 ⟨a, hg⟩
    | succ p0 IH =>
      intro hp9
      obtain ⟨p, ep⟩ : ∃ p, p = p0 + 1 := ⟨_, rfl⟩
      rw [← ep] at hp9 ⊢
      have lfs : ∀ f, f ≤ kT s 3 → ∀ τ g lf a z5 z6 z7, (∀ a j, ¬ (347 ≤ a ∧ a ≤ 357) → rI τ a j = rI σ a j) → τ.2 = σ.2 → woH s q g lf a τ → isW s q ((9 - p) * 12 + f) a → At 74 [.ref 108, .int (nI q), .int (nI (sumN (fun f => prS s f * a f) (kT s 3))), .int (nI p), .int (nI f), z5, z6, z7] [] τ 0 0 := by
        refine upto fun f hf ih => ?_
        intro τ g lf a z5 z6 z7 t1 t2 hw hg
        have hS1 : skM τ s := hS.scr2 hv (fun a j h1 h2 => t1 a j (by omega))
        have bf := bF f
        obtain ⟨S0, eS0⟩ : ∃ S0, S0 = sumN (fun f => prS s f * a f) (kT s 3) := ⟨_, rfl⟩
        have kf : f < kT s 3 → kF s f 5 = p → kyS s f = (9 - p) * 12 + f := fun _ e => by unfold kyS; rw [e]
        have a0 : f < kT s 3 → kF s f 5 = p → a f = 0 := fun h e => hg.2.1 f h (Nat.le_of_eq (kf h e).symm)
        have skip : f < kT s 3 → kF s f 5 ≠ p → ∀ z5 z6 z7, At 74 [.ref 108, .int (nI q), .int (nI S0), .int (nI p), .int (nI (f + 1)), z5, z6, z7] [] τ 0 0 := fun h e z5 z6 z7 => by
          rw [eS0]
          have z : isW s q ((9 - p) * 12 + f + 1) a := isG_skip hg (fun x hx y => by
            have bx := bF x hx
            have bff := bF f h
            unfold kyS at y
            have : x = f := by omega
            subst this
            omega)
          exact ih h τ g lf a z5 z6 z7 t1 t2 hw z
        have at183 : f < kT s 3 → kF s f 5 = p → ∀ got τ g lf z5 z6 z7, (∀ a j, ¬ (347 ≤ a ∧ a ≤ 357) → rI τ a j = rI σ a j) → τ.2 = σ.2 → woH s q g lf (up1 a f got) τ → got ≤ kF s f 3 → (got = kF s f 3 ∨ ∃ R C, R f = true ∧ (∀ x, x < kT s 3 → R x = true → x = f ∨ 0 < up1 a f got x) ∧ cert (kT s 2) (kT s 3) (rmS s) (QS s q) g R C) → At 183 [.ref 108, .int (nI q), .int (nI (S0 + p * got)), .int (nI p), .int (nI f), z5, z6, z7] [] τ 0 0 := by
          intro h e got τ g lf z5 z6 z7 t1 t2 hw hgt hce
          have e9 : sumN (fun x => prS s x * up1 a f got x) (kT s 3) = S0 + p * got := by rw [prod_up h (a0 h e), ← eS0]; unfold prS; rw [e]
          refine hAt 2 _ _ _ _ _ _ ?_
          refine Eq.mpr (congrArg (fun xq : Int32 => At 74 [.ref (108), .int (nI q), .int (nI (S0 + p * got)), .int (nI p), .int xq, z5, z6, z7] [] τ 0 0) (show nI f + nI 1 = nI (f + 1) from (adE rfl rfl))) ?_
          rw [← e9]
          exact ih h τ g lf (up1 a f got) z5 z6 z7 t1 t2 hw (isG_serve hg h hi (kf h e) hw.flo (fun x _ hne => if_neg hne) (by rw [show up1 a f got f = got from if_pos rfl]; exact hgt) (by rw [show up1 a f got f = got from if_pos rfl]; exact hce))
        have done : f < kT s 3 → kF s f 5 = p → ∀ got st τ g lf z7, (∀ a j, ¬ (347 ≤ a ∧ a ≤ 357) → rI τ a j = rI σ a j) → τ.2 = σ.2 → woH s q g lf (up1 a f got) τ → got ≤ kF s f 3 → st ≤ 100 → (∃ R C, R f = true ∧ (∀ x, x < kT s 3 → R x = true → x = f ∨ 0 < up1 a f got x) ∧ cert (kT s 2) (kT s 3) (rmS s) (QS s q) g R C) → At 108 [.ref 108, .int (nI q), .int (nI (S0 + p * got)), .int (nI p), .int (nI f), .int (nI 0), .int (nI st), z7] [] τ 0 0 := by
          intro h e got st τ g lf z7 t1 t2 hw hgt hst hce
          have hS1 : skM τ s := hS.scr2 hv (fun a j h1 h2 => t1 a j (by omega))
          have bf := bf h
          refine hAt 5 _ _ _ _ _ _ ?_
          refine And.intro (mx_r (q := 163) (n := 12) (k := 6) rfl rfl (show f < 12 by omega)) (And.intro (Or.inl rfl) ?_)
          refine Eq.mpr (congrArg (fun xq : Nat => At 117 [.ref (108), .int (nI q), .int (nI (S0 + p * got)), .int (nI p), .int (nI f), .int (nI 0), .int (nI st), z7] [.ref xq, .int (nI st)] τ 0 0) (rwE rfl (by omega))) ?_
          refine hAt 2 _ _ _ _ _ _ ?_
          refine And.intro (mx_e (q := 163) (n := 12) (k := 6) (j := f) (i := 3) rfl (by omega) (by omega) rfl) ?_
          refine Eq.mpr (congrArg (fun xq : Int32 => At 119 [.ref (108), .int (nI q), .int (nI (S0 + p * got)), .int (nI p), .int (nI f), .int (nI 0), .int (nI st), z7] [.int xq, .int (nI st)] τ 0 0) (show rI τ (163 + 1 + f) (nI 3).toNatClampNeg = nI (kF s f 3) from (ldE rfl (by omega) (hS1.2.2.2.1 f (by omega) 3 (by omega))))) ?_
          refine hAt 1 _ _ _ _ _ _ ?_
          refine And.intro (fun hq => ?_) (fun hq => ?_)
          · have c119 : kF s f 3 ≤ st := (leN (a := kF s f 3) (b := st) rfl rfl (by omega) (by omega)).mp hq
            clear hq
            exact at183 h e got τ g lf _ _ _ t1 t2 hw hgt (Or.inr hce)
          · have c119 : st < kF s f 3 := Nat.lt_of_not_le (fun zq => hq ((leN (a := kF s f 3) (b := st) rfl rfl (by omega) (by omega)).mpr zq))
            clear hq
            refine hAt 2 _ _ _ _ _ _ ?_
            refine And.intro (fun _ => ?_) (fun hq => absurd hq (by decide))
            exact at183 h e got τ g lf _ _ _ t1 t2 hw hgt (Or.inr hce)
        have srv : f < kT s 3 → kF s f 5 = p → ∀ got, got ≤ kF s f 3 → ∀ τ g lf z7, (∀ a j, ¬ (347 ≤ a ∧ a ≤ 357) → rI τ a j = rI σ a j) → τ.2 = σ.2 → woH s q g lf (up1 a f got) τ → At 108 [.ref 108, .int (nI q), .int (nI (S0 + p * got)), .int (nI p), .int (nI f), .int (nI 1), .int (nI got), z7] [] τ 0 0 := by
          intro h e
          have bf := bf h
          refine upto fun got hgt ih2 => ?_
          intro τ g lf z7 t1 t2 hw
          have hS1 : skM τ s := hS.scr2 hv (fun a j h1 h2 => t1 a j (by omega))
          have yes : got < kF s f 3 → ∀ τ0, (∀ a j, ¬ (347 ≤ a ∧ a ≤ 357) → rI τ0 a j = rI σ a j) → τ0.2 = σ.2 → ∀ z7, ∀ τ2 g' lf' sn', (∀ a j, ¬ (347 ≤ a ∧ a ≤ 357) → rI τ2 a j = rI τ0 a j) → τ2.2 = τ0.2 → wM (kT s 2) (kT s 3) (rmS s) g' lf' τ2 → sM (kT s 3) sn' τ2 → gvT (kT s 2) (kT s 3) q (rmS s) g lf (fun _ => false) f g' lf' → At 162 [.ref 108, .int (nI q), .int (nI (S0 + p * got)), .int (nI p), .int (nI f), .int (nI 1), .int (nI got), .int z7] [.int (nI 1)] τ2 0 0 := by
            intro hlt τ0 s1 s2 z7 τ2 g' lf' sn' u1 u2 u3 _ hg2
            have hw2 : woH s q g' lf' (up1 a f (got + 1)) τ2 := ⟨u3, hg2.2.1, fun k hk => (hg2.2.2.1 k hk).trans (hw.2.2.1 k hk), fun k hk x => ((hg2.2.2.2.2.2.2.2 k hk).1 x).trans (hw.2.2.2.1 k hk x), fun x hx => by
              rw [hg2.2.2.2.1 x hx, hw.2.2.2.2 x hx]
              unfold up1
              by_cases y : x = f
              · rw [if_pos y, if_pos y, if_pos y]
              · rw [if_neg y, if_neg y, if_neg y, Nat.add_zero]⟩
            refine hAt 4 _ _ _ _ _ _ ?_
            refine And.intro (fun hq => absurd hq (by decide)) (fun _ => ?_)
            refine hAt 6 _ _ _ _ _ _ ?_
            refine Eq.mpr (congrArg (fun xq : Int32 => At 108 [.ref (108), .int (nI q), .int xq, .int (nI p), .int (nI f), .int (nI 1), .int (nI got + nI 1), .int (z7)] [] τ2 0 0) (show (nI (S0 + p * got)) + nI p = nI (S0 + p * got + p) from (adE rfl rfl))) ?_
            refine Eq.mpr (congrArg (fun xq : Int32 => At 108 [.ref (108), .int (nI q), .int (nI (S0 + p * got + p)), .int (nI p), .int (nI f), .int (nI 1), .int xq, .int (z7)] [] τ2 0 0) (show nI got + nI 1 = nI (got + 1) from (adE rfl rfl))) ?_
            have z := ih2 hlt τ2 g' lf' (.int z7) (fun a j h => (u1 a j h).trans (s1 a j h)) (u2.trans s2) hw2
            rw [Nat.mul_succ, ← Nat.add_assoc] at z
            exact z
          have no : got < kF s f 3 → ∀ τ0, (∀ a j, ¬ (347 ≤ a ∧ a ≤ 357) → rI τ0 a j = rI σ a j) → τ0.2 = σ.2 → woH s q g lf (up1 a f got) τ0 → ∀ z7, ∀ τ2 sn', (∀ a j, a ≠ 357 → rI τ2 a j = rI τ0 a j) → τ2.2 = τ0.2 → sM (kT s 3) sn' τ2 → gvF (kT s 2) (kT s 3) q (rmS s) g lf (fun _ => false) f sn' → At 162 [.ref 108, .int (nI q), .int (nI (S0 + p * got)), .int (nI p), .int (nI f), .int (nI 1), .int (nI got), .int z7] [.int (nI 0)] τ2 0 0 := by
            intro hlt τ0 s1 s2 hw0 z7 τ2 sn' u1 u2 _ hg2
            refine hAt 4 _ _ _ _ _ _ ?_
            refine And.intro (fun _ => ?_) (fun hq => absurd hq (by decide))
            refine hAt 5 _ _ _ _ _ _ ?_
            refine Eq.mpr (congrArg (fun xq : Int32 => At 108 [.ref (108), .int (nI q), .int xq, .int (nI p), .int (nI f), .int (nI 0), .int (nI got + nI 1), .int (z7)] [] τ2 0 0) (show (nI (S0 + p * got)) + nI 0 = nI (S0 + p * got + 0) from (adE rfl rfl))) ?_
            refine Eq.mpr (congrArg (fun xq : Int32 => At 108 [.ref (108), .int (nI q), .int (nI (S0 + p * got + 0)), .int (nI p), .int (nI f), .int (nI 0), .int xq, .int (z7)] [] τ2 0 0) (show nI got + nI 1 = nI (got + 1) from (adE rfl rfl))) ?_
            exact done h e got (got + 1) τ2 g lf (.int z7) (fun a j h => (u1 a j (by omega)).trans (s1 a j h)) (u2.trans s2) ⟨hw0.1.frame hn (fun a j h1 h2 => u1 a j (by omega)), hw0.2⟩ hgt (by omega) (hw.cert hg2)
          have clr : got < kF s f 3 → ∀ i, i ≤ kT s 3 → ∀ τ2, (∀ a j, a ≠ 357 → rI τ2 a j = rI τ a j) → τ2.2 = τ.2 → (∀ x, x < i → rI τ2 357 x = bI false) → At 130 [.ref 108, .int (nI q), .int (nI (S0 + p * got)), .int (nI p), .int (nI f), .int (nI 1), .int (nI got), .int (nI i)] [] τ2 0 0 := by
            intro hlt
            refine upto fun i hi2 ih3 => ?_
            intro τ2 g1 g2 g3
            have hS2 : skM τ2 s := hS1.scr2 hv (fun a j h1 h2 => g1 a j (by omega))
            have tt : ∀ a j, ¬ (347 ≤ a ∧ a ≤ 357) → rI τ2 a j = rI σ a j := fun a j u => (g1 a j (by omega)).trans (t1 a j u)
            have hw0 : woH s q g lf (up1 a f got) τ2 := ⟨hw.1.frame hn (fun a j h1 h2 => g1 a j (by omega)), hw.2⟩
            refine hAt 5 _ _ _ _ _ _ ?_
            refine And.intro (aOKx (n := 11) (j := 3) rfl (by decide) rfl rfl (by omega) (by omega)) ?_
            refine Eq.mpr (congrArg (fun xq : Int32 => At 138 [.ref (108), .int (nI q), .int (nI (S0 + p * got)), .int (nI p), .int (nI f), .int (nI 1), .int (nI got), .int (nI i)] [.int xq, .int (nI i)] τ2 0 0) (show rI τ2 111 (nI 3).toNatClampNeg = nI (kT s 3) from (ldE rfl (by omega) (hS2.1 3 (by omega))))) ?_
            refine hAt 1 _ _ _ _ _ _ ?_
            refine And.intro (fun hq => ?_) (fun hq => ?_)
            · have c138 : kT s 3 ≤ i := (leN (a := kT s 3) (b := i) rfl rfl (by omega) (by omega)).mp hq
              clear hq
              refine hAt 3 _ _ _ _ _ _ ?_
              refine hAt 1 _ _ _ _ _ _ ?_
              exact s_gives (d := d) hS hv hq (fun k f _ _ => rmS_le hv k f) 12 (fun a j u => tt a j (by omega)) (Nat.le_trans (unS_le _ _) hF) h hw0.1 (fun x hx => g3 x (by omega)) hw.2.1 (fun k hk => by have := hw.2.2.1 k hk; have := bC k hk; omega) (yes hlt τ2 tt (g2.trans t2) _) (no hlt τ2 tt (g2.trans t2) hw0 _)
            · have c138 : i < kT s 3 := Nat.lt_of_not_le (fun zq => hq ((leN (a := kT s 3) (b := i) rfl rfl (by omega) (by omega)).mpr zq))
              clear hq
              refine hAt 5 _ _ _ _ _ _ ?_
              refine And.intro (aOKx (n := 12) (j := i) rfl (by decide) rfl rfl (by omega) (by omega)) ?_
              refine Eq.mpr (congrArg (fun xq : Mem => At 149 [.ref (108), .int (nI q), .int (nI (S0 + p * got)), .int (nI p), .int (nI f), .int (nI 1), .int (nI got), .int (nI i)] [] xq 0 0) (wrB (σ := τ2) (q := 357) (p := rfl) (hj := by omega) (b := false))) ?_
              refine hAt 2 _ _ _ _ _ _ ?_
              refine Eq.mpr (congrArg (fun xq : Int32 => At 130 [.ref (108), .int (nI q), .int (nI (S0 + p * got)), .int (nI p), .int (nI f), .int (nI 1), .int (nI got), .int xq] [] (wI τ2 357 i (bI false)) 0 0) (show nI i + nI 1 = nI (i + 1) from (adE rfl rfl))) ?_
              refine ih3 c138 _ (fun a j u => ?_) g2 (fun x hx => ?_)
              · rw [rI_wI, if_neg (by omega)]; exact g1 a j u
              · rw [rI_wI]
                by_cases y : x = i
                · rw [if_pos ⟨rfl, y⟩]
                · rw [if_neg (by omega)]; exact g3 x (by omega)
          refine hAt 5 _ _ _ _ _ _ ?_
          refine And.intro (mx_r (q := 163) (n := 12) (k := 6) rfl rfl (show f < 12 by omega)) (And.intro (Or.inl rfl) ?_)
          refine Eq.mpr (congrArg (fun xq : Nat => At 117 [.ref (108), .int (nI q), .int (nI (S0 + p * got)), .int (nI p), .int (nI f), .int (nI 1), .int (nI got), z7] [.ref xq, .int (nI got)] τ 0 0) (rwE rfl (by omega))) ?_
          refine hAt 2 _ _ _ _ _ _ ?_
          refine And.intro (mx_e (q := 163) (n := 12) (k := 6) (j := f) (i := 3) rfl (by omega) (by omega) rfl) ?_
          refine Eq.mpr (congrArg (fun xq : Int32 => At 119 [.ref (108), .int (nI q), .int (nI (S0 + p * got)), .int (nI p), .int (nI f), .int (nI 1), .int (nI got), z7] [.int xq, .int (nI got)] τ 0 0) (show rI τ (163 + 1 + f) (nI 3).toNatClampNeg = nI (kF s f 3) from (ldE rfl (by omega) (hS1.2.2.2.1 f (by omega) 3 (by omega))))) ?_
          refine hAt 1 _ _ _ _ _ _ ?_
          refine And.intro (fun hq => ?_) (fun hq => ?_)
          · have c119 : kF s f 3 ≤ got := (leN (a := kF s f 3) (b := got) rfl rfl (by omega) (by omega)).mp hq
            clear hq
            exact at183 h e got τ g lf _ _ _ t1 t2 hw hgt (Or.inl (by omega))
          · have c119 : got < kF s f 3 := Nat.lt_of_not_le (fun zq => hq ((leN (a := kF s f 3) (b := got) rfl rfl (by omega) (by omega)).mpr zq))
            clear hq
            refine hAt 2 _ _ _ _ _ _ ?_
            refine And.intro (fun hq => absurd hq (by decide)) (fun _ => ?_)
            refine hAt 2 _ _ _ _ _ _ ?_
            exact clr c119 0 (Nat.zero_le _) τ (fun _ _ _ => rfl) rfl (fun x hx => absurd hx (Nat.not_lt_zero x))
        have fal : f < kT s 3 → kF s f 5 ≠ p → ∀ z7, At 108 [.ref 108, .int (nI q), .int (nI S0), .int (nI p), .int (nI f), .int (nI 0), .int (nI 0), z7] [] τ 0 0 := by
          intro h e z7
          have bf := bf h
          refine hAt 5 _ _ _ _ _ _ ?_
          refine And.intro (mx_r (q := 163) (n := 12) (k := 6) rfl rfl (show f < 12 by omega)) (And.intro (Or.inl rfl) ?_)
          refine Eq.mpr (congrArg (fun xq : Nat => At 117 [.ref (108), .int (nI q), .int (nI S0), .int (nI p), .int (nI f), .int (nI 0), .int (nI 0), z7] [.ref xq, .int (nI 0)] τ 0 0) (rwE rfl (by omega))) ?_
          refine hAt 2 _ _ _ _ _ _ ?_
          refine And.intro (mx_e (q := 163) (n := 12) (k := 6) (j := f) (i := 3) rfl (by omega) (by omega) rfl) ?_
          refine Eq.mpr (congrArg (fun xq : Int32 => At 119 [.ref (108), .int (nI q), .int (nI S0), .int (nI p), .int (nI f), .int (nI 0), .int (nI 0), z7] [.int xq, .int (nI 0)] τ 0 0) (show rI τ (163 + 1 + f) (nI 3).toNatClampNeg = nI (kF s f 3) from (ldE rfl (by omega) (hS1.2.2.2.1 f (by omega) 3 (by omega))))) ?_
          refine hAt 1 _ _ _ _ _ _ ?_
          refine And.intro (fun hq => ?_) (fun hq => ?_)
          · have c119 : kF s f 3 ≤ 0 := (leN (a := kF s f 3) (b := 0) rfl rfl (by omega) (by omega)).mp hq
            clear hq
            refine hAt 2 _ _ _ _ _ _ ?_
            refine Eq.mpr (congrArg (fun xq : Int32 => At 74 [.ref (108), .int (nI q), .int (nI S0), .int (nI p), .int xq, .int (nI 0), .int (nI 0), z7] [] τ 0 0) (show nI f + nI 1 = nI (f + 1) from (adE rfl rfl))) ?_
            exact skip h e _ _ _
          · have c119 : 0 < kF s f 3 := Nat.lt_of_not_le (fun zq => hq ((leN (a := kF s f 3) (b := 0) rfl rfl (by omega) (by omega)).mpr zq))
            clear hq
            refine hAt 2 _ _ _ _ _ _ ?_
            refine And.intro (fun _ => ?_) (fun hq => absurd hq (by decide))
            refine hAt 2 _ _ _ _ _ _ ?_
            refine Eq.mpr (congrArg (fun xq : Int32 => At 74 [.ref (108), .int (nI q), .int (nI S0), .int (nI p), .int xq, .int (nI 0), .int (nI 0), z7] [] τ 0 0) (show nI f + nI 1 = nI (f + 1) from (adE rfl rfl))) ?_
            exact skip h e _ _ _
        rw [← eS0]
        refine hAt 5 _ _ _ _ _ _ ?_
        refine And.intro (aOKx (n := 11) (j := 3) rfl (by decide) rfl rfl (by omega) (by omega)) ?_
        refine Eq.mpr (congrArg (fun xq : Int32 => At 82 [.ref (108), .int (nI q), .int (nI S0), .int (nI p), .int (nI f), z5, z6, z7] [.int xq, .int (nI f)] τ 0 0) (show rI τ 111 (nI 3).toNatClampNeg = nI (kT s 3) from (ldE rfl (by omega) (hS1.1 3 (by omega))))) ?_
        refine hAt 1 _ _ _ _ _ _ ?_
        refine And.intro (fun hq => ?_) (fun hq => ?_)
        · have c82 : kT s 3 ≤ f := (leN (a := kT s 3) (b := f) rfl rfl (by omega) (by omega)).mp hq
          clear hq
          refine hAt 2 _ _ _ _ _ _ ?_
          refine Eq.mpr (congrArg (fun xq : Int32 => At 67 [.ref (108), .int (nI q), .int (nI S0), .int xq, .int (nI f), z5, z6, z7] [] τ 0 0) (show nI p - nI 1 = nI (p - 1) from (sbE rfl rfl (by omega)))) ?_
          have e : f = kT s 3 := by omega
          have z := isG_to hg (12 - f) (fun x hx y => by have := bF x hx; unfold kyS at y ⊢; omega)
          rw [show (9 - p) * 12 + f + (12 - f) = (9 - p0) * 12 by omega] at z
          have y := IH (by omega) τ g lf a (.int (nI f)) z5 z6 z7 t1 t2 hw z
          rw [show p0 = p - 1 by omega, ← eS0] at y
          exact y
        · have c82 : f < kT s 3 := Nat.lt_of_not_le (fun zq => hq ((leN (a := kT s 3) (b := f) rfl rfl (by omega) (by omega)).mpr zq))
          clear hq
          have bf := bf c82
          refine hAt 4 _ _ _ _ _ _ ?_
          refine And.intro (mx_r (q := 163) (n := 12) (k := 6) rfl rfl (show f < 12 by omega)) (And.intro (Or.inl rfl) ?_)
          refine Eq.mpr (congrArg (fun xq : Nat => At 92 [.ref (108), .int (nI q), .int (nI S0), .int (nI p), .int (nI f), z5, z6, z7] [.ref xq] τ 0 0) (rwE rfl (by omega))) ?_
          refine hAt 2 _ _ _ _ _ _ ?_
          refine And.intro (mx_e (q := 163) (n := 12) (k := 6) (j := f) (i := 5) rfl (by omega) (by omega) rfl) ?_
          refine Eq.mpr (congrArg (fun xq : Int32 => At 94 [.ref (108), .int (nI q), .int (nI S0), .int (nI p), .int (nI f), z5, z6, z7] [.int xq] τ 0 0) (show rI τ (163 + 1 + f) (nI 5).toNatClampNeg = nI (kF s f 5) from (ldE rfl (by omega) (hS1.2.2.2.1 f (by omega) 5 (by omega))))) ?_
          refine hAt 2 _ _ _ _ _ _ ?_
          refine And.intro (fun hq => ?_) (fun hq => ?_)
          · have c95 : ¬ kF s f 5 = p := fun zq => hq ((eqN (a := kF s f 5) (b := p) rfl rfl (by omega) (by omega)).mpr zq)
            clear hq
            refine hAt 4 _ _ _ _ _ _ ?_
            exact fal c82 c95 _
          · have c95 : kF s f 5 = p := (eqN (a := kF s f 5) (b := p) rfl rfl (by omega) (by omega)).mp hq
            clear hq
            refine hAt 5 _ _ _ _ _ _ ?_
            have z := srv c82 c95 0 (Nat.zero_le _) τ g lf z7 t1 t2 ⟨hw.1, hw.2.1, hw.2.2.1, hw.2.2.2.1, fun x hx => by
              rw [hw.2.2.2.2 x hx]; unfold up1
              by_cases y : x = f
              · rw [if_pos y, y, a0 c82 c95]
              · rw [if_neg y]⟩
            exact z
      intro τ g lf a z4 z5 z6 z7 t1 t2 hw hg
      refine hAt 2 _ _ _ _ _ _ ?_
      refine And.intro (fun hq => ?_) (fun hq => ?_)
      · have c68 : p ≤ 0 := (leN (a := p) (b := 0) rfl rfl (by omega) (by omega)).mp hq
        clear hq
        refine hAt 2 _ _ _ _ _ _ ?_
        exact absurd c68 (by omega)
      · have c68 : 0 < p := Nat.lt_of_not_le (fun zq => hq ((leN (a := p) (b := 0) rfl rfl (by omega) (by omega)).mpr zq))
        clear hq
        refine hAt 2 _ _ _ _ _ _ ?_
        exact lfs 0 (Nat.zero_le _) τ g lf a _ _ _ t1 t2 hw hg
  have fill : ∀ k, k ≤ kT s 2 → ∀ τ z4 z5 z6 z7, (∀ a j, ¬ (347 ≤ a ∧ a ≤ 357) → rI τ a j = rI σ a j) → τ.2 = σ.2 → (∀ i, i < k → rI τ 356 i = nI (kC s i 4)) → (∀ i x, i < k → x < kT s 3 → rI τ (347 + 1 + i) x = nI 0) → At 4 [.ref 108, .int (nI q), .int (nI 0), .int (nI k), z4, z5, z6, z7] [] τ 0 0 := by
    refine upto fun k hk ih => ?_
    intro τ z4 z5 z6 z7 t1 t2 t3 t4
    have hS1 : skM τ s := hS.scr2 hv (fun a j h1 h2 => t1 a j (by omega))
    have inn : k < kT s 2 → ∀ f, f ≤ kT s 3 → ∀ τ, (∀ a j, ¬ (347 ≤ a ∧ a ≤ 357) → rI τ a j = rI σ a j) → τ.2 = σ.2 → (∀ i, i < k + 1 → rI τ 356 i = nI (kC s i 4)) → (∀ i x, i < k → x < kT s 3 → rI τ (347 + 1 + i) x = nI 0) → (∀ x, x < f → rI τ (347 + 1 + k) x = nI 0) → At 31 [.ref 108, .int (nI q), .int (nI 0), .int (nI k), .int (nI f), z5, z6, z7] [] τ 0 0 := by
      intro hk2
      refine upto fun f hf ih2 => ?_
      intro τ t1 t2 t3 t4 t5
      have hS1 : skM τ s := hS.scr2 hv (fun a j h1 h2 => t1 a j (by omega))
      refine hAt 5 _ _ _ _ _ _ ?_
      refine And.intro (aOKx (n := 11) (j := 3) rfl (by decide) rfl rfl (by omega) (by omega)) ?_
      refine Eq.mpr (congrArg (fun xq : Int32 => At 39 [.ref (108), .int (nI q), .int (nI 0), .int (nI k), .int (nI f), z5, z6, z7] [.int xq, .int (nI f)] τ 0 0) (show rI τ 111 (nI 3).toNatClampNeg = nI (kT s 3) from (ldE rfl (by omega) (hS1.1 3 (by omega))))) ?_
      refine hAt 1 _ _ _ _ _ _ ?_
      refine And.intro (fun hq => ?_) (fun hq => ?_)
      · have c39 : kT s 3 ≤ f := (leN (a := kT s 3) (b := f) rfl rfl (by omega) (by omega)).mp hq
        clear hq
        refine hAt 2 _ _ _ _ _ _ ?_
        refine Eq.mpr (congrArg (fun xq : Int32 => At 4 [.ref (108), .int (nI q), .int (nI 0), .int xq, .int (nI f), z5, z6, z7] [] τ 0 0) (show nI k + nI 1 = nI (k + 1) from (adE rfl rfl))) ?_
        have e : f = kT s 3 := by omega
        refine ih hk2 τ _ _ _ _ t1 t2 t3 (fun i x hi2 hx => ?_)
        by_cases y : i = k
        · subst y; exact t5 x (by omega)
        · exact t4 i x (by omega) hx
      · have c39 : f < kT s 3 := Nat.lt_of_not_le (fun zq => hq ((leN (a := kT s 3) (b := f) rfl rfl (by omega) (by omega)).mpr zq))
        clear hq
        refine hAt 4 _ _ _ _ _ _ ?_
        refine And.intro (mx_r (q := 347) (n := 8) (k := 12) rfl rfl (show k < 8 by omega)) (And.intro (Or.inl rfl) ?_)
        refine Eq.mpr (congrArg (fun xq : Nat => At 48 [.ref (108), .int (nI q), .int (nI 0), .int (nI k), .int (nI f), z5, z6, z7] [.ref xq] τ 0 0) (rwE rfl (by omega))) ?_
        refine hAt 3 _ _ _ _ _ _ ?_
        refine And.intro (mx_e (q := 347) (n := 8) (k := 12) (j := k) (i := f) rfl (by omega) (by omega) rfl) ?_
        refine Eq.mpr (congrArg (fun xq : Mem => At 52 [.ref (108), .int (nI q), .int (nI 0), .int (nI k), .int (nI f), z5, z6, z7] [] xq 0 0) (wrE (σ := τ) (q := 347 + 1 + k) (p := rfl) (hj := by omega) (h := rfl))) ?_
        refine hAt 2 _ _ _ _ _ _ ?_
        refine Eq.mpr (congrArg (fun xq : Int32 => At 31 [.ref (108), .int (nI q), .int (nI 0), .int (nI k), .int xq, z5, z6, z7] [] (wI τ (347 + 1 + k) f (nI 0)) 0 0) (show nI f + nI 1 = nI (f + 1) from (adE rfl rfl))) ?_
        refine ih2 c39 _ (fun a j u => ?_) t2 (fun i hi2 => ?_) (fun i x hi2 hx => ?_) (fun x hx => ?_)
        · rw [rI_wI, if_neg (by omega)]; exact t1 a j u
        · rw [rI_wI, if_neg (by omega)]; exact t3 i hi2
        · rw [rI_wI, if_neg (by omega)]; exact t4 i x hi2 hx
        · rw [rI_wI]
          by_cases y : x = f
          · rw [if_pos ⟨rfl, y⟩]
          · rw [if_neg (by omega)]; exact t5 x (by omega)
    refine hAt 5 _ _ _ _ _ _ ?_
    refine And.intro (aOKx (n := 11) (j := 2) rfl (by decide) rfl rfl (by omega) (by omega)) ?_
    refine Eq.mpr (congrArg (fun xq : Int32 => At 11 [.ref (108), .int (nI q), .int (nI 0), .int (nI k), z4, z5, z6, z7] [.int xq, .int (nI k)] τ 0 0) (show rI τ 111 (nI 2).toNatClampNeg = nI (kT s 2) from (ldE rfl (by omega) (hS1.1 2 (by omega))))) ?_
    refine hAt 1 _ _ _ _ _ _ ?_
    refine And.intro (fun hq => ?_) (fun hq => ?_)
    · have c11 : kT s 2 ≤ k := (leN (a := kT s 2) (b := k) rfl rfl (by omega) (by omega)).mp hq
      clear hq
      refine hAt 2 _ _ _ _ _ _ ?_
      have e : k = kT s 2 := by omega
      subst e
      have z := lp 0 9 rfl τ (fun _ _ => 0) (fun k => kC s k 4) (fun _ => 0) z4 z5 z6 z7 t1 t2 ⟨⟨fun k f hk hf => (t1 _ _ (by omega)).trans (h338 k f hk hf), fun k f hk hf => t4 k f hk hf, t3⟩, fun _ _ _ _ => Nat.zero_le _, fun k hk => by rw [sumN_zero _ (fun _ _ => rfl), Nat.zero_add], fun _ _ _ => rfl, fun f hf => sumN_zero _ (fun _ _ => rfl)⟩ isG_0
      rw [show sumN (fun f => prS s f * 0) (kT s 3) = 0 from sumN_zero _ (fun f _ => Nat.mul_zero _)] at z
      exact z
    · have c11 : k < kT s 2 := Nat.lt_of_not_le (fun zq => hq ((leN (a := kT s 2) (b := k) rfl rfl (by omega) (by omega)).mpr zq))
      clear hq
      refine hAt 7 _ _ _ _ _ _ ?_
      refine And.intro (mx_r (q := 141) (n := 8) (k := 7) rfl rfl (show k < 8 by omega)) (And.intro (Or.inl rfl) ?_)
      refine Eq.mpr (congrArg (fun xq : Nat => At 25 [.ref (108), .int (nI q), .int (nI 0), .int (nI k), z4, z5, z6, z7] [.ref xq, .int (nI k), .ref (356)] τ 0 0) (rwE rfl (by omega))) ?_
      refine hAt 2 _ _ _ _ _ _ ?_
      refine And.intro (mx_e (q := 141) (n := 8) (k := 7) (j := k) (i := 4) rfl (by omega) (by omega) rfl) ?_
      refine Eq.mpr (congrArg (fun xq : Int32 => At 27 [.ref (108), .int (nI q), .int (nI 0), .int (nI k), z4, z5, z6, z7] [.int xq, .int (nI k), .ref (356)] τ 0 0) (show rI τ (141 + 1 + k) (nI 4).toNatClampNeg = nI (kC s k 4) from (ldE rfl (by omega) (hS1.2.2.1 k (by omega) 4 (by omega))))) ?_
      refine hAt 1 _ _ _ _ _ _ ?_
      refine And.intro (aOKx (n := 8) (j := k) rfl (by decide) rfl rfl (by omega) (by omega)) ?_
      refine Eq.mpr (congrArg (fun xq : Mem => At 28 [.ref (108), .int (nI q), .int (nI 0), .int (nI k), z4, z5, z6, z7] [] xq 0 0) (wrE (σ := τ) (q := 356) (p := rfl) (hj := by omega) (h := rfl))) ?_
      refine hAt 2 _ _ _ _ _ _ ?_
      refine inn c11 0 (Nat.zero_le _) _ (fun a j u => ?_) t2 (fun i hi2 => ?_) (fun i x hi2 hx => ?_) (fun x hx => absurd hx (Nat.not_lt_zero x))
      · rw [rI_wI, if_neg (by omega)]; exact t1 a j u
      · rw [rI_wI]
        by_cases y : i = k
        · subst y; rw [if_pos ⟨rfl, rfl⟩]
        · rw [if_neg (by omega)]; exact t3 i (by omega)
      · rw [rI_wI, if_neg (by omega)]; exact t4 i x hi2 hx
  refine hAt 4 _ _ _ _ _ _ ?_
  exact fill 0 (Nat.zero_le _) σ _ _ _ _ (fun _ _ _ => rfl) rfl (fun i hi2 => absurd hi2 (Nat.not_lt_zero i)) (fun i _ hi2 => absurd hi2 (Nat.not_lt_zero i))
end WN
theorem shl_s : ∀ n, n < 9 → nI 1 <<< (nI n &&& 31) = nI (2 ^ n) := by decide
theorem in_u32 {x : Int32} {m : Nat} (hm : m < 2 ^ 31) (z : ¬ x < nI 0 ∧ ¬ nI m < x) : u32 x ≤ m := by
  have h1 : (nI 0).toInt ≤ x.toInt := Int32.le_iff_toInt_le.mp (Int32.not_lt.mp z.1)
  have h2 : x.toInt ≤ (nI m).toInt := Int32.le_iff_toInt_le.mp (Int32.not_lt.mp z.2)
  rw [nI_toInt (by omega)] at h1 h2
  have h3 : x.toInt = if 2 * u32 x < 2 ^ 32 then (u32 x : Int) else (u32 x : Int) - (2 ^ 32 : Nat) := BitVec.toInt_eq_toNat_cond x.toBitVec
  have h4 : u32 x < 2 ^ 32 := x.toBitVec.isLt
  split at h3 <;> omega
section WO
variable {w : Wd} {d : Nat} {A : St} {v : AV}
theorem woM_im {σ τ : Mem} (hI : IM A σ) (hv : VA A) (h1 : ∀ a j, ¬ (336 ≤ a ∧ a ≤ 357) → rI τ a j = rI σ a j) (h2 : τ.2 = σ.2) : frM σ τ ∧ IM A τ ∧ rI τ 108 0 = rI σ 108 0 :=
  ⟨⟨fun a h i => h1 a i (by omega), fun a h i => congrArg (fun z => z.1 a i) h2, Nat.le_of_eq (congrArg (fun z => z.2.2.1) h2).symm⟩, hI.scr hv (fun a i t => h1 a i (by unfold trkM at t; omega)) (Nat.le_of_eq (congrArg (fun z => z.2.2.1) h2).symm), h1 108 0 (by omega)⟩
theorem MC_worth_bad {x : Int32} (hv : VA A) (hx : ¬ u32 x < 2 ^ kT (aSk A) 2) : MC w (d + 16) 0 0 m_Mo_worth [.int x] A 1 v A := by
  intro σ P X hI hP
  have hI' : IM A (wI σ 108 0 (nI 0)) := hI.thr hv
  have hS := hI'.sk
  have hn : kT (aSk A) 2 ≤ 8 := hv.2.2.1.2.2.1
  have h8 : 2 ^ kT (aSk A) 2 ≤ 2 ^ 8 := Nat.pow_le_pow_right (by decide) hn
  have h1 : 0 < 2 ^ kT (aSk A) 2 := Nat.two_pow_pos _
  refine meth_ok k_Mo_worth q_Mo_worth rfl fun At hAt => ?_
  refine hAt 11 _ _ _ _ _ _ ?_
  refine And.intro (aOKx (n := 11) (j := 2) rfl (by decide) rfl rfl (by omega) (by omega)) ?_
  refine Eq.mpr (congrArg (fun xq : Int32 => At 15 [.ref (108), .int (x)] [.int xq, .int (nI 1), .int (nI 0), .int (x), .ref (108)] (wI σ 108 0 (nI 0)) 0 0) (show rI (wI σ 108 0 (nI 0)) 111 (nI 2).toNatClampNeg = nI (kT (aSk A) 2) from (ldE rfl (by omega) (by rw [rI_wI, if_neg (by omega)]; exact (hI.sk.1 2 (by omega)))))) ?_
  refine hAt 3 _ _ _ _ _ _ ?_
  refine Eq.mpr (congrArg (fun xq : Int32 => At 18 [.ref (108), .int (x)] [.int xq, .int (nI 0), .int (x), .ref (108)] (wI σ 108 0 (nI 0)) 0 0) (show ((nI 1) <<< ((nI (kT (aSk A) 2)) &&& 31)) - nI 1 = nI ((2 ^ kT (aSk A) 2) - 1) from (sbE (shl_s _ (by omega)) rfl (by omega)))) ?_
  refine hAt 2 _ _ _ _ _ _ ?_
  refine s_in ?_
  rw [decide_eq_false (fun z => hx (by have := in_u32 (by omega) z; omega))]
  refine And.intro (fun hq => absurd hq (by decide)) (fun _ => ?_)
  refine hAt 5 _ _ _ _ _ _ ?_
  refine s_bad1 (by decide) rfl (by omega) (by omega) ?_
  refine And.intro (fun hq => absurd hq (by decide)) (fun _ => ?_)
  refine hAt 2 _ _ _ _ _ _ ?_
  exact hP _ _ (((frM.rfl σ).wI (by omega)).wI (by omega)) (hI'.thr hv) rfl (fun q => by omega)
theorem MC_worth_ok {x : Int32} (hv : VA A) (hx : u32 x < 2 ^ kT (aSk A) 2) : MC w (d + 16) 0 0 m_Mo_worth [.int x] A 0 (.int (nI (woS (aSk A) (u32 x)))) A := by
  intro σ P X hI hP
  obtain ⟨q, hq⟩ : ∃ q, q = u32 x := ⟨_, rfl⟩
  rw [← nI_u32 x, ← hq]
  rw [← hq] at hx hP
  have hI' : IM A (wI σ 108 0 (nI 0)) := hI.thr hv
  have hS := hI'.sk
  have hn : kT (aSk A) 2 ≤ 8 := hv.2.2.1.2.2.1
  have h8 : 2 ^ kT (aSk A) 2 ≤ 2 ^ 8 := Nat.pow_le_pow_right (by decide) hn
  have h1 : 0 < 2 ^ kT (aSk A) 2 := Nat.two_pow_pos _
  refine meth_ok k_Mo_worth q_Mo_worth rfl fun At hAt => ?_
  refine hAt 11 _ _ _ _ _ _ ?_
  refine And.intro (aOKx (n := 11) (j := 2) rfl (by decide) rfl rfl (by omega) (by omega)) ?_
  refine Eq.mpr (congrArg (fun xq : Int32 => At 15 [.ref (108), .int (nI q)] [.int xq, .int (nI 1), .int (nI 0), .int (nI q), .ref (108)] (wI σ 108 0 (nI 0)) 0 0) (show rI (wI σ 108 0 (nI 0)) 111 (nI 2).toNatClampNeg = nI (kT (aSk A) 2) from (ldE rfl (by omega) (by rw [rI_wI, if_neg (by omega)]; exact (hI.sk.1 2 (by omega)))))) ?_
  refine hAt 3 _ _ _ _ _ _ ?_
  refine Eq.mpr (congrArg (fun xq : Int32 => At 18 [.ref (108), .int (nI q)] [.int xq, .int (nI 0), .int (nI q), .ref (108)] (wI σ 108 0 (nI 0)) 0 0) (show ((nI 1) <<< ((nI (kT (aSk A) 2)) &&& 31)) - nI 1 = nI ((2 ^ kT (aSk A) 2) - 1) from (sbE (shl_s _ (by omega)) rfl (by omega)))) ?_
  refine hAt 2 _ _ _ _ _ _ ?_
  refine s_in ?_
  rw [decide_eq_true ⟨nI_nlt (Nat.zero_le _) (by omega), nI_nlt (by omega) (by omega)⟩]
  refine And.intro (fun _ => ?_) (fun hq => absurd hq (by decide))
  refine hAt 4 _ _ _ _ _ _ ?_
  refine s_bad0 rfl rfl ?_
  refine And.intro (fun _ => ?_) (fun hq => absurd hq (by decide))
  refine hAt 6 _ _ _ _ _ _ ?_
  refine s_laysCan hS hv.2.2.1 (fun τ t1 t2 t3 => ?_)
  refine s_worthOf (hS.scr2 hv.2.2.1 (fun a j h1 h2 => t1 a j (by omega) (by omega) (by omega))) hv.2.2.1 (by omega) t3 (fun τ2 u1 u2 _ => ?_)
  obtain ⟨f1, f2, f3⟩ := woM_im (τ := τ2) hI' hv (fun a j h => (u1 a j (by omega)).trans (t1 a j (by omega) (by omega) (by omega))) (u2.trans t2)
  exact hP τ2 _ (((frM.rfl σ).wI (a := 108) (k := 0) (x := nI 0) (by omega)).trans f1) f2 f3 (fun _ => rfl)
end WO
