/-! THE DAY on the model's side: the first hour, clouds go and come -/
theorem eM.sk {σ0 σ : Mem} {s : Sk} {hf : Nat → Nat} {D : Dy} (hc : eM σ0 s hf D σ) (hS0 : skM σ0 s) (hv : VS s) : skM σ s := hS0.scr2 hv (fun a j h1 h2 => hc.1.1 a j (by omega) (by omega))
theorem eM.congrF {σ0 σ : Mem} {s : Sk} {hf hg : Nat → Nat} {D : Dy} (hc : eM σ0 s hf D σ) (e : ∀ i, i < kT s 2 → gN D 0 i = 1 → hg i = hf i) : eM σ0 s hg D σ := ⟨hc.1, fun k hk => ⟨(hc.2.1 k hk).1, fun t q z => (hc.2.1 k hk).2 t q (by rw [← e k hk t]; exact z)⟩, hc.2.2⟩
section DM1
variable {w : Wd} {d : Nat} {σ0 σ : Mem} {s : Sk} {P : Option AV → Mem → Prop} {X : Nat → Mem → Prop}
theorem s_sum8 {a : Nat} {f : Nat → Nat} (ha : ∀ i, i < 8 → aOK true σ a 12 (nI i)) (hf : ∀ i, i < 8 → rI σ a i = nI (f i)) (hP : P (some (.int (nI (sumN f 8)))) σ) : Ret w true (d + 1) 0 0 m_Mo_sum [.ref a] σ P X := by
  refine meth_ok k_Mo_sum q_Mo_sum rfl fun At hAt => ?_
  have loop : ∀ i, i ≤ 8 → At 4 [.ref a, .int (nI (sumN f i)), .int (nI i)] [] σ 0 0 := by
    refine upto fun i hi ih => ?_
    refine hAt 3 _ _ _ _ _ _ ?_
    refine And.intro (fun hq => ?_) (fun hq => ?_)
    · have c7 : 8 ≤ i := (leN (a := 8) (b := i) rfl rfl (by omega) (by omega)).mp hq
      clear hq
      refine hAt 2 _ _ _ _ _ _ ?_
      have e : i = 8 := by omega
      subst e
      exact hP
    · have c7 : i < 8 := Nat.lt_of_not_le (fun zq => hq ((leN (a := 8) (b := i) rfl rfl (by omega) (by omega)).mpr zq))
      clear hq
      refine hAt 4 _ _ _ _ _ _ ?_
      refine And.intro (ha i (by omega)) ?_
      refine Eq.mpr (congrArg (fun xq : Int32 => At 14 [.ref (a), .int (nI (sumN f i)), .int (nI i)] [.int xq, .int (nI (sumN f i))] σ 0 0) (show rI σ a (nI i).toNatClampNeg = nI (f i) from (ldE rfl (by omega) (hf i (by omega))))) ?_
      refine hAt 4 _ _ _ _ _ _ ?_
      refine Eq.mpr (congrArg (fun xq : Int32 => At 4 [.ref (a), .int xq, .int (nI i + nI 1)] [] σ 0 0) (show (nI (sumN f i)) + (nI (f i)) = nI (sumN f i + (f i)) from (adE rfl rfl))) ?_
      refine Eq.mpr (congrArg (fun xq : Int32 => At 4 [.ref (a), .int (nI (sumN f i + (f i))), .int xq] [] σ 0 0) (show nI i + nI 1 = nI (i + 1) from (adE rfl rfl))) ?_
      exact ih c7
  refine hAt 4 _ _ _ _ _ _ ?_
  exact loop 0 (by omega)
theorem s_most8 {a : Nat} {f : Nat → Nat} (ha : ∀ i, i < 8 → aOK true σ a 12 (nI i)) (hf : ∀ i, i < 8 → rI σ a i = nI (f i)) (hb : ∀ i, i < 8 → f i ≤ 100000) (hP : P (some (.int (nI (moI (fun o => nI (f o)) 8)))) σ) : Ret w true (d + 1) 0 0 m_Mo_mostOf8 [.ref a] σ P X := by
  refine meth_ok k_Mo_mostOf8 q_Mo_mostOf8 rfl fun At hAt => ?_
  have loop : ∀ i, i ≤ 8 → 1 ≤ i → At 4 [.ref a, .int (nI (moI (fun o => nI (f o)) i)), .int (nI i)] [] σ 0 0 := by
    refine upto fun i hi ih => ?_
    intro h1
    obtain ⟨m, em⟩ : ∃ m, m = moI (fun o => nI (f o)) i := ⟨_, rfl⟩
    have hm : m < i := by
      have := moI_lt (fun o => nI (f o)) (i - 1)
      rw [show i - 1 + 1 = i by omega, ← em] at this; omega
    have nxt : moI (fun o => nI (f o)) (i + 1) = if nI (f m) < nI (f i) then i else m := by
      show (if nI (f (moI (fun o => nI (f o)) i)) < nI (f i) then i else moI (fun o => nI (f o)) i) = _
      rw [← em]
    rw [nxt] at ih
    rw [← em]
    have bm := hb m (by omega)
    have bi : i < 8 → f i ≤ 100000 := hb i
    refine hAt 3 _ _ _ _ _ _ ?_
    refine And.intro (fun hq => ?_) (fun hq => ?_)
    · have c7 : 8 ≤ i := (leN (a := 8) (b := i) rfl rfl (by omega) (by omega)).mp hq
      clear hq
      refine hAt 2 _ _ _ _ _ _ ?_
      have e : i = 8 := by omega
      subst e
      rw [← em] at hP
      exact hP
    · have c7 : i < 8 := Nat.lt_of_not_le (fun zq => hq ((leN (a := 8) (b := i) rfl rfl (by omega) (by omega)).mpr zq))
      clear hq
      have bi := bi c7
      refine hAt 3 _ _ _ _ _ _ ?_
      refine And.intro (ha i (by omega)) ?_
      refine Eq.mpr (congrArg (fun xq : Int32 => At 13 [.ref (a), .int (nI m), .int (nI i)] [.int xq] σ 0 0) (show rI σ a (nI i).toNatClampNeg = nI (f i) from (ldE rfl (by omega) (hf i (by omega))))) ?_
      refine hAt 3 _ _ _ _ _ _ ?_
      refine And.intro (ha m (by omega)) ?_
      refine Eq.mpr (congrArg (fun xq : Int32 => At 16 [.ref (a), .int (nI m), .int (nI i)] [.int xq, .int (nI (f i))] σ 0 0) (show rI σ a (nI m).toNatClampNeg = nI (f m) from (ldE rfl (by omega) (hf m (by omega))))) ?_
      refine hAt 1 _ _ _ _ _ _ ?_
      refine And.intro (fun hq => ?_) (fun hq => ?_)
      · have c16 : f i ≤ f m := (leN (a := f i) (b := f m) rfl rfl (by omega) (by omega)).mp hq
        clear hq
        refine hAt 4 _ _ _ _ _ _ ?_
        refine Eq.mpr (congrArg (fun xq : Int32 => At 4 [.ref (a), .int (nI m), .int xq] [] σ 0 0) (show nI i + nI 1 = nI (i + 1) from (adE rfl rfl))) ?_
        have q := ih c7 (by omega)
        rw [if_neg (nI_nlt (by omega) (by omega))] at q
        exact q
      · have c16 : f m < f i := Nat.lt_of_not_le (fun zq => hq ((leN (a := f i) (b := f m) rfl rfl (by omega) (by omega)).mpr zq))
        clear hq
        refine hAt 5 _ _ _ _ _ _ ?_
        refine Eq.mpr (congrArg (fun xq : Int32 => At 4 [.ref (a), .int (nI i), .int xq] [] σ 0 0) (show nI i + nI 1 = nI (i + 1) from (adE rfl rfl))) ?_
        have q := ih c7 (by omega)
        rw [if_pos (nI_lt (by omega) (by omega))] at q
        exact q
  refine hAt 4 _ _ _ _ _ _ ?_
  have q := loop 1 (by omega) (by omega)
  have e : moI (fun o => nI (f o)) 1 = 0 := Nat.le_zero.mp (moI_lt (fun o => nI (f o)) 0)
  rw [e] at q
  exact q
theorem s_begins {seed : Int32} {hf : Nat → Nat} (hS : skM σ s) (hv : VS s) (hn0 : ow_n0 ≤ mN σ) (hP : ∀ τ, eM σ s hf (dBg s seed) τ → τ.2 = σ.2 → P none τ) : Ret w true (d + 1) 0 0 m_Mo_begins [.ref 108, .int seed] σ P X := by
  have hn := hv.2.2.1
  have hF := hv.2.2.2.1
  have s9 := hv.2.2.2.2.2.2.2.2.2.2.2.2.2.1
  refine meth_ok k_Mo_begins q_Mo_begins rfl fun At hAt => ?_
  have fin : ∀ τ, (∀ a j, ¬ ((238 ≤ a ∧ a < 336) ∨ (a = 108 ∧ 43 ≤ j ∧ j ≤ 49)) → rI τ a j = rI σ a j) → τ.2 = σ.2 → (∀ i, i < kT s 2 → rI τ 238 i = bI false) → rI τ 108 49 = seed → (∀ j, 43 ≤ j → j ≤ 48 → rI τ 108 j = nI 0) → (∀ f, f < kT s 3 → rI τ 331 f = nI (kF s f 3) ∧ rI τ 332 f = nI 0 ∧ rI τ 333 f = -1) → (∀ o, o < 8 → (∀ i, i < 3 → rI τ (322 + 1 + o) i = nI 0 ∧ rI τ (318 + 1 + i) o = nI 0) ∧ rI τ 334 o = nI 0 ∧ rI τ 335 o = nI 0) → P none τ := by
    intro τ h1 h2 h3 h4 h5 h6 h7
    have g0 : ∀ t i, t ≠ 3 → gN (dBg s seed) t i = 0 := fun t i h => if_neg h
    have d0 : ∀ t i, t ≠ 0 → t ≠ 2 → gD (dBg s seed) t i = nI 0 := fun t i h1 h2 => by show (if t = 0 ∧ i = 0 then seed else if t = 2 then -1 else 0) = _; rw [if_neg (by omega), if_neg h2]; rfl
    have d1 : ∀ i, i ≠ 0 → gD (dBg s seed) 0 i = nI 0 := fun i h1 => by show (if 0 = 0 ∧ i = 0 then seed else if 0 = 2 then -1 else 0) = _; rw [if_neg (by omega), if_neg (by omega)]; rfl
    refine hP τ ⟨⟨fun a j _ q => h1 a j q, fun a _ j => congrArg (fun z => z.1 a j) h2, by rw [show mN τ = mN σ from congrArg (fun z => z.2.2.1) h2]; exact Nat.le_refl _⟩, fun k hk => ⟨?_, fun ht => ?_⟩, fun k hk ht => ?_, fun k hk ht => ?_, fun f hf => ?_, fun k o hk ht ho => ?_, fun g o hg ho => ?_, fun f hf => ?_, fun f hf => ?_, fun o i ho hi => ?_, fun f hf => ?_, fun f hf => ?_, ?_, ?_, ?_, ?_, ?_, ?_, ?_⟩ h2
    · rw [h3 k hk, g0 _ _ (by omega)]; rfl
    · rw [g0 _ _ (by omega)] at ht; cases ht
    · rw [g0 _ _ (by omega)] at ht; cases ht
    · rw [g0 _ _ (by omega)] at ht; cases ht
    · rw [(h6 f hf).1]; show _ = nI (if 3 = 3 then kF s f 3 else 0); rw [if_pos rfl]
    · rw [g0 _ _ (by omega)] at ht; cases ht
    · rw [((h7 o ho).1 g hg).2, g0 _ _ (by omega)]
    · rw [(h6 f hf).2.1]; exact (d0 _ _ (by omega) (by omega)).symm
    · rw [(h6 f hf).2.2]; rfl
    · rw [((h7 o ho).1 i hi).1]; exact (d0 _ _ (by omega) (by omega)).symm
    · rw [(h7 f (by omega)).2.1]; exact (d0 _ _ (by omega) (by omega)).symm
    · rw [(h7 f (by omega)).2.2]; exact (d0 _ _ (by omega) (by omega)).symm
    · rw [h4]; rfl
    · rw [h5 43 (by omega) (by omega)]; exact (d1 _ (by omega)).symm
    · rw [h5 47 (by omega) (by omega)]; exact (d1 _ (by omega)).symm
    · rw [h5 44 (by omega) (by omega)]; exact (d1 _ (by omega)).symm
    · rw [h5 45 (by omega) (by omega)]; exact (d1 _ (by omega)).symm
    · rw [h5 46 (by omega) (by omega)]; exact (d1 _ (by omega)).symm
    · rw [h5 48 (by omega) (by omega)]; exact (d1 _ (by omega)).symm
  have l3 : ∀ τ2, (∀ a j, ¬ ((238 ≤ a ∧ a < 336) ∨ (a = 108 ∧ 43 ≤ j ∧ j ≤ 49)) → rI τ2 a j = rI σ a j) → τ2.2 = σ.2 → (∀ i, i < kT s 2 → rI τ2 238 i = bI false) → rI τ2 108 49 = seed → (∀ j, 43 ≤ j → j ≤ 48 → rI τ2 108 j = nI 0) → (∀ f, f < kT s 3 → rI τ2 331 f = nI (kF s f 3) ∧ rI τ2 332 f = nI 0 ∧ rI τ2 333 f = -1) → ∀ o, o ≤ 8 → ∀ τ z3, (∀ a j, ¬ (318 ≤ a ∧ a < 331) → a ≠ 334 → a ≠ 335 → rI τ a j = rI τ2 a j) → τ.2 = τ2.2 → (∀ p, p < o → (∀ i, i < 3 → rI τ (322 + 1 + p) i = nI 0 ∧ rI τ (318 + 1 + i) p = nI 0) ∧ rI τ 334 p = nI 0 ∧ rI τ 335 p = nI 0) → At 108 [.ref 108, .int seed, .int (nI o), z3] [] τ 0 0 := by
    intro τ2 q1 q2 q3 q4 q5 q6
    refine upto fun o ho ih => ?_
    intro τ z3 h1 h2 h3
    have l4 : o < 8 → ∀ i, i ≤ 3 → ∀ τ4, (∀ a j, ¬ (318 ≤ a ∧ a < 331) → rI τ4 a j = rI τ a j) → τ4.2 = τ.2 → (∀ p, p < o → ∀ i, i < 3 → rI τ4 (322 + 1 + p) i = nI 0 ∧ rI τ4 (318 + 1 + i) p = nI 0) → (∀ z, z < i → rI τ4 (322 + 1 + o) z = nI 0 ∧ rI τ4 (318 + 1 + z) o = nI 0) → At 116 [.ref 108, .int seed, .int (nI o), .int (nI i)] [] τ4 0 0 := by
      intro ho8
      refine upto fun i hi ih2 => ?_
      intro τ4 g1 g2 g3 g4
      refine hAt 3 _ _ _ _ _ _ ?_
      refine And.intro (fun hq => ?_) (fun hq => ?_)
      · have c118 : 3 ≤ i := (leN (a := 3) (b := i) rfl rfl (by omega) (by omega)).mp hq
        clear hq
        refine hAt 5 _ _ _ _ _ _ ?_
        refine And.intro (aOKx (n := 8) (j := o) rfl (by decide) rfl rfl (by omega) (by omega)) ?_
        refine Eq.mpr (congrArg (fun xq : Mem => At 152 [.ref (108), .int (seed), .int (nI o), .int (nI i)] [] xq 0 0) (wrE (σ := τ4) (q := 334) (p := rfl) (hj := by omega) (h := rfl))) ?_
        refine hAt 5 _ _ _ _ _ _ ?_
        refine And.intro (aOKx (n := 8) (j := o) rfl (by decide) rfl rfl (by omega) (by omega)) ?_
        refine Eq.mpr (congrArg (fun xq : Mem => At 159 [.ref (108), .int (seed), .int (nI o), .int (nI i)] [] xq 0 0) (wrE (σ := (wI τ4 334 o (nI 0))) (q := 335) (p := rfl) (hj := by omega) (h := rfl))) ?_
        refine hAt 2 _ _ _ _ _ _ ?_
        refine Eq.mpr (congrArg (fun xq : Int32 => At 108 [.ref (108), .int (seed), .int xq, .int (nI i)] [] (wI (wI τ4 334 o (nI 0)) 335 o (nI 0)) 0 0) (show nI o + nI 1 = nI (o + 1) from (adE rfl rfl))) ?_
        refine ih ho8 _ _ (fun a j u1 u2 u3 => ?_) (g2.trans h2) (fun p hp => ?_)
        · rw [rI_wI, if_neg (by omega), rI_wI, if_neg (by omega), g1 a j u1]; exact h1 a j u1 u2 u3
        · by_cases e : p = o
          · subst e
            refine ⟨fun i hi => ?_, ?_, ?_⟩
            · have := g4 i (by omega)
              exact ⟨by rw [rI_wI, if_neg (by omega), rI_wI, if_neg (by omega)]; exact this.1, by rw [rI_wI, if_neg (by omega), rI_wI, if_neg (by omega)]; exact this.2⟩
            · rw [rI_wI, if_neg (by omega), rI_wI, if_pos ⟨rfl, rfl⟩]
            · rw [rI_wI, if_pos ⟨rfl, rfl⟩]
          · have a3 := h3 p (by omega)
            refine ⟨fun i hi => ?_, ?_, ?_⟩
            · have := g3 p (by omega) i hi
              exact ⟨by rw [rI_wI, if_neg (by omega), rI_wI, if_neg (by omega)]; exact this.1, by rw [rI_wI, if_neg (by omega), rI_wI, if_neg (by omega)]; exact this.2⟩
            · rw [rI_wI, if_neg (by omega), rI_wI, if_neg (by omega), g1 _ _ (by omega)]; exact a3.2.1
            · rw [rI_wI, if_neg (by omega), rI_wI, if_neg (by omega), g1 _ _ (by omega)]; exact a3.2.2
      · have c118 : i < 3 := Nat.lt_of_not_le (fun zq => hq ((leN (a := 3) (b := i) rfl rfl (by omega) (by omega)).mpr zq))
        clear hq
        refine hAt 4 _ _ _ _ _ _ ?_
        refine And.intro (mx_r (q := 322) (n := 8) (k := 3) rfl rfl (show o < 8 by omega)) (And.intro (Or.inl rfl) ?_)
        refine Eq.mpr (congrArg (fun xq : Nat => At 127 [.ref (108), .int (seed), .int (nI o), .int (nI i)] [.ref xq] τ4 0 0) (rwE rfl (by omega))) ?_
        refine hAt 3 _ _ _ _ _ _ ?_
        refine And.intro (mx_e (q := 322) (n := 8) (k := 3) (j := o) (i := i) rfl (by omega) (by omega) rfl) ?_
        refine Eq.mpr (congrArg (fun xq : Mem => At 130 [.ref (108), .int (seed), .int (nI o), .int (nI i)] [] xq 0 0) (wrE (σ := τ4) (q := 322 + 1 + o) (p := rfl) (hj := by omega) (h := rfl))) ?_
        refine hAt 4 _ _ _ _ _ _ ?_
        refine And.intro (mx_r (q := 318) (n := 3) (k := 8) rfl rfl (show i < 3 by omega)) (And.intro (Or.inl rfl) ?_)
        refine Eq.mpr (congrArg (fun xq : Nat => At 136 [.ref (108), .int (seed), .int (nI o), .int (nI i)] [.ref xq] (wI τ4 (322 + 1 + o) i (nI 0)) 0 0) (rwE rfl (by omega))) ?_
        refine hAt 3 _ _ _ _ _ _ ?_
        refine And.intro (mx_e (q := 318) (n := 3) (k := 8) (j := i) (i := o) rfl (by omega) (by omega) rfl) ?_
        refine Eq.mpr (congrArg (fun xq : Mem => At 139 [.ref (108), .int (seed), .int (nI o), .int (nI i)] [] xq 0 0) (wrE (σ := (wI τ4 (322 + 1 + o) i (nI 0))) (q := 318 + 1 + i) (p := rfl) (hj := by omega) (h := rfl))) ?_
        refine hAt 2 _ _ _ _ _ _ ?_
        refine Eq.mpr (congrArg (fun xq : Int32 => At 116 [.ref (108), .int (seed), .int (nI o), .int xq] [] (wI (wI τ4 (322 + 1 + o) i (nI 0)) (318 + 1 + i) o (nI 0)) 0 0) (show nI i + nI 1 = nI (i + 1) from (adE rfl rfl))) ?_
        refine ih2 c118 _ (fun a j q => ?_) g2 (fun p hp z hz => ?_) (fun z hz => ?_)
        · rw [rI_wI, if_neg (by omega), rI_wI, if_neg (by omega)]; exact g1 a j q
        · have := g3 p hp z hz
          refine ⟨?_, ?_⟩
          · rw [rI_wI, if_neg (by omega), rI_wI, if_neg (by omega)]; exact this.1
          · rw [rI_wI, if_neg (by omega), rI_wI, if_neg (by omega)]; exact this.2
        · by_cases e : z = i
          · subst e
            exact ⟨by rw [rI_wI, if_neg (by omega), rI_wI, if_pos ⟨rfl, rfl⟩], by rw [rI_wI, if_pos ⟨rfl, rfl⟩]⟩
          · have := g4 z (by omega)
            exact ⟨by rw [rI_wI, if_neg (by omega), rI_wI, if_neg (by omega)]; exact this.1, by rw [rI_wI, if_neg (by omega), rI_wI, if_neg (by omega)]; exact this.2⟩
    refine hAt 3 _ _ _ _ _ _ ?_
    refine And.intro (fun hq => ?_) (fun hq => ?_)
    · have c111 : 8 ≤ o := (leN (a := 8) (b := o) rfl rfl (by omega) (by omega)).mp hq
      clear hq
      refine hAt 1 _ _ _ _ _ _ ?_
      have e : o = 8 := by omega
      subst e
      refine fin τ (fun a j u => ?_) (h2.trans q2) (fun i hi => ?_) ?_ (fun j u1 u2 => ?_) (fun f hf => ?_) h3
      · rw [h1 a j (by omega) (by omega) (by omega)]; exact q1 a j u
      · rw [h1 _ _ (by omega) (by omega) (by omega)]; exact q3 i hi
      · rw [h1 _ _ (by omega) (by omega) (by omega)]; exact q4
      · rw [h1 _ _ (by omega) (by omega) (by omega)]; exact q5 j u1 u2
      · rw [h1 _ _ (by omega) (by omega) (by omega), h1 _ _ (by omega) (by omega) (by omega), h1 _ _ (by omega) (by omega) (by omega)]; exact q6 f hf
    · have c111 : o < 8 := Nat.lt_of_not_le (fun zq => hq ((leN (a := 8) (b := o) rfl rfl (by omega) (by omega)).mpr zq))
      clear hq
      refine hAt 2 _ _ _ _ _ _ ?_
      exact l4 c111 0 (by omega) τ (fun _ _ _ => rfl) rfl (fun p hp => (h3 p hp).1) (fun z hz => absurd hz (Nat.not_lt_zero z))
  have l2 : ∀ τ1, (∀ a j, ¬ ((238 ≤ a ∧ a < 336) ∨ (a = 108 ∧ 43 ≤ j ∧ j ≤ 49)) → rI τ1 a j = rI σ a j) → τ1.2 = σ.2 → (∀ i, i < kT s 2 → rI τ1 238 i = bI false) → rI τ1 108 49 = seed → (∀ j, 43 ≤ j → j ≤ 48 → rI τ1 108 j = nI 0) → ∀ f, f ≤ kT s 3 → ∀ τ, (∀ a j, ¬ (331 ≤ a ∧ a ≤ 333) → rI τ a j = rI τ1 a j) → τ.2 = τ1.2 → (∀ i, i < f → rI τ 331 i = nI (kF s i 3) ∧ rI τ 332 i = nI 0 ∧ rI τ 333 i = -1) → At 62 [.ref 108, .int seed, .int (nI f), junk] [] τ 0 0 := by
    intro τ1 q1 q2 q3 q4 q5
    refine upto fun f hf ih => ?_
    intro τ h1 h2 h3
    have hSt : skM τ s := hS.scr2 hv (fun a j u1 u2 => (h1 a j (by omega)).trans (q1 a j (by omega)))
    refine hAt 5 _ _ _ _ _ _ ?_
    refine And.intro (aOKx (n := 11) (j := 3) rfl (by decide) rfl rfl (by omega) (by omega)) ?_
    refine Eq.mpr (congrArg (fun xq : Int32 => At 69 [.ref (108), .int (seed), .int (nI f), junk] [.int xq, .int (nI f)] τ 0 0) (show rI τ 111 (nI 3).toNatClampNeg = nI (kT s 3) from (ldE rfl (by omega) (hSt.1 3 (by omega))))) ?_
    refine hAt 1 _ _ _ _ _ _ ?_
    refine And.intro (fun hq => ?_) (fun hq => ?_)
    · have c69 : kT s 3 ≤ f := (leN (a := kT s 3) (b := f) rfl rfl (by omega) (by omega)).mp hq
      clear hq
      refine hAt 2 _ _ _ _ _ _ ?_
      have e : f = kT s 3 := by omega
      subst e
      refine l3 τ (fun a j u => ?_) (h2.trans q2) (fun i hi => ?_) ?_ (fun j u1 u2 => ?_) h3 0 (by omega) τ _ (fun _ _ _ _ _ => rfl) rfl (fun p hp => absurd hp (Nat.not_lt_zero p))
      · rw [h1 a j (by omega)]; exact q1 a j u
      · rw [h1 _ _ (by omega)]; exact q3 i hi
      · rw [h1 _ _ (by omega)]; exact q4
      · rw [h1 _ _ (by omega)]; exact q5 j u1 u2
    · have c69 : f < kT s 3 := Nat.lt_of_not_le (fun zq => hq ((leN (a := kT s 3) (b := f) rfl rfl (by omega) (by omega)).mpr zq))
      clear hq
      refine hAt 7 _ _ _ _ _ _ ?_
      refine And.intro (mx_r (q := 163) (n := 12) (k := 6) rfl rfl (show f < 12 by omega)) (And.intro (Or.inl rfl) ?_)
      refine Eq.mpr (congrArg (fun xq : Nat => At 83 [.ref (108), .int (seed), .int (nI f), junk] [.ref xq, .int (nI f), .ref (331)] τ 0 0) (rwE rfl (by omega))) ?_
      refine hAt 2 _ _ _ _ _ _ ?_
      refine And.intro (mx_e (q := 163) (n := 12) (k := 6) (j := f) (i := 3) rfl (by omega) (by omega) rfl) ?_
      refine Eq.mpr (congrArg (fun xq : Int32 => At 85 [.ref (108), .int (seed), .int (nI f), junk] [.int xq, .int (nI f), .ref (331)] τ 0 0) (show rI τ (163 + 1 + f) (nI 3).toNatClampNeg = nI (kF s f 3) from (ldE rfl (by omega) (hSt.2.2.2.1 f (by omega) 3 (by omega))))) ?_
      refine hAt 1 _ _ _ _ _ _ ?_
      refine And.intro (aOKx (n := 12) (j := f) rfl (by decide) rfl rfl (by omega) (by omega)) ?_
      refine Eq.mpr (congrArg (fun xq : Mem => At 86 [.ref (108), .int (seed), .int (nI f), junk] [] xq 0 0) (wrE (σ := τ) (q := 331) (p := rfl) (hj := by omega) (h := rfl))) ?_
      refine hAt 5 _ _ _ _ _ _ ?_
      refine And.intro (aOKx (n := 12) (j := f) rfl (by decide) rfl rfl (by omega) (by omega)) ?_
      refine Eq.mpr (congrArg (fun xq : Mem => At 93 [.ref (108), .int (seed), .int (nI f), junk] [] xq 0 0) (wrE (σ := (wI τ 331 f (nI (kF s f 3)))) (q := 332) (p := rfl) (hj := by omega) (h := rfl))) ?_
      refine hAt 5 _ _ _ _ _ _ ?_
      refine And.intro (aOKx (n := 12) (j := f) rfl (by decide) rfl rfl (by omega) (by omega)) ?_
      refine Eq.mpr (congrArg (fun xq : Mem => At 100 [.ref (108), .int (seed), .int (nI f), junk] [] xq 0 0) (wrE (σ := (wI (wI τ 331 f (nI (kF s f 3))) 332 f (nI 0))) (q := 333) (p := rfl) (hj := by omega) (h := rfl))) ?_
      refine hAt 2 _ _ _ _ _ _ ?_
      refine Eq.mpr (congrArg (fun xq : Int32 => At 62 [.ref (108), .int (seed), .int xq, junk] [] (wI (wI (wI τ 331 f (nI (kF s f 3))) 332 f (nI 0)) 333 f (-1)) 0 0) (show nI f + nI 1 = nI (f + 1) from (adE rfl rfl))) ?_
      refine ih c69 _ (fun a j u => ?_) h2 (fun i hi => ?_)
      · rw [rI_wI, if_neg (by omega), rI_wI, if_neg (by omega), rI_wI, if_neg (by omega)]; exact h1 a j u
      · by_cases e : i = f
        · subst e
          exact ⟨by rw [rI_wI, if_neg (by omega), rI_wI, if_neg (by omega), rI_wI, if_pos ⟨rfl, rfl⟩], by rw [rI_wI, if_neg (by omega), rI_wI, if_pos ⟨rfl, rfl⟩], by rw [rI_wI, if_pos ⟨rfl, rfl⟩]⟩
        · have := h3 i (by omega)
          exact ⟨by rw [rI_wI, if_neg (by omega), rI_wI, if_neg (by omega), rI_wI, if_neg (by omega)]; exact this.1, by rw [rI_wI, if_neg (by omega), rI_wI, if_neg (by omega), rI_wI, if_neg (by omega)]; exact this.2.1, by rw [rI_wI, if_neg (by omega), rI_wI, if_neg (by omega), rI_wI, if_neg (by omega)]; exact this.2.2⟩
  have l1 : ∀ k, k ≤ kT s 2 → ∀ τ, (∀ a j, a ≠ 238 → ¬ (a = 108 ∧ 43 ≤ j ∧ j ≤ 49) → rI τ a j = rI σ a j) → τ.2 = σ.2 → (∀ i, i < k → rI τ 238 i = bI false) → rI τ 108 49 = seed → (∀ j, 43 ≤ j → j ≤ 48 → rI τ 108 j = nI 0) → At 37 [.ref 108, .int seed, .int (nI k), junk] [] τ 0 0 := by
    refine upto fun k hk ih => ?_
    intro τ h1 h2 h3 h4 h5
    have hSt : skM τ s := hS.scr2 hv (fun a j u1 u2 => h1 a j (by omega) (by omega))
    refine hAt 5 _ _ _ _ _ _ ?_
    refine And.intro (aOKx (n := 11) (j := 2) rfl (by decide) rfl rfl (by omega) (by omega)) ?_
    refine Eq.mpr (congrArg (fun xq : Int32 => At 44 [.ref (108), .int (seed), .int (nI k), junk] [.int xq, .int (nI k)] τ 0 0) (show rI τ 111 (nI 2).toNatClampNeg = nI (kT s 2) from (ldE rfl (by omega) (hSt.1 2 (by omega))))) ?_
    refine hAt 1 _ _ _ _ _ _ ?_
    refine And.intro (fun hq => ?_) (fun hq => ?_)
    · have c44 : kT s 2 ≤ k := (leN (a := kT s 2) (b := k) rfl rfl (by omega) (by omega)).mp hq
      clear hq
      refine hAt 2 _ _ _ _ _ _ ?_
      have e : k = kT s 2 := by omega
      subst e
      exact l2 τ (fun a j u => h1 a j (by omega) (by omega)) h2 h3 h4 h5 0 (by omega) τ (fun _ _ _ => rfl) rfl (fun i hi => absurd hi (Nat.not_lt_zero i))
    · have c44 : k < kT s 2 := Nat.lt_of_not_le (fun zq => hq ((leN (a := kT s 2) (b := k) rfl rfl (by omega) (by omega)).mpr zq))
      clear hq
      refine hAt 5 _ _ _ _ _ _ ?_
      refine And.intro (aOKx (n := 8) (j := k) rfl (by decide) rfl rfl (by omega) (by omega)) ?_
      refine Eq.mpr (congrArg (fun xq : Mem => At 54 [.ref (108), .int (seed), .int (nI k), junk] [] xq 0 0) (wrB (σ := τ) (q := 238) (p := rfl) (hj := by omega) (b := false))) ?_
      refine hAt 2 _ _ _ _ _ _ ?_
      refine Eq.mpr (congrArg (fun xq : Int32 => At 37 [.ref (108), .int (seed), .int xq, junk] [] (wI τ 238 k (bI false)) 0 0) (show nI k + nI 1 = nI (k + 1) from (adE rfl rfl))) ?_
      refine ih c44 _ (fun a j u1 u2 => ?_) h2 (fun i hi => ?_) ?_ (fun j u1 u2 => ?_)
      · rw [rI_wI, if_neg (by omega)]; exact h1 a j u1 u2
      · rw [rI_wI]
        by_cases e : i = k
        · rw [if_pos ⟨rfl, e⟩]
        · rw [if_neg (fun z => e z.2)]; exact h3 i (by omega)
      · rw [rI_wI, if_neg (by omega)]; exact h4
      · rw [rI_wI, if_neg (by omega)]; exact h5 j u1 u2
  refine hAt 23 _ _ _ _ _ _ ?_
  refine l1 0 (by omega) _ (fun a j u1 u2 => ?_) rfl (fun i hi => absurd hi (Nat.not_lt_zero i)) ?_ (fun j u1 u2 => ?_)
  · rw [rI_wI, if_neg (by omega), rI_wI, if_neg (by omega), rI_wI, if_neg (by omega), rI_wI, if_neg (by omega), rI_wI, if_neg (by omega), rI_wI, if_neg (by omega), rI_wI, if_neg (by omega)]
  · rw [rI_wI, if_neg (by omega), rI_wI, if_neg (by omega), rI_wI, if_neg (by omega), rI_wI, if_neg (by omega), rI_wI, if_neg (by omega), rI_wI, if_neg (by omega), rI_wI, if_pos ⟨rfl, rfl⟩]
  · have : j = 43 ∨ j = 44 ∨ j = 45 ∨ j = 46 ∨ j = 47 ∨ j = 48 := by omega
    rcases this with rfl | rfl | rfl | rfl | rfl | rfl <;> rfl
end DM1
