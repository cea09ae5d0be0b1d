/-! THE DAY on the model's side: what fell lands -/
def moF (r : Nat → Nat) : Nat := moI (fun o => nI (r o)) 8
def hlR (s : Sk) (h : Nat) (can : Bool) (D : Dy) (r : Nat → Nat) (f : Nat) : Nat → Nat → Int32 := if (can && (decide (kT s 8 < sumN r 8) && decide (gD D 2 f = -1))) = true then hl1 s f h (moF r) else fun _ _ => 0
def ldR (s : Sk) (h : Nat) (can : Bool) (D : Dy) (r : Nat → Nat) : Option Nat → Option Nat → Dy
  | some g, _ => sR D (16 + g) (fun o => gN D (16 + g) o + r o)
  | none, none => sD D 0 5 (gD D 0 5 + nI (sumN r 8))
  | none, some f => addD (sN D 3 f (thp (gN D 3 f) r 8)) (fun a b => hlR s h can D r f a b + skD s f (gN D 3 f) r 8 a b)
theorem ldB_R {s : Sk} {h : Nat} {can : Bool} {D : Dy} {t : Nat} : ∀ G F, ldB s h can D t G F = ldR s h can D (gN D t) G F
  | some _, _ => rfl
  | none, none => rfl
  | none, some _ => rfl
/-- what lands of r at a place -/
def ldX1 (s : Sk) (h : Nat) (can : Bool) (x y : Nat) (D : Dy) (r : Nat → Nat) : Dy := if sumN r 8 = 0 then D else ldR s h can D r (icH s h x y) (fdA s x y (kT s 3))
section DM6
variable {w : Wd} {d : Nat} {σ0 σ : Mem} {s : Sk} {P : Option AV → Mem → Prop} {X : Nat → Mem → Prop}
theorem s_MfieldAt {x y : Nat} (hS : skM σ s) (hv : VS s) (hx : x ≤ 8) (hy : y ≤ 8) (hP : P (some (.int (oI (fdA s x y (kT s 3))))) σ) : Ret w true (d + 1) 0 0 m_Mo_fieldAt [.ref 108, .int (nI x), .int (nI y)] σ P X := by
  have hF := hv.2.2.2.1
  have hG := hv.2.2.2.2.1
  have s1 := hv.1
  have s2 := hv.2.1
  have bF := hv.2.2.2.2.2.2.2.2.2.2.2.2.2.1
  have bI := hv.2.2.2.2.2.2.2.2.2.2.2.2.2.2
  refine meth_ok k_Mo_fieldAt q_Mo_fieldAt rfl fun At hAt => ?_
  have loop : ∀ f, f ≤ kT s 3 → (∀ j, j < f → ¬ (kF s j 0 = x ∧ kF s j 1 = y)) → At 2 [.ref 108, .int (nI x), .int (nI y), .int (nI f)] [] σ 0 0 := by
    refine upto fun f hf ih => ?_
    intro hno
    have nxt : ¬ (kF s f 0 = x ∧ kF s f 1 = y) → ∀ j, j < f + 1 → ¬ (kF s j 0 = x ∧ kF s j 1 = y) := fun q j hj => by
      by_cases e : j = f
      · subst e; exact q
      · exact hno j (by omega)
    refine hAt 5 _ _ _ _ _ _ ?_
    refine And.intro (aOKx (n := 11) (j := 3) rfl (by decide) rfl rfl (by omega) (by omega)) ?_
    refine Eq.mpr (congrArg (fun xq : Int32 => At 9 [.ref (108), .int (nI x), .int (nI y), .int (nI f)] [.int xq, .int (nI f)] σ 0 0) (show rI σ 111 (nI 3).toNatClampNeg = nI (kT s 3) from (ldE rfl (by omega) (hS.1 3 (by omega))))) ?_
    refine hAt 1 _ _ _ _ _ _ ?_
    refine And.intro (fun hq => ?_) (fun hq => ?_)
    · have c9 : kT s 3 ≤ f := (leN (a := kT s 3) (b := f) rfl rfl (by omega) (by omega)).mp hq
      clear hq
      refine hAt 2 _ _ _ _ _ _ ?_
      have e : f = kT s 3 := by omega
      rw [e] at hno
      rw [fdA_miss _ hno] at hP
      exact hP
    · have c9 : f < kT s 3 := Nat.lt_of_not_le (fun zq => hq ((leN (a := kT s 3) (b := f) rfl rfl (by omega) (by omega)).mpr zq))
      clear hq
      have bf := bF f c9
      refine hAt 4 _ _ _ _ _ _ ?_
      refine And.intro (mx_r (q := 163) (n := 12) (k := 6) rfl rfl (show f < 12 by omega)) (And.intro (Or.inl rfl) ?_)
      refine Eq.mpr (congrArg (fun xq : Nat => At 18 [.ref (108), .int (nI x), .int (nI y), .int (nI f)] [.ref xq] σ 0 0) (rwE rfl (by omega))) ?_
      refine hAt 2 _ _ _ _ _ _ ?_
      refine And.intro (mx_e (q := 163) (n := 12) (k := 6) (j := f) (i := 0) rfl (by omega) (by omega) rfl) ?_
      refine Eq.mpr (congrArg (fun xq : Int32 => At 20 [.ref (108), .int (nI x), .int (nI y), .int (nI f)] [.int xq] σ 0 0) (show rI σ (163 + 1 + f) (nI 0).toNatClampNeg = nI (kF s f 0) from (ldE rfl (by omega) (hS.2.2.2.1 f (by omega) 0 (by omega))))) ?_
      refine hAt 2 _ _ _ _ _ _ ?_
      refine And.intro (fun hq => ?_) (fun hq => ?_)
      · have c21 : ¬ kF s f 0 = x := fun zq => hq ((eqN (a := kF s f 0) (b := x) rfl rfl (by omega) (by omega)).mpr zq)
        clear hq
        refine hAt 2 _ _ _ _ _ _ ?_
        refine Eq.mpr (congrArg (fun xq : Int32 => At 2 [.ref (108), .int (nI x), .int (nI y), .int xq] [] σ 0 0) (show nI f + nI 1 = nI (f + 1) from (adE rfl rfl))) ?_
        exact ih c9 (nxt (fun z => c21 z.1))
      · have c21 : kF s f 0 = x := (eqN (a := kF s f 0) (b := x) rfl rfl (by omega) (by omega)).mp hq
        clear hq
        refine hAt 4 _ _ _ _ _ _ ?_
        refine And.intro (mx_r (q := 163) (n := 12) (k := 6) rfl rfl (show f < 12 by omega)) (And.intro (Or.inl rfl) ?_)
        refine Eq.mpr (congrArg (fun xq : Nat => At 30 [.ref (108), .int (nI x), .int (nI y), .int (nI f)] [.ref xq] σ 0 0) (rwE rfl (by omega))) ?_
        refine hAt 2 _ _ _ _ _ _ ?_
        refine And.intro (mx_e (q := 163) (n := 12) (k := 6) (j := f) (i := 1) rfl (by omega) (by omega) rfl) ?_
        refine Eq.mpr (congrArg (fun xq : Int32 => At 32 [.ref (108), .int (nI x), .int (nI y), .int (nI f)] [.int xq] σ 0 0) (show rI σ (163 + 1 + f) (nI 1).toNatClampNeg = nI (kF s f 1) from (ldE rfl (by omega) (hS.2.2.2.1 f (by omega) 1 (by omega))))) ?_
        refine hAt 2 _ _ _ _ _ _ ?_
        refine And.intro (fun hq => ?_) (fun hq => ?_)
        · have c33 : ¬ kF s f 1 = y := fun zq => hq ((eqN (a := kF s f 1) (b := y) rfl rfl (by omega) (by omega)).mpr zq)
          clear hq
          refine hAt 2 _ _ _ _ _ _ ?_
          refine Eq.mpr (congrArg (fun xq : Int32 => At 2 [.ref (108), .int (nI x), .int (nI y), .int xq] [] σ 0 0) (show nI f + nI 1 = nI (f + 1) from (adE rfl rfl))) ?_
          exact ih c9 (nxt (fun z => c33 z.2))
        · have c33 : kF s f 1 = y := (eqN (a := kF s f 1) (b := y) rfl rfl (by omega) (by omega)).mp hq
          clear hq
          refine hAt 2 _ _ _ _ _ _ ?_
          rw [fdA_hit ⟨c21, c33⟩ hno _ c9] at hP
          exact hP
  refine hAt 2 _ _ _ _ _ _ ?_
  exact loop 0 (Nat.zero_le _) (fun j hj => absurd hj (Nat.not_lt_zero j))
theorem s_MiceAt {x y : Nat} (hS : skM σ s) (hv : VS s) (hx : x ≤ 8) (hy : y ≤ 8) (hP : P (some (.int (oI (icA s x y (kT s 4))))) σ) : Ret w true (d + 1) 0 0 m_Mo_iceAt [.ref 108, .int (nI x), .int (nI y)] σ P X := by
  have hF := hv.2.2.2.1
  have hG := hv.2.2.2.2.1
  have s1 := hv.1
  have s2 := hv.2.1
  have bF := hv.2.2.2.2.2.2.2.2.2.2.2.2.2.1
  have bI := hv.2.2.2.2.2.2.2.2.2.2.2.2.2.2
  refine meth_ok k_Mo_iceAt q_Mo_iceAt rfl fun At hAt => ?_
  have loop : ∀ f, f ≤ kT s 4 → (∀ j, j < f → ¬ (kI s j 0 = x ∧ kI s j 1 = y)) → At 2 [.ref 108, .int (nI x), .int (nI y), .int (nI f)] [] σ 0 0 := by
    refine upto fun f hf ih => ?_
    intro hno
    have nxt : ¬ (kI s f 0 = x ∧ kI s f 1 = y) → ∀ j, j < f + 1 → ¬ (kI s j 0 = x ∧ kI s j 1 = y) := fun q j hj => by
      by_cases e : j = f
      · subst e; exact q
      · exact hno j (by omega)
    refine hAt 5 _ _ _ _ _ _ ?_
    refine And.intro (aOKx (n := 11) (j := 4) rfl (by decide) rfl rfl (by omega) (by omega)) ?_
    refine Eq.mpr (congrArg (fun xq : Int32 => At 9 [.ref (108), .int (nI x), .int (nI y), .int (nI f)] [.int xq, .int (nI f)] σ 0 0) (show rI σ 111 (nI 4).toNatClampNeg = nI (kT s 4) from (ldE rfl (by omega) (hS.1 4 (by omega))))) ?_
    refine hAt 1 _ _ _ _ _ _ ?_
    refine And.intro (fun hq => ?_) (fun hq => ?_)
    · have c9 : kT s 4 ≤ f := (leN (a := kT s 4) (b := f) rfl rfl (by omega) (by omega)).mp hq
      clear hq
      refine hAt 2 _ _ _ _ _ _ ?_
      have e : f = kT s 4 := by omega
      rw [e] at hno
      rw [icA_miss _ hno] at hP
      exact hP
    · have c9 : f < kT s 4 := Nat.lt_of_not_le (fun zq => hq ((leN (a := kT s 4) (b := f) rfl rfl (by omega) (by omega)).mpr zq))
      clear hq
      have bf := bI.1 f c9
      refine hAt 4 _ _ _ _ _ _ ?_
      refine And.intro (mx_r (q := 180) (n := 3) (k := 3) rfl rfl (show f < 3 by omega)) (And.intro (Or.inl rfl) ?_)
      refine Eq.mpr (congrArg (fun xq : Nat => At 18 [.ref (108), .int (nI x), .int (nI y), .int (nI f)] [.ref xq] σ 0 0) (rwE rfl (by omega))) ?_
      refine hAt 2 _ _ _ _ _ _ ?_
      refine And.intro (mx_e (q := 180) (n := 3) (k := 3) (j := f) (i := 0) rfl (by omega) (by omega) rfl) ?_
      refine Eq.mpr (congrArg (fun xq : Int32 => At 20 [.ref (108), .int (nI x), .int (nI y), .int (nI f)] [.int xq] σ 0 0) (show rI σ (180 + 1 + f) (nI 0).toNatClampNeg = nI (kI s f 0) from (ldE rfl (by omega) (hS.2.2.2.2 f (by omega) 0 (by omega))))) ?_
      refine hAt 2 _ _ _ _ _ _ ?_
      refine And.intro (fun hq => ?_) (fun hq => ?_)
      · have c21 : ¬ kI s f 0 = x := fun zq => hq ((eqN (a := kI s f 0) (b := x) rfl rfl (by omega) (by omega)).mpr zq)
        clear hq
        refine hAt 2 _ _ _ _ _ _ ?_
        refine Eq.mpr (congrArg (fun xq : Int32 => At 2 [.ref (108), .int (nI x), .int (nI y), .int xq] [] σ 0 0) (show nI f + nI 1 = nI (f + 1) from (adE rfl rfl))) ?_
        exact ih c9 (nxt (fun z => c21 z.1))
      · have c21 : kI s f 0 = x := (eqN (a := kI s f 0) (b := x) rfl rfl (by omega) (by omega)).mp hq
        clear hq
        refine hAt 4 _ _ _ _ _ _ ?_
        refine And.intro (mx_r (q := 180) (n := 3) (k := 3) rfl rfl (show f < 3 by omega)) (And.intro (Or.inl rfl) ?_)
        refine Eq.mpr (congrArg (fun xq : Nat => At 30 [.ref (108), .int (nI x), .int (nI y), .int (nI f)] [.ref xq] σ 0 0) (rwE rfl (by omega))) ?_
        refine hAt 2 _ _ _ _ _ _ ?_
        refine And.intro (mx_e (q := 180) (n := 3) (k := 3) (j := f) (i := 1) rfl (by omega) (by omega) rfl) ?_
        refine Eq.mpr (congrArg (fun xq : Int32 => At 32 [.ref (108), .int (nI x), .int (nI y), .int (nI f)] [.int xq] σ 0 0) (show rI σ (180 + 1 + f) (nI 1).toNatClampNeg = nI (kI s f 1) from (ldE rfl (by omega) (hS.2.2.2.2 f (by omega) 1 (by omega))))) ?_
        refine hAt 2 _ _ _ _ _ _ ?_
        refine And.intro (fun hq => ?_) (fun hq => ?_)
        · have c33 : ¬ kI s f 1 = y := fun zq => hq ((eqN (a := kI s f 1) (b := y) rfl rfl (by omega) (by omega)).mpr zq)
          clear hq
          refine hAt 2 _ _ _ _ _ _ ?_
          refine Eq.mpr (congrArg (fun xq : Int32 => At 2 [.ref (108), .int (nI x), .int (nI y), .int xq] [] σ 0 0) (show nI f + nI 1 = nI (f + 1) from (adE rfl rfl))) ?_
          exact ih c9 (nxt (fun z => c33 z.2))
        · have c33 : kI s f 1 = y := (eqN (a := kI s f 1) (b := y) rfl rfl (by omega) (by omega)).mp hq
          clear hq
          refine hAt 2 _ _ _ _ _ _ ?_
          rw [icA_hit ⟨c21, c33⟩ hno _ c9] at hP
          exact hP
  refine hAt 2 _ _ _ _ _ _ ?_
  exact loop 0 (Nat.zero_le _) (fun j hj => absurd hj (Nat.not_lt_zero j))
set_option maxRecDepth 4000 in
theorem s_lands {D : Dy} {h x y a : Nat} {can : Bool} {r : Nat → Nat} {hf : Nat → Nat} (hS0 : skM σ0 s) (hv : VS s) (hh : h < 50) (hx8 : x ≤ 8) (hy8 : y ≤ 8) (hc : eM σ0 s hf D σ) (ha : ∀ o, o < 8 → rI σ a o = nI (r o)) (hA : ∀ τ : Mem, τ.2 = σ.2 → ∀ i, i < 8 → aOK true τ a 12 (nI i)) (haw : (254 ≤ a ∧ a < 318) ∨ 368 ≤ a) (hr : sumN r 8 ≤ 7992) (hth : ∀ f, f < kT s 3 → gN D 3 f ≤ 99) (hkp : ∀ g, g < 3 → rs D (16 + g) ≤ 7992)
    (hP : ∀ τ, eM σ0 s hf (ldX1 s h can x y D r) τ → τ.2 = σ.2 → (∀ b j, (254 ≤ b ∧ b < 318) ∨ 368 ≤ b → rI τ b j = rI σ b j) → P none τ) : Ret w true (d + 2) 0 0 m_Mo_lands [.ref 108, .int (nI x), .int (nI y), .ref a, .int (nI h), .int (bI can)] σ P X := by
  have hn := hv.2.2.1
  have hF := hv.2.2.2.1
  have hG := hv.2.2.2.2.1
  have hv' := hv
  obtain ⟨-, -, -, -, -, -, s6, s7, hH8, hH9, -⟩ := hv'
  have bF := hv.2.2.2.2.2.2.2.2.2.2.2.2.2.1
  have bG := hv.2.2.2.2.2.2.2.2.2.2.2.2.2.2
  have hrb : ∀ o, o < 8 → r o ≤ 7992 := fun o ho => Nat.le_trans (sumN_mem (f := r) 8 o ho) hr
  have hm8 : moF r < 8 := Nat.lt_succ_of_le (moI_lt _ 7)
  have hS := hc.sk hS0 hv
  refine meth_ok k_Mo_lands q_Mo_lands rfl fun At hAt => ?_
  have lice : ∀ g, icH s h x y = some g → g < 3 → sumN r 8 ≠ 0 → ∀ z6 z7 z10 z11 o, o ≤ 8 → ∀ τ, eM σ0 s hf (sR D (16 + g) (fun i => if i < o then gN D (16 + g) i + r i else gN D (16 + g) i)) τ → τ.2 = σ.2 → (∀ b j, (254 ≤ b ∧ b < 318) ∨ 368 ≤ b → rI τ b j = rI σ b j) → At 51 [.ref 108, .int (nI x), .int (nI y), .ref a, .int (nI h), .int (bI can), z6, .int z7, .int (nI g), .int (nI o), z10, z11] [] τ 0 0 := by
    intro g hg hg3 hs0 z6 z7 z10 z11
    have hkb : ∀ o, o < 8 → gN D (16 + g) o ≤ 7992 := fun o ho => Nat.le_trans (gN_rs ho) (hkp g hg3)
    refine upto fun o ho ih => ?_
    intro τ hx t2 t3
    have ra : o < 8 → rI τ a o = nI (r o) := fun q => by rw [t3 a o haw]; exact ha o q
    have rk : o < 8 → rI τ (318 + 1 + g) o = nI (gN D (16 + g) o) := fun q => by rw [hx.kep g o hg3 q, gR_eq q, if_neg (by omega)]
    have hro := hrb o
    have hko := hkb o
    refine hAt 3 _ _ _ _ _ _ ?_
    refine And.intro (fun hq => ?_) (fun hq => ?_)
    · have c55 : 8 ≤ o := (leN (a := 8) (b := o) rfl rfl (by omega) (by omega)).mp hq
      clear hq
      refine hAt 1 _ _ _ _ _ _ ?_
      have e : o = 8 := by omega
      subst e
      have e2 : ldX1 s h can x y D r = sR D (16 + g) (fun i => if i < 8 then gN D (16 + g) i + r i else gN D (16 + g) i) := by
        unfold ldX1
        rw [if_neg hs0, hg]
        refine Dy.ext (fun b j => ?_) (fun _ _ => rfl)
        show gN (sR D (16 + g) _) b j = _
        rw [gN_sR, gN_sR]
        by_cases q : b = 16 + g ∧ j < 8
        · rw [if_pos q, if_pos q, if_pos q.2]
        · rw [if_neg q, if_neg q]
      exact hP τ (by rw [e2]; exact hx) t2 t3
    · have c55 : o < 8 := Nat.lt_of_not_le (fun zq => hq ((leN (a := 8) (b := o) rfl rfl (by omega) (by omega)).mpr zq))
      clear hq
      have hro := hro c55
      have hko := hko c55
      refine hAt 4 _ _ _ _ _ _ ?_
      refine And.intro (mx_r (q := 318) (n := 3) (k := 8) rfl rfl (show g < 3 by omega)) (And.intro (Or.inl rfl) ?_)
      refine Eq.mpr (congrArg (fun xq : Nat => At 65 [.ref (108), .int (nI x), .int (nI y), .ref (a), .int (nI h), .int (bI can), z6, .int (z7), .int (nI g), .int (nI o), z10, z11] [.ref xq] τ 0 0) (rwE rfl (by omega))) ?_
      refine hAt 3 _ _ _ _ _ _ ?_
      refine And.intro (mx_e (q := 318) (n := 3) (k := 8) (j := g) (i := o) rfl (by omega) (by omega) rfl) ?_
      refine Eq.mpr (congrArg (fun xq : Int32 => At 69 [.ref (108), .int (nI x), .int (nI y), .ref (a), .int (nI h), .int (bI can), z6, .int (z7), .int (nI g), .int (nI o), z10, z11] [.int xq, .int (nI o), .ref (318 + 1 + g)] τ 0 0) (show rI τ (318 + 1 + g) (nI o).toNatClampNeg = nI (gN D (16 + g) o) from (ldE rfl (by omega) (rk (by omega))))) ?_
      refine hAt 3 _ _ _ _ _ _ ?_
      refine And.intro (hA _ t2 o (by omega)) ?_
      refine Eq.mpr (congrArg (fun xq : Int32 => At 73 [.ref (108), .int (nI x), .int (nI y), .ref (a), .int (nI h), .int (bI can), z6, .int (z7), .int (nI g), .int (nI o), z10, z11] [.int xq, .int (nI (gN D (16 + g) o)), .int (nI o), .ref (318 + 1 + g)] τ 0 0) (show rI τ a (nI o).toNatClampNeg = nI (r o) from (ldE rfl (by omega) (ra (by omega))))) ?_
      refine hAt 2 _ _ _ _ _ _ ?_
      refine And.intro (mx_e (q := 318) (n := 3) (k := 8) (j := g) (i := o) rfl (by omega) (by omega) rfl) ?_
      refine Eq.mpr (congrArg (fun xq : Mem => At 75 [.ref (108), .int (nI x), .int (nI y), .ref (a), .int (nI h), .int (bI can), z6, .int (z7), .int (nI g), .int (nI o), z10, z11] [] xq 0 0) (wrE (σ := τ) (q := 318 + 1 + g) (p := rfl) (hj := by omega) (h := (adE rfl rfl)))) ?_
      refine hAt 2 _ _ _ _ _ _ ?_
      refine Eq.mpr (congrArg (fun xq : Int32 => At 51 [.ref (108), .int (nI x), .int (nI y), .ref (a), .int (nI h), .int (bI can), z6, .int (z7), .int (nI g), .int xq, z10, z11] [] (wI τ (318 + 1 + g) o (nI (gN D (16 + g) o + (r o)))) 0 0) (show nI o + nI 1 = nI (o + 1) from (adE rfl rfl))) ?_
      refine ih c55 _ ?_ t2 (fun b j u => ?_)
      · have q := hx.wkep (v := gN D (16 + g) o + r o) hg3 c55 hn hF
        have e2 : sN (sR D (16 + g) (fun i => if i < o then gN D (16 + g) i + r i else gN D (16 + g) i)) (16 + g) o (gN D (16 + g) o + r o) = sR D (16 + g) (fun i => if i < o + 1 then gN D (16 + g) i + r i else gN D (16 + g) i) := by
          refine Dy.ext (fun b j => ?_) (fun _ _ => rfl)
          rw [gN_sN, gN_sR, gN_sR]
          by_cases q1 : b = 16 + g ∧ j < 8
          · rw [if_pos q1, if_pos q1]
            by_cases q2 : j = o
            · rw [if_pos ⟨q1.1, q2⟩, if_pos (by omega), q2]
            · rw [if_neg (fun z => q2 z.2)]
              by_cases q3 : j < o
              · rw [if_pos q3, if_pos (by omega)]
              · rw [if_neg q3, if_neg (by omega)]
          · rw [if_neg (fun z => q1 (by omega)), if_neg q1, if_neg q1]
        rw [e2] at q
        exact q
      · rw [rI_wI, if_neg (by omega)]; exact t3 b j u
  have lf : ∀ f, fdA s x y (kT s 3) = some f → f < kT s 3 → icH s h x y = none → sumN r 8 ≠ 0 → ∀ z6 z8 o, o ≤ 8 → ∀ z10 z11 τ, eM σ0 s hf (addD (sN D 3 f (thp (gN D 3 f) r o)) (fun b j => hlR s h can D r f b j + skD s f (gN D 3 f) r o b j)) τ → τ.2 = σ.2 → (∀ b j, (254 ≤ b ∧ b < 318) ∨ 368 ≤ b → rI τ b j = rI σ b j) → At 199 [.ref 108, .int (nI x), .int (nI y), .ref a, .int (nI h), .int (bI can), z6, .int (nI f), .int z8, .int (nI o), z10, z11] [] τ 0 0 := by
    intro f hff hfl hg hs0 z6 z8
    have b := bF f hfl
    have htf := hth f hfl
    refine upto fun o ho ih => ?_
    intro z10 z11 τ hx t2 t3
    have ra : o < 8 → rI τ a o = nI (r o) := fun q => by rw [t3 a o haw]; exact ha o q
    have hro := hrb o
    obtain ⟨T, eT⟩ : ∃ T, T = thp (gN D 3 f) r o := ⟨_, rfl⟩
    have hT : T ≤ 99 := by rw [eT]; exact Nat.le_trans (thp_le _ _ _) htf
    obtain ⟨E, hE⟩ : ∃ E, E = addD (sN D 3 f T) (fun b j => hlR s h can D r f b j + skD s f (gN D 3 f) r o b j) := ⟨_, rfl⟩
    rw [← eT, ← hE] at hx
    have hS := hx.sk hS0 hv
    have rt : rI τ 331 f = nI T := by rw [hx.thi f hfl, hE, gN_addD, gN_eq]
    have at234 : o < 8 → ∀ z10 z11 n, n = min (r o) T → At 234 [.ref 108, .int (nI x), .int (nI y), .ref a, .int (nI h), .int (bI can), z6, .int (nI f), .int z8, .int (nI o), z10, z11] [.int (nI n)] τ 0 0 := by
      intro ho8 z10 z11 n hn2
      have hro := hro ho8
      have hnT : n ≤ T ∧ n ≤ r o := by omega
      refine hAt 4 _ _ _ _ _ _ ?_
      refine And.intro (hA _ t2 o (by omega)) ?_
      refine Eq.mpr (congrArg (fun xq : Int32 => At 240 [.ref (108), .int (nI x), .int (nI y), .ref (a), .int (nI h), .int (bI can), z6, .int (nI f), .int (z8), .int (nI o), .int (nI n), z11] [.int xq] τ 0 0) (show rI τ a (nI o).toNatClampNeg = nI (r o) from (ldE rfl (by omega) (ra (by omega))))) ?_
      refine hAt 3 _ _ _ _ _ _ ?_
      refine Eq.mpr (congrArg (fun xq : Int32 => At 245 [.ref (108), .int (nI x), .int (nI y), .ref (a), .int (nI h), .int (bI can), z6, .int (nI f), .int (z8), .int (nI o), .int (nI n), .int xq] [] τ 0 0) (show (nI (r o)) - nI n = nI ((r o) - n) from (sbE rfl rfl (by omega)))) ?_
      refine hAt 5 _ _ _ _ _ _ ?_
      refine And.intro (aOKx (n := 12) (j := f) rfl (by decide) rfl rfl (by omega) (by omega)) ?_
      refine Eq.mpr (congrArg (fun xq : Int32 => At 253 [.ref (108), .int (nI x), .int (nI y), .ref (a), .int (nI h), .int (bI can), z6, .int (nI f), .int (z8), .int (nI o), .int (nI n), .int (nI ((r o) - n))] [.int xq, .int (nI f), .ref (331)] τ 0 0) (show rI τ 331 (nI f).toNatClampNeg = nI T from (ldE rfl (by omega) rt))) ?_
      refine hAt 3 _ _ _ _ _ _ ?_
      refine And.intro (aOKx (n := 12) (j := f) rfl (by decide) rfl rfl (by omega) (by omega)) ?_
      refine Eq.mpr (congrArg (fun xq : Mem => At 257 [.ref (108), .int (nI x), .int (nI y), .ref (a), .int (nI h), .int (bI can), z6, .int (nI f), .int (z8), .int (nI o), .int (nI n), .int (nI ((r o) - n))] [] xq 0 0) (wrE (σ := τ) (q := 331) (p := rfl) (hj := by omega) (h := (sbE rfl rfl (by omega))))) ?_
      refine hAt 3 _ _ _ _ _ _ ?_
      refine Eq.mpr (congrArg (fun xq : Int32 => At 262 [.ref (108), .int (nI x), .int (nI y), .ref (a), .int (nI h), .int (bI can), z6, .int (nI f), .int (z8), .int (nI o), .int (nI n), .int (nI ((r o) - n))] [.int xq, .ref (108)] (wI τ 331 f (nI (T - n))) 0 0) (show rI (wI τ 331 f (nI (T - n))) 108 44 = gD E 0 3 from (by rw [rI_wI, if_neg (by omega)]; exact hx.tak))) ?_
      refine hAt 7 _ _ _ _ _ _ ?_
      refine And.intro (mx_r (q := 322) (n := 8) (k := 3) rfl rfl (show o < 8 by omega)) (And.intro (Or.inl rfl) ?_)
      refine Eq.mpr (congrArg (fun xq : Nat => At 275 [.ref (108), .int (nI x), .int (nI y), .ref (a), .int (nI h), .int (bI can), z6, .int (nI f), .int (z8), .int (nI o), .int (nI n), .int (nI ((r o) - n))] [.ref xq] (wI (wI τ 331 f (nI (T - n))) 108 44 ((gD E 0 3) + nI n)) 0 0) (rwE rfl (by omega))) ?_
      refine hAt 3 _ _ _ _ _ _ ?_
      refine And.intro (mx_e (q := 322) (n := 8) (k := 3) (j := o) (i := 0) rfl (by omega) (by omega) rfl) ?_
      refine Eq.mpr (congrArg (fun xq : Int32 => At 278 [.ref (108), .int (nI x), .int (nI y), .ref (a), .int (nI h), .int (bI can), z6, .int (nI f), .int (z8), .int (nI o), .int (nI n), .int (nI ((r o) - n))] [.int xq, .int (nI 0), .ref (322 + 1 + o)] (wI (wI τ 331 f (nI (T - n))) 108 44 ((gD E 0 3) + nI n)) 0 0) (show rI (wI (wI τ 331 f (nI (T - n))) 108 44 ((gD E 0 3) + nI n)) (322 + 1 + o) (nI 0).toNatClampNeg = gD E 3 o from (ldE rfl (by omega) (by rw [rI_wI, if_neg (by omega), rI_wI, if_neg (by omega)]; exact (hx.acc o 0 (by omega) (by omega)))))) ?_
      refine hAt 5 _ _ _ _ _ _ ?_
      refine And.intro (mx_r (q := 163) (n := 12) (k := 6) rfl rfl (show f < 12 by omega)) (And.intro (Or.inl rfl) ?_)
      refine Eq.mpr (congrArg (fun xq : Nat => At 287 [.ref (108), .int (nI x), .int (nI y), .ref (a), .int (nI h), .int (bI can), z6, .int (nI f), .int (z8), .int (nI o), .int (nI n), .int (nI ((r o) - n))] [.ref xq, .int (nI n), .int (gD E 3 o), .int (nI 0), .ref (322 + 1 + o)] (wI (wI τ 331 f (nI (T - n))) 108 44 ((gD E 0 3) + nI n)) 0 0) (rwE rfl (by omega))) ?_
      refine hAt 2 _ _ _ _ _ _ ?_
      refine And.intro (mx_e (q := 163) (n := 12) (k := 6) (j := f) (i := 5) rfl (by omega) (by omega) rfl) ?_
      refine Eq.mpr (congrArg (fun xq : Int32 => At 289 [.ref (108), .int (nI x), .int (nI y), .ref (a), .int (nI h), .int (bI can), z6, .int (nI f), .int (z8), .int (nI o), .int (nI n), .int (nI ((r o) - n))] [.int xq, .int (nI n), .int (gD E 3 o), .int (nI 0), .ref (322 + 1 + o)] (wI (wI τ 331 f (nI (T - n))) 108 44 ((gD E 0 3) + nI n)) 0 0) (show rI (wI (wI τ 331 f (nI (T - n))) 108 44 ((gD E 0 3) + nI n)) (163 + 1 + f) (nI 5).toNatClampNeg = nI (kF s f 5) from (ldE rfl (by omega) (by rw [rI_wI, if_neg (by omega), rI_wI, if_neg (by omega)]; exact (hS.2.2.2.1 f (by omega) 5 (by omega)))))) ?_
      refine hAt 3 _ _ _ _ _ _ ?_
      refine And.intro (mx_e (q := 322) (n := 8) (k := 3) (j := o) (i := 0) rfl (by omega) (by omega) rfl) ?_
      refine Eq.mpr (congrArg (fun xq : Mem => At 292 [.ref (108), .int (nI x), .int (nI y), .ref (a), .int (nI h), .int (bI can), z6, .int (nI f), .int (z8), .int (nI o), .int (nI n), .int (nI ((r o) - n))] [] xq 0 0) (wrE (σ := (wI (wI τ 331 f (nI (T - n))) 108 44 ((gD E 0 3) + nI n))) (q := 322 + 1 + o) (p := rfl) (hj := by omega) (h := rfl))) ?_
      refine hAt 6 _ _ _ _ _ _ ?_
      refine And.intro (mx_r (q := 163) (n := 12) (k := 6) rfl rfl (show f < 12 by omega)) (And.intro (Or.inl rfl) ?_)
      refine Eq.mpr (congrArg (fun xq : Nat => At 303 [.ref (108), .int (nI x), .int (nI y), .ref (a), .int (nI h), .int (bI can), z6, .int (nI f), .int (z8), .int (nI o), .int (nI n), .int (nI ((r o) - n))] [.ref xq, .ref (334)] (wI (wI (wI τ 331 f (nI (T - n))) 108 44 ((gD E 0 3) + nI n)) (322 + 1 + o) 0 ((gD E 3 o) + (nI n * (nI (kF s f 5))))) 0 0) (rwE rfl (by omega))) ?_
      refine hAt 2 _ _ _ _ _ _ ?_
      refine And.intro (mx_e (q := 163) (n := 12) (k := 6) (j := f) (i := 2) rfl (by omega) (by omega) rfl) ?_
      refine Eq.mpr (congrArg (fun xq : Int32 => At 305 [.ref (108), .int (nI x), .int (nI y), .ref (a), .int (nI h), .int (bI can), z6, .int (nI f), .int (z8), .int (nI o), .int (nI n), .int (nI ((r o) - n))] [.int xq, .ref (334)] (wI (wI (wI τ 331 f (nI (T - n))) 108 44 ((gD E 0 3) + nI n)) (322 + 1 + o) 0 ((gD E 3 o) + (nI n * (nI (kF s f 5))))) 0 0) (show rI (wI (wI (wI τ 331 f (nI (T - n))) 108 44 ((gD E 0 3) + nI n)) (322 + 1 + o) 0 ((gD E 3 o) + (nI n * (nI (kF s f 5))))) (163 + 1 + f) (nI 2).toNatClampNeg = nI (kF s f 2) from (ldE rfl (by omega) (by rw [rI_wI, if_neg (by omega), rI_wI, if_neg (by omega), rI_wI, if_neg (by omega)]; exact (hS.2.2.2.1 f (by omega) 2 (by omega)))))) ?_
      refine hAt 2 _ _ _ _ _ _ ?_
      refine And.intro (aOKx (n := 8) (j := (kF s f 2)) rfl (by decide) rfl rfl (by omega) (by omega)) ?_
      refine Eq.mpr (congrArg (fun xq : Int32 => At 307 [.ref (108), .int (nI x), .int (nI y), .ref (a), .int (nI h), .int (bI can), z6, .int (nI f), .int (z8), .int (nI o), .int (nI n), .int (nI ((r o) - n))] [.int xq, .int (nI (kF s f 2)), .ref (334)] (wI (wI (wI τ 331 f (nI (T - n))) 108 44 ((gD E 0 3) + nI n)) (322 + 1 + o) 0 ((gD E 3 o) + (nI n * (nI (kF s f 5))))) 0 0) (show rI (wI (wI (wI τ 331 f (nI (T - n))) 108 44 ((gD E 0 3) + nI n)) (322 + 1 + o) 0 ((gD E 3 o) + (nI n * (nI (kF s f 5))))) 334 (nI (kF s f 2)).toNatClampNeg = gD E 6 (kF s f 2) from (ldE rfl (by omega) (by rw [rI_wI, if_neg (by omega), rI_wI, if_neg (by omega), rI_wI, if_neg (by omega)]; exact (hx.pay _ (by omega)))))) ?_
      refine hAt 5 _ _ _ _ _ _ ?_
      refine And.intro (mx_r (q := 163) (n := 12) (k := 6) rfl rfl (show f < 12 by omega)) (And.intro (Or.inl rfl) ?_)
      refine Eq.mpr (congrArg (fun xq : Nat => At 316 [.ref (108), .int (nI x), .int (nI y), .ref (a), .int (nI h), .int (bI can), z6, .int (nI f), .int (z8), .int (nI o), .int (nI n), .int (nI ((r o) - n))] [.ref xq, .int (nI n), .int (gD E 6 (kF s f 2)), .int (nI (kF s f 2)), .ref (334)] (wI (wI (wI τ 331 f (nI (T - n))) 108 44 ((gD E 0 3) + nI n)) (322 + 1 + o) 0 ((gD E 3 o) + (nI n * (nI (kF s f 5))))) 0 0) (rwE rfl (by omega))) ?_
      refine hAt 2 _ _ _ _ _ _ ?_
      refine And.intro (mx_e (q := 163) (n := 12) (k := 6) (j := f) (i := 5) rfl (by omega) (by omega) rfl) ?_
      refine Eq.mpr (congrArg (fun xq : Int32 => At 318 [.ref (108), .int (nI x), .int (nI y), .ref (a), .int (nI h), .int (bI can), z6, .int (nI f), .int (z8), .int (nI o), .int (nI n), .int (nI ((r o) - n))] [.int xq, .int (nI n), .int (gD E 6 (kF s f 2)), .int (nI (kF s f 2)), .ref (334)] (wI (wI (wI τ 331 f (nI (T - n))) 108 44 ((gD E 0 3) + nI n)) (322 + 1 + o) 0 ((gD E 3 o) + (nI n * (nI (kF s f 5))))) 0 0) (show rI (wI (wI (wI τ 331 f (nI (T - n))) 108 44 ((gD E 0 3) + nI n)) (322 + 1 + o) 0 ((gD E 3 o) + (nI n * (nI (kF s f 5))))) (163 + 1 + f) (nI 5).toNatClampNeg = nI (kF s f 5) from (ldE rfl (by omega) (by rw [rI_wI, if_neg (by omega), rI_wI, if_neg (by omega), rI_wI, if_neg (by omega)]; exact (hS.2.2.2.1 f (by omega) 5 (by omega)))))) ?_
      refine hAt 3 _ _ _ _ _ _ ?_
      refine And.intro (aOKx (n := 8) (j := (kF s f 2)) rfl (by decide) rfl rfl (by omega) (by omega)) ?_
      refine Eq.mpr (congrArg (fun xq : Mem => At 321 [.ref (108), .int (nI x), .int (nI y), .ref (a), .int (nI h), .int (bI can), z6, .int (nI f), .int (z8), .int (nI o), .int (nI n), .int (nI ((r o) - n))] [] xq 0 0) (wrE (σ := (wI (wI (wI τ 331 f (nI (T - n))) 108 44 ((gD E 0 3) + nI n)) (322 + 1 + o) 0 ((gD E 3 o) + (nI n * (nI (kF s f 5)))))) (q := 334) (p := rfl) (hj := by omega) (h := rfl))) ?_
      refine hAt 3 _ _ _ _ _ _ ?_
      refine Eq.mpr (congrArg (fun xq : Int32 => At 326 [.ref (108), .int (nI x), .int (nI y), .ref (a), .int (nI h), .int (bI can), z6, .int (nI f), .int (z8), .int (nI o), .int (nI n), .int (nI ((r o) - n))] [.int xq, .ref (108)] (wI (wI (wI (wI τ 331 f (nI (T - n))) 108 44 ((gD E 0 3) + nI n)) (322 + 1 + o) 0 ((gD E 3 o) + (nI n * (nI (kF s f 5))))) 334 (kF s f 2) ((gD E 6 (kF s f 2)) + (nI n * (nI (kF s f 5))))) 0 0) (show rI (wI (wI (wI (wI τ 331 f (nI (T - n))) 108 44 ((gD E 0 3) + nI n)) (322 + 1 + o) 0 ((gD E 3 o) + (nI n * (nI (kF s f 5))))) 334 (kF s f 2) ((gD E 6 (kF s f 2)) + (nI n * (nI (kF s f 5))))) 108 45 = gD E 0 4 from (by rw [rI_wI, if_neg (by omega), rI_wI, if_neg (by omega), rI_wI, if_neg (by omega), rI_wI, if_neg (by omega)]; exact hx.fld))) ?_
      refine hAt 8 _ _ _ _ _ _ ?_
      refine And.intro (aOKx (n := 12) (j := f) rfl (by decide) rfl rfl (by omega) (by omega)) ?_
      refine Eq.mpr (congrArg (fun xq : Int32 => At 340 [.ref (108), .int (nI x), .int (nI y), .ref (a), .int (nI h), .int (bI can), z6, .int (nI f), .int (z8), .int (nI o), .int (nI n), .int (nI ((r o) - n))] [.int xq, .int (nI f), .ref (332)] (wI (wI (wI (wI (wI τ 331 f (nI (T - n))) 108 44 ((gD E 0 3) + nI n)) (322 + 1 + o) 0 ((gD E 3 o) + (nI n * (nI (kF s f 5))))) 334 (kF s f 2) ((gD E 6 (kF s f 2)) + (nI n * (nI (kF s f 5))))) 108 45 ((gD E 0 4) + (nI ((r o) - n)))) 0 0) (show rI (wI (wI (wI (wI (wI τ 331 f (nI (T - n))) 108 44 ((gD E 0 3) + nI n)) (322 + 1 + o) 0 ((gD E 3 o) + (nI n * (nI (kF s f 5))))) 334 (kF s f 2) ((gD E 6 (kF s f 2)) + (nI n * (nI (kF s f 5))))) 108 45 ((gD E 0 4) + (nI ((r o) - n)))) 332 (nI f).toNatClampNeg = gD E 1 f from (ldE rfl (by omega) (by rw [rI_wI, if_neg (by omega), rI_wI, if_neg (by omega), rI_wI, if_neg (by omega), rI_wI, if_neg (by omega), rI_wI, if_neg (by omega)]; exact (hx.flo f hfl))))) ?_
      refine hAt 3 _ _ _ _ _ _ ?_
      refine And.intro (aOKx (n := 12) (j := f) rfl (by decide) rfl rfl (by omega) (by omega)) ?_
      refine Eq.mpr (congrArg (fun xq : Mem => At 344 [.ref (108), .int (nI x), .int (nI y), .ref (a), .int (nI h), .int (bI can), z6, .int (nI f), .int (z8), .int (nI o), .int (nI n), .int (nI ((r o) - n))] [] xq 0 0) (wrE (σ := (wI (wI (wI (wI (wI τ 331 f (nI (T - n))) 108 44 ((gD E 0 3) + nI n)) (322 + 1 + o) 0 ((gD E 3 o) + (nI n * (nI (kF s f 5))))) 334 (kF s f 2) ((gD E 6 (kF s f 2)) + (nI n * (nI (kF s f 5))))) 108 45 ((gD E 0 4) + (nI ((r o) - n))))) (q := 332) (p := rfl) (hj := by omega) (h := rfl))) ?_
      refine hAt 4 _ _ _ _ _ _ ?_
      refine And.intro (mx_r (q := 322) (n := 8) (k := 3) rfl rfl (show o < 8 by omega)) (And.intro (Or.inl rfl) ?_)
      refine Eq.mpr (congrArg (fun xq : Nat => At 351 [.ref (108), .int (nI x), .int (nI y), .ref (a), .int (nI h), .int (bI can), z6, .int (nI f), .int (z8), .int (nI o), .int (nI n), .int (nI ((r o) - n))] [.ref xq] (wI (wI (wI (wI (wI (wI τ 331 f (nI (T - n))) 108 44 ((gD E 0 3) + nI n)) (322 + 1 + o) 0 ((gD E 3 o) + (nI n * (nI (kF s f 5))))) 334 (kF s f 2) ((gD E 6 (kF s f 2)) + (nI n * (nI (kF s f 5))))) 108 45 ((gD E 0 4) + (nI ((r o) - n)))) 332 f ((gD E 1 f) + (nI ((r o) - n)))) 0 0) (rwE rfl (by omega))) ?_
      refine hAt 3 _ _ _ _ _ _ ?_
      refine And.intro (mx_e (q := 322) (n := 8) (k := 3) (j := o) (i := 1) rfl (by omega) (by omega) rfl) ?_
      refine Eq.mpr (congrArg (fun xq : Int32 => At 354 [.ref (108), .int (nI x), .int (nI y), .ref (a), .int (nI h), .int (bI can), z6, .int (nI f), .int (z8), .int (nI o), .int (nI n), .int (nI ((r o) - n))] [.int xq, .int (nI 1), .ref (322 + 1 + o)] (wI (wI (wI (wI (wI (wI τ 331 f (nI (T - n))) 108 44 ((gD E 0 3) + nI n)) (322 + 1 + o) 0 ((gD E 3 o) + (nI n * (nI (kF s f 5))))) 334 (kF s f 2) ((gD E 6 (kF s f 2)) + (nI n * (nI (kF s f 5))))) 108 45 ((gD E 0 4) + (nI ((r o) - n)))) 332 f ((gD E 1 f) + (nI ((r o) - n)))) 0 0) (show rI (wI (wI (wI (wI (wI (wI τ 331 f (nI (T - n))) 108 44 ((gD E 0 3) + nI n)) (322 + 1 + o) 0 ((gD E 3 o) + (nI n * (nI (kF s f 5))))) 334 (kF s f 2) ((gD E 6 (kF s f 2)) + (nI n * (nI (kF s f 5))))) 108 45 ((gD E 0 4) + (nI ((r o) - n)))) 332 f ((gD E 1 f) + (nI ((r o) - n)))) (322 + 1 + o) (nI 1).toNatClampNeg = gD E 4 o from (ldE rfl (by omega) (by rw [rI_wI, if_neg (by omega), rI_wI, if_neg (by omega), rI_wI, if_neg (by omega), rI_wI, if_neg (by omega), rI_wI, if_neg (by omega), rI_wI, if_neg (by omega)]; exact (hx.acc o 1 (by omega) (by omega)))))) ?_
      refine hAt 5 _ _ _ _ _ _ ?_
      refine And.intro (aOKx (n := 11) (j := 9) rfl (by decide) rfl rfl (by omega) (by omega)) ?_
      refine Eq.mpr (congrArg (fun xq : Int32 => At 363 [.ref (108), .int (nI x), .int (nI y), .ref (a), .int (nI h), .int (bI can), z6, .int (nI f), .int (z8), .int (nI o), .int (nI n), .int (nI ((r o) - n))] [.int xq, .int (nI ((r o) - n)), .int (gD E 4 o), .int (nI 1), .ref (322 + 1 + o)] (wI (wI (wI (wI (wI (wI τ 331 f (nI (T - n))) 108 44 ((gD E 0 3) + nI n)) (322 + 1 + o) 0 ((gD E 3 o) + (nI n * (nI (kF s f 5))))) 334 (kF s f 2) ((gD E 6 (kF s f 2)) + (nI n * (nI (kF s f 5))))) 108 45 ((gD E 0 4) + (nI ((r o) - n)))) 332 f ((gD E 1 f) + (nI ((r o) - n)))) 0 0) (show rI (wI (wI (wI (wI (wI (wI τ 331 f (nI (T - n))) 108 44 ((gD E 0 3) + nI n)) (322 + 1 + o) 0 ((gD E 3 o) + (nI n * (nI (kF s f 5))))) 334 (kF s f 2) ((gD E 6 (kF s f 2)) + (nI n * (nI (kF s f 5))))) 108 45 ((gD E 0 4) + (nI ((r o) - n)))) 332 f ((gD E 1 f) + (nI ((r o) - n)))) 111 (nI 9).toNatClampNeg = nI (kT s 9) from (ldE rfl (by omega) (by rw [rI_wI, if_neg (by omega), rI_wI, if_neg (by omega), rI_wI, if_neg (by omega), rI_wI, if_neg (by omega), rI_wI, if_neg (by omega), rI_wI, if_neg (by omega)]; exact (hS.1 9 (by omega)))))) ?_
      refine hAt 3 _ _ _ _ _ _ ?_
      refine And.intro (mx_e (q := 322) (n := 8) (k := 3) (j := o) (i := 1) rfl (by omega) (by omega) rfl) ?_
      refine Eq.mpr (congrArg (fun xq : Mem => At 366 [.ref (108), .int (nI x), .int (nI y), .ref (a), .int (nI h), .int (bI can), z6, .int (nI f), .int (z8), .int (nI o), .int (nI n), .int (nI ((r o) - n))] [] xq 0 0) (wrE (σ := (wI (wI (wI (wI (wI (wI τ 331 f (nI (T - n))) 108 44 ((gD E 0 3) + nI n)) (322 + 1 + o) 0 ((gD E 3 o) + (nI n * (nI (kF s f 5))))) 334 (kF s f 2) ((gD E 6 (kF s f 2)) + (nI n * (nI (kF s f 5))))) 108 45 ((gD E 0 4) + (nI ((r o) - n)))) 332 f ((gD E 1 f) + (nI ((r o) - n))))) (q := 322 + 1 + o) (p := rfl) (hj := by omega) (h := rfl))) ?_
      refine hAt 6 _ _ _ _ _ _ ?_
      refine And.intro (mx_r (q := 163) (n := 12) (k := 6) rfl rfl (show f < 12 by omega)) (And.intro (Or.inl rfl) ?_)
      refine Eq.mpr (congrArg (fun xq : Nat => At 377 [.ref (108), .int (nI x), .int (nI y), .ref (a), .int (nI h), .int (bI can), z6, .int (nI f), .int (z8), .int (nI o), .int (nI n), .int (nI ((r o) - n))] [.ref xq, .ref (335)] (wI (wI (wI (wI (wI (wI (wI τ 331 f (nI (T - n))) 108 44 ((gD E 0 3) + nI n)) (322 + 1 + o) 0 ((gD E 3 o) + (nI n * (nI (kF s f 5))))) 334 (kF s f 2) ((gD E 6 (kF s f 2)) + (nI n * (nI (kF s f 5))))) 108 45 ((gD E 0 4) + (nI ((r o) - n)))) 332 f ((gD E 1 f) + (nI ((r o) - n)))) (322 + 1 + o) 1 ((gD E 4 o) + ((nI ((r o) - n)) * (nI (kT s 9))))) 0 0) (rwE rfl (by omega))) ?_
      refine hAt 2 _ _ _ _ _ _ ?_
      refine And.intro (mx_e (q := 163) (n := 12) (k := 6) (j := f) (i := 2) rfl (by omega) (by omega) rfl) ?_
      refine Eq.mpr (congrArg (fun xq : Int32 => At 379 [.ref (108), .int (nI x), .int (nI y), .ref (a), .int (nI h), .int (bI can), z6, .int (nI f), .int (z8), .int (nI o), .int (nI n), .int (nI ((r o) - n))] [.int xq, .ref (335)] (wI (wI (wI (wI (wI (wI (wI τ 331 f (nI (T - n))) 108 44 ((gD E 0 3) + nI n)) (322 + 1 + o) 0 ((gD E 3 o) + (nI n * (nI (kF s f 5))))) 334 (kF s f 2) ((gD E 6 (kF s f 2)) + (nI n * (nI (kF s f 5))))) 108 45 ((gD E 0 4) + (nI ((r o) - n)))) 332 f ((gD E 1 f) + (nI ((r o) - n)))) (322 + 1 + o) 1 ((gD E 4 o) + ((nI ((r o) - n)) * (nI (kT s 9))))) 0 0) (show rI (wI (wI (wI (wI (wI (wI (wI τ 331 f (nI (T - n))) 108 44 ((gD E 0 3) + nI n)) (322 + 1 + o) 0 ((gD E 3 o) + (nI n * (nI (kF s f 5))))) 334 (kF s f 2) ((gD E 6 (kF s f 2)) + (nI n * (nI (kF s f 5))))) 108 45 ((gD E 0 4) + (nI ((r o) - n)))) 332 f ((gD E 1 f) + (nI ((r o) - n)))) (322 + 1 + o) 1 ((gD E 4 o) + ((nI ((r o) - n)) * (nI (kT s 9))))) (163 + 1 + f) (nI 2).toNatClampNeg = nI (kF s f 2) from (ldE rfl (by omega) (by rw [rI_wI, if_neg (by omega), rI_wI, if_neg (by omega), rI_wI, if_neg (by omega), rI_wI, if_neg (by omega), rI_wI, if_neg (by omega), rI_wI, if_neg (by omega), rI_wI, if_neg (by omega)]; exact (hS.2.2.2.1 f (by omega) 2 (by omega)))))) ?_
      refine hAt 2 _ _ _ _ _ _ ?_
      refine And.intro (aOKx (n := 8) (j := (kF s f 2)) rfl (by decide) rfl rfl (by omega) (by omega)) ?_
      refine Eq.mpr (congrArg (fun xq : Int32 => At 381 [.ref (108), .int (nI x), .int (nI y), .ref (a), .int (nI h), .int (bI can), z6, .int (nI f), .int (z8), .int (nI o), .int (nI n), .int (nI ((r o) - n))] [.int xq, .int (nI (kF s f 2)), .ref (335)] (wI (wI (wI (wI (wI (wI (wI τ 331 f (nI (T - n))) 108 44 ((gD E 0 3) + nI n)) (322 + 1 + o) 0 ((gD E 3 o) + (nI n * (nI (kF s f 5))))) 334 (kF s f 2) ((gD E 6 (kF s f 2)) + (nI n * (nI (kF s f 5))))) 108 45 ((gD E 0 4) + (nI ((r o) - n)))) 332 f ((gD E 1 f) + (nI ((r o) - n)))) (322 + 1 + o) 1 ((gD E 4 o) + ((nI ((r o) - n)) * (nI (kT s 9))))) 0 0) (show rI (wI (wI (wI (wI (wI (wI (wI τ 331 f (nI (T - n))) 108 44 ((gD E 0 3) + nI n)) (322 + 1 + o) 0 ((gD E 3 o) + (nI n * (nI (kF s f 5))))) 334 (kF s f 2) ((gD E 6 (kF s f 2)) + (nI n * (nI (kF s f 5))))) 108 45 ((gD E 0 4) + (nI ((r o) - n)))) 332 f ((gD E 1 f) + (nI ((r o) - n)))) (322 + 1 + o) 1 ((gD E 4 o) + ((nI ((r o) - n)) * (nI (kT s 9))))) 335 (nI (kF s f 2)).toNatClampNeg = gD E 7 (kF s f 2) from (ldE rfl (by omega) (by rw [rI_wI, if_neg (by omega), rI_wI, if_neg (by omega), rI_wI, if_neg (by omega), rI_wI, if_neg (by omega), rI_wI, if_neg (by omega), rI_wI, if_neg (by omega), rI_wI, if_neg (by omega)]; exact (hx.owe _ (by omega)))))) ?_
      refine hAt 5 _ _ _ _ _ _ ?_
      refine And.intro (aOKx (n := 11) (j := 9) rfl (by decide) rfl rfl (by omega) (by omega)) ?_
      refine Eq.mpr (congrArg (fun xq : Int32 => At 390 [.ref (108), .int (nI x), .int (nI y), .ref (a), .int (nI h), .int (bI can), z6, .int (nI f), .int (z8), .int (nI o), .int (nI n), .int (nI ((r o) - n))] [.int xq, .int (nI ((r o) - n)), .int (gD E 7 (kF s f 2)), .int (nI (kF s f 2)), .ref (335)] (wI (wI (wI (wI (wI (wI (wI τ 331 f (nI (T - n))) 108 44 ((gD E 0 3) + nI n)) (322 + 1 + o) 0 ((gD E 3 o) + (nI n * (nI (kF s f 5))))) 334 (kF s f 2) ((gD E 6 (kF s f 2)) + (nI n * (nI (kF s f 5))))) 108 45 ((gD E 0 4) + (nI ((r o) - n)))) 332 f ((gD E 1 f) + (nI ((r o) - n)))) (322 + 1 + o) 1 ((gD E 4 o) + ((nI ((r o) - n)) * (nI (kT s 9))))) 0 0) (show rI (wI (wI (wI (wI (wI (wI (wI τ 331 f (nI (T - n))) 108 44 ((gD E 0 3) + nI n)) (322 + 1 + o) 0 ((gD E 3 o) + (nI n * (nI (kF s f 5))))) 334 (kF s f 2) ((gD E 6 (kF s f 2)) + (nI n * (nI (kF s f 5))))) 108 45 ((gD E 0 4) + (nI ((r o) - n)))) 332 f ((gD E 1 f) + (nI ((r o) - n)))) (322 + 1 + o) 1 ((gD E 4 o) + ((nI ((r o) - n)) * (nI (kT s 9))))) 111 (nI 9).toNatClampNeg = nI (kT s 9) from (ldE rfl (by omega) (by rw [rI_wI, if_neg (by omega), rI_wI, if_neg (by omega), rI_wI, if_neg (by omega), rI_wI, if_neg (by omega), rI_wI, if_neg (by omega), rI_wI, if_neg (by omega), rI_wI, if_neg (by omega)]; exact (hS.1 9 (by omega)))))) ?_
      refine hAt 3 _ _ _ _ _ _ ?_
      refine And.intro (aOKx (n := 8) (j := (kF s f 2)) rfl (by decide) rfl rfl (by omega) (by omega)) ?_
      refine Eq.mpr (congrArg (fun xq : Mem => At 393 [.ref (108), .int (nI x), .int (nI y), .ref (a), .int (nI h), .int (bI can), z6, .int (nI f), .int (z8), .int (nI o), .int (nI n), .int (nI ((r o) - n))] [] xq 0 0) (wrE (σ := (wI (wI (wI (wI (wI (wI (wI τ 331 f (nI (T - n))) 108 44 ((gD E 0 3) + nI n)) (322 + 1 + o) 0 ((gD E 3 o) + (nI n * (nI (kF s f 5))))) 334 (kF s f 2) ((gD E 6 (kF s f 2)) + (nI n * (nI (kF s f 5))))) 108 45 ((gD E 0 4) + (nI ((r o) - n)))) 332 f ((gD E 1 f) + (nI ((r o) - n)))) (322 + 1 + o) 1 ((gD E 4 o) + ((nI ((r o) - n)) * (nI (kT s 9)))))) (q := 335) (p := rfl) (hj := by omega) (h := rfl))) ?_
      refine hAt 2 _ _ _ _ _ _ ?_
      refine Eq.mpr (congrArg (fun xq : Int32 => At 199 [.ref (108), .int (nI x), .int (nI y), .ref (a), .int (nI h), .int (bI can), z6, .int (nI f), .int (z8), .int xq, .int (nI n), .int (nI ((r o) - n))] [] (wI (wI (wI (wI (wI (wI (wI (wI τ 331 f (nI (T - n))) 108 44 ((gD E 0 3) + nI n)) (322 + 1 + o) 0 ((gD E 3 o) + (nI n * (nI (kF s f 5))))) 334 (kF s f 2) ((gD E 6 (kF s f 2)) + (nI n * (nI (kF s f 5))))) 108 45 ((gD E 0 4) + (nI ((r o) - n)))) 332 f ((gD E 1 f) + (nI ((r o) - n)))) (322 + 1 + o) 1 ((gD E 4 o) + ((nI ((r o) - n)) * (nI (kT s 9))))) 335 (kF s f 2) ((gD E 7 (kF s f 2)) + ((nI ((r o) - n)) * (nI (kT s 9))))) 0 0) (show nI o + nI 1 = nI (o + 1) from (adE rfl rfl))) ?_
      refine ih ho8 _ _ _ ?_ t2 (fun b j u => ?_)
      · have g1 := (((((((hx.wthi (v := T - n) hfl hn hF).wtak (v := gD E 0 3 + nI n) hn hF).wacc (v := gD E 3 o + nI n * nI (kF s f 5)) ho8 (show 0 < 3 by omega) hn hF).wpay (v := gD E 6 (kF s f 2) + nI n * nI (kF s f 5)) (show kF s f 2 < 7 by omega) hn hF).wfld (v := gD E 0 4 + nI (r o - n)) hn hF).wflo (v := gD E 1 f + nI (r o - n)) hfl hn hF).wacc (v := gD E 4 o + nI (r o - n) * nI (kT s 9)) ho8 (show 1 < 3 by omega) hn hF).wowe (v := gD E 7 (kF s f 2) + nI (r o - n) * nI (kT s 9)) (show kF s f 2 < 7 by omega) hn hF
        have e3 : thp (gN D 3 f) r (o + 1) = T - n := by rw [thp, ← eT, ← hn2]
        have eq : addD (sN D 3 f (thp (gN D 3 f) r (o + 1))) (fun b j => hlR s h can D r f b j + skD s f (gN D 3 f) r (o + 1) b j) = sD (sD (sD (sD (sD (sD (sD (sN E 3 f (T - n)) 0 3 (gD E 0 3 + nI n)) 3 o (gD E 3 o + nI n * nI (kF s f 5))) 6 (kF s f 2) (gD E 6 (kF s f 2) + nI n * nI (kF s f 5))) 0 4 (gD E 0 4 + nI (r o - n))) 1 f (gD E 1 f + nI (r o - n))) 4 o (gD E 4 o + nI (r o - n) * nI (kT s 9))) 7 (kF s f 2) (gD E 7 (kF s f 2) + nI (r o - n) * nI (kT s 9)) := by
          obtain ⟨E2, hE2⟩ : ∃ E2, E2 = sN E 3 f (T - n) := ⟨_, rfl⟩
          have gE : ∀ a b, gD E a b = gD E2 a b := fun a b => by rw [hE2]; rfl
          have e5 : E2 = addD (sN D 3 f (T - n)) (fun b j => hlR s h can D r f b j + skD s f (gN D 3 f) r o b j) := by
            rw [hE2, hE]
            refine Dy.ext (fun a b => ?_) (fun _ _ => rfl)
            rw [gN_sN, gN_addD, gN_addD, gN_sN, gN_sN]
            by_cases q : a = 3 ∧ b = f
            · rw [if_pos q, if_pos q]
            · rw [if_neg q, if_neg q, if_neg q]
          rw [← hE2, gE 0 3, gE 3 o, gE 6 _, gE 0 4, gE 1 f, gE 4 o, gE 7 _, e3]
          have e0 : sD E2 0 3 (gD E2 0 3 + nI n) = addD E2 (one 0 3 (nI n)) := by
            have := sD_addD (D := E2) (e := fun _ _ => 0) (t := 0) (i := 3) (x := nI n) rfl
            rw [addD_0 (fun _ _ => rfl)] at this
            rw [this]; exact addD_congr (fun a b => Int32.zero_add _)
          rw [e0, sD_addD (one_z (by omega)), sD_addD (by rw [one_z (by omega), one_z (by omega)]; rfl), sD_addD (by rw [one_z (by omega), one_z (by omega), one_z (by omega)]; rfl),
            sD_addD (by rw [one_z (by omega), one_z (by omega), one_z (by omega), one_z (by omega)]; rfl), sD_addD (by rw [one_z (by omega), one_z (by omega), one_z (by omega), one_z (by omega), one_z (by omega)]; rfl),
            sD_addD (by rw [one_z (by omega), one_z (by omega), one_z (by omega), one_z (by omega), one_z (by omega), one_z (by omega)]; rfl), e5, addD_addD]
          refine addD_congr (fun a b => ?_)
          show hlR s h can D r f a b + (skD s f (gN D 3 f) r o a b + sk1 s f o (min (r o) (thp (gN D 3 f) r o)) (r o - min (r o) (thp (gN D 3 f) r o)) a b) = _
          rw [← eT, ← hn2]
          unfold sk1
          ac_rfl
        rw [eq]
        exact g1
      · repeat rw [rI_wI, if_neg (by omega)]
        exact t3 b j u
    refine hAt 3 _ _ _ _ _ _ ?_
    refine And.intro (fun hq => ?_) (fun hq => ?_)
    · have c203 : 8 ≤ o := (leN (a := 8) (b := o) rfl rfl (by omega) (by omega)).mp hq
      clear hq
      refine hAt 1 _ _ _ _ _ _ ?_
      have e : o = 8 := by omega
      subst e
      have e2 : ldX1 s h can x y D r = E := by
        unfold ldX1
        rw [if_neg hs0, hg, hff, hE, eT]
        rfl
      exact hP τ (by rw [e2]; exact hx) t2 t3
    · have c203 : o < 8 := Nat.lt_of_not_le (fun zq => hq ((leN (a := 8) (b := o) rfl rfl (by omega) (by omega)).mpr zq))
      clear hq
      have hro := hro c203
      refine hAt 3 _ _ _ _ _ _ ?_
      refine And.intro (hA _ t2 o (by omega)) ?_
      refine Eq.mpr (congrArg (fun xq : Int32 => At 210 [.ref (108), .int (nI x), .int (nI y), .ref (a), .int (nI h), .int (bI can), z6, .int (nI f), .int (z8), .int (nI o), z10, z11] [.int xq] τ 0 0) (show rI τ a (nI o).toNatClampNeg = nI (r o) from (ldE rfl (by omega) (ra (by omega))))) ?_
      refine hAt 4 _ _ _ _ _ _ ?_
      refine And.intro (aOKx (n := 12) (j := f) rfl (by decide) rfl rfl (by omega) (by omega)) ?_
      refine Eq.mpr (congrArg (fun xq : Int32 => At 217 [.ref (108), .int (nI x), .int (nI y), .ref (a), .int (nI h), .int (bI can), z6, .int (nI f), .int (z8), .int (nI o), z10, z11] [.int xq, .int (nI (r o))] τ 0 0) (show rI τ 331 (nI f).toNatClampNeg = nI T from (ldE rfl (by omega) rt))) ?_
      refine hAt 1 _ _ _ _ _ _ ?_
      refine And.intro (fun hq => ?_) (fun hq => ?_)
      · have c217 : T ≤ r o := (leN (a := T) (b := r o) rfl rfl (by omega) (by omega)).mp hq
        clear hq
        refine hAt 4 _ _ _ _ _ _ ?_
        refine And.intro (aOKx (n := 12) (j := f) rfl (by decide) rfl rfl (by omega) (by omega)) ?_
        refine Eq.mpr (congrArg (fun xq : Int32 => At 234 [.ref (108), .int (nI x), .int (nI y), .ref (a), .int (nI h), .int (bI can), z6, .int (nI f), .int (z8), .int (nI o), z10, z11] [.int xq] τ 0 0) (show rI τ 331 (nI f).toNatClampNeg = nI T from (ldE rfl (by omega) rt))) ?_
        exact at234 c203 _ _ _ (by omega)
      · have c217 : r o < T := Nat.lt_of_not_le (fun zq => hq ((leN (a := T) (b := r o) rfl rfl (by omega) (by omega)).mpr zq))
        clear hq
        refine hAt 3 _ _ _ _ _ _ ?_
        refine And.intro (hA _ t2 o (by omega)) ?_
        refine Eq.mpr (congrArg (fun xq : Int32 => At 224 [.ref (108), .int (nI x), .int (nI y), .ref (a), .int (nI h), .int (bI can), z6, .int (nI f), .int (z8), .int (nI o), z10, z11] [.int xq] τ 0 0) (show rI τ a (nI o).toNatClampNeg = nI (r o) from (ldE rfl (by omega) (ra (by omega))))) ?_
        refine hAt 1 _ _ _ _ _ _ ?_
        exact at234 c203 _ _ _ (by omega)
  have nol : ∀ f, f < kT s 3 → hlR s h can D r f = (fun _ _ => 0) → addD (sN D 3 f (thp (gN D 3 f) r 0)) (fun b j => hlR s h can D r f b j + skD s f (gN D 3 f) r 0 b j) = D := fun f hfl q => by
    rw [q]
    refine Dy.ext (fun b j => ?_) (fun b j => ?_)
    · rw [gN_addD, gN_sN]
      by_cases z : b = 3 ∧ j = f
      · rw [if_pos z, z.1, z.2]; rfl
      · rw [if_neg z]
    · rw [gD_addD]; show gD D b j + (0 + 0) = gD D b j; rw [Int32.add_zero, Int32.add_zero]
  have at82 : icH s h x y = none → sumN r 8 ≠ 0 → ∀ z8 z9 z10 z11, At 82 [.ref 108, .int (nI x), .int (nI y), .ref a, .int (nI h), .int (bI can), .int (nI (sumN r 8)), .int (oI (fdA s x y (kT s 3))), .int z8, z9, z10, z11] [] σ 0 0 := by
    intro hg hs0 z8 z9 z10 z11
    refine hAt 3 _ _ _ _ _ _ ?_
    cases e85 : fdA s x y (kT s 3) with
    | none =>
      refine And.intro (fun hq => absurd rfl hq) (fun _ => ?_)
      refine hAt 3 _ _ _ _ _ _ ?_
      refine Eq.mpr (congrArg (fun xq : Int32 => At 93 [.ref (108), .int (nI x), .int (nI y), .ref (a), .int (nI h), .int (bI can), .int (nI (sumN r 8)), .int (oI none), .int (z8), z9, z10, z11] [.int xq, .ref (108)] σ 0 0) (show rI σ 108 46 = gD D 0 5 from hc.was)) ?_
      refine hAt 4 _ _ _ _ _ _ ?_
      refine hP _ ?_ rfl (fun b j u => by rw [rI_wI, if_neg (by omega)])
      have e2 : ldX1 s h can x y D r = sD D 0 5 (gD D 0 5 + nI (sumN r 8)) := by
        unfold ldX1
        rw [if_neg hs0, hg, e85]; rfl
      rw [e2]
      exact hc.wwas hn hF
    | some bb85 =>
      have hfl := (fdA_some _ e85).1
      have b := bF bb85 hfl
      refine And.intro (fun _ => ?_) (fun hq => absurd hq (nI_m1 (by omega)))
      refine hAt 2 _ _ _ _ _ _ ?_
      refine And.intro (fun hq => ?_) (fun hq => ?_)
      · have c102 : can = false := bI_eq hq
        clear hq
        refine hAt 2 _ _ _ _ _ _ ?_
        exact lf _ e85 hfl hg hs0 _ _ 0 (by omega) _ _ σ (by rw [nol _ hfl (by unfold hlR; rw [c102]; rfl)]; exact hc) rfl (fun _ _ _ => rfl)
      · have c102 : can = true := bI_ne hq
        clear hq
        refine hAt 5 _ _ _ _ _ _ ?_
        refine And.intro (aOKx (n := 11) (j := 8) rfl (by decide) rfl rfl (by omega) (by omega)) ?_
        refine Eq.mpr (congrArg (fun xq : Int32 => At 114 [.ref (108), .int (nI x), .int (nI y), .ref (a), .int (nI h), .int (bI can), .int (nI (sumN r 8)), .int (oI (some bb85)), .int (z8), z9, z10, z11] [.int xq, .int (nI (sumN r 8))] σ 0 0) (show rI σ 111 (nI 8).toNatClampNeg = nI (kT s 8) from (ldE rfl (by omega) (hS.1 8 (by omega))))) ?_
        refine hAt 1 _ _ _ _ _ _ ?_
        refine And.intro (fun hq => ?_) (fun hq => ?_)
        · have c114 : sumN r 8 ≤ kT s 8 := (leN (a := sumN r 8) (b := kT s 8) rfl rfl (by omega) (by omega)).mp hq
          clear hq
          refine hAt 2 _ _ _ _ _ _ ?_
          exact lf _ e85 hfl hg hs0 _ _ 0 (by omega) _ _ σ (by rw [nol _ hfl (by unfold hlR; rw [decide_eq_false (show ¬ kT s 8 < sumN r 8 by omega), Bool.false_and, Bool.and_false]; rfl)]; exact hc) rfl (fun _ _ _ => rfl)
        · have c114 : kT s 8 < sumN r 8 := Nat.lt_of_not_le (fun zq => hq ((leN (a := sumN r 8) (b := kT s 8) rfl rfl (by omega) (by omega)).mpr zq))
          clear hq
          refine hAt 4 _ _ _ _ _ _ ?_
          refine And.intro (aOKx (n := 12) (j := bb85) rfl (by decide) rfl rfl (by omega) (by omega)) ?_
          refine Eq.mpr (congrArg (fun xq : Int32 => At 124 [.ref (108), .int (nI x), .int (nI y), .ref (a), .int (nI h), .int (bI can), .int (nI (sumN r 8)), .int (oI (some bb85)), .int (z8), z9, z10, z11] [.int xq] σ 0 0) (show rI σ 333 (oI (some bb85)).toNatClampNeg = gD D 2 bb85 from (ldE rfl (by omega) (hc.hai bb85 hfl)))) ?_
          refine hAt 2 _ _ _ _ _ _ ?_
          refine And.intro (fun hq => ?_) (fun hq => ?_)
          · have c125 : ¬ gD D 2 bb85 = -1 := hq
            clear hq
            refine hAt 2 _ _ _ _ _ _ ?_
            exact lf _ e85 hfl hg hs0 _ _ 0 (by omega) _ _ σ (by rw [nol _ hfl (by unfold hlR; rw [decide_eq_false c125, Bool.and_false, Bool.and_false]; rfl)]; exact hc) rfl (fun _ _ _ => rfl)
          · have c125 : gD D 2 bb85 = -1 := hq
            clear hq
            refine hAt 5 _ _ _ _ _ _ ?_
            refine And.intro (aOKx (n := 12) (j := bb85) rfl (by decide) rfl rfl (by omega) (by omega)) ?_
            refine Eq.mpr (congrArg (fun xq : Mem => At 137 [.ref (108), .int (nI x), .int (nI y), .ref (a), .int (nI h), .int (bI can), .int (nI (sumN r 8)), .int (oI (some bb85)), .int (z8), z9, z10, z11] [] xq 0 0) (wrE (σ := σ) (q := 333) (p := rfl) (hj := by omega) (h := rfl))) ?_
            refine hAt 3 _ _ _ _ _ _ ?_
            refine Eq.mpr (congrArg (fun xq : Int32 => At 142 [.ref (108), .int (nI x), .int (nI y), .ref (a), .int (nI h), .int (bI can), .int (nI (sumN r 8)), .int (oI (some bb85)), .int (z8), z9, z10, z11] [.int xq, .ref (108)] (wI σ 333 bb85 (nI h)) 0 0) (show rI (wI σ 333 bb85 (nI h)) 108 48 = gD D 0 6 from (by rw [rI_wI, if_neg (by omega)]; exact hc.hls))) ?_
            refine hAt 8 _ _ _ _ _ _ ?_
            refine s_most8 (f := r) (hA _ rfl) (fun i hi => by rw [rI_wI, if_neg (by omega), rI_wI, if_neg (by omega)]; exact ha i hi) (fun i hi => by have := hrb i hi; omega) ?_
            rw [show moI (fun o => nI (r o)) 8 = moF r from rfl]
            refine And.intro (mx_r (q := 322) (n := 8) (k := 3) rfl rfl (show moF r < 8 by omega)) (And.intro (Or.inl rfl) ?_)
            refine Eq.mpr (congrArg (fun xq : Nat => At 156 [.ref (108), .int (nI x), .int (nI y), .ref (a), .int (nI h), .int (bI can), .int (nI (sumN r 8)), .int (oI (some bb85)), .int (z8), z9, z10, z11] [.ref xq] (wI (wI σ 333 bb85 (nI h)) 108 48 ((gD D 0 6) + nI 1)) 0 0) (rwE rfl (by omega))) ?_
            refine hAt 3 _ _ _ _ _ _ ?_
            refine And.intro (mx_e (q := 322) (n := 8) (k := 3) (j := (moF r)) (i := 2) rfl (by omega) (by omega) rfl) ?_
            refine Eq.mpr (congrArg (fun xq : Int32 => At 159 [.ref (108), .int (nI x), .int (nI y), .ref (a), .int (nI h), .int (bI can), .int (nI (sumN r 8)), .int (oI (some bb85)), .int (z8), z9, z10, z11] [.int xq, .int (nI 2), .ref (322 + 1 + (moF r))] (wI (wI σ 333 bb85 (nI h)) 108 48 ((gD D 0 6) + nI 1)) 0 0) (show rI (wI (wI σ 333 bb85 (nI h)) 108 48 ((gD D 0 6) + nI 1)) (322 + 1 + (moF r)) (nI 2).toNatClampNeg = gD D 5 (moF r) from (ldE rfl (by omega) (by rw [rI_wI, if_neg (by omega), rI_wI, if_neg (by omega)]; exact (hc.acc _ 2 hm8 (by omega)))))) ?_
            refine hAt 4 _ _ _ _ _ _ ?_
            refine And.intro (mx_r (q := 163) (n := 12) (k := 6) rfl rfl (show bb85 < 12 by omega)) (And.intro (Or.inl rfl) ?_)
            refine Eq.mpr (congrArg (fun xq : Nat => At 166 [.ref (108), .int (nI x), .int (nI y), .ref (a), .int (nI h), .int (bI can), .int (nI (sumN r 8)), .int (oI (some bb85)), .int (z8), z9, z10, z11] [.ref xq, .int (gD D 5 (moF r)), .int (nI 2), .ref (322 + 1 + (moF r))] (wI (wI σ 333 bb85 (nI h)) 108 48 ((gD D 0 6) + nI 1)) 0 0) (rwE rfl (by omega))) ?_
            refine hAt 2 _ _ _ _ _ _ ?_
            refine And.intro (mx_e (q := 163) (n := 12) (k := 6) (j := bb85) (i := 4) rfl (by omega) (by omega) rfl) ?_
            refine Eq.mpr (congrArg (fun xq : Int32 => At 168 [.ref (108), .int (nI x), .int (nI y), .ref (a), .int (nI h), .int (bI can), .int (nI (sumN r 8)), .int (oI (some bb85)), .int (z8), z9, z10, z11] [.int xq, .int (gD D 5 (moF r)), .int (nI 2), .ref (322 + 1 + (moF r))] (wI (wI σ 333 bb85 (nI h)) 108 48 ((gD D 0 6) + nI 1)) 0 0) (show rI (wI (wI σ 333 bb85 (nI h)) 108 48 ((gD D 0 6) + nI 1)) (163 + 1 + bb85) (nI 4).toNatClampNeg = nI (kF s bb85 4) from (ldE rfl (by omega) (by rw [rI_wI, if_neg (by omega), rI_wI, if_neg (by omega)]; exact (hS.2.2.2.1 bb85 (by omega) 4 (by omega)))))) ?_
            refine hAt 2 _ _ _ _ _ _ ?_
            refine And.intro (mx_e (q := 322) (n := 8) (k := 3) (j := (moF r)) (i := 2) rfl (by omega) (by omega) rfl) ?_
            refine Eq.mpr (congrArg (fun xq : Mem => At 170 [.ref (108), .int (nI x), .int (nI y), .ref (a), .int (nI h), .int (bI can), .int (nI (sumN r 8)), .int (oI (some bb85)), .int (z8), z9, z10, z11] [] xq 0 0) (wrE (σ := (wI (wI σ 333 bb85 (nI h)) 108 48 ((gD D 0 6) + nI 1))) (q := 322 + 1 + (moF r)) (p := rfl) (hj := by omega) (h := rfl))) ?_
            refine hAt 6 _ _ _ _ _ _ ?_
            refine And.intro (mx_r (q := 163) (n := 12) (k := 6) rfl rfl (show bb85 < 12 by omega)) (And.intro (Or.inl rfl) ?_)
            refine Eq.mpr (congrArg (fun xq : Nat => At 181 [.ref (108), .int (nI x), .int (nI y), .ref (a), .int (nI h), .int (bI can), .int (nI (sumN r 8)), .int (oI (some bb85)), .int (z8), z9, z10, z11] [.ref xq, .ref (335)] (wI (wI (wI σ 333 bb85 (nI h)) 108 48 ((gD D 0 6) + nI 1)) (322 + 1 + (moF r)) 2 ((gD D 5 (moF r)) + (nI (kF s bb85 4)))) 0 0) (rwE rfl (by omega))) ?_
            refine hAt 2 _ _ _ _ _ _ ?_
            refine And.intro (mx_e (q := 163) (n := 12) (k := 6) (j := bb85) (i := 2) rfl (by omega) (by omega) rfl) ?_
            refine Eq.mpr (congrArg (fun xq : Int32 => At 183 [.ref (108), .int (nI x), .int (nI y), .ref (a), .int (nI h), .int (bI can), .int (nI (sumN r 8)), .int (oI (some bb85)), .int (z8), z9, z10, z11] [.int xq, .ref (335)] (wI (wI (wI σ 333 bb85 (nI h)) 108 48 ((gD D 0 6) + nI 1)) (322 + 1 + (moF r)) 2 ((gD D 5 (moF r)) + (nI (kF s bb85 4)))) 0 0) (show rI (wI (wI (wI σ 333 bb85 (nI h)) 108 48 ((gD D 0 6) + nI 1)) (322 + 1 + (moF r)) 2 ((gD D 5 (moF r)) + (nI (kF s bb85 4)))) (163 + 1 + bb85) (nI 2).toNatClampNeg = nI (kF s bb85 2) from (ldE rfl (by omega) (by rw [rI_wI, if_neg (by omega), rI_wI, if_neg (by omega), rI_wI, if_neg (by omega)]; exact (hS.2.2.2.1 bb85 (by omega) 2 (by omega)))))) ?_
            refine hAt 2 _ _ _ _ _ _ ?_
            refine And.intro (aOKx (n := 8) (j := (kF s bb85 2)) rfl (by decide) rfl rfl (by omega) (by omega)) ?_
            refine Eq.mpr (congrArg (fun xq : Int32 => At 185 [.ref (108), .int (nI x), .int (nI y), .ref (a), .int (nI h), .int (bI can), .int (nI (sumN r 8)), .int (oI (some bb85)), .int (z8), z9, z10, z11] [.int xq, .int (nI (kF s bb85 2)), .ref (335)] (wI (wI (wI σ 333 bb85 (nI h)) 108 48 ((gD D 0 6) + nI 1)) (322 + 1 + (moF r)) 2 ((gD D 5 (moF r)) + (nI (kF s bb85 4)))) 0 0) (show rI (wI (wI (wI σ 333 bb85 (nI h)) 108 48 ((gD D 0 6) + nI 1)) (322 + 1 + (moF r)) 2 ((gD D 5 (moF r)) + (nI (kF s bb85 4)))) 335 (nI (kF s bb85 2)).toNatClampNeg = gD D 7 (kF s bb85 2) from (ldE rfl (by omega) (by rw [rI_wI, if_neg (by omega), rI_wI, if_neg (by omega), rI_wI, if_neg (by omega)]; exact (hc.owe _ (by omega)))))) ?_
            refine hAt 4 _ _ _ _ _ _ ?_
            refine And.intro (mx_r (q := 163) (n := 12) (k := 6) rfl rfl (show bb85 < 12 by omega)) (And.intro (Or.inl rfl) ?_)
            refine Eq.mpr (congrArg (fun xq : Nat => At 192 [.ref (108), .int (nI x), .int (nI y), .ref (a), .int (nI h), .int (bI can), .int (nI (sumN r 8)), .int (oI (some bb85)), .int (z8), z9, z10, z11] [.ref xq, .int (gD D 7 (kF s bb85 2)), .int (nI (kF s bb85 2)), .ref (335)] (wI (wI (wI σ 333 bb85 (nI h)) 108 48 ((gD D 0 6) + nI 1)) (322 + 1 + (moF r)) 2 ((gD D 5 (moF r)) + (nI (kF s bb85 4)))) 0 0) (rwE rfl (by omega))) ?_
            refine hAt 2 _ _ _ _ _ _ ?_
            refine And.intro (mx_e (q := 163) (n := 12) (k := 6) (j := bb85) (i := 4) rfl (by omega) (by omega) rfl) ?_
            refine Eq.mpr (congrArg (fun xq : Int32 => At 194 [.ref (108), .int (nI x), .int (nI y), .ref (a), .int (nI h), .int (bI can), .int (nI (sumN r 8)), .int (oI (some bb85)), .int (z8), z9, z10, z11] [.int xq, .int (gD D 7 (kF s bb85 2)), .int (nI (kF s bb85 2)), .ref (335)] (wI (wI (wI σ 333 bb85 (nI h)) 108 48 ((gD D 0 6) + nI 1)) (322 + 1 + (moF r)) 2 ((gD D 5 (moF r)) + (nI (kF s bb85 4)))) 0 0) (show rI (wI (wI (wI σ 333 bb85 (nI h)) 108 48 ((gD D 0 6) + nI 1)) (322 + 1 + (moF r)) 2 ((gD D 5 (moF r)) + (nI (kF s bb85 4)))) (163 + 1 + bb85) (nI 4).toNatClampNeg = nI (kF s bb85 4) from (ldE rfl (by omega) (by rw [rI_wI, if_neg (by omega), rI_wI, if_neg (by omega), rI_wI, if_neg (by omega)]; exact (hS.2.2.2.1 bb85 (by omega) 4 (by omega)))))) ?_
            refine hAt 2 _ _ _ _ _ _ ?_
            refine And.intro (aOKx (n := 8) (j := (kF s bb85 2)) rfl (by decide) rfl rfl (by omega) (by omega)) ?_
            refine Eq.mpr (congrArg (fun xq : Mem => At 196 [.ref (108), .int (nI x), .int (nI y), .ref (a), .int (nI h), .int (bI can), .int (nI (sumN r 8)), .int (oI (some bb85)), .int (z8), z9, z10, z11] [] xq 0 0) (wrE (σ := (wI (wI (wI σ 333 bb85 (nI h)) 108 48 ((gD D 0 6) + nI 1)) (322 + 1 + (moF r)) 2 ((gD D 5 (moF r)) + (nI (kF s bb85 4))))) (q := 335) (p := rfl) (hj := by omega) (h := rfl))) ?_
            refine hAt 2 _ _ _ _ _ _ ?_
            refine lf _ e85 hfl hg hs0 _ _ 0 (by omega) _ _ _ ?_ rfl (fun b j u => ?_)
            · have g1 := ((((hc.whai (v := nI h) hfl hn hF).whls (v := gD D 0 6 + nI 1) hn hF).wacc (v := gD D 5 (moF r) + nI (kF s bb85 4)) hm8 (show 2 < 3 by omega) hn hF).wowe (v := gD D 7 (kF s bb85 2) + nI (kF s bb85 4)) (show kF s bb85 2 < 7 by omega) hn hF)
              have eq : addD (sN D 3 bb85 (thp (gN D 3 bb85) r 0)) (fun b j => hlR s h can D r bb85 b j + skD s bb85 (gN D 3 bb85) r 0 b j) = sD (sD (sD (sD D 2 bb85 (nI h)) 0 6 (gD D 0 6 + nI 1)) 5 (moF r) (gD D 5 (moF r) + nI (kF s bb85 4))) 7 (kF s bb85 2) (gD D 7 (kF s bb85 2) + nI (kF s bb85 4)) := by
                have e9 : hlR s h can D r bb85 = hl1 s bb85 h (moF r) := by
                  unfold hlR
                  rw [c102, decide_eq_true c114, decide_eq_true c125]; rfl
                have e8 : sN D 3 bb85 (thp (gN D 3 bb85) r 0) = D := by
                  refine Dy.ext (fun b j => ?_) (fun _ _ => rfl)
                  rw [gN_sN]
                  by_cases z : b = 3 ∧ j = bb85
                  · rw [if_pos z, z.1, z.2]; rfl
                  · rw [if_neg z]
                have e0 : sD D 2 bb85 (nI h) = addD D (one 2 bb85 (nI (h + 1))) := by
                  refine Dy.ext (fun _ _ => rfl) (fun a b => ?_)
                  rw [gD_sD, gD_addD]; unfold one
                  by_cases q : a = 2 ∧ b = bb85
                  · rw [if_pos q, if_pos q, q.1, q.2, c125, nI_s, show (-1 : Int32) + (nI h + nI 1) = nI h + (nI 1 + -1) by rw [Int32.add_comm, Int32.add_assoc], show (nI 1 + -1 : Int32) = 0 by decide, Int32.add_zero]
                  · rw [if_neg q, if_neg q, Int32.add_zero]
                rw [e8, e9, e0, sD_addD (one_z (by omega)), sD_addD (by rw [one_z (by omega), one_z (by omega)]; rfl), sD_addD (by rw [one_z (by omega), one_z (by omega), one_z (by omega)]; rfl)]
                refine addD_congr (fun a b => ?_)
                show hl1 s bb85 h (moF r) a b + 0 = _
                unfold hl1
                rw [Int32.add_zero]
                ac_rfl
              rw [eq]
              exact g1
            · repeat rw [rI_wI, if_neg (by omega)]
  refine hAt 15 _ _ _ _ _ _ ?_
  refine s_sum8 (f := r) (hA _ rfl) ha ?_
  refine s_MfieldAt hS hv (by omega) (by omega) ?_
  refine s_MiceAt hS hv (by omega) (by omega) ?_
  refine And.intro (fun hq => ?_) (fun hq => ?_)
  · have c24 : ¬ sumN r 8 = 0 := fun zq => hq ((eqN (a := sumN r 8) (b := 0) rfl rfl (by omega) (by omega)).mpr zq)
    clear hq
    refine hAt 3 _ _ _ _ _ _ ?_
    cases e31 : icA s x y (kT s 4) with
    | none =>
      refine And.intro (fun _ => ?_) (fun hq => absurd rfl hq)
      exact at82 (by unfold icH; rw [e31]; rfl) c24 _ _ _ _
    | some bb31 =>
      have hg3 := (icA_some _ e31).1
      have bg := bG.1 bb31 hg3
      refine And.intro (fun hq => absurd hq (nI_m1 (by omega))) (fun _ => ?_)
      refine hAt 5 _ _ _ _ _ _ ?_
      refine And.intro (mx_r (q := 180) (n := 3) (k := 3) rfl rfl (show bb31 < 3 by omega)) (And.intro (Or.inl rfl) ?_)
      refine Eq.mpr (congrArg (fun xq : Nat => At 43 [.ref (108), .int (nI x), .int (nI y), .ref (a), .int (nI h), .int (bI can), .int (nI (sumN r 8)), .int (oI (fdA s x y (kT s 3))), .int (oI (some bb31)), junk, junk, junk] [.ref xq, .int (nI h)] σ 0 0) (rwE rfl (by omega))) ?_
      refine hAt 2 _ _ _ _ _ _ ?_
      refine And.intro (mx_e (q := 180) (n := 3) (k := 3) (j := bb31) (i := 2) rfl (by omega) (by omega) rfl) ?_
      refine Eq.mpr (congrArg (fun xq : Int32 => At 45 [.ref (108), .int (nI x), .int (nI y), .ref (a), .int (nI h), .int (bI can), .int (nI (sumN r 8)), .int (oI (fdA s x y (kT s 3))), .int (oI (some bb31)), junk, junk, junk] [.int xq, .int (nI h)] σ 0 0) (show rI σ (180 + 1 + bb31) (nI 2).toNatClampNeg = nI (kI s bb31 2) from (ldE rfl (by omega) (hS.2.2.2.2 bb31 (by omega) 2 (by omega))))) ?_
      refine hAt 1 _ _ _ _ _ _ ?_
      refine And.intro (fun hq => ?_) (fun hq => ?_)
      · have c45 : kI s bb31 2 ≤ h := (leN (a := kI s bb31 2) (b := h) rfl rfl (by omega) (by omega)).mp hq
        clear hq
        exact at82 (by unfold icH; rw [e31]; exact if_neg (by omega)) c24 _ _ _ _
      · have c45 : h < kI s bb31 2 := Nat.lt_of_not_le (fun zq => hq ((leN (a := kI s bb31 2) (b := h) rfl rfl (by omega) (by omega)).mpr zq))
        clear hq
        refine hAt 2 _ _ _ _ _ _ ?_
        exact lice bb31 (by unfold icH; rw [e31]; exact if_pos c45) (by omega) c24 _ _ _ _ 0 (by omega) σ (by
          have e2 : sR D (16 + bb31) (fun i => if i < 0 then gN D (16 + bb31) i + r i else gN D (16 + bb31) i) = D := by
            refine Dy.ext (fun b j => ?_) (fun _ _ => rfl)
            rw [gN_sR]
            by_cases q : b = 16 + bb31 ∧ j < 8
            · rw [if_pos q, if_neg (Nat.not_lt_zero _), q.1]
            · rw [if_neg q]
          rw [e2]; exact hc) rfl (fun _ _ _ => rfl)
  · have c24 : sumN r 8 = 0 := (eqN (a := sumN r 8) (b := 0) rfl rfl (by omega) (by omega)).mp hq
    clear hq
    refine hAt 1 _ _ _ _ _ _ ?_
    exact hP σ (by unfold ldX1; rw [if_pos c24]; exact hc) rfl (fun _ _ _ => rfl)
end DM6
