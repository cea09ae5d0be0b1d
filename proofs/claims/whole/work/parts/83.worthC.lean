/-! WORTH on the component's side -/
theorem bv_and1 (X : BitVec 32) (s : Nat) : (X >>> s) &&& 1#32 = BitVec.ofNat 32 (X.toNat / 2 ^ s % 2) := by
  apply BitVec.eq_of_toNat_eq
  rw [BitVec.toNat_and, BitVec.toNat_ushiftRight, BitVec.toNat_ofNat, BitVec.toNat_ofNat, Nat.shiftRight_eq_div_pow, show 1 % 2 ^ 32 = 2 ^ 1 - 1 from rfl, Nat.and_two_pow_sub_one_eq_mod]
  have := Nat.mod_lt (X.toNat / 2 ^ s) (show 0 < 2 by decide)
  rw [Nat.pow_one, Nat.mod_eq_of_lt (a := _ % 2) (by omega)]
theorem nI_nat (q : Nat) (h : q < 2 ^ 32) : (nI q).toBitVec.toNat = q := by
  show (BitVec.ofNat 32 q).toNat = q
  rw [BitVec.toNat_ofNat, Nat.mod_eq_of_lt h]
/-- the network of a sky, its clouds alone -/
def rmS (s : Sk) (k f : Nat) : Nat := kT s 6 * cntH s k (kF s f 0) (kF s f 1) 50
def QS (s : Sk) (q k : Nat) : Nat := if q / 2 ^ k % 2 = 1 then kC s k 4 else 0
def thS (s : Sk) (f : Nat) : Nat := kF s f 3
def kyS (s : Sk) (f : Nat) : Nat := (9 - kF s f 5) * 12 + f
def prS (s : Sk) (f : Nat) : Nat := kF s f 5
def isW (s : Sk) (q c : Nat) (a : Nat → Nat) : Prop := isG (kT s 2) (kT s 3) (rmS s) (QS s q) (thS s) (kyS s) c a
noncomputable def woS (s : Sk) (q : Nat) : Nat := woV (kT s 2) (kT s 3) (rmS s) (QS s q) (thS s) (kyS s) (prS s)
theorem rmS_le {s : Sk} (hv : VS s) (k f : Nat) : rmS s k f ≤ 4950 := by
  have h1 := cntH_le s k (kF s f 0) (kF s f 1) 50
  have h2 := hv.2.2.2.2.2.2.1
  exact Nat.le_trans (Nat.mul_le_mul h2.2 h1) (by decide)
theorem QS_le {s : Sk} (hv : VS s) {q k : Nat} (hk : k < kT s 2) : QS s q k ≤ 999 := by
  have := hv.2.2.2.2.2.2.2.2.2.2.2.2.1 k hk
  unfold QS; split <;> omega
theorem kyS_inj {s : Sk} (hv : VS s) : ∀ f g, f < kT s 3 → g < kT s 3 → kyS s f = kyS s g → f = g := fun f g hf hg e => by
  have := hv.2.2.2.1
  unfold kyS at e; omega
theorem kyS_lt {s : Sk} (hv : VS s) : ∀ f, f < kT s 3 → kyS s f < 120 := fun f hf => by
  have := hv.2.2.2.1
  unfold kyS; omega
theorem isG_to {n m : Nat} {r : Nat → Nat → Nat} {Q th ky a : Nat → Nat} {c : Nat} (h : isG n m r Q th ky c a) : ∀ j, (∀ f, f < m → c ≤ ky f → c + j ≤ ky f) → isG n m r Q th ky (c + j) a
  | 0, _ => h
  | j + 1, hn => by
    show isG n m r Q th ky (c + j + 1) a
    exact isG_skip (isG_to h j (fun f hf q => by have := hn f hf q; omega)) (fun f hf e => by have := hn f hf (by omega); omega)
section WE
variable {w : Wd} {d : Nat} {σ : Mem} {s : Sk} {P : Option AV → Mem → Prop} {X : Nat → Mem → Prop}
theorem s_measure (hS : skC σ 4 s) (hv : VS s) (hP : ∀ τ, (∀ a j, a ≠ 83 → rI τ a j = rI σ a j) → τ.2 = σ.2 → (∀ k f, k < kT s 2 → f < kT s 3 → rI τ 83 (k * 12 + f) = nI (rmS s k f)) → P none τ) : Ret w true (d + 3) 0 0 m_Worth_measure [.ref 81] σ P X := by
  have hn := hv.2.2.1
  have hF := hv.2.2.2.1
  have s1 := hv.1
  have s2 := hv.2.1
  have bF := hv.2.2.2.2.2.2.2.2.2.2.2.2.2.1
  refine meth_ok k_Worth_measure q_Worth_measure rfl fun At hAt => ?_
  have loop : ∀ k, k ≤ kT s 2 → ∀ τ z2 z3, (∀ a j, a ≠ 83 → rI τ a j = rI σ a j) → τ.2 = σ.2 → (∀ i f, i < k → f < kT s 3 → rI τ 83 (i * 12 + f) = nI (rmS s i f)) → At 2 [.ref 81, .int (nI k), z2, z3] [] τ 0 0 := by
    refine upto fun k hk ih => ?_
    intro τ z2 z3 t1 t2 t3
    have hS1 := hS.frame9 (τ := τ) (fun a j h => t1 a j (by omega))
    have inn : k < kT s 2 → ∀ f, f ≤ kT s 3 → ∀ τ z3, (∀ a j, a ≠ 83 → rI τ a j = rI σ a j) → τ.2 = σ.2 → (∀ i f, i < k → f < kT s 3 → rI τ 83 (i * 12 + f) = nI (rmS s i f)) → (∀ i, i < f → rI τ 83 (k * 12 + i) = nI (rmS s k i)) → At 18 [.ref 81, .int (nI k), .int (nI f), z3] [] τ 0 0 := by
      intro hk2
      refine upto fun f hf ih2 => ?_
      intro τ z3 t1 t2 t3 t4
      have hS1 := hS.frame9 (τ := τ) (fun a j h => t1 a j (by omega))
      have bf := bF f
      refine hAt 5 _ _ _ _ _ _ ?_
      refine s_Table_size (a := 10) (na := 11) (mo := 12) (wd := 6) rfl ?_
      refine Eq.mpr (congrArg (fun xq : Int32 => At 29 [.ref (81), .int (nI k), .int (nI f), z3] [.int xq, .int (nI f)] τ 0 0) (show rI τ 10 3 = nI (kT s 3) from hS1.2.2.2.1.1)) ?_
      refine hAt 1 _ _ _ _ _ _ ?_
      refine And.intro (fun hq => ?_) (fun hq => ?_)
      · have c29 : kT s 3 ≤ f := (leN (a := kT s 3) (b := f) rfl rfl (by omega) (by omega)).mp hq
        clear hq
        refine hAt 2 _ _ _ _ _ _ ?_
        refine Eq.mpr (congrArg (fun xq : Int32 => At 2 [.ref (81), .int xq, .int (nI f), z3] [] τ 0 0) (show nI k + nI 1 = nI (k + 1) from (adE rfl rfl))) ?_
        refine ih hk2 τ _ _ t1 t2 (fun i x hi hx => ?_)
        by_cases e : i = k
        · subst e; exact t4 x (by omega)
        · exact t3 i x (by omega) hx
      · have c29 : f < kT s 3 := Nat.lt_of_not_le (fun zq => hq ((leN (a := kT s 3) (b := f) rfl rfl (by omega) (by omega)).mpr zq))
        clear hq
        have bf := bf c29
        refine hAt 6 _ _ _ _ _ _ ?_
        refine s_Table_get (a := 10) (na := 11) (mo := 12) (wd := 6) rfl (show f < 12 by omega) (show 0 < 6 by omega) ?_
        refine Eq.mpr (congrArg (fun xq : Int32 => At 44 [.ref (81), .int (nI k), .int (nI f), z3] [.int xq] τ 0 0) (show rI τ 11 (f * 6 + 0) = nI (kF s f 0) from (hS1.2.2.2.1.2 f (by omega) 0 (by omega)))) ?_
        refine hAt 6 _ _ _ _ _ _ ?_
        refine s_Table_get (a := 10) (na := 11) (mo := 12) (wd := 6) rfl (show f < 12 by omega) (show 1 < 6 by omega) ?_
        refine Eq.mpr (congrArg (fun xq : Int32 => At 56 [.ref (81), .int (nI k), .int (nI f), z3] [.int xq, .int (nI (kF s f 0))] τ 0 0) (show rI τ 11 (f * 6 + 1) = nI (kF s f 1) from (hS1.2.2.2.1.2 f (by omega) 1 (by omega)))) ?_
        refine hAt 16 _ _ _ _ _ _ ?_
        refine s_cellOf ?_
        refine s_Sky_fact hS1 (by omega) ?_
        refine s_hoursIn hS1 hv (by omega) (by omega) (by omega) ?_
        refine Eq.mpr (congrArg (fun xq : Int32 => At 85 [.ref (81), .int (nI k), .int (nI f), .int (nI (8 * (kF s f 1) + (kF s f 0)))] [.int xq, .int (nI f), .int (nI k), .ref (82)] τ 0 0) (show (nI (kT s 6)) * (nI (cntH s k (kF s f 0) (kF s f 1) 50)) = nI ((kT s 6) * (cntH s k (kF s f 0) (kF s f 1) 50)) from (mlE rfl rfl))) ?_
        refine hAt 3 _ _ _ _ _ _ ?_
        refine s_Table_set (a := 82) (na := 83) (mo := 8) (wd := 12) rfl (show k < 8 by omega) (show f < 12 by omega) ?_
        refine Eq.mpr (congrArg (fun xq : Int32 => At 18 [.ref (81), .int (nI k), .int xq, .int (nI (8 * (kF s f 1) + (kF s f 0)))] [] (wI τ 83 (k * 12 + f) (nI ((kT s 6) * (cntH s k (kF s f 0) (kF s f 1) 50)))) 0 0) (show nI f + nI 1 = nI (f + 1) from (adE rfl rfl))) ?_
        refine ih2 c29 _ _ (fun a j u => ?_) t2 (fun i x hi hx => ?_) (fun i hi => ?_)
        · rw [rI_wI, if_neg (by omega)]; exact t1 a j u
        · rw [rI_wI, if_neg (by omega)]; exact t3 i x hi hx
        · rw [rI_wI]
          by_cases e : i = f
          · subst e; rw [if_pos ⟨rfl, rfl⟩]; rfl
          · rw [if_neg (by omega)]; exact t4 i (by omega)
    refine hAt 5 _ _ _ _ _ _ ?_
    refine s_Table_size (a := 8) (na := 9) (mo := 8) (wd := 7) rfl ?_
    refine Eq.mpr (congrArg (fun xq : Int32 => At 13 [.ref (81), .int (nI k), z2, z3] [.int xq, .int (nI k)] τ 0 0) (show rI τ 8 3 = nI (kT s 2) from hS1.2.2.1.1)) ?_
    refine hAt 1 _ _ _ _ _ _ ?_
    refine And.intro (fun hq => ?_) (fun hq => ?_)
    · have c13 : kT s 2 ≤ k := (leN (a := kT s 2) (b := k) rfl rfl (by omega) (by omega)).mp hq
      clear hq
      refine hAt 1 _ _ _ _ _ _ ?_
      have e : k = kT s 2 := by omega
      subst e
      exact hP τ t1 t2 t3
    · have c13 : k < kT s 2 := Nat.lt_of_not_le (fun zq => hq ((leN (a := kT s 2) (b := k) rfl rfl (by omega) (by omega)).mpr zq))
      clear hq
      refine hAt 2 _ _ _ _ _ _ ?_
      exact inn c13 0 (Nat.zero_le _) τ _ t1 t2 t3 (fun i hi => absurd hi (Nat.not_lt_zero i))
  refine hAt 2 _ _ _ _ _ _ ?_
  exact loop 0 (Nat.zero_le _) σ _ _ (fun _ _ _ => rfl) rfl (fun i _ hi => absurd hi (Nat.not_lt_zero i))
theorem s_dearest {dn : Nat → Nat} (hS : skC σ 4 s) (hv : VS s) (h89 : ∀ f, f < kT s 3 → rI σ 89 f = nI (dn f)) (hd1 : ∀ f, f < kT s 3 → dn f ≤ 1) (hex : ∃ f, f < kT s 3 ∧ dn f = 0) (hP : ∀ b, b < kT s 3 → dn b = 0 → (∀ g, g < kT s 3 → dn g = 0 → kyS s b ≤ kyS s g) → P (some (.int (nI b))) σ) : Ret w true (d + 2) 0 0 m_Worth_dearestLeft [.ref 81] σ P X := by
  have hF := hv.2.2.2.1
  have bF := hv.2.2.2.2.2.2.2.2.2.2.2.2.2.1
  refine meth_ok k_Worth_dearestLeft q_Worth_dearestLeft rfl fun At hAt => ?_
  have loop : ∀ f, f ≤ kT s 3 → ∀ bo z3, (∀ g, g < f → dn g = 0 → ∃ b, bo = some b ∧ kyS s b ≤ kyS s g) → (∀ b, bo = some b → b < f ∧ dn b = 0) → At 4 [.ref 81, .int (oI bo), .int (nI f), z3] [] σ 0 0 := by
    refine upto fun f hf ih => ?_
    intro bo z3 h1 h2
    have bf := bF f
    have d1 := hd1 f
    have done : f = kT s 3 → P (some (.int (oI bo))) σ := fun e => by
      subst e
      obtain ⟨x, x1, x2⟩ := hex
      obtain ⟨b, b1, b2⟩ := h1 x x1 x2
      rw [b1]
      have z := h2 b b1
      refine hP b z.1 z.2 (fun g hg hd => ?_)
      obtain ⟨b', b3, b4⟩ := h1 g hg hd
      rw [b1] at b3
      cases b3
      exact b4
    have keep : f < kT s 3 → (dn f = 0 → ∃ b, bo = some b ∧ kyS s b ≤ kyS s f) → ∀ z3, At 4 [.ref 81, .int (oI bo), .int (nI (f + 1)), z3] [] σ 0 0 := fun hf2 z z3 => by
      refine ih hf2 bo z3 (fun g hg hd => ?_) (fun b hb => by have := h2 b hb; exact ⟨by omega, this.2⟩)
      by_cases e : g = f
      · subst e; exact z hd
      · exact h1 g (by omega) hd
    have take : f < kT s 3 → dn f = 0 → (∀ b, bo = some b → kF s b 5 < kF s f 5) → ∀ z3, At 4 [.ref 81, .int (nI f), .int (nI (f + 1)), z3] [] σ 0 0 := fun hf2 hd z z3 => by
      refine ih hf2 (some f) z3 (fun g hg hdg => ⟨f, rfl, ?_⟩) (fun b hb => by cases hb; exact ⟨by omega, hd⟩)
      by_cases e : g = f
      · rw [e]; exact Nat.le_refl _
      · obtain ⟨b, b1, b2⟩ := h1 g (by omega) hdg
        have y := z b b1
        have := (h2 b b1).1
        have := bf hf2
        unfold kyS at b2 ⊢
        omega
    refine hAt 5 _ _ _ _ _ _ ?_
    refine s_Table_size (a := 10) (na := 11) (mo := 12) (wd := 6) rfl ?_
    refine Eq.mpr (congrArg (fun xq : Int32 => At 15 [.ref (81), .int (oI bo), .int (nI f), z3] [.int xq, .int (nI f)] σ 0 0) (show rI σ 10 3 = nI (kT s 3) from hS.2.2.2.1.1)) ?_
    refine hAt 1 _ _ _ _ _ _ ?_
    refine And.intro (fun hq => ?_) (fun hq => ?_)
    · have c15 : kT s 3 ≤ f := (leN (a := kT s 3) (b := f) rfl rfl (by omega) (by omega)).mp hq
      clear hq
      refine hAt 2 _ _ _ _ _ _ ?_
      exact done (by omega)
    · have c15 : f < kT s 3 := Nat.lt_of_not_le (fun zq => hq ((leN (a := kT s 3) (b := f) rfl rfl (by omega) (by omega)).mpr zq))
      clear hq
      have bf := bf c15
      have d1 := d1 c15
      refine hAt 3 _ _ _ _ _ _ ?_
      cases e20 : bo with
      | none =>
        subst e20
        refine And.intro (fun _ => ?_) (fun hq => absurd rfl hq)
        refine hAt 7 _ _ _ _ _ _ ?_
        refine s_Row_get (a := 88) (na := 89) (n := 12) rfl (show f < 12 by omega) ?_
        refine Eq.mpr (congrArg (fun xq : Int32 => At 64 [.ref (81), .int (oI none), .int (nI f), .int (nI 1)] [.int xq] σ 0 0) (show rI σ 89 f = nI (dn f) from (h89 f (by omega)))) ?_
        refine hAt 1 _ _ _ _ _ _ ?_
        refine And.intro (fun hq => ?_) (fun hq => ?_)
        · have c64 : ¬ dn f = 0 := fun zq => hq ((eqN (a := dn f) (b := 0) rfl rfl (by omega) (by omega)).mpr zq)
          clear hq
          refine hAt 2 _ _ _ _ _ _ ?_
          refine Eq.mpr (congrArg (fun xq : Int32 => At 4 [.ref (81), .int (oI none), .int xq, .int (nI 1)] [] σ 0 0) (show nI f + nI 1 = nI (f + 1) from (adE rfl rfl))) ?_
          exact keep c15 (fun z => absurd z c64) _
        · have c64 : dn f = 0 := (eqN (a := dn f) (b := 0) rfl rfl (by omega) (by omega)).mp hq
          clear hq
          refine hAt 2 _ _ _ _ _ _ ?_
          refine And.intro (fun hq => absurd hq (by decide)) (fun _ => ?_)
          refine hAt 4 _ _ _ _ _ _ ?_
          refine Eq.mpr (congrArg (fun xq : Int32 => At 4 [.ref (81), .int (nI f), .int xq, .int (nI 1)] [] σ 0 0) (show nI f + nI 1 = nI (f + 1) from (adE rfl rfl))) ?_
          exact take c15 c64 (fun b z => by cases z) _
      | some bb20 =>
        subst e20
        have hb := (h2 bb20 rfl).1
        have hbF := bF bb20 (by omega)
        refine And.intro (fun hq => absurd hq (nI_m1 (by omega))) (fun _ => ?_)
        refine hAt 6 _ _ _ _ _ _ ?_
        refine s_Table_get (a := 10) (na := 11) (mo := 12) (wd := 6) rfl (show f < 12 by omega) (show 5 < 6 by omega) ?_
        refine Eq.mpr (congrArg (fun xq : Int32 => At 35 [.ref (81), .int (oI (some bb20)), .int (nI f), z3] [.int xq] σ 0 0) (show rI σ 11 (f * 6 + 5) = nI (kF s f 5) from (hS.2.2.2.1.2 f (by omega) 5 (by omega)))) ?_
        refine hAt 6 _ _ _ _ _ _ ?_
        refine s_Table_get (a := 10) (na := 11) (mo := 12) (wd := 6) rfl (show bb20 < 12 by omega) (show 5 < 6 by omega) ?_
        refine Eq.mpr (congrArg (fun xq : Int32 => At 47 [.ref (81), .int (oI (some bb20)), .int (nI f), z3] [.int xq, .int (nI (kF s f 5))] σ 0 0) (show rI σ 11 (bb20 * 6 + 5) = nI (kF s bb20 5) from (hS.2.2.2.1.2 bb20 (by omega) 5 (by omega)))) ?_
        refine hAt 1 _ _ _ _ _ _ ?_
        refine And.intro (fun hq => ?_) (fun hq => ?_)
        · have c47 : kF s f 5 ≤ kF s bb20 5 := (leN (a := kF s f 5) (b := kF s bb20 5) rfl rfl (by omega) (by omega)).mp hq
          clear hq
          refine hAt 6 _ _ _ _ _ _ ?_
          refine s_Row_get (a := 88) (na := 89) (n := 12) rfl (show f < 12 by omega) ?_
          refine Eq.mpr (congrArg (fun xq : Int32 => At 64 [.ref (81), .int (oI (some bb20)), .int (nI f), .int (nI 0)] [.int xq] σ 0 0) (show rI σ 89 f = nI (dn f) from (h89 f (by omega)))) ?_
          refine hAt 1 _ _ _ _ _ _ ?_
          refine And.intro (fun hq => ?_) (fun hq => ?_)
          · have c64 : ¬ dn f = 0 := fun zq => hq ((eqN (a := dn f) (b := 0) rfl rfl (by omega) (by omega)).mpr zq)
            clear hq
            refine hAt 2 _ _ _ _ _ _ ?_
            refine Eq.mpr (congrArg (fun xq : Int32 => At 4 [.ref (81), .int (oI (some bb20)), .int xq, .int (nI 0)] [] σ 0 0) (show nI f + nI 1 = nI (f + 1) from (adE rfl rfl))) ?_
            exact keep c15 (fun z => absurd z c64) _
          · have c64 : dn f = 0 := (eqN (a := dn f) (b := 0) rfl rfl (by omega) (by omega)).mp hq
            clear hq
            refine hAt 2 _ _ _ _ _ _ ?_
            refine And.intro (fun _ => ?_) (fun hq => absurd hq (by decide))
            refine hAt 2 _ _ _ _ _ _ ?_
            refine Eq.mpr (congrArg (fun xq : Int32 => At 4 [.ref (81), .int (oI (some bb20)), .int xq, .int (nI 0)] [] σ 0 0) (show nI f + nI 1 = nI (f + 1) from (adE rfl rfl))) ?_
            exact keep c15 (fun _ => ⟨bb20, rfl, by unfold kyS; omega⟩) _
        · have c47 : kF s bb20 5 < kF s f 5 := Nat.lt_of_not_le (fun zq => hq ((leN (a := kF s f 5) (b := kF s bb20 5) rfl rfl (by omega) (by omega)).mpr zq))
          clear hq
          refine hAt 7 _ _ _ _ _ _ ?_
          refine s_Row_get (a := 88) (na := 89) (n := 12) rfl (show f < 12 by omega) ?_
          refine Eq.mpr (congrArg (fun xq : Int32 => At 64 [.ref (81), .int (oI (some bb20)), .int (nI f), .int (nI 1)] [.int xq] σ 0 0) (show rI σ 89 f = nI (dn f) from (h89 f (by omega)))) ?_
          refine hAt 1 _ _ _ _ _ _ ?_
          refine And.intro (fun hq => ?_) (fun hq => ?_)
          · have c64 : ¬ dn f = 0 := fun zq => hq ((eqN (a := dn f) (b := 0) rfl rfl (by omega) (by omega)).mpr zq)
            clear hq
            refine hAt 2 _ _ _ _ _ _ ?_
            refine Eq.mpr (congrArg (fun xq : Int32 => At 4 [.ref (81), .int (oI (some bb20)), .int xq, .int (nI 1)] [] σ 0 0) (show nI f + nI 1 = nI (f + 1) from (adE rfl rfl))) ?_
            exact keep c15 (fun z => absurd z c64) _
          · have c64 : dn f = 0 := (eqN (a := dn f) (b := 0) rfl rfl (by omega) (by omega)).mp hq
            clear hq
            refine hAt 2 _ _ _ _ _ _ ?_
            refine And.intro (fun hq => absurd hq (by decide)) (fun _ => ?_)
            refine hAt 4 _ _ _ _ _ _ ?_
            refine Eq.mpr (congrArg (fun xq : Int32 => At 4 [.ref (81), .int (nI f), .int xq, .int (nI 1)] [] σ 0 0) (show nI f + nI 1 = nI (f + 1) from (adE rfl rfl))) ?_
            exact take c15 c64 (fun b z => by cases z; exact c47) _
  refine hAt 4 _ _ _ _ _ _ ?_
  exact loop 0 (Nat.zero_le _) none _ (fun g hg => absurd hg (Nat.not_lt_zero g)) (fun b hb => by cases hb)
end WE
