/-! WORTH, the call, on the component's side -/
theorem bv_sand1 (X : BitVec 32) (s : Nat) (hs : s ≤ 31) : (X.sshiftRight s) &&& 1#32 = (X >>> s) &&& 1#32 := by
  refine BitVec.eq_of_getLsbD_eq fun i hi => ?_
  rw [BitVec.getLsbD_and, BitVec.getLsbD_and, BitVec.getLsbD_sshiftRight, BitVec.getLsbD_ushiftRight]
  by_cases h : i < 1
  · rw [if_pos (by omega)]
    simp [show ¬ 32 ≤ i by omega]
  · have : (1#32).getLsbD i = false := by
      have h1 : (1#32) = BitVec.ofNat 32 (2 ^ 1 - 1) := by decide
      rw [h1, BitVec.getLsbD_ofNat, Nat.testBit_two_pow_sub_one]
      simp [h]
    rw [this, Bool.and_false, Bool.and_false]
def u32 (x : Int32) : Nat := x.toBitVec.toNat
theorem u32_nI {q : Nat} (h : q < 2 ^ 32) : u32 (nI q) = q := nI_nat q h
theorem nI_u32 (x : Int32) : nI (u32 x) = x := by
  show (⟨⟨BitVec.ofNat 32 x.toBitVec.toNat⟩⟩ : Int32) = x
  rw [BitVec.ofNat_toNat, BitVec.setWidth_eq]
  rfl
theorem bit_a (x : Int32) (k : Nat) (hk : k ≤ 31) (h : x >>> (nI k &&& 31) = ⟨⟨x.toBitVec.sshiftRight k⟩⟩) : (x >>> (nI k &&& 31)) &&& nI 1 = nI (u32 x / 2 ^ k % 2) := by
  rw [h]
  exact congrArg (fun b => (⟨⟨b⟩⟩ : Int32)) ((bv_sand1 x.toBitVec k hk).trans (bv_and1 x.toBitVec k))
theorem bit_s (x : Int32) : ∀ k, k < 8 → (x >>> (nI k &&& 31)) &&& nI 1 = nI (u32 x / 2 ^ k % 2)
  | 0, _ => bit_a x 0 (by decide) rfl
  | 1, _ => bit_a x 1 (by decide) rfl
  | 2, _ => bit_a x 2 (by decide) rfl
  | 3, _ => bit_a x 3 (by decide) rfl
  | 4, _ => bit_a x 4 (by decide) rfl
  | 5, _ => bit_a x 5 (by decide) rfl
  | 6, _ => bit_a x 6 (by decide) rfl
  | 7, _ => bit_a x 7 (by decide) rfl
  | n + 8, h => absurd h (by omega)
theorem bv_shr (X : BitVec 32) (k : Nat) : X >>> k = BitVec.ofNat 32 (X.toNat / 2 ^ k) := by
  apply BitVec.eq_of_toNat_eq
  rw [BitVec.toNat_ushiftRight, BitVec.toNat_ofNat, Nat.shiftRight_eq_div_pow, Nat.mod_eq_of_lt (Nat.lt_of_le_of_lt (Nat.div_le_self _ _) X.isLt)]
theorem ush_s (x : Int32) : ∀ k, k < 9 → (x.toUInt32 >>> ((nI k).toUInt32 &&& Int32.toUInt32 31)).toInt32 = nI (u32 x / 2 ^ k)
  | 0, _ => congrArg (fun b => (⟨⟨b⟩⟩ : Int32)) (bv_shr x.toBitVec 0)
  | 1, _ => congrArg (fun b => (⟨⟨b⟩⟩ : Int32)) (bv_shr x.toBitVec 1)
  | 2, _ => congrArg (fun b => (⟨⟨b⟩⟩ : Int32)) (bv_shr x.toBitVec 2)
  | 3, _ => congrArg (fun b => (⟨⟨b⟩⟩ : Int32)) (bv_shr x.toBitVec 3)
  | 4, _ => congrArg (fun b => (⟨⟨b⟩⟩ : Int32)) (bv_shr x.toBitVec 4)
  | 5, _ => congrArg (fun b => (⟨⟨b⟩⟩ : Int32)) (bv_shr x.toBitVec 5)
  | 6, _ => congrArg (fun b => (⟨⟨b⟩⟩ : Int32)) (bv_shr x.toBitVec 6)
  | 7, _ => congrArg (fun b => (⟨⟨b⟩⟩ : Int32)) (bv_shr x.toBitVec 7)
  | 8, _ => congrArg (fun b => (⟨⟨b⟩⟩ : Int32)) (bv_shr x.toBitVec 8)
  | n + 9, h => absurd h (by omega)
theorem prod_up {m f0 x : Nat} {p a : Nat → Nat} (hf : f0 < m) (h0 : a f0 = 0) : sumN (fun f => p f * up1 a f0 x f) m = sumN (fun f => p f * a f) m + p f0 * x := by
  have := sumN_up (f := fun f => p f * up1 a f0 x f) (g := fun f => p f * a f) (a := f0) m hf (fun i _ hi => by
    show p i * up1 a f0 x i = p i * a i
    rw [show up1 a f0 x i = a i from if_neg hi])
  simp only [show up1 a f0 x f0 = x from if_pos rfl, h0, Nat.mul_zero] at this
  omega
/-- how many of the first n are done -/
theorem done_ex {dn : Nat → Nat} : ∀ m, (∀ f, f < m → dn f ≤ 1) → sumN dn m < m → ∃ f, f < m ∧ dn f = 0
  | 0, _, h => absurd h (Nat.not_lt_zero _)
  | m + 1, h1, h => by
    by_cases q : dn m = 0
    · exact ⟨m, by omega, q⟩
    · have := h1 m (by omega)
      rw [sumN] at h
      obtain ⟨f, f1, f2⟩ := done_ex m (fun f hf => h1 f (by omega)) (by omega)
      exact ⟨f, by omega, f2⟩
theorem done_all {dn : Nat → Nat} : ∀ m, (∀ f, f < m → dn f ≤ 1) → sumN dn m = m → ∀ f, f < m → dn f = 1
  | 0, _, _, f, hf => absurd hf (Nat.not_lt_zero f)
  | m + 1, h1, h, f, hf => by
    rw [sumN] at h
    have b : sumN dn m ≤ m := by
      have := sumN_mono (f := dn) (g := fun _ => 1) m (fun i hi => h1 i (by omega))
      have e : sumN (fun _ => 1) m = m := by
        have aux : ∀ n, sumN (fun _ => 1) n = n := fun n => by
          induction n with
          | zero => rfl
          | succ n ih => rw [sumN, ih]
        exact aux m
      omega
    have := h1 m (by omega)
    by_cases e : f = m
    · subst e; omega
    · exact done_all m (fun f hf => h1 f (by omega)) (by omega) f (by omega)
section WF
variable {w : Wd} {d : Nat} {σ : Mem} {s : Sk} {P : Option AV → Mem → Prop} {X : Nat → Mem → Prop}
theorem s_of {q : Nat} (hS : skC σ 4 s) (hv : VS s) (hq : q < 2 ^ 31) (h83 : ∀ k f, k < kT s 2 → f < kT s 3 → rI σ 83 (k * 12 + f) = nI (rmS s k f)) (hP : ∀ τ, (∀ a j, ¬ (84 ≤ a ∧ a ≤ 95) → rI τ a j = rI σ a j) → τ.2 = σ.2 → (∃ a, isW s q 108 a) → P (some (.int (nI (woS s q)))) τ) : Ret w true (d + 5) 0 0 m_Worth_of [.ref 81, .int (nI q)] σ P X := by
  have hn := hv.2.2.1
  have hF := hv.2.2.2.1
  have bF := hv.2.2.2.2.2.2.2.2.2.2.2.2.2.1
  have bC := hv.2.2.2.2.2.2.2.2.2.2.2.2.1
  have hi := kyS_inj hv
  refine meth_ok k_Worth_of q_Worth_of rfl fun At hAt => ?_
  have serve : ∀ t, t ≤ kT s 3 → ∀ τ g lf a dn c z4, (∀ a j, ¬ (84 ≤ a ∧ a ≤ 95) → rI τ a j = rI σ a j) → τ.2 = σ.2 → wC (kT s 2) (kT s 3) (rmS s) g lf τ → (∀ k f, k < kT s 2 → f < kT s 3 → g k f ≤ rmS s k f) → (∀ k, k < kT s 2 → sumN (g k) (kT s 3) + lf k = QS s q k) → (∀ f, f < kT s 3 → sumN (fun k => g k f) (kT s 2) = a f) → isW s q c a → (∀ f, f < kT s 3 → rI τ 89 f = nI (dn f)) → (∀ f, f < kT s 3 → dn f = if kyS s f < c then 1 else 0) → sumN dn (kT s 3) = t → c ≤ 120 → At 74 [.ref 81, .int (nI q), .int (nI (sumN (fun f => prS s f * a f) (kT s 3))), .int (nI t), z4] [] τ 0 0 := by
    refine upto fun t ht ih => ?_
    intro τ g lf a dn c z4 t1 t2 hw hr hsum hcol hg h89 hdn hst hc
    have hS1 := hS.frame9 (τ := τ) (fun a j h => t1 a j (by omega))
    have hd1 : ∀ f, f < kT s 3 → dn f ≤ 1 := fun f hf => by rw [hdn f hf]; split <;> omega
    have hex : t < kT s 3 → ∃ f, f < kT s 3 ∧ dn f = 0 := fun h => done_ex _ hd1 (by omega)
    have lst : t = kT s 3 → nI (sumN (fun f => prS s f * a f) (kT s 3)) = nI (woS s q) ∧ ∃ a, isW s q 108 a := fun e => by
      have al : ∀ f, f < kT s 3 → kyS s f < c := fun f hf => by
        have := done_all _ hd1 (hst.trans e) f hf
        rw [hdn f hf] at this
        by_cases q : kyS s f < c
        · exact q
        · rw [if_neg q] at this; cases this
      have g2 := isG_to hg (120 - c) (fun f hf q => by have := al f hf; omega)
      rw [show c + (120 - c) = 120 by omega] at g2
      have g3 := isG_cut (c' := 108) g2 (by omega)
      refine ⟨congrArg nI ?_, _, g3⟩
      unfold woS
      rw [← woV_eq hi g3]
      refine sumN_congr (kT s 3) (fun f hf => ?_)
      show prS s f * a f = prS s f * (if kyS s f < 108 then a f else 0)
      by_cases z : kyS s f < 108
      · rw [if_pos z]
      · have b := bF f hf
        have e0 : prS s f = 0 := by unfold prS; unfold kyS at z; omega
        rw [e0, Nat.zero_mul, Nat.zero_mul]
    have nxt : t < kT s 3 → ∀ b, b < kT s 3 → dn b = 0 → (∀ g, g < kT s 3 → dn g = 0 → kyS s b ≤ kyS s g) → At 92 [.ref 81, .int (nI q), .int (nI (sumN (fun f => prS s f * a f) (kT s 3))), .int (nI t), z4] [.int (nI b)] τ 0 0 := by
      intro ht2 b hb hdb hmin
      have hkc : c ≤ kyS s b := by
        have := hdn b hb
        rw [hdb] at this
        by_cases q : kyS s b < c
        · rw [if_pos q] at this; cases this
        · omega
      have ha0 : a b = 0 := hg.2.1 b hb hkc
      have hg2 : isW s q (kyS s b) a := by
        have g2 := isG_to hg (kyS s b - c) (fun f hf z => by
          have h0 : dn f = 0 := by rw [hdn f hf, if_neg (by omega)]
          have := hmin f hf h0; omega)
        rw [show c + (kyS s b - c) = kyS s b by omega] at g2
        exact g2
      have bb := bF b hb
      have hk120 := kyS_lt hv b hb
      refine hAt 13 _ _ _ _ _ _ ?_
      refine s_Row_set (a := 88) (na := 89) (n := 12) rfl (show b < 12 by omega) ?_
      refine s_Table_get (a := 10) (na := 11) (mo := 12) (wd := 6) rfl (show b < 12 by omega) (show 5 < 6 by omega) ?_
      refine Eq.mpr (congrArg (fun xq : Int32 => At 118 [.ref (81), .int (nI q), .int (nI (sumN (fun f => prS s f * a f) (kT s 3))), .int (nI t), .int (nI b)] [.int xq, .int (nI (sumN (fun f => prS s f * a f) (kT s 3)))] (wI τ 89 b (nI 1)) 0 0) (show rI (wI τ 89 b (nI 1)) 11 (b * 6 + 5) = nI (kF s b 5) from (by rw [rI_wI, if_neg (by omega)]; exact (hS1.2.2.2.1.2 b (by omega) 5 (by omega))))) ?_
      refine hAt 8 _ _ _ _ _ _ ?_
      refine s_quench (b := a) (Q := QS s q) (hS1.frame9 (fun a j u => by rw [rI_wI, if_neg (by omega)])) hv (hw.frame (fun a j u => by rw [rI_wI, if_neg (by omega)])) (fun k f _ _ => rmS_le hv k f) hr (fun k hk => QS_le hv hk) hsum (by omega) hcol ha0 (fun τ2 g' lf' x u1 u2 w1 w2 w3 w4 w5 w6 => ?_)
      refine Eq.mpr (congrArg (fun xq : Int32 => At 74 [.ref (81), .int (nI q), .int xq, .int (nI t + nI 1), .int (nI b)] [] τ2 0 0) (show (nI (sumN (fun f => prS s f * a f) (kT s 3))) + ((nI (kF s b 5)) * nI x) = nI ((sumN (fun f => prS s f * a f) (kT s 3)) + ((kF s b 5) * x)) from (adE rfl (mlE rfl rfl)))) ?_
      refine Eq.mpr (congrArg (fun xq : Int32 => At 74 [.ref (81), .int (nI q), .int (nI ((sumN (fun f => prS s f * a f) (kT s 3)) + ((kF s b 5) * x))), .int xq, .int (nI b)] [] τ2 0 0) (show nI t + nI 1 = nI (t + 1) from (adE rfl rfl))) ?_
      have q2 := ih ht2 τ2 g' lf' (up1 a b x) (up1 dn b 1) (kyS s b + 1) (.int (nI b)) (fun a j u => ?_) ?_ w1 w2 w3 w4 (isG_serve hg2 hb hi rfl ⟨w2, fun k hk => by have := w3 k hk; omega, fun f hf => (w4 f hf).symm⟩ (fun f hf hne => if_neg hne) (by rw [show up1 a b x b = x from if_pos rfl]; exact w5) (by
        rw [show up1 a b x b = x from if_pos rfl]
        rcases w6 with e | ⟨R, C, r1, r2, r3⟩
        · exact Or.inl e
        · refine Or.inr ⟨R, C, r1, fun f hf z => ?_, r3⟩
          rcases r2 f hf z with y | ⟨k, k1, k2⟩
          · exact Or.inl y
          · refine Or.inr ?_
            rw [← w4 f hf]
            have := sumN_mem (f := fun k => g' k f) (kT s 2) k k1
            exact Nat.lt_of_lt_of_le k2 this)) (fun f hf => ?_) (fun f hf => ?_) ?_ (by omega)
      · rw [prod_up hb ha0] at q2; exact q2
      · rw [u1 a j (by omega) (by omega) (by omega) (by omega) (by omega), rI_wI, if_neg (by omega)]; exact t1 a j u
      · exact u2.trans t2
      · rw [u1 89 f (by omega) (by omega) (by omega) (by omega) (by omega), rI_wI]
        unfold up1
        by_cases e : f = b
        · rw [if_pos ⟨rfl, e⟩, if_pos e]
        · rw [if_neg (by omega), if_neg e]; exact h89 f hf
      · unfold up1
        by_cases e : f = b
        · rw [if_pos e, e, if_pos (by omega)]
        · rw [if_neg e, hdn f hf]
          by_cases z : kyS s f < c
          · rw [if_pos z, if_pos (by omega)]
          · rw [if_neg z]
            have h0 : dn f = 0 := by rw [hdn f hf, if_neg z]
            have h1 := hmin f hf h0
            have h2 : kyS s f ≠ kyS s b := fun y => e (hi f b hf hb y)
            rw [if_neg (by omega)]
      · have := sumN_up (f := up1 dn b 1) (g := dn) (a := b) (kT s 3) hb (fun i _ hne => if_neg hne)
        rw [show up1 dn b 1 b = 1 from if_pos rfl, hdb] at this
        omega
    refine hAt 5 _ _ _ _ _ _ ?_
    refine s_Table_size (a := 10) (na := 11) (mo := 12) (wd := 6) rfl ?_
    refine Eq.mpr (congrArg (fun xq : Int32 => At 85 [.ref (81), .int (nI q), .int (nI (sumN (fun f => prS s f * a f) (kT s 3))), .int (nI t), z4] [.int xq, .int (nI t)] τ 0 0) (show rI τ 10 3 = nI (kT s 3) from hS1.2.2.2.1.1)) ?_
    refine hAt 1 _ _ _ _ _ _ ?_
    refine And.intro (fun hq => ?_) (fun hq => ?_)
    · have c85 : kT s 3 ≤ t := (leN (a := kT s 3) (b := t) rfl rfl (by omega) (by omega)).mp hq
      clear hq
      refine hAt 2 _ _ _ _ _ _ ?_
      have l := lst (by omega)
      rw [l.1]
      exact hP τ t1 t2 l.2
    · have c85 : t < kT s 3 := Nat.lt_of_not_le (fun zq => hq ((leN (a := kT s 3) (b := t) rfl rfl (by omega) (by omega)).mpr zq))
      clear hq
      refine hAt 1 _ _ _ _ _ _ ?_
      refine hAt 1 _ _ _ _ _ _ ?_
      exact s_dearest hS1 hv h89 hd1 (hex c85) (nxt c85)
  have fill : ∀ k, k ≤ kT s 2 → ∀ τ z3 z4, (∀ a j, ¬ (84 ≤ a ∧ a ≤ 95) → rI τ a j = rI σ a j) → τ.2 = σ.2 → (∀ k f, k < kT s 2 → f < kT s 3 → rI τ 85 (k * 12 + f) = nI 0) → (∀ f, f < kT s 3 → rI τ 89 f = nI 0) → (∀ i, i < k → rI τ 87 i = nI (QS s q i)) → At 17 [.ref 81, .int (nI q), .int (nI k), z3, z4] [] τ 0 0 := by
    refine upto fun k hk ih => ?_
    intro τ z3 z4 t1 t2 t3 t4 t5
    have hS1 := hS.frame9 (τ := τ) (fun a j h => t1 a j (by omega))
    have bit : k < kT s 2 → (nI q >>> (nI k &&& 31)) &&& nI 1 = nI (q / 2 ^ k % 2) := fun h => by rw [bit_s _ k (by omega), u32_nI (by omega)]
    have hm2 : q / 2 ^ k % 2 < 2 := Nat.mod_lt _ (by decide)
    have go : ∀ x, x = QS s q k → k < kT s 2 → ∀ z3, At 17 [.ref 81, .int (nI q), .int (nI (k + 1)), z3, z4] [] (wI τ 87 k (nI x)) 0 0 := fun x e hk2 z3 => by
      refine ih hk2 _ z3 z4 (fun a j u => ?_) t2 (fun k f h1 h2 => ?_) (fun f hf => ?_) (fun i hi => ?_)
      · rw [rI_wI, if_neg (by omega)]; exact t1 a j u
      · rw [rI_wI, if_neg (by omega)]; exact t3 k f h1 h2
      · rw [rI_wI, if_neg (by omega)]; exact t4 f hf
      · rw [rI_wI]
        by_cases e2 : i = k
        · subst e2; rw [if_pos ⟨rfl, rfl⟩, e]
        · rw [if_neg (by omega)]; exact t5 i (by omega)
    refine hAt 5 _ _ _ _ _ _ ?_
    refine s_Table_size (a := 8) (na := 9) (mo := 8) (wd := 7) rfl ?_
    refine Eq.mpr (congrArg (fun xq : Int32 => At 28 [.ref (81), .int (nI q), .int (nI k), z3, z4] [.int xq, .int (nI k)] τ 0 0) (show rI τ 8 3 = nI (kT s 2) from hS1.2.2.1.1)) ?_
    refine hAt 1 _ _ _ _ _ _ ?_
    refine And.intro (fun hq => ?_) (fun hq => ?_)
    · have c28 : kT s 2 ≤ k := (leN (a := kT s 2) (b := k) rfl rfl (by omega) (by omega)).mp hq
      clear hq
      have e : k = kT s 2 := by omega
      subst e
      refine hAt 4 _ _ _ _ _ _ ?_
      have z := serve 0 (Nat.zero_le _) τ (fun _ _ => 0) (fun k => QS s q k) (fun _ => 0) (fun _ => 0) 0 z4 t1 t2 ⟨fun k f hk hf => (t1 _ _ (by omega)).trans (h83 k f hk hf), t3, t5⟩ (fun _ _ _ _ => Nat.zero_le _) (fun k hk => by rw [sumN_zero _ (fun _ _ => rfl), Nat.zero_add]) (fun f hf => sumN_zero _ (fun _ _ => rfl)) isG_0 t4 (fun f hf => (if_neg (Nat.not_lt_zero _)).symm) (sumN_zero _ (fun _ _ => rfl)) (Nat.zero_le _)
      rw [show sumN (fun f => prS s f * 0) (kT s 3) = 0 from sumN_zero _ (fun f _ => Nat.mul_zero _)] at z
      exact z
    · have c28 : k < kT s 2 := Nat.lt_of_not_le (fun zq => hq ((leN (a := kT s 2) (b := k) rfl rfl (by omega) (by omega)).mpr zq))
      clear hq
      have bc := bC k c28
      refine hAt 10 _ _ _ _ _ _ ?_
      refine And.intro (fun hq => ?_) (fun hq => ?_)
      · have c42 : ¬ q / 2 ^ k % 2 = 1 := fun zq => hq ((eqN (a := q / 2 ^ k % 2) (b := 1) (bit (by omega)) rfl (by omega) (by omega)).mpr zq)
        clear hq
        refine hAt 4 _ _ _ _ _ _ ?_
        refine s_Row_set (a := 86) (na := 87) (n := 8) rfl (show k < 8 by omega) ?_
        refine Eq.mpr (congrArg (fun xq : Int32 => At 17 [.ref (81), .int (nI q), .int xq, z3, z4] [] (wI τ 87 k (nI 0)) 0 0) (show nI k + nI 1 = nI (k + 1) from (adE rfl rfl))) ?_
        exact go 0 (by unfold QS; rw [if_neg c42]) c28 _
      · have c42 : q / 2 ^ k % 2 = 1 := (eqN (a := q / 2 ^ k % 2) (b := 1) (bit (by omega)) rfl (by omega) (by omega)).mp hq
        clear hq
        refine hAt 6 _ _ _ _ _ _ ?_
        refine s_Table_get (a := 8) (na := 9) (mo := 8) (wd := 7) rfl (show k < 8 by omega) (show 4 < 7 by omega) ?_
        refine Eq.mpr (congrArg (fun xq : Int32 => At 57 [.ref (81), .int (nI q), .int (nI k), z3, z4] [.int xq, .int (nI k), .ref (86)] τ 0 0) (show rI τ 9 (k * 7 + 4) = nI (kC s k 4) from (hS1.2.2.1.2 k (by omega) 4 (by omega)))) ?_
        refine hAt 4 _ _ _ _ _ _ ?_
        refine s_Row_set (a := 86) (na := 87) (n := 8) rfl (show k < 8 by omega) ?_
        refine Eq.mpr (congrArg (fun xq : Int32 => At 17 [.ref (81), .int (nI q), .int xq, z3, z4] [] (wI τ 87 k (nI (kC s k 4))) 0 0) (show nI k + nI 1 = nI (k + 1) from (adE rfl rfl))) ?_
        exact go _ (by unfold QS; rw [if_pos c42]) c28 _
  refine hAt 9 _ _ _ _ _ _ ?_
  refine s_Table_empty (a := 84) (na := 85) (mo := 8) (wd := 12) rfl ?_
  obtain ⟨τ1, e1⟩ : ∃ τ1, τ1 = uI (wI σ 84 3 (nI 0)) 85 (fun j => if j < 8 * 12 then nI 0 else rI σ 85 j) := ⟨_, rfl⟩
  rw [← e1]
  have g1 : ∀ a x, rI τ1 a x = if a = 85 then (if x < 8 * 12 then nI 0 else rI σ 85 x) else if a = 84 ∧ x = 3 then nI 0 else rI σ a x := fun a x => by rw [e1, rI_uI, rI_wI]
  refine s_Row_setAll (a := 88) (na := 89) (n := 12) rfl ?_
  obtain ⟨τ2, e2⟩ : ∃ τ2, τ2 = uI τ1 89 (fun j => if j < 12 then nI 0 else rI τ1 89 j) := ⟨_, rfl⟩
  rw [← e2]
  have g2 : ∀ a x, rI τ2 a x = if a = 89 then (if x < 12 then nI 0 else rI τ1 89 x) else rI τ1 a x := fun a x => by rw [e2, rI_uI]
  refine fill 0 (Nat.zero_le _) τ2 _ _ (fun a j u => ?_) ?_ (fun k f hk hf => ?_) (fun f hf => ?_) (fun i hi => absurd hi (Nat.not_lt_zero i))
  · rw [g2, if_neg (by omega), g1, if_neg (by omega), if_neg (by omega)]
  · rw [e2]; show τ1.2 = σ.2; rw [e1]; rfl
  · rw [g2, if_neg (by omega), g1, if_pos rfl, if_pos (by omega)]
  · rw [g2, if_pos rfl, if_pos (by omega)]
end WF
section WG
variable {w : Wd} {d : Nat} {A : St} {v : AV}
theorem wo_ic {σ τ : Mem} (hI : IC A σ) (hv : VA A) (h1 : ∀ a j, ¬ (81 ≤ a ∧ a ≤ 97) → rI τ a j = rI σ a j) (hL : ∀ j, rL τ 367 j = rL σ 367 j) (hN : mN τ = mN σ) : frC σ τ ∧ IC A τ :=
  ⟨⟨fun a h2 h3 i => h1 a i (by omega), hL, by omega⟩, hI.scr (fun a i t => h1 a i (by omega)) (by omega) hv.2.2.2.2.1⟩
theorem CC_worth_bad {x : Int32} (hv : VA A) (hx : ¬ u32 x < 2 ^ kT (aSk A) 2) : CC w (d + 8) m_OC_worth [.int x] A 1 v A := by
  intro σ P X hI _ hX
  have hn : kT (aSk A) 2 ≤ 8 := hv.2.2.1.2.2.1
  refine meth_ok k_OC_worth q_OC_worth rfl fun At hAt => ?_
  refine hAt 5 _ _ _ _ _ _ ?_
  refine s_Table_size (a := 8) (na := 9) (mo := 8) (wd := 7) rfl ?_
  refine Eq.mpr (congrArg (fun xq : Int32 => At 11 [.ref (0), .int (x)] [.int xq, .int (x)] σ 0 0) (show rI σ 8 3 = nI (kT (aSk A) 2) from hI.sk.2.2.1.1)) ?_
  refine hAt 2 _ _ _ _ _ _ ?_
  refine And.intro (fun hq => ?_) (fun hq => ?_)
  · have c12 : ¬ ((x).toUInt32 >>> ((nI (kT (aSk A) 2)).toUInt32 &&& Int32.toUInt32 31)).toInt32 = nI 0 := hq
    clear hq
    refine hAt 2 _ _ _ _ _ _ ?_
    exact callG 1 6 (by omega) (by omega) (s_need_bad rfl (by omega) (by omega) hI.n (fun n => hX 0 rfl _ (frC.nX σ n) (hI.nX n)))
  · have c12 : ((x).toUInt32 >>> ((nI (kT (aSk A) 2)).toUInt32 &&& Int32.toUInt32 31)).toInt32 = nI 0 := hq
    clear hq
    exact absurd (by
  rw [ush_s x _ (by omega)] at c12
  have := congrArg u32 c12
  rw [u32_nI (show u32 x / 2 ^ kT (aSk A) 2 < 2 ^ 32 from Nat.lt_of_le_of_lt (Nat.div_le_self _ _) x.toBitVec.isLt), u32_nI (by omega)] at this
  exact Nat.lt_of_div_eq_zero (Nat.two_pow_pos _) this) hx
theorem CC_worth_ok {x : Int32} (hv : VA A) (hx : u32 x < 2 ^ kT (aSk A) 2) : CC w (d + 8) m_OC_worth [.int x] A 0 (.int (nI (woS (aSk A) (u32 x)))) A := by
  intro σ P X hI hP _
  have hn : kT (aSk A) 2 ≤ 8 := hv.2.2.1.2.2.1
  obtain ⟨q, hq⟩ : ∃ q, q = u32 x := ⟨_, rfl⟩
  rw [← nI_u32 x, ← hq]
  rw [← hq] at hx hP
  have h8 : 2 ^ kT (aSk A) 2 ≤ 2 ^ 8 := Nat.pow_le_pow_right (by decide) hn
  have hqd : q / 2 ^ kT (aSk A) 2 = 0 := Nat.div_eq_of_lt hx
  refine meth_ok k_OC_worth q_OC_worth rfl fun At hAt => ?_
  refine hAt 5 _ _ _ _ _ _ ?_
  refine s_Table_size (a := 8) (na := 9) (mo := 8) (wd := 7) rfl ?_
  refine Eq.mpr (congrArg (fun xq : Int32 => At 11 [.ref (0), .int (nI q)] [.int xq, .int (nI q)] σ 0 0) (show rI σ 8 3 = nI (kT (aSk A) 2) from hI.sk.2.2.1.1)) ?_
  refine hAt 2 _ _ _ _ _ _ ?_
  refine And.intro (fun hq => ?_) (fun hq => ?_)
  · have c12 : ¬ q / 2 ^ kT (aSk A) 2 = 0 := fun zq => hq ((eqN (a := q / 2 ^ kT (aSk A) 2) (b := 0) (by rw [ush_s _ _ (by omega), u32_nI (by omega)]) rfl (by omega) (by omega)).mpr zq)
    clear hq
    exact absurd (Nat.div_eq_of_lt hx) c12
  · have c12 : q / 2 ^ kT (aSk A) 2 = 0 := (eqN (a := q / 2 ^ kT (aSk A) 2) (b := 0) (by rw [ush_s _ _ (by omega), u32_nI (by omega)]) rfl (by omega) (by omega)).mp hq
    clear hq
    refine hAt 11 _ _ _ _ _ _ ?_
    refine callG 0 0 (by omega) (by omega) (s_need_ok (by decide) ?_)
    refine s_measure hI.sk hv.2.2.1 (fun τ t1 t2 t3 => ?_)
    refine s_of (hI.sk.frame9 (fun a j h => t1 a j (by omega))) hv.2.2.1 (by omega) t3 (fun τ2 u1 u2 _ => ?_)
    have z := wo_ic (τ := τ2) hI hv (fun a j h => (u1 a j (by omega)).trans (t1 a j (by omega))) (fun j => (congrArg (fun z => z.1 367 j) u2).trans (congrArg (fun z => z.1 367 j) t2)) ((congrArg (fun z => z.2.2.1) u2).trans (congrArg (fun z => z.2.2.1) t2))
    exact hP rfl τ2 z.1 z.2
end WG
