/-! SHARE on the component's side -/
section SHC
variable {w : Wd} {d : Nat} {σ : Mem} {s : Sk} {P : Option AV → Mem → Prop} {X : Nat → Mem → Prop}
theorem s_bitCount {q : Nat} (hq : q < 64) (hP : P (some (.int (nI (onN q)))) σ) : Ret w true (d + 1) 0 0 m_Jint_bitCount [.int (nI q)] σ P X := by
  refine meth_ok k_Jint_bitCount q_Jint_bitCount rfl fun At hAt => ?_
  refine hAt 42 _ _ _ _ _ _ ?_
  have e : ∀ q, q < 64 → (((((((nI q - ((((nI q).toUInt32 >>> ((nI 1).toUInt32 &&& Int32.toUInt32 31)).toInt32) &&& nI 1431655765)) &&& nI 858993459) + ((((nI q - ((((nI q).toUInt32 >>> ((nI 1).toUInt32 &&& Int32.toUInt32 31)).toInt32) &&& nI 1431655765)).toUInt32 >>> ((nI 2).toUInt32 &&& Int32.toUInt32 31)).toInt32) &&& nI 858993459)) + (((((nI q - ((((nI q).toUInt32 >>> ((nI 1).toUInt32 &&& Int32.toUInt32 31)).toInt32) &&& nI 1431655765)) &&& nI 858993459) + ((((nI q - ((((nI q).toUInt32 >>> ((nI 1).toUInt32 &&& Int32.toUInt32 31)).toInt32) &&& nI 1431655765)).toUInt32 >>> ((nI 2).toUInt32 &&& Int32.toUInt32 31)).toInt32) &&& nI 858993459)).toUInt32 >>> ((nI 4).toUInt32 &&& Int32.toUInt32 31)).toInt32)) &&& nI 252645135) + (((((((nI q - ((((nI q).toUInt32 >>> ((nI 1).toUInt32 &&& Int32.toUInt32 31)).toInt32) &&& nI 1431655765)) &&& nI 858993459) + ((((nI q - ((((nI q).toUInt32 >>> ((nI 1).toUInt32 &&& Int32.toUInt32 31)).toInt32) &&& nI 1431655765)).toUInt32 >>> ((nI 2).toUInt32 &&& Int32.toUInt32 31)).toInt32) &&& nI 858993459)) + (((((nI q - ((((nI q).toUInt32 >>> ((nI 1).toUInt32 &&& Int32.toUInt32 31)).toInt32) &&& nI 1431655765)) &&& nI 858993459) + ((((nI q - ((((nI q).toUInt32 >>> ((nI 1).toUInt32 &&& Int32.toUInt32 31)).toInt32) &&& nI 1431655765)).toUInt32 >>> ((nI 2).toUInt32 &&& Int32.toUInt32 31)).toInt32) &&& nI 858993459)).toUInt32 >>> ((nI 4).toUInt32 &&& Int32.toUInt32 31)).toInt32)) &&& nI 252645135).toUInt32 >>> ((nI 8).toUInt32 &&& Int32.toUInt32 31)).toInt32)) + ((((((((nI q - ((((nI q).toUInt32 >>> ((nI 1).toUInt32 &&& Int32.toUInt32 31)).toInt32) &&& nI 1431655765)) &&& nI 858993459) + ((((nI q - ((((nI q).toUInt32 >>> ((nI 1).toUInt32 &&& Int32.toUInt32 31)).toInt32) &&& nI 1431655765)).toUInt32 >>> ((nI 2).toUInt32 &&& Int32.toUInt32 31)).toInt32) &&& nI 858993459)) + (((((nI q - ((((nI q).toUInt32 >>> ((nI 1).toUInt32 &&& Int32.toUInt32 31)).toInt32) &&& nI 1431655765)) &&& nI 858993459) + ((((nI q - ((((nI q).toUInt32 >>> ((nI 1).toUInt32 &&& Int32.toUInt32 31)).toInt32) &&& nI 1431655765)).toUInt32 >>> ((nI 2).toUInt32 &&& Int32.toUInt32 31)).toInt32) &&& nI 858993459)).toUInt32 >>> ((nI 4).toUInt32 &&& Int32.toUInt32 31)).toInt32)) &&& nI 252645135) + (((((((nI q - ((((nI q).toUInt32 >>> ((nI 1).toUInt32 &&& Int32.toUInt32 31)).toInt32) &&& nI 1431655765)) &&& nI 858993459) + ((((nI q - ((((nI q).toUInt32 >>> ((nI 1).toUInt32 &&& Int32.toUInt32 31)).toInt32) &&& nI 1431655765)).toUInt32 >>> ((nI 2).toUInt32 &&& Int32.toUInt32 31)).toInt32) &&& nI 858993459)) + (((((nI q - ((((nI q).toUInt32 >>> ((nI 1).toUInt32 &&& Int32.toUInt32 31)).toInt32) &&& nI 1431655765)) &&& nI 858993459) + ((((nI q - ((((nI q).toUInt32 >>> ((nI 1).toUInt32 &&& Int32.toUInt32 31)).toInt32) &&& nI 1431655765)).toUInt32 >>> ((nI 2).toUInt32 &&& Int32.toUInt32 31)).toInt32) &&& nI 858993459)).toUInt32 >>> ((nI 4).toUInt32 &&& Int32.toUInt32 31)).toInt32)) &&& nI 252645135).toUInt32 >>> ((nI 8).toUInt32 &&& Int32.toUInt32 31)).toInt32)).toUInt32 >>> ((nI 16).toUInt32 &&& Int32.toUInt32 31)).toInt32)) &&& nI 63 = nI (onN q) := by decide +kernel
  rw [← e q hq] at hP
  exact hP
theorem bv_or2 {q k : Nat} : nI q ||| nI (2 ^ k) = nI (q ||| 2 ^ k) := by
  show (⟨⟨BitVec.ofNat 32 q ||| BitVec.ofNat 32 (2 ^ k)⟩⟩ : Int32) = ⟨⟨BitVec.ofNat 32 (q ||| 2 ^ k)⟩⟩
  rw [BitVec.ofNat_or]
theorem l_lt {a b : Nat} (ha : a < 2 ^ 63) (hb : b < 2 ^ 63) : lN a < lN b ↔ a < b := by
  rw [Int64.lt_iff_toInt_lt, l_int ha, l_int hb]; omega
theorem lcmp_le {x y : Int64} : lg_cmp x y ≤ nI 0 ↔ ¬ y < x := by
  unfold lg_cmp
  by_cases h1 : x > y
  · rw [if_pos h1]; exact ⟨fun q => absurd q (by decide), fun q => absurd h1 q⟩
  · rw [if_neg h1]
    by_cases h2 : x = y
    · rw [if_pos h2]; exact ⟨fun _ => h1, fun _ => by decide⟩
    · rw [if_neg h2]; exact ⟨fun _ => h1, fun _ => by decide⟩
theorem onN_z {q k n : Nat} (hn : n < 8) (hk : k < n) (hq : q < 2 ^ n) (hz : q / 2 ^ k % 2 = 0) : onN q + 1 ≤ n := by
  unfold onN
  have aux : ∀ m, sumN (fun i => q / 2 ^ i % 2) m + (if k < m then 1 else 0) ≤ min m n := by
    intro m
    induction m with
    | zero => rw [if_neg (by omega)]; exact Nat.zero_le _
    | succ m ih =>
      rw [sumN]
      have h2 := Nat.mod_lt (q / 2 ^ m) (show 0 < 2 by decide)
      by_cases e0 : m = k
      · subst e0
        rw [hz, if_pos (by omega)]; rw [if_neg (by omega)] at ih; omega
      · have e1 : (if k < m + 1 then 1 else 0) = if k < m then 1 else 0 := by
          by_cases y : k < m
          · rw [if_pos y, if_pos (by omega)]
          · rw [if_neg y, if_neg (by omega)]
        rw [e1]
        by_cases e : m < n
        · omega
        · have : q / 2 ^ m = 0 := Nat.div_eq_of_lt (Nat.lt_of_lt_of_le hq (Nat.pow_le_pow_right (by decide) (by omega)))
          rw [this]; omega
  have := aux 8
  rw [if_pos (by omega)] at this
  omega
theorem or_lt {q k n : Nat} (hq : q < 2 ^ n) (hk : k < n) : q ||| 2 ^ k < 2 ^ n := Nat.or_lt_two_pow hq (Nat.pow_lt_pow_right (by decide) hk)
/-- what share's sums run over is told of -/
def exW2 (s : Sk) (n : Nat) : Prop := ∀ q, q < 2 ^ n → ∃ a, isW s q 108 a
theorem shU_le {s : Sk} {n k : Nat} (hv : VS s) (hn : n ≤ 6) (hk : k < n) (ex : exW2 s n) : ∀ q, q ≤ 2 ^ n → shU s n k q ≤ q * 5542732800
  | 0, _ => Nat.zero_le _
  | q + 1, h => by
    have ih := shU_le hv hn hk ex q (by omega)
    rw [shU]
    have h1 := fc_le (onN q) (Nat.le_trans (onN_lt (k := n) (by omega) (by omega)) hn)
    have h2 := fc_le (n - 1 - onN q) (by omega)
    have h3 : woS s (q ||| 2 ^ k) - woS s q ≤ 10692 := Nat.le_trans (Nat.sub_le _ _) (woS_le hv (ex _ (or_lt (by omega) hk)))
    have h4 : fcN (onN q) * fcN (n - 1 - onN q) * (woS s (q ||| 2 ^ k) - woS s q) ≤ 5542732800 := Nat.le_trans (Nat.mul_le_mul (Nat.mul_le_mul h1 h2) h3) (by decide)
    rw [Nat.succ_mul]
    by_cases e : q / 2 ^ k % 2 = 0
    · rw [if_pos e]; exact Nat.add_le_add ih h4
    · rw [if_neg e, Nat.add_zero]; exact Nat.le_trans ih (Nat.le_add_right _ _)
theorem s_shareOut {k : Nat} (hS : skC σ 4 s) (hv : VS s) (hn6 : kT s 2 ≤ 6) (hk : k < kT s 2) (hP : ∀ τ, (∀ a j, ¬ (81 ≤ a ∧ a ≤ 97) → rI τ a j = rI σ a j) → (∀ a j, ¬ (a = 81 ∧ (j = 9 ∨ j = 10)) → rL τ a j = rL σ a j) → mN τ = mN σ → rL τ 81 9 = lN (shU s (kT s 2) k (2 ^ kT s 2) / Nat.gcd (fcN (kT s 2)) (shU s (kT s 2) k (2 ^ kT s 2))) → rL τ 81 10 = lN (fcN (kT s 2) / Nat.gcd (fcN (kT s 2)) (shU s (kT s 2) k (2 ^ kT s 2))) → P none τ) : Ret w true (d + 6) 0 0 m_Worth_shareOut [.ref 81, .int (nI k)] σ P X := by
  have h64 : 2 ^ kT s 2 ≤ 2 ^ 6 := Nat.pow_le_pow_right (by decide) hn6
  refine meth_ok k_Worth_shareOut q_Worth_shareOut rfl fun At hAt => ?_
  have second : ∀ τ0, (∀ a j, ¬ (81 ≤ a ∧ a ≤ 97) → rI τ0 a j = rI σ a j) → τ0.2 = σ.2 → (∀ i, i < 2 ^ kT s 2 → rI τ0 97 i = nI (woS s i)) → exW2 s (kT s 2) → At 48 [.ref 81, .int (nI k), .int (nI (kT s 2)), .int (nI (2 ^ kT s 2)), junk, junk, junk] [] τ0 0 0 := by
    intro τ0 s1 s2 s3 s4
    have tail : ∀ τ z4 z5 z6, (∀ a j, rI τ a j = rI τ0 a j) → (∀ a j, ¬ (a = 81 ∧ j = 9) → rL τ a j = rL τ0 a j) → mN τ = mN τ0 → rL τ 81 9 = lN (shU s (kT s 2) k (2 ^ kT s 2)) → At 135 [.ref 81, .int (nI k), .int (nI (kT s 2)), .int (nI (2 ^ kT s 2)), z4, z5, z6] [] τ 0 0 := by
      intro τ z4 z5 z6 g1 g2 g3 g4
      have hF := fc_le (kT s 2) hn6
      have hF0 := fc_pos (kT s 2)
      have hU : shU s (kT s 2) k (2 ^ kT s 2) < 2 ^ 62 := by have := shU_le hv hn6 hk s4 _ (Nat.le_refl _); omega
      obtain ⟨U, eU⟩ : ∃ U, U = shU s (kT s 2) k (2 ^ kT s 2) := ⟨_, rfl⟩
      obtain ⟨F, eF⟩ : ∃ F, F = fcN (kT s 2) := ⟨_, rfl⟩
      rw [← eU] at hP g4 hU
      rw [← eF] at hP hF hF0
      have e10 : rL (wL τ 81 10 (nI F).toInt64) 81 10 = lN F := by rw [rL_wL, if_pos ⟨rfl, rfl⟩, l_of (by omega)]
      have e9 : rL (wL τ 81 10 (nI F).toInt64) 81 9 = lN U := by rw [rL_wL, if_neg (by omega)]; exact g4
      have last : At 152 [.ref 81, .int (nI k), .int (nI (kT s 2)), .int (nI (2 ^ kT s 2)), z4, z5, z6] [.long (lN F), .long (lN U)] (wL τ 81 10 (nI F).toInt64) 0 0 := by
        have hG1 : 0 < Nat.gcd F U := Nat.gcd_pos_of_pos_left _ hF0
        have hGF : Nat.gcd F U ≤ F := Nat.gcd_le_left _ hF0
        have nz : ¬ lN (Nat.gcd F U) = 0 := fun z => by have := l_inj (a := Nat.gcd F U) (b := 0) (by omega) (by decide) z; omega
        have hx := fun (x y : Int64) (h9 : x = lN (U / Nat.gcd F U)) (h10 : y = lN (F / Nat.gcd F U)) => hP (wL (wL (wL τ 81 10 (nI F).toInt64) 81 9 x) 81 10 y) (fun a j u => (g1 a j).trans (s1 a j u)) (fun a j u => by rw [rL_wL, if_neg (by omega), rL_wL, if_neg (by omega), rL_wL, if_neg (by omega), g2 a j (by omega)]; exact congrArg (fun z => z.1 a j) s2) (g3.trans (congrArg (fun z => z.2.2.1) s2)) (by rw [rL_wL, if_neg (by omega), rL_wL, if_pos ⟨rfl, rfl⟩]; exact h9) (by rw [rL_wL, if_pos ⟨rfl, rfl⟩]; exact h10)
        refine hAt 6 _ _ _ _ _ _ ?_
        refine s_commonOf (by omega) (by omega) ?_
        refine And.intro (fun hq => ?_) (fun hq => ?_)
        · have c159 : lg_cmp (lN (Nat.gcd F U)) (lN 1) ≤ nI 0 := hq
          clear hq
          refine hAt 1 _ _ _ _ _ _ ?_
          have e1 : Nat.gcd F U = 1 := by
            have := lcmp_le.mp c159
            rw [l_lt (by decide) (by omega)] at this
            omega
          rw [e1, Nat.div_one, Nat.div_one] at hP
          exact hP _ (fun a j u => (g1 a j).trans (s1 a j u)) (fun a j u => by rw [rL_wL, if_neg (by omega), g2 a j (by omega)]; exact congrArg (fun z => z.1 a j) s2) (g3.trans (congrArg (fun z => z.2.2.1) s2)) e9 e10
        · have c159 : ¬ lg_cmp (lN (Nat.gcd F U)) (lN 1) ≤ nI 0 := hq
          clear hq
          refine hAt 13 _ _ _ _ _ _ ?_
          refine And.intro (by assumption) ?_
          refine And.intro (nz) ?_
          refine hx _ _ ?_ ?_
          · rw [e9]; exact l_div (by omega) (by omega)
          · rw [rL_wL, if_neg (by omega), e10]; exact l_div (by omega) (by omega)

      refine hAt 9 _ _ _ _ _ _ ?_
      refine s_ordersOf (by omega) ?_
      rw [← eF]
      show At 152 [.ref (81), .int (nI k), .int (nI (kT s 2)), .int (nI (2 ^ kT s 2)), z4, z5, z6] [.long (rL (wL τ 81 10 ((nI F).toInt64)) 81 10), .long (rL (wL τ 81 10 ((nI F).toInt64)) 81 9)] (wL τ 81 10 ((nI F).toInt64)) 0 0
      rw [e9, e10]
      exact last
    have loop : ∀ q, q ≤ 2 ^ kT s 2 → ∀ τ z4 z5 z6, (∀ a j, rI τ a j = rI τ0 a j) → (∀ a j, ¬ (a = 81 ∧ j = 9) → rL τ a j = rL τ0 a j) → mN τ = mN τ0 → rL τ 81 9 = lN (shU s (kT s 2) k q) → At 55 [.ref 81, .int (nI k), .int (nI (kT s 2)), .int (nI q), z4, z5, z6] [] τ 0 0 := by
      refine upto fun q hq ih => ?_
      intro τ z4 z5 z6 g1 g2 g3 g4
      have bit : (nI q >>> (nI k &&& 31)) &&& nI 1 = nI (q / 2 ^ k % 2) := by rw [bit_s _ k (by omega), u32_nI (by omega)]
      have hm2 : q / 2 ^ k % 2 < 2 := Nat.mod_lt _ (by decide)
      have hor : q < 2 ^ kT s 2 → q ||| 2 ^ k < 2 ^ kT s 2 := fun h => or_lt h hk
      have hk5 : 2 ^ k ≤ 2 ^ 6 := Nat.pow_le_pow_right (by decide) (by omega)
      have mono : q < 2 ^ kT s 2 → woS s q ≤ woS s (q ||| 2 ^ k) ∧ woS s (q ||| 2 ^ k) ≤ 10692 := fun h => ⟨woS_mono hv (s4 q h) (s4 _ (or_lt h hk)), woS_le hv (s4 _ (or_lt h hk))⟩
      have w97 : ∀ i, i < 2 ^ kT s 2 → rI τ 97 i = nI (woS s i) := fun i hi => (g1 _ _).trans (s3 i hi)
      have on1 : q < 2 ^ kT s 2 → q / 2 ^ k % 2 = 0 → onN q + 1 ≤ kT s 2 := fun h e => onN_z (by omega) hk h e
      refine hAt 5 _ _ _ _ _ _ ?_
      refine And.intro (fun hq => ?_) (fun hq => ?_)
      · have c59 : 2 ^ kT s 2 ≤ q := (leN (a := 2 ^ kT s 2) (b := q) (shl_s _ (by omega)) rfl (by omega) (by omega)).mp hq
        clear hq
        have e : q = 2 ^ kT s 2 := by omega
        subst e
        exact tail τ _ _ _ g1 g2 g3 g4
      · have c59 : q < 2 ^ kT s 2 := Nat.lt_of_not_le (fun zq => hq ((leN (a := 2 ^ kT s 2) (b := q) (shl_s _ (by omega)) rfl (by omega) (by omega)).mpr zq))
        clear hq
        have hor := hor c59
        have mono := mono c59
        have on1 := on1 c59
        refine hAt 6 _ _ _ _ _ _ ?_
        refine And.intro (fun hq => ?_) (fun hq => ?_)
        · have c67 : ¬ q / 2 ^ k % 2 = 0 := fun zq => hq ((eqN (a := q / 2 ^ k % 2) (b := 0) bit rfl (by omega) (by omega)).mpr zq)
          clear hq
          refine hAt 2 _ _ _ _ _ _ ?_
          refine Eq.mpr (congrArg (fun xq : Int32 => At 55 [.ref (81), .int (nI k), .int (nI (kT s 2)), .int xq, z4, z5, z6] [] τ 0 0) (show nI q + nI 1 = nI (q + 1) from (adE rfl rfl))) ?_
          exact ih c59 τ _ _ _ g1 g2 g3 (by rw [g4, shU, if_neg c67, Nat.add_zero])
        · have c67 : q / 2 ^ k % 2 = 0 := (eqN (a := q / 2 ^ k % 2) (b := 0) bit rfl (by omega) (by omega)).mp hq
          clear hq
          refine hAt 11 _ _ _ _ _ _ ?_
          refine s_bitCount (by omega) ?_
          refine s_ordersOf (by omega) ?_
          refine Eq.mpr (congrArg (fun xq : Int32 => At 88 [.ref (81), .int (nI k), .int (nI (kT s 2)), .int (nI q), .int (nI (onN q)), z5, z6] [.int xq, .long ((nI (fcN (onN q))).toInt64)] τ 0 0) (show ((nI (kT s 2)) - nI 1) - (nI (onN q)) = nI (((kT s 2) - 1) - (onN q)) from (sbE (sbE rfl rfl (by omega)) rfl (by omega)))) ?_
          refine hAt 15 _ _ _ _ _ _ ?_
          refine s_ordersOf (by omega) ?_
          refine Eq.mpr (congrArg (fun xq : Int32 => At 111 [.ref (81), .int (nI k), .int (nI (kT s 2)), .int (nI q), .int (nI (onN q)), .long (((nI (fcN (onN q))).toInt64) * ((nI (fcN (((kT s 2) - 1) - (onN q)))).toInt64)), junk] [.int xq, .ref (96), .long (((nI (fcN (onN q))).toInt64) * ((nI (fcN (((kT s 2) - 1) - (onN q)))).toInt64)), .long (rL τ 81 9), .ref (81)] τ 0 0) (show (nI q) ||| ((nI 1) <<< ((nI k) &&& 31)) = nI (q ||| 2 ^ k) from (by rw [shl_s _ (by omega)]; exact bv_or2))) ?_
          refine hAt 1 _ _ _ _ _ _ ?_
          refine s_Row_get (a := 96) (na := 97) (n := 64) rfl (show q ||| 2 ^ k < 64 by omega) ?_
          refine Eq.mpr (congrArg (fun xq : Int32 => At 114 [.ref (81), .int (nI k), .int (nI (kT s 2)), .int (nI q), .int (nI (onN q)), .long (((nI (fcN (onN q))).toInt64) * ((nI (fcN (((kT s 2) - 1) - (onN q)))).toInt64)), junk] [.int xq, .long (((nI (fcN (onN q))).toInt64) * ((nI (fcN (((kT s 2) - 1) - (onN q)))).toInt64)), .long (rL τ 81 9), .ref (81)] τ 0 0) (show rI τ 97 (q ||| 2 ^ k) = nI (woS s (q ||| 2 ^ k)) from (w97 (q ||| 2 ^ k) (by omega)))) ?_
          refine hAt 4 _ _ _ _ _ _ ?_
          refine s_Row_get (a := 96) (na := 97) (n := 64) rfl (show q < 64 by omega) ?_
          refine Eq.mpr (congrArg (fun xq : Int32 => At 122 [.ref (81), .int (nI k), .int (nI (kT s 2)), .int (nI q), .int (nI (onN q)), .long (((nI (fcN (onN q))).toInt64) * ((nI (fcN (((kT s 2) - 1) - (onN q)))).toInt64)), junk] [.int xq, .int (nI (woS s (q ||| 2 ^ k))), .long (((nI (fcN (onN q))).toInt64) * ((nI (fcN (((kT s 2) - 1) - (onN q)))).toInt64)), .long (rL τ 81 9), .ref (81)] τ 0 0) (show rI τ 97 q = nI (woS s q) from (w97 q (by omega)))) ?_
          refine hAt 7 _ _ _ _ _ _ ?_
          refine Eq.mpr (congrArg (fun xq : Int32 => At 55 [.ref (81), .int (nI k), .int (nI (kT s 2)), .int xq, .int (nI (onN q)), .long (((nI (fcN (onN q))).toInt64) * ((nI (fcN (((kT s 2) - 1) - (onN q)))).toInt64)), junk] [] (wL τ 81 9 ((rL τ 81 9) + ((((nI (fcN (onN q))).toInt64) * ((nI (fcN (((kT s 2) - 1) - (onN q)))).toInt64)) * (((nI (woS s (q ||| 2 ^ k))) - (nI (woS s q))).toInt64)))) 0 0) (show nI q + nI 1 = nI (q + 1) from (adE rfl rfl))) ?_
          refine ih c59 _ _ _ _ (fun a j => g1 a j) (fun a j u => by rw [rL_wL, if_neg u]; exact g2 a j u) g3 ?_
          have on1 := on1 c67
          have f1 := fc_le (onN q) (by omega)
          have f2 := fc_le (kT s 2 - 1 - onN q) (by omega)
          rw [rL_wL, if_pos ⟨rfl, rfl⟩, g4, show nI (woS s (q ||| 2 ^ k)) - nI (woS s q) = nI (woS s (q ||| 2 ^ k) - woS s q) from sbE rfl rfl mono.1, l_of (by omega), l_of (by omega), l_of (by omega), l_mul, l_mul, l_add, shU, if_pos c67]
    refine hAt 5 _ _ _ _ _ _ ?_
    exact loop 0 (Nat.zero_le _) _ _ _ _ (fun _ _ => rfl) (fun a j u => by rw [rL_wL, if_neg u]) rfl (by rw [rL_wL, if_pos ⟨rfl, rfl⟩]; rfl)
  have first : ∀ q, q ≤ 2 ^ kT s 2 → ∀ τ, (∀ a j, ¬ (81 ≤ a ∧ a ≤ 97) → rI τ a j = rI σ a j) → τ.2 = σ.2 → (∀ k f, k < kT s 2 → f < kT s 3 → rI τ 83 (k * 12 + f) = nI (rmS s k f)) → (∀ i, i < q → rI τ 97 i = nI (woS s i)) → (∀ i, i < q → ∃ a, isW s i 108 a) → At 22 [.ref 81, .int (nI k), .int (nI (kT s 2)), .int (nI q), junk, junk, junk] [] τ 0 0 := by
    refine upto fun q hq ih => ?_
    intro τ t1 t2 t3 t4 t5
    refine hAt 5 _ _ _ _ _ _ ?_
    refine And.intro (fun hq => ?_) (fun hq => ?_)
    · have c26 : 2 ^ kT s 2 ≤ q := (leN (a := 2 ^ kT s 2) (b := q) (shl_s _ (by omega)) rfl (by omega) (by omega)).mp hq
      clear hq
      have e : q = 2 ^ kT s 2 := by omega
      subst e
      exact second τ t1 t2 t4 t5
    · have c26 : q < 2 ^ kT s 2 := Nat.lt_of_not_le (fun zq => hq ((leN (a := 2 ^ kT s 2) (b := q) (shl_s _ (by omega)) rfl (by omega) (by omega)).mpr zq))
      clear hq
      refine hAt 9 _ _ _ _ _ _ ?_
      refine s_of (hS.frame9 (fun a j h => t1 a j (by omega))) hv (by omega) t3 (fun τ2 u1 u2 u3 => ?_)
      refine s_Row_set (a := 96) (na := 97) (n := 64) rfl (show q < 64 by omega) ?_
      refine Eq.mpr (congrArg (fun xq : Int32 => At 22 [.ref (81), .int (nI k), .int (nI (kT s 2)), .int xq, junk, junk, junk] [] (wI τ2 97 q (nI (woS s q))) 0 0) (show nI q + nI 1 = nI (q + 1) from (adE rfl rfl))) ?_
      refine ih c26 _ (fun a j u => ?_) (u2.trans t2) (fun k f h1 h2 => ?_) (fun i hi => ?_) (fun i hi => ?_)
      · rw [rI_wI, if_neg (by omega), u1 a j (by omega)]; exact t1 a j u
      · rw [rI_wI, if_neg (by omega), u1 _ _ (by omega)]; exact t3 k f h1 h2
      · rw [rI_wI]
        by_cases e : i = q
        · subst e; rw [if_pos ⟨rfl, rfl⟩]
        · rw [if_neg (by omega), u1 _ _ (by omega)]; exact t4 i (by omega)
      · by_cases e : i = q
        · subst e; exact u3
        · exact t5 i (by omega)
  refine hAt 4 _ _ _ _ _ _ ?_
  refine s_Table_size (a := 8) (na := 9) (mo := 8) (wd := 7) rfl ?_
  refine Eq.mpr (congrArg (fun xq : Int32 => At 10 [.ref (81), .int (nI k), junk, junk, junk, junk, junk] [.int xq] σ 0 0) (show rI σ 8 3 = nI (kT s 2) from hS.2.2.1.1)) ?_
  refine hAt 7 _ _ _ _ _ _ ?_
  refine s_measure hS hv (fun τ1 t1 t2 t3 => ?_)
  refine Eq.mpr (congrArg (fun xq : Int32 => At 22 [.ref (81), .int (nI k), .int xq, .int (nI 0), junk, junk, junk] [] τ1 0 0) (show (if (nI 6) < (nI (kT s 2)) then (nI 6) else (nI (kT s 2))) = nI (kT s 2) from ((minE rfl rfl (by omega) (by omega)).trans (congrArg nI (Nat.min_eq_left hn6))))) ?_
  exact first 0 (Nat.zero_le _) τ1 (fun a j u => t1 a j (by omega)) t2 t3 (fun i hi => absurd hi (Nat.not_lt_zero i)) (fun i hi => absurd hi (Nat.not_lt_zero i))
end SHC
