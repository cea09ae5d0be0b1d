/-! SHARE on the component's side -/
section SHC
variable {w : Wd} {d : Nat} {σ : Mem} {s : Sk} {P : Option AV → Mem → Prop} {X : Nat → Mem → Prop}
theorem s_bitCount {q : Nat} (hq : q < 64) (hP : P (some (.int (nI (onN q)))) σ) : Ret w true (d + 1) 0 0 m_Jint_bitCount [.int (nI q)] σ P X := by
  refine meth_ok k_Jint_bitCount q_Jint_bitCount rfl fun At hAt => ?_
  refine hAt 42 _ _ _ _ _ _ ?_
  have e : ∀ q, q < 64 → (((((((nI q - ((((nI q).toUInt32 >>> ((nI 1).toUInt32 &&& Int32.toUInt32 31)).toInt32) &&& nI 1431655765)) &&& nI 858993459) + ((((nI q - ((((nI q).toUInt32 >>> ((nI 1).toUInt32 &&& Int32.toUInt32 31)).toInt32) &&& nI 1431655765)).toUInt32 >>> ((nI 2).toUInt32 &&& Int32.toUInt32 31)).toInt32) &&& nI 858993459)) + (((((nI q - ((((nI q).toUInt32 >>> ((nI 1).toUInt32 &&& Int32.toUInt32 31)).toInt32) &&& nI 1431655765)) &&& nI 858993459) + ((((nI q - ((((nI q).toUInt32 >>> ((nI 1).toUInt32 &&& Int32.toUInt32 31)).toInt32) &&& nI 1431655765)).toUInt32 >>> ((nI 2).toUInt32 &&& Int32.toUInt32 31)).toInt32) &&& nI 858993459)).toUInt32 >>> ((nI 4).toUInt32 &&& Int32.toUInt32 31)).toInt32)) &&& nI 252645135) + (((((((nI q - ((((nI q).toUInt32 >>> ((nI 1).toUInt32 &&& Int32.toUInt32 31)).toInt32) &&& nI 1431655765)) &&& nI 858993459) + ((((nI q - ((((nI q).toUInt32 >>> ((nI 1).toUInt32 &&& Int32.toUInt32 31)).toInt32) &&& nI 1431655765)).toUInt32 >>> ((nI 2).toUInt32 &&& Int32.toUInt32 31)).toInt32) &&& nI 858993459)) + (((((nI q - ((((nI q).toUInt32 >>> ((nI 1).toUInt32 &&& Int32.toUInt32 31)).toInt32) &&& nI 1431655765)) &&& nI 858993459) + ((((nI q - ((((nI q).toUInt32 >>> ((nI 1).toUInt32 &&& Int32.toUInt32 31)).toInt32) &&& nI 1431655765)).toUInt32 >>> ((nI 2).toUInt32 &&& Int32.toUInt32 31)).toInt32) &&& nI 858993459)).toUInt32 >>> ((nI 4).toUInt32 &&& Int32.toUInt32 31)).toInt32)) &&& nI 252645135).toUInt32 >>> ((nI 8).toUInt32 &&& Int32.toUInt32 31)).toInt32)) + ((((((((nI q - ((((nI q).toUInt32 >>> ((nI 1).toUInt32 &&& Int32.toUInt32 31)).toInt32) &&& nI 1431655765)) &&& nI 858993459) + ((((nI q - ((((nI q).toUInt32 >>> ((nI 1).toUInt32 &&& Int32.toUInt32 31)).toInt32) &&& nI 1431655765)).toUInt32 >>> ((nI 2).toUInt32 &&& Int32.toUInt32 31)).toInt32) &&& nI 858993459)) + (((((nI q - ((((nI q).toUInt32 >>> ((nI 1).toUInt32 &&& Int32.toUInt32 31)).toInt32) &&& nI 1431655765)) &&& nI 858993459) + ((((nI q - ((((nI q).toUInt32 >>> ((nI 1).toUInt32 &&& Int32.toUInt32 31)).toInt32) &&& nI 1431655765)).toUInt32 >>> ((nI 2).toUInt32 &&& Int32.toUInt32 31)).toInt32) &&& nI 858993459)).toUInt32 >>> ((nI 4).toUInt32 &&& Int32.toUInt32 31)).toInt32)) &&& nI 252645135) + (((((((nI q - ((((nI q).toUInt32 >>> ((nI 1).toUInt32 &&& Int32.toUInt32 31)).toInt32) &&& nI 1431655765)) &&& nI 858993459) + ((((nI q - ((((nI q).toUInt32 >>> ((nI 1).toUInt32 &&& Int32.toUInt32 31)).toInt32) &&& nI 1431655765)).toUInt32 >>> ((nI 2).toUInt32 &&& Int32.toUInt32 31)).toInt32) &&& nI 858993459)) + (((((nI q - ((((nI q).toUInt32 >>> ((nI 1).toUInt32 &&& Int32.toUInt32 31)).toInt32) &&& nI 1431655765)) &&& nI 858993459) + ((((nI q - ((((nI q).toUInt32 >>> ((nI 1).toUInt32 &&& Int32.toUInt32 31)).toInt32) &&& nI 1431655765)).toUInt32 >>> ((nI 2).toUInt32 &&& Int32.toUInt32 31)).toInt32) &&& nI 858993459)).toUInt32 >>> ((nI 4).toUInt32 &&& Int32.toUInt32 31)).toInt32)) &&& nI 252645135).toUInt32 >>> ((nI 8).toUInt32 &&& Int32.toUInt32 31)).toInt32)).toUInt32 >>> ((nI 16).toUInt32 &&& Int32.toUInt32 31)).toInt32)) &&& nI 63 = nI (onN q) := by decide +kernel
  rw [← e q hq] at hP
  exact hP
theorem bv_or2 {q k : Nat} : nI q ||| nI (2 ^ k) = nI (q ||| 2 ^ k) := by
  show (⟨⟨BitVec.ofNat 32 q ||| BitVec.ofNat 32 (2 ^ k)⟩⟩ : Int32) = ⟨⟨BitVec.ofNat 32 (q ||| 2 ^ k)⟩⟩
  rw [BitVec.ofNat_or]
theorem or_lt {q k n : Nat} (hq : q < 2 ^ n) (hk : k < n) : q ||| 2 ^ k < 2 ^ n := Nat.or_lt_two_pow hq (Nat.pow_lt_pow_right (by decide) hk)
/-- what share's sums run over is told of -/
def exW2 (s : Sk) (n : Nat) : Prop := ∀ q, q < 2 ^ n → ∃ a, isW s q 108 a
theorem s_shareOut {k : Nat} (hS : skC σ 4 s) (hv : VS s) (hn6 : kT s 2 ≤ 6) (hk : k < kT s 2) (hP : ∀ τ, (∀ a j, ¬ (81 ≤ a ∧ a ≤ 97) → rI τ a j = rI σ a j) → (∀ a j, ¬ (a = 81 ∧ (j = 9 ∨ j = 10)) → rL τ a j = rL σ a j) → mN τ = mN σ → rL τ 81 9 = lN (shU s (kT s 2) k (2 ^ kT s 2) / Nat.gcd (fcN (kT s 2)) (shU s (kT s 2) k (2 ^ kT s 2))) → rL τ 81 10 = lN (fcN (kT s 2) / Nat.gcd (fcN (kT s 2)) (shU s (kT s 2) k (2 ^ kT s 2))) → P none τ) : Ret w true (d + 6) 0 0 m_Worth_shareOut [.ref 81, .int (nI k)] σ P X := by
  have h64 : 2 ^ kT s 2 ≤ 2 ^ 6 := Nat.pow_le_pow_right (by decide) hn6
  refine meth_ok k_Worth_shareOut q_Worth_shareOut rfl fun At hAt => ?_
  have second : ∀ τ0, (∀ a j, ¬ (81 ≤ a ∧ a ≤ 97) → rI τ0 a j = rI σ a j) → τ0.2 = σ.2 → (∀ i, i < 2 ^ kT s 2 → rI τ0 97 i = nI (woS s i)) → exW2 s (kT s 2) → At 48 [.ref 81, .int (nI k), .int (nI (kT s 2)), .int (nI (2 ^ kT s 2)), junk, junk, junk] [] τ0 0 0 := by
    sorry
  have first : ∀ q, q ≤ 2 ^ kT s 2 → ∀ τ, (∀ a j, ¬ (81 ≤ a ∧ a ≤ 97) → rI τ a j = rI σ a j) → τ.2 = σ.2 → (∀ k f, k < kT s 2 → f < kT s 3 → rI τ 83 (k * 12 + f) = nI (rmS s k f)) → (∀ i, i < q → rI τ 97 i = nI (woS s i)) → (∀ i, i < q → ∃ a, isW s i 108 a) → At 22 [.ref 81, .int (nI k), .int (nI (kT s 2)), .int (nI q), junk, junk, junk] [] τ 0 0 := by
    refine upto fun q hq ih => ?_
    intro τ t1 t2 t3 t4 t5
    refine hAt 5 _ _ _ _ _ _ ?_
    refine And.intro (fun hq => ?_) (fun hq => ?_)
    · have c26 : 2 ^ kT s 2 ≤ q := (leN (a := 2 ^ kT s 2) (b := q) (shl_s _ (by omega)) rfl (by omega) (by omega)).mp hq
      clear hq
      have e : q = 2 ^ kT s 2 := by omega
      subst e
      exact second τ t1 t2 t4 t5
    · have c26 : q < 2 ^ kT s 2 := Nat.lt_of_not_le (fun zq => hq ((leN (a := 2 ^ kT s 2) (b := q) (shl_s _ (by omega)) rfl (by omega) (by omega)).mpr zq))
      clear hq
      refine hAt 9 _ _ _ _ _ _ ?_
      refine s_of (hS.frame9 (fun a j h => t1 a j (by omega))) hv (by omega) t3 (fun τ2 u1 u2 u3 => ?_)
      refine s_Row_set (a := 96) (na := 97) (n := 64) rfl (show q < 64 by omega) ?_
      refine Eq.mpr (congrArg (fun xq : Int32 => At 22 [.ref (81), .int (nI k), .int (nI (kT s 2)), .int xq, junk, junk, junk] [] (wI τ2 97 q (nI (woS s q))) 0 0) (show nI q + nI 1 = nI (q + 1) from (adE rfl rfl))) ?_
      refine ih c26 _ (fun a j u => ?_) (u2.trans t2) (fun k f h1 h2 => ?_) (fun i hi => ?_) (fun i hi => ?_)
      · rw [rI_wI, if_neg (by omega), u1 a j (by omega)]; exact t1 a j u
      · rw [rI_wI, if_neg (by omega), u1 _ _ (by omega)]; exact t3 k f h1 h2
      · rw [rI_wI]
        by_cases e : i = q
        · subst e; rw [if_pos ⟨rfl, rfl⟩]
        · rw [if_neg (by omega), u1 _ _ (by omega)]; exact t4 i (by omega)
      · by_cases e : i = q
        · subst e; exact u3
        · exact t5 i (by omega)
  refine hAt 4 _ _ _ _ _ _ ?_
  refine s_Table_size (a := 8) (na := 9) (mo := 8) (wd := 7) rfl ?_
  refine Eq.mpr (congrArg (fun xq : Int32 => At 10 [.ref (81), .int (nI k), junk, junk, junk, junk, junk] [.int xq] σ 0 0) (show rI σ 8 3 = nI (kT s 2) from hS.2.2.1.1)) ?_
  refine hAt 7 _ _ _ _ _ _ ?_
  refine s_measure hS hv (fun τ1 t1 t2 t3 => ?_)
  refine Eq.mpr (congrArg (fun xq : Int32 => At 22 [.ref (81), .int (nI k), .int xq, .int (nI 0), junk, junk, junk] [] τ1 0 0) (show (if (nI 6) < (nI (kT s 2)) then (nI 6) else (nI (kT s 2))) = nI (kT s 2) from ((minE rfl rfl (by omega) (by omega)).trans (congrArg nI (Nat.min_eq_left hn6))))) ?_
  exact first 0 (Nat.zero_le _) τ1 (fun a j u => t1 a j (by omega)) t2 t3 (fun i hi => absurd hi (Nat.not_lt_zero i)) (fun i hi => absurd hi (Nat.not_lt_zero i))
end SHC
