/-! GETS and SETTLED on the component's side -/
theorem lt2 {y : Nat} (h : y < 2) : nI y = nI 0 ∨ nI y = nI 1 := by
  have e : y = 0 ∨ y = 1 := by omega
  rcases e with rfl | rfl
  · exact Or.inl rfl
  · exact Or.inr rfl
section MCC
variable {w : Wd} {d : Nat} {A : St} {v : AV}
theorem serve_fr {σ τ : Mem} {A : St} (hI : IC A σ) (hv : VA A) (t1 : ∀ a j, a ≠ 100 → a ≠ 102 → ¬ (a = 98 ∧ j = 5) → rI τ a j = rI σ a j) (t2 : τ.2 = σ.2) : frC σ τ ∧ IC A τ := by
  have hN : mN τ = mN σ := congrArg (fun z => z.2.2.1) t2
  exact ⟨⟨fun a h1 h2 i => t1 a i (by omega) (by omega) (by omega), fun i => congrArg (fun z => z.1 367 i) t2, by omega⟩, hI.scr (fun a i h => t1 a i (by omega) (by omega) (by omega)) (by omega) hv.2.2.2.2.1⟩
theorem CC_gets_bad1 {x y : Int32} (hv : VA A) (hx : y < nI 0 ∨ nI (aBk A).2.1.1 ≤ y) : CC w (d + 6) m_OC_gets [.int x, .int y] A 3 v A := by
  intro σ P X hI _ hX
  have hn := hv.2.2.2.1.2.1
  refine meth_gen q_OC_gets rfl sp_gets fun At hAt => ?_
  have fin : At 18 [.ref 0, .int x, .int y] [] σ 0 0 := by
    refine hAt 1 _ _ _ _ _ _ ?_
    exact And.intro (by omega) (And.intro (by omega) (And.intro hI.n (fun n => hX 2 rfl _ (frC.nX σ n) (hI.nX n))))
  refine hAt 2 _ _ _ _ _ _ ?_
  refine And.intro (fun hq => ?_) (fun hq => ?_)
  · have c1 : y < nI 0 := hq
    clear hq
    exact fin
  · have c1 : ¬ y < nI 0 := hq
    clear hq
    refine hAt 5 _ _ _ _ _ _ ?_
    refine s_Table_size (a := 33) (na := 34) (mo := 8) (wd := 3) rfl ?_
    refine Eq.mpr (congrArg (fun xq : Int32 => At 15 [.ref (0), .int (x), .int (y)] [.int xq, .int (y)] σ 0 0) (show rI σ 33 3 = nI ((aBk A).2.1.1) from hI.bk.2.1.1)) ?_
    refine hAt 1 _ _ _ _ _ _ ?_
    refine And.intro (fun hq => ?_) (fun hq => ?_)
    · have c15 : y < nI ((aBk A).2.1.1) := hq
      clear hq
      exact absurd c15 (Int32.not_lt.mpr (hx.resolve_left c1))
    · have c15 : ¬ y < nI ((aBk A).2.1.1) := hq
      clear hq
      exact fin
theorem CC_gets_bad2 {x : Int32} {i : Nat} (hv : VA A) (hi : i < (aBk A).2.1.1) (hy : x < nI 0 ∨ nI 10000 ≤ x) : CC w (d + 7) m_OC_gets [.int x, .int (nI i)] A 1 v A := by
  intro σ P X hI _ hX
  have hn := hv.2.2.2.1.2.1
  refine meth_gen q_OC_gets rfl sp_gets fun At hAt => ?_
  refine hAt 2 _ _ _ _ _ _ ?_
  refine And.intro (fun hq => ?_) (fun hq => ?_)
  · have c1 : i < 0 := (ltN (a := i) (b := 0) rfl rfl (by omega) (by omega)).mp hq
    clear hq
    exact absurd c1 (by omega)
  · have c1 : 0 ≤ i := Nat.le_of_not_lt (fun zq => hq ((ltN (a := i) (b := 0) rfl rfl (by omega) (by omega)).mpr zq))
    clear hq
    refine hAt 5 _ _ _ _ _ _ ?_
    refine s_Table_size (a := 33) (na := 34) (mo := 8) (wd := 3) rfl ?_
    refine Eq.mpr (congrArg (fun xq : Int32 => At 15 [.ref (0), .int (x), .int (nI i)] [.int xq, .int (nI i)] σ 0 0) (show rI σ 33 3 = nI ((aBk A).2.1.1) from hI.bk.2.1.1)) ?_
    refine hAt 1 _ _ _ _ _ _ ?_
    refine And.intro (fun hq => ?_) (fun hq => ?_)
    · have c15 : i < (aBk A).2.1.1 := (ltN (a := i) (b := (aBk A).2.1.1) rfl rfl (by omega) (by omega)).mp hq
      clear hq
      refine hAt 3 _ _ _ _ _ _ ?_
      refine s_isWater ?_
      rw [decide_eq_false (in_bad' (n := 9999) (by omega) hy)]
      exact callG 1 6 (by omega) (by omega) (s_need_bad rfl (by omega) (by omega) hI.n (fun n => hX 0 rfl _ (frC.nX σ n) (hI.nX n)))
    · have c15 : (aBk A).2.1.1 ≤ i := Nat.le_of_not_lt (fun zq => hq ((ltN (a := i) (b := (aBk A).2.1.1) rfl rfl (by omega) (by omega)).mpr zq))
      clear hq
      exact absurd c15 (by omega)
theorem CC_gets_ok {q i : Nat} (hv : VA A) (hi : i < (aBk A).2.1.1) (hq : q ≤ 9999) : CC w (d + 7) m_OC_gets [.int (nI q), .int (nI i)] A 0 (.int (nI (gtA A q i))) A := by
  intro σ P X hI hP _
  have hn := hv.2.2.2.1.2.1
  have hP' : ∀ σ' x, frC σ σ' → IC A σ' → x = nI (gtA A q i) → P (some (.int x)) σ' := fun σ' x h1 h2 h3 => by rw [h3]; exact hP rfl σ' h1 h2
  refine meth_gen q_OC_gets rfl sp_gets fun At hAt => ?_
  refine hAt 2 _ _ _ _ _ _ ?_
  refine And.intro (fun hq => ?_) (fun hq => ?_)
  · have c1 : i < 0 := (ltN (a := i) (b := 0) rfl rfl (by omega) (by omega)).mp hq
    clear hq
    exact absurd c1 (by omega)
  · have c1 : 0 ≤ i := Nat.le_of_not_lt (fun zq => hq ((ltN (a := i) (b := 0) rfl rfl (by omega) (by omega)).mpr zq))
    clear hq
    refine hAt 5 _ _ _ _ _ _ ?_
    refine s_Table_size (a := 33) (na := 34) (mo := 8) (wd := 3) rfl ?_
    refine Eq.mpr (congrArg (fun xq : Int32 => At 15 [.ref (0), .int (nI q), .int (nI i)] [.int xq, .int (nI i)] σ 0 0) (show rI σ 33 3 = nI ((aBk A).2.1.1) from hI.bk.2.1.1)) ?_
    refine hAt 1 _ _ _ _ _ _ ?_
    refine And.intro (fun hq => ?_) (fun hq => ?_)
    · have c15 : i < (aBk A).2.1.1 := (ltN (a := i) (b := (aBk A).2.1.1) rfl rfl (by omega) (by omega)).mp hq
      clear hq
      refine hAt 12 _ _ _ _ _ _ ?_
      refine s_isWater ?_
      rw [decide_eq_true ⟨nI_nlt (Nat.zero_le _) (by omega), nI_nlt (by omega) (by omega)⟩]
      refine callG 0 0 (by omega) (by omega) (s_need_ok (by decide) ?_)
      refine s_serve hI.bk.2.1 hn hq (bid_b hv) fun τ t1 t2 t3 t4 => ?_
      obtain ⟨f1, f2⟩ := serve_fr hI hv t1 t2
      refine s_Row_get (a := 101) (na := 102) (n := 8) rfl (show i < 8 by omega) ?_
      refine Eq.mpr (congrArg (fun xq : Int32 => At 54 [.ref (0), .int (nI q), .int (nI i)] [.int xq] τ 0 0) (show rI τ 102 i = nI (gtA A q i) from (t3 i (by omega)))) ?_
      refine hAt 1 _ _ _ _ _ _ ?_
      exact hP rfl τ f1 f2
    · have c15 : (aBk A).2.1.1 ≤ i := Nat.le_of_not_lt (fun zq => hq ((ltN (a := i) (b := (aBk A).2.1.1) rfl rfl (by omega) (by omega)).mpr zq))
      clear hq
      exact absurd c15 (by omega)
theorem CC_settled_bad {x y : Int32} (hx : ¬ okS x y) : CC w (d + 7) m_OC_settled [.int x, .int y] A 1 v A := by
  intro σ P X hI _ hX
  refine meth_ok k_OC_settled q_OC_settled rfl fun At hAt => ?_
  refine hAt 3 _ _ _ _ _ _ ?_
  refine s_isWater ?_
  refine And.intro (fun hq => ?_) (fun hq => ?_)
  · have c4 : ¬ (¬ x < nI 0 ∧ ¬ nI 9999 < x) := of_decide_eq_false (bI_eq hq)
    clear hq
    refine hAt 2 _ _ _ _ _ _ ?_
    exact callG 1 6 (by omega) (by omega) (s_need_bad rfl (by omega) (by omega) hI.n (fun n => hX 0 rfl _ (frC.nX σ n) (hI.nX n)))
  · have c4 : ¬ x < nI 0 ∧ ¬ nI 9999 < x := of_decide_eq_true (bI_ne hq)
    clear hq
    refine hAt 3 _ _ _ _ _ _ ?_
    refine s_isEither ?_
    refine And.intro (fun hq => ?_) (fun hq => ?_)
    · have c11 : ¬ (y = nI 0 ∨ y = nI 1) := of_decide_eq_false (bI_eq hq)
      clear hq
      refine hAt 2 _ _ _ _ _ _ ?_
      exact callG 1 6 (by omega) (by omega) (s_need_bad rfl (by omega) (by omega) hI.n (fun n => hX 0 rfl _ (frC.nX σ n) (hI.nX n)))
    · have c11 : y = nI 0 ∨ y = nI 1 := of_decide_eq_true (bI_ne hq)
      clear hq
      exact absurd ⟨c4, c11⟩ hx
theorem s_price {σ : Mem} {P : Option AV → Mem → Prop} {X : Nat → Mem → Prop} (hP : P (some (.int (rI σ 98 5))) σ) : Ret w true (d + 1) 0 0 m_Market_price [.ref 98] σ P X := by
  refine meth_ok k_Market_price q_Market_price rfl fun At hAt => hAt 50 _ _ _ _ _ _ ?_
  exact hP
theorem s_allPay {σ : Mem} {P : Option AV → Mem → Prop} {X : Nat → Mem → Prop} {g : Nat → Nat} {p n : Nat} (hn : rI σ 33 3 = nI n) (h8 : n ≤ 8) (hg : ∀ i, i < n → rI σ 102 i = nI (g i)) (hp : rI σ 98 5 = nI p) (hP : P (some (.int (nI p * nI (sumN g n)))) σ) : Ret w true (d + 2) 0 0 m_Market_allPay [.ref 98] σ P X := by
  refine meth_ok k_Market_allPay q_Market_allPay rfl fun At hAt => ?_
  have loop : ∀ k, k ≤ n → At 4 [.ref 98, .int (nI (sumN g k)), .int (nI k)] [] σ 0 0 := by
    refine upto fun k hk ih => ?_
    refine hAt 5 _ _ _ _ _ _ ?_
    refine s_Table_size (a := 33) (na := 34) (mo := 8) (wd := 3) rfl ?_
    refine Eq.mpr (congrArg (fun xq : Int32 => At 15 [.ref (98), .int (nI (sumN g k)), .int (nI k)] [.int xq, .int (nI k)] σ 0 0) (show rI σ 33 3 = nI n from hn)) ?_
    refine hAt 1 _ _ _ _ _ _ ?_
    refine And.intro (fun hq => ?_) (fun hq => ?_)
    · have c15 : n ≤ k := (leN (a := n) (b := k) rfl rfl (by omega) (by omega)).mp hq
      clear hq
      refine hAt 3 _ _ _ _ _ _ ?_
      refine Eq.mpr (congrArg (fun xq : Int32 => At 40 [.ref (98), .int (nI (sumN g k)), .int (nI k)] [.int xq, .int (nI (sumN g k))] σ 0 0) (show rI σ 98 5 = nI p from hp)) ?_
      refine hAt 2 _ _ _ _ _ _ ?_
      refine retE (mlE rfl rfl) ?_
      have e : k = n := by omega
      subst e
      rw [Nat.mul_comm, ← nI_mul]
      exact hP
    · have c15 : k < n := Nat.lt_of_not_le (fun zq => hq ((leN (a := n) (b := k) rfl rfl (by omega) (by omega)).mpr zq))
      clear hq
      refine hAt 5 _ _ _ _ _ _ ?_
      refine s_Row_get (a := 101) (na := 102) (n := 8) rfl (show k < 8 by omega) ?_
      refine Eq.mpr (congrArg (fun xq : Int32 => At 27 [.ref (98), .int (nI (sumN g k)), .int (nI k)] [.int xq, .int (nI (sumN g k))] σ 0 0) (show rI σ 102 k = nI (g k) from (hg k (by omega)))) ?_
      refine hAt 4 _ _ _ _ _ _ ?_
      refine Eq.mpr (congrArg (fun xq : Int32 => At 4 [.ref (98), .int xq, .int (nI k + nI 1)] [] σ 0 0) (show (nI (sumN g k)) + (nI (g k)) = nI (sumN g k + (g k)) from (adE rfl rfl))) ?_
      refine Eq.mpr (congrArg (fun xq : Int32 => At 4 [.ref (98), .int (nI (sumN g k + (g k))), .int xq] [] σ 0 0) (show nI k + nI 1 = nI (k + 1) from (adE rfl rfl))) ?_
      exact ih (by omega)
  refine hAt 4 _ _ _ _ _ _ ?_
  exact loop 0 (by omega)
theorem CC_settled_ok {q y : Nat} (hv : VA A) (hq : q ≤ 9999) (hy : y < 2) : CC w (d + 7) m_OC_settled [.int (nI q), .int (nI y)] A 0 (.int (seA A q y)) A := by
  intro σ P X hI hP _
  have hn := hv.2.2.2.1.2.1
  refine meth_ok k_OC_settled q_OC_settled rfl fun At hAt => ?_
  refine hAt 3 _ _ _ _ _ _ ?_
  refine s_isWater ?_
  rw [decide_eq_true ⟨nI_nlt (Nat.zero_le _) (by omega), nI_nlt (by omega) (by omega)⟩]
  refine And.intro (fun hq => absurd hq (by decide)) (fun _ => ?_)
  refine hAt 3 _ _ _ _ _ _ ?_
  refine s_isEither ?_
  rw [decide_eq_true (lt2 hy)]
  refine And.intro (fun hq => absurd hq (by decide)) (fun _ => ?_)
  refine hAt 9 _ _ _ _ _ _ ?_
  refine callG 0 0 (by omega) (by omega) (s_need_ok (by decide) ?_)
  refine s_serve hI.bk.2.1 hn hq (bid_b hv) fun τ t1 t2 t3 t4 => ?_
  obtain ⟨f1, f2⟩ := serve_fr hI hv t1 t2
  refine And.intro (fun hq => ?_) (fun hq => ?_)
  · have c31 : ¬ y = 0 := fun zq => hq ((eqN (a := y) (b := 0) rfl rfl (by omega) (by omega)).mpr zq)
    clear hq
    refine hAt 4 _ _ _ _ _ _ ?_
    refine s_allPay (n := (aBk A).2.1.1) (g := gtA A q) (p := prA A q) f2.bk.2.1.1 hn t3 t4 ?_
    have fin := hP rfl τ f1 f2
    rw [show seA A q y = nI (prA A q) * nI (sumN (gtA A q) (aBk A).2.1.1) by unfold seA; rw [if_neg (by omega)]] at fin
    exact fin
  · have c31 : y = 0 := (eqN (a := y) (b := 0) rfl rfl (by omega) (by omega)).mp hq
    clear hq
    refine hAt 3 _ _ _ _ _ _ ?_
    refine s_price ?_
    refine Eq.mpr (congrArg (fun xq : Int32 => At 41 [.ref (0), .int (nI q), .int (nI y)] [.int xq] τ 0 0) (show rI τ 98 5 = nI (prA A q) from t4)) ?_
    refine hAt 2 _ _ _ _ _ _ ?_
    have fin := hP rfl τ f1 f2
    rw [show seA A q y = nI (prA A q) by unfold seA; rw [if_pos (by omega)]] at fin
    exact fin
end MCC
