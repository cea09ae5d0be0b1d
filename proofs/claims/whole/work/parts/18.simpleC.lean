/-! THE COMPONENT'S SIMPLE CALLS -/
theorem rng (x : Int32) {n : Nat} (hn : n < 2 ^ 31) : (∃ j, j < n ∧ x = nI j) ∨ (x < nI 0 ∨ nI n ≤ x) := by
  by_cases h1 : x < nI 0
  · exact Or.inr (Or.inl h1)
  · by_cases h2 : nI n ≤ x
    · exact Or.inr (Or.inr h2)
    · refine Or.inl ?_
      rw [nI_0] at h1
      obtain ⟨j, hj, rfl⟩ := nI_of h1
      exact ⟨j, by rw [nI_leI hn hj] at h2; omega, rfl⟩
theorem nI_ne {a b : Nat} (ha : a < 2 ^ 31) (hb : b < 2 ^ 31) (h : a ≠ b) : ¬ nI a = nI b := fun q => h ((nI_eq ha hb).mp q)
/-- a call that may make cells or throw: with its room -/
theorem callG {KC KS u v : Nat} {Q : Nat → Nat → Prop} (kc ks : Nat) (h1 : u + kc ≤ KC) (h2 : v + ks ≤ KS) (h : Q kc ks) : ∃ kc ks, u + kc ≤ KC ∧ v + ks ≤ KS ∧ Q kc ks := ⟨kc, ks, h1, h2, h⟩
section SC
variable {w : Wd} {d : Nat} {σ : Mem} {A : St} {P : Option AV → Mem → Prop} {X : Nat → Mem → Prop}
theorem s_need_ok {x : Int32} {KC KS : Nat} (hx : ¬ x = nI 0) (hP : P none σ) : Ret w true (d + 6) KC KS m_OC_need [.int x] σ P X := by
  refine meth_gen q_OC_need rfl sp_need fun At hAt => hAt 50 _ _ _ _ _ _ ?_
  exact And.intro (fun _ => hP) (fun q => absurd q hx)
theorem s_need_bad {x : Int32} {KC KS : Nat} (hx : x = nI 0) (hk1 : 1 ≤ KC) (hk2 : 6 ≤ KS) (hn : ow_n0 ≤ mN σ) (hX : ∀ n, X 0 (nX σ n)) : Ret w true (d + 6) KC KS m_OC_need [.int x] σ P X := by
  refine meth_gen q_OC_need rfl sp_need fun At hAt => hAt 50 _ _ _ _ _ _ ?_
  refine And.intro (fun q => absurd hx q) (fun _ => ?_)
  exact And.intro (by omega) (And.intro (by omega) (And.intro hn hX))
theorem IC.sk (h : IC A σ) : skC σ 4 (aSk A) := h.2.2.2.2.1
theorem IC.bk (h : IC A σ) : bkC σ 31 (aBk A) := h.2.2.2.2.2.1
theorem IC.n (h : IC A σ) : ow_n0 ≤ mN σ := h.1
theorem s_needCloud_ok {j KC KS : Nat} (hI : IC A σ) (hv : VA A) (hj : j < kT (aSk A) 2) (hP : P none σ) : Ret w true (d + 6) KC KS m_OC_needCloud [.ref 0, .int (nI j)] σ P X := by
  have hn : kT (aSk A) 2 ≤ 8 := hv.2.2.1.2.2.1
  refine meth_gen q_OC_needCloud rfl sp_needCloud fun At hAt => hAt 50 _ _ _ _ _ _ ?_
  refine And.intro (fun q => absurd q (nI_nlt (Nat.zero_le j) (by omega))) (fun _ => ?_)
  refine s_Table_size (a := 8) (na := 9) (mo := 8) (wd := 7) rfl ?_
  rw [hI.sk.2.2.1.1]
  exact And.intro (fun _ => hP) (fun q => absurd (nI_lt hj (by omega)) q)
theorem s_needCloud_bad {x : Int32} {KC KS : Nat} (hI : IC A σ) (hx : x < nI 0 ∨ nI (kT (aSk A) 2) ≤ x) (hk1 : 1 ≤ KC) (hk2 : 6 ≤ KS) (hX : ∀ n, X 1 (nX σ n)) : Ret w true (d + 6) KC KS m_OC_needCloud [.ref 0, .int x] σ P X := by
  refine meth_gen q_OC_needCloud rfl sp_needCloud fun At hAt => hAt 50 _ _ _ _ _ _ ?_
  refine And.intro (fun q => ?_) (fun q0 => ?_)
  · exact And.intro (by omega) (And.intro (by omega) (And.intro hI.n hX))
  · refine s_Table_size (a := 8) (na := 9) (mo := 8) (wd := 7) rfl ?_
    rw [hI.sk.2.2.1.1]
    refine And.intro (fun q => absurd q (Int32.not_lt.mpr (hx.resolve_left q0))) (fun _ => ?_)
    exact And.intro (by omega) (And.intro (by omega) (And.intro hI.n hX))
theorem s_needField_ok {j KC KS : Nat} (hI : IC A σ) (hv : VA A) (hj : j < kT (aSk A) 3) (hP : P none σ) : Ret w true (d + 6) KC KS m_OC_needField [.ref 0, .int (nI j)] σ P X := by
  have hn : kT (aSk A) 3 ≤ 12 := hv.2.2.1.2.2.2.1
  refine meth_gen q_OC_needField rfl sp_needField fun At hAt => hAt 50 _ _ _ _ _ _ ?_
  refine And.intro (fun q => absurd q (nI_nlt (Nat.zero_le j) (by omega))) (fun _ => ?_)
  refine s_Table_size (a := 10) (na := 11) (mo := 12) (wd := 6) rfl ?_
  rw [hI.sk.2.2.2.1.1]
  exact And.intro (fun _ => hP) (fun q => absurd (nI_lt hj (by omega)) q)
theorem s_needField_bad {x : Int32} {KC KS : Nat} (hI : IC A σ) (hx : x < nI 0 ∨ nI (kT (aSk A) 3) ≤ x) (hk1 : 1 ≤ KC) (hk2 : 6 ≤ KS) (hX : ∀ n, X 2 (nX σ n)) : Ret w true (d + 6) KC KS m_OC_needField [.ref 0, .int x] σ P X := by
  refine meth_gen q_OC_needField rfl sp_needField fun At hAt => hAt 50 _ _ _ _ _ _ ?_
  refine And.intro (fun q => ?_) (fun q0 => ?_)
  · exact And.intro (by omega) (And.intro (by omega) (And.intro hI.n hX))
  · refine s_Table_size (a := 10) (na := 11) (mo := 12) (wd := 6) rfl ?_
    rw [hI.sk.2.2.2.1.1]
    refine And.intro (fun q => absurd q (Int32.not_lt.mpr (hx.resolve_left q0))) (fun _ => ?_)
    exact And.intro (by omega) (And.intro (by omega) (And.intro hI.n hX))
theorem s_Sky_fact {s : Sk} {i : Nat} (hs : skC σ 4 s) (hi : i < 10) (hP : P (some (.int (nI (kT s i)))) σ) : Ret w true (d + 2) 0 0 m_Sky_fact [.ref 3, .int (nI i)] σ P X := by
  refine meth_ok k_Sky_fact q_Sky_fact rfl fun At hAt => hAt 50 _ _ _ _ _ _ ?_
  refine And.intro (And.intro (fun q => ?_) (And.intro (fun q => ?_) (And.intro (fun q => ?_) trivial))) (fun q => ?_)
  · refine s_Table_size (a := 8) (na := 9) (mo := 8) (wd := 7) rfl ?_
    have := (nI_eq (by omega) (by omega)).mp q
    subst this
    rw [hs.2.2.1.1]; exact hP
  · refine s_Table_size (a := 10) (na := 11) (mo := 12) (wd := 6) rfl ?_
    have := (nI_eq (by omega) (by omega)).mp q
    subst this
    rw [hs.2.2.2.1.1]; exact hP
  · refine s_Table_size (a := 12) (na := 13) (mo := 3) (wd := 3) rfl ?_
    have := (nI_eq (by omega) (by omega)).mp q
    subst this
    rw [hs.2.2.2.2.1.1]; exact hP
  · refine s_Row_get (a := 4) (na := 5) (n := 10) rfl hi ?_
    have hi' : i = 0 ∨ i = 1 ∨ (5 ≤ i ∧ i ≤ 9) := by
      rcases q with q | q
      · rw [nI_ltI (by omega) (by omega)] at q; omega
      · have : nI 5 ≤ nI i := q
        rw [nI_leI (by omega) (by omega)] at this; omega
    rw [hs.1 i hi']; exact hP
/-- the face's promise of a call that throws nothing: told -/
theorem c_told_ok {j : Nat} (hI : IC A σ) (hj : j < 10) (hP : P (some (.int (nI (kT (aSk A) j)))) σ) : Ret w true (d + 7) 1 6 m_OC_told [.ref 0, .int (nI j)] σ P X := by
  refine meth_ok k_OC_told q_OC_told rfl fun At hAt => hAt 50 _ _ _ _ _ _ ?_
  refine And.intro (fun q => absurd q (nI_nlt (Nat.zero_le j) (by omega))) (fun _ => And.intro (fun q => absurd q (nI_ge hj (by omega))) (fun _ => ?_))
  refine callG 0 0 (by omega) (by omega) (s_need_ok (by decide) ?_)
  exact s_Sky_fact hI.sk hj hP
theorem c_told_bad {x : Int32} (hI : IC A σ) (hx : x < nI 0 ∨ nI 10 ≤ x) (hX : ∀ n, X 0 (nX σ n)) : Ret w true (d + 7) 1 6 m_OC_told [.ref 0, .int x] σ P X := by
  refine meth_ok k_OC_told q_OC_told rfl fun At hAt => hAt 50 _ _ _ _ _ _ ?_
  refine And.intro (fun _ => ?_) (fun q0 => And.intro (fun _ => ?_) (fun q1 => absurd (hx.resolve_left q0) q1))
  · exact callG 1 6 (by omega) (by omega) (s_need_bad rfl (by omega) (by omega) hI.n hX)
  · exact callG 1 6 (by omega) (by omega) (s_need_bad rfl (by omega) (by omega) hI.n hX)
theorem c_owner_ok {j : Nat} (hI : IC A σ) (hv : VA A) (hj : j < kT (aSk A) 2) (hP : P (some (.int (nI (kC (aSk A) j 5)))) σ) : Ret w true (d + 7) 1 6 m_OC_owner [.ref 0, .int (nI j)] σ P X := by
  have hn : kT (aSk A) 2 ≤ 8 := hv.2.2.1.2.2.1
  refine meth_ok k_OC_owner q_OC_owner rfl fun At hAt => hAt 50 _ _ _ _ _ _ ?_
  refine callG 0 0 (by omega) (by omega) (s_needCloud_ok hI hv hj ?_)
  refine s_Table_get (a := 8) (na := 9) (mo := 8) (wd := 7) rfl (show j < 8 by omega) (show 5 < 7 by omega) ?_
  rw [hI.sk.2.2.1.2 j hj 5 (by omega)]
  exact hP
theorem c_owner_bad {x : Int32} (hI : IC A σ) (hx : x < nI 0 ∨ nI (kT (aSk A) 2) ≤ x) (hX : ∀ n, X 1 (nX σ n)) : Ret w true (d + 7) 1 6 m_OC_owner [.ref 0, .int x] σ P X := by
  refine meth_ok k_OC_owner q_OC_owner rfl fun At hAt => hAt 50 _ _ _ _ _ _ ?_
  exact callG 1 6 (by omega) (by omega) (s_needCloud_bad hI hx (by omega) (by omega) hX)
end SC
