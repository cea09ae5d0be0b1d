/-! SHARE, the call, on the component's side -/
/-- the share: above and below in their lowest terms -/
noncomputable def shA (A : St) (k i : Nat) : Int64 := if 6 < kT (aSk A) 2 then - lN 1 else if i = 0 then lN (shU (aSk A) (kT (aSk A) 2) k (2 ^ kT (aSk A) 2) / Nat.gcd (fcN (kT (aSk A) 2)) (shU (aSk A) (kT (aSk A) 2) k (2 ^ kT (aSk A) 2))) else lN (fcN (kT (aSk A) 2) / Nat.gcd (fcN (kT (aSk A) 2)) (shU (aSk A) (kT (aSk A) 2) k (2 ^ kT (aSk A) 2)))
section SHD
variable {w : Wd} {d : Nat} {A : St} {v : AV}
theorem s_above {σ : Mem} {P : Option AV → Mem → Prop} {X : Nat → Mem → Prop} (hP : P (some (.long (rL σ 81 9))) σ) : Ret w true (d + 1) 0 0 m_Worth_above [.ref 81] σ P X := by
  refine meth_ok k_Worth_above q_Worth_above rfl fun At hAt => hAt 50 _ _ _ _ _ _ ?_
  exact hP
theorem s_below {σ : Mem} {P : Option AV → Mem → Prop} {X : Nat → Mem → Prop} (hP : P (some (.long (rL σ 81 10))) σ) : Ret w true (d + 1) 0 0 m_Worth_below [.ref 81] σ P X := by
  refine meth_ok k_Worth_below q_Worth_below rfl fun At hAt => hAt 50 _ _ _ _ _ _ ?_
  exact hP
theorem CC_share_bad1 {x y : Int32} (hx : x < nI 0 ∨ nI (kT (aSk A) 2) ≤ x) : CC w (d + 9) m_OC_share [.int x, .int y] A 2 v A := by
  intro σ P X hI _ hX
  refine meth_ok k_OC_share q_OC_share rfl fun At hAt => ?_
  refine hAt 3 _ _ _ _ _ _ ?_
  exact callG 1 6 (by omega) (by omega) (s_needCloud_bad hI hx (by omega) (by omega) (fun n => hX 1 rfl _ (frC.nX σ n) (hI.nX n)))
theorem CC_share_bad2 {y : Int32} {j : Nat} (hv : VA A) (hj : j < kT (aSk A) 2) (hx : ¬ (y = nI 0 ∨ y = nI 1)) : CC w (d + 9) m_OC_share [.int (nI j), .int y] A 1 v A := by
  intro σ P X hI _ hX
  refine meth_ok k_OC_share q_OC_share rfl fun At hAt => ?_
  refine hAt 6 _ _ _ _ _ _ ?_
  refine callG 0 0 (by omega) (by omega) (s_needCloud_ok hI hv hj ?_)
  refine s_isEither ?_
  rw [decide_eq_false hx]
  exact callG 1 6 (by omega) (by omega) (s_need_bad rfl (by omega) (by omega) hI.n (fun n => hX 0 rfl _ (frC.nX σ n) (hI.nX n)))
theorem CC_share_ok {j i : Nat} (hv : VA A) (hj : j < kT (aSk A) 2) (hi : i < 2) : CC w (d + 9) m_OC_share [.int (nI j), .int (nI i)] A 0 (.long (shA A j i)) A := by
  intro σ P X hI hP _
  have hn : kT (aSk A) 2 ≤ 8 := hv.2.2.1.2.2.1
  have fin : ∀ τ x, frC σ τ → IC A τ → x = shA A j i → P (some (.long x)) τ := fun τ x h1 h2 h3 => by rw [h3]; exact hP rfl τ h1 h2
  refine meth_ok k_OC_share q_OC_share rfl fun At hAt => ?_
  refine hAt 10 _ _ _ _ _ _ ?_
  refine callG 0 0 (by omega) (by omega) (s_needCloud_ok hI hv hj ?_)
  refine s_isEither ?_
  rw [decide_eq_true (lt2 hi)]
  refine callG 0 0 (by omega) (by omega) (s_need_ok (by decide) ?_)
  refine s_Table_size (a := 8) (na := 9) (mo := 8) (wd := 7) rfl ?_
  refine Eq.mpr (congrArg (fun xq : Int32 => At 22 [.ref (0), .int (nI j), .int (nI i)] [.int xq] σ 0 0) (show rI σ 8 3 = nI (kT (aSk A) 2) from hI.sk.2.2.1.1)) ?_
  refine hAt 2 _ _ _ _ _ _ ?_
  refine And.intro (fun hq => ?_) (fun hq => ?_)
  · have c24 : kT (aSk A) 2 ≤ 6 := (leN (a := kT (aSk A) 2) (b := 6) rfl rfl (by omega) (by omega)).mp hq
    clear hq
    refine hAt 6 _ _ _ _ _ _ ?_
    refine s_shareOut hI.sk hv.2.2.1 (by omega) hj (fun τ t1 t2 t3 t4 t5 => ?_)
    obtain ⟨f1, f2⟩ := wo_ic (τ := τ) hI hv t1 (fun j => t2 367 j (by omega)) t3
    refine And.intro (fun hq => ?_) (fun hq => ?_)
    · have c40 : ¬ i = 0 := fun zq => hq ((eqN (a := i) (b := 0) rfl rfl (by omega) (by omega)).mpr zq)
      clear hq
      refine hAt 4 _ _ _ _ _ _ ?_
      refine s_below ?_
      exact fin τ _ f1 f2 (by rw [shA, if_neg (by omega), if_neg (by omega)]; exact t5)
    · have c40 : i = 0 := (eqN (a := i) (b := 0) rfl rfl (by omega) (by omega)).mp hq
      clear hq
      refine hAt 5 _ _ _ _ _ _ ?_
      refine s_above ?_
      exact fin τ _ f1 f2 (by rw [shA, if_neg (by omega), if_pos (by omega)]; exact t4)
  · have c24 : 6 < kT (aSk A) 2 := Nat.lt_of_not_le (fun zq => hq ((leN (a := kT (aSk A) 2) (b := 6) rfl rfl (by omega) (by omega)).mpr zq))
    clear hq
    refine hAt 2 _ _ _ _ _ _ ?_
    exact fin σ _ (frC.rfl σ) hI (by rw [shA, if_pos (by omega)])
end SHD
