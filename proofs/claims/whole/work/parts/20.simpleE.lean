/-! THE COMPONENT'S SIMPLE CALLS, as promises -/
theorem dnot {p : Prop} [Decidable p] (h : decide p = false) : ¬ p := of_decide_eq_false h
theorem nI_m1 {n : Nat} (h : n < 2 ^ 31) : ¬ nI n = -1 := fun q => nI_nlt (Nat.zero_le n) h (by rw [q]; decide)
section SE
variable {w : Wd} {d : Nat} {A : St} {v : AV}
theorem CC_told_ok {j : Nat} (hj : j < 10) : CC w (d + 7) m_OC_told [.int (nI j)] A 0 (.int (nI (kT (aSk A) j))) A :=
  fun σ _ _ hI hP _ => c_told_ok hI hj (hP rfl σ (frC.rfl σ) hI)
theorem CC_told_bad {x : Int32} (hx : x < nI 0 ∨ nI 10 ≤ x) : CC w (d + 7) m_OC_told [.int x] A 1 v A :=
  fun σ _ _ hI _ hX => c_told_bad hI hx (fun n => hX 0 rfl _ (frC.nX σ n) (hI.nX n))
theorem CC_owner_ok {j : Nat} (hv : VA A) (hj : j < kT (aSk A) 2) : CC w (d + 7) m_OC_owner [.int (nI j)] A 0 (.int (nI (kC (aSk A) j 5))) A :=
  fun σ _ _ hI hP _ => c_owner_ok hI hv hj (hP rfl σ (frC.rfl σ) hI)
theorem CC_owner_bad {x : Int32} (hx : x < nI 0 ∨ nI (kT (aSk A) 2) ≤ x) : CC w (d + 7) m_OC_owner [.int x] A 2 v A :=
  fun σ _ _ hI _ hX => c_owner_bad hI hx (fun n => hX 1 rfl _ (frC.nX σ n) (hI.nX n))
theorem CC_field_bad1 {x y : Int32} (hx : x < nI 0 ∨ nI (kT (aSk A) 3) ≤ x) : CC w (d + 7) m_OC_field [.int x, .int y] A 3 v A := by
  intro σ P X hI _ hX
  refine meth_ok k_OC_field q_OC_field rfl fun At hAt => hAt 50 _ _ _ _ _ _ ?_
  exact callG 1 6 (by omega) (by omega) (s_needField_bad hI hx (by omega) (by omega) (fun n => hX 2 rfl _ (frC.nX σ n) (hI.nX n)))
theorem CC_field_bad2 {j : Nat} {y : Int32} (hv : VA A) (hj : j < kT (aSk A) 3) (hy : y < nI 0 ∨ nI 6 ≤ y) : CC w (d + 7) m_OC_field [.int (nI j), .int y] A 1 v A := by
  intro σ P X hI _ hX
  have hX' := fun n => hX 0 rfl _ (frC.nX σ n) (hI.nX n)
  refine meth_ok k_OC_field q_OC_field rfl fun At hAt => hAt 50 _ _ _ _ _ _ ?_
  refine callG 0 0 (by omega) (by omega) (s_needField_ok hI hv hj ?_)
  refine And.intro (fun _ => ?_) (fun q0 => And.intro (fun _ => ?_) (fun q1 => absurd (hy.resolve_left q0) q1))
  · exact callG 1 6 (by omega) (by omega) (s_need_bad rfl (by omega) (by omega) hI.n hX')
  · exact callG 1 6 (by omega) (by omega) (s_need_bad rfl (by omega) (by omega) hI.n hX')
theorem CC_field_ok {j i : Nat} (hv : VA A) (hj : j < kT (aSk A) 3) (hi : i < 6) : CC w (d + 7) m_OC_field [.int (nI j), .int (nI i)] A 0 (.int (nI (kF (aSk A) j i))) A := by
  intro σ P X hI hP _
  have hn : kT (aSk A) 3 ≤ 12 := hv.2.2.1.2.2.2.1
  refine meth_ok k_OC_field q_OC_field rfl fun At hAt => hAt 50 _ _ _ _ _ _ ?_
  refine callG 0 0 (by omega) (by omega) (s_needField_ok hI hv hj ?_)
  refine And.intro (fun q => absurd q (nI_nlt (Nat.zero_le i) (by omega))) (fun _ => And.intro (fun q => absurd q (nI_ge hi (by omega))) (fun _ => ?_))
  refine callG 0 0 (by omega) (by omega) (s_need_ok (by decide) ?_)
  refine s_Table_get (a := 10) (na := 11) (mo := 12) (wd := 6) rfl (show j < 12 by omega) hi ?_
  rw [hI.sk.2.2.2.1.2 j hj i hi]
  exact hP rfl σ (frC.rfl σ) hI
/-- an ORDER's kind and number are such that the call takes them -/
def okO (k n : Int32) : Bool := decide ((k = nI 0 ∧ ¬ n < nI 1 ∧ ¬ nI 999 < n) ∨ (k = nI 1 ∧ ¬ n < nI 0 ∧ ¬ nI 8 < n) ∨ (k = nI 2 ∧ n = nI 0))
theorem s_isOrder {σ : Mem} {k n : Int32} {P : Option AV → Mem → Prop} {X : Nat → Mem → Prop} (hP : P (some (.int (bI (okO k n)))) σ) : Ret w true (d + 1) 0 0 m_Book_isOrder [.int k, .int n] σ P X := by
  have e1 : okO k n = true → P (some (.int (nI 1))) σ := fun h => by rw [h] at hP; exact hP
  have e0 : okO k n = false → P (some (.int (nI 0))) σ := fun h => by rw [h] at hP; exact hP
  have n01 : ¬ nI 0 = nI 1 := by decide
  have n02 : ¬ nI 0 = nI 2 := by decide
  have n12 : ¬ nI 1 = nI 2 := by decide
  refine meth_ok k_Book_isOrder q_Book_isOrder rfl fun At hAt => hAt 50 _ _ _ _ _ _ ?_
  refine And.intro (And.intro (fun q => ?_) (And.intro (fun q => ?_) (And.intro (fun q => ?_) trivial))) (fun q => And.intro rfl (e0 (decide_eq_false ?_)))
  · have q' : k = nI 0 := q
    subst q'
    refine And.intro (fun q1 => And.intro rfl (e0 (decide_eq_false (fun z => ?_)))) (fun q1 => And.intro (fun q2 => And.intro rfl (e0 (decide_eq_false (fun z => ?_)))) (fun q2 => And.intro rfl (e1 (decide_eq_true (Or.inl ⟨rfl, q1, q2⟩)))))
    · rcases z with z | z | z
      · exact z.2.1 q1
      · exact n01 z.1
      · exact n02 z.1
    · rcases z with z | z | z
      · exact z.2.2 q2
      · exact n01 z.1
      · exact n02 z.1
  · have q' : k = nI 1 := q
    subst q'
    refine And.intro (fun q1 => And.intro rfl (e0 (decide_eq_false (fun z => ?_)))) (fun q1 => And.intro (fun q2 => And.intro rfl (e0 (decide_eq_false (fun z => ?_)))) (fun q2 => And.intro rfl (e1 (decide_eq_true (Or.inr (Or.inl ⟨rfl, q1, q2⟩))))))
    · rcases z with z | z | z
      · exact n01 z.1.symm
      · exact z.2.1 q1
      · exact n12 z.1
    · rcases z with z | z | z
      · exact n01 z.1.symm
      · exact z.2.2 q2
      · exact n12 z.1
  · have q' : k = nI 2 := q
    subst q'
    refine And.intro (fun q1 => And.intro rfl (e0 (decide_eq_false (fun z => ?_)))) (fun q1 => And.intro rfl (e1 (decide_eq_true (Or.inr (Or.inr ⟨rfl, q1⟩)))))
    rcases z with z | z | z
    · exact n02 z.1.symm
    · exact n12 z.1.symm
    · exact q1 z.2
  · have h0 : ¬ (nI 0 < nI 0 ∨ nI (0 + 3) ≤ nI 0) := by decide
    have h1 : ¬ (nI 1 < nI 0 ∨ nI (0 + 3) ≤ nI 1) := by decide
    have h2 : ¬ (nI 2 < nI 0 ∨ nI (0 + 3) ≤ nI 2) := by decide
    intro z
    rcases z with z | z | z
    · rw [z.1] at q; exact h0 q
    · rw [z.1] at q; exact h1 q
    · rw [z.1] at q; exact h2 q
theorem CC_order_bad1 {h x k n : Int32} (hx : x < nI 0 ∨ nI (kT (aSk A) 2) ≤ x) : CC w (d + 7) m_OC_order [.int h, .int x, .int k, .int n] A 2 v A := by
  intro σ P X hI _ hX
  refine meth_ok k_OC_order q_OC_order rfl fun At hAt => hAt 50 _ _ _ _ _ _ ?_
  exact callG 1 6 (by omega) (by omega) (s_needCloud_bad hI hx (by omega) (by omega) (fun n => hX 1 rfl _ (frC.nX σ n) (hI.nX n)))
theorem CC_order_bad2 {j : Nat} {h k n : Int32} (hv : VA A) (hj : j < kT (aSk A) 2) (hh : ((¬ h < nI 0 ∧ ¬ nI 50 ≤ h) ∧ okO k n = true) → False) : CC w (d + 7) m_OC_order [.int h, .int (nI j), .int k, .int n] A 1 v A := by
  intro σ P X hI _ hX
  have hX' := fun n => hX 0 rfl _ (frC.nX σ n) (hI.nX n)
  refine meth_ok k_OC_order q_OC_order rfl fun At hAt => hAt 50 _ _ _ _ _ _ ?_
  refine callG 0 0 (by omega) (by omega) (s_needCloud_ok hI hv hj ?_)
  refine s_isHour ?_
  refine And.intro (fun _ => ?_) (fun q0 => ?_)
  · exact callG 1 6 (by omega) (by omega) (s_need_bad rfl (by omega) (by omega) hI.n hX')
  · refine s_isOrder ?_
    refine And.intro (fun _ => ?_) (fun q1 => ?_)
    · exact callG 1 6 (by omega) (by omega) (s_need_bad rfl (by omega) (by omega) hI.n hX')
    · refine (hh ⟨?_, ?_⟩).elim
      · by_cases z : (¬ h < nI 0 ∧ ¬ nI 50 ≤ h)
        · exact z
        · exact absurd (by rw [decide_eq_false z]; rfl) q0
      · cases z : okO k n with
        | true => rfl
        | false => exact absurd (by rw [z]; rfl) q1
theorem CC_order_ok {j h : Nat} {k n : Nat} (hv : VA A) (hj : j < kT (aSk A) 2) (hh : h < 50) (ho : okO (nI k) (nI n) = true) (hf : (aBk A).1.1 < 30) :
    CC w (d + 7) m_OC_order [.int (nI h), .int (nI j), .int (nI k), .int (nI n)] A 0 (.int (nI ((aBk A).1.1 + 1))) (sBk A (addR (aBk A).1 (fun i => if i = 0 then h else if i = 1 then j else if i = 2 then k else n), (aBk A).2)) := by
  intro σ P X hI hP _
  have hP' : ∀ σ' x, frC σ σ' → IC _ σ' → x = nI ((aBk A).1.1 + 1) → P (some (.int x)) σ' := fun σ' x h1 h2 h3 => by rw [h3]; exact hP rfl σ' h1 h2
  refine meth_ok k_OC_order q_OC_order rfl fun At hAt => hAt 50 _ _ _ _ _ _ ?_
  refine callG 0 0 (by omega) (by omega) (s_needCloud_ok hI hv hj ?_)
  refine s_isHour ?_
  rw [decide_eq_true ⟨nI_nlt (Nat.zero_le h) (by omega), nI_ge hh (by omega)⟩]
  refine And.intro (fun q => absurd q (by decide)) (fun _ => ?_)
  refine s_isOrder ?_
  rw [ho]
  refine And.intro (fun q => absurd q (by decide)) (fun _ => ?_)
  refine callG 0 0 (by omega) (by omega) (s_need_ok (by decide) ?_)
  obtain ⟨b1, b2, b3⟩ := hI.bk
  refine meth_ok k_Book_giveOrder q_Book_giveOrder rfl fun At hAt => hAt 50 _ _ _ _ _ _ ?_
  refine s_Table_open (a := 31) (na := 32) (mo := 30) (wd := 4) rfl b1.1 hf ?_
  refine And.intro (fun _ => ?_) (fun q => ?_)
  · refine s_Table_set (a := 31) (na := 32) (mo := 30) (wd := 4) rfl hf (show 0 < 4 by omega) ?_
    refine s_Table_set (a := 31) (na := 32) (mo := 30) (wd := 4) rfl hf (show 1 < 4 by omega) ?_
    refine s_Table_set (a := 31) (na := 32) (mo := 30) (wd := 4) rfl hf (show 2 < 4 by omega) ?_
    refine s_Table_set (a := 31) (na := 32) (mo := 30) (wd := 4) rfl hf (show 3 < 4 by omega) ?_
    refine s_Table_size (a := 31) (na := 32) (mo := 30) (wd := 4) rfl ?_
    refine hP' _ _ ?_ ?_ ?_
    · exact ((((frC.rfl σ).wI (by omega)).wI (by omega)).wI (by omega)).wI (by omega) |>.wI (by omega)
    · refine hI.setBk (fun a j ha => ?_) (Nat.le_refl _) ⟨b1.push ?_ (fun i hi => ?_) (fun j hj => ?_), b2.frame (fun j => ?_) (fun j => ?_), b3.frame (fun j => ?_) (fun j => ?_)⟩
      · simp only [rI_wI]
        rw [if_neg (by omega), if_neg (by omega), if_neg (by omega), if_neg (by omega), if_neg (by omega)]
      · simp [rI_wI]
      · have : i = 0 ∨ i = 1 ∨ i = 2 ∨ i = 3 := by omega
        rcases this with rfl | rfl | rfl | rfl <;> simp [rI_wI] <;> rfl
      · simp only [rI_wI]
        rw [if_neg (by omega), if_neg (by omega), if_neg (by omega), if_neg (by omega), if_neg (by omega)]
      all_goals simp [rI_wI]
    · simp [rI_wI]
  · exact absurd q (nI_m1 (by omega))
end SE
