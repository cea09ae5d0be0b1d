/-! THE COMPONENT'S BOOK -/
def eT (t : Tb) : Tb := (0, t.2)
theorem tbR.eT {σ' : Mem} {o a wd : Nat} {t : Tb} (h : rI σ' o 3 = nI 0) : tbR σ' o a wd (eT t) := ⟨h, fun k hk => absurd hk (Nat.not_lt_zero k)⟩
theorem tbR.copy {σ : Mem} {o a o2 a2 wd mo : Nat} {t : Tb} (h : tbR σ o2 a2 wd t) (hm : t.1 ≤ mo) (hne : o ≠ a) : tbR (uI (wI σ o 3 (rI σ o2 3)) a (fun j => if j < mo * wd then rI σ a2 j else rI σ a j)) o a wd t := by
  refine ⟨?_, fun k hk i hi => ?_⟩
  · rw [rI_uI, if_neg hne, rI_wI, if_pos ⟨rfl, rfl⟩]; exact h.1
  · rw [rI_uI, if_pos rfl, if_pos (tix (by omega) hi)]
    exact h.2 k hk i hi
def bkB (o : Nat) : Bool := Nat.blt o ow_n0 && Nat.beq (kS o) 0 && Nat.beq (rS o 0) (o + 1 + 1) && Nat.beq (rS o 1) (o + 3 + 1) && Nat.beq (rS o 2) (o + 5 + 1) && tbB (o + 1) (o + 2) 30 4 && tbB (o + 3) (o + 4) 8 3 && tbB (o + 5) (o + 6) 9 3
theorem bkB_s {o : Nat} (h : bkB o = true) : o < ow_n0 ∧ kS o = 0 ∧ rS o 0 = o + 1 + 1 ∧ rS o 1 = o + 3 + 1 ∧ rS o 2 = o + 5 + 1 ∧ tbB (o + 1) (o + 2) 30 4 = true ∧ tbB (o + 3) (o + 4) 8 3 = true ∧ tbB (o + 5) (o + 6) 9 3 = true := by
  unfold bkB at h
  simp only [Bool.and_eq_true, nbq, decide_eq_true_eq, Nat.ble_eq] at h
  obtain ⟨⟨⟨⟨⟨⟨⟨h1, h2⟩, h3⟩, h4⟩, h5⟩, h6⟩, h7⟩, h8⟩ := h
  simp [Nat.blt] at h1
  exact ⟨by omega, h2, h3, h4, h5, h6, h7, h8⟩
section SG
variable {w : Wd} {d : Nat} {A : St} {v : AV}
theorem s_Book_copyFrom {σ : Mem} {P : Option AV → Mem → Prop} {X : Nat → Mem → Prop} {o o2 : Nat} {b : Bk} (h : bkB o = true) (h' : bkB o2 = true) (ho : o + 7 ≤ o2 ∨ o2 + 7 ≤ o) (hb : bkC σ (o2 + 1) b) (hv : b.1.1 ≤ 30 ∧ b.2.1.1 ≤ 8 ∧ b.2.2.1 ≤ 9)
    (hP : ∀ σ', (∀ a j, a ≤ o ∨ o + 7 ≤ a → rI σ' a j = rI σ a j) → σ'.2 = σ.2 → bkC σ' (o + 1) b → P none σ') : Ret w true (d + 2) 0 0 m_Book_copyFrom [.ref o, .ref o2] σ P X := by
  obtain ⟨h1, h2, h3, h4, h5, h6, h7, h8⟩ := bkB_s h
  obtain ⟨g1, g2, g3, g4, g5, g6, g7, g8⟩ := bkB_s h'
  obtain ⟨b1, b2, b3⟩ := hb
  refine meth_ok k_Book_copyFrom q_Book_copyFrom rfl fun At hAt => hAt 50 _ _ _ _ _ _ ?_
  refine cond_t (oOK_t h1 h2) (cond_t rfl (rMat_s h3 (cond_t (oOK_t g1 g2) (cond_t rfl (rMat_s g3 (cond_t (oOK_t (tbB_s h6).1 (tbB_s h6).2.1) ?_))))))
  refine s_Table_copyFrom h6 g6 (by omega) ?_
  refine cond_t (oOK_t h1 h2) (cond_t rfl (rMat_s h4 (cond_t (oOK_t g1 g2) (cond_t rfl (rMat_s g4 (cond_t (oOK_t (tbB_s h7).1 (tbB_s h7).2.1) ?_))))))
  refine s_Table_copyFrom h7 g7 (by omega) ?_
  refine cond_t (oOK_t h1 h2) (cond_t rfl (rMat_s h5 (cond_t (oOK_t g1 g2) (cond_t rfl (rMat_s g5 (cond_t (oOK_t (tbB_s h8).1 (tbB_s h8).2.1) ?_))))))
  refine s_Table_copyFrom h8 g8 (by omega) ?_
  refine hP _ (fun a j ha => ?_) rfl ⟨?_, ?_, ?_⟩
  · simp only [rI_uI, rI_wI]
    rw [if_neg (by omega), if_neg (by omega), if_neg (by omega), if_neg (by omega), if_neg (by omega), if_neg (by omega)]
  · refine (b1.copy (o := o + 1) (a := o + 2) hv.1 (by omega)).frame (fun j => ?_) (fun j => ?_)
    · simp only [rI_uI, rI_wI]
      rw [if_neg (by omega), if_neg (by omega), if_neg (by omega), if_neg (by omega)]
    · simp only [rI_uI, rI_wI]
      rw [if_neg (by omega), if_neg (by omega), if_neg (by omega), if_neg (by omega)]
  · refine ((b2.frame (σ' := uI (wI σ (o + 1) 3 (rI σ (o2 + 1) 3)) (o + 2) (fun j => if j < 30 * 4 then rI σ (o2 + 2) j else rI σ (o + 2) j)) (fun j => ?_) (fun j => ?_)).copy (o := o + 3) (a := o + 4) hv.2.1 (by omega)).frame (fun j => ?_) (fun j => ?_)
    · simp only [rI_uI, rI_wI]
      rw [if_neg (by omega), if_neg (by omega)]
    · simp only [rI_uI, rI_wI]
      rw [if_neg (by omega), if_neg (by omega)]
    · simp only [rI_uI, rI_wI]
      rw [if_neg (by omega), if_neg (by omega)]
    · simp only [rI_uI, rI_wI]
      rw [if_neg (by omega), if_neg (by omega)]
  · refine (((b3.frame (σ' := uI (wI σ (o + 1) 3 (rI σ (o2 + 1) 3)) (o + 2) (fun j => if j < 30 * 4 then rI σ (o2 + 2) j else rI σ (o + 2) j)) (fun j => ?_) (fun j => ?_)).frame (σ' := uI (wI (uI (wI σ (o + 1) 3 (rI σ (o2 + 1) 3)) (o + 2) (fun j => if j < 30 * 4 then rI σ (o2 + 2) j else rI σ (o + 2) j)) (o + 3) 3 (rI (uI (wI σ (o + 1) 3 (rI σ (o2 + 1) 3)) (o + 2) (fun j => if j < 30 * 4 then rI σ (o2 + 2) j else rI σ (o + 2) j)) (o2 + 3) 3)) (o + 4) (fun j => if j < 8 * 3 then rI (uI (wI σ (o + 1) 3 (rI σ (o2 + 1) 3)) (o + 2) (fun j => if j < 30 * 4 then rI σ (o2 + 2) j else rI σ (o + 2) j)) (o2 + 4) j else rI (uI (wI σ (o + 1) 3 (rI σ (o2 + 1) 3)) (o + 2) (fun j => if j < 30 * 4 then rI σ (o2 + 2) j else rI σ (o + 2) j)) (o + 4) j)) (fun j => ?_) (fun j => ?_)).copy (o := o + 5) (a := o + 6) hv.2.2 (by omega))
    · simp only [rI_uI, rI_wI]
      rw [if_neg (by omega), if_neg (by omega)]
    · simp only [rI_uI, rI_wI]
      rw [if_neg (by omega), if_neg (by omega)]
    · simp only [rI_uI, rI_wI]
      rw [if_neg (by omega), if_neg (by omega)]
    · simp only [rI_uI, rI_wI]
      rw [if_neg (by omega), if_neg (by omega)]
theorem CC_order_full {j h k n : Nat} (hv : VA A) (hj : j < kT (aSk A) 2) (hh : h < 50) (ho : okO (nI k) (nI n) = true) (hf : ¬ (aBk A).1.1 < 30) :
    CC w (d + 7) m_OC_order [.int (nI h), .int (nI j), .int (nI k), .int (nI n)] A 0 (.int (-1)) A := by
  intro σ P X hI hP _
  have := hv.2.2.2.1.1
  refine meth_ok k_OC_order q_OC_order rfl fun At hAt => hAt 50 _ _ _ _ _ _ ?_
  refine callG 0 0 (by omega) (by omega) (s_needCloud_ok hI hv hj ?_)
  refine s_isHour ?_
  rw [decide_eq_true ⟨nI_nlt (Nat.zero_le h) (by omega), nI_ge hh (by omega)⟩]
  refine And.intro (fun q => absurd q (by decide)) (fun _ => ?_)
  refine s_isOrder ?_
  rw [ho]
  refine And.intro (fun q => absurd q (by decide)) (fun _ => ?_)
  refine callG 0 0 (by omega) (by omega) (s_need_ok (by decide) ?_)
  obtain ⟨b1, b2, b3⟩ := hI.bk
  refine meth_ok k_Book_giveOrder q_Book_giveOrder rfl fun At hAt => hAt 50 _ _ _ _ _ _ ?_
  refine s_Table_openF (a := 31) (na := 32) (mo := 30) (wd := 4) rfl b1.1 (by omega) (by omega) ?_
  exact And.intro (fun q => absurd rfl q) (fun _ => hP rfl σ (frC.rfl σ) hI)
theorem CC_clear : CC w (d + 2) m_OC_clear [] A 0 (.int (nI (aBk A).1.1)) (sBk A (eT (aBk A).1, (aBk A).2)) := by
  intro σ P X hI hP _
  obtain ⟨b1, b2, b3⟩ := hI.bk
  refine meth_ok k_OC_clear q_OC_clear rfl fun At hAt => hAt 50 _ _ _ _ _ _ ?_
  refine s_Table_size (a := 31) (na := 32) (mo := 30) (wd := 4) rfl ?_
  refine s_Table_empty (a := 31) (na := 32) (mo := 30) (wd := 4) rfl ?_
  rw [b1.1]
  refine hP rfl _ (((frC.rfl σ).wI (by omega)).uI (by omega)) (hI.setBk (fun a j ha => ?_) (Nat.le_refl _) ⟨tbR.eT ?_, b2.frame (fun j => ?_) (fun j => ?_), b3.frame (fun j => ?_) (fun j => ?_)⟩)
  · rw [rI_uI, rI_wI, if_neg (by omega), if_neg (by omega)]
  all_goals simp [rI_wI, rI_uI]
theorem CC_forget : CC w (d + 2) m_OC_forget [] A 0 (.int (nI (aBk A).2.1.1)) (sBk A ((aBk A).1, eT (aBk A).2.1, (aBk A).2.2)) := by
  intro σ P X hI hP _
  obtain ⟨b1, b2, b3⟩ := hI.bk
  refine meth_ok k_OC_forget q_OC_forget rfl fun At hAt => hAt 50 _ _ _ _ _ _ ?_
  refine s_Table_size (a := 33) (na := 34) (mo := 8) (wd := 3) rfl ?_
  refine s_Table_empty (a := 33) (na := 34) (mo := 8) (wd := 3) rfl ?_
  rw [b2.1]
  refine hP rfl _ (((frC.rfl σ).wI (by omega)).uI (by omega)) (hI.setBk (fun a j ha => ?_) (Nat.le_refl _) ⟨b1.frame (fun j => ?_) (fun j => ?_), tbR.eT ?_, b3.frame (fun j => ?_) (fun j => ?_)⟩)
  · rw [rI_uI, rI_wI, if_neg (by omega), if_neg (by omega)]
  all_goals simp [rI_wI, rI_uI]
theorem CC_away : CC w (d + 2) m_OC_away [] A 0 (.int (nI (aBk A).2.2.1)) (sBk A ((aBk A).1, (aBk A).2.1, eT (aBk A).2.2)) := by
  intro σ P X hI hP _
  obtain ⟨b1, b2, b3⟩ := hI.bk
  refine meth_ok k_OC_away q_OC_away rfl fun At hAt => hAt 50 _ _ _ _ _ _ ?_
  refine s_Table_size (a := 35) (na := 36) (mo := 9) (wd := 3) rfl ?_
  refine s_Table_empty (a := 35) (na := 36) (mo := 9) (wd := 3) rfl ?_
  rw [b3.1]
  refine hP rfl _ (((frC.rfl σ).wI (by omega)).uI (by omega)) (hI.setBk (fun a j ha => ?_) (Nat.le_refl _) ⟨b1.frame (fun j => ?_) (fun j => ?_), b2.frame (fun j => ?_) (fun j => ?_), tbR.eT ?_⟩)
  · rw [rI_uI, rI_wI, if_neg (by omega), if_neg (by omega)]
  all_goals simp [rI_wI, rI_uI]
/-- what count tells -/
def cnt (A : St) (i : Nat) : Int32 := if i = 0 then nI (aBk A).1.1 else if i = 1 then nI (aBk A).2.1.1 else if i = 2 then nI (aBk A).2.2.1 else if i = 3 then nI (aIn A) else if i = 4 then nI (aTc A) else -1
theorem CC_count_ok {i : Nat} (hi : i < 5) : CC w (d + 2) m_OC_count [.int (nI i)] A 0 (.int (cnt A i)) A := by
  intro σ P X hI hP _
  obtain ⟨b1, b2, b3⟩ := hI.bk
  have h := hP rfl σ (frC.rfl σ) hI
  refine meth_ok k_OC_count q_OC_count rfl fun At hAt => hAt 50 _ _ _ _ _ _ ?_
  refine And.intro (And.intro (fun q => ?_) (And.intro (fun q => ?_) (And.intro (fun q => ?_) (And.intro (fun q => ?_) (And.intro (fun q => ?_) trivial))))) (fun q => ?_)
  · have := (nI_eq (by omega) (by omega)).mp q
    subst this
    refine s_Table_size (a := 31) (na := 32) (mo := 30) (wd := 4) rfl ?_
    rw [b1.1]; exact h
  · have := (nI_eq (by omega) (by omega)).mp q
    subst this
    refine s_Table_size (a := 33) (na := 34) (mo := 8) (wd := 3) rfl ?_
    rw [b2.1]; exact h
  · have := (nI_eq (by omega) (by omega)).mp q
    subst this
    refine s_Table_size (a := 35) (na := 36) (mo := 9) (wd := 3) rfl ?_
    rw [b3.1]; exact h
  · have := (nI_eq (by omega) (by omega)).mp q
    subst this
    rw [show cnt A (0 + 1 + 1 + 1) = rI σ 0 7 from hI.2.2.2.2.2.2.1.symm] at h
    exact h
  · have := (nI_eq (by omega) (by omega)).mp q
    subst this
    rw [show cnt A (0 + 1 + 1 + 1 + 1) = rI σ 0 1 from hI.2.1.symm] at h
    exact h
  · have q' : nI i < nI 0 ∨ nI 5 ≤ nI i := q
    exact absurd q' (fun z => z.elim (nI_nlt (Nat.zero_le _) (by omega)) (nI_ge hi (by omega)))
theorem CC_count_bad {x : Int32} (hx : x < nI 0 ∨ nI 5 ≤ x) : CC w (d + 2) m_OC_count [.int x] A 0 (.int (-1)) A := by
  intro σ P X hI hP _
  have hn : ∀ i, i < 5 → ¬ x = nI i := fun i hi q => by
    rw [q] at hx
    exact hx.elim (nI_nlt (Nat.zero_le _) (by omega)) (nI_ge hi (by omega))
  refine meth_ok k_OC_count q_OC_count rfl fun At hAt => hAt 50 _ _ _ _ _ _ ?_
  exact And.intro (And.intro (fun q => absurd q (hn 0 (by omega))) (And.intro (fun q => absurd q (hn 1 (by omega))) (And.intro (fun q => absurd q (hn 2 (by omega))) (And.intro (fun q => absurd q (hn 3 (by omega))) (And.intro (fun q => absurd q (hn 4 (by omega))) trivial))))) (fun _ => hP rfl σ (frC.rfl σ) hI)
end SG
