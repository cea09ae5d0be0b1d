/-! TABLES, the rest -/
/-- the first place from j on, of k, of which p holds; -1 -/
def fsF (p : Nat → Bool) : Nat → Nat → Int32
  | _, 0 => -1
  | j, k + 1 => if p j then nI j else fsF p (j + 1) k
theorem fsF_congr {p q : Nat → Bool} : ∀ (k j : Nat), (∀ i, j ≤ i → i < j + k → p i = q i) → fsF p j k = fsF q j k
  | 0, _, _ => rfl
  | k + 1, j, h => by
    unfold fsF
    rw [h j (Nat.le_refl _) (by omega), fsF_congr k (j + 1) (fun i h1 h2 => h i (by omega) (by omega))]
theorem fsF_spec (p : Nat → Bool) : ∀ (k j : Nat), (fsF p j k = -1 ∧ ∀ i, j ≤ i → i < j + k → p i = false) ∨ ∃ i, j ≤ i ∧ i < j + k ∧ p i = true ∧ fsF p j k = nI i ∧ ∀ z, j ≤ z → z < i → p z = false
  | 0, j => Or.inl ⟨rfl, fun i h1 h2 => by omega⟩
  | k + 1, j => by
    unfold fsF
    by_cases h : p j = true
    · rw [if_pos h]
      exact Or.inr ⟨j, Nat.le_refl _, by omega, h, rfl, fun z h1 h2 => by omega⟩
    · rw [if_neg h]
      have h' : p j = false := by simpa using h
      rcases fsF_spec p k (j + 1) with ⟨e, g⟩ | ⟨i, h1, h2, h3, h4, h5⟩
      · refine Or.inl ⟨e, fun i h1 h2 => ?_⟩
        by_cases q : i = j
        · rw [q]; exact h'
        · exact g i (by omega) (by omega)
      · refine Or.inr ⟨i, by omega, by omega, h3, h4, fun z z1 z2 => ?_⟩
        by_cases q : z = j
        · rw [q]; exact h'
        · exact h5 z (by omega) z2
section TAB2
variable {w : Wd} {d : Nat} {σ : Mem} {a na mo wd : Nat} {P : Option AV → Mem → Prop} {X : Nat → Mem → Prop}
def atXY (σ : Mem) (na wd : Nat) (x y : Int32) (r : Nat) : Bool := decide (rI σ na (r * wd + 0) = x ∧ rI σ na (r * wd + 1) = y)
theorem s_Table_rowAt (h : tbB a na mo wd = true) (hw : 2 ≤ wd) {x y : Int32} {sz : Nat} (hsz : rI σ a 3 = nI sz) (hle : sz ≤ mo) (hP : P (some (.int (fsF (atXY σ na wd x y) 0 sz))) σ) : Ret w true (d + 2) 0 0 m_Table_rowAt [.ref a, .int x, .int y] σ P X := by
  obtain ⟨h1, h2, h3, h4, h5, h6, h7, h8, h9, h10, h11⟩ := tbB_s h
  have hmo : mo ≤ 1000 := Nat.le_trans (Nat.le_mul_of_pos_right mo (by omega)) h9
  refine meth_ok k_Table_rowAt q_Table_rowAt rfl fun At hAt => ?_
  have loop : ∀ k j, j + k = sz → P (some (.int (fsF (atXY σ na wd x y) j k))) σ → At 2 [.ref a, .int x, .int y, .int (nI j)] [] σ 0 0 := by
    intro k
    induction k with
    | zero =>
      intro j hj hP
      refine hAt 50 _ _ _ _ _ _ (cond_t (oOK_t h1 h2) ?_)
      rw [hsz]
      exact And.intro (fun _ => hP) (fun q => absurd (nI_le (by omega) (by omega)) q)
    | succ k ih =>
      intro j hj hP
      refine hAt 50 _ _ _ _ _ _ (cond_t (oOK_t h1 h2) ?_)
      rw [hsz]
      refine And.intro (fun q => absurd q (nI_ge (by omega) (by omega))) (fun _ => ?_)
      have hn : ¬ atXY σ na wd x y j = true → At 2 [.ref a, .int x, .int y, .int (nI j + nI 1)] [] σ 0 0 := fun q => by
        have := ih (j + 1) (by omega) (by unfold fsF at hP; rw [if_neg q] at hP; exact hP)
        rw [nI_s] at this
        exact this
      refine cond_t (oOK_t h1 h2) (s_Table_get h (show j < mo by omega) (show 0 < wd by omega) ?_)
      refine And.intro (fun q => hn (fun z => q (by unfold atXY at z; exact (of_decide_eq_true z).1))) (fun q1 => ?_)
      refine cond_t (oOK_t h1 h2) (s_Table_get h (show j < mo by omega) (show 1 < wd by omega) ?_)
      refine And.intro (fun q => hn (fun z => q (by unfold atXY at z; exact (of_decide_eq_true z).2))) (fun q2 => ?_)
      unfold fsF at hP
      rw [if_pos (by unfold atXY; exact decide_eq_true ⟨q1, q2⟩)] at hP
      exact hP
  exact hAt 50 _ _ _ _ _ _ (loop sz 0 (by omega) hP)
theorem s_Table_empty (h : tbB a na mo wd = true) (hP : P none (uI (wI σ a 3 (nI 0)) na (fun j => if j < mo * wd then nI 0 else rI σ na j))) : Ret w true (d + 1) 0 0 m_Table_empty [.ref a] σ P X := by
  obtain ⟨h1, h2, h3, h4, h5, h6, h7, h8, h9, h10, h11⟩ := tbB_s h
  have hne : na ≠ a := fun q => by rw [q, h2] at h5; cases h5
  refine meth_ok k_Table_empty q_Table_empty rfl fun At hAt => ?_
  have loop : ∀ k j, j + k = mo * wd → At 7 [.ref a, .int (nI j)] [] (uI (wI σ a 3 (nI 0)) na (fun i => if i < j then nI 0 else rI σ na i)) 0 0 := by
    intro k
    induction k with
    | zero =>
      intro j hj
      refine hAt 50 _ _ _ _ _ _ (cond_t (oOK_t h1 h2) (cond_t rfl (rMat_s h3 (cond_t (alB_t h4 h5) ?_))))
      rw [aLen_s h4, h6]
      refine And.intro (fun _ => ?_) (fun q => absurd (nI_le (by omega) (by omega)) q)
      rw [show j = mo * wd by omega]
      exact hP
    | succ k ih =>
      intro j hj
      refine hAt 50 _ _ _ _ _ _ (cond_t (oOK_t h1 h2) (cond_t rfl (rMat_s h3 (cond_t (alB_t h4 h5) ?_))))
      rw [aLen_s h4, h6]
      refine And.intro (fun q => absurd q (nI_ge (by omega) (by omega))) (fun _ => ?_)
      refine cond_t (oOK_t h1 h2) (cond_t rfl (rMat_s h3 (And.intro (aOK_t h4 h5 h6 (by omega) (by omega)) ?_)))
      rw [nI_cl (by omega), uI_wI (g := fun i => if i < j + 1 then nI 0 else rI σ na i) (fun i => by
        by_cases e : i = j
        · simp [e]
        · by_cases e2 : i < j <;> simp [e, e2] <;> omega)]
      have q := ih (j + 1) (by omega)
      rw [nI_s] at q
      exact q
  refine hAt 50 _ _ _ _ _ _ (cond_t (oOK_t h1 h2) ?_)
  have := loop (mo * wd) 0 (by omega)
  rw [uI_0 (wI σ a 3 (nI 0)) na (fun j => by simp [rI_wI, hne])] at this
  exact this
theorem s_Table_emptyRow (h : tbB a na mo wd = true) {r : Nat} (hr : r < mo) (hP : P none (uI σ na (fun j => if r * wd ≤ j ∧ j < r * wd + wd then nI 0 else rI σ na j))) : Ret w true (d + 2) 0 0 m_Table_emptyRow [.ref a, .int (nI r)] σ P X := by
  obtain ⟨h1, h2, h3, h4, h5, h6, h7, h8, h9, h10, h11⟩ := tbB_s h
  have hwd : wd ≤ 1000 := Nat.le_trans (Nat.le_mul_of_pos_left wd (by omega)) h9
  refine meth_ok k_Table_emptyRow q_Table_emptyRow rfl fun At hAt => ?_
  have loop : ∀ k j, j + k = wd → At 2 [.ref a, .int (nI r), .int (nI j)] [] (uI σ na (fun i => if r * wd ≤ i ∧ i < r * wd + j then nI 0 else rI σ na i)) 0 0 := by
    intro k
    induction k with
    | zero =>
      intro j hj
      refine hAt 50 _ _ _ _ _ _ (cond_t (oOK_t h1 h2) (cond_t rfl ?_))
      rw [h8]
      refine And.intro (fun _ => ?_) (fun q => absurd (nI_le (by omega) (by omega)) q)
      rw [show j = wd by omega]
      exact hP
    | succ k ih =>
      intro j hj
      refine hAt 50 _ _ _ _ _ _ (cond_t (oOK_t h1 h2) (cond_t rfl ?_))
      rw [h8]
      refine And.intro (fun q => absurd q (nI_ge (by omega) (by omega))) (fun _ => ?_)
      refine cond_t (oOK_t h1 h2) (s_Table_set h hr (show j < wd by omega) ?_)
      rw [uI_wI (g := fun i => if r * wd ≤ i ∧ i < r * wd + (j + 1) then nI 0 else rI σ na i) (fun i => by
        by_cases e : i = r * wd + j
        · subst e; simp
        · rw [if_neg e]
          by_cases e2 : r * wd ≤ i ∧ i < r * wd + j
          · rw [if_pos e2, if_pos (by omega)]
          · rw [if_neg e2, if_neg (by omega)])]
      have q := ih (j + 1) (by omega)
      rw [nI_s] at q
      exact q
  refine hAt 50 _ _ _ _ _ _ ?_
  have := loop wd 0 (by omega)
  rw [uI_0 σ na (fun j => by rw [if_neg (by omega)])] at this
  exact this
theorem s_Table_copyFrom (h : tbB a na mo wd = true) {a2 na2 : Nat} (h' : tbB a2 na2 mo wd = true) (hne : na2 ≠ na) (hP : P none (uI (wI σ a 3 (rI σ a2 3)) na (fun j => if j < mo * wd then rI σ na2 j else rI σ na j))) : Ret w true (d + 1) 0 0 m_Table_copyFrom [.ref a, .ref a2] σ P X := by
  obtain ⟨h1, h2, h3, h4, h5, h6, h7, h8, h9, h10, h11⟩ := tbB_s h
  obtain ⟨g1, g2, g3, g4, g5, g6, g7, g8, g9, g10, g11⟩ := tbB_s h'
  have hna : na ≠ a := fun q => by rw [q, h2] at h5; cases h5
  have hna2 : na2 ≠ a := fun q => by rw [q, h2] at g5; cases g5
  refine meth_ok k_Table_copyFrom q_Table_copyFrom rfl fun At hAt => ?_
  have loop : ∀ k j, j + k = mo * wd → At 10 [.ref a, .ref a2, .int (nI j)] [] (uI (wI σ a 3 (rI σ a2 3)) na (fun i => if i < j then rI σ na2 i else rI σ na i)) 0 0 := by
    intro k
    induction k with
    | zero =>
      intro j hj
      refine hAt 50 _ _ _ _ _ _ (cond_t (oOK_t h1 h2) (cond_t rfl (rMat_s h3 (cond_t (alB_t h4 h5) ?_))))
      rw [aLen_s h4, h6]
      refine And.intro (fun _ => ?_) (fun q => absurd (nI_le (by omega) (by omega)) q)
      rw [show j = mo * wd by omega]
      exact hP
    | succ k ih =>
      intro j hj
      refine hAt 50 _ _ _ _ _ _ (cond_t (oOK_t h1 h2) (cond_t rfl (rMat_s h3 (cond_t (alB_t h4 h5) ?_))))
      rw [aLen_s h4, h6]
      refine And.intro (fun q => absurd q (nI_ge (by omega) (by omega))) (fun _ => ?_)
      refine cond_t (oOK_t g1 g2) (cond_t rfl (rMat_s g3 (cond_t (alB_t g4 g5) ?_)))
      rw [aLen_s g4, g6]
      refine And.intro (fun q => absurd q (nI_ge (by omega) (by omega))) (fun _ => ?_)
      refine cond_t (oOK_t h1 h2) (cond_t rfl (rMat_s h3 (cond_t (oOK_t g1 g2) (cond_t rfl (rMat_s g3 (And.intro (aOK_t g4 g5 g6 (by omega) (by omega)) (And.intro (aOK_t h4 h5 h6 (by omega) (by omega)) ?_)))))))
      rw [nI_cl (by omega), rI_uI, if_neg hne, rI_wI, if_neg (fun z => hna2 z.1), uI_wI (g := fun i => if i < j + 1 then rI σ na2 i else rI σ na i) (fun i => by
        by_cases e : i = j
        · simp [e]
        · by_cases e2 : i < j <;> simp [e, e2] <;> omega)]
      have q := ih (j + 1) (by omega)
      rw [nI_s] at q
      exact q
  refine hAt 50 _ _ _ _ _ _ (cond_t (oOK_t g1 g2) (cond_t (oOK_t h1 h2) ?_))
  have := loop (mo * wd) 0 (by omega)
  rw [uI_0 (wI σ a 3 (rI σ a2 3)) na (fun j => by simp [rI_wI, hna])] at this
  exact this
end TAB2
