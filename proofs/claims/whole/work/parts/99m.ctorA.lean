/-! CONSTRUCTORS (mode false): the small classes. Memories as tuples: ints, longs, late, how many, final fields set -/
theorem nS_z {J : Nat → Nat → Int32} {g : Nat → Nat → Int64} {D : Nat → Nat} {N n : Nat} {l : List (Nat × Nat)} (hZ : ∀ b j, N ≤ b → J b j = 0) : nS (J, g, D, N, l) n = (J, (fun b j => if N ≤ b then 0 else g b j), D, N + n, l) := by
  refine Prod.ext ?_ rfl
  funext b j
  show (if N ≤ b then (0 : Int32) else J b j) = J b j
  by_cases h : N ≤ b
  · rw [if_pos h, hZ b j h]
  · rw [if_neg h]
def Jw (J : Nat → Nat → Int32) (a k : Nat) (x : Int32) : Nat → Nat → Int32 := fun b j => if b = a ∧ j = k then x else J b j
theorem Jw_z {J : Nat → Nat → Int32} {a k N : Nat} {x : Int32} (h : a < N) (hZ : ∀ b j, N ≤ b → J b j = 0) : ∀ b j, N ≤ b → Jw J a k x b j = 0 := by
  intro b j hb
  unfold Jw
  rw [if_neg (by omega)]; exact hZ b j hb
theorem Jw_o {J : Nat → Nat → Int32} {a k : Nat} {x : Int32} {b : Nat} (h : b ≠ a) (j : Nat) : Jw J a k x b j = J b j := by unfold Jw; rw [if_neg (fun q => h q.1)]
theorem Jw_0 {J : Nat → Nat → Int32} {a k : Nat} (h : J a k = 0) : Jw J a k (nI 0) = J := by
  funext b j
  unfold Jw
  by_cases q : b = a ∧ j = k
  · rw [if_pos q, q.1, q.2, h]; rfl
  · rw [if_neg q]
theorem oOK_f {J : Nat → Nat → Int32} {g : Nat → Nat → Int64} {D : Nat → Nat} {N : Nat} {l : List (Nat × Nat)} {a ci : Nat} (h1 : a < N) (h : a < ow_n0) (hk : kS a = ci) : oOK false (J, g, D, N, l) a ci = true := by
  unfold oOK lvB
  rw [blt_t h, nbq]
  show (cond (false && _) true (Nat.blt a N) && true && decide (kS a = ci)) = true
  rw [Bool.false_and, blt_t h1]
  simp [hk]
theorem lvB_f {J : Nat → Nat → Int32} {g : Nat → Nat → Int64} {D : Nat → Nat} {N : Nat} {l : List (Nat × Nat)} {a : Nat} (h1 : a < N) : lvB false (J, g, D, N, l) a = true := by
  unfold lvB
  show (cond (false && _) true (Nat.blt a N)) = true
  rw [Bool.false_and, blt_t h1]; rfl
theorem alB_f {J : Nat → Nat → Int32} {g : Nat → Nat → Int64} {D : Nat → Nat} {N : Nat} {l : List (Nat × Nat)} {a : Nat} (h1 : a < N) (h : a < ow_n0) (hk : kS a = 12) : (lvB false (J, g, D, N, l) a && Nat.ble 12 (kind (J, g, D, N, l) a) && Nat.ble (kind (J, g, D, N, l) a) 17) = true := by
  rw [lvB_f h1, kind_s h, hk]; rfl
theorem aOK_f {J : Nat → Nat → Int32} {g : Nat → Nat → Int64} {D : Nat → Nat} {N : Nat} {l : List (Nat × Nat)} {a kd n j : Nat} (h1 : a < N) (h : a < ow_n0) (hk : kS a = kd) (hl : lS a = n) (hj : j < n) (hn : n < 2 ^ 31) : aOK false (J, g, D, N, l) a kd (nI j) :=
  ⟨lvB_f h1, (kind_s h).trans hk, by rw [aLen_s h, hl]; exact vp_in_nI hj hn⟩
section CTA
variable {w : Wd} {d : Nat} {P : Option AV → Mem → Prop} {X : Nat → Mem → Prop} {J : Nat → Nat → Int32} {g : Nat → Nat → Int64} {D : Nat → Nat} {N : Nat} {l : List (Nat × Nat)}
theorem i_Row {n : Nat} (h : rwB N (N + 1) n = true) (hn : 1 ≤ n) (hZ : ∀ b j, N ≤ b → J b j = 0) (hP : ∀ g', P none (J, g', D, N + 2, (N, 0) :: l)) : Ret w false (d + 1) 1 n m_Row_init [.ref N, .int (nI n)] (nS (J, g, D, N, l) 1) P X := by
  obtain ⟨h1, h2, h3, h4, h5, h6, h7⟩ := rwB_s h
  rw [nS_z hZ]
  refine meth_ok k_Row_init q_Row_init rfl fun At hAt => hAt 50 _ _ _ _ _ _ ?_
  refine And.intro (fun q => absurd q (nI_ge hn (by omega))) (fun _ => ?_)
  refine cond_t (by rw [show mN (J, (fun b j => if N ≤ b then (0 : Int64) else g b j), D, N + 1, l) = N + 1 from rfl, blt_t h4, h5]; rfl) ?_
  refine And.intro (nI_nlt (Nat.zero_le n) (by omega)) (And.intro ((nI_cl (by omega)).trans h6.symm) (And.intro (Nat.le_refl _) (And.intro (by show 0 + lS (N + 1) ≤ n; omega) ?_)))
  rw [nS_z (fun b j hb => hZ b j (by omega))]
  refine cond_t (oOK_f (by omega) h1 h2) ?_
  refine cond_t (by show Nat.beq (rS N 0) (N + 1 + 1) = true; rw [h3]; exact Nat.beq_refl _) ?_
  exact hP _
theorem i_Table {mo wd : Nat} (h : tbB N (N + 1) mo wd = true) (hZ : ∀ b j, N ≤ b → J b j = 0) (hP : ∀ g', P none (J, g', D, N + 2, (N, 2) :: (N, 1) :: (N, 0) :: l)) : Ret w false (d + 1) 1 (mo * wd) m_Table_init [.ref N, .int (nI mo), .int (nI wd)] (nS (J, g, D, N, l) 1) P X := by
  obtain ⟨h1, h2, h3, h4, h5, h6, h7, h8, h9, h10, h11⟩ := tbB_s h
  have hp : 1 ≤ mo * wd := Nat.le_trans h11 (Nat.le_mul_of_pos_left wd (by omega))
  rw [nS_z hZ]
  refine meth_ok k_Table_init q_Table_init rfl fun At hAt => hAt 50 _ _ _ _ _ _ ?_
  refine cond_t (oOK_f (by omega) h1 h2) (And.intro (by rw [h7]) ?_)
  refine cond_t (oOK_f (N := N + 1) (l := (N, 0) :: l) (by omega) h1 h2) (And.intro (by rw [h8]) ?_)
  refine And.intro (fun q => absurd q (by rw [nI_mul]; exact nI_ge hp (by omega))) (fun _ => ?_)
  refine cond_t (by rw [show mN (sA (sA (J, (fun b j => if N ≤ b then (0 : Int64) else g b j), D, N + 1, l) N 0) N 1) = N + 1 from rfl, blt_t h4, h5]; rfl) ?_
  refine And.intro (by rw [nI_mul]; exact nI_nlt (Nat.zero_le _) (by omega)) (And.intro (by rw [nI_mul]; exact (nI_cl (by omega)).trans h6.symm) (And.intro (Nat.le_refl _) (And.intro (by show 0 + lS (N + 1) ≤ mo * wd; omega) ?_)))
  rw [show nS (sA (sA (J, (fun b j => if N ≤ b then (0 : Int64) else g b j), D, N + 1, l) N 0) N 1) 1 = nS (J, (fun b j => if N ≤ b then (0 : Int64) else g b j), D, N + 1, (N, 1) :: (N, 0) :: l) 1 from rfl, nS_z (fun b j hb => hZ b j (by omega))]
  refine cond_t (oOK_f (by omega) h1 h2) ?_
  refine cond_t (by show Nat.beq (rS N 2) (N + 1 + 1) = true; rw [h3]; exact Nat.beq_refl _) ?_
  refine cond_t (oOK_f (N := N + 1 + 1) (l := (N, 2) :: (N, 1) :: (N, 0) :: l) (by omega) h1 h2) ?_
  have e := hP (fun b j => if N + 1 ≤ b then (0 : Int64) else if N ≤ b then (0 : Int64) else g b j)
  rw [← Jw_0 (J := J) (a := N) (k := 3) (hZ N 3 (Nat.le_refl _))] at e
  exact e
theorem i_set {a na n : Nat} (h : rwB a na n = true) (ha : a < N) (hna : na < N) (hm : memb l a 0 = true) {j : Nat} {x : Int32} (hj : j < n) (hP : P none (Jw J na j x, g, D, N, l)) : Ret w false (d + 1) 0 0 m_Row_set [.ref a, .int (nI j), .int x] (J, g, D, N, l) P X := by
  obtain ⟨h1, h2, h3, h4, h5, h6, h7⟩ := rwB_s h
  refine meth_ok k_Row_set q_Row_set rfl fun At hAt => hAt 50 _ _ _ _ _ _ ?_
  refine And.intro (fun q => absurd q (nI_nlt (Nat.zero_le j) (by omega))) (fun _ => ?_)
  refine cond_t (oOK_f ha h1 h2) (cond_t hm (rMat_s h3 (cond_t (alB_f hna h4 h5) ?_)))
  rw [aLen_s h4, h6]
  refine And.intro (fun q => absurd q (nI_ge hj (by omega))) (fun _ => ?_)
  refine cond_t (oOK_f ha h1 h2) (cond_t hm (rMat_s h3 (And.intro (aOK_f hna h4 h5 h6 hj (by omega)) ?_)))
  rw [nI_cl (by omega)]
  exact hP
theorem i_empty {a na mo wd : Nat} (h : tbB a na mo wd = true) (ha : a < N) (hna : na < N) (hm : memb l a 2 = true) (hz : ∀ j, J a j = 0) (hz2 : ∀ j, J na j = 0) (hP : P none (J, g, D, N, l)) : Ret w false (d + 1) 0 0 m_Table_empty [.ref a] (J, g, D, N, l) P X := by
  obtain ⟨h1, h2, h3, h4, h5, h6, h7, h8, h9, h10, h11⟩ := tbB_s h
  have hw3 : wI (J, g, D, N, l) a 3 (nI 0) = (J, g, D, N, l) := congrArg (fun z => (z, g, D, N, l)) (Jw_0 (hz 3))
  have hwn : ∀ j, wI (J, g, D, N, l) na j (nI 0) = (J, g, D, N, l) := fun j => congrArg (fun z => (z, g, D, N, l)) (Jw_0 (hz2 j))
  refine meth_ok k_Table_empty q_Table_empty rfl fun At hAt => ?_
  have loop : ∀ k j, j + k = mo * wd → At 7 [.ref a, .int (nI j)] [] (J, g, D, N, l) 0 0 := by
    intro k
    induction k with
    | zero =>
      intro j hj
      refine hAt 50 _ _ _ _ _ _ (cond_t (oOK_f ha h1 h2) (cond_t hm (rMat_s h3 (cond_t (alB_f hna h4 h5) ?_))))
      rw [aLen_s h4, h6]
      refine And.intro (fun _ => hP) (fun q => absurd (nI_le (by omega) (by omega)) q)
    | succ k ih =>
      intro j hj
      refine hAt 50 _ _ _ _ _ _ (cond_t (oOK_f ha h1 h2) (cond_t hm (rMat_s h3 (cond_t (alB_f hna h4 h5) ?_))))
      rw [aLen_s h4, h6]
      refine And.intro (fun q => absurd q (nI_ge (by omega) (by omega))) (fun _ => ?_)
      refine cond_t (oOK_f ha h1 h2) (cond_t hm (rMat_s h3 (And.intro (aOK_f hna h4 h5 h6 (by omega) (by omega)) ?_)))
      rw [nI_cl (by omega), hwn]
      have := ih (j + 1) (by omega)
      rw [nI_s] at this
      exact this
  refine hAt 50 _ _ _ _ _ _ (cond_t (oOK_f ha h1 h2) ?_)
  have e := loop (mo * wd) 0 (by omega)
  rw [← hw3] at e
  exact e
end CTA
