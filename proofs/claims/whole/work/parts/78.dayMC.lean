/-! DAY, CLOUD, PART, ACCOUNT, FARMER, AFTER on the model's side -/
theorem in_up {x : Int32} {n : Nat} (hn : n + 1 < 2 ^ 31) (z : ¬ x < nI 0 ∧ ¬ nI n < x) : ¬ x < nI 0 ∧ ¬ nI (n + 1) ≤ x := ⟨z.1, fun q => in_bad' hn (Or.inr q) z⟩
theorem in_01 {x : Int32} (z : ¬ x < nI 0 ∧ ¬ nI 1 < x) : x = nI 0 ∨ x = nI 1 := by
  have h1 : (nI 0).toInt ≤ x.toInt := Int32.le_iff_toInt_le.mp (Int32.not_lt.mp z.1)
  have h2 : x.toInt ≤ (nI 1).toInt := Int32.le_iff_toInt_le.mp (Int32.not_lt.mp z.2)
  rw [nI_toInt (by omega)] at h1 h2
  have : x.toInt = 0 ∨ x.toInt = 1 := by omega
  rcases this with e | e
  · exact Or.inl (Int32.toInt_inj.mp (by rw [e, nI_toInt (by omega)]; rfl))
  · exact Or.inr (Int32.toInt_inj.mp (by rw [e, nI_toInt (by omega)]; rfl))
section DMC
variable {w : Wd} {d : Nat} {A : St} {v : AV}
theorem fM.im {σ τ : Mem} (hI : IM A σ) (hv : VA A) (h : fM σ τ) : frM σ τ ∧ IM A τ ∧ rI τ 108 0 = rI σ 108 0 :=
  ⟨⟨fun a h1 i => h.1 a i (by omega) (by omega), fun a h1 i => h.2.1 a h1 i, h.2.2⟩, hI.scr hv (fun a i t => h.1 a i (by unfold trkM at t; omega) (by unfold trkM at t; omega)) h.2.2, h.1 108 0 (by omega) (by omega)⟩
theorem MC_day_bad {seed x : Int32} (hv : VA A) (hx : x < nI 0 ∨ nI 8 ≤ x) : MC w (d + 6) 433 3464 m_Mo_day [.int seed, .int x] A 1 v A := by
  intro σ P X hI hP
  have hI' : IM A (wI σ 108 0 (nI 0)) := hI.thr hv
  have hn : kT (aSk A) 2 ≤ 8 := hv.2.2.1.2.2.1
  have hFF : kT (aSk A) 3 ≤ 12 := hv.2.2.1.2.2.2.1
  refine meth_ok k_Mo_day q_Mo_day rfl fun At hAt => ?_
  refine hAt 9 _ _ _ _ _ _ ?_
  refine s_in ?_
  refine And.intro (fun hq => ?_) (fun hq => ?_)
  · have c13 : ¬ x < nI 0 ∧ ¬ nI 7 < x := of_decide_eq_true (bI_ne hq)
    clear hq
    exact absurd c13 (in_bad' (n := 7) (by omega) hx)
  · have c13 : ¬ (¬ x < nI 0 ∧ ¬ nI 7 < x) := of_decide_eq_false (bI_eq hq)
    clear hq
    refine hAt 5 _ _ _ _ _ _ ?_
    refine s_bad1 (by decide) rfl (by omega) (by omega) ?_
    refine And.intro (fun hq => absurd hq (by decide)) (fun _ => ?_)
    refine hAt 2 _ _ _ _ _ _ ?_
    exact hP _ _ (((frM.rfl σ).wI (by omega)).wI (by omega)) (hI'.thr hv) rfl (fun q => by omega)
theorem MC_account_bad {seed x y : Int32} (hv : VA A) (hx : ¬ ((¬ x < nI 0 ∧ ¬ nI 8 ≤ x) ∧ (¬ y < nI 0 ∧ ¬ nI 2 < y))) : MC w (d + 6) 433 3464 m_Mo_account [.int seed, .int x, .int y] A 1 v A := by
  intro σ P X hI hP
  have hI' : IM A (wI σ 108 0 (nI 0)) := hI.thr hv
  have hn : kT (aSk A) 2 ≤ 8 := hv.2.2.1.2.2.1
  have hFF : kT (aSk A) 3 ≤ 12 := hv.2.2.1.2.2.2.1
  refine meth_ok k_Mo_account q_Mo_account rfl fun At hAt => ?_
  refine hAt 9 _ _ _ _ _ _ ?_
  refine s_in ?_
  refine And.intro (fun hq => ?_) (fun hq => ?_)
  · have c13 : ¬ (¬ x < nI 0 ∧ ¬ nI 7 < x) := of_decide_eq_false (bI_eq hq)
    clear hq
    refine hAt 5 _ _ _ _ _ _ ?_
    refine s_bad1 (by decide) rfl (by omega) (by omega) ?_
    refine And.intro (fun hq => absurd hq (by decide)) (fun _ => ?_)
    refine hAt 2 _ _ _ _ _ _ ?_
    exact hP _ _ (((frM.rfl σ).wI (by omega)).wI (by omega)) (hI'.thr hv) rfl (fun q => by omega)
  · have c13 : ¬ x < nI 0 ∧ ¬ nI 7 < x := of_decide_eq_true (bI_ne hq)
    clear hq
    refine hAt 5 _ _ _ _ _ _ ?_
    refine s_in ?_
    refine And.intro (fun hq => ?_) (fun hq => ?_)
    · have c22 : ¬ y < nI 0 ∧ ¬ nI 2 < y := of_decide_eq_true (bI_ne hq)
      clear hq
      exact absurd ⟨in_up (by omega) c13, c22⟩ hx
    · have c22 : ¬ (¬ y < nI 0 ∧ ¬ nI 2 < y) := of_decide_eq_false (bI_eq hq)
      clear hq
      refine hAt 5 _ _ _ _ _ _ ?_
      refine s_bad1 (by decide) rfl (by omega) (by omega) ?_
      refine And.intro (fun hq => absurd hq (by decide)) (fun _ => ?_)
      refine hAt 2 _ _ _ _ _ _ ?_
      exact hP _ _ (((frM.rfl σ).wI (by omega)).wI (by omega)) (hI'.thr hv) rfl (fun q => by omega)
theorem MC_farmer_bad {seed x y : Int32} (hv : VA A) (hx : ¬ ((¬ x < nI 0 ∧ ¬ nI 7 ≤ x) ∧ (y = nI 0 ∨ y = nI 1))) : MC w (d + 6) 433 3464 m_Mo_farmer [.int seed, .int x, .int y] A 1 v A := by
  intro σ P X hI hP
  have hI' : IM A (wI σ 108 0 (nI 0)) := hI.thr hv
  have hn : kT (aSk A) 2 ≤ 8 := hv.2.2.1.2.2.1
  have hFF : kT (aSk A) 3 ≤ 12 := hv.2.2.1.2.2.2.1
  refine meth_ok k_Mo_farmer q_Mo_farmer rfl fun At hAt => ?_
  refine hAt 9 _ _ _ _ _ _ ?_
  refine s_in ?_
  refine And.intro (fun hq => ?_) (fun hq => ?_)
  · have c13 : ¬ (¬ x < nI 0 ∧ ¬ nI 6 < x) := of_decide_eq_false (bI_eq hq)
    clear hq
    refine hAt 5 _ _ _ _ _ _ ?_
    refine s_bad1 (by decide) rfl (by omega) (by omega) ?_
    refine And.intro (fun hq => absurd hq (by decide)) (fun _ => ?_)
    refine hAt 2 _ _ _ _ _ _ ?_
    exact hP _ _ (((frM.rfl σ).wI (by omega)).wI (by omega)) (hI'.thr hv) rfl (fun q => by omega)
  · have c13 : ¬ x < nI 0 ∧ ¬ nI 6 < x := of_decide_eq_true (bI_ne hq)
    clear hq
    refine hAt 5 _ _ _ _ _ _ ?_
    refine s_in ?_
    refine And.intro (fun hq => ?_) (fun hq => ?_)
    · have c22 : ¬ y < nI 0 ∧ ¬ nI 1 < y := of_decide_eq_true (bI_ne hq)
      clear hq
      exact absurd ⟨in_up (by omega) c13, in_01 c22⟩ hx
    · have c22 : ¬ (¬ y < nI 0 ∧ ¬ nI 1 < y) := of_decide_eq_false (bI_eq hq)
      clear hq
      refine hAt 5 _ _ _ _ _ _ ?_
      refine s_bad1 (by decide) rfl (by omega) (by omega) ?_
      refine And.intro (fun hq => absurd hq (by decide)) (fun _ => ?_)
      refine hAt 2 _ _ _ _ _ _ ?_
      exact hP _ _ (((frM.rfl σ).wI (by omega)).wI (by omega)) (hI'.thr hv) rfl (fun q => by omega)
theorem MC_after_bad1 {seed x y : Int32} (hv : VA A) (hx : x < nI 0 ∨ nI (kT (aSk A) 3) ≤ x) : MC w (d + 6) 433 3464 m_Mo_after [.int seed, .int x, .int y] A 1 v A := by
  intro σ P X hI hP
  have hI' : IM A (wI σ 108 0 (nI 0)) := hI.thr hv
  have hn : kT (aSk A) 2 ≤ 8 := hv.2.2.1.2.2.1
  have hFF : kT (aSk A) 3 ≤ 12 := hv.2.2.1.2.2.2.1
  refine meth_ok k_Mo_after q_Mo_after rfl fun At hAt => ?_
  refine hAt 8 _ _ _ _ _ _ ?_
  refine s_isField hI' ?_
  rw [decide_eq_false (in_bad (by omega) hx)]
  refine And.intro (fun hq => absurd hq (by decide)) (fun _ => ?_)
  refine hAt 5 _ _ _ _ _ _ ?_
  refine s_bad1 (by decide) rfl (by omega) (by omega) ?_
  refine And.intro (fun _ => ?_) (fun hq => absurd hq (by decide))
  refine hAt 2 _ _ _ _ _ _ ?_
  exact hP _ _ (((frM.rfl σ).wI (by omega)).wI (by omega)) (hI'.thr hv) rfl (fun q => by omega)
theorem MC_after_bad2 {seed y : Int32} {j : Nat} (hv : VA A) (hj : j < kT (aSk A) 3) (hx : y < nI 0 ∨ nI 3 ≤ y) : MC w (d + 6) 433 3464 m_Mo_after [.int seed, .int (nI j), .int y] A 2 v A := by
  intro σ P X hI hP
  have hI' : IM A (wI σ 108 0 (nI 0)) := hI.thr hv
  have hn : kT (aSk A) 2 ≤ 8 := hv.2.2.1.2.2.1
  have hFF : kT (aSk A) 3 ≤ 12 := hv.2.2.1.2.2.2.1
  refine meth_ok k_Mo_after q_Mo_after rfl fun At hAt => ?_
  refine hAt 8 _ _ _ _ _ _ ?_
  refine s_isField hI' ?_
  rw [decide_eq_true (in_ok hj (by omega))]
  refine And.intro (fun _ => ?_) (fun hq => absurd hq (by decide))
  refine hAt 4 _ _ _ _ _ _ ?_
  refine s_bad0 rfl rfl ?_
  refine And.intro (fun hq => absurd hq (by decide)) (fun _ => ?_)
  refine hAt 6 _ _ _ _ _ _ ?_
  refine s_in ?_
  refine And.intro (fun hq => ?_) (fun hq => ?_)
  · have c33 : ¬ y < nI 0 ∧ ¬ nI 2 < y := of_decide_eq_true (bI_ne hq)
    clear hq
    exact absurd c33 (in_bad' (n := 2) (by omega) hx)
  · have c33 : ¬ (¬ y < nI 0 ∧ ¬ nI 2 < y) := of_decide_eq_false (bI_eq hq)
    clear hq
    refine hAt 5 _ _ _ _ _ _ ?_
    refine s_bad1 (by decide) rfl (by omega) (by omega) ?_
    refine And.intro (fun hq => absurd hq (by decide)) (fun _ => ?_)
    refine hAt 2 _ _ _ _ _ _ ?_
    exact hP _ _ (((frM.rfl σ).wI (by omega)).wI (by omega)) (hI'.thr hv) rfl (fun q => by omega)
theorem MC_part_bad1 {seed x y z : Int32} (hv : VA A) (hx : x < nI 0 ∨ nI (kT (aSk A) 2) ≤ x) : MC w (d + 6) 433 3464 m_Mo_part [.int seed, .int x, .int y, .int z] A 1 v A := by
  intro σ P X hI hP
  have hI' : IM A (wI σ 108 0 (nI 0)) := hI.thr hv
  have hn : kT (aSk A) 2 ≤ 8 := hv.2.2.1.2.2.1
  have hFF : kT (aSk A) 3 ≤ 12 := hv.2.2.1.2.2.2.1
  refine meth_ok k_Mo_part q_Mo_part rfl fun At hAt => ?_
  refine hAt 8 _ _ _ _ _ _ ?_
  refine s_isCloud hI' ?_
  rw [decide_eq_false (in_bad (by omega) hx)]
  refine And.intro (fun hq => absurd hq (by decide)) (fun _ => ?_)
  refine hAt 5 _ _ _ _ _ _ ?_
  refine s_bad1 (by decide) rfl (by omega) (by omega) ?_
  refine And.intro (fun _ => ?_) (fun hq => absurd hq (by decide))
  refine hAt 2 _ _ _ _ _ _ ?_
  exact hP _ _ (((frM.rfl σ).wI (by omega)).wI (by omega)) (hI'.thr hv) rfl (fun q => by omega)
theorem MC_part_bad2 {seed y z : Int32} {j : Nat} (hv : VA A) (hj : j < kT (aSk A) 2) (hx : ¬ ((¬ y < nI 0 ∧ ¬ nI 50 ≤ y) ∧ (¬ z < nI 0 ∧ ¬ nI 8 ≤ z))) : MC w (d + 6) 433 3464 m_Mo_part [.int seed, .int (nI j), .int y, .int z] A 2 v A := by
  intro σ P X hI hP
  have hI' : IM A (wI σ 108 0 (nI 0)) := hI.thr hv
  have hn : kT (aSk A) 2 ≤ 8 := hv.2.2.1.2.2.1
  have hFF : kT (aSk A) 3 ≤ 12 := hv.2.2.1.2.2.2.1
  refine meth_ok k_Mo_part q_Mo_part rfl fun At hAt => ?_
  refine hAt 8 _ _ _ _ _ _ ?_
  refine s_isCloud hI' ?_
  rw [decide_eq_true (in_ok hj (by omega))]
  refine And.intro (fun _ => ?_) (fun hq => absurd hq (by decide))
  refine hAt 4 _ _ _ _ _ _ ?_
  refine s_bad0 rfl rfl ?_
  refine And.intro (fun hq => absurd hq (by decide)) (fun _ => ?_)
  refine hAt 4 _ _ _ _ _ _ ?_
  refine s_MisHour ?_
  refine And.intro (fun hq => ?_) (fun hq => ?_)
  · have c31 : ¬ (¬ y < nI 0 ∧ ¬ nI 49 < y) := of_decide_eq_false (bI_eq hq)
    clear hq
    refine hAt 5 _ _ _ _ _ _ ?_
    refine s_bad1 (by decide) rfl (by omega) (by omega) ?_
    refine And.intro (fun hq => absurd hq (by decide)) (fun _ => ?_)
    refine hAt 2 _ _ _ _ _ _ ?_
    exact hP _ _ (((frM.rfl σ).wI (by omega)).wI (by omega)) (hI'.thr hv) rfl (fun q => by omega)
  · have c31 : ¬ y < nI 0 ∧ ¬ nI 49 < y := of_decide_eq_true (bI_ne hq)
    clear hq
    refine hAt 5 _ _ _ _ _ _ ?_
    refine s_in ?_
    refine And.intro (fun hq => ?_) (fun hq => ?_)
    · have c42 : ¬ z < nI 0 ∧ ¬ nI 7 < z := of_decide_eq_true (bI_ne hq)
      clear hq
      exact absurd ⟨in_up (by omega) c31, in_up (by omega) c42⟩ hx
    · have c42 : ¬ (¬ z < nI 0 ∧ ¬ nI 7 < z) := of_decide_eq_false (bI_eq hq)
      clear hq
      refine hAt 5 _ _ _ _ _ _ ?_
      refine s_bad1 (by decide) rfl (by omega) (by omega) ?_
      refine And.intro (fun hq => absurd hq (by decide)) (fun _ => ?_)
      refine hAt 2 _ _ _ _ _ _ ?_
      exact hP _ _ (((frM.rfl σ).wI (by omega)).wI (by omega)) (hI'.thr hv) rfl (fun q => by omega)
theorem MC_cloud_bad1 {seed x y z : Int32} (hv : VA A) (hx : x < nI 0 ∨ nI (kT (aSk A) 2) ≤ x) : MC w (d + 6) 433 3464 m_Mo_cloud [.int seed, .int x, .int y, .int z] A 1 v A := by
  intro σ P X hI hP
  have hI' : IM A (wI σ 108 0 (nI 0)) := hI.thr hv
  have hn : kT (aSk A) 2 ≤ 8 := hv.2.2.1.2.2.1
  have hFF : kT (aSk A) 3 ≤ 12 := hv.2.2.1.2.2.2.1
  refine meth_ok k_Mo_cloud q_Mo_cloud rfl fun At hAt => ?_
  refine hAt 8 _ _ _ _ _ _ ?_
  refine s_isCloud hI' ?_
  rw [decide_eq_false (in_bad (by omega) hx)]
  refine And.intro (fun hq => absurd hq (by decide)) (fun _ => ?_)
  refine hAt 5 _ _ _ _ _ _ ?_
  refine s_bad1 (by decide) rfl (by omega) (by omega) ?_
  refine And.intro (fun _ => ?_) (fun hq => absurd hq (by decide))
  refine hAt 2 _ _ _ _ _ _ ?_
  exact hP _ _ (((frM.rfl σ).wI (by omega)).wI (by omega)) (hI'.thr hv) rfl (fun q => by omega)
theorem MC_cloud_bad2 {seed y z : Int32} {j : Nat} (hv : VA A) (hj : j < kT (aSk A) 2) (hx : ¬ ((¬ y < nI 0 ∧ ¬ nI 50 ≤ y) ∧ (¬ z < nI 0 ∧ ¬ nI 2 < z))) : MC w (d + 6) 433 3464 m_Mo_cloud [.int seed, .int (nI j), .int y, .int z] A 2 v A := by
  intro σ P X hI hP
  have hI' : IM A (wI σ 108 0 (nI 0)) := hI.thr hv
  have hn : kT (aSk A) 2 ≤ 8 := hv.2.2.1.2.2.1
  have hFF : kT (aSk A) 3 ≤ 12 := hv.2.2.1.2.2.2.1
  refine meth_ok k_Mo_cloud q_Mo_cloud rfl fun At hAt => ?_
  refine hAt 8 _ _ _ _ _ _ ?_
  refine s_isCloud hI' ?_
  rw [decide_eq_true (in_ok hj (by omega))]
  refine And.intro (fun _ => ?_) (fun hq => absurd hq (by decide))
  refine hAt 4 _ _ _ _ _ _ ?_
  refine s_bad0 rfl rfl ?_
  refine And.intro (fun hq => absurd hq (by decide)) (fun _ => ?_)
  refine hAt 4 _ _ _ _ _ _ ?_
  refine s_MisHour ?_
  refine And.intro (fun hq => ?_) (fun hq => ?_)
  · have c31 : ¬ (¬ y < nI 0 ∧ ¬ nI 49 < y) := of_decide_eq_false (bI_eq hq)
    clear hq
    refine hAt 5 _ _ _ _ _ _ ?_
    refine s_bad1 (by decide) rfl (by omega) (by omega) ?_
    refine And.intro (fun hq => absurd hq (by decide)) (fun _ => ?_)
    refine hAt 2 _ _ _ _ _ _ ?_
    exact hP _ _ (((frM.rfl σ).wI (by omega)).wI (by omega)) (hI'.thr hv) rfl (fun q => by omega)
  · have c31 : ¬ y < nI 0 ∧ ¬ nI 49 < y := of_decide_eq_true (bI_ne hq)
    clear hq
    refine hAt 5 _ _ _ _ _ _ ?_
    refine s_in ?_
    refine And.intro (fun hq => ?_) (fun hq => ?_)
    · have c41 : ¬ z < nI 0 ∧ ¬ nI 2 < z := of_decide_eq_true (bI_ne hq)
      clear hq
      exact absurd ⟨in_up (by omega) c31, c41⟩ hx
    · have c41 : ¬ (¬ z < nI 0 ∧ ¬ nI 2 < z) := of_decide_eq_false (bI_eq hq)
      clear hq
      refine hAt 5 _ _ _ _ _ _ ?_
      refine s_bad1 (by decide) rfl (by omega) (by omega) ?_
      refine And.intro (fun hq => absurd hq (by decide)) (fun _ => ?_)
      refine hAt 2 _ _ _ _ _ _ ?_
      exact hP _ _ (((frM.rfl σ).wI (by omega)).wI (by omega)) (hI'.thr hv) rfl (fun q => by omega)
theorem MC_account_ok {seed : Int32} {o i : Nat} (hv : VA A) (ho : o < 8) (hi : i < 3) : MC w (d + 6) 433 3464 m_Mo_account [.int seed, .int (nI o), .int (nI i)] A 0 (.int (acA A seed o i)) A := by
  intro σ P X hI hP
  have hI' : IM A (wI σ 108 0 (nI 0)) := hI.thr hv
  have hn : kT (aSk A) 2 ≤ 8 := hv.2.2.1.2.2.1
  have hFF : kT (aSk A) 3 ≤ 12 := hv.2.2.1.2.2.2.1
  refine meth_ok k_Mo_account q_Mo_account rfl fun At hAt => ?_
  refine hAt 9 _ _ _ _ _ _ ?_
  refine s_in ?_
  rw [decide_eq_true ⟨nI_nlt (Nat.zero_le _) (by omega), nI_nlt (by omega) (by omega)⟩]
  refine And.intro (fun hq => absurd hq (by decide)) (fun _ => ?_)
  refine hAt 5 _ _ _ _ _ _ ?_
  refine s_in ?_
  rw [decide_eq_true ⟨nI_nlt (Nat.zero_le _) (by omega), nI_nlt (by omega) (by omega)⟩]
  refine And.intro (fun _ => ?_) (fun hq => absurd hq (by decide))
  refine hAt 4 _ _ _ _ _ _ ?_
  refine s_bad0 rfl rfl ?_
  refine And.intro (fun _ => ?_) (fun hq => absurd hq (by decide))
  refine hAt 8 _ _ _ _ _ _ ?_
  refine callG 433 3464 (by omega) (by omega) (s_goes hI'.sk hI'.1 hI'.bk.1 (obA hv) hv.2.2.1 (by omega) (fun τ hc => ?_))
  have hc : eM (wI σ 108 0 (nI 0)) (aSk A) (fun _ => 49) (dE A seed 49) τ := hc
  obtain ⟨f1, f2, f3⟩ := hc.1.im hI' hv
  have g1 := ((frM.rfl σ).wI (a := 108) (k := 0) (x := nI 0) (by omega)).trans f1
  refine And.intro (mx_r (q := 322) (n := 8) (k := 3) rfl rfl (show o < 8 by omega)) (And.intro (Or.inl rfl) ?_)
  refine Eq.mpr (congrArg (fun xq : Nat => At 52 [.ref (108), .int (seed), .int (nI o), .int (nI i)] [.ref xq] τ (0 + 433) (0 + 3464)) (rwE rfl (by omega))) ?_
  refine hAt 2 _ _ _ _ _ _ ?_
  refine And.intro (mx_e (q := 322) (n := 8) (k := 3) (j := o) (i := i) rfl (by omega) (by omega) rfl) ?_
  refine Eq.mpr (congrArg (fun xq : Int32 => At 54 [.ref (108), .int (seed), .int (nI o), .int (nI i)] [.int xq] τ (0 + 433) (0 + 3464)) (show rI τ (322 + 1 + o) (nI i).toNatClampNeg = rI τ (322 + 1 + o) i from (ldE rfl (by omega) rfl))) ?_
  refine hAt 1 _ _ _ _ _ _ ?_
  exact hP τ _ g1 f2 f3 (fun _ => congrArg Value.int (hc.acc o i ho hi))
theorem MC_farmer_ok {seed : Int32} {f i : Nat} (hv : VA A) (hf : f < 7) (hi : i < 2) : MC w (d + 6) 433 3464 m_Mo_farmer [.int seed, .int (nI f), .int (nI i)] A 0 (.int (fmA A seed f i)) A := by
  intro σ P X hI hP
  have hI' : IM A (wI σ 108 0 (nI 0)) := hI.thr hv
  have hn : kT (aSk A) 2 ≤ 8 := hv.2.2.1.2.2.1
  have hFF : kT (aSk A) 3 ≤ 12 := hv.2.2.1.2.2.2.1
  refine meth_ok k_Mo_farmer q_Mo_farmer rfl fun At hAt => ?_
  refine hAt 9 _ _ _ _ _ _ ?_
  refine s_in ?_
  rw [decide_eq_true ⟨nI_nlt (Nat.zero_le _) (by omega), nI_nlt (by omega) (by omega)⟩]
  refine And.intro (fun hq => absurd hq (by decide)) (fun _ => ?_)
  refine hAt 5 _ _ _ _ _ _ ?_
  refine s_in ?_
  rw [decide_eq_true ⟨nI_nlt (Nat.zero_le _) (by omega), nI_nlt (by omega) (by omega)⟩]
  refine And.intro (fun _ => ?_) (fun hq => absurd hq (by decide))
  refine hAt 4 _ _ _ _ _ _ ?_
  refine s_bad0 rfl rfl ?_
  refine And.intro (fun _ => ?_) (fun hq => absurd hq (by decide))
  refine hAt 6 _ _ _ _ _ _ ?_
  refine callG 433 3464 (by omega) (by omega) (s_goes hI'.sk hI'.1 hI'.bk.1 (obA hv) hv.2.2.1 (by omega) (fun τ hc => ?_))
  have hc : eM (wI σ 108 0 (nI 0)) (aSk A) (fun _ => 49) (dE A seed 49) τ := hc
  obtain ⟨f1, f2, f3⟩ := hc.1.im hI' hv
  have g1 := ((frM.rfl σ).wI (a := 108) (k := 0) (x := nI 0) (by omega)).trans f1
  refine And.intro (fun hq => ?_) (fun hq => ?_)
  · have c47 : ¬ i = 0 := fun zq => hq ((eqN (a := i) (b := 0) rfl rfl (by omega) (by omega)).mpr zq)
    clear hq
    refine hAt 4 _ _ _ _ _ _ ?_
    refine And.intro (aOKx (n := 8) (j := f) rfl (by decide) rfl rfl (by omega) (by omega)) ?_
    refine Eq.mpr (congrArg (fun xq : Int32 => At 65 [.ref (108), .int (seed), .int (nI f), .int (nI i)] [.int xq] τ (0 + 433) (0 + 3464)) (show rI τ 335 (nI f).toNatClampNeg = rI τ 335 f from (ldE rfl (by omega) rfl))) ?_
    refine hAt 1 _ _ _ _ _ _ ?_
    have e : i = 1 := by omega
    subst e
    exact hP τ _ g1 f2 f3 (fun _ => congrArg Value.int (hc.owe f hf))
  · have c47 : i = 0 := (eqN (a := i) (b := 0) rfl rfl (by omega) (by omega)).mp hq
    clear hq
    refine hAt 4 _ _ _ _ _ _ ?_
    refine And.intro (aOKx (n := 8) (j := f) rfl (by decide) rfl rfl (by omega) (by omega)) ?_
    refine Eq.mpr (congrArg (fun xq : Int32 => At 56 [.ref (108), .int (seed), .int (nI f), .int (nI i)] [.int xq] τ (0 + 433) (0 + 3464)) (show rI τ 334 (nI f).toNatClampNeg = rI τ 334 f from (ldE rfl (by omega) rfl))) ?_
    refine hAt 2 _ _ _ _ _ _ ?_
    have e : i = 0 := by omega
    subst e
    exact hP τ _ g1 f2 f3 (fun _ => congrArg Value.int (hc.pay f hf))
theorem MC_after_ok {seed : Int32} {j i : Nat} (hv : VA A) (hj : j < kT (aSk A) 3) (hi : i < 3) : MC w (d + 6) 433 3464 m_Mo_after [.int seed, .int (nI j), .int (nI i)] A 0 (.int (afA A seed j i)) A := by
  intro σ P X hI hP
  have hI' : IM A (wI σ 108 0 (nI 0)) := hI.thr hv
  have hn : kT (aSk A) 2 ≤ 8 := hv.2.2.1.2.2.1
  have hFF : kT (aSk A) 3 ≤ 12 := hv.2.2.1.2.2.2.1
  refine meth_ok k_Mo_after q_Mo_after rfl fun At hAt => ?_
  refine hAt 8 _ _ _ _ _ _ ?_
  refine s_isField hI' ?_
  rw [decide_eq_true (in_ok hj (by omega))]
  refine And.intro (fun _ => ?_) (fun hq => absurd hq (by decide))
  refine hAt 4 _ _ _ _ _ _ ?_
  refine s_bad0 rfl rfl ?_
  refine And.intro (fun hq => absurd hq (by decide)) (fun _ => ?_)
  refine hAt 6 _ _ _ _ _ _ ?_
  refine s_in ?_
  rw [decide_eq_true ⟨nI_nlt (Nat.zero_le _) (by omega), nI_nlt (by omega) (by omega)⟩]
  refine And.intro (fun _ => ?_) (fun hq => absurd hq (by decide))
  refine hAt 4 _ _ _ _ _ _ ?_
  refine s_bad0 rfl rfl ?_
  refine And.intro (fun _ => ?_) (fun hq => absurd hq (by decide))
  refine hAt 6 _ _ _ _ _ _ ?_
  refine callG 433 3464 (by omega) (by omega) (s_goes hI'.sk hI'.1 hI'.bk.1 (obA hv) hv.2.2.1 (by omega) (fun τ hc => ?_))
  have hc : eM (wI σ 108 0 (nI 0)) (aSk A) (fun _ => 49) (dE A seed 49) τ := hc
  obtain ⟨f1, f2, f3⟩ := hc.1.im hI' hv
  have g1 := ((frM.rfl σ).wI (a := 108) (k := 0) (x := nI 0) (by omega)).trans f1
  refine And.intro (fun hq => ?_) (fun hq => ?_)
  · have c58 : ¬ i = 0 := fun zq => hq ((eqN (a := i) (b := 0) rfl rfl (by omega) (by omega)).mpr zq)
    clear hq
    refine hAt 3 _ _ _ _ _ _ ?_
    refine And.intro (fun hq => ?_) (fun hq => ?_)
    · have c72 : ¬ i = 1 := fun zq => hq ((eqN (a := i) (b := 1) rfl rfl (by omega) (by omega)).mpr zq)
      clear hq
      refine hAt 4 _ _ _ _ _ _ ?_
      refine And.intro (aOKx (n := 12) (j := j) rfl (by decide) rfl rfl (by omega) (by omega)) ?_
      refine Eq.mpr (congrArg (fun xq : Int32 => At 90 [.ref (108), .int (seed), .int (nI j), .int (nI i)] [.int xq] τ (0 + 433) (0 + 3464)) (show rI τ 333 (nI j).toNatClampNeg = rI τ 333 j from (ldE rfl (by omega) rfl))) ?_
      refine hAt 1 _ _ _ _ _ _ ?_
      have e : i = 2 := by omega
      subst e
      exact hP τ _ g1 f2 f3 (fun _ => congrArg Value.int (hc.hai j hj))
    · have c72 : i = 1 := (eqN (a := i) (b := 1) rfl rfl (by omega) (by omega)).mp hq
      clear hq
      refine hAt 4 _ _ _ _ _ _ ?_
      refine And.intro (aOKx (n := 12) (j := j) rfl (by decide) rfl rfl (by omega) (by omega)) ?_
      refine Eq.mpr (congrArg (fun xq : Int32 => At 81 [.ref (108), .int (seed), .int (nI j), .int (nI i)] [.int xq] τ (0 + 433) (0 + 3464)) (show rI τ 332 (nI j).toNatClampNeg = rI τ 332 j from (ldE rfl (by omega) rfl))) ?_
      refine hAt 2 _ _ _ _ _ _ ?_
      have e : i = 1 := by omega
      subst e
      exact hP τ _ g1 f2 f3 (fun _ => congrArg Value.int (hc.flo j hj))
  · have c58 : i = 0 := (eqN (a := i) (b := 0) rfl rfl (by omega) (by omega)).mp hq
    clear hq
    refine hAt 4 _ _ _ _ _ _ ?_
    refine And.intro (aOKx (n := 12) (j := j) rfl (by decide) rfl rfl (by omega) (by omega)) ?_
    refine Eq.mpr (congrArg (fun xq : Int32 => At 67 [.ref (108), .int (seed), .int (nI j), .int (nI i)] [.int xq] τ (0 + 433) (0 + 3464)) (show rI τ 331 (nI j).toNatClampNeg = rI τ 331 j from (ldE rfl (by omega) rfl))) ?_
    refine hAt 2 _ _ _ _ _ _ ?_
    have e : i = 0 := by omega
    subst e
    exact hP τ _ g1 f2 f3 (fun _ => congrArg Value.int (hc.thi j hj))
theorem MC_part_ok {seed : Int32} {j h o : Nat} (hv : VA A) (hj : j < kT (aSk A) 2) (hh : h < 50) (ho : o < 8) : MC w (d + 6) 433 3464 m_Mo_part [.int seed, .int (nI j), .int (nI h), .int (nI o)] A 0 (.int (ptA A seed j h o)) A := by
  intro σ P X hI hP
  have hI' : IM A (wI σ 108 0 (nI 0)) := hI.thr hv
  have hn : kT (aSk A) 2 ≤ 8 := hv.2.2.1.2.2.1
  have hFF : kT (aSk A) 3 ≤ 12 := hv.2.2.1.2.2.2.1
  refine meth_ok k_Mo_part q_Mo_part rfl fun At hAt => ?_
  refine hAt 8 _ _ _ _ _ _ ?_
  refine s_isCloud hI' ?_
  rw [decide_eq_true (in_ok hj (by omega))]
  refine And.intro (fun _ => ?_) (fun hq => absurd hq (by decide))
  refine hAt 4 _ _ _ _ _ _ ?_
  refine s_bad0 rfl rfl ?_
  refine And.intro (fun hq => absurd hq (by decide)) (fun _ => ?_)
  refine hAt 4 _ _ _ _ _ _ ?_
  refine s_MisHour ?_
  rw [decide_eq_true ⟨nI_nlt (Nat.zero_le _) (by omega), nI_nlt (by omega) (by omega)⟩]
  refine And.intro (fun hq => absurd hq (by decide)) (fun _ => ?_)
  refine hAt 5 _ _ _ _ _ _ ?_
  refine s_in ?_
  rw [decide_eq_true ⟨nI_nlt (Nat.zero_le _) (by omega), nI_nlt (by omega) (by omega)⟩]
  refine And.intro (fun _ => ?_) (fun hq => absurd hq (by decide))
  refine hAt 4 _ _ _ _ _ _ ?_
  refine s_bad0 rfl rfl ?_
  refine And.intro (fun _ => ?_) (fun hq => absurd hq (by decide))
  refine hAt 8 _ _ _ _ _ _ ?_
  refine callG 433 3464 (by omega) (by omega) (s_goes hI'.sk hI'.1 hI'.bk.1 (obA hv) hv.2.2.1 (by omega) (fun τ hc => ?_))
  have hc : eM (wI σ 108 0 (nI 0)) (aSk A) (fun _ => h) (dE A seed h) τ := hc
  obtain ⟨f1, f2, f3⟩ := hc.1.im hI' hv
  have g1 := ((frM.rfl σ).wI (a := 108) (k := 0) (x := nI 0) (by omega)).trans f1
  refine And.intro (aOKx (n := 8) (j := j) rfl (by decide) rfl rfl (by omega) (by omega)) ?_
  refine Eq.mpr (congrArg (fun xq : Int32 => At 71 [.ref (108), .int (seed), .int (nI j), .int (nI h), .int (nI o)] [.int xq] τ (0 + 433) (0 + 3464)) (show rI τ 238 (nI j).toNatClampNeg = bI (decide (gN (dE A seed h) 0 j = 1)) from (ldE rfl (by omega) ((hc.2.1 j hj).1)))) ?_
  refine hAt 1 _ _ _ _ _ _ ?_
  refine And.intro (fun hq => ?_) (fun hq => ?_)
  · have c71 : ¬ (gN (dE A seed h) 0 j = 1) := of_decide_eq_false (bI_eq hq)
    clear hq
    refine hAt 2 _ _ _ _ _ _ ?_
    exact hP τ _ g1 f2 f3 (fun _ => congrArg Value.int (by rw [ptA, if_neg c71]))
  · have c71 : gN (dE A seed h) 0 j = 1 := of_decide_eq_true (bI_ne hq)
    clear hq
    refine hAt 4 _ _ _ _ _ _ ?_
    refine And.intro (mx_r (q := 244) (n := 8) (k := 8) rfl rfl (show j < 8 by omega)) (And.intro (Or.inl rfl) ?_)
    refine Eq.mpr (congrArg (fun xq : Nat => At 80 [.ref (108), .int (seed), .int (nI j), .int (nI h), .int (nI o)] [.ref xq] τ (0 + 433) (0 + 3464)) (rwE rfl (by omega))) ?_
    refine hAt 2 _ _ _ _ _ _ ?_
    refine And.intro (mx_e (q := 244) (n := 8) (k := 8) (j := j) (i := o) rfl (by omega) (by omega) rfl) ?_
    refine Eq.mpr (congrArg (fun xq : Int32 => At 83 [.ref (108), .int (seed), .int (nI j), .int (nI h), .int (nI o)] [.int xq] τ (0 + 433) (0 + 3464)) (show rI τ (244 + 1 + j) (nI o).toNatClampNeg = rI τ (244 + 1 + j) o from (ldE rfl (by omega) rfl))) ?_
    refine hAt 2 _ _ _ _ _ _ ?_
    exact hP τ _ g1 f2 f3 (fun _ => congrArg Value.int ((hc.par j o hj c71 ho).trans (by rw [ptA, if_pos c71])))
theorem MC_cloud_ok {seed : Int32} {j h i : Nat} (hv : VA A) (hj : j < kT (aSk A) 2) (hh : h < 50) (hi : i < 3) : MC w (d + 6) 433 3464 m_Mo_cloud [.int seed, .int (nI j), .int (nI h), .int (nI i)] A 0 (.int (clA A seed j h i)) A := by
  intro σ P X hI hP
  have hI' : IM A (wI σ 108 0 (nI 0)) := hI.thr hv
  have hn : kT (aSk A) 2 ≤ 8 := hv.2.2.1.2.2.1
  have hFF : kT (aSk A) 3 ≤ 12 := hv.2.2.1.2.2.2.1
  refine meth_ok k_Mo_cloud q_Mo_cloud rfl fun At hAt => ?_
  refine hAt 8 _ _ _ _ _ _ ?_
  refine s_isCloud hI' ?_
  rw [decide_eq_true (in_ok hj (by omega))]
  refine And.intro (fun _ => ?_) (fun hq => absurd hq (by decide))
  refine hAt 4 _ _ _ _ _ _ ?_
  refine s_bad0 rfl rfl ?_
  refine And.intro (fun hq => absurd hq (by decide)) (fun _ => ?_)
  refine hAt 4 _ _ _ _ _ _ ?_
  refine s_MisHour ?_
  rw [decide_eq_true ⟨nI_nlt (Nat.zero_le _) (by omega), nI_nlt (by omega) (by omega)⟩]
  refine And.intro (fun hq => absurd hq (by decide)) (fun _ => ?_)
  refine hAt 5 _ _ _ _ _ _ ?_
  refine s_in ?_
  rw [decide_eq_true ⟨nI_nlt (Nat.zero_le _) (by omega), nI_nlt (by omega) (by omega)⟩]
  refine And.intro (fun _ => ?_) (fun hq => absurd hq (by decide))
  refine hAt 4 _ _ _ _ _ _ ?_
  refine s_bad0 rfl rfl ?_
  refine And.intro (fun _ => ?_) (fun hq => absurd hq (by decide))
  refine hAt 8 _ _ _ _ _ _ ?_
  refine callG 433 3464 (by omega) (by omega) (s_goes hI'.sk hI'.1 hI'.bk.1 (obA hv) hv.2.2.1 (by omega) (fun τ hc => ?_))
  have hc : eM (wI σ 108 0 (nI 0)) (aSk A) (fun _ => h) (dE A seed h) τ := hc
  obtain ⟨f1, f2, f3⟩ := hc.1.im hI' hv
  have g1 := ((frM.rfl σ).wI (a := 108) (k := 0) (x := nI 0) (by omega)).trans f1
  refine And.intro (aOKx (n := 8) (j := j) rfl (by decide) rfl rfl (by omega) (by omega)) ?_
  refine Eq.mpr (congrArg (fun xq : Int32 => At 70 [.ref (108), .int (seed), .int (nI j), .int (nI h), .int (nI i)] [.int xq] τ (0 + 433) (0 + 3464)) (show rI τ 238 (nI j).toNatClampNeg = bI (decide (gN (dE A seed h) 0 j = 1)) from (ldE rfl (by omega) ((hc.2.1 j hj).1)))) ?_
  refine hAt 1 _ _ _ _ _ _ ?_
  refine And.intro (fun hq => ?_) (fun hq => ?_)
  · have c70 : gN (dE A seed h) 0 j = 1 := of_decide_eq_true (bI_ne hq)
    clear hq
    have hdv := dRun_dv (seed := seed) hv.2.2.1 (fun i hi => ((obA hv).2 i hi).2.1) (h + 1)
    have hb8 : ∀ o, o < 8 → gN (dE A seed h) (8 + j) o ≤ 7992 := fun o ho => Nat.le_trans (gN_rs ho) (hdv.rs_le hv.2.2.1 (by omega) (by omega))
    obtain ⟨q, pq⟩ : ∃ q, ps (aSk A) j h = some q := by
      cases e : ps (aSk A) j h with
      | none => exact absurd e (dE_pk hv hj c70)
      | some q => exact ⟨q, rfl⟩
    have xy := (hc.2.1 j hj).2 c70 q pq
    refine hAt 2 _ _ _ _ _ _ ?_
    refine And.intro (fun hq => ?_) (fun hq => ?_)
    · have c77 : ¬ i = 0 := fun zq => hq ((eqN (a := i) (b := 0) rfl rfl (by omega) (by omega)).mpr zq)
      clear hq
      refine hAt 3 _ _ _ _ _ _ ?_
      refine And.intro (fun hq => ?_) (fun hq => ?_)
      · have c95 : ¬ i = 1 := fun zq => hq ((eqN (a := i) (b := 1) rfl rfl (by omega) (by omega)).mpr zq)
        clear hq
        refine hAt 5 _ _ _ _ _ _ ?_
        refine And.intro (aOKx (n := 8) (j := j) rfl (by decide) rfl rfl (by omega) (by omega)) ?_
        refine Eq.mpr (congrArg (fun xq : Int32 => At 118 [.ref (108), .int (seed), .int (nI j), .int (nI h), .int (nI i)] [.int xq, .int (nI 100)] τ (0 + 433) (0 + 3464)) (show rI τ 239 (nI j).toNatClampNeg = nI q.1 from (ldE rfl (by omega) xy.1))) ?_
        refine hAt 5 _ _ _ _ _ _ ?_
        refine And.intro (aOKx (n := 8) (j := j) rfl (by decide) rfl rfl (by omega) (by omega)) ?_
        refine Eq.mpr (congrArg (fun xq : Int32 => At 125 [.ref (108), .int (seed), .int (nI j), .int (nI h), .int (nI i)] [.int xq, .int (nI 100 * nI q.1)] τ (0 + 433) (0 + 3464)) (show rI τ 240 (nI j).toNatClampNeg = nI q.2 from (ldE rfl (by omega) xy.2))) ?_
        refine hAt 2 _ _ _ _ _ _ ?_
        refine retE (adE (mlE rfl rfl) rfl) ?_
        exact hP τ _ g1 f2 f3 (fun _ => congrArg Value.int (by rw [clA, if_pos c70, if_neg (by omega), if_neg (by omega), pth, pq]))
      · have c95 : i = 1 := (eqN (a := i) (b := 1) rfl rfl (by omega) (by omega)).mp hq
        clear hq
        refine hAt 4 _ _ _ _ _ _ ?_
        refine And.intro (mx_r (q := 244) (n := 8) (k := 8) rfl rfl (show j < 8 by omega)) (And.intro (Or.inl rfl) ?_)
        refine Eq.mpr (congrArg (fun xq : Nat => At 104 [.ref (108), .int (seed), .int (nI j), .int (nI h), .int (nI i)] [.ref xq] τ (0 + 433) (0 + 3464)) (rwE rfl (by omega))) ?_
        refine hAt 3 _ _ _ _ _ _ ?_
        refine s_most8 (f := gN (dE A seed h) (8 + j)) (mx_row (q := 244) (n := 8) (k := 8) rfl (by omega)) (fun i hi => hc.par j i hj c70 hi) (fun i hi => by have := hb8 i hi; omega) ?_
        rw [show moI (fun o => nI (gN (dE A seed h) (8 + j) o)) 8 = moR (dE A seed h) (8 + j) from rfl]
        exact hP τ _ g1 f2 f3 (fun _ => congrArg Value.int (by rw [clA, if_pos c70, if_neg (by omega), if_pos (by omega)]))
    · have c77 : i = 0 := (eqN (a := i) (b := 0) rfl rfl (by omega) (by omega)).mp hq
      clear hq
      refine hAt 4 _ _ _ _ _ _ ?_
      refine And.intro (mx_r (q := 244) (n := 8) (k := 8) rfl rfl (show j < 8 by omega)) (And.intro (Or.inl rfl) ?_)
      refine Eq.mpr (congrArg (fun xq : Nat => At 86 [.ref (108), .int (seed), .int (nI j), .int (nI h), .int (nI i)] [.ref xq] τ (0 + 433) (0 + 3464)) (rwE rfl (by omega))) ?_
      refine hAt 3 _ _ _ _ _ _ ?_
      refine s_Mpsum hc hn hj c70 ?_
      exact hP τ _ g1 f2 f3 (fun _ => congrArg Value.int (by rw [clA, if_pos c70, if_pos (by omega)]))
  · have c70 : ¬ (gN (dE A seed h) 0 j = 1) := of_decide_eq_false (bI_eq hq)
    clear hq
    refine hAt 2 _ _ _ _ _ _ ?_
    exact hP τ _ g1 f2 f3 (fun _ => congrArg Value.int (by rw [clA, if_neg c70]))
theorem MC_day_ok {seed : Int32} {i : Nat} (hv : VA A) (hi : i < 8) : MC w (d + 6) 433 3464 m_Mo_day [.int seed, .int (nI i)] A 0 (.int (dyA A seed i)) A := by
  intro σ P X hI hP
  have hI' : IM A (wI σ 108 0 (nI 0)) := hI.thr hv
  have hn : kT (aSk A) 2 ≤ 8 := hv.2.2.1.2.2.1
  have hFF : kT (aSk A) 3 ≤ 12 := hv.2.2.1.2.2.2.1
  have hG : kT (aSk A) 4 ≤ 3 := hv.2.2.1.2.2.2.2.1
  refine meth_ok k_Mo_day q_Mo_day rfl fun At hAt => ?_
  obtain ⟨D, eD⟩ : ∃ D, D = dE A seed 49 := ⟨_, rfl⟩
  have l2 : ∀ τ, eM (wI σ 108 0 (nI 0)) (aSk A) (fun _ => 49) D τ → ∀ g, g ≤ kT (aSk A) 4 → At 92 [.ref 108, .int seed, .int (nI i), .int (nI (skyW (aSk A) D (kT (aSk A) 2))), .int (nI (sumN (fun g => rs D (16 + g)) g)), .int (nI g)] [] τ 433 3464 := by
    intro τ hc
    obtain ⟨f1, f2, f3⟩ := hc.1.im hI' hv
    have g1 := ((frM.rfl σ).wI (a := 108) (k := 0) (x := nI 0) (by omega)).trans f1
    have hS := f2.sk
    refine upto fun g hg ih => ?_
    have fin : ∀ x, x = dyA A seed i → P (some (.int x)) τ := fun x e => hP τ _ g1 f2 f3 (fun _ => congrArg Value.int e)
    unfold dyA at fin
    rw [← eD] at fin
    refine hAt 5 _ _ _ _ _ _ ?_
    refine And.intro (aOKx (n := 11) (j := 4) rfl (by decide) rfl rfl (by omega) (by omega)) ?_
    refine Eq.mpr (congrArg (fun xq : Int32 => At 100 [.ref (108), .int (seed), .int (nI i), .int (nI (skyW (aSk A) D (kT (aSk A) 2))), .int (nI (sumN (fun g => rs D (16 + g)) g)), .int (nI g)] [.int xq, .int (nI g)] τ 433 3464) (show rI τ 111 (nI 4).toNatClampNeg = nI (kT (aSk A) 4) from (ldE rfl (by omega) (hS.1 4 (by omega))))) ?_
    refine hAt 1 _ _ _ _ _ _ ?_
    refine And.intro (fun hq => ?_) (fun hq => ?_)
    · have c100 : kT (aSk A) 4 ≤ g := (leN (a := kT (aSk A) 4) (b := g) rfl rfl (by omega) (by omega)).mp hq
      clear hq
      refine hAt 2 _ _ _ _ _ _ ?_
      refine And.intro (And.intro (fun hq => ?_) (And.intro (fun hq => ?_) (And.intro (fun hq => ?_) (And.intro (fun hq => ?_) (And.intro (fun hq => ?_) (And.intro (fun hq => ?_) (And.intro (fun hq => ?_) (trivial)))))))) (fun hq => ?_)
      · have c125 : i = 0 := (eqN rfl rfl (by omega) (by omega)).mp hq
        clear hq
        refine hAt 2 _ _ _ _ _ _ ?_
        subst c125
        exact fin _ rfl
      · have c125 : i = 1 := (eqN rfl rfl (by omega) (by omega)).mp hq
        clear hq
        refine hAt 2 _ _ _ _ _ _ ?_
        refine Eq.mpr (congrArg (fun xq : Int32 => At 174 [.ref (108), .int (seed), .int (nI i), .int (nI (skyW (aSk A) D (kT (aSk A) 2))), .int (nI (sumN (fun g => rs D (16 + g)) g)), .int (nI g)] [.int xq] τ 433 3464) (show rI τ 108 43 = gD D 0 1 from hc.gon)) ?_
        refine hAt 1 _ _ _ _ _ _ ?_
        subst c125
        exact fin _ rfl
      · have c125 : i = 2 := (eqN rfl rfl (by omega) (by omega)).mp hq
        clear hq
        refine hAt 2 _ _ _ _ _ _ ?_
        refine Eq.mpr (congrArg (fun xq : Int32 => At 179 [.ref (108), .int (seed), .int (nI i), .int (nI (skyW (aSk A) D (kT (aSk A) 2))), .int (nI (sumN (fun g => rs D (16 + g)) g)), .int (nI g)] [.int xq] τ 433 3464) (show rI τ 108 44 = gD D 0 3 from hc.tak)) ?_
        refine hAt 1 _ _ _ _ _ _ ?_
        subst c125
        exact fin _ rfl
      · have c125 : i = 3 := (eqN rfl rfl (by omega) (by omega)).mp hq
        clear hq
        refine hAt 2 _ _ _ _ _ _ ?_
        refine Eq.mpr (congrArg (fun xq : Int32 => At 184 [.ref (108), .int (seed), .int (nI i), .int (nI (skyW (aSk A) D (kT (aSk A) 2))), .int (nI (sumN (fun g => rs D (16 + g)) g)), .int (nI g)] [.int xq] τ 433 3464) (show rI τ 108 45 = gD D 0 4 from hc.fld)) ?_
        refine hAt 1 _ _ _ _ _ _ ?_
        subst c125
        exact fin _ rfl
      · have c125 : i = 4 := (eqN rfl rfl (by omega) (by omega)).mp hq
        clear hq
        refine hAt 2 _ _ _ _ _ _ ?_
        refine Eq.mpr (congrArg (fun xq : Int32 => At 189 [.ref (108), .int (seed), .int (nI i), .int (nI (skyW (aSk A) D (kT (aSk A) 2))), .int (nI (sumN (fun g => rs D (16 + g)) g)), .int (nI g)] [.int xq] τ 433 3464) (show rI τ 108 46 = gD D 0 5 from hc.was)) ?_
        refine hAt 1 _ _ _ _ _ _ ?_
        subst c125
        exact fin _ rfl
      · have c125 : i = 5 := (eqN rfl rfl (by omega) (by omega)).mp hq
        clear hq
        refine hAt 2 _ _ _ _ _ _ ?_
        subst c125
        have e : g = kT (aSk A) 4 := by omega
        subst e
        exact fin _ rfl
      · have c125 : i = 6 := (eqN rfl rfl (by omega) (by omega)).mp hq
        clear hq
        refine hAt 2 _ _ _ _ _ _ ?_
        refine Eq.mpr (congrArg (fun xq : Int32 => At 197 [.ref (108), .int (seed), .int (nI i), .int (nI (skyW (aSk A) D (kT (aSk A) 2))), .int (nI (sumN (fun g => rs D (16 + g)) g)), .int (nI g)] [.int xq] τ 433 3464) (show rI τ 108 47 = gD D 0 2 from hc.joi)) ?_
        refine hAt 1 _ _ _ _ _ _ ?_
        subst c125
        exact fin _ rfl
      · have c125 : i < 0 ∨ 7 ≤ i := hq.imp (fun z => (ltN rfl rfl (by omega) (by omega)).mp z) (fun z => (leN rfl rfl (by omega) (by omega)).mp z)
        clear hq
        refine hAt 2 _ _ _ _ _ _ ?_
        refine Eq.mpr (congrArg (fun xq : Int32 => At 202 [.ref (108), .int (seed), .int (nI i), .int (nI (skyW (aSk A) D (kT (aSk A) 2))), .int (nI (sumN (fun g => rs D (16 + g)) g)), .int (nI g)] [.int xq] τ 433 3464) (show rI τ 108 48 = gD D 0 6 from hc.hls)) ?_
        refine hAt 1 _ _ _ _ _ _ ?_
        have e : i = 7 := by omega
        subst e
        exact fin _ rfl
    · have c100 : g < kT (aSk A) 4 := Nat.lt_of_not_le (fun zq => hq ((leN (a := kT (aSk A) 4) (b := g) rfl rfl (by omega) (by omega)).mpr zq))
      clear hq
      refine hAt 5 _ _ _ _ _ _ ?_
      refine And.intro (mx_r (q := 318) (n := 3) (k := 8) rfl rfl (show g < 3 by omega)) (And.intro (Or.inl rfl) ?_)
      refine Eq.mpr (congrArg (fun xq : Nat => At 112 [.ref (108), .int (seed), .int (nI i), .int (nI (skyW (aSk A) D (kT (aSk A) 2))), .int (nI (sumN (fun g => rs D (16 + g)) g)), .int (nI g)] [.ref xq, .int (nI (sumN (fun g => rs D (16 + g)) g))] τ 433 3464) (rwE rfl (by omega))) ?_
      refine hAt 5 _ _ _ _ _ _ ?_
      refine s_sum8 (f := gN D (16 + g)) (mx_row (q := 318) (n := 3) (k := 8) rfl (by omega)) (fun i hi => hc.kep g i (by omega) hi) ?_
      refine Eq.mpr (congrArg (fun xq : Int32 => At 92 [.ref (108), .int (seed), .int (nI i), .int (nI (skyW (aSk A) D (kT (aSk A) 2))), .int xq, .int (nI g + nI 1)] [] τ 433 3464) (show (nI (sumN (fun g => rs D (16 + g)) g)) + (nI (rs D (16 + g))) = nI ((sumN (fun g => rs D (16 + g)) g) + (rs D (16 + g))) from (adE rfl rfl))) ?_
      refine Eq.mpr (congrArg (fun xq : Int32 => At 92 [.ref (108), .int (seed), .int (nI i), .int (nI (skyW (aSk A) D (kT (aSk A) 2))), .int (nI ((sumN (fun g => rs D (16 + g)) g) + (rs D (16 + g)))), .int xq] [] τ 433 3464) (show nI g + nI 1 = nI (g + 1) from (adE rfl rfl))) ?_
      exact ih c100
  have l1 : ∀ τ, eM (wI σ 108 0 (nI 0)) (aSk A) (fun _ => 49) D τ → ∀ k, k ≤ kT (aSk A) 2 → At 45 [.ref 108, .int seed, .int (nI i), .int (nI (skyW (aSk A) D k)), .int (nI 0), .int (nI k)] [] τ 433 3464 := by
    intro τ hc
    have hS := (hc.1.im hI' hv).2.1.sk
    refine upto fun k hk ih => ?_
    refine hAt 5 _ _ _ _ _ _ ?_
    refine And.intro (aOKx (n := 11) (j := 2) rfl (by decide) rfl rfl (by omega) (by omega)) ?_
    refine Eq.mpr (congrArg (fun xq : Int32 => At 53 [.ref (108), .int (seed), .int (nI i), .int (nI (skyW (aSk A) D k)), .int (nI 0), .int (nI k)] [.int xq, .int (nI k)] τ 433 3464) (show rI τ 111 (nI 2).toNatClampNeg = nI (kT (aSk A) 2) from (ldE rfl (by omega) (hS.1 2 (by omega))))) ?_
    refine hAt 1 _ _ _ _ _ _ ?_
    refine And.intro (fun hq => ?_) (fun hq => ?_)
    · have c53 : kT (aSk A) 2 ≤ k := (leN (a := kT (aSk A) 2) (b := k) rfl rfl (by omega) (by omega)).mp hq
      clear hq
      refine hAt 2 _ _ _ _ _ _ ?_
      have e : k = kT (aSk A) 2 := by omega
      subst e
      exact l2 τ hc 0 (Nat.zero_le _)
    · have c53 : k < kT (aSk A) 2 := Nat.lt_of_not_le (fun zq => hq ((leN (a := kT (aSk A) 2) (b := k) rfl rfl (by omega) (by omega)).mpr zq))
      clear hq
      refine hAt 5 _ _ _ _ _ _ ?_
      refine And.intro (aOKx (n := 8) (j := k) rfl (by decide) rfl rfl (by omega) (by omega)) ?_
      refine Eq.mpr (congrArg (fun xq : Int32 => At 64 [.ref (108), .int (seed), .int (nI i), .int (nI (skyW (aSk A) D k)), .int (nI 0), .int (nI k)] [.int xq, .int (nI (skyW (aSk A) D k))] τ 433 3464) (show rI τ 238 (nI k).toNatClampNeg = bI (decide (gN D 0 k = 1)) from (ldE rfl (by omega) ((hc.2.1 k (by omega)).1)))) ?_
      refine hAt 1 _ _ _ _ _ _ ?_
      refine And.intro (fun hq => ?_) (fun hq => ?_)
      · have c64 : ¬ (gN D 0 k = 1) := of_decide_eq_false (bI_eq hq)
        clear hq
        refine hAt 5 _ _ _ _ _ _ ?_
        refine Eq.mpr (congrArg (fun xq : Int32 => At 45 [.ref (108), .int (seed), .int (nI i), .int xq, .int (nI 0), .int (nI k + nI 1)] [] τ 433 3464) (show (nI (skyW (aSk A) D k)) + nI 0 = nI (skyW (aSk A) D k + 0) from (adE rfl rfl))) ?_
        refine Eq.mpr (congrArg (fun xq : Int32 => At 45 [.ref (108), .int (seed), .int (nI i), .int (nI (skyW (aSk A) D k + 0)), .int (nI 0), .int xq] [] τ 433 3464) (show nI k + nI 1 = nI (k + 1) from (adE rfl rfl))) ?_
        have q := ih c53
        rw [skyW, if_neg c64] at q
        exact q
      · have c64 : gN D 0 k = 1 := of_decide_eq_true (bI_ne hq)
        clear hq
        refine hAt 4 _ _ _ _ _ _ ?_
        refine And.intro (mx_r (q := 244) (n := 8) (k := 8) rfl rfl (show k < 8 by omega)) (And.intro (Or.inl rfl) ?_)
        refine Eq.mpr (congrArg (fun xq : Nat => At 74 [.ref (108), .int (seed), .int (nI i), .int (nI (skyW (aSk A) D k)), .int (nI 0), .int (nI k)] [.ref xq, .int (nI (skyW (aSk A) D k))] τ 433 3464) (rwE rfl (by omega))) ?_
        refine hAt 6 _ _ _ _ _ _ ?_
        refine s_Mpsum hc hn c53 c64 ?_
        refine Eq.mpr (congrArg (fun xq : Int32 => At 45 [.ref (108), .int (seed), .int (nI i), .int xq, .int (nI 0), .int (nI k + nI 1)] [] τ 433 3464) (show (nI (skyW (aSk A) D k)) + (nI (rs D (8 + k))) = nI (skyW (aSk A) D k + (rs D (8 + k))) from (adE rfl rfl))) ?_
        refine Eq.mpr (congrArg (fun xq : Int32 => At 45 [.ref (108), .int (seed), .int (nI i), .int (nI (skyW (aSk A) D k + (rs D (8 + k)))), .int (nI 0), .int xq] [] τ 433 3464) (show nI k + nI 1 = nI (k + 1) from (adE rfl rfl))) ?_
        have q := ih c53
        rw [skyW, if_pos c64] at q
        exact q
  refine hAt 9 _ _ _ _ _ _ ?_
  refine s_in ?_
  rw [decide_eq_true ⟨nI_nlt (Nat.zero_le _) (by omega), nI_nlt (by omega) (by omega)⟩]
  refine And.intro (fun _ => ?_) (fun hq => absurd hq (by decide))
  refine hAt 4 _ _ _ _ _ _ ?_
  refine s_bad0 rfl rfl ?_
  refine And.intro (fun _ => ?_) (fun hq => absurd hq (by decide))
  refine hAt 10 _ _ _ _ _ _ ?_
  refine callG 433 3464 (by omega) (by omega) (s_goes hI'.sk hI'.1 hI'.bk.1 (obA hv) hv.2.2.1 (by omega) (fun τ hc => ?_))
  have hc : eM (wI σ 108 0 (nI 0)) (aSk A) (fun _ => 49) (dE A seed 49) τ := hc
  obtain ⟨f1, f2, f3⟩ := hc.1.im hI' hv
  have g1 := ((frM.rfl σ).wI (a := 108) (k := 0) (x := nI 0) (by omega)).trans f1
  rw [← eD] at hc
  exact l1 τ hc 0 (Nat.zero_le _)
end DMC
