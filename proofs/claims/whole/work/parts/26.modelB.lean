/-! THE MODEL'S ROWS OF ROWS, and its book -/
def mxB (q n k : Nat) : Bool := Nat.blt (q + n) ow_n0 && Nat.beq (kS q) 15 && Nat.beq (lS q) n && rowsB q 12 k n && Nat.ble n 1000 && Nat.ble k 1000
theorem mxB_s {q n k : Nat} (h : mxB q n k = true) : q + n < ow_n0 ∧ kS q = 15 ∧ lS q = n ∧ n ≤ 1000 ∧ k ≤ 1000 ∧ ∀ j, j < n → kS (q + 1 + j) = 12 ∧ lS (q + 1 + j) = k := by
  unfold mxB at h
  simp only [Bool.and_eq_true, nbq, decide_eq_true_eq, Nat.ble_eq] at h
  obtain ⟨⟨⟨⟨⟨h1, h2⟩, h3⟩, h4⟩, h5⟩, h6⟩ := h
  simp [Nat.blt] at h1
  exact ⟨by omega, h2, h3, h5, h6, fun j hj => rowsB_at h4 j hj⟩
theorem mx_r {σ : Mem} {q n k j : Nat} {x : Int32} (h : mxB q n k = true) (hx : x = nI j) (hj : j < n) : aOK true σ q (kS q) x := by
  obtain ⟨h1, h2, h3, h4, h5, h6⟩ := mxB_s h
  subst hx
  exact aOK_t (by omega) rfl h3 hj (by omega)
theorem mx_e {σ : Mem} {q n k j i : Nat} {x : Int32} (h : mxB q n k = true) (hj : j < n) (hi : i < k) (hx : x = nI i) : aOK true σ (q + 1 + j) 12 x := by
  obtain ⟨h1, h2, h3, h4, h5, h6⟩ := mxB_s h
  subst hx
  exact aOK_t (by omega) (h6 j hj).1 (h6 j hj).2 hi (by omega)
theorem rwR.push {σ σ' : Mem} {f a wd : Nat} {t : Tb} {r : Nat → Nat} (h : rwR σ f a wd t) (h1 : rI σ' 108 f = nI (t.1 + 1)) (h2 : ∀ i, i < wd → rI σ' (a + 1 + t.1) i = nI (r i)) (h3 : ∀ k i, k < t.1 → rI σ' (a + 1 + k) i = rI σ (a + 1 + k) i) : rwR σ' f a wd (addR t r) := by
  refine ⟨h1, fun k hk i hi => ?_⟩
  show rI σ' (a + 1 + k) i = nI (if k = t.1 then r i else t.2 k i)
  by_cases e : k = t.1
  · rw [if_pos e, e]; exact h2 i hi
  · have hk' : k < t.1 := by
      have : k < t.1 + 1 := hk
      omega
    rw [if_neg e, h3 k i hk']
    exact h.2 k hk' i hi
theorem rwR.frame {σ σ' : Mem} {f a wd : Nat} {t : Tb} (h : rwR σ f a wd t) (h1 : rI σ' 108 f = rI σ 108 f) (h3 : ∀ k i, k < t.1 → rI σ' (a + 1 + k) i = rI σ (a + 1 + k) i) : rwR σ' f a wd t := ⟨by rw [h1]; exact h.1, fun k hk i hi => by rw [h3 k i hk]; exact h.2 k hk i hi⟩
theorem IM.setBk {A : St} {σ σ' : Mem} {b : Bk} (h : IM A σ) (hv : VA A) (f : ∀ a j, trkM a j → ¬ (a = 108 ∧ (j = 19 ∨ j = 20 ∨ j = 21)) → ¬ (185 ≤ a ∧ a < 234) → rI σ' a j = rI σ a j) (hn : mN σ ≤ mN σ') (hb : bkM σ' b) : IM (sBk A b) σ' := by
  obtain ⟨h1, h2, h3, h4, h5, h6, h7, h8⟩ := h
  obtain ⟨v1, v2, v3, v4, v5, v6⟩ := hv
  obtain ⟨s1, s2, s3, s4, s5, -, -, -, -, -, s6, -⟩ := v3
  refine ⟨Nat.le_trans h1 hn, by rw [f _ _ (by unfold trkM; omega) (by omega) (by omega)]; exact h2, fun j hj => by rw [f _ _ (by unfold trkM; omega) (by omega) (by omega)]; exact h3 j hj, by rw [f _ _ (by unfold trkM; omega) (by omega) (by omega)]; exact h4, ?_, hb, by rw [f _ _ (by unfold trkM; omega) (by omega) (by omega)]; exact h7, fun i hi => ?_⟩
  · show skM σ' (aSk A)
    obtain ⟨k1, k2, k3, k4, k5⟩ := h5
    exact ⟨fun i hi => by rw [f _ _ (by unfold trkM; omega) (by omega) (by omega)]; exact k1 i hi, fun k hk i hi => by rw [f _ _ (by unfold trkM; omega) (by omega) (by omega)]; exact k2 k hk i hi, fun k hk i hi => by rw [f _ _ (by unfold trkM; omega) (by omega) (by omega)]; exact k3 k hk i hi,
      fun k hk i hi => by rw [f _ _ (by unfold trkM; omega) (by omega) (by omega)]; exact k4 k hk i hi, fun k hk i hi => by rw [f _ _ (by unfold trkM; omega) (by omega) (by omega)]; exact k5 k hk i hi⟩
  · have hi' : i < aIn A := hi
    obtain ⟨k1, k2, k3, k4, k5, k6⟩ := h8 i hi
    have g := fun j => f (235 + i) j (by unfold trkM; omega) (by omega) (by omega)
    exact ⟨by rw [g]; exact k1, by rw [g]; exact k2, by rw [g]; exact k3, fun k hk i hi => by rw [g]; exact k4 k hk i hi, fun k hk i hi => by rw [g]; exact k5 k hk i hi, fun k hk i hi => by rw [g]; exact k6 k hk i hi⟩
section MB
variable {w : Wd} {d KC KS : Nat} {A : St} {v : AV}
theorem MC_owner_ok {j : Nat} (hv : VA A) (hj : j < kT (aSk A) 2) : MC w (d + 3) 0 0 m_Mo_owner [.int (nI j)] A 0 (.int (nI (kC (aSk A) j 5))) A := by
  intro σ P X hI hP
  have hI' : IM A (wI σ 108 0 (nI 0)) := hI.thr hv
  have hn : kT (aSk A) 2 ≤ 8 := hv.2.2.1.2.2.1
  refine meth_ok k_Mo_owner q_Mo_owner rfl fun At hAt => hAt 50 _ _ _ _ _ _ ?_
  refine s_isCloud hI' ?_
  rw [decide_eq_true (in_ok hj (by omega))]
  refine And.intro (fun _ => ?_) (fun q => absurd q (by decide))
  refine s_bad0 rfl rfl ?_
  refine And.intro (fun _ => ?_) (fun q => absurd rfl q)
  refine And.intro (mx_r (q := 141) (n := 8) (k := 7) rfl rfl (show j < 8 by omega)) (And.intro (Or.inl rfl) ?_)
  rw [nI_cl (by omega)]
  refine And.intro (mx_e (q := 141) (n := 8) (k := 7) (i := 5) rfl (by omega) (by omega) rfl) ?_
  exact hP _ _ ((frM.rfl σ).wI (by omega)) hI' rfl (fun _ => congrArg Value.int (hI'.sk.2.2.1 j hj 5 (by omega)))
theorem MC_owner_bad {x : Int32} (hv : VA A) (hx : x < nI 0 ∨ nI (kT (aSk A) 2) ≤ x) : MC w (d + 3) 0 0 m_Mo_owner [.int x] A 1 v A := by
  intro σ P X hI hP
  have hI' : IM A (wI σ 108 0 (nI 0)) := hI.thr hv
  have hn : kT (aSk A) 2 ≤ 8 := hv.2.2.1.2.2.1
  refine meth_ok k_Mo_owner q_Mo_owner rfl fun At hAt => hAt 50 _ _ _ _ _ _ ?_
  refine s_isCloud hI' ?_
  rw [decide_eq_false (in_bad (by omega) hx)]
  refine And.intro (fun q => absurd rfl q) (fun _ => ?_)
  refine s_bad1 (by decide) rfl (by omega) (by omega) ?_
  refine And.intro (fun q => absurd q (by decide)) (fun _ => ?_)
  exact hP _ _ (((frM.rfl σ).wI (by omega)).wI (by omega)) (hI'.thr hv) rfl (fun q => by omega)
theorem MC_field_bad1 {x y : Int32} (hv : VA A) (hx : x < nI 0 ∨ nI (kT (aSk A) 3) ≤ x) : MC w (d + 3) 0 0 m_Mo_field [.int x, .int y] A 1 v A := by
  intro σ P X hI hP
  have hI' : IM A (wI σ 108 0 (nI 0)) := hI.thr hv
  have hn : kT (aSk A) 3 ≤ 12 := hv.2.2.1.2.2.2.1
  refine meth_ok k_Mo_field q_Mo_field rfl fun At hAt => hAt 50 _ _ _ _ _ _ ?_
  refine s_isField hI' ?_
  rw [decide_eq_false (in_bad (by omega) hx)]
  refine And.intro (fun q => absurd rfl q) (fun _ => ?_)
  refine s_bad1 (by decide) rfl (by omega) (by omega) ?_
  refine And.intro (fun _ => ?_) (fun q => absurd q (by decide))
  exact hP _ _ (((frM.rfl σ).wI (by omega)).wI (by omega)) (hI'.thr hv) rfl (fun q => by omega)
theorem MC_field_bad2 {j : Nat} {y : Int32} (hv : VA A) (hj : j < kT (aSk A) 3) (hy : y < nI 0 ∨ nI 6 ≤ y) : MC w (d + 3) 0 0 m_Mo_field [.int (nI j), .int y] A 2 v A := by
  intro σ P X hI hP
  have hI' : IM A (wI σ 108 0 (nI 0)) := hI.thr hv
  have hn : kT (aSk A) 3 ≤ 12 := hv.2.2.1.2.2.2.1
  refine meth_ok k_Mo_field q_Mo_field rfl fun At hAt => hAt 50 _ _ _ _ _ _ ?_
  refine s_isField hI' ?_
  rw [decide_eq_true (in_ok hj (by omega))]
  refine And.intro (fun _ => ?_) (fun q => absurd q (by decide))
  refine s_bad0 rfl rfl ?_
  refine And.intro (fun q => absurd rfl q) (fun _ => ?_)
  refine s_in ?_
  rw [decide_eq_false (in_bad' (n := 5) (by omega) hy)]
  refine And.intro (fun q => absurd rfl q) (fun _ => ?_)
  refine s_bad1 (by decide) rfl (by omega) (by omega) ?_
  refine And.intro (fun q => absurd q (by decide)) (fun _ => ?_)
  exact hP _ _ (((frM.rfl σ).wI (by omega)).wI (by omega)) (hI'.thr hv) rfl (fun q => by omega)
theorem MC_field_ok {j i : Nat} (hv : VA A) (hj : j < kT (aSk A) 3) (hi : i < 6) : MC w (d + 3) 0 0 m_Mo_field [.int (nI j), .int (nI i)] A 0 (.int (nI (kF (aSk A) j i))) A := by
  intro σ P X hI hP
  have hI' : IM A (wI σ 108 0 (nI 0)) := hI.thr hv
  have hn : kT (aSk A) 3 ≤ 12 := hv.2.2.1.2.2.2.1
  refine meth_ok k_Mo_field q_Mo_field rfl fun At hAt => hAt 50 _ _ _ _ _ _ ?_
  refine s_isField hI' ?_
  rw [decide_eq_true (in_ok hj (by omega))]
  refine And.intro (fun _ => ?_) (fun q => absurd q (by decide))
  refine s_bad0 rfl rfl ?_
  refine And.intro (fun q => absurd rfl q) (fun _ => ?_)
  refine s_in ?_
  rw [decide_eq_true ⟨nI_nlt (Nat.zero_le _) (by omega), nI_nlt (by omega) (by omega)⟩]
  refine And.intro (fun _ => ?_) (fun q => absurd q (by decide))
  refine s_bad0 rfl rfl ?_
  refine And.intro (fun _ => ?_) (fun q => absurd rfl q)
  refine And.intro (mx_r (q := 163) (n := 12) (k := 6) rfl rfl (show j < 12 by omega)) (And.intro (Or.inl rfl) ?_)
  rw [nI_cl (by omega)]
  refine And.intro (mx_e (q := 163) (n := 12) (k := 6) rfl (by omega) hi rfl) ?_
  rw [nI_cl (by omega)]
  exact hP _ _ ((frM.rfl σ).wI (by omega)) hI' rfl (fun _ => congrArg Value.int (hI'.sk.2.2.2.1 j hj i hi))
theorem rwR.eT {σ' : Mem} {f a wd : Nat} {t : Tb} (h : rI σ' 108 f = nI 0) : rwR σ' f a wd (eT t) := ⟨h, fun k hk => absurd hk (Nat.not_lt_zero k)⟩
theorem MC_clear (hv : VA A) : MC w (d + 1) 0 0 m_Mo_clear [] A 0 (.int (nI (aBk A).1.1)) (sBk A (eT (aBk A).1, (aBk A).2)) := by
  intro σ P X hI hP
  have hI' : IM A (wI σ 108 0 (nI 0)) := hI.thr hv
  have hb := hI'.bk
  refine meth_ok k_Mo_clear q_Mo_clear rfl fun At hAt => hAt 50 _ _ _ _ _ _ ?_
  refine hP _ _ (((frM.rfl σ).wI (by omega)).wI (by omega)) (hI'.setBk hv (fun a j t t1 t2 => by rw [rI_wI, if_neg (by omega)]) (Nat.le_refl _) ⟨rwR.eT (by simp [rI_wI]), hb.2.1.frame (by simp [rI_wI]) (fun k i hk => by rw [rI_wI, if_neg (by omega)]), hb.2.2.frame (by simp [rI_wI]) (fun k i hk => by rw [rI_wI, if_neg (by omega)])⟩) rfl (fun _ => congrArg Value.int hb.1.1)
theorem MC_forget (hv : VA A) : MC w (d + 1) 0 0 m_Mo_forget [] A 0 (.int (nI (aBk A).2.1.1)) (sBk A ((aBk A).1, eT (aBk A).2.1, (aBk A).2.2)) := by
  intro σ P X hI hP
  have hI' : IM A (wI σ 108 0 (nI 0)) := hI.thr hv
  have hb := hI'.bk
  refine meth_ok k_Mo_forget q_Mo_forget rfl fun At hAt => hAt 50 _ _ _ _ _ _ ?_
  refine hP _ _ (((frM.rfl σ).wI (by omega)).wI (by omega)) (hI'.setBk hv (fun a j t t1 t2 => by rw [rI_wI, if_neg (by omega)]) (Nat.le_refl _) ⟨hb.1.frame (by simp [rI_wI]) (fun k i hk => by rw [rI_wI, if_neg (by omega)]), rwR.eT (by simp [rI_wI]), hb.2.2.frame (by simp [rI_wI]) (fun k i hk => by rw [rI_wI, if_neg (by omega)])⟩) rfl (fun _ => congrArg Value.int hb.2.1.1)
theorem MC_away (hv : VA A) : MC w (d + 1) 0 0 m_Mo_away [] A 0 (.int (nI (aBk A).2.2.1)) (sBk A ((aBk A).1, (aBk A).2.1, eT (aBk A).2.2)) := by
  intro σ P X hI hP
  have hI' : IM A (wI σ 108 0 (nI 0)) := hI.thr hv
  have hb := hI'.bk
  refine meth_ok k_Mo_away q_Mo_away rfl fun At hAt => hAt 50 _ _ _ _ _ _ ?_
  refine hP _ _ (((frM.rfl σ).wI (by omega)).wI (by omega)) (hI'.setBk hv (fun a j t t1 t2 => by rw [rI_wI, if_neg (by omega)]) (Nat.le_refl _) ⟨hb.1.frame (by simp [rI_wI]) (fun k i hk => by rw [rI_wI, if_neg (by omega)]), hb.2.1.frame (by simp [rI_wI]) (fun k i hk => by rw [rI_wI, if_neg (by omega)]), rwR.eT (by simp [rI_wI])⟩) rfl (fun _ => congrArg Value.int hb.2.2.1)
theorem MC_count_ok {i : Nat} (hv : VA A) (hi : i < 5) : MC w (d + 1) 0 0 m_Mo_count [.int (nI i)] A 0 (.int (cnt A i)) A := by
  intro σ P X hI hP
  have hI' : IM A (wI σ 108 0 (nI 0)) := hI.thr hv
  have hb := hI'.bk
  have f := (frM.rfl σ).wI (a := 108) (k := 0) (x := nI 0) (by omega)
  refine meth_ok k_Mo_count q_Mo_count rfl fun At hAt => hAt 50 _ _ _ _ _ _ ?_
  refine And.intro (And.intro (fun q => ?_) (And.intro (fun q => ?_) (And.intro (fun q => ?_) (And.intro (fun q => ?_) (And.intro (fun q => ?_) trivial))))) (fun q => ?_)
  · have := (nI_eq (by omega) (by omega)).mp q
    subst this
    exact hP _ _ f hI' rfl (fun _ => congrArg Value.int hb.1.1)
  · have := (nI_eq (by omega) (by omega)).mp q
    subst this
    exact hP _ _ f hI' rfl (fun _ => congrArg Value.int hb.2.1.1)
  · have := (nI_eq (by omega) (by omega)).mp q
    subst this
    exact hP _ _ f hI' rfl (fun _ => congrArg Value.int hb.2.2.1)
  · have := (nI_eq (by omega) (by omega)).mp q
    subst this
    exact hP _ _ f hI' rfl (fun _ => congrArg Value.int hI'.2.2.2.2.2.2.1)
  · have := (nI_eq (by omega) (by omega)).mp q
    subst this
    exact hP _ _ f hI' rfl (fun _ => congrArg Value.int hI'.2.1)
  · have q' : nI i < nI 0 ∨ nI 5 ≤ nI i := q
    exact absurd q' (fun z => z.elim (nI_nlt (Nat.zero_le _) (by omega)) (nI_ge hi (by omega)))
theorem MC_count_bad {x : Int32} (hv : VA A) (hx : x < nI 0 ∨ nI 5 ≤ x) : MC w (d + 1) 0 0 m_Mo_count [.int x] A 0 (.int (-1)) A := by
  intro σ P X hI hP
  have hI' : IM A (wI σ 108 0 (nI 0)) := hI.thr hv
  have hn : ∀ i, i < 5 → ¬ x = nI i := fun i hi q => by
    rw [q] at hx
    exact hx.elim (nI_nlt (Nat.zero_le _) (by omega)) (nI_ge hi (by omega))
  refine meth_ok k_Mo_count q_Mo_count rfl fun At hAt => hAt 50 _ _ _ _ _ _ ?_
  exact And.intro (And.intro (fun q => absurd q (hn 0 (by omega))) (And.intro (fun q => absurd q (hn 1 (by omega))) (And.intro (fun q => absurd q (hn 2 (by omega))) (And.intro (fun q => absurd q (hn 3 (by omega))) (And.intro (fun q => absurd q (hn 4 (by omega))) trivial))))) (fun _ => hP _ _ ((frM.rfl σ).wI (by omega)) hI' rfl (fun _ => rfl))
end MB
