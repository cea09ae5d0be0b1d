/-! THE MODEL'S order, gauge -/
section ME
variable {w : Wd} {d : Nat} {A : St} {v : AV}
theorem s_isIn {σ : Mem} {P : Option AV → Mem → Prop} {X : Nat → Mem → Prop} {x y : Int32} (hI : IM A σ) (hP : P (some (.int (bI (decide ((¬ x < nI 0 ∧ ¬ nI (kT (aSk A) 0) - nI 1 < x) ∧ (¬ y < nI 0 ∧ ¬ nI (kT (aSk A) 1) - nI 1 < y)))))) σ) : Ret w true (d + 2) 0 0 m_Mo_isIn [.ref 108, .int x, .int y] σ P X := by
  have e0 := hI.sk.1 0 (by omega)
  have e1 := hI.sk.1 1 (by omega)
  rw [← e0, ← e1] at hP
  refine meth_ok k_Mo_isIn q_Mo_isIn rfl fun At hAt => hAt 50 _ _ _ _ _ _ ?_
  refine And.intro (aOK_t (n := 11) (j := 0) (by decide) rfl rfl (by omega) (by omega)) ?_
  refine s_in ?_
  refine And.intro (fun q => And.intro rfl ?_) (fun q => ?_)
  · rw [decide_eq_false (fun z => absurd z.1 (of_decide_eq_false (bI_eq q)))] at hP; exact hP
  · refine And.intro (aOK_t (n := 11) (j := 1) (by decide) rfl rfl (by omega) (by omega)) ?_
    refine s_in ?_
    refine And.intro (fun q2 => And.intro rfl ?_) (fun q2 => And.intro rfl ?_)
    · rw [decide_eq_false (fun z => absurd z.2 (of_decide_eq_false (bI_eq q2)))] at hP; exact hP
    · rw [decide_eq_true ⟨of_decide_eq_true (bI_ne q), of_decide_eq_true (bI_ne q2)⟩] at hP; exact hP
theorem hr_in {h : Int32} {n : Nat} (hn : n + 1 < 2 ^ 31) : (¬ h < nI 0 ∧ ¬ nI n < h) ↔ (¬ h < nI 0 ∧ ¬ nI (n + 1) ≤ h) := by
  refine ⟨fun z => ⟨z.1, fun q => in_bad' hn (Or.inr q) z⟩, fun z => ?_⟩
  rcases rng h hn with ⟨j, hj, rfl⟩ | q
  · exact ⟨z.1, nI_nlt (by omega) (by omega)⟩
  · exact absurd q (fun y => y.elim z.1 z.2)
theorem MC_order_bad1 {h x k n : Int32} (hv : VA A) (hx : x < nI 0 ∨ nI (kT (aSk A) 2) ≤ x) : MC w (d + 3) 0 0 m_Mo_order [.int h, .int x, .int k, .int n] A 1 v A := by
  intro σ P X hI hP
  have hI' : IM A (wI σ 108 0 (nI 0)) := hI.thr hv
  have hn : kT (aSk A) 2 ≤ 8 := hv.2.2.1.2.2.1
  refine meth_ok k_Mo_order q_Mo_order rfl fun At hAt => hAt 150 _ _ _ _ _ _ ?_
  refine s_isCloud hI' ?_
  rw [decide_eq_false (in_bad (by omega) hx)]
  refine And.intro (fun q => absurd rfl q) (fun _ => ?_)
  refine s_bad1 (by decide) rfl (by omega) (by omega) ?_
  refine And.intro (fun _ => ?_) (fun q => absurd q (by decide))
  exact hP _ _ (((frM.rfl σ).wI (by omega)).wI (by omega)) (hI'.thr hv) rfl (fun q => by omega)
theorem MC_order_bad2 {j : Nat} {h k n : Int32} (hv : VA A) (hj : j < kT (aSk A) 2) (hh : ((¬ h < nI 0 ∧ ¬ nI 50 ≤ h) ∧ okO k n = true) → False) : MC w (d + 3) 0 0 m_Mo_order [.int h, .int (nI j), .int k, .int n] A 2 v A := by
  intro σ P X hI hP
  have hI' : IM A (wI σ 108 0 (nI 0)) := hI.thr hv
  have hn : kT (aSk A) 2 ≤ 8 := hv.2.2.1.2.2.1
  have fin := hP _ (nI 0) (((frM.rfl σ).wI (a := 108) (k := 0) (x := nI 0) (by omega)).wI (a := 108) (k := 0) (x := nI 2) (by omega)) (hI'.thr hv) rfl (fun q => by omega)
  refine meth_ok k_Mo_order q_Mo_order rfl fun At hAt => hAt 150 _ _ _ _ _ _ ?_
  refine s_isCloud hI' ?_
  rw [decide_eq_true (in_ok hj (by omega))]
  refine And.intro (fun _ => ?_) (fun q => absurd q (by decide))
  refine s_bad0 rfl rfl ?_
  refine And.intro (fun q => absurd rfl q) (fun _ => ?_)
  refine s_MisHour ?_
  refine And.intro (fun _ => s_bad1 (by decide) rfl (by omega) (by omega) (And.intro (fun q => absurd q (by decide)) (fun _ => fin))) (fun q0 => ?_)
  have z0 := (hr_in (n := 49) (by omega)).mp (of_decide_eq_true (bI_ne q0))
  refine s_in ?_
  refine And.intro (fun _ => s_bad1 (by decide) rfl (by omega) (by omega) (And.intro (fun q => absurd q (by decide)) (fun _ => fin))) (fun q1 => ?_)
  have z1 := (hr_in (n := 2) (by omega)).mp (of_decide_eq_true (bI_ne q1))
  have hk : k = nI 0 ∨ k = nI 1 ∨ k = nI 2 := by
    rcases rng k (n := 3) (by omega) with ⟨i, hi, rfl⟩ | q
    · have : i = 0 ∨ i = 1 ∨ i = 2 := by omega
      rcases this with rfl | rfl | rfl <;> simp
    · exact absurd q (fun y => y.elim z1.1 z1.2)
  rcases hk with rfl | rfl | rfl
  · refine And.intro (fun q => absurd rfl q) (fun _ => And.intro (fun q => absurd rfl q) (fun _ => s_in ?_))
    refine And.intro (fun q2 => ?_) (fun _ => s_bad1 (by decide) rfl (by omega) (by omega) (And.intro (fun q => absurd q (by decide)) (fun _ => fin)))
    have z2 := of_decide_eq_true (bI_ne q2)
    exact (hh ⟨z0, decide_eq_true (Or.inl ⟨rfl, z2.1, z2.2⟩)⟩).elim
  · refine And.intro (fun _ => And.intro (fun _ => And.intro (fun q => absurd rfl q) (fun _ => s_in ?_)) (fun q => absurd q (by decide))) (fun q => absurd q (by decide))
    refine And.intro (fun q2 => ?_) (fun _ => s_bad1 (by decide) rfl (by omega) (by omega) (And.intro (fun q => absurd q (by decide)) (fun _ => fin)))
    have z2 := of_decide_eq_true (bI_ne q2)
    exact (hh ⟨z0, decide_eq_true (Or.inr (Or.inl ⟨rfl, z2.1, z2.2⟩))⟩).elim
  · refine And.intro (fun _ => And.intro (fun _ => And.intro (fun _ => s_in ?_) (fun q => absurd q (by decide))) (fun q => absurd q (by decide))) (fun q => absurd q (by decide))
    refine And.intro (fun q2 => ?_) (fun _ => s_bad1 (by decide) rfl (by omega) (by omega) (And.intro (fun q => absurd q (by decide)) (fun _ => fin)))
    have z2 := of_decide_eq_true (bI_ne q2)
    have e0 : n = nI 0 := by
      rcases rng n (n := 1) (by omega) with ⟨i, hi, e⟩ | q
      · rw [e, show i = 0 by omega]
      · rcases q with q | q
        · exact absurd q z2.1
        · exact absurd z2 (in_bad' (n := 0) (by omega) (Or.inr q))
    exact (hh ⟨z0, decide_eq_true (Or.inr (Or.inr ⟨rfl, e0⟩))⟩).elim
theorem MC_order_ok {j h k n : Nat} (hk : k < 2 ^ 31) (hv : VA A) (hj : j < kT (aSk A) 2) (hh : h < 50) (ho : okO (nI k) (nI n) = true) (r : AV × St)
    (hr : r = if (aBk A).1.1 < 30 then (.int (nI ((aBk A).1.1 + 1)), sBk A (addR (aBk A).1 (fun i => if i = 0 then h else if i = 1 then j else if i = 2 then k else n), (aBk A).2)) else (.int (-1), A)) :
    MC w (d + 3) 0 0 m_Mo_order [.int (nI h), .int (nI j), .int (nI k), .int (nI n)] A 0 r.1 r.2 := by
  intro σ P X hI hP
  have hI' : IM A (wI σ 108 0 (nI 0)) := hI.thr hv
  have hn : kT (aSk A) 2 ≤ 8 := hv.2.2.1.2.2.1
  have hc := hv.2.2.2.1.1
  have en := hI'.bk.1.1
  have fin : ∀ hf : (aBk A).1.1 < 30, P (some (.int (rI (wI (wRow (wI σ 108 0 (nI 0)) (184 + 1 + (aBk A).1.1) (fun i => if i = 0 then h else if i = 1 then j else if i = 2 then k else n) 4) 108 19 (rI (wRow (wI σ 108 0 (nI 0)) (184 + 1 + (aBk A).1.1) (fun i => if i = 0 then h else if i = 1 then j else if i = 2 then k else n) 4) 108 19 + nI 1)) 108 19))) (wI (wRow (wI σ 108 0 (nI 0)) (184 + 1 + (aBk A).1.1) (fun i => if i = 0 then h else if i = 1 then j else if i = 2 then k else n) 4) 108 19 (rI (wRow (wI σ 108 0 (nI 0)) (184 + 1 + (aBk A).1.1) (fun i => if i = 0 then h else if i = 1 then j else if i = 2 then k else n) 4) 108 19 + nI 1)) := by
    intro hf
    rw [if_pos hf] at hr
    subst hr
    have e : rI (wRow (wI σ 108 0 (nI 0)) (184 + 1 + (aBk A).1.1) (fun i => if i = 0 then h else if i = 1 then j else if i = 2 then k else n) 4) 108 19 = nI (aBk A).1.1 := by rw [rI_wRow, if_neg (by omega)]; exact en
    rw [e, nI_add]
    refine hP _ _ ((((frM.rfl σ).wI (by omega)).wRow (by omega) 4).wI (by omega)) (hI'.pO _ hv hf) ?_ (fun _ => congrArg Value.int (by rw [rI_wI, if_pos ⟨rfl, rfl⟩]))
    rw [rI_wI, if_neg (by omega), rI_wRow, if_neg (by omega)]; rfl
  have finF : ¬ (aBk A).1.1 < 30 → P (some (.int (-1))) (wI σ 108 0 (nI 0)) := by
    intro hf
    rw [if_neg hf] at hr
    subst hr
    exact hP _ _ ((frM.rfl σ).wI (by omega)) hI' rfl (fun _ => rfl)
  clear hP hr
  refine meth_ok k_Mo_order q_Mo_order rfl fun At hAt => hAt 150 _ _ _ _ _ _ ?_
  refine s_isCloud hI' ?_
  rw [decide_eq_true (in_ok hj (by omega))]
  refine And.intro (fun _ => ?_) (fun q => absurd q (by decide))
  refine s_bad0 rfl rfl ?_
  refine And.intro (fun q => absurd rfl q) (fun _ => ?_)
  refine s_MisHour ?_
  rw [decide_eq_true ((hr_in (n := 49) (by omega)).mpr ⟨nI_nlt (Nat.zero_le h) (by omega), nI_ge hh (by omega)⟩)]
  refine And.intro (fun q => absurd q (by decide)) (fun _ => ?_)
  rcases of_decide_eq_true ho with ⟨e, z⟩ | ⟨e, z⟩ | ⟨e, z⟩
  · have ek : k = 0 := (nI_eq hk (by omega)).mp e
    subst ek
    refine s_in ?_
    refine And.intro (fun q => absurd q (by decide)) (fun _ => ?_)
    refine And.intro (fun q => absurd rfl q) (fun _ => And.intro (fun q => absurd rfl q) (fun _ => s_in ?_))
    rw [decide_eq_true z]
    refine And.intro (fun _ => ?_) (fun q => absurd q (by decide))
    refine s_bad0 rfl rfl ?_
    refine And.intro (fun _ => ?_) (fun q => absurd rfl q)
    by_cases hf : (aBk A).1.1 < 30
    · refine And.intro (fun _ => ?_) (fun q => absurd (show rI (wI σ 108 0 (nI 0)) 108 19 = nI 30 from q) (by rw [en]; exact nI_ne (by omega) (by omega) (by omega)))
      refine And.intro (mx_r (q := 184) (n := 30) (k := 4) rfl en hf) (And.intro (Or.inl rfl) ?_)
      rw [en, nI_cl (by omega)]
      refine And.intro (mx_e (q := 184) (n := 30) (k := 4) (i := 0) rfl hf (by omega) rfl) ?_
      have e1 : rI (wI (wI σ 108 0 (nI 0)) (184 + 1 + (aBk A).1.1) (nI 0).toNatClampNeg (nI h)) 108 19 = nI (aBk A).1.1 := by rw [rI_wI, if_neg (by omega)]; exact en
      refine And.intro (mx_r (q := 184) (n := 30) (k := 4) rfl e1 hf) (And.intro (Or.inl rfl) ?_)
      rw [e1, nI_cl (by omega)]
      refine And.intro (mx_e (q := 184) (n := 30) (k := 4) (i := 1) rfl hf (by omega) rfl) ?_
      have e2 : rI (wI (wI (wI σ 108 0 (nI 0)) (184 + 1 + (aBk A).1.1) (nI 0).toNatClampNeg (nI h)) (184 + 1 + (aBk A).1.1) (nI 1).toNatClampNeg (nI j)) 108 19 = nI (aBk A).1.1 := by rw [rI_wI, if_neg (by omega)]; exact e1
      refine And.intro (mx_r (q := 184) (n := 30) (k := 4) rfl e2 hf) (And.intro (Or.inl rfl) ?_)
      rw [e2, nI_cl (by omega)]
      refine And.intro (mx_e (q := 184) (n := 30) (k := 4) (i := 2) rfl hf (by omega) rfl) ?_
      have e3 : rI (wI (wI (wI (wI σ 108 0 (nI 0)) (184 + 1 + (aBk A).1.1) (nI 0).toNatClampNeg (nI h)) (184 + 1 + (aBk A).1.1) (nI 1).toNatClampNeg (nI j)) (184 + 1 + (aBk A).1.1) (nI 2).toNatClampNeg (nI 0)) 108 19 = nI (aBk A).1.1 := by rw [rI_wI, if_neg (by omega)]; exact e2
      refine And.intro (mx_r (q := 184) (n := 30) (k := 4) rfl e3 hf) (And.intro (Or.inl rfl) ?_)
      rw [e3, nI_cl (by omega)]
      refine And.intro (mx_e (q := 184) (n := 30) (k := 4) (i := 3) rfl hf (by omega) rfl) ?_
      exact fin hf
    · exact And.intro (fun q => absurd (show rI (wI σ 108 0 (nI 0)) 108 19 = nI 30 by rw [en, show (aBk A).1.1 = 30 by omega]) q) (fun _ => finF hf)
  · have ek : k = 1 := (nI_eq hk (by omega)).mp e
    subst ek
    refine s_in ?_
    refine And.intro (fun q => absurd q (by decide)) (fun _ => ?_)
    refine And.intro (fun _ => And.intro (fun _ => And.intro (fun q => absurd rfl q) (fun _ => s_in ?_)) (fun q => absurd q (by decide))) (fun q => absurd q (by decide))
    rw [decide_eq_true z]
    refine And.intro (fun _ => ?_) (fun q => absurd q (by decide))
    refine s_bad0 rfl rfl ?_
    refine And.intro (fun _ => ?_) (fun q => absurd rfl q)
    by_cases hf : (aBk A).1.1 < 30
    · refine And.intro (fun _ => ?_) (fun q => absurd (show rI (wI σ 108 0 (nI 0)) 108 19 = nI 30 from q) (by rw [en]; exact nI_ne (by omega) (by omega) (by omega)))
      refine And.intro (mx_r (q := 184) (n := 30) (k := 4) rfl en hf) (And.intro (Or.inl rfl) ?_)
      rw [en, nI_cl (by omega)]
      refine And.intro (mx_e (q := 184) (n := 30) (k := 4) (i := 0) rfl hf (by omega) rfl) ?_
      have e1 : rI (wI (wI σ 108 0 (nI 0)) (184 + 1 + (aBk A).1.1) (nI 0).toNatClampNeg (nI h)) 108 19 = nI (aBk A).1.1 := by rw [rI_wI, if_neg (by omega)]; exact en
      refine And.intro (mx_r (q := 184) (n := 30) (k := 4) rfl e1 hf) (And.intro (Or.inl rfl) ?_)
      rw [e1, nI_cl (by omega)]
      refine And.intro (mx_e (q := 184) (n := 30) (k := 4) (i := 1) rfl hf (by omega) rfl) ?_
      have e2 : rI (wI (wI (wI σ 108 0 (nI 0)) (184 + 1 + (aBk A).1.1) (nI 0).toNatClampNeg (nI h)) (184 + 1 + (aBk A).1.1) (nI 1).toNatClampNeg (nI j)) 108 19 = nI (aBk A).1.1 := by rw [rI_wI, if_neg (by omega)]; exact e1
      refine And.intro (mx_r (q := 184) (n := 30) (k := 4) rfl e2 hf) (And.intro (Or.inl rfl) ?_)
      rw [e2, nI_cl (by omega)]
      refine And.intro (mx_e (q := 184) (n := 30) (k := 4) (i := 2) rfl hf (by omega) rfl) ?_
      have e3 : rI (wI (wI (wI (wI σ 108 0 (nI 0)) (184 + 1 + (aBk A).1.1) (nI 0).toNatClampNeg (nI h)) (184 + 1 + (aBk A).1.1) (nI 1).toNatClampNeg (nI j)) (184 + 1 + (aBk A).1.1) (nI 2).toNatClampNeg (nI 1)) 108 19 = nI (aBk A).1.1 := by rw [rI_wI, if_neg (by omega)]; exact e2
      refine And.intro (mx_r (q := 184) (n := 30) (k := 4) rfl e3 hf) (And.intro (Or.inl rfl) ?_)
      rw [e3, nI_cl (by omega)]
      refine And.intro (mx_e (q := 184) (n := 30) (k := 4) (i := 3) rfl hf (by omega) rfl) ?_
      exact fin hf
    · exact And.intro (fun q => absurd (show rI (wI σ 108 0 (nI 0)) 108 19 = nI 30 by rw [en, show (aBk A).1.1 = 30 by omega]) q) (fun _ => finF hf)
  · have ek : k = 2 := (nI_eq hk (by omega)).mp e
    subst ek
    have z : ¬ nI n < nI 0 ∧ ¬ nI 0 < nI n := by rw [z]; decide
    refine s_in ?_
    refine And.intro (fun q => absurd q (by decide)) (fun _ => ?_)
    refine And.intro (fun _ => And.intro (fun _ => And.intro (fun _ => s_in ?_) (fun q => absurd q (by decide))) (fun q => absurd q (by decide))) (fun q => absurd q (by decide))
    rw [decide_eq_true z]
    refine And.intro (fun _ => ?_) (fun q => absurd q (by decide))
    refine s_bad0 rfl rfl ?_
    refine And.intro (fun _ => ?_) (fun q => absurd rfl q)
    by_cases hf : (aBk A).1.1 < 30
    · refine And.intro (fun _ => ?_) (fun q => absurd (show rI (wI σ 108 0 (nI 0)) 108 19 = nI 30 from q) (by rw [en]; exact nI_ne (by omega) (by omega) (by omega)))
      refine And.intro (mx_r (q := 184) (n := 30) (k := 4) rfl en hf) (And.intro (Or.inl rfl) ?_)
      rw [en, nI_cl (by omega)]
      refine And.intro (mx_e (q := 184) (n := 30) (k := 4) (i := 0) rfl hf (by omega) rfl) ?_
      have e1 : rI (wI (wI σ 108 0 (nI 0)) (184 + 1 + (aBk A).1.1) (nI 0).toNatClampNeg (nI h)) 108 19 = nI (aBk A).1.1 := by rw [rI_wI, if_neg (by omega)]; exact en
      refine And.intro (mx_r (q := 184) (n := 30) (k := 4) rfl e1 hf) (And.intro (Or.inl rfl) ?_)
      rw [e1, nI_cl (by omega)]
      refine And.intro (mx_e (q := 184) (n := 30) (k := 4) (i := 1) rfl hf (by omega) rfl) ?_
      have e2 : rI (wI (wI (wI σ 108 0 (nI 0)) (184 + 1 + (aBk A).1.1) (nI 0).toNatClampNeg (nI h)) (184 + 1 + (aBk A).1.1) (nI 1).toNatClampNeg (nI j)) 108 19 = nI (aBk A).1.1 := by rw [rI_wI, if_neg (by omega)]; exact e1
      refine And.intro (mx_r (q := 184) (n := 30) (k := 4) rfl e2 hf) (And.intro (Or.inl rfl) ?_)
      rw [e2, nI_cl (by omega)]
      refine And.intro (mx_e (q := 184) (n := 30) (k := 4) (i := 2) rfl hf (by omega) rfl) ?_
      have e3 : rI (wI (wI (wI (wI σ 108 0 (nI 0)) (184 + 1 + (aBk A).1.1) (nI 0).toNatClampNeg (nI h)) (184 + 1 + (aBk A).1.1) (nI 1).toNatClampNeg (nI j)) (184 + 1 + (aBk A).1.1) (nI 2).toNatClampNeg (nI 2)) 108 19 = nI (aBk A).1.1 := by rw [rI_wI, if_neg (by omega)]; exact e2
      refine And.intro (mx_r (q := 184) (n := 30) (k := 4) rfl e3 hf) (And.intro (Or.inl rfl) ?_)
      rw [e3, nI_cl (by omega)]
      refine And.intro (mx_e (q := 184) (n := 30) (k := 4) (i := 3) rfl hf (by omega) rfl) ?_
      exact fin hf
    · exact And.intro (fun q => absurd (show rI (wI σ 108 0 (nI 0)) 108 19 = nI 30 by rw [en, show (aBk A).1.1 = 30 by omega]) q) (fun _ => finF hf)
theorem MC_gauge_bad {x y n : Int32} (hv : VA A) (hx : ¬ okG (aSk A) x y n) : MC w (d + 3) 0 0 m_Mo_gauge [.int x, .int y, .int n] A 1 v A := by
  intro σ P X hI hP
  have hI' : IM A (wI σ 108 0 (nI 0)) := hI.thr hv
  have hS := hv.2.2.1
  have s1 := hS.1
  have s2 := hS.2.1
  have fin := hP _ (nI 0) (((frM.rfl σ).wI (a := 108) (k := 0) (x := nI 0) (by omega)).wI (a := 108) (k := 0) (x := nI 1) (by omega)) (hI'.thr hv) rfl (fun q => by omega)
  refine meth_ok k_Mo_gauge q_Mo_gauge rfl fun At hAt => hAt 150 _ _ _ _ _ _ ?_
  refine s_isIn hI' ?_
  refine And.intro (fun _ => s_bad1 (by decide) rfl (by omega) (by omega) (And.intro (fun q => absurd q (by decide)) (fun _ => fin))) (fun q0 => ?_)
  have z0 := of_decide_eq_true (bI_ne q0)
  refine s_MisWater ?_
  refine And.intro (fun q1 => ?_) (fun _ => s_bad1 (by decide) rfl (by omega) (by omega) (And.intro (fun q => absurd q (by decide)) (fun _ => fin)))
  have z1 := of_decide_eq_true (bI_ne q1)
  exact absurd ⟨z0.1.1, fun q => in_bad (by omega) (Or.inr q) z0.1, z0.2.1, fun q => in_bad (by omega) (Or.inr q) z0.2, z1.1, z1.2⟩ hx
theorem MC_gauge_ok {x y n : Nat} (hv : VA A) (hx : okG (aSk A) (nI x) (nI y) (nI n)) (hxy : x < 2 ^ 31 ∧ y < 2 ^ 31) :
    (∀ hf : hasG (aBk A).2.2 x y ∨ ¬ (aBk A).2.2.1 < 9, MC w (d + 3) 0 0 m_Mo_gauge [.int (nI x), .int (nI y), .int (nI n)] A 0 (.int (-1)) A) ∧
    (∀ hf : ¬ hasG (aBk A).2.2 x y ∧ (aBk A).2.2.1 < 9, MC w (d + 3) 0 0 m_Mo_gauge [.int (nI x), .int (nI y), .int (nI n)] A 0 (.int (nI ((aBk A).2.2.1 + 1))) (sBk A ((aBk A).1, (aBk A).2.1, addR (aBk A).2.2 (fun i => if i = 0 then x else if i = 1 then y else n)))) := by
  have hS := hv.2.2.1
  have s1 := hS.1
  have s2 := hS.2.1
  have hm := hv.2.2.2.1.2.2.1
  have hb := hv.2.2.2.1.2.2.2.2.2.1
  have i1 : (¬ nI x < nI 0 ∧ ¬ nI (kT (aSk A) 0) - nI 1 < nI x) ∧ (¬ nI y < nI 0 ∧ ¬ nI (kT (aSk A) 1) - nI 1 < nI y) := by
    rcases rng (nI x) (n := kT (aSk A) 0) (by omega) with ⟨a, ha, ea⟩ | q
    · rcases rng (nI y) (n := kT (aSk A) 1) (by omega) with ⟨b, hb, eb⟩ | q
      · rw [ea, eb]; exact ⟨in_ok ha (by omega), in_ok hb (by omega)⟩
      · exact absurd q (fun z => z.elim hx.2.2.1 hx.2.2.2.1)
    · exact absurd q (fun z => z.elim hx.1 hx.2.1)
  have main : ∀ (σ : Mem) (P : Option AV → Mem → Prop) (X : Nat → Mem → Prop), IM A σ → ((hasG (aBk A).2.2 x y ∨ ¬ (aBk A).2.2.1 < 9) → P (some (.int (-1))) (wI σ 108 0 (nI 0))) →
      (¬ hasG (aBk A).2.2 x y → (aBk A).2.2.1 < 9 → ∀ M, M = wRow (wI σ 108 0 (nI 0)) (224 + 1 + (aBk A).2.2.1) (fun i => if i = 0 then x else if i = 1 then y else n) 3 → P (some (.int (rI (wI M 108 21 (rI M 108 21 + nI 1)) 108 21))) (wI M 108 21 (rI M 108 21 + nI 1))) →
      Ret w true (d + 3) 0 0 m_Mo_gauge [.ref 108, .int (nI x), .int (nI y), .int (nI n)] σ P X := by
    intro σ P X hI finN finY
    have hI' : IM A (wI σ 108 0 (nI 0)) := hI.thr hv
    have en := hI'.bk.2.2.1
    refine meth_ok k_Mo_gauge q_Mo_gauge rfl fun At hAt => ?_
    have loop : ∀ m k, k + m = (aBk A).2.2.1 → (∀ i, i < k → ¬ ((aBk A).2.2.2 i 0 = x ∧ (aBk A).2.2.2 i 1 = y)) → At 39 [.ref 108, .int (nI x), .int (nI y), .int (nI n), .int (nI k)] [] (wI σ 108 0 (nI 0)) 0 0 := by
      intro m
      induction m with
      | zero =>
        intro k hk hno
        have hg : ¬ hasG (aBk A).2.2 x y := fun ⟨i, h1, h2⟩ => hno i (by omega) h2
        refine hAt 150 _ _ _ _ _ _ ?_
        refine And.intro (fun _ => ?_) (fun q => absurd (show rI (wI σ 108 0 (nI 0)) 108 21 ≤ nI k by rw [en]; exact nI_le (by omega) (by omega)) q)
        by_cases hf : (aBk A).2.2.1 < 9
        · refine And.intro (fun _ => ?_) (fun q => absurd (show rI (wI σ 108 0 (nI 0)) 108 21 = nI 9 from q) (by rw [en]; exact nI_ne (by omega) (by omega) (by omega)))
          refine And.intro (mx_r (q := 224) (n := 9) (k := 3) rfl en hf) (And.intro (Or.inl rfl) ?_)
          rw [en, nI_cl (by omega)]
          refine And.intro (mx_e (q := 224) (n := 9) (k := 3) (i := 0) rfl hf (by omega) rfl) ?_
          have e1 : rI (wI (wI σ 108 0 (nI 0)) (224 + 1 + (aBk A).2.2.1) (nI 0).toNatClampNeg (nI x)) 108 21 = nI (aBk A).2.2.1 := by rw [rI_wI, if_neg (by omega)]; exact en
          refine And.intro (mx_r (q := 224) (n := 9) (k := 3) rfl e1 hf) (And.intro (Or.inl rfl) ?_)
          rw [e1, nI_cl (by omega)]
          refine And.intro (mx_e (q := 224) (n := 9) (k := 3) (i := 1) rfl hf (by omega) rfl) ?_
          have e2 : rI (wI (wI (wI σ 108 0 (nI 0)) (224 + 1 + (aBk A).2.2.1) (nI 0).toNatClampNeg (nI x)) (224 + 1 + (aBk A).2.2.1) (nI 1).toNatClampNeg (nI y)) 108 21 = nI (aBk A).2.2.1 := by rw [rI_wI, if_neg (by omega)]; exact e1
          refine And.intro (mx_r (q := 224) (n := 9) (k := 3) rfl e2 hf) (And.intro (Or.inl rfl) ?_)
          rw [e2, nI_cl (by omega)]
          refine And.intro (mx_e (q := 224) (n := 9) (k := 3) (i := 2) rfl hf (by omega) rfl) ?_
          exact finY hg hf _ rfl
        · exact And.intro (fun q => absurd (show rI (wI σ 108 0 (nI 0)) 108 21 = nI 9 by rw [en, show (aBk A).2.2.1 = 9 by omega]) q) (fun _ => finN (Or.inr hf))
      | succ m ih =>
        intro k hk hno
        have hkn : k < (aBk A).2.2.1 := by omega
        have r0 := hI'.bk.2.2.2 k hkn 0 (by omega)
        have r1 := hI'.bk.2.2.2 k hkn 1 (by omega)
        have q := ih (k + 1) (by omega)
        rw [nI_s] at q
        have bb := hb k hkn
        refine hAt 150 _ _ _ _ _ _ ?_
        refine And.intro (fun q => absurd (show rI (wI σ 108 0 (nI 0)) 108 21 ≤ nI k from q) (by rw [en]; exact nI_ge hkn (by omega))) (fun _ => ?_)
        refine And.intro (mx_r (q := 224) (n := 9) (k := 3) rfl rfl (show k < 9 by omega)) (And.intro (Or.inl rfl) ?_)
        rw [nI_cl (by omega)]
        refine And.intro (mx_e (q := 224) (n := 9) (k := 3) (i := 0) rfl (by omega) (by omega) rfl) ?_
        have go : ¬ ((aBk A).2.2.2 k 0 = x ∧ (aBk A).2.2.2 k 1 = y) → At 39 [.ref 108, .int (nI x), .int (nI y), .int (nI n), .int (nI k + nI 1)] [] (wI σ 108 0 (nI 0)) 0 0 := fun z => q (fun i hi => by
          by_cases e : i = k
          · rw [e]; exact z
          · exact hno i (by omega))
        refine And.intro (fun z => go (fun y => z (show rI (wI σ 108 0 (nI 0)) (224 + 1 + k) 0 = nI x by rw [r0, y.1]))) (fun z0 => ?_)
        refine And.intro (mx_r (q := 224) (n := 9) (k := 3) rfl rfl (show k < 9 by omega)) (And.intro (Or.inl rfl) ?_)
        rw [nI_cl (by omega)]
        refine And.intro (mx_e (q := 224) (n := 9) (k := 3) (i := 1) rfl (by omega) (by omega) rfl) ?_
        refine And.intro (fun z => go (fun y => z (show rI (wI σ 108 0 (nI 0)) (224 + 1 + k) 1 = nI _ by rw [r1, y.2]))) (fun z1 => ?_)
        have w0 : rI (wI σ 108 0 (nI 0)) (224 + 1 + k) 0 = nI x := z0
        have w1 : rI (wI σ 108 0 (nI 0)) (224 + 1 + k) 1 = nI y := z1
        rw [r0, nI_eq (by omega) hxy.1] at w0
        rw [r1, nI_eq (by omega) hxy.2] at w1
        exact finN (Or.inl ⟨k, hkn, w0, w1⟩)
    refine hAt 150 _ _ _ _ _ _ ?_
    refine s_isIn hI' ?_
    rw [decide_eq_true i1]
    refine And.intro (fun q => absurd q (by decide)) (fun _ => ?_)
    refine s_MisWater ?_
    rw [decide_eq_true hx.2.2.2.2]
    refine And.intro (fun _ => ?_) (fun q => absurd q (by decide))
    refine s_bad0 rfl rfl ?_
    refine And.intro (fun _ => ?_) (fun q => absurd rfl q)
    exact loop (aBk A).2.2.1 0 (by omega) (fun i hi => absurd hi (Nat.not_lt_zero i))
  refine ⟨fun hf σ P X hI hP => main σ P X hI (fun _ => hP _ _ ((frM.rfl σ).wI (by omega)) (hI.thr hv) rfl (fun _ => rfl)) (fun h1 h2 => absurd hf (fun z => z.elim h1 (fun y => y h2))), fun hf σ P X hI hP => main σ P X hI (fun z => absurd hf (fun y => z.elim y.1 (fun u => u y.2))) (fun h1 h2 M hM => ?_)⟩
  have hI' : IM A (wI σ 108 0 (nI 0)) := hI.thr hv
  have e : rI M 108 21 = nI (aBk A).2.2.1 := by rw [hM, rI_wRow, if_neg (by omega)]; exact hI'.bk.2.2.1
  rw [e, nI_add]
  subst hM
  refine hP _ _ ((((frM.rfl σ).wI (by omega)).wRow (by omega) 3).wI (by omega)) (hI'.pG _ hv h2) ?_ (fun _ => congrArg Value.int (by rw [rI_wI, if_pos ⟨rfl, rfl⟩]))
  rw [rI_wI, if_neg (by omega), rI_wRow, if_neg (by omega)]; rfl
end ME
