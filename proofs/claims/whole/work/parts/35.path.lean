/-! path, on both sides -/
def pth (s : Sk) (k h : Nat) : Int32 := match ps s k h with
  | none => -1
  | some q => nI (100 * q.1 + q.2)
theorem dv8 : ∀ a, a < 64 → nI a / nI 8 = nI (a / 8) := by decide
theorem rm8 : ∀ a, a < 64 → nI a - nI a / nI 8 * nI 8 = nI (a % 8) := by decide
section PA
variable {w : Wd} {d : Nat} {A : St} {v : AV}
theorem s_placeOf {σ : Mem} {s : Sk} {k h : Nat} {x : Int32} {P : Option AV → Mem → Prop} {X : Nat → Mem → Prop} (hv : VS s) (hk : k < kT s 2) (hx : x = tr s k h) (hP : P (some (.int (pth s k h))) σ) : Ret w true (d + 1) 0 0 m_OC_placeOf [.int x] σ P X := by
  have s1 := hv.1
  have s2 := hv.2.1
  subst hx
  refine meth_ok k_OC_placeOf q_OC_placeOf rfl fun At hAt => hAt 50 _ _ _ _ _ _ ?_
  cases e : ps s k h with
  | none =>
    rw [show tr s k h = -1 by unfold tr; rw [e]]
    rw [show pth s k h = -1 by unfold pth; rw [e]] at hP
    exact And.intro (fun q => absurd q (by decide)) (fun _ => hP)
  | some q =>
    have hq := ps_in hv hk h q e
    rw [show tr s k h = nI (8 * q.2 + q.1) by unfold tr; rw [e]]
    rw [show pth s k h = nI (100 * q.1 + q.2) by unfold pth; rw [e]] at hP
    refine And.intro (fun _ => ?_) (fun q => absurd (nI_le (Nat.zero_le _) (by omega)) q)
    refine And.intro (by decide) (And.intro (by decide) ?_)
    have e1 : nI 100 * (nI (8 * q.2 + q.1) - nI (8 * q.2 + q.1) / nI 8 * nI 8) + nI (8 * q.2 + q.1) / nI 8 = nI (100 * q.1 + q.2) := by
      rw [rm8 _ (by omega), dv8 _ (by omega), nI_mul, nI_add, show (8 * q.2 + q.1) % 8 = q.1 by omega, show (8 * q.2 + q.1) / 8 = q.2 by omega]
    rw [← e1] at hP
    exact hP
theorem CC_path_bad1 {x y : Int32} (hx : x < nI 0 ∨ nI (kT (aSk A) 2) ≤ x) : CC w (d + 7) m_OC_path [.int x, .int y] A 2 v A := by
  intro σ P X hI _ hX
  refine meth_ok k_OC_path q_OC_path rfl fun At hAt => hAt 50 _ _ _ _ _ _ ?_
  exact callG 1 6 (by omega) (by omega) (s_needCloud_bad hI hx (by omega) (by omega) (fun n => hX 1 rfl _ (frC.nX σ n) (hI.nX n)))
theorem CC_path_bad2 {j : Nat} {y : Int32} (hv : VA A) (hj : j < kT (aSk A) 2) (hy : y < nI 0 ∨ nI 50 ≤ y) : CC w (d + 7) m_OC_path [.int (nI j), .int y] A 1 v A := by
  intro σ P X hI _ hX
  refine meth_ok k_OC_path q_OC_path rfl fun At hAt => hAt 50 _ _ _ _ _ _ ?_
  refine callG 0 0 (by omega) (by omega) (s_needCloud_ok hI hv hj ?_)
  refine s_isHour ?_
  rw [decide_eq_false (fun z => hy.elim z.1 z.2)]
  exact callG 1 6 (by omega) (by omega) (s_need_bad rfl (by omega) (by omega) hI.n (fun n => hX 0 rfl _ (frC.nX σ n) (hI.nX n)))
theorem CC_path_ok {j h : Nat} (hv : VA A) (hj : j < kT (aSk A) 2) (hh : h < 50) : CC w (d + 7) m_OC_path [.int (nI j), .int (nI h)] A 0 (.int (pth (aSk A) j h)) A := by
  intro σ P X hI hP _
  have hn : kT (aSk A) 2 ≤ 8 := hv.2.2.1.2.2.1
  refine meth_ok k_OC_path q_OC_path rfl fun At hAt => hAt 50 _ _ _ _ _ _ ?_
  refine callG 0 0 (by omega) (by omega) (s_needCloud_ok hI hv hj ?_)
  refine s_isHour ?_
  rw [decide_eq_true ⟨nI_nlt (Nat.zero_le _) (by omega), nI_ge hh (by omega)⟩]
  refine callG 0 0 (by omega) (by omega) (s_need_ok (by decide) ?_)
  refine s_Table_get (a := 14) (na := 15) (mo := 8) (wd := 50) rfl (show j < 8 by omega) hh ?_
  refine s_placeOf hv.2.2.1 hj (hI.sk.2.2.2.2.2 j hj h hh) ?_
  exact hP rfl σ (frC.rfl σ) hI
theorem MC_path_bad1 {x y : Int32} (hv : VA A) (hx : x < nI 0 ∨ nI (kT (aSk A) 2) ≤ x) : MC w (d + 4) 0 0 m_Mo_path [.int x, .int y] A 1 v A := by
  intro σ P X hI hP
  have hI' : IM A (wI σ 108 0 (nI 0)) := hI.thr hv
  have hn : kT (aSk A) 2 ≤ 8 := hv.2.2.1.2.2.1
  refine meth_ok k_Mo_path q_Mo_path rfl fun At hAt => hAt 80 _ _ _ _ _ _ ?_
  refine s_isCloud hI' ?_
  rw [decide_eq_false (in_bad (by omega) hx)]
  refine And.intro (fun q => absurd rfl q) (fun _ => ?_)
  refine s_bad1 (by decide) rfl (by omega) (by omega) ?_
  refine And.intro (fun _ => ?_) (fun q => absurd q (by decide))
  exact hP _ _ (((frM.rfl σ).wI (by omega)).wI (by omega)) (hI'.thr hv) rfl (fun q => by omega)
theorem MC_path_bad2 {j : Nat} {y : Int32} (hv : VA A) (hj : j < kT (aSk A) 2) (hy : y < nI 0 ∨ nI 50 ≤ y) : MC w (d + 4) 0 0 m_Mo_path [.int (nI j), .int y] A 2 v A := by
  intro σ P X hI hP
  have hI' : IM A (wI σ 108 0 (nI 0)) := hI.thr hv
  have hn : kT (aSk A) 2 ≤ 8 := hv.2.2.1.2.2.1
  refine meth_ok k_Mo_path q_Mo_path rfl fun At hAt => hAt 80 _ _ _ _ _ _ ?_
  refine s_isCloud hI' ?_
  rw [decide_eq_true (in_ok hj (by omega))]
  refine And.intro (fun _ => ?_) (fun q => absurd q (by decide))
  refine s_bad0 rfl rfl ?_
  refine And.intro (fun q => absurd rfl q) (fun _ => ?_)
  refine s_MisHour ?_
  rw [decide_eq_false (in_bad' (n := 49) (by omega) hy)]
  refine And.intro (fun q => absurd rfl q) (fun _ => ?_)
  refine s_bad1 (by decide) rfl (by omega) (by omega) ?_
  refine And.intro (fun q => absurd q (by decide)) (fun _ => ?_)
  exact hP _ _ (((frM.rfl σ).wI (by omega)).wI (by omega)) (hI'.thr hv) rfl (fun q => by omega)
theorem alS.fr {s : Sk} {k h : Nat} {σ τ : Mem} (h : alS s k h σ τ) : frM σ τ :=
  ⟨fun a h1 j => h.1 a j (by omega) (by omega), fun a _ j => congrArg (fun z => z.1 a j) h.2.1, Nat.le_of_eq (congrArg (fun z => z.2.2.1) h.2.1).symm⟩
theorem alS.im {s : Sk} {k h : Nat} {σ τ : Mem} (h : alS s k h σ τ) (hI : IM A σ) (hv : VA A) : IM A τ :=
  hI.scr hv (fun a j t => h.1 a j (by unfold trkM at t; omega) (by unfold trkM at t; omega)) (Nat.le_of_eq (congrArg (fun z => z.2.2.1) h.2.1).symm)
theorem MC_path_ok {j h : Nat} (hv : VA A) (hj : j < kT (aSk A) 2) (hh : h < 50) : MC w (d + 4) 0 0 m_Mo_path [.int (nI j), .int (nI h)] A 0 (.int (pth (aSk A) j h)) A := by
  intro σ P X hI hP
  have hI' : IM A (wI σ 108 0 (nI 0)) := hI.thr hv
  have hn : kT (aSk A) 2 ≤ 8 := hv.2.2.1.2.2.1
  refine meth_ok k_Mo_path q_Mo_path rfl fun At hAt => hAt 80 _ _ _ _ _ _ ?_
  refine s_isCloud hI' ?_
  rw [decide_eq_true (in_ok hj (by omega))]
  refine And.intro (fun _ => ?_) (fun q => absurd q (by decide))
  refine s_bad0 rfl rfl ?_
  refine And.intro (fun q => absurd rfl q) (fun _ => ?_)
  refine s_MisHour ?_
  rw [decide_eq_true ⟨nI_nlt (Nat.zero_le _) (by omega), nI_nlt (by omega) (by omega)⟩]
  refine And.intro (fun _ => ?_) (fun q => absurd q (by decide))
  refine s_bad0 rfl rfl ?_
  refine And.intro (fun _ => ?_) (fun q => absurd rfl q)
  refine s_laysAlone hI'.sk hv.2.2.1 hj fun τ hτ => ?_
  have fr := ((frM.rfl σ).wI (a := 108) (k := 0) (x := nI 0) (by omega)).trans hτ.fr
  have t0 : rI τ 108 0 = nI 0 := by rw [hτ.1 108 0 (by omega) (by omega)]; rfl
  have fin := hP τ (pth (aSk A) j h) fr (hτ.im hI' hv) t0 (fun _ => rfl)
  have al := hτ.2.2 h (by omega)
  refine And.intro (aOK_t (n := 50) (by decide) rfl rfl hh (by omega)) ?_
  rw [nI_cl (j := h) (by omega)]
  cases e : ps (aSk A) j h with
  | none =>
    rw [show pth (aSk A) j h = -1 by unfold pth; rw [e]] at fin
    exact And.intro (fun q => absurd (al.1 e) q) (fun _ => fin)
  | some q =>
    have z := al.2 q e
    have hq := ps_in hv.2.2.1 hj h q e
    have s1 := hv.2.2.1.1
    refine And.intro (fun _ => ?_) (fun y => absurd (show nI q.1 = -1 from z.1.symm.trans y) (nI_m1 (by omega)))
    refine And.intro (aOK_t (n := 50) (by decide) rfl rfl hh (by omega)) (And.intro (aOK_t (n := 50) (by decide) rfl rfl hh (by omega)) ?_)
    rw [nI_cl (j := h) (by omega)]
    have e1 : nI 100 * rI τ 336 h + rI τ 337 h = pth (aSk A) j h := by rw [z.1, z.2, nI_mul, nI_add]; unfold pth; rw [e]
    rw [← e1] at fin
    exact fin
end PA
