/-! settled on the model's side -/
/-- the price, and what all pay -/
def prA (A : St) (q : Nat) : Nat := mPr (fun k => (aBk A).2.1.2 k 1) (fun k => (aBk A).2.1.2 k 2) (aBk A).2.1.1 q (fun _ => true) (aBk A).2.1.1
def sumN (f : Nat → Nat) : Nat → Nat
  | 0 => 0
  | n + 1 => sumN f n + f n
def okS (x y : Int32) : Prop := (¬ x < nI 0 ∧ ¬ nI 9999 < x) ∧ (y = nI 0 ∨ y = nI 1)
section SM
variable {w : Wd} {d : Nat} {A : St} {v : AV}
theorem MC_settled_bad {x y : Int32} (hv : VA A) (hx : ¬ okS x y) : MC w (d + 3) 0 0 m_Mo_settled [.int x, .int y] A 1 v A := by
  intro σ P X hI hP
  have hI' : IM A (wI σ 106 0 (nI 0)) := hI.thr hv
  have fin := hP _ (.int (nI 0)) (((frM.rfl σ).wI (a := 106) (k := 0) (x := nI 0) (by omega)).wI (a := 106) (k := 0) (x := nI 1) (by omega)) (hI'.thr hv) rfl (fun q => by omega)
  refine meth_ok k_Mo_settled q_Mo_settled rfl fun At hAt => hAt 80 _ _ _ _ _ _ ?_
  refine s_MisWater ?_
  refine And.intro (fun _ => s_bad1 (by decide) rfl (by omega) (by omega) (And.intro (fun q => absurd q (by decide)) (fun _ => fin))) (fun q0 => ?_)
  have z0 := of_decide_eq_true (bI_ne q0)
  refine s_in ?_
  refine And.intro (fun q1 => ?_) (fun _ => s_bad1 (by decide) rfl (by omega) (by omega) (And.intro (fun q => absurd q (by decide)) (fun _ => fin)))
  have z1 := of_decide_eq_true (bI_ne q1)
  have hy : y = nI 0 ∨ y = nI 1 := by
    rcases rng y (n := 2) (by omega) with ⟨i, hi, rfl⟩ | q
    · have : i = 0 ∨ i = 1 := by omega
      rcases this with rfl | rfl <;> simp
    · exact absurd q (fun u => u.elim z1.1 (fun t => in_bad' (n := 1) (by omega) (Or.inr t) z1))
  exact absurd ⟨z0, hy⟩ hx
end SM
