/-! settled on the model's side -/
/-- the price, and what all pay -/
def prA (A : St) (q : Nat) : Nat := mPr (fun k => (aBk A).2.1.2 k 1) (fun k => (aBk A).2.1.2 k 2) (aBk A).2.1.1 q (fun _ => true) (aBk A).2.1.1
def sumN (f : Nat → Nat) : Nat → Nat
  | 0 => 0
  | n + 1 => sumN f n + f n
def okS (x y : Int32) : Prop := (¬ x < nI 0 ∧ ¬ nI 9999 < x) ∧ (y = nI 0 ∨ y = nI 1)
section SM
variable {w : Wd} {d : Nat} {A : St} {v : AV}
theorem MC_settled_bad {x y : Int32} (hv : VA A) (hx : ¬ okS x y) : MC w (d + 3) 0 0 m_Mo_settled [.int x, .int y] A 1 v A := by
  intro σ P X hI hP
  have hI' : IM A (wI σ 108 0 (nI 0)) := hI.thr hv
  have fin := hP _ (nI 0) (((frM.rfl σ).wI (a := 108) (k := 0) (x := nI 0) (by omega)).wI (a := 108) (k := 0) (x := nI 1) (by omega)) (hI'.thr hv) rfl (fun q => by omega)
  refine meth_ok k_Mo_settled q_Mo_settled rfl fun At hAt => hAt 80 _ _ _ _ _ _ ?_
  refine s_MisWater ?_
  refine And.intro (fun _ => s_bad1 (by decide) rfl (by omega) (by omega) (And.intro (fun q => absurd q (by decide)) (fun _ => fin))) (fun q0 => ?_)
  have z0 := of_decide_eq_true (bI_ne q0)
  refine s_in ?_
  refine And.intro (fun q1 => ?_) (fun _ => s_bad1 (by decide) rfl (by omega) (by omega) (And.intro (fun q => absurd q (by decide)) (fun _ => fin)))
  have z1 := of_decide_eq_true (bI_ne q1)
  have hy : y = nI 0 ∨ y = nI 1 := by
    rcases rng y (n := 2) (by omega) with ⟨i, hi, rfl⟩ | q
    · have : i = 0 ∨ i = 1 := by omega
      rcases this with rfl | rfl <;> simp
    · exact absurd q (fun u => u.elim z1.1 (fun t => in_bad' (n := 1) (by omega) (Or.inr t) z1))
  exact absurd ⟨z0, hy⟩ hx
/-- what settled tells -/
def seA (A : St) (q y : Nat) : Int32 := if y = 0 then nI (prA A q) else nI (prA A q) * nI (sumN (gtA A q) (aBk A).2.1.1)
theorem MC_settled_ok {q y : Nat} (hv : VA A) (hq : q ≤ 9999) (hy : y < 2) : MC w (d + 3) 0 0 m_Mo_settled [.int (nI q), .int (nI y)] A 0 (.int (seA A q y)) A := by
  intro σ P X hI hP
  have hI' : IM A (wI σ 108 0 (nI 0)) := hI.thr hv
  have hn := hv.2.2.2.1.2.1
  refine meth_ok k_Mo_settled q_Mo_settled rfl fun At hAt => hAt 80 _ _ _ _ _ _ ?_
  refine s_MisWater ?_
  rw [decide_eq_true ⟨nI_nlt (Nat.zero_le _) (by omega), nI_nlt (by omega) (by omega)⟩]
  refine And.intro (fun q => absurd q (by decide)) (fun _ => ?_)
  refine s_in ?_
  rw [decide_eq_true ⟨nI_nlt (Nat.zero_le _) (by omega), nI_nlt (by omega) (by omega)⟩]
  refine And.intro (fun _ => ?_) (fun q => absurd q (by decide))
  refine s_bad0 rfl rfl ?_
  refine And.intro (fun _ => ?_) (fun q => absurd rfl q)
  refine s_settles hI'.bk.2.1 hn hq (bid_b hv) fun τ t1 t2 t3 => ?_
  have hN : mN τ = mN σ := congrArg (fun z => z.2.2.1) t2
  have en : rI τ 108 20 = nI (aBk A).2.1.1 := by rw [t1 _ _ (by omega)]; exact hI'.bk.2.1.1
  have fin : P (some (.int (seA A q y))) τ := by
    refine hP τ _ ⟨fun a h1 j => ?_, fun a h1 j => congrArg (fun z => z.1 a j) t2, by omega⟩ (hI'.scr hv (fun a j t => t1 a j (by unfold trkM at t; omega)) (by show mN σ ≤ mN τ; omega)) ?_ (fun _ => rfl)
    · rw [t1 a j (by omega), rI_wI, if_neg (by omega)]
    · rw [t1 108 0 (by omega)]; rfl
  have loop : ∀ m k, k + m = (aBk A).2.1.1 → At 48 [.ref 108, .int (nI q), .int (nI y), .int (nI (prA A q)), .int (nI (sumN (gtA A q) k)), .int (nI k)] [] τ 0 0 := by
    intro m
    induction m with
    | zero =>
      intro k hk
      have e : k = (aBk A).2.1.1 := by omega
      subst e
      refine hAt 80 _ _ _ _ _ _ ?_
      refine And.intro (fun _ => ?_) (fun z => absurd (show rI τ 108 20 ≤ nI (aBk A).2.1.1 by rw [en]; exact nI_le (Nat.le_refl _) (by omega)) z)
      have : y = 0 ∨ y = 1 := by omega
      rcases this with rfl | rfl
      · exact And.intro (fun z => absurd rfl z) (fun _ => fin)
      · exact And.intro (fun _ => fin) (fun z => absurd z (by decide))
    | succ m ih =>
      intro k hk
      have hk' : k < (aBk A).2.1.1 := by omega
      have z := ih (k + 1) (by omega)
      rw [nI_s k, sumN, ← nI_add, ← show rI τ 358 k = nI (gtA A q k) from t3 k hk'] at z
      refine hAt 80 _ _ _ _ _ _ ?_
      refine And.intro (fun z => absurd (show rI τ 108 20 ≤ nI k from z) (by rw [en]; exact nI_ge hk' (by omega))) (fun _ => ?_)
      refine And.intro (aOK_t (n := 8) (by decide) rfl rfl (show k < 8 by omega) (by omega)) ?_
      rw [nI_cl (j := k) (by omega)]
      exact z
  exact loop (aBk A).2.1.1 0 (by omega)
end SM
