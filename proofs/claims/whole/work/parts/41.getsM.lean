/-! gets on the model's side -/
/-- what a bid gets -/
def gtA (A : St) (q i : Nat) : Nat := gA (fun k => (aBk A).2.1.2 k 1) (fun k => (aBk A).2.1.2 k 2) (aBk A).2.1.1 q i
section GM
variable {w : Wd} {d : Nat} {A : St} {v : AV}
theorem bid_b (hv : VA A) : ∀ k, k < (aBk A).2.1.1 → (aBk A).2.1.2 k 1 ≤ 999 ∧ (aBk A).2.1.2 k 2 ≤ 99 := fun k hk => by
  have := hv.2.2.2.1.2.2.2.2.1 k hk
  exact ⟨this.2.1.2, this.2.2⟩
theorem MC_gets_bad1 {x y : Int32} (hv : VA A) (hx : y < nI 0 ∨ nI (aBk A).2.1.1 ≤ y) : MC w (d + 3) 0 0 m_Mo_gets [.int x, .int y] A 1 v A := by
  intro σ P X hI hP
  have hI' : IM A (wI σ 108 0 (nI 0)) := hI.thr hv
  have hn := hv.2.2.2.1.2.1
  have en := hI'.bk.2.1.1
  refine meth_ok k_Mo_gets q_Mo_gets rfl fun At hAt => hAt 80 _ _ _ _ _ _ ?_
  refine s_in ?_
  rw [en, decide_eq_false (in_bad (by omega) hx)]
  refine And.intro (fun q => absurd rfl q) (fun _ => ?_)
  refine s_bad1 (by decide) rfl (by omega) (by omega) ?_
  refine And.intro (fun _ => ?_) (fun q => absurd q (by decide))
  exact hP _ _ (((frM.rfl σ).wI (by omega)).wI (by omega)) (hI'.thr hv) rfl (fun q => by omega)
theorem MC_gets_bad2 {x : Int32} {i : Nat} (hv : VA A) (hi : i < (aBk A).2.1.1) (hy : x < nI 0 ∨ nI 10000 ≤ x) : MC w (d + 3) 0 0 m_Mo_gets [.int x, .int (nI i)] A 2 v A := by
  intro σ P X hI hP
  have hI' : IM A (wI σ 108 0 (nI 0)) := hI.thr hv
  have hn := hv.2.2.2.1.2.1
  have en := hI'.bk.2.1.1
  refine meth_ok k_Mo_gets q_Mo_gets rfl fun At hAt => hAt 80 _ _ _ _ _ _ ?_
  refine s_in ?_
  rw [en, decide_eq_true (in_ok hi (by omega))]
  refine And.intro (fun _ => ?_) (fun q => absurd q (by decide))
  refine s_bad0 rfl rfl ?_
  refine And.intro (fun q => absurd rfl q) (fun _ => ?_)
  refine s_MisWater ?_
  rw [decide_eq_false (in_bad' (n := 9999) (by omega) hy)]
  refine And.intro (fun q => absurd rfl q) (fun _ => ?_)
  refine s_bad1 (by decide) rfl (by omega) (by omega) ?_
  refine And.intro (fun q => absurd q (by decide)) (fun _ => ?_)
  exact hP _ _ (((frM.rfl σ).wI (by omega)).wI (by omega)) (hI'.thr hv) rfl (fun q => by omega)
theorem MC_gets_ok {q i : Nat} (hv : VA A) (hi : i < (aBk A).2.1.1) (hq : q ≤ 9999) : MC w (d + 3) 0 0 m_Mo_gets [.int (nI q), .int (nI i)] A 0 (.int (nI (gtA A q i))) A := by
  intro σ P X hI hP
  have hI' : IM A (wI σ 108 0 (nI 0)) := hI.thr hv
  have hn := hv.2.2.2.1.2.1
  have en := hI'.bk.2.1.1
  refine meth_ok k_Mo_gets q_Mo_gets rfl fun At hAt => hAt 80 _ _ _ _ _ _ ?_
  refine s_in ?_
  rw [en, decide_eq_true (in_ok hi (by omega))]
  refine And.intro (fun _ => ?_) (fun q => absurd q (by decide))
  refine s_bad0 rfl rfl ?_
  refine And.intro (fun q => absurd rfl q) (fun _ => ?_)
  refine s_MisWater ?_
  rw [decide_eq_true ⟨nI_nlt (Nat.zero_le _) (by omega), nI_nlt (by omega) (by omega)⟩]
  refine And.intro (fun _ => ?_) (fun q => absurd q (by decide))
  refine s_bad0 rfl rfl ?_
  refine And.intro (fun _ => ?_) (fun q => absurd rfl q)
  refine s_settles hI'.bk.2.1 hn hq (bid_b hv) fun τ t1 t2 t3 => ?_
  refine And.intro (aOK_t (n := 8) (by decide) rfl rfl (show i < 8 by omega) (by omega)) ?_
  rw [nI_cl (j := i) (by omega)]
  have hN : mN τ = mN σ := congrArg (fun z => z.2.2.1) t2
  refine hP τ _ ⟨fun a h1 j => ?_, fun a h1 j => congrArg (fun z => z.1 a j) t2, by omega⟩ (hI'.scr hv (fun a j t => t1 a j (by unfold trkM at t; omega)) (by show mN σ ≤ mN τ; omega)) ?_ (fun _ => congrArg Value.int (t3 i hi))
  · rw [t1 a j (by omega), rI_wI, if_neg (by omega)]
  · rw [t1 108 0 (by omega)]; rfl
end GM
