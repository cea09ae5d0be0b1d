/-! THE MODEL'S SIMPLE CALLS -/
/-- the places of the model that the abstract state speaks of -/
def trkM (a j : Nat) : Prop := (a = 108 ∧ (j = 1 ∨ j = 3 ∨ j = 19 ∨ j = 20 ∨ j = 21 ∨ j = 22)) ∨ a = 109 ∨ a = 111 ∨ (123 ≤ a ∧ a < 132) ∨ (142 ≤ a ∧ a < 150) ∨ (164 ≤ a ∧ a < 176) ∨ (181 ≤ a ∧ a < 184) ∨ (185 ≤ a ∧ a < 215) ∨ (216 ≤ a ∧ a < 224) ∨ (225 ≤ a ∧ a < 234) ∨ (235 ≤ a ∧ a < 238)
theorem IM.scr {A : St} {σ σ' : Mem} (h : IM A σ) (hv : VA A) (f : ∀ a j, trkM a j → rI σ' a j = rI σ a j) (hn : mN σ ≤ mN σ') : IM A σ' := by
  obtain ⟨h1, h2, h3, h4, h5, h6, h7, h8⟩ := h
  obtain ⟨v1, v2, v3, v4, v5, v6⟩ := hv
  obtain ⟨s1, s2, s3, s4, s5, -, -, -, -, -, s6, -⟩ := v3
  obtain ⟨b1, b2, b3, -⟩ := v4
  refine ⟨Nat.le_trans h1 hn, by rw [f _ _ (by unfold trkM; omega)]; exact h2, fun j hj => by rw [f _ _ (by unfold trkM; omega)]; exact h3 j hj, by rw [f _ _ (by unfold trkM; omega)]; exact h4, ?_, ?_, by rw [f _ _ (by unfold trkM; omega)]; exact h7, fun i hi => ?_⟩
  · obtain ⟨k1, k2, k3, k4, k5⟩ := h5
    exact ⟨fun i hi => by rw [f _ _ (by unfold trkM; omega)]; exact k1 i hi, fun k hk i hi => by rw [f _ _ (by unfold trkM; omega)]; exact k2 k hk i hi, fun k hk i hi => by rw [f _ _ (by unfold trkM; omega)]; exact k3 k hk i hi,
      fun k hk i hi => by rw [f _ _ (by unfold trkM; omega)]; exact k4 k hk i hi, fun k hk i hi => by rw [f _ _ (by unfold trkM; omega)]; exact k5 k hk i hi⟩
  · obtain ⟨k1, k2, k3⟩ := h6
    exact ⟨⟨by rw [f _ _ (by unfold trkM; omega)]; exact k1.1, fun k hk i hi => by rw [f _ _ (by unfold trkM; omega)]; exact k1.2 k hk i hi⟩, ⟨by rw [f _ _ (by unfold trkM; omega)]; exact k2.1, fun k hk i hi => by rw [f _ _ (by unfold trkM; omega)]; exact k2.2 k hk i hi⟩,
      ⟨by rw [f _ _ (by unfold trkM; omega)]; exact k3.1, fun k hk i hi => by rw [f _ _ (by unfold trkM; omega)]; exact k3.2 k hk i hi⟩⟩
  · obtain ⟨k1, k2, k3, k4, k5, k6⟩ := h8 i hi
    have g := fun j => f (235 + i) j (by unfold trkM; omega)
    exact ⟨by rw [g]; exact k1, by rw [g]; exact k2, by rw [g]; exact k3, fun k hk i hi => by rw [g]; exact k4 k hk i hi, fun k hk i hi => by rw [g]; exact k5 k hk i hi, fun k hk i hi => by rw [g]; exact k6 k hk i hi⟩
theorem IM.w {A : St} {σ : Mem} {a k : Nat} {x : Int32} (h : IM A σ) (hv : VA A) (ha : ¬ trkM a k) : IM A (wI σ a k x) :=
  h.scr hv (fun b j t => by rw [rI_wI, if_neg (fun z => ha (by rw [← z.1, ← z.2]; exact t))]) (Nat.le_refl _)
theorem IM.thr {A : St} {σ : Mem} {x : Int32} (h : IM A σ) (hv : VA A) : IM A (wI σ 108 0 x) := h.w hv (by unfold trkM; omega)
theorem IM.sk {A : St} {σ : Mem} (h : IM A σ) : skM σ (aSk A) := h.2.2.2.2.1
theorem IM.bk {A : St} {σ : Mem} (h : IM A σ) : bkM σ (aBk A) := h.2.2.2.2.2.1
theorem nI_z {c : Nat} (h0 : ¬ c = 0) (h : c < 2 ^ 31) : ¬ nI c = nI 0 := nI_ne h (by decide) h0
theorem bI_nar (b : Bool) : narrow .boolean (.int (bI b)) = .int (bI b) := by cases b <;> rfl
theorem nI_pr (m : Nat) : nI (m + 1) - nI 1 = nI m := nI_pred m
section MA
variable {w : Wd} {d KC KS : Nat} {σ : Mem} {A : St} {v : AV} {P : Option AV → Mem → Prop} {X : Nat → Mem → Prop}
theorem s_in {x lo hi : Int32} (hP : P (some (.int (bI (decide (¬ x < lo ∧ ¬ hi < x))))) σ) : Ret w true (d + 1) 0 0 m_Mo_in [.int x, .int lo, .int hi] σ P X := by
  refine meth_ok k_Mo_in q_Mo_in rfl fun At hAt => hAt 50 _ _ _ _ _ _ ?_
  refine And.intro (fun q => And.intro rfl ?_) (fun q => And.intro (fun q2 => And.intro rfl ?_) (fun q2 => And.intro rfl ?_))
  · rw [decide_eq_false (fun z => z.1 q)] at hP; exact hP
  · rw [decide_eq_false (fun z => z.2 q2)] at hP; exact hP
  · rw [decide_eq_true ⟨q, q2⟩] at hP; exact hP
theorem s_bad1 {c : Nat} {b : Int32} (hb : ¬ b = nI 0) (h : rI σ 108 0 = nI 0) (h0 : ¬ c = 0) (hc : c < 2 ^ 31) (hP : P (some (.int (nI 1))) (wI σ 108 0 (nI c))) : Ret w true (d + 1) 0 0 m_Mo_bad [.ref 108, .int b, .int (nI c)] σ P X := by
  refine meth_ok k_Mo_bad q_Mo_bad rfl fun At hAt => hAt 50 _ _ _ _ _ _ ?_
  refine And.intro (fun q => absurd q hb) (fun _ => And.intro (fun q => absurd h q) (fun _ => ?_))
  exact And.intro (fun q => absurd (show nI c = nI 0 from (show rI (wI σ 108 0 (nI c)) 108 0 = nI 0 from q)) (nI_z h0 hc)) (fun _ => And.intro rfl hP)
theorem s_bad0 {c : Int32} {b : Int32} (hb : b = nI 0) (h : rI σ 108 0 = nI 0) (hP : P (some (.int (nI 0))) σ) : Ret w true (d + 1) 0 0 m_Mo_bad [.ref 108, .int b, .int c] σ P X := by
  refine meth_ok k_Mo_bad q_Mo_bad rfl fun At hAt => hAt 50 _ _ _ _ _ _ ?_
  exact And.intro (fun _ => And.intro (fun _ => And.intro rfl hP) (fun q => absurd h q)) (fun q => absurd hb q)
theorem s_told {i : Nat} (hS : skM σ (aSk A)) (hi : i < 11) : rI σ 111 i = nI (kT (aSk A) i) := hS.1 i hi
theorem s_isCloud {x : Int32} (hI : IM A σ) (hP : P (some (.int (bI (decide (¬ x < nI 0 ∧ ¬ nI (kT (aSk A) 2) - nI 1 < x))))) σ) : Ret w true (d + 2) 0 0 m_Mo_isCloud [.ref 108, .int x] σ P X := by
  refine meth_ok k_Mo_isCloud q_Mo_isCloud rfl fun At hAt => hAt 50 _ _ _ _ _ _ ?_
  refine And.intro (aOK_t (n := 11) (j := 2) (by decide) rfl rfl (by omega) (by omega)) ?_
  refine s_in (And.intro (bI_nar _) ?_)
  rw [← hI.sk.1 2 (by omega)] at hP
  exact hP
theorem s_isField {x : Int32} (hI : IM A σ) (hP : P (some (.int (bI (decide (¬ x < nI 0 ∧ ¬ nI (kT (aSk A) 3) - nI 1 < x))))) σ) : Ret w true (d + 2) 0 0 m_Mo_isField [.ref 108, .int x] σ P X := by
  refine meth_ok k_Mo_isField q_Mo_isField rfl fun At hAt => hAt 50 _ _ _ _ _ _ ?_
  refine And.intro (aOK_t (n := 11) (j := 3) (by decide) rfl rfl (by omega) (by omega)) ?_
  refine s_in (And.intro (bI_nar _) ?_)
  rw [← hI.sk.1 3 (by omega)] at hP
  exact hP
theorem s_MisHour {x : Int32} (hP : P (some (.int (bI (decide (¬ x < nI 0 ∧ ¬ nI 49 < x))))) σ) : Ret w true (d + 2) 0 0 m_Mo_isHour [.int x] σ P X := by
  refine meth_ok k_Mo_isHour q_Mo_isHour rfl fun At hAt => hAt 50 _ _ _ _ _ _ ?_
  exact s_in (And.intro (bI_nar _) hP)
theorem s_MisWater {x : Int32} (hP : P (some (.int (bI (decide (¬ x < nI 0 ∧ ¬ nI 9999 < x))))) σ) : Ret w true (d + 2) 0 0 m_Mo_isWater [.int x] σ P X := by
  refine meth_ok k_Mo_isWater q_Mo_isWater rfl fun At hAt => hAt 50 _ _ _ _ _ _ ?_
  exact s_in (And.intro (bI_nar _) hP)
/-- up to n - 1, told by a difference -/
theorem in_ok {j n : Nat} (hj : j < n) (hn : n < 2 ^ 31) : (¬ nI j < nI 0 ∧ ¬ nI n - nI 1 < nI j) := by
  obtain ⟨m, rfl⟩ : ∃ m, n = m + 1 := ⟨n - 1, by omega⟩
  rw [nI_pr m]
  exact ⟨nI_nlt (Nat.zero_le _) (by omega), nI_nlt (by omega) (by omega)⟩
theorem in_bad {x : Int32} {n : Nat} (hn : n < 2 ^ 31) (hx : x < nI 0 ∨ nI n ≤ x) : ¬ (¬ x < nI 0 ∧ ¬ nI n - nI 1 < x) := by
  intro ⟨h1, h2⟩
  rcases rng x hn with ⟨j, hj, rfl⟩ | h
  · rcases hx with hx | hx
    · exact h1 hx
    · exact nI_ge hj hn hx
  · have hx' := hx.resolve_left h1
    rw [Int32.not_lt] at h2
    cases n with
    | zero =>
      have : nI 0 - nI 1 < nI 0 := by decide
      exact h1 (Int32.lt_of_le_of_lt h2 this)
    | succ m =>
      rw [nI_pr m] at h2
      have := Int32.le_trans hx' h2
      rw [nI_leI (by omega) (by omega)] at this
      omega
theorem in_bad' {x : Int32} {n : Nat} (hn : n + 1 < 2 ^ 31) (hx : x < nI 0 ∨ nI (n + 1) ≤ x) : ¬ (¬ x < nI 0 ∧ ¬ nI n < x) := by
  have := in_bad hn hx
  rw [nI_pr] at this
  exact this
theorem MC_fault : VA A → MC w (d + 1) 0 0 m_Mo_fault [] A 0 (.int (aPl A)) A := by
  intro hv σ P X hI hP
  have hI' : IM A (wI σ 108 0 (nI 0)) := hI.thr hv
  refine meth_ok k_Mo_fault q_Mo_fault rfl fun At hAt => hAt 50 _ _ _ _ _ _ ?_
  exact hP _ _ ((frM.rfl σ).wI (by omega)) hI' rfl (fun _ => congrArg Value.int hI'.2.2.2.1)
theorem MC_told_ok {j : Nat} (hv : VA A) (hj : j < 10) : MC w (d + 3) 0 0 m_Mo_told [.int (nI j)] A 0 (.int (nI (kT (aSk A) j))) A := by
  intro σ P X hI hP
  have hI' : IM A (wI σ 108 0 (nI 0)) := hI.thr hv
  refine meth_ok k_Mo_told q_Mo_told rfl fun At hAt => hAt 50 _ _ _ _ _ _ ?_
  refine s_in ?_
  rw [decide_eq_true ⟨nI_nlt (Nat.zero_le _) (by omega), nI_nlt (by omega) (by omega)⟩]
  refine And.intro (fun _ => ?_) (fun q => absurd q (by decide))
  refine s_bad0 rfl rfl ?_
  refine And.intro (fun _ => ?_) (fun q => absurd rfl q)
  refine And.intro (aOK_t (n := 11) (by decide) rfl rfl (by omega) (by omega)) ?_
  rw [nI_cl (by omega)]
  exact hP _ _ ((frM.rfl σ).wI (by omega)) hI' rfl (fun _ => congrArg Value.int (hI'.sk.1 j (by omega)))
theorem MC_told_bad {x : Int32} (hv : VA A) (hx : x < nI 0 ∨ nI 10 ≤ x) : MC w (d + 3) 0 0 m_Mo_told [.int x] A 1 v A := by
  intro σ P X hI hP
  have hI' : IM A (wI (wI σ 108 0 (nI 0)) 108 0 (nI 1)) := (hI.thr hv).thr hv
  refine meth_ok k_Mo_told q_Mo_told rfl fun At hAt => hAt 50 _ _ _ _ _ _ ?_
  refine s_in ?_
  rw [decide_eq_false (in_bad' (n := 9) (by omega) hx)]
  refine And.intro (fun q => absurd rfl q) (fun _ => ?_)
  refine s_bad1 (by decide) rfl (by omega) (by omega) ?_
  refine And.intro (fun q => absurd q (by decide)) (fun _ => ?_)
  exact hP _ _ (((frM.rfl σ).wI (by omega)).wI (by omega)) hI' rfl (fun q => by omega)
end MA
