/-! PATHS on the model's side -/
theorem blw_b {s : Sk} (hv : VS s) (z h way : Nat) (hw : way < 2) : -1 ≤ blw s z h way ∧ blw s z h way ≤ 1 := by
  obtain ⟨s1, s2, s3, s4, s5, -, -, -, -, -, s6, s7, -⟩ := hv
  unfold blw
  cases e : wOf s z h (kT s 10) with
  | none => exact ⟨by show (-1 : Int) ≤ 0; omega, by show (0 : Int) ≤ 1; omega⟩
  | some b =>
    have hb := wOf_lt s z h _ b e
    have bb := s7 b hb
    have : way = 0 ∨ way = 1 := by omega
    rcases this with rfl | rfl
    · exact ⟨by show (-1 : Int) ≤ (kW s b 2 : Int) - 1; omega, by show (kW s b 2 : Int) - 1 ≤ 1; omega⟩
    · exact ⟨by show (-1 : Int) ≤ (kW s b 3 : Int) - 1; omega, by show (kW s b 3 : Int) - 1 ≤ 1; omega⟩
theorem in_iZ {x : Int} {n : Nat} (h1 : -100 ≤ x) (h2 : x ≤ 100) (hn : n ≤ 100) : (¬ iZ x < nI 0 ∧ ¬ nI n - nI 1 < iZ x) ↔ (0 ≤ x ∧ x < n) := by
  rw [← iZ_nat, ← iZ_nat n, ← iZ_nat 1, iZ_sub, iZ_lt (by omega) (by omega) (by omega) (by omega), iZ_lt (by omega) (by omega) (by omega) (by omega)]
  omega
theorem skM.scr {σ τ : Mem} {s : Sk} (h : skM σ s) (hv : VS s) (f : ∀ a j, a < 184 → a ≠ 108 → a ≠ 109 → a ≠ 110 → rI τ a j = rI σ a j) : skM τ s := by
  obtain ⟨s1, s2, s3, s4, s5, -, -, -, -, -, s6, -⟩ := hv
  obtain ⟨k1, k2, k3, k4, k5⟩ := h
  exact ⟨fun i hi => by rw [f _ _ (by omega) (by omega) (by omega) (by omega)]; exact k1 i hi, fun k hk i hi => by rw [f _ _ (by omega) (by omega) (by omega) (by omega)]; exact k2 k hk i hi, fun k hk i hi => by rw [f _ _ (by omega) (by omega) (by omega) (by omega)]; exact k3 k hk i hi,
    fun k hk i hi => by rw [f _ _ (by omega) (by omega) (by omega) (by omega)]; exact k4 k hk i hi, fun k hk i hi => by rw [f _ _ (by omega) (by omega) (by omega) (by omega)]; exact k5 k hk i hi⟩
theorem ps_in {s : Sk} (hv : VS s) {k : Nat} (hk : k < kT s 2) : ∀ h q, ps s k h = some q → q.1 < kT s 0 ∧ q.2 < kT s 1
  | 0, q, e => by
    obtain ⟨-, -, -, -, -, -, -, -, -, -, -, -, s7, -⟩ := hv
    unfold ps at e
    by_cases g : kC s k 3 = 0
    · rw [if_pos g] at e; cases e; exact ⟨(s7 k hk).1, (s7 k hk).2.1⟩
    · rw [if_neg g] at e; cases e
  | h + 1, q, e => by
    have hv' := hv
    obtain ⟨-, -, -, -, -, -, -, -, -, -, -, -, s7, -⟩ := hv
    unfold ps at e
    by_cases g : h + 1 = kC s k 3
    · rw [if_pos g] at e; cases e; exact ⟨(s7 k hk).1, (s7 k hk).2.1⟩
    · rw [if_neg g] at e
      cases e2 : ps s k h with
      | none => rw [e2] at e; cases e
      | some p =>
        rw [e2] at e
        simp only at e
        by_cases g2 : isInB s ((p.1 : Int) + blw s (kC s k 2) (h + 1) 0) ((p.2 : Int) + blw s (kC s k 2) (h + 1) 1) = true
        · rw [if_pos g2] at e
          cases e
          have := of_decide_eq_true g2
          exact ⟨by show Int.toNat _ < _; omega, by show Int.toNat _ < _; omega⟩
        · rw [if_neg g2] at e; cases e
theorem ps_lt {s : Sk} {k : Nat} : ∀ h, h < kC s k 3 → ps s k h = none
  | 0, g => by unfold ps; rw [if_neg (by omega)]
  | h + 1, g => by unfold ps; rw [if_neg (by omega), ps_lt h (by omega)]
theorem ps_at {s : Sk} {k : Nat} : ps s k (kC s k 3) = some (kC s k 0, kC s k 1) := by
  cases e : kC s k 3 with
  | zero => unfold ps; rw [if_pos e]
  | succ h => unfold ps; rw [if_pos e.symm]
theorem ps_none {s : Sk} {k h : Nat} (g : kC s k 3 < h) (e : ps s k (h - 1) = none) : ps s k h = none := by
  obtain ⟨m, rfl⟩ : ∃ m, h = m + 1 := ⟨h - 1, by omega⟩
  rw [Nat.add_sub_cancel] at e
  unfold ps; rw [if_neg (by omega), e]
theorem ps_some {s : Sk} {k h : Nat} {q : Nat × Nat} (g : kC s k 3 < h) (e : ps s k (h - 1) = some q) : ps s k h = if isInB s ((q.1 : Int) + blw s (kC s k 2) h 0) ((q.2 : Int) + blw s (kC s k 2) h 1) = true then some (((q.1 : Int) + blw s (kC s k 2) h 0).toNat, ((q.2 : Int) + blw s (kC s k 2) h 1).toNat) else none := by
  obtain ⟨m, rfl⟩ : ∃ m, h = m + 1 := ⟨h - 1, by omega⟩
  rw [Nat.add_sub_cancel] at e
  rw [ps, if_neg (by omega), e]
/-- what the model's two rows tell of hour i -/
def alR (τ : Mem) (s : Sk) (k i : Nat) : Prop := (ps s k i = none → rI τ 336 i = -1) ∧ ∀ q, ps s k i = some q → rI τ 336 i = nI q.1 ∧ rI τ 337 i = nI q.2
def alS (s : Sk) (k h : Nat) (σ τ : Mem) : Prop := (∀ a j, a ≠ 336 → a ≠ 337 → rI τ a j = rI σ a j) ∧ τ.2 = σ.2 ∧ ∀ i, i < h → alR τ s k i
theorem alS.step {s : Sk} {k h : Nat} {σ τ : Mem} {x y : Int32} (hτ : alS s k h σ τ) (h1 : ps s k h = none → x = -1) (h2 : ∀ q, ps s k h = some q → x = nI q.1 ∧ y = nI q.2) : alS s k (h + 1) σ (wI (wI τ 336 h x) 337 h y) := by
  refine ⟨fun a j g1 g2 => by rw [rI_wI, if_neg (by omega), rI_wI, if_neg (by omega)]; exact hτ.1 a j g1 g2, hτ.2.1, fun i hi => ?_⟩
  have e1 : rI (wI (wI τ 336 h x) 337 h y) 336 i = if i = h then x else rI τ 336 i := by
    rw [rI_wI, if_neg (by omega), rI_wI]; simp
  have e2 : rI (wI (wI τ 336 h x) 337 h y) 337 i = if i = h then y else rI τ 337 i := by
    rw [rI_wI]
    by_cases e : i = h
    · rw [if_pos ⟨rfl, e⟩, if_pos e]
    · rw [if_neg (fun z => e z.2), if_neg e, rI_wI, if_neg (by omega)]
  unfold alR
  rw [e1, e2]
  by_cases e : i = h
  · subst e; rw [if_pos rfl, if_pos rfl]; exact ⟨h1, h2⟩
  · rw [if_neg e, if_neg e]; exact hτ.2.2 i (by omega)
section PM
variable {w : Wd} {d : Nat} {σ : Mem} {s : Sk} {P : Option AV → Mem → Prop} {X : Nat → Mem → Prop}
theorem s_isInS {x y : Int32} (hS : skM σ s) (hP : P (some (.int (bI (decide ((¬ x < nI 0 ∧ ¬ nI (kT s 0) - nI 1 < x) ∧ (¬ y < nI 0 ∧ ¬ nI (kT s 1) - nI 1 < y)))))) σ) : Ret w true (d + 2) 0 0 m_Mo_isIn [.ref 108, .int x, .int y] σ P X := by
  have e0 := hS.1 0 (by omega)
  have e1 := hS.1 1 (by omega)
  rw [← e0, ← e1] at hP
  refine meth_ok k_Mo_isIn q_Mo_isIn rfl fun At hAt => hAt 50 _ _ _ _ _ _ ?_
  refine And.intro (aOK_t (n := 11) (j := 0) (by decide) rfl rfl (by omega) (by omega)) ?_
  refine s_in ?_
  refine And.intro (fun q => And.intro rfl ?_) (fun q => ?_)
  · rw [decide_eq_false (fun z => absurd z.1 (of_decide_eq_false (bI_eq q)))] at hP; exact hP
  · refine And.intro (aOK_t (n := 11) (j := 1) (by decide) rfl rfl (by omega) (by omega)) ?_
    refine s_in ?_
    refine And.intro (fun q2 => And.intro rfl ?_) (fun q2 => And.intro rfl ?_)
    · rw [decide_eq_false (fun z => absurd z.2 (of_decide_eq_false (bI_eq q2)))] at hP; exact hP
    · rw [decide_eq_true ⟨of_decide_eq_true (bI_ne q), of_decide_eq_true (bI_ne q2)⟩] at hP; exact hP
theorem s_isInZ {x y : Int} (hS : skM σ s) (hv : VS s) (hx : -100 ≤ x ∧ x ≤ 100) (hy : -100 ≤ y ∧ y ≤ 100) (hP : P (some (.int (bI (isInB s x y)))) σ) : Ret w true (d + 2) 0 0 m_Mo_isIn [.ref 108, .int (iZ x), .int (iZ y)] σ P X := by
  refine s_isInS hS ?_
  have e : decide ((¬ iZ x < nI 0 ∧ ¬ nI (kT s 0) - nI 1 < iZ x) ∧ (¬ iZ y < nI 0 ∧ ¬ nI (kT s 1) - nI 1 < iZ y)) = isInB s x y := by
    unfold isInB
    refine decide_eq_decide.mpr ?_
    have s1 := hv.1
    have s2 := hv.2.1
    rw [in_iZ hx.1 hx.2 (by omega), in_iZ hy.1 hy.2 (by omega)]
    omega
  rw [e]
  exact hP
theorem z_blows {z h way : Nat} {zi : Int32} (ez : zi = nI z) (hS : skM σ s) (hv : VS s) (hz : z < 1000) (hh : h < 1000) (hw : way < 2) (hP : P (some (.int (iZ (blw s z h way)))) σ) : Ret w true (d + 2) 0 0 m_Mo_blows [.ref 108, .int zi, .int (nI h), .int (nI way)] σ P X := by
  subst ez; exact s_blows hS hv hz hh hw hP
theorem z_isInZ {x y : Int} {xi yi : Int32} (ex : xi = iZ x) (ey : yi = iZ y) (hS : skM σ s) (hv : VS s) (hx : -100 ≤ x ∧ x ≤ 100) (hy : -100 ≤ y ∧ y ≤ 100) (hP : P (some (.int (bI (isInB s x y)))) σ) : Ret w true (d + 2) 0 0 m_Mo_isIn [.ref 108, .int xi, .int yi] σ P X := by
  subst ex; subst ey; exact s_isInZ hS hv hx hy hP
theorem s_laysAlone {k : Nat} (hS : skM σ s) (hv : VS s) (hk : k < kT s 2) (hP : ∀ τ, alS s k 50 σ τ → P none τ) : Ret w true (d + 3) 0 0 m_Mo_laysAlone [.ref 108, .int (nI k)] σ P X := by
  have hv' := hv
  obtain ⟨s1, s2, s3, s4, s5, -, -, -, -, -, s6, s7, s8, -⟩ := hv
  have c := s8 k hk
  refine meth_ok k_Mo_laysAlone q_Mo_laysAlone rfl fun At hAt => ?_
  have loop : ∀ m h, h + m = 50 → ∀ τ a b fl, alS s k h σ τ →
      ((fl = nI 1 ∧ ∃ q : Nat × Nat, a = nI q.1 ∧ b = nI q.2 ∧ q.1 < kT s 0 ∧ q.2 < kT s 1 ∧ (h ≤ kC s k 3 → q = (kC s k 0, kC s k 1)) ∧ (kC s k 3 < h → ps s k (h - 1) = some q)) ∨ (fl = nI 0 ∧ kC s k 3 < h ∧ ps s k (h - 1) = none)) →
      At 24 [.ref 108, .int (nI k), .int a, .int b, .int fl, .int (nI h)] [] τ 0 0 := by
    intro m
    induction m with
    | zero =>
      intro h hh τ a b fl hτ _
      have e : h = 50 := by omega
      subst e
      refine hAt 80 _ _ _ _ _ _ ?_
      exact And.intro (fun _ => hP τ hτ) (fun q => absurd (nI_le (by omega) (by omega)) q)
    | succ m ih =>
      intro h hh τ a b fl hτ hq
      have hSt : skM τ s := hS.scr hv' (fun a j h1 h2 h3 h4 => hτ.1 a j (by omega) (by omega))
      have r2 := hSt.2.2.1 k hk 2 (by omega)
      have r3 := hSt.2.2.1 k hk 3 (by omega)
      have ah : ∀ (a0 : Nat) (τ : Mem), (a0 = 336 ∨ a0 = 337) → aOK true τ a0 12 (nI h) := fun a0 τ z => by
        rcases z with rfl | rfl
        · exact aOK_t (n := 50) (by decide) rfl rfl (by omega) (by omega)
        · exact aOK_t (n := 50) (by decide) rfl rfl (by omega) (by omega)
      refine hAt 80 _ _ _ _ _ _ ?_
      refine And.intro (fun q => absurd q (nI_ge (by omega) (by omega))) (fun _ => ?_)
      refine And.intro (mx_r (q := 141) (n := 8) (k := 7) rfl rfl (show k < 8 by omega)) (And.intro (Or.inl rfl) ?_)
      rw [nI_cl (by omega)]
      refine And.intro (mx_e (q := 141) (n := 8) (k := 7) (i := 3) rfl (by omega) (by omega) rfl) ?_
      rcases hq with ⟨e1, q, ea, eb, q1, q2, q3, q4⟩ | ⟨e1, g, q3⟩
      · subst e1
        subst ea
        subst eb
        by_cases hT : h ≤ kC s k 3
        · have eq := q3 hT
          refine And.intro (fun _ => ?_) (fun z => absurd (show nI h ≤ rI τ (141 + 1 + k) 3 by rw [r3]; exact nI_le hT (by omega)) z)
          refine And.intro (mx_r (q := 141) (n := 8) (k := 7) rfl rfl (show k < 8 by omega)) (And.intro (Or.inl rfl) ?_)
          rw [nI_cl (j := k) (by omega)]
          refine And.intro (mx_e (q := 141) (n := 8) (k := 7) (i := 3) rfl (by omega) (by omega) rfl) ?_
          by_cases hlt : h < kC s k 3
          · refine And.intro (fun _ => ?_) (fun z => absurd (show nI h < rI τ (141 + 1 + k) 3 by rw [r3]; exact nI_lt hlt (by omega)) z)
            refine And.intro (ah _ _ (Or.inl rfl)) (And.intro (ah _ _ (Or.inr rfl)) ?_)
            rw [nI_cl (j := h) (by omega)]
            have st := hτ.step (x := -1) (y := nI q.2) (fun _ => rfl) (fun q e => by rw [ps_lt h hlt] at e; cases e)
            have g := ih (h + 1) (by omega) _ _ _ _ st (Or.inl ⟨rfl, q, rfl, rfl, q1, q2, fun _ => eq, fun z => by omega⟩)
            rw [nI_s h] at g
            exact g
          · have hh : h = kC s k 3 := by omega
            have hp : ps s k h = some q := by rw [eq, hh]; exact ps_at
            refine And.intro (fun z => absurd (show nI h < rI τ (141 + 1 + k) 3 from z) (by rw [r3]; exact nI_nlt (by omega) (by omega))) (fun _ => ?_)
            refine And.intro (fun z => absurd z (by decide)) (fun _ => ?_)
            refine And.intro (ah _ _ (Or.inl rfl)) (And.intro (ah _ _ (Or.inr rfl)) ?_)
            rw [nI_cl (j := h) (by omega)]
            have st := hτ.step (x := nI q.1) (y := nI q.2) (fun e => by rw [hp] at e; cases e) (fun q e => by rw [hp] at e; cases e; exact ⟨rfl, rfl⟩)
            have g := ih (h + 1) (by omega) _ _ _ _ st (Or.inl ⟨rfl, q, rfl, rfl, q1, q2, fun z => by omega, fun _ => hp⟩)
            rw [nI_s h] at g
            exact g
        · have hp := q4 (by omega)
          have b0 := blw_b hv' (kC s k 2) h 0 (by omega)
          have b1 := blw_b hv' (kC s k 2) h 1 (by omega)
          have hps := ps_some (by omega) hp
          refine And.intro (fun z => absurd (show nI h ≤ rI τ (141 + 1 + k) 3 from z) (by rw [r3]; exact nI_ge (by omega) (by omega))) (fun _ => ?_)
          refine And.intro (fun z => absurd z (by decide)) (fun _ => ?_)
          refine And.intro (mx_r (q := 141) (n := 8) (k := 7) rfl rfl (show k < 8 by omega)) (And.intro (Or.inl rfl) ?_)
          rw [nI_cl (j := k) (by omega)]
          refine And.intro (mx_e (q := 141) (n := 8) (k := 7) (i := 2) rfl (by omega) (by omega) rfl) ?_
          refine z_blows r2 hSt hv' (by omega) (by omega) (by omega) ?_
          refine And.intro (mx_r (q := 141) (n := 8) (k := 7) rfl rfl (show k < 8 by omega)) (And.intro (Or.inl rfl) ?_)
          rw [nI_cl (j := k) (by omega)]
          refine And.intro (mx_e (q := 141) (n := 8) (k := 7) (i := 2) rfl (by omega) (by omega) rfl) ?_
          refine z_blows r2 hSt hv' (by omega) (by omega) (by omega) ?_
          have ex : nI q.1 + iZ (blw s (kC s k 2) h 0) = iZ ((q.1 : Int) + blw s (kC s k 2) h 0) := by rw [← iZ_nat, iZ_add]
          have ey : nI q.2 + iZ (blw s (kC s k 2) h 1) = iZ ((q.2 : Int) + blw s (kC s k 2) h 1) := by rw [← iZ_nat, iZ_add]
          refine z_isInZ ex ey hSt hv' (by omega) (by omega) ?_
          cases e : isInB s ((q.1 : Int) + blw s (kC s k 2) h 0) ((q.2 : Int) + blw s (kC s k 2) h 1) with
          | true =>
            rw [e, if_pos rfl] at hps
            have z := of_decide_eq_true e
            have nx : nI q.1 + iZ (blw s (kC s k 2) h 0) = nI ((q.1 : Int) + blw s (kC s k 2) h 0).toNat := by rw [ex, ← iZ_nat, Int.toNat_of_nonneg (by omega)]
            have ny : nI q.2 + iZ (blw s (kC s k 2) h 1) = nI ((q.2 : Int) + blw s (kC s k 2) h 1).toNat := by rw [ey, ← iZ_nat, Int.toNat_of_nonneg (by omega)]
            refine And.intro (mx_r (q := 141) (n := 8) (k := 7) rfl rfl (show k < 8 by omega)) (And.intro (Or.inl rfl) ?_)
            rw [nI_cl (j := k) (by omega)]
            refine And.intro (mx_e (q := 141) (n := 8) (k := 7) (i := 3) rfl (by omega) (by omega) rfl) ?_
            refine And.intro (fun z => absurd (show nI h < rI τ (141 + 1 + k) 3 from z) (by rw [r3]; exact nI_nlt (by omega) (by omega))) (fun _ => ?_)
            refine And.intro (fun z => absurd z (by decide)) (fun _ => ?_)
            refine And.intro (ah _ _ (Or.inl rfl)) (And.intro (ah _ _ (Or.inr rfl)) ?_)
            rw [nI_cl (j := h) (by omega)]
            have st := hτ.step (x := nI q.1 + iZ (blw s (kC s k 2) h 0)) (y := nI q.2 + iZ (blw s (kC s k 2) h 1)) (fun e => by rw [hps] at e; cases e) (fun q e => by rw [hps] at e; cases e; exact ⟨nx, ny⟩)
            have g := ih (h + 1) (by omega) _ _ _ _ st (Or.inl ⟨rfl, _, nx, ny, by show Int.toNat _ < _; omega, by show Int.toNat _ < _; omega, fun z => by omega, fun _ => hps⟩)
            rw [nI_s h] at g
            exact g
          | false =>
            rw [e, if_neg (by decide)] at hps
            refine And.intro (mx_r (q := 141) (n := 8) (k := 7) rfl rfl (show k < 8 by omega)) (And.intro (Or.inl rfl) ?_)
            rw [nI_cl (j := k) (by omega)]
            refine And.intro (mx_e (q := 141) (n := 8) (k := 7) (i := 3) rfl (by omega) (by omega) rfl) ?_
            refine And.intro (fun z => absurd (show nI h < rI τ (141 + 1 + k) 3 from z) (by rw [r3]; exact nI_nlt (by omega) (by omega))) (fun _ => ?_)
            refine And.intro (fun _ => ?_) (fun z => absurd rfl z)
            refine And.intro (ah _ _ (Or.inl rfl)) (And.intro (ah _ _ (Or.inr rfl)) ?_)
            rw [nI_cl (j := h) (by omega)]
            have st := hτ.step (x := -1) (y := nI q.2 + iZ (blw s (kC s k 2) h 1)) (fun _ => rfl) (fun q e => by rw [hps] at e; cases e)
            have g := ih (h + 1) (by omega) _ (nI q.1 + iZ (blw s (kC s k 2) h 0)) (nI q.2 + iZ (blw s (kC s k 2) h 1)) _ st (Or.inr ⟨rfl, by omega, hps⟩)
            rw [nI_s h] at g
            exact g
      · subst e1
        have hps := ps_none g q3
        refine And.intro (fun z => absurd (show nI h ≤ rI τ (141 + 1 + k) 3 from z) (by rw [r3]; exact nI_ge (by omega) (by omega))) (fun _ => ?_)
        refine And.intro (fun _ => ?_) (fun z => absurd rfl z)
        refine And.intro (mx_r (q := 141) (n := 8) (k := 7) rfl rfl (show k < 8 by omega)) (And.intro (Or.inl rfl) ?_)
        rw [nI_cl (j := k) (by omega)]
        refine And.intro (mx_e (q := 141) (n := 8) (k := 7) (i := 3) rfl (by omega) (by omega) rfl) ?_
        refine And.intro (fun z => absurd (show nI h < rI τ (141 + 1 + k) 3 from z) (by rw [r3]; exact nI_nlt (by omega) (by omega))) (fun _ => ?_)
        refine And.intro (fun _ => ?_) (fun z => absurd rfl z)
        refine And.intro (ah _ _ (Or.inl rfl)) (And.intro (ah _ _ (Or.inr rfl)) ?_)
        rw [nI_cl (j := h) (by omega)]
        have st := hτ.step (x := -1) (y := b) (fun _ => rfl) (fun q e => by rw [hps] at e; cases e)
        have g := ih (h + 1) (by omega) _ a b _ st (Or.inr ⟨rfl, by omega, hps⟩)
        rw [nI_s h] at g
        exact g
  refine hAt 80 _ _ _ _ _ _ ?_
  refine And.intro (mx_r (q := 141) (n := 8) (k := 7) rfl rfl (show k < 8 by omega)) (And.intro (Or.inl rfl) ?_)
  rw [nI_cl (j := k) (by omega)]
  refine And.intro (mx_e (q := 141) (n := 8) (k := 7) (i := 0) rfl (by omega) (by omega) rfl) ?_
  refine And.intro (mx_r (q := 141) (n := 8) (k := 7) rfl rfl (show k < 8 by omega)) (And.intro (Or.inl rfl) ?_)
  rw [nI_cl (j := k) (by omega)]
  refine And.intro (mx_e (q := 141) (n := 8) (k := 7) (i := 1) rfl (by omega) (by omega) rfl) ?_
  have r0 := hS.2.2.1 k hk 0 (by omega)
  have r1 := hS.2.2.1 k hk 1 (by omega)
  exact loop 50 0 (by omega) σ _ _ _ ⟨fun _ _ _ _ => rfl, rfl, fun i hi => absurd hi (Nat.not_lt_zero i)⟩ (Or.inl ⟨rfl, (kC s k 0, kC s k 1), r0, r1, c.1, c.2.1, fun _ => rfl, fun q => absurd q (Nat.not_lt_zero _)⟩)
end PM
