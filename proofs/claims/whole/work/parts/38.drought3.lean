/-! DROUGHT on the model's side -/
theorem aOK_d {τ : Mem} {L n j : Nat} (hL : ow_n0 ≤ L) (hm : L < mN τ) (hd : mD τ L = n + 1) (hj : j < n) (hn : n < 2 ^ 31) : aOK true τ L 12 (nI j) := by
  have hb : Nat.blt L ow_n0 = false := by
    cases h : Nat.blt L ow_n0 with
    | false => rfl
    | true => exact absurd (Nat.le_of_ble_eq_true h) (show ¬ L + 1 ≤ ow_n0 by omega)
  refine ⟨?_, ?_, ?_⟩
  · unfold lvB; rw [hb, blt_t hm]; rfl
  · unfold kind; rw [hb, hd]; rfl
  · unfold aLen; rw [hb, hd]; exact vp_in_nI hj hn
section DR3
variable {w : Wd} {d : Nat} {A : St} {v : AV}
theorem MC_drought_bad1 {x y : Int32} (hv : VA A) (hx : y < nI 0 ∨ nI (kT (aSk A) 3) ≤ y) : MC w (d + 3) 1 12 m_Mo_drought [.int x, .int y] A 1 v A := by
  intro σ P X hI hP
  have hI' : IM A (wI σ 108 0 (nI 0)) := hI.thr hv
  have hn : kT (aSk A) 3 ≤ 12 := hv.2.2.1.2.2.2.1
  refine meth_ok k_Mo_drought q_Mo_drought rfl fun At hAt => hAt 80 _ _ _ _ _ _ ?_
  refine s_isField hI' ?_
  rw [decide_eq_false (in_bad (by omega) hx)]
  refine And.intro (fun q => absurd rfl q) (fun _ => ?_)
  refine s_bad1 (by decide) rfl (by omega) (by omega) ?_
  refine And.intro (fun _ => ?_) (fun q => absurd q (by decide))
  exact hP _ _ (((frM.rfl σ).wI (by omega)).wI (by omega)) (hI'.thr hv) rfl (fun q => by omega)
theorem MC_drought_bad2 {x : Int32} {j : Nat} (hv : VA A) (hj : j < kT (aSk A) 3) (hy : x < nI 0 ∨ nI 10000 ≤ x) : MC w (d + 3) 1 12 m_Mo_drought [.int x, .int (nI j)] A 2 v A := by
  intro σ P X hI hP
  have hI' : IM A (wI σ 108 0 (nI 0)) := hI.thr hv
  have hn : kT (aSk A) 3 ≤ 12 := hv.2.2.1.2.2.2.1
  refine meth_ok k_Mo_drought q_Mo_drought rfl fun At hAt => hAt 80 _ _ _ _ _ _ ?_
  refine s_isField hI' ?_
  rw [decide_eq_true (in_ok hj (by omega))]
  refine And.intro (fun _ => ?_) (fun q => absurd q (by decide))
  refine s_bad0 rfl rfl ?_
  refine And.intro (fun q => absurd rfl q) (fun _ => ?_)
  refine s_MisWater ?_
  rw [decide_eq_false (in_bad' (n := 9999) (by omega) hy)]
  refine And.intro (fun q => absurd rfl q) (fun _ => ?_)
  refine s_bad1 (by decide) rfl (by omega) (by omega) ?_
  refine And.intro (fun q => absurd q (by decide)) (fun _ => ?_)
  exact hP _ _ (((frM.rfl σ).wI (by omega)).wI (by omega)) (hI'.thr hv) rfl (fun q => by omega)
theorem MC_drought_ok {q j : Nat} (hv : VA A) (hj : j < kT (aSk A) 3) (hq : q ≤ 9999) : MC w (d + 3) 1 12 m_Mo_drought [.int (nI q), .int (nI j)] A 0 (.int (nI (drA A q j))) A := by
  intro σ P X hI hP
  have hI' : IM A (wI σ 108 0 (nI 0)) := hI.thr hv
  have hn : kT (aSk A) 3 ≤ 12 := hv.2.2.1.2.2.2.1
  have hL : ow_n0 ≤ mN σ := hI.1
  have hLL : 368 ≤ mN σ := hL
  obtain ⟨s1, s2, s3, s4, s5, -, -, -, -, -, s6, s7, s8, s9, -⟩ := hv.2.2.1
  refine meth_ok k_Mo_drought q_Mo_drought rfl fun At hAt => ?_
  have fin : ∀ τ, (∀ a i, a < 368 → rI τ a i = rI (wI σ 108 0 (nI 0)) a i) → τ.2 = (nD (wI σ 108 0 (nI 0)) 12).2 → (∀ f, f < kT (aSk A) 3 → rI τ (mN σ) f = nI (dGo (kN (aSk A)) (kT (aSk A) 3) q f)) → P (some (.int (rI τ (mN σ) j))) τ := by
    intro τ t1 t2 t3
    have hN : mN τ = mN σ + 1 := congrArg (fun z => z.2.2.1) t2
    refine hP τ _ ⟨fun a h1 i => ?_, fun a h1 i => congrArg (fun z => z.1 a i) t2, by omega⟩ (hI'.scr hv (fun a i t => t1 a i (by unfold trkM at t; omega)) (by show mN σ ≤ mN τ; omega)) ?_ (fun _ => congrArg Value.int (t3 j hj))
    · rw [t1 a i (by omega), rI_wI, if_neg (by omega)]
    · rw [t1 108 0 (by omega)]; rfl
  have loop : ∀ m k, k + m = q → ∀ τ z1 z2, (∀ a i, a < 368 → rI τ a i = rI (wI σ 108 0 (nI 0)) a i) → τ.2 = (nD (wI σ 108 0 (nI 0)) 12).2 → (∀ f, f < kT (aSk A) 3 → rI τ (mN σ) f = nI (dGo (kN (aSk A)) (kT (aSk A) 3) k f)) →
      At 56 [.ref 108, .int (nI q), .int (nI j), .ref (mN σ), .int (nI k), z1, z2] [] τ 1 12 := by
    intro m
    induction m with
    | zero =>
      intro k hk τ z1 z2 t1 t2 t3
      have e : k = q := by omega
      subst e
      have hN : mN τ = mN σ + 1 := congrArg (fun z => z.2.2.1) t2
      have hD : mD τ (mN σ) = 12 + 1 := (congrArg (fun z => z.2.1 (mN σ)) t2).trans (if_pos rfl)
      refine hAt 80 _ _ _ _ _ _ ?_
      refine And.intro (fun _ => ?_) (fun y => absurd (nI_le (Nat.le_refl _) (by omega)) y)
      refine And.intro (aOK_d hL (by omega) hD (by omega) (by omega)) ?_
      rw [nI_cl (j := j) (by omega)]
      exact fin τ t1 t2 t3
    | succ m ih =>
      intro k hk τ z1 z2 t1 t2 t3
      have hN : mN τ = mN σ + 1 := congrArg (fun z => z.2.2.1) t2
      have hD : mD τ (mN σ) = 12 + 1 := (congrArg (fun z => z.2.1 (mN σ)) t2).trans (if_pos rfl)
      have hSt : skM τ (aSk A) := hI'.sk.scr hv.2.2.1 (fun a i h1 h2 h3 h4 => t1 a i (by omega))
      have gb := dGo_le (kN (aSk A)) (kT (aSk A) 3) k
      have inn : ∀ m2 f, f + m2 = kT (aSk A) 3 → At 68 [.ref 108, .int (nI q), .int (nI j), .ref (mN σ), .int (nI k), .int (oI (dBest (kN (aSk A)) (dGo (kN (aSk A)) (kT (aSk A) 3) k) f)), .int (nI f)] [] τ 1 12 := by
        intro m2
        induction m2 with
        | zero =>
          intro f hf
          have e : f = kT (aSk A) 3 := by omega
          subst e
          refine hAt 80 _ _ _ _ _ _ ?_
          refine And.intro (aOK_t (n := 11) (j := 3) (by decide) rfl rfl (by omega) (by omega)) ?_
          refine And.intro (fun _ => ?_) (fun y => absurd (show rI τ 111 3 ≤ nI (kT (aSk A) 3) by rw [hSt.1 3 (by omega)]; exact nI_le (Nat.le_refl _) (by omega)) y)
          cases e : dBest (kN (aSk A)) (dGo (kN (aSk A)) (kT (aSk A) 3) k) (kT (aSk A) 3) with
          | none =>
            refine And.intro (fun y => absurd rfl y) (fun _ => ?_)
            refine And.intro (aOK_d hL (by omega) hD (by omega) (by omega)) ?_
            rw [nI_cl (j := j) (by omega)]
            refine fin τ t1 t2 (fun f hf => ?_)
            rw [show q = k + (m + 1) by omega, dGo_stop _ _ k e]
            exact t3 f hf
          | some b =>
            have hb := dBest_lt _ _ _ b e
            refine And.intro (fun _ => ?_) (fun y => absurd y (nI_m1 (by omega)))
            refine And.intro (aOK_d hL (by omega) hD (by omega) (by omega)) (And.intro (aOK_d hL (by omega) hD (by omega) (by omega)) ?_)
            rw [show (oI (some b)).toNatClampNeg = b from nI_cl (by omega)]
            have y := ih (k + 1) (by omega) (wI τ (mN σ) b (rI τ (mN σ) b + nI 1)) (.int (nI b)) (.int (nI (kT (aSk A) 3))) (fun a i h => by rw [rI_wI, if_neg (by omega)]; exact t1 a i h) t2 (fun f hf => by
              have e2 : dGo (kN (aSk A)) (kT (aSk A) 3) (k + 1) f = if f = b then dGo (kN (aSk A)) (kT (aSk A) 3) k f + 1 else dGo (kN (aSk A)) (kT (aSk A) 3) k f := by
                show dInc (dGo (kN (aSk A)) (kT (aSk A) 3) k) (dBest (kN (aSk A)) (dGo (kN (aSk A)) (kT (aSk A) 3) k) (kT (aSk A) 3)) f = _
                rw [e]; rfl
              rw [e2, rI_wI]
              by_cases h : f = b
              · rw [if_pos ⟨rfl, h⟩, if_pos h, ← h, t3 f hf, nI_add]
              · rw [if_neg (fun z => h z.2), if_neg h, t3 f hf])
            rw [nI_s k] at y
            exact y
        | succ m2 ih2 =>
          intro f hf
          have hf' : f < kT (aSk A) 3 := by omega
          have c := s9 f hf'
          have n3 : kN (aSk A) f ≤ 99 := c.2.2.2.1
          have nf : dGo (kN (aSk A)) (kT (aSk A) 3) k f ≤ 99 := Nat.le_trans (gb f) n3
          have r3 : rI τ (163 + 1 + f) 3 = nI (kN (aSk A) f) := hSt.2.2.2.1 f hf' 3 (by omega)
          have rg := t3 f hf'
          have y := ih2 (f + 1) (by omega)
          rw [nI_s f] at y
          have skip : ¬ (decide (dGo (kN (aSk A)) (kT (aSk A) 3) k f < kN (aSk A) f) && dLess (kN (aSk A)) (dGo (kN (aSk A)) (kT (aSk A) 3) k) f (dBest (kN (aSk A)) (dGo (kN (aSk A)) (kT (aSk A) 3) k) f)) = true → At 68 [.ref 108, .int (nI q), .int (nI j), .ref (mN σ), .int (nI k), .int (oI (dBest (kN (aSk A)) (dGo (kN (aSk A)) (kT (aSk A) 3) k) f)), .int (nI f + nI 1)] [] τ 1 12 := by
            intro h
            rw [show dBest (kN (aSk A)) (dGo (kN (aSk A)) (kT (aSk A) 3) k) (f + 1) = dBest (kN (aSk A)) (dGo (kN (aSk A)) (kT (aSk A) 3) k) f by rw [dBest, if_neg h]] at y
            exact y
          have take : (decide (dGo (kN (aSk A)) (kT (aSk A) 3) k f < kN (aSk A) f) && dLess (kN (aSk A)) (dGo (kN (aSk A)) (kT (aSk A) 3) k) f (dBest (kN (aSk A)) (dGo (kN (aSk A)) (kT (aSk A) 3) k) f)) = true → At 68 [.ref 108, .int (nI q), .int (nI j), .ref (mN σ), .int (nI k), .int (nI f), .int (nI f + nI 1)] [] τ 1 12 := by
            intro h
            rw [show dBest (kN (aSk A)) (dGo (kN (aSk A)) (kT (aSk A) 3) k) (f + 1) = some f by rw [dBest, if_pos h]] at y
            exact y
          refine hAt 80 _ _ _ _ _ _ ?_
          refine And.intro (aOK_t (n := 11) (j := 3) (by decide) rfl rfl (by omega) (by omega)) ?_
          refine And.intro (fun y => absurd (show rI τ 111 3 ≤ nI f from y) (by rw [hSt.1 3 (by omega)]; exact nI_ge hf' (by omega))) (fun _ => ?_)
          refine And.intro (aOK_d hL (by omega) hD (show f < 12 by omega) (by omega)) ?_
          rw [nI_cl (j := f) (by omega)]
          refine And.intro (mx_r (q := 163) (n := 12) (k := 6) rfl rfl (show f < 12 by omega)) (And.intro (Or.inl rfl) ?_)
          rw [nI_cl (j := f) (by omega)]
          refine And.intro (mx_e (q := 163) (n := 12) (k := 6) (i := 3) rfl (by omega) (by omega) rfl) ?_
          refine And.intro (fun h => skip (fun u => ?_)) (fun h => ?_)
          · have h' : rI τ (163 + 1 + f) 3 ≤ rI τ (mN σ) f := h
            rw [r3, rg, nI_leI (by omega) (by omega)] at h'
            rw [Bool.and_eq_true, decide_eq_true_eq] at u
            omega
          · have h' : ¬ rI τ (163 + 1 + f) 3 ≤ rI τ (mN σ) f := h
            rw [r3, rg, nI_leI (by omega) (by omega)] at h'
            cases e : dBest (kN (aSk A)) (dGo (kN (aSk A)) (kT (aSk A) 3) k) f with
            | none =>
              rw [e] at take
              exact And.intro (fun _ => take (by rw [decide_eq_true (by omega)]; rfl)) (fun y => absurd rfl y)
            | some b =>
              have hb := dBest_lt _ _ f b e
              rw [e] at take skip
              have cb := s9 b (by omega)
              have n3b : kN (aSk A) b ≤ 99 := cb.2.2.2.1
              have nb : dGo (kN (aSk A)) (kT (aSk A) 3) k b ≤ 99 := Nat.le_trans (gb b) n3b
              have r3b : rI τ (163 + 1 + b) 3 = nI (kN (aSk A) b) := hSt.2.2.2.1 b (by omega) 3 (by omega)
              have rgb := t3 b (by omega)
              have pa : dGo (kN (aSk A)) (kT (aSk A) 3) k f * kN (aSk A) b ≤ 99 * 99 := Nat.mul_le_mul nf n3b
              have pb : dGo (kN (aSk A)) (kT (aSk A) 3) k b * kN (aSk A) f ≤ 99 * 99 := Nat.mul_le_mul nb n3
              refine And.intro (fun y => absurd y (nI_m1 (by omega))) (fun _ => ?_)
              refine And.intro (aOK_d hL (by omega) hD (show f < 12 by omega) (by omega)) ?_
              rw [nI_cl (j := f) (by omega)]
              refine And.intro (mx_r (q := 163) (n := 12) (k := 6) rfl rfl (show b < 12 by omega)) (And.intro (Or.inl rfl) ?_)
              rw [show (oI (some b)).toNatClampNeg = b from nI_cl (by omega)]
              refine And.intro (mx_e (q := 163) (n := 12) (k := 6) (i := 3) rfl (by omega) (by omega) rfl) ?_
              refine And.intro (aOK_d hL (by omega) hD (show b < 12 by omega) (by omega)) ?_
              rw [show (oI (some b)).toNatClampNeg = b from nI_cl (by omega)]
              refine And.intro (mx_r (q := 163) (n := 12) (k := 6) rfl rfl (show f < 12 by omega)) (And.intro (Or.inl rfl) ?_)
              rw [nI_cl (j := f) (by omega)]
              refine And.intro (mx_e (q := 163) (n := 12) (k := 6) (i := 3) rfl (by omega) (by omega) rfl) ?_
              have e1 : rI τ (mN σ) f * rI τ (163 + 1 + b) 3 = nI (dGo (kN (aSk A)) (kT (aSk A) 3) k f * kN (aSk A) b) := by rw [rg, r3b, nI_mul]
              have e2 : rI τ (mN σ) b * rI τ (163 + 1 + f) 3 = nI (dGo (kN (aSk A)) (kT (aSk A) 3) k b * kN (aSk A) f) := by rw [rgb, r3, nI_mul]
              refine And.intro (fun h => skip (fun u => ?_)) (fun h => take ?_)
              · have h2 : rI τ (mN σ) b * rI τ (163 + 1 + f) 3 ≤ rI τ (mN σ) f * rI τ (163 + 1 + b) 3 := h
                rw [e1, e2, nI_leI (by omega) (by omega)] at h2
                rw [Bool.and_eq_true] at u
                have u2 := of_decide_eq_true (show decide (dGo (kN (aSk A)) (kT (aSk A) 3) k f * kN (aSk A) b < dGo (kN (aSk A)) (kT (aSk A) 3) k b * kN (aSk A) f) = true from u.2)
                omega
              · have h2 : ¬ rI τ (mN σ) b * rI τ (163 + 1 + f) 3 ≤ rI τ (mN σ) f * rI τ (163 + 1 + b) 3 := h
                rw [e1, e2, nI_leI (by omega) (by omega)] at h2
                rw [Bool.and_eq_true]
                exact ⟨decide_eq_true (by omega), decide_eq_true (by omega)⟩
      refine hAt 80 _ _ _ _ _ _ ?_
      refine And.intro (fun y => absurd y (nI_ge (by omega) (by omega))) (fun _ => ?_)
      exact inn (kT (aSk A) 3) 0 (by omega)
  refine hAt 80 _ _ _ _ _ _ ?_
  refine s_isField hI' ?_
  rw [decide_eq_true (in_ok hj (by omega))]
  refine And.intro (fun _ => ?_) (fun q => absurd q (by decide))
  refine s_bad0 rfl rfl ?_
  refine And.intro (fun q => absurd rfl q) (fun _ => ?_)
  refine s_MisWater ?_
  rw [decide_eq_true ⟨nI_nlt (Nat.zero_le _) (by omega), nI_nlt (by omega) (by omega)⟩]
  refine And.intro (fun _ => ?_) (fun q => absurd q (by decide))
  refine s_bad0 rfl rfl ?_
  refine And.intro (fun _ => ?_) (fun q => absurd rfl q)
  refine And.intro (by decide) (And.intro (by decide) (And.intro hL (And.intro (by omega) (And.intro (by decide) ?_))))
  refine loop q 0 (by omega) (nD (wI σ 108 0 (nI 0)) 12) _ _ (fun a i h => ?_) rfl (fun f hf => ?_)
  · exact if_neg (fun z : a = mN σ => by omega)
  · exact if_pos rfl
end DR3
