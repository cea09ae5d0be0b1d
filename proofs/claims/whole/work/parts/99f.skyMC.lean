/-! SKY, the call, on the model's side -/
theorem cl60 {b : By} {n i : Nat} {k : Sk} : ¬ (clS b n 60 i k).2.1 = 0 := by
  unfold clS
  cases woA b n i with
  | none => exact fun h => by cases h
  | some v =>
    show ¬ ((if 60 ≤ 60 ∨ fuA k v = true then (0, 3, i) else if v = 0 ∧ 0 < 60 then (0, 4, i) else enA b n (rdS b n v (wE b n i, 0, 0) k) : Ps)).2.1 = 0
    rw [if_pos (Or.inl (Nat.le_refl _))]
    exact fun h => by cases h
theorem bS_cl (b : By) (n i : Nat) : bS b n (bS b n i) = bS b n i := pE_id _ _ _ _
section SMA
variable {w : Wd} {d : Nat} {σ : Mem} {A : St} {v : AV} {P : Option AV → Mem → Prop} {X : Nat → Mem → Prop}
theorem s_tells (hP : ∀ τ, (∀ a j, a ≠ 110 → rI τ a j = rI σ a j) → τ.2 = σ.2 → (∀ i, i < 11 → rI τ 110 i = nI (kT k0 i)) → P none τ) : Ret w true (d + 1) 0 0 m_Mo_tellsNothing [.ref 108] σ P X := by
  refine meth_ok k_Mo_tellsNothing q_Mo_tellsNothing rfl fun At hAt => ?_
  have loop : ∀ k, k ≤ 11 → ∀ τ, (∀ a j, a ≠ 110 → rI τ a j = rI σ a j) → τ.2 = σ.2 → (∀ i, i < k → rI τ 110 i = nI (kT k0 i)) → At 2 [.ref 108, .int (nI k)] [] τ 0 0 := by
    refine upto fun k hk ih => ?_
    intro τ t1 t2 t3
    have nxt : k < 11 → ∀ v, v = kT k0 k → At 2 [.ref 108, .int (nI (k + 1))] [] (wI τ 110 k (nI v)) 0 0 := fun q v e => ih q _ (fun a j z => by rw [rI_wI, if_neg (by omega)]; exact t1 a j z) t2 (fun i hi => by
      by_cases g : i = k
      · rw [g, rI_wI, if_pos ⟨rfl, rfl⟩, e]
      · rw [rI_wI, if_neg (by omega)]; exact t3 i (by omega))
    have kt : kT k0 k = if k = 0 then 6 else if k = 1 then 5 else if k = 6 then 20 else if k = 7 then 999 else if k = 8 then 50 else if k = 9 then 1 else 0 := rfl
    refine hAt 3 _ _ _ _ _ _ ?_
    refine And.intro (fun hq => ?_) (fun hq => ?_)
    · have c5 : 11 ≤ k := (leN (a := 11) (b := k) rfl rfl (by omega) (by omega)).mp hq
      clear hq
      refine hAt 1 _ _ _ _ _ _ ?_
      have e : k = 11 := by omega
      subst e
      exact hP τ t1 t2 t3
    · have c5 : k < 11 := Nat.lt_of_not_le (fun zq => hq ((leN (a := 11) (b := k) rfl rfl (by omega) (by omega)).mpr zq))
      clear hq
      refine hAt 5 _ _ _ _ _ _ ?_
      refine And.intro (fun hq => ?_) (fun hq => ?_)
      · have c14 : ¬ k = 0 := fun zq => hq ((eqN (a := k) (b := 0) rfl rfl (by omega) (by omega)).mpr zq)
        clear hq
        refine hAt 3 _ _ _ _ _ _ ?_
        refine And.intro (fun hq => ?_) (fun hq => ?_)
        · have c24 : ¬ k = 1 := fun zq => hq ((eqN (a := k) (b := 1) rfl rfl (by omega) (by omega)).mpr zq)
          clear hq
          refine hAt 3 _ _ _ _ _ _ ?_
          refine And.intro (fun hq => ?_) (fun hq => ?_)
          · have c34 : ¬ k = 6 := fun zq => hq ((eqN (a := k) (b := 6) rfl rfl (by omega) (by omega)).mpr zq)
            clear hq
            refine hAt 3 _ _ _ _ _ _ ?_
            refine And.intro (fun hq => ?_) (fun hq => ?_)
            · have c45 : ¬ k = 7 := fun zq => hq ((eqN (a := k) (b := 7) rfl rfl (by omega) (by omega)).mpr zq)
              clear hq
              refine hAt 3 _ _ _ _ _ _ ?_
              refine And.intro (fun hq => ?_) (fun hq => ?_)
              · have c57 : ¬ k = 8 := fun zq => hq ((eqN (a := k) (b := 8) rfl rfl (by omega) (by omega)).mpr zq)
                clear hq
                refine hAt 3 _ _ _ _ _ _ ?_
                refine And.intro (fun hq => ?_) (fun hq => ?_)
                · have c68 : ¬ k = 9 := fun zq => hq ((eqN (a := k) (b := 9) rfl rfl (by omega) (by omega)).mpr zq)
                  clear hq
                  refine hAt 2 _ _ _ _ _ _ ?_
                  refine And.intro (aOKx (n := 11) (j := k) rfl (by decide) rfl rfl (by omega) (by omega)) ?_
                  refine Eq.mpr (congrArg (fun xq : Mem => At 77 [.ref (108), .int (nI k)] [] xq 0 0) (wrE (σ := τ) (q := 110) (p := rfl) (hj := by omega) (h := rfl))) ?_
                  refine hAt 2 _ _ _ _ _ _ ?_
                  refine Eq.mpr (congrArg (fun xq : Int32 => At 2 [.ref (108), .int xq] [] (wI τ 110 k (nI 0)) 0 0) (show nI k + nI 1 = nI (k + 1) from (adE rfl rfl))) ?_
                  exact nxt c5 _ (by rw [kt]; repeat (first | rw [if_pos (by omega)] | rw [if_neg (by omega)]))
                · have c68 : k = 9 := (eqN (a := k) (b := 9) rfl rfl (by omega) (by omega)).mp hq
                  clear hq
                  refine hAt 3 _ _ _ _ _ _ ?_
                  refine And.intro (aOKx (n := 11) (j := k) rfl (by decide) rfl rfl (by omega) (by omega)) ?_
                  refine Eq.mpr (congrArg (fun xq : Mem => At 77 [.ref (108), .int (nI k)] [] xq 0 0) (wrE (σ := τ) (q := 110) (p := rfl) (hj := by omega) (h := rfl))) ?_
                  refine hAt 2 _ _ _ _ _ _ ?_
                  refine Eq.mpr (congrArg (fun xq : Int32 => At 2 [.ref (108), .int xq] [] (wI τ 110 k (nI 1)) 0 0) (show nI k + nI 1 = nI (k + 1) from (adE rfl rfl))) ?_
                  exact nxt c5 _ (by rw [kt]; repeat (first | rw [if_pos (by omega)] | rw [if_neg (by omega)]))
              · have c57 : k = 8 := (eqN (a := k) (b := 8) rfl rfl (by omega) (by omega)).mp hq
                clear hq
                refine hAt 3 _ _ _ _ _ _ ?_
                refine And.intro (aOKx (n := 11) (j := k) rfl (by decide) rfl rfl (by omega) (by omega)) ?_
                refine Eq.mpr (congrArg (fun xq : Mem => At 77 [.ref (108), .int (nI k)] [] xq 0 0) (wrE (σ := τ) (q := 110) (p := rfl) (hj := by omega) (h := rfl))) ?_
                refine hAt 2 _ _ _ _ _ _ ?_
                refine Eq.mpr (congrArg (fun xq : Int32 => At 2 [.ref (108), .int xq] [] (wI τ 110 k (nI 50)) 0 0) (show nI k + nI 1 = nI (k + 1) from (adE rfl rfl))) ?_
                exact nxt c5 _ (by rw [kt]; repeat (first | rw [if_pos (by omega)] | rw [if_neg (by omega)]))
            · have c45 : k = 7 := (eqN (a := k) (b := 7) rfl rfl (by omega) (by omega)).mp hq
              clear hq
              refine hAt 3 _ _ _ _ _ _ ?_
              refine And.intro (aOKx (n := 11) (j := k) rfl (by decide) rfl rfl (by omega) (by omega)) ?_
              refine Eq.mpr (congrArg (fun xq : Mem => At 77 [.ref (108), .int (nI k)] [] xq 0 0) (wrE (σ := τ) (q := 110) (p := rfl) (hj := by omega) (h := rfl))) ?_
              refine hAt 2 _ _ _ _ _ _ ?_
              refine Eq.mpr (congrArg (fun xq : Int32 => At 2 [.ref (108), .int xq] [] (wI τ 110 k (nI 999)) 0 0) (show nI k + nI 1 = nI (k + 1) from (adE rfl rfl))) ?_
              exact nxt c5 _ (by rw [kt]; repeat (first | rw [if_pos (by omega)] | rw [if_neg (by omega)]))
          · have c34 : k = 6 := (eqN (a := k) (b := 6) rfl rfl (by omega) (by omega)).mp hq
            clear hq
            refine hAt 3 _ _ _ _ _ _ ?_
            refine And.intro (aOKx (n := 11) (j := k) rfl (by decide) rfl rfl (by omega) (by omega)) ?_
            refine Eq.mpr (congrArg (fun xq : Mem => At 77 [.ref (108), .int (nI k)] [] xq 0 0) (wrE (σ := τ) (q := 110) (p := rfl) (hj := by omega) (h := rfl))) ?_
            refine hAt 2 _ _ _ _ _ _ ?_
            refine Eq.mpr (congrArg (fun xq : Int32 => At 2 [.ref (108), .int xq] [] (wI τ 110 k (nI 20)) 0 0) (show nI k + nI 1 = nI (k + 1) from (adE rfl rfl))) ?_
            exact nxt c5 _ (by rw [kt]; repeat (first | rw [if_pos (by omega)] | rw [if_neg (by omega)]))
        · have c24 : k = 1 := (eqN (a := k) (b := 1) rfl rfl (by omega) (by omega)).mp hq
          clear hq
          refine hAt 3 _ _ _ _ _ _ ?_
          refine And.intro (aOKx (n := 11) (j := k) rfl (by decide) rfl rfl (by omega) (by omega)) ?_
          refine Eq.mpr (congrArg (fun xq : Mem => At 77 [.ref (108), .int (nI k)] [] xq 0 0) (wrE (σ := τ) (q := 110) (p := rfl) (hj := by omega) (h := rfl))) ?_
          refine hAt 2 _ _ _ _ _ _ ?_
          refine Eq.mpr (congrArg (fun xq : Int32 => At 2 [.ref (108), .int xq] [] (wI τ 110 k (nI 5)) 0 0) (show nI k + nI 1 = nI (k + 1) from (adE rfl rfl))) ?_
          exact nxt c5 _ (by rw [kt]; repeat (first | rw [if_pos (by omega)] | rw [if_neg (by omega)]))
      · have c14 : k = 0 := (eqN (a := k) (b := 0) rfl rfl (by omega) (by omega)).mp hq
        clear hq
        refine hAt 3 _ _ _ _ _ _ ?_
        refine And.intro (aOKx (n := 11) (j := k) rfl (by decide) rfl rfl (by omega) (by omega)) ?_
        refine Eq.mpr (congrArg (fun xq : Mem => At 77 [.ref (108), .int (nI k)] [] xq 0 0) (wrE (σ := τ) (q := 110) (p := rfl) (hj := by omega) (h := rfl))) ?_
        refine hAt 2 _ _ _ _ _ _ ?_
        refine Eq.mpr (congrArg (fun xq : Int32 => At 2 [.ref (108), .int xq] [] (wI τ 110 k (nI 6)) 0 0) (show nI k + nI 1 = nI (k + 1) from (adE rfl rfl))) ?_
        exact nxt c5 _ (by rw [kt]; repeat (first | rw [if_pos (by omega)] | rw [if_neg (by omega)]))
  refine hAt 2 _ _ _ _ _ _ ?_
  exact loop 0 (Nat.zero_le _) σ (fun _ _ _ => rfl) rfl (fun i hi => absurd hi (Nat.not_lt_zero i))
theorem MC_sky_bad {x : Int32} (hv : VA A) (hx : x < nI 0 ∨ nI (aTc A) < x) : MC w (d + 7) 0 0 m_Mo_sky [.int x] A 1 v A := by
  intro σ P X hI hP
  have hI' : IM A (wI σ 108 0 (nI 0)) := hI.thr hv
  refine meth_ok k_Mo_sky q_Mo_sky rfl fun At hAt => ?_
  refine hAt 8 _ _ _ _ _ _ ?_
  refine Eq.mpr (congrArg (fun xq : Int32 => At 12 [.ref (108), .int (x), junk, junk] [.int xq, .int (nI 0), .int (x), .ref (108)] (wI σ 108 0 (nI 0)) 0 0) (show rI (wI σ 108 0 (nI 0)) 108 1 = nI (aTc A) from (by rw [rI_wI, if_neg (by omega)]; exact hI.2.1))) ?_
  refine hAt 2 _ _ _ _ _ _ ?_
  refine s_in ?_
  rw [decide_eq_false (fun z : ¬ x < nI 0 ∧ ¬ nI (aTc A) < x => hx.elim z.1 z.2)]
  refine And.intro (fun hq => absurd hq (by decide)) (fun _ => ?_)
  refine hAt 5 _ _ _ _ _ _ ?_
  refine s_bad1 (by decide) rfl (by omega) (by omega) ?_
  refine And.intro (fun hq => absurd hq (by decide)) (fun _ => ?_)
  refine hAt 2 _ _ _ _ _ _ ?_
  exact hP _ _ (((frM.rfl σ).wI (by omega)).wI (by omega)) (hI'.thr hv) rfl (fun q => by omega)
set_option maxRecDepth 4000 in
theorem MC_sky_ok {n : Nat} (hv : VA A) (hn : n ≤ aTc A) : MC w (d + 7) 0 0 m_Mo_sky [.int (nI n)] A 0 (.int (skV A n)) (skN A n) := by
  intro σ P X hI hP
  have hv2 := hv
  obtain ⟨w1, w2, -⟩ := hv2
  have hb : ∀ j, j < n → aTp A j < 256 := fun j hj => w2 j (by omega)
  have hn6 : n ≤ 600 := by omega
  refine meth_ok k_Mo_sky q_Mo_sky rfl fun At hAt => ?_
  obtain ⟨K, eK⟩ : ∃ K, K = (skR (aTp A) n).2 := ⟨_, rfl⟩
  obtain ⟨F, eF⟩ : ∃ F, F = (skR (aTp A) n).1 := ⟨_, rfl⟩
  have hvK : F.2.1 = 0 → VS K := fun z => by rw [eK]; exact VS.read (by rw [← eF]; exact z)
  have st339 : F.2.1 = 0 → ∀ τ z2 z3, (∀ a j, a < 108 → rI τ a j = rI σ a j) → τ.2 = σ.2 → rI τ 108 0 = nI 0 → rI τ 108 1 = nI 0 → rI τ 108 3 = -1 → skM τ K → At 339 [.ref 108, .int (nI n), z2, z3] [] τ 0 0 := by
    intro f0 τ z2 z3 t1 t2 t3 t4 t5 t6
    have eN : skN A n = (0, aTp A, -1, K, emB, 0, aIm A) := by rw [eK]; exact if_pos (by rw [← eF]; exact f0)
    have eV : skV A n = nI (kT K 2) := by rw [eK]; exact if_pos (by rw [← eF]; exact f0)
    rw [eN, eV] at hP
    refine hAt 16 _ _ _ _ _ _ ?_
    refine And.intro (aOKx (n := 11) (j := 2) rfl (by decide) rfl rfl (by omega) (by omega)) ?_
    refine Eq.mpr (congrArg (fun xq : Int32 => At 365 [.ref (108), .int (nI n), z2, z3] [.int xq] (wI (wI (wI (wI τ 108 19 (nI 0)) 108 20 (nI 0)) 108 21 (nI 0)) 108 22 (nI 0)) 0 0) (show rI (wI (wI (wI (wI τ 108 19 (nI 0)) 108 20 (nI 0)) 108 21 (nI 0)) 108 22 (nI 0)) 111 (nI 2).toNatClampNeg = nI (kT K 2) from (ldE rfl (by omega) (by rw [rI_wI, if_neg (by omega), rI_wI, if_neg (by omega), rI_wI, if_neg (by omega), rI_wI, if_neg (by omega)]; exact (t6.1 2 (by omega)))))) ?_
    refine hAt 1 _ _ _ _ _ _ ?_
    have ff : ∀ a j, a ≠ 108 → rI (wI (wI (wI (wI τ 108 19 (nI 0)) 108 20 (nI 0)) 108 21 (nI 0)) 108 22 (nI 0)) a j = rI τ a j := fun a j q => by rw [rI_wI, if_neg (by omega), rI_wI, if_neg (by omega), rI_wI, if_neg (by omega), rI_wI, if_neg (by omega)]
    have fg : ∀ j, ¬ (19 ≤ j ∧ j ≤ 22) → rI (wI (wI (wI (wI τ 108 19 (nI 0)) 108 20 (nI 0)) 108 21 (nI 0)) 108 22 (nI 0)) 108 j = rI τ 108 j := fun j q => by rw [rI_wI, if_neg (by omega), rI_wI, if_neg (by omega), rI_wI, if_neg (by omega), rI_wI, if_neg (by omega)]
    have hm : mN σ ≤ mN (wI (wI (wI (wI τ 108 19 (nI 0)) 108 20 (nI 0)) 108 21 (nI 0)) 108 22 (nI 0)) := by
      show mN σ ≤ τ.2.2.2.1
      rw [t2]; exact Nat.le_refl _
    refine hP _ _ ⟨fun a h1 j => (ff a j (by omega)).trans (t1 a j h1), fun a h1 j => ?_, hm⟩ ⟨Nat.le_trans hI.1 hm, (fg 1 (by omega)).trans t4, fun j hj => absurd hj (Nat.not_lt_zero j), (fg 3 (by omega)).trans t5, ?_, ?_, by rw [rI_wI, if_pos ⟨rfl, rfl⟩]; rfl, fun i hi => absurd hi (Nat.not_lt_zero i)⟩ ((fg 0 (by omega)).trans t3) (fun _ => rfl)
    · show τ.2.1 a j = σ.2.1 a j
      rw [t2]
    · obtain ⟨g1, g2, g3, g4, g5⟩ := t6
      have w10 := (hvK f0).2.2.2.2.2.2.2.2.2.2.1
      exact ⟨fun i hi => (ff _ _ (by omega)).trans (g1 i hi), fun i hi j hj => (ff _ _ (by omega)).trans (g2 i hi j hj), fun i hi j hj => (ff _ _ (by omega)).trans (g3 i hi j hj), fun i hi j hj => (ff _ _ (by omega)).trans (g4 i hi j hj), fun i hi j hj => (ff _ _ (by omega)).trans (g5 i hi j hj)⟩
    · exact ⟨⟨by rw [rI_wI, if_neg (by omega), rI_wI, if_neg (by omega), rI_wI, if_neg (by omega), rI_wI, if_pos ⟨rfl, rfl⟩]; rfl, fun i hi => absurd hi (Nat.not_lt_zero i)⟩, ⟨by rw [rI_wI, if_neg (by omega), rI_wI, if_neg (by omega), rI_wI, if_pos ⟨rfl, rfl⟩]; rfl, fun i hi => absurd hi (Nat.not_lt_zero i)⟩, ⟨by rw [rI_wI, if_neg (by omega), rI_wI, if_pos ⟨rfl, rfl⟩]; rfl, fun i hi => absurd hi (Nat.not_lt_zero i)⟩⟩
  have st292 : F.2.1 = 0 → ∀ τ z2 z3, (∀ a j, a < 108 → rI τ a j = rI σ a j) → τ.2 = σ.2 → rI τ 108 0 = nI 0 → rI τ 108 1 = nI 0 → rI τ 108 3 = -1 → skQ τ K → (∀ i, i < 11 → rI τ 111 i = nI (kT K i)) → (∀ i, i < kT K 10 → ∀ j, j < 4 → rI τ (122 + 1 + i) j = nI (kW K i j)) → (∀ i, i < kT K 2 → ∀ j, j < 7 → rI τ (141 + 1 + i) j = nI (kC K i j)) → (∀ i, i < kT K 3 → ∀ j, j < 6 → rI τ (163 + 1 + i) j = nI (kF K i j)) → At 292 [.ref 108, .int (nI n), z2, z3] [] τ 0 0 := by
    intro f0
    obtain ⟨-, -, b2, b3, b4, -, -, -, -, -, b10, -⟩ := hvK f0
    have inner : ∀ i, i < kT K 4 → (∀ τ z3, (∀ a j, a < 108 → rI τ a j = rI σ a j) → τ.2 = σ.2 → rI τ 108 0 = nI 0 → rI τ 108 1 = nI 0 → rI τ 108 3 = -1 → skQ τ K → (∀ i, i < 11 → rI τ 111 i = nI (kT K i)) → (∀ i, i < kT K 10 → ∀ j, j < 4 → rI τ (122 + 1 + i) j = nI (kW K i j)) → (∀ i, i < kT K 2 → ∀ j, j < 7 → rI τ (141 + 1 + i) j = nI (kC K i j)) → (∀ i, i < kT K 3 → ∀ j, j < 6 → rI τ (163 + 1 + i) j = nI (kF K i j)) → (∀ i', i' < i + 1 → ∀ j, j < 3 → rI τ (180 + 1 + i') j = nI (kI K i' j)) → At 294 [.ref 108, .int (nI n), .int (nI (i + 1)), z3] [] τ 0 0) → ∀ j, j ≤ 3 → ∀ τ, (∀ a j, a < 108 → rI τ a j = rI σ a j) → τ.2 = σ.2 → rI τ 108 0 = nI 0 → rI τ 108 1 = nI 0 → rI τ 108 3 = -1 → skQ τ K → (∀ i, i < 11 → rI τ 111 i = nI (kT K i)) → (∀ i, i < kT K 10 → ∀ j, j < 4 → rI τ (122 + 1 + i) j = nI (kW K i j)) → (∀ i, i < kT K 2 → ∀ j, j < 7 → rI τ (141 + 1 + i) j = nI (kC K i j)) → (∀ i, i < kT K 3 → ∀ j, j < 6 → rI τ (163 + 1 + i) j = nI (kF K i j)) → (∀ i', i' < i → ∀ j, j < 3 → rI τ (180 + 1 + i') j = nI (kI K i' j)) → (∀ j', j' < j → rI τ (180 + 1 + i) j' = nI (kI K i j')) → At 306 [.ref 108, .int (nI n), .int (nI i), .int (nI j)] [] τ 0 0 := by
      intro i hi nxt
      refine upto fun j hj ih => ?_
      intro τ t1 t2 t3 t4 t5 t6 t7 d0 d1 d2 r1 r2
      refine hAt 3 _ _ _ _ _ _ ?_
      refine And.intro (fun hq => ?_) (fun hq => ?_)
      · have c308 : 3 ≤ j := (leN (a := 3) (b := j) rfl rfl (by omega) (by omega)).mp hq
        clear hq
        refine hAt 2 _ _ _ _ _ _ ?_
        refine Eq.mpr (congrArg (fun xq : Int32 => At 294 [.ref (108), .int (nI n), .int xq, .int (nI j)] [] τ 0 0) (show nI i + nI 1 = nI (i + 1) from (adE rfl rfl))) ?_
        have ej : j = 3 := by omega
        subst ej
        exact nxt τ _ t1 t2 t3 t4 t5 t6 t7 d0 d1 d2 (fun i' hi' j' hj' => by
          by_cases g : i' = i
          · rw [g]; exact r2 j' hj'
          · exact r1 i' (by omega) j' hj')
      · have c308 : j < 3 := Nat.lt_of_not_le (fun zq => hq ((leN (a := 3) (b := j) rfl rfl (by omega) (by omega)).mpr zq))
        clear hq
        refine hAt 4 _ _ _ _ _ _ ?_
        refine And.intro (mx_r (q := 180) (n := 3) (k := 3) rfl rfl (show i < 3 by omega)) (And.intro (Or.inl rfl) ?_)
        refine Eq.mpr (congrArg (fun xq : Nat => At 317 [.ref (108), .int (nI n), .int (nI i), .int (nI j)] [.ref xq] τ 0 0) (rwE rfl (by omega))) ?_
        refine hAt 5 _ _ _ _ _ _ ?_
        refine And.intro (mx_r (q := 176) (n := 3) (k := 3) rfl rfl (show i < 3 by omega)) (And.intro (Or.inl rfl) ?_)
        refine Eq.mpr (congrArg (fun xq : Nat => At 324 [.ref (108), .int (nI n), .int (nI i), .int (nI j)] [.ref xq, .int (nI j), .ref (180 + 1 + i)] τ 0 0) (rwE rfl (by omega))) ?_
        refine hAt 2 _ _ _ _ _ _ ?_
        refine And.intro (mx_e (q := 176) (n := 3) (k := 3) (j := i) (i := j) rfl (by omega) (by omega) rfl) ?_
        refine Eq.mpr (congrArg (fun xq : Int32 => At 326 [.ref (108), .int (nI n), .int (nI i), .int (nI j)] [.int xq, .int (nI j), .ref (180 + 1 + i)] τ 0 0) (show rI τ (176 + 1 + i) (nI j).toNatClampNeg = nI (kI K i j) from (ldE rfl (by omega) (t6.2.2.2.2 i hi j (by omega))))) ?_
        refine hAt 1 _ _ _ _ _ _ ?_
        refine And.intro (mx_e (q := 180) (n := 3) (k := 3) (j := i) (i := j) rfl (by omega) (by omega) rfl) ?_
        refine Eq.mpr (congrArg (fun xq : Mem => At 327 [.ref (108), .int (nI n), .int (nI i), .int (nI j)] [] xq 0 0) (wrE (σ := τ) (q := 180 + 1 + i) (p := rfl) (hj := by omega) (h := rfl))) ?_
        refine hAt 2 _ _ _ _ _ _ ?_
        refine Eq.mpr (congrArg (fun xq : Int32 => At 306 [.ref (108), .int (nI n), .int (nI i), .int xq] [] (wI τ (180 + 1 + i) j (nI (kI K i j))) 0 0) (show nI j + nI 1 = nI (j + 1) from (adE rfl rfl))) ?_
        exact ih c308 _ (fun a j q => by rw [rI_wI, if_neg (by omega)]; exact t1 a j q) t2 (by rw [rI_wI, if_neg (by omega)]; exact t3) (by rw [rI_wI, if_neg (by omega)]; exact t4) (by rw [rI_wI, if_neg (by omega)]; exact t5) ⟨fun i' hi' => by rw [rI_wI, if_neg (by omega)]; exact t6.1 i' hi', fun i' hi' j' hj' => by rw [rI_wI, if_neg (by omega)]; exact t6.2.1 i' hi' j' hj', fun i' hi' j' hj' => by rw [rI_wI, if_neg (by omega)]; exact t6.2.2.1 i' hi' j' hj', fun i' hi' j' hj' => by rw [rI_wI, if_neg (by omega)]; exact t6.2.2.2.1 i' hi' j' hj', fun i' hi' j' hj' => by rw [rI_wI, if_neg (by omega)]; exact t6.2.2.2.2 i' hi' j' hj'⟩ (fun i' hi' => by rw [rI_wI, if_neg (by omega)]; exact t7 i' hi') (fun i' hi' j' hj' => by rw [rI_wI, if_neg (by omega)]; exact d0 i' hi' j' hj') (fun i' hi' j' hj' => by rw [rI_wI, if_neg (by omega)]; exact d1 i' hi' j' hj') (fun i' hi' j' hj' => by rw [rI_wI, if_neg (by omega)]; exact d2 i' hi' j' hj') (fun i' hi' j' hj' => by rw [rI_wI, if_neg (by omega)]; exact r1 i' hi' j' hj') (fun j' hj' => by
          by_cases g : j' = j
          · rw [g, rI_wI, if_pos ⟨rfl, rfl⟩]
          · rw [rI_wI, if_neg (by omega)]; exact r2 j' (by omega))
    have outer : ∀ i, i ≤ kT K 4 → ∀ τ z3, (∀ a j, a < 108 → rI τ a j = rI σ a j) → τ.2 = σ.2 → rI τ 108 0 = nI 0 → rI τ 108 1 = nI 0 → rI τ 108 3 = -1 → skQ τ K → (∀ i, i < 11 → rI τ 111 i = nI (kT K i)) → (∀ i, i < kT K 10 → ∀ j, j < 4 → rI τ (122 + 1 + i) j = nI (kW K i j)) → (∀ i, i < kT K 2 → ∀ j, j < 7 → rI τ (141 + 1 + i) j = nI (kC K i j)) → (∀ i, i < kT K 3 → ∀ j, j < 6 → rI τ (163 + 1 + i) j = nI (kF K i j)) → (∀ i', i' < i → ∀ j, j < 3 → rI τ (180 + 1 + i') j = nI (kI K i' j)) → At 294 [.ref 108, .int (nI n), .int (nI i), z3] [] τ 0 0 := by
      refine upto fun i hi ih => ?_
      intro τ z3 t1 t2 t3 t4 t5 t6 t7 d0 d1 d2 r1
      refine hAt 5 _ _ _ _ _ _ ?_
      refine And.intro (aOKx (n := 11) (j := 4) rfl (by decide) rfl rfl (by omega) (by omega)) ?_
      refine Eq.mpr (congrArg (fun xq : Int32 => At 301 [.ref (108), .int (nI n), .int (nI i), z3] [.int xq, .int (nI i)] τ 0 0) (show rI τ 111 (nI 4).toNatClampNeg = nI (kT K 4) from (ldE rfl (by omega) (t7 4 (by omega))))) ?_
      refine hAt 1 _ _ _ _ _ _ ?_
      refine And.intro (fun hq => ?_) (fun hq => ?_)
      · have c301 : kT K 4 ≤ i := (leN (a := kT K 4) (b := i) rfl rfl (by omega) (by omega)).mp hq
        clear hq
        have ei : i = kT K 4 := by omega
        subst ei
        have d3 := r1
        exact st339 f0 τ _ _ t1 t2 t3 t4 t5 ⟨t7, d0, d1, d2, d3⟩
      · have c301 : i < kT K 4 := Nat.lt_of_not_le (fun zq => hq ((leN (a := kT K 4) (b := i) rfl rfl (by omega) (by omega)).mpr zq))
        clear hq
        refine hAt 2 _ _ _ _ _ _ ?_
        exact inner i c301 (ih c301) 0 (Nat.zero_le _) τ t1 t2 t3 t4 t5 t6 t7 d0 d1 d2 r1 (fun j' hj' => absurd hj' (Nat.not_lt_zero j'))
    intro τ z2 z3 t1 t2 t3 t4 t5 t6 t7 d0 d1 d2
    refine hAt 2 _ _ _ _ _ _ ?_
    exact outer 0 (Nat.zero_le _) τ _ t1 t2 t3 t4 t5 t6 t7 d0 d1 d2 (fun i' hi' => absurd hi' (Nat.not_lt_zero i'))
  have st244 : F.2.1 = 0 → ∀ τ z2 z3, (∀ a j, a < 108 → rI τ a j = rI σ a j) → τ.2 = σ.2 → rI τ 108 0 = nI 0 → rI τ 108 1 = nI 0 → rI τ 108 3 = -1 → skQ τ K → (∀ i, i < 11 → rI τ 111 i = nI (kT K i)) → (∀ i, i < kT K 10 → ∀ j, j < 4 → rI τ (122 + 1 + i) j = nI (kW K i j)) → (∀ i, i < kT K 2 → ∀ j, j < 7 → rI τ (141 + 1 + i) j = nI (kC K i j)) → At 244 [.ref 108, .int (nI n), z2, z3] [] τ 0 0 := by
    intro f0
    obtain ⟨-, -, b2, b3, b4, -, -, -, -, -, b10, -⟩ := hvK f0
    have inner : ∀ i, i < kT K 3 → (∀ τ z3, (∀ a j, a < 108 → rI τ a j = rI σ a j) → τ.2 = σ.2 → rI τ 108 0 = nI 0 → rI τ 108 1 = nI 0 → rI τ 108 3 = -1 → skQ τ K → (∀ i, i < 11 → rI τ 111 i = nI (kT K i)) → (∀ i, i < kT K 10 → ∀ j, j < 4 → rI τ (122 + 1 + i) j = nI (kW K i j)) → (∀ i, i < kT K 2 → ∀ j, j < 7 → rI τ (141 + 1 + i) j = nI (kC K i j)) → (∀ i', i' < i + 1 → ∀ j, j < 6 → rI τ (163 + 1 + i') j = nI (kF K i' j)) → At 246 [.ref 108, .int (nI n), .int (nI (i + 1)), z3] [] τ 0 0) → ∀ j, j ≤ 6 → ∀ τ, (∀ a j, a < 108 → rI τ a j = rI σ a j) → τ.2 = σ.2 → rI τ 108 0 = nI 0 → rI τ 108 1 = nI 0 → rI τ 108 3 = -1 → skQ τ K → (∀ i, i < 11 → rI τ 111 i = nI (kT K i)) → (∀ i, i < kT K 10 → ∀ j, j < 4 → rI τ (122 + 1 + i) j = nI (kW K i j)) → (∀ i, i < kT K 2 → ∀ j, j < 7 → rI τ (141 + 1 + i) j = nI (kC K i j)) → (∀ i', i' < i → ∀ j, j < 6 → rI τ (163 + 1 + i') j = nI (kF K i' j)) → (∀ j', j' < j → rI τ (163 + 1 + i) j' = nI (kF K i j')) → At 258 [.ref 108, .int (nI n), .int (nI i), .int (nI j)] [] τ 0 0 := by
      intro i hi nxt
      refine upto fun j hj ih => ?_
      intro τ t1 t2 t3 t4 t5 t6 t7 d0 d1 r1 r2
      refine hAt 3 _ _ _ _ _ _ ?_
      refine And.intro (fun hq => ?_) (fun hq => ?_)
      · have c261 : 6 ≤ j := (leN (a := 6) (b := j) rfl rfl (by omega) (by omega)).mp hq
        clear hq
        refine hAt 2 _ _ _ _ _ _ ?_
        refine Eq.mpr (congrArg (fun xq : Int32 => At 246 [.ref (108), .int (nI n), .int xq, .int (nI j)] [] τ 0 0) (show nI i + nI 1 = nI (i + 1) from (adE rfl rfl))) ?_
        have ej : j = 6 := by omega
        subst ej
        exact nxt τ _ t1 t2 t3 t4 t5 t6 t7 d0 d1 (fun i' hi' j' hj' => by
          by_cases g : i' = i
          · rw [g]; exact r2 j' hj'
          · exact r1 i' (by omega) j' hj')
      · have c261 : j < 6 := Nat.lt_of_not_le (fun zq => hq ((leN (a := 6) (b := j) rfl rfl (by omega) (by omega)).mpr zq))
        clear hq
        refine hAt 4 _ _ _ _ _ _ ?_
        refine And.intro (mx_r (q := 163) (n := 12) (k := 6) rfl rfl (show i < 12 by omega)) (And.intro (Or.inl rfl) ?_)
        refine Eq.mpr (congrArg (fun xq : Nat => At 270 [.ref (108), .int (nI n), .int (nI i), .int (nI j)] [.ref xq] τ 0 0) (rwE rfl (by omega))) ?_
        refine hAt 5 _ _ _ _ _ _ ?_
        refine And.intro (mx_r (q := 150) (n := 12) (k := 6) rfl rfl (show i < 12 by omega)) (And.intro (Or.inl rfl) ?_)
        refine Eq.mpr (congrArg (fun xq : Nat => At 277 [.ref (108), .int (nI n), .int (nI i), .int (nI j)] [.ref xq, .int (nI j), .ref (163 + 1 + i)] τ 0 0) (rwE rfl (by omega))) ?_
        refine hAt 2 _ _ _ _ _ _ ?_
        refine And.intro (mx_e (q := 150) (n := 12) (k := 6) (j := i) (i := j) rfl (by omega) (by omega) rfl) ?_
        refine Eq.mpr (congrArg (fun xq : Int32 => At 279 [.ref (108), .int (nI n), .int (nI i), .int (nI j)] [.int xq, .int (nI j), .ref (163 + 1 + i)] τ 0 0) (show rI τ (150 + 1 + i) (nI j).toNatClampNeg = nI (kF K i j) from (ldE rfl (by omega) (t6.2.2.2.1 i hi j (by omega))))) ?_
        refine hAt 1 _ _ _ _ _ _ ?_
        refine And.intro (mx_e (q := 163) (n := 12) (k := 6) (j := i) (i := j) rfl (by omega) (by omega) rfl) ?_
        refine Eq.mpr (congrArg (fun xq : Mem => At 280 [.ref (108), .int (nI n), .int (nI i), .int (nI j)] [] xq 0 0) (wrE (σ := τ) (q := 163 + 1 + i) (p := rfl) (hj := by omega) (h := rfl))) ?_
        refine hAt 2 _ _ _ _ _ _ ?_
        refine Eq.mpr (congrArg (fun xq : Int32 => At 258 [.ref (108), .int (nI n), .int (nI i), .int xq] [] (wI τ (163 + 1 + i) j (nI (kF K i j))) 0 0) (show nI j + nI 1 = nI (j + 1) from (adE rfl rfl))) ?_
        exact ih c261 _ (fun a j q => by rw [rI_wI, if_neg (by omega)]; exact t1 a j q) t2 (by rw [rI_wI, if_neg (by omega)]; exact t3) (by rw [rI_wI, if_neg (by omega)]; exact t4) (by rw [rI_wI, if_neg (by omega)]; exact t5) ⟨fun i' hi' => by rw [rI_wI, if_neg (by omega)]; exact t6.1 i' hi', fun i' hi' j' hj' => by rw [rI_wI, if_neg (by omega)]; exact t6.2.1 i' hi' j' hj', fun i' hi' j' hj' => by rw [rI_wI, if_neg (by omega)]; exact t6.2.2.1 i' hi' j' hj', fun i' hi' j' hj' => by rw [rI_wI, if_neg (by omega)]; exact t6.2.2.2.1 i' hi' j' hj', fun i' hi' j' hj' => by rw [rI_wI, if_neg (by omega)]; exact t6.2.2.2.2 i' hi' j' hj'⟩ (fun i' hi' => by rw [rI_wI, if_neg (by omega)]; exact t7 i' hi') (fun i' hi' j' hj' => by rw [rI_wI, if_neg (by omega)]; exact d0 i' hi' j' hj') (fun i' hi' j' hj' => by rw [rI_wI, if_neg (by omega)]; exact d1 i' hi' j' hj') (fun i' hi' j' hj' => by rw [rI_wI, if_neg (by omega)]; exact r1 i' hi' j' hj') (fun j' hj' => by
          by_cases g : j' = j
          · rw [g, rI_wI, if_pos ⟨rfl, rfl⟩]
          · rw [rI_wI, if_neg (by omega)]; exact r2 j' (by omega))
    have outer : ∀ i, i ≤ kT K 3 → ∀ τ z3, (∀ a j, a < 108 → rI τ a j = rI σ a j) → τ.2 = σ.2 → rI τ 108 0 = nI 0 → rI τ 108 1 = nI 0 → rI τ 108 3 = -1 → skQ τ K → (∀ i, i < 11 → rI τ 111 i = nI (kT K i)) → (∀ i, i < kT K 10 → ∀ j, j < 4 → rI τ (122 + 1 + i) j = nI (kW K i j)) → (∀ i, i < kT K 2 → ∀ j, j < 7 → rI τ (141 + 1 + i) j = nI (kC K i j)) → (∀ i', i' < i → ∀ j, j < 6 → rI τ (163 + 1 + i') j = nI (kF K i' j)) → At 246 [.ref 108, .int (nI n), .int (nI i), z3] [] τ 0 0 := by
      refine upto fun i hi ih => ?_
      intro τ z3 t1 t2 t3 t4 t5 t6 t7 d0 d1 r1
      refine hAt 5 _ _ _ _ _ _ ?_
      refine And.intro (aOKx (n := 11) (j := 3) rfl (by decide) rfl rfl (by omega) (by omega)) ?_
      refine Eq.mpr (congrArg (fun xq : Int32 => At 253 [.ref (108), .int (nI n), .int (nI i), z3] [.int xq, .int (nI i)] τ 0 0) (show rI τ 111 (nI 3).toNatClampNeg = nI (kT K 3) from (ldE rfl (by omega) (t7 3 (by omega))))) ?_
      refine hAt 1 _ _ _ _ _ _ ?_
      refine And.intro (fun hq => ?_) (fun hq => ?_)
      · have c253 : kT K 3 ≤ i := (leN (a := kT K 3) (b := i) rfl rfl (by omega) (by omega)).mp hq
        clear hq
        have ei : i = kT K 3 := by omega
        subst ei
        have d2 := r1
        exact st292 f0 τ _ _ t1 t2 t3 t4 t5 t6 t7 d0 d1 d2
      · have c253 : i < kT K 3 := Nat.lt_of_not_le (fun zq => hq ((leN (a := kT K 3) (b := i) rfl rfl (by omega) (by omega)).mpr zq))
        clear hq
        refine hAt 2 _ _ _ _ _ _ ?_
        exact inner i c253 (ih c253) 0 (Nat.zero_le _) τ t1 t2 t3 t4 t5 t6 t7 d0 d1 r1 (fun j' hj' => absurd hj' (Nat.not_lt_zero j'))
    intro τ z2 z3 t1 t2 t3 t4 t5 t6 t7 d0 d1
    refine hAt 2 _ _ _ _ _ _ ?_
    exact outer 0 (Nat.zero_le _) τ _ t1 t2 t3 t4 t5 t6 t7 d0 d1 (fun i' hi' => absurd hi' (Nat.not_lt_zero i'))
  have st196 : F.2.1 = 0 → ∀ τ z2 z3, (∀ a j, a < 108 → rI τ a j = rI σ a j) → τ.2 = σ.2 → rI τ 108 0 = nI 0 → rI τ 108 1 = nI 0 → rI τ 108 3 = -1 → skQ τ K → (∀ i, i < 11 → rI τ 111 i = nI (kT K i)) → (∀ i, i < kT K 10 → ∀ j, j < 4 → rI τ (122 + 1 + i) j = nI (kW K i j)) → At 196 [.ref 108, .int (nI n), z2, z3] [] τ 0 0 := by
    intro f0
    obtain ⟨-, -, b2, b3, b4, -, -, -, -, -, b10, -⟩ := hvK f0
    have inner : ∀ i, i < kT K 2 → (∀ τ z3, (∀ a j, a < 108 → rI τ a j = rI σ a j) → τ.2 = σ.2 → rI τ 108 0 = nI 0 → rI τ 108 1 = nI 0 → rI τ 108 3 = -1 → skQ τ K → (∀ i, i < 11 → rI τ 111 i = nI (kT K i)) → (∀ i, i < kT K 10 → ∀ j, j < 4 → rI τ (122 + 1 + i) j = nI (kW K i j)) → (∀ i', i' < i + 1 → ∀ j, j < 7 → rI τ (141 + 1 + i') j = nI (kC K i' j)) → At 198 [.ref 108, .int (nI n), .int (nI (i + 1)), z3] [] τ 0 0) → ∀ j, j ≤ 7 → ∀ τ, (∀ a j, a < 108 → rI τ a j = rI σ a j) → τ.2 = σ.2 → rI τ 108 0 = nI 0 → rI τ 108 1 = nI 0 → rI τ 108 3 = -1 → skQ τ K → (∀ i, i < 11 → rI τ 111 i = nI (kT K i)) → (∀ i, i < kT K 10 → ∀ j, j < 4 → rI τ (122 + 1 + i) j = nI (kW K i j)) → (∀ i', i' < i → ∀ j, j < 7 → rI τ (141 + 1 + i') j = nI (kC K i' j)) → (∀ j', j' < j → rI τ (141 + 1 + i) j' = nI (kC K i j')) → At 210 [.ref 108, .int (nI n), .int (nI i), .int (nI j)] [] τ 0 0 := by
      intro i hi nxt
      refine upto fun j hj ih => ?_
      intro τ t1 t2 t3 t4 t5 t6 t7 d0 r1 r2
      refine hAt 3 _ _ _ _ _ _ ?_
      refine And.intro (fun hq => ?_) (fun hq => ?_)
      · have c213 : 7 ≤ j := (leN (a := 7) (b := j) rfl rfl (by omega) (by omega)).mp hq
        clear hq
        refine hAt 2 _ _ _ _ _ _ ?_
        refine Eq.mpr (congrArg (fun xq : Int32 => At 198 [.ref (108), .int (nI n), .int xq, .int (nI j)] [] τ 0 0) (show nI i + nI 1 = nI (i + 1) from (adE rfl rfl))) ?_
        have ej : j = 7 := by omega
        subst ej
        exact nxt τ _ t1 t2 t3 t4 t5 t6 t7 d0 (fun i' hi' j' hj' => by
          by_cases g : i' = i
          · rw [g]; exact r2 j' hj'
          · exact r1 i' (by omega) j' hj')
      · have c213 : j < 7 := Nat.lt_of_not_le (fun zq => hq ((leN (a := 7) (b := j) rfl rfl (by omega) (by omega)).mpr zq))
        clear hq
        refine hAt 4 _ _ _ _ _ _ ?_
        refine And.intro (mx_r (q := 141) (n := 8) (k := 7) rfl rfl (show i < 8 by omega)) (And.intro (Or.inl rfl) ?_)
        refine Eq.mpr (congrArg (fun xq : Nat => At 222 [.ref (108), .int (nI n), .int (nI i), .int (nI j)] [.ref xq] τ 0 0) (rwE rfl (by omega))) ?_
        refine hAt 5 _ _ _ _ _ _ ?_
        refine And.intro (mx_r (q := 132) (n := 8) (k := 7) rfl rfl (show i < 8 by omega)) (And.intro (Or.inl rfl) ?_)
        refine Eq.mpr (congrArg (fun xq : Nat => At 229 [.ref (108), .int (nI n), .int (nI i), .int (nI j)] [.ref xq, .int (nI j), .ref (141 + 1 + i)] τ 0 0) (rwE rfl (by omega))) ?_
        refine hAt 2 _ _ _ _ _ _ ?_
        refine And.intro (mx_e (q := 132) (n := 8) (k := 7) (j := i) (i := j) rfl (by omega) (by omega) rfl) ?_
        refine Eq.mpr (congrArg (fun xq : Int32 => At 231 [.ref (108), .int (nI n), .int (nI i), .int (nI j)] [.int xq, .int (nI j), .ref (141 + 1 + i)] τ 0 0) (show rI τ (132 + 1 + i) (nI j).toNatClampNeg = nI (kC K i j) from (ldE rfl (by omega) (t6.2.2.1 i hi j (by omega))))) ?_
        refine hAt 1 _ _ _ _ _ _ ?_
        refine And.intro (mx_e (q := 141) (n := 8) (k := 7) (j := i) (i := j) rfl (by omega) (by omega) rfl) ?_
        refine Eq.mpr (congrArg (fun xq : Mem => At 232 [.ref (108), .int (nI n), .int (nI i), .int (nI j)] [] xq 0 0) (wrE (σ := τ) (q := 141 + 1 + i) (p := rfl) (hj := by omega) (h := rfl))) ?_
        refine hAt 2 _ _ _ _ _ _ ?_
        refine Eq.mpr (congrArg (fun xq : Int32 => At 210 [.ref (108), .int (nI n), .int (nI i), .int xq] [] (wI τ (141 + 1 + i) j (nI (kC K i j))) 0 0) (show nI j + nI 1 = nI (j + 1) from (adE rfl rfl))) ?_
        exact ih c213 _ (fun a j q => by rw [rI_wI, if_neg (by omega)]; exact t1 a j q) t2 (by rw [rI_wI, if_neg (by omega)]; exact t3) (by rw [rI_wI, if_neg (by omega)]; exact t4) (by rw [rI_wI, if_neg (by omega)]; exact t5) ⟨fun i' hi' => by rw [rI_wI, if_neg (by omega)]; exact t6.1 i' hi', fun i' hi' j' hj' => by rw [rI_wI, if_neg (by omega)]; exact t6.2.1 i' hi' j' hj', fun i' hi' j' hj' => by rw [rI_wI, if_neg (by omega)]; exact t6.2.2.1 i' hi' j' hj', fun i' hi' j' hj' => by rw [rI_wI, if_neg (by omega)]; exact t6.2.2.2.1 i' hi' j' hj', fun i' hi' j' hj' => by rw [rI_wI, if_neg (by omega)]; exact t6.2.2.2.2 i' hi' j' hj'⟩ (fun i' hi' => by rw [rI_wI, if_neg (by omega)]; exact t7 i' hi') (fun i' hi' j' hj' => by rw [rI_wI, if_neg (by omega)]; exact d0 i' hi' j' hj') (fun i' hi' j' hj' => by rw [rI_wI, if_neg (by omega)]; exact r1 i' hi' j' hj') (fun j' hj' => by
          by_cases g : j' = j
          · rw [g, rI_wI, if_pos ⟨rfl, rfl⟩]
          · rw [rI_wI, if_neg (by omega)]; exact r2 j' (by omega))
    have outer : ∀ i, i ≤ kT K 2 → ∀ τ z3, (∀ a j, a < 108 → rI τ a j = rI σ a j) → τ.2 = σ.2 → rI τ 108 0 = nI 0 → rI τ 108 1 = nI 0 → rI τ 108 3 = -1 → skQ τ K → (∀ i, i < 11 → rI τ 111 i = nI (kT K i)) → (∀ i, i < kT K 10 → ∀ j, j < 4 → rI τ (122 + 1 + i) j = nI (kW K i j)) → (∀ i', i' < i → ∀ j, j < 7 → rI τ (141 + 1 + i') j = nI (kC K i' j)) → At 198 [.ref 108, .int (nI n), .int (nI i), z3] [] τ 0 0 := by
      refine upto fun i hi ih => ?_
      intro τ z3 t1 t2 t3 t4 t5 t6 t7 d0 r1
      refine hAt 5 _ _ _ _ _ _ ?_
      refine And.intro (aOKx (n := 11) (j := 2) rfl (by decide) rfl rfl (by omega) (by omega)) ?_
      refine Eq.mpr (congrArg (fun xq : Int32 => At 205 [.ref (108), .int (nI n), .int (nI i), z3] [.int xq, .int (nI i)] τ 0 0) (show rI τ 111 (nI 2).toNatClampNeg = nI (kT K 2) from (ldE rfl (by omega) (t7 2 (by omega))))) ?_
      refine hAt 1 _ _ _ _ _ _ ?_
      refine And.intro (fun hq => ?_) (fun hq => ?_)
      · have c205 : kT K 2 ≤ i := (leN (a := kT K 2) (b := i) rfl rfl (by omega) (by omega)).mp hq
        clear hq
        have ei : i = kT K 2 := by omega
        subst ei
        have d1 := r1
        exact st244 f0 τ _ _ t1 t2 t3 t4 t5 t6 t7 d0 d1
      · have c205 : i < kT K 2 := Nat.lt_of_not_le (fun zq => hq ((leN (a := kT K 2) (b := i) rfl rfl (by omega) (by omega)).mpr zq))
        clear hq
        refine hAt 2 _ _ _ _ _ _ ?_
        exact inner i c205 (ih c205) 0 (Nat.zero_le _) τ t1 t2 t3 t4 t5 t6 t7 d0 r1 (fun j' hj' => absurd hj' (Nat.not_lt_zero j'))
    intro τ z2 z3 t1 t2 t3 t4 t5 t6 t7 d0
    refine hAt 2 _ _ _ _ _ _ ?_
    exact outer 0 (Nat.zero_le _) τ _ t1 t2 t3 t4 t5 t6 t7 d0 (fun i' hi' => absurd hi' (Nat.not_lt_zero i'))
  have st148 : F.2.1 = 0 → ∀ τ z2 z3, (∀ a j, a < 108 → rI τ a j = rI σ a j) → τ.2 = σ.2 → rI τ 108 0 = nI 0 → rI τ 108 1 = nI 0 → rI τ 108 3 = -1 → skQ τ K → (∀ i, i < 11 → rI τ 111 i = nI (kT K i)) → At 148 [.ref 108, .int (nI n), z2, z3] [] τ 0 0 := by
    intro f0
    obtain ⟨-, -, b2, b3, b4, -, -, -, -, -, b10, -⟩ := hvK f0
    have inner : ∀ i, i < kT K 10 → (∀ τ z3, (∀ a j, a < 108 → rI τ a j = rI σ a j) → τ.2 = σ.2 → rI τ 108 0 = nI 0 → rI τ 108 1 = nI 0 → rI τ 108 3 = -1 → skQ τ K → (∀ i, i < 11 → rI τ 111 i = nI (kT K i)) → (∀ i', i' < i + 1 → ∀ j, j < 4 → rI τ (122 + 1 + i') j = nI (kW K i' j)) → At 150 [.ref 108, .int (nI n), .int (nI (i + 1)), z3] [] τ 0 0) → ∀ j, j ≤ 4 → ∀ τ, (∀ a j, a < 108 → rI τ a j = rI σ a j) → τ.2 = σ.2 → rI τ 108 0 = nI 0 → rI τ 108 1 = nI 0 → rI τ 108 3 = -1 → skQ τ K → (∀ i, i < 11 → rI τ 111 i = nI (kT K i)) → (∀ i', i' < i → ∀ j, j < 4 → rI τ (122 + 1 + i') j = nI (kW K i' j)) → (∀ j', j' < j → rI τ (122 + 1 + i) j' = nI (kW K i j')) → At 163 [.ref 108, .int (nI n), .int (nI i), .int (nI j)] [] τ 0 0 := by
      intro i hi nxt
      refine upto fun j hj ih => ?_
      intro τ t1 t2 t3 t4 t5 t6 t7  r1 r2
      refine hAt 3 _ _ _ _ _ _ ?_
      refine And.intro (fun hq => ?_) (fun hq => ?_)
      · have c165 : 4 ≤ j := (leN (a := 4) (b := j) rfl rfl (by omega) (by omega)).mp hq
        clear hq
        refine hAt 2 _ _ _ _ _ _ ?_
        refine Eq.mpr (congrArg (fun xq : Int32 => At 150 [.ref (108), .int (nI n), .int xq, .int (nI j)] [] τ 0 0) (show nI i + nI 1 = nI (i + 1) from (adE rfl rfl))) ?_
        have ej : j = 4 := by omega
        subst ej
        exact nxt τ _ t1 t2 t3 t4 t5 t6 t7  (fun i' hi' j' hj' => by
          by_cases g : i' = i
          · rw [g]; exact r2 j' hj'
          · exact r1 i' (by omega) j' hj')
      · have c165 : j < 4 := Nat.lt_of_not_le (fun zq => hq ((leN (a := 4) (b := j) rfl rfl (by omega) (by omega)).mpr zq))
        clear hq
        refine hAt 4 _ _ _ _ _ _ ?_
        refine And.intro (mx_r (q := 122) (n := 9) (k := 4) rfl rfl (show i < 9 by omega)) (And.intro (Or.inl rfl) ?_)
        refine Eq.mpr (congrArg (fun xq : Nat => At 174 [.ref (108), .int (nI n), .int (nI i), .int (nI j)] [.ref xq] τ 0 0) (rwE rfl (by omega))) ?_
        refine hAt 5 _ _ _ _ _ _ ?_
        refine And.intro (mx_r (q := 112) (n := 9) (k := 4) rfl rfl (show i < 9 by omega)) (And.intro (Or.inl rfl) ?_)
        refine Eq.mpr (congrArg (fun xq : Nat => At 181 [.ref (108), .int (nI n), .int (nI i), .int (nI j)] [.ref xq, .int (nI j), .ref (122 + 1 + i)] τ 0 0) (rwE rfl (by omega))) ?_
        refine hAt 2 _ _ _ _ _ _ ?_
        refine And.intro (mx_e (q := 112) (n := 9) (k := 4) (j := i) (i := j) rfl (by omega) (by omega) rfl) ?_
        refine Eq.mpr (congrArg (fun xq : Int32 => At 183 [.ref (108), .int (nI n), .int (nI i), .int (nI j)] [.int xq, .int (nI j), .ref (122 + 1 + i)] τ 0 0) (show rI τ (112 + 1 + i) (nI j).toNatClampNeg = nI (kW K i j) from (ldE rfl (by omega) (t6.2.1 i hi j (by omega))))) ?_
        refine hAt 1 _ _ _ _ _ _ ?_
        refine And.intro (mx_e (q := 122) (n := 9) (k := 4) (j := i) (i := j) rfl (by omega) (by omega) rfl) ?_
        refine Eq.mpr (congrArg (fun xq : Mem => At 184 [.ref (108), .int (nI n), .int (nI i), .int (nI j)] [] xq 0 0) (wrE (σ := τ) (q := 122 + 1 + i) (p := rfl) (hj := by omega) (h := rfl))) ?_
        refine hAt 2 _ _ _ _ _ _ ?_
        refine Eq.mpr (congrArg (fun xq : Int32 => At 163 [.ref (108), .int (nI n), .int (nI i), .int xq] [] (wI τ (122 + 1 + i) j (nI (kW K i j))) 0 0) (show nI j + nI 1 = nI (j + 1) from (adE rfl rfl))) ?_
        exact ih c165 _ (fun a j q => by rw [rI_wI, if_neg (by omega)]; exact t1 a j q) t2 (by rw [rI_wI, if_neg (by omega)]; exact t3) (by rw [rI_wI, if_neg (by omega)]; exact t4) (by rw [rI_wI, if_neg (by omega)]; exact t5) ⟨fun i' hi' => by rw [rI_wI, if_neg (by omega)]; exact t6.1 i' hi', fun i' hi' j' hj' => by rw [rI_wI, if_neg (by omega)]; exact t6.2.1 i' hi' j' hj', fun i' hi' j' hj' => by rw [rI_wI, if_neg (by omega)]; exact t6.2.2.1 i' hi' j' hj', fun i' hi' j' hj' => by rw [rI_wI, if_neg (by omega)]; exact t6.2.2.2.1 i' hi' j' hj', fun i' hi' j' hj' => by rw [rI_wI, if_neg (by omega)]; exact t6.2.2.2.2 i' hi' j' hj'⟩ (fun i' hi' => by rw [rI_wI, if_neg (by omega)]; exact t7 i' hi')  (fun i' hi' j' hj' => by rw [rI_wI, if_neg (by omega)]; exact r1 i' hi' j' hj') (fun j' hj' => by
          by_cases g : j' = j
          · rw [g, rI_wI, if_pos ⟨rfl, rfl⟩]
          · rw [rI_wI, if_neg (by omega)]; exact r2 j' (by omega))
    have outer : ∀ i, i ≤ kT K 10 → ∀ τ z3, (∀ a j, a < 108 → rI τ a j = rI σ a j) → τ.2 = σ.2 → rI τ 108 0 = nI 0 → rI τ 108 1 = nI 0 → rI τ 108 3 = -1 → skQ τ K → (∀ i, i < 11 → rI τ 111 i = nI (kT K i)) → (∀ i', i' < i → ∀ j, j < 4 → rI τ (122 + 1 + i') j = nI (kW K i' j)) → At 150 [.ref 108, .int (nI n), .int (nI i), z3] [] τ 0 0 := by
      refine upto fun i hi ih => ?_
      intro τ z3 t1 t2 t3 t4 t5 t6 t7  r1
      refine hAt 5 _ _ _ _ _ _ ?_
      refine And.intro (aOKx (n := 11) (j := 10) rfl (by decide) rfl rfl (by omega) (by omega)) ?_
      refine Eq.mpr (congrArg (fun xq : Int32 => At 158 [.ref (108), .int (nI n), .int (nI i), z3] [.int xq, .int (nI i)] τ 0 0) (show rI τ 111 (nI 10).toNatClampNeg = nI (kT K 10) from (ldE rfl (by omega) (t7 10 (by omega))))) ?_
      refine hAt 1 _ _ _ _ _ _ ?_
      refine And.intro (fun hq => ?_) (fun hq => ?_)
      · have c158 : kT K 10 ≤ i := (leN (a := kT K 10) (b := i) rfl rfl (by omega) (by omega)).mp hq
        clear hq
        have ei : i = kT K 10 := by omega
        subst ei
        have d0 := r1
        exact st196 f0 τ _ _ t1 t2 t3 t4 t5 t6 t7 d0
      · have c158 : i < kT K 10 := Nat.lt_of_not_le (fun zq => hq ((leN (a := kT K 10) (b := i) rfl rfl (by omega) (by omega)).mpr zq))
        clear hq
        refine hAt 2 _ _ _ _ _ _ ?_
        exact inner i c158 (ih c158) 0 (Nat.zero_le _) τ t1 t2 t3 t4 t5 t6 t7  r1 (fun j' hj' => absurd hj' (Nat.not_lt_zero j'))
    intro τ z2 z3 t1 t2 t3 t4 t5 t6 t7 
    refine hAt 2 _ _ _ _ _ _ ?_
    exact outer 0 (Nat.zero_le _) τ _ t1 t2 t3 t4 t5 t6 t7  (fun i' hi' => absurd hi' (Nat.not_lt_zero i'))
  have st124 : F.2.1 = 0 → ∀ k, k ≤ 11 → ∀ τ z3, (∀ a j, a < 108 → rI τ a j = rI σ a j) → τ.2 = σ.2 → rI τ 108 0 = nI 0 → rI τ 108 1 = nI 0 → rI τ 108 3 = -1 → skQ τ K → (∀ i, i < k → rI τ 111 i = nI (kT K i)) → At 124 [.ref 108, .int (nI n), .int (nI k), z3] [] τ 0 0 := by
    intro f0
    obtain ⟨-, -, b2, b3, b4, -, -, -, -, -, b10, -⟩ := hvK f0
    refine upto fun k hk ih => ?_
    intro τ z3 t1 t2 t3 t4 t5 t6 t7
    refine hAt 3 _ _ _ _ _ _ ?_
    refine And.intro (fun hq => ?_) (fun hq => ?_)
    · have c127 : 11 ≤ k := (leN (a := 11) (b := k) rfl rfl (by omega) (by omega)).mp hq
      clear hq
      have ek : k = 11 := by omega
      subst ek
      exact st148 f0 τ _ _ t1 t2 t3 t4 t5 t6 t7
    · have c127 : k < 11 := Nat.lt_of_not_le (fun zq => hq ((leN (a := 11) (b := k) rfl rfl (by omega) (by omega)).mpr zq))
      clear hq
      refine hAt 7 _ _ _ _ _ _ ?_
      refine And.intro (aOKx (n := 11) (j := k) rfl (by decide) rfl rfl (by omega) (by omega)) ?_
      refine Eq.mpr (congrArg (fun xq : Int32 => At 141 [.ref (108), .int (nI n), .int (nI k), z3] [.int xq, .int (nI k), .ref (111)] τ 0 0) (show rI τ 110 (nI k).toNatClampNeg = nI (kT K k) from (ldE rfl (by omega) (t6.1 k (by omega))))) ?_
      refine hAt 1 _ _ _ _ _ _ ?_
      refine And.intro (aOKx (n := 11) (j := k) rfl (by decide) rfl rfl (by omega) (by omega)) ?_
      refine Eq.mpr (congrArg (fun xq : Mem => At 142 [.ref (108), .int (nI n), .int (nI k), z3] [] xq 0 0) (wrE (σ := τ) (q := 111) (p := rfl) (hj := by omega) (h := rfl))) ?_
      refine hAt 2 _ _ _ _ _ _ ?_
      refine Eq.mpr (congrArg (fun xq : Int32 => At 124 [.ref (108), .int (nI n), .int xq, z3] [] (wI τ 111 k (nI (kT K k))) 0 0) (show nI k + nI 1 = nI (k + 1) from (adE rfl rfl))) ?_
      exact ih c127 _ _ (fun a j q => by rw [rI_wI, if_neg (by omega)]; exact t1 a j q) t2 (by rw [rI_wI, if_neg (by omega)]; exact t3) (by rw [rI_wI, if_neg (by omega)]; exact t4) (by rw [rI_wI, if_neg (by omega)]; exact t5) ⟨fun i' hi' => by rw [rI_wI, if_neg (by omega)]; exact t6.1 i' hi', fun i' hi' j' hj' => by rw [rI_wI, if_neg (by omega)]; exact t6.2.1 i' hi' j' hj', fun i' hi' j' hj' => by rw [rI_wI, if_neg (by omega)]; exact t6.2.2.1 i' hi' j' hj', fun i' hi' j' hj' => by rw [rI_wI, if_neg (by omega)]; exact t6.2.2.2.1 i' hi' j' hj', fun i' hi' j' hj' => by rw [rI_wI, if_neg (by omega)]; exact t6.2.2.2.2 i' hi' j' hj'⟩ (fun i hi => by
        by_cases g : i = k
        · rw [g, rI_wI, if_pos ⟨rfl, rfl⟩]
        · rw [rI_wI, if_neg (by omega)]; exact t7 i (by omega))
  have out : ∀ τ z2 z3, (∀ a j, ¬ (a = 108 ∧ j ≤ 7) → ¬ trQ a j → rI τ a j = rI σ a j) → τ.2 = σ.2 → rI τ 108 0 = nI 0 → rI τ 108 1 = nI 0 → rmC (aTp A) n F τ → (F.2.1 = 0 → skQ τ K) → At 99 [.ref 108, .int (nI n), z2, z3] [] τ 0 0 := by
    intro τ z2 z3 t1 t2 t3 t4 t5 t6
    have h94 := t5.2.2.1.1
    have h95 := t5.2.2.1.2
    have h96 := t5.2.2.2
    refine hAt 6 _ _ _ _ _ _ ?_
    refine Eq.mpr (congrArg (fun xq : Int32 => At 111 [.ref (108), .int (nI n), z2, z3] [.int xq] (wI τ 108 3 (rI τ 108 6)) 0 0) (show rI (wI τ 108 3 (rI τ 108 6)) 108 5 = nI F.2.1 from (by rw [rI_wI, if_neg (by omega)]; exact h95))) ?_
    refine hAt 1 _ _ _ _ _ _ ?_
    refine And.intro (fun hq => ?_) (fun hq => ?_)
    · have c111 : F.2.1 = 0 := (eqN (a := F.2.1) (b := 0) rfl rfl (by omega) (by omega)).mp hq
      clear hq
      refine hAt 2 _ _ _ _ _ _ ?_
      have f0 : F.2.1 = 0 := c111
      have qq := t6 f0
      obtain ⟨-, -, b2, b3, b4, -, -, -, -, -, b10, -⟩ := hvK f0
      exact st124 f0 0 (Nat.zero_le _) _ _ (fun a j q => by rw [rI_wI, if_neg (by omega)]; exact t1 a j (by omega) (by unfold trQ; omega)) t2 (by rw [rI_wI, if_neg (by omega)]; exact t3) (by rw [rI_wI, if_neg (by omega)]; exact t4) (by rw [rI_wI, if_pos ⟨rfl, rfl⟩, h96, plI, if_pos f0]) (qq.fr (hvK f0) (fun a j q1 q2 => by rw [rI_wI, if_neg (by omega)])) (fun i hi => absurd hi (Nat.not_lt_zero i))
    · have c111 : ¬ F.2.1 = 0 := fun zq => hq ((eqN (a := F.2.1) (b := 0) rfl rfl (by omega) (by omega)).mpr zq)
      clear hq
      refine hAt 2 _ _ _ _ _ _ ?_
      refine Eq.mpr (congrArg (fun xq : Int32 => At 118 [.ref (108), .int (nI n), z2, z3] [.int xq] (wI τ 108 3 (rI τ 108 6)) 0 0) (show rI (wI τ 108 3 (rI τ 108 6)) 108 5 = nI F.2.1 from (by rw [rI_wI, if_neg (by omega)]; exact h95))) ?_
      refine hAt 3 _ _ _ _ _ _ ?_
      have eN : skN A n = (0, aTp A, nI F.2.2, aSk A, aBk A, aIn A, aIm A) := by rw [eF]; exact if_neg (by rw [← eF]; exact c111)
      have eV : skV A n = nI F.2.1 - nI 10 := by rw [eF]; exact if_neg (by rw [← eF]; exact c111)
      rw [eN, eV] at hP
      have hm : mN σ ≤ mN (wI τ 108 3 (rI τ 108 6)) := by
        show mN σ ≤ τ.2.2.2.1
        rw [t2]; exact Nat.le_refl _
      have ff : ∀ a j, ¬ (a = 108 ∧ j ≤ 7) → ¬ trQ a j → rI (wI τ 108 3 (rI τ 108 6)) a j = rI σ a j := fun a j q1 q2 => by rw [rI_wI, if_neg (by omega)]; exact t1 a j q1 q2
      have vA := hv
      obtain ⟨x1, x2, x3, x4, x5, x6⟩ := vA
      obtain ⟨y1, y2, y3, y4, y5, -, -, -, -, -, y10, -⟩ := x3
      obtain ⟨b1, b2, b3, -⟩ := x4
      refine hP _ _ ⟨fun a h1 j => ff a j (by omega) (by unfold trQ; omega), fun a h1 j => ?_, hm⟩ ⟨Nat.le_trans hI.1 hm, by rw [rI_wI, if_neg (by omega)]; exact t4, fun j hj => absurd hj (Nat.not_lt_zero j), ?_, ?_, ?_, (ff 108 22 (by omega) (by unfold trQ; omega)).trans hI.2.2.2.2.2.2.1, fun i hi => ?_⟩ (by rw [rI_wI, if_neg (by omega)]; exact t3) (fun _ => rfl)
      · show τ.2.1 a j = σ.2.1 a j
        rw [t2]
      · show rI _ 108 3 = nI F.2.2
        rw [rI_wI, if_pos ⟨rfl, rfl⟩, h96, plI, if_neg c111]
      · obtain ⟨g1, g2, g3, g4, g5⟩ := hI.2.2.2.2.1
        exact ⟨fun i hi => (ff _ _ (by omega) (by unfold trQ; omega)).trans (g1 i hi), fun i (hi : i < kT (aSk A) 10) j hj => (ff _ _ (by omega) (by unfold trQ; omega)).trans (g2 i hi j hj), fun i (hi : i < kT (aSk A) 2) j hj => (ff _ _ (by omega) (by unfold trQ; omega)).trans (g3 i hi j hj), fun i (hi : i < kT (aSk A) 3) j hj => (ff _ _ (by omega) (by unfold trQ; omega)).trans (g4 i hi j hj), fun i (hi : i < kT (aSk A) 4) j hj => (ff _ _ (by omega) (by unfold trQ; omega)).trans (g5 i hi j hj)⟩
      · obtain ⟨g1, g2, g3⟩ := hI.2.2.2.2.2.1
        exact ⟨⟨(ff _ _ (by omega) (by unfold trQ; omega)).trans g1.1, fun i hi j hj => (ff _ _ (by omega) (by unfold trQ; omega)).trans (g1.2 i hi j hj)⟩, ⟨(ff _ _ (by omega) (by unfold trQ; omega)).trans g2.1, fun i hi j hj => (ff _ _ (by omega) (by unfold trQ; omega)).trans (g2.2 i hi j hj)⟩, ⟨(ff _ _ (by omega) (by unfold trQ; omega)).trans g3.1, fun i hi j hj => (ff _ _ (by omega) (by unfold trQ; omega)).trans (g3.2 i hi j hj)⟩⟩
      · have hi : i < aIn A := hi
        obtain ⟨g1, g2, g3, g4, g5, g6⟩ := hI.2.2.2.2.2.2.2 i hi
        have fi : ∀ j, rI (wI τ 108 3 (rI τ 108 6)) (235 + i) j = rI σ (235 + i) j := fun j => ff _ _ (by omega) (by unfold trQ; omega)
        exact ⟨(fi _).trans g1, (fi _).trans g2, (fi _).trans g3, fun i hi j hj => (fi _).trans (g4 i hi j hj), fun i hi j hj => (fi _).trans (g5 i hi j hj), fun i hi j hj => (fi _).trans (g6 i hi j hj)⟩
  have loop : ∀ c, c ≤ 61 → ∀ (s : Ps) (k : Sk) τ z2 z3, (∀ a j, ¬ (a = 108 ∧ j ≤ 7) → ¬ trQ a j → rI τ a j = rI σ a j) → τ.2 = σ.2 → rI τ 108 0 = nI 0 → rI τ 108 1 = nI 0 → rmC (aTp A) n s τ → (s.2.1 = 0 → bS (aTp A) n s.1 = s.1 ∧ rI τ 108 7 = nI c ∧ skQ τ k ∧ VS k ∧ (c = 0 → kT k 2 = 0 ∧ kT k 3 = 0 ∧ kT k 4 = 0)) → (c = 61 → ¬ s.2.1 = 0) → goS (aTp A) n (61 - c) c s k = skR (aTp A) n → At 70 [.ref 108, .int (nI n), z2, z3] [] τ 0 0 := by
    refine upto fun c hc ih => ?_
    intro s k τ z2 z3 t1 t2 t3 t4 t5 t6 t61 hg
    have h94 := t5.2.2.1.1
    have h95 := t5.2.2.1.2
    have h2 := t5.1.1
    have stop2 : ¬ (s.2.1 = 0 ∧ s.1 < n) → At 99 [.ref 108, .int (nI n), z2, z3] [] τ 0 0 := fun q => by
      have e : (s, k) = skR (aTp A) n := by
        rw [← hg]
        by_cases e : c = 61
        · rw [e]; rfl
        · rw [show 61 - c = (61 - (c + 1)) + 1 by omega, goS, if_neg q]
      refine out τ z2 z3 t1 t2 t3 t4 (by rw [eF, ← e]; exact t5) (fun z => ?_)
      rw [eF, ← e] at z
      rw [eK, ← e]
      exact (t6 z).2.2.1
    refine hAt 2 _ _ _ _ _ _ ?_
    refine Eq.mpr (congrArg (fun xq : Int32 => At 74 [.ref (108), .int (nI n), z2, z3] [.int xq] τ 0 0) (show rI τ 108 5 = nI s.2.1 from h95)) ?_
    refine hAt 1 _ _ _ _ _ _ ?_
    refine And.intro (fun hq => ?_) (fun hq => ?_)
    · have c74 : ¬ s.2.1 = 0 := fun zq => hq ((eqN (a := s.2.1) (b := 0) rfl rfl (by omega) (by omega)).mpr zq)
      clear hq
      exact stop2 (fun z => c74 z.1)
    · have c74 : s.2.1 = 0 := (eqN (a := s.2.1) (b := 0) rfl rfl (by omega) (by omega)).mp hq
      clear hq
      obtain ⟨h4, h4n⟩ := t5.at0 c74
      obtain ⟨q1, q2, q3, q4, q5⟩ := t6 c74
      have hc60 : c ≤ 60 := by
        by_cases e : c = 61
        · exact absurd c74 (t61 e)
        · omega
      refine hAt 2 _ _ _ _ _ _ ?_
      refine Eq.mpr (congrArg (fun xq : Int32 => At 81 [.ref (108), .int (nI n), z2, z3] [.int xq] τ 0 0) (show rI τ 108 4 = nI s.1 from h4)) ?_
      refine hAt 2 _ _ _ _ _ _ ?_
      refine Eq.mpr (congrArg (fun xq : Int32 => At 85 [.ref (108), .int (nI n), z2, z3] [.int xq, .int (nI s.1)] τ 0 0) (show rI τ 108 2 = nI n from h2)) ?_
      refine hAt 1 _ _ _ _ _ _ ?_
      refine And.intro (fun hq => ?_) (fun hq => ?_)
      · have c85 : n ≤ s.1 := (leN (a := n) (b := s.1) rfl rfl (by omega) (by omega)).mp hq
        clear hq
        exact stop2 (fun z => by omega)
      · have c85 : s.1 < n := Nat.lt_of_not_le (fun zq => hq ((leN (a := n) (b := s.1) rfl rfl (by omega) (by omega)).mpr zq))
        clear hq
        refine hAt 5 _ _ _ _ _ _ ?_
        refine s_clause hc60 hn6 hb t5 c74 q1 q2 q3 q4 (fun τ1 u1 u2 u3 => ?_)
        refine s_skipM hn6 hb u2 (fun τ2 v1 v2 v3 => ?_)
        refine ih (by omega) (bS (aTp A) n (clS (aTp A) n c s.1 k).1, (clS (aTp A) n c s.1 k).2) (clK (aTp A) n c s.1 k) τ2 z2 z3 (fun a j g1 g2 => ?_) (v2.trans (u1.2.trans t2)) ?_ ?_ v3 (fun z => ?_) (fun e => ?_) ?_
        · exact (v1 a j (by unfold r3; omega)).trans ((u1.1 a j g2).trans (t1 a j g1 g2))
        · exact (v1 _ _ (by unfold r3; omega)).trans ((u1.1 _ _ (by unfold trQ; omega)).trans t3)
        · exact (v1 _ _ (by unfold r3; omega)).trans ((u1.1 _ _ (by unfold trQ; omega)).trans t4)
        · obtain ⟨g1, g2⟩ := u3 z
          have hvc := q4.cl q5 z
          exact ⟨bS_cl _ _ _, (v1 _ _ (by unfold r3; omega)).trans g1, g2.fr hvc (fun a j r1 r2 => v1 a j (by unfold r3; omega)), hvc, fun e => absurd e (by omega)⟩
        · have e60 : c = 60 := by omega
          rw [e60]; exact cl60
        · rw [← hg, show 61 - c = (61 - (c + 1)) + 1 by omega]
          conv => rhs; rw [goS, if_pos ⟨c74, c85⟩]
  refine hAt 8 _ _ _ _ _ _ ?_
  refine Eq.mpr (congrArg (fun xq : Int32 => At 12 [.ref (108), .int (nI n), junk, junk] [.int xq, .int (nI 0), .int (nI n), .ref (108)] (wI σ 108 0 (nI 0)) 0 0) (show rI (wI σ 108 0 (nI 0)) 108 1 = nI (aTc A) from (by rw [rI_wI, if_neg (by omega)]; exact hI.2.1))) ?_
  refine hAt 2 _ _ _ _ _ _ ?_
  refine s_in ?_
  rw [decide_eq_true ⟨nI_nlt (Nat.zero_le _) (by omega), nI_nlt (by omega) (by omega)⟩]
  refine And.intro (fun _ => ?_) (fun hq => absurd hq (by decide))
  refine hAt 4 _ _ _ _ _ _ ?_
  refine s_bad0 rfl rfl ?_
  refine And.intro (fun _ => ?_) (fun hq => absurd hq (by decide))
  refine hAt 22 _ _ _ _ _ _ ?_
  refine s_tells (fun τ1 u1 u2 u3 => ?_)
  have hm := u1
  have hR1 : rmC (aTp A) n (0, 0, 0) τ1 := ⟨⟨(u1 108 2 (by omega)).trans (show rI (wI (wI (wI (wI (wI (wI (wI σ 108 0 (nI 0)) 108 1 (nI 0)) 108 2 (nI n)) 108 4 (nI 0)) 108 5 (nI 0)) 108 6 (-1)) 108 7 (nI 0)) 108 2 = nI n from (by rw [rI_wI, if_neg (by omega), rI_wI, if_neg (by omega), rI_wI, if_neg (by omega), rI_wI, if_neg (by omega), rI_wI, if_pos ⟨rfl, rfl⟩])), fun j hj => (u1 109 j (by omega)).trans (by rw [rI_wI, if_neg (by omega)]; rw [rI_wI, if_neg (by omega)]; rw [rI_wI, if_neg (by omega)]; rw [rI_wI, if_neg (by omega)]; rw [rI_wI, if_neg (by omega)]; rw [rI_wI, if_neg (by omega)]; rw [rI_wI, if_neg (by omega)]; exact hI.2.2.1 j (by omega))⟩, ⟨0, Nat.zero_le _, (u1 108 4 (by omega)).trans (show rI (wI (wI (wI (wI (wI (wI (wI σ 108 0 (nI 0)) 108 1 (nI 0)) 108 2 (nI n)) 108 4 (nI 0)) 108 5 (nI 0)) 108 6 (-1)) 108 7 (nI 0)) 108 4 = nI 0 from (by rw [rI_wI, if_neg (by omega), rI_wI, if_neg (by omega), rI_wI, if_neg (by omega), rI_wI, if_pos ⟨rfl, rfl⟩])), fun _ => rfl⟩, ⟨Nat.zero_le _, (u1 108 5 (by omega)).trans (show rI (wI (wI (wI (wI (wI (wI (wI σ 108 0 (nI 0)) 108 1 (nI 0)) 108 2 (nI n)) 108 4 (nI 0)) 108 5 (nI 0)) 108 6 (-1)) 108 7 (nI 0)) 108 5 = nI 0 from (by rw [rI_wI, if_neg (by omega), rI_wI, if_neg (by omega), rI_wI, if_pos ⟨rfl, rfl⟩]))⟩, (u1 108 6 (by omega)).trans (show rI (wI (wI (wI (wI (wI (wI (wI σ 108 0 (nI 0)) 108 1 (nI 0)) 108 2 (nI n)) 108 4 (nI 0)) 108 5 (nI 0)) 108 6 (-1)) 108 7 (nI 0)) 108 6 = -1 from (by rw [rI_wI, if_neg (by omega), rI_wI, if_pos ⟨rfl, rfl⟩]))⟩
  have hF1 : ∀ a j, ¬ (a = 108 ∧ j ≤ 7) → ¬ trQ a j → rI τ1 a j = rI σ a j := fun a j g1 g2 => by unfold trQ at g2; refine (u1 a j (by omega)).trans ?_; rw [rI_wI, if_neg (by omega)]; rw [rI_wI, if_neg (by omega)]; rw [rI_wI, if_neg (by omega)]; rw [rI_wI, if_neg (by omega)]; rw [rI_wI, if_neg (by omega)]; rw [rI_wI, if_neg (by omega)]; rw [rI_wI, if_neg (by omega)]
  have h70 : rI τ1 108 7 = nI 0 := (u1 108 7 (by omega)).trans (show rI (wI (wI (wI (wI (wI (wI (wI σ 108 0 (nI 0)) 108 1 (nI 0)) 108 2 (nI n)) 108 4 (nI 0)) 108 5 (nI 0)) 108 6 (-1)) 108 7 (nI 0)) 108 7 = nI 0 from (by rw [rI_wI, if_pos ⟨rfl, rfl⟩]))
  have h10 : rI τ1 108 1 = nI 0 := (u1 108 1 (by omega)).trans (show rI (wI (wI (wI (wI (wI (wI (wI σ 108 0 (nI 0)) 108 1 (nI 0)) 108 2 (nI n)) 108 4 (nI 0)) 108 5 (nI 0)) 108 6 (-1)) 108 7 (nI 0)) 108 1 = nI 0 from (by rw [rI_wI, if_neg (by omega), rI_wI, if_neg (by omega), rI_wI, if_neg (by omega), rI_wI, if_neg (by omega), rI_wI, if_neg (by omega), rI_wI, if_pos ⟨rfl, rfl⟩]))
  have h00 : rI τ1 108 0 = nI 0 := (u1 108 0 (by omega)).trans (show rI (wI (wI (wI (wI (wI (wI (wI σ 108 0 (nI 0)) 108 1 (nI 0)) 108 2 (nI n)) 108 4 (nI 0)) 108 5 (nI 0)) 108 6 (-1)) 108 7 (nI 0)) 108 0 = nI 0 from (by rw [rI_wI, if_neg (by omega), rI_wI, if_neg (by omega), rI_wI, if_neg (by omega), rI_wI, if_neg (by omega), rI_wI, if_neg (by omega), rI_wI, if_neg (by omega), rI_wI, if_pos ⟨rfl, rfl⟩]))
  have he2 : τ1.2 = σ.2 := u2
  refine s_skipM (s := (0, 0, 0)) hn6 hb hR1 (fun τ2 v1 v2 v3 => ?_)
  exact loop 0 (Nat.zero_le _) (bS (aTp A) n 0, 0, 0) k0 τ2 _ _ (fun a j g1 g2 => (v1 a j (by unfold r3; omega)).trans (hF1 a j g1 g2)) (v2.trans he2) ((v1 _ _ (by unfold r3; omega)).trans h00) ((v1 _ _ (by unfold r3; omega)).trans h10) v3 (fun _ => ⟨bS_cl _ _ _, (v1 _ _ (by unfold r3; omega)).trans h70, ⟨fun i hi => (v1 _ _ (by unfold r3; omega)).trans (u3 i hi), fun i hi => absurd hi (Nat.not_lt_zero i), fun i hi => absurd hi (Nat.not_lt_zero i), fun i hi => absurd hi (Nat.not_lt_zero i), fun i hi => absurd hi (Nat.not_lt_zero i)⟩, VS0, fun _ => ⟨rfl, rfl, rfl⟩⟩) (fun e => absurd e (by decide)) rfl
end SMA
