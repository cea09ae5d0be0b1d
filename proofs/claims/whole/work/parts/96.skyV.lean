/-! WHAT A SKY'S TEXT MAY TELL: the sky read is valid -/
theorem nmT_f0 {b : By} {n : Nat} : ∀ (l : List (Nat × Int)) (s : Ps), (nmT b n l s).2.1 = 0 → s.2.1 = 0
  | [], _, h => h
  | _ :: l, _, h => nmS_f0 (nmT_f0 l _ h)
theorem nmY_b {b : By} {n : Nat} : ∀ (l : List (Nat × Int)) (s : Ps), (nmT b n l s).2.1 = 0 → ∀ j q, l[j]? = some q → q.1 ≤ nmY b n l s j ∧ (nmY b n l s j : Int) ≤ q.2
  | [], _, _, j, q, hq => by simp at hq
  | a :: l, s, h, 0, q, hq => by
    have e : a = q := by simpa using hq
    subst e
    exact ⟨nmX_lo, nmX_hi (nmT_f0 l _ h)⟩
  | a :: l, s, h, j + 1, q, hq => nmY_b l _ h j q (by simpa using hq)
theorem nmS_at {b : By} {n : Nat} {s : Ps} {lo : Nat} {hi : Int} (h : s.1 ≤ n) : (nmS b n s lo hi).1 ≤ n ∧ s.1 ≤ (nmS b n s lo hi).1 := by
  have b1 := pE_ge isBl b n s.1
  have b2 := pE_le isBl b n s.1 h
  have b3 := pE_ge isDg b n (pE isBl b n s.1)
  have b4 := pE_le isDg b n _ b2
  unfold nmS
  split
  · exact ⟨h, Nat.le_refl _⟩
  · split
    · exact ⟨b4, Nat.le_trans b1 b3⟩
    · split
      · exact ⟨b4, Nat.le_trans b1 b3⟩
      · exact ⟨b4, Nat.le_trans b1 b3⟩
theorem faA_f0 {s : Ps} {k pl : Nat} (hk : k ≠ 0) (h : (faA s k pl).2.1 = 0) : False := by
  unfold faA at h
  by_cases q : s.2.1 = 0
  · rw [if_pos q] at h; exact hk h
  · rw [if_neg q] at h; exact q h
theorem enA_f0 {b : By} {n : Nat} {s : Ps} (h : (enA b n s).2.1 = 0) : s.2.1 = 0 := Decidable.byContradiction fun q => q (by unfold enA at h; rw [if_pos q] at h; exact h)
theorem twA_f0 {b : By} {n : Nat} {s : Ps} {l : List (Nat × Int)} {g : Bool} (h : (twA b n s l g).2.1 = 0) : g = false ∧ (nmT b n l s).2.1 = 0 := by
  unfold twA at h
  cases g with
  | true => rw [if_pos rfl] at h; exact (faA_f0 (by decide) h).elim
  | false => rw [if_neg (by decide)] at h; exact ⟨rfl, h⟩
theorem VS0 : VS k0 := ⟨by decide, by decide, by decide, by decide, by decide, by decide, by decide, by decide, by decide, by decide, by decide, fun k h => absurd h (Nat.not_lt_zero k), fun k h => absurd h (Nat.not_lt_zero k), fun k h => absurd h (Nat.not_lt_zero k), fun k h => absurd h (Nat.not_lt_zero k), fun k _ h => absurd h (Nat.not_lt_zero k), fun k _ h => absurd h (Nat.not_lt_zero k)⟩
section SVV
variable {k : Sk}
theorem VS.pw {r : Nat → Nat} (h : VS k) (hc : kT k 10 < 9) (q0 : r 0 ≤ 2) (q1 : r 1 ≤ 49) (q2 : r 2 ≤ 2) (q3 : r 3 ≤ 2) : VS (kPw k r) := by
  obtain ⟨v1, v2, v3, v4, v5, v6, v7, v8, v9, v10, v11, v12, v13, v14, v15, v16, v17⟩ := h
  refine ⟨v1, v2, v3, v4, v5, v6, v7, v8, v9, v10, hc, fun i hi => ?_, v13, v14, v15, v16, v17⟩
  have hi : i < kT k 10 + 1 := hi
  show (if i = kT k 10 then r 0 else kW k i 0) ≤ 2 ∧ (if i = kT k 10 then r 1 else kW k i 1) ≤ 49 ∧ (if i = kT k 10 then r 2 else kW k i 2) ≤ 2 ∧ (if i = kT k 10 then r 3 else kW k i 3) ≤ 2
  by_cases e : i = kT k 10
  · simp only [if_pos e]; exact ⟨q0, q1, q2, q3⟩
  · simp only [if_neg e]; exact v12 i (by omega)
theorem VS.pc {r : Nat → Nat} (h : VS k) (hc : kT k 2 < 8) (q0 : r 0 < kT k 0) (q1 : r 1 < kT k 1) (q2 : r 2 ≤ 2) (q3 : r 3 ≤ 49) (q4 : 1 ≤ r 4 ∧ r 4 ≤ 999) (q5 : r 5 ≤ 7) (q6 : r 6 ≤ 1000) : VS (kPc k r) := by
  obtain ⟨v1, v2, v3, v4, v5, v6, v7, v8, v9, v10, v11, v12, v13, v14, v15, v16, v17⟩ := h
  refine ⟨v1, v2, hc, v4, v5, v6, v7, v8, v9, v10, v11, v12, fun i hi => ?_, v14, v15, v16, v17⟩
  have hi : i < kT k 2 + 1 := hi
  show (if i = kT k 2 then r 0 else kC k i 0) < kT k 0 ∧ (if i = kT k 2 then r 1 else kC k i 1) < kT k 1 ∧ (if i = kT k 2 then r 2 else kC k i 2) ≤ 2 ∧ (if i = kT k 2 then r 3 else kC k i 3) ≤ 49 ∧ (1 ≤ (if i = kT k 2 then r 4 else kC k i 4) ∧ (if i = kT k 2 then r 4 else kC k i 4) ≤ 999) ∧ (if i = kT k 2 then r 5 else kC k i 5) ≤ 7 ∧ (if i = kT k 2 then r 6 else kC k i 6) ≤ 1000
  by_cases e : i = kT k 2
  · simp only [if_pos e]; exact ⟨q0, q1, q2, q3, q4, q5, q6⟩
  · simp only [if_neg e]; exact v13 i (by omega)
theorem VS.pf {r : Nat → Nat} (h : VS k) (hc : kT k 3 < 12) (q0 : r 0 < kT k 0) (q1 : r 1 < kT k 1) (q2 : r 2 ≤ 6) (q3 : r 3 ≤ 99) (q4 : r 4 ≤ 99) (q5 : r 5 ≤ 9) (qn : ∀ i, i < kT k 3 → ¬ (kF k i 0 = r 0 ∧ kF k i 1 = r 1)) : VS (kPf k r) := by
  obtain ⟨v1, v2, v3, v4, v5, v6, v7, v8, v9, v10, v11, v12, v13, v14, v15, v16, v17⟩ := h
  refine ⟨v1, v2, v3, hc, v5, v6, v7, v8, v9, v10, v11, v12, v13, fun i hi => ?_, v15, fun i j hi hj => ?_, v17⟩
  · have hi : i < kT k 3 + 1 := hi
    show (if i = kT k 3 then r 0 else kF k i 0) < kT k 0 ∧ (if i = kT k 3 then r 1 else kF k i 1) < kT k 1 ∧ (if i = kT k 3 then r 2 else kF k i 2) ≤ 6 ∧ (if i = kT k 3 then r 3 else kF k i 3) ≤ 99 ∧ (if i = kT k 3 then r 4 else kF k i 4) ≤ 99 ∧ (if i = kT k 3 then r 5 else kF k i 5) ≤ 9
    by_cases e : i = kT k 3
    · simp only [if_pos e]; exact ⟨q0, q1, q2, q3, q4, q5⟩
    · simp only [if_neg e]; exact v14 i (by omega)
  · have hi : i < kT k 3 + 1 := hi
    have hj : j < kT k 3 + 1 := hj
    show (if i = kT k 3 then r 0 else kF k i 0) = (if j = kT k 3 then r 0 else kF k j 0) → (if i = kT k 3 then r 1 else kF k i 1) = (if j = kT k 3 then r 1 else kF k j 1) → i = j
    by_cases e : i = kT k 3
    · by_cases e2 : j = kT k 3
      · intro _ _; omega
      · simp only [if_pos e, if_neg e2]; exact fun z1 z2 => absurd ⟨z1.symm, z2.symm⟩ (qn j (by omega))
    · by_cases e2 : j = kT k 3
      · simp only [if_neg e, if_pos e2]; exact fun z1 z2 => absurd ⟨z1, z2⟩ (qn i (by omega))
      · simp only [if_neg e, if_neg e2]; exact v16 i j (by omega) (by omega)
theorem VS.pi {r : Nat → Nat} (h : VS k) (hc : kT k 4 < 3) (q0 : r 0 < kT k 0) (q1 : r 1 + 1 < kT k 1) (q2 : r 2 ≤ 49) (qn : ∀ i, i < kT k 4 → ¬ (kI k i 0 = r 0 ∧ kI k i 1 = r 1)) : VS (kPi k r) := by
  obtain ⟨v1, v2, v3, v4, v5, v6, v7, v8, v9, v10, v11, v12, v13, v14, v15, v16, v17⟩ := h
  refine ⟨v1, v2, v3, v4, hc, v6, v7, v8, v9, v10, v11, v12, v13, v14, fun i hi => ?_, v16, fun i j hi hj => ?_⟩
  · have hi : i < kT k 4 + 1 := hi
    show (if i = kT k 4 then r 0 else kI k i 0) < kT k 0 ∧ (if i = kT k 4 then r 1 else kI k i 1) + 1 < kT k 1 ∧ (if i = kT k 4 then r 2 else kI k i 2) ≤ 49
    by_cases e : i = kT k 4
    · simp only [if_pos e]; exact ⟨q0, q1, q2⟩
    · simp only [if_neg e]; exact v15 i (by omega)
  · have hi : i < kT k 4 + 1 := hi
    have hj : j < kT k 4 + 1 := hj
    show (if i = kT k 4 then r 0 else kI k i 0) = (if j = kT k 4 then r 0 else kI k j 0) → (if i = kT k 4 then r 1 else kI k i 1) = (if j = kT k 4 then r 1 else kI k j 1) → i = j
    by_cases e : i = kT k 4
    · by_cases e2 : j = kT k 4
      · intro _ _; omega
      · simp only [if_pos e, if_neg e2]; exact fun z1 z2 => absurd ⟨z1.symm, z2.symm⟩ (qn j (by omega))
    · by_cases e2 : j = kT k 4
      · simp only [if_neg e, if_pos e2]; exact fun z1 z2 => absurd ⟨z1, z2⟩ (qn i (by omega))
      · simp only [if_neg e, if_neg e2]; exact v17 i j (by omega) (by omega)
theorem VS.sn {c o m : Nat} (h : VS k) (ho : o ≤ 7) (hm : m ≤ 1000) : VS (kSn k c o m) := by
  obtain ⟨v1, v2, v3, v4, v5, v6, v7, v8, v9, v10, v11, v12, v13, v14, v15, v16, v17⟩ := h
  refine ⟨v1, v2, v3, v4, v5, v6, v7, v8, v9, v10, v11, v12, fun i hi => ?_, v14, v15, v16, v17⟩
  obtain ⟨g0, g1, g2, g3, g4, g5, g6⟩ := v13 i hi
  have n0 : kC (kSn k c o m) i 0 = kC k i 0 := by show (if i = c ∧ 0 = 5 then o else if i = c ∧ 0 = 6 then m else kC k i 0) = _; rw [if_neg (by omega), if_neg (by omega)]
  have n1 : kC (kSn k c o m) i 1 = kC k i 1 := by show (if i = c ∧ 1 = 5 then o else if i = c ∧ 1 = 6 then m else kC k i 1) = _; rw [if_neg (by omega), if_neg (by omega)]
  have n2 : kC (kSn k c o m) i 2 = kC k i 2 := by show (if i = c ∧ 2 = 5 then o else if i = c ∧ 2 = 6 then m else kC k i 2) = _; rw [if_neg (by omega), if_neg (by omega)]
  have n3 : kC (kSn k c o m) i 3 = kC k i 3 := by show (if i = c ∧ 3 = 5 then o else if i = c ∧ 3 = 6 then m else kC k i 3) = _; rw [if_neg (by omega), if_neg (by omega)]
  have n4 : kC (kSn k c o m) i 4 = kC k i 4 := by show (if i = c ∧ 4 = 5 then o else if i = c ∧ 4 = 6 then m else kC k i 4) = _; rw [if_neg (by omega), if_neg (by omega)]
  refine ⟨by rw [n0]; exact g0, by rw [n1]; exact g1, by rw [n2]; exact g2, by rw [n3]; exact g3, by rw [n4]; exact g4, ?_, ?_⟩
  · show (if i = c ∧ 5 = 5 then o else if i = c ∧ 5 = 6 then m else kC k i 5) ≤ 7
    split
    · exact ho
    · split
      · omega
      · exact g5
  · show (if i = c ∧ 6 = 5 then o else if i = c ∧ 6 = 6 then m else kC k i 6) ≤ 1000
    split
    · omega
    · split
      · exact hm
      · exact g6
theorem VS.wh {x y : Nat} (h : VS k) (hx : 2 ≤ x ∧ x ≤ 8) (hy : 2 ≤ y ∧ y ≤ 8) (z : kT k 2 = 0 ∧ kT k 3 = 0 ∧ kT k 4 = 0) : VS (kSet (kSet k 0 x) 1 y) := by
  obtain ⟨v1, v2, v3, v4, v5, v6, v7, v8, v9, v10, v11, v12, v13, v14, v15, v16, v17⟩ := h
  obtain ⟨z2, z3, z4⟩ := z
  exact ⟨hx, hy, v3, v4, v5, v6, v7, v8, v9, v10, v11, v12, fun i hi => absurd (show i < kT k 2 from hi) (by omega), fun i hi => absurd (show i < kT k 3 from hi) (by omega), fun i hi => absurd (show i < kT k 4 from hi) (by omega), v16, v17⟩
theorem VS.s5 {v : Nat} (h : VS k) (q : v ≤ 2) : VS (kSet k 5 v) := by
  obtain ⟨v1, v2, v3, v4, v5, v6, v7, v8, v9, v10, v11, v12⟩ := h
  exact ⟨v1, v2, v3, v4, v5, q, v7, v8, v9, v10, v11, v12⟩
theorem VS.s6 {v : Nat} (h : VS k) (q : 1 ≤ v ∧ v ≤ 99) : VS (kSet k 6 v) := by
  obtain ⟨v1, v2, v3, v4, v5, v6, v7, v8, v9, v10, v11, v12⟩ := h
  exact ⟨v1, v2, v3, v4, v5, v6, q, v8, v9, v10, v11, v12⟩
theorem VS.s7 {v : Nat} (h : VS k) (q : 1 ≤ v ∧ v ≤ 999) : VS (kSet k 7 v) := by
  obtain ⟨v1, v2, v3, v4, v5, v6, v7, v8, v9, v10, v11, v12⟩ := h
  exact ⟨v1, v2, v3, v4, v5, v6, v7, q, v9, v10, v11, v12⟩
theorem VS.s8 {v : Nat} (h : VS k) (q : 1 ≤ v ∧ v ≤ 99) : VS (kSet k 8 v) := by
  obtain ⟨v1, v2, v3, v4, v5, v6, v7, v8, v9, v10, v11, v12⟩ := h
  exact ⟨v1, v2, v3, v4, v5, v6, v7, v8, q, v10, v11, v12⟩
theorem VS.s9 {v : Nat} (h : VS k) (q : v ≤ 9) : VS (kSet k 9 v) := by
  obtain ⟨v1, v2, v3, v4, v5, v6, v7, v8, v9, v10, v11, v12⟩ := h
  exact ⟨v1, v2, v3, v4, v5, v6, v7, v8, v9, q, v11, v12⟩
theorem VS.rd {b : By} {n : Nat} {s : Ps} : ∀ (w : Nat), w < 11 → VS k → fuA k w = false → (w = 0 → kT k 2 = 0 ∧ kT k 3 = 0 ∧ kT k 4 = 0) → (rdS b n w s k).2.1 = 0 → VS (rdK b n w s k) := by
  intro w hw hv hf h0 hs
  have v0 := hv.1
  have v1 := hv.2.1
  match w, hw with
  | 0, _ =>
    have y := nmY_b [(2, 8), (2, 8)] s hs
    have y0 := y 0 _ rfl
    have y1 := y 1 _ rfl
    exact hv.wh (by omega) (by omega) (h0 rfl)
  | 1, _ =>
    have y := nmY_b qlW s hs
    have y0 := y 0 _ rfl
    have y1 := y 1 _ rfl
    have y2 := y 2 _ rfl
    have y3 := y 3 _ rfl
    exact hv.pw (Nat.lt_of_not_le (of_decide_eq_false hf)) (by omega) (by omega) (by omega) (by omega)
  | 2, _ =>
    have y := nmY_b (qlC k) s hs
    have y0 := y 0 _ rfl
    have y1 := y 1 _ rfl
    have y2 := y 2 _ rfl
    have y3 := y 3 _ rfl
    have y4 := y 4 _ rfl
    exact hv.pc (r := rwC b n s k) (Nat.lt_of_not_le (of_decide_eq_false hf)) (show nmY b n (qlC k) s 0 < _ by omega) (show nmY b n (qlC k) s 1 < _ by omega) (show nmY b n (qlC k) s 2 ≤ _ by omega) (show nmY b n (qlC k) s 3 ≤ _ by omega) (show 1 ≤ nmY b n (qlC k) s 4 ∧ nmY b n (qlC k) s 4 ≤ _ by omega) (show 7 ≤ 7 by decide) (show 1000 ≤ 1000 by decide)
  | 3, _ =>
    have y := nmY_b (qlS k) s hs
    have y1 := y 1 _ rfl
    have y2 := y 2 _ rfl
    show VS (if nmY b n (qlS k) s 2 < kC k (nmY b n (qlS k) s 0) 6 then kSn k (nmY b n (qlS k) s 0) (nmY b n (qlS k) s 1) (nmY b n (qlS k) s 2) else k)
    split
    · exact hv.sn (by omega) (by omega)
    · exact hv
  | 4, _ =>
    have y := nmY_b qlFb (rdF1 b n s k) hs
    have t := twA_f0 (nmT_f0 qlFb _ hs)
    have x := nmY_b (qlF k) s t.2
    have x0 := x 0 _ rfl
    have x1 := x 1 _ rfl
    have y0 := y 0 _ rfl
    have y1 := y 1 _ rfl
    have y2 := y 2 _ rfl
    have y3 := y 3 _ rfl
    refine hv.pf (r := rwF b n s k) (Nat.lt_of_not_le (of_decide_eq_false hf)) (show nmY b n (qlF k) s 0 < _ by omega) (show nmY b n (qlF k) s 1 < _ by omega) (show nmY b n qlFb (rdF1 b n s k) 0 ≤ _ by omega) (show nmY b n qlFb (rdF1 b n s k) 1 ≤ _ by omega) (show nmY b n qlFb (rdF1 b n s k) 2 ≤ _ by omega) (show nmY b n qlFb (rdF1 b n s k) 3 ≤ _ by omega) (fun i hi z => ?_)
    have := hasF_t.mpr ⟨i, hi, z⟩
    have t1 := t.1
    rw [show hasF (kF k) (nmY b n (qlF k) s 0) (nmY b n (qlF k) s 1) (kT k 3) = true from this] at t1
    cases t1
  | 5, _ =>
    have y := nmY_b qlIb (rdI1 b n s k) hs
    have t := twA_f0 (nmT_f0 qlIb _ hs)
    have x := nmY_b (qlI k) s t.2
    have x0 := x 0 _ rfl
    have x1 := x 1 _ rfl
    have y0 := y 0 _ rfl
    refine hv.pi (r := rwG b n s k) (Nat.lt_of_not_le (of_decide_eq_false hf)) (show nmY b n (qlI k) s 0 < _ by omega) (show nmY b n (qlI k) s 1 + 1 < _ by omega) (show nmY b n qlIb (rdI1 b n s k) 0 ≤ _ by omega) (fun i hi z => ?_)
    have := hasF_t.mpr ⟨i, hi, z⟩
    have t1 := t.1
    rw [show hasF (kI k) (nmY b n (qlI k) s 0) (nmY b n (qlI k) s 1) (kT k 4) = true from this] at t1
    cases t1
  | 6, _ => exact hv.s5 (by have := nmX_hi (lo := 0) (hi := 2) hs; show nmX b n s 0 2 ≤ 2; omega)
  | 7, _ => exact hv.s6 (by have := nmX_hi (lo := 1) (hi := 99) hs; have h2 : 1 ≤ nmX b n s 1 99 := nmX_lo; show 1 ≤ nmX b n s 1 99 ∧ nmX b n s 1 99 ≤ 99; omega)
  | 8, _ => exact hv.s7 (by have := nmX_hi (lo := 1) (hi := 999) hs; have h2 : 1 ≤ nmX b n s 1 999 := nmX_lo; show 1 ≤ nmX b n s 1 999 ∧ nmX b n s 1 999 ≤ 999; omega)
  | 9, _ => exact hv.s8 (by have := nmX_hi (lo := 1) (hi := 99) hs; have h2 : 1 ≤ nmX b n s 1 99 := nmX_lo; show 1 ≤ nmX b n s 1 99 ∧ nmX b n s 1 99 ≤ 99; omega)
  | 10, _ => exact hv.s9 (by have := nmX_hi (lo := 0) (hi := 9) hs; show nmX b n s 0 9 ≤ 9; omega)
  | w + 11, h => exact absurd h (by omega)
end SVV
theorem woR_some {l : List Nat} : ∀ {m w}, m ≤ 11 → woR l m = some w → w < 11 ∧ l = ow_ch (wT w)
  | 0, w, _, h => by cases h
  | m + 1, w, hm, h => by
    rw [woR] at h
    by_cases e : l = ow_ch (wT (10 - m))
    · rw [if_pos e] at h; cases h; exact ⟨by omega, e⟩
    · rw [if_neg e] at h; exact woR_some (by omega) h
theorem VS.cl {b : By} {n c i : Nat} {k : Sk} (hv : VS k) (h0 : c = 0 → kT k 2 = 0 ∧ kT k 3 = 0 ∧ kT k 4 = 0) (hs : (clS b n c i k).2.1 = 0) : VS (clK b n c i k) := by
  unfold clS at hs
  unfold clK
  cases e : woA b n i with
  | none => exact hv
  | some w =>
    rw [e] at hs
    show VS (if 60 ≤ c ∨ fuA k w = true then k else if w = 0 ∧ 0 < c then k else rdK b n w (wE b n i, 0, 0) k)
    have hs : ((if 60 ≤ c ∨ fuA k w = true then (0, 3, i) else if w = 0 ∧ 0 < c then (0, 4, i) else enA b n (rdS b n w (wE b n i, 0, 0) k) : Ps)).2.1 = 0 := hs
    by_cases q1 : 60 ≤ c ∨ fuA k w = true
    · rw [if_pos q1]; exact hv
    · rw [if_neg q1] at hs ⊢
      by_cases q2 : w = 0 ∧ 0 < c
      · rw [if_pos q2]; exact hv
      · rw [if_neg q2] at hs ⊢
        refine VS.rd w (woR_some (Nat.le_refl _) e).1 hv ?_ (fun z => h0 (by omega)) (enA_f0 hs)
        cases g : fuA k w with
        | false => rfl
        | true => exact absurd (Or.inr g) q1
theorem clS_le {b : By} {n c i : Nat} {k : Sk} : True := trivial
theorem VS.go {b : By} {n : Nat} : ∀ (m c : Nat) (s : Ps) (k : Sk), VS k → (c = 0 → kT k 2 = 0 ∧ kT k 3 = 0 ∧ kT k 4 = 0) → (goS b n m c s k).1.2.1 = 0 → VS (goS b n m c s k).2
  | 0, _, _, _, hv, _, _ => hv
  | m + 1, c, s, k, hv, h0, hs => by
    rw [goS] at hs ⊢
    by_cases q : s.2.1 = 0 ∧ s.1 < n
    · rw [if_pos q] at hs ⊢
      by_cases z : (clS b n c s.1 k).2.1 = 0
      · exact VS.go m (c + 1) _ _ (hv.cl h0 z) (fun e => absurd e (by omega)) hs
      · exfalso
        revert hs
        cases m with
        | zero => exact fun hs => z hs
        | succ m => rw [goS, if_neg (fun e => z e.1)]; exact fun hs => z hs
    · rw [if_neg q]; exact hv
theorem VS.read {b : By} {n : Nat} (h : (skR b n).1.2.1 = 0) : VS (skR b n).2 := VS.go 61 0 _ _ VS0 (fun _ => ⟨rfl, rfl, rfl⟩) h
