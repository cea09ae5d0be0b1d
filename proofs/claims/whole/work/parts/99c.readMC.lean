/-! THE NUMBERS BEHIND A WORD on the model's side -/
theorem all5 {Q : Nat → Prop} (h0 : Q 0) (h1 : Q 1) (h2 : Q 2) (h3 : Q 3) (h4 : Q 4) : ∀ i, i < 5 → Q i
  | 0, _ => h0
  | 1, _ => h1
  | 2, _ => h2
  | 3, _ => h3
  | 4, _ => h4
  | i + 5, h => absurd h (by omega)
/-- what is read so far -/
def skQ (σ : Mem) (k : Sk) : Prop :=
  (∀ i, i < 11 → rI σ 110 i = nI (kT k i)) ∧ (∀ i, i < kT k 10 → ∀ j, j < 4 → rI σ (112 + 1 + i) j = nI (kW k i j)) ∧ (∀ i, i < kT k 2 → ∀ j, j < 7 → rI σ (132 + 1 + i) j = nI (kC k i j)) ∧
  (∀ i, i < kT k 3 → ∀ j, j < 6 → rI σ (150 + 1 + i) j = nI (kF k i j)) ∧ ∀ i, i < kT k 4 → ∀ j, j < 3 → rI σ (176 + 1 + i) j = nI (kI k i j)
section SKQ
variable {σ τ : Mem} {k : Sk} {r : Nat → Nat}
theorem skQ.fr (h : skQ σ k) (hv : VS k) (u : ∀ a j, 110 ≤ a → a ≤ 179 → rI τ a j = rI σ a j) : skQ τ k := by
  obtain ⟨v1, v2, v3, v4, v5, v6, v7, v8, v9, v10, v11, -⟩ := hv
  obtain ⟨k1, k2, k3, k4, k5⟩ := h
  exact ⟨fun i hi => (u _ _ (by omega) (by omega)).trans (k1 i hi), fun i hi j hj => (u _ _ (by omega) (by omega)).trans (k2 i hi j hj), fun i hi j hj => (u _ _ (by omega) (by omega)).trans (k3 i hi j hj), fun i hi j hj => (u _ _ (by omega) (by omega)).trans (k4 i hi j hj), fun i hi j hj => (u _ _ (by omega) (by omega)).trans (k5 i hi j hj)⟩
theorem skQ.pw (h : skQ σ k) (hv : VS k) (u : ∀ a j, 110 ≤ a → a ≠ 112 + 1 + kT k 10 → ¬ (a = 110 ∧ j = 10) → rI τ a j = rI σ a j) (h1 : rI τ 110 10 = nI (kT k 10 + 1)) (h2 : ∀ j, j < 4 → rI τ (112 + 1 + kT k 10) j = nI (r j)) (hc : kT k 10 < 9) : skQ τ (kPw k r) := by
  obtain ⟨v1, v2, v3, v4, v5, v6, v7, v8, v9, v10, v11, -⟩ := hv
  obtain ⟨k1, k2, k3, k4, k5⟩ := h
  refine ⟨fun i hi => ?_, fun i hi j hj => ?_, fun i hi j hj => ?_, fun i hi j hj => ?_, fun i hi j hj => ?_⟩
  · show rI τ 110 i = nI (if i = 10 then kT k 10 + 1 else kT k i)
    by_cases e : i = 10
    · rw [if_pos e, e]; exact h1
    · rw [if_neg e]; exact (u _ _ (by omega) (by omega) (by omega)).trans (k1 i hi)
  · have hi : i < kT k 10 + 1 := hi
    show rI τ (112 + 1 + i) j = nI (if i = kT k 10 then r j else kW k i j)
    by_cases e : i = kT k 10
    · rw [if_pos e, e]; exact h2 j hj
    · rw [if_neg e]; exact (u _ _ (by omega) (by omega) (by omega)).trans (k2 i (by omega) j hj)
  · have hi : i < kT k 2 := hi
    exact (u _ _ (by omega) (by omega) (by omega)).trans (k3 i hi j hj)
  · have hi : i < kT k 3 := hi
    exact (u _ _ (by omega) (by omega) (by omega)).trans (k4 i hi j hj)
  · have hi : i < kT k 4 := hi
    exact (u _ _ (by omega) (by omega) (by omega)).trans (k5 i hi j hj)
theorem skQ.pc (h : skQ σ k) (hv : VS k) (u : ∀ a j, 110 ≤ a → a ≠ 132 + 1 + kT k 2 → ¬ (a = 110 ∧ j = 2) → rI τ a j = rI σ a j) (h1 : rI τ 110 2 = nI (kT k 2 + 1)) (h2 : ∀ j, j < 7 → rI τ (132 + 1 + kT k 2) j = nI (r j)) (hc : kT k 2 < 8) : skQ τ (kPc k r) := by
  obtain ⟨v1, v2, v3, v4, v5, v6, v7, v8, v9, v10, v11, -⟩ := hv
  obtain ⟨k1, k2, k3, k4, k5⟩ := h
  refine ⟨fun i hi => ?_, fun i hi j hj => ?_, fun i hi j hj => ?_, fun i hi j hj => ?_, fun i hi j hj => ?_⟩
  · show rI τ 110 i = nI (if i = 2 then kT k 2 + 1 else kT k i)
    by_cases e : i = 2
    · rw [if_pos e, e]; exact h1
    · rw [if_neg e]; exact (u _ _ (by omega) (by omega) (by omega)).trans (k1 i hi)
  · have hi : i < kT k 10 := hi
    exact (u _ _ (by omega) (by omega) (by omega)).trans (k2 i hi j hj)
  · have hi : i < kT k 2 + 1 := hi
    show rI τ (132 + 1 + i) j = nI (if i = kT k 2 then r j else kC k i j)
    by_cases e : i = kT k 2
    · rw [if_pos e, e]; exact h2 j hj
    · rw [if_neg e]; exact (u _ _ (by omega) (by omega) (by omega)).trans (k3 i (by omega) j hj)
  · have hi : i < kT k 3 := hi
    exact (u _ _ (by omega) (by omega) (by omega)).trans (k4 i hi j hj)
  · have hi : i < kT k 4 := hi
    exact (u _ _ (by omega) (by omega) (by omega)).trans (k5 i hi j hj)
theorem skQ.pf (h : skQ σ k) (hv : VS k) (u : ∀ a j, 110 ≤ a → a ≠ 150 + 1 + kT k 3 → ¬ (a = 110 ∧ j = 3) → rI τ a j = rI σ a j) (h1 : rI τ 110 3 = nI (kT k 3 + 1)) (h2 : ∀ j, j < 6 → rI τ (150 + 1 + kT k 3) j = nI (r j)) (hc : kT k 3 < 12) : skQ τ (kPf k r) := by
  obtain ⟨v1, v2, v3, v4, v5, v6, v7, v8, v9, v10, v11, -⟩ := hv
  obtain ⟨k1, k2, k3, k4, k5⟩ := h
  refine ⟨fun i hi => ?_, fun i hi j hj => ?_, fun i hi j hj => ?_, fun i hi j hj => ?_, fun i hi j hj => ?_⟩
  · show rI τ 110 i = nI (if i = 3 then kT k 3 + 1 else kT k i)
    by_cases e : i = 3
    · rw [if_pos e, e]; exact h1
    · rw [if_neg e]; exact (u _ _ (by omega) (by omega) (by omega)).trans (k1 i hi)
  · have hi : i < kT k 10 := hi
    exact (u _ _ (by omega) (by omega) (by omega)).trans (k2 i hi j hj)
  · have hi : i < kT k 2 := hi
    exact (u _ _ (by omega) (by omega) (by omega)).trans (k3 i hi j hj)
  · have hi : i < kT k 3 + 1 := hi
    show rI τ (150 + 1 + i) j = nI (if i = kT k 3 then r j else kF k i j)
    by_cases e : i = kT k 3
    · rw [if_pos e, e]; exact h2 j hj
    · rw [if_neg e]; exact (u _ _ (by omega) (by omega) (by omega)).trans (k4 i (by omega) j hj)
  · have hi : i < kT k 4 := hi
    exact (u _ _ (by omega) (by omega) (by omega)).trans (k5 i hi j hj)
theorem skQ.pi (h : skQ σ k) (hv : VS k) (u : ∀ a j, 110 ≤ a → a ≠ 176 + 1 + kT k 4 → ¬ (a = 110 ∧ j = 4) → rI τ a j = rI σ a j) (h1 : rI τ 110 4 = nI (kT k 4 + 1)) (h2 : ∀ j, j < 3 → rI τ (176 + 1 + kT k 4) j = nI (r j)) (hc : kT k 4 < 3) : skQ τ (kPi k r) := by
  obtain ⟨v1, v2, v3, v4, v5, v6, v7, v8, v9, v10, v11, -⟩ := hv
  obtain ⟨k1, k2, k3, k4, k5⟩ := h
  refine ⟨fun i hi => ?_, fun i hi j hj => ?_, fun i hi j hj => ?_, fun i hi j hj => ?_, fun i hi j hj => ?_⟩
  · show rI τ 110 i = nI (if i = 4 then kT k 4 + 1 else kT k i)
    by_cases e : i = 4
    · rw [if_pos e, e]; exact h1
    · rw [if_neg e]; exact (u _ _ (by omega) (by omega) (by omega)).trans (k1 i hi)
  · have hi : i < kT k 10 := hi
    exact (u _ _ (by omega) (by omega) (by omega)).trans (k2 i hi j hj)
  · have hi : i < kT k 2 := hi
    exact (u _ _ (by omega) (by omega) (by omega)).trans (k3 i hi j hj)
  · have hi : i < kT k 3 := hi
    exact (u _ _ (by omega) (by omega) (by omega)).trans (k4 i hi j hj)
  · have hi : i < kT k 4 + 1 := hi
    show rI τ (176 + 1 + i) j = nI (if i = kT k 4 then r j else kI k i j)
    by_cases e : i = kT k 4
    · rw [if_pos e, e]; exact h2 j hj
    · rw [if_neg e]; exact (u _ _ (by omega) (by omega) (by omega)).trans (k5 i (by omega) j hj)
theorem skQ.st {i v : Nat} (h : skQ σ k) (hv : VS k) (hi : i = 0 ∨ i = 1 ∨ (5 ≤ i ∧ i ≤ 9)) (u : ∀ a j, 110 ≤ a → ¬ (a = 110 ∧ j = i) → rI τ a j = rI σ a j) (h1 : rI τ 110 i = nI v) : skQ τ (kSet k i v) := by
  obtain ⟨v1, v2, v3, v4, v5, v6, v7, v8, v9, v10, v11, -⟩ := hv
  obtain ⟨k1, k2, k3, k4, k5⟩ := h
  have e : ∀ j, j ≠ i → kT (kSet k i v) j = kT k j := fun j q => if_neg q
  refine ⟨fun j hj => ?_, fun j hj l hl => ?_, fun j hj l hl => ?_, fun j hj l hl => ?_, fun j hj l hl => ?_⟩
  · by_cases q : j = i
    · subst q; exact h1.trans (congrArg nI (show v = if j = j then v else kT k j by rw [if_pos rfl]))
    · exact (u _ _ (by omega) (by omega)).trans ((k1 j hj).trans (congrArg nI (e j q).symm))
  · rw [e 10 (by omega)] at hj; exact (u _ _ (by omega) (by omega)).trans (k2 j hj l hl)
  · rw [e 2 (by omega)] at hj; exact (u _ _ (by omega) (by omega)).trans (k3 j hj l hl)
  · rw [e 3 (by omega)] at hj; exact (u _ _ (by omega) (by omega)).trans (k4 j hj l hl)
  · rw [e 4 (by omega)] at hj; exact (u _ _ (by omega) (by omega)).trans (k5 j hj l hl)
theorem skQ.sn {c o m : Nat} (h : skQ σ k) (hv : VS k) (hc : c < kT k 2) (u : ∀ a j, 110 ≤ a → ¬ (a = 132 + 1 + c ∧ (j = 5 ∨ j = 6)) → rI τ a j = rI σ a j) (h5 : rI τ (132 + 1 + c) 5 = nI o) (h6 : rI τ (132 + 1 + c) 6 = nI m) : skQ τ (kSn k c o m) := by
  obtain ⟨v1, v2, v3, v4, v5, v6, v7, v8, v9, v10, v11, -⟩ := hv
  obtain ⟨k1, k2, k3, k4, k5⟩ := h
  refine ⟨fun j hj => (u _ _ (by omega) (by omega)).trans (k1 j hj), fun i hi j hj => (u _ _ (by omega) (by have : i < kT k 10 := hi; omega)).trans (k2 i hi j hj), fun i hi j hj => ?_, fun i hi j hj => (u _ _ (by omega) (by omega)).trans (k4 i hi j hj), fun i hi j hj => (u _ _ (by omega) (by omega)).trans (k5 i hi j hj)⟩
  show rI τ (132 + 1 + i) j = nI (if i = c ∧ j = 5 then o else if i = c ∧ j = 6 then m else kC k i j)
  by_cases q5 : i = c ∧ j = 5
  · rw [if_pos q5, q5.1, q5.2]; exact h5
  · rw [if_neg q5]
    by_cases q6 : i = c ∧ j = 6
    · rw [if_pos q6, q6.1, q6.2]; exact h6
    · rw [if_neg q6]; exact (u _ _ (by omega) (by omega)).trans (k3 i hi j hj)
end SKQ
/-- blanks ahead of a number change nothing -/
theorem nm_bS {b : By} {n : Nat} {s : Ps} {lo : Nat} {hi : Int} (h0 : s.2.1 = 0) : nmS b n (bS b n s.1, s.2) lo hi = nmS b n s lo hi := by
  have e1 : bS b n (bS b n s.1) = bS b n s.1 := pE_id _ _ _ _
  have e2 : nE b n (bS b n s.1) = nE b n s.1 := by unfold nE; rw [e1]
  have e3 : nV b n (bS b n s.1) = nV b n s.1 := by unfold nV; rw [e1, e2]
  have g : ¬ ¬ s.2.1 = 0 := by simpa using h0
  show (if ¬ s.2.1 = 0 then (bS b n s.1, s.2) else if nE b n (bS b n s.1) = bS b n (bS b n s.1) then (nE b n (bS b n s.1), 1, bS b n (bS b n s.1)) else if nV b n (bS b n s.1) < lo ∨ hi < (nV b n (bS b n s.1) : Int) then (nE b n (bS b n s.1), 2, bS b n (bS b n s.1)) else (nE b n (bS b n s.1), 0, s.2.2)) = _
  rw [if_neg g, e1, e2, e3]
  unfold nmS
  rw [if_neg g]
theorem nmX_bS {b : By} {n : Nat} {s : Ps} {lo : Nat} {hi : Int} (h0 : s.2.1 = 0) : nmX b n (bS b n s.1, s.2) lo hi = nmX b n s lo hi := by
  have e1 : bS b n (bS b n s.1) = bS b n s.1 := pE_id _ _ _ _
  have e2 : nE b n (bS b n s.1) = nE b n s.1 := by unfold nE; rw [e1]
  have e3 : nV b n (bS b n s.1) = nV b n s.1 := by unfold nV; rw [e1, e2]
  unfold nmX
  rw [nm_bS h0, e3]
theorem rmC.bl {b : By} {n : Nat} {s : Ps} {lo : Nat} {hi : Int} {τ : Mem} (h : rmC b n (nmS b n (bS b n s.1, s.2) lo hi) τ) : rmC b n (nmS b n s lo hi) τ := by
  by_cases h0 : s.2.1 = 0
  · rw [← nm_bS h0]; exact h
  · rw [nmS_f h0]
    rw [nmS_f (s := (bS b n s.1, s.2)) h0] at h
    obtain ⟨q1, ⟨a, q3, q4, q5⟩, q6, q8⟩ := h
    exact ⟨q1, ⟨a, q3, q4, fun z => absurd z h0⟩, q6, q8⟩
theorem faA_fa {s : Ps} {k k' pl pl' : Nat} (hk : k ≠ 0) : faA (faA s k pl) k' pl' = faA s k pl := by
  unfold faA
  by_cases h : s.2.1 = 0
  · rw [if_pos h, if_neg hk]
  · rw [if_neg h, if_neg h]
section RMC
variable {w : Wd} {d : Nat} {σ : Mem} {b : By} {n : Nat} {k : Sk} {s : Ps} {P : Option AV → Mem → Prop} {X : Nat → Mem → Prop}
theorem s_skipM (hn : n ≤ 600) (hb : ∀ j, j < n → b j < 256) (h : rmC b n s σ) (hP : ∀ τ, (∀ a j, ¬ r3 a j → rI τ a j = rI σ a j) → τ.2 = σ.2 → rmC b n (bS b n s.1, s.2) τ → P none τ) : Ret w true (d + 2) 0 0 m_Mo_blanks [.ref 108] σ P X := by
  obtain ⟨hB, ⟨a, ha, h3, h3'⟩, ⟨h4, h4'⟩, h5⟩ := h
  exact s_blanks hn hb hB h3 ha (hP _ (fr3 (fun _ _ _ => rfl) (by omega) _) rfl ⟨⟨hB.1, hB.2⟩, ⟨bS b n a, pE_le isBl b n a ha, rfl, fun z => by rw [h3' z]⟩, ⟨h4, h4'⟩, h5⟩)
theorem s_readsCloud {i : Nat} (hn : n ≤ 600) (hb : ∀ j, j < n → b j < 256) (hR : rmC b n s σ) (hW : kT k 0 ≤ 8 ∧ kT k 1 ≤ 8) (hi : i < 8) (hP : ∀ τ, (∀ a j, ¬ r3 a j → a ≠ 132 + 1 + i → rI τ a j = rI σ a j) → τ.2 = σ.2 → rmC b n (nmT b n (qlC k) s) τ → ((nmT b n (qlC k) s).2.1 = 0 → ∀ j, j < 7 → rI τ (132 + 1 + i) j = nI (rwC b n s k j)) → P none τ) : Ret w true (d + 4) 0 0 m_Mo_readsCloud [.ref 108, .ref (132 + 1 + i), .int (iZ ((kT k 0 : Int) - 1)), .int (iZ ((kT k 1 : Int) - 1))] σ P X := by
  refine meth_ok k_Mo_readsCloud q_Mo_readsCloud rfl fun At hAt => ?_
  refine hAt 7 _ _ _ _ _ _ ?_
  refine s_number hn hb hR (by omega) (by omega) (fun τ1 x1 u1 e1 y1 w1 => ?_)
  refine And.intro (mx_e (q := 132) (n := 8) (k := 7) (j := i) (i := 0) rfl (by omega) (by omega) rfl) ?_
  refine Eq.mpr (congrArg (fun xq : Mem => At 9 [.ref (108), .ref (132 + 1 + i), .int (iZ ((kT k 0 : Int) - 1)), .int (iZ ((kT k 1 : Int) - 1))] [] xq 0 0) (wrE (σ := τ1) (q := 132 + 1 + i) (p := rfl) (hj := by omega) (h := rfl))) ?_
  refine hAt 7 _ _ _ _ _ _ ?_
  refine s_number hn hb (y1.fr (fun j hj => by rw [rI_wI, if_neg (by omega)]) (fun j => by rw [rI_wI, if_neg (by omega)])) (by omega) (by omega) (fun τ2 x2 u2 e2 y2 w2 => ?_)
  refine And.intro (mx_e (q := 132) (n := 8) (k := 7) (j := i) (i := 1) rfl (by omega) (by omega) rfl) ?_
  refine Eq.mpr (congrArg (fun xq : Mem => At 18 [.ref (108), .ref (132 + 1 + i), .int (iZ ((kT k 0 : Int) - 1)), .int (iZ ((kT k 1 : Int) - 1))] [] xq 0 0) (wrE (σ := τ2) (q := 132 + 1 + i) (p := rfl) (hj := by omega) (h := rfl))) ?_
  refine hAt 5 _ _ _ _ _ _ ?_
  refine Eq.mpr (congrArg (fun xq : Int32 => At 23 [.ref (108), .ref (132 + 1 + i), .int (iZ ((kT k 0 : Int) - 1)), .int (iZ ((kT k 1 : Int) - 1))] [.int xq, .int (nI 0), .ref (108), .int (nI 2), .ref (132 + 1 + i)] (wI τ2 (132 + 1 + i) 1 x2) 0 0) (ntZ rfl)) ?_
  refine hAt 2 _ _ _ _ _ _ ?_
  refine s_number hn hb (y2.fr (fun j hj => by rw [rI_wI, if_neg (by omega)]) (fun j => by rw [rI_wI, if_neg (by omega)])) (by omega) (by omega) (fun τ3 x3 u3 e3 y3 w3 => ?_)
  refine And.intro (mx_e (q := 132) (n := 8) (k := 7) (j := i) (i := 2) rfl (by omega) (by omega) rfl) ?_
  refine Eq.mpr (congrArg (fun xq : Mem => At 27 [.ref (108), .ref (132 + 1 + i), .int (iZ ((kT k 0 : Int) - 1)), .int (iZ ((kT k 1 : Int) - 1))] [] xq 0 0) (wrE (σ := τ3) (q := 132 + 1 + i) (p := rfl) (hj := by omega) (h := rfl))) ?_
  refine hAt 5 _ _ _ _ _ _ ?_
  refine Eq.mpr (congrArg (fun xq : Int32 => At 33 [.ref (108), .ref (132 + 1 + i), .int (iZ ((kT k 0 : Int) - 1)), .int (iZ ((kT k 1 : Int) - 1))] [.int xq, .int (nI 0), .ref (108), .int (nI 3), .ref (132 + 1 + i)] (wI τ3 (132 + 1 + i) 2 x3) 0 0) (ntZ rfl)) ?_
  refine hAt 2 _ _ _ _ _ _ ?_
  refine s_number hn hb (y3.fr (fun j hj => by rw [rI_wI, if_neg (by omega)]) (fun j => by rw [rI_wI, if_neg (by omega)])) (by omega) (by omega) (fun τ4 x4 u4 e4 y4 w4 => ?_)
  refine And.intro (mx_e (q := 132) (n := 8) (k := 7) (j := i) (i := 3) rfl (by omega) (by omega) rfl) ?_
  refine Eq.mpr (congrArg (fun xq : Mem => At 37 [.ref (108), .ref (132 + 1 + i), .int (iZ ((kT k 0 : Int) - 1)), .int (iZ ((kT k 1 : Int) - 1))] [] xq 0 0) (wrE (σ := τ4) (q := 132 + 1 + i) (p := rfl) (hj := by omega) (h := rfl))) ?_
  refine hAt 5 _ _ _ _ _ _ ?_
  refine Eq.mpr (congrArg (fun xq : Int32 => At 44 [.ref (108), .ref (132 + 1 + i), .int (iZ ((kT k 0 : Int) - 1)), .int (iZ ((kT k 1 : Int) - 1))] [.int xq, .int (nI 1), .ref (108), .int (nI 4), .ref (132 + 1 + i)] (wI τ4 (132 + 1 + i) 3 x4) 0 0) (ntZ rfl)) ?_
  refine hAt 2 _ _ _ _ _ _ ?_
  refine s_number hn hb (y4.fr (fun j hj => by rw [rI_wI, if_neg (by omega)]) (fun j => by rw [rI_wI, if_neg (by omega)])) (by omega) (by omega) (fun τ5 x5 u5 e5 y5 w5 => ?_)
  refine And.intro (mx_e (q := 132) (n := 8) (k := 7) (j := i) (i := 4) rfl (by omega) (by omega) rfl) ?_
  refine Eq.mpr (congrArg (fun xq : Mem => At 48 [.ref (108), .ref (132 + 1 + i), .int (iZ ((kT k 0 : Int) - 1)), .int (iZ ((kT k 1 : Int) - 1))] [] xq 0 0) (wrE (σ := τ5) (q := 132 + 1 + i) (p := rfl) (hj := by omega) (h := rfl))) ?_
  refine hAt 4 _ _ _ _ _ _ ?_
  refine And.intro (mx_e (q := 132) (n := 8) (k := 7) (j := i) (i := 5) rfl (by omega) (by omega) rfl) ?_
  refine Eq.mpr (congrArg (fun xq : Mem => At 53 [.ref (108), .ref (132 + 1 + i), .int (iZ ((kT k 0 : Int) - 1)), .int (iZ ((kT k 1 : Int) - 1))] [] xq 0 0) (wrE (σ := (wI τ5 (132 + 1 + i) 4 x5)) (q := 132 + 1 + i) (p := rfl) (hj := by omega) (h := rfl))) ?_
  refine hAt 4 _ _ _ _ _ _ ?_
  refine And.intro (mx_e (q := 132) (n := 8) (k := 7) (j := i) (i := 6) rfl (by omega) (by omega) rfl) ?_
  refine Eq.mpr (congrArg (fun xq : Mem => At 60 [.ref (108), .ref (132 + 1 + i), .int (iZ ((kT k 0 : Int) - 1)), .int (iZ ((kT k 1 : Int) - 1))] [] xq 0 0) (wrE (σ := (wI (wI τ5 (132 + 1 + i) 4 x5) (132 + 1 + i) 5 (nI 7))) (q := 132 + 1 + i) (p := rfl) (hj := by omega) (h := rfl))) ?_
  refine hAt 1 _ _ _ _ _ _ ?_
  exact hP _ (fun a j q1 q2 => by unfold r3 at q1; rw [rI_wI, if_neg (by omega)]; rw [rI_wI, if_neg (by omega)]; rw [rI_wI, if_neg (by omega)]; refine (u5 _ _ (by unfold r3; omega)).trans ?_; rw [rI_wI, if_neg (by omega)]; refine (u4 _ _ (by unfold r3; omega)).trans ?_; rw [rI_wI, if_neg (by omega)]; refine (u3 _ _ (by unfold r3; omega)).trans ?_; rw [rI_wI, if_neg (by omega)]; refine (u2 _ _ (by unfold r3; omega)).trans ?_; rw [rI_wI, if_neg (by omega)]; exact u1 _ _ (by unfold r3; omega)) (e5.trans (e4.trans (e3.trans (e2.trans (e1))))) (y5.fr (fun j hj => by rw [rI_wI, if_neg (by omega)]; rw [rI_wI, if_neg (by omega)]; rw [rI_wI, if_neg (by omega)]) (fun j => by rw [rI_wI, if_neg (by omega)]; rw [rI_wI, if_neg (by omega)]; rw [rI_wI, if_neg (by omega)])) (fun hf => all7 ((show rI (wI (wI (wI τ5 (132 + 1 + i) 4 x5) (132 + 1 + i) 5 (nI 7)) (132 + 1 + i) 6 (nI 1000)) (132 + 1 + i) 0 = x1 from (by rw [rI_wI, if_neg (by omega), rI_wI, if_neg (by omega), rI_wI, if_neg (by omega)]; exact ((u5 (132 + 1 + i) 0 (by unfold r3; omega)).trans (by rw [rI_wI, if_neg (by omega)]; exact ((u4 (132 + 1 + i) 0 (by unfold r3; omega)).trans (by rw [rI_wI, if_neg (by omega)]; exact ((u3 (132 + 1 + i) 0 (by unfold r3; omega)).trans (by rw [rI_wI, if_neg (by omega)]; exact ((u2 (132 + 1 + i) 0 (by unfold r3; omega)).trans (by rw [rI_wI, if_pos ⟨rfl, rfl⟩])))))))))).trans (w1 (nmS_f0 (nmS_f0 (nmS_f0 (nmS_f0 hf)))))) ((show rI (wI (wI (wI τ5 (132 + 1 + i) 4 x5) (132 + 1 + i) 5 (nI 7)) (132 + 1 + i) 6 (nI 1000)) (132 + 1 + i) 1 = x2 from (by rw [rI_wI, if_neg (by omega), rI_wI, if_neg (by omega), rI_wI, if_neg (by omega)]; exact ((u5 (132 + 1 + i) 1 (by unfold r3; omega)).trans (by rw [rI_wI, if_neg (by omega)]; exact ((u4 (132 + 1 + i) 1 (by unfold r3; omega)).trans (by rw [rI_wI, if_neg (by omega)]; exact ((u3 (132 + 1 + i) 1 (by unfold r3; omega)).trans (by rw [rI_wI, if_pos ⟨rfl, rfl⟩])))))))).trans (w2 (nmS_f0 (nmS_f0 (nmS_f0 hf))))) ((show rI (wI (wI (wI τ5 (132 + 1 + i) 4 x5) (132 + 1 + i) 5 (nI 7)) (132 + 1 + i) 6 (nI 1000)) (132 + 1 + i) 2 = x3 from (by rw [rI_wI, if_neg (by omega), rI_wI, if_neg (by omega), rI_wI, if_neg (by omega)]; exact ((u5 (132 + 1 + i) 2 (by unfold r3; omega)).trans (by rw [rI_wI, if_neg (by omega)]; exact ((u4 (132 + 1 + i) 2 (by unfold r3; omega)).trans (by rw [rI_wI, if_pos ⟨rfl, rfl⟩])))))).trans (w3 (nmS_f0 (nmS_f0 hf)))) ((show rI (wI (wI (wI τ5 (132 + 1 + i) 4 x5) (132 + 1 + i) 5 (nI 7)) (132 + 1 + i) 6 (nI 1000)) (132 + 1 + i) 3 = x4 from (by rw [rI_wI, if_neg (by omega), rI_wI, if_neg (by omega), rI_wI, if_neg (by omega)]; exact ((u5 (132 + 1 + i) 3 (by unfold r3; omega)).trans (by rw [rI_wI, if_pos ⟨rfl, rfl⟩])))).trans (w4 (nmS_f0 hf))) ((show rI (wI (wI (wI τ5 (132 + 1 + i) 4 x5) (132 + 1 + i) 5 (nI 7)) (132 + 1 + i) 6 (nI 1000)) (132 + 1 + i) 4 = x5 from (by rw [rI_wI, if_neg (by omega), rI_wI, if_neg (by omega), rI_wI, if_pos ⟨rfl, rfl⟩])).trans (w5 hf)) (show rI (wI (wI (wI τ5 (132 + 1 + i) 4 x5) (132 + 1 + i) 5 (nI 7)) (132 + 1 + i) 6 (nI 1000)) (132 + 1 + i) 5 = nI 7 from (by rw [rI_wI, if_neg (by omega), rI_wI, if_pos ⟨rfl, rfl⟩])) (show rI (wI (wI (wI τ5 (132 + 1 + i) 4 x5) (132 + 1 + i) 5 (nI 7)) (132 + 1 + i) 6 (nI 1000)) (132 + 1 + i) 6 = nI 1000 from (by rw [rI_wI, if_pos ⟨rfl, rfl⟩])))
theorem s_readsSeen (hn : n ≤ 600) (hb : ∀ j, j < n → b j < 256) (hR : rmC b n s σ) (hW : kT k 0 ≤ 8 ∧ kT k 1 ≤ 8) (hQ : skQ σ k) (hv : VS k) (hP : ∀ τ, (∀ a j, ¬ r3 a j → ¬ (133 ≤ a ∧ a ≤ 140) → rI τ a j = rI σ a j) → τ.2 = σ.2 → rmC b n (rdS b n 3 s k) τ → ((rdS b n 3 s k).2.1 = 0 → skQ τ (rdK b n 3 s k)) → P none τ) : Ret w true (d + 4) 0 0 m_Mo_readsSeen [.ref 108] σ P X := by
  have v3 := hv.2.2.1
  have v13 := hv.2.2.2.2.2.2.2.2.2.2.2.2.1
  refine meth_ok k_Mo_readsSeen q_Mo_readsSeen rfl fun At hAt => ?_
  refine hAt 6 _ _ _ _ _ _ ?_
  refine And.intro (aOKx (n := 11) (j := 2) rfl (by decide) rfl rfl (by omega) (by omega)) ?_
  refine Eq.mpr (congrArg (fun xq : Int32 => At 8 [.ref (108), junk, junk, junk] [.int xq, .int (nI 0), .ref (108)] σ 0 0) (show rI σ 110 (nI 2).toNatClampNeg = nI (kT k 2) from (ldE rfl (by omega) (hQ.1 2 (by omega))))) ?_
  refine hAt 2 _ _ _ _ _ _ ?_
  refine Eq.mpr (congrArg (fun xq : Int32 => At 10 [.ref (108), junk, junk, junk] [.int xq, .int (nI 0), .ref (108)] σ 0 0) (show (nI (kT k 2)) - nI 1 = iZ (((kT k 2 : Nat) : Int) - 1) from (sbZ (ntZ rfl) (ntZ rfl)))) ?_
  refine hAt 5 _ _ _ _ _ _ ?_
  refine s_number hn hb hR (by omega) (by omega) (fun τ1 x1 u1 e1 y1 w1 => ?_)
  refine Eq.mpr (congrArg (fun xq : Int32 => At 18 [.ref (108), .int (x1), junk, junk] [.int xq, .int (nI 0), .ref (108)] τ1 0 0) (ntZ rfl)) ?_
  refine hAt 5 _ _ _ _ _ _ ?_
  refine s_number hn hb y1 (by omega) (by omega) (fun τ2 x2 u2 e2 y2 w2 => ?_)
  refine Eq.mpr (congrArg (fun xq : Int32 => At 27 [.ref (108), .int (x1), .int (x2), junk] [.int xq, .int (nI 0), .ref (108)] τ2 0 0) (ntZ rfl)) ?_
  refine hAt 4 _ _ _ _ _ _ ?_
  refine s_number hn hb y2 (by omega) (by omega) (fun τ3 x3 u3 e3 y3 w3 => ?_)
  have h94 : (nmS b n (nmS b n (nmS b n s 0 (((kT k 2 : Nat) : Int) - 1)) 0 6) 0 999).2.1 ≤ 4 := y3.2.2.1.1
  refine Eq.mpr (congrArg (fun xq : Int32 => At 35 [.ref (108), .int (x1), .int (x2), .int (x3)] [.int xq] τ3 0 0) (show rI τ3 108 5 = nI ((nmS b n (nmS b n (nmS b n s 0 (((kT k 2 : Nat) : Int) - 1)) 0 6) 0 999).2.1) from y3.2.2.1.2)) ?_
  refine hAt 1 _ _ _ _ _ _ ?_
  refine And.intro (fun hq => ?_) (fun hq => ?_)
  · have c35 : ¬ (nmS b n (nmS b n (nmS b n s 0 (((kT k 2 : Nat) : Int) - 1)) 0 6) 0 999).2.1 = 0 := fun zq => hq ((eqN (a := (nmS b n (nmS b n (nmS b n s 0 (((kT k 2 : Nat) : Int) - 1)) 0 6) 0 999).2.1) (b := 0) rfl rfl (by omega) (by omega)).mpr zq)
    clear hq
    refine hAt 1 _ _ _ _ _ _ ?_
    exact hP _ (fun a j q1 q2 => by unfold r3 at q1; refine (u3 _ _ (by unfold r3; omega)).trans ?_; refine (u2 _ _ (by unfold r3; omega)).trans ?_; exact u1 _ _ (by unfold r3; omega)) (e3.trans (e2.trans (e1))) y3 (fun hf => absurd hf c35)
  · have c35 : (nmS b n (nmS b n (nmS b n s 0 (((kT k 2 : Nat) : Int) - 1)) 0 6) 0 999).2.1 = 0 := (eqN (a := (nmS b n (nmS b n (nmS b n s 0 (((kT k 2 : Nat) : Int) - 1)) 0 6) 0 999).2.1) (b := 0) rfl rfl (by omega) (by omega)).mp hq
    clear hq
    obtain rfl := w3 c35
    obtain rfl := w2 (nmS_f0 c35)
    obtain rfl := w1 (nmS_f0 (nmS_f0 c35))
    have hl2 := nmX_hi (nmS_f0 (nmS_f0 c35))
    have cl : nmX b n s 0 (((kT k 2 : Nat) : Int) - 1) < kT k 2 := by omega
    have ol : nmX b n (nmS b n s 0 (((kT k 2 : Nat) : Int) - 1)) 0 6 ≤ 6 := nmX_le (by omega) (by omega)
    have ml : nmX b n (nmS b n (nmS b n s 0 (((kT k 2 : Nat) : Int) - 1)) 0 6) 0 999 ≤ 999 := nmX_le (by omega) (by omega)
    have b13 := v13 _ cl
    refine hAt 5 _ _ _ _ _ _ ?_
    refine And.intro (mx_r (q := 132) (n := 8) (k := 7) rfl rfl (show nmX b n s 0 (((kT k 2 : Nat) : Int) - 1) < 8 by omega)) (And.intro (Or.inl rfl) ?_)
    refine Eq.mpr (congrArg (fun xq : Nat => At 45 [.ref (108), .int (nI (nmX b n s 0 (((kT k 2 : Nat) : Int) - 1))), .int (nI (nmX b n (nmS b n s 0 (((kT k 2 : Nat) : Int) - 1)) 0 6)), .int (nI (nmX b n (nmS b n (nmS b n s 0 (((kT k 2 : Nat) : Int) - 1)) 0 6) 0 999))] [.ref xq, .int (nI (nmX b n (nmS b n (nmS b n s 0 (((kT k 2 : Nat) : Int) - 1)) 0 6) 0 999))] τ3 0 0) (rwE rfl (by omega))) ?_
    refine hAt 2 _ _ _ _ _ _ ?_
    refine And.intro (mx_e (q := 132) (n := 8) (k := 7) (j := (nmX b n s 0 (((kT k 2 : Nat) : Int) - 1))) (i := 6) rfl (by omega) (by omega) rfl) ?_
    refine Eq.mpr (congrArg (fun xq : Int32 => At 48 [.ref (108), .int (nI (nmX b n s 0 (((kT k 2 : Nat) : Int) - 1))), .int (nI (nmX b n (nmS b n s 0 (((kT k 2 : Nat) : Int) - 1)) 0 6)), .int (nI (nmX b n (nmS b n (nmS b n s 0 (((kT k 2 : Nat) : Int) - 1)) 0 6) 0 999))] [.int xq, .int (nI (nmX b n (nmS b n (nmS b n s 0 (((kT k 2 : Nat) : Int) - 1)) 0 6) 0 999))] τ3 0 0) (show rI τ3 (132 + 1 + (nmX b n s 0 (((kT k 2 : Nat) : Int) - 1))) (nI 6).toNatClampNeg = nI (kC k (nmX b n s 0 (((kT k 2 : Nat) : Int) - 1)) 6) from (ldE rfl (by omega) ((u3 (132 + 1 + (nmX b n s 0 (((kT k 2 : Nat) : Int) - 1))) 6 (by unfold r3; omega)).trans ((u2 (132 + 1 + (nmX b n s 0 (((kT k 2 : Nat) : Int) - 1))) 6 (by unfold r3; omega)).trans ((u1 (132 + 1 + (nmX b n s 0 (((kT k 2 : Nat) : Int) - 1))) 6 (by unfold r3; omega)).trans (hQ.2.2.1 (nmX b n s 0 (((kT k 2 : Nat) : Int) - 1)) (by omega) 6 (by omega)))))))) ?_
    refine hAt 1 _ _ _ _ _ _ ?_
    refine And.intro (fun hq => ?_) (fun hq => ?_)
    · have c48 : nmX b n (nmS b n (nmS b n s 0 (((kT k 2 : Nat) : Int) - 1)) 0 6) 0 999 < kC k (nmX b n s 0 (((kT k 2 : Nat) : Int) - 1)) 6 := (ltN (a := nmX b n (nmS b n (nmS b n s 0 (((kT k 2 : Nat) : Int) - 1)) 0 6) 0 999) (b := kC k (nmX b n s 0 (((kT k 2 : Nat) : Int) - 1)) 6) rfl rfl (by omega) (by omega)).mp hq
      clear hq
      refine hAt 4 _ _ _ _ _ _ ?_
      refine And.intro (mx_r (q := 132) (n := 8) (k := 7) rfl rfl (show nmX b n s 0 (((kT k 2 : Nat) : Int) - 1) < 8 by omega)) (And.intro (Or.inl rfl) ?_)
      refine Eq.mpr (congrArg (fun xq : Nat => At 58 [.ref (108), .int (nI (nmX b n s 0 (((kT k 2 : Nat) : Int) - 1))), .int (nI (nmX b n (nmS b n s 0 (((kT k 2 : Nat) : Int) - 1)) 0 6)), .int (nI (nmX b n (nmS b n (nmS b n s 0 (((kT k 2 : Nat) : Int) - 1)) 0 6) 0 999))] [.ref xq] τ3 0 0) (rwE rfl (by omega))) ?_
      refine hAt 3 _ _ _ _ _ _ ?_
      refine And.intro (mx_e (q := 132) (n := 8) (k := 7) (j := (nmX b n s 0 (((kT k 2 : Nat) : Int) - 1))) (i := 5) rfl (by omega) (by omega) rfl) ?_
      refine Eq.mpr (congrArg (fun xq : Mem => At 61 [.ref (108), .int (nI (nmX b n s 0 (((kT k 2 : Nat) : Int) - 1))), .int (nI (nmX b n (nmS b n s 0 (((kT k 2 : Nat) : Int) - 1)) 0 6)), .int (nI (nmX b n (nmS b n (nmS b n s 0 (((kT k 2 : Nat) : Int) - 1)) 0 6) 0 999))] [] xq 0 0) (wrE (σ := τ3) (q := 132 + 1 + (nmX b n s 0 (((kT k 2 : Nat) : Int) - 1))) (p := rfl) (hj := by omega) (h := rfl))) ?_
      refine hAt 4 _ _ _ _ _ _ ?_
      refine And.intro (mx_r (q := 132) (n := 8) (k := 7) rfl rfl (show nmX b n s 0 (((kT k 2 : Nat) : Int) - 1) < 8 by omega)) (And.intro (Or.inl rfl) ?_)
      refine Eq.mpr (congrArg (fun xq : Nat => At 67 [.ref (108), .int (nI (nmX b n s 0 (((kT k 2 : Nat) : Int) - 1))), .int (nI (nmX b n (nmS b n s 0 (((kT k 2 : Nat) : Int) - 1)) 0 6)), .int (nI (nmX b n (nmS b n (nmS b n s 0 (((kT k 2 : Nat) : Int) - 1)) 0 6) 0 999))] [.ref xq] (wI τ3 (132 + 1 + (nmX b n s 0 (((kT k 2 : Nat) : Int) - 1))) 5 (nI (nmX b n (nmS b n s 0 (((kT k 2 : Nat) : Int) - 1)) 0 6))) 0 0) (rwE rfl (by omega))) ?_
      refine hAt 3 _ _ _ _ _ _ ?_
      refine And.intro (mx_e (q := 132) (n := 8) (k := 7) (j := (nmX b n s 0 (((kT k 2 : Nat) : Int) - 1))) (i := 6) rfl (by omega) (by omega) rfl) ?_
      refine Eq.mpr (congrArg (fun xq : Mem => At 71 [.ref (108), .int (nI (nmX b n s 0 (((kT k 2 : Nat) : Int) - 1))), .int (nI (nmX b n (nmS b n s 0 (((kT k 2 : Nat) : Int) - 1)) 0 6)), .int (nI (nmX b n (nmS b n (nmS b n s 0 (((kT k 2 : Nat) : Int) - 1)) 0 6) 0 999))] [] xq 0 0) (wrE (σ := (wI τ3 (132 + 1 + (nmX b n s 0 (((kT k 2 : Nat) : Int) - 1))) 5 (nI (nmX b n (nmS b n s 0 (((kT k 2 : Nat) : Int) - 1)) 0 6)))) (q := 132 + 1 + (nmX b n s 0 (((kT k 2 : Nat) : Int) - 1))) (p := rfl) (hj := by omega) (h := rfl))) ?_
      refine hAt 1 _ _ _ _ _ _ ?_
      have ek : rdK b n 3 s k = kSn k (nmX b n s 0 (((kT k 2 : Nat) : Int) - 1)) (nmX b n (nmS b n s 0 (((kT k 2 : Nat) : Int) - 1)) 0 6) (nmX b n (nmS b n (nmS b n s 0 (((kT k 2 : Nat) : Int) - 1)) 0 6) 0 999) := if_pos c48
      exact hP _ (fun a j q1 q2 => by unfold r3 at q1; rw [rI_wI, if_neg (by omega)]; rw [rI_wI, if_neg (by omega)]; refine (u3 _ _ (by unfold r3; omega)).trans ?_; refine (u2 _ _ (by unfold r3; omega)).trans ?_; exact u1 _ _ (by unfold r3; omega)) (e3.trans (e2.trans (e1))) (y3.fr (fun j hj => by rw [rI_wI, if_neg (by omega)]; rw [rI_wI, if_neg (by omega)]) (fun j => by rw [rI_wI, if_neg (by omega)]; rw [rI_wI, if_neg (by omega)])) (fun hf => by rw [ek]; exact hQ.sn hv cl (fun a j q1 q2 => by rw [rI_wI, if_neg (by omega)]; rw [rI_wI, if_neg (by omega)]; refine (u3 _ _ (by unfold r3; omega)).trans ?_; refine (u2 _ _ (by unfold r3; omega)).trans ?_; exact u1 _ _ (by unfold r3; omega)) (show rI (wI (wI τ3 (132 + 1 + (nmX b n s 0 (((kT k 2 : Nat) : Int) - 1))) 5 (nI (nmX b n (nmS b n s 0 (((kT k 2 : Nat) : Int) - 1)) 0 6))) (132 + 1 + (nmX b n s 0 (((kT k 2 : Nat) : Int) - 1))) 6 (nI (nmX b n (nmS b n (nmS b n s 0 (((kT k 2 : Nat) : Int) - 1)) 0 6) 0 999))) (132 + 1 + (nmX b n s 0 (((kT k 2 : Nat) : Int) - 1))) 5 = nI (nmX b n (nmS b n s 0 (((kT k 2 : Nat) : Int) - 1)) 0 6) from (by rw [rI_wI, if_neg (by omega), rI_wI, if_pos ⟨rfl, rfl⟩])) (show rI (wI (wI τ3 (132 + 1 + (nmX b n s 0 (((kT k 2 : Nat) : Int) - 1))) 5 (nI (nmX b n (nmS b n s 0 (((kT k 2 : Nat) : Int) - 1)) 0 6))) (132 + 1 + (nmX b n s 0 (((kT k 2 : Nat) : Int) - 1))) 6 (nI (nmX b n (nmS b n (nmS b n s 0 (((kT k 2 : Nat) : Int) - 1)) 0 6) 0 999))) (132 + 1 + (nmX b n s 0 (((kT k 2 : Nat) : Int) - 1))) 6 = nI (nmX b n (nmS b n (nmS b n s 0 (((kT k 2 : Nat) : Int) - 1)) 0 6) 0 999) from (by rw [rI_wI, if_pos ⟨rfl, rfl⟩])))
    · have c48 : kC k (nmX b n s 0 (((kT k 2 : Nat) : Int) - 1)) 6 ≤ nmX b n (nmS b n (nmS b n s 0 (((kT k 2 : Nat) : Int) - 1)) 0 6) 0 999 := Nat.le_of_not_lt (fun zq => hq ((ltN (a := nmX b n (nmS b n (nmS b n s 0 (((kT k 2 : Nat) : Int) - 1)) 0 6) 0 999) (b := kC k (nmX b n s 0 (((kT k 2 : Nat) : Int) - 1)) 6) rfl rfl (by omega) (by omega)).mpr zq))
      clear hq
      refine hAt 1 _ _ _ _ _ _ ?_
      have ek : rdK b n 3 s k = k := if_neg (Nat.not_lt.mpr c48)
      exact hP _ (fun a j q1 q2 => by unfold r3 at q1; refine (u3 _ _ (by unfold r3; omega)).trans ?_; refine (u2 _ _ (by unfold r3; omega)).trans ?_; exact u1 _ _ (by unfold r3; omega)) (e3.trans (e2.trans (e1))) y3 (fun hf => by rw [ek]; exact hQ.fr hv (fun a j q1 q2 => by refine (u3 _ _ (by unfold r3; omega)).trans ?_; refine (u2 _ _ (by unfold r3; omega)).trans ?_; exact u1 _ _ (by unfold r3; omega)))
end RMC
