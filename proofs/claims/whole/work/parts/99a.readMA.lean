/-! READING on the model's side -/
/-- the byte at k, -1 behind the end -/
def zb (b : By) (n k : Nat) : Int := if k < n then (b k : Int) else -1
theorem zb_in {b : By} {n k : Nat} (h : k < n) : zb b n k = (b k : Int) := if_pos h
theorem zb_out {b : By} {n k : Nat} (h : ¬ k < n) : zb b n k = -1 := if_neg h
theorem zb_b {b : By} {n : Nat} (hb : ∀ j, j < n → b j < 256) (k : Nat) : -1 ≤ zb b n k ∧ zb b n k < 256 := by
  by_cases h : k < n
  · have := hb k h; rw [zb_in h]; omega
  · rw [zb_out h]; omega
theorem zb_p {b : By} {n k : Nat} {z : Int} (hz : 0 ≤ z) (h : z ≤ zb b n k) : k < n ∧ zb b n k = (b k : Int) := by
  by_cases q : k < n
  · exact ⟨q, zb_in q⟩
  · rw [zb_out q] at h; omega
def rmB (b : By) (n : Nat) (σ : Mem) : Prop := rI σ 108 2 = nI n ∧ ∀ j, j < n → rI σ 109 j = nI (b j)
def rmC (b : By) (n : Nat) (s : Ps) (σ : Mem) : Prop := rmB b n σ ∧ (∃ a, a ≤ n ∧ rI σ 108 4 = nI a ∧ (s.2.1 = 0 → a = s.1)) ∧ (s.2.1 ≤ 4 ∧ rI σ 108 5 = nI s.2.1) ∧ rI σ 108 6 = plI s
/-- the reader's own fields -/
def r3 (a j : Nat) : Prop := a = 108 ∧ 4 ≤ j ∧ j ≤ 6
theorem fr3 {σ τ : Mem} (h : ∀ a j, ¬ r3 a j → rI τ a j = rI σ a j) {k : Nat} (hk : 4 ≤ k ∧ k ≤ 6) (x : Int32) : ∀ a j, ¬ r3 a j → rI (wI τ 108 k x) a j = rI σ a j := fun a j q => by rw [rI_wI, if_neg (fun z => q ⟨z.1, by omega, by omega⟩)]; exact h a j q
theorem rmC.fr {b : By} {n : Nat} {s : Ps} {σ τ : Mem} (h : rmC b n s σ) (h1 : ∀ j, (j = 2 ∨ j = 4 ∨ j = 5 ∨ j = 6) → rI τ 108 j = rI σ 108 j) (h2 : ∀ j, rI τ 109 j = rI σ 109 j) : rmC b n s τ := by
  obtain ⟨⟨q1, q2⟩, ⟨a, q3, q4, q5⟩, ⟨q6, q7⟩, q8⟩ := h
  exact ⟨⟨(h1 2 (by omega)).trans q1, fun j hj => (h2 j).trans (q2 j hj)⟩, ⟨a, q3, (h1 4 (by omega)).trans q4, q5⟩, ⟨q6, (h1 5 (by omega)).trans q7⟩, (h1 6 (by omega)).trans q8⟩
theorem rmC.at0 {b : By} {n : Nat} {s : Ps} {σ : Mem} (h : rmC b n s σ) (h0 : s.2.1 = 0) : rI σ 108 4 = nI s.1 ∧ s.1 ≤ n := by
  obtain ⟨-, ⟨a, q3, q4, q5⟩, -⟩ := h
  rw [← q5 h0]; exact ⟨q4, q3⟩
section RMA
variable {w : Wd} {d : Nat} {σ : Mem} {b : By} {n : Nat} {P : Option AV → Mem → Prop} {X : Nat → Mem → Prop}
theorem s_byteAt {k : Nat} (hn : n ≤ 600) (hB : rmB b n σ) (hk : k < 2 ^ 31) (hP : P (some (.int (iZ (zb b n k)))) σ) : Ret w true (d + 1) 0 0 m_Mo_byteAt [.ref 108, .int (nI k)] σ P X := by
  refine meth_ok k_Mo_byteAt q_Mo_byteAt rfl fun At hAt => ?_
  refine hAt 3 _ _ _ _ _ _ ?_
  refine Eq.mpr (congrArg (fun xq : Int32 => At 5 [.ref (108), .int (nI k)] [.int xq, .int (nI k)] σ 0 0) (show rI σ 108 2 = nI n from hB.1)) ?_
  refine hAt 1 _ _ _ _ _ _ ?_
  refine And.intro (fun hq => ?_) (fun hq => ?_)
  · have c5 : k < n := (ltN (a := k) (b := n) rfl rfl (by omega) (by omega)).mp hq
    clear hq
    refine hAt 4 _ _ _ _ _ _ ?_
    refine And.intro (aOKx (n := 600) (j := k) rfl (by decide) rfl rfl (by omega) (by omega)) ?_
    refine Eq.mpr (congrArg (fun xq : Int32 => At 18 [.ref (108), .int (nI k)] [.int xq] σ 0 0) (show rI σ 109 (nI k).toNatClampNeg = nI (b k) from (ldE rfl (by omega) (hB.2 k (by omega))))) ?_
    refine hAt 1 _ _ _ _ _ _ ?_
    rw [zb_in c5, iZ_nat] at hP
    exact hP
  · have c5 : n ≤ k := Nat.le_of_not_lt (fun zq => hq ((ltN (a := k) (b := n) rfl rfl (by omega) (by omega)).mpr zq))
    clear hq
    refine hAt 3 _ _ _ _ _ _ ?_
    rw [zb_out (by omega)] at hP
    exact hP
theorem s_byteAtN {k : Nat} (hn : n ≤ 600) (hB : rmB b n σ) (hk : k < n) (hP : P (some (.int (nI (b k)))) σ) : Ret w true (d + 1) 0 0 m_Mo_byteAt [.ref 108, .int (nI k)] σ P X := s_byteAt hn hB (by omega) (by rw [zb_in hk, iZ_nat]; exact hP)
theorem s_blanks {i : Nat} (hn : n ≤ 600) (hb : ∀ j, j < n → b j < 256) (hB : rmB b n σ) (h3 : rI σ 108 4 = nI i) (hi : i ≤ n) (hP : P none (wI σ 108 4 (nI (bS b n i)))) : Ret w true (d + 2) 0 0 m_Mo_blanks [.ref 108] σ P X := by
  refine meth_ok k_Mo_blanks q_Mo_blanks rfl fun At hAt => ?_
  have loop : ∀ i, i ≤ n → P none (wI σ 108 4 (nI (bS b n i))) → At 0 [.ref 108] [] (wI σ 108 4 (nI i)) 0 0 := by
    refine upto fun i hi ih => ?_
    intro hp
    have hz := zb_b hb i
    have hB2 : rmB b n (wI σ 108 4 (nI i)) := ⟨hB.1, fun j hj => hB.2 j hj⟩
    refine hAt 3 _ _ _ _ _ _ ?_
    refine Eq.mpr (congrArg (fun xq : Int32 => At 5 [.ref (108)] [.int xq, .ref (108)] (wI σ 108 4 (nI i)) 0 0) (show rI (wI σ 108 4 (nI i)) 108 4 = nI i from (by rw [rI_wI, if_pos ⟨rfl, rfl⟩]))) ?_
    refine hAt 3 _ _ _ _ _ _ ?_
    refine s_byteAt hn hB2 (by omega) ?_
    refine And.intro (fun hq => ?_) (fun hq => ?_)
    · have c10 : ¬ (zb b n i : Int) = 32 := fun zq => hq ((eqZ (a := zb b n i) (b := 32) rfl (ntZ rfl) (by omega) (by omega) (by omega) (by omega)).mpr zq)
      clear hq
      refine hAt 1 _ _ _ _ _ _ ?_
      rw [bS, pE_e (fun z => c10 (by rw [zb_in z.1, of_decide_eq_true z.2]; rfl))] at hp
      exact hp
    · have c10 : (zb b n i : Int) = 32 := (eqZ (a := zb b n i) (b := 32) rfl (ntZ rfl) (by omega) (by omega) (by omega) (by omega)).mp hq
      clear hq
      refine hAt 3 _ _ _ _ _ _ ?_
      refine Eq.mpr (congrArg (fun xq : Int32 => At 18 [.ref (108)] [.int xq, .ref (108)] (wI σ 108 4 (nI i)) 0 0) (show rI (wI σ 108 4 (nI i)) 108 4 = nI i from (by rw [rI_wI, if_pos ⟨rfl, rfl⟩]))) ?_
      refine hAt 3 _ _ _ _ _ _ ?_
      refine Eq.mpr (congrArg (fun xq : Mem => At 23 [.ref (108)] [] xq 0 0) (congrArg (fun z => wI (wI σ 108 4 (nI i)) 108 4 z) (adE rfl rfl))) ?_
      refine hAt 1 _ _ _ _ _ _ ?_
      obtain ⟨g1, g2⟩ := zb_p (b := b) (n := n) (k := i) (z := 32) (by omega) (by omega)
      have z := ih g1 (by rw [bS, pE_s g1 (decide_eq_true (by omega))] at hp; exact hp)
      rw [← wI_wI σ 108 4 (nI i) (nI (i + 1))] at z
      exact z
  have z := loop i hi hP
  rw [wI_self h3] at z
  exact z
theorem s_wrong0 {k : Nat} {x : Int32} (h : rI σ 108 5 = nI 0) (hP : P none (wI (wI σ 108 5 (nI k)) 108 6 x)) : Ret w true (d + 1) 0 0 m_Mo_wrong [.ref 108, .int (nI k), .int x] σ P X := by
  refine meth_ok k_Mo_wrong q_Mo_wrong rfl fun At hAt => ?_
  refine hAt 2 _ _ _ _ _ _ ?_
  refine Eq.mpr (congrArg (fun xq : Int32 => At 4 [.ref (108), .int (nI k), .int (x)] [.int xq] σ 0 0) (show rI σ 108 5 = nI 0 from h)) ?_
  refine hAt 1 _ _ _ _ _ _ ?_
  refine And.intro (fun hq => absurd hq (by decide)) (fun _ => ?_)
  refine hAt 7 _ _ _ _ _ _ ?_
  exact hP
theorem s_wrong1 {k f : Nat} {x : Int32} (h : rI σ 108 5 = nI f) (hf : f ≠ 0 ∧ f ≤ 4) (hP : P none σ) : Ret w true (d + 1) 0 0 m_Mo_wrong [.ref 108, .int (nI k), .int x] σ P X := by
  refine meth_ok k_Mo_wrong q_Mo_wrong rfl fun At hAt => ?_
  refine hAt 2 _ _ _ _ _ _ ?_
  refine Eq.mpr (congrArg (fun xq : Int32 => At 4 [.ref (108), .int (nI k), .int (x)] [.int xq] σ 0 0) (show rI σ 108 5 = nI f from h)) ?_
  refine hAt 1 _ _ _ _ _ _ ?_
  refine And.intro (fun hq => ?_) (fun hq => ?_)
  · have c4 : ¬ f = 0 := fun zq => hq ((eqN (a := f) (b := 0) rfl rfl (by omega) (by omega)).mpr zq)
    clear hq
    refine hAt 1 _ _ _ _ _ _ ?_
    exact hP
  · have c4 : f = 0 := (eqN (a := f) (b := 0) rfl rfl (by omega) (by omega)).mp hq
    clear hq
    exact absurd c4 (by omega)
theorem s_wrongS {s : Ps} {k pl : Nat} {x : Int32} (hk : k ≠ 0 ∧ k ≤ 4) (h : rmC b n s σ) (hx : s.2.1 = 0 → x = nI pl) (hP : ∀ τ, (∀ a j, ¬ r3 a j → rI τ a j = rI σ a j) → τ.2 = σ.2 → rmC b n (faA s k pl) τ → P none τ) : Ret w true (d + 1) 0 0 m_Mo_wrong [.ref 108, .int (nI k), .int x] σ P X := by
  have h9 := h
  obtain ⟨⟨q1, q2⟩, ⟨a, q3, q4, q5⟩, ⟨q6, q7⟩, q8⟩ := h
  by_cases h0 : s.2.1 = 0
  · refine s_wrong0 (q7.trans (congrArg nI h0)) ?_
    have e : faA s k pl = (s.1, k, pl) := if_pos h0
    refine hP _ (fr3 (fr3 (fun _ _ _ => rfl) (by omega) _) (by omega) _) rfl ?_
    rw [e]
    exact ⟨⟨q1, q2⟩, ⟨a, q3, q4, fun z => absurd z hk.1⟩, ⟨hk.2, rfl⟩, by rw [plI, if_neg hk.1]; exact hx h0⟩
  · refine s_wrong1 q7 ⟨h0, q6⟩ ?_
    have e : faA s k pl = s := if_neg h0
    exact hP σ (fun _ _ _ => rfl) rfl (by rw [e]; exact h9)
theorem s_isDigit {z : Int} (hz : -1 ≤ z ∧ z < 256) (hP : P (some (.int (bI (decide (48 ≤ z ∧ z ≤ 57))))) σ) : Ret w true (d + 1) 0 0 m_Mo_isDigit [.int (iZ z)] σ P X := by
  refine meth_ok k_Mo_isDigit q_Mo_isDigit rfl fun At hAt => ?_
  refine hAt 3 _ _ _ _ _ _ ?_
  refine And.intro (fun hq => ?_) (fun hq => ?_)
  · have c3 : (z : Int) < 48 := (ltZ (a := z) (b := 48) rfl (ntZ rfl) (by omega) (by omega) (by omega) (by omega)).mp hq
    clear hq
    refine hAt 2 _ _ _ _ _ _ ?_
    refine And.intro (rfl) ?_
    rw [decide_eq_false (by omega)] at hP
    exact hP
  · have c3 : (48 : Int) ≤ (z : Int) := Int.not_lt.mp (fun zq => hq ((ltZ (a := z) (b := 48) rfl (ntZ rfl) (by omega) (by omega) (by omega) (by omega)).mpr zq))
    clear hq
    refine hAt 3 _ _ _ _ _ _ ?_
    refine And.intro (fun hq => ?_) (fun hq => ?_)
    · have c9 : (57 : Int) < z := (ltZ (a := 57) (b := z) (ntZ rfl) rfl (by omega) (by omega) (by omega) (by omega)).mp hq
      clear hq
      refine hAt 2 _ _ _ _ _ _ ?_
      refine And.intro (rfl) ?_
      rw [decide_eq_false (by omega)] at hP
      exact hP
    · have c9 : (z : Int) ≤ (57 : Int) := Int.not_lt.mp (fun zq => hq ((ltZ (a := 57) (b := z) (ntZ rfl) rfl (by omega) (by omega) (by omega) (by omega)).mpr zq))
      clear hq
      refine hAt 3 _ _ _ _ _ _ ?_
      refine And.intro (rfl) ?_
      rw [decide_eq_true (by omega)] at hP
      exact hP
theorem in_z {v lo : Nat} {hi : Int} (h1 : v ≤ 100000) (h2 : lo ≤ 1000) (h3 : -10 ≤ hi ∧ hi ≤ 1000) : decide (¬ nI v < nI lo ∧ ¬ iZ hi < nI v) = decide (lo ≤ v ∧ (v : Int) ≤ hi) := by
  have e1 : nI v < nI lo ↔ v < lo := ltN rfl rfl (by omega) (by omega)
  have e2 : iZ hi < nI v ↔ hi < (v : Int) := ltZ rfl (ntZ rfl) (by omega) (by omega) (by omega) (by omega)
  by_cases q : lo ≤ v ∧ (v : Int) ≤ hi
  · rw [decide_eq_true q, decide_eq_true ⟨fun z => by have := e1.mp z; omega, fun z => by have := e2.mp z; omega⟩]
  · rw [decide_eq_false q, decide_eq_false (fun z => q ⟨Nat.le_of_not_lt (fun y => z.1 (e1.mpr y)), Int.not_lt.mp (fun y => z.2 (e2.mpr y))⟩)]
theorem s_number {s : Ps} {lo : Nat} {hi : Int} (hn : n ≤ 600) (hb : ∀ j, j < n → b j < 256) (hR : rmC b n s σ) (hlo : lo ≤ 1000) (hhi : -10 ≤ hi ∧ hi ≤ 1000) (hP : ∀ τ x, (∀ a j, ¬ r3 a j → rI τ a j = rI σ a j) → τ.2 = σ.2 → rmC b n (nmS b n s lo hi) τ → ((nmS b n s lo hi).2.1 = 0 → x = nI (nmX b n s lo hi)) → P (some (.int x)) τ) : Ret w true (d + 3) 0 0 m_Mo_number [.ref 108, .int (nI lo), .int (iZ hi)] σ P X := by
  obtain ⟨hB, ⟨a, ha, h3, h3'⟩, ⟨h4, h4'⟩, h5⟩ := hR
  refine meth_ok k_Mo_number q_Mo_number rfl fun At hAt => ?_
  by_cases h0 : s.2.1 = 0
  · obtain rfl : a = s.1 := h3' h0
    have b1 := pE_ge isBl b n s.1
    have b2 := pE_le isBl b n s.1 ha
    have fin : ∀ τ x, (∀ a j, ¬ r3 a j → rI τ a j = rI σ a j) → τ.2 = σ.2 → rI τ 108 4 = nI (nE b n s.1) → rI τ 108 5 = nI (nmS b n s lo hi).2.1 → rI τ 108 6 = plI (nmS b n s lo hi) → ((nmS b n s lo hi).2.1 = 0 → x = nI (nmX b n s lo hi)) → P (some (.int x)) τ := by
      intro τ x t1 t2 t4 t5 t6 t7
      have e1 : nE b n s.1 ≤ n := pE_le isDg b n _ b2
      have e2 : (nmS b n s lo hi).1 = nE b n s.1 ∧ (nmS b n s lo hi).2.1 ≤ 4 := by
        by_cases g1 : nE b n s.1 = bS b n s.1
        · rw [nm_1 h0 g1]; exact ⟨rfl, show 1 ≤ 4 by decide⟩
        · by_cases g2 : nV b n s.1 < lo ∨ hi < (nV b n s.1 : Int)
          · rw [nm_2 h0 g1 g2]; exact ⟨rfl, show 2 ≤ 4 by decide⟩
          · rw [nm_0 h0 g1 g2]; exact ⟨rfl, show 0 ≤ 4 by decide⟩
      exact hP τ x t1 t2 ⟨⟨(t1 108 2 (by unfold r3; omega)).trans hB.1, fun j hj => (t1 109 j (by unfold r3; omega)).trans (hB.2 j hj)⟩, ⟨_, e1, t4, fun _ => e2.1.symm⟩, ⟨e2.2, t5⟩, t6⟩ t7
    obtain ⟨i0, ei⟩ : ∃ i0, i0 = bS b n s.1 := ⟨_, rfl⟩
    obtain ⟨ρ, eρ⟩ : ∃ ρ, ρ = wI σ 108 4 (nI i0) := ⟨_, rfl⟩
    have r1 : ∀ a j, ¬ r3 a j → rI ρ a j = rI σ a j := by rw [eρ]; exact fr3 (fun _ _ _ => rfl) (by omega) _
    have r2 : ρ.2 = σ.2 := by rw [eρ]; rfl
    have r4 : rI ρ 108 5 = nI 0 := by rw [eρ]; exact h4'.trans (congrArg nI h0)
    have r5 : rI ρ 108 6 = -1 := by rw [eρ]; exact h5.trans (if_pos h0)
    have hBr : rmB b n ρ := ⟨(r1 108 2 (by unfold r3; omega)).trans hB.1, fun j hj => (r1 109 j (by unfold r3; omega)).trans (hB.2 j hj)⟩
    have hi0 : i0 ≤ n := by rw [ei]; exact b2
    have loop : ∀ k, k ≤ n - i0 → nE b n s.1 = pE isDg b n (i0 + k) → ¬ nE b n s.1 = bS b n s.1 → At 44 [.ref 108, .int (nI lo), .int (iZ hi), .int (nI i0), .int (nI (pV b i0 k))] [] (wI ρ 108 4 (nI (i0 + k))) 0 0 := by
      refine upto fun k hk ih => ?_
      intro hE hne
      have hv := pV_le b i0 k
      have hz := zb_b hb (i0 + k)
      have hB2 : rmB b n (wI ρ 108 4 (nI (i0 + k))) := ⟨hBr.1, fun j hj => hBr.2 j hj⟩
      have out : ¬ (i0 + k < n ∧ isDg (b (i0 + k)) = true) → nE b n s.1 = i0 + k ∧ nV b n s.1 = pV b i0 k := fun q => by
        have e : nE b n s.1 = i0 + k := by rw [hE, pE_e q]
        refine ⟨e, ?_⟩
        unfold nV
        rw [e, ← ei, Nat.add_sub_cancel_left]
      have fin2 : ¬ (48 ≤ zb b n (i0 + k) ∧ zb b n (i0 + k) ≤ 57) → ¬ (lo ≤ pV b i0 k ∧ (pV b i0 k : Int) ≤ hi) → P (some (.int (nI 0))) (wI (wI (wI ρ 108 4 (nI (i0 + k))) 108 5 (nI 2)) 108 6 (nI i0)) := fun q o => by
        have e := out (fun z => q (by have := of_decide_eq_true z.2; rw [zb_in z.1]; omega))
        have g := nm_2 (b := b) (n := n) (lo := lo) (hi := hi) h0 hne (by rw [e.2]; omega)
        exact fin _ _ (fr3 (fr3 (fr3 r1 (by omega) _) (by omega) _) (by omega) _) r2 (by rw [e.1]; rfl) (by rw [g]; rfl) (by rw [g, ← ei]; rfl) (fun z => by rw [g] at z; cases z)
      have fin3 : ¬ (48 ≤ zb b n (i0 + k) ∧ zb b n (i0 + k) ≤ 57) → lo ≤ pV b i0 k ∧ (pV b i0 k : Int) ≤ hi → P (some (.int (nI (pV b i0 k)))) (wI ρ 108 4 (nI (i0 + k))) := fun q o => by
        have e := out (fun z => q (by have := of_decide_eq_true z.2; rw [zb_in z.1]; omega))
        have g := nm_0 (b := b) (n := n) (lo := lo) (hi := hi) h0 hne (by rw [e.2]; omega)
        exact fin _ _ (fr3 r1 (by omega) _) r2 (by rw [e.1]; rfl) (by rw [g]; exact r4) (by rw [g]; exact r5) (fun _ => by rw [nmX_0 g, e.2]; rfl)
      refine hAt 3 _ _ _ _ _ _ ?_
      refine Eq.mpr (congrArg (fun xq : Int32 => At 49 [.ref (108), .int (nI lo), .int (iZ hi), .int (nI i0), .int (nI (pV b i0 k))] [.int xq, .ref (108)] (wI ρ 108 4 (nI (i0 + k))) 0 0) (show rI (wI ρ 108 4 (nI (i0 + k))) 108 4 = nI (i0 + k) from (by rw [rI_wI, if_pos ⟨rfl, rfl⟩]))) ?_
      refine hAt 3 _ _ _ _ _ _ ?_
      refine s_byteAt hn hB2 (by omega) ?_
      refine s_isDigit hz ?_
      refine And.intro (fun hq => ?_) (fun hq => ?_)
      · have c55 : ¬ (48 ≤ zb b n (i0 + k) ∧ zb b n (i0 + k) ≤ 57) := of_decide_eq_false (bI_eq hq)
        clear hq
        refine hAt 5 _ _ _ _ _ _ ?_
        refine s_in ?_
        rw [in_z hv hlo hhi]
        refine And.intro (fun hq => ?_) (fun hq => ?_)
        · have c113 : lo ≤ pV b i0 k ∧ (pV b i0 k : Int) ≤ hi := of_decide_eq_true (bI_ne hq)
          clear hq
          refine hAt 2 _ _ _ _ _ _ ?_
          refine Eq.mpr (congrArg (fun xq : Int32 => At 126 [.ref (108), .int (nI lo), .int (iZ hi), .int (nI i0), .int (nI (pV b i0 k))] [.int xq] (wI ρ 108 4 (nI (i0 + k))) 0 0) (show rI (wI ρ 108 4 (nI (i0 + k))) 108 5 = nI 0 from (by rw [rI_wI, if_neg (by omega)]; exact r4))) ?_
          refine hAt 1 _ _ _ _ _ _ ?_
          refine And.intro (fun hq => absurd hq (by decide)) (fun _ => ?_)
          refine hAt 3 _ _ _ _ _ _ ?_
          exact fin3 c55 c113
        · have c113 : ¬ (lo ≤ pV b i0 k ∧ (pV b i0 k : Int) ≤ hi) := of_decide_eq_false (bI_eq hq)
          clear hq
          refine hAt 6 _ _ _ _ _ _ ?_
          refine s_wrong0 (by rw [rI_wI, if_neg (by omega)]; exact r4) ?_
          refine Eq.mpr (congrArg (fun xq : Int32 => At 126 [.ref (108), .int (nI lo), .int (iZ hi), .int (nI i0), .int (nI (pV b i0 k))] [.int xq] (wI (wI (wI ρ 108 4 (nI (i0 + k))) 108 5 (nI 2)) 108 6 (nI i0)) 0 0) (show rI (wI (wI (wI ρ 108 4 (nI (i0 + k))) 108 5 (nI 2)) 108 6 (nI i0)) 108 5 = nI 2 from (by rw [rI_wI, if_neg (by omega), rI_wI, if_pos ⟨rfl, rfl⟩]))) ?_
          refine hAt 1 _ _ _ _ _ _ ?_
          refine And.intro (fun _ => ?_) (fun hq => absurd hq (by decide))
          refine hAt 2 _ _ _ _ _ _ ?_
          exact fin2 c55 c113
      · have c55 : 48 ≤ zb b n (i0 + k) ∧ zb b n (i0 + k) ≤ 57 := of_decide_eq_true (bI_ne hq)
        clear hq
        obtain ⟨g1, g2⟩ := zb_p (b := b) (n := n) (k := i0 + k) (z := 48) (by omega) c55.1
        have hb1 := hb (i0 + k) g1
        refine hAt 6 _ _ _ _ _ _ ?_
        refine Eq.mpr (congrArg (fun xq : Int32 => At 68 [.ref (108), .int (nI lo), .int (iZ hi), .int (nI i0), .int (nI (pV b i0 k))] [.int xq, .ref (108), .int (nI 10 * (nI (pV b i0 k)))] (wI ρ 108 4 (nI (i0 + k))) 0 0) (show rI (wI ρ 108 4 (nI (i0 + k))) 108 4 = nI (i0 + k) from (by rw [rI_wI, if_pos ⟨rfl, rfl⟩]))) ?_
        refine hAt 8 _ _ _ _ _ _ ?_
        refine s_byteAtN hn hB2 g1 ?_
        refine And.intro (fun hq => ?_) (fun hq => ?_)
        · have c81 : (10 * (pV b i0 k) + (b (i0 + k))) - 48 ≤ 100000 := (leN (a := (10 * (pV b i0 k) + (b (i0 + k))) - 48) (b := 100000) (sbE (adE (mlE rfl rfl) rfl) rfl (by omega)) rfl (by omega) (by omega)).mp hq
          clear hq
          refine hAt 5 _ _ _ _ _ _ ?_
          refine Eq.mpr (congrArg (fun xq : Int32 => At 98 [.ref (108), .int (nI lo), .int (iZ hi), .int (nI i0), .int (((nI 10 * (nI (pV b i0 k))) + (nI (b (i0 + k)))) - nI 48)] [.int xq, .ref (108)] (wI ρ 108 4 (nI (i0 + k))) 0 0) (show rI (wI ρ 108 4 (nI (i0 + k))) 108 4 = nI (i0 + k) from (by rw [rI_wI, if_pos ⟨rfl, rfl⟩]))) ?_
          refine hAt 3 _ _ _ _ _ _ ?_
          refine Eq.mpr (congrArg (fun xq : Mem => At 103 [.ref (108), .int (nI lo), .int (iZ hi), .int (nI i0), .int (((nI 10 * (nI (pV b i0 k))) + (nI (b (i0 + k)))) - nI 48)] [] xq 0 0) (congrArg (fun z => wI (wI ρ 108 4 (nI (i0 + k))) 108 4 z) (adE rfl rfl))) ?_
          refine hAt 1 _ _ _ _ _ _ ?_
          refine Eq.mpr (congrArg (fun xq : Int32 => At 44 [.ref (108), .int (nI lo), .int (iZ hi), .int (nI i0), .int xq] [] (wI (wI ρ 108 4 (nI (i0 + k))) 108 4 (nI (i0 + k + 1))) 0 0) (show ((nI 10 * (nI (pV b i0 k))) + (nI (b (i0 + k)))) - nI 48 = nI ((10 * (pV b i0 k) + (b (i0 + k))) - 48) from (sbE (adE (mlE rfl rfl) rfl) rfl (by omega)))) ?_
          have z := ih (by omega) (by rw [hE, pE_s g1 (decide_eq_true (by omega))]; rfl) hne
          rw [← wI_wI ρ 108 4 (nI (i0 + k)) (nI (i0 + (k + 1))), show pV b i0 (k + 1) = 10 * pV b i0 k + b (i0 + k) - 48 by rw [pV, ← Nat.add_sub_assoc (by omega), Nat.min_eq_left c81]] at z
          exact z
        · have c81 : 100000 < (10 * (pV b i0 k) + (b (i0 + k))) - 48 := Nat.lt_of_not_le (fun zq => hq ((leN (a := (10 * (pV b i0 k) + (b (i0 + k))) - 48) (b := 100000) (sbE (adE (mlE rfl rfl) rfl) rfl (by omega)) rfl (by omega) (by omega)).mpr zq))
          clear hq
          refine hAt 6 _ _ _ _ _ _ ?_
          refine Eq.mpr (congrArg (fun xq : Int32 => At 98 [.ref (108), .int (nI lo), .int (iZ hi), .int (nI i0), .int (nI 100000)] [.int xq, .ref (108)] (wI ρ 108 4 (nI (i0 + k))) 0 0) (show rI (wI ρ 108 4 (nI (i0 + k))) 108 4 = nI (i0 + k) from (by rw [rI_wI, if_pos ⟨rfl, rfl⟩]))) ?_
          refine hAt 3 _ _ _ _ _ _ ?_
          refine Eq.mpr (congrArg (fun xq : Mem => At 103 [.ref (108), .int (nI lo), .int (iZ hi), .int (nI i0), .int (nI 100000)] [] xq 0 0) (congrArg (fun z => wI (wI ρ 108 4 (nI (i0 + k))) 108 4 z) (adE rfl rfl))) ?_
          refine hAt 1 _ _ _ _ _ _ ?_
          have z := ih (by omega) (by rw [hE, pE_s g1 (decide_eq_true (by omega))]; rfl) hne
          rw [← wI_wI ρ 108 4 (nI (i0 + k)) (nI (i0 + (k + 1))), show pV b i0 (k + 1) = 100000 by rw [pV, ← Nat.add_sub_assoc (by omega), Nat.min_eq_right (by omega)]] at z
          exact z
    have hz := zb_b hb i0
    have hB3 : rmB b n ρ := hBr
    have hB2 : rmB b n (wI σ 108 4 (nI i0)) := by rw [← eρ]; exact hBr
    have none : ¬ (48 ≤ zb b n i0 ∧ zb b n i0 ≤ 57) → At 44 [.ref 108, .int (nI lo), .int (iZ hi), .int (nI i0), .int (nI 0)] [] (wI (wI ρ 108 5 (nI 1)) 108 6 (nI i0)) 0 0 := by
      intro q
      have e : nE b n s.1 = i0 := by
        unfold nE; rw [← ei, pE_e (fun z => q (by have := of_decide_eq_true z.2; rw [zb_in z.1]; omega))]
      have g := nm_1 (b := b) (n := n) (lo := lo) (hi := hi) h0 (by rw [e, ei])
      have hB4 : rmB b n (wI (wI ρ 108 5 (nI 1)) 108 6 (nI i0)) := ⟨hBr.1, fun j hj => hBr.2 j hj⟩
      have last : ∀ x, P (some (.int x)) (wI (wI ρ 108 5 (nI 1)) 108 6 (nI i0)) := fun x => fin _ _ (fr3 (fr3 r1 (by omega) _) (by omega) _) r2 (by rw [e, eρ]; rfl) (by rw [g]; rfl) (by rw [g, ← ei]; rfl) (fun z => by rw [g] at z; cases z)
      refine hAt 3 _ _ _ _ _ _ ?_
      refine Eq.mpr (congrArg (fun xq : Int32 => At 49 [.ref (108), .int (nI lo), .int (iZ hi), .int (nI i0), .int (nI 0)] [.int xq, .ref (108)] (wI (wI ρ 108 5 (nI 1)) 108 6 (nI i0)) 0 0) (show rI (wI (wI ρ 108 5 (nI 1)) 108 6 (nI i0)) 108 4 = nI i0 from (by rw [rI_wI, if_neg (by omega), rI_wI, if_neg (by omega)]; exact (show rI ρ 108 4 = nI i0 by rw [eρ]; rfl)))) ?_
      refine hAt 3 _ _ _ _ _ _ ?_
      refine s_byteAt hn hB4 (by omega) ?_
      refine s_isDigit hz ?_
      refine And.intro (fun hq => ?_) (fun hq => ?_)
      · have c55 : ¬ (48 ≤ zb b n i0 ∧ zb b n i0 ≤ 57) := of_decide_eq_false (bI_eq hq)
        clear hq
        refine hAt 5 _ _ _ _ _ _ ?_
        refine s_in ?_
        rw [in_z (show 0 ≤ 100000 by decide) hlo hhi]
        refine And.intro (fun hq => ?_) (fun hq => ?_)
        · have c113 : lo ≤ 0 ∧ ((0 : Nat) : Int) ≤ hi := of_decide_eq_true (bI_ne hq)
          clear hq
          refine hAt 2 _ _ _ _ _ _ ?_
          refine Eq.mpr (congrArg (fun xq : Int32 => At 126 [.ref (108), .int (nI lo), .int (iZ hi), .int (nI i0), .int (nI 0)] [.int xq] (wI (wI ρ 108 5 (nI 1)) 108 6 (nI i0)) 0 0) (show rI (wI (wI ρ 108 5 (nI 1)) 108 6 (nI i0)) 108 5 = nI 1 from (by rw [rI_wI, if_neg (by omega), rI_wI, if_pos ⟨rfl, rfl⟩]))) ?_
          refine hAt 1 _ _ _ _ _ _ ?_
          refine And.intro (fun _ => ?_) (fun hq => absurd hq (by decide))
          refine hAt 2 _ _ _ _ _ _ ?_
          exact last _
        · have c113 : ¬ (lo ≤ 0 ∧ ((0 : Nat) : Int) ≤ hi) := of_decide_eq_false (bI_eq hq)
          clear hq
          refine hAt 6 _ _ _ _ _ _ ?_
          refine s_wrong1 (f := 1) (by rw [rI_wI, if_neg (by omega), rI_wI, if_pos ⟨rfl, rfl⟩]) (by decide) ?_
          refine Eq.mpr (congrArg (fun xq : Int32 => At 126 [.ref (108), .int (nI lo), .int (iZ hi), .int (nI i0), .int (nI 0)] [.int xq] (wI (wI ρ 108 5 (nI 1)) 108 6 (nI i0)) 0 0) (show rI (wI (wI ρ 108 5 (nI 1)) 108 6 (nI i0)) 108 5 = nI 1 from (by rw [rI_wI, if_neg (by omega), rI_wI, if_pos ⟨rfl, rfl⟩]))) ?_
          refine hAt 1 _ _ _ _ _ _ ?_
          refine And.intro (fun _ => ?_) (fun hq => absurd hq (by decide))
          refine hAt 2 _ _ _ _ _ _ ?_
          exact last _
      · have c55 : 48 ≤ zb b n i0 ∧ zb b n i0 ≤ 57 := of_decide_eq_true (bI_ne hq)
        clear hq
        exact absurd c55 q
    refine hAt 2 _ _ _ _ _ _ ?_
    refine Eq.mpr (congrArg (fun xq : Int32 => At 4 [.ref (108), .int (nI lo), .int (iZ hi), junk, junk] [.int xq] σ 0 0) (show rI σ 108 5 = nI 0 from (h4'.trans (congrArg nI h0)))) ?_
    refine hAt 1 _ _ _ _ _ _ ?_
    refine And.intro (fun _ => ?_) (fun hq => absurd hq (by decide))
    refine hAt 4 _ _ _ _ _ _ ?_
    refine s_blanks hn hb hB h3 ha ?_
    rw [← ei]
    refine Eq.mpr (congrArg (fun xq : Int32 => At 17 [.ref (108), .int (nI lo), .int (iZ hi), junk, junk] [.int xq] (wI σ 108 4 (nI i0)) 0 0) (show rI (wI σ 108 4 (nI i0)) 108 4 = nI i0 from (by rw [rI_wI, if_pos ⟨rfl, rfl⟩]))) ?_
    refine hAt 6 _ _ _ _ _ _ ?_
    refine Eq.mpr (congrArg (fun xq : Int32 => At 26 [.ref (108), .int (nI lo), .int (iZ hi), .int (nI i0), .int (nI 0)] [.int xq, .ref (108)] (wI σ 108 4 (nI i0)) 0 0) (show rI (wI σ 108 4 (nI i0)) 108 4 = nI i0 from (by rw [rI_wI, if_pos ⟨rfl, rfl⟩]))) ?_
    refine hAt 3 _ _ _ _ _ _ ?_
    refine s_byteAt hn hB2 (by omega) ?_
    refine s_isDigit hz ?_
    refine And.intro (fun hq => ?_) (fun hq => ?_)
    · have c32 : 48 ≤ zb b n i0 ∧ zb b n i0 ≤ 57 := of_decide_eq_true (bI_ne hq)
      clear hq
      obtain ⟨g1, g2⟩ := zb_p (b := b) (n := n) (k := i0) (z := 48) (by omega) c32.1
      have z := loop 0 (Nat.zero_le _) (by rw [Nat.add_zero, ei]; rfl) (by
        have : nE b n s.1 = pE isDg b n (i0 + 1) := by unfold nE; rw [← ei, pE_s g1 (decide_eq_true (by omega))]
        have := pE_ge isDg b n (i0 + 1)
        omega)
      rw [Nat.add_zero, wI_self (by rw [eρ]; rfl), eρ] at z
      exact z
    · have c32 : ¬ (48 ≤ zb b n i0 ∧ zb b n i0 ≤ 57) := of_decide_eq_false (bI_eq hq)
      clear hq
      refine hAt 4 _ _ _ _ _ _ ?_
      refine Eq.mpr (congrArg (fun xq : Int32 => At 41 [.ref (108), .int (nI lo), .int (iZ hi), .int (nI i0), .int (nI 0)] [.int xq, .int (nI 1), .ref (108)] (wI σ 108 4 (nI i0)) 0 0) (show rI (wI σ 108 4 (nI i0)) 108 4 = nI i0 from (by rw [rI_wI, if_pos ⟨rfl, rfl⟩]))) ?_
      refine hAt 1 _ _ _ _ _ _ ?_
      refine s_wrong0 (by rw [rI_wI, if_neg (by omega)]; exact h4'.trans (congrArg nI h0)) ?_
      have z := none c32
      rw [eρ] at z
      exact z
  · have e := nmS_f (b := b) (n := n) (lo := lo) (hi := hi) h0
    have z := fun x => hP σ x (fun _ _ _ => rfl) rfl (by rw [e]; exact ⟨hB, ⟨a, ha, h3, h3'⟩, ⟨h4, h4'⟩, h5⟩) (fun q => by rw [e] at q; exact absurd q h0)
    refine hAt 2 _ _ _ _ _ _ ?_
    refine Eq.mpr (congrArg (fun xq : Int32 => At 4 [.ref (108), .int (nI lo), .int (iZ hi), junk, junk] [.int xq] σ 0 0) (show rI σ 108 5 = nI s.2.1 from h4')) ?_
    refine hAt 1 _ _ _ _ _ _ ?_
    refine And.intro (fun hq => ?_) (fun hq => ?_)
    · have c4 : s.2.1 = 0 := (eqN (a := s.2.1) (b := 0) rfl rfl (by omega) (by omega)).mp hq
      clear hq
      exact absurd c4 (by omega)
    · have c4 : ¬ s.2.1 = 0 := fun zq => hq ((eqN (a := s.2.1) (b := 0) rfl rfl (by omega) (by omega)).mpr zq)
      clear hq
      refine hAt 2 _ _ _ _ _ _ ?_
      exact z _
theorem s_closes {s : Ps} (hn : n ≤ 600) (hb : ∀ j, j < n → b j < 256) (h : rmC b n s σ) (hP : ∀ τ, (∀ a j, ¬ r3 a j → rI τ a j = rI σ a j) → τ.2 = σ.2 → rmC b n (enA b n s) τ → P none τ) : Ret w true (d + 3) 0 0 m_Mo_closes [.ref 108] σ P X := by
  have h9 := h
  obtain ⟨hB, ⟨a, ha, h3, h3'⟩, ⟨h4, h4'⟩, h5⟩ := h
  refine meth_ok k_Mo_closes q_Mo_closes rfl fun At hAt => ?_
  by_cases h0 : s.2.1 = 0
  · obtain rfl : a = s.1 := h3' h0
    have b2 : bS b n s.1 ≤ n := pE_le isBl b n s.1 ha
    obtain ⟨i, ei⟩ : ∃ i, i = bS b n s.1 := ⟨_, rfl⟩
    rw [← ei] at b2
    have hz := zb_b hb i
    have hB2 : rmB b n (wI σ 108 4 (nI i)) := ⟨hB.1, fun j hj => hB.2 j hj⟩
    have bad : ¬ zb b n i = 59 → P none (wI (wI (wI σ 108 4 (nI i)) 108 5 (nI 1)) 108 6 (nI i)) := fun q => by
      have e : enA b n s = (i, 1, i) := by unfold enA; rw [if_neg (by simpa using h0), ← ei, if_neg (fun z => q (by rw [zb_in z.1, z.2]; rfl))]
      refine hP _ (fr3 (fr3 (fr3 (fun _ _ _ => rfl) (by omega) _) (by omega) _) (by omega) _) rfl ?_
      rw [e]
      exact ⟨⟨hB.1, hB.2⟩, ⟨i, b2, rfl, fun _ => rfl⟩, ⟨show 1 ≤ 4 by decide, rfl⟩, rfl⟩
    have good : zb b n i = 59 → P none (wI (wI σ 108 4 (nI i)) 108 4 (nI (i + 1))) := fun q => by
      obtain ⟨g1, g2⟩ := zb_p (b := b) (n := n) (k := i) (z := 59) (by omega) (by omega)
      have e : enA b n s = (i + 1, 0, s.2.2) := by unfold enA; rw [if_neg (by simpa using h0), ← ei, if_pos ⟨g1, by omega⟩]
      refine hP _ (fr3 (fr3 (fun _ _ _ => rfl) (by omega) _) (by omega) _) rfl ?_
      rw [e]
      exact ⟨⟨hB.1, hB.2⟩, ⟨i + 1, g1, rfl, fun _ => rfl⟩, ⟨Nat.zero_le _, h4'.trans (congrArg nI h0)⟩, h5.trans (by rw [plI, if_pos h0]; rfl)⟩
    refine hAt 2 _ _ _ _ _ _ ?_
    refine Eq.mpr (congrArg (fun xq : Int32 => At 4 [.ref (108)] [.int xq] σ 0 0) (show rI σ 108 5 = nI 0 from (h4'.trans (congrArg nI h0)))) ?_
    refine hAt 1 _ _ _ _ _ _ ?_
    refine And.intro (fun _ => ?_) (fun hq => absurd hq (by decide))
    refine hAt 5 _ _ _ _ _ _ ?_
    refine s_blanks hn hb hB h3 ha ?_
    rw [← ei]
    refine Eq.mpr (congrArg (fun xq : Int32 => At 17 [.ref (108)] [.int xq, .ref (108)] (wI σ 108 4 (nI i)) 0 0) (show rI (wI σ 108 4 (nI i)) 108 4 = nI i from (by rw [rI_wI, if_pos ⟨rfl, rfl⟩]))) ?_
    refine hAt 3 _ _ _ _ _ _ ?_
    refine s_byteAt hn hB2 (by omega) ?_
    refine And.intro (fun hq => ?_) (fun hq => ?_)
    · have c22 : ¬ (zb b n i : Int) = 59 := fun zq => hq ((eqZ (a := zb b n i) (b := 59) rfl (ntZ rfl) (by omega) (by omega) (by omega) (by omega)).mpr zq)
      clear hq
      refine hAt 4 _ _ _ _ _ _ ?_
      refine Eq.mpr (congrArg (fun xq : Int32 => At 44 [.ref (108)] [.int xq, .int (nI 1), .ref (108)] (wI σ 108 4 (nI i)) 0 0) (show rI (wI σ 108 4 (nI i)) 108 4 = nI i from (by rw [rI_wI, if_pos ⟨rfl, rfl⟩]))) ?_
      refine hAt 2 _ _ _ _ _ _ ?_
      refine s_wrong0 (by rw [rI_wI, if_neg (by omega)]; exact h4'.trans (congrArg nI h0)) ?_
      exact bad (by omega)
    · have c22 : (zb b n i : Int) = 59 := (eqZ (a := zb b n i) (b := 59) rfl (ntZ rfl) (by omega) (by omega) (by omega) (by omega)).mp hq
      clear hq
      refine hAt 3 _ _ _ _ _ _ ?_
      refine Eq.mpr (congrArg (fun xq : Int32 => At 30 [.ref (108)] [.int xq, .ref (108)] (wI σ 108 4 (nI i)) 0 0) (show rI (wI σ 108 4 (nI i)) 108 4 = nI i from (by rw [rI_wI, if_pos ⟨rfl, rfl⟩]))) ?_
      refine hAt 3 _ _ _ _ _ _ ?_
      refine Eq.mpr (congrArg (fun xq : Mem => At 35 [.ref (108)] [] xq 0 0) (congrArg (fun z => wI (wI σ 108 4 (nI i)) 108 4 z) (adE rfl rfl))) ?_
      refine hAt 2 _ _ _ _ _ _ ?_
      exact good (by omega)
  · have e : enA b n s = s := if_pos h0
    refine hAt 2 _ _ _ _ _ _ ?_
    refine Eq.mpr (congrArg (fun xq : Int32 => At 4 [.ref (108)] [.int xq] σ 0 0) (show rI σ 108 5 = nI s.2.1 from h4')) ?_
    refine hAt 1 _ _ _ _ _ _ ?_
    refine And.intro (fun hq => ?_) (fun hq => ?_)
    · have c4 : s.2.1 = 0 := (eqN (a := s.2.1) (b := 0) rfl rfl (by omega) (by omega)).mp hq
      clear hq
      exact absurd c4 (by omega)
    · have c4 : ¬ s.2.1 = 0 := fun zq => hq ((eqN (a := s.2.1) (b := 0) rfl rfl (by omega) (by omega)).mpr zq)
      clear hq
      refine hAt 1 _ _ _ _ _ _ ?_
      exact hP σ (fun _ _ _ => rfl) rfl (by rw [e]; exact h9)
end RMA
