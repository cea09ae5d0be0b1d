/-! CLAUSES on the model's side -/
/-- what a clause may change -/
def trQ (a j : Nat) : Prop := (a = 108 ∧ 4 ≤ j ∧ j ≤ 7) ∨ a = 110 ∨ (113 ≤ a ∧ a ≤ 121) ∨ (133 ≤ a ∧ a ≤ 140) ∨ (151 ≤ a ∧ a ≤ 162) ∨ (177 ≤ a ∧ a ≤ 179)
def frQ (σ τ : Mem) : Prop := (∀ a j, ¬ trQ a j → rI τ a j = rI σ a j) ∧ τ.2 = σ.2
theorem skQ.st0 {σ τ : Mem} {k : Sk} {v : Nat} (h : skQ σ k) (u : ∀ a j, 110 ≤ a → ¬ (a = 110 ∧ j = 1) → rI τ a j = rI σ a j) (h1 : rI τ 110 1 = nI v) (b2 : kT k 2 ≤ 8) (b3 : kT k 3 ≤ 12) (b4 : kT k 4 ≤ 3) (b10 : kT k 10 ≤ 9) : skQ τ (kSet k 1 v) := by
  obtain ⟨k1, k2, k3, k4, k5⟩ := h
  have e : ∀ j, j ≠ 1 → kT (kSet k 1 v) j = kT k j := fun j q => if_neg q
  refine ⟨fun j hj => ?_, fun j hj l hl => ?_, fun j hj l hl => ?_, fun j hj l hl => ?_, fun j hj l hl => ?_⟩
  · by_cases q : j = 1
    · subst q; exact h1.trans (congrArg nI (show v = if 1 = 1 then v else kT k 1 by rw [if_pos rfl]))
    · exact (u _ _ (by omega) (by omega)).trans ((k1 j hj).trans (congrArg nI (e j q).symm))
  · rw [e 10 (by omega)] at hj; exact (u _ _ (by omega) (by omega)).trans (k2 j hj l hl)
  · rw [e 2 (by omega)] at hj; exact (u _ _ (by omega) (by omega)).trans (k3 j hj l hl)
  · rw [e 3 (by omega)] at hj; exact (u _ _ (by omega) (by omega)).trans (k4 j hj l hl)
  · rw [e 4 (by omega)] at hj; exact (u _ _ (by omega) (by omega)).trans (k5 j hj l hl)
section RME
variable {w : Wd} {d : Nat} {σ : Mem} {b : By} {n : Nat} {k : Sk} {s : Ps} {P : Option AV → Mem → Prop} {X : Nat → Mem → Prop}
theorem s_mostOf2 (hP : P (some (.int (nI 8))) σ) : Ret w true (d + 1) 0 0 m_Mo_mostOf [.int (nI 2)] σ P X := by
  refine meth_ok k_Mo_mostOf q_Mo_mostOf rfl fun At hAt => ?_
  refine hAt 3 _ _ _ _ _ _ ?_
  refine And.intro (fun hq => absurd hq (by decide)) (fun _ => ?_)
  refine hAt 3 _ _ _ _ _ _ ?_
  exact hP
theorem s_mostOf3 (hP : P (some (.int (nI 12))) σ) : Ret w true (d + 1) 0 0 m_Mo_mostOf [.int (nI 3)] σ P X := by
  refine meth_ok k_Mo_mostOf q_Mo_mostOf rfl fun At hAt => ?_
  refine hAt 3 _ _ _ _ _ _ ?_
  refine And.intro (fun _ => ?_) (fun hq => absurd hq (by decide))
  refine hAt 3 _ _ _ _ _ _ ?_
  refine And.intro (fun hq => absurd hq (by decide)) (fun _ => ?_)
  refine hAt 3 _ _ _ _ _ _ ?_
  exact hP
theorem s_mostOf4 (hP : P (some (.int (nI 3))) σ) : Ret w true (d + 1) 0 0 m_Mo_mostOf [.int (nI 4)] σ P X := by
  refine meth_ok k_Mo_mostOf q_Mo_mostOf rfl fun At hAt => ?_
  refine hAt 3 _ _ _ _ _ _ ?_
  refine And.intro (fun _ => ?_) (fun hq => absurd hq (by decide))
  refine hAt 3 _ _ _ _ _ _ ?_
  refine And.intro (fun _ => ?_) (fun hq => absurd hq (by decide))
  refine hAt 3 _ _ _ _ _ _ ?_
  refine And.intro (fun hq => absurd hq (by decide)) (fun _ => ?_)
  refine hAt 3 _ _ _ _ _ _ ?_
  exact hP
theorem s_mostOf10 (hP : P (some (.int (nI 9))) σ) : Ret w true (d + 1) 0 0 m_Mo_mostOf [.int (nI 10)] σ P X := by
  refine meth_ok k_Mo_mostOf q_Mo_mostOf rfl fun At hAt => ?_
  refine hAt 3 _ _ _ _ _ _ ?_
  refine And.intro (fun _ => ?_) (fun hq => absurd hq (by decide))
  refine hAt 3 _ _ _ _ _ _ ?_
  refine And.intro (fun _ => ?_) (fun hq => absurd hq (by decide))
  refine hAt 3 _ _ _ _ _ _ ?_
  refine And.intro (fun _ => ?_) (fun hq => absurd hq (by decide))
  refine hAt 2 _ _ _ _ _ _ ?_
  exact hP
theorem s_cl_none {c : Nat} (hc : c ≤ 60) (hn : n ≤ 600) (hb : ∀ j, j < n → b j < 256) (hR : rmC b n s σ) (h0 : s.2.1 = 0) (hs : bS b n s.1 = s.1) (h7 : rI σ 108 7 = nI c) (hQ : skQ σ k) (hv : VS k) (hw : woA b n s.1 = none) (hP : ∀ τ, frQ σ τ → rmC b n (clS b n c s.1 k) τ → ((clS b n c s.1 k).2.1 = 0 → rI τ 108 7 = nI (c + 1) ∧ skQ τ (clK b n c s.1 k)) → P none τ) : Ret w true (d + 6) 0 0 m_Mo_clause [.ref 108] σ P X := by
  obtain ⟨h3, hi⟩ := hR.at0 h0
  obtain ⟨hB, -, ⟨-, h5⟩, h6⟩ := hR
  have h5 : rI σ 108 5 = nI 0 := h5.trans (congrArg nI h0)
  have h6 : rI σ 108 6 = -1 := h6.trans (if_pos h0)
  have vs := hv
  obtain ⟨v1, v2, v3, v4, v5, v6, v7, v8, v9, v10, v11, -⟩ := vs
  have hW : kT k 0 ≤ 8 ∧ kT k 1 ≤ 8 := ⟨v1.2, v2.2⟩
  have bad : ∀ f, f ≠ 0 ∧ f ≤ 4 → clS b n c s.1 k = (0, f, s.1) → P none (wI (wI σ 108 5 (nI f)) 108 6 (nI s.1)) := fun f hf he => by
    refine hP _ ⟨fun a j q => by unfold trQ at q; rw [rI_wI, if_neg (by omega), rI_wI, if_neg (by omega)], rfl⟩ ?_ (fun z => ?_)
    · rw [he]; exact ⟨⟨hB.1, hB.2⟩, ⟨s.1, hi, h3, fun z => absurd z hf.1⟩, ⟨hf.2, rfl⟩, by rw [plI, if_neg hf.1]; rfl⟩
    · rw [he] at z; exact absurd z hf.1
  have hcl : clS b n c s.1 k = (0, 1, s.1) := by unfold clS; rw [hw]
  have hk : kdI b n s.1 = -1 := by unfold kdI; rw [hw]
  refine meth_ok k_Mo_clause q_Mo_clause rfl fun At hAt => ?_
  refine hAt 8 _ _ _ _ _ _ ?_
  refine s_kindHere hn hb hB h3 hi hs h5 ?_
  rw [hk]
  refine s_in ?_
  rw [show decide (¬ (-1 : Int32) < nI 2 ∧ ¬ nI 4 < (-1 : Int32)) = false from by decide]
  refine And.intro (fun hq => absurd hq (by decide)) (fun _ => ?_)
  refine hAt 3 _ _ _ _ _ _ ?_
  refine And.intro (fun hq => ?_) (fun hq => ?_)
  · have c17 : ¬ (-1 : Int) = 10 := fun zq => hq ((eqZ (a := -1) (b := 10) m1Z (ntZ rfl) (by omega) (by omega) (by omega) (by omega)).mpr zq)
    clear hq
    refine hAt 5 _ _ _ _ _ _ ?_
    refine And.intro (fun hq => absurd hq (by decide)) (fun _ => ?_)
    refine hAt 4 _ _ _ _ _ _ ?_
    refine Eq.mpr (congrArg (fun xq : Int32 => At 37 [.ref (108), .int (-1), .int (nI 0), junk, junk, junk] [.int xq, .int (nI 1), .ref (108)] σ 0 0) (show rI σ 108 4 = nI s.1 from h3)) ?_
    refine hAt 4 _ _ _ _ _ _ ?_
    refine s_wrong0 h5 ?_
    refine Eq.mpr (congrArg (fun xq : Int32 => At 105 [.ref (108), .int (-1), .int (nI 0), junk, junk, junk] [.int xq] (wI (wI σ 108 5 (nI 1)) 108 6 (nI s.1)) 0 0) (show rI (wI (wI σ 108 5 (nI 1)) 108 6 (nI s.1)) 108 5 = nI 1 from (by rw [rI_wI, if_neg (by omega), rI_wI, if_pos ⟨rfl, rfl⟩]))) ?_
    refine hAt 1 _ _ _ _ _ _ ?_
    refine And.intro (fun hq => absurd hq (by decide)) (fun _ => ?_)
    refine hAt 1 _ _ _ _ _ _ ?_
    exact bad 1 (by decide) hcl
  · have c17 : (-1 : Int) = 10 := (eqZ (a := -1) (b := 10) m1Z (ntZ rfl) (by omega) (by omega) (by omega) (by omega)).mp hq
    clear hq
    exact absurd c17 (by omega)
set_option maxRecDepth 4000 in
theorem s_cl_0 {c : Nat} (hc : c ≤ 60) (hn : n ≤ 600) (hb : ∀ j, j < n → b j < 256) (hR : rmC b n s σ) (h0 : s.2.1 = 0) (hs : bS b n s.1 = s.1) (h7 : rI σ 108 7 = nI c) (hQ : skQ σ k) (hv : VS k) (hw : woA b n s.1 = some 0) (hP : ∀ τ, frQ σ τ → rmC b n (clS b n c s.1 k) τ → ((clS b n c s.1 k).2.1 = 0 → rI τ 108 7 = nI (c + 1) ∧ skQ τ (clK b n c s.1 k)) → P none τ) : Ret w true (d + 6) 0 0 m_Mo_clause [.ref 108] σ P X := by
  obtain ⟨h3, hi⟩ := hR.at0 h0
  obtain ⟨hB, -, ⟨-, h5⟩, h6⟩ := hR
  have h5 : rI σ 108 5 = nI 0 := h5.trans (congrArg nI h0)
  have h6 : rI σ 108 6 = -1 := h6.trans (if_pos h0)
  have vs := hv
  obtain ⟨v1, v2, v3, v4, v5, v6, v7, v8, v9, v10, v11, -⟩ := vs
  have hW : kT k 0 ≤ 8 ∧ kT k 1 ≤ 8 := ⟨v1.2, v2.2⟩
  have bad : ∀ f, f ≠ 0 ∧ f ≤ 4 → clS b n c s.1 k = (0, f, s.1) → P none (wI (wI σ 108 5 (nI f)) 108 6 (nI s.1)) := fun f hf he => by
    refine hP _ ⟨fun a j q => by unfold trQ at q; rw [rI_wI, if_neg (by omega), rI_wI, if_neg (by omega)], rfl⟩ ?_ (fun z => ?_)
    · rw [he]; exact ⟨⟨hB.1, hB.2⟩, ⟨s.1, hi, h3, fun z => absurd z hf.1⟩, ⟨hf.2, rfl⟩, by rw [plI, if_neg hf.1]; rfl⟩
    · rw [he] at z; exact absurd z hf.1
  have hk : kdI b n s.1 = nI 0 := by unfold kdI; rw [hw]; rfl
  obtain ⟨e, ee⟩ : ∃ e, e = wE b n s.1 := ⟨_, rfl⟩
  have hen : e ≤ n := by rw [ee]; exact pE_le isLe b n _ hi
  have hcl : clS b n c s.1 k = if 60 ≤ c ∨ fuA k 0 = true then (0, 3, s.1) else if 0 = 0 ∧ 0 < c then (0, 4, s.1) else enA b n (rdS b n 0 (e, 0, 0) k) := by unfold clS; rw [hw, ee]
  have hck : clK b n c s.1 k = if 60 ≤ c ∨ fuA k 0 = true then k else if 0 = 0 ∧ 0 < c then k else rdK b n 0 (e, 0, 0) k := by unfold clK; rw [hw, ee]
  have good : ∀ τ, ¬ (60 ≤ c ∨ fuA k 0 = true) → ¬ (0 = 0 ∧ 0 < c) → frQ σ τ → rmC b n (enA b n (rdS b n 0 (e, 0, 0) k)) τ → ((rdS b n 0 (e, 0, 0) k).2.1 = 0 → rI τ 108 7 = nI (c + 1) ∧ skQ τ (rdK b n 0 (e, 0, 0) k)) → P none τ := fun τ g1 g2 g3 g4 g5 => by
    rw [if_neg g1, if_neg g2] at hcl hck
    refine hP τ g3 (by rw [hcl]; exact g4) (fun z => ?_)
    rw [hcl] at z
    rw [hck]
    exact g5 (enA_f0 z)
  refine meth_ok k_Mo_clause q_Mo_clause rfl fun At hAt => ?_
  have body : ¬ (60 ≤ c ∨ fuA k 0 = true) → ¬ (0 = 0 ∧ 0 < c) → ∀ ρ z3 z4 z5, (∀ a j, ¬ r3 a j → rI ρ a j = rI σ a j) → ρ.2 = σ.2 → rmC b n (e, 0, 0) ρ → At 148 [.ref 108, .int (nI 0), .int (nI 0), z3, z4, z5] [] ρ 0 0 := by
    intro g1 g2 ρ z3 z4 z5 u0 e0 y0
    refine hAt 3 _ _ _ _ _ _ ?_
    refine Eq.mpr (congrArg (fun xq : Int32 => At 153 [.ref (108), .int (nI 0), .int (nI 0), z3, z4, z5] [.int xq, .ref (108)] ρ 0 0) (show rI ρ 108 7 = nI c from ((u0 108 7 (by unfold r3; omega)).trans h7))) ?_
    refine hAt 3 _ _ _ _ _ _ ?_
    refine Eq.mpr (congrArg (fun xq : Mem => At 158 [.ref (108), .int (nI 0), .int (nI 0), z3, z4, z5] [] xq 0 0) (congrArg (fun z => wI ρ 108 7 z) (adE rfl rfl))) ?_
    refine hAt 4 _ _ _ _ _ _ ?_
    refine And.intro (aOKx (n := 11) (j := 0) rfl (by decide) rfl rfl (by omega) (by omega)) ?_
    refine Eq.mpr (congrArg (fun xq : Int32 => At 164 [.ref (108), .int (nI 0), .int (nI 0), z3, z4, z5] [.int xq] (wI ρ 108 7 (nI (c + 1))) 0 0) (show rI (wI ρ 108 7 (nI (c + 1))) 110 (nI 0).toNatClampNeg = nI (kT k 0) from (ldE rfl (by omega) (by rw [rI_wI, if_neg (by omega)]; exact ((u0 110 0 (by unfold r3; omega)).trans (hQ.1 0 (by omega))))))) ?_
    refine hAt 7 _ _ _ _ _ _ ?_
    refine And.intro (aOKx (n := 11) (j := 1) rfl (by decide) rfl rfl (by omega) (by omega)) ?_
    refine Eq.mpr (congrArg (fun xq : Int32 => At 173 [.ref (108), .int (nI 0), .int (nI 0), .int ((nI (kT k 0)) - nI 1), z4, z5] [.int xq] (wI ρ 108 7 (nI (c + 1))) 0 0) (show rI (wI ρ 108 7 (nI (c + 1))) 110 (nI 1).toNatClampNeg = nI (kT k 1) from (ldE rfl (by omega) (by rw [rI_wI, if_neg (by omega)]; exact ((u0 110 1 (by unfold r3; omega)).trans (hQ.1 1 (by omega))))))) ?_
    refine hAt 5 _ _ _ _ _ _ ?_
    refine And.intro (And.intro (fun _ => ?_) (And.intro (fun hq => absurd hq (by decide)) (And.intro (fun hq => absurd hq (by decide)) (And.intro (fun hq => absurd hq (by decide)) (And.intro (fun hq => absurd hq (by decide)) (And.intro (fun hq => absurd hq (by decide)) (And.intro (fun hq => absurd hq (by decide)) (And.intro (fun hq => absurd hq (by decide)) (And.intro (fun hq => absurd hq (by decide)) (And.intro (fun hq => absurd hq (by decide)) (And.intro (fun hq => absurd hq (by decide)) (trivial)))))))))))) (fun hq => absurd hq (by decide))
    refine hAt 6 _ _ _ _ _ _ ?_
    refine Eq.mpr (congrArg (fun xq : Int32 => At 245 [.ref (108), .int (nI 0), .int (nI 0), .int ((nI (kT k 0)) - nI 1), .int ((nI (kT k 1)) - nI 1), z5] [.int xq, .int (nI 2), .ref (108), .int (nI 0), .ref (110)] (wI ρ 108 7 (nI (c + 1))) 0 0) (ntZ rfl)) ?_
    refine hAt 2 _ _ _ _ _ _ ?_
    refine s_number hn hb (y0.fr (fun j hj => by rw [rI_wI, if_neg (by omega)]) (fun j => by rw [rI_wI, if_neg (by omega)])) (by omega) (by omega) (fun τ1 x1 u1 e1 y1 w1 => ?_)
    refine And.intro (aOKx (n := 11) (j := 0) rfl (by decide) rfl rfl (by omega) (by omega)) ?_
    refine Eq.mpr (congrArg (fun xq : Mem => At 249 [.ref (108), .int (nI 0), .int (nI 0), .int ((nI (kT k 0)) - nI 1), .int ((nI (kT k 1)) - nI 1), z5] [] xq 0 0) (wrE (σ := τ1) (q := 110) (p := rfl) (hj := by omega) (h := rfl))) ?_
    refine hAt 6 _ _ _ _ _ _ ?_
    refine Eq.mpr (congrArg (fun xq : Int32 => At 258 [.ref (108), .int (nI 0), .int (nI 0), .int ((nI (kT k 0)) - nI 1), .int ((nI (kT k 1)) - nI 1), z5] [.int xq, .int (nI 2), .ref (108), .int (nI 1), .ref (110)] (wI τ1 110 0 x1) 0 0) (ntZ rfl)) ?_
    refine hAt 2 _ _ _ _ _ _ ?_
    refine s_number hn hb (y1.fr (fun j hj => by rw [rI_wI, if_neg (by omega)]) (fun j => by rw [rI_wI, if_neg (by omega)])) (by omega) (by omega) (fun τ2 x2 u2 e2 y2 w2 => ?_)
    refine And.intro (aOKx (n := 11) (j := 1) rfl (by decide) rfl rfl (by omega) (by omega)) ?_
    refine Eq.mpr (congrArg (fun xq : Mem => At 262 [.ref (108), .int (nI 0), .int (nI 0), .int ((nI (kT k 0)) - nI 1), .int ((nI (kT k 1)) - nI 1), z5] [] xq 0 0) (wrE (σ := τ2) (q := 110) (p := rfl) (hj := by omega) (h := rfl))) ?_
    refine hAt 3 _ _ _ _ _ _ ?_
    refine And.intro (fun _ => ?_) (fun hq => absurd hq (by decide))
    refine hAt 3 _ _ _ _ _ _ ?_
    refine s_closes (s := rdS b n 0 (e, 0, 0) k) hn hb (y2.fr (fun j hj => by rw [rI_wI, if_neg (by omega)]) (fun j => by rw [rI_wI, if_neg (by omega)])) (fun τ9 u9 e9 y9 => ?_)
    refine good τ9 g1 g2 ⟨fun a j q => by unfold trQ at q; refine (u9 _ _ (by unfold r3; omega)).trans ?_; rw [rI_wI, if_neg (by omega)]; refine (u2 _ _ (by unfold r3; omega)).trans ?_; rw [rI_wI, if_neg (by omega)]; refine (u1 _ _ (by unfold r3; omega)).trans ?_; rw [rI_wI, if_neg (by omega)]; exact u0 _ _ (by unfold r3; omega), e9.trans (e2.trans (e1.trans (e0)))⟩ y9 (fun hf => ⟨(u9 108 7 (by unfold r3; omega)).trans (by rw [rI_wI, if_neg (by omega)]; exact ((u2 108 7 (by unfold r3; omega)).trans (by rw [rI_wI, if_neg (by omega)]; exact ((u1 108 7 (by unfold r3; omega)).trans (by rw [rI_wI, if_pos ⟨rfl, rfl⟩]))))), ?_⟩)
    have e1' := w1 (nmS_f0 hf)
    have e2' := w2 hf
    have hk1 : skQ (wI τ1 110 0 x1) (kSet k 0 (nmX b n (e, 0, 0) 2 8)) := hQ.st (i := 0) hv (by omega) (fun a j q1 q2 => by rw [rI_wI, if_neg (by omega)]; refine (u1 _ _ (by unfold r3; omega)).trans ?_; rw [rI_wI, if_neg (by omega)]; exact u0 _ _ (by unfold r3; omega)) (by rw [rI_wI, if_pos ⟨rfl, rfl⟩]; exact e1')
    have lo1 : 2 ≤ nmX b n (e, 0, 0) 2 8 := nmX_lo
    have hi1 : nmX b n (e, 0, 0) 2 8 ≤ 8 := nmX_le (by omega) (by omega)
    exact hk1.st0 (fun a j q1 q2 => (u9 a j (by unfold r3; omega)).trans (by rw [rI_wI, if_neg (by omega)]; exact u2 _ _ (by unfold r3; omega))) ((u9 110 1 (by unfold r3; omega)).trans (by rw [rI_wI, if_pos ⟨rfl, rfl⟩]; exact e2')) v3 v4 v5 v11
  have skip : ¬ (60 ≤ c ∨ fuA k 0 = true) → ¬ (0 = 0 ∧ 0 < c) → ∀ j, j ≤ n → wE b n j = e → ∀ z3 z4 z5, At 109 [.ref 108, .int (nI 0), .int (nI 0), z3, z4, z5] [] (wI σ 108 4 (nI j)) 0 0 := by
    intro g1 g2
    refine upto fun j hj ih => ?_
    intro hw z3 z4 z5
    have hz := zb_b hb j
    have hB2 : rmB b n (wI σ 108 4 (nI j)) := ⟨hB.1, fun j hj => hB.2 j hj⟩
    have out : ¬ (97 ≤ zb b n j ∧ zb b n j ≤ 122) → At 148 [.ref 108, .int (nI 0), .int (nI 0), z3, z4, z5] [] (wI σ 108 4 (nI j)) 0 0 := fun q => by
      have ej : j = e := by rw [← hw, wE, pE_e (fun z => q (by have := of_decide_eq_true z.2; rw [zb_in z.1]; omega))]
      rw [ej]
      exact body g1 g2 _ z3 z4 z5 (fr3 (fun _ _ _ => rfl) (by omega) _) rfl ⟨⟨hB.1, hB.2⟩, ⟨e, hen, rfl, fun _ => rfl⟩, ⟨Nat.zero_le _, h5⟩, h6⟩
    refine hAt 3 _ _ _ _ _ _ ?_
    refine Eq.mpr (congrArg (fun xq : Int32 => At 114 [.ref (108), .int (nI 0), .int (nI 0), z3, z4, z5] [.int xq, .ref (108)] (wI σ 108 4 (nI j)) 0 0) (show rI (wI σ 108 4 (nI j)) 108 4 = nI j from (by rw [rI_wI, if_pos ⟨rfl, rfl⟩]))) ?_
    refine hAt 3 _ _ _ _ _ _ ?_
    refine s_byteAt hn hB2 (by omega) ?_
    refine And.intro (fun hq => ?_) (fun hq => ?_)
    · have c119 : (zb b n j : Int) < 97 := (ltZ (a := zb b n j) (b := 97) rfl (ntZ rfl) (by omega) (by omega) (by omega) (by omega)).mp hq
      clear hq
      exact out (by omega)
    · have c119 : (97 : Int) ≤ (zb b n j : Int) := Int.not_lt.mp (fun zq => hq ((ltZ (a := zb b n j) (b := 97) rfl (ntZ rfl) (by omega) (by omega) (by omega) (by omega)).mpr zq))
      clear hq
      refine hAt 3 _ _ _ _ _ _ ?_
      refine Eq.mpr (congrArg (fun xq : Int32 => At 127 [.ref (108), .int (nI 0), .int (nI 0), z3, z4, z5] [.int xq, .ref (108)] (wI σ 108 4 (nI j)) 0 0) (show rI (wI σ 108 4 (nI j)) 108 4 = nI j from (by rw [rI_wI, if_pos ⟨rfl, rfl⟩]))) ?_
      refine hAt 3 _ _ _ _ _ _ ?_
      refine s_byteAt hn hB2 (by omega) ?_
      refine And.intro (fun hq => ?_) (fun hq => ?_)
      · have c132 : (122 : Int) < zb b n j := (ltZ (a := 122) (b := zb b n j) (ntZ rfl) rfl (by omega) (by omega) (by omega) (by omega)).mp hq
        clear hq
        exact out (by omega)
      · have c132 : (zb b n j : Int) ≤ (122 : Int) := Int.not_lt.mp (fun zq => hq ((ltZ (a := 122) (b := zb b n j) (ntZ rfl) rfl (by omega) (by omega) (by omega) (by omega)).mpr zq))
        clear hq
        refine hAt 3 _ _ _ _ _ _ ?_
        refine Eq.mpr (congrArg (fun xq : Int32 => At 140 [.ref (108), .int (nI 0), .int (nI 0), z3, z4, z5] [.int xq, .ref (108)] (wI σ 108 4 (nI j)) 0 0) (show rI (wI σ 108 4 (nI j)) 108 4 = nI j from (by rw [rI_wI, if_pos ⟨rfl, rfl⟩]))) ?_
        refine hAt 3 _ _ _ _ _ _ ?_
        refine Eq.mpr (congrArg (fun xq : Mem => At 145 [.ref (108), .int (nI 0), .int (nI 0), z3, z4, z5] [] xq 0 0) (congrArg (fun z => wI (wI σ 108 4 (nI j)) 108 4 z) (adE rfl rfl))) ?_
        refine hAt 1 _ _ _ _ _ _ ?_
        obtain ⟨q1, q2⟩ := zb_p (b := b) (n := n) (k := j) (z := 97) (by omega) c119
        have z := ih q1 (by rw [← hw]; exact (pE_s q1 (decide_eq_true (by omega))).symm) z3 z4 z5
        rw [← wI_wI σ 108 4 (nI j) (nI (j + 1))] at z
        exact z
  refine hAt 8 _ _ _ _ _ _ ?_
  refine s_kindHere hn hb hB h3 hi hs h5 ?_
  rw [hk]
  refine s_in ?_
  rw [show decide (¬ nI 0 < nI 2 ∧ ¬ nI 4 < nI 0) = false from by decide]
  refine And.intro (fun hq => absurd hq (by decide)) (fun _ => ?_)
  refine hAt 3 _ _ _ _ _ _ ?_
  refine And.intro (fun _ => ?_) (fun hq => absurd hq (by decide))
  refine hAt 5 _ _ _ _ _ _ ?_
  refine And.intro (fun hq => ?_) (fun hq => ?_)
  · have c28 : ¬ (0 : Int) = -1 := fun zq => hq ((eqZ (a := 0) (b := -1) (ntZ rfl) m1Z (by omega) (by omega) (by omega) (by omega)).mpr zq)
    clear hq
    refine hAt 2 _ _ _ _ _ _ ?_
    refine Eq.mpr (congrArg (fun xq : Int32 => At 47 [.ref (108), .int (nI 0), .int (nI 0), junk, junk, junk] [.int xq] σ 0 0) (show rI σ 108 7 = nI c from h7)) ?_
    refine hAt 2 _ _ _ _ _ _ ?_
    refine And.intro (fun hq => ?_) (fun hq => ?_)
    · have c49 : c = 60 := (eqN (a := c) (b := 60) rfl rfl (by omega) (by omega)).mp hq
      clear hq
      refine hAt 4 _ _ _ _ _ _ ?_
      refine Eq.mpr (congrArg (fun xq : Int32 => At 75 [.ref (108), .int (nI 0), .int (nI 0), junk, junk, junk] [.int xq, .int (nI 3), .ref (108)] σ 0 0) (show rI σ 108 4 = nI s.1 from h3)) ?_
      refine hAt 4 _ _ _ _ _ _ ?_
      refine s_wrong0 h5 ?_
      refine Eq.mpr (congrArg (fun xq : Int32 => At 105 [.ref (108), .int (nI 0), .int (nI 0), junk, junk, junk] [.int xq] (wI (wI σ 108 5 (nI 3)) 108 6 (nI s.1)) 0 0) (show rI (wI (wI σ 108 5 (nI 3)) 108 6 (nI s.1)) 108 5 = nI 3 from (by rw [rI_wI, if_neg (by omega), rI_wI, if_pos ⟨rfl, rfl⟩]))) ?_
      refine hAt 1 _ _ _ _ _ _ ?_
      refine And.intro (fun hq => absurd hq (by decide)) (fun _ => ?_)
      refine hAt 1 _ _ _ _ _ _ ?_
      exact bad 3 (by decide) (hcl.trans (if_pos (Or.inl (by omega))))
    · have c49 : ¬ c = 60 := fun zq => hq ((eqN (a := c) (b := 60) rfl rfl (by omega) (by omega)).mpr zq)
      clear hq
      refine hAt 2 _ _ _ _ _ _ ?_
      refine And.intro (fun _ => ?_) (fun hq => absurd hq (by decide))
      refine hAt 2 _ _ _ _ _ _ ?_
      refine And.intro (fun hq => absurd hq (by decide)) (fun _ => ?_)
      refine hAt 2 _ _ _ _ _ _ ?_
      refine Eq.mpr (congrArg (fun xq : Int32 => At 89 [.ref (108), .int (nI 0), .int (nI 0), junk, junk, junk] [.int xq] σ 0 0) (show rI σ 108 7 = nI c from h7)) ?_
      refine hAt 1 _ _ _ _ _ _ ?_
      refine And.intro (fun hq => ?_) (fun hq => ?_)
      · have c89 : c ≤ 0 := (leN (a := c) (b := 0) rfl rfl (by omega) (by omega)).mp hq
        clear hq
        refine hAt 2 _ _ _ _ _ _ ?_
        refine Eq.mpr (congrArg (fun xq : Int32 => At 105 [.ref (108), .int (nI 0), .int (nI 0), junk, junk, junk] [.int xq] σ 0 0) (show rI σ 108 5 = nI 0 from h5)) ?_
        refine hAt 1 _ _ _ _ _ _ ?_
        refine And.intro (fun _ => ?_) (fun hq => absurd hq (by decide))
        have z := skip (fun z => z.elim (fun z => by omega) (fun z => by cases z)) (fun z => by omega) s.1 hi (by rw [ee]) junk junk junk
        rw [wI_self h3] at z
        exact z
      · have c89 : 0 < c := Nat.lt_of_not_le (fun zq => hq ((leN (a := c) (b := 0) rfl rfl (by omega) (by omega)).mpr zq))
        clear hq
        refine hAt 4 _ _ _ _ _ _ ?_
        refine Eq.mpr (congrArg (fun xq : Int32 => At 98 [.ref (108), .int (nI 0), .int (nI 0), junk, junk, junk] [.int xq, .int (nI 4), .ref (108)] σ 0 0) (show rI σ 108 4 = nI s.1 from h3)) ?_
        refine hAt 3 _ _ _ _ _ _ ?_
        refine s_wrong0 h5 ?_
        refine Eq.mpr (congrArg (fun xq : Int32 => At 105 [.ref (108), .int (nI 0), .int (nI 0), junk, junk, junk] [.int xq] (wI (wI σ 108 5 (nI 4)) 108 6 (nI s.1)) 0 0) (show rI (wI (wI σ 108 5 (nI 4)) 108 6 (nI s.1)) 108 5 = nI 4 from (by rw [rI_wI, if_neg (by omega), rI_wI, if_pos ⟨rfl, rfl⟩]))) ?_
        refine hAt 1 _ _ _ _ _ _ ?_
        refine And.intro (fun hq => absurd hq (by decide)) (fun _ => ?_)
        refine hAt 1 _ _ _ _ _ _ ?_
        exact bad 4 (by decide) (hcl.trans ((if_neg (fun z => z.elim (fun z => by omega) (fun z => by cases z))).trans (if_pos ⟨rfl, by omega⟩)))
  · have c28 : (0 : Int) = -1 := (eqZ (a := 0) (b := -1) (ntZ rfl) m1Z (by omega) (by omega) (by omega) (by omega)).mp hq
    clear hq
    exact absurd c28 (by omega)
set_option maxRecDepth 4000 in
theorem s_cl_1 {c : Nat} (hc : c ≤ 60) (hn : n ≤ 600) (hb : ∀ j, j < n → b j < 256) (hR : rmC b n s σ) (h0 : s.2.1 = 0) (hs : bS b n s.1 = s.1) (h7 : rI σ 108 7 = nI c) (hQ : skQ σ k) (hv : VS k) (hw : woA b n s.1 = some 1) (hP : ∀ τ, frQ σ τ → rmC b n (clS b n c s.1 k) τ → ((clS b n c s.1 k).2.1 = 0 → rI τ 108 7 = nI (c + 1) ∧ skQ τ (clK b n c s.1 k)) → P none τ) : Ret w true (d + 6) 0 0 m_Mo_clause [.ref 108] σ P X := by
  obtain ⟨h3, hi⟩ := hR.at0 h0
  obtain ⟨hB, -, ⟨-, h5⟩, h6⟩ := hR
  have h5 : rI σ 108 5 = nI 0 := h5.trans (congrArg nI h0)
  have h6 : rI σ 108 6 = -1 := h6.trans (if_pos h0)
  have vs := hv
  obtain ⟨v1, v2, v3, v4, v5, v6, v7, v8, v9, v10, v11, -⟩ := vs
  have hW : kT k 0 ≤ 8 ∧ kT k 1 ≤ 8 := ⟨v1.2, v2.2⟩
  have bad : ∀ f, f ≠ 0 ∧ f ≤ 4 → clS b n c s.1 k = (0, f, s.1) → P none (wI (wI σ 108 5 (nI f)) 108 6 (nI s.1)) := fun f hf he => by
    refine hP _ ⟨fun a j q => by unfold trQ at q; rw [rI_wI, if_neg (by omega), rI_wI, if_neg (by omega)], rfl⟩ ?_ (fun z => ?_)
    · rw [he]; exact ⟨⟨hB.1, hB.2⟩, ⟨s.1, hi, h3, fun z => absurd z hf.1⟩, ⟨hf.2, rfl⟩, by rw [plI, if_neg hf.1]; rfl⟩
    · rw [he] at z; exact absurd z hf.1
  have hk : kdI b n s.1 = nI 10 := by unfold kdI; rw [hw]; rfl
  obtain ⟨e, ee⟩ : ∃ e, e = wE b n s.1 := ⟨_, rfl⟩
  have hen : e ≤ n := by rw [ee]; exact pE_le isLe b n _ hi
  have hcl : clS b n c s.1 k = if 60 ≤ c ∨ fuA k 1 = true then (0, 3, s.1) else if 1 = 0 ∧ 0 < c then (0, 4, s.1) else enA b n (rdS b n 1 (e, 0, 0) k) := by unfold clS; rw [hw, ee]
  have hck : clK b n c s.1 k = if 60 ≤ c ∨ fuA k 1 = true then k else if 1 = 0 ∧ 0 < c then k else rdK b n 1 (e, 0, 0) k := by unfold clK; rw [hw, ee]
  have good : ∀ τ, ¬ (60 ≤ c ∨ fuA k 1 = true) → ¬ (1 = 0 ∧ 0 < c) → frQ σ τ → rmC b n (enA b n (rdS b n 1 (e, 0, 0) k)) τ → ((rdS b n 1 (e, 0, 0) k).2.1 = 0 → rI τ 108 7 = nI (c + 1) ∧ skQ τ (rdK b n 1 (e, 0, 0) k)) → P none τ := fun τ g1 g2 g3 g4 g5 => by
    rw [if_neg g1, if_neg g2] at hcl hck
    refine hP τ g3 (by rw [hcl]; exact g4) (fun z => ?_)
    rw [hcl] at z
    rw [hck]
    exact g5 (enA_f0 z)
  refine meth_ok k_Mo_clause q_Mo_clause rfl fun At hAt => ?_
  have body : ¬ (60 ≤ c ∨ fuA k 1 = true) → ¬ (1 = 0 ∧ 0 < c) → ∀ ρ z3 z4 z5, (∀ a j, ¬ r3 a j → rI ρ a j = rI σ a j) → ρ.2 = σ.2 → rmC b n (e, 0, 0) ρ → At 148 [.ref 108, .int (nI 10), .int (nI 1), z3, z4, z5] [] ρ 0 0 := by
    intro g1 g2 ρ z3 z4 z5 u0 e0 y0
    have hlt : kT k 10 < 9 := Nat.lt_of_not_le (fun z => g1 (Or.inr (decide_eq_true z)))
    refine hAt 3 _ _ _ _ _ _ ?_
    refine Eq.mpr (congrArg (fun xq : Int32 => At 153 [.ref (108), .int (nI 10), .int (nI 1), z3, z4, z5] [.int xq, .ref (108)] ρ 0 0) (show rI ρ 108 7 = nI c from ((u0 108 7 (by unfold r3; omega)).trans h7))) ?_
    refine hAt 3 _ _ _ _ _ _ ?_
    refine Eq.mpr (congrArg (fun xq : Mem => At 158 [.ref (108), .int (nI 10), .int (nI 1), z3, z4, z5] [] xq 0 0) (congrArg (fun z => wI ρ 108 7 z) (adE rfl rfl))) ?_
    refine hAt 4 _ _ _ _ _ _ ?_
    refine And.intro (aOKx (n := 11) (j := 0) rfl (by decide) rfl rfl (by omega) (by omega)) ?_
    refine Eq.mpr (congrArg (fun xq : Int32 => At 164 [.ref (108), .int (nI 10), .int (nI 1), z3, z4, z5] [.int xq] (wI ρ 108 7 (nI (c + 1))) 0 0) (show rI (wI ρ 108 7 (nI (c + 1))) 110 (nI 0).toNatClampNeg = nI (kT k 0) from (ldE rfl (by omega) (by rw [rI_wI, if_neg (by omega)]; exact ((u0 110 0 (by unfold r3; omega)).trans (hQ.1 0 (by omega))))))) ?_
    refine hAt 7 _ _ _ _ _ _ ?_
    refine And.intro (aOKx (n := 11) (j := 1) rfl (by decide) rfl rfl (by omega) (by omega)) ?_
    refine Eq.mpr (congrArg (fun xq : Int32 => At 173 [.ref (108), .int (nI 10), .int (nI 1), .int ((nI (kT k 0)) - nI 1), z4, z5] [.int xq] (wI ρ 108 7 (nI (c + 1))) 0 0) (show rI (wI ρ 108 7 (nI (c + 1))) 110 (nI 1).toNatClampNeg = nI (kT k 1) from (ldE rfl (by omega) (by rw [rI_wI, if_neg (by omega)]; exact ((u0 110 1 (by unfold r3; omega)).trans (hQ.1 1 (by omega))))))) ?_
    refine hAt 5 _ _ _ _ _ _ ?_
    refine And.intro (And.intro (fun hq => absurd hq (by decide)) (And.intro (fun hq => absurd hq (by decide)) (And.intro (fun hq => absurd hq (by decide)) (And.intro (fun hq => absurd hq (by decide)) (And.intro (fun hq => absurd hq (by decide)) (And.intro (fun hq => absurd hq (by decide)) (And.intro (fun hq => absurd hq (by decide)) (And.intro (fun hq => absurd hq (by decide)) (And.intro (fun hq => absurd hq (by decide)) (And.intro (fun hq => absurd hq (by decide)) (And.intro (fun _ => ?_) (trivial)))))))))))) (fun hq => absurd hq (by decide))
    refine hAt 6 _ _ _ _ _ _ ?_
    refine And.intro (aOKx (n := 11) (j := 10) rfl (by decide) rfl rfl (by omega) (by omega)) ?_
    refine Eq.mpr (congrArg (fun xq : Int32 => At 423 [.ref (108), .int (nI 10), .int (nI 1), .int ((nI (kT k 0)) - nI 1), .int ((nI (kT k 1)) - nI 1), z5] [.int xq, .ref (112)] (wI ρ 108 7 (nI (c + 1))) 0 0) (show rI (wI ρ 108 7 (nI (c + 1))) 110 (nI 10).toNatClampNeg = nI (kT k 10) from (ldE rfl (by omega) (by rw [rI_wI, if_neg (by omega)]; exact ((u0 110 10 (by unfold r3; omega)).trans (hQ.1 10 (by omega))))))) ?_
    refine hAt 1 _ _ _ _ _ _ ?_
    refine And.intro (mx_r (q := 112) (n := 9) (k := 4) rfl rfl (show kT k 10 < 9 by omega)) (And.intro (Or.inl rfl) ?_)
    refine Eq.mpr (congrArg (fun xq : Nat => At 424 [.ref (108), .int (nI 10), .int (nI 1), .int ((nI (kT k 0)) - nI 1), .int ((nI (kT k 1)) - nI 1), z5] [.ref xq] (wI ρ 108 7 (nI (c + 1))) 0 0) (rwE rfl (by omega))) ?_
    refine hAt 6 _ _ _ _ _ _ ?_
    refine Eq.mpr (congrArg (fun xq : Int32 => At 432 [.ref (108), .int (nI 10), .int (nI 1), .int ((nI (kT k 0)) - nI 1), .int ((nI (kT k 1)) - nI 1), .ref (112 + 1 + (kT k 10))] [.int xq, .int (nI 0), .ref (108), .int (nI 0), .ref (112 + 1 + (kT k 10))] (wI ρ 108 7 (nI (c + 1))) 0 0) (ntZ rfl)) ?_
    refine hAt 2 _ _ _ _ _ _ ?_
    refine s_number hn hb (y0.fr (fun j hj => by rw [rI_wI, if_neg (by omega)]) (fun j => by rw [rI_wI, if_neg (by omega)])) (by omega) (by omega) (fun τ1 x1 u1 e1 y1 w1 => ?_)
    refine And.intro (mx_e (q := 112) (n := 9) (k := 4) (j := (kT k 10)) (i := 0) rfl (by omega) (by omega) rfl) ?_
    refine Eq.mpr (congrArg (fun xq : Mem => At 436 [.ref (108), .int (nI 10), .int (nI 1), .int ((nI (kT k 0)) - nI 1), .int ((nI (kT k 1)) - nI 1), .ref (112 + 1 + (kT k 10))] [] xq 0 0) (wrE (σ := τ1) (q := 112 + 1 + (kT k 10)) (p := rfl) (hj := by omega) (h := rfl))) ?_
    refine hAt 5 _ _ _ _ _ _ ?_
    refine Eq.mpr (congrArg (fun xq : Int32 => At 443 [.ref (108), .int (nI 10), .int (nI 1), .int ((nI (kT k 0)) - nI 1), .int ((nI (kT k 1)) - nI 1), .ref (112 + 1 + (kT k 10))] [.int xq, .int (nI 0), .ref (108), .int (nI 1), .ref (112 + 1 + (kT k 10))] (wI τ1 (112 + 1 + (kT k 10)) 0 x1) 0 0) (ntZ rfl)) ?_
    refine hAt 2 _ _ _ _ _ _ ?_
    refine s_number hn hb (y1.fr (fun j hj => by rw [rI_wI, if_neg (by omega)]) (fun j => by rw [rI_wI, if_neg (by omega)])) (by omega) (by omega) (fun τ2 x2 u2 e2 y2 w2 => ?_)
    refine And.intro (mx_e (q := 112) (n := 9) (k := 4) (j := (kT k 10)) (i := 1) rfl (by omega) (by omega) rfl) ?_
    refine Eq.mpr (congrArg (fun xq : Mem => At 447 [.ref (108), .int (nI 10), .int (nI 1), .int ((nI (kT k 0)) - nI 1), .int ((nI (kT k 1)) - nI 1), .ref (112 + 1 + (kT k 10))] [] xq 0 0) (wrE (σ := τ2) (q := 112 + 1 + (kT k 10)) (p := rfl) (hj := by omega) (h := rfl))) ?_
    refine hAt 5 _ _ _ _ _ _ ?_
    refine Eq.mpr (congrArg (fun xq : Int32 => At 453 [.ref (108), .int (nI 10), .int (nI 1), .int ((nI (kT k 0)) - nI 1), .int ((nI (kT k 1)) - nI 1), .ref (112 + 1 + (kT k 10))] [.int xq, .int (nI 0), .ref (108), .int (nI 2), .ref (112 + 1 + (kT k 10))] (wI τ2 (112 + 1 + (kT k 10)) 1 x2) 0 0) (ntZ rfl)) ?_
    refine hAt 2 _ _ _ _ _ _ ?_
    refine s_number hn hb (y2.fr (fun j hj => by rw [rI_wI, if_neg (by omega)]) (fun j => by rw [rI_wI, if_neg (by omega)])) (by omega) (by omega) (fun τ3 x3 u3 e3 y3 w3 => ?_)
    refine And.intro (mx_e (q := 112) (n := 9) (k := 4) (j := (kT k 10)) (i := 2) rfl (by omega) (by omega) rfl) ?_
    refine Eq.mpr (congrArg (fun xq : Mem => At 457 [.ref (108), .int (nI 10), .int (nI 1), .int ((nI (kT k 0)) - nI 1), .int ((nI (kT k 1)) - nI 1), .ref (112 + 1 + (kT k 10))] [] xq 0 0) (wrE (σ := τ3) (q := 112 + 1 + (kT k 10)) (p := rfl) (hj := by omega) (h := rfl))) ?_
    refine hAt 5 _ _ _ _ _ _ ?_
    refine Eq.mpr (congrArg (fun xq : Int32 => At 463 [.ref (108), .int (nI 10), .int (nI 1), .int ((nI (kT k 0)) - nI 1), .int ((nI (kT k 1)) - nI 1), .ref (112 + 1 + (kT k 10))] [.int xq, .int (nI 0), .ref (108), .int (nI 3), .ref (112 + 1 + (kT k 10))] (wI τ3 (112 + 1 + (kT k 10)) 2 x3) 0 0) (ntZ rfl)) ?_
    refine hAt 2 _ _ _ _ _ _ ?_
    refine s_number hn hb (y3.fr (fun j hj => by rw [rI_wI, if_neg (by omega)]) (fun j => by rw [rI_wI, if_neg (by omega)])) (by omega) (by omega) (fun τ4 x4 u4 e4 y4 w4 => ?_)
    refine And.intro (mx_e (q := 112) (n := 9) (k := 4) (j := (kT k 10)) (i := 3) rfl (by omega) (by omega) rfl) ?_
    refine Eq.mpr (congrArg (fun xq : Mem => At 467 [.ref (108), .int (nI 10), .int (nI 1), .int ((nI (kT k 0)) - nI 1), .int ((nI (kT k 1)) - nI 1), .ref (112 + 1 + (kT k 10))] [] xq 0 0) (wrE (σ := τ4) (q := 112 + 1 + (kT k 10)) (p := rfl) (hj := by omega) (h := rfl))) ?_
    refine hAt 3 _ _ _ _ _ _ ?_
    refine And.intro (fun hq => absurd hq (by decide)) (fun _ => ?_)
    refine hAt 5 _ _ _ _ _ _ ?_
    refine And.intro (aOKx (n := 11) (j := 10) rfl (by decide) rfl rfl (by omega) (by omega)) ?_
    refine Eq.mpr (congrArg (fun xq : Int32 => At 485 [.ref (108), .int (nI 10), .int (nI 1), .int ((nI (kT k 0)) - nI 1), .int ((nI (kT k 1)) - nI 1), .ref (112 + 1 + (kT k 10))] [.int xq, .int (nI 10), .ref (110)] (wI τ4 (112 + 1 + (kT k 10)) 3 x4) 0 0) (show rI (wI τ4 (112 + 1 + (kT k 10)) 3 x4) 110 (nI 10).toNatClampNeg = nI (kT k 10) from (ldE rfl (by omega) (by rw [rI_wI, if_neg (by omega)]; exact ((u4 110 10 (by unfold r3; omega)).trans (by rw [rI_wI, if_neg (by omega)]; exact ((u3 110 10 (by unfold r3; omega)).trans (by rw [rI_wI, if_neg (by omega)]; exact ((u2 110 10 (by unfold r3; omega)).trans (by rw [rI_wI, if_neg (by omega)]; exact ((u1 110 10 (by unfold r3; omega)).trans (by rw [rI_wI, if_neg (by omega)]; exact ((u0 110 10 (by unfold r3; omega)).trans (hQ.1 10 (by omega))))))))))))))) ?_
    refine hAt 3 _ _ _ _ _ _ ?_
    refine And.intro (aOKx (n := 11) (j := 10) rfl (by decide) rfl rfl (by omega) (by omega)) ?_
    refine Eq.mpr (congrArg (fun xq : Mem => At 488 [.ref (108), .int (nI 10), .int (nI 1), .int ((nI (kT k 0)) - nI 1), .int ((nI (kT k 1)) - nI 1), .ref (112 + 1 + (kT k 10))] [] xq 0 0) (wrE (σ := (wI τ4 (112 + 1 + (kT k 10)) 3 x4)) (q := 110) (p := rfl) (hj := by omega) (h := (adE rfl rfl)))) ?_
    refine hAt 3 _ _ _ _ _ _ ?_
    refine s_closes (s := rdS b n 1 (e, 0, 0) k) hn hb (y4.fr (fun j hj => by rw [rI_wI, if_neg (by omega)]; rw [rI_wI, if_neg (by omega)]) (fun j => by rw [rI_wI, if_neg (by omega)]; rw [rI_wI, if_neg (by omega)])) (fun τ9 u9 e9 y9 => ?_)
    refine good τ9 g1 g2 ⟨fun a j q => by unfold trQ at q; refine (u9 _ _ (by unfold r3; omega)).trans ?_; rw [rI_wI, if_neg (by omega)]; rw [rI_wI, if_neg (by omega)]; refine (u4 _ _ (by unfold r3; omega)).trans ?_; rw [rI_wI, if_neg (by omega)]; refine (u3 _ _ (by unfold r3; omega)).trans ?_; rw [rI_wI, if_neg (by omega)]; refine (u2 _ _ (by unfold r3; omega)).trans ?_; rw [rI_wI, if_neg (by omega)]; refine (u1 _ _ (by unfold r3; omega)).trans ?_; rw [rI_wI, if_neg (by omega)]; exact u0 _ _ (by unfold r3; omega), e9.trans (e4.trans (e3.trans (e2.trans (e1.trans (e0)))))⟩ y9 (fun hf => ⟨(u9 108 7 (by unfold r3; omega)).trans (by rw [rI_wI, if_neg (by omega), rI_wI, if_neg (by omega)]; exact ((u4 108 7 (by unfold r3; omega)).trans (by rw [rI_wI, if_neg (by omega)]; exact ((u3 108 7 (by unfold r3; omega)).trans (by rw [rI_wI, if_neg (by omega)]; exact ((u2 108 7 (by unfold r3; omega)).trans (by rw [rI_wI, if_neg (by omega)]; exact ((u1 108 7 (by unfold r3; omega)).trans (by rw [rI_wI, if_pos ⟨rfl, rfl⟩]))))))))), ?_⟩)
    exact hQ.pw (r := _) hv (fun a j q1 q2 q3 => (u9 a j (by unfold r3; omega)).trans (by rw [rI_wI, if_neg (by omega)]; rw [rI_wI, if_neg (by omega)]; refine (u4 _ _ (by unfold r3; omega)).trans ?_; rw [rI_wI, if_neg (by omega)]; refine (u3 _ _ (by unfold r3; omega)).trans ?_; rw [rI_wI, if_neg (by omega)]; refine (u2 _ _ (by unfold r3; omega)).trans ?_; rw [rI_wI, if_neg (by omega)]; refine (u1 _ _ (by unfold r3; omega)).trans ?_; rw [rI_wI, if_neg (by omega)]; exact u0 _ _ (by unfold r3; omega))) ((u9 110 10 (by unfold r3; omega)).trans (by rw [rI_wI, if_pos ⟨rfl, rfl⟩])) (all4 ((u9 _ _ (by unfold r3; omega)).trans ((show rI (wI (wI τ4 (112 + 1 + (kT k 10)) 3 x4) 110 10 (nI (kT k 10 + 1))) (112 + 1 + (kT k 10)) 0 = x1 from (by rw [rI_wI, if_neg (by omega), rI_wI, if_neg (by omega)]; exact ((u4 (112 + 1 + (kT k 10)) 0 (by unfold r3; omega)).trans (by rw [rI_wI, if_neg (by omega)]; exact ((u3 (112 + 1 + (kT k 10)) 0 (by unfold r3; omega)).trans (by rw [rI_wI, if_neg (by omega)]; exact ((u2 (112 + 1 + (kT k 10)) 0 (by unfold r3; omega)).trans (by rw [rI_wI, if_pos ⟨rfl, rfl⟩])))))))).trans (w1 (nmS_f0 (nmS_f0 (nmS_f0 hf)))))) ((u9 _ _ (by unfold r3; omega)).trans ((show rI (wI (wI τ4 (112 + 1 + (kT k 10)) 3 x4) 110 10 (nI (kT k 10 + 1))) (112 + 1 + (kT k 10)) 1 = x2 from (by rw [rI_wI, if_neg (by omega), rI_wI, if_neg (by omega)]; exact ((u4 (112 + 1 + (kT k 10)) 1 (by unfold r3; omega)).trans (by rw [rI_wI, if_neg (by omega)]; exact ((u3 (112 + 1 + (kT k 10)) 1 (by unfold r3; omega)).trans (by rw [rI_wI, if_pos ⟨rfl, rfl⟩])))))).trans (w2 (nmS_f0 (nmS_f0 hf))))) ((u9 _ _ (by unfold r3; omega)).trans ((show rI (wI (wI τ4 (112 + 1 + (kT k 10)) 3 x4) 110 10 (nI (kT k 10 + 1))) (112 + 1 + (kT k 10)) 2 = x3 from (by rw [rI_wI, if_neg (by omega), rI_wI, if_neg (by omega)]; exact ((u4 (112 + 1 + (kT k 10)) 2 (by unfold r3; omega)).trans (by rw [rI_wI, if_pos ⟨rfl, rfl⟩])))).trans (w3 (nmS_f0 hf)))) ((u9 _ _ (by unfold r3; omega)).trans ((show rI (wI (wI τ4 (112 + 1 + (kT k 10)) 3 x4) 110 10 (nI (kT k 10 + 1))) (112 + 1 + (kT k 10)) 3 = x4 from (by rw [rI_wI, if_neg (by omega), rI_wI, if_pos ⟨rfl, rfl⟩])).trans (w4 hf)))) hlt
  have skip : ¬ (60 ≤ c ∨ fuA k 1 = true) → ¬ (1 = 0 ∧ 0 < c) → ∀ j, j ≤ n → wE b n j = e → ∀ z3 z4 z5, At 109 [.ref 108, .int (nI 10), .int (nI 1), z3, z4, z5] [] (wI σ 108 4 (nI j)) 0 0 := by
    intro g1 g2
    refine upto fun j hj ih => ?_
    intro hw z3 z4 z5
    have hz := zb_b hb j
    have hB2 : rmB b n (wI σ 108 4 (nI j)) := ⟨hB.1, fun j hj => hB.2 j hj⟩
    have out : ¬ (97 ≤ zb b n j ∧ zb b n j ≤ 122) → At 148 [.ref 108, .int (nI 10), .int (nI 1), z3, z4, z5] [] (wI σ 108 4 (nI j)) 0 0 := fun q => by
      have ej : j = e := by rw [← hw, wE, pE_e (fun z => q (by have := of_decide_eq_true z.2; rw [zb_in z.1]; omega))]
      rw [ej]
      exact body g1 g2 _ z3 z4 z5 (fr3 (fun _ _ _ => rfl) (by omega) _) rfl ⟨⟨hB.1, hB.2⟩, ⟨e, hen, rfl, fun _ => rfl⟩, ⟨Nat.zero_le _, h5⟩, h6⟩
    refine hAt 3 _ _ _ _ _ _ ?_
    refine Eq.mpr (congrArg (fun xq : Int32 => At 114 [.ref (108), .int (nI 10), .int (nI 1), z3, z4, z5] [.int xq, .ref (108)] (wI σ 108 4 (nI j)) 0 0) (show rI (wI σ 108 4 (nI j)) 108 4 = nI j from (by rw [rI_wI, if_pos ⟨rfl, rfl⟩]))) ?_
    refine hAt 3 _ _ _ _ _ _ ?_
    refine s_byteAt hn hB2 (by omega) ?_
    refine And.intro (fun hq => ?_) (fun hq => ?_)
    · have c119 : (zb b n j : Int) < 97 := (ltZ (a := zb b n j) (b := 97) rfl (ntZ rfl) (by omega) (by omega) (by omega) (by omega)).mp hq
      clear hq
      exact out (by omega)
    · have c119 : (97 : Int) ≤ (zb b n j : Int) := Int.not_lt.mp (fun zq => hq ((ltZ (a := zb b n j) (b := 97) rfl (ntZ rfl) (by omega) (by omega) (by omega) (by omega)).mpr zq))
      clear hq
      refine hAt 3 _ _ _ _ _ _ ?_
      refine Eq.mpr (congrArg (fun xq : Int32 => At 127 [.ref (108), .int (nI 10), .int (nI 1), z3, z4, z5] [.int xq, .ref (108)] (wI σ 108 4 (nI j)) 0 0) (show rI (wI σ 108 4 (nI j)) 108 4 = nI j from (by rw [rI_wI, if_pos ⟨rfl, rfl⟩]))) ?_
      refine hAt 3 _ _ _ _ _ _ ?_
      refine s_byteAt hn hB2 (by omega) ?_
      refine And.intro (fun hq => ?_) (fun hq => ?_)
      · have c132 : (122 : Int) < zb b n j := (ltZ (a := 122) (b := zb b n j) (ntZ rfl) rfl (by omega) (by omega) (by omega) (by omega)).mp hq
        clear hq
        exact out (by omega)
      · have c132 : (zb b n j : Int) ≤ (122 : Int) := Int.not_lt.mp (fun zq => hq ((ltZ (a := 122) (b := zb b n j) (ntZ rfl) rfl (by omega) (by omega) (by omega) (by omega)).mpr zq))
        clear hq
        refine hAt 3 _ _ _ _ _ _ ?_
        refine Eq.mpr (congrArg (fun xq : Int32 => At 140 [.ref (108), .int (nI 10), .int (nI 1), z3, z4, z5] [.int xq, .ref (108)] (wI σ 108 4 (nI j)) 0 0) (show rI (wI σ 108 4 (nI j)) 108 4 = nI j from (by rw [rI_wI, if_pos ⟨rfl, rfl⟩]))) ?_
        refine hAt 3 _ _ _ _ _ _ ?_
        refine Eq.mpr (congrArg (fun xq : Mem => At 145 [.ref (108), .int (nI 10), .int (nI 1), z3, z4, z5] [] xq 0 0) (congrArg (fun z => wI (wI σ 108 4 (nI j)) 108 4 z) (adE rfl rfl))) ?_
        refine hAt 1 _ _ _ _ _ _ ?_
        obtain ⟨q1, q2⟩ := zb_p (b := b) (n := n) (k := j) (z := 97) (by omega) c119
        have z := ih q1 (by rw [← hw]; exact (pE_s q1 (decide_eq_true (by omega))).symm) z3 z4 z5
        rw [← wI_wI σ 108 4 (nI j) (nI (j + 1))] at z
        exact z
  refine hAt 8 _ _ _ _ _ _ ?_
  refine s_kindHere hn hb hB h3 hi hs h5 ?_
  rw [hk]
  refine s_in ?_
  rw [show decide (¬ nI 10 < nI 2 ∧ ¬ nI 4 < nI 10) = false from by decide]
  refine And.intro (fun hq => absurd hq (by decide)) (fun _ => ?_)
  refine hAt 3 _ _ _ _ _ _ ?_
  refine And.intro (fun hq => absurd hq (by decide)) (fun _ => ?_)
  refine hAt 6 _ _ _ _ _ _ ?_
  refine And.intro (fun hq => ?_) (fun hq => ?_)
  · have c28 : ¬ (10 : Int) = -1 := fun zq => hq ((eqZ (a := 10) (b := -1) (ntZ rfl) m1Z (by omega) (by omega) (by omega) (by omega)).mpr zq)
    clear hq
    refine hAt 2 _ _ _ _ _ _ ?_
    refine Eq.mpr (congrArg (fun xq : Int32 => At 47 [.ref (108), .int (nI 10), .int (nI 1), junk, junk, junk] [.int xq] σ 0 0) (show rI σ 108 7 = nI c from h7)) ?_
    refine hAt 2 _ _ _ _ _ _ ?_
    refine And.intro (fun hq => ?_) (fun hq => ?_)
    · have c49 : c = 60 := (eqN (a := c) (b := 60) rfl rfl (by omega) (by omega)).mp hq
      clear hq
      refine hAt 4 _ _ _ _ _ _ ?_
      refine Eq.mpr (congrArg (fun xq : Int32 => At 75 [.ref (108), .int (nI 10), .int (nI 1), junk, junk, junk] [.int xq, .int (nI 3), .ref (108)] σ 0 0) (show rI σ 108 4 = nI s.1 from h3)) ?_
      refine hAt 4 _ _ _ _ _ _ ?_
      refine s_wrong0 h5 ?_
      refine Eq.mpr (congrArg (fun xq : Int32 => At 105 [.ref (108), .int (nI 10), .int (nI 1), junk, junk, junk] [.int xq] (wI (wI σ 108 5 (nI 3)) 108 6 (nI s.1)) 0 0) (show rI (wI (wI σ 108 5 (nI 3)) 108 6 (nI s.1)) 108 5 = nI 3 from (by rw [rI_wI, if_neg (by omega), rI_wI, if_pos ⟨rfl, rfl⟩]))) ?_
      refine hAt 1 _ _ _ _ _ _ ?_
      refine And.intro (fun hq => absurd hq (by decide)) (fun _ => ?_)
      refine hAt 1 _ _ _ _ _ _ ?_
      exact bad 3 (by decide) (hcl.trans (if_pos (Or.inl (by omega))))
    · have c49 : ¬ c = 60 := fun zq => hq ((eqN (a := c) (b := 60) rfl rfl (by omega) (by omega)).mpr zq)
      clear hq
      refine hAt 2 _ _ _ _ _ _ ?_
      refine And.intro (fun hq => absurd hq (by decide)) (fun _ => ?_)
      refine hAt 4 _ _ _ _ _ _ ?_
      refine And.intro (aOKx (n := 11) (j := 10) rfl (by decide) rfl rfl (by omega) (by omega)) ?_
      refine Eq.mpr (congrArg (fun xq : Int32 => At 62 [.ref (108), .int (nI 10), .int (nI 1), junk, junk, junk] [.int xq] σ 0 0) (show rI σ 110 (nI 10).toNatClampNeg = nI (kT k 10) from (ldE rfl (by omega) (hQ.1 10 (by omega))))) ?_
      refine hAt 3 _ _ _ _ _ _ ?_
      refine s_mostOf10 ?_
      refine And.intro (fun hq => ?_) (fun hq => ?_)
      · have c66 : ¬ kT k 10 = 9 := fun zq => hq ((eqN (a := kT k 10) (b := 9) rfl rfl (by omega) (by omega)).mpr zq)
        clear hq
        refine hAt 2 _ _ _ _ _ _ ?_
        refine And.intro (fun _ => ?_) (fun hq => absurd hq (by decide))
        refine hAt 2 _ _ _ _ _ _ ?_
        refine Eq.mpr (congrArg (fun xq : Int32 => At 105 [.ref (108), .int (nI 10), .int (nI 1), junk, junk, junk] [.int xq] σ 0 0) (show rI σ 108 5 = nI 0 from h5)) ?_
        refine hAt 1 _ _ _ _ _ _ ?_
        refine And.intro (fun _ => ?_) (fun hq => absurd hq (by decide))
        have z := skip (fun z => z.elim (fun z => by omega) (fun z => by have := of_decide_eq_true (show decide (9 ≤ kT k 10) = true from z); omega)) (fun z => absurd z.1 (by decide)) s.1 hi (by rw [ee]) junk junk junk
        rw [wI_self h3] at z
        exact z
      · have c66 : kT k 10 = 9 := (eqN (a := kT k 10) (b := 9) rfl rfl (by omega) (by omega)).mp hq
        clear hq
        refine hAt 4 _ _ _ _ _ _ ?_
        refine Eq.mpr (congrArg (fun xq : Int32 => At 75 [.ref (108), .int (nI 10), .int (nI 1), junk, junk, junk] [.int xq, .int (nI 3), .ref (108)] σ 0 0) (show rI σ 108 4 = nI s.1 from h3)) ?_
        refine hAt 4 _ _ _ _ _ _ ?_
        refine s_wrong0 h5 ?_
        refine Eq.mpr (congrArg (fun xq : Int32 => At 105 [.ref (108), .int (nI 10), .int (nI 1), junk, junk, junk] [.int xq] (wI (wI σ 108 5 (nI 3)) 108 6 (nI s.1)) 0 0) (show rI (wI (wI σ 108 5 (nI 3)) 108 6 (nI s.1)) 108 5 = nI 3 from (by rw [rI_wI, if_neg (by omega), rI_wI, if_pos ⟨rfl, rfl⟩]))) ?_
        refine hAt 1 _ _ _ _ _ _ ?_
        refine And.intro (fun hq => absurd hq (by decide)) (fun _ => ?_)
        refine hAt 1 _ _ _ _ _ _ ?_
        exact bad 3 (by decide) (hcl.trans (if_pos (Or.inr (show decide (9 ≤ kT k 10) = true from decide_eq_true (by omega)))))
  · have c28 : (10 : Int) = -1 := (eqZ (a := 10) (b := -1) (ntZ rfl) m1Z (by omega) (by omega) (by omega) (by omega)).mp hq
    clear hq
    exact absurd c28 (by omega)
set_option maxRecDepth 4000 in
theorem s_cl_2 {c : Nat} (hc : c ≤ 60) (hn : n ≤ 600) (hb : ∀ j, j < n → b j < 256) (hR : rmC b n s σ) (h0 : s.2.1 = 0) (hs : bS b n s.1 = s.1) (h7 : rI σ 108 7 = nI c) (hQ : skQ σ k) (hv : VS k) (hw : woA b n s.1 = some 2) (hP : ∀ τ, frQ σ τ → rmC b n (clS b n c s.1 k) τ → ((clS b n c s.1 k).2.1 = 0 → rI τ 108 7 = nI (c + 1) ∧ skQ τ (clK b n c s.1 k)) → P none τ) : Ret w true (d + 6) 0 0 m_Mo_clause [.ref 108] σ P X := by
  obtain ⟨h3, hi⟩ := hR.at0 h0
  obtain ⟨hB, -, ⟨-, h5⟩, h6⟩ := hR
  have h5 : rI σ 108 5 = nI 0 := h5.trans (congrArg nI h0)
  have h6 : rI σ 108 6 = -1 := h6.trans (if_pos h0)
  have vs := hv
  obtain ⟨v1, v2, v3, v4, v5, v6, v7, v8, v9, v10, v11, -⟩ := vs
  have hW : kT k 0 ≤ 8 ∧ kT k 1 ≤ 8 := ⟨v1.2, v2.2⟩
  have bad : ∀ f, f ≠ 0 ∧ f ≤ 4 → clS b n c s.1 k = (0, f, s.1) → P none (wI (wI σ 108 5 (nI f)) 108 6 (nI s.1)) := fun f hf he => by
    refine hP _ ⟨fun a j q => by unfold trQ at q; rw [rI_wI, if_neg (by omega), rI_wI, if_neg (by omega)], rfl⟩ ?_ (fun z => ?_)
    · rw [he]; exact ⟨⟨hB.1, hB.2⟩, ⟨s.1, hi, h3, fun z => absurd z hf.1⟩, ⟨hf.2, rfl⟩, by rw [plI, if_neg hf.1]; rfl⟩
    · rw [he] at z; exact absurd z hf.1
  have hk : kdI b n s.1 = nI 2 := by unfold kdI; rw [hw]; rfl
  obtain ⟨e, ee⟩ : ∃ e, e = wE b n s.1 := ⟨_, rfl⟩
  have hen : e ≤ n := by rw [ee]; exact pE_le isLe b n _ hi
  have hcl : clS b n c s.1 k = if 60 ≤ c ∨ fuA k 2 = true then (0, 3, s.1) else if 2 = 0 ∧ 0 < c then (0, 4, s.1) else enA b n (rdS b n 2 (e, 0, 0) k) := by unfold clS; rw [hw, ee]
  have hck : clK b n c s.1 k = if 60 ≤ c ∨ fuA k 2 = true then k else if 2 = 0 ∧ 0 < c then k else rdK b n 2 (e, 0, 0) k := by unfold clK; rw [hw, ee]
  have good : ∀ τ, ¬ (60 ≤ c ∨ fuA k 2 = true) → ¬ (2 = 0 ∧ 0 < c) → frQ σ τ → rmC b n (enA b n (rdS b n 2 (e, 0, 0) k)) τ → ((rdS b n 2 (e, 0, 0) k).2.1 = 0 → rI τ 108 7 = nI (c + 1) ∧ skQ τ (rdK b n 2 (e, 0, 0) k)) → P none τ := fun τ g1 g2 g3 g4 g5 => by
    rw [if_neg g1, if_neg g2] at hcl hck
    refine hP τ g3 (by rw [hcl]; exact g4) (fun z => ?_)
    rw [hcl] at z
    rw [hck]
    exact g5 (enA_f0 z)
  refine meth_ok k_Mo_clause q_Mo_clause rfl fun At hAt => ?_
  have body : ¬ (60 ≤ c ∨ fuA k 2 = true) → ¬ (2 = 0 ∧ 0 < c) → ∀ ρ z3 z4 z5, (∀ a j, ¬ r3 a j → rI ρ a j = rI σ a j) → ρ.2 = σ.2 → rmC b n (e, 0, 0) ρ → At 148 [.ref 108, .int (nI 2), .int (nI 1), z3, z4, z5] [] ρ 0 0 := by
    intro g1 g2 ρ z3 z4 z5 u0 e0 y0
    have hlt : kT k 2 < 8 := Nat.lt_of_not_le (fun z => g1 (Or.inr (decide_eq_true z)))
    refine hAt 3 _ _ _ _ _ _ ?_
    refine Eq.mpr (congrArg (fun xq : Int32 => At 153 [.ref (108), .int (nI 2), .int (nI 1), z3, z4, z5] [.int xq, .ref (108)] ρ 0 0) (show rI ρ 108 7 = nI c from ((u0 108 7 (by unfold r3; omega)).trans h7))) ?_
    refine hAt 3 _ _ _ _ _ _ ?_
    refine Eq.mpr (congrArg (fun xq : Mem => At 158 [.ref (108), .int (nI 2), .int (nI 1), z3, z4, z5] [] xq 0 0) (congrArg (fun z => wI ρ 108 7 z) (adE rfl rfl))) ?_
    refine hAt 4 _ _ _ _ _ _ ?_
    refine And.intro (aOKx (n := 11) (j := 0) rfl (by decide) rfl rfl (by omega) (by omega)) ?_
    refine Eq.mpr (congrArg (fun xq : Int32 => At 164 [.ref (108), .int (nI 2), .int (nI 1), z3, z4, z5] [.int xq] (wI ρ 108 7 (nI (c + 1))) 0 0) (show rI (wI ρ 108 7 (nI (c + 1))) 110 (nI 0).toNatClampNeg = nI (kT k 0) from (ldE rfl (by omega) (by rw [rI_wI, if_neg (by omega)]; exact ((u0 110 0 (by unfold r3; omega)).trans (hQ.1 0 (by omega))))))) ?_
    refine hAt 7 _ _ _ _ _ _ ?_
    refine And.intro (aOKx (n := 11) (j := 1) rfl (by decide) rfl rfl (by omega) (by omega)) ?_
    refine Eq.mpr (congrArg (fun xq : Int32 => At 173 [.ref (108), .int (nI 2), .int (nI 1), .int ((nI (kT k 0)) - nI 1), z4, z5] [.int xq] (wI ρ 108 7 (nI (c + 1))) 0 0) (show rI (wI ρ 108 7 (nI (c + 1))) 110 (nI 1).toNatClampNeg = nI (kT k 1) from (ldE rfl (by omega) (by rw [rI_wI, if_neg (by omega)]; exact ((u0 110 1 (by unfold r3; omega)).trans (hQ.1 1 (by omega))))))) ?_
    refine hAt 5 _ _ _ _ _ _ ?_
    refine And.intro (And.intro (fun hq => absurd hq (by decide)) (And.intro (fun hq => absurd hq (by decide)) (And.intro (fun _ => ?_) (And.intro (fun hq => absurd hq (by decide)) (And.intro (fun hq => absurd hq (by decide)) (And.intro (fun hq => absurd hq (by decide)) (And.intro (fun hq => absurd hq (by decide)) (And.intro (fun hq => absurd hq (by decide)) (And.intro (fun hq => absurd hq (by decide)) (And.intro (fun hq => absurd hq (by decide)) (And.intro (fun hq => absurd hq (by decide)) (trivial)))))))))))) (fun hq => absurd hq (by decide))
    refine hAt 7 _ _ _ _ _ _ ?_
    refine And.intro (aOKx (n := 11) (j := 2) rfl (by decide) rfl rfl (by omega) (by omega)) ?_
    refine Eq.mpr (congrArg (fun xq : Int32 => At 276 [.ref (108), .int (nI 2), .int (nI 1), .int ((nI (kT k 0)) - nI 1), .int ((nI (kT k 1)) - nI 1), z5] [.int xq, .ref (132), .ref (108)] (wI ρ 108 7 (nI (c + 1))) 0 0) (show rI (wI ρ 108 7 (nI (c + 1))) 110 (nI 2).toNatClampNeg = nI (kT k 2) from (ldE rfl (by omega) (by rw [rI_wI, if_neg (by omega)]; exact ((u0 110 2 (by unfold r3; omega)).trans (hQ.1 2 (by omega))))))) ?_
    refine hAt 1 _ _ _ _ _ _ ?_
    refine And.intro (mx_r (q := 132) (n := 8) (k := 7) rfl rfl (show kT k 2 < 8 by omega)) (And.intro (Or.inl rfl) ?_)
    refine Eq.mpr (congrArg (fun xq : Nat => At 277 [.ref (108), .int (nI 2), .int (nI 1), .int ((nI (kT k 0)) - nI 1), .int ((nI (kT k 1)) - nI 1), z5] [.ref xq, .ref (108)] (wI ρ 108 7 (nI (c + 1))) 0 0) (rwE rfl (by omega))) ?_
    refine hAt 2 _ _ _ _ _ _ ?_
    refine Eq.mpr (congrArg (fun xq : Int32 => At 280 [.ref (108), .int (nI 2), .int (nI 1), .int ((nI (kT k 0)) - nI 1), .int ((nI (kT k 1)) - nI 1), z5] [.int ((nI (kT k 1)) - nI 1), .int xq, .ref (132 + 1 + (kT k 2)), .ref (108)] (wI ρ 108 7 (nI (c + 1))) 0 0) (show (nI (kT k 0)) - nI 1 = iZ (((kT k 0 : Nat) : Int) - 1) from (sbZ (ntZ rfl) (ntZ rfl)))) ?_
    refine Eq.mpr (congrArg (fun xq : Int32 => At 280 [.ref (108), .int (nI 2), .int (nI 1), .int ((nI (kT k 0)) - nI 1), .int ((nI (kT k 1)) - nI 1), z5] [.int xq, .int (iZ (((kT k 0 : Nat) : Int) - 1)), .ref (132 + 1 + (kT k 2)), .ref (108)] (wI ρ 108 7 (nI (c + 1))) 0 0) (show (nI (kT k 1)) - nI 1 = iZ (((kT k 1 : Nat) : Int) - 1) from (sbZ (ntZ rfl) (ntZ rfl)))) ?_
    refine hAt 4 _ _ _ _ _ _ ?_
    refine s_readsCloud hn hb (y0.fr (fun j hj => by rw [rI_wI, if_neg (by omega)]) (fun j => by rw [rI_wI, if_neg (by omega)])) hW (by omega) (fun τ1 u1 e1 y1 k1 => ?_)
    refine And.intro (fun hq => absurd hq (by decide)) (fun _ => ?_)
    refine hAt 5 _ _ _ _ _ _ ?_
    refine And.intro (aOKx (n := 11) (j := 2) rfl (by decide) rfl rfl (by omega) (by omega)) ?_
    refine Eq.mpr (congrArg (fun xq : Int32 => At 485 [.ref (108), .int (nI 2), .int (nI 1), .int ((nI (kT k 0)) - nI 1), .int ((nI (kT k 1)) - nI 1), z5] [.int xq, .int (nI 2), .ref (110)] τ1 0 0) (show rI τ1 110 (nI 2).toNatClampNeg = nI (kT k 2) from (ldE rfl (by omega) ((u1 110 2 (by unfold r3; omega) (by omega)).trans (by rw [rI_wI, if_neg (by omega)]; exact ((u0 110 2 (by unfold r3; omega)).trans (hQ.1 2 (by omega)))))))) ?_
    refine hAt 3 _ _ _ _ _ _ ?_
    refine And.intro (aOKx (n := 11) (j := 2) rfl (by decide) rfl rfl (by omega) (by omega)) ?_
    refine Eq.mpr (congrArg (fun xq : Mem => At 488 [.ref (108), .int (nI 2), .int (nI 1), .int ((nI (kT k 0)) - nI 1), .int ((nI (kT k 1)) - nI 1), z5] [] xq 0 0) (wrE (σ := τ1) (q := 110) (p := rfl) (hj := by omega) (h := (adE rfl rfl)))) ?_
    refine hAt 3 _ _ _ _ _ _ ?_
    refine s_closes (s := rdS b n 2 (e, 0, 0) k) hn hb (y1.fr (fun j hj => by rw [rI_wI, if_neg (by omega)]) (fun j => by rw [rI_wI, if_neg (by omega)])) (fun τ9 u9 e9 y9 => ?_)
    refine good τ9 g1 g2 ⟨fun a j q => by unfold trQ at q; refine (u9 _ _ (by unfold r3; omega)).trans ?_; rw [rI_wI, if_neg (by omega)]; refine (u1 _ _ (by unfold r3; omega) (by omega)).trans ?_; rw [rI_wI, if_neg (by omega)]; exact u0 _ _ (by unfold r3; omega), e9.trans (e1.trans (e0))⟩ y9 (fun hf => ⟨(u9 108 7 (by unfold r3; omega)).trans (by rw [rI_wI, if_neg (by omega)]; exact ((u1 108 7 (by unfold r3; omega) (by omega)).trans (by rw [rI_wI, if_pos ⟨rfl, rfl⟩]))), ?_⟩)
    exact hQ.pc (r := _) hv (fun a j q1 q2 q3 => (u9 a j (by unfold r3; omega)).trans (by rw [rI_wI, if_neg (by omega)]; refine (u1 _ _ (by unfold r3; omega) (by omega)).trans ?_; rw [rI_wI, if_neg (by omega)]; exact u0 _ _ (by unfold r3; omega))) ((u9 110 2 (by unfold r3; omega)).trans (by rw [rI_wI, if_pos ⟨rfl, rfl⟩])) (fun j hj => (u9 _ _ (by unfold r3; omega)).trans (by rw [rI_wI, if_neg (by omega)]; exact k1 hf j hj)) hlt
  have skip : ¬ (60 ≤ c ∨ fuA k 2 = true) → ¬ (2 = 0 ∧ 0 < c) → ∀ j, j ≤ n → wE b n j = e → ∀ z3 z4 z5, At 109 [.ref 108, .int (nI 2), .int (nI 1), z3, z4, z5] [] (wI σ 108 4 (nI j)) 0 0 := by
    intro g1 g2
    refine upto fun j hj ih => ?_
    intro hw z3 z4 z5
    have hz := zb_b hb j
    have hB2 : rmB b n (wI σ 108 4 (nI j)) := ⟨hB.1, fun j hj => hB.2 j hj⟩
    have out : ¬ (97 ≤ zb b n j ∧ zb b n j ≤ 122) → At 148 [.ref 108, .int (nI 2), .int (nI 1), z3, z4, z5] [] (wI σ 108 4 (nI j)) 0 0 := fun q => by
      have ej : j = e := by rw [← hw, wE, pE_e (fun z => q (by have := of_decide_eq_true z.2; rw [zb_in z.1]; omega))]
      rw [ej]
      exact body g1 g2 _ z3 z4 z5 (fr3 (fun _ _ _ => rfl) (by omega) _) rfl ⟨⟨hB.1, hB.2⟩, ⟨e, hen, rfl, fun _ => rfl⟩, ⟨Nat.zero_le _, h5⟩, h6⟩
    refine hAt 3 _ _ _ _ _ _ ?_
    refine Eq.mpr (congrArg (fun xq : Int32 => At 114 [.ref (108), .int (nI 2), .int (nI 1), z3, z4, z5] [.int xq, .ref (108)] (wI σ 108 4 (nI j)) 0 0) (show rI (wI σ 108 4 (nI j)) 108 4 = nI j from (by rw [rI_wI, if_pos ⟨rfl, rfl⟩]))) ?_
    refine hAt 3 _ _ _ _ _ _ ?_
    refine s_byteAt hn hB2 (by omega) ?_
    refine And.intro (fun hq => ?_) (fun hq => ?_)
    · have c119 : (zb b n j : Int) < 97 := (ltZ (a := zb b n j) (b := 97) rfl (ntZ rfl) (by omega) (by omega) (by omega) (by omega)).mp hq
      clear hq
      exact out (by omega)
    · have c119 : (97 : Int) ≤ (zb b n j : Int) := Int.not_lt.mp (fun zq => hq ((ltZ (a := zb b n j) (b := 97) rfl (ntZ rfl) (by omega) (by omega) (by omega) (by omega)).mpr zq))
      clear hq
      refine hAt 3 _ _ _ _ _ _ ?_
      refine Eq.mpr (congrArg (fun xq : Int32 => At 127 [.ref (108), .int (nI 2), .int (nI 1), z3, z4, z5] [.int xq, .ref (108)] (wI σ 108 4 (nI j)) 0 0) (show rI (wI σ 108 4 (nI j)) 108 4 = nI j from (by rw [rI_wI, if_pos ⟨rfl, rfl⟩]))) ?_
      refine hAt 3 _ _ _ _ _ _ ?_
      refine s_byteAt hn hB2 (by omega) ?_
      refine And.intro (fun hq => ?_) (fun hq => ?_)
      · have c132 : (122 : Int) < zb b n j := (ltZ (a := 122) (b := zb b n j) (ntZ rfl) rfl (by omega) (by omega) (by omega) (by omega)).mp hq
        clear hq
        exact out (by omega)
      · have c132 : (zb b n j : Int) ≤ (122 : Int) := Int.not_lt.mp (fun zq => hq ((ltZ (a := 122) (b := zb b n j) (ntZ rfl) rfl (by omega) (by omega) (by omega) (by omega)).mpr zq))
        clear hq
        refine hAt 3 _ _ _ _ _ _ ?_
        refine Eq.mpr (congrArg (fun xq : Int32 => At 140 [.ref (108), .int (nI 2), .int (nI 1), z3, z4, z5] [.int xq, .ref (108)] (wI σ 108 4 (nI j)) 0 0) (show rI (wI σ 108 4 (nI j)) 108 4 = nI j from (by rw [rI_wI, if_pos ⟨rfl, rfl⟩]))) ?_
        refine hAt 3 _ _ _ _ _ _ ?_
        refine Eq.mpr (congrArg (fun xq : Mem => At 145 [.ref (108), .int (nI 2), .int (nI 1), z3, z4, z5] [] xq 0 0) (congrArg (fun z => wI (wI σ 108 4 (nI j)) 108 4 z) (adE rfl rfl))) ?_
        refine hAt 1 _ _ _ _ _ _ ?_
        obtain ⟨q1, q2⟩ := zb_p (b := b) (n := n) (k := j) (z := 97) (by omega) c119
        have z := ih q1 (by rw [← hw]; exact (pE_s q1 (decide_eq_true (by omega))).symm) z3 z4 z5
        rw [← wI_wI σ 108 4 (nI j) (nI (j + 1))] at z
        exact z
  refine hAt 8 _ _ _ _ _ _ ?_
  refine s_kindHere hn hb hB h3 hi hs h5 ?_
  rw [hk]
  refine s_in ?_
  rw [show decide (¬ nI 2 < nI 2 ∧ ¬ nI 4 < nI 2) = true from by decide]
  refine And.intro (fun _ => ?_) (fun hq => absurd hq (by decide))
  refine hAt 6 _ _ _ _ _ _ ?_
  refine And.intro (fun hq => ?_) (fun hq => ?_)
  · have c28 : ¬ (2 : Int) = -1 := fun zq => hq ((eqZ (a := 2) (b := -1) (ntZ rfl) m1Z (by omega) (by omega) (by omega) (by omega)).mpr zq)
    clear hq
    refine hAt 2 _ _ _ _ _ _ ?_
    refine Eq.mpr (congrArg (fun xq : Int32 => At 47 [.ref (108), .int (nI 2), .int (nI 1), junk, junk, junk] [.int xq] σ 0 0) (show rI σ 108 7 = nI c from h7)) ?_
    refine hAt 2 _ _ _ _ _ _ ?_
    refine And.intro (fun hq => ?_) (fun hq => ?_)
    · have c49 : c = 60 := (eqN (a := c) (b := 60) rfl rfl (by omega) (by omega)).mp hq
      clear hq
      refine hAt 4 _ _ _ _ _ _ ?_
      refine Eq.mpr (congrArg (fun xq : Int32 => At 75 [.ref (108), .int (nI 2), .int (nI 1), junk, junk, junk] [.int xq, .int (nI 3), .ref (108)] σ 0 0) (show rI σ 108 4 = nI s.1 from h3)) ?_
      refine hAt 4 _ _ _ _ _ _ ?_
      refine s_wrong0 h5 ?_
      refine Eq.mpr (congrArg (fun xq : Int32 => At 105 [.ref (108), .int (nI 2), .int (nI 1), junk, junk, junk] [.int xq] (wI (wI σ 108 5 (nI 3)) 108 6 (nI s.1)) 0 0) (show rI (wI (wI σ 108 5 (nI 3)) 108 6 (nI s.1)) 108 5 = nI 3 from (by rw [rI_wI, if_neg (by omega), rI_wI, if_pos ⟨rfl, rfl⟩]))) ?_
      refine hAt 1 _ _ _ _ _ _ ?_
      refine And.intro (fun hq => absurd hq (by decide)) (fun _ => ?_)
      refine hAt 1 _ _ _ _ _ _ ?_
      exact bad 3 (by decide) (hcl.trans (if_pos (Or.inl (by omega))))
    · have c49 : ¬ c = 60 := fun zq => hq ((eqN (a := c) (b := 60) rfl rfl (by omega) (by omega)).mpr zq)
      clear hq
      refine hAt 2 _ _ _ _ _ _ ?_
      refine And.intro (fun hq => absurd hq (by decide)) (fun _ => ?_)
      refine hAt 4 _ _ _ _ _ _ ?_
      refine And.intro (aOKx (n := 11) (j := 2) rfl (by decide) rfl rfl (by omega) (by omega)) ?_
      refine Eq.mpr (congrArg (fun xq : Int32 => At 62 [.ref (108), .int (nI 2), .int (nI 1), junk, junk, junk] [.int xq] σ 0 0) (show rI σ 110 (nI 2).toNatClampNeg = nI (kT k 2) from (ldE rfl (by omega) (hQ.1 2 (by omega))))) ?_
      refine hAt 3 _ _ _ _ _ _ ?_
      refine s_mostOf2 ?_
      refine And.intro (fun hq => ?_) (fun hq => ?_)
      · have c66 : ¬ kT k 2 = 8 := fun zq => hq ((eqN (a := kT k 2) (b := 8) rfl rfl (by omega) (by omega)).mpr zq)
        clear hq
        refine hAt 2 _ _ _ _ _ _ ?_
        refine And.intro (fun _ => ?_) (fun hq => absurd hq (by decide))
        refine hAt 2 _ _ _ _ _ _ ?_
        refine Eq.mpr (congrArg (fun xq : Int32 => At 105 [.ref (108), .int (nI 2), .int (nI 1), junk, junk, junk] [.int xq] σ 0 0) (show rI σ 108 5 = nI 0 from h5)) ?_
        refine hAt 1 _ _ _ _ _ _ ?_
        refine And.intro (fun _ => ?_) (fun hq => absurd hq (by decide))
        have z := skip (fun z => z.elim (fun z => by omega) (fun z => by have := of_decide_eq_true (show decide (8 ≤ kT k 2) = true from z); omega)) (fun z => absurd z.1 (by decide)) s.1 hi (by rw [ee]) junk junk junk
        rw [wI_self h3] at z
        exact z
      · have c66 : kT k 2 = 8 := (eqN (a := kT k 2) (b := 8) rfl rfl (by omega) (by omega)).mp hq
        clear hq
        refine hAt 4 _ _ _ _ _ _ ?_
        refine Eq.mpr (congrArg (fun xq : Int32 => At 75 [.ref (108), .int (nI 2), .int (nI 1), junk, junk, junk] [.int xq, .int (nI 3), .ref (108)] σ 0 0) (show rI σ 108 4 = nI s.1 from h3)) ?_
        refine hAt 4 _ _ _ _ _ _ ?_
        refine s_wrong0 h5 ?_
        refine Eq.mpr (congrArg (fun xq : Int32 => At 105 [.ref (108), .int (nI 2), .int (nI 1), junk, junk, junk] [.int xq] (wI (wI σ 108 5 (nI 3)) 108 6 (nI s.1)) 0 0) (show rI (wI (wI σ 108 5 (nI 3)) 108 6 (nI s.1)) 108 5 = nI 3 from (by rw [rI_wI, if_neg (by omega), rI_wI, if_pos ⟨rfl, rfl⟩]))) ?_
        refine hAt 1 _ _ _ _ _ _ ?_
        refine And.intro (fun hq => absurd hq (by decide)) (fun _ => ?_)
        refine hAt 1 _ _ _ _ _ _ ?_
        exact bad 3 (by decide) (hcl.trans (if_pos (Or.inr (show decide (8 ≤ kT k 2) = true from decide_eq_true (by omega)))))
  · have c28 : (2 : Int) = -1 := (eqZ (a := 2) (b := -1) (ntZ rfl) m1Z (by omega) (by omega) (by omega) (by omega)).mp hq
    clear hq
    exact absurd c28 (by omega)
set_option maxRecDepth 4000 in
theorem s_cl_3 {c : Nat} (hc : c ≤ 60) (hn : n ≤ 600) (hb : ∀ j, j < n → b j < 256) (hR : rmC b n s σ) (h0 : s.2.1 = 0) (hs : bS b n s.1 = s.1) (h7 : rI σ 108 7 = nI c) (hQ : skQ σ k) (hv : VS k) (hw : woA b n s.1 = some 3) (hP : ∀ τ, frQ σ τ → rmC b n (clS b n c s.1 k) τ → ((clS b n c s.1 k).2.1 = 0 → rI τ 108 7 = nI (c + 1) ∧ skQ τ (clK b n c s.1 k)) → P none τ) : Ret w true (d + 6) 0 0 m_Mo_clause [.ref 108] σ P X := by
  obtain ⟨h3, hi⟩ := hR.at0 h0
  obtain ⟨hB, -, ⟨-, h5⟩, h6⟩ := hR
  have h5 : rI σ 108 5 = nI 0 := h5.trans (congrArg nI h0)
  have h6 : rI σ 108 6 = -1 := h6.trans (if_pos h0)
  have vs := hv
  obtain ⟨v1, v2, v3, v4, v5, v6, v7, v8, v9, v10, v11, -⟩ := vs
  have hW : kT k 0 ≤ 8 ∧ kT k 1 ≤ 8 := ⟨v1.2, v2.2⟩
  have bad : ∀ f, f ≠ 0 ∧ f ≤ 4 → clS b n c s.1 k = (0, f, s.1) → P none (wI (wI σ 108 5 (nI f)) 108 6 (nI s.1)) := fun f hf he => by
    refine hP _ ⟨fun a j q => by unfold trQ at q; rw [rI_wI, if_neg (by omega), rI_wI, if_neg (by omega)], rfl⟩ ?_ (fun z => ?_)
    · rw [he]; exact ⟨⟨hB.1, hB.2⟩, ⟨s.1, hi, h3, fun z => absurd z hf.1⟩, ⟨hf.2, rfl⟩, by rw [plI, if_neg hf.1]; rfl⟩
    · rw [he] at z; exact absurd z hf.1
  have hk : kdI b n s.1 = nI 11 := by unfold kdI; rw [hw]; rfl
  obtain ⟨e, ee⟩ : ∃ e, e = wE b n s.1 := ⟨_, rfl⟩
  have hen : e ≤ n := by rw [ee]; exact pE_le isLe b n _ hi
  have hcl : clS b n c s.1 k = if 60 ≤ c ∨ fuA k 3 = true then (0, 3, s.1) else if 3 = 0 ∧ 0 < c then (0, 4, s.1) else enA b n (rdS b n 3 (e, 0, 0) k) := by unfold clS; rw [hw, ee]
  have hck : clK b n c s.1 k = if 60 ≤ c ∨ fuA k 3 = true then k else if 3 = 0 ∧ 0 < c then k else rdK b n 3 (e, 0, 0) k := by unfold clK; rw [hw, ee]
  have good : ∀ τ, ¬ (60 ≤ c ∨ fuA k 3 = true) → ¬ (3 = 0 ∧ 0 < c) → frQ σ τ → rmC b n (enA b n (rdS b n 3 (e, 0, 0) k)) τ → ((rdS b n 3 (e, 0, 0) k).2.1 = 0 → rI τ 108 7 = nI (c + 1) ∧ skQ τ (rdK b n 3 (e, 0, 0) k)) → P none τ := fun τ g1 g2 g3 g4 g5 => by
    rw [if_neg g1, if_neg g2] at hcl hck
    refine hP τ g3 (by rw [hcl]; exact g4) (fun z => ?_)
    rw [hcl] at z
    rw [hck]
    exact g5 (enA_f0 z)
  refine meth_ok k_Mo_clause q_Mo_clause rfl fun At hAt => ?_
  have body : ¬ (60 ≤ c ∨ fuA k 3 = true) → ¬ (3 = 0 ∧ 0 < c) → ∀ ρ z3 z4 z5, (∀ a j, ¬ r3 a j → rI ρ a j = rI σ a j) → ρ.2 = σ.2 → rmC b n (e, 0, 0) ρ → At 148 [.ref 108, .int (nI 11), .int (nI 0), z3, z4, z5] [] ρ 0 0 := by
    intro g1 g2 ρ z3 z4 z5 u0 e0 y0
    refine hAt 3 _ _ _ _ _ _ ?_
    refine Eq.mpr (congrArg (fun xq : Int32 => At 153 [.ref (108), .int (nI 11), .int (nI 0), z3, z4, z5] [.int xq, .ref (108)] ρ 0 0) (show rI ρ 108 7 = nI c from ((u0 108 7 (by unfold r3; omega)).trans h7))) ?_
    refine hAt 3 _ _ _ _ _ _ ?_
    refine Eq.mpr (congrArg (fun xq : Mem => At 158 [.ref (108), .int (nI 11), .int (nI 0), z3, z4, z5] [] xq 0 0) (congrArg (fun z => wI ρ 108 7 z) (adE rfl rfl))) ?_
    refine hAt 4 _ _ _ _ _ _ ?_
    refine And.intro (aOKx (n := 11) (j := 0) rfl (by decide) rfl rfl (by omega) (by omega)) ?_
    refine Eq.mpr (congrArg (fun xq : Int32 => At 164 [.ref (108), .int (nI 11), .int (nI 0), z3, z4, z5] [.int xq] (wI ρ 108 7 (nI (c + 1))) 0 0) (show rI (wI ρ 108 7 (nI (c + 1))) 110 (nI 0).toNatClampNeg = nI (kT k 0) from (ldE rfl (by omega) (by rw [rI_wI, if_neg (by omega)]; exact ((u0 110 0 (by unfold r3; omega)).trans (hQ.1 0 (by omega))))))) ?_
    refine hAt 7 _ _ _ _ _ _ ?_
    refine And.intro (aOKx (n := 11) (j := 1) rfl (by decide) rfl rfl (by omega) (by omega)) ?_
    refine Eq.mpr (congrArg (fun xq : Int32 => At 173 [.ref (108), .int (nI 11), .int (nI 0), .int ((nI (kT k 0)) - nI 1), z4, z5] [.int xq] (wI ρ 108 7 (nI (c + 1))) 0 0) (show rI (wI ρ 108 7 (nI (c + 1))) 110 (nI 1).toNatClampNeg = nI (kT k 1) from (ldE rfl (by omega) (by rw [rI_wI, if_neg (by omega)]; exact ((u0 110 1 (by unfold r3; omega)).trans (hQ.1 1 (by omega))))))) ?_
    refine hAt 5 _ _ _ _ _ _ ?_
    refine And.intro (And.intro (fun hq => absurd hq (by decide)) (And.intro (fun hq => absurd hq (by decide)) (And.intro (fun hq => absurd hq (by decide)) (And.intro (fun hq => absurd hq (by decide)) (And.intro (fun hq => absurd hq (by decide)) (And.intro (fun hq => absurd hq (by decide)) (And.intro (fun hq => absurd hq (by decide)) (And.intro (fun hq => absurd hq (by decide)) (And.intro (fun hq => absurd hq (by decide)) (And.intro (fun hq => absurd hq (by decide)) (And.intro (fun hq => absurd hq (by decide)) (trivial)))))))))))) (fun _ => ?_)
    refine hAt 4 _ _ _ _ _ _ ?_
    refine s_readsSeen hn hb (y0.fr (fun j hj => by rw [rI_wI, if_neg (by omega)]) (fun j => by rw [rI_wI, if_neg (by omega)])) hW (hQ.fr hv (fun a j q1 q2 => by rw [rI_wI, if_neg (by omega)]; exact u0 a j (by unfold r3; omega))) hv (fun τ1 u1 e1 y1 k1 => ?_)
    refine And.intro (fun _ => ?_) (fun hq => absurd hq (by decide))
    refine hAt 3 _ _ _ _ _ _ ?_
    refine s_closes (s := rdS b n 3 (e, 0, 0) k) hn hb y1 (fun τ9 u9 e9 y9 => ?_)
    refine good τ9 g1 g2 ⟨fun a j q => by unfold trQ at q; refine (u9 _ _ (by unfold r3; omega)).trans ?_; refine (u1 _ _ (by unfold r3; omega) (by omega)).trans ?_; rw [rI_wI, if_neg (by omega)]; exact u0 _ _ (by unfold r3; omega), e9.trans (e1.trans (e0))⟩ y9 (fun hf => ⟨(u9 108 7 (by unfold r3; omega)).trans ((u1 108 7 (by unfold r3; omega) (by omega)).trans (by rw [rI_wI, if_pos ⟨rfl, rfl⟩])), ?_⟩)
    have hk1 := k1 hf
    have hvk : VS (rdK b n 3 (e, 0, 0) k) := VS.rd 3 (by decide) hv rfl (fun z => by cases z) hf
    exact hk1.fr hvk (fun a j q1 q2 => u9 a j (by unfold r3; omega))
  have skip : ¬ (60 ≤ c ∨ fuA k 3 = true) → ¬ (3 = 0 ∧ 0 < c) → ∀ j, j ≤ n → wE b n j = e → ∀ z3 z4 z5, At 109 [.ref 108, .int (nI 11), .int (nI 0), z3, z4, z5] [] (wI σ 108 4 (nI j)) 0 0 := by
    intro g1 g2
    refine upto fun j hj ih => ?_
    intro hw z3 z4 z5
    have hz := zb_b hb j
    have hB2 : rmB b n (wI σ 108 4 (nI j)) := ⟨hB.1, fun j hj => hB.2 j hj⟩
    have out : ¬ (97 ≤ zb b n j ∧ zb b n j ≤ 122) → At 148 [.ref 108, .int (nI 11), .int (nI 0), z3, z4, z5] [] (wI σ 108 4 (nI j)) 0 0 := fun q => by
      have ej : j = e := by rw [← hw, wE, pE_e (fun z => q (by have := of_decide_eq_true z.2; rw [zb_in z.1]; omega))]
      rw [ej]
      exact body g1 g2 _ z3 z4 z5 (fr3 (fun _ _ _ => rfl) (by omega) _) rfl ⟨⟨hB.1, hB.2⟩, ⟨e, hen, rfl, fun _ => rfl⟩, ⟨Nat.zero_le _, h5⟩, h6⟩
    refine hAt 3 _ _ _ _ _ _ ?_
    refine Eq.mpr (congrArg (fun xq : Int32 => At 114 [.ref (108), .int (nI 11), .int (nI 0), z3, z4, z5] [.int xq, .ref (108)] (wI σ 108 4 (nI j)) 0 0) (show rI (wI σ 108 4 (nI j)) 108 4 = nI j from (by rw [rI_wI, if_pos ⟨rfl, rfl⟩]))) ?_
    refine hAt 3 _ _ _ _ _ _ ?_
    refine s_byteAt hn hB2 (by omega) ?_
    refine And.intro (fun hq => ?_) (fun hq => ?_)
    · have c119 : (zb b n j : Int) < 97 := (ltZ (a := zb b n j) (b := 97) rfl (ntZ rfl) (by omega) (by omega) (by omega) (by omega)).mp hq
      clear hq
      exact out (by omega)
    · have c119 : (97 : Int) ≤ (zb b n j : Int) := Int.not_lt.mp (fun zq => hq ((ltZ (a := zb b n j) (b := 97) rfl (ntZ rfl) (by omega) (by omega) (by omega) (by omega)).mpr zq))
      clear hq
      refine hAt 3 _ _ _ _ _ _ ?_
      refine Eq.mpr (congrArg (fun xq : Int32 => At 127 [.ref (108), .int (nI 11), .int (nI 0), z3, z4, z5] [.int xq, .ref (108)] (wI σ 108 4 (nI j)) 0 0) (show rI (wI σ 108 4 (nI j)) 108 4 = nI j from (by rw [rI_wI, if_pos ⟨rfl, rfl⟩]))) ?_
      refine hAt 3 _ _ _ _ _ _ ?_
      refine s_byteAt hn hB2 (by omega) ?_
      refine And.intro (fun hq => ?_) (fun hq => ?_)
      · have c132 : (122 : Int) < zb b n j := (ltZ (a := 122) (b := zb b n j) (ntZ rfl) rfl (by omega) (by omega) (by omega) (by omega)).mp hq
        clear hq
        exact out (by omega)
      · have c132 : (zb b n j : Int) ≤ (122 : Int) := Int.not_lt.mp (fun zq => hq ((ltZ (a := 122) (b := zb b n j) (ntZ rfl) rfl (by omega) (by omega) (by omega) (by omega)).mpr zq))
        clear hq
        refine hAt 3 _ _ _ _ _ _ ?_
        refine Eq.mpr (congrArg (fun xq : Int32 => At 140 [.ref (108), .int (nI 11), .int (nI 0), z3, z4, z5] [.int xq, .ref (108)] (wI σ 108 4 (nI j)) 0 0) (show rI (wI σ 108 4 (nI j)) 108 4 = nI j from (by rw [rI_wI, if_pos ⟨rfl, rfl⟩]))) ?_
        refine hAt 3 _ _ _ _ _ _ ?_
        refine Eq.mpr (congrArg (fun xq : Mem => At 145 [.ref (108), .int (nI 11), .int (nI 0), z3, z4, z5] [] xq 0 0) (congrArg (fun z => wI (wI σ 108 4 (nI j)) 108 4 z) (adE rfl rfl))) ?_
        refine hAt 1 _ _ _ _ _ _ ?_
        obtain ⟨q1, q2⟩ := zb_p (b := b) (n := n) (k := j) (z := 97) (by omega) c119
        have z := ih q1 (by rw [← hw]; exact (pE_s q1 (decide_eq_true (by omega))).symm) z3 z4 z5
        rw [← wI_wI σ 108 4 (nI j) (nI (j + 1))] at z
        exact z
  refine hAt 8 _ _ _ _ _ _ ?_
  refine s_kindHere hn hb hB h3 hi hs h5 ?_
  rw [hk]
  refine s_in ?_
  rw [show decide (¬ nI 11 < nI 2 ∧ ¬ nI 4 < nI 11) = false from by decide]
  refine And.intro (fun hq => absurd hq (by decide)) (fun _ => ?_)
  refine hAt 3 _ _ _ _ _ _ ?_
  refine And.intro (fun _ => ?_) (fun hq => absurd hq (by decide))
  refine hAt 5 _ _ _ _ _ _ ?_
  refine And.intro (fun hq => ?_) (fun hq => ?_)
  · have c28 : ¬ (11 : Int) = -1 := fun zq => hq ((eqZ (a := 11) (b := -1) (ntZ rfl) m1Z (by omega) (by omega) (by omega) (by omega)).mpr zq)
    clear hq
    refine hAt 2 _ _ _ _ _ _ ?_
    refine Eq.mpr (congrArg (fun xq : Int32 => At 47 [.ref (108), .int (nI 11), .int (nI 0), junk, junk, junk] [.int xq] σ 0 0) (show rI σ 108 7 = nI c from h7)) ?_
    refine hAt 2 _ _ _ _ _ _ ?_
    refine And.intro (fun hq => ?_) (fun hq => ?_)
    · have c49 : c = 60 := (eqN (a := c) (b := 60) rfl rfl (by omega) (by omega)).mp hq
      clear hq
      refine hAt 4 _ _ _ _ _ _ ?_
      refine Eq.mpr (congrArg (fun xq : Int32 => At 75 [.ref (108), .int (nI 11), .int (nI 0), junk, junk, junk] [.int xq, .int (nI 3), .ref (108)] σ 0 0) (show rI σ 108 4 = nI s.1 from h3)) ?_
      refine hAt 4 _ _ _ _ _ _ ?_
      refine s_wrong0 h5 ?_
      refine Eq.mpr (congrArg (fun xq : Int32 => At 105 [.ref (108), .int (nI 11), .int (nI 0), junk, junk, junk] [.int xq] (wI (wI σ 108 5 (nI 3)) 108 6 (nI s.1)) 0 0) (show rI (wI (wI σ 108 5 (nI 3)) 108 6 (nI s.1)) 108 5 = nI 3 from (by rw [rI_wI, if_neg (by omega), rI_wI, if_pos ⟨rfl, rfl⟩]))) ?_
      refine hAt 1 _ _ _ _ _ _ ?_
      refine And.intro (fun hq => absurd hq (by decide)) (fun _ => ?_)
      refine hAt 1 _ _ _ _ _ _ ?_
      exact bad 3 (by decide) (hcl.trans (if_pos (Or.inl (by omega))))
    · have c49 : ¬ c = 60 := fun zq => hq ((eqN (a := c) (b := 60) rfl rfl (by omega) (by omega)).mpr zq)
      clear hq
      refine hAt 2 _ _ _ _ _ _ ?_
      refine And.intro (fun _ => ?_) (fun hq => absurd hq (by decide))
      refine hAt 2 _ _ _ _ _ _ ?_
      refine And.intro (fun _ => ?_) (fun hq => absurd hq (by decide))
      refine hAt 2 _ _ _ _ _ _ ?_
      refine Eq.mpr (congrArg (fun xq : Int32 => At 105 [.ref (108), .int (nI 11), .int (nI 0), junk, junk, junk] [.int xq] σ 0 0) (show rI σ 108 5 = nI 0 from h5)) ?_
      refine hAt 1 _ _ _ _ _ _ ?_
      refine And.intro (fun _ => ?_) (fun hq => absurd hq (by decide))
      have z := skip (fun z => z.elim (fun z => by omega) (fun z => by cases z)) (fun z => absurd z.1 (by decide)) s.1 hi (by rw [ee]) junk junk junk
      rw [wI_self h3] at z
      exact z
  · have c28 : (11 : Int) = -1 := (eqZ (a := 11) (b := -1) (ntZ rfl) m1Z (by omega) (by omega) (by omega) (by omega)).mp hq
    clear hq
    exact absurd c28 (by omega)
set_option maxRecDepth 4000 in
theorem s_cl_4 {c : Nat} (hc : c ≤ 60) (hn : n ≤ 600) (hb : ∀ j, j < n → b j < 256) (hR : rmC b n s σ) (h0 : s.2.1 = 0) (hs : bS b n s.1 = s.1) (h7 : rI σ 108 7 = nI c) (hQ : skQ σ k) (hv : VS k) (hw : woA b n s.1 = some 4) (hP : ∀ τ, frQ σ τ → rmC b n (clS b n c s.1 k) τ → ((clS b n c s.1 k).2.1 = 0 → rI τ 108 7 = nI (c + 1) ∧ skQ τ (clK b n c s.1 k)) → P none τ) : Ret w true (d + 6) 0 0 m_Mo_clause [.ref 108] σ P X := by
  obtain ⟨h3, hi⟩ := hR.at0 h0
  obtain ⟨hB, -, ⟨-, h5⟩, h6⟩ := hR
  have h5 : rI σ 108 5 = nI 0 := h5.trans (congrArg nI h0)
  have h6 : rI σ 108 6 = -1 := h6.trans (if_pos h0)
  have vs := hv
  obtain ⟨v1, v2, v3, v4, v5, v6, v7, v8, v9, v10, v11, -⟩ := vs
  have hW : kT k 0 ≤ 8 ∧ kT k 1 ≤ 8 := ⟨v1.2, v2.2⟩
  have bad : ∀ f, f ≠ 0 ∧ f ≤ 4 → clS b n c s.1 k = (0, f, s.1) → P none (wI (wI σ 108 5 (nI f)) 108 6 (nI s.1)) := fun f hf he => by
    refine hP _ ⟨fun a j q => by unfold trQ at q; rw [rI_wI, if_neg (by omega), rI_wI, if_neg (by omega)], rfl⟩ ?_ (fun z => ?_)
    · rw [he]; exact ⟨⟨hB.1, hB.2⟩, ⟨s.1, hi, h3, fun z => absurd z hf.1⟩, ⟨hf.2, rfl⟩, by rw [plI, if_neg hf.1]; rfl⟩
    · rw [he] at z; exact absurd z hf.1
  have hk : kdI b n s.1 = nI 3 := by unfold kdI; rw [hw]; rfl
  obtain ⟨e, ee⟩ : ∃ e, e = wE b n s.1 := ⟨_, rfl⟩
  have hen : e ≤ n := by rw [ee]; exact pE_le isLe b n _ hi
  have hcl : clS b n c s.1 k = if 60 ≤ c ∨ fuA k 4 = true then (0, 3, s.1) else if 4 = 0 ∧ 0 < c then (0, 4, s.1) else enA b n (rdS b n 4 (e, 0, 0) k) := by unfold clS; rw [hw, ee]
  have hck : clK b n c s.1 k = if 60 ≤ c ∨ fuA k 4 = true then k else if 4 = 0 ∧ 0 < c then k else rdK b n 4 (e, 0, 0) k := by unfold clK; rw [hw, ee]
  have good : ∀ τ, ¬ (60 ≤ c ∨ fuA k 4 = true) → ¬ (4 = 0 ∧ 0 < c) → frQ σ τ → rmC b n (enA b n (rdS b n 4 (e, 0, 0) k)) τ → ((rdS b n 4 (e, 0, 0) k).2.1 = 0 → rI τ 108 7 = nI (c + 1) ∧ skQ τ (rdK b n 4 (e, 0, 0) k)) → P none τ := fun τ g1 g2 g3 g4 g5 => by
    rw [if_neg g1, if_neg g2] at hcl hck
    refine hP τ g3 (by rw [hcl]; exact g4) (fun z => ?_)
    rw [hcl] at z
    rw [hck]
    exact g5 (enA_f0 z)
  refine meth_ok k_Mo_clause q_Mo_clause rfl fun At hAt => ?_
  have body : ¬ (60 ≤ c ∨ fuA k 4 = true) → ¬ (4 = 0 ∧ 0 < c) → ∀ ρ z3 z4 z5, (∀ a j, ¬ r3 a j → rI ρ a j = rI σ a j) → ρ.2 = σ.2 → rmC b n (e, 0, 0) ρ → At 148 [.ref 108, .int (nI 3), .int (nI 1), z3, z4, z5] [] ρ 0 0 := by
    intro g1 g2 ρ z3 z4 z5 u0 e0 y0
    have hlt : kT k 3 < 12 := Nat.lt_of_not_le (fun z => g1 (Or.inr (decide_eq_true z)))
    refine hAt 3 _ _ _ _ _ _ ?_
    refine Eq.mpr (congrArg (fun xq : Int32 => At 153 [.ref (108), .int (nI 3), .int (nI 1), z3, z4, z5] [.int xq, .ref (108)] ρ 0 0) (show rI ρ 108 7 = nI c from ((u0 108 7 (by unfold r3; omega)).trans h7))) ?_
    refine hAt 3 _ _ _ _ _ _ ?_
    refine Eq.mpr (congrArg (fun xq : Mem => At 158 [.ref (108), .int (nI 3), .int (nI 1), z3, z4, z5] [] xq 0 0) (congrArg (fun z => wI ρ 108 7 z) (adE rfl rfl))) ?_
    refine hAt 4 _ _ _ _ _ _ ?_
    refine And.intro (aOKx (n := 11) (j := 0) rfl (by decide) rfl rfl (by omega) (by omega)) ?_
    refine Eq.mpr (congrArg (fun xq : Int32 => At 164 [.ref (108), .int (nI 3), .int (nI 1), z3, z4, z5] [.int xq] (wI ρ 108 7 (nI (c + 1))) 0 0) (show rI (wI ρ 108 7 (nI (c + 1))) 110 (nI 0).toNatClampNeg = nI (kT k 0) from (ldE rfl (by omega) (by rw [rI_wI, if_neg (by omega)]; exact ((u0 110 0 (by unfold r3; omega)).trans (hQ.1 0 (by omega))))))) ?_
    refine hAt 7 _ _ _ _ _ _ ?_
    refine And.intro (aOKx (n := 11) (j := 1) rfl (by decide) rfl rfl (by omega) (by omega)) ?_
    refine Eq.mpr (congrArg (fun xq : Int32 => At 173 [.ref (108), .int (nI 3), .int (nI 1), .int ((nI (kT k 0)) - nI 1), z4, z5] [.int xq] (wI ρ 108 7 (nI (c + 1))) 0 0) (show rI (wI ρ 108 7 (nI (c + 1))) 110 (nI 1).toNatClampNeg = nI (kT k 1) from (ldE rfl (by omega) (by rw [rI_wI, if_neg (by omega)]; exact ((u0 110 1 (by unfold r3; omega)).trans (hQ.1 1 (by omega))))))) ?_
    refine hAt 5 _ _ _ _ _ _ ?_
    refine And.intro (And.intro (fun hq => absurd hq (by decide)) (And.intro (fun hq => absurd hq (by decide)) (And.intro (fun hq => absurd hq (by decide)) (And.intro (fun _ => ?_) (And.intro (fun hq => absurd hq (by decide)) (And.intro (fun hq => absurd hq (by decide)) (And.intro (fun hq => absurd hq (by decide)) (And.intro (fun hq => absurd hq (by decide)) (And.intro (fun hq => absurd hq (by decide)) (And.intro (fun hq => absurd hq (by decide)) (And.intro (fun hq => absurd hq (by decide)) (trivial)))))))))))) (fun hq => absurd hq (by decide))
    refine hAt 7 _ _ _ _ _ _ ?_
    refine And.intro (aOKx (n := 11) (j := 3) rfl (by decide) rfl rfl (by omega) (by omega)) ?_
    refine Eq.mpr (congrArg (fun xq : Int32 => At 297 [.ref (108), .int (nI 3), .int (nI 1), .int ((nI (kT k 0)) - nI 1), .int ((nI (kT k 1)) - nI 1), z5] [.int xq, .ref (150), .ref (108)] (wI ρ 108 7 (nI (c + 1))) 0 0) (show rI (wI ρ 108 7 (nI (c + 1))) 110 (nI 3).toNatClampNeg = nI (kT k 3) from (ldE rfl (by omega) (by rw [rI_wI, if_neg (by omega)]; exact ((u0 110 3 (by unfold r3; omega)).trans (hQ.1 3 (by omega))))))) ?_
    refine hAt 1 _ _ _ _ _ _ ?_
    refine And.intro (mx_r (q := 150) (n := 12) (k := 6) rfl rfl (show kT k 3 < 12 by omega)) (And.intro (Or.inl rfl) ?_)
    refine Eq.mpr (congrArg (fun xq : Nat => At 298 [.ref (108), .int (nI 3), .int (nI 1), .int ((nI (kT k 0)) - nI 1), .int ((nI (kT k 1)) - nI 1), z5] [.ref xq, .ref (108)] (wI ρ 108 7 (nI (c + 1))) 0 0) (rwE rfl (by omega))) ?_
    refine hAt 2 _ _ _ _ _ _ ?_
    refine Eq.mpr (congrArg (fun xq : Int32 => At 301 [.ref (108), .int (nI 3), .int (nI 1), .int ((nI (kT k 0)) - nI 1), .int ((nI (kT k 1)) - nI 1), z5] [.int ((nI (kT k 1)) - nI 1), .int xq, .ref (150 + 1 + (kT k 3)), .ref (108)] (wI ρ 108 7 (nI (c + 1))) 0 0) (show (nI (kT k 0)) - nI 1 = iZ (((kT k 0 : Nat) : Int) - 1) from (sbZ (ntZ rfl) (ntZ rfl)))) ?_
    refine Eq.mpr (congrArg (fun xq : Int32 => At 301 [.ref (108), .int (nI 3), .int (nI 1), .int ((nI (kT k 0)) - nI 1), .int ((nI (kT k 1)) - nI 1), z5] [.int xq, .int (iZ (((kT k 0 : Nat) : Int) - 1)), .ref (150 + 1 + (kT k 3)), .ref (108)] (wI ρ 108 7 (nI (c + 1))) 0 0) (show (nI (kT k 1)) - nI 1 = iZ (((kT k 1 : Nat) : Int) - 1) from (sbZ (ntZ rfl) (ntZ rfl)))) ?_
    refine hAt 4 _ _ _ _ _ _ ?_
    refine s_readsField hn hb (y0.fr (fun j hj => by rw [rI_wI, if_neg (by omega)]) (fun j => by rw [rI_wI, if_neg (by omega)])) hW (hQ.fr hv (fun a j q1 q2 => by rw [rI_wI, if_neg (by omega)]; exact u0 a j (by unfold r3; omega))) hv hlt (fun τ1 u1 e1 y1 k1 => ?_)
    refine And.intro (fun hq => absurd hq (by decide)) (fun _ => ?_)
    refine hAt 5 _ _ _ _ _ _ ?_
    refine And.intro (aOKx (n := 11) (j := 3) rfl (by decide) rfl rfl (by omega) (by omega)) ?_
    refine Eq.mpr (congrArg (fun xq : Int32 => At 485 [.ref (108), .int (nI 3), .int (nI 1), .int ((nI (kT k 0)) - nI 1), .int ((nI (kT k 1)) - nI 1), z5] [.int xq, .int (nI 3), .ref (110)] τ1 0 0) (show rI τ1 110 (nI 3).toNatClampNeg = nI (kT k 3) from (ldE rfl (by omega) ((u1 110 3 (by unfold r3; omega) (by omega)).trans (by rw [rI_wI, if_neg (by omega)]; exact ((u0 110 3 (by unfold r3; omega)).trans (hQ.1 3 (by omega)))))))) ?_
    refine hAt 3 _ _ _ _ _ _ ?_
    refine And.intro (aOKx (n := 11) (j := 3) rfl (by decide) rfl rfl (by omega) (by omega)) ?_
    refine Eq.mpr (congrArg (fun xq : Mem => At 488 [.ref (108), .int (nI 3), .int (nI 1), .int ((nI (kT k 0)) - nI 1), .int ((nI (kT k 1)) - nI 1), z5] [] xq 0 0) (wrE (σ := τ1) (q := 110) (p := rfl) (hj := by omega) (h := (adE rfl rfl)))) ?_
    refine hAt 3 _ _ _ _ _ _ ?_
    refine s_closes (s := rdS b n 4 (e, 0, 0) k) hn hb (y1.fr (fun j hj => by rw [rI_wI, if_neg (by omega)]) (fun j => by rw [rI_wI, if_neg (by omega)])) (fun τ9 u9 e9 y9 => ?_)
    refine good τ9 g1 g2 ⟨fun a j q => by unfold trQ at q; refine (u9 _ _ (by unfold r3; omega)).trans ?_; rw [rI_wI, if_neg (by omega)]; refine (u1 _ _ (by unfold r3; omega) (by omega)).trans ?_; rw [rI_wI, if_neg (by omega)]; exact u0 _ _ (by unfold r3; omega), e9.trans (e1.trans (e0))⟩ y9 (fun hf => ⟨(u9 108 7 (by unfold r3; omega)).trans (by rw [rI_wI, if_neg (by omega)]; exact ((u1 108 7 (by unfold r3; omega) (by omega)).trans (by rw [rI_wI, if_pos ⟨rfl, rfl⟩]))), ?_⟩)
    exact hQ.pf (r := _) hv (fun a j q1 q2 q3 => (u9 a j (by unfold r3; omega)).trans (by rw [rI_wI, if_neg (by omega)]; refine (u1 _ _ (by unfold r3; omega) (by omega)).trans ?_; rw [rI_wI, if_neg (by omega)]; exact u0 _ _ (by unfold r3; omega))) ((u9 110 3 (by unfold r3; omega)).trans (by rw [rI_wI, if_pos ⟨rfl, rfl⟩])) (fun j hj => (u9 _ _ (by unfold r3; omega)).trans (by rw [rI_wI, if_neg (by omega)]; exact k1 hf j hj)) hlt
  have skip : ¬ (60 ≤ c ∨ fuA k 4 = true) → ¬ (4 = 0 ∧ 0 < c) → ∀ j, j ≤ n → wE b n j = e → ∀ z3 z4 z5, At 109 [.ref 108, .int (nI 3), .int (nI 1), z3, z4, z5] [] (wI σ 108 4 (nI j)) 0 0 := by
    intro g1 g2
    refine upto fun j hj ih => ?_
    intro hw z3 z4 z5
    have hz := zb_b hb j
    have hB2 : rmB b n (wI σ 108 4 (nI j)) := ⟨hB.1, fun j hj => hB.2 j hj⟩
    have out : ¬ (97 ≤ zb b n j ∧ zb b n j ≤ 122) → At 148 [.ref 108, .int (nI 3), .int (nI 1), z3, z4, z5] [] (wI σ 108 4 (nI j)) 0 0 := fun q => by
      have ej : j = e := by rw [← hw, wE, pE_e (fun z => q (by have := of_decide_eq_true z.2; rw [zb_in z.1]; omega))]
      rw [ej]
      exact body g1 g2 _ z3 z4 z5 (fr3 (fun _ _ _ => rfl) (by omega) _) rfl ⟨⟨hB.1, hB.2⟩, ⟨e, hen, rfl, fun _ => rfl⟩, ⟨Nat.zero_le _, h5⟩, h6⟩
    refine hAt 3 _ _ _ _ _ _ ?_
    refine Eq.mpr (congrArg (fun xq : Int32 => At 114 [.ref (108), .int (nI 3), .int (nI 1), z3, z4, z5] [.int xq, .ref (108)] (wI σ 108 4 (nI j)) 0 0) (show rI (wI σ 108 4 (nI j)) 108 4 = nI j from (by rw [rI_wI, if_pos ⟨rfl, rfl⟩]))) ?_
    refine hAt 3 _ _ _ _ _ _ ?_
    refine s_byteAt hn hB2 (by omega) ?_
    refine And.intro (fun hq => ?_) (fun hq => ?_)
    · have c119 : (zb b n j : Int) < 97 := (ltZ (a := zb b n j) (b := 97) rfl (ntZ rfl) (by omega) (by omega) (by omega) (by omega)).mp hq
      clear hq
      exact out (by omega)
    · have c119 : (97 : Int) ≤ (zb b n j : Int) := Int.not_lt.mp (fun zq => hq ((ltZ (a := zb b n j) (b := 97) rfl (ntZ rfl) (by omega) (by omega) (by omega) (by omega)).mpr zq))
      clear hq
      refine hAt 3 _ _ _ _ _ _ ?_
      refine Eq.mpr (congrArg (fun xq : Int32 => At 127 [.ref (108), .int (nI 3), .int (nI 1), z3, z4, z5] [.int xq, .ref (108)] (wI σ 108 4 (nI j)) 0 0) (show rI (wI σ 108 4 (nI j)) 108 4 = nI j from (by rw [rI_wI, if_pos ⟨rfl, rfl⟩]))) ?_
      refine hAt 3 _ _ _ _ _ _ ?_
      refine s_byteAt hn hB2 (by omega) ?_
      refine And.intro (fun hq => ?_) (fun hq => ?_)
      · have c132 : (122 : Int) < zb b n j := (ltZ (a := 122) (b := zb b n j) (ntZ rfl) rfl (by omega) (by omega) (by omega) (by omega)).mp hq
        clear hq
        exact out (by omega)
      · have c132 : (zb b n j : Int) ≤ (122 : Int) := Int.not_lt.mp (fun zq => hq ((ltZ (a := 122) (b := zb b n j) (ntZ rfl) rfl (by omega) (by omega) (by omega) (by omega)).mpr zq))
        clear hq
        refine hAt 3 _ _ _ _ _ _ ?_
        refine Eq.mpr (congrArg (fun xq : Int32 => At 140 [.ref (108), .int (nI 3), .int (nI 1), z3, z4, z5] [.int xq, .ref (108)] (wI σ 108 4 (nI j)) 0 0) (show rI (wI σ 108 4 (nI j)) 108 4 = nI j from (by rw [rI_wI, if_pos ⟨rfl, rfl⟩]))) ?_
        refine hAt 3 _ _ _ _ _ _ ?_
        refine Eq.mpr (congrArg (fun xq : Mem => At 145 [.ref (108), .int (nI 3), .int (nI 1), z3, z4, z5] [] xq 0 0) (congrArg (fun z => wI (wI σ 108 4 (nI j)) 108 4 z) (adE rfl rfl))) ?_
        refine hAt 1 _ _ _ _ _ _ ?_
        obtain ⟨q1, q2⟩ := zb_p (b := b) (n := n) (k := j) (z := 97) (by omega) c119
        have z := ih q1 (by rw [← hw]; exact (pE_s q1 (decide_eq_true (by omega))).symm) z3 z4 z5
        rw [← wI_wI σ 108 4 (nI j) (nI (j + 1))] at z
        exact z
  refine hAt 8 _ _ _ _ _ _ ?_
  refine s_kindHere hn hb hB h3 hi hs h5 ?_
  rw [hk]
  refine s_in ?_
  rw [show decide (¬ nI 3 < nI 2 ∧ ¬ nI 4 < nI 3) = true from by decide]
  refine And.intro (fun _ => ?_) (fun hq => absurd hq (by decide))
  refine hAt 6 _ _ _ _ _ _ ?_
  refine And.intro (fun hq => ?_) (fun hq => ?_)
  · have c28 : ¬ (3 : Int) = -1 := fun zq => hq ((eqZ (a := 3) (b := -1) (ntZ rfl) m1Z (by omega) (by omega) (by omega) (by omega)).mpr zq)
    clear hq
    refine hAt 2 _ _ _ _ _ _ ?_
    refine Eq.mpr (congrArg (fun xq : Int32 => At 47 [.ref (108), .int (nI 3), .int (nI 1), junk, junk, junk] [.int xq] σ 0 0) (show rI σ 108 7 = nI c from h7)) ?_
    refine hAt 2 _ _ _ _ _ _ ?_
    refine And.intro (fun hq => ?_) (fun hq => ?_)
    · have c49 : c = 60 := (eqN (a := c) (b := 60) rfl rfl (by omega) (by omega)).mp hq
      clear hq
      refine hAt 4 _ _ _ _ _ _ ?_
      refine Eq.mpr (congrArg (fun xq : Int32 => At 75 [.ref (108), .int (nI 3), .int (nI 1), junk, junk, junk] [.int xq, .int (nI 3), .ref (108)] σ 0 0) (show rI σ 108 4 = nI s.1 from h3)) ?_
      refine hAt 4 _ _ _ _ _ _ ?_
      refine s_wrong0 h5 ?_
      refine Eq.mpr (congrArg (fun xq : Int32 => At 105 [.ref (108), .int (nI 3), .int (nI 1), junk, junk, junk] [.int xq] (wI (wI σ 108 5 (nI 3)) 108 6 (nI s.1)) 0 0) (show rI (wI (wI σ 108 5 (nI 3)) 108 6 (nI s.1)) 108 5 = nI 3 from (by rw [rI_wI, if_neg (by omega), rI_wI, if_pos ⟨rfl, rfl⟩]))) ?_
      refine hAt 1 _ _ _ _ _ _ ?_
      refine And.intro (fun hq => absurd hq (by decide)) (fun _ => ?_)
      refine hAt 1 _ _ _ _ _ _ ?_
      exact bad 3 (by decide) (hcl.trans (if_pos (Or.inl (by omega))))
    · have c49 : ¬ c = 60 := fun zq => hq ((eqN (a := c) (b := 60) rfl rfl (by omega) (by omega)).mpr zq)
      clear hq
      refine hAt 2 _ _ _ _ _ _ ?_
      refine And.intro (fun hq => absurd hq (by decide)) (fun _ => ?_)
      refine hAt 4 _ _ _ _ _ _ ?_
      refine And.intro (aOKx (n := 11) (j := 3) rfl (by decide) rfl rfl (by omega) (by omega)) ?_
      refine Eq.mpr (congrArg (fun xq : Int32 => At 62 [.ref (108), .int (nI 3), .int (nI 1), junk, junk, junk] [.int xq] σ 0 0) (show rI σ 110 (nI 3).toNatClampNeg = nI (kT k 3) from (ldE rfl (by omega) (hQ.1 3 (by omega))))) ?_
      refine hAt 3 _ _ _ _ _ _ ?_
      refine s_mostOf3 ?_
      refine And.intro (fun hq => ?_) (fun hq => ?_)
      · have c66 : ¬ kT k 3 = 12 := fun zq => hq ((eqN (a := kT k 3) (b := 12) rfl rfl (by omega) (by omega)).mpr zq)
        clear hq
        refine hAt 2 _ _ _ _ _ _ ?_
        refine And.intro (fun _ => ?_) (fun hq => absurd hq (by decide))
        refine hAt 2 _ _ _ _ _ _ ?_
        refine Eq.mpr (congrArg (fun xq : Int32 => At 105 [.ref (108), .int (nI 3), .int (nI 1), junk, junk, junk] [.int xq] σ 0 0) (show rI σ 108 5 = nI 0 from h5)) ?_
        refine hAt 1 _ _ _ _ _ _ ?_
        refine And.intro (fun _ => ?_) (fun hq => absurd hq (by decide))
        have z := skip (fun z => z.elim (fun z => by omega) (fun z => by have := of_decide_eq_true (show decide (12 ≤ kT k 3) = true from z); omega)) (fun z => absurd z.1 (by decide)) s.1 hi (by rw [ee]) junk junk junk
        rw [wI_self h3] at z
        exact z
      · have c66 : kT k 3 = 12 := (eqN (a := kT k 3) (b := 12) rfl rfl (by omega) (by omega)).mp hq
        clear hq
        refine hAt 4 _ _ _ _ _ _ ?_
        refine Eq.mpr (congrArg (fun xq : Int32 => At 75 [.ref (108), .int (nI 3), .int (nI 1), junk, junk, junk] [.int xq, .int (nI 3), .ref (108)] σ 0 0) (show rI σ 108 4 = nI s.1 from h3)) ?_
        refine hAt 4 _ _ _ _ _ _ ?_
        refine s_wrong0 h5 ?_
        refine Eq.mpr (congrArg (fun xq : Int32 => At 105 [.ref (108), .int (nI 3), .int (nI 1), junk, junk, junk] [.int xq] (wI (wI σ 108 5 (nI 3)) 108 6 (nI s.1)) 0 0) (show rI (wI (wI σ 108 5 (nI 3)) 108 6 (nI s.1)) 108 5 = nI 3 from (by rw [rI_wI, if_neg (by omega), rI_wI, if_pos ⟨rfl, rfl⟩]))) ?_
        refine hAt 1 _ _ _ _ _ _ ?_
        refine And.intro (fun hq => absurd hq (by decide)) (fun _ => ?_)
        refine hAt 1 _ _ _ _ _ _ ?_
        exact bad 3 (by decide) (hcl.trans (if_pos (Or.inr (show decide (12 ≤ kT k 3) = true from decide_eq_true (by omega)))))
  · have c28 : (3 : Int) = -1 := (eqZ (a := 3) (b := -1) (ntZ rfl) m1Z (by omega) (by omega) (by omega) (by omega)).mp hq
    clear hq
    exact absurd c28 (by omega)
set_option maxRecDepth 4000 in
theorem s_cl_5 {c : Nat} (hc : c ≤ 60) (hn : n ≤ 600) (hb : ∀ j, j < n → b j < 256) (hR : rmC b n s σ) (h0 : s.2.1 = 0) (hs : bS b n s.1 = s.1) (h7 : rI σ 108 7 = nI c) (hQ : skQ σ k) (hv : VS k) (hw : woA b n s.1 = some 5) (hP : ∀ τ, frQ σ τ → rmC b n (clS b n c s.1 k) τ → ((clS b n c s.1 k).2.1 = 0 → rI τ 108 7 = nI (c + 1) ∧ skQ τ (clK b n c s.1 k)) → P none τ) : Ret w true (d + 6) 0 0 m_Mo_clause [.ref 108] σ P X := by
  obtain ⟨h3, hi⟩ := hR.at0 h0
  obtain ⟨hB, -, ⟨-, h5⟩, h6⟩ := hR
  have h5 : rI σ 108 5 = nI 0 := h5.trans (congrArg nI h0)
  have h6 : rI σ 108 6 = -1 := h6.trans (if_pos h0)
  have vs := hv
  obtain ⟨v1, v2, v3, v4, v5, v6, v7, v8, v9, v10, v11, -⟩ := vs
  have hW : kT k 0 ≤ 8 ∧ kT k 1 ≤ 8 := ⟨v1.2, v2.2⟩
  have bad : ∀ f, f ≠ 0 ∧ f ≤ 4 → clS b n c s.1 k = (0, f, s.1) → P none (wI (wI σ 108 5 (nI f)) 108 6 (nI s.1)) := fun f hf he => by
    refine hP _ ⟨fun a j q => by unfold trQ at q; rw [rI_wI, if_neg (by omega), rI_wI, if_neg (by omega)], rfl⟩ ?_ (fun z => ?_)
    · rw [he]; exact ⟨⟨hB.1, hB.2⟩, ⟨s.1, hi, h3, fun z => absurd z hf.1⟩, ⟨hf.2, rfl⟩, by rw [plI, if_neg hf.1]; rfl⟩
    · rw [he] at z; exact absurd z hf.1
  have hk : kdI b n s.1 = nI 4 := by unfold kdI; rw [hw]; rfl
  obtain ⟨e, ee⟩ : ∃ e, e = wE b n s.1 := ⟨_, rfl⟩
  have hen : e ≤ n := by rw [ee]; exact pE_le isLe b n _ hi
  have hcl : clS b n c s.1 k = if 60 ≤ c ∨ fuA k 5 = true then (0, 3, s.1) else if 5 = 0 ∧ 0 < c then (0, 4, s.1) else enA b n (rdS b n 5 (e, 0, 0) k) := by unfold clS; rw [hw, ee]
  have hck : clK b n c s.1 k = if 60 ≤ c ∨ fuA k 5 = true then k else if 5 = 0 ∧ 0 < c then k else rdK b n 5 (e, 0, 0) k := by unfold clK; rw [hw, ee]
  have good : ∀ τ, ¬ (60 ≤ c ∨ fuA k 5 = true) → ¬ (5 = 0 ∧ 0 < c) → frQ σ τ → rmC b n (enA b n (rdS b n 5 (e, 0, 0) k)) τ → ((rdS b n 5 (e, 0, 0) k).2.1 = 0 → rI τ 108 7 = nI (c + 1) ∧ skQ τ (rdK b n 5 (e, 0, 0) k)) → P none τ := fun τ g1 g2 g3 g4 g5 => by
    rw [if_neg g1, if_neg g2] at hcl hck
    refine hP τ g3 (by rw [hcl]; exact g4) (fun z => ?_)
    rw [hcl] at z
    rw [hck]
    exact g5 (enA_f0 z)
  refine meth_ok k_Mo_clause q_Mo_clause rfl fun At hAt => ?_
  have body : ¬ (60 ≤ c ∨ fuA k 5 = true) → ¬ (5 = 0 ∧ 0 < c) → ∀ ρ z3 z4 z5, (∀ a j, ¬ r3 a j → rI ρ a j = rI σ a j) → ρ.2 = σ.2 → rmC b n (e, 0, 0) ρ → At 148 [.ref 108, .int (nI 4), .int (nI 1), z3, z4, z5] [] ρ 0 0 := by
    intro g1 g2 ρ z3 z4 z5 u0 e0 y0
    have hlt : kT k 4 < 3 := Nat.lt_of_not_le (fun z => g1 (Or.inr (decide_eq_true z)))
    refine hAt 3 _ _ _ _ _ _ ?_
    refine Eq.mpr (congrArg (fun xq : Int32 => At 153 [.ref (108), .int (nI 4), .int (nI 1), z3, z4, z5] [.int xq, .ref (108)] ρ 0 0) (show rI ρ 108 7 = nI c from ((u0 108 7 (by unfold r3; omega)).trans h7))) ?_
    refine hAt 3 _ _ _ _ _ _ ?_
    refine Eq.mpr (congrArg (fun xq : Mem => At 158 [.ref (108), .int (nI 4), .int (nI 1), z3, z4, z5] [] xq 0 0) (congrArg (fun z => wI ρ 108 7 z) (adE rfl rfl))) ?_
    refine hAt 4 _ _ _ _ _ _ ?_
    refine And.intro (aOKx (n := 11) (j := 0) rfl (by decide) rfl rfl (by omega) (by omega)) ?_
    refine Eq.mpr (congrArg (fun xq : Int32 => At 164 [.ref (108), .int (nI 4), .int (nI 1), z3, z4, z5] [.int xq] (wI ρ 108 7 (nI (c + 1))) 0 0) (show rI (wI ρ 108 7 (nI (c + 1))) 110 (nI 0).toNatClampNeg = nI (kT k 0) from (ldE rfl (by omega) (by rw [rI_wI, if_neg (by omega)]; exact ((u0 110 0 (by unfold r3; omega)).trans (hQ.1 0 (by omega))))))) ?_
    refine hAt 7 _ _ _ _ _ _ ?_
    refine And.intro (aOKx (n := 11) (j := 1) rfl (by decide) rfl rfl (by omega) (by omega)) ?_
    refine Eq.mpr (congrArg (fun xq : Int32 => At 173 [.ref (108), .int (nI 4), .int (nI 1), .int ((nI (kT k 0)) - nI 1), z4, z5] [.int xq] (wI ρ 108 7 (nI (c + 1))) 0 0) (show rI (wI ρ 108 7 (nI (c + 1))) 110 (nI 1).toNatClampNeg = nI (kT k 1) from (ldE rfl (by omega) (by rw [rI_wI, if_neg (by omega)]; exact ((u0 110 1 (by unfold r3; omega)).trans (hQ.1 1 (by omega))))))) ?_
    refine hAt 5 _ _ _ _ _ _ ?_
    refine And.intro (And.intro (fun hq => absurd hq (by decide)) (And.intro (fun hq => absurd hq (by decide)) (And.intro (fun hq => absurd hq (by decide)) (And.intro (fun hq => absurd hq (by decide)) (And.intro (fun _ => ?_) (And.intro (fun hq => absurd hq (by decide)) (And.intro (fun hq => absurd hq (by decide)) (And.intro (fun hq => absurd hq (by decide)) (And.intro (fun hq => absurd hq (by decide)) (And.intro (fun hq => absurd hq (by decide)) (And.intro (fun hq => absurd hq (by decide)) (trivial)))))))))))) (fun hq => absurd hq (by decide))
    refine hAt 7 _ _ _ _ _ _ ?_
    refine And.intro (aOKx (n := 11) (j := 4) rfl (by decide) rfl rfl (by omega) (by omega)) ?_
    refine Eq.mpr (congrArg (fun xq : Int32 => At 318 [.ref (108), .int (nI 4), .int (nI 1), .int ((nI (kT k 0)) - nI 1), .int ((nI (kT k 1)) - nI 1), z5] [.int xq, .ref (176), .ref (108)] (wI ρ 108 7 (nI (c + 1))) 0 0) (show rI (wI ρ 108 7 (nI (c + 1))) 110 (nI 4).toNatClampNeg = nI (kT k 4) from (ldE rfl (by omega) (by rw [rI_wI, if_neg (by omega)]; exact ((u0 110 4 (by unfold r3; omega)).trans (hQ.1 4 (by omega))))))) ?_
    refine hAt 1 _ _ _ _ _ _ ?_
    refine And.intro (mx_r (q := 176) (n := 3) (k := 3) rfl rfl (show kT k 4 < 3 by omega)) (And.intro (Or.inl rfl) ?_)
    refine Eq.mpr (congrArg (fun xq : Nat => At 319 [.ref (108), .int (nI 4), .int (nI 1), .int ((nI (kT k 0)) - nI 1), .int ((nI (kT k 1)) - nI 1), z5] [.ref xq, .ref (108)] (wI ρ 108 7 (nI (c + 1))) 0 0) (rwE rfl (by omega))) ?_
    refine hAt 2 _ _ _ _ _ _ ?_
    refine Eq.mpr (congrArg (fun xq : Int32 => At 322 [.ref (108), .int (nI 4), .int (nI 1), .int ((nI (kT k 0)) - nI 1), .int ((nI (kT k 1)) - nI 1), z5] [.int ((nI (kT k 1)) - nI 1), .int xq, .ref (176 + 1 + (kT k 4)), .ref (108)] (wI ρ 108 7 (nI (c + 1))) 0 0) (show (nI (kT k 0)) - nI 1 = iZ (((kT k 0 : Nat) : Int) - 1) from (sbZ (ntZ rfl) (ntZ rfl)))) ?_
    refine Eq.mpr (congrArg (fun xq : Int32 => At 322 [.ref (108), .int (nI 4), .int (nI 1), .int ((nI (kT k 0)) - nI 1), .int ((nI (kT k 1)) - nI 1), z5] [.int xq, .int (iZ (((kT k 0 : Nat) : Int) - 1)), .ref (176 + 1 + (kT k 4)), .ref (108)] (wI ρ 108 7 (nI (c + 1))) 0 0) (show (nI (kT k 1)) - nI 1 = iZ (((kT k 1 : Nat) : Int) - 1) from (sbZ (ntZ rfl) (ntZ rfl)))) ?_
    refine hAt 4 _ _ _ _ _ _ ?_
    refine s_readsIce hn hb (y0.fr (fun j hj => by rw [rI_wI, if_neg (by omega)]) (fun j => by rw [rI_wI, if_neg (by omega)])) hW (hQ.fr hv (fun a j q1 q2 => by rw [rI_wI, if_neg (by omega)]; exact u0 a j (by unfold r3; omega))) hv hlt (fun τ1 u1 e1 y1 k1 => ?_)
    refine And.intro (fun hq => absurd hq (by decide)) (fun _ => ?_)
    refine hAt 5 _ _ _ _ _ _ ?_
    refine And.intro (aOKx (n := 11) (j := 4) rfl (by decide) rfl rfl (by omega) (by omega)) ?_
    refine Eq.mpr (congrArg (fun xq : Int32 => At 485 [.ref (108), .int (nI 4), .int (nI 1), .int ((nI (kT k 0)) - nI 1), .int ((nI (kT k 1)) - nI 1), z5] [.int xq, .int (nI 4), .ref (110)] τ1 0 0) (show rI τ1 110 (nI 4).toNatClampNeg = nI (kT k 4) from (ldE rfl (by omega) ((u1 110 4 (by unfold r3; omega) (by omega)).trans (by rw [rI_wI, if_neg (by omega)]; exact ((u0 110 4 (by unfold r3; omega)).trans (hQ.1 4 (by omega)))))))) ?_
    refine hAt 3 _ _ _ _ _ _ ?_
    refine And.intro (aOKx (n := 11) (j := 4) rfl (by decide) rfl rfl (by omega) (by omega)) ?_
    refine Eq.mpr (congrArg (fun xq : Mem => At 488 [.ref (108), .int (nI 4), .int (nI 1), .int ((nI (kT k 0)) - nI 1), .int ((nI (kT k 1)) - nI 1), z5] [] xq 0 0) (wrE (σ := τ1) (q := 110) (p := rfl) (hj := by omega) (h := (adE rfl rfl)))) ?_
    refine hAt 3 _ _ _ _ _ _ ?_
    refine s_closes (s := rdS b n 5 (e, 0, 0) k) hn hb (y1.fr (fun j hj => by rw [rI_wI, if_neg (by omega)]) (fun j => by rw [rI_wI, if_neg (by omega)])) (fun τ9 u9 e9 y9 => ?_)
    refine good τ9 g1 g2 ⟨fun a j q => by unfold trQ at q; refine (u9 _ _ (by unfold r3; omega)).trans ?_; rw [rI_wI, if_neg (by omega)]; refine (u1 _ _ (by unfold r3; omega) (by omega)).trans ?_; rw [rI_wI, if_neg (by omega)]; exact u0 _ _ (by unfold r3; omega), e9.trans (e1.trans (e0))⟩ y9 (fun hf => ⟨(u9 108 7 (by unfold r3; omega)).trans (by rw [rI_wI, if_neg (by omega)]; exact ((u1 108 7 (by unfold r3; omega) (by omega)).trans (by rw [rI_wI, if_pos ⟨rfl, rfl⟩]))), ?_⟩)
    exact hQ.pi (r := _) hv (fun a j q1 q2 q3 => (u9 a j (by unfold r3; omega)).trans (by rw [rI_wI, if_neg (by omega)]; refine (u1 _ _ (by unfold r3; omega) (by omega)).trans ?_; rw [rI_wI, if_neg (by omega)]; exact u0 _ _ (by unfold r3; omega))) ((u9 110 4 (by unfold r3; omega)).trans (by rw [rI_wI, if_pos ⟨rfl, rfl⟩])) (fun j hj => (u9 _ _ (by unfold r3; omega)).trans (by rw [rI_wI, if_neg (by omega)]; exact k1 hf j hj)) hlt
  have skip : ¬ (60 ≤ c ∨ fuA k 5 = true) → ¬ (5 = 0 ∧ 0 < c) → ∀ j, j ≤ n → wE b n j = e → ∀ z3 z4 z5, At 109 [.ref 108, .int (nI 4), .int (nI 1), z3, z4, z5] [] (wI σ 108 4 (nI j)) 0 0 := by
    intro g1 g2
    refine upto fun j hj ih => ?_
    intro hw z3 z4 z5
    have hz := zb_b hb j
    have hB2 : rmB b n (wI σ 108 4 (nI j)) := ⟨hB.1, fun j hj => hB.2 j hj⟩
    have out : ¬ (97 ≤ zb b n j ∧ zb b n j ≤ 122) → At 148 [.ref 108, .int (nI 4), .int (nI 1), z3, z4, z5] [] (wI σ 108 4 (nI j)) 0 0 := fun q => by
      have ej : j = e := by rw [← hw, wE, pE_e (fun z => q (by have := of_decide_eq_true z.2; rw [zb_in z.1]; omega))]
      rw [ej]
      exact body g1 g2 _ z3 z4 z5 (fr3 (fun _ _ _ => rfl) (by omega) _) rfl ⟨⟨hB.1, hB.2⟩, ⟨e, hen, rfl, fun _ => rfl⟩, ⟨Nat.zero_le _, h5⟩, h6⟩
    refine hAt 3 _ _ _ _ _ _ ?_
    refine Eq.mpr (congrArg (fun xq : Int32 => At 114 [.ref (108), .int (nI 4), .int (nI 1), z3, z4, z5] [.int xq, .ref (108)] (wI σ 108 4 (nI j)) 0 0) (show rI (wI σ 108 4 (nI j)) 108 4 = nI j from (by rw [rI_wI, if_pos ⟨rfl, rfl⟩]))) ?_
    refine hAt 3 _ _ _ _ _ _ ?_
    refine s_byteAt hn hB2 (by omega) ?_
    refine And.intro (fun hq => ?_) (fun hq => ?_)
    · have c119 : (zb b n j : Int) < 97 := (ltZ (a := zb b n j) (b := 97) rfl (ntZ rfl) (by omega) (by omega) (by omega) (by omega)).mp hq
      clear hq
      exact out (by omega)
    · have c119 : (97 : Int) ≤ (zb b n j : Int) := Int.not_lt.mp (fun zq => hq ((ltZ (a := zb b n j) (b := 97) rfl (ntZ rfl) (by omega) (by omega) (by omega) (by omega)).mpr zq))
      clear hq
      refine hAt 3 _ _ _ _ _ _ ?_
      refine Eq.mpr (congrArg (fun xq : Int32 => At 127 [.ref (108), .int (nI 4), .int (nI 1), z3, z4, z5] [.int xq, .ref (108)] (wI σ 108 4 (nI j)) 0 0) (show rI (wI σ 108 4 (nI j)) 108 4 = nI j from (by rw [rI_wI, if_pos ⟨rfl, rfl⟩]))) ?_
      refine hAt 3 _ _ _ _ _ _ ?_
      refine s_byteAt hn hB2 (by omega) ?_
      refine And.intro (fun hq => ?_) (fun hq => ?_)
      · have c132 : (122 : Int) < zb b n j := (ltZ (a := 122) (b := zb b n j) (ntZ rfl) rfl (by omega) (by omega) (by omega) (by omega)).mp hq
        clear hq
        exact out (by omega)
      · have c132 : (zb b n j : Int) ≤ (122 : Int) := Int.not_lt.mp (fun zq => hq ((ltZ (a := 122) (b := zb b n j) (ntZ rfl) rfl (by omega) (by omega) (by omega) (by omega)).mpr zq))
        clear hq
        refine hAt 3 _ _ _ _ _ _ ?_
        refine Eq.mpr (congrArg (fun xq : Int32 => At 140 [.ref (108), .int (nI 4), .int (nI 1), z3, z4, z5] [.int xq, .ref (108)] (wI σ 108 4 (nI j)) 0 0) (show rI (wI σ 108 4 (nI j)) 108 4 = nI j from (by rw [rI_wI, if_pos ⟨rfl, rfl⟩]))) ?_
        refine hAt 3 _ _ _ _ _ _ ?_
        refine Eq.mpr (congrArg (fun xq : Mem => At 145 [.ref (108), .int (nI 4), .int (nI 1), z3, z4, z5] [] xq 0 0) (congrArg (fun z => wI (wI σ 108 4 (nI j)) 108 4 z) (adE rfl rfl))) ?_
        refine hAt 1 _ _ _ _ _ _ ?_
        obtain ⟨q1, q2⟩ := zb_p (b := b) (n := n) (k := j) (z := 97) (by omega) c119
        have z := ih q1 (by rw [← hw]; exact (pE_s q1 (decide_eq_true (by omega))).symm) z3 z4 z5
        rw [← wI_wI σ 108 4 (nI j) (nI (j + 1))] at z
        exact z
  refine hAt 8 _ _ _ _ _ _ ?_
  refine s_kindHere hn hb hB h3 hi hs h5 ?_
  rw [hk]
  refine s_in ?_
  rw [show decide (¬ nI 4 < nI 2 ∧ ¬ nI 4 < nI 4) = true from by decide]
  refine And.intro (fun _ => ?_) (fun hq => absurd hq (by decide))
  refine hAt 6 _ _ _ _ _ _ ?_
  refine And.intro (fun hq => ?_) (fun hq => ?_)
  · have c28 : ¬ (4 : Int) = -1 := fun zq => hq ((eqZ (a := 4) (b := -1) (ntZ rfl) m1Z (by omega) (by omega) (by omega) (by omega)).mpr zq)
    clear hq
    refine hAt 2 _ _ _ _ _ _ ?_
    refine Eq.mpr (congrArg (fun xq : Int32 => At 47 [.ref (108), .int (nI 4), .int (nI 1), junk, junk, junk] [.int xq] σ 0 0) (show rI σ 108 7 = nI c from h7)) ?_
    refine hAt 2 _ _ _ _ _ _ ?_
    refine And.intro (fun hq => ?_) (fun hq => ?_)
    · have c49 : c = 60 := (eqN (a := c) (b := 60) rfl rfl (by omega) (by omega)).mp hq
      clear hq
      refine hAt 4 _ _ _ _ _ _ ?_
      refine Eq.mpr (congrArg (fun xq : Int32 => At 75 [.ref (108), .int (nI 4), .int (nI 1), junk, junk, junk] [.int xq, .int (nI 3), .ref (108)] σ 0 0) (show rI σ 108 4 = nI s.1 from h3)) ?_
      refine hAt 4 _ _ _ _ _ _ ?_
      refine s_wrong0 h5 ?_
      refine Eq.mpr (congrArg (fun xq : Int32 => At 105 [.ref (108), .int (nI 4), .int (nI 1), junk, junk, junk] [.int xq] (wI (wI σ 108 5 (nI 3)) 108 6 (nI s.1)) 0 0) (show rI (wI (wI σ 108 5 (nI 3)) 108 6 (nI s.1)) 108 5 = nI 3 from (by rw [rI_wI, if_neg (by omega), rI_wI, if_pos ⟨rfl, rfl⟩]))) ?_
      refine hAt 1 _ _ _ _ _ _ ?_
      refine And.intro (fun hq => absurd hq (by decide)) (fun _ => ?_)
      refine hAt 1 _ _ _ _ _ _ ?_
      exact bad 3 (by decide) (hcl.trans (if_pos (Or.inl (by omega))))
    · have c49 : ¬ c = 60 := fun zq => hq ((eqN (a := c) (b := 60) rfl rfl (by omega) (by omega)).mpr zq)
      clear hq
      refine hAt 2 _ _ _ _ _ _ ?_
      refine And.intro (fun hq => absurd hq (by decide)) (fun _ => ?_)
      refine hAt 4 _ _ _ _ _ _ ?_
      refine And.intro (aOKx (n := 11) (j := 4) rfl (by decide) rfl rfl (by omega) (by omega)) ?_
      refine Eq.mpr (congrArg (fun xq : Int32 => At 62 [.ref (108), .int (nI 4), .int (nI 1), junk, junk, junk] [.int xq] σ 0 0) (show rI σ 110 (nI 4).toNatClampNeg = nI (kT k 4) from (ldE rfl (by omega) (hQ.1 4 (by omega))))) ?_
      refine hAt 3 _ _ _ _ _ _ ?_
      refine s_mostOf4 ?_
      refine And.intro (fun hq => ?_) (fun hq => ?_)
      · have c66 : ¬ kT k 4 = 3 := fun zq => hq ((eqN (a := kT k 4) (b := 3) rfl rfl (by omega) (by omega)).mpr zq)
        clear hq
        refine hAt 2 _ _ _ _ _ _ ?_
        refine And.intro (fun _ => ?_) (fun hq => absurd hq (by decide))
        refine hAt 2 _ _ _ _ _ _ ?_
        refine Eq.mpr (congrArg (fun xq : Int32 => At 105 [.ref (108), .int (nI 4), .int (nI 1), junk, junk, junk] [.int xq] σ 0 0) (show rI σ 108 5 = nI 0 from h5)) ?_
        refine hAt 1 _ _ _ _ _ _ ?_
        refine And.intro (fun _ => ?_) (fun hq => absurd hq (by decide))
        have z := skip (fun z => z.elim (fun z => by omega) (fun z => by have := of_decide_eq_true (show decide (3 ≤ kT k 4) = true from z); omega)) (fun z => absurd z.1 (by decide)) s.1 hi (by rw [ee]) junk junk junk
        rw [wI_self h3] at z
        exact z
      · have c66 : kT k 4 = 3 := (eqN (a := kT k 4) (b := 3) rfl rfl (by omega) (by omega)).mp hq
        clear hq
        refine hAt 4 _ _ _ _ _ _ ?_
        refine Eq.mpr (congrArg (fun xq : Int32 => At 75 [.ref (108), .int (nI 4), .int (nI 1), junk, junk, junk] [.int xq, .int (nI 3), .ref (108)] σ 0 0) (show rI σ 108 4 = nI s.1 from h3)) ?_
        refine hAt 4 _ _ _ _ _ _ ?_
        refine s_wrong0 h5 ?_
        refine Eq.mpr (congrArg (fun xq : Int32 => At 105 [.ref (108), .int (nI 4), .int (nI 1), junk, junk, junk] [.int xq] (wI (wI σ 108 5 (nI 3)) 108 6 (nI s.1)) 0 0) (show rI (wI (wI σ 108 5 (nI 3)) 108 6 (nI s.1)) 108 5 = nI 3 from (by rw [rI_wI, if_neg (by omega), rI_wI, if_pos ⟨rfl, rfl⟩]))) ?_
        refine hAt 1 _ _ _ _ _ _ ?_
        refine And.intro (fun hq => absurd hq (by decide)) (fun _ => ?_)
        refine hAt 1 _ _ _ _ _ _ ?_
        exact bad 3 (by decide) (hcl.trans (if_pos (Or.inr (show decide (3 ≤ kT k 4) = true from decide_eq_true (by omega)))))
  · have c28 : (4 : Int) = -1 := (eqZ (a := 4) (b := -1) (ntZ rfl) m1Z (by omega) (by omega) (by omega) (by omega)).mp hq
    clear hq
    exact absurd c28 (by omega)
set_option maxRecDepth 4000 in
theorem s_cl_6 {c : Nat} (hc : c ≤ 60) (hn : n ≤ 600) (hb : ∀ j, j < n → b j < 256) (hR : rmC b n s σ) (h0 : s.2.1 = 0) (hs : bS b n s.1 = s.1) (h7 : rI σ 108 7 = nI c) (hQ : skQ σ k) (hv : VS k) (hw : woA b n s.1 = some 6) (hP : ∀ τ, frQ σ τ → rmC b n (clS b n c s.1 k) τ → ((clS b n c s.1 k).2.1 = 0 → rI τ 108 7 = nI (c + 1) ∧ skQ τ (clK b n c s.1 k)) → P none τ) : Ret w true (d + 6) 0 0 m_Mo_clause [.ref 108] σ P X := by
  obtain ⟨h3, hi⟩ := hR.at0 h0
  obtain ⟨hB, -, ⟨-, h5⟩, h6⟩ := hR
  have h5 : rI σ 108 5 = nI 0 := h5.trans (congrArg nI h0)
  have h6 : rI σ 108 6 = -1 := h6.trans (if_pos h0)
  have vs := hv
  obtain ⟨v1, v2, v3, v4, v5, v6, v7, v8, v9, v10, v11, -⟩ := vs
  have hW : kT k 0 ≤ 8 ∧ kT k 1 ≤ 8 := ⟨v1.2, v2.2⟩
  have bad : ∀ f, f ≠ 0 ∧ f ≤ 4 → clS b n c s.1 k = (0, f, s.1) → P none (wI (wI σ 108 5 (nI f)) 108 6 (nI s.1)) := fun f hf he => by
    refine hP _ ⟨fun a j q => by unfold trQ at q; rw [rI_wI, if_neg (by omega), rI_wI, if_neg (by omega)], rfl⟩ ?_ (fun z => ?_)
    · rw [he]; exact ⟨⟨hB.1, hB.2⟩, ⟨s.1, hi, h3, fun z => absurd z hf.1⟩, ⟨hf.2, rfl⟩, by rw [plI, if_neg hf.1]; rfl⟩
    · rw [he] at z; exact absurd z hf.1
  have hk : kdI b n s.1 = nI 5 := by unfold kdI; rw [hw]; rfl
  obtain ⟨e, ee⟩ : ∃ e, e = wE b n s.1 := ⟨_, rfl⟩
  have hen : e ≤ n := by rw [ee]; exact pE_le isLe b n _ hi
  have hcl : clS b n c s.1 k = if 60 ≤ c ∨ fuA k 6 = true then (0, 3, s.1) else if 6 = 0 ∧ 0 < c then (0, 4, s.1) else enA b n (rdS b n 6 (e, 0, 0) k) := by unfold clS; rw [hw, ee]
  have hck : clK b n c s.1 k = if 60 ≤ c ∨ fuA k 6 = true then k else if 6 = 0 ∧ 0 < c then k else rdK b n 6 (e, 0, 0) k := by unfold clK; rw [hw, ee]
  have good : ∀ τ, ¬ (60 ≤ c ∨ fuA k 6 = true) → ¬ (6 = 0 ∧ 0 < c) → frQ σ τ → rmC b n (enA b n (rdS b n 6 (e, 0, 0) k)) τ → ((rdS b n 6 (e, 0, 0) k).2.1 = 0 → rI τ 108 7 = nI (c + 1) ∧ skQ τ (rdK b n 6 (e, 0, 0) k)) → P none τ := fun τ g1 g2 g3 g4 g5 => by
    rw [if_neg g1, if_neg g2] at hcl hck
    refine hP τ g3 (by rw [hcl]; exact g4) (fun z => ?_)
    rw [hcl] at z
    rw [hck]
    exact g5 (enA_f0 z)
  refine meth_ok k_Mo_clause q_Mo_clause rfl fun At hAt => ?_
  have body : ¬ (60 ≤ c ∨ fuA k 6 = true) → ¬ (6 = 0 ∧ 0 < c) → ∀ ρ z3 z4 z5, (∀ a j, ¬ r3 a j → rI ρ a j = rI σ a j) → ρ.2 = σ.2 → rmC b n (e, 0, 0) ρ → At 148 [.ref 108, .int (nI 5), .int (nI 0), z3, z4, z5] [] ρ 0 0 := by
    intro g1 g2 ρ z3 z4 z5 u0 e0 y0
    refine hAt 3 _ _ _ _ _ _ ?_
    refine Eq.mpr (congrArg (fun xq : Int32 => At 153 [.ref (108), .int (nI 5), .int (nI 0), z3, z4, z5] [.int xq, .ref (108)] ρ 0 0) (show rI ρ 108 7 = nI c from ((u0 108 7 (by unfold r3; omega)).trans h7))) ?_
    refine hAt 3 _ _ _ _ _ _ ?_
    refine Eq.mpr (congrArg (fun xq : Mem => At 158 [.ref (108), .int (nI 5), .int (nI 0), z3, z4, z5] [] xq 0 0) (congrArg (fun z => wI ρ 108 7 z) (adE rfl rfl))) ?_
    refine hAt 4 _ _ _ _ _ _ ?_
    refine And.intro (aOKx (n := 11) (j := 0) rfl (by decide) rfl rfl (by omega) (by omega)) ?_
    refine Eq.mpr (congrArg (fun xq : Int32 => At 164 [.ref (108), .int (nI 5), .int (nI 0), z3, z4, z5] [.int xq] (wI ρ 108 7 (nI (c + 1))) 0 0) (show rI (wI ρ 108 7 (nI (c + 1))) 110 (nI 0).toNatClampNeg = nI (kT k 0) from (ldE rfl (by omega) (by rw [rI_wI, if_neg (by omega)]; exact ((u0 110 0 (by unfold r3; omega)).trans (hQ.1 0 (by omega))))))) ?_
    refine hAt 7 _ _ _ _ _ _ ?_
    refine And.intro (aOKx (n := 11) (j := 1) rfl (by decide) rfl rfl (by omega) (by omega)) ?_
    refine Eq.mpr (congrArg (fun xq : Int32 => At 173 [.ref (108), .int (nI 5), .int (nI 0), .int ((nI (kT k 0)) - nI 1), z4, z5] [.int xq] (wI ρ 108 7 (nI (c + 1))) 0 0) (show rI (wI ρ 108 7 (nI (c + 1))) 110 (nI 1).toNatClampNeg = nI (kT k 1) from (ldE rfl (by omega) (by rw [rI_wI, if_neg (by omega)]; exact ((u0 110 1 (by unfold r3; omega)).trans (hQ.1 1 (by omega))))))) ?_
    refine hAt 5 _ _ _ _ _ _ ?_
    refine And.intro (And.intro (fun hq => absurd hq (by decide)) (And.intro (fun hq => absurd hq (by decide)) (And.intro (fun hq => absurd hq (by decide)) (And.intro (fun hq => absurd hq (by decide)) (And.intro (fun hq => absurd hq (by decide)) (And.intro (fun _ => ?_) (And.intro (fun hq => absurd hq (by decide)) (And.intro (fun hq => absurd hq (by decide)) (And.intro (fun hq => absurd hq (by decide)) (And.intro (fun hq => absurd hq (by decide)) (And.intro (fun hq => absurd hq (by decide)) (trivial)))))))))))) (fun hq => absurd hq (by decide))
    refine hAt 6 _ _ _ _ _ _ ?_
    refine Eq.mpr (congrArg (fun xq : Int32 => At 336 [.ref (108), .int (nI 5), .int (nI 0), .int ((nI (kT k 0)) - nI 1), .int ((nI (kT k 1)) - nI 1), z5] [.int xq, .int (nI 0), .ref (108), .int (nI 5), .ref (110)] (wI ρ 108 7 (nI (c + 1))) 0 0) (ntZ rfl)) ?_
    refine hAt 2 _ _ _ _ _ _ ?_
    refine s_number hn hb (y0.fr (fun j hj => by rw [rI_wI, if_neg (by omega)]) (fun j => by rw [rI_wI, if_neg (by omega)])) (by omega) (by omega) (fun τ1 x1 u1 e1 y1 w1 => ?_)
    refine And.intro (aOKx (n := 11) (j := 5) rfl (by decide) rfl rfl (by omega) (by omega)) ?_
    refine Eq.mpr (congrArg (fun xq : Mem => At 340 [.ref (108), .int (nI 5), .int (nI 0), .int ((nI (kT k 0)) - nI 1), .int ((nI (kT k 1)) - nI 1), z5] [] xq 0 0) (wrE (σ := τ1) (q := 110) (p := rfl) (hj := by omega) (h := rfl))) ?_
    refine hAt 3 _ _ _ _ _ _ ?_
    refine And.intro (fun _ => ?_) (fun hq => absurd hq (by decide))
    refine hAt 3 _ _ _ _ _ _ ?_
    refine s_closes (s := rdS b n 6 (e, 0, 0) k) hn hb (y1.fr (fun j hj => by rw [rI_wI, if_neg (by omega)]) (fun j => by rw [rI_wI, if_neg (by omega)])) (fun τ9 u9 e9 y9 => ?_)
    refine good τ9 g1 g2 ⟨fun a j q => by unfold trQ at q; refine (u9 _ _ (by unfold r3; omega)).trans ?_; rw [rI_wI, if_neg (by omega)]; refine (u1 _ _ (by unfold r3; omega)).trans ?_; rw [rI_wI, if_neg (by omega)]; exact u0 _ _ (by unfold r3; omega), e9.trans (e1.trans (e0))⟩ y9 (fun hf => ⟨(u9 108 7 (by unfold r3; omega)).trans (by rw [rI_wI, if_neg (by omega)]; exact ((u1 108 7 (by unfold r3; omega)).trans (by rw [rI_wI, if_pos ⟨rfl, rfl⟩]))), ?_⟩)
    exact hQ.st (i := 5) hv (by omega) (fun a j q1 q2 => (u9 a j (by unfold r3; omega)).trans (by rw [rI_wI, if_neg (by omega)]; refine (u1 _ _ (by unfold r3; omega)).trans ?_; rw [rI_wI, if_neg (by omega)]; exact u0 _ _ (by unfold r3; omega))) ((u9 110 5 (by unfold r3; omega)).trans (by rw [rI_wI, if_pos ⟨rfl, rfl⟩]; exact w1 hf))
  have skip : ¬ (60 ≤ c ∨ fuA k 6 = true) → ¬ (6 = 0 ∧ 0 < c) → ∀ j, j ≤ n → wE b n j = e → ∀ z3 z4 z5, At 109 [.ref 108, .int (nI 5), .int (nI 0), z3, z4, z5] [] (wI σ 108 4 (nI j)) 0 0 := by
    intro g1 g2
    refine upto fun j hj ih => ?_
    intro hw z3 z4 z5
    have hz := zb_b hb j
    have hB2 : rmB b n (wI σ 108 4 (nI j)) := ⟨hB.1, fun j hj => hB.2 j hj⟩
    have out : ¬ (97 ≤ zb b n j ∧ zb b n j ≤ 122) → At 148 [.ref 108, .int (nI 5), .int (nI 0), z3, z4, z5] [] (wI σ 108 4 (nI j)) 0 0 := fun q => by
      have ej : j = e := by rw [← hw, wE, pE_e (fun z => q (by have := of_decide_eq_true z.2; rw [zb_in z.1]; omega))]
      rw [ej]
      exact body g1 g2 _ z3 z4 z5 (fr3 (fun _ _ _ => rfl) (by omega) _) rfl ⟨⟨hB.1, hB.2⟩, ⟨e, hen, rfl, fun _ => rfl⟩, ⟨Nat.zero_le _, h5⟩, h6⟩
    refine hAt 3 _ _ _ _ _ _ ?_
    refine Eq.mpr (congrArg (fun xq : Int32 => At 114 [.ref (108), .int (nI 5), .int (nI 0), z3, z4, z5] [.int xq, .ref (108)] (wI σ 108 4 (nI j)) 0 0) (show rI (wI σ 108 4 (nI j)) 108 4 = nI j from (by rw [rI_wI, if_pos ⟨rfl, rfl⟩]))) ?_
    refine hAt 3 _ _ _ _ _ _ ?_
    refine s_byteAt hn hB2 (by omega) ?_
    refine And.intro (fun hq => ?_) (fun hq => ?_)
    · have c119 : (zb b n j : Int) < 97 := (ltZ (a := zb b n j) (b := 97) rfl (ntZ rfl) (by omega) (by omega) (by omega) (by omega)).mp hq
      clear hq
      exact out (by omega)
    · have c119 : (97 : Int) ≤ (zb b n j : Int) := Int.not_lt.mp (fun zq => hq ((ltZ (a := zb b n j) (b := 97) rfl (ntZ rfl) (by omega) (by omega) (by omega) (by omega)).mpr zq))
      clear hq
      refine hAt 3 _ _ _ _ _ _ ?_
      refine Eq.mpr (congrArg (fun xq : Int32 => At 127 [.ref (108), .int (nI 5), .int (nI 0), z3, z4, z5] [.int xq, .ref (108)] (wI σ 108 4 (nI j)) 0 0) (show rI (wI σ 108 4 (nI j)) 108 4 = nI j from (by rw [rI_wI, if_pos ⟨rfl, rfl⟩]))) ?_
      refine hAt 3 _ _ _ _ _ _ ?_
      refine s_byteAt hn hB2 (by omega) ?_
      refine And.intro (fun hq => ?_) (fun hq => ?_)
      · have c132 : (122 : Int) < zb b n j := (ltZ (a := 122) (b := zb b n j) (ntZ rfl) rfl (by omega) (by omega) (by omega) (by omega)).mp hq
        clear hq
        exact out (by omega)
      · have c132 : (zb b n j : Int) ≤ (122 : Int) := Int.not_lt.mp (fun zq => hq ((ltZ (a := 122) (b := zb b n j) (ntZ rfl) rfl (by omega) (by omega) (by omega) (by omega)).mpr zq))
        clear hq
        refine hAt 3 _ _ _ _ _ _ ?_
        refine Eq.mpr (congrArg (fun xq : Int32 => At 140 [.ref (108), .int (nI 5), .int (nI 0), z3, z4, z5] [.int xq, .ref (108)] (wI σ 108 4 (nI j)) 0 0) (show rI (wI σ 108 4 (nI j)) 108 4 = nI j from (by rw [rI_wI, if_pos ⟨rfl, rfl⟩]))) ?_
        refine hAt 3 _ _ _ _ _ _ ?_
        refine Eq.mpr (congrArg (fun xq : Mem => At 145 [.ref (108), .int (nI 5), .int (nI 0), z3, z4, z5] [] xq 0 0) (congrArg (fun z => wI (wI σ 108 4 (nI j)) 108 4 z) (adE rfl rfl))) ?_
        refine hAt 1 _ _ _ _ _ _ ?_
        obtain ⟨q1, q2⟩ := zb_p (b := b) (n := n) (k := j) (z := 97) (by omega) c119
        have z := ih q1 (by rw [← hw]; exact (pE_s q1 (decide_eq_true (by omega))).symm) z3 z4 z5
        rw [← wI_wI σ 108 4 (nI j) (nI (j + 1))] at z
        exact z
  refine hAt 8 _ _ _ _ _ _ ?_
  refine s_kindHere hn hb hB h3 hi hs h5 ?_
  rw [hk]
  refine s_in ?_
  rw [show decide (¬ nI 5 < nI 2 ∧ ¬ nI 4 < nI 5) = false from by decide]
  refine And.intro (fun hq => absurd hq (by decide)) (fun _ => ?_)
  refine hAt 3 _ _ _ _ _ _ ?_
  refine And.intro (fun _ => ?_) (fun hq => absurd hq (by decide))
  refine hAt 5 _ _ _ _ _ _ ?_
  refine And.intro (fun hq => ?_) (fun hq => ?_)
  · have c28 : ¬ (5 : Int) = -1 := fun zq => hq ((eqZ (a := 5) (b := -1) (ntZ rfl) m1Z (by omega) (by omega) (by omega) (by omega)).mpr zq)
    clear hq
    refine hAt 2 _ _ _ _ _ _ ?_
    refine Eq.mpr (congrArg (fun xq : Int32 => At 47 [.ref (108), .int (nI 5), .int (nI 0), junk, junk, junk] [.int xq] σ 0 0) (show rI σ 108 7 = nI c from h7)) ?_
    refine hAt 2 _ _ _ _ _ _ ?_
    refine And.intro (fun hq => ?_) (fun hq => ?_)
    · have c49 : c = 60 := (eqN (a := c) (b := 60) rfl rfl (by omega) (by omega)).mp hq
      clear hq
      refine hAt 4 _ _ _ _ _ _ ?_
      refine Eq.mpr (congrArg (fun xq : Int32 => At 75 [.ref (108), .int (nI 5), .int (nI 0), junk, junk, junk] [.int xq, .int (nI 3), .ref (108)] σ 0 0) (show rI σ 108 4 = nI s.1 from h3)) ?_
      refine hAt 4 _ _ _ _ _ _ ?_
      refine s_wrong0 h5 ?_
      refine Eq.mpr (congrArg (fun xq : Int32 => At 105 [.ref (108), .int (nI 5), .int (nI 0), junk, junk, junk] [.int xq] (wI (wI σ 108 5 (nI 3)) 108 6 (nI s.1)) 0 0) (show rI (wI (wI σ 108 5 (nI 3)) 108 6 (nI s.1)) 108 5 = nI 3 from (by rw [rI_wI, if_neg (by omega), rI_wI, if_pos ⟨rfl, rfl⟩]))) ?_
      refine hAt 1 _ _ _ _ _ _ ?_
      refine And.intro (fun hq => absurd hq (by decide)) (fun _ => ?_)
      refine hAt 1 _ _ _ _ _ _ ?_
      exact bad 3 (by decide) (hcl.trans (if_pos (Or.inl (by omega))))
    · have c49 : ¬ c = 60 := fun zq => hq ((eqN (a := c) (b := 60) rfl rfl (by omega) (by omega)).mpr zq)
      clear hq
      refine hAt 2 _ _ _ _ _ _ ?_
      refine And.intro (fun _ => ?_) (fun hq => absurd hq (by decide))
      refine hAt 2 _ _ _ _ _ _ ?_
      refine And.intro (fun _ => ?_) (fun hq => absurd hq (by decide))
      refine hAt 2 _ _ _ _ _ _ ?_
      refine Eq.mpr (congrArg (fun xq : Int32 => At 105 [.ref (108), .int (nI 5), .int (nI 0), junk, junk, junk] [.int xq] σ 0 0) (show rI σ 108 5 = nI 0 from h5)) ?_
      refine hAt 1 _ _ _ _ _ _ ?_
      refine And.intro (fun _ => ?_) (fun hq => absurd hq (by decide))
      have z := skip (fun z => z.elim (fun z => by omega) (fun z => by cases z)) (fun z => absurd z.1 (by decide)) s.1 hi (by rw [ee]) junk junk junk
      rw [wI_self h3] at z
      exact z
  · have c28 : (5 : Int) = -1 := (eqZ (a := 5) (b := -1) (ntZ rfl) m1Z (by omega) (by omega) (by omega) (by omega)).mp hq
    clear hq
    exact absurd c28 (by omega)
set_option maxRecDepth 4000 in
theorem s_cl_7 {c : Nat} (hc : c ≤ 60) (hn : n ≤ 600) (hb : ∀ j, j < n → b j < 256) (hR : rmC b n s σ) (h0 : s.2.1 = 0) (hs : bS b n s.1 = s.1) (h7 : rI σ 108 7 = nI c) (hQ : skQ σ k) (hv : VS k) (hw : woA b n s.1 = some 7) (hP : ∀ τ, frQ σ τ → rmC b n (clS b n c s.1 k) τ → ((clS b n c s.1 k).2.1 = 0 → rI τ 108 7 = nI (c + 1) ∧ skQ τ (clK b n c s.1 k)) → P none τ) : Ret w true (d + 6) 0 0 m_Mo_clause [.ref 108] σ P X := by
  obtain ⟨h3, hi⟩ := hR.at0 h0
  obtain ⟨hB, -, ⟨-, h5⟩, h6⟩ := hR
  have h5 : rI σ 108 5 = nI 0 := h5.trans (congrArg nI h0)
  have h6 : rI σ 108 6 = -1 := h6.trans (if_pos h0)
  have vs := hv
  obtain ⟨v1, v2, v3, v4, v5, v6, v7, v8, v9, v10, v11, -⟩ := vs
  have hW : kT k 0 ≤ 8 ∧ kT k 1 ≤ 8 := ⟨v1.2, v2.2⟩
  have bad : ∀ f, f ≠ 0 ∧ f ≤ 4 → clS b n c s.1 k = (0, f, s.1) → P none (wI (wI σ 108 5 (nI f)) 108 6 (nI s.1)) := fun f hf he => by
    refine hP _ ⟨fun a j q => by unfold trQ at q; rw [rI_wI, if_neg (by omega), rI_wI, if_neg (by omega)], rfl⟩ ?_ (fun z => ?_)
    · rw [he]; exact ⟨⟨hB.1, hB.2⟩, ⟨s.1, hi, h3, fun z => absurd z hf.1⟩, ⟨hf.2, rfl⟩, by rw [plI, if_neg hf.1]; rfl⟩
    · rw [he] at z; exact absurd z hf.1
  have hk : kdI b n s.1 = nI 6 := by unfold kdI; rw [hw]; rfl
  obtain ⟨e, ee⟩ : ∃ e, e = wE b n s.1 := ⟨_, rfl⟩
  have hen : e ≤ n := by rw [ee]; exact pE_le isLe b n _ hi
  have hcl : clS b n c s.1 k = if 60 ≤ c ∨ fuA k 7 = true then (0, 3, s.1) else if 7 = 0 ∧ 0 < c then (0, 4, s.1) else enA b n (rdS b n 7 (e, 0, 0) k) := by unfold clS; rw [hw, ee]
  have hck : clK b n c s.1 k = if 60 ≤ c ∨ fuA k 7 = true then k else if 7 = 0 ∧ 0 < c then k else rdK b n 7 (e, 0, 0) k := by unfold clK; rw [hw, ee]
  have good : ∀ τ, ¬ (60 ≤ c ∨ fuA k 7 = true) → ¬ (7 = 0 ∧ 0 < c) → frQ σ τ → rmC b n (enA b n (rdS b n 7 (e, 0, 0) k)) τ → ((rdS b n 7 (e, 0, 0) k).2.1 = 0 → rI τ 108 7 = nI (c + 1) ∧ skQ τ (rdK b n 7 (e, 0, 0) k)) → P none τ := fun τ g1 g2 g3 g4 g5 => by
    rw [if_neg g1, if_neg g2] at hcl hck
    refine hP τ g3 (by rw [hcl]; exact g4) (fun z => ?_)
    rw [hcl] at z
    rw [hck]
    exact g5 (enA_f0 z)
  refine meth_ok k_Mo_clause q_Mo_clause rfl fun At hAt => ?_
  have body : ¬ (60 ≤ c ∨ fuA k 7 = true) → ¬ (7 = 0 ∧ 0 < c) → ∀ ρ z3 z4 z5, (∀ a j, ¬ r3 a j → rI ρ a j = rI σ a j) → ρ.2 = σ.2 → rmC b n (e, 0, 0) ρ → At 148 [.ref 108, .int (nI 6), .int (nI 0), z3, z4, z5] [] ρ 0 0 := by
    intro g1 g2 ρ z3 z4 z5 u0 e0 y0
    refine hAt 3 _ _ _ _ _ _ ?_
    refine Eq.mpr (congrArg (fun xq : Int32 => At 153 [.ref (108), .int (nI 6), .int (nI 0), z3, z4, z5] [.int xq, .ref (108)] ρ 0 0) (show rI ρ 108 7 = nI c from ((u0 108 7 (by unfold r3; omega)).trans h7))) ?_
    refine hAt 3 _ _ _ _ _ _ ?_
    refine Eq.mpr (congrArg (fun xq : Mem => At 158 [.ref (108), .int (nI 6), .int (nI 0), z3, z4, z5] [] xq 0 0) (congrArg (fun z => wI ρ 108 7 z) (adE rfl rfl))) ?_
    refine hAt 4 _ _ _ _ _ _ ?_
    refine And.intro (aOKx (n := 11) (j := 0) rfl (by decide) rfl rfl (by omega) (by omega)) ?_
    refine Eq.mpr (congrArg (fun xq : Int32 => At 164 [.ref (108), .int (nI 6), .int (nI 0), z3, z4, z5] [.int xq] (wI ρ 108 7 (nI (c + 1))) 0 0) (show rI (wI ρ 108 7 (nI (c + 1))) 110 (nI 0).toNatClampNeg = nI (kT k 0) from (ldE rfl (by omega) (by rw [rI_wI, if_neg (by omega)]; exact ((u0 110 0 (by unfold r3; omega)).trans (hQ.1 0 (by omega))))))) ?_
    refine hAt 7 _ _ _ _ _ _ ?_
    refine And.intro (aOKx (n := 11) (j := 1) rfl (by decide) rfl rfl (by omega) (by omega)) ?_
    refine Eq.mpr (congrArg (fun xq : Int32 => At 173 [.ref (108), .int (nI 6), .int (nI 0), .int ((nI (kT k 0)) - nI 1), z4, z5] [.int xq] (wI ρ 108 7 (nI (c + 1))) 0 0) (show rI (wI ρ 108 7 (nI (c + 1))) 110 (nI 1).toNatClampNeg = nI (kT k 1) from (ldE rfl (by omega) (by rw [rI_wI, if_neg (by omega)]; exact ((u0 110 1 (by unfold r3; omega)).trans (hQ.1 1 (by omega))))))) ?_
    refine hAt 5 _ _ _ _ _ _ ?_
    refine And.intro (And.intro (fun hq => absurd hq (by decide)) (And.intro (fun hq => absurd hq (by decide)) (And.intro (fun hq => absurd hq (by decide)) (And.intro (fun hq => absurd hq (by decide)) (And.intro (fun hq => absurd hq (by decide)) (And.intro (fun hq => absurd hq (by decide)) (And.intro (fun _ => ?_) (And.intro (fun hq => absurd hq (by decide)) (And.intro (fun hq => absurd hq (by decide)) (And.intro (fun hq => absurd hq (by decide)) (And.intro (fun hq => absurd hq (by decide)) (trivial)))))))))))) (fun hq => absurd hq (by decide))
    refine hAt 6 _ _ _ _ _ _ ?_
    refine Eq.mpr (congrArg (fun xq : Int32 => At 353 [.ref (108), .int (nI 6), .int (nI 0), .int ((nI (kT k 0)) - nI 1), .int ((nI (kT k 1)) - nI 1), z5] [.int xq, .int (nI 1), .ref (108), .int (nI 6), .ref (110)] (wI ρ 108 7 (nI (c + 1))) 0 0) (ntZ rfl)) ?_
    refine hAt 2 _ _ _ _ _ _ ?_
    refine s_number hn hb (y0.fr (fun j hj => by rw [rI_wI, if_neg (by omega)]) (fun j => by rw [rI_wI, if_neg (by omega)])) (by omega) (by omega) (fun τ1 x1 u1 e1 y1 w1 => ?_)
    refine And.intro (aOKx (n := 11) (j := 6) rfl (by decide) rfl rfl (by omega) (by omega)) ?_
    refine Eq.mpr (congrArg (fun xq : Mem => At 357 [.ref (108), .int (nI 6), .int (nI 0), .int ((nI (kT k 0)) - nI 1), .int ((nI (kT k 1)) - nI 1), z5] [] xq 0 0) (wrE (σ := τ1) (q := 110) (p := rfl) (hj := by omega) (h := rfl))) ?_
    refine hAt 3 _ _ _ _ _ _ ?_
    refine And.intro (fun _ => ?_) (fun hq => absurd hq (by decide))
    refine hAt 3 _ _ _ _ _ _ ?_
    refine s_closes (s := rdS b n 7 (e, 0, 0) k) hn hb (y1.fr (fun j hj => by rw [rI_wI, if_neg (by omega)]) (fun j => by rw [rI_wI, if_neg (by omega)])) (fun τ9 u9 e9 y9 => ?_)
    refine good τ9 g1 g2 ⟨fun a j q => by unfold trQ at q; refine (u9 _ _ (by unfold r3; omega)).trans ?_; rw [rI_wI, if_neg (by omega)]; refine (u1 _ _ (by unfold r3; omega)).trans ?_; rw [rI_wI, if_neg (by omega)]; exact u0 _ _ (by unfold r3; omega), e9.trans (e1.trans (e0))⟩ y9 (fun hf => ⟨(u9 108 7 (by unfold r3; omega)).trans (by rw [rI_wI, if_neg (by omega)]; exact ((u1 108 7 (by unfold r3; omega)).trans (by rw [rI_wI, if_pos ⟨rfl, rfl⟩]))), ?_⟩)
    exact hQ.st (i := 6) hv (by omega) (fun a j q1 q2 => (u9 a j (by unfold r3; omega)).trans (by rw [rI_wI, if_neg (by omega)]; refine (u1 _ _ (by unfold r3; omega)).trans ?_; rw [rI_wI, if_neg (by omega)]; exact u0 _ _ (by unfold r3; omega))) ((u9 110 6 (by unfold r3; omega)).trans (by rw [rI_wI, if_pos ⟨rfl, rfl⟩]; exact w1 hf))
  have skip : ¬ (60 ≤ c ∨ fuA k 7 = true) → ¬ (7 = 0 ∧ 0 < c) → ∀ j, j ≤ n → wE b n j = e → ∀ z3 z4 z5, At 109 [.ref 108, .int (nI 6), .int (nI 0), z3, z4, z5] [] (wI σ 108 4 (nI j)) 0 0 := by
    intro g1 g2
    refine upto fun j hj ih => ?_
    intro hw z3 z4 z5
    have hz := zb_b hb j
    have hB2 : rmB b n (wI σ 108 4 (nI j)) := ⟨hB.1, fun j hj => hB.2 j hj⟩
    have out : ¬ (97 ≤ zb b n j ∧ zb b n j ≤ 122) → At 148 [.ref 108, .int (nI 6), .int (nI 0), z3, z4, z5] [] (wI σ 108 4 (nI j)) 0 0 := fun q => by
      have ej : j = e := by rw [← hw, wE, pE_e (fun z => q (by have := of_decide_eq_true z.2; rw [zb_in z.1]; omega))]
      rw [ej]
      exact body g1 g2 _ z3 z4 z5 (fr3 (fun _ _ _ => rfl) (by omega) _) rfl ⟨⟨hB.1, hB.2⟩, ⟨e, hen, rfl, fun _ => rfl⟩, ⟨Nat.zero_le _, h5⟩, h6⟩
    refine hAt 3 _ _ _ _ _ _ ?_
    refine Eq.mpr (congrArg (fun xq : Int32 => At 114 [.ref (108), .int (nI 6), .int (nI 0), z3, z4, z5] [.int xq, .ref (108)] (wI σ 108 4 (nI j)) 0 0) (show rI (wI σ 108 4 (nI j)) 108 4 = nI j from (by rw [rI_wI, if_pos ⟨rfl, rfl⟩]))) ?_
    refine hAt 3 _ _ _ _ _ _ ?_
    refine s_byteAt hn hB2 (by omega) ?_
    refine And.intro (fun hq => ?_) (fun hq => ?_)
    · have c119 : (zb b n j : Int) < 97 := (ltZ (a := zb b n j) (b := 97) rfl (ntZ rfl) (by omega) (by omega) (by omega) (by omega)).mp hq
      clear hq
      exact out (by omega)
    · have c119 : (97 : Int) ≤ (zb b n j : Int) := Int.not_lt.mp (fun zq => hq ((ltZ (a := zb b n j) (b := 97) rfl (ntZ rfl) (by omega) (by omega) (by omega) (by omega)).mpr zq))
      clear hq
      refine hAt 3 _ _ _ _ _ _ ?_
      refine Eq.mpr (congrArg (fun xq : Int32 => At 127 [.ref (108), .int (nI 6), .int (nI 0), z3, z4, z5] [.int xq, .ref (108)] (wI σ 108 4 (nI j)) 0 0) (show rI (wI σ 108 4 (nI j)) 108 4 = nI j from (by rw [rI_wI, if_pos ⟨rfl, rfl⟩]))) ?_
      refine hAt 3 _ _ _ _ _ _ ?_
      refine s_byteAt hn hB2 (by omega) ?_
      refine And.intro (fun hq => ?_) (fun hq => ?_)
      · have c132 : (122 : Int) < zb b n j := (ltZ (a := 122) (b := zb b n j) (ntZ rfl) rfl (by omega) (by omega) (by omega) (by omega)).mp hq
        clear hq
        exact out (by omega)
      · have c132 : (zb b n j : Int) ≤ (122 : Int) := Int.not_lt.mp (fun zq => hq ((ltZ (a := 122) (b := zb b n j) (ntZ rfl) rfl (by omega) (by omega) (by omega) (by omega)).mpr zq))
        clear hq
        refine hAt 3 _ _ _ _ _ _ ?_
        refine Eq.mpr (congrArg (fun xq : Int32 => At 140 [.ref (108), .int (nI 6), .int (nI 0), z3, z4, z5] [.int xq, .ref (108)] (wI σ 108 4 (nI j)) 0 0) (show rI (wI σ 108 4 (nI j)) 108 4 = nI j from (by rw [rI_wI, if_pos ⟨rfl, rfl⟩]))) ?_
        refine hAt 3 _ _ _ _ _ _ ?_
        refine Eq.mpr (congrArg (fun xq : Mem => At 145 [.ref (108), .int (nI 6), .int (nI 0), z3, z4, z5] [] xq 0 0) (congrArg (fun z => wI (wI σ 108 4 (nI j)) 108 4 z) (adE rfl rfl))) ?_
        refine hAt 1 _ _ _ _ _ _ ?_
        obtain ⟨q1, q2⟩ := zb_p (b := b) (n := n) (k := j) (z := 97) (by omega) c119
        have z := ih q1 (by rw [← hw]; exact (pE_s q1 (decide_eq_true (by omega))).symm) z3 z4 z5
        rw [← wI_wI σ 108 4 (nI j) (nI (j + 1))] at z
        exact z
  refine hAt 8 _ _ _ _ _ _ ?_
  refine s_kindHere hn hb hB h3 hi hs h5 ?_
  rw [hk]
  refine s_in ?_
  rw [show decide (¬ nI 6 < nI 2 ∧ ¬ nI 4 < nI 6) = false from by decide]
  refine And.intro (fun hq => absurd hq (by decide)) (fun _ => ?_)
  refine hAt 3 _ _ _ _ _ _ ?_
  refine And.intro (fun _ => ?_) (fun hq => absurd hq (by decide))
  refine hAt 5 _ _ _ _ _ _ ?_
  refine And.intro (fun hq => ?_) (fun hq => ?_)
  · have c28 : ¬ (6 : Int) = -1 := fun zq => hq ((eqZ (a := 6) (b := -1) (ntZ rfl) m1Z (by omega) (by omega) (by omega) (by omega)).mpr zq)
    clear hq
    refine hAt 2 _ _ _ _ _ _ ?_
    refine Eq.mpr (congrArg (fun xq : Int32 => At 47 [.ref (108), .int (nI 6), .int (nI 0), junk, junk, junk] [.int xq] σ 0 0) (show rI σ 108 7 = nI c from h7)) ?_
    refine hAt 2 _ _ _ _ _ _ ?_
    refine And.intro (fun hq => ?_) (fun hq => ?_)
    · have c49 : c = 60 := (eqN (a := c) (b := 60) rfl rfl (by omega) (by omega)).mp hq
      clear hq
      refine hAt 4 _ _ _ _ _ _ ?_
      refine Eq.mpr (congrArg (fun xq : Int32 => At 75 [.ref (108), .int (nI 6), .int (nI 0), junk, junk, junk] [.int xq, .int (nI 3), .ref (108)] σ 0 0) (show rI σ 108 4 = nI s.1 from h3)) ?_
      refine hAt 4 _ _ _ _ _ _ ?_
      refine s_wrong0 h5 ?_
      refine Eq.mpr (congrArg (fun xq : Int32 => At 105 [.ref (108), .int (nI 6), .int (nI 0), junk, junk, junk] [.int xq] (wI (wI σ 108 5 (nI 3)) 108 6 (nI s.1)) 0 0) (show rI (wI (wI σ 108 5 (nI 3)) 108 6 (nI s.1)) 108 5 = nI 3 from (by rw [rI_wI, if_neg (by omega), rI_wI, if_pos ⟨rfl, rfl⟩]))) ?_
      refine hAt 1 _ _ _ _ _ _ ?_
      refine And.intro (fun hq => absurd hq (by decide)) (fun _ => ?_)
      refine hAt 1 _ _ _ _ _ _ ?_
      exact bad 3 (by decide) (hcl.trans (if_pos (Or.inl (by omega))))
    · have c49 : ¬ c = 60 := fun zq => hq ((eqN (a := c) (b := 60) rfl rfl (by omega) (by omega)).mpr zq)
      clear hq
      refine hAt 2 _ _ _ _ _ _ ?_
      refine And.intro (fun _ => ?_) (fun hq => absurd hq (by decide))
      refine hAt 2 _ _ _ _ _ _ ?_
      refine And.intro (fun _ => ?_) (fun hq => absurd hq (by decide))
      refine hAt 2 _ _ _ _ _ _ ?_
      refine Eq.mpr (congrArg (fun xq : Int32 => At 105 [.ref (108), .int (nI 6), .int (nI 0), junk, junk, junk] [.int xq] σ 0 0) (show rI σ 108 5 = nI 0 from h5)) ?_
      refine hAt 1 _ _ _ _ _ _ ?_
      refine And.intro (fun _ => ?_) (fun hq => absurd hq (by decide))
      have z := skip (fun z => z.elim (fun z => by omega) (fun z => by cases z)) (fun z => absurd z.1 (by decide)) s.1 hi (by rw [ee]) junk junk junk
      rw [wI_self h3] at z
      exact z
  · have c28 : (6 : Int) = -1 := (eqZ (a := 6) (b := -1) (ntZ rfl) m1Z (by omega) (by omega) (by omega) (by omega)).mp hq
    clear hq
    exact absurd c28 (by omega)
set_option maxRecDepth 4000 in
theorem s_cl_8 {c : Nat} (hc : c ≤ 60) (hn : n ≤ 600) (hb : ∀ j, j < n → b j < 256) (hR : rmC b n s σ) (h0 : s.2.1 = 0) (hs : bS b n s.1 = s.1) (h7 : rI σ 108 7 = nI c) (hQ : skQ σ k) (hv : VS k) (hw : woA b n s.1 = some 8) (hP : ∀ τ, frQ σ τ → rmC b n (clS b n c s.1 k) τ → ((clS b n c s.1 k).2.1 = 0 → rI τ 108 7 = nI (c + 1) ∧ skQ τ (clK b n c s.1 k)) → P none τ) : Ret w true (d + 6) 0 0 m_Mo_clause [.ref 108] σ P X := by
  obtain ⟨h3, hi⟩ := hR.at0 h0
  obtain ⟨hB, -, ⟨-, h5⟩, h6⟩ := hR
  have h5 : rI σ 108 5 = nI 0 := h5.trans (congrArg nI h0)
  have h6 : rI σ 108 6 = -1 := h6.trans (if_pos h0)
  have vs := hv
  obtain ⟨v1, v2, v3, v4, v5, v6, v7, v8, v9, v10, v11, -⟩ := vs
  have hW : kT k 0 ≤ 8 ∧ kT k 1 ≤ 8 := ⟨v1.2, v2.2⟩
  have bad : ∀ f, f ≠ 0 ∧ f ≤ 4 → clS b n c s.1 k = (0, f, s.1) → P none (wI (wI σ 108 5 (nI f)) 108 6 (nI s.1)) := fun f hf he => by
    refine hP _ ⟨fun a j q => by unfold trQ at q; rw [rI_wI, if_neg (by omega), rI_wI, if_neg (by omega)], rfl⟩ ?_ (fun z => ?_)
    · rw [he]; exact ⟨⟨hB.1, hB.2⟩, ⟨s.1, hi, h3, fun z => absurd z hf.1⟩, ⟨hf.2, rfl⟩, by rw [plI, if_neg hf.1]; rfl⟩
    · rw [he] at z; exact absurd z hf.1
  have hk : kdI b n s.1 = nI 7 := by unfold kdI; rw [hw]; rfl
  obtain ⟨e, ee⟩ : ∃ e, e = wE b n s.1 := ⟨_, rfl⟩
  have hen : e ≤ n := by rw [ee]; exact pE_le isLe b n _ hi
  have hcl : clS b n c s.1 k = if 60 ≤ c ∨ fuA k 8 = true then (0, 3, s.1) else if 8 = 0 ∧ 0 < c then (0, 4, s.1) else enA b n (rdS b n 8 (e, 0, 0) k) := by unfold clS; rw [hw, ee]
  have hck : clK b n c s.1 k = if 60 ≤ c ∨ fuA k 8 = true then k else if 8 = 0 ∧ 0 < c then k else rdK b n 8 (e, 0, 0) k := by unfold clK; rw [hw, ee]
  have good : ∀ τ, ¬ (60 ≤ c ∨ fuA k 8 = true) → ¬ (8 = 0 ∧ 0 < c) → frQ σ τ → rmC b n (enA b n (rdS b n 8 (e, 0, 0) k)) τ → ((rdS b n 8 (e, 0, 0) k).2.1 = 0 → rI τ 108 7 = nI (c + 1) ∧ skQ τ (rdK b n 8 (e, 0, 0) k)) → P none τ := fun τ g1 g2 g3 g4 g5 => by
    rw [if_neg g1, if_neg g2] at hcl hck
    refine hP τ g3 (by rw [hcl]; exact g4) (fun z => ?_)
    rw [hcl] at z
    rw [hck]
    exact g5 (enA_f0 z)
  refine meth_ok k_Mo_clause q_Mo_clause rfl fun At hAt => ?_
  have body : ¬ (60 ≤ c ∨ fuA k 8 = true) → ¬ (8 = 0 ∧ 0 < c) → ∀ ρ z3 z4 z5, (∀ a j, ¬ r3 a j → rI ρ a j = rI σ a j) → ρ.2 = σ.2 → rmC b n (e, 0, 0) ρ → At 148 [.ref 108, .int (nI 7), .int (nI 0), z3, z4, z5] [] ρ 0 0 := by
    intro g1 g2 ρ z3 z4 z5 u0 e0 y0
    refine hAt 3 _ _ _ _ _ _ ?_
    refine Eq.mpr (congrArg (fun xq : Int32 => At 153 [.ref (108), .int (nI 7), .int (nI 0), z3, z4, z5] [.int xq, .ref (108)] ρ 0 0) (show rI ρ 108 7 = nI c from ((u0 108 7 (by unfold r3; omega)).trans h7))) ?_
    refine hAt 3 _ _ _ _ _ _ ?_
    refine Eq.mpr (congrArg (fun xq : Mem => At 158 [.ref (108), .int (nI 7), .int (nI 0), z3, z4, z5] [] xq 0 0) (congrArg (fun z => wI ρ 108 7 z) (adE rfl rfl))) ?_
    refine hAt 4 _ _ _ _ _ _ ?_
    refine And.intro (aOKx (n := 11) (j := 0) rfl (by decide) rfl rfl (by omega) (by omega)) ?_
    refine Eq.mpr (congrArg (fun xq : Int32 => At 164 [.ref (108), .int (nI 7), .int (nI 0), z3, z4, z5] [.int xq] (wI ρ 108 7 (nI (c + 1))) 0 0) (show rI (wI ρ 108 7 (nI (c + 1))) 110 (nI 0).toNatClampNeg = nI (kT k 0) from (ldE rfl (by omega) (by rw [rI_wI, if_neg (by omega)]; exact ((u0 110 0 (by unfold r3; omega)).trans (hQ.1 0 (by omega))))))) ?_
    refine hAt 7 _ _ _ _ _ _ ?_
    refine And.intro (aOKx (n := 11) (j := 1) rfl (by decide) rfl rfl (by omega) (by omega)) ?_
    refine Eq.mpr (congrArg (fun xq : Int32 => At 173 [.ref (108), .int (nI 7), .int (nI 0), .int ((nI (kT k 0)) - nI 1), z4, z5] [.int xq] (wI ρ 108 7 (nI (c + 1))) 0 0) (show rI (wI ρ 108 7 (nI (c + 1))) 110 (nI 1).toNatClampNeg = nI (kT k 1) from (ldE rfl (by omega) (by rw [rI_wI, if_neg (by omega)]; exact ((u0 110 1 (by unfold r3; omega)).trans (hQ.1 1 (by omega))))))) ?_
    refine hAt 5 _ _ _ _ _ _ ?_
    refine And.intro (And.intro (fun hq => absurd hq (by decide)) (And.intro (fun hq => absurd hq (by decide)) (And.intro (fun hq => absurd hq (by decide)) (And.intro (fun hq => absurd hq (by decide)) (And.intro (fun hq => absurd hq (by decide)) (And.intro (fun hq => absurd hq (by decide)) (And.intro (fun hq => absurd hq (by decide)) (And.intro (fun _ => ?_) (And.intro (fun hq => absurd hq (by decide)) (And.intro (fun hq => absurd hq (by decide)) (And.intro (fun hq => absurd hq (by decide)) (trivial)))))))))))) (fun hq => absurd hq (by decide))
    refine hAt 6 _ _ _ _ _ _ ?_
    refine Eq.mpr (congrArg (fun xq : Int32 => At 371 [.ref (108), .int (nI 7), .int (nI 0), .int ((nI (kT k 0)) - nI 1), .int ((nI (kT k 1)) - nI 1), z5] [.int xq, .int (nI 1), .ref (108), .int (nI 7), .ref (110)] (wI ρ 108 7 (nI (c + 1))) 0 0) (ntZ rfl)) ?_
    refine hAt 2 _ _ _ _ _ _ ?_
    refine s_number hn hb (y0.fr (fun j hj => by rw [rI_wI, if_neg (by omega)]) (fun j => by rw [rI_wI, if_neg (by omega)])) (by omega) (by omega) (fun τ1 x1 u1 e1 y1 w1 => ?_)
    refine And.intro (aOKx (n := 11) (j := 7) rfl (by decide) rfl rfl (by omega) (by omega)) ?_
    refine Eq.mpr (congrArg (fun xq : Mem => At 375 [.ref (108), .int (nI 7), .int (nI 0), .int ((nI (kT k 0)) - nI 1), .int ((nI (kT k 1)) - nI 1), z5] [] xq 0 0) (wrE (σ := τ1) (q := 110) (p := rfl) (hj := by omega) (h := rfl))) ?_
    refine hAt 3 _ _ _ _ _ _ ?_
    refine And.intro (fun _ => ?_) (fun hq => absurd hq (by decide))
    refine hAt 3 _ _ _ _ _ _ ?_
    refine s_closes (s := rdS b n 8 (e, 0, 0) k) hn hb (y1.fr (fun j hj => by rw [rI_wI, if_neg (by omega)]) (fun j => by rw [rI_wI, if_neg (by omega)])) (fun τ9 u9 e9 y9 => ?_)
    refine good τ9 g1 g2 ⟨fun a j q => by unfold trQ at q; refine (u9 _ _ (by unfold r3; omega)).trans ?_; rw [rI_wI, if_neg (by omega)]; refine (u1 _ _ (by unfold r3; omega)).trans ?_; rw [rI_wI, if_neg (by omega)]; exact u0 _ _ (by unfold r3; omega), e9.trans (e1.trans (e0))⟩ y9 (fun hf => ⟨(u9 108 7 (by unfold r3; omega)).trans (by rw [rI_wI, if_neg (by omega)]; exact ((u1 108 7 (by unfold r3; omega)).trans (by rw [rI_wI, if_pos ⟨rfl, rfl⟩]))), ?_⟩)
    exact hQ.st (i := 7) hv (by omega) (fun a j q1 q2 => (u9 a j (by unfold r3; omega)).trans (by rw [rI_wI, if_neg (by omega)]; refine (u1 _ _ (by unfold r3; omega)).trans ?_; rw [rI_wI, if_neg (by omega)]; exact u0 _ _ (by unfold r3; omega))) ((u9 110 7 (by unfold r3; omega)).trans (by rw [rI_wI, if_pos ⟨rfl, rfl⟩]; exact w1 hf))
  have skip : ¬ (60 ≤ c ∨ fuA k 8 = true) → ¬ (8 = 0 ∧ 0 < c) → ∀ j, j ≤ n → wE b n j = e → ∀ z3 z4 z5, At 109 [.ref 108, .int (nI 7), .int (nI 0), z3, z4, z5] [] (wI σ 108 4 (nI j)) 0 0 := by
    intro g1 g2
    refine upto fun j hj ih => ?_
    intro hw z3 z4 z5
    have hz := zb_b hb j
    have hB2 : rmB b n (wI σ 108 4 (nI j)) := ⟨hB.1, fun j hj => hB.2 j hj⟩
    have out : ¬ (97 ≤ zb b n j ∧ zb b n j ≤ 122) → At 148 [.ref 108, .int (nI 7), .int (nI 0), z3, z4, z5] [] (wI σ 108 4 (nI j)) 0 0 := fun q => by
      have ej : j = e := by rw [← hw, wE, pE_e (fun z => q (by have := of_decide_eq_true z.2; rw [zb_in z.1]; omega))]
      rw [ej]
      exact body g1 g2 _ z3 z4 z5 (fr3 (fun _ _ _ => rfl) (by omega) _) rfl ⟨⟨hB.1, hB.2⟩, ⟨e, hen, rfl, fun _ => rfl⟩, ⟨Nat.zero_le _, h5⟩, h6⟩
    refine hAt 3 _ _ _ _ _ _ ?_
    refine Eq.mpr (congrArg (fun xq : Int32 => At 114 [.ref (108), .int (nI 7), .int (nI 0), z3, z4, z5] [.int xq, .ref (108)] (wI σ 108 4 (nI j)) 0 0) (show rI (wI σ 108 4 (nI j)) 108 4 = nI j from (by rw [rI_wI, if_pos ⟨rfl, rfl⟩]))) ?_
    refine hAt 3 _ _ _ _ _ _ ?_
    refine s_byteAt hn hB2 (by omega) ?_
    refine And.intro (fun hq => ?_) (fun hq => ?_)
    · have c119 : (zb b n j : Int) < 97 := (ltZ (a := zb b n j) (b := 97) rfl (ntZ rfl) (by omega) (by omega) (by omega) (by omega)).mp hq
      clear hq
      exact out (by omega)
    · have c119 : (97 : Int) ≤ (zb b n j : Int) := Int.not_lt.mp (fun zq => hq ((ltZ (a := zb b n j) (b := 97) rfl (ntZ rfl) (by omega) (by omega) (by omega) (by omega)).mpr zq))
      clear hq
      refine hAt 3 _ _ _ _ _ _ ?_
      refine Eq.mpr (congrArg (fun xq : Int32 => At 127 [.ref (108), .int (nI 7), .int (nI 0), z3, z4, z5] [.int xq, .ref (108)] (wI σ 108 4 (nI j)) 0 0) (show rI (wI σ 108 4 (nI j)) 108 4 = nI j from (by rw [rI_wI, if_pos ⟨rfl, rfl⟩]))) ?_
      refine hAt 3 _ _ _ _ _ _ ?_
      refine s_byteAt hn hB2 (by omega) ?_
      refine And.intro (fun hq => ?_) (fun hq => ?_)
      · have c132 : (122 : Int) < zb b n j := (ltZ (a := 122) (b := zb b n j) (ntZ rfl) rfl (by omega) (by omega) (by omega) (by omega)).mp hq
        clear hq
        exact out (by omega)
      · have c132 : (zb b n j : Int) ≤ (122 : Int) := Int.not_lt.mp (fun zq => hq ((ltZ (a := 122) (b := zb b n j) (ntZ rfl) rfl (by omega) (by omega) (by omega) (by omega)).mpr zq))
        clear hq
        refine hAt 3 _ _ _ _ _ _ ?_
        refine Eq.mpr (congrArg (fun xq : Int32 => At 140 [.ref (108), .int (nI 7), .int (nI 0), z3, z4, z5] [.int xq, .ref (108)] (wI σ 108 4 (nI j)) 0 0) (show rI (wI σ 108 4 (nI j)) 108 4 = nI j from (by rw [rI_wI, if_pos ⟨rfl, rfl⟩]))) ?_
        refine hAt 3 _ _ _ _ _ _ ?_
        refine Eq.mpr (congrArg (fun xq : Mem => At 145 [.ref (108), .int (nI 7), .int (nI 0), z3, z4, z5] [] xq 0 0) (congrArg (fun z => wI (wI σ 108 4 (nI j)) 108 4 z) (adE rfl rfl))) ?_
        refine hAt 1 _ _ _ _ _ _ ?_
        obtain ⟨q1, q2⟩ := zb_p (b := b) (n := n) (k := j) (z := 97) (by omega) c119
        have z := ih q1 (by rw [← hw]; exact (pE_s q1 (decide_eq_true (by omega))).symm) z3 z4 z5
        rw [← wI_wI σ 108 4 (nI j) (nI (j + 1))] at z
        exact z
  refine hAt 8 _ _ _ _ _ _ ?_
  refine s_kindHere hn hb hB h3 hi hs h5 ?_
  rw [hk]
  refine s_in ?_
  rw [show decide (¬ nI 7 < nI 2 ∧ ¬ nI 4 < nI 7) = false from by decide]
  refine And.intro (fun hq => absurd hq (by decide)) (fun _ => ?_)
  refine hAt 3 _ _ _ _ _ _ ?_
  refine And.intro (fun _ => ?_) (fun hq => absurd hq (by decide))
  refine hAt 5 _ _ _ _ _ _ ?_
  refine And.intro (fun hq => ?_) (fun hq => ?_)
  · have c28 : ¬ (7 : Int) = -1 := fun zq => hq ((eqZ (a := 7) (b := -1) (ntZ rfl) m1Z (by omega) (by omega) (by omega) (by omega)).mpr zq)
    clear hq
    refine hAt 2 _ _ _ _ _ _ ?_
    refine Eq.mpr (congrArg (fun xq : Int32 => At 47 [.ref (108), .int (nI 7), .int (nI 0), junk, junk, junk] [.int xq] σ 0 0) (show rI σ 108 7 = nI c from h7)) ?_
    refine hAt 2 _ _ _ _ _ _ ?_
    refine And.intro (fun hq => ?_) (fun hq => ?_)
    · have c49 : c = 60 := (eqN (a := c) (b := 60) rfl rfl (by omega) (by omega)).mp hq
      clear hq
      refine hAt 4 _ _ _ _ _ _ ?_
      refine Eq.mpr (congrArg (fun xq : Int32 => At 75 [.ref (108), .int (nI 7), .int (nI 0), junk, junk, junk] [.int xq, .int (nI 3), .ref (108)] σ 0 0) (show rI σ 108 4 = nI s.1 from h3)) ?_
      refine hAt 4 _ _ _ _ _ _ ?_
      refine s_wrong0 h5 ?_
      refine Eq.mpr (congrArg (fun xq : Int32 => At 105 [.ref (108), .int (nI 7), .int (nI 0), junk, junk, junk] [.int xq] (wI (wI σ 108 5 (nI 3)) 108 6 (nI s.1)) 0 0) (show rI (wI (wI σ 108 5 (nI 3)) 108 6 (nI s.1)) 108 5 = nI 3 from (by rw [rI_wI, if_neg (by omega), rI_wI, if_pos ⟨rfl, rfl⟩]))) ?_
      refine hAt 1 _ _ _ _ _ _ ?_
      refine And.intro (fun hq => absurd hq (by decide)) (fun _ => ?_)
      refine hAt 1 _ _ _ _ _ _ ?_
      exact bad 3 (by decide) (hcl.trans (if_pos (Or.inl (by omega))))
    · have c49 : ¬ c = 60 := fun zq => hq ((eqN (a := c) (b := 60) rfl rfl (by omega) (by omega)).mpr zq)
      clear hq
      refine hAt 2 _ _ _ _ _ _ ?_
      refine And.intro (fun _ => ?_) (fun hq => absurd hq (by decide))
      refine hAt 2 _ _ _ _ _ _ ?_
      refine And.intro (fun _ => ?_) (fun hq => absurd hq (by decide))
      refine hAt 2 _ _ _ _ _ _ ?_
      refine Eq.mpr (congrArg (fun xq : Int32 => At 105 [.ref (108), .int (nI 7), .int (nI 0), junk, junk, junk] [.int xq] σ 0 0) (show rI σ 108 5 = nI 0 from h5)) ?_
      refine hAt 1 _ _ _ _ _ _ ?_
      refine And.intro (fun _ => ?_) (fun hq => absurd hq (by decide))
      have z := skip (fun z => z.elim (fun z => by omega) (fun z => by cases z)) (fun z => absurd z.1 (by decide)) s.1 hi (by rw [ee]) junk junk junk
      rw [wI_self h3] at z
      exact z
  · have c28 : (7 : Int) = -1 := (eqZ (a := 7) (b := -1) (ntZ rfl) m1Z (by omega) (by omega) (by omega) (by omega)).mp hq
    clear hq
    exact absurd c28 (by omega)
set_option maxRecDepth 4000 in
theorem s_cl_9 {c : Nat} (hc : c ≤ 60) (hn : n ≤ 600) (hb : ∀ j, j < n → b j < 256) (hR : rmC b n s σ) (h0 : s.2.1 = 0) (hs : bS b n s.1 = s.1) (h7 : rI σ 108 7 = nI c) (hQ : skQ σ k) (hv : VS k) (hw : woA b n s.1 = some 9) (hP : ∀ τ, frQ σ τ → rmC b n (clS b n c s.1 k) τ → ((clS b n c s.1 k).2.1 = 0 → rI τ 108 7 = nI (c + 1) ∧ skQ τ (clK b n c s.1 k)) → P none τ) : Ret w true (d + 6) 0 0 m_Mo_clause [.ref 108] σ P X := by
  obtain ⟨h3, hi⟩ := hR.at0 h0
  obtain ⟨hB, -, ⟨-, h5⟩, h6⟩ := hR
  have h5 : rI σ 108 5 = nI 0 := h5.trans (congrArg nI h0)
  have h6 : rI σ 108 6 = -1 := h6.trans (if_pos h0)
  have vs := hv
  obtain ⟨v1, v2, v3, v4, v5, v6, v7, v8, v9, v10, v11, -⟩ := vs
  have hW : kT k 0 ≤ 8 ∧ kT k 1 ≤ 8 := ⟨v1.2, v2.2⟩
  have bad : ∀ f, f ≠ 0 ∧ f ≤ 4 → clS b n c s.1 k = (0, f, s.1) → P none (wI (wI σ 108 5 (nI f)) 108 6 (nI s.1)) := fun f hf he => by
    refine hP _ ⟨fun a j q => by unfold trQ at q; rw [rI_wI, if_neg (by omega), rI_wI, if_neg (by omega)], rfl⟩ ?_ (fun z => ?_)
    · rw [he]; exact ⟨⟨hB.1, hB.2⟩, ⟨s.1, hi, h3, fun z => absurd z hf.1⟩, ⟨hf.2, rfl⟩, by rw [plI, if_neg hf.1]; rfl⟩
    · rw [he] at z; exact absurd z hf.1
  have hk : kdI b n s.1 = nI 8 := by unfold kdI; rw [hw]; rfl
  obtain ⟨e, ee⟩ : ∃ e, e = wE b n s.1 := ⟨_, rfl⟩
  have hen : e ≤ n := by rw [ee]; exact pE_le isLe b n _ hi
  have hcl : clS b n c s.1 k = if 60 ≤ c ∨ fuA k 9 = true then (0, 3, s.1) else if 9 = 0 ∧ 0 < c then (0, 4, s.1) else enA b n (rdS b n 9 (e, 0, 0) k) := by unfold clS; rw [hw, ee]
  have hck : clK b n c s.1 k = if 60 ≤ c ∨ fuA k 9 = true then k else if 9 = 0 ∧ 0 < c then k else rdK b n 9 (e, 0, 0) k := by unfold clK; rw [hw, ee]
  have good : ∀ τ, ¬ (60 ≤ c ∨ fuA k 9 = true) → ¬ (9 = 0 ∧ 0 < c) → frQ σ τ → rmC b n (enA b n (rdS b n 9 (e, 0, 0) k)) τ → ((rdS b n 9 (e, 0, 0) k).2.1 = 0 → rI τ 108 7 = nI (c + 1) ∧ skQ τ (rdK b n 9 (e, 0, 0) k)) → P none τ := fun τ g1 g2 g3 g4 g5 => by
    rw [if_neg g1, if_neg g2] at hcl hck
    refine hP τ g3 (by rw [hcl]; exact g4) (fun z => ?_)
    rw [hcl] at z
    rw [hck]
    exact g5 (enA_f0 z)
  refine meth_ok k_Mo_clause q_Mo_clause rfl fun At hAt => ?_
  have body : ¬ (60 ≤ c ∨ fuA k 9 = true) → ¬ (9 = 0 ∧ 0 < c) → ∀ ρ z3 z4 z5, (∀ a j, ¬ r3 a j → rI ρ a j = rI σ a j) → ρ.2 = σ.2 → rmC b n (e, 0, 0) ρ → At 148 [.ref 108, .int (nI 8), .int (nI 0), z3, z4, z5] [] ρ 0 0 := by
    intro g1 g2 ρ z3 z4 z5 u0 e0 y0
    refine hAt 3 _ _ _ _ _ _ ?_
    refine Eq.mpr (congrArg (fun xq : Int32 => At 153 [.ref (108), .int (nI 8), .int (nI 0), z3, z4, z5] [.int xq, .ref (108)] ρ 0 0) (show rI ρ 108 7 = nI c from ((u0 108 7 (by unfold r3; omega)).trans h7))) ?_
    refine hAt 3 _ _ _ _ _ _ ?_
    refine Eq.mpr (congrArg (fun xq : Mem => At 158 [.ref (108), .int (nI 8), .int (nI 0), z3, z4, z5] [] xq 0 0) (congrArg (fun z => wI ρ 108 7 z) (adE rfl rfl))) ?_
    refine hAt 4 _ _ _ _ _ _ ?_
    refine And.intro (aOKx (n := 11) (j := 0) rfl (by decide) rfl rfl (by omega) (by omega)) ?_
    refine Eq.mpr (congrArg (fun xq : Int32 => At 164 [.ref (108), .int (nI 8), .int (nI 0), z3, z4, z5] [.int xq] (wI ρ 108 7 (nI (c + 1))) 0 0) (show rI (wI ρ 108 7 (nI (c + 1))) 110 (nI 0).toNatClampNeg = nI (kT k 0) from (ldE rfl (by omega) (by rw [rI_wI, if_neg (by omega)]; exact ((u0 110 0 (by unfold r3; omega)).trans (hQ.1 0 (by omega))))))) ?_
    refine hAt 7 _ _ _ _ _ _ ?_
    refine And.intro (aOKx (n := 11) (j := 1) rfl (by decide) rfl rfl (by omega) (by omega)) ?_
    refine Eq.mpr (congrArg (fun xq : Int32 => At 173 [.ref (108), .int (nI 8), .int (nI 0), .int ((nI (kT k 0)) - nI 1), z4, z5] [.int xq] (wI ρ 108 7 (nI (c + 1))) 0 0) (show rI (wI ρ 108 7 (nI (c + 1))) 110 (nI 1).toNatClampNeg = nI (kT k 1) from (ldE rfl (by omega) (by rw [rI_wI, if_neg (by omega)]; exact ((u0 110 1 (by unfold r3; omega)).trans (hQ.1 1 (by omega))))))) ?_
    refine hAt 5 _ _ _ _ _ _ ?_
    refine And.intro (And.intro (fun hq => absurd hq (by decide)) (And.intro (fun hq => absurd hq (by decide)) (And.intro (fun hq => absurd hq (by decide)) (And.intro (fun hq => absurd hq (by decide)) (And.intro (fun hq => absurd hq (by decide)) (And.intro (fun hq => absurd hq (by decide)) (And.intro (fun hq => absurd hq (by decide)) (And.intro (fun hq => absurd hq (by decide)) (And.intro (fun _ => ?_) (And.intro (fun hq => absurd hq (by decide)) (And.intro (fun hq => absurd hq (by decide)) (trivial)))))))))))) (fun hq => absurd hq (by decide))
    refine hAt 6 _ _ _ _ _ _ ?_
    refine Eq.mpr (congrArg (fun xq : Int32 => At 388 [.ref (108), .int (nI 8), .int (nI 0), .int ((nI (kT k 0)) - nI 1), .int ((nI (kT k 1)) - nI 1), z5] [.int xq, .int (nI 1), .ref (108), .int (nI 8), .ref (110)] (wI ρ 108 7 (nI (c + 1))) 0 0) (ntZ rfl)) ?_
    refine hAt 2 _ _ _ _ _ _ ?_
    refine s_number hn hb (y0.fr (fun j hj => by rw [rI_wI, if_neg (by omega)]) (fun j => by rw [rI_wI, if_neg (by omega)])) (by omega) (by omega) (fun τ1 x1 u1 e1 y1 w1 => ?_)
    refine And.intro (aOKx (n := 11) (j := 8) rfl (by decide) rfl rfl (by omega) (by omega)) ?_
    refine Eq.mpr (congrArg (fun xq : Mem => At 392 [.ref (108), .int (nI 8), .int (nI 0), .int ((nI (kT k 0)) - nI 1), .int ((nI (kT k 1)) - nI 1), z5] [] xq 0 0) (wrE (σ := τ1) (q := 110) (p := rfl) (hj := by omega) (h := rfl))) ?_
    refine hAt 3 _ _ _ _ _ _ ?_
    refine And.intro (fun _ => ?_) (fun hq => absurd hq (by decide))
    refine hAt 3 _ _ _ _ _ _ ?_
    refine s_closes (s := rdS b n 9 (e, 0, 0) k) hn hb (y1.fr (fun j hj => by rw [rI_wI, if_neg (by omega)]) (fun j => by rw [rI_wI, if_neg (by omega)])) (fun τ9 u9 e9 y9 => ?_)
    refine good τ9 g1 g2 ⟨fun a j q => by unfold trQ at q; refine (u9 _ _ (by unfold r3; omega)).trans ?_; rw [rI_wI, if_neg (by omega)]; refine (u1 _ _ (by unfold r3; omega)).trans ?_; rw [rI_wI, if_neg (by omega)]; exact u0 _ _ (by unfold r3; omega), e9.trans (e1.trans (e0))⟩ y9 (fun hf => ⟨(u9 108 7 (by unfold r3; omega)).trans (by rw [rI_wI, if_neg (by omega)]; exact ((u1 108 7 (by unfold r3; omega)).trans (by rw [rI_wI, if_pos ⟨rfl, rfl⟩]))), ?_⟩)
    exact hQ.st (i := 8) hv (by omega) (fun a j q1 q2 => (u9 a j (by unfold r3; omega)).trans (by rw [rI_wI, if_neg (by omega)]; refine (u1 _ _ (by unfold r3; omega)).trans ?_; rw [rI_wI, if_neg (by omega)]; exact u0 _ _ (by unfold r3; omega))) ((u9 110 8 (by unfold r3; omega)).trans (by rw [rI_wI, if_pos ⟨rfl, rfl⟩]; exact w1 hf))
  have skip : ¬ (60 ≤ c ∨ fuA k 9 = true) → ¬ (9 = 0 ∧ 0 < c) → ∀ j, j ≤ n → wE b n j = e → ∀ z3 z4 z5, At 109 [.ref 108, .int (nI 8), .int (nI 0), z3, z4, z5] [] (wI σ 108 4 (nI j)) 0 0 := by
    intro g1 g2
    refine upto fun j hj ih => ?_
    intro hw z3 z4 z5
    have hz := zb_b hb j
    have hB2 : rmB b n (wI σ 108 4 (nI j)) := ⟨hB.1, fun j hj => hB.2 j hj⟩
    have out : ¬ (97 ≤ zb b n j ∧ zb b n j ≤ 122) → At 148 [.ref 108, .int (nI 8), .int (nI 0), z3, z4, z5] [] (wI σ 108 4 (nI j)) 0 0 := fun q => by
      have ej : j = e := by rw [← hw, wE, pE_e (fun z => q (by have := of_decide_eq_true z.2; rw [zb_in z.1]; omega))]
      rw [ej]
      exact body g1 g2 _ z3 z4 z5 (fr3 (fun _ _ _ => rfl) (by omega) _) rfl ⟨⟨hB.1, hB.2⟩, ⟨e, hen, rfl, fun _ => rfl⟩, ⟨Nat.zero_le _, h5⟩, h6⟩
    refine hAt 3 _ _ _ _ _ _ ?_
    refine Eq.mpr (congrArg (fun xq : Int32 => At 114 [.ref (108), .int (nI 8), .int (nI 0), z3, z4, z5] [.int xq, .ref (108)] (wI σ 108 4 (nI j)) 0 0) (show rI (wI σ 108 4 (nI j)) 108 4 = nI j from (by rw [rI_wI, if_pos ⟨rfl, rfl⟩]))) ?_
    refine hAt 3 _ _ _ _ _ _ ?_
    refine s_byteAt hn hB2 (by omega) ?_
    refine And.intro (fun hq => ?_) (fun hq => ?_)
    · have c119 : (zb b n j : Int) < 97 := (ltZ (a := zb b n j) (b := 97) rfl (ntZ rfl) (by omega) (by omega) (by omega) (by omega)).mp hq
      clear hq
      exact out (by omega)
    · have c119 : (97 : Int) ≤ (zb b n j : Int) := Int.not_lt.mp (fun zq => hq ((ltZ (a := zb b n j) (b := 97) rfl (ntZ rfl) (by omega) (by omega) (by omega) (by omega)).mpr zq))
      clear hq
      refine hAt 3 _ _ _ _ _ _ ?_
      refine Eq.mpr (congrArg (fun xq : Int32 => At 127 [.ref (108), .int (nI 8), .int (nI 0), z3, z4, z5] [.int xq, .ref (108)] (wI σ 108 4 (nI j)) 0 0) (show rI (wI σ 108 4 (nI j)) 108 4 = nI j from (by rw [rI_wI, if_pos ⟨rfl, rfl⟩]))) ?_
      refine hAt 3 _ _ _ _ _ _ ?_
      refine s_byteAt hn hB2 (by omega) ?_
      refine And.intro (fun hq => ?_) (fun hq => ?_)
      · have c132 : (122 : Int) < zb b n j := (ltZ (a := 122) (b := zb b n j) (ntZ rfl) rfl (by omega) (by omega) (by omega) (by omega)).mp hq
        clear hq
        exact out (by omega)
      · have c132 : (zb b n j : Int) ≤ (122 : Int) := Int.not_lt.mp (fun zq => hq ((ltZ (a := 122) (b := zb b n j) (ntZ rfl) rfl (by omega) (by omega) (by omega) (by omega)).mpr zq))
        clear hq
        refine hAt 3 _ _ _ _ _ _ ?_
        refine Eq.mpr (congrArg (fun xq : Int32 => At 140 [.ref (108), .int (nI 8), .int (nI 0), z3, z4, z5] [.int xq, .ref (108)] (wI σ 108 4 (nI j)) 0 0) (show rI (wI σ 108 4 (nI j)) 108 4 = nI j from (by rw [rI_wI, if_pos ⟨rfl, rfl⟩]))) ?_
        refine hAt 3 _ _ _ _ _ _ ?_
        refine Eq.mpr (congrArg (fun xq : Mem => At 145 [.ref (108), .int (nI 8), .int (nI 0), z3, z4, z5] [] xq 0 0) (congrArg (fun z => wI (wI σ 108 4 (nI j)) 108 4 z) (adE rfl rfl))) ?_
        refine hAt 1 _ _ _ _ _ _ ?_
        obtain ⟨q1, q2⟩ := zb_p (b := b) (n := n) (k := j) (z := 97) (by omega) c119
        have z := ih q1 (by rw [← hw]; exact (pE_s q1 (decide_eq_true (by omega))).symm) z3 z4 z5
        rw [← wI_wI σ 108 4 (nI j) (nI (j + 1))] at z
        exact z
  refine hAt 8 _ _ _ _ _ _ ?_
  refine s_kindHere hn hb hB h3 hi hs h5 ?_
  rw [hk]
  refine s_in ?_
  rw [show decide (¬ nI 8 < nI 2 ∧ ¬ nI 4 < nI 8) = false from by decide]
  refine And.intro (fun hq => absurd hq (by decide)) (fun _ => ?_)
  refine hAt 3 _ _ _ _ _ _ ?_
  refine And.intro (fun _ => ?_) (fun hq => absurd hq (by decide))
  refine hAt 5 _ _ _ _ _ _ ?_
  refine And.intro (fun hq => ?_) (fun hq => ?_)
  · have c28 : ¬ (8 : Int) = -1 := fun zq => hq ((eqZ (a := 8) (b := -1) (ntZ rfl) m1Z (by omega) (by omega) (by omega) (by omega)).mpr zq)
    clear hq
    refine hAt 2 _ _ _ _ _ _ ?_
    refine Eq.mpr (congrArg (fun xq : Int32 => At 47 [.ref (108), .int (nI 8), .int (nI 0), junk, junk, junk] [.int xq] σ 0 0) (show rI σ 108 7 = nI c from h7)) ?_
    refine hAt 2 _ _ _ _ _ _ ?_
    refine And.intro (fun hq => ?_) (fun hq => ?_)
    · have c49 : c = 60 := (eqN (a := c) (b := 60) rfl rfl (by omega) (by omega)).mp hq
      clear hq
      refine hAt 4 _ _ _ _ _ _ ?_
      refine Eq.mpr (congrArg (fun xq : Int32 => At 75 [.ref (108), .int (nI 8), .int (nI 0), junk, junk, junk] [.int xq, .int (nI 3), .ref (108)] σ 0 0) (show rI σ 108 4 = nI s.1 from h3)) ?_
      refine hAt 4 _ _ _ _ _ _ ?_
      refine s_wrong0 h5 ?_
      refine Eq.mpr (congrArg (fun xq : Int32 => At 105 [.ref (108), .int (nI 8), .int (nI 0), junk, junk, junk] [.int xq] (wI (wI σ 108 5 (nI 3)) 108 6 (nI s.1)) 0 0) (show rI (wI (wI σ 108 5 (nI 3)) 108 6 (nI s.1)) 108 5 = nI 3 from (by rw [rI_wI, if_neg (by omega), rI_wI, if_pos ⟨rfl, rfl⟩]))) ?_
      refine hAt 1 _ _ _ _ _ _ ?_
      refine And.intro (fun hq => absurd hq (by decide)) (fun _ => ?_)
      refine hAt 1 _ _ _ _ _ _ ?_
      exact bad 3 (by decide) (hcl.trans (if_pos (Or.inl (by omega))))
    · have c49 : ¬ c = 60 := fun zq => hq ((eqN (a := c) (b := 60) rfl rfl (by omega) (by omega)).mpr zq)
      clear hq
      refine hAt 2 _ _ _ _ _ _ ?_
      refine And.intro (fun _ => ?_) (fun hq => absurd hq (by decide))
      refine hAt 2 _ _ _ _ _ _ ?_
      refine And.intro (fun _ => ?_) (fun hq => absurd hq (by decide))
      refine hAt 2 _ _ _ _ _ _ ?_
      refine Eq.mpr (congrArg (fun xq : Int32 => At 105 [.ref (108), .int (nI 8), .int (nI 0), junk, junk, junk] [.int xq] σ 0 0) (show rI σ 108 5 = nI 0 from h5)) ?_
      refine hAt 1 _ _ _ _ _ _ ?_
      refine And.intro (fun _ => ?_) (fun hq => absurd hq (by decide))
      have z := skip (fun z => z.elim (fun z => by omega) (fun z => by cases z)) (fun z => absurd z.1 (by decide)) s.1 hi (by rw [ee]) junk junk junk
      rw [wI_self h3] at z
      exact z
  · have c28 : (8 : Int) = -1 := (eqZ (a := 8) (b := -1) (ntZ rfl) m1Z (by omega) (by omega) (by omega) (by omega)).mp hq
    clear hq
    exact absurd c28 (by omega)
set_option maxRecDepth 4000 in
theorem s_cl_10 {c : Nat} (hc : c ≤ 60) (hn : n ≤ 600) (hb : ∀ j, j < n → b j < 256) (hR : rmC b n s σ) (h0 : s.2.1 = 0) (hs : bS b n s.1 = s.1) (h7 : rI σ 108 7 = nI c) (hQ : skQ σ k) (hv : VS k) (hw : woA b n s.1 = some 10) (hP : ∀ τ, frQ σ τ → rmC b n (clS b n c s.1 k) τ → ((clS b n c s.1 k).2.1 = 0 → rI τ 108 7 = nI (c + 1) ∧ skQ τ (clK b n c s.1 k)) → P none τ) : Ret w true (d + 6) 0 0 m_Mo_clause [.ref 108] σ P X := by
  obtain ⟨h3, hi⟩ := hR.at0 h0
  obtain ⟨hB, -, ⟨-, h5⟩, h6⟩ := hR
  have h5 : rI σ 108 5 = nI 0 := h5.trans (congrArg nI h0)
  have h6 : rI σ 108 6 = -1 := h6.trans (if_pos h0)
  have vs := hv
  obtain ⟨v1, v2, v3, v4, v5, v6, v7, v8, v9, v10, v11, -⟩ := vs
  have hW : kT k 0 ≤ 8 ∧ kT k 1 ≤ 8 := ⟨v1.2, v2.2⟩
  have bad : ∀ f, f ≠ 0 ∧ f ≤ 4 → clS b n c s.1 k = (0, f, s.1) → P none (wI (wI σ 108 5 (nI f)) 108 6 (nI s.1)) := fun f hf he => by
    refine hP _ ⟨fun a j q => by unfold trQ at q; rw [rI_wI, if_neg (by omega), rI_wI, if_neg (by omega)], rfl⟩ ?_ (fun z => ?_)
    · rw [he]; exact ⟨⟨hB.1, hB.2⟩, ⟨s.1, hi, h3, fun z => absurd z hf.1⟩, ⟨hf.2, rfl⟩, by rw [plI, if_neg hf.1]; rfl⟩
    · rw [he] at z; exact absurd z hf.1
  have hk : kdI b n s.1 = nI 9 := by unfold kdI; rw [hw]; rfl
  obtain ⟨e, ee⟩ : ∃ e, e = wE b n s.1 := ⟨_, rfl⟩
  have hen : e ≤ n := by rw [ee]; exact pE_le isLe b n _ hi
  have hcl : clS b n c s.1 k = if 60 ≤ c ∨ fuA k 10 = true then (0, 3, s.1) else if 10 = 0 ∧ 0 < c then (0, 4, s.1) else enA b n (rdS b n 10 (e, 0, 0) k) := by unfold clS; rw [hw, ee]
  have hck : clK b n c s.1 k = if 60 ≤ c ∨ fuA k 10 = true then k else if 10 = 0 ∧ 0 < c then k else rdK b n 10 (e, 0, 0) k := by unfold clK; rw [hw, ee]
  have good : ∀ τ, ¬ (60 ≤ c ∨ fuA k 10 = true) → ¬ (10 = 0 ∧ 0 < c) → frQ σ τ → rmC b n (enA b n (rdS b n 10 (e, 0, 0) k)) τ → ((rdS b n 10 (e, 0, 0) k).2.1 = 0 → rI τ 108 7 = nI (c + 1) ∧ skQ τ (rdK b n 10 (e, 0, 0) k)) → P none τ := fun τ g1 g2 g3 g4 g5 => by
    rw [if_neg g1, if_neg g2] at hcl hck
    refine hP τ g3 (by rw [hcl]; exact g4) (fun z => ?_)
    rw [hcl] at z
    rw [hck]
    exact g5 (enA_f0 z)
  refine meth_ok k_Mo_clause q_Mo_clause rfl fun At hAt => ?_
  have body : ¬ (60 ≤ c ∨ fuA k 10 = true) → ¬ (10 = 0 ∧ 0 < c) → ∀ ρ z3 z4 z5, (∀ a j, ¬ r3 a j → rI ρ a j = rI σ a j) → ρ.2 = σ.2 → rmC b n (e, 0, 0) ρ → At 148 [.ref 108, .int (nI 9), .int (nI 0), z3, z4, z5] [] ρ 0 0 := by
    intro g1 g2 ρ z3 z4 z5 u0 e0 y0
    refine hAt 3 _ _ _ _ _ _ ?_
    refine Eq.mpr (congrArg (fun xq : Int32 => At 153 [.ref (108), .int (nI 9), .int (nI 0), z3, z4, z5] [.int xq, .ref (108)] ρ 0 0) (show rI ρ 108 7 = nI c from ((u0 108 7 (by unfold r3; omega)).trans h7))) ?_
    refine hAt 3 _ _ _ _ _ _ ?_
    refine Eq.mpr (congrArg (fun xq : Mem => At 158 [.ref (108), .int (nI 9), .int (nI 0), z3, z4, z5] [] xq 0 0) (congrArg (fun z => wI ρ 108 7 z) (adE rfl rfl))) ?_
    refine hAt 4 _ _ _ _ _ _ ?_
    refine And.intro (aOKx (n := 11) (j := 0) rfl (by decide) rfl rfl (by omega) (by omega)) ?_
    refine Eq.mpr (congrArg (fun xq : Int32 => At 164 [.ref (108), .int (nI 9), .int (nI 0), z3, z4, z5] [.int xq] (wI ρ 108 7 (nI (c + 1))) 0 0) (show rI (wI ρ 108 7 (nI (c + 1))) 110 (nI 0).toNatClampNeg = nI (kT k 0) from (ldE rfl (by omega) (by rw [rI_wI, if_neg (by omega)]; exact ((u0 110 0 (by unfold r3; omega)).trans (hQ.1 0 (by omega))))))) ?_
    refine hAt 7 _ _ _ _ _ _ ?_
    refine And.intro (aOKx (n := 11) (j := 1) rfl (by decide) rfl rfl (by omega) (by omega)) ?_
    refine Eq.mpr (congrArg (fun xq : Int32 => At 173 [.ref (108), .int (nI 9), .int (nI 0), .int ((nI (kT k 0)) - nI 1), z4, z5] [.int xq] (wI ρ 108 7 (nI (c + 1))) 0 0) (show rI (wI ρ 108 7 (nI (c + 1))) 110 (nI 1).toNatClampNeg = nI (kT k 1) from (ldE rfl (by omega) (by rw [rI_wI, if_neg (by omega)]; exact ((u0 110 1 (by unfold r3; omega)).trans (hQ.1 1 (by omega))))))) ?_
    refine hAt 5 _ _ _ _ _ _ ?_
    refine And.intro (And.intro (fun hq => absurd hq (by decide)) (And.intro (fun hq => absurd hq (by decide)) (And.intro (fun hq => absurd hq (by decide)) (And.intro (fun hq => absurd hq (by decide)) (And.intro (fun hq => absurd hq (by decide)) (And.intro (fun hq => absurd hq (by decide)) (And.intro (fun hq => absurd hq (by decide)) (And.intro (fun hq => absurd hq (by decide)) (And.intro (fun hq => absurd hq (by decide)) (And.intro (fun _ => ?_) (And.intro (fun hq => absurd hq (by decide)) (trivial)))))))))))) (fun hq => absurd hq (by decide))
    refine hAt 6 _ _ _ _ _ _ ?_
    refine Eq.mpr (congrArg (fun xq : Int32 => At 405 [.ref (108), .int (nI 9), .int (nI 0), .int ((nI (kT k 0)) - nI 1), .int ((nI (kT k 1)) - nI 1), z5] [.int xq, .int (nI 0), .ref (108), .int (nI 9), .ref (110)] (wI ρ 108 7 (nI (c + 1))) 0 0) (ntZ rfl)) ?_
    refine hAt 2 _ _ _ _ _ _ ?_
    refine s_number hn hb (y0.fr (fun j hj => by rw [rI_wI, if_neg (by omega)]) (fun j => by rw [rI_wI, if_neg (by omega)])) (by omega) (by omega) (fun τ1 x1 u1 e1 y1 w1 => ?_)
    refine And.intro (aOKx (n := 11) (j := 9) rfl (by decide) rfl rfl (by omega) (by omega)) ?_
    refine Eq.mpr (congrArg (fun xq : Mem => At 409 [.ref (108), .int (nI 9), .int (nI 0), .int ((nI (kT k 0)) - nI 1), .int ((nI (kT k 1)) - nI 1), z5] [] xq 0 0) (wrE (σ := τ1) (q := 110) (p := rfl) (hj := by omega) (h := rfl))) ?_
    refine hAt 3 _ _ _ _ _ _ ?_
    refine And.intro (fun _ => ?_) (fun hq => absurd hq (by decide))
    refine hAt 3 _ _ _ _ _ _ ?_
    refine s_closes (s := rdS b n 10 (e, 0, 0) k) hn hb (y1.fr (fun j hj => by rw [rI_wI, if_neg (by omega)]) (fun j => by rw [rI_wI, if_neg (by omega)])) (fun τ9 u9 e9 y9 => ?_)
    refine good τ9 g1 g2 ⟨fun a j q => by unfold trQ at q; refine (u9 _ _ (by unfold r3; omega)).trans ?_; rw [rI_wI, if_neg (by omega)]; refine (u1 _ _ (by unfold r3; omega)).trans ?_; rw [rI_wI, if_neg (by omega)]; exact u0 _ _ (by unfold r3; omega), e9.trans (e1.trans (e0))⟩ y9 (fun hf => ⟨(u9 108 7 (by unfold r3; omega)).trans (by rw [rI_wI, if_neg (by omega)]; exact ((u1 108 7 (by unfold r3; omega)).trans (by rw [rI_wI, if_pos ⟨rfl, rfl⟩]))), ?_⟩)
    exact hQ.st (i := 9) hv (by omega) (fun a j q1 q2 => (u9 a j (by unfold r3; omega)).trans (by rw [rI_wI, if_neg (by omega)]; refine (u1 _ _ (by unfold r3; omega)).trans ?_; rw [rI_wI, if_neg (by omega)]; exact u0 _ _ (by unfold r3; omega))) ((u9 110 9 (by unfold r3; omega)).trans (by rw [rI_wI, if_pos ⟨rfl, rfl⟩]; exact w1 hf))
  have skip : ¬ (60 ≤ c ∨ fuA k 10 = true) → ¬ (10 = 0 ∧ 0 < c) → ∀ j, j ≤ n → wE b n j = e → ∀ z3 z4 z5, At 109 [.ref 108, .int (nI 9), .int (nI 0), z3, z4, z5] [] (wI σ 108 4 (nI j)) 0 0 := by
    intro g1 g2
    refine upto fun j hj ih => ?_
    intro hw z3 z4 z5
    have hz := zb_b hb j
    have hB2 : rmB b n (wI σ 108 4 (nI j)) := ⟨hB.1, fun j hj => hB.2 j hj⟩
    have out : ¬ (97 ≤ zb b n j ∧ zb b n j ≤ 122) → At 148 [.ref 108, .int (nI 9), .int (nI 0), z3, z4, z5] [] (wI σ 108 4 (nI j)) 0 0 := fun q => by
      have ej : j = e := by rw [← hw, wE, pE_e (fun z => q (by have := of_decide_eq_true z.2; rw [zb_in z.1]; omega))]
      rw [ej]
      exact body g1 g2 _ z3 z4 z5 (fr3 (fun _ _ _ => rfl) (by omega) _) rfl ⟨⟨hB.1, hB.2⟩, ⟨e, hen, rfl, fun _ => rfl⟩, ⟨Nat.zero_le _, h5⟩, h6⟩
    refine hAt 3 _ _ _ _ _ _ ?_
    refine Eq.mpr (congrArg (fun xq : Int32 => At 114 [.ref (108), .int (nI 9), .int (nI 0), z3, z4, z5] [.int xq, .ref (108)] (wI σ 108 4 (nI j)) 0 0) (show rI (wI σ 108 4 (nI j)) 108 4 = nI j from (by rw [rI_wI, if_pos ⟨rfl, rfl⟩]))) ?_
    refine hAt 3 _ _ _ _ _ _ ?_
    refine s_byteAt hn hB2 (by omega) ?_
    refine And.intro (fun hq => ?_) (fun hq => ?_)
    · have c119 : (zb b n j : Int) < 97 := (ltZ (a := zb b n j) (b := 97) rfl (ntZ rfl) (by omega) (by omega) (by omega) (by omega)).mp hq
      clear hq
      exact out (by omega)
    · have c119 : (97 : Int) ≤ (zb b n j : Int) := Int.not_lt.mp (fun zq => hq ((ltZ (a := zb b n j) (b := 97) rfl (ntZ rfl) (by omega) (by omega) (by omega) (by omega)).mpr zq))
      clear hq
      refine hAt 3 _ _ _ _ _ _ ?_
      refine Eq.mpr (congrArg (fun xq : Int32 => At 127 [.ref (108), .int (nI 9), .int (nI 0), z3, z4, z5] [.int xq, .ref (108)] (wI σ 108 4 (nI j)) 0 0) (show rI (wI σ 108 4 (nI j)) 108 4 = nI j from (by rw [rI_wI, if_pos ⟨rfl, rfl⟩]))) ?_
      refine hAt 3 _ _ _ _ _ _ ?_
      refine s_byteAt hn hB2 (by omega) ?_
      refine And.intro (fun hq => ?_) (fun hq => ?_)
      · have c132 : (122 : Int) < zb b n j := (ltZ (a := 122) (b := zb b n j) (ntZ rfl) rfl (by omega) (by omega) (by omega) (by omega)).mp hq
        clear hq
        exact out (by omega)
      · have c132 : (zb b n j : Int) ≤ (122 : Int) := Int.not_lt.mp (fun zq => hq ((ltZ (a := 122) (b := zb b n j) (ntZ rfl) rfl (by omega) (by omega) (by omega) (by omega)).mpr zq))
        clear hq
        refine hAt 3 _ _ _ _ _ _ ?_
        refine Eq.mpr (congrArg (fun xq : Int32 => At 140 [.ref (108), .int (nI 9), .int (nI 0), z3, z4, z5] [.int xq, .ref (108)] (wI σ 108 4 (nI j)) 0 0) (show rI (wI σ 108 4 (nI j)) 108 4 = nI j from (by rw [rI_wI, if_pos ⟨rfl, rfl⟩]))) ?_
        refine hAt 3 _ _ _ _ _ _ ?_
        refine Eq.mpr (congrArg (fun xq : Mem => At 145 [.ref (108), .int (nI 9), .int (nI 0), z3, z4, z5] [] xq 0 0) (congrArg (fun z => wI (wI σ 108 4 (nI j)) 108 4 z) (adE rfl rfl))) ?_
        refine hAt 1 _ _ _ _ _ _ ?_
        obtain ⟨q1, q2⟩ := zb_p (b := b) (n := n) (k := j) (z := 97) (by omega) c119
        have z := ih q1 (by rw [← hw]; exact (pE_s q1 (decide_eq_true (by omega))).symm) z3 z4 z5
        rw [← wI_wI σ 108 4 (nI j) (nI (j + 1))] at z
        exact z
  refine hAt 8 _ _ _ _ _ _ ?_
  refine s_kindHere hn hb hB h3 hi hs h5 ?_
  rw [hk]
  refine s_in ?_
  rw [show decide (¬ nI 9 < nI 2 ∧ ¬ nI 4 < nI 9) = false from by decide]
  refine And.intro (fun hq => absurd hq (by decide)) (fun _ => ?_)
  refine hAt 3 _ _ _ _ _ _ ?_
  refine And.intro (fun _ => ?_) (fun hq => absurd hq (by decide))
  refine hAt 5 _ _ _ _ _ _ ?_
  refine And.intro (fun hq => ?_) (fun hq => ?_)
  · have c28 : ¬ (9 : Int) = -1 := fun zq => hq ((eqZ (a := 9) (b := -1) (ntZ rfl) m1Z (by omega) (by omega) (by omega) (by omega)).mpr zq)
    clear hq
    refine hAt 2 _ _ _ _ _ _ ?_
    refine Eq.mpr (congrArg (fun xq : Int32 => At 47 [.ref (108), .int (nI 9), .int (nI 0), junk, junk, junk] [.int xq] σ 0 0) (show rI σ 108 7 = nI c from h7)) ?_
    refine hAt 2 _ _ _ _ _ _ ?_
    refine And.intro (fun hq => ?_) (fun hq => ?_)
    · have c49 : c = 60 := (eqN (a := c) (b := 60) rfl rfl (by omega) (by omega)).mp hq
      clear hq
      refine hAt 4 _ _ _ _ _ _ ?_
      refine Eq.mpr (congrArg (fun xq : Int32 => At 75 [.ref (108), .int (nI 9), .int (nI 0), junk, junk, junk] [.int xq, .int (nI 3), .ref (108)] σ 0 0) (show rI σ 108 4 = nI s.1 from h3)) ?_
      refine hAt 4 _ _ _ _ _ _ ?_
      refine s_wrong0 h5 ?_
      refine Eq.mpr (congrArg (fun xq : Int32 => At 105 [.ref (108), .int (nI 9), .int (nI 0), junk, junk, junk] [.int xq] (wI (wI σ 108 5 (nI 3)) 108 6 (nI s.1)) 0 0) (show rI (wI (wI σ 108 5 (nI 3)) 108 6 (nI s.1)) 108 5 = nI 3 from (by rw [rI_wI, if_neg (by omega), rI_wI, if_pos ⟨rfl, rfl⟩]))) ?_
      refine hAt 1 _ _ _ _ _ _ ?_
      refine And.intro (fun hq => absurd hq (by decide)) (fun _ => ?_)
      refine hAt 1 _ _ _ _ _ _ ?_
      exact bad 3 (by decide) (hcl.trans (if_pos (Or.inl (by omega))))
    · have c49 : ¬ c = 60 := fun zq => hq ((eqN (a := c) (b := 60) rfl rfl (by omega) (by omega)).mpr zq)
      clear hq
      refine hAt 2 _ _ _ _ _ _ ?_
      refine And.intro (fun _ => ?_) (fun hq => absurd hq (by decide))
      refine hAt 2 _ _ _ _ _ _ ?_
      refine And.intro (fun _ => ?_) (fun hq => absurd hq (by decide))
      refine hAt 2 _ _ _ _ _ _ ?_
      refine Eq.mpr (congrArg (fun xq : Int32 => At 105 [.ref (108), .int (nI 9), .int (nI 0), junk, junk, junk] [.int xq] σ 0 0) (show rI σ 108 5 = nI 0 from h5)) ?_
      refine hAt 1 _ _ _ _ _ _ ?_
      refine And.intro (fun _ => ?_) (fun hq => absurd hq (by decide))
      have z := skip (fun z => z.elim (fun z => by omega) (fun z => by cases z)) (fun z => absurd z.1 (by decide)) s.1 hi (by rw [ee]) junk junk junk
      rw [wI_self h3] at z
      exact z
  · have c28 : (9 : Int) = -1 := (eqZ (a := 9) (b := -1) (ntZ rfl) m1Z (by omega) (by omega) (by omega) (by omega)).mp hq
    clear hq
    exact absurd c28 (by omega)
theorem s_clause {c : Nat} (hc : c ≤ 60) (hn : n ≤ 600) (hb : ∀ j, j < n → b j < 256) (hR : rmC b n s σ) (h0 : s.2.1 = 0) (hs : bS b n s.1 = s.1) (h7 : rI σ 108 7 = nI c) (hQ : skQ σ k) (hv : VS k) (hP : ∀ τ, frQ σ τ → rmC b n (clS b n c s.1 k) τ → ((clS b n c s.1 k).2.1 = 0 → rI τ 108 7 = nI (c + 1) ∧ skQ τ (clK b n c s.1 k)) → P none τ) : Ret w true (d + 6) 0 0 m_Mo_clause [.ref 108] σ P X := by
  cases e : woA b n s.1 with
  | none => exact s_cl_none hc hn hb hR h0 hs h7 hQ hv e hP
  | some v =>
    have h11 := (woR_some (Nat.le_refl _) e).1
    match v, h11, e with
    | 0, _, e => exact s_cl_0 hc hn hb hR h0 hs h7 hQ hv e hP
    | 1, _, e => exact s_cl_1 hc hn hb hR h0 hs h7 hQ hv e hP
    | 2, _, e => exact s_cl_2 hc hn hb hR h0 hs h7 hQ hv e hP
    | 3, _, e => exact s_cl_3 hc hn hb hR h0 hs h7 hQ hv e hP
    | 4, _, e => exact s_cl_4 hc hn hb hR h0 hs h7 hQ hv e hP
    | 5, _, e => exact s_cl_5 hc hn hb hR h0 hs h7 hQ hv e hP
    | 6, _, e => exact s_cl_6 hc hn hb hR h0 hs h7 hQ hv e hP
    | 7, _, e => exact s_cl_7 hc hn hb hR h0 hs h7 hQ hv e hP
    | 8, _, e => exact s_cl_8 hc hn hb hR h0 hs h7 hQ hv e hP
    | 9, _, e => exact s_cl_9 hc hn hb hR h0 hs h7 hQ hv e hP
    | 10, _, e => exact s_cl_10 hc hn hb hR h0 hs h7 hQ hv e hP
    | v + 11, h, _ => exact absurd h (by omega)
end RME
