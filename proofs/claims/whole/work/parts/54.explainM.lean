/-! EXPLAIN on the model's side -/
def mbB (q n k : Nat) : Bool := Nat.blt (q + n) ow_n0 && Nat.beq (kS q) 16 && Nat.beq (lS q) n && rowsB q 13 k n && Nat.ble n 1000 && Nat.ble k 1000
theorem rowsB_s {q kd k : Nat} : ∀ n, rowsB q kd k n = true → ∀ j, j < n → kS (q + 1 + j) = kd ∧ lS (q + 1 + j) = k
  | 0, _, j, hj => absurd hj (Nat.not_lt_zero j)
  | n + 1, h, j, hj => by
    unfold rowsB at h
    simp only [Bool.and_eq_true, nbq, decide_eq_true_eq] at h
    by_cases e : j = n
    · subst e; exact h.1
    · exact rowsB_s n h.2 j (by omega)
theorem mbB_s {q n k : Nat} (h : mbB q n k = true) : q + n < ow_n0 ∧ kS q = 16 ∧ lS q = n ∧ n ≤ 1000 ∧ k ≤ 1000 ∧ ∀ j, j < n → kS (q + 1 + j) = 13 ∧ lS (q + 1 + j) = k := by
  unfold mbB at h
  simp only [Bool.and_eq_true, nbq, decide_eq_true_eq, Nat.ble_eq] at h
  obtain ⟨⟨⟨⟨⟨h1, h2⟩, h3⟩, h4⟩, h5⟩, h6⟩ := h
  simp [Nat.blt] at h1
  exact ⟨by omega, h2, h3, h5, h6, rowsB_s n h4⟩
theorem mbx_r {σ : Mem} {q n k j : Nat} {x : Int32} (h : mbB q n k = true) (hx : x = nI j) (hj : j < n) : aOK true σ q (kS q) x := by
  obtain ⟨h1, h2, h3, h4, h5, h6⟩ := mbB_s h
  subst hx
  exact aOK_t (by omega) rfl h3 hj (by omega)
theorem mbx_e {σ : Mem} {q n k j i : Nat} {x : Int32} (h : mbB q n k = true) (hj : j < n) (hi : i < k) (hx : x = nI i) : aOK true σ (q + 1 + j) 13 x := by
  obtain ⟨h1, h2, h3, h4, h5, h6⟩ := mbB_s h
  subst hx
  exact aOK_t (by omega) (h6 j hj).1 (h6 j hj).2 hi (by omega)
def xM (σ τ : Mem) (G : Nat) (l : Nat → Nat) (W S : Int32) : Prop :=
  (∀ a j, a ≠ 366 → ¬ (a = 108 ∧ (j = 59 ∨ j = 60)) → rI τ a j = rI σ a j) ∧ τ.2 = σ.2 ∧ (∀ i, i < G → rI τ 366 i = nI (l i)) ∧ rI τ 108 59 = W ∧ rI τ 108 60 = S
theorem xM.sub {σ τ : Mem} {G i x : Nat} {l : Nat → Nat} {W S : Int32} (h : xM σ τ G l W S) : xM σ (wI τ 366 i (nI (l i - x))) G (sb l i x) W S := by
  obtain ⟨h1, h2, h3, h5, h6⟩ := h
  refine ⟨fun a j q1 q2 => by rw [rI_wI, if_neg (by omega)]; exact h1 a j q1 q2, h2, fun j hj => ?_, by rw [rI_wI, if_neg (by omega)]; exact h5, by rw [rI_wI, if_neg (by omega)]; exact h6⟩
  rw [rI_wI]; unfold sb
  by_cases e : j = i
  · rw [if_pos ⟨rfl, e⟩, if_pos e, e]
  · rw [if_neg (fun z => e z.2), if_neg e, h3 j hj]
theorem xM.add {σ τ : Mem} {G i x : Nat} {l : Nat → Nat} {W S : Int32} (h : xM σ τ G (sb l i x) W S) (hx : x ≤ l i) : xM σ (wI τ 366 i (nI (sb l i x i + x))) G l W S := by
  obtain ⟨h1, h2, h3, h5, h6⟩ := h
  refine ⟨fun a j q1 q2 => by rw [rI_wI, if_neg (by omega)]; exact h1 a j q1 q2, h2, fun j hj => ?_, by rw [rI_wI, if_neg (by omega)]; exact h5, by rw [rI_wI, if_neg (by omega)]; exact h6⟩
  rw [rI_wI]
  by_cases e : j = i
  · rw [if_pos ⟨rfl, e⟩, e]; unfold sb; rw [if_pos rfl]; congr 1; omega
  · rw [if_neg (fun z => e z.2), h3 j hj]; unfold sb; rw [if_neg e]
section EXM
variable {w : Wd} {σ : Mem} {s : Sk} {X : Nat → Mem → Prop}
theorem s_falling {G : Nat} {ok : Nat → Nat → Bool} (hS : skM σ s) (hv : VS s) (hG : rI σ 108 21 = nI G) (hn : G ≤ 9) (hok : ∀ k, k < kG s → ∀ i, i < G → rI σ (359 + 1 + k) i = bI (ok k i)) :
    ∀ m d k f l W S τ (P : Option AV → Mem → Prop), k + m = kG s → (∀ i, i < G → l i ≤ 9999) → xM σ τ G l W S →
      (∀ τ', xM σ τ' G l (W + nI (wy G ok (kQ s) m k l)) (S &&& sr G ok (kQ s) m k f l) → P none τ') → Ret w true (d + m + 1) 0 0 m_Mo_falling [.ref 108, .int (nI k), .int f] τ P X := by
  have s3 := hv.2.2.1
  have s8 := hv.2.2.2.2.2.2.2.2.2.2.2.2.1
  have hK := kG_le s
  have hq : ∀ k, k < kG s → 1 ≤ kQ s k ∧ kQ s k ≤ 999 := fun k hk => (s8 k (by omega)).2.2.2.2.1
  intro m
  induction m with
  | zero =>
    intro d k f l W S τ P hk hl hx hP
    have hkG : kG s = min (kT s 2) 6 := rfl
    obtain ⟨h1, h2, h3, h5, h6⟩ := hx
    have e2 : rI τ 111 2 = nI (kT s 2) := (h1 _ _ (by omega) (by omega)).trans (hS.1 2 (by omega))
    have e21 : rI τ 108 21 = nI G := (h1 _ _ (by omega) (by omega)).trans hG
    refine meth_ok k_Mo_falling q_Mo_falling rfl fun At hAt => ?_
    have loop : ∀ i, i ≤ G → zr l i = true → At 18 [.ref 108, .int (nI k), .int f, .int (nI i)] [] τ 0 0 := by
      refine upto fun i hi ih => ?_
      intro hz
      have hli : i < G → l i ≤ 9999 := hl i
      refine hAt 3 _ _ _ _ _ _ ?_
      refine Eq.mpr (congrArg (fun xq : Int32 => At 23 [.ref (108), .int (nI k), .int (f), .int (nI i)] [.int xq, .int (nI i)] τ 0 0) (show rI τ 108 21 = nI G from e21)) ?_
      refine hAt 1 _ _ _ _ _ _ ?_
      refine And.intro (fun hq => ?_) (fun hq => ?_)
      · have c23 : G ≤ i := (leN (a := G) (b := i) rfl rfl (by omega) (by omega)).mp hq
        clear hq
        refine hAt 3 _ _ _ _ _ _ ?_
        refine Eq.mpr (congrArg (fun xq : Int32 => At 47 [.ref (108), .int (nI k), .int (f), .int (nI i)] [.int xq, .ref (108)] τ 0 0) (show rI τ 108 59 = W from h5)) ?_
        refine hAt 6 _ _ _ _ _ _ ?_
        refine Eq.mpr (congrArg (fun xq : Int32 => At 57 [.ref (108), .int (nI k), .int (f), .int (nI i)] [.int xq, .ref (108)] (wI τ 108 59 (W + nI 1)) 0 0) (show rI (wI τ 108 59 (W + nI 1)) 108 60 = S from (by rw [rI_wI, if_neg (by omega)]; exact h6))) ?_
        refine hAt 4 _ _ _ _ _ _ ?_
        have e : i = G := by omega
        subst e
        rw [wy, sr, if_pos hz, if_pos hz] at hP
        refine hP _ ⟨fun a j q1 q2 => ?_, h2, fun j hj => ?_, ?_, ?_⟩
        · rw [rI_wI, if_neg (by omega), rI_wI, if_neg (by omega)]; exact h1 a j q1 q2
        · rw [rI_wI, if_neg (by omega), rI_wI, if_neg (by omega)]; exact h3 j hj
        · rw [rI_wI, if_neg (by omega), rI_wI, if_pos ⟨rfl, rfl⟩]
        · rw [rI_wI, if_pos ⟨rfl, rfl⟩]
      · have c23 : i < G := Nat.lt_of_not_le (fun zq => hq ((leN (a := G) (b := i) rfl rfl (by omega) (by omega)).mpr zq))
        clear hq
        refine hAt 4 _ _ _ _ _ _ ?_
        refine And.intro (aOKx (n := 9) (j := i) rfl (by decide) rfl rfl (by omega) (by omega)) ?_
        refine Eq.mpr (congrArg (fun xq : Int32 => At 32 [.ref (108), .int (nI k), .int (f), .int (nI i)] [.int xq] τ 0 0) (show rI τ 366 (nI i).toNatClampNeg = nI (l i) from (ldE rfl (by omega) (h3 i (by omega))))) ?_
        refine hAt 1 _ _ _ _ _ _ ?_
        refine And.intro (fun hq => ?_) (fun hq => ?_)
        · have c32 : l i = 0 := (eqN (a := l i) (b := 0) rfl rfl (by omega) (by omega)).mp hq
          clear hq
          refine hAt 2 _ _ _ _ _ _ ?_
          refine Eq.mpr (congrArg (fun xq : Int32 => At 18 [.ref (108), .int (nI k), .int (f), .int xq] [] τ 0 0) (show nI i + nI 1 = nI (i + 1) from (adE rfl rfl))) ?_
          exact ih c23 (by rw [zr, hz, decide_eq_true c32]; rfl)
        · have c32 : ¬ l i = 0 := fun zq => hq ((eqN (a := l i) (b := 0) rfl rfl (by omega) (by omega)).mpr zq)
          clear hq
          refine hAt 1 _ _ _ _ _ _ ?_
          have z : ¬ zr l G = true := fun z => c32 ((zr_iff l G).mp z i c23)
          rw [wy, sr, if_neg z, if_neg z, ad_0, an1] at hP
          exact hP τ ⟨h1, h2, h3, h5, h6⟩
    refine hAt 3 _ _ _ _ _ _ ?_
    refine And.intro (fun hq => ?_) (fun hq => ?_)
    · have c3 : k = 6 := (eqN (a := k) (b := 6) rfl rfl (by omega) (by omega)).mp hq
      clear hq
      refine hAt 2 _ _ _ _ _ _ ?_
      exact loop 0 (by omega) rfl
    · have c3 : ¬ k = 6 := fun zq => hq ((eqN (a := k) (b := 6) rfl rfl (by omega) (by omega)).mpr zq)
      clear hq
      refine hAt 5 _ _ _ _ _ _ ?_
      refine And.intro (aOKx (n := 11) (j := 2) rfl (by decide) rfl rfl (by omega) (by omega)) ?_
      refine Eq.mpr (congrArg (fun xq : Int32 => At 13 [.ref (108), .int (nI k), .int (f), junk] [.int xq, .int (nI k)] τ 0 0) (show rI τ 111 (nI 2).toNatClampNeg = nI (kT s 2) from (ldE rfl (by omega) e2))) ?_
      refine hAt 1 _ _ _ _ _ _ ?_
      refine And.intro (fun hq => ?_) (fun hq => ?_)
      · have c13 : ¬ k = kT s 2 := fun zq => hq ((eqN (a := k) (b := kT s 2) rfl rfl (by omega) (by omega)).mpr zq)
        clear hq
        exact absurd c13 (by omega)
      · have c13 : k = kT s 2 := (eqN (a := k) (b := kT s 2) rfl rfl (by omega) (by omega)).mp hq
        clear hq
        refine hAt 2 _ _ _ _ _ _ ?_
        exact loop 0 (by omega) rfl
  | succ m ihm =>
    intro d k f l W S τ0 P hk hl hx0 hP
    have hkG : kG s = min (kT s 2) 6 := rfl
    have q1 := hq k (by omega)
    obtain ⟨F, eF⟩ : ∃ F : Nat → Nat, F = fun i => if tk ok (kQ s) k l i = true then wy G ok (kQ s) m (k + 1) (sb l i (kQ s k)) else 0 := ⟨_, rfl⟩
    obtain ⟨H, eH⟩ : ∃ H : Nat → Int32, H = fun i => if tk ok (kQ s) k l i = true then sr G ok (kQ s) m (k + 1) (f ||| bitk k) (sb l i (kQ s k)) else -1 := ⟨_, rfl⟩
    obtain ⟨W1, eW⟩ : ∃ W1, W1 = W + nI (wy G ok (kQ s) m (k + 1) l) := ⟨_, rfl⟩
    obtain ⟨S1, eS⟩ : ∃ S1, S1 = S &&& sr G ok (kQ s) m (k + 1) f l := ⟨_, rfl⟩
    have hfin : ∀ τ', xM σ τ' G l (W1 + nI (sumN F G)) (S1 &&& anI H G) → P none τ' := fun τ' h => by
      refine hP τ' ?_
      rw [wy, sr, ← eF, ← eH, ← nI_add, ← ad_a, ← an_a, ← eW, ← eS]
      exact h
    clear hP
    refine meth_ok k_Mo_falling q_Mo_falling rfl fun At hAt => ?_
    have loop : ∀ i, i ≤ G → ∀ τ, xM σ τ G l (W1 + nI (sumN F i)) (S1 &&& anI H i) → At 73 [.ref 108, .int (nI k), .int f, .int (nI i)] [] τ 0 0 := by
      refine upto fun i hi ih => ?_
      intro τ hx
      have hx' := hx
      obtain ⟨h1, h2, h3, h5, h6⟩ := hx
      have e21 : rI τ 108 21 = nI G := (h1 _ _ (by omega) (by omega)).trans hG
      have skip : i < G → ¬ tk ok (kQ s) k l i = true → At 73 [.ref 108, .int (nI k), .int f, .int (nI (i + 1))] [] τ 0 0 := fun hi ht => by
        have q := ih hi τ
        rw [sumN, anI, eF, eH] at q
        simp only [if_neg ht] at q
        rw [← eF, ← eH, Nat.add_zero, an1] at q
        exact q hx'
      refine hAt 3 _ _ _ _ _ _ ?_
      refine Eq.mpr (congrArg (fun xq : Int32 => At 78 [.ref (108), .int (nI k), .int (f), .int (nI i)] [.int xq, .int (nI i)] τ 0 0) (show rI τ 108 21 = nI G from e21)) ?_
      refine hAt 1 _ _ _ _ _ _ ?_
      refine And.intro (fun hq => ?_) (fun hq => ?_)
      · have c78 : G ≤ i := (leN (a := G) (b := i) rfl rfl (by omega) (by omega)).mp hq
        clear hq
        refine hAt 1 _ _ _ _ _ _ ?_
        have e : i = G := by omega
        subst e
        exact hfin _ hx'
      · have c78 : i < G := Nat.lt_of_not_le (fun zq => hq ((leN (a := G) (b := i) rfl rfl (by omega) (by omega)).mpr zq))
        clear hq
        have hli := hl i c78
        refine hAt 4 _ _ _ _ _ _ ?_
        refine And.intro (mbx_r (q := 359) (n := 6) (k := 9) rfl rfl (show k < 6 by omega)) (And.intro (Or.inr rfl) ?_)
        refine Eq.mpr (congrArg (fun xq : Nat => At 87 [.ref (108), .int (nI k), .int (f), .int (nI i)] [.ref xq] τ 0 0) (rwE rfl (by omega))) ?_
        refine hAt 2 _ _ _ _ _ _ ?_
        refine And.intro (mbx_e (q := 359) (n := 6) (k := 9) (j := k) (i := i) rfl (by omega) (by omega) rfl) ?_
        refine Eq.mpr (congrArg (fun xq : Int32 => At 89 [.ref (108), .int (nI k), .int (f), .int (nI i)] [.int xq] τ 0 0) (show rI τ (359 + 1 + k) (nI i).toNatClampNeg = bI (ok k i) from (ldE rfl (by omega) ((h1 _ _ (by omega) (by omega)).trans (hok k (by omega) i (by omega)))))) ?_
        refine hAt 1 _ _ _ _ _ _ ?_
        refine And.intro (fun hq => ?_) (fun hq => ?_)
        · have c89 : ok k i = false := bI_eq hq
          clear hq
          refine hAt 2 _ _ _ _ _ _ ?_
          refine Eq.mpr (congrArg (fun xq : Int32 => At 73 [.ref (108), .int (nI k), .int (f), .int xq] [] τ 0 0) (show nI i + nI 1 = nI (i + 1) from (adE rfl rfl))) ?_
          refine skip c78 (fun z => ?_)
          unfold tk at z
          rw [c89] at z
          simp at z
        · have c89 : ok k i = true := bI_ne hq
          clear hq
          refine hAt 4 _ _ _ _ _ _ ?_
          refine And.intro (aOKx (n := 9) (j := i) rfl (by decide) rfl rfl (by omega) (by omega)) ?_
          refine Eq.mpr (congrArg (fun xq : Int32 => At 98 [.ref (108), .int (nI k), .int (f), .int (nI i)] [.int xq] τ 0 0) (show rI τ 366 (nI i).toNatClampNeg = nI (l i) from (ldE rfl (by omega) (h3 i (by omega))))) ?_
          refine hAt 4 _ _ _ _ _ _ ?_
          refine And.intro (mx_r (q := 141) (n := 8) (k := 7) rfl rfl (show k < 8 by omega)) (And.intro (Or.inl rfl) ?_)
          refine Eq.mpr (congrArg (fun xq : Nat => At 104 [.ref (108), .int (nI k), .int (f), .int (nI i)] [.ref xq, .int (nI (l i))] τ 0 0) (rwE rfl (by omega))) ?_
          refine hAt 2 _ _ _ _ _ _ ?_
          refine And.intro (mx_e (q := 141) (n := 8) (k := 7) (j := k) (i := 4) rfl (by omega) (by omega) rfl) ?_
          refine Eq.mpr (congrArg (fun xq : Int32 => At 106 [.ref (108), .int (nI k), .int (f), .int (nI i)] [.int xq, .int (nI (l i))] τ 0 0) (show rI τ (141 + 1 + k) (nI 4).toNatClampNeg = nI (kQ s k) from (ldE rfl (by omega) ((h1 _ _ (by omega) (by omega)).trans (hS.2.2.1 k (by omega) 4 (by omega)))))) ?_
          refine hAt 1 _ _ _ _ _ _ ?_
          refine And.intro (fun hq => ?_) (fun hq => ?_)
          · have c106 : kQ s k ≤ l i := (leN (a := kQ s k) (b := l i) rfl rfl (by omega) (by omega)).mp hq
            clear hq
            refine hAt 5 _ _ _ _ _ _ ?_
            refine And.intro (aOKx (n := 9) (j := i) rfl (by decide) rfl rfl (by omega) (by omega)) ?_
            refine Eq.mpr (congrArg (fun xq : Int32 => At 119 [.ref (108), .int (nI k), .int (f), .int (nI i)] [.int xq, .int (nI i), .ref (366)] τ 0 0) (show rI τ 366 (nI i).toNatClampNeg = nI (l i) from (ldE rfl (by omega) (h3 i (by omega))))) ?_
            refine hAt 4 _ _ _ _ _ _ ?_
            refine And.intro (mx_r (q := 141) (n := 8) (k := 7) rfl rfl (show k < 8 by omega)) (And.intro (Or.inl rfl) ?_)
            refine Eq.mpr (congrArg (fun xq : Nat => At 125 [.ref (108), .int (nI k), .int (f), .int (nI i)] [.ref xq, .int (nI (l i)), .int (nI i), .ref (366)] τ 0 0) (rwE rfl (by omega))) ?_
            refine hAt 2 _ _ _ _ _ _ ?_
            refine And.intro (mx_e (q := 141) (n := 8) (k := 7) (j := k) (i := 4) rfl (by omega) (by omega) rfl) ?_
            refine Eq.mpr (congrArg (fun xq : Int32 => At 127 [.ref (108), .int (nI k), .int (f), .int (nI i)] [.int xq, .int (nI (l i)), .int (nI i), .ref (366)] τ 0 0) (show rI τ (141 + 1 + k) (nI 4).toNatClampNeg = nI (kQ s k) from (ldE rfl (by omega) ((h1 _ _ (by omega) (by omega)).trans (hS.2.2.1 k (by omega) 4 (by omega)))))) ?_
            refine hAt 2 _ _ _ _ _ _ ?_
            refine And.intro (aOKx (n := 9) (j := i) rfl (by decide) rfl rfl (by omega) (by omega)) ?_
            refine Eq.mpr (congrArg (fun xq : Mem => At 129 [.ref (108), .int (nI k), .int (f), .int (nI i)] [] xq 0 0) (wrE (σ := τ) (q := 366) (p := rfl) (hj := by omega) (h := (sbE rfl rfl (by omega))))) ?_
            refine hAt 9 _ _ _ _ _ _ ?_
            refine Eq.mpr (congrArg (fun xq : Int32 => At 138 [.ref (108), .int (nI k), .int (f), .int (nI i)] [.int (f ||| ((nI 1) <<< ((nI k) &&& 31))), .int xq, .ref (108)] (wI τ 366 i (nI ((l i) - (kQ s k)))) 0 0) (show nI k + nI 1 = nI (k + 1) from (adE rfl rfl))) ?_
            refine hAt 6 _ _ _ _ _ _ ?_
            refine ihm d (k + 1) _ (sb l i (kQ s k)) _ _ _ _ (by omega) (fun j hj => ?_) (xM.sub hx') (fun τ2 hx2 => ?_)
            · show sb l i (kQ s k) j ≤ 9999
              have := hl j hj
              unfold sb
              by_cases e : j = i
              · rw [if_pos e]; omega
              · rw [if_neg e]; omega
            have hsi : sb l i (kQ s k) i = l i - kQ s k := if_pos rfl
            refine And.intro (aOKx (n := 9) (j := i) rfl (by decide) rfl rfl (by omega) (by omega)) ?_
            refine Eq.mpr (congrArg (fun xq : Int32 => At 148 [.ref (108), .int (nI k), .int (f), .int (nI i)] [.int xq, .int (nI i), .ref (366)] τ2 0 0) (show rI τ2 366 (nI i).toNatClampNeg = nI (sb l i (kQ s k) i) from (ldE rfl (by omega) (hx2.2.2.1 i c78)))) ?_
            refine hAt 4 _ _ _ _ _ _ ?_
            refine And.intro (mx_r (q := 141) (n := 8) (k := 7) rfl rfl (show k < 8 by omega)) (And.intro (Or.inl rfl) ?_)
            refine Eq.mpr (congrArg (fun xq : Nat => At 154 [.ref (108), .int (nI k), .int (f), .int (nI i)] [.ref xq, .int (nI (sb l i (kQ s k) i)), .int (nI i), .ref (366)] τ2 0 0) (rwE rfl (by omega))) ?_
            refine hAt 2 _ _ _ _ _ _ ?_
            refine And.intro (mx_e (q := 141) (n := 8) (k := 7) (j := k) (i := 4) rfl (by omega) (by omega) rfl) ?_
            refine Eq.mpr (congrArg (fun xq : Int32 => At 156 [.ref (108), .int (nI k), .int (f), .int (nI i)] [.int xq, .int (nI (sb l i (kQ s k) i)), .int (nI i), .ref (366)] τ2 0 0) (show rI τ2 (141 + 1 + k) (nI 4).toNatClampNeg = nI (kQ s k) from (ldE rfl (by omega) ((hx2.1 _ _ (by omega) (by omega)).trans (hS.2.2.1 k (by omega) 4 (by omega)))))) ?_
            refine hAt 2 _ _ _ _ _ _ ?_
            refine And.intro (aOKx (n := 9) (j := i) rfl (by decide) rfl rfl (by omega) (by omega)) ?_
            refine Eq.mpr (congrArg (fun xq : Mem => At 158 [.ref (108), .int (nI k), .int (f), .int (nI i)] [] xq 0 0) (wrE (σ := τ2) (q := 366) (p := rfl) (hj := by omega) (h := (adE rfl rfl)))) ?_
            refine hAt 2 _ _ _ _ _ _ ?_
            refine Eq.mpr (congrArg (fun xq : Int32 => At 73 [.ref (108), .int (nI k), .int (f), .int xq] [] (wI τ2 366 i (nI (sb l i (kQ s k) i + (kQ s k)))) 0 0) (show nI i + nI 1 = nI (i + 1) from (adE rfl rfl))) ?_
            have ht : tk ok (kQ s) k l i = true := by
              unfold tk
              rw [c89, decide_eq_true c106]; rfl
            have q := ih c78 (wI τ2 366 i (nI (sb l i (kQ s k) i + kQ s k)))
            rw [sumN, anI, show F i = wy G ok (kQ s) m (k + 1) (sb l i (kQ s k)) by rw [eF]; exact if_pos ht, show H i = sr G ok (kQ s) m (k + 1) (f ||| bitk k) (sb l i (kQ s k)) by rw [eH]; exact if_pos ht, ← nI_add (sumN F i), ← ad_a, ← an_a] at q
            exact q (xM.add hx2 c106)
          · have c106 : l i < kQ s k := Nat.lt_of_not_le (fun zq => hq ((leN (a := kQ s k) (b := l i) rfl rfl (by omega) (by omega)).mpr zq))
            clear hq
            refine hAt 3 _ _ _ _ _ _ ?_
            refine Eq.mpr (congrArg (fun xq : Int32 => At 73 [.ref (108), .int (nI k), .int (f), .int xq] [] τ 0 0) (show nI i + nI 1 = nI (i + 1) from (adE rfl rfl))) ?_
            refine skip c78 (fun z => ?_)
            unfold tk at z
            rw [decide_eq_false (show ¬ kQ s k ≤ l i by omega)] at z
            simp at z
    have h1 := hx0.1
    have e2 : rI τ0 111 2 = nI (kT s 2) := (h1 _ _ (by omega) (by omega)).trans (hS.1 2 (by omega))
    refine hAt 3 _ _ _ _ _ _ ?_
    refine And.intro (fun hq => ?_) (fun hq => ?_)
    · have c3 : k = 6 := (eqN (a := k) (b := 6) rfl rfl (by omega) (by omega)).mp hq
      clear hq
      exact absurd c3 (by omega)
    · have c3 : ¬ k = 6 := fun zq => hq ((eqN (a := k) (b := 6) rfl rfl (by omega) (by omega)).mpr zq)
      clear hq
      refine hAt 5 _ _ _ _ _ _ ?_
      refine And.intro (aOKx (n := 11) (j := 2) rfl (by decide) rfl rfl (by omega) (by omega)) ?_
      refine Eq.mpr (congrArg (fun xq : Int32 => At 13 [.ref (108), .int (nI k), .int (f), junk] [.int xq, .int (nI k)] τ0 0 0) (show rI τ0 111 (nI 2).toNatClampNeg = nI (kT s 2) from (ldE rfl (by omega) e2))) ?_
      refine hAt 1 _ _ _ _ _ _ ?_
      refine And.intro (fun hq => ?_) (fun hq => ?_)
      · have c13 : ¬ k = kT s 2 := fun zq => hq ((eqN (a := k) (b := kT s 2) rfl rfl (by omega) (by omega)).mpr zq)
        clear hq
        refine hAt 5 _ _ _ _ _ _ ?_
        refine Eq.mpr (congrArg (fun xq : Int32 => At 68 [.ref (108), .int (nI k), .int (f), junk] [.int (f), .int xq, .ref (108)] τ0 0 0) (show nI k + nI 1 = nI (k + 1) from (adE rfl rfl))) ?_
        refine hAt 3 _ _ _ _ _ _ ?_
        refine ihm d (k + 1) _ l _ _ τ0 _ (by omega) hl hx0 (fun τ1 hx1 => ?_)
        refine loop 0 (by omega) τ1 ?_
        rw [sumN, anI, ad_0, an1, eW, eS]
        exact hx1
      · have c13 : k = kT s 2 := (eqN (a := k) (b := kT s 2) rfl rfl (by omega) (by omega)).mp hq
        clear hq
        exact absurd c13 (by omega)
end EXM
