/-! EXPLAIN on the model's side: passes, the call -/
theorem alR_eq {τ : Mem} {s : Sk} {k h x y : Nat} (hv : VS s) (hk : k < kT s 2) (ha : alR τ s k h) (hx : x < 8) (hy : y < 8) : (rI τ 336 h = nI x ∧ rI τ 337 h = nI y) ↔ ps s k h = some (x, y) := by
  have s1 := hv.1
  have s2 := hv.2.1
  cases e : ps s k h with
  | none =>
    constructor
    · intro q
      have := ha.1 e
      rw [this] at q
      exact absurd q.1.symm (nI_m1 (by omega))
    · intro q; cases q
  | some q =>
    have hq := ps_in hv hk h q e
    have := ha.2 q e
    rw [this.1, this.2, nI_eq (by omega) (by omega), nI_eq (by omega) (by omega)]
    constructor
    · intro z; rw [← z.1, ← z.2]
    · intro z; cases z; exact ⟨rfl, rfl⟩
def okH (s : Sk) (t : Tb) (wo : Int32) (k i h : Nat) : Bool := decide (0 < cntH s k (t.2 i 0) (t.2 i 1) h) && !exW wo i
/-- passes, as far as D says -/
def pM (σ τ : Mem) (s : Sk) (t : Tb) (wo : Int32) (D : Nat → Nat → Prop) : Prop :=
  (∀ a j, a ≠ 336 → a ≠ 337 → ¬ (360 ≤ a ∧ a < 366) → ¬ (a = 108 ∧ (j = 59 ∨ j = 60)) → rI τ a j = rI σ a j) ∧ τ.2 = σ.2 ∧ (∀ k i, k < 6 → i < t.1 → D k i → rI τ (359 + 1 + k) i = bI (okE s t wo k i)) ∧ rI τ 108 59 = nI 0 ∧ rI τ 108 60 = nI 63
theorem skM.scr2 {σ τ : Mem} {s : Sk} (h : skM σ s) (hv : VS s) (f : ∀ a j, a < 184 → a ≠ 108 → rI τ a j = rI σ a j) : skM τ s := h.scr hv (fun a j h1 h2 _ _ => f a j h1 h2)
section EXN
variable {w : Wd} {d : Nat} {σ : Mem} {s : Sk} {t : Tb} {P : Option AV → Mem → Prop} {X : Nat → Mem → Prop}
theorem pM.put {τ : Mem} {wo : Int32} {D D' : Nat → Nat → Prop} {k i : Nat} {b : Bool} (h : pM σ τ s t wo D) (hD : ∀ k' i', D' k' i' → D k' i' ∧ ¬ (k' = k ∧ i' = i)) (hk : k < 6) : pM σ (wI τ (359 + 1 + k) i (bI b)) s t wo D' := by
  obtain ⟨h1, h2, h3, h5, h6⟩ := h
  refine ⟨fun a j g1 g2 g3 g4 => by rw [rI_wI, if_neg (by omega)]; exact h1 a j g1 g2 g3 g4, h2, fun k' i' q1 q2 q3 => ?_, by rw [rI_wI, if_neg (by omega)]; exact h5, by rw [rI_wI, if_neg (by omega)]; exact h6⟩
  have := hD k' i' q3
  rw [rI_wI, if_neg (by omega)]; exact h3 k' i' q1 q2 this.1
theorem lk0_b {wo : Int32} (hg : hgT s t) {i : Nat} (hi : i < t.1) : lk0 t wo i ≤ 9999 := by
  have := hg i hi
  unfold lk0
  by_cases e : exW wo i = true
  · rw [if_pos e]; omega
  · rw [if_neg e]; omega
theorem s_falling6 {G : Nat} {ok : Nat → Nat → Bool} {l : Nat → Nat} {W S f : Int32} {τ : Mem} (hS : skM τ s) (hv : VS s) (hG : rI τ 108 21 = nI G) (hn : G ≤ 9) (hok : ∀ k, k < kG s → ∀ i, i < G → rI τ (359 + 1 + k) i = bI (ok k i)) (hl : ∀ i, i < G → l i ≤ 9999) (hx : xM τ τ G l W S)
    (hP : ∀ τ', xM τ τ' G l (W + nI (wy G ok (kQ s) (kG s) 0 l)) (S &&& sr G ok (kQ s) (kG s) 0 f l) → P none τ') : Ret w true (d + 7) 0 0 m_Mo_falling [.ref 108, .int (nI 0), .int f] τ P X := by
  have hK := kG_le s
  rw [show d + 7 = (d + (6 - kG s)) + kG s + 1 by omega]
  exact s_falling hS hv hG hn hok (kG s) _ 0 f l W S τ _ (by omega) hl hx hP
theorem s_explains {wo : Int32} (hS : skM σ s) (hv : VS s) (hb : rwR σ 21 224 3 t) (hn : t.1 ≤ 9) (hg : hgT s t) (hP : ∀ τ, (∀ a j, a ≠ 336 → a ≠ 337 → ¬ (360 ≤ a ∧ a < 367) → ¬ (a = 108 ∧ (j = 59 ∨ j = 60)) → rI τ a j = rI σ a j) → τ.2 = σ.2 → rI τ 108 59 = nI (exY s t wo) → rI τ 108 60 = nI 63 &&& exZ s t wo → P none τ) : Ret w true (d + 8) 0 0 m_Mo_explains [.ref 108, .int wo] σ P X := by
  have hK := kG_le s
  have hkG : kG s = min (kT s 2) 6 := rfl
  have s1 := hv.1
  have s2 := hv.2.1
  have s3 := hv.2.2.1
  refine meth_ok k_Mo_explains q_Mo_explains rfl fun At hAt => ?_
  have fin : ∀ τ0, pM σ τ0 s t wo (fun k _ => k < kG s) → ∀ z3 z4, ∀ i, i ≤ t.1 → ∀ τ, (∀ a j, a ≠ 366 → rI τ a j = rI τ0 a j) → τ.2 = τ0.2 → (∀ j, j < i → rI τ 366 j = nI (lk0 t wo j)) → At 148 [.ref 108, .int wo, .int (nI i), z3, z4] [] τ 0 0 := by
    intro τ0 hp z3 z4
    refine upto fun i hi ih => ?_
    intro τ h1 h2 h3
    have e21 : rI τ 108 21 = nI t.1 := (h1 _ _ (by omega)).trans ((hp.1 _ _ (by omega) (by omega) (by omega) (by omega)).trans hb.1)
    have rg : ∀ k i, k < t.1 → i < 3 → rI τ (224 + 1 + k) i = nI (t.2 k i) := fun k i g1 g2 => (h1 _ _ (by omega)).trans ((hp.1 _ _ (by omega) (by omega) (by omega) (by omega)).trans (hb.2 k g1 i g2))
    refine hAt 3 _ _ _ _ _ _ ?_
    refine Eq.mpr (congrArg (fun xq : Int32 => At 153 [.ref (108), .int (wo), .int (nI i), z3, z4] [.int xq, .int (nI i)] τ 0 0) (show rI τ 108 21 = nI t.1 from e21)) ?_
    refine hAt 1 _ _ _ _ _ _ ?_
    refine And.intro (fun hq => ?_) (fun hq => ?_)
    · have c153 : t.1 ≤ i := (leN (a := t.1) (b := i) rfl rfl (by omega) (by omega)).mp hq
      clear hq
      have e : i = t.1 := by omega
      subst e
      have hSt : skM τ s := hS.scr2 hv (fun a j g1 g2 => (h1 a j (by omega)).trans (hp.1 a j (by omega) (by omega) (by omega) (by omega)))
      refine hAt 5 _ _ _ _ _ _ ?_
      refine s_falling6 (l := lk0 t wo) (ok := okE s t wo) (W := nI 0) (S := nI 63) hSt hv e21 hn (fun k hk j hj => (h1 _ _ (by omega)).trans (hp.2.2.1 k j (by omega) hj hk)) (fun j hj => lk0_b hg hj) ⟨fun _ _ _ _ => rfl, rfl, h3, (h1 _ _ (by omega)).trans hp.2.2.2.1, (h1 _ _ (by omega)).trans hp.2.2.2.2⟩ fun τ2 hx2 => ?_
      refine hP τ2 (fun a j g1 g2 g3 g4 => (hx2.1 a j (by omega) g4).trans ((h1 a j (by omega)).trans (hp.1 a j g1 g2 (by omega) g4))) (hx2.2.1.trans (h2.trans hp.2.1)) ?_ hx2.2.2.2.2
      rw [hx2.2.2.2.1, nI_add, Nat.zero_add]; rfl
    · have c153 : i < t.1 := Nat.lt_of_not_le (fun zq => hq ((leN (a := t.1) (b := i) rfl rfl (by omega) (by omega)).mpr zq))
      clear hq
      refine hAt 6 _ _ _ _ _ _ ?_
      refine And.intro (fun hq => ?_) (fun hq => ?_)
      · have c163 : ¬ nI i = wo := hq
        clear hq
        refine hAt 4 _ _ _ _ _ _ ?_
        refine And.intro (mx_r (q := 224) (n := 9) (k := 3) rfl rfl (show i < 9 by omega)) (And.intro (Or.inl rfl) ?_)
        refine Eq.mpr (congrArg (fun xq : Nat => At 176 [.ref (108), .int (wo), .int (nI i), z3, z4] [.ref xq, .int (nI i), .ref (366)] τ 0 0) (rwE rfl (by omega))) ?_
        refine hAt 2 _ _ _ _ _ _ ?_
        refine And.intro (mx_e (q := 224) (n := 9) (k := 3) (j := i) (i := 2) rfl (by omega) (by omega) rfl) ?_
        refine Eq.mpr (congrArg (fun xq : Int32 => At 178 [.ref (108), .int (wo), .int (nI i), z3, z4] [.int xq, .int (nI i), .ref (366)] τ 0 0) (show rI τ (224 + 1 + i) (nI 2).toNatClampNeg = nI (t.2 i 2) from (ldE rfl (by omega) (rg i 2 (by omega) (by omega))))) ?_
        refine hAt 1 _ _ _ _ _ _ ?_
        refine And.intro (aOKx (n := 9) (j := i) rfl (by decide) rfl rfl (by omega) (by omega)) ?_
        refine Eq.mpr (congrArg (fun xq : Mem => At 179 [.ref (108), .int (wo), .int (nI i), z3, z4] [] xq 0 0) (wrE (σ := τ) (q := 366) (p := rfl) (hj := by omega) (h := rfl))) ?_
        refine hAt 2 _ _ _ _ _ _ ?_
        refine Eq.mpr (congrArg (fun xq : Int32 => At 148 [.ref (108), .int (wo), .int xq, z3, z4] [] (wI τ 366 i (nI (t.2 i 2))) 0 0) (show nI i + nI 1 = nI (i + 1) from (adE rfl rfl))) ?_
        refine ih c153 _ (fun a j g => by rw [rI_wI, if_neg (by omega)]; exact h1 a j g) h2 (fun j hj => ?_)
        rw [rI_wI]
        by_cases e : j = i
        · rw [if_pos ⟨rfl, e⟩, e, lk0, if_neg (by rw [show exW wo i = false from decide_eq_false c163]; decide)]
        · rw [if_neg (fun z => e z.2)]; exact h3 j (by omega)
      · have c163 : nI i = wo := hq
        clear hq
        refine hAt 3 _ _ _ _ _ _ ?_
        refine And.intro (aOKx (n := 9) (j := i) rfl (by decide) rfl rfl (by omega) (by omega)) ?_
        refine Eq.mpr (congrArg (fun xq : Mem => At 179 [.ref (108), .int (wo), .int (nI i), z3, z4] [] xq 0 0) (wrE (σ := τ) (q := 366) (p := rfl) (hj := by omega) (h := rfl))) ?_
        refine hAt 2 _ _ _ _ _ _ ?_
        refine Eq.mpr (congrArg (fun xq : Int32 => At 148 [.ref (108), .int (wo), .int xq, z3, z4] [] (wI τ 366 i (nI 0)) 0 0) (show nI i + nI 1 = nI (i + 1) from (adE rfl rfl))) ?_
        refine ih c153 _ (fun a j g => by rw [rI_wI, if_neg (by omega)]; exact h1 a j g) h2 (fun j hj => ?_)
        rw [rI_wI]
        by_cases e : j = i
        · rw [if_pos ⟨rfl, e⟩, e, lk0, if_pos (show exW wo i = true from decide_eq_true c163)]
        · rw [if_neg (fun z => e z.2)]; exact h3 j (by omega)
  have lc : ∀ k, k ≤ kG s → ∀ z3 z4 τ, pM σ τ s t wo (fun k' _ => k' < k) → At 13 [.ref 108, .int wo, .int (nI k), z3, z4] [] τ 0 0 := by
    refine upto fun k hk ihk => ?_
    intro z3 z4 τ0 hp0
    have hS0 : skM τ0 s := hS.scr2 hv (fun a j g1 g2 => hp0.1 a j (by omega) (by omega) (by omega) (by omega))
    have lg : k < kG s → ∀ τ1, alS s k 50 τ0 τ1 → ∀ i, i ≤ t.1 → ∀ z4 τ, pM σ τ s t wo (fun k' i' => k' < k ∨ (k' = k ∧ i' < i)) → (∀ j, rI τ 336 j = rI τ1 336 j) → (∀ j, rI τ 337 j = rI τ1 337 j) → At 36 [.ref 108, .int wo, .int (nI k), .int (nI i), z4] [] τ 0 0 := by
      intro hkl τ1 hal
      refine upto fun i hi ihi => ?_
      intro z4 τ hp a1 a2
      have e21 : rI τ 108 21 = nI t.1 := (hp.1 _ _ (by omega) (by omega) (by omega) (by omega)).trans hb.1
      have hdn : i = t.1 → At 13 [.ref 108, .int wo, .int (nI (k + 1)), .int (nI i), z4] [] τ 0 0 := fun e => ihk hkl _ _ τ ⟨hp.1, hp.2.1, fun k' i' q1 q2 q3 => hp.2.2.1 k' i' q1 q2 (by omega), hp.2.2.2⟩
      have lh : i < t.1 → ∀ h, h ≤ 50 → ∀ τ, pM σ τ s t wo (fun k' i' => k' < k ∨ (k' = k ∧ i' < i)) → (∀ j, rI τ 336 j = rI τ1 336 j) → (∀ j, rI τ 337 j = rI τ1 337 j) → rI τ (359 + 1 + k) i = bI (okH s t wo k i h) → At 56 [.ref 108, .int wo, .int (nI k), .int (nI i), .int (nI h)] [] τ 0 0 := by
        intro hil
        have gi := hg i hil
        refine upto fun h hh ihh => ?_
        intro τ hp a1 a2 hr
        have rg : ∀ k i, k < t.1 → i < 3 → rI τ (224 + 1 + k) i = nI (t.2 k i) := fun k i g1 g2 => ((hp.1 _ _ (by omega) (by omega) (by omega) (by omega)).trans (hb.2 k g1 i g2))
        have hal' : h < 50 → ((rI τ 336 h = nI (t.2 i 0) ∧ rI τ 337 h = nI (t.2 i 1)) ↔ ps s k h = some (t.2 i 0, t.2 i 1)) := fun q => by
          rw [a1, a2]; exact alR_eq hv (by omega) (hal.2.2 h q) (by omega) (by omega)
        have stp : ∀ b : Bool, h < 50 → b = okH s t wo k i (h + 1) → At 56 [.ref 108, .int wo, .int (nI k), .int (nI i), .int (nI (h + 1))] [] (wI τ (359 + 1 + k) i (bI b)) 0 0 := fun b q e => by
          refine ihh q _ (hp.put (fun k' i' z => ⟨z, by omega⟩) (by omega)) (fun j => by rw [rI_wI, if_neg (by omega)]; exact a1 j) (fun j => by rw [rI_wI, if_neg (by omega)]; exact a2 j) ?_
          rw [rI_wI, if_pos ⟨rfl, rfl⟩, e]
        refine hAt 3 _ _ _ _ _ _ ?_
        refine And.intro (fun hq => ?_) (fun hq => ?_)
        · have c60 : 50 ≤ h := (leN (a := 50) (b := h) rfl rfl (by omega) (by omega)).mp hq
          clear hq
          refine hAt 2 _ _ _ _ _ _ ?_
          refine Eq.mpr (congrArg (fun xq : Int32 => At 36 [.ref (108), .int (wo), .int (nI k), .int xq, .int (nI h)] [] τ 0 0) (show nI i + nI 1 = nI (i + 1) from (adE rfl rfl))) ?_
          have e : h = 50 := by omega
          subst e
          refine ihi hil _ τ ⟨hp.1, hp.2.1, fun k' i' q1 q2 q3 => ?_, hp.2.2.2⟩ a1 a2
          by_cases e : k' = k ∧ i' = i
          · obtain ⟨e1, e2⟩ := e
            subst e1; subst e2; exact hr
          · exact hp.2.2.1 k' i' q1 q2 (by omega)
        · have c60 : h < 50 := Nat.lt_of_not_le (fun zq => hq ((leN (a := 50) (b := h) rfl rfl (by omega) (by omega)).mpr zq))
          clear hq
          refine hAt 4 _ _ _ _ _ _ ?_
          refine And.intro (mbx_r (q := 359) (n := 6) (k := 9) rfl rfl (show k < 6 by omega)) (And.intro (Or.inr rfl) ?_)
          refine Eq.mpr (congrArg (fun xq : Nat => At 69 [.ref (108), .int (wo), .int (nI k), .int (nI i), .int (nI h)] [.ref xq] τ 0 0) (rwE rfl (by omega))) ?_
          refine hAt 5 _ _ _ _ _ _ ?_
          refine And.intro (mbx_r (q := 359) (n := 6) (k := 9) rfl rfl (show k < 6 by omega)) (And.intro (Or.inr rfl) ?_)
          refine Eq.mpr (congrArg (fun xq : Nat => At 76 [.ref (108), .int (wo), .int (nI k), .int (nI i), .int (nI h)] [.ref xq, .int (nI i), .ref (359 + 1 + k)] τ 0 0) (rwE rfl (by omega))) ?_
          refine hAt 2 _ _ _ _ _ _ ?_
          refine And.intro (mbx_e (q := 359) (n := 6) (k := 9) (j := k) (i := i) rfl (by omega) (by omega) rfl) ?_
          refine Eq.mpr (congrArg (fun xq : Int32 => At 78 [.ref (108), .int (wo), .int (nI k), .int (nI i), .int (nI h)] [.int xq, .int (nI i), .ref (359 + 1 + k)] τ 0 0) (show rI τ (359 + 1 + k) (nI i).toNatClampNeg = bI (okH s t wo k i h) from (ldE rfl (by omega) hr))) ?_
          refine hAt 1 _ _ _ _ _ _ ?_
          refine And.intro (fun hq => ?_) (fun hq => ?_)
          · have c78 : okH s t wo k i h = true := bI_ne hq
            clear hq
            refine hAt 3 _ _ _ _ _ _ ?_
            refine And.intro (mbx_e (q := 359) (n := 6) (k := 9) (j := k) (i := i) rfl (by omega) (by omega) rfl) ?_
            refine Eq.mpr (congrArg (fun xq : Mem => At 128 [.ref (108), .int (wo), .int (nI k), .int (nI i), .int (nI h)] [] xq 0 0) (wrB (σ := τ) (q := 359 + 1 + k) (p := rfl) (hj := by omega) (b := true))) ?_
            refine hAt 2 _ _ _ _ _ _ ?_
            refine Eq.mpr (congrArg (fun xq : Int32 => At 56 [.ref (108), .int (wo), .int (nI k), .int (nI i), .int xq] [] (wI τ (359 + 1 + k) i (bI true)) 0 0) (show nI h + nI 1 = nI (h + 1) from (adE rfl rfl))) ?_
            refine stp true c60 ?_
            unfold okH at c78 ⊢
            rw [Bool.and_eq_true, decide_eq_true_eq] at c78
            rw [c78.2, cntH, decide_eq_true (by omega)]; rfl
          · have c78 : okH s t wo k i h = false := bI_eq hq
            clear hq
            refine hAt 3 _ _ _ _ _ _ ?_
            refine And.intro (fun hq => ?_) (fun hq => ?_)
            · have c83 : nI i = wo := hq
              clear hq
              refine hAt 2 _ _ _ _ _ _ ?_
              refine And.intro (mbx_e (q := 359) (n := 6) (k := 9) (j := k) (i := i) rfl (by omega) (by omega) rfl) ?_
              refine Eq.mpr (congrArg (fun xq : Mem => At 128 [.ref (108), .int (wo), .int (nI k), .int (nI i), .int (nI h)] [] xq 0 0) (wrB (σ := τ) (q := 359 + 1 + k) (p := rfl) (hj := by omega) (b := false))) ?_
              refine hAt 2 _ _ _ _ _ _ ?_
              refine Eq.mpr (congrArg (fun xq : Int32 => At 56 [.ref (108), .int (wo), .int (nI k), .int (nI i), .int xq] [] (wI τ (359 + 1 + k) i (bI false)) 0 0) (show nI h + nI 1 = nI (h + 1) from (adE rfl rfl))) ?_
              refine stp false c60 ?_
              unfold okH
              rw [show exW wo i = true from decide_eq_true c83]; simp
            · have c83 : ¬ nI i = wo := hq
              clear hq
              refine hAt 4 _ _ _ _ _ _ ?_
              refine And.intro (aOKx (n := 50) (j := h) rfl (by decide) rfl rfl (by omega) (by omega)) ?_
              refine Eq.mpr (congrArg (fun xq : Int32 => At 93 [.ref (108), .int (wo), .int (nI k), .int (nI i), .int (nI h)] [.int xq, .int (nI i), .ref (359 + 1 + k)] τ 0 0) (show rI τ 336 (nI h).toNatClampNeg = rI τ 336 h from (ldE rfl (by omega) rfl))) ?_
              refine hAt 4 _ _ _ _ _ _ ?_
              refine And.intro (mx_r (q := 224) (n := 9) (k := 3) rfl rfl (show i < 9 by omega)) (And.intro (Or.inl rfl) ?_)
              refine Eq.mpr (congrArg (fun xq : Nat => At 99 [.ref (108), .int (wo), .int (nI k), .int (nI i), .int (nI h)] [.ref xq, .int (rI τ 336 h), .int (nI i), .ref (359 + 1 + k)] τ 0 0) (rwE rfl (by omega))) ?_
              refine hAt 2 _ _ _ _ _ _ ?_
              refine And.intro (mx_e (q := 224) (n := 9) (k := 3) (j := i) (i := 0) rfl (by omega) (by omega) rfl) ?_
              refine Eq.mpr (congrArg (fun xq : Int32 => At 101 [.ref (108), .int (wo), .int (nI k), .int (nI i), .int (nI h)] [.int xq, .int (rI τ 336 h), .int (nI i), .ref (359 + 1 + k)] τ 0 0) (show rI τ (224 + 1 + i) (nI 0).toNatClampNeg = nI (t.2 i 0) from (ldE rfl (by omega) (rg i 0 (by omega) (by omega))))) ?_
              refine hAt 1 _ _ _ _ _ _ ?_
              refine And.intro (fun hq => ?_) (fun hq => ?_)
              · have c101 : ¬ rI τ 336 h = nI (t.2 i 0) := hq
                clear hq
                refine hAt 2 _ _ _ _ _ _ ?_
                refine And.intro (mbx_e (q := 359) (n := 6) (k := 9) (j := k) (i := i) rfl (by omega) (by omega) rfl) ?_
                refine Eq.mpr (congrArg (fun xq : Mem => At 128 [.ref (108), .int (wo), .int (nI k), .int (nI i), .int (nI h)] [] xq 0 0) (wrB (σ := τ) (q := 359 + 1 + k) (p := rfl) (hj := by omega) (b := false))) ?_
                refine hAt 2 _ _ _ _ _ _ ?_
                refine Eq.mpr (congrArg (fun xq : Int32 => At 56 [.ref (108), .int (wo), .int (nI k), .int (nI i), .int xq] [] (wI τ (359 + 1 + k) i (bI false)) 0 0) (show nI h + nI 1 = nI (h + 1) from (adE rfl rfl))) ?_
                refine stp false c60 ?_
                unfold okH at c78 ⊢
                rw [cntH, if_neg (fun z => c101 ((hal' c60).mpr z).1), Nat.add_zero]; exact c78.symm
              · have c101 : rI τ 336 h = nI (t.2 i 0) := hq
                clear hq
                refine hAt 4 _ _ _ _ _ _ ?_
                refine And.intro (aOKx (n := 50) (j := h) rfl (by decide) rfl rfl (by omega) (by omega)) ?_
                refine Eq.mpr (congrArg (fun xq : Int32 => At 111 [.ref (108), .int (wo), .int (nI k), .int (nI i), .int (nI h)] [.int xq, .int (nI i), .ref (359 + 1 + k)] τ 0 0) (show rI τ 337 (nI h).toNatClampNeg = rI τ 337 h from (ldE rfl (by omega) rfl))) ?_
                refine hAt 4 _ _ _ _ _ _ ?_
                refine And.intro (mx_r (q := 224) (n := 9) (k := 3) rfl rfl (show i < 9 by omega)) (And.intro (Or.inl rfl) ?_)
                refine Eq.mpr (congrArg (fun xq : Nat => At 117 [.ref (108), .int (wo), .int (nI k), .int (nI i), .int (nI h)] [.ref xq, .int (rI τ 337 h), .int (nI i), .ref (359 + 1 + k)] τ 0 0) (rwE rfl (by omega))) ?_
                refine hAt 2 _ _ _ _ _ _ ?_
                refine And.intro (mx_e (q := 224) (n := 9) (k := 3) (j := i) (i := 1) rfl (by omega) (by omega) rfl) ?_
                refine Eq.mpr (congrArg (fun xq : Int32 => At 119 [.ref (108), .int (wo), .int (nI k), .int (nI i), .int (nI h)] [.int xq, .int (rI τ 337 h), .int (nI i), .ref (359 + 1 + k)] τ 0 0) (show rI τ (224 + 1 + i) (nI 1).toNatClampNeg = nI (t.2 i 1) from (ldE rfl (by omega) (rg i 1 (by omega) (by omega))))) ?_
                refine hAt 1 _ _ _ _ _ _ ?_
                refine And.intro (fun hq => ?_) (fun hq => ?_)
                · have c119 : ¬ rI τ 337 h = nI (t.2 i 1) := hq
                  clear hq
                  refine hAt 2 _ _ _ _ _ _ ?_
                  refine And.intro (mbx_e (q := 359) (n := 6) (k := 9) (j := k) (i := i) rfl (by omega) (by omega) rfl) ?_
                  refine Eq.mpr (congrArg (fun xq : Mem => At 128 [.ref (108), .int (wo), .int (nI k), .int (nI i), .int (nI h)] [] xq 0 0) (wrB (σ := τ) (q := 359 + 1 + k) (p := rfl) (hj := by omega) (b := false))) ?_
                  refine hAt 2 _ _ _ _ _ _ ?_
                  refine Eq.mpr (congrArg (fun xq : Int32 => At 56 [.ref (108), .int (wo), .int (nI k), .int (nI i), .int xq] [] (wI τ (359 + 1 + k) i (bI false)) 0 0) (show nI h + nI 1 = nI (h + 1) from (adE rfl rfl))) ?_
                  refine stp false c60 ?_
                  unfold okH at c78 ⊢
                  rw [cntH, if_neg (fun z => c119 ((hal' c60).mpr z).2), Nat.add_zero]; exact c78.symm
                · have c119 : rI τ 337 h = nI (t.2 i 1) := hq
                  clear hq
                  refine hAt 3 _ _ _ _ _ _ ?_
                  refine And.intro (mbx_e (q := 359) (n := 6) (k := 9) (j := k) (i := i) rfl (by omega) (by omega) rfl) ?_
                  refine Eq.mpr (congrArg (fun xq : Mem => At 128 [.ref (108), .int (wo), .int (nI k), .int (nI i), .int (nI h)] [] xq 0 0) (wrB (σ := τ) (q := 359 + 1 + k) (p := rfl) (hj := by omega) (b := true))) ?_
                  refine hAt 2 _ _ _ _ _ _ ?_
                  refine Eq.mpr (congrArg (fun xq : Int32 => At 56 [.ref (108), .int (wo), .int (nI k), .int (nI i), .int xq] [] (wI τ (359 + 1 + k) i (bI true)) 0 0) (show nI h + nI 1 = nI (h + 1) from (adE rfl rfl))) ?_
                  refine stp true c60 ?_
                  unfold okH
                  rw [cntH, if_pos ((hal' c60).mp ⟨c101, c119⟩), show exW wo i = false from decide_eq_false c83, decide_eq_true (by omega)]; rfl
      refine hAt 3 _ _ _ _ _ _ ?_
      refine Eq.mpr (congrArg (fun xq : Int32 => At 41 [.ref (108), .int (wo), .int (nI k), .int (nI i), z4] [.int xq, .int (nI i)] τ 0 0) (show rI τ 108 21 = nI t.1 from e21)) ?_
      refine hAt 1 _ _ _ _ _ _ ?_
      refine And.intro (fun hq => ?_) (fun hq => ?_)
      · have c41 : t.1 ≤ i := (leN (a := t.1) (b := i) rfl rfl (by omega) (by omega)).mp hq
        clear hq
        refine hAt 2 _ _ _ _ _ _ ?_
        refine Eq.mpr (congrArg (fun xq : Int32 => At 13 [.ref (108), .int (wo), .int xq, .int (nI i), z4] [] τ 0 0) (show nI k + nI 1 = nI (k + 1) from (adE rfl rfl))) ?_
        exact hdn (by omega)
      · have c41 : i < t.1 := Nat.lt_of_not_le (fun zq => hq ((leN (a := t.1) (b := i) rfl rfl (by omega) (by omega)).mpr zq))
        clear hq
        refine hAt 4 _ _ _ _ _ _ ?_
        refine And.intro (mbx_r (q := 359) (n := 6) (k := 9) rfl rfl (show k < 6 by omega)) (And.intro (Or.inr rfl) ?_)
        refine Eq.mpr (congrArg (fun xq : Nat => At 50 [.ref (108), .int (wo), .int (nI k), .int (nI i), z4] [.ref xq] τ 0 0) (rwE rfl (by omega))) ?_
        refine hAt 3 _ _ _ _ _ _ ?_
        refine And.intro (mbx_e (q := 359) (n := 6) (k := 9) (j := k) (i := i) rfl (by omega) (by omega) rfl) ?_
        refine Eq.mpr (congrArg (fun xq : Mem => At 53 [.ref (108), .int (wo), .int (nI k), .int (nI i), z4] [] xq 0 0) (wrB (σ := τ) (q := 359 + 1 + k) (p := rfl) (hj := by omega) (b := false))) ?_
        refine hAt 2 _ _ _ _ _ _ ?_
        refine lh c41 0 (by omega) _ (hp.put (b := false) (fun k' i' z => ⟨z, by omega⟩) (by omega)) (fun j => by rw [rI_wI, if_neg (by omega)]; exact a1 j) (fun j => by rw [rI_wI, if_neg (by omega)]; exact a2 j) ?_
        rw [rI_wI, if_pos ⟨rfl, rfl⟩]; rfl
    have hSt := hS0
    refine hAt 5 _ _ _ _ _ _ ?_
    refine And.intro (aOKx (n := 11) (j := 2) rfl (by decide) rfl rfl (by omega) (by omega)) ?_
    refine Eq.mpr (congrArg (fun xq : Int32 => At 20 [.ref (108), .int (wo), .int (nI k), z3, z4] [.int xq, .int (nI k)] τ0 0 0) (show rI τ0 111 (nI 2).toNatClampNeg = nI (kT s 2) from (ldE rfl (by omega) (hSt.1 2 (by omega))))) ?_
    refine hAt 1 _ _ _ _ _ _ ?_
    refine And.intro (fun hq => ?_) (fun hq => ?_)
    · have c20 : kT s 2 ≤ k := (leN (a := kT s 2) (b := k) rfl rfl (by omega) (by omega)).mp hq
      clear hq
      refine hAt 2 _ _ _ _ _ _ ?_
      refine fin τ0 ⟨hp0.1, hp0.2.1, fun k' i' q1 q2 (q3 : k' < kG s) => hp0.2.2.1 k' i' q1 q2 (by show k' < k; omega), hp0.2.2.2⟩ _ _ 0 (by omega) τ0 (fun _ _ _ => rfl) rfl (fun j hj => absurd hj (Nat.not_lt_zero j))
    · have c20 : k < kT s 2 := Nat.lt_of_not_le (fun zq => hq ((leN (a := kT s 2) (b := k) rfl rfl (by omega) (by omega)).mpr zq))
      clear hq
      refine hAt 3 _ _ _ _ _ _ ?_
      refine And.intro (fun hq => ?_) (fun hq => ?_)
      · have c26 : 6 ≤ k := (leN (a := 6) (b := k) rfl rfl (by omega) (by omega)).mp hq
        clear hq
        refine hAt 2 _ _ _ _ _ _ ?_
        refine fin τ0 ⟨hp0.1, hp0.2.1, fun k' i' q1 q2 (q3 : k' < kG s) => hp0.2.2.1 k' i' q1 q2 (by show k' < k; omega), hp0.2.2.2⟩ _ _ 0 (by omega) τ0 (fun _ _ _ => rfl) rfl (fun j hj => absurd hj (Nat.not_lt_zero j))
      · have c26 : k < 6 := Nat.lt_of_not_le (fun zq => hq ((leN (a := 6) (b := k) rfl rfl (by omega) (by omega)).mpr zq))
        clear hq
        refine hAt 5 _ _ _ _ _ _ ?_
        refine s_laysAlone hSt hv (by omega) fun τ2 hal => ?_
        have f := fun a j => hal.1 a j
        refine lg (by omega) τ2 hal 0 (by omega) _ τ2 ⟨fun a j g1 g2 g3 g4 => (f a j (by omega) (by omega)).trans (hp0.1 a j g1 g2 g3 g4), hal.2.1.trans hp0.2.1, fun k' i' q1 q2 q3 => (f _ _ (by omega) (by omega)).trans (hp0.2.2.1 k' i' q1 q2 (by show k' < k; omega)), (f _ _ (by omega) (by omega)).trans hp0.2.2.2.1, (f _ _ (by omega) (by omega)).trans hp0.2.2.2.2⟩ (fun _ => rfl) (fun _ => rfl)
  refine hAt 8 _ _ _ _ _ _ ?_
  refine lc 0 (by omega) _ _ _ ⟨fun a j g1 g2 g3 g4 => ?_, rfl, fun k' i' q1 q2 (q3 : k' < 0) => absurd q3 (Nat.not_lt_zero _), ?_, ?_⟩
  · rw [rI_wI, if_neg (by omega), rI_wI, if_neg (by omega)]
  · rw [rI_wI, if_neg (by omega), rI_wI, if_pos ⟨rfl, rfl⟩]
  · rw [rI_wI, if_pos ⟨rfl, rfl⟩]
end EXN
section EXO
variable {w : Wd} {d : Nat} {A : St} {v : AV}
def xG (σ τ : Mem) : Prop := (∀ a j, a ≠ 336 → a ≠ 337 → ¬ (360 ≤ a ∧ a < 367) → ¬ (a = 108 ∧ (j = 59 ∨ j = 60)) → rI τ a j = rI σ a j) ∧ τ.2 = σ.2
theorem xG.im {σ τ : Mem} (hI : IM A σ) (hv : VA A) (h : xG σ τ) : frM σ τ ∧ IM A τ := by
  have hN : mN τ = mN σ := congrArg (fun z => z.2.2.1) h.2
  exact ⟨⟨fun a h1 i => h.1 a i (by omega) (by omega) (by omega) (by omega), fun a _ i => congrArg (fun z => z.1 a i) h.2, by omega⟩, hI.scr hv (fun a i t => h.1 a i (by unfold trkM at t; omega) (by unfold trkM at t; omega) (by unfold trkM at t; omega) (by unfold trkM at t; omega)) (by omega)⟩
theorem xG.trans {σ τ τ' : Mem} (h : xG σ τ) (g : xG τ τ') : xG σ τ' := ⟨fun a j h1 h2 h3 h4 => (g.1 a j h1 h2 h3 h4).trans (h.1 a j h1 h2 h3 h4), g.2.trans h.2⟩
theorem MC_explain_bad {x : Int32} (hv : VA A) (hx : x < nI 0 ∨ nI 3 ≤ x) : MC w (d + 9) 0 0 m_Mo_explain [.int x] A 1 v A := by
  intro σ P X hI hP
  have hI' : IM A (wI σ 108 0 (nI 0)) := hI.thr hv
  refine meth_ok k_Mo_explain q_Mo_explain rfl fun At hAt => ?_
  refine hAt 9 _ _ _ _ _ _ ?_
  refine s_in ?_
  rw [decide_eq_false (in_bad' (n := 2) (by omega) hx)]
  refine And.intro (fun hq => absurd hq (by decide)) (fun _ => ?_)
  refine hAt 5 _ _ _ _ _ _ ?_
  refine s_bad1 (by decide) rfl (by omega) (by omega) ?_
  refine And.intro (fun hq => absurd hq (by decide)) (fun _ => ?_)
  refine hAt 2 _ _ _ _ _ _ ?_
  exact hP _ _ (((frM.rfl σ).wI (by omega)).wI (by omega)) (hI'.thr hv) rfl (fun q => by omega)
theorem MC_explain_ok {i : Nat} (hv : VA A) (hi : i < 3) : MC w (d + 9) 0 0 m_Mo_explain [.int (nI i)] A 0 (.int (exA A i)) A := by
  intro σ P X hI hP
  have hI' : IM A (wI σ 108 0 (nI 0)) := hI.thr hv
  have fr1 : frM σ (wI σ 108 0 (nI 0)) := (frM.rfl σ).wI (by omega)
  have t1 : rI (wI σ 108 0 (nI 0)) 108 0 = nI 0 := rfl
  have hn := hv.2.2.2.1.2.2.1
  have eb := exY_b (s := aSk A) hn (-1)
  have fin : ∀ τ x, xG (wI σ 108 0 (nI 0)) τ → x = exA A i → P (some (.int x)) τ := fun τ x h e => by
    have g := h.im hI' hv
    exact hP τ _ (fr1.trans g.1) g.2 ((h.1 _ _ (by omega) (by omega) (by omega) (by omega)).trans t1) (fun _ => by rw [e])
  refine meth_ok k_Mo_explain q_Mo_explain rfl fun At hAt => ?_
  have loop : i = 2 → ∀ g, g ≤ (aBk A).2.2.1 → ∀ τ, xG (wI σ 108 0 (nI 0)) τ → ¬ 0 < exY (aSk A) (aBk A).2.2 (-1) → lyA (aSk A) (aBk A).2.2 = fsF (fun g => decide (0 < exY (aSk A) (aBk A).2.2 (nI g))) g ((aBk A).2.2.1 - g) → At 67 [.ref 108, .int (nI i), .int (nI (exY (aSk A) (aBk A).2.2 (-1))), .int (nI g)] [] τ 0 0 := by
    intro hi2
    refine upto fun g hgl ih => ?_
    intro τ hx h0 he
    have e21 : rI τ 108 21 = nI (aBk A).2.2.1 := (hx.im hI' hv).2.bk.2.2.1
    have eb2 := exY_b (s := aSk A) hn (nI g)
    refine hAt 3 _ _ _ _ _ _ ?_
    refine Eq.mpr (congrArg (fun xq : Int32 => At 72 [.ref (108), .int (nI i), .int (nI (exY (aSk A) (aBk A).2.2 (-1))), .int (nI g)] [.int xq, .int (nI g)] τ 0 0) (show rI τ 108 21 = nI ((aBk A).2.2.1) from e21)) ?_
    refine hAt 1 _ _ _ _ _ _ ?_
    refine And.intro (fun hq => ?_) (fun hq => ?_)
    · have c72 : (aBk A).2.2.1 ≤ g := (leN (a := (aBk A).2.2.1) (b := g) rfl rfl (by omega) (by omega)).mp hq
      clear hq
      refine hAt 2 _ _ _ _ _ _ ?_
      have e : g = (aBk A).2.2.1 := by omega
      rw [e, Nat.sub_self] at he
      exact fin τ _ hx (by rw [exA, if_neg (by omega), if_neg (by omega), he]; rfl)
    · have c72 : g < (aBk A).2.2.1 := Nat.lt_of_not_le (fun zq => hq ((leN (a := (aBk A).2.2.1) (b := g) rfl rfl (by omega) (by omega)).mpr zq))
      clear hq
      refine hAt 2 _ _ _ _ _ _ ?_
      refine And.intro (fun hq => ?_) (fun hq => ?_)
      · have c76 : ¬ exY (aSk A) (aBk A).2.2 (-1) = 0 := fun zq => hq ((eqN (a := exY (aSk A) (aBk A).2.2 (-1)) (b := 0) rfl rfl (by omega) (by omega)).mpr zq)
        clear hq
        exact absurd c76 (by omega)
      · have c76 : exY (aSk A) (aBk A).2.2 (-1) = 0 := (eqN (a := exY (aSk A) (aBk A).2.2 (-1)) (b := 0) rfl rfl (by omega) (by omega)).mp hq
        clear hq
        refine hAt 5 _ _ _ _ _ _ ?_
        refine s_explains (hx.im hI' hv).2.sk hv.2.2.1 (hx.im hI' hv).2.bk.2.2 hn (hgA hv) fun τ2 g1 g2 g3 g4 => ?_
        have hx2 : xG (wI σ 108 0 (nI 0)) τ2 := hx.trans ⟨g1, g2⟩
        refine Eq.mpr (congrArg (fun xq : Int32 => At 88 [.ref (108), .int (nI i), .int (nI (exY (aSk A) (aBk A).2.2 (-1))), .int (nI g)] [.int xq] τ2 0 0) (show rI τ2 108 59 = nI (exY (aSk A) (aBk A).2.2 (nI g)) from g3)) ?_
        refine hAt 1 _ _ _ _ _ _ ?_
        refine And.intro (fun hq => ?_) (fun hq => ?_)
        · have c88 : exY (aSk A) (aBk A).2.2 (nI g) ≤ 0 := (leN (a := exY (aSk A) (aBk A).2.2 (nI g)) (b := 0) rfl rfl (by omega) (by omega)).mp hq
          clear hq
          refine hAt 2 _ _ _ _ _ _ ?_
          refine Eq.mpr (congrArg (fun xq : Int32 => At 67 [.ref (108), .int (nI i), .int (nI (exY (aSk A) (aBk A).2.2 (-1))), .int xq] [] τ2 0 0) (show nI g + nI 1 = nI (g + 1) from (adE rfl rfl))) ?_
          refine ih c72 τ2 hx2 h0 ?_
          rw [he, show (aBk A).2.2.1 - g = ((aBk A).2.2.1 - (g + 1)) + 1 by omega, fsF, if_neg (by rw [decide_eq_true_eq]; omega)]
        · have c88 : 0 < exY (aSk A) (aBk A).2.2 (nI g) := Nat.lt_of_not_le (fun zq => hq ((leN (a := exY (aSk A) (aBk A).2.2 (nI g)) (b := 0) rfl rfl (by omega) (by omega)).mpr zq))
          clear hq
          refine hAt 2 _ _ _ _ _ _ ?_
          exact fin τ2 _ hx2 (by rw [exA, if_neg (by omega), if_neg (by omega), he, show (aBk A).2.2.1 - g = ((aBk A).2.2.1 - (g + 1)) + 1 by omega, fsF, if_pos (decide_eq_true (by omega))])
  have lz : i = 2 → ∀ τ, xG (wI σ 108 0 (nI 0)) τ → 0 < exY (aSk A) (aBk A).2.2 (-1) → At 67 [.ref 108, .int (nI i), .int (nI (exY (aSk A) (aBk A).2.2 (-1))), .int (nI 0)] [] τ 0 0 := by
    intro hi2 τ hx h0
    have e21 : rI τ 108 21 = nI (aBk A).2.2.1 := (hx.im hI' hv).2.bk.2.2.1
    have z : P (some (.int (-1))) τ := fin τ _ hx (by rw [exA, if_neg (by omega), if_neg (by omega), lyA, if_pos h0])
    refine hAt 3 _ _ _ _ _ _ ?_
    refine Eq.mpr (congrArg (fun xq : Int32 => At 72 [.ref (108), .int (nI i), .int (nI (exY (aSk A) (aBk A).2.2 (-1))), .int (nI 0)] [.int xq, .int (nI 0)] τ 0 0) (show rI τ 108 21 = nI ((aBk A).2.2.1) from e21)) ?_
    refine hAt 1 _ _ _ _ _ _ ?_
    refine And.intro (fun hq => ?_) (fun hq => ?_)
    · have c72 : (aBk A).2.2.1 ≤ 0 := (leN (a := (aBk A).2.2.1) (b := 0) rfl rfl (by omega) (by omega)).mp hq
      clear hq
      refine hAt 2 _ _ _ _ _ _ ?_
      exact z
    · have c72 : 0 < (aBk A).2.2.1 := Nat.lt_of_not_le (fun zq => hq ((leN (a := (aBk A).2.2.1) (b := 0) rfl rfl (by omega) (by omega)).mpr zq))
      clear hq
      refine hAt 2 _ _ _ _ _ _ ?_
      refine And.intro (fun hq => ?_) (fun hq => ?_)
      · have c76 : ¬ exY (aSk A) (aBk A).2.2 (-1) = 0 := fun zq => hq ((eqN (a := exY (aSk A) (aBk A).2.2 (-1)) (b := 0) rfl rfl (by omega) (by omega)).mpr zq)
        clear hq
        refine hAt 2 _ _ _ _ _ _ ?_
        exact z
      · have c76 : exY (aSk A) (aBk A).2.2 (-1) = 0 := (eqN (a := exY (aSk A) (aBk A).2.2 (-1)) (b := 0) rfl rfl (by omega) (by omega)).mp hq
        clear hq
        exact absurd c76 (by omega)
  refine hAt 9 _ _ _ _ _ _ ?_
  refine s_in ?_
  rw [decide_eq_true ⟨nI_nlt (Nat.zero_le _) (by omega), nI_nlt (by omega) (by omega)⟩]
  refine And.intro (fun _ => ?_) (fun hq => absurd hq (by decide))
  refine hAt 4 _ _ _ _ _ _ ?_
  refine s_bad0 rfl rfl ?_
  refine And.intro (fun _ => ?_) (fun hq => absurd hq (by decide))
  refine hAt 5 _ _ _ _ _ _ ?_
  refine s_explains hI'.sk hv.2.2.1 hI'.bk.2.2 hn (hgA hv) fun τ g1 g2 g3 g4 => ?_
  have hx : xG (wI σ 108 0 (nI 0)) τ := ⟨g1, g2⟩
  refine Eq.mpr (congrArg (fun xq : Int32 => At 38 [.ref (108), .int (nI i), junk, junk] [.int xq] τ 0 0) (show rI τ 108 59 = nI (exY (aSk A) (aBk A).2.2 (-1)) from g3)) ?_
  refine hAt 4 _ _ _ _ _ _ ?_
  refine And.intro (fun hq => ?_) (fun hq => ?_)
  · have c41 : 2 ≤ i := (leN (a := 2) (b := i) rfl rfl (by omega) (by omega)).mp hq
    clear hq
    refine hAt 2 _ _ _ _ _ _ ?_
    by_cases h0 : 0 < exY (aSk A) (aBk A).2.2 (-1)
    · exact lz (by omega) τ hx h0
    · exact loop (by omega) 0 (by omega) τ hx h0 (by rw [lyA, if_neg h0, Nat.sub_zero])
  · have c41 : i < 2 := Nat.lt_of_not_le (fun zq => hq ((leN (a := 2) (b := i) rfl rfl (by omega) (by omega)).mpr zq))
    clear hq
    refine hAt 2 _ _ _ _ _ _ ?_
    refine And.intro (fun hq => ?_) (fun hq => ?_)
    · have c45 : ¬ i = 0 := fun zq => hq ((eqN (a := i) (b := 0) rfl rfl (by omega) (by omega)).mpr zq)
      clear hq
      refine hAt 2 _ _ _ _ _ _ ?_
      refine And.intro (fun hq => ?_) (fun hq => ?_)
      · have c53 : ¬ exY (aSk A) (aBk A).2.2 (-1) = 0 := fun zq => hq ((eqN (a := exY (aSk A) (aBk A).2.2 (-1)) (b := 0) rfl rfl (by omega) (by omega)).mpr zq)
        clear hq
        refine hAt 2 _ _ _ _ _ _ ?_
        refine Eq.mpr (congrArg (fun xq : Int32 => At 64 [.ref (108), .int (nI i), .int (nI (exY (aSk A) (aBk A).2.2 (-1))), junk] [.int xq] τ 0 0) (show rI τ 108 60 = nI 63 &&& exZ (aSk A) (aBk A).2.2 (-1) from g4)) ?_
        refine hAt 1 _ _ _ _ _ _ ?_
        exact fin τ _ hx (by rw [exA, if_neg (by omega), if_pos (by omega), if_neg c53])
      · have c53 : exY (aSk A) (aBk A).2.2 (-1) = 0 := (eqN (a := exY (aSk A) (aBk A).2.2 (-1)) (b := 0) rfl rfl (by omega) (by omega)).mp hq
        clear hq
        refine hAt 3 _ _ _ _ _ _ ?_
        exact fin τ _ hx (by rw [exA, if_neg (by omega), if_pos (by omega), if_pos c53])
    · have c45 : i = 0 := (eqN (a := i) (b := 0) rfl rfl (by omega) (by omega)).mp hq
      clear hq
      refine hAt 3 _ _ _ _ _ _ ?_
      exact fin τ _ hx (by rw [exA, if_pos (by omega)])
end EXO
