/-! THE DAY on the component's side: what lands -/
theorem fdA_none {s : Sk} {x y : Nat} : ∀ n, fdA s x y n = none → ∀ i, i < n → ¬ (kF s i 0 = x ∧ kF s i 1 = y)
  | 0, _, i, hi => absurd hi (Nat.not_lt_zero i)
  | n + 1, e, i, hi => by
    rw [fdA] at e
    cases e2 : fdA s x y n with
    | some z => rw [e2] at e; cases e
    | none =>
      rw [e2] at e
      simp only at e
      by_cases q : kF s n 0 = x ∧ kF s n 1 = y
      · rw [if_pos q] at e; cases e
      · by_cases e3 : i = n
        · rw [e3]; exact q
        · exact fdA_none n e2 i (by omega)
theorem fdA_hit {s : Sk} {x y i : Nat} (h1 : kF s i 0 = x ∧ kF s i 1 = y) (h2 : ∀ j, j < i → ¬ (kF s j 0 = x ∧ kF s j 1 = y)) : ∀ n, i < n → fdA s x y n = some i
  | 0, hi => absurd hi (Nat.not_lt_zero i)
  | n + 1, hi => by
    rw [fdA]
    by_cases e : i = n
    · subst e
      cases e2 : fdA s x y i with
      | some z => have := fdA_some i e2; exact absurd this.2 (h2 z this.1)
      | none => simp only; rw [if_pos h1]
    · rw [fdA_hit h1 h2 n (by omega)]
theorem icA_none {s : Sk} {x y : Nat} : ∀ n, icA s x y n = none → ∀ i, i < n → ¬ (kI s i 0 = x ∧ kI s i 1 = y)
  | 0, _, i, hi => absurd hi (Nat.not_lt_zero i)
  | n + 1, e, i, hi => by
    rw [icA] at e
    cases e2 : icA s x y n with
    | some z => rw [e2] at e; cases e
    | none =>
      rw [e2] at e
      simp only at e
      by_cases q : kI s n 0 = x ∧ kI s n 1 = y
      · rw [if_pos q] at e; cases e
      · by_cases e3 : i = n
        · rw [e3]; exact q
        · exact icA_none n e2 i (by omega)
theorem icA_hit {s : Sk} {x y i : Nat} (h1 : kI s i 0 = x ∧ kI s i 1 = y) (h2 : ∀ j, j < i → ¬ (kI s j 0 = x ∧ kI s j 1 = y)) : ∀ n, i < n → icA s x y n = some i
  | 0, hi => absurd hi (Nat.not_lt_zero i)
  | n + 1, hi => by
    rw [icA]
    by_cases e : i = n
    · subst e
      cases e2 : icA s x y i with
      | some z => have := icA_some i e2; exact absurd this.2 (h2 z this.1)
      | none => simp only; rw [if_pos h1]
    · rw [icA_hit h1 h2 n (by omega)]
theorem fdA_miss {s : Sk} {x y : Nat} : ∀ n, (∀ i, i < n → ¬ (kF s i 0 = x ∧ kF s i 1 = y)) → fdA s x y n = none
  | 0, _ => rfl
  | n + 1, h => by rw [fdA, fdA_miss n (fun i hi => h i (by omega))]; simp only; rw [if_neg (h n (by omega))]
theorem icA_miss {s : Sk} {x y : Nat} : ∀ n, (∀ i, i < n → ¬ (kI s i 0 = x ∧ kI s i 1 = y)) → icA s x y n = none
  | 0, _ => rfl
  | n + 1, h => by rw [icA, icA_miss n (fun i hi => h i (by omega))]; simp only; rw [if_neg (h n (by omega))]
theorem sD_addD {D : Dy} {e : Nat → Nat → Int32} {t i : Nat} {x : Int32} (h : e t i = 0) : sD (addD D e) t i (gD D t i + x) = addD D (fun a b => e a b + one t i x a b) := by
  refine Dy.ext (fun _ _ => rfl) (fun a b => ?_)
  rw [gD_sD, gD_addD, gD_addD]
  unfold one
  by_cases q : a = t ∧ b = i
  · rw [if_pos q, if_pos q, q.1, q.2, h, Int32.zero_add]
  · rw [if_neg q, if_neg q, Int32.add_zero]
theorem addD_0 {D : Dy} {e : Nat → Nat → Int32} (h : ∀ a b, e a b = 0) : addD D e = D := Dy.ext (fun _ _ => rfl) (fun a b => by rw [gD_addD, h, Int32.add_zero])
theorem addD_congr {D : Dy} {e f : Nat → Nat → Int32} (h : ∀ a b, e a b = f a b) : addD D e = addD D f := Dy.ext (fun _ _ => rfl) (fun a b => by rw [gD_addD, gD_addD, h])
theorem addD_addD {D : Dy} {e f : Nat → Nat → Int32} : addD (addD D e) f = addD D (fun a b => e a b + f a b) := Dy.ext (fun _ _ => rfl) (fun a b => by rw [gD_addD, gD_addD, gD_addD, Int32.add_assoc])
theorem one_z {t i a b : Nat} {x : Int32} (h : a ≠ t ∨ b ≠ i) : one t i x a b = 0 := if_neg (fun z => h.elim (fun q => q z.1) (fun q => q z.2))
theorem adN {x : Int32} {a b : Nat} (p : x = nI a) (h : b ≤ a) : x + -nI b = nI (a - b) := by rw [p, ← nI_sub h, Int32.sub_eq_add_neg]
def hlE (s : Sk) (h : Nat) (D : Dy) (f t : Nat) : Dy := addD D (hlD s h true D f t)
section DC6
variable {w : Wd} {d : Nat} {σ0 σ : Mem} {s : Sk} {P : Option AV → Mem → Prop} {X : Nat → Mem → Prop}
theorem s_fieldAt {c : Nat} (hS : skC σ 4 s) (hv : VS s) (hc : c < 64) (hP : P (some (.int (oI (cF s c)))) σ) : Ret w true (d + 3) 0 0 m_Sky_fieldAt [.ref 3, .int (nI c)] σ P X := by
  have hF := hv.2.2.2.1
  have s9 := hv.2.2.2.2.2.2.2.2.2.2.2.2.2.1
  have s1 := hv.1
  have s2 := hv.2.1
  have at_i : ∀ i, i < kT s 3 → (atXY σ 11 6 (nI (c % 8)) (nI (c / 8)) i = true ↔ (kF s i 0 = c % 8 ∧ kF s i 1 = c / 8)) := fun i hi => by
    have b := s9 i hi
    have r0 : rI σ 11 (i * 6 + 0) = nI (kF s i 0) := hS.2.2.2.1.2 i hi 0 (by omega)
    have r1 : rI σ 11 (i * 6 + 1) = nI (kF s i 1) := hS.2.2.2.1.2 i hi 1 (by omega)
    unfold atXY
    rw [decide_eq_true_iff, r0, r1, nI_eq (by omega) (by omega), nI_eq (by omega) (by omega)]
  have key : fsF (atXY σ 11 6 (nI (c % 8)) (nI (c / 8))) 0 (kT s 3) = oI (cF s c) := by
    unfold cF
    rcases fsF_spec (atXY σ 11 6 (nI (c % 8)) (nI (c / 8))) (kT s 3) 0 with ⟨h1, h2⟩ | ⟨i, h1, h2, h3, h4, h5⟩
    · rw [h1, fdA_miss _ (fun i hi z => by have := h2 i (by omega) (by omega); rw [(at_i i hi).mpr z] at this; cases this)]; rfl
    · have h2' : i < kT s 3 := by omega
      rw [h4, fdA_hit ((at_i i h2').mp h3) (fun j hj z => by have := h5 j (by omega) hj; rw [(at_i j (by omega)).mpr z] at this; cases this) _ h2']; rfl
  refine meth_ok k_Sky_fieldAt q_Sky_fieldAt rfl fun At hAt => ?_
  refine hAt 8 _ _ _ _ _ _ ?_
  refine And.intro (by decide) ?_
  refine And.intro (by decide) ?_
  refine Eq.mpr (congrArg (fun xq : Int32 => At 12 [.ref (3), .int (nI c)] [.int ((nI c) / (nI 8)), .int xq, .ref (10)] σ 0 0) (show (nI c) - (nI c) / (nI 8) * (nI 8) = nI (c % 8) from (rmE rfl rfl (by omega) (by omega)))) ?_
  refine Eq.mpr (congrArg (fun xq : Int32 => At 12 [.ref (3), .int (nI c)] [.int xq, .int (nI (c % 8)), .ref (10)] σ 0 0) (show (nI c) / (nI 8) = nI (c / 8) from (dvE rfl rfl (by omega) (by omega)))) ?_
  refine hAt 2 _ _ _ _ _ _ ?_
  refine s_Table_rowAt (a := 10) (na := 11) (mo := 12) (wd := 6) (sz := kT s 3) rfl (by omega) hS.2.2.2.1.1 (by omega) ?_
  rw [key]
  exact hP
theorem s_glacierAt {c : Nat} (hS : skC σ 4 s) (hv : VS s) (hc : c < 64) (hP : P (some (.int (oI (icA s (c % 8) (c / 8) (kT s 4))))) σ) : Ret w true (d + 3) 0 0 m_Sky_glacierAt [.ref 3, .int (nI c)] σ P X := by
  have hG := hv.2.2.2.2.1
  have s9 := hv.2.2.2.2.2.2.2.2.2.2.2.2.2.2.1
  have s1 := hv.1
  have s2 := hv.2.1
  have at_i : ∀ i, i < kT s 4 → (atXY σ 13 3 (nI (c % 8)) (nI (c / 8)) i = true ↔ (kI s i 0 = c % 8 ∧ kI s i 1 = c / 8)) := fun i hi => by
    have b := s9 i hi
    have r0 : rI σ 13 (i * 3 + 0) = nI (kI s i 0) := hS.2.2.2.2.1.2 i hi 0 (by omega)
    have r1 : rI σ 13 (i * 3 + 1) = nI (kI s i 1) := hS.2.2.2.2.1.2 i hi 1 (by omega)
    unfold atXY
    rw [decide_eq_true_iff, r0, r1, nI_eq (by omega) (by omega), nI_eq (by omega) (by omega)]
  have key : fsF (atXY σ 13 3 (nI (c % 8)) (nI (c / 8))) 0 (kT s 4) = oI (icA s (c % 8) (c / 8) (kT s 4)) := by
    rcases fsF_spec (atXY σ 13 3 (nI (c % 8)) (nI (c / 8))) (kT s 4) 0 with ⟨h1, h2⟩ | ⟨i, h1, h2, h3, h4, h5⟩
    · rw [h1, icA_miss _ (fun i hi z => by have := h2 i (by omega) (by omega); rw [(at_i i hi).mpr z] at this; cases this)]; rfl
    · have h2' : i < kT s 4 := by omega
      rw [h4, icA_hit ((at_i i h2').mp h3) (fun j hj z => by have := h5 j (by omega) hj; rw [(at_i j (by omega)).mpr z] at this; cases this) _ h2']; rfl
  refine meth_ok k_Sky_glacierAt q_Sky_glacierAt rfl fun At hAt => ?_
  refine hAt 8 _ _ _ _ _ _ ?_
  refine And.intro (by decide) ?_
  refine And.intro (by decide) ?_
  refine Eq.mpr (congrArg (fun xq : Int32 => At 12 [.ref (3), .int (nI c)] [.int ((nI c) / (nI 8)), .int xq, .ref (12)] σ 0 0) (show (nI c) - (nI c) / (nI 8) * (nI 8) = nI (c % 8) from (rmE rfl rfl (by omega) (by omega)))) ?_
  refine Eq.mpr (congrArg (fun xq : Int32 => At 12 [.ref (3), .int (nI c)] [.int xq, .int (nI (c % 8)), .ref (12)] σ 0 0) (show (nI c) / (nI 8) = nI (c / 8) from (dvE rfl rfl (by omega) (by omega)))) ?_
  refine hAt 2 _ _ _ _ _ _ ?_
  refine s_Table_rowAt (a := 12) (na := 13) (mo := 3) (wd := 3) (sz := kT s 4) rfl (by omega) hS.2.2.2.2.1.1 (by omega) ?_
  rw [key]
  exact hP
theorem s_keeperOf {c h : Nat} (hS : skC σ 4 s) (hv : VS s) (hc : c < 64) (hh : h < 50) (hP : P (some (.int (oI (cG s h c)))) σ) : Ret w true (d + 4) 0 0 m_Ground_keeperOf [.ref 60, .int (nI c), .int (nI h)] σ P X := by
  have hG := hv.2.2.2.2.1
  have s9 := hv.2.2.2.2.2.2.2.2.2.2.2.2.2.2.1
  have hP' : ∀ x, x = oI (cG s h c) → P (some (.int x)) σ := fun x e => by rw [e]; exact hP
  unfold cG icH at hP'
  refine meth_ok k_Ground_keeperOf q_Ground_keeperOf rfl fun At hAt => ?_
  refine hAt 8 _ _ _ _ _ _ ?_
  refine s_glacierAt hS hv hc ?_
  cases e11 : icA s (c % 8) (c / 8) (kT s 4) with
  | none =>
    rw [e11] at hP'
    refine And.intro (fun _ => ?_) (fun hq => absurd rfl hq)
    refine hAt 2 _ _ _ _ _ _ ?_
    exact hP' _ rfl
  | some bb11 =>
    have hb := icA_some _ e11
    have b2 := s9 bb11 hb.1
    rw [e11] at hP'
    refine And.intro (fun hq => absurd hq (nI_m1 (by omega))) (fun _ => ?_)
    refine hAt 7 _ _ _ _ _ _ ?_
    refine s_Table_get (a := 12) (na := 13) (mo := 3) (wd := 3) rfl (show bb11 < 3 by omega) (show 2 < 3 by omega) ?_
    refine Eq.mpr (congrArg (fun xq : Int32 => At 27 [.ref (60), .int (nI c), .int (nI h), .int (oI (some bb11))] [.int xq, .int (nI h)] σ 0 0) (show rI σ 13 (bb11 * 3 + 2) = nI (kI s bb11 2) from (hS.p.2.2.2.2.2 bb11 (by omega) 2 (by omega)))) ?_
    refine hAt 1 _ _ _ _ _ _ ?_
    refine And.intro (fun hq => ?_) (fun hq => ?_)
    · have c27 : kI s bb11 2 ≤ h := (leN (a := kI s bb11 2) (b := h) rfl rfl (by omega) (by omega)).mp hq
      clear hq
      refine hAt 2 _ _ _ _ _ _ ?_
      exact hP' _ (by unfold icK; simp only; rw [if_neg (by omega)]; rfl)
    · have c27 : h < kI s bb11 2 := Nat.lt_of_not_le (fun zq => hq ((leN (a := kI s bb11 2) (b := h) rfl rfl (by omega) (by omega)).mpr zq))
      clear hq
      refine hAt 3 _ _ _ _ _ _ ?_
      exact hP' _ (by unfold icK; simp only; rw [if_pos (by omega)])
theorem s_rsum {D : Dy} {e c : Nat} {hf : Nat → Nat} (hc : eC σ0 s e hf D σ) (hc8 : c < 64) (hP : P (some (.int (nI (rs D (20 + c))))) σ) : Ret w true (d + 2) 0 0 m_Table_sum [.ref 61, .int (nI c)] σ P X := by
  refine s_Table_sum (a := 61) (na := 62) (mo := 64) (wd := 8) rfl (by omega) ?_
  rw [sI_rs (g := gN D (20 + c)) 8 (fun o ho => hc.rai c o hc8 ho)]
  exact hP
theorem s_hail {D : Dy} {e h f c : Nat} {hf : Nat → Nat} (hS0 : skC σ0 4 s) (hv : VS s) (hc : eC σ0 s e hf D σ) (hfl : f < kT s 3) (hcl : c < 64) (hr : rs D (20 + c) ≤ 7992) (hP : ∀ τ, eC σ0 s e hf (hlE s h D f (20 + c)) τ → P none τ) : Ret w true (d + 3) 0 0 m_Ground_hail [.ref 60, .int (nI f), .int (nI c), .int (nI h)] σ P X := by
  have hn := hv.2.2.1
  have hF := hv.2.2.2.1
  have hS := hc.sk hS0
  have hH := hv.2.2.2.2.2.2.2.2.1
  have b := hv.2.2.2.2.2.2.2.2.2.2.2.2.2.1 f hfl
  have hm : moR D (20 + c) < 8 := Nat.lt_succ_of_le (moI_lt _ 7)
  have no : hlB s D f (20 + c) = false → P none σ := fun q => hP σ (by unfold hlE; rw [addD_0 (fun a b => by unfold hlD; rw [q]; rfl)]; exact hc)
  refine meth_ok k_Ground_hail q_Ground_hail rfl fun At hAt => ?_
  refine hAt 9 _ _ _ _ _ _ ?_
  refine s_rsum hc hcl ?_
  refine s_Sky_fact hS (by omega) ?_
  refine And.intro (fun hq => ?_) (fun hq => ?_)
  · have c17 : rs D (20 + c) ≤ kT s 8 := (leN (a := rs D (20 + c)) (b := kT s 8) rfl rfl (by omega) (by omega)).mp hq
    clear hq
    refine hAt 1 _ _ _ _ _ _ ?_
    exact no (by unfold hlB; rw [decide_eq_false (by omega)]; rfl)
  · have c17 : kT s 8 < rs D (20 + c) := Nat.lt_of_not_le (fun zq => hq ((leN (a := rs D (20 + c)) (b := kT s 8) rfl rfl (by omega) (by omega)).mpr zq))
    clear hq
    refine hAt 5 _ _ _ _ _ _ ?_
    refine s_Table_get (a := 69) (na := 70) (mo := 12) (wd := 3) rfl (show f < 12 by omega) (show 2 < 3 by omega) ?_
    refine Eq.mpr (congrArg (fun xq : Int32 => At 29 [.ref (60), .int (nI f), .int (nI c), .int (nI h)] [.int xq] σ 0 0) (show rI σ 70 (f * 3 + 2) = gD D 2 f from (hc.hai f hfl))) ?_
    refine hAt 2 _ _ _ _ _ _ ?_
    refine And.intro (fun hq => ?_) (fun hq => ?_)
    · have c30 : ¬ gD D 2 f = -1 := hq
      clear hq
      refine hAt 1 _ _ _ _ _ _ ?_
      exact no (by unfold hlB; rw [decide_eq_false c30, Bool.and_false])
    · have c30 : gD D 2 f = -1 := hq
      clear hq
      refine hAt 19 _ _ _ _ _ _ ?_
      refine s_Table_set (a := 69) (na := 70) (mo := 12) (wd := 3) rfl (show f < 12 by omega) (show 2 < 3 by omega) ?_
      refine s_Table_mostIn (a := 61) (na := 62) (mo := 64) (wd := 8) rfl (by omega) ?_
      rw [show moI (fun o => rI (wI σ 70 (f * 3 + 2) (nI h)) 62 (c * 8 + o)) 8 = moR D (20 + c) from moI_congr 8 (fun o ho => by rw [rI_wI, if_neg (by omega)]; exact hc.rai c o hcl ho)]
      refine s_Table_get (a := 10) (na := 11) (mo := 12) (wd := 6) rfl (show f < 12 by omega) (show 4 < 6 by omega) ?_
      refine Eq.mpr (congrArg (fun xq : Int32 => At 68 [.ref (60), .int (nI f), .int (nI c), .int (nI h)] [.int xq, .int (nI 2), .int (nI (moR D (20 + c))), .ref (65)] (wI σ 70 (f * 3 + 2) (nI h)) 0 0) (show rI (wI σ 70 (f * 3 + 2) (nI h)) 11 (f * 6 + 4) = nI (kF s f 4) from (by rw [rI_wI, if_neg (by omega)]; exact (hS.2.2.2.1.2 f (by omega) 4 (by omega))))) ?_
      refine hAt 1 _ _ _ _ _ _ ?_
      refine s_Table_add (a := 65) (na := 66) (mo := 8) (wd := 3) rfl (show moR D (20 + c) < 8 by omega) (show 2 < 3 by omega) ?_
      refine Eq.mpr (congrArg (fun xq : Mem => At 71 [.ref (60), .int (nI f), .int (nI c), .int (nI h)] [] xq 0 0) (congrArg (fun z => wI (wI σ 70 (f * 3 + 2) (nI h)) 66 ((moR D (20 + c)) * 3 + 2) z) (show rI (wI σ 70 (f * 3 + 2) (nI h)) 66 ((moR D (20 + c)) * 3 + 2) + (nI (kF s f 4)) = (gD D 5 (moR D (20 + c))) + (nI (kF s f 4)) from (congrArg (fun z => z + (nI (kF s f 4))) (by rw [rI_wI, if_neg (by omega)]; exact (hc.acc _ 2 hm (by omega))))))) ?_
      refine hAt 8 _ _ _ _ _ _ ?_
      refine s_Table_get (a := 10) (na := 11) (mo := 12) (wd := 6) rfl (show f < 12 by omega) (show 2 < 6 by omega) ?_
      refine Eq.mpr (congrArg (fun xq : Int32 => At 87 [.ref (60), .int (nI f), .int (nI c), .int (nI h)] [.int xq, .ref (67)] (wI (wI σ 70 (f * 3 + 2) (nI h)) 66 ((moR D (20 + c)) * 3 + 2) ((gD D 5 (moR D (20 + c))) + (nI (kF s f 4)))) 0 0) (show rI (wI (wI σ 70 (f * 3 + 2) (nI h)) 66 ((moR D (20 + c)) * 3 + 2) ((gD D 5 (moR D (20 + c))) + (nI (kF s f 4)))) 11 (f * 6 + 2) = nI (kF s f 2) from (by rw [rI_wI, if_neg (by omega), rI_wI, if_neg (by omega)]; exact (hS.2.2.2.1.2 f (by omega) 2 (by omega))))) ?_
      refine hAt 7 _ _ _ _ _ _ ?_
      refine s_Table_get (a := 10) (na := 11) (mo := 12) (wd := 6) rfl (show f < 12 by omega) (show 4 < 6 by omega) ?_
      refine Eq.mpr (congrArg (fun xq : Int32 => At 100 [.ref (60), .int (nI f), .int (nI c), .int (nI h)] [.int xq, .int (nI 1), .int (nI (kF s f 2)), .ref (67)] (wI (wI σ 70 (f * 3 + 2) (nI h)) 66 ((moR D (20 + c)) * 3 + 2) ((gD D 5 (moR D (20 + c))) + (nI (kF s f 4)))) 0 0) (show rI (wI (wI σ 70 (f * 3 + 2) (nI h)) 66 ((moR D (20 + c)) * 3 + 2) ((gD D 5 (moR D (20 + c))) + (nI (kF s f 4)))) 11 (f * 6 + 4) = nI (kF s f 4) from (by rw [rI_wI, if_neg (by omega), rI_wI, if_neg (by omega)]; exact (hS.2.2.2.1.2 f (by omega) 4 (by omega))))) ?_
      refine hAt 1 _ _ _ _ _ _ ?_
      refine s_Table_add (a := 67) (na := 68) (mo := 7) (wd := 2) rfl (show kF s f 2 < 7 by omega) (show 1 < 2 by omega) ?_
      refine Eq.mpr (congrArg (fun xq : Mem => At 103 [.ref (60), .int (nI f), .int (nI c), .int (nI h)] [] xq 0 0) (congrArg (fun z => wI (wI (wI σ 70 (f * 3 + 2) (nI h)) 66 ((moR D (20 + c)) * 3 + 2) ((gD D 5 (moR D (20 + c))) + (nI (kF s f 4)))) 68 ((kF s f 2) * 2 + 1) z) (show rI (wI (wI σ 70 (f * 3 + 2) (nI h)) 66 ((moR D (20 + c)) * 3 + 2) ((gD D 5 (moR D (20 + c))) + (nI (kF s f 4)))) 68 ((kF s f 2) * 2 + 1) + (nI (kF s f 4)) = (gD D 7 (kF s f 2)) + (nI (kF s f 4)) from (congrArg (fun z => z + (nI (kF s f 4))) (by rw [rI_wI, if_neg (by omega), rI_wI, if_neg (by omega)]; exact (hc.owe _ (by omega))))))) ?_
      refine hAt 3 _ _ _ _ _ _ ?_
      refine Eq.mpr (congrArg (fun xq : Int32 => At 108 [.ref (60), .int (nI f), .int (nI c), .int (nI h)] [.int xq, .ref (60)] (wI (wI (wI σ 70 (f * 3 + 2) (nI h)) 66 ((moR D (20 + c)) * 3 + 2) ((gD D 5 (moR D (20 + c))) + (nI (kF s f 4)))) 68 ((kF s f 2) * 2 + 1) ((gD D 7 (kF s f 2)) + (nI (kF s f 4)))) 0 0) (show rI (wI (wI (wI σ 70 (f * 3 + 2) (nI h)) 66 ((moR D (20 + c)) * 3 + 2) ((gD D 5 (moR D (20 + c))) + (nI (kF s f 4)))) 68 ((kF s f 2) * 2 + 1) ((gD D 7 (kF s f 2)) + (nI (kF s f 4)))) 60 9 = gD D 0 6 from (by rw [rI_wI, if_neg (by omega), rI_wI, if_neg (by omega), rI_wI, if_neg (by omega)]; exact hc.hls))) ?_
      refine hAt 4 _ _ _ _ _ _ ?_
      refine hP _ ?_
      have g1 := ((((hc.whai (v := nI h) hfl hn hF).wacc (v := gD D 5 (moR D (20 + c)) + nI (kF s f 4)) hm (show 2 < 3 by omega) hn hF).wowe (v := gD D 7 (kF s f 2) + nI (kF s f 4)) (show kF s f 2 < 7 by omega) hn hF).whls (v := gD D 0 6 + nI 1) hn hF)
      have eq : hlE s h D f (20 + c) = sD (sD (sD (sD D 2 f (nI h)) (3 + 2) (moR D (20 + c)) (gD D 5 (moR D (20 + c)) + nI (kF s f 4))) 7 (kF s f 2) (gD D 7 (kF s f 2) + nI (kF s f 4))) 0 6 (gD D 0 6 + nI 1) := by
        unfold hlE hlD
        rw [if_pos (by unfold hlB; rw [decide_eq_true c17, decide_eq_true c30]; rfl)]
        have e0 : sD D 2 f (nI h) = addD D (one 2 f (nI (h + 1))) := by
          refine Dy.ext (fun _ _ => rfl) (fun a b => ?_)
          rw [gD_sD, gD_addD]; unfold one
          by_cases q : a = 2 ∧ b = f
          · rw [if_pos q, if_pos q, q.1, q.2, c30, nI_s, show (-1 : Int32) + (nI h + nI 1) = nI h + (nI 1 + -1) by rw [Int32.add_comm, Int32.add_assoc], show (nI 1 + -1 : Int32) = 0 by decide, Int32.add_zero]
          · rw [if_neg q, if_neg q, Int32.add_zero]
        rw [e0, sD_addD (one_z (by omega)), sD_addD (by rw [one_z (by omega), one_z (by omega)]; rfl), sD_addD (by rw [one_z (by omega), one_z (by omega), one_z (by omega)]; rfl)]
        exact addD_congr (fun a b => by unfold hl1; rw [Int32.add_assoc, Int32.add_assoc])
      rw [eq]
      exact g1
theorem s_soak {D : Dy} {e f o m : Nat} {hf : Nat → Nat} (hS0 : skC σ0 4 s) (hv : VS s) (hc : eC σ0 s e hf D σ) (hfl : f < kT s 3) (ho : o < 8) (hm : m ≤ 7992) (hth : gN D 3 f ≤ 99) (hP : ∀ τ, eC σ0 s e hf (addD (sN D 3 f (gN D 3 f - min m (gN D 3 f))) (sk1 s f o (min m (gN D 3 f)) (m - min m (gN D 3 f)))) τ → P none τ) : Ret w true (d + 3) 0 0 m_Ground_soak [.ref 60, .int (nI f), .int (nI o), .int (nI m)] σ P X := by
  have hn := hv.2.2.1
  have hF := hv.2.2.2.1
  have hS := hc.sk hS0
  have hH := hv.2.2.2.2.2.2.2.2.2.1
  have b := hv.2.2.2.2.2.2.2.2.2.2.2.2.2.1 f hfl
  obtain ⟨n, en⟩ : ∃ n, n = min m (gN D 3 f) := ⟨_, rfl⟩
  have hn2 : n ≤ m ∧ n ≤ gN D 3 f := by omega
  rw [← en] at hP
  refine meth_ok k_Ground_soak q_Ground_soak rfl fun At hAt => ?_
  refine hAt 6 _ _ _ _ _ _ ?_
  refine s_Table_get (a := 69) (na := 70) (mo := 12) (wd := 3) rfl (show f < 12 by omega) (show 0 < 3 by omega) ?_
  refine Eq.mpr (congrArg (fun xq : Int32 => At 10 [.ref (60), .int (nI f), .int (nI o), .int (nI m), junk, junk, junk, junk, junk] [.int xq, .int (nI m)] σ 0 0) (show rI σ 70 (f * 3 + 0) = nI (gN D 3 f) from (hc.thi f hfl))) ?_
  refine hAt 13 _ _ _ _ _ _ ?_
  refine s_Table_get (a := 10) (na := 11) (mo := 12) (wd := 6) rfl (show f < 12 by omega) (show 5 < 6 by omega) ?_
  refine Eq.mpr (congrArg (fun xq : Int32 => At 35 [.ref (60), .int (nI f), .int (nI o), .int (nI m), .int ((if (nI (gN D 3 f)) < (nI m) then (nI (gN D 3 f)) else (nI m))), .int (nI m - (if (nI (gN D 3 f)) < (nI m) then (nI (gN D 3 f)) else (nI m))), junk, junk, junk] [.int xq, .int ((if (nI (gN D 3 f)) < (nI m) then (nI (gN D 3 f)) else (nI m)))] σ 0 0) (show rI σ 11 (f * 6 + 5) = nI (kF s f 5) from (hS.2.2.2.1.2 f (by omega) 5 (by omega)))) ?_
  refine hAt 15 _ _ _ _ _ _ ?_
  refine s_Sky_fact (hS) (by omega) ?_
  refine s_Table_get (a := 10) (na := 11) (mo := 12) (wd := 6) rfl (show f < 12 by omega) (show 2 < 6 by omega) ?_
  refine Eq.mpr (congrArg (fun xq : Int32 => At 64 [.ref (60), .int (nI f), .int (nI o), .int (nI m), .int ((if (nI (gN D 3 f)) < (nI m) then (nI (gN D 3 f)) else (nI m))), .int (nI m - (if (nI (gN D 3 f)) < (nI m) then (nI (gN D 3 f)) else (nI m))), .int ((if (nI (gN D 3 f)) < (nI m) then (nI (gN D 3 f)) else (nI m)) * (nI (kF s f 5))), .int ((nI m - (if (nI (gN D 3 f)) < (nI m) then (nI (gN D 3 f)) else (nI m))) * (nI (kT s 9))), junk] [.int xq] σ 0 0) (show rI σ 11 (f * 6 + 2) = nI (kF s f 2) from (hS.2.2.2.1.2 f (by omega) 2 (by omega)))) ?_
  refine hAt 1 _ _ _ _ _ _ ?_
  refine Eq.mpr (congrArg (fun xq : Int32 => At 66 [.ref (60), .int (nI f), .int (nI o), .int (nI m), .int xq, .int (nI m - (if (nI (gN D 3 f)) < (nI m) then (nI (gN D 3 f)) else (nI m))), .int ((if (nI (gN D 3 f)) < (nI m) then (nI (gN D 3 f)) else (nI m)) * (nI (kF s f 5))), .int ((nI m - (if (nI (gN D 3 f)) < (nI m) then (nI (gN D 3 f)) else (nI m))) * (nI (kT s 9))), .int (nI (kF s f 2))] [] σ 0 0) (show (if (nI (gN D 3 f)) < (nI m) then (nI (gN D 3 f)) else (nI m)) = nI n from (by rw [en]; exact minE rfl rfl (by omega) (by omega)))) ?_
  refine Eq.mpr (congrArg (fun xq : Int32 => At 66 [.ref (60), .int (nI f), .int (nI o), .int (nI m), .int (nI n), .int xq, .int ((if (nI (gN D 3 f)) < (nI m) then (nI (gN D 3 f)) else (nI m)) * (nI (kF s f 5))), .int ((nI m - (if (nI (gN D 3 f)) < (nI m) then (nI (gN D 3 f)) else (nI m))) * (nI (kT s 9))), .int (nI (kF s f 2))] [] σ 0 0) (show nI m - (if (nI (gN D 3 f)) < (nI m) then (nI (gN D 3 f)) else (nI m)) = nI (m - n) from (sbE rfl (by rw [en]; exact minE rfl rfl (by omega) (by omega)) (by omega)))) ?_
  refine Eq.mpr (congrArg (fun xq : Int32 => At 66 [.ref (60), .int (nI f), .int (nI o), .int (nI m), .int (nI n), .int (nI (m - n)), .int xq, .int ((nI m - (if (nI (gN D 3 f)) < (nI m) then (nI (gN D 3 f)) else (nI m))) * (nI (kT s 9))), .int (nI (kF s f 2))] [] σ 0 0) (show (if (nI (gN D 3 f)) < (nI m) then (nI (gN D 3 f)) else (nI m)) * (nI (kF s f 5)) = nI (n * (kF s f 5)) from (mlE (by rw [en]; exact minE rfl rfl (by omega) (by omega)) rfl))) ?_
  refine Eq.mpr (congrArg (fun xq : Int32 => At 66 [.ref (60), .int (nI f), .int (nI o), .int (nI m), .int (nI n), .int (nI (m - n)), .int (nI (n * (kF s f 5))), .int xq, .int (nI (kF s f 2))] [] σ 0 0) (show (nI m - (if (nI (gN D 3 f)) < (nI m) then (nI (gN D 3 f)) else (nI m))) * (nI (kT s 9)) = nI ((m - n) * (kT s 9)) from (mlE (sbE rfl (by rw [en]; exact minE rfl rfl (by omega) (by omega)) (by omega)) rfl))) ?_
  refine hAt 7 _ _ _ _ _ _ ?_
  refine s_Table_add (a := 69) (na := 70) (mo := 12) (wd := 3) rfl (show f < 12 by omega) (show 0 < 3 by omega) ?_
  refine Eq.mpr (congrArg (fun xq : Mem => At 78 [.ref (60), .int (nI f), .int (nI o), .int (nI m), .int (nI n), .int (nI (m - n)), .int (nI (n * (kF s f 5))), .int (nI ((m - n) * (kT s 9))), .int (nI (kF s f 2))] [] xq 0 0) (congrArg (fun z => wI σ 70 (f * 3 + 0) z) (show rI σ 70 (f * 3 + 0) + (-(nI n)) = nI ((gN D 3 f) - n) from (adN (hc.thi f hfl) (by omega))))) ?_
  refine hAt 6 _ _ _ _ _ _ ?_
  refine s_Table_add (a := 69) (na := 70) (mo := 12) (wd := 3) rfl (show f < 12 by omega) (show 1 < 3 by omega) ?_
  refine Eq.mpr (congrArg (fun xq : Mem => At 89 [.ref (60), .int (nI f), .int (nI o), .int (nI m), .int (nI n), .int (nI (m - n)), .int (nI (n * (kF s f 5))), .int (nI ((m - n) * (kT s 9))), .int (nI (kF s f 2))] [] xq 0 0) (congrArg (fun z => wI (wI σ 70 (f * 3 + 0) (nI ((gN D 3 f) - n))) 70 (f * 3 + 1) z) (show rI (wI σ 70 (f * 3 + 0) (nI ((gN D 3 f) - n))) 70 (f * 3 + 1) + (nI (m - n)) = (gD D 1 f) + (nI (m - n)) from (congrArg (fun z => z + (nI (m - n))) (by rw [rI_wI, if_neg (by omega)]; exact (hc.flo f hfl)))))) ?_
  refine hAt 6 _ _ _ _ _ _ ?_
  refine s_Table_add (a := 65) (na := 66) (mo := 8) (wd := 3) rfl (show o < 8 by omega) (show 0 < 3 by omega) ?_
  refine Eq.mpr (congrArg (fun xq : Mem => At 100 [.ref (60), .int (nI f), .int (nI o), .int (nI m), .int (nI n), .int (nI (m - n)), .int (nI (n * (kF s f 5))), .int (nI ((m - n) * (kT s 9))), .int (nI (kF s f 2))] [] xq 0 0) (congrArg (fun z => wI (wI (wI σ 70 (f * 3 + 0) (nI ((gN D 3 f) - n))) 70 (f * 3 + 1) ((gD D 1 f) + (nI (m - n)))) 66 (o * 3 + 0) z) (show rI (wI (wI σ 70 (f * 3 + 0) (nI ((gN D 3 f) - n))) 70 (f * 3 + 1) ((gD D 1 f) + (nI (m - n)))) 66 (o * 3 + 0) + (nI (n * (kF s f 5))) = (gD D 3 o) + (nI (n * (kF s f 5))) from (congrArg (fun z => z + (nI (n * (kF s f 5)))) (by rw [rI_wI, if_neg (by omega), rI_wI, if_neg (by omega)]; exact (hc.acc o 0 ho (by omega))))))) ?_
  refine hAt 6 _ _ _ _ _ _ ?_
  refine s_Table_add (a := 65) (na := 66) (mo := 8) (wd := 3) rfl (show o < 8 by omega) (show 1 < 3 by omega) ?_
  refine Eq.mpr (congrArg (fun xq : Mem => At 111 [.ref (60), .int (nI f), .int (nI o), .int (nI m), .int (nI n), .int (nI (m - n)), .int (nI (n * (kF s f 5))), .int (nI ((m - n) * (kT s 9))), .int (nI (kF s f 2))] [] xq 0 0) (congrArg (fun z => wI (wI (wI (wI σ 70 (f * 3 + 0) (nI ((gN D 3 f) - n))) 70 (f * 3 + 1) ((gD D 1 f) + (nI (m - n)))) 66 (o * 3 + 0) ((gD D 3 o) + (nI (n * (kF s f 5))))) 66 (o * 3 + 1) z) (show rI (wI (wI (wI σ 70 (f * 3 + 0) (nI ((gN D 3 f) - n))) 70 (f * 3 + 1) ((gD D 1 f) + (nI (m - n)))) 66 (o * 3 + 0) ((gD D 3 o) + (nI (n * (kF s f 5))))) 66 (o * 3 + 1) + (nI ((m - n) * (kT s 9))) = (gD D 4 o) + (nI ((m - n) * (kT s 9))) from (congrArg (fun z => z + (nI ((m - n) * (kT s 9)))) (by rw [rI_wI, if_neg (by omega), rI_wI, if_neg (by omega), rI_wI, if_neg (by omega)]; exact (hc.acc o 1 ho (by omega))))))) ?_
  refine hAt 6 _ _ _ _ _ _ ?_
  refine s_Table_add (a := 67) (na := 68) (mo := 7) (wd := 2) rfl (show kF s f 2 < 7 by omega) (show 0 < 2 by omega) ?_
  refine Eq.mpr (congrArg (fun xq : Mem => At 123 [.ref (60), .int (nI f), .int (nI o), .int (nI m), .int (nI n), .int (nI (m - n)), .int (nI (n * (kF s f 5))), .int (nI ((m - n) * (kT s 9))), .int (nI (kF s f 2))] [] xq 0 0) (congrArg (fun z => wI (wI (wI (wI (wI σ 70 (f * 3 + 0) (nI ((gN D 3 f) - n))) 70 (f * 3 + 1) ((gD D 1 f) + (nI (m - n)))) 66 (o * 3 + 0) ((gD D 3 o) + (nI (n * (kF s f 5))))) 66 (o * 3 + 1) ((gD D 4 o) + (nI ((m - n) * (kT s 9))))) 68 ((kF s f 2) * 2 + 0) z) (show rI (wI (wI (wI (wI σ 70 (f * 3 + 0) (nI ((gN D 3 f) - n))) 70 (f * 3 + 1) ((gD D 1 f) + (nI (m - n)))) 66 (o * 3 + 0) ((gD D 3 o) + (nI (n * (kF s f 5))))) 66 (o * 3 + 1) ((gD D 4 o) + (nI ((m - n) * (kT s 9))))) 68 ((kF s f 2) * 2 + 0) + (nI (n * (kF s f 5))) = (gD D 6 (kF s f 2)) + (nI (n * (kF s f 5))) from (congrArg (fun z => z + (nI (n * (kF s f 5)))) (by rw [rI_wI, if_neg (by omega), rI_wI, if_neg (by omega), rI_wI, if_neg (by omega), rI_wI, if_neg (by omega)]; exact (hc.pay _ (by omega))))))) ?_
  refine hAt 6 _ _ _ _ _ _ ?_
  refine s_Table_add (a := 67) (na := 68) (mo := 7) (wd := 2) rfl (show kF s f 2 < 7 by omega) (show 1 < 2 by omega) ?_
  refine Eq.mpr (congrArg (fun xq : Mem => At 135 [.ref (60), .int (nI f), .int (nI o), .int (nI m), .int (nI n), .int (nI (m - n)), .int (nI (n * (kF s f 5))), .int (nI ((m - n) * (kT s 9))), .int (nI (kF s f 2))] [] xq 0 0) (congrArg (fun z => wI (wI (wI (wI (wI (wI σ 70 (f * 3 + 0) (nI ((gN D 3 f) - n))) 70 (f * 3 + 1) ((gD D 1 f) + (nI (m - n)))) 66 (o * 3 + 0) ((gD D 3 o) + (nI (n * (kF s f 5))))) 66 (o * 3 + 1) ((gD D 4 o) + (nI ((m - n) * (kT s 9))))) 68 ((kF s f 2) * 2 + 0) ((gD D 6 (kF s f 2)) + (nI (n * (kF s f 5))))) 68 ((kF s f 2) * 2 + 1) z) (show rI (wI (wI (wI (wI (wI σ 70 (f * 3 + 0) (nI ((gN D 3 f) - n))) 70 (f * 3 + 1) ((gD D 1 f) + (nI (m - n)))) 66 (o * 3 + 0) ((gD D 3 o) + (nI (n * (kF s f 5))))) 66 (o * 3 + 1) ((gD D 4 o) + (nI ((m - n) * (kT s 9))))) 68 ((kF s f 2) * 2 + 0) ((gD D 6 (kF s f 2)) + (nI (n * (kF s f 5))))) 68 ((kF s f 2) * 2 + 1) + (nI ((m - n) * (kT s 9))) = (gD D 7 (kF s f 2)) + (nI ((m - n) * (kT s 9))) from (congrArg (fun z => z + (nI ((m - n) * (kT s 9)))) (by rw [rI_wI, if_neg (by omega), rI_wI, if_neg (by omega), rI_wI, if_neg (by omega), rI_wI, if_neg (by omega), rI_wI, if_neg (by omega)]; exact (hc.owe _ (by omega))))))) ?_
  refine hAt 3 _ _ _ _ _ _ ?_
  refine Eq.mpr (congrArg (fun xq : Int32 => At 140 [.ref (60), .int (nI f), .int (nI o), .int (nI m), .int (nI n), .int (nI (m - n)), .int (nI (n * (kF s f 5))), .int (nI ((m - n) * (kT s 9))), .int (nI (kF s f 2))] [.int xq, .ref (60)] (wI (wI (wI (wI (wI (wI σ 70 (f * 3 + 0) (nI ((gN D 3 f) - n))) 70 (f * 3 + 1) ((gD D 1 f) + (nI (m - n)))) 66 (o * 3 + 0) ((gD D 3 o) + (nI (n * (kF s f 5))))) 66 (o * 3 + 1) ((gD D 4 o) + (nI ((m - n) * (kT s 9))))) 68 ((kF s f 2) * 2 + 0) ((gD D 6 (kF s f 2)) + (nI (n * (kF s f 5))))) 68 ((kF s f 2) * 2 + 1) ((gD D 7 (kF s f 2)) + (nI ((m - n) * (kT s 9))))) 0 0) (show rI (wI (wI (wI (wI (wI (wI σ 70 (f * 3 + 0) (nI ((gN D 3 f) - n))) 70 (f * 3 + 1) ((gD D 1 f) + (nI (m - n)))) 66 (o * 3 + 0) ((gD D 3 o) + (nI (n * (kF s f 5))))) 66 (o * 3 + 1) ((gD D 4 o) + (nI ((m - n) * (kT s 9))))) 68 ((kF s f 2) * 2 + 0) ((gD D 6 (kF s f 2)) + (nI (n * (kF s f 5))))) 68 ((kF s f 2) * 2 + 1) ((gD D 7 (kF s f 2)) + (nI ((m - n) * (kT s 9))))) 60 6 = gD D 0 3 from (by rw [rI_wI, if_neg (by omega), rI_wI, if_neg (by omega), rI_wI, if_neg (by omega), rI_wI, if_neg (by omega), rI_wI, if_neg (by omega), rI_wI, if_neg (by omega)]; exact hc.tak))) ?_
  refine hAt 6 _ _ _ _ _ _ ?_
  refine Eq.mpr (congrArg (fun xq : Int32 => At 151 [.ref (60), .int (nI f), .int (nI o), .int (nI m), .int (nI n), .int (nI (m - n)), .int (nI (n * (kF s f 5))), .int (nI ((m - n) * (kT s 9))), .int (nI (kF s f 2))] [.int xq, .ref (60)] (wI (wI (wI (wI (wI (wI (wI σ 70 (f * 3 + 0) (nI ((gN D 3 f) - n))) 70 (f * 3 + 1) ((gD D 1 f) + (nI (m - n)))) 66 (o * 3 + 0) ((gD D 3 o) + (nI (n * (kF s f 5))))) 66 (o * 3 + 1) ((gD D 4 o) + (nI ((m - n) * (kT s 9))))) 68 ((kF s f 2) * 2 + 0) ((gD D 6 (kF s f 2)) + (nI (n * (kF s f 5))))) 68 ((kF s f 2) * 2 + 1) ((gD D 7 (kF s f 2)) + (nI ((m - n) * (kT s 9))))) 60 6 ((gD D 0 3) + nI n)) 0 0) (show rI (wI (wI (wI (wI (wI (wI (wI σ 70 (f * 3 + 0) (nI ((gN D 3 f) - n))) 70 (f * 3 + 1) ((gD D 1 f) + (nI (m - n)))) 66 (o * 3 + 0) ((gD D 3 o) + (nI (n * (kF s f 5))))) 66 (o * 3 + 1) ((gD D 4 o) + (nI ((m - n) * (kT s 9))))) 68 ((kF s f 2) * 2 + 0) ((gD D 6 (kF s f 2)) + (nI (n * (kF s f 5))))) 68 ((kF s f 2) * 2 + 1) ((gD D 7 (kF s f 2)) + (nI ((m - n) * (kT s 9))))) 60 6 ((gD D 0 3) + nI n)) 60 7 = gD D 0 4 from (by rw [rI_wI, if_neg (by omega), rI_wI, if_neg (by omega), rI_wI, if_neg (by omega), rI_wI, if_neg (by omega), rI_wI, if_neg (by omega), rI_wI, if_neg (by omega), rI_wI, if_neg (by omega)]; exact hc.fld))) ?_
  refine hAt 4 _ _ _ _ _ _ ?_
  refine hP _ ?_
  have h1 : n * kF s f 5 ≤ 7992 * 9 := Nat.mul_le_mul (by omega) b.2.2.2.2.2
  have g1 := ((((((((hc.wthi (v := gN D 3 f - n) hfl hn hF).wflo (v := gD D 1 f + nI (m - n)) hfl hn hF).wacc (v := gD D 3 o + nI (n * kF s f 5)) ho (show 0 < 3 by omega) hn hF).wacc (v := gD D 4 o + nI ((m - n) * kT s 9)) ho (show 1 < 3 by omega) hn hF).wpay (v := gD D 6 (kF s f 2) + nI (n * kF s f 5)) (show kF s f 2 < 7 by omega) hn hF).wowe (v := gD D 7 (kF s f 2) + nI ((m - n) * kT s 9)) (show kF s f 2 < 7 by omega) hn hF).wtak (v := gD D 0 3 + nI n) hn hF).wfld (v := gD D 0 4 + nI (m - n)) hn hF)
  have eq : addD (sN D 3 f (gN D 3 f - n)) (sk1 s f o n (m - n)) = sD (sD (sD (sD (sD (sD (sD (sN D 3 f (gN D 3 f - n)) 1 f (gD D 1 f + nI (m - n))) (3 + 0) o (gD D 3 o + nI (n * kF s f 5))) (3 + 1) o (gD D 4 o + nI ((m - n) * kT s 9))) 6 (kF s f 2) (gD D 6 (kF s f 2) + nI (n * kF s f 5))) 7 (kF s f 2) (gD D 7 (kF s f 2) + nI ((m - n) * kT s 9))) 0 3 (gD D 0 3 + nI n)) 0 4 (gD D 0 4 + nI (m - n)) := by
    obtain ⟨E, hE⟩ : ∃ E, E = sN D 3 f (gN D 3 f - n) := ⟨_, rfl⟩
    have gE : ∀ a b, gD D a b = gD E a b := fun a b => by rw [hE]; rfl
    rw [← hE, gE 1 f, gE 3 o, gE 4 o, gE 6 _, gE 7 _, gE 0 3, gE 0 4]
    have e0 : sD E 1 f (gD E 1 f + nI (m - n)) = addD E (one 1 f (nI (m - n))) := by
      have := sD_addD (D := E) (e := fun _ _ => 0) (t := 1) (i := f) (x := nI (m - n)) rfl
      rw [addD_0 (fun _ _ => rfl)] at this
      rw [this]; exact addD_congr (fun a b => Int32.zero_add _)
    rw [e0, sD_addD (one_z (by omega)), sD_addD (by rw [one_z (by omega), one_z (by omega)]; rfl), sD_addD (by rw [one_z (by omega), one_z (by omega), one_z (by omega)]; rfl),
      sD_addD (by rw [one_z (by omega), one_z (by omega), one_z (by omega), one_z (by omega)]; rfl), sD_addD (by rw [one_z (by omega), one_z (by omega), one_z (by omega), one_z (by omega), one_z (by omega)]; rfl),
      sD_addD (by rw [one_z (by omega), one_z (by omega), one_z (by omega), one_z (by omega), one_z (by omega), one_z (by omega)]; rfl)]
    refine addD_congr (fun a b => ?_)
    unfold sk1
    rw [nI_mul, nI_mul]
    simp only [Int32.add_assoc]
  rw [eq]
  exact g1
end DC6
