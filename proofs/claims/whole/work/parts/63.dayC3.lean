/-! THE DAY on the component's side: joins -/
def jnJ (s : Sk) (D : Dy) (j k : Nat) : Dy := if kT s 5 = 2 then sR D (8 + j) (fun o => gN D (8 + j) o + gN D (8 + k) o) else sR (sN (sN D 1 j (jnO s D j k)) 2 j (jnM s D j k)) (8 + j) (fun o => if o = jnO s D j k then rs D (8 + j) + rs D (8 + k) else 0)
theorem gN_jnJ {s : Sk} {D : Dy} {j k a b : Nat} : gN (jnJ s D j k) a b = if a = 8 + j ∧ b < 8 then (if kT s 5 = 2 then gN D (8 + j) b + gN D (8 + k) b else if b = jnO s D j k then rs D (8 + j) + rs D (8 + k) else 0) else if kT s 5 ≠ 2 ∧ a = 2 ∧ b = j then jnM s D j k else if kT s 5 ≠ 2 ∧ a = 1 ∧ b = j then jnO s D j k else gN D a b := by
  unfold jnJ
  by_cases q : kT s 5 = 2
  · rw [if_pos q, gN_sR]; simp only [ne_eq, q, not_true_eq_false, false_and, if_false, if_true]
  · rw [if_neg q, gN_sR, gN_sN, gN_sN]; simp only [ne_eq, q, not_false_eq_true, true_and, if_false]
theorem djn_J {s : Sk} {D : Dy} {j k : Nat} (hjk : j < k) (hk : k < 8) : djn s D j k = sD (sR (sN (jnJ s D j k) 0 k 0) (8 + k) (fun _ => 0)) 0 2 (gD D 0 2 + nI 1) := by
  refine Dy.ext (fun a b => ?_) (fun a b => ?_)
  · rw [gN_djn, gN_sD, gN_sR, gN_sN, gN_jnJ]
    repeat' split
    all_goals first | rfl | omega
  · unfold djn jnJ jn0
    by_cases q : kT s 5 = 2
    · rw [if_pos q, if_pos q]; rfl
    · rw [if_neg q, if_neg q]; rfl
section DC3
variable {w : Wd} {d : Nat} {σ0 σ : Mem} {s : Sk} {P : Option AV → Mem → Prop} {X : Nat → Mem → Prop}
theorem s_join {D : Dy} {h e j k : Nat} {A : Nat → Prop} {c : Nat} (hS0 : skC σ0 4 s) (hv : VS s) (hd : DVx s A c D) (hc8 : c ≤ 7992) (hc : eC σ0 s e (fun _ => h) D σ) (hjk : j < k) (hk : k < kT s 2) (tj : gN D 0 j = 1) (tk : gN D 0 k = 1) (eT : ∀ i, i < kT s 2 → gN D 0 i = 1 → kC s i 3 < e) (hP : ∀ τ, eC σ0 s e (fun _ => h) (djn s D j k) τ → P none τ) : Ret w true (d + 4) 0 0 m_Day_join [.ref 59, .int (nI j), .int (nI k)] σ P X := by
  have hn := hv.2.2.1
  have hF := hv.2.2.2.1
  have hJ : kT s 5 ≤ 2 := hv.2.2.2.2.2.1
  have hS := hc.sk hS0
  have vj := (hd.1 j (by omega) tj).2
  have vk := (hd.1 k hk tk).2
  have rj : rs D (8 + j) ≤ 7992 := Nat.le_trans (hd.rs_le (by omega) (by omega)) hc8
  have rk : rs D (8 + k) ≤ 7992 := Nat.le_trans (hd.rs_le (by omega) (by omega)) hc8
  have gj : ∀ o, o < 8 → gN D (8 + j) o ≤ 7992 := fun o ho => Nat.le_trans (gN_rs ho) rj
  have gk : ∀ o, o < 8 → gN D (8 + k) o ≤ 7992 := fun o ho => Nat.le_trans (gN_rs ho) rk
  have eT_k : ¬ e ≤ kC s k 3 := by have := eT k hk tk; omega
  obtain ⟨cn, ecn⟩ : ∃ cn, cn = if ltr s D k j = true then k else j := ⟨_, rfl⟩
  have hcn : cn < kT s 2 := by rw [ecn]; by_cases q : ltr s D k j = true <;> simp [q] <;> omega
  have tcn : gN D 0 cn = 1 := by rw [ecn]; by_cases q : ltr s D k j = true <;> simp [q, tj, tk]
  have ocn : gN D 1 cn = jnO s D j k := by rw [ecn]; unfold jnO; by_cases q : ltr s D k j = true <;> simp [q]
  have mcn : gN D 2 cn = jnM s D j k := by rw [ecn]; unfold jnM; by_cases q : ltr s D k j = true <;> simp [q]
  have hO : jnO s D j k < 8 := by rw [← ocn]; have := (hd.1 cn hcn tcn).2.1; omega
  refine meth_ok k_Day_join q_Day_join rfl fun At hAt => ?_
  have fin : ∀ τ, fC σ τ → (∀ a x, ¬ ((a = 76 ∨ a = 78) ∧ x = j) → ¬ (a = 74 ∧ j * 8 ≤ x ∧ x < j * 8 + 8) → rI τ a x = rI σ a x) → rI τ 76 j = nI (gN (jnJ s D j k) 1 j) → rI τ 78 j = nI (gN (jnJ s D j k) 2 j) → (∀ o, o < 8 → rI τ 74 (j * 8 + o) = nI (gN (jnJ s D j k) (8 + j) o)) → ∀ z3 z4 z5, At 78 [.ref 59, .int (nI j), .int (nI k), z3, z4, z5] [] τ 0 0 := by
    intro τ f0 h1 h76 h78 h74 z3 z4 z5
    have fr : fC σ0 τ := ⟨fun a x q => (f0.1 a x q).trans (hc.1.1 a x q), f0.2.trans hc.1.2⟩
    have tJ : ∀ i, gN (jnJ s D j k) 0 i = gN D 0 i := fun i => by
      unfold jnJ
      by_cases q : kT s 5 = 2
      · rw [if_pos q, gR_ne (by omega)]
      · rw [if_neg q, gR_ne (by omega), gN_ne (by omega), gN_ne (by omega)]
    have gDJ : ∀ a b, gD (jnJ s D j k) a b = gD D a b := fun a b => by
      unfold jnJ
      by_cases q : kT s 5 = 2
      · rw [if_pos q]; rfl
      · rw [if_neg q]; rfl
    have cJ : eC σ0 s e (fun _ => h) (jnJ s D j k) τ := by
      refine hc.cl (k := j) fr (fun t i q => ?_) gDJ (fun a x q1 q2 q3 q4 => h1 a x (by omega) q4) (fun i hi hij => by unfold clV; rw [tJ]) ?_ (fun _ => h76) (fun _ => h78) (fun _ => h74) hn hF (by omega)
      · unfold jnJ
        by_cases q5 : kT s 5 = 2
        · rw [if_pos q5, gR_ne (by omega)]
        · rw [if_neg q5, gR_ne (by omega), gN_ne (by omega), gN_ne (by omega)]
      · rw [h1 _ _ (by omega) (by omega), hc.2.1 j (by omega)]; unfold clV; rw [tJ]
    refine hAt 12 _ _ _ _ _ _ ?_
    refine s_Table_emptyRow (a := 73) (na := 74) (mo := 8) (wd := 8) rfl (by omega) ?_
    obtain ⟨τ1, e1⟩ : ∃ τ1, τ1 = uI τ 74 (fun x => if k * 8 ≤ x ∧ x < k * 8 + 8 then nI 0 else rI τ 74 x) := ⟨_, rfl⟩
    rw [← e1]
    have g1 : ∀ a x, rI τ1 a x = if a = 74 then (if k * 8 ≤ x ∧ x < k * 8 + 8 then nI 0 else rI τ 74 x) else rI τ a x := fun a x => by rw [e1, rI_uI]
    refine s_Row_set (a := 71) (na := 72) (n := 8) rfl (show k < 8 by omega) ?_
    refine Eq.mpr (congrArg (fun xq : Int32 => At 100 [.ref (59), .int (nI j), .int (nI k), z3, z4, z5] [.int xq, .ref (59)] (wI τ1 72 k (-1)) 0 0) (show rI (wI τ1 72 k (-1)) 59 10 = gD D 0 2 from (by rw [rI_wI, if_neg (by omega)]; exact ((g1 59 10).trans ((if_neg (by omega)).trans (cJ.joi.trans (gDJ _ _))))))) ?_
    refine hAt 4 _ _ _ _ _ _ ?_
    refine hP _ ?_
    rw [djn_J hjk (by omega)]
    have ck : eC σ0 s e (fun _ => h) (sR (sN (jnJ s D j k) 0 k 0) (8 + k) (fun _ => 0)) (wI τ1 72 k (-1)) := by
      refine cJ.cl (k := k) ⟨fun a x q => ?_, ?_⟩ (fun t i q => ?_) (fun t i => rfl) (fun a x q1 q2 q3 q4 => ?_) (fun i hi hij => ?_) ?_ (fun q => ?_) (fun q => ?_) (fun q => ?_) hn hF (by omega)
      · rw [rI_wI, if_neg (by omega), g1, if_neg (by omega)]; exact fr.1 a x q
      · show τ1.2 = σ0.2
        rw [e1]; exact fr.2
      · rw [gR_ne (by omega), gN_ne (by omega)]
      · rw [rI_wI, if_neg (by omega), g1]
        by_cases q : a = 74
        · rw [if_pos q, if_neg (by omega), q]
        · rw [if_neg q]
      · unfold clV; rw [gR_ne (by omega), gN_ne (by omega)]
      · rw [rI_wI, if_pos ⟨rfl, rfl⟩]; unfold clV; rw [gR_ne (by omega), gN_eq]; rfl
      · rw [gR_ne (by omega), gN_eq] at q; cases q
      · rw [gR_ne (by omega), gN_eq] at q; cases q
      · rw [gR_ne (by omega), gN_eq] at q
        rcases q with q | q
        · cases q
        · exact absurd q eT_k
    exact ck.wjoi hn hF
  have loop : ∀ i, i ≤ 8 → ∀ τ, jnP σ τ j (gN D 1 j) (gN D 2 j) (fun o => if o < i then gN D (8 + j) o + gN D (8 + k) o else gN D (8 + j) o) → At 33 [.ref 59, .int (nI j), .int (nI k), .int (nI (kT s 5)), .int (nI cn), .int (nI i)] [] τ 0 0 := by
    refine upto fun i hi ih => ?_
    intro τ hx
    obtain ⟨h1, h2, h76, h78, h74⟩ := hx
    have hx : jnP σ τ j (gN D 1 j) (gN D 2 j) (fun o => if o < i then gN D (8 + j) o + gN D (8 + k) o else gN D (8 + j) o) := ⟨h1, h2, h76, h78, h74⟩
    have f0 : fC σ τ := ⟨fun a x q => h1 a x (by omega) (by omega), h2⟩
    have ri : i < 8 → rI τ 74 (j * 8 + i) = nI (gN D (8 + j) i) := fun q => by rw [h74 i q]; show nI (if i < i then _ else _) = _; rw [if_neg (by omega)]
    have rk2 : i < 8 → rI τ 74 (k * 8 + i) = nI (gN D (8 + k) i) := fun q => by rw [h1 _ _ (by omega) (by omega)]; exact hc.par k i hk (Or.inl tk) q
    refine hAt 3 _ _ _ _ _ _ ?_
    refine And.intro (fun hq => ?_) (fun hq => ?_)
    · have c37 : 8 ≤ i := (leN (a := 8) (b := i) rfl rfl (by omega) (by omega)).mp hq
      clear hq
      refine hAt 3 _ _ _ _ _ _ ?_
      refine And.intro (fun hq => ?_) (fun hq => ?_)
      · have c68 : kT s 5 = 2 := (eqN (a := kT s 5) (b := 2) rfl rfl (by omega) (by omega)).mp hq
        clear hq
        have e8 : i = 8 := by omega
        refine fin τ f0 h1 ?_ ?_ (fun o ho => ?_) _ _ _
        · unfold jnJ; rw [if_pos c68, gR_ne (by omega)]; exact h76
        · unfold jnJ; rw [if_pos c68, gR_ne (by omega)]; exact h78
        · unfold jnJ; rw [if_pos c68, gR_eq ho, h74 o ho]
          show nI (if o < i then _ else _) = _
          rw [if_pos (by omega)]
      · have c68 : ¬ kT s 5 = 2 := fun zq => hq ((eqN (a := kT s 5) (b := 2) rfl rfl (by omega) (by omega)).mpr zq)
        clear hq
        have e8 : i = 8 := by omega
        have o76 : rI τ 76 cn = nI (jnO s D j k) := by
          rw [← ocn]
          by_cases q : cn = j
          · rw [q]; exact h76
          · rw [h1 _ _ (by omega) (by omega)]; exact hc.own cn hcn tcn
        have o78 : rI τ 78 cn = nI (jnM s D j k) := by
          rw [← mcn]
          by_cases q : cn = j
          · rw [q]; exact h78
          · rw [h1 _ _ (by omega) (by omega)]; exact hc.min cn hcn tcn
        refine hAt 4 _ _ _ _ _ _ ?_
        refine s_giveAll (k := jnO s D j k) (v := jnM s D j k) (by omega) (by omega) hx o76 hO o78 (fun τ2 h2 => ?_)
        have f2 : fC σ τ2 := ⟨fun a x q => h2.1 a x (by omega) (by omega), h2.2.1⟩
        refine fin τ2 f2 h2.1 ?_ ?_ (fun o ho => ?_) _ _ _
        · unfold jnJ; rw [if_neg c68, gR_ne (by omega), gN_ne (by omega), gN_eq]; exact h2.2.2.1
        · unfold jnJ; rw [if_neg c68, gR_ne (by omega), gN_eq]; exact h2.2.2.2.1
        · unfold jnJ; rw [if_neg c68, gR_eq ho, h2.2.2.2.2 o ho]
          show nI (if o = jnO s D j k then sumN _ 8 else 0) = _
          rw [show sumN (fun o => if o < i then gN D (8 + j) o + gN D (8 + k) o else gN D (8 + j) o) 8 = rs D (8 + j) + rs D (8 + k) by
            rw [sumN_congr (g := fun o => gN D (8 + j) o + gN D (8 + k) o) 8 (fun o ho => by rw [if_pos (by omega)]), sumN_add]; rfl]
    · have c37 : i < 8 := Nat.lt_of_not_le (fun zq => hq ((leN (a := 8) (b := i) rfl rfl (by omega) (by omega)).mpr zq))
      clear hq
      refine hAt 9 _ _ _ _ _ _ ?_
      refine s_Table_get (a := 73) (na := 74) (mo := 8) (wd := 8) rfl (show k < 8 by omega) (show i < 8 by omega) ?_
      refine Eq.mpr (congrArg (fun xq : Int32 => At 57 [.ref (59), .int (nI j), .int (nI k), .int (nI (kT s 5)), .int (nI cn), .int (nI i)] [.int xq, .int (nI i), .int (nI j), .ref (73)] τ 0 0) (show rI τ 74 (k * 8 + i) = nI (gN D (8 + k) i) from (rk2 (by omega)))) ?_
      refine hAt 1 _ _ _ _ _ _ ?_
      refine s_Table_add (a := 73) (na := 74) (mo := 8) (wd := 8) rfl (show j < 8 by omega) (show i < 8 by omega) ?_
      refine Eq.mpr (congrArg (fun xq : Mem => At 60 [.ref (59), .int (nI j), .int (nI k), .int (nI (kT s 5)), .int (nI cn), .int (nI i)] [] xq 0 0) (congrArg (fun z => wI τ 74 (j * 8 + i) z) (show rI τ 74 (j * 8 + i) + (nI (gN D (8 + k) i)) = nI (gN D (8 + j) i + (gN D (8 + k) i)) from (adE (ri (by omega)) rfl)))) ?_
      refine hAt 2 _ _ _ _ _ _ ?_
      refine Eq.mpr (congrArg (fun xq : Int32 => At 33 [.ref (59), .int (nI j), .int (nI k), .int (nI (kT s 5)), .int (nI cn), .int xq] [] (wI τ 74 (j * 8 + i) (nI (gN D (8 + j) i + (gN D (8 + k) i)))) 0 0) (show nI i + nI 1 = nI (i + 1) from (adE rfl rfl))) ?_
      refine ih c37 _ ⟨fun a x q1 q2 => ?_, h2, ?_, ?_, fun o ho => ?_⟩
      · rw [rI_wI, if_neg (by omega)]; exact h1 a x q1 q2
      · rw [rI_wI, if_neg (by omega)]; exact h76
      · rw [rI_wI, if_neg (by omega)]; exact h78
      · rw [rI_wI]
        show _ = nI (if o < i + 1 then gN D (8 + j) o + gN D (8 + k) o else gN D (8 + j) o)
        by_cases q : o = i
        · subst q; rw [if_pos ⟨rfl, rfl⟩, if_pos (by omega)]
        · rw [if_neg (by omega), h74 o ho]
          show nI (if o < i then _ else _) = _
          by_cases q2 : o < i
          · rw [if_pos q2, if_pos (by omega)]
          · rw [if_neg q2, if_neg (by omega)]
  refine hAt 7 _ _ _ _ _ _ ?_
  refine s_Sky_fact hS (by omega) ?_
  refine And.intro (fun hq => ?_) (fun hq => ?_)
  · have c10 : ¬ kT s 5 = 0 := fun zq => hq ((eqN (a := kT s 5) (b := 0) rfl rfl (by omega) (by omega)).mpr zq)
    clear hq
    refine hAt 7 _ _ _ _ _ _ ?_
    refine s_fuller hc hn (by omega) hk tj tk rj rk ?_
    rw [show (if rs D (8 + j) < rs D (8 + k) then k else j) = cn by rw [ecn]; unfold ltr; rw [if_neg c10]; simp]
    exact loop 0 (by omega) σ ⟨fun _ _ _ _ => rfl, rfl, hc.own j (by omega) tj, hc.min j (by omega) tj, fun o ho => by show _ = nI (if o < 0 then _ else gN D (8 + j) o); rw [if_neg (by omega)]; exact hc.par j o (by omega) (Or.inl tj) ho⟩
  · have c10 : kT s 5 = 0 := (eqN (a := kT s 5) (b := 0) rfl rfl (by omega) (by omega)).mp hq
    clear hq
    refine hAt 8 _ _ _ _ _ _ ?_
    refine s_earlier hc hn (by omega) hk ⟨tj, vj.2⟩ ⟨tk, vk.2⟩ ?_
    rw [show (if gN D 2 k < gN D 2 j then k else j) = cn by rw [ecn]; unfold ltr; rw [if_pos c10]; simp]
    exact loop 0 (by omega) σ ⟨fun _ _ _ _ => rfl, rfl, hc.own j (by omega) tj, hc.min j (by omega) tj, fun o ho => by show _ = nI (if o < 0 then _ else gN D (8 + j) o); rw [if_neg (by omega)]; exact hc.par j o (by omega) (Or.inl tj) ho⟩
theorem s_joinAll {D : Dy} {h : Nat} (hS0 : skC σ0 4 s) (hv : VS s) (hd : DV s (h + 1) D) (hc : eC σ0 s (h + 1) (fun _ => h) D σ) (hP : ∀ τ, eC σ0 s (h + 1) (fun _ => h) (fld (ja1 s h) D (kT s 2)) τ → P none τ) : Ret w true (d + 5) 0 0 m_Day_joinAll [.ref 59] σ P X := by
  have hn := hv.2.2.1
  have h0 : fld (ja1 s h) D 0 = D := rfl
  have j0 : ja1 s h D 0 = D := by
    unfold ja1
    by_cases q : gN D 0 0 = 1
    · rw [if_pos q]; rfl
    · rw [if_neg q]
  refine meth_ok k_Day_joinAll q_Day_joinAll rfl fun At hAt => ?_
  have loop : ∀ k, k ≤ kT s 2 → ∀ τ z2, eC σ0 s (h + 1) (fun _ => h) (fld (ja1 s h) D k) τ → At 2 [.ref 59, .int (nI k), z2] [] τ 0 0 := by
    refine upto fun k hk ih => ?_
    intro τ z2 hcc
    have hS := hcc.sk hS0
    have hdk := fld_dv (f := ja1 s h) (n := kT s 2) (fun D k hk hd => ja1_dv (h := h) hv hk hd) hd k hk
    have pk1 : ∀ i, i < kT s 2 → gN (fld (ja1 s h) D k) 0 i = 1 → kC s i 3 < h + 1 ∧ ps s i h ≠ none := fun i hi q => by
      have := (hdk.1 i hi q).1
      unfold pA at this
      rw [Nat.add_sub_cancel] at this; exact this
    obtain ⟨E, hE⟩ : ∃ E, E = fld (ja1 s h) D k := ⟨_, rfl⟩
    have nxt : fld (ja1 s h) D (k + 1) = ja1 s h E k := by rw [hE]; rfl
    rw [nxt] at ih
    rw [← hE] at hcc hdk pk1
    refine hAt 5 _ _ _ _ _ _ ?_
    refine s_Table_size (a := 8) (na := 9) (mo := 8) (wd := 7) rfl ?_
    refine Eq.mpr (congrArg (fun xq : Int32 => At 13 [.ref (59), .int (nI k), z2] [.int xq, .int (nI k)] τ 0 0) (show rI τ 8 3 = nI (kT s 2) from hS.2.2.1.1)) ?_
    refine hAt 1 _ _ _ _ _ _ ?_
    refine And.intro (fun hq => ?_) (fun hq => ?_)
    · have c13 : kT s 2 ≤ k := (leN (a := kT s 2) (b := k) rfl rfl (by omega) (by omega)).mp hq
      clear hq
      refine hAt 1 _ _ _ _ _ _ ?_
      have e : k = kT s 2 := by omega
      rw [← e] at hP
      rw [hE] at hcc
      exact hP τ hcc
    · have c13 : k < kT s 2 := Nat.lt_of_not_le (fun zq => hq ((leN (a := kT s 2) (b := k) rfl rfl (by omega) (by omega)).mpr zq))
      clear hq
      refine hAt 4 _ _ _ _ _ _ ?_
      refine s_isThere hv hcc (by omega) (fun z => (pk1 k (by omega) z).2) ?_
      refine And.intro (fun hq => ?_) (fun hq => ?_)
      · have c21 : ¬ (gN E 0 k = 1) := of_decide_eq_false (bI_eq hq)
        clear hq
        refine hAt 5 _ _ _ _ _ _ ?_
        refine And.intro (fun _ => ?_) (fun hq => absurd hq (by decide))
        refine hAt 2 _ _ _ _ _ _ ?_
        refine Eq.mpr (congrArg (fun xq : Int32 => At 2 [.ref (59), .int xq, .int (-1)] [] τ 0 0) (show nI k + nI 1 = nI (k + 1) from (adE rfl rfl))) ?_
        refine ih c13 τ _ ?_
        rw [ja1, if_neg c21]; exact hcc
      · have c21 : gN E 0 k = 1 := of_decide_eq_true (bI_ne hq)
        clear hq
        refine hAt 8 _ _ _ _ _ _ ?_
        refine s_beside hS0 hv hcc (by omega) c21 (pk1 k (by omega) c21).2 ?_
        cases e36 : bes s E h k k with
        | none =>
          refine And.intro (fun _ => ?_) (fun hq => absurd rfl hq)
          refine hAt 2 _ _ _ _ _ _ ?_
          refine Eq.mpr (congrArg (fun xq : Int32 => At 2 [.ref (59), .int xq, .int (oI none)] [] τ 0 0) (show nI k + nI 1 = nI (k + 1) from (adE rfl rfl))) ?_
          refine ih c13 τ _ ?_
          rw [ja1, if_pos c21, e36]; exact hcc
        | some bb36 =>
          have hb := bes_some k bb36 e36
          refine And.intro (fun hq => absurd hq (nI_m1 (by omega))) (fun _ => ?_)
          refine hAt 6 _ _ _ _ _ _ ?_
          refine s_join hS0 hv hdk (cap_le hv (h + 1)) hcc hb.1 (by omega) hb.2.1 c21 (fun i hi q => (pk1 i hi q).1) (fun τ2 hc2 => ?_)
          refine Eq.mpr (congrArg (fun xq : Int32 => At 2 [.ref (59), .int xq, .int (oI (some bb36))] [] τ2 0 0) (show nI k + nI 1 = nI (k + 1) from (adE rfl rfl))) ?_
          refine ih c13 τ2 _ ?_
          rw [ja1, if_pos c21, e36]; exact hc2
  have z0 : kT s 2 = 0 → ∀ z2, At 2 [.ref 59, .int (nI 1), z2] [] σ 0 0 := by
    intro en z2
    have hS := hc.sk hS0
    refine hAt 5 _ _ _ _ _ _ ?_
    refine s_Table_size (a := 8) (na := 9) (mo := 8) (wd := 7) rfl ?_
    refine Eq.mpr (congrArg (fun xq : Int32 => At 13 [.ref (59), .int (nI 1), z2] [.int xq, .int (nI 1)] σ 0 0) (show rI σ 8 3 = nI (kT s 2) from hS.2.2.1.1)) ?_
    refine hAt 1 _ _ _ _ _ _ ?_
    refine And.intro (fun hq => ?_) (fun hq => ?_)
    · have c13 : kT s 2 ≤ 1 := (leN (a := kT s 2) (b := 1) rfl rfl (by omega) (by omega)).mp hq
      clear hq
      refine hAt 1 _ _ _ _ _ _ ?_
      rw [en] at hP
      exact hP σ hc
    · have c13 : 1 < kT s 2 := Nat.lt_of_not_le (fun zq => hq ((leN (a := kT s 2) (b := 1) rfl rfl (by omega) (by omega)).mpr zq))
      clear hq
      exact absurd c13 (by omega)
  refine hAt 2 _ _ _ _ _ _ ?_
  by_cases en : kT s 2 = 0
  · exact z0 en _
  · exact loop 1 (by omega) σ _ (by rw [fld, fld, j0]; exact hc)
end DC3
