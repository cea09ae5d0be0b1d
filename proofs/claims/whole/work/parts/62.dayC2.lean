/-! THE DAY on the component's side: clouds come; who stands beside whom; joins -/
theorem cm1_hi {s : Sk} {h : Nat} {D : Dy} {k t i : Nat} (q : (t ≤ 3 ∧ ¬ (t ≤ 2 ∧ i = k)) ∨ (8 ≤ t ∧ t ≠ 8 + k)) : gN (cm1 s h D k) t i = gN D t i := by
  unfold cm1
  by_cases e : kC s k 3 = h
  · rw [if_pos e, gN_ne (by omega), gN_ne (by omega), gR_ne (by omega), gN_ne (by omega)]
  · rw [if_neg e]
theorem cm1_gD {s : Sk} {h : Nat} {D : Dy} {k t i : Nat} : gD (cm1 s h D k) t i = gD D t i := by
  unfold cm1
  by_cases e : kC s k 3 = h
  · rw [if_pos e, gD_sN, gD_sN, gD_sR, gD_sN]
  · rw [if_neg e]
section DC2
variable {w : Wd} {d : Nat} {σ0 σ : Mem} {s : Sk} {P : Option AV → Mem → Prop} {X : Nat → Mem → Prop}
theorem s_come {h : Nat} {D : Dy} {c : Nat} (hS0 : skC σ0 4 s) (hv : VS s) (hh : h < 50) (hd : DVx s (cmA s h 0) c D) (hc : eC σ0 s h (fun _ => h) D σ) (hP : ∀ τ, eC σ0 s (h + 1) (fun _ => h) (fld (cm1 s h) D (kT s 2)) τ → P none τ) : Ret w true (d + 2) 0 0 m_Day_come [.ref 59, .int (nI h)] σ P X := by
  have hn := hv.2.2.1
  have hF := hv.2.2.2.1
  have s8 := hv.2.2.2.2.2.2.2.2.2.2.2.2.1
  refine meth_ok k_Day_come q_Day_come rfl fun At hAt => ?_
  have loop : ∀ k, k ≤ kT s 2 → ∀ τ, eC σ0 s h (fun _ => h) (fld (cm1 s h) D k) τ → At 2 [.ref 59, .int (nI h), .int (nI k)] [] τ 0 0 := by
    refine upto fun k hk ih => ?_
    intro τ hcc
    have hS := hcc.sk hS0
    have b8 : k < kT s 2 → _ := s8 k
    have hdk := cm_dv (h := h) hv hd k hk
    obtain ⟨E, hE⟩ : ∃ E, E = fld (cm1 s h) D k := ⟨_, rfl⟩
    have nxt : fld (cm1 s h) D (k + 1) = cm1 s h E k := by rw [hE]; rfl
    rw [nxt] at ih
    rw [← hE] at hcc hdk
    refine hAt 5 _ _ _ _ _ _ ?_
    refine s_Table_size (a := 8) (na := 9) (mo := 8) (wd := 7) rfl ?_
    refine Eq.mpr (congrArg (fun xq : Int32 => At 13 [.ref (59), .int (nI h), .int (nI k)] [.int xq, .int (nI k)] τ 0 0) (show rI τ 8 3 = nI (kT s 2) from hS.2.2.1.1)) ?_
    refine hAt 1 _ _ _ _ _ _ ?_
    refine And.intro (fun hq => ?_) (fun hq => ?_)
    · have c13 : kT s 2 ≤ k := (leN (a := kT s 2) (b := k) rfl rfl (by omega) (by omega)).mp hq
      clear hq
      refine hAt 1 _ _ _ _ _ _ ?_
      have e : k = kT s 2 := by omega
      rw [← e] at hP
      rw [hE] at hcc
      exact hP τ (hcc.h1 (by omega))
    · have c13 : k < kT s 2 := Nat.lt_of_not_le (fun zq => hq ((leN (a := kT s 2) (b := k) rfl rfl (by omega) (by omega)).mpr zq))
      clear hq
      have b8 := b8 c13
      refine hAt 6 _ _ _ _ _ _ ?_
      refine s_Table_get (a := 8) (na := 9) (mo := 8) (wd := 7) rfl (show k < 8 by omega) (show 3 < 7 by omega) ?_
      refine Eq.mpr (congrArg (fun xq : Int32 => At 28 [.ref (59), .int (nI h), .int (nI k)] [.int xq] τ 0 0) (show rI τ 9 (k * 7 + 3) = nI (kC s k 3) from (hS.2.2.1.2 k (by omega) 3 (by omega)))) ?_
      refine hAt 2 _ _ _ _ _ _ ?_
      refine And.intro (fun hq => ?_) (fun hq => ?_)
      · have c29 : ¬ kC s k 3 = h := fun zq => hq ((eqN (a := kC s k 3) (b := h) rfl rfl (by omega) (by omega)).mpr zq)
        clear hq
        refine hAt 2 _ _ _ _ _ _ ?_
        refine Eq.mpr (congrArg (fun xq : Int32 => At 2 [.ref (59), .int (nI h), .int xq] [] τ 0 0) (show nI k + nI 1 = nI (k + 1) from (adE rfl rfl))) ?_
        refine ih c13 τ ?_
        rw [cm1, if_neg c29]; exact hcc
      · have c29 : kC s k 3 = h := (eqN (a := kC s k 3) (b := h) rfl rfl (by omega) (by omega)).mp hq
        clear hq
        refine hAt 9 _ _ _ _ _ _ ?_
        refine s_Table_get (a := 14) (na := 15) (mo := 8) (wd := 50) rfl (show k < 8 by omega) (show h < 50 by omega) ?_
        refine Eq.mpr (congrArg (fun xq : Int32 => At 49 [.ref (59), .int (nI h), .int (nI k)] [.int xq, .int (nI k), .ref (71)] τ 0 0) (show rI τ 15 (k * 50 + h) = tr s k h from (hS.2.2.2.2.2 k (by omega) h hh))) ?_
        refine hAt 10 _ _ _ _ _ _ ?_
        refine s_Row_set (a := 71) (na := 72) (n := 8) rfl (show k < 8 by omega) ?_
        refine s_Table_get (a := 8) (na := 9) (mo := 8) (wd := 7) rfl (show k < 8 by omega) (show 5 < 7 by omega) ?_
        refine Eq.mpr (congrArg (fun xq : Int32 => At 69 [.ref (59), .int (nI h), .int (nI k)] [.int xq, .int (nI k), .ref (73)] (wI τ 72 k (tr s k h)) 0 0) (show rI (wI τ 72 k (tr s k h)) 9 (k * 7 + 5) = nI (kC s k 5) from (by rw [rI_wI, if_neg (by omega)]; exact (hS.2.2.1.2 k (by omega) 5 (by omega))))) ?_
        refine hAt 6 _ _ _ _ _ _ ?_
        refine s_Table_get (a := 8) (na := 9) (mo := 8) (wd := 7) rfl (show k < 8 by omega) (show 4 < 7 by omega) ?_
        refine Eq.mpr (congrArg (fun xq : Int32 => At 81 [.ref (59), .int (nI h), .int (nI k)] [.int xq, .int (nI (kC s k 5)), .int (nI k), .ref (73)] (wI τ 72 k (tr s k h)) 0 0) (show rI (wI τ 72 k (tr s k h)) 9 (k * 7 + 4) = nI (kC s k 4) from (by rw [rI_wI, if_neg (by omega)]; exact (hS.2.2.1.2 k (by omega) 4 (by omega))))) ?_
        refine hAt 10 _ _ _ _ _ _ ?_
        refine s_Table_set (a := 73) (na := 74) (mo := 8) (wd := 8) rfl (show k < 8 by omega) (show kC s k 5 < 8 by omega) ?_
        refine s_Table_get (a := 8) (na := 9) (mo := 8) (wd := 7) rfl (show k < 8 by omega) (show 5 < 7 by omega) ?_
        refine Eq.mpr (congrArg (fun xq : Int32 => At 101 [.ref (59), .int (nI h), .int (nI k)] [.int xq, .int (nI k), .ref (75)] (wI (wI τ 72 k (tr s k h)) 74 (k * 8 + (kC s k 5)) (nI (kC s k 4))) 0 0) (show rI (wI (wI τ 72 k (tr s k h)) 74 (k * 8 + (kC s k 5)) (nI (kC s k 4))) 9 (k * 7 + 5) = nI (kC s k 5) from (by rw [rI_wI, if_neg (by omega), rI_wI, if_neg (by omega)]; exact (hS.2.2.1.2 k (by omega) 5 (by omega))))) ?_
        refine hAt 10 _ _ _ _ _ _ ?_
        refine s_Row_set (a := 75) (na := 76) (n := 8) rfl (show k < 8 by omega) ?_
        refine s_Table_get (a := 8) (na := 9) (mo := 8) (wd := 7) rfl (show k < 8 by omega) (show 6 < 7 by omega) ?_
        refine Eq.mpr (congrArg (fun xq : Int32 => At 122 [.ref (59), .int (nI h), .int (nI k)] [.int xq, .int (nI k), .ref (77)] (wI (wI (wI τ 72 k (tr s k h)) 74 (k * 8 + (kC s k 5)) (nI (kC s k 4))) 76 k (nI (kC s k 5))) 0 0) (show rI (wI (wI (wI τ 72 k (tr s k h)) 74 (k * 8 + (kC s k 5)) (nI (kC s k 4))) 76 k (nI (kC s k 5))) 9 (k * 7 + 6) = nI (kC s k 6) from (by rw [rI_wI, if_neg (by omega), rI_wI, if_neg (by omega), rI_wI, if_neg (by omega)]; exact (hS.2.2.1.2 k (by omega) 6 (by omega))))) ?_
        refine hAt 3 _ _ _ _ _ _ ?_
        refine s_Row_set (a := 77) (na := 78) (n := 8) rfl (show k < 8 by omega) ?_
        refine Eq.mpr (congrArg (fun xq : Int32 => At 2 [.ref (59), .int (nI h), .int xq] [] (wI (wI (wI (wI τ 72 k (tr s k h)) 74 (k * 8 + (kC s k 5)) (nI (kC s k 4))) 76 k (nI (kC s k 5))) 78 k (nI (kC s k 6))) 0 0) (show nI k + nI 1 = nI (k + 1) from (adE rfl rfl))) ?_
        refine ih c13 _ ?_
        have hno : gN E 0 k ≠ 1 := fun z => by have := (hdk.1 k c13 z).1.1; omega
        have t0 : gN (cm1 s h E k) 0 k = 1 := by rw [cm1, if_pos c29, gN_ne (by omega), gN_ne (by omega), gR_ne (by omega), gN_eq]
        refine hcc.cl (k := k) ⟨fun a j ha => ?_, hcc.1.2⟩ (fun t i q => cm1_hi (by omega)) (fun t i => cm1_gD) (fun a j _ _ g1 g2 => ?_) (fun i hi hik => ?_) ?_ (fun _ => ?_) (fun _ => ?_) (fun _ o ho => ?_) hn hF (by omega)
        · rw [rI_wI, if_neg (by omega), rI_wI, if_neg (by omega), rI_wI, if_neg (by omega), rI_wI, if_neg (by omega)]; exact hcc.1.1 a j ha
        · rw [rI_wI, if_neg (by omega), rI_wI, if_neg (by omega), rI_wI, if_neg (by omega), rI_wI, if_neg (by omega)]
        · unfold clV; rw [cm1_hi (by omega)]
        · rw [rI_wI, if_neg (by omega), rI_wI, if_neg (by omega), rI_wI, if_neg (by omega), rI_wI, if_pos ⟨rfl, rfl⟩]; unfold clV; rw [if_pos t0]
        · rw [rI_wI, if_neg (by omega), rI_wI, if_pos ⟨rfl, rfl⟩, cm1, if_pos c29, gN_ne (by omega), gN_eq]
        · rw [rI_wI, if_pos ⟨rfl, rfl⟩, cm1, if_pos c29, gN_eq]
        · rw [rI_wI, if_neg (by omega), rI_wI, if_neg (by omega), cm1, if_pos c29, gN_ne (by omega), gN_ne (by omega), gR_eq ho, rI_wI]
          by_cases e : o = kC s k 5
          · rw [if_pos ⟨rfl, by rw [e]⟩, if_pos e]
          · rw [if_neg (by omega), if_neg e, rI_wI, if_neg (by omega), hcc.par k o c13 (Or.inr (by omega)) ho, hdk.2.1 k c13 hno o ho]
  refine hAt 2 _ _ _ _ _ _ ?_
  exact loop 0 (by omega) σ hc
theorem cl_eq {D : Dy} {h j k : Nat} (hv : VS s) (hj : j < kT s 2) (hk : k < kT s 2) (tk : gN D 0 k = 1) (pk : ps s k h ≠ none) : clV s D (fun _ => h) j = clV s D (fun _ => h) k ↔ gN D 0 j = 1 ∧ ps s j h = ps s k h := by
  have s1 := hv.1
  have s2 := hv.2.1
  unfold clV
  rw [if_pos tk]
  by_cases q : gN D 0 j = 1
  · rw [if_pos q]
    cases e : ps s k h with
    | none => exact absurd e pk
    | some z =>
      have hz := ps_in hv hk h z e
      have : tr s k h = nI (8 * z.2 + z.1) := by unfold tr; rw [e]
      rw [this, tr_eq hv hj (by omega) (by omega)]
      exact ⟨fun y => ⟨q, y⟩, fun y => y.2⟩
  · rw [if_neg q]
    constructor
    · exact fun z => absurd ((tr_m1 hv hk).mp z.symm) pk
    · exact fun z => absurd z.1 q
theorem s_beside {D : Dy} {h e k : Nat} (hS0 : skC σ0 4 s) (hv : VS s) (hc : eC σ0 s e (fun _ => h) D σ) (hk : k < kT s 2) (tk : gN D 0 k = 1) (pk : ps s k h ≠ none) (hP : P (some (.int (oI (bes s D h k k)))) σ) : Ret w true (d + 2) 0 0 m_Day_firstBeside [.ref 59, .int (nI k)] σ P X := by
  have hn := hv.2.2.1
  have s8 := hv.2.2.2.2.2.2.2.2.2.2.2.2.1
  have hS := hc.sk hS0
  have bk := s8 k hk
  refine meth_ok k_Day_firstBeside q_Day_firstBeside rfl fun At hAt => ?_
  have loop : ∀ j, j ≤ k → bes s D h k j = none → ∀ z3, At 2 [.ref 59, .int (nI k), .int (nI j), z3] [] σ 0 0 := by
    refine upto fun j hj ih => ?_
    intro hno z3
    have step : j < k → besP s D h k j = false → bes s D h k (j + 1) = none := fun _ q => by rw [bes, hno]; simp only [q]; rfl
    have hit : j < k → besP s D h k j = true → bes s D h k k = some j := fun hjk q => by
      have aux : ∀ m, bes s D h k (j + 1 + m) = some j := by
        intro m
        induction m with
        | zero => show bes s D h k (j + 1) = some j; rw [bes, hno]; simp only [q, if_true]
        | succ m im => show bes s D h k ((j + 1 + m) + 1) = some j; rw [bes, im]
      have := aux (k - (j + 1))
      rw [show j + 1 + (k - (j + 1)) = k by omega] at this
      exact this
    refine hAt 3 _ _ _ _ _ _ ?_
    refine And.intro (fun hq => ?_) (fun hq => ?_)
    · have c4 : k ≤ j := (leN (a := k) (b := j) rfl rfl (by omega) (by omega)).mp hq
      clear hq
      refine hAt 2 _ _ _ _ _ _ ?_
      have e2 : j = k := by omega
      subst e2
      rw [hno] at hP
      exact hP
    · have c4 : j < k := Nat.lt_of_not_le (fun zq => hq ((leN (a := k) (b := j) rfl rfl (by omega) (by omega)).mpr zq))
      clear hq
      have bj := s8 j (by omega)
      refine hAt 6 _ _ _ _ _ _ ?_
      refine s_Table_get (a := 8) (na := 9) (mo := 8) (wd := 7) rfl (show j < 8 by omega) (show 2 < 7 by omega) ?_
      refine Eq.mpr (congrArg (fun xq : Int32 => At 19 [.ref (59), .int (nI k), .int (nI j), z3] [.int xq] σ 0 0) (show rI σ 9 (j * 7 + 2) = nI (kC s j 2) from (hS.2.2.1.2 j (by omega) 2 (by omega)))) ?_
      refine hAt 6 _ _ _ _ _ _ ?_
      refine s_Table_get (a := 8) (na := 9) (mo := 8) (wd := 7) rfl (show k < 8 by omega) (show 2 < 7 by omega) ?_
      refine Eq.mpr (congrArg (fun xq : Int32 => At 31 [.ref (59), .int (nI k), .int (nI j), z3] [.int xq, .int (nI (kC s j 2))] σ 0 0) (show rI σ 9 (k * 7 + 2) = nI (kC s k 2) from (hS.2.2.1.2 k (by omega) 2 (by omega)))) ?_
      refine hAt 1 _ _ _ _ _ _ ?_
      refine And.intro (fun hq => ?_) (fun hq => ?_)
      · have c31 : ¬ kC s j 2 = kC s k 2 := fun zq => hq ((eqN (a := kC s j 2) (b := kC s k 2) rfl rfl (by omega) (by omega)).mpr zq)
        clear hq
        refine hAt 4 _ _ _ _ _ _ ?_
        refine And.intro (fun _ => ?_) (fun hq => absurd hq (by decide))
        refine hAt 2 _ _ _ _ _ _ ?_
        refine Eq.mpr (congrArg (fun xq : Int32 => At 2 [.ref (59), .int (nI k), .int xq, .int (nI 0)] [] σ 0 0) (show nI j + nI 1 = nI (j + 1) from (adE rfl rfl))) ?_
        exact ih c4 (step c4 (decide_eq_false (fun z => c31 z.2.1))) _
      · have c31 : kC s j 2 = kC s k 2 := (eqN (a := kC s j 2) (b := kC s k 2) rfl rfl (by omega) (by omega)).mp hq
        clear hq
        refine hAt 5 _ _ _ _ _ _ ?_
        refine And.intro (fun hq => absurd hq (by decide)) (fun _ => ?_)
        refine hAt 4 _ _ _ _ _ _ ?_
        refine s_Row_get (a := 71) (na := 72) (n := 8) rfl (show j < 8 by omega) ?_
        refine Eq.mpr (congrArg (fun xq : Int32 => At 52 [.ref (59), .int (nI k), .int (nI j), .int (nI 1)] [.int xq] σ 0 0) (show rI σ 72 j = clV s D (fun _ => h) j from (hc.2.1 j (by omega)))) ?_
        refine hAt 4 _ _ _ _ _ _ ?_
        refine s_Row_get (a := 71) (na := 72) (n := 8) rfl (show k < 8 by omega) ?_
        refine Eq.mpr (congrArg (fun xq : Int32 => At 60 [.ref (59), .int (nI k), .int (nI j), .int (nI 1)] [.int xq, .int (clV s D (fun _ => h) j)] σ 0 0) (show rI σ 72 k = clV s D (fun _ => h) k from (hc.2.1 k (by omega)))) ?_
        refine hAt 1 _ _ _ _ _ _ ?_
        refine And.intro (fun hq => ?_) (fun hq => ?_)
        · have c60 : ¬ clV s D (fun _ => h) j = clV s D (fun _ => h) k := hq
          clear hq
          refine hAt 2 _ _ _ _ _ _ ?_
          refine Eq.mpr (congrArg (fun xq : Int32 => At 2 [.ref (59), .int (nI k), .int xq, .int (nI 1)] [] σ 0 0) (show nI j + nI 1 = nI (j + 1) from (adE rfl rfl))) ?_
          exact ih c4 (step c4 (decide_eq_false (fun z => c60 ((cl_eq hv (by omega) hk tk pk).mpr ⟨z.1, z.2.2⟩)))) _
        · have c60 : clV s D (fun _ => h) j = clV s D (fun _ => h) k := hq
          clear hq
          refine hAt 2 _ _ _ _ _ _ ?_
          have q := (cl_eq hv (by omega) hk tk pk).mp c60
          rw [hit c4 (decide_eq_true ⟨q.1, c31, q.2⟩)] at hP
          exact hP
  refine hAt 2 _ _ _ _ _ _ ?_
  exact loop 0 (by omega) rfl _
theorem s_earlier {D : Dy} {e j k : Nat} {hf : Nat → Nat} (hc : eC σ0 s e hf D σ) (hn : kT s 2 ≤ 8) (hj : j < kT s 2) (hk : k < kT s 2) (tj : gN D 0 j = 1 ∧ gN D 2 j ≤ 1000) (tk : gN D 0 k = 1 ∧ gN D 2 k ≤ 1000) (hP : P (some (.int (nI (if gN D 2 k < gN D 2 j then k else j)))) σ) : Ret w true (d + 2) 0 0 m_Day_earlier [.ref 59, .int (nI j), .int (nI k)] σ P X := by
  have rj := hc.min j hj tj.1
  have rk := hc.min k hk tk.1
  refine meth_ok k_Day_earlier q_Day_earlier rfl fun At hAt => ?_
  refine hAt 4 _ _ _ _ _ _ ?_
  refine s_Row_get (a := 77) (na := 78) (n := 8) rfl (show k < 8 by omega) ?_
  refine Eq.mpr (congrArg (fun xq : Int32 => At 8 [.ref (59), .int (nI j), .int (nI k)] [.int xq] σ 0 0) (show rI σ 78 k = nI (gN D 2 k) from rk)) ?_
  refine hAt 4 _ _ _ _ _ _ ?_
  refine s_Row_get (a := 77) (na := 78) (n := 8) rfl (show j < 8 by omega) ?_
  refine Eq.mpr (congrArg (fun xq : Int32 => At 16 [.ref (59), .int (nI j), .int (nI k)] [.int xq, .int (nI (gN D 2 k))] σ 0 0) (show rI σ 78 j = nI (gN D 2 j) from rj)) ?_
  refine hAt 1 _ _ _ _ _ _ ?_
  refine And.intro (fun hq => ?_) (fun hq => ?_)
  · have c16 : gN D 2 j ≤ gN D 2 k := (leN (a := gN D 2 j) (b := gN D 2 k) rfl rfl (by omega) (by omega)).mp hq
    clear hq
    refine hAt 2 _ _ _ _ _ _ ?_
    rw [if_neg (by omega)] at hP; exact hP
  · have c16 : gN D 2 k < gN D 2 j := Nat.lt_of_not_le (fun zq => hq ((leN (a := gN D 2 j) (b := gN D 2 k) rfl rfl (by omega) (by omega)).mpr zq))
    clear hq
    refine hAt 3 _ _ _ _ _ _ ?_
    rw [if_pos (by omega)] at hP; exact hP
theorem s_fuller {D : Dy} {e j k : Nat} {hf : Nat → Nat} (hc : eC σ0 s e hf D σ) (hn : kT s 2 ≤ 8) (hj : j < kT s 2) (hk : k < kT s 2) (tj : gN D 0 j = 1) (tk : gN D 0 k = 1) (rj : rs D (8 + j) ≤ 7992) (rk : rs D (8 + k) ≤ 7992) (hP : P (some (.int (nI (if rs D (8 + j) < rs D (8 + k) then k else j)))) σ) : Ret w true (d + 3) 0 0 m_Day_fuller [.ref 59, .int (nI j), .int (nI k)] σ P X := by
  refine meth_ok k_Day_fuller q_Day_fuller rfl fun At hAt => ?_
  refine hAt 9 _ _ _ _ _ _ ?_
  refine s_psum hc hn hk tk ?_
  refine s_psum hc hn hj tj ?_
  refine And.intro (fun hq => ?_) (fun hq => ?_)
  · have c16 : rs D (8 + k) ≤ rs D (8 + j) := (leN (a := rs D (8 + k)) (b := rs D (8 + j)) rfl rfl (by omega) (by omega)).mp hq
    clear hq
    refine hAt 2 _ _ _ _ _ _ ?_
    rw [if_neg (by omega)] at hP; exact hP
  · have c16 : rs D (8 + j) < rs D (8 + k) := Nat.lt_of_not_le (fun zq => hq ((leN (a := rs D (8 + k)) (b := rs D (8 + j)) rfl rfl (by omega) (by omega)).mpr zq))
    clear hq
    refine hAt 3 _ _ _ _ _ _ ?_
    rw [if_pos (by omega)] at hP; exact hP
/-- what a memory is like where cloud j has taken in k: all but 72 k, joins -/
def jnP (σ τ : Mem) (j : Nat) (ow mi : Nat) (f : Nat → Nat) : Prop :=
  (∀ a x, ¬ ((a = 76 ∨ a = 78) ∧ x = j) → ¬ (a = 74 ∧ j * 8 ≤ x ∧ x < j * 8 + 8) → rI τ a x = rI σ a x) ∧ τ.2 = σ.2 ∧ rI τ 76 j = nI ow ∧ rI τ 78 j = nI mi ∧ ∀ o, o < 8 → rI τ 74 (j * 8 + o) = nI (f o)
theorem s_giveAll {j k c : Nat} {τ : Mem} {ow mi : Nat} {f : Nat → Nat} (hj : j < 8) (hk : c < 8) (h1 : jnP σ τ j ow mi f) (ho : rI τ 76 c = nI k) (hk8 : k < 8) {v : Nat} (hm : rI τ 78 c = nI v) (hP : ∀ τ', jnP σ τ' j k v (fun o => if o = k then sumN f 8 else 0) → P none τ') : Ret w true (d + 3) 0 0 m_Day_giveAll [.ref 59, .int (nI j), .int (nI c)] τ P X := by
  refine meth_ok k_Day_giveAll q_Day_giveAll rfl fun At hAt => ?_
  refine hAt 4 _ _ _ _ _ _ ?_
  refine s_Row_get (a := 75) (na := 76) (n := 8) rfl (show c < 8 by omega) ?_
  refine Eq.mpr (congrArg (fun xq : Int32 => At 8 [.ref (59), .int (nI j), .int (nI c), junk, junk] [.int xq] τ 0 0) (show rI τ 76 c = nI k from ho)) ?_
  refine hAt 28 _ _ _ _ _ _ ?_
  refine s_Table_sum (a := 73) (na := 74) (mo := 8) (wd := 8) rfl (by omega) ?_
  rw [sI_rs (g := f) 8 (fun o ho => h1.2.2.2.2 o ho)]
  refine s_Table_emptyRow (a := 73) (na := 74) (mo := 8) (wd := 8) rfl (by omega) ?_
  obtain ⟨τ1, e1⟩ : ∃ τ1, τ1 = uI τ 74 (fun x => if j * 8 ≤ x ∧ x < j * 8 + 8 then nI 0 else rI τ 74 x) := ⟨_, rfl⟩
  rw [← e1]
  have g1 : ∀ a x, rI τ1 a x = if a = 74 then (if j * 8 ≤ x ∧ x < j * 8 + 8 then nI 0 else rI τ 74 x) else rI τ a x := fun a x => by rw [e1, rI_uI]
  refine s_Table_set (a := 73) (na := 74) (mo := 8) (wd := 8) rfl (show j < 8 by omega) (show k < 8 by omega) ?_
  refine s_Row_set (a := 75) (na := 76) (n := 8) rfl (show j < 8 by omega) ?_
  refine s_Row_get (a := 77) (na := 78) (n := 8) rfl (show c < 8 by omega) ?_
  refine Eq.mpr (congrArg (fun xq : Int32 => At 60 [.ref (59), .int (nI j), .int (nI c), .int (nI k), .int (nI (sumN f 8))] [.int xq, .int (nI j), .ref (77)] (wI (wI τ1 74 (j * 8 + k) (nI (sumN f 8))) 76 j (nI k)) 0 0) (show rI (wI (wI τ1 74 (j * 8 + k) (nI (sumN f 8))) 76 j (nI k)) 78 c = nI v from (by rw [rI_wI, if_neg (by omega), rI_wI, if_neg (by omega)]; exact ((g1 _ _).trans hm)))) ?_
  refine hAt 2 _ _ _ _ _ _ ?_
  refine s_Row_set (a := 77) (na := 78) (n := 8) rfl (show j < 8 by omega) ?_
  refine hP _ ⟨fun a x q1 q2 => ?_, ?_, ?_, ?_, fun o ho => ?_⟩
  · rw [rI_wI, if_neg (by omega), rI_wI, if_neg (by omega), rI_wI, if_neg (by omega), g1]
    by_cases e : a = 74
    · rw [if_pos e, if_neg (by omega), e]; exact h1.1 74 x (by omega) (by omega)
    · rw [if_neg e]; exact h1.1 a x q1 q2
  · show τ1.2 = σ.2
    rw [e1]; exact h1.2.1
  · rw [rI_wI, if_neg (by omega), rI_wI, if_pos ⟨rfl, rfl⟩]
  · rw [rI_wI, if_pos ⟨rfl, rfl⟩]
  · rw [rI_wI, if_neg (by omega), rI_wI, if_neg (by omega), rI_wI]
    show _ = nI (if o = k then sumN f 8 else 0)
    by_cases e : o = k
    · rw [if_pos ⟨rfl, by rw [e]⟩, if_pos e]
    · rw [if_neg (by omega), if_neg e, g1, if_pos rfl, if_pos (by omega)]
end DC2
