/-! READING A WORD; the end of a clause -/
theorem chL : ∀ t, t < 16 → (ow_ch t).length ≤ 50 := by decide
theorem chG : ∀ t, t < 16 → ∀ k, k < 50 → (ow_ch t).getD k 0 ≤ 127 := by decide
theorem wT_lt : ∀ k, k < 11 → wT k < 16 := by decide
theorem wT_1 : ∀ k, k < 11 → 1 ≤ wT k := by decide
theorem lt_eq {b : By} {i m : Nat} {l : List Nat} : ltA b i m = l ↔ m = l.length ∧ ∀ j, j < m → b (i + j) = l.getD j 0 := by
  unfold ltA
  constructor
  · intro h
    subst h
    refine ⟨by simp, fun j hj => ?_⟩
    simp [List.getD_eq_getElem?_getD, hj]
  · rintro ⟨h1, h2⟩
    refine List.ext_getElem (by simp [h1]) fun j h3 h4 => ?_
    have h5 : j < m := by simpa using h3
    rw [List.getElem_map, List.getElem_range, h2 j h5]
    simp [List.getD_eq_getElem?_getD, h4]
section RDD
variable {w : Wd} {d : Nat} {σ : Mem} {b : By} {n : Nat} {P : Option AV → Mem → Prop} {X : Nat → Mem → Prop}
theorem s_wordAt {k : Nat} (hk : k < 11) (hP : P (some (.float (UInt32.ofNat (wT k)))) σ) : Ret w true (d + 1) 0 0 m_SkyReader_wordAt [.int (nI k)] σ P X := by
  refine meth_ok k_SkyReader_wordAt q_SkyReader_wordAt rfl fun At hAt => ?_
  refine hAt 2 _ _ _ _ _ _ ?_
  refine And.intro (And.intro (fun hq => ?_) (And.intro (fun hq => ?_) (And.intro (fun hq => ?_) (And.intro (fun hq => ?_) (And.intro (fun hq => ?_) (And.intro (fun hq => ?_) (And.intro (fun hq => ?_) (And.intro (fun hq => ?_) (And.intro (fun hq => ?_) (And.intro (fun hq => ?_) (trivial))))))))))) (fun hq => ?_)
  · have c1 : k = 0 := (eqN rfl rfl (by omega) (by omega)).mp hq
    clear hq
    refine hAt 2 _ _ _ _ _ _ ?_
    subst c1
    exact hP
  · have c1 : k = 1 := (eqN rfl rfl (by omega) (by omega)).mp hq
    clear hq
    refine hAt 2 _ _ _ _ _ _ ?_
    subst c1
    exact hP
  · have c1 : k = 2 := (eqN rfl rfl (by omega) (by omega)).mp hq
    clear hq
    refine hAt 2 _ _ _ _ _ _ ?_
    subst c1
    exact hP
  · have c1 : k = 3 := (eqN rfl rfl (by omega) (by omega)).mp hq
    clear hq
    refine hAt 2 _ _ _ _ _ _ ?_
    subst c1
    exact hP
  · have c1 : k = 4 := (eqN rfl rfl (by omega) (by omega)).mp hq
    clear hq
    refine hAt 2 _ _ _ _ _ _ ?_
    subst c1
    exact hP
  · have c1 : k = 5 := (eqN rfl rfl (by omega) (by omega)).mp hq
    clear hq
    refine hAt 2 _ _ _ _ _ _ ?_
    subst c1
    exact hP
  · have c1 : k = 6 := (eqN rfl rfl (by omega) (by omega)).mp hq
    clear hq
    refine hAt 2 _ _ _ _ _ _ ?_
    subst c1
    exact hP
  · have c1 : k = 7 := (eqN rfl rfl (by omega) (by omega)).mp hq
    clear hq
    refine hAt 2 _ _ _ _ _ _ ?_
    subst c1
    exact hP
  · have c1 : k = 8 := (eqN rfl rfl (by omega) (by omega)).mp hq
    clear hq
    refine hAt 2 _ _ _ _ _ _ ?_
    subst c1
    exact hP
  · have c1 : k = 9 := (eqN rfl rfl (by omega) (by omega)).mp hq
    clear hq
    refine hAt 2 _ _ _ _ _ _ ?_
    subst c1
    exact hP
  · have c1 : k < 0 ∨ 10 ≤ k := hq.imp (fun z => (ltN rfl rfl (by omega) (by omega)).mp z) (fun z => (leN rfl rfl (by omega) (by omega)).mp z)
    clear hq
    refine hAt 2 _ _ _ _ _ _ ?_
    have e : k = 10 := by omega
    subst e
    exact hP
theorem s_isSpelt {t i a : Nat} {uc : UInt32} (hu : uc.toNat = t) (ht1 : 1 ≤ t) (ht : t < 16) (hn : n ≤ 600) (hb : ∀ j, j < n → b j < 256) (hB : rdB b n σ) (h3 : rI σ 16 3 = nI a) (ha : a ≤ n) (hi : i ≤ a) (hP : P (some (.int (bI (decide (ltA b i (a - i) = ow_ch t))))) σ) : Ret w true (d + 5) 0 0 m_SkyReader_isSpelt [.ref 16, .float uc, .int (nI i)] σ P X := by
  have ht2 : t < 100 := by omega
  have hL := chL t ht
  refine meth_gen q_SkyReader_isSpelt rfl sp_isSpelt fun At hAt => ?_
  have no : ¬ ltA b i (a - i) = ow_ch t → P (some (.int (nI 0))) σ := fun q => by rw [decide_eq_false q] at hP; exact hP
  have yes : ltA b i (a - i) = ow_ch t → P (some (.int (nI 1))) σ := fun q => by rw [decide_eq_true q] at hP; exact hP
  have loop : a - i = (ow_ch t).length → ∀ k, k ≤ (ow_ch t).length → (∀ j, j < k → b (i + j) = (ow_ch t).getD j 0) → At 17 [.ref 16, .float uc, .int (nI i), .int (nI k)] [] σ 0 0 := by
    intro hl
    refine upto fun k hk ih => ?_
    intro hj
    refine hAt 3 _ _ _ _ _ _ ?_
    refine cond_t (tagB hu ht1 (Nat.le_of_lt_succ ht) rfl) ?_
    refine Eq.mpr (congrArg (fun xq : Int32 => At 22 [.ref (16), .float (uc), .int (nI i), .int (nI k)] [.int xq, .int (nI k)] σ 0 0) (show nI (ow_ch (uc).toNat).length = nI ((ow_ch t).length) from (congrArg (fun z => nI (ow_ch z).length) hu))) ?_
    refine hAt 1 _ _ _ _ _ _ ?_
    refine And.intro (fun hq => ?_) (fun hq => ?_)
    · have c22 : (ow_ch t).length ≤ k := (leN (a := (ow_ch t).length) (b := k) rfl rfl (by omega) (by omega)).mp hq
      clear hq
      refine hAt 2 _ _ _ _ _ _ ?_
      refine And.intro (rfl) ?_
      exact yes (lt_eq.mpr ⟨hl, fun j q => hj j (by omega)⟩)
    · have c22 : k < (ow_ch t).length := Nat.lt_of_not_le (fun zq => hq ((leN (a := (ow_ch t).length) (b := k) rfl rfl (by omega) (by omega)).mpr zq))
      clear hq
      have hg := chG t ht k (by omega)
      have hb1 := hb (i + k) (by omega)
      refine hAt 3 _ _ _ _ _ _ ?_
      refine cond_t (tagB hu ht1 (Nat.le_of_lt_succ ht) rfl) ?_
      refine And.intro (vp_ch rfl hu (by omega) (by omega)) ?_
      refine Eq.mpr (congrArg (fun xq : Int32 => At 30 [.ref (16), .float (uc), .int (nI i), .int (nI k)] [.int xq] σ 0 0) (show nI ((ow_ch (uc).toNat).getD (nI k).toNatClampNeg 0) = nI ((ow_ch t).getD k 0) from (ch_g rfl hu (by omega)))) ?_
      refine hAt 5 _ _ _ _ _ _ ?_
      refine Eq.mpr (congrArg (fun xq : Int32 => At 37 [.ref (16), .float (uc), .int (nI i), .int (nI k)] [.int xq, .ref (1), .int (nI ((ow_ch t).getD k 0))] σ 0 0) (show nI i + nI k = nI (i + k) from (adE rfl rfl))) ?_
      refine hAt 1 _ _ _ _ _ _ ?_
      refine s_Row_get (a := 1) (na := 2) (n := 600) rfl (show i + k < 600 by omega) ?_
      refine Eq.mpr (congrArg (fun xq : Int32 => At 40 [.ref (16), .float (uc), .int (nI i), .int (nI k)] [.int xq, .int (nI ((ow_ch t).getD k 0))] σ 0 0) (show rI σ 2 (i + k) = nI (b (i + k)) from (hB.2 (i + k) (by omega)))) ?_
      refine hAt 1 _ _ _ _ _ _ ?_
      refine And.intro (fun hq => ?_) (fun hq => ?_)
      · have c40 : (ow_ch t).getD k 0 = b (i + k) := (eqN (a := (ow_ch t).getD k 0) (b := b (i + k)) rfl rfl (by omega) (by omega)).mp hq
        clear hq
        refine hAt 2 _ _ _ _ _ _ ?_
        refine Eq.mpr (congrArg (fun xq : Int32 => At 17 [.ref (16), .float (uc), .int (nI i), .int xq] [] σ 0 0) (show nI k + nI 1 = nI (k + 1) from (adE rfl rfl))) ?_
        exact ih c22 (fun j q => by
          by_cases e : j = k
          · rw [e]; exact c40.symm
          · exact hj j (by omega))
      · have c40 : ¬ (ow_ch t).getD k 0 = b (i + k) := fun zq => hq ((eqN (a := (ow_ch t).getD k 0) (b := b (i + k)) rfl rfl (by omega) (by omega)).mpr zq)
        clear hq
        refine hAt 2 _ _ _ _ _ _ ?_
        refine And.intro (rfl) ?_
        exact no (fun q => c40 ((lt_eq.mp q).2 k (by omega)).symm)
  refine hAt 2 _ _ _ _ _ _ ?_
  refine Eq.mpr (congrArg (fun xq : Int32 => At 4 [.ref (16), .float (uc), .int (nI i), junk] [.int xq] σ 0 0) (show rI σ 16 3 = nI a from h3)) ?_
  refine hAt 4 _ _ _ _ _ _ ?_
  refine cond_t (tagB hu ht1 (Nat.le_of_lt_succ ht) rfl) ?_
  refine Eq.mpr (congrArg (fun xq : Int32 => At 10 [.ref (16), .float (uc), .int (nI i), junk] [.int xq, .int (nI a - nI i)] σ 0 0) (show nI (ow_ch (uc).toNat).length = nI ((ow_ch t).length) from (congrArg (fun z => nI (ow_ch z).length) hu))) ?_
  refine hAt 1 _ _ _ _ _ _ ?_
  refine And.intro (fun hq => ?_) (fun hq => ?_)
  · have c10 : a - i = (ow_ch t).length := (eqN (a := a - i) (b := (ow_ch t).length) (sbE rfl rfl (by omega)) rfl (by omega) (by omega)).mp hq
    clear hq
    refine hAt 2 _ _ _ _ _ _ ?_
    exact loop c10 0 (Nat.zero_le _) (fun j q => absurd q (Nat.not_lt_zero j))
  · have c10 : ¬ a - i = (ow_ch t).length := fun zq => hq ((eqN (a := a - i) (b := (ow_ch t).length) (sbE rfl rfl (by omega)) rfl (by omega) (by omega)).mpr zq)
    clear hq
    refine hAt 2 _ _ _ _ _ _ ?_
    refine And.intro (rfl) ?_
    exact no (fun q => c10 (lt_eq.mp q).1)
theorem s_readWord {i : Nat} (hn : n ≤ 600) (hb : ∀ j, j < n → b j < 256) (hB : rdB b n σ) (h3 : rI σ 16 3 = nI i) (hi : i ≤ n) (hP : P (some (.int (oI (woA b n i)))) (wI σ 16 3 (nI (wE b n i)))) : Ret w true (d + 6) 0 0 m_SkyReader_readWord [.ref 16] σ P X := by
  refine meth_ok k_SkyReader_readWord q_SkyReader_readWord rfl fun At hAt => ?_
  have b1 := pE_ge isLe b n i
  have b2 := pE_le isLe b n i hi
  obtain ⟨a, ea⟩ : ∃ a, a = wE b n i := ⟨_, rfl⟩
  have a1 : i ≤ a := by rw [ea]; exact b1
  have a2 : a ≤ n := by rw [ea]; exact b2
  rw [← ea] at hP
  have hB2 : rdB b n (wI σ 16 3 (nI a)) := ⟨hB.1, fun j hj => hB.2 j hj⟩
  have loop2 : ∀ k, k ≤ 11 → woR (ltA b i (a - i)) (11 - k) = woA b n i → At 63 [.ref 16, .int (nI i), .int (nI k)] [] (wI σ 16 3 (nI a)) 0 0 := by
    refine upto fun k hk ih => ?_
    intro hw
    refine hAt 3 _ _ _ _ _ _ ?_
    refine And.intro (fun hq => ?_) (fun hq => ?_)
    · have c66 : 11 ≤ k := (leN (a := 11) (b := k) rfl rfl (by omega) (by omega)).mp hq
      clear hq
      refine hAt 2 _ _ _ _ _ _ ?_
      have e : k = 11 := by omega
      subst e
      rw [← hw] at hP
      exact hP
    · have c66 : k < 11 := Nat.lt_of_not_le (fun zq => hq ((leN (a := 11) (b := k) rfl rfl (by omega) (by omega)).mpr zq))
      clear hq
      rw [show 11 - k = (11 - (k + 1)) + 1 by omega, woR, show 10 - (11 - (k + 1)) = k by omega] at hw
      refine hAt 6 _ _ _ _ _ _ ?_
      refine s_wordAt c66 ?_
      refine s_isSpelt (chE (Nat.lt_trans (wT_lt k c66) (by decide))) (wT_1 k c66) (wT_lt k c66) hn hb hB2 rfl a2 a1 ?_
      refine And.intro (fun hq => ?_) (fun hq => ?_)
      · have c78 : ¬ (ltA b i (a - i) = ow_ch (wT k)) := of_decide_eq_false (bI_eq hq)
        clear hq
        refine hAt 2 _ _ _ _ _ _ ?_
        refine Eq.mpr (congrArg (fun xq : Int32 => At 63 [.ref (16), .int (nI i), .int xq] [] (wI σ 16 3 (nI a)) 0 0) (show nI k + nI 1 = nI (k + 1) from (adE rfl rfl))) ?_
        rw [if_neg c78] at hw
        exact ih c66 hw
      · have c78 : ltA b i (a - i) = ow_ch (wT k) := of_decide_eq_true (bI_ne hq)
        clear hq
        refine hAt 2 _ _ _ _ _ _ ?_
        rw [if_pos c78] at hw
        rw [← hw] at hP
        exact hP
  have loop : ∀ j, j ≤ n → i ≤ j → wE b n j = a → ∀ z2, At 5 [.ref 16, .int (nI i), z2] [] (wI σ 16 3 (nI j)) 0 0 := by
    refine upto fun j hj ih => ?_
    intro hij hw z2
    have out : ¬ (j < n ∧ isLe (b j) = true) → At 63 [.ref 16, .int (nI i), .int (nI 0)] [] (wI σ 16 3 (nI j)) 0 0 := fun q => by
      have e : j = a := by rw [← hw, wE, pE_e q]
      rw [e]
      exact loop2 0 (by omega) (by rw [ea]; rfl)
    refine hAt 2 _ _ _ _ _ _ ?_
    refine Eq.mpr (congrArg (fun xq : Int32 => At 9 [.ref (16), .int (nI i), z2] [.int xq] (wI σ 16 3 (nI j)) 0 0) (show rI (wI σ 16 3 (nI j)) 16 3 = nI j from (by rw [rI_wI, if_pos ⟨rfl, rfl⟩]))) ?_
    refine hAt 2 _ _ _ _ _ _ ?_
    refine Eq.mpr (congrArg (fun xq : Int32 => At 13 [.ref (16), .int (nI i), z2] [.int xq, .int (nI j)] (wI σ 16 3 (nI j)) 0 0) (show rI (wI σ 16 3 (nI j)) 16 2 = nI n from (by rw [rI_wI, if_neg (by omega)]; exact hB.1))) ?_
    refine hAt 1 _ _ _ _ _ _ ?_
    refine And.intro (fun hq => ?_) (fun hq => ?_)
    · have c13 : n ≤ j := (leN (a := n) (b := j) rfl rfl (by omega) (by omega)).mp hq
      clear hq
      refine hAt 2 _ _ _ _ _ _ ?_
      exact out (fun z => by omega)
    · have c13 : j < n := Nat.lt_of_not_le (fun zq => hq ((leN (a := n) (b := j) rfl rfl (by omega) (by omega)).mpr zq))
      clear hq
      have hb1 := hb j c13
      refine hAt 4 _ _ _ _ _ _ ?_
      refine Eq.mpr (congrArg (fun xq : Int32 => At 24 [.ref (16), .int (nI i), z2] [.int xq, .ref (1)] (wI σ 16 3 (nI j)) 0 0) (show rI (wI σ 16 3 (nI j)) 16 3 = nI j from (by rw [rI_wI, if_pos ⟨rfl, rfl⟩]))) ?_
      refine hAt 1 _ _ _ _ _ _ ?_
      refine s_Row_get (a := 1) (na := 2) (n := 600) rfl (show j < 600 by omega) ?_
      refine Eq.mpr (congrArg (fun xq : Int32 => At 27 [.ref (16), .int (nI i), z2] [.int xq] (wI σ 16 3 (nI j)) 0 0) (show rI (wI σ 16 3 (nI j)) 2 j = nI (b j) from (by rw [rI_wI, if_neg (by omega)]; exact (hB.2 j (by omega))))) ?_
      refine hAt 2 _ _ _ _ _ _ ?_
      refine And.intro (fun hq => ?_) (fun hq => ?_)
      · have c29 : b j < 97 := (ltN (a := b j) (b := 97) rfl rfl (by omega) (by omega)).mp hq
        clear hq
        refine hAt 2 _ _ _ _ _ _ ?_
        exact out (fun z => by have := of_decide_eq_true z.2; omega)
      · have c29 : 97 ≤ b j := Nat.le_of_not_lt (fun zq => hq ((ltN (a := b j) (b := 97) rfl rfl (by omega) (by omega)).mpr zq))
        clear hq
        refine hAt 4 _ _ _ _ _ _ ?_
        refine Eq.mpr (congrArg (fun xq : Int32 => At 40 [.ref (16), .int (nI i), z2] [.int xq, .ref (1)] (wI σ 16 3 (nI j)) 0 0) (show rI (wI σ 16 3 (nI j)) 16 3 = nI j from (by rw [rI_wI, if_pos ⟨rfl, rfl⟩]))) ?_
        refine hAt 1 _ _ _ _ _ _ ?_
        refine s_Row_get (a := 1) (na := 2) (n := 600) rfl (show j < 600 by omega) ?_
        refine Eq.mpr (congrArg (fun xq : Int32 => At 43 [.ref (16), .int (nI i), z2] [.int xq] (wI σ 16 3 (nI j)) 0 0) (show rI (wI σ 16 3 (nI j)) 2 j = nI (b j) from (by rw [rI_wI, if_neg (by omega)]; exact (hB.2 j (by omega))))) ?_
        refine hAt 2 _ _ _ _ _ _ ?_
        refine And.intro (fun hq => ?_) (fun hq => ?_)
        · have c45 : 122 < b j := (ltN (a := 122) (b := b j) rfl rfl (by omega) (by omega)).mp hq
          clear hq
          refine hAt 2 _ _ _ _ _ _ ?_
          exact out (fun z => by have := of_decide_eq_true z.2; omega)
        · have c45 : b j ≤ 122 := Nat.le_of_not_lt (fun zq => hq ((ltN (a := 122) (b := b j) rfl rfl (by omega) (by omega)).mpr zq))
          clear hq
          refine hAt 3 _ _ _ _ _ _ ?_
          refine Eq.mpr (congrArg (fun xq : Int32 => At 53 [.ref (16), .int (nI i), z2] [.int xq, .ref (16)] (wI σ 16 3 (nI j)) 0 0) (show rI (wI σ 16 3 (nI j)) 16 3 = nI j from (by rw [rI_wI, if_pos ⟨rfl, rfl⟩]))) ?_
          refine hAt 3 _ _ _ _ _ _ ?_
          refine Eq.mpr (congrArg (fun xq : Mem => At 58 [.ref (16), .int (nI i), z2] [] xq 0 0) (congrArg (fun z => wI (wI σ 16 3 (nI j)) 16 3 z) (adE rfl rfl))) ?_
          refine hAt 1 _ _ _ _ _ _ ?_
          have z := ih c13 (by omega) (by rw [← hw, wE, wE, pE_s c13 (decide_eq_true ⟨c29, c45⟩)]) z2
          rw [← wI_wI σ 16 3 (nI j) (nI (j + 1))] at z
          exact z
  refine hAt 2 _ _ _ _ _ _ ?_
  refine Eq.mpr (congrArg (fun xq : Int32 => At 4 [.ref (16), junk, junk] [.int xq] σ 0 0) (show rI σ 16 3 = nI i from h3)) ?_
  refine hAt 1 _ _ _ _ _ _ ?_
  have z := loop i hi (Nat.le_refl _) ea.symm junk
  rw [wI_self h3] at z
  exact z
theorem rdC.fr {s : Ps} {τ : Mem} (h : rdC b n s σ) (h1 : ∀ j, rI τ 16 j = rI σ 16 j) (h2 : ∀ j, rI τ 2 j = rI σ 2 j) : rdC b n s τ := by
  obtain ⟨⟨q1, q2⟩, ⟨a, q3, q4, q5⟩, ⟨q6, q7⟩, q8⟩ := h
  exact ⟨⟨(h1 2).trans q1, fun j hj => (h2 j).trans (q2 j hj)⟩, ⟨a, q3, (h1 3).trans q4, q5⟩, ⟨q6, (h1 4).trans q7⟩, (h1 5).trans q8⟩
theorem rdC.at0 {s : Ps} (h : rdC b n s σ) (h0 : s.2.1 = 0) : rI σ 16 3 = nI s.1 ∧ s.1 ≤ n := by
  obtain ⟨-, ⟨a, q3, q4, q5⟩, -⟩ := h
  rw [← q5 h0]; exact ⟨q4, q3⟩
theorem s_failS {s : Ps} {k pl : Nat} {x : Int32} (hk : k ≠ 0 ∧ k ≤ 4) (h : rdC b n s σ) (hx : s.2.1 = 0 → x = nI pl) (hP : ∀ τ, (∀ a j, a ≠ 16 → rI τ a j = rI σ a j) → τ.2 = σ.2 → rdC b n (faA s k pl) τ → P none τ) : Ret w true (d + 1) 0 0 m_SkyReader_fail [.ref 16, .int (nI k), .int x] σ P X := by
  have h9 := h
  obtain ⟨⟨q1, q2⟩, ⟨a, q3, q4, q5⟩, ⟨q6, q7⟩, q8⟩ := h
  by_cases h0 : s.2.1 = 0
  · refine s_fail0 (q7.trans (congrArg nI h0)) ?_
    have e : faA s k pl = (s.1, k, pl) := if_pos h0
    refine hP _ (fr16 (fr16 (fun _ _ _ => rfl) _ _) _ _) rfl ?_
    rw [e]
    exact ⟨⟨q1, q2⟩, ⟨a, q3, q4, fun z => absurd z hk.1⟩, ⟨hk.2, rfl⟩, by rw [plI, if_neg hk.1]; exact hx h0⟩
  · refine s_fail1 q7 ⟨h0, q6⟩ ?_
    have e : faA s k pl = s := if_neg h0
    exact hP σ (fun _ _ _ => rfl) rfl (by rw [e]; exact h9)
theorem s_readEnd {s : Ps} (hn : n ≤ 600) (hb : ∀ j, j < n → b j < 256) (h : rdC b n s σ) (hP : ∀ τ, (∀ a j, a ≠ 16 → rI τ a j = rI σ a j) → τ.2 = σ.2 → rdC b n (enA b n s) τ → P none τ) : Ret w true (d + 3) 0 0 m_SkyReader_readEnd [.ref 16] σ P X := by
  obtain ⟨hB, ⟨a, ha, h3, h3'⟩, ⟨h4, h4'⟩, h5⟩ := h
  have b2 : bS b n a ≤ n := pE_le isBl b n a ha
  obtain ⟨i, ei⟩ : ∃ i, i = bS b n a := ⟨_, rfl⟩
  rw [← ei] at b2
  have hb1 : i < n → b i < 256 := hb i
  have hB2 : rdB b n (wI σ 16 3 (nI i)) := ⟨hB.1, fun j hj => hB.2 j hj⟩
  have bad : ¬ (i < n ∧ b i = 59) → ∀ τ, (∀ a j, a ≠ 16 → rI τ a j = rI (wI σ 16 3 (nI i)) a j) → τ.2 = σ.2 → rdC b n (faA (i, s.2.1, s.2.2) 1 i) τ → P none τ := fun q τ t1 t2 t3 => by
    refine hP τ (fun a j z => (t1 a j z).trans (fr16 (fun _ _ _ => rfl) _ _ a j z)) t2 ?_
    by_cases h0 : s.2.1 = 0
    · have e : enA b n s = (i, 1, i) := by unfold enA; rw [if_neg (by simpa using h0), ← h3' h0, ← ei, if_neg q]
      rw [e]
      rw [show faA (i, s.2.1, s.2.2) 1 i = (i, 1, i) from if_pos h0] at t3
      exact t3
    · have e : enA b n s = s := if_pos h0
      rw [e]
      rw [show faA (i, s.2.1, s.2.2) 1 i = (i, s.2.1, s.2.2) from if_neg h0] at t3
      obtain ⟨q1, ⟨a', q3, q4, q5⟩, q6, q8⟩ := t3
      exact ⟨q1, ⟨a', q3, q4, fun z => absurd z h0⟩, q6, q8⟩
  have good : i < n → b i = 59 → P none (wI (wI σ 16 3 (nI i)) 16 3 (nI (i + 1))) := fun q1 q2 => by
    refine hP _ (fr16 (fr16 (fun _ _ _ => rfl) _ _) _ _) rfl ?_
    by_cases h0 : s.2.1 = 0
    · have e : enA b n s = (i + 1, 0, s.2.2) := by unfold enA; rw [if_neg (by simpa using h0), ← h3' h0, ← ei, if_pos ⟨q1, q2⟩]
      rw [e]
      exact ⟨⟨hB.1, hB.2⟩, ⟨i + 1, q1, rfl, fun _ => rfl⟩, ⟨Nat.zero_le _, h4'.trans (congrArg nI h0)⟩, h5.trans (by rw [plI, if_pos h0]; rfl)⟩
    · have e : enA b n s = s := if_pos h0
      rw [e]
      exact ⟨⟨hB.1, hB.2⟩, ⟨i + 1, q1, rfl, fun z => absurd z h0⟩, ⟨h4, h4'⟩, h5⟩
  have hR2 : rdC b n (i, s.2.1, s.2.2) (wI σ 16 3 (nI i)) := ⟨hB2, ⟨i, b2, rfl, fun _ => rfl⟩, ⟨h4, h4'⟩, h5⟩
  refine meth_ok k_SkyReader_readEnd q_SkyReader_readEnd rfl fun At hAt => ?_
  refine hAt 4 _ _ _ _ _ _ ?_
  refine s_skipBlanks hn hb hB h3 ha ?_
  rw [← ei]
  refine Eq.mpr (congrArg (fun xq : Int32 => At 8 [.ref (16)] [.int xq] (wI σ 16 3 (nI i)) 0 0) (show rI (wI σ 16 3 (nI i)) 16 3 = nI i from (by rw [rI_wI, if_pos ⟨rfl, rfl⟩]))) ?_
  refine hAt 2 _ _ _ _ _ _ ?_
  refine Eq.mpr (congrArg (fun xq : Int32 => At 12 [.ref (16)] [.int xq, .int (nI i)] (wI σ 16 3 (nI i)) 0 0) (show rI (wI σ 16 3 (nI i)) 16 2 = nI n from (by rw [rI_wI, if_neg (by omega)]; exact hB.1))) ?_
  refine hAt 1 _ _ _ _ _ _ ?_
  refine And.intro (fun hq => ?_) (fun hq => ?_)
  · have c12 : n ≤ i := (leN (a := n) (b := i) rfl rfl (by omega) (by omega)).mp hq
    clear hq
    refine hAt 4 _ _ _ _ _ _ ?_
    refine Eq.mpr (congrArg (fun xq : Int32 => At 50 [.ref (16)] [.int xq, .int (nI 1), .ref (16)] (wI σ 16 3 (nI i)) 0 0) (show rI (wI σ 16 3 (nI i)) 16 3 = nI i from (by rw [rI_wI, if_pos ⟨rfl, rfl⟩]))) ?_
    refine hAt 2 _ _ _ _ _ _ ?_
    refine s_failS (by decide) hR2 (fun _ => rfl) (fun τ t1 t2 t3 => ?_)
    exact bad (fun z => by omega) τ t1 t2 t3
  · have c12 : i < n := Nat.lt_of_not_le (fun zq => hq ((leN (a := n) (b := i) rfl rfl (by omega) (by omega)).mpr zq))
    clear hq
    have hb2 := hb1 c12
    refine hAt 4 _ _ _ _ _ _ ?_
    refine Eq.mpr (congrArg (fun xq : Int32 => At 23 [.ref (16)] [.int xq, .ref (1)] (wI σ 16 3 (nI i)) 0 0) (show rI (wI σ 16 3 (nI i)) 16 3 = nI i from (by rw [rI_wI, if_pos ⟨rfl, rfl⟩]))) ?_
    refine hAt 1 _ _ _ _ _ _ ?_
    refine s_Row_get (a := 1) (na := 2) (n := 600) rfl (show i < 600 by omega) ?_
    refine Eq.mpr (congrArg (fun xq : Int32 => At 26 [.ref (16)] [.int xq] (wI σ 16 3 (nI i)) 0 0) (show rI (wI σ 16 3 (nI i)) 2 i = nI (b i) from (by rw [rI_wI, if_neg (by omega)]; exact (hB.2 i (by omega))))) ?_
    refine hAt 2 _ _ _ _ _ _ ?_
    refine And.intro (fun hq => ?_) (fun hq => ?_)
    · have c28 : ¬ b i = 59 := fun zq => hq ((eqN (a := b i) (b := 59) rfl rfl (by omega) (by omega)).mpr zq)
      clear hq
      refine hAt 4 _ _ _ _ _ _ ?_
      refine Eq.mpr (congrArg (fun xq : Int32 => At 50 [.ref (16)] [.int xq, .int (nI 1), .ref (16)] (wI σ 16 3 (nI i)) 0 0) (show rI (wI σ 16 3 (nI i)) 16 3 = nI i from (by rw [rI_wI, if_pos ⟨rfl, rfl⟩]))) ?_
      refine hAt 2 _ _ _ _ _ _ ?_
      refine s_failS (by decide) hR2 (fun _ => rfl) (fun τ t1 t2 t3 => ?_)
      exact bad (fun z => c28 z.2) τ t1 t2 t3
    · have c28 : b i = 59 := (eqN (a := b i) (b := 59) rfl rfl (by omega) (by omega)).mp hq
      clear hq
      refine hAt 3 _ _ _ _ _ _ ?_
      refine Eq.mpr (congrArg (fun xq : Int32 => At 36 [.ref (16)] [.int xq, .ref (16)] (wI σ 16 3 (nI i)) 0 0) (show rI (wI σ 16 3 (nI i)) 16 3 = nI i from (by rw [rI_wI, if_pos ⟨rfl, rfl⟩]))) ?_
      refine hAt 3 _ _ _ _ _ _ ?_
      refine Eq.mpr (congrArg (fun xq : Mem => At 41 [.ref (16)] [] xq 0 0) (congrArg (fun z => wI (wI σ 16 3 (nI i)) 16 3 z) (adE rfl rfl))) ?_
      refine hAt 2 _ _ _ _ _ _ ?_
      exact good c12 c28
theorem s_lastX {v : Nat} (h : rI σ 19 0 = nI v) (hv : v ≤ 100) (hP : P (some (.int (iZ ((v : Int) - 1)))) σ) : Ret w true (d + 2) 0 0 m_SkyReader_lastX [.ref 16] σ P X := by
  refine meth_ok k_SkyReader_lastX q_SkyReader_lastX rfl fun At hAt => ?_
  refine hAt 5 _ _ _ _ _ _ ?_
  refine s_Row_get (a := 18) (na := 19) (n := 10) rfl (show 0 < 10 by omega) ?_
  refine Eq.mpr (congrArg (fun xq : Int32 => At 11 [.ref (16)] [.int xq] σ 0 0) (show rI σ 19 0 = nI v from h)) ?_
  refine hAt 3 _ _ _ _ _ _ ?_
  refine retE (sbZ (ntZ rfl) (ntZ rfl)) ?_
  exact hP
theorem s_lastY {v : Nat} (h : rI σ 19 1 = nI v) (hv : v ≤ 100) (hP : P (some (.int (iZ ((v : Int) - 1)))) σ) : Ret w true (d + 2) 0 0 m_SkyReader_lastY [.ref 16] σ P X := by
  refine meth_ok k_SkyReader_lastY q_SkyReader_lastY rfl fun At hAt => ?_
  refine hAt 5 _ _ _ _ _ _ ?_
  refine s_Row_get (a := 18) (na := 19) (n := 10) rfl (show 1 < 10 by omega) ?_
  refine Eq.mpr (congrArg (fun xq : Int32 => At 11 [.ref (16)] [.int xq] σ 0 0) (show rI σ 19 1 = nI v from h)) ?_
  refine hAt 3 _ _ _ _ _ _ ?_
  refine retE (sbZ (ntZ rfl) (ntZ rfl)) ?_
  exact hP
end RDD
