/-! EXPLAIN on the component's side: the search, the liar, the call -/
def exY (s : Sk) (t : Tb) (wo : Int32) : Nat := wy t.1 (okE s t wo) (kQ s) (kG s) 0 (lk0 t wo)
def exZ (s : Sk) (t : Tb) (wo : Int32) : Int32 := sr t.1 (okE s t wo) (kQ s) (kG s) 0 (nI 0) (lk0 t wo)
def lyA (s : Sk) (t : Tb) : Int32 := if 0 < exY s t (-1) then -1 else fsF (fun g => decide (0 < exY s t (nI g))) 0 t.1
def exA (A : St) (i : Nat) : Int32 := if i = 0 then nI (exY (aSk A) (aBk A).2.2 (-1)) else if i = 1 then (if exY (aSk A) (aBk A).2.2 (-1) = 0 then nI 0 else nI 63 &&& exZ (aSk A) (aBk A).2.2 (-1)) else lyA (aSk A) (aBk A).2.2
def mskK (K : Nat) : Int32 := nI 1 <<< (nI K &&& 31) - nI 1
theorem msk1 : ∀ K, K < 7 → mskK K &&& nI 63 = mskK K := by decide
theorem msk2 : ∀ K, K < 7 → ∀ j, j < K → bitk j &&& mskK K = bitk j := by decide
theorem msk3 : ∀ K, K < 7 → nI 0 &&& mskK K = nI 0 := by decide
theorem kG_le (s : Sk) : kG s ≤ kT s 2 ∧ kG s ≤ 6 := ⟨Nat.min_le_left _ _, Nat.min_le_right _ _⟩
theorem exZ_msk {s : Sk} {t : Tb} {wo : Int32} (h : 0 < exY s t wo) : mskK (kG s) &&& exZ s t wo = nI 63 &&& exZ s t wo := by
  have hK := kG_le s
  have e : exZ s t wo &&& mskK (kG s) = exZ s t wo := sr_mask _ _ _ _ (msk3 _ (by omega)) (fun j _ h2 => msk2 _ (by omega) j (by omega)) h
  rw [an_c, e, an_c]
  have := congrArg (fun z => z &&& nI 63) e
  rw [← this]
  show exZ s t wo = exZ s t wo &&& mskK (kG s) &&& nI 63
  rw [an_a, msk1 _ (by omega), e]
theorem wat_sum (q : Nat → Nat) : ∀ m k, wat q m k + sumN q k = sumN q (k + m)
  | 0, k => by rw [wat, Nat.zero_add, Nat.add_zero]
  | m + 1, k => by
    have := wat_sum q m (k + 1)
    rw [sumN] at this
    rw [wat, show k + (m + 1) = k + 1 + m by omega, ← this]; omega
def xF (σ τ : Mem) : Prop := (∀ a j, a ≠ 107 → ¬ (a = 105 ∧ (3 ≤ j ∧ j ≤ 5)) → rI τ a j = rI σ a j) ∧ τ.2 = σ.2
theorem xF.trans {σ τ τ' : Mem} (h : xF σ τ) (g : xF τ τ') : xF σ τ' := ⟨fun a j h1 h2 => (g.1 a j h1 h2).trans (h.1 a j h1 h2), g.2.trans h.2⟩
theorem xC.f {σ τ : Mem} {t : Tb} {wo W S : Int32} {l : Nat → Nat} (h : xC σ τ t wo l W S) : xF σ τ := ⟨h.1, h.2.1⟩
def hgT (s : Sk) (t : Tb) : Prop := ∀ i, i < t.1 → t.2 i 0 < kT s 0 ∧ t.2 i 1 < kT s 1 ∧ t.2 i 2 ≤ 9999
section EXD
variable {w : Wd} {d : Nat} {σ : Mem} {s : Sk} {t : Tb} {P : Option AV → Mem → Prop} {X : Nat → Mem → Prop}
theorem s_place10 {wo W S f : Int32} {l : Nat → Nat} {τ : Mem} (hS : skC τ 4 s) (hv : VS s) (hb : tbR τ 35 36 3 t) (hn : t.1 ≤ 9) (hg : hgT s t) (hl : ∀ i, i < t.1 → l i ≤ 9999 ∧ (exW wo i = true → l i = 0)) (hx : xC τ τ t wo l W S)
    (hP : ∀ τ', xC τ τ' t wo l (W + nI (wy t.1 (okE s t wo) (kQ s) (kG s) 0 l)) (S &&& sr t.1 (okE s t wo) (kQ s) (kG s) 0 f l) → P none τ') : Ret w true (d + 10) 0 0 m_Guess_place [.ref 105, .int (nI 0), .int f, .int (nI (wat (kQ s) (kG s) 0)), .int wo] τ P X := by
  have hK := kG_le s
  rw [show d + 10 = (d + (6 - kG s)) + kG s + 4 by omega]
  exact s_place hS hv hb hn hg (kG s) _ 0 f l W S τ _ (by omega) hl hx hP
theorem s_search {wo : Int32} (hS : skC σ 4 s) (hv : VS s) (hb : tbR σ 35 36 3 t) (hn : t.1 ≤ 9) (hg : hgT s t) (hP : ∀ τ, xC σ τ t wo (lk0 t wo) (nI (exY s t wo)) (mskK (kG s) &&& exZ s t wo) → P none τ) : Ret w true (d + 11) 0 0 m_Guess_search [.ref 105, .int wo] σ P X := by
  have hK := kG_le s
  have s3 := hv.2.2.1
  have s8 := hv.2.2.2.2.2.2.2.2.2.2.2.2.1
  have hq : ∀ k, k < kG s → 1 ≤ kQ s k ∧ kQ s k ≤ 999 := fun k hk => (s8 k (by omega)).2.2.2.2.1
  have hl : ∀ i, i < t.1 → lk0 t wo i ≤ 9999 ∧ (exW wo i = true → lk0 t wo i = 0) := fun i hi => by
    have := hg i hi
    unfold lk0
    by_cases e : exW wo i = true
    · rw [if_pos e]; exact ⟨by omega, fun _ => rfl⟩
    · rw [if_neg e]; exact ⟨by omega, fun z => absurd z e⟩
  refine meth_ok k_Guess_search q_Guess_search rfl fun At hAt => ?_
  have l2 : ∀ τ, xC σ τ t wo (lk0 t wo) (nI 0) (mskK (kG s)) → ∀ k, k ≤ kG s → At 90 [.ref 105, .int wo, .int (nI (sumN (kQ s) k)), .int (nI k)] [] τ 0 0 := by
    intro τ hx
    have hx' := hx
    obtain ⟨h1, h2, h3, h4, h5, h6⟩ := hx
    have hSt := hS.scr (fun a j g1 g2 => h1 a j (by omega) (by omega))
    refine upto fun k hk ih => ?_
    have sq := sumN_le (f := kQ s) (b := 999) k (fun i hi => (hq i (by omega)).2)
    refine hAt 4 _ _ _ _ _ _ ?_
    refine s_guessed hSt hv ?_
    refine And.intro (fun hq => ?_) (fun hq => ?_)
    · have c95 : kG s ≤ k := (leN (a := kG s) (b := k) rfl rfl (by omega) (by omega)).mp hq
      clear hq
      have e : k = kG s := by omega
      subst e
      have ew : sumN (kQ s) (kG s) = wat (kQ s) (kG s) 0 := by have := wat_sum (kQ s) (kG s) 0; rw [Nat.zero_add] at this; exact this.symm
      rw [ew]
      have fin : ∀ τ', xC τ τ' t wo (lk0 t wo) (nI 0 + nI (exY s t wo)) (mskK (kG s) &&& exZ s t wo) → P none τ' := fun τ' hx2 => by
        have f := (xF.trans ⟨h1, h2⟩ hx2.f)
        exact hP τ' ⟨f.1, f.2, hx2.2.2.1, hx2.2.2.2.1, by rw [hx2.2.2.2.2.1, nI_add, Nat.zero_add], hx2.2.2.2.2.2⟩
      refine hAt 7 _ _ _ _ _ _ ?_
      refine s_place10 (l := lk0 t wo) (W := nI 0) (S := mskK (kG s)) hSt hv (hb.frame (fun j => h1 _ _ (by omega) (by omega)) (fun j => h1 _ _ (by omega) (by omega))) hn hg hl ⟨fun _ _ _ _ => rfl, rfl, h3, h4, h5, h6⟩ (fun τ' hx2 => ?_)
      exact fin τ' hx2
    · have c95 : k < kG s := Nat.lt_of_not_le (fun zq => hq ((leN (a := kG s) (b := k) rfl rfl (by omega) (by omega)).mpr zq))
      clear hq
      refine hAt 7 _ _ _ _ _ _ ?_
      refine s_Table_get (a := 8) (na := 9) (mo := 8) (wd := 7) rfl (show k < 8 by omega) (show 4 < 7 by omega) ?_
      refine Eq.mpr (congrArg (fun xq : Int32 => At 111 [.ref (105), .int (wo), .int (nI (sumN (kQ s) k)), .int (nI k)] [.int xq, .int (nI (sumN (kQ s) k))] τ 0 0) (show rI τ 9 (k * 7 + 4) = nI (kQ s k) from (hSt.2.2.1.2 k (by omega) 4 (by omega)))) ?_
      refine hAt 4 _ _ _ _ _ _ ?_
      refine Eq.mpr (congrArg (fun xq : Int32 => At 90 [.ref (105), .int (wo), .int xq, .int (nI k + nI 1)] [] τ 0 0) (show (nI (sumN (kQ s) k)) + (nI (kQ s k)) = nI (sumN (kQ s) k + (kQ s k)) from (adE rfl rfl))) ?_
      refine Eq.mpr (congrArg (fun xq : Int32 => At 90 [.ref (105), .int (wo), .int (nI (sumN (kQ s) k + (kQ s k))), .int xq] [] τ 0 0) (show nI k + nI 1 = nI (k + 1) from (adE rfl rfl))) ?_
      exact ih c95
  have l1 : ∀ i, i ≤ t.1 → ∀ τ, xC σ τ (i, t.2) wo (lk0 t wo) (nI 0) (mskK (kG s)) → At 24 [.ref 105, .int wo, .int (nI i), junk] [] τ 0 0 := by
    refine upto fun i hi ih => ?_
    intro τ hx
    have hx' := hx
    obtain ⟨h1, h2, h3, h4, h5, h6⟩ := hx
    have h4 : rI τ 105 3 = nI (sumN (lk0 t wo) i) := h4
    have hbt : tbR τ 35 36 3 t := hb.frame (fun j => h1 _ _ (by omega) (by omega)) (fun j => h1 _ _ (by omega) (by omega))
    refine hAt 5 _ _ _ _ _ _ ?_
    refine s_Table_size (a := 35) (na := 36) (mo := 9) (wd := 3) rfl ?_
    refine Eq.mpr (congrArg (fun xq : Int32 => At 35 [.ref (105), .int (wo), .int (nI i), junk] [.int xq, .int (nI i)] τ 0 0) (show rI τ 35 3 = nI t.1 from hbt.1)) ?_
    refine hAt 1 _ _ _ _ _ _ ?_
    refine And.intro (fun hq => ?_) (fun hq => ?_)
    · have c35 : t.1 ≤ i := (leN (a := t.1) (b := i) rfl rfl (by omega) (by omega)).mp hq
      clear hq
      refine hAt 4 _ _ _ _ _ _ ?_
      have e : i = t.1 := by omega
      subst e
      exact l2 τ hx' 0 (by omega)
    · have c35 : i < t.1 := Nat.lt_of_not_le (fun zq => hq ((leN (a := t.1) (b := i) rfl rfl (by omega) (by omega)).mpr zq))
      clear hq
      refine hAt 3 _ _ _ _ _ _ ?_
      refine And.intro (fun hq => ?_) (fun hq => ?_)
      · have c40 : nI i = wo := hq
        clear hq
        refine hAt 2 _ _ _ _ _ _ ?_
        refine Eq.mpr (congrArg (fun xq : Int32 => At 24 [.ref (105), .int (wo), .int xq, junk] [] τ 0 0) (show nI i + nI 1 = nI (i + 1) from (adE rfl rfl))) ?_
        refine ih c35 τ ⟨h1, h2, fun j hj he => ?_, ?_, h5, h6⟩
        · by_cases e : j = i
          · subst e; rw [show exW wo j = true from decide_eq_true c40] at he; cases he
          · exact h3 j (by have : j < i + 1 := hj; show j < i; omega) he
        · rw [sumN, (hl i c35).2 (decide_eq_true c40), Nat.add_zero]; exact h4
      · have c40 : ¬ nI i = wo := hq
        clear hq
        refine hAt 9 _ _ _ _ _ _ ?_
        refine s_Table_get (a := 35) (na := 36) (mo := 9) (wd := 3) rfl (show i < 9 by omega) (show 2 < 3 by omega) ?_
        refine Eq.mpr (congrArg (fun xq : Int32 => At 60 [.ref (105), .int (wo), .int (nI i), junk] [.int xq, .int (nI i), .ref (106)] τ 0 0) (show rI τ 36 (i * 3 + 2) = nI (t.2 i 2) from (hbt.2 i (by omega) 2 (by omega)))) ?_
        refine hAt 4 _ _ _ _ _ _ ?_
        refine s_Row_set (a := 106) (na := 107) (n := 9) rfl (show i < 9 by omega) ?_
        refine Eq.mpr (congrArg (fun xq : Int32 => At 68 [.ref (105), .int (wo), .int (nI i), junk] [.int xq, .ref (105)] (wI τ 107 i (nI (t.2 i 2))) 0 0) (show rI (wI τ 107 i (nI (t.2 i 2))) 105 3 = nI (sumN (lk0 t wo) i) from (by rw [rI_wI, if_neg (by omega)]; exact h4))) ?_
        refine hAt 4 _ _ _ _ _ _ ?_
        refine s_Row_get (a := 106) (na := 107) (n := 9) rfl (show i < 9 by omega) ?_
        refine Eq.mpr (congrArg (fun xq : Int32 => At 76 [.ref (105), .int (wo), .int (nI i), junk] [.int xq, .int (nI (sumN (lk0 t wo) i)), .ref (105)] (wI τ 107 i (nI (t.2 i 2))) 0 0) (show rI (wI τ 107 i (nI (t.2 i 2))) 107 i = nI (t.2 i 2) from (by rw [rI_wI, if_pos ⟨rfl, rfl⟩]))) ?_
        refine hAt 2 _ _ _ _ _ _ ?_
        refine Eq.mpr (congrArg (fun xq : Mem => At 80 [.ref (105), .int (wo), .int (nI i), junk] [] xq 0 0) (congrArg (fun z => wI (wI τ 107 i (nI (t.2 i 2))) 105 3 z) (adE rfl rfl))) ?_
        refine hAt 2 _ _ _ _ _ _ ?_
        refine Eq.mpr (congrArg (fun xq : Int32 => At 24 [.ref (105), .int (wo), .int xq, junk] [] (wI (wI τ 107 i (nI (t.2 i 2))) 105 3 (nI (sumN (lk0 t wo) i + (t.2 i 2)))) 0 0) (show nI i + nI 1 = nI (i + 1) from (adE rfl rfl))) ?_
        have el : lk0 t wo i = t.2 i 2 := if_neg (by rw [show exW wo i = false from decide_eq_false c40]; decide)
        refine ih c35 _ ⟨fun a j q1 q2 => ?_, h2, fun j hj he => ?_, ?_, ?_, ?_⟩
        · rw [rI_wI, if_neg (by omega), rI_wI, if_neg (by omega)]; exact h1 a j q1 q2
        · rw [rI_wI, if_neg (by omega), rI_wI]
          by_cases e : j = i
          · subst e; rw [if_pos ⟨rfl, rfl⟩, el]
          · rw [if_neg (fun z => e z.2)]; exact h3 j (by have : j < i + 1 := hj; show j < i; omega) he
        · rw [rI_wI, if_pos ⟨rfl, rfl⟩, sumN, el]
        · rw [rI_wI, if_neg (by omega), rI_wI, if_neg (by omega)]; exact h5
        · rw [rI_wI, if_neg (by omega), rI_wI, if_neg (by omega)]; exact h6
  have hSt := hS
  refine hAt 16 _ _ _ _ _ _ ?_
  refine s_guessed hSt hv ?_
  refine l1 0 (by omega) _ ⟨fun a j q1 q2 => ?_, rfl, fun j hj => absurd hj (Nat.not_lt_zero j), ?_, ?_, ?_⟩
  · rw [rI_wI, if_neg (by omega), rI_wI, if_neg (by omega), rI_wI, if_neg (by omega)]
  · rw [rI_wI, if_pos ⟨rfl, rfl⟩]; rfl
  · rw [rI_wI, if_neg (by omega), rI_wI, if_neg (by omega), rI_wI, if_pos ⟨rfl, rfl⟩]
  · rw [rI_wI, if_neg (by omega), rI_wI, if_pos ⟨rfl, rfl⟩]; rfl
theorem exY_b (hn : t.1 ≤ 9) (wo : Int32) : exY s t wo ≤ 1000000 := by
  have h := wy_le (G := t.1) (ok := okE s t wo) (q := kQ s) hn (kG s) 0 (lk0 t wo)
  have := Nat.pow_le_pow_right (show 0 < 10 by omega) (kG_le s).2
  exact Nat.le_trans h this
theorem s_liar (hS : skC σ 4 s) (hv : VS s) (hb : tbR σ 35 36 3 t) (hn : t.1 ≤ 9) (hg : hgT s t) (hP : ∀ τ, xF σ τ → P (some (.int (lyA s t))) τ) : Ret w true (d + 12) 0 0 m_Guess_liar [.ref 105] σ P X := by
  refine meth_ok k_Guess_liar q_Guess_liar rfl fun At hAt => ?_
  have hfr : ∀ τ, xF σ τ → skC τ 4 s ∧ tbR τ 35 36 3 t := fun τ h => ⟨hS.scr (fun a j g1 g2 => h.1 a j (by omega) (by omega)), hb.frame (fun j => h.1 _ _ (by omega) (by omega)) (fun j => h.1 _ _ (by omega) (by omega))⟩
  have loop : ¬ 0 < exY s t (-1) → ∀ g, g ≤ t.1 → (lyA s t = fsF (fun g => decide (0 < exY s t (nI g))) g (t.1 - g)) → ∀ τ, xF σ τ → At 16 [.ref 105, .int (nI g)] [] τ 0 0 := by
    intro h0
    refine upto fun g hgl ih => ?_
    intro he τ hx
    have hbt := (hfr τ hx).2
    have eb := exY_b (s := s) hn (nI g)
    refine hAt 5 _ _ _ _ _ _ ?_
    refine s_Table_size (a := 35) (na := 36) (mo := 9) (wd := 3) rfl ?_
    refine Eq.mpr (congrArg (fun xq : Int32 => At 27 [.ref (105), .int (nI g)] [.int xq, .int (nI g)] τ 0 0) (show rI τ 35 3 = nI t.1 from hbt.1)) ?_
    refine hAt 1 _ _ _ _ _ _ ?_
    refine And.intro (fun hq => ?_) (fun hq => ?_)
    · have c27 : t.1 ≤ g := (leN (a := t.1) (b := g) rfl rfl (by omega) (by omega)).mp hq
      clear hq
      refine hAt 2 _ _ _ _ _ _ ?_
      have e : g = t.1 := by omega
      subst e
      rw [Nat.sub_self] at he
      have z := hP τ hx
      rw [he] at z
      exact z
    · have c27 : g < t.1 := Nat.lt_of_not_le (fun zq => hq ((leN (a := t.1) (b := g) rfl rfl (by omega) (by omega)).mpr zq))
      clear hq
      refine hAt 5 _ _ _ _ _ _ ?_
      refine s_search (hfr τ hx).1 hv (hfr τ hx).2 hn hg fun τ2 hx2 => ?_
      have hx3 := hx.trans hx2.f
      refine Eq.mpr (congrArg (fun xq : Int32 => At 39 [.ref (105), .int (nI g)] [.int xq] τ2 0 0) (show rI τ2 105 4 = nI (exY s t (nI g)) from hx2.2.2.2.2.1)) ?_
      refine hAt 1 _ _ _ _ _ _ ?_
      refine And.intro (fun hq => ?_) (fun hq => ?_)
      · have c39 : exY s t (nI g) ≤ 0 := (leN (a := exY s t (nI g)) (b := 0) rfl rfl (by omega) (by omega)).mp hq
        clear hq
        refine hAt 2 _ _ _ _ _ _ ?_
        refine Eq.mpr (congrArg (fun xq : Int32 => At 16 [.ref (105), .int xq] [] τ2 0 0) (show nI g + nI 1 = nI (g + 1) from (adE rfl rfl))) ?_
        refine ih c27 ?_ τ2 hx3
        rw [he, show t.1 - g = (t.1 - (g + 1)) + 1 by omega, fsF, if_neg (by rw [decide_eq_true_eq]; omega)]
      · have c39 : 0 < exY s t (nI g) := Nat.lt_of_not_le (fun zq => hq ((leN (a := exY s t (nI g)) (b := 0) rfl rfl (by omega) (by omega)).mpr zq))
        clear hq
        refine hAt 2 _ _ _ _ _ _ ?_
        have z := hP τ2 hx3
        rw [he, show t.1 - g = (t.1 - (g + 1)) + 1 by omega, fsF, if_pos (decide_eq_true (by omega))] at z
        exact z
  have hx : xF σ σ := ⟨fun _ _ _ _ => rfl, rfl⟩
  have eb := exY_b (s := s) hn (-1)
  refine hAt 5 _ _ _ _ _ _ ?_
  refine s_search (hfr σ hx).1 hv (hfr σ hx).2 hn hg fun τ2 hx2 => ?_
  have hx3 := hx.trans hx2.f
  refine Eq.mpr (congrArg (fun xq : Int32 => At 9 [.ref (105), junk] [.int xq] τ2 0 0) (show rI τ2 105 4 = nI (exY s t (-1)) from hx2.2.2.2.2.1)) ?_
  refine hAt 1 _ _ _ _ _ _ ?_
  refine And.intro (fun hq => ?_) (fun hq => ?_)
  · have c9 : exY s t (-1) ≤ 0 := (leN (a := exY s t (-1)) (b := 0) rfl rfl (by omega) (by omega)).mp hq
    clear hq
    refine hAt 2 _ _ _ _ _ _ ?_
    refine loop (by omega) 0 (by omega) ?_ τ2 hx3
    rw [lyA, if_neg (by omega), Nat.sub_zero]
  · have c9 : 0 < exY s t (-1) := Nat.lt_of_not_le (fun zq => hq ((leN (a := exY s t (-1)) (b := 0) rfl rfl (by omega) (by omega)).mpr zq))
    clear hq
    refine hAt 2 _ _ _ _ _ _ ?_
    have z := hP τ2 hx3
    rw [lyA, if_pos (by omega)] at z
    exact z
theorem s_sure {y : Nat} {z : Int32} (h1 : rI σ 105 4 = nI y) (hy : y ≤ 1000000) (h2 : rI σ 105 5 = z) (hP : P (some (.int (if y = 0 then nI 0 else z))) σ) : Ret w true (d + 1) 0 0 m_Guess_sure [.ref 105] σ P X := by
  refine meth_ok k_Guess_sure q_Guess_sure rfl fun At hAt => ?_
  refine hAt 2 _ _ _ _ _ _ ?_
  refine Eq.mpr (congrArg (fun xq : Int32 => At 4 [.ref (105)] [.int xq] σ 0 0) (show rI σ 105 4 = nI y from h1)) ?_
  refine hAt 1 _ _ _ _ _ _ ?_
  refine And.intro (fun hq => ?_) (fun hq => ?_)
  · have c4 : ¬ y = 0 := fun zq => hq ((eqN (a := y) (b := 0) rfl rfl (by omega) (by omega)).mpr zq)
    clear hq
    refine hAt 2 _ _ _ _ _ _ ?_
    refine Eq.mpr (congrArg (fun xq : Int32 => At 15 [.ref (105)] [.int xq] σ 0 0) (show rI σ 105 5 = z from h2)) ?_
    refine hAt 1 _ _ _ _ _ _ ?_
    rw [if_neg c4] at hP; exact hP
  · have c4 : y = 0 := (eqN (a := y) (b := 0) rfl rfl (by omega) (by omega)).mp hq
    clear hq
    refine hAt 3 _ _ _ _ _ _ ?_
    rw [if_pos c4] at hP; exact hP
theorem s_ways (hP : P (some (.int (rI σ 105 4))) σ) : Ret w true (d + 1) 0 0 m_Guess_ways [.ref 105] σ P X := by
  refine meth_ok k_Guess_ways q_Guess_ways rfl fun At hAt => hAt 50 _ _ _ _ _ _ ?_
  exact hP
end EXD
section EXE
variable {w : Wd} {d : Nat} {A : St} {v : AV}
theorem xF.ic {σ τ : Mem} (hI : IC A σ) (hv : VA A) (h : xF σ τ) : frC σ τ ∧ IC A τ := by
  have hN : mN τ = mN σ := congrArg (fun z => z.2.2.1) h.2
  exact ⟨⟨fun a h1 h2 i => h.1 a i (by omega) (by omega), fun i => congrArg (fun z => z.1 367 i) h.2, by omega⟩, hI.scr (fun a i t => h.1 a i (by omega) (by omega)) (by omega) hv.2.2.2.2.1⟩
theorem hgA (hv : VA A) : hgT (aSk A) (aBk A).2.2 := hv.2.2.2.1.2.2.2.2.2.1
theorem CC_explain_bad {x : Int32} (hx : x < nI 0 ∨ nI 3 ≤ x) : CC w (d + 13) m_OC_explain [.int x] A 1 v A := by
  intro σ P X hI _ hX
  refine meth_ok k_OC_explain q_OC_explain rfl fun At hAt => ?_
  refine hAt 2 _ _ _ _ _ _ ?_
  refine And.intro (fun hq => ?_) (fun hq => ?_)
  · have c1 : x < nI 0 := hq
    clear hq
    refine hAt 2 _ _ _ _ _ _ ?_
    exact callG 1 6 (by omega) (by omega) (s_need_bad rfl (by omega) (by omega) hI.n (fun n => hX 0 rfl _ (frC.nX σ n) (hI.nX n)))
  · have c1 : ¬ x < nI 0 := hq
    clear hq
    refine hAt 3 _ _ _ _ _ _ ?_
    refine And.intro (fun hq => ?_) (fun hq => ?_)
    · have c6 : nI 2 < x := hq
      clear hq
      refine hAt 2 _ _ _ _ _ _ ?_
      exact callG 1 6 (by omega) (by omega) (s_need_bad rfl (by omega) (by omega) hI.n (fun n => hX 0 rfl _ (frC.nX σ n) (hI.nX n)))
    · have c6 : ¬ nI 2 < x := hq
      clear hq
      exact absurd ⟨c1, c6⟩ (in_bad' (n := 2) (by omega) hx)
theorem CC_explain_ok {i : Nat} (hv : VA A) (hi : i < 3) : CC w (d + 13) m_OC_explain [.int (nI i)] A 0 (.int (exA A i)) A := by
  intro σ P X hI hP _
  have hn := hv.2.2.2.1.2.2.1
  have eb := exY_b (s := aSk A) hn (-1)
  refine meth_ok k_OC_explain q_OC_explain rfl fun At hAt => ?_
  refine hAt 2 _ _ _ _ _ _ ?_
  refine And.intro (fun hq => ?_) (fun hq => ?_)
  · have c1 : i < 0 := (ltN (a := i) (b := 0) rfl rfl (by omega) (by omega)).mp hq
    clear hq
    exact absurd c1 (by omega)
  · have c1 : 0 ≤ i := Nat.le_of_not_lt (fun zq => hq ((ltN (a := i) (b := 0) rfl rfl (by omega) (by omega)).mpr zq))
    clear hq
    refine hAt 3 _ _ _ _ _ _ ?_
    refine And.intro (fun hq => ?_) (fun hq => ?_)
    · have c6 : 2 < i := (ltN (a := 2) (b := i) rfl rfl (by omega) (by omega)).mp hq
      clear hq
      exact absurd c6 (by omega)
    · have c6 : i ≤ 2 := Nat.le_of_not_lt (fun zq => hq ((ltN (a := 2) (b := i) rfl rfl (by omega) (by omega)).mpr zq))
      clear hq
      refine hAt 6 _ _ _ _ _ _ ?_
      refine callG 0 0 (by omega) (by omega) (s_need_ok (by decide) ?_)
      refine And.intro (fun hq => ?_) (fun hq => ?_)
      · have c19 : ¬ i = 2 := fun zq => hq ((eqN (a := i) (b := 2) rfl rfl (by omega) (by omega)).mpr zq)
        clear hq
        refine hAt 6 _ _ _ _ _ _ ?_
        refine s_search hI.sk hv.2.2.1 hI.bk.2.2 hn (hgA hv) fun τ hx => ?_
        obtain ⟨f1, f2⟩ := hx.f.ic hI hv
        refine And.intro (fun hq => ?_) (fun hq => ?_)
        · have c39 : ¬ i = 0 := fun zq => hq ((eqN (a := i) (b := 0) rfl rfl (by omega) (by omega)).mpr zq)
          clear hq
          refine hAt 4 _ _ _ _ _ _ ?_
          refine s_sure hx.2.2.2.2.1 eb hx.2.2.2.2.2 ?_
          have fin := hP rfl τ f1 f2
          rw [exA, if_neg (by omega), if_pos (by omega)] at fin
          by_cases e : exY (aSk A) (aBk A).2.2 (-1) = 0
          · rw [if_pos e] at fin ⊢; exact fin
          · rw [if_neg e] at fin ⊢; rw [exZ_msk (by omega)]; exact fin
        · have c39 : i = 0 := (eqN (a := i) (b := 0) rfl rfl (by omega) (by omega)).mp hq
          clear hq
          refine hAt 3 _ _ _ _ _ _ ?_
          refine s_ways ?_
          refine Eq.mpr (congrArg (fun xq : Int32 => At 49 [.ref (0), .int (nI i)] [.int xq] τ 0 0) (show rI τ 105 4 = nI (exY (aSk A) (aBk A).2.2 (-1)) from hx.2.2.2.2.1)) ?_
          refine hAt 2 _ _ _ _ _ _ ?_
          have fin := hP rfl τ f1 f2
          rw [exA, if_pos (by omega)] at fin
          exact fin
      · have c19 : i = 2 := (eqN (a := i) (b := 2) rfl rfl (by omega) (by omega)).mp hq
        clear hq
        refine hAt 4 _ _ _ _ _ _ ?_
        refine s_liar hI.sk hv.2.2.1 hI.bk.2.2 hn (hgA hv) fun τ hx => ?_
        obtain ⟨f1, f2⟩ := hx.ic hI hv
        have fin := hP rfl τ f1 f2
        rw [exA, if_neg (by omega), if_neg (by omega)] at fin
        exact fin
end EXE
