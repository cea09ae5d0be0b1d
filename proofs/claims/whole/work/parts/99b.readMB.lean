/-! WORDS on the model's side -/
/-- a word as a number: its last letter first -/
def cdR : List Nat → Nat
  | [] => 0
  | c :: t => 27 * cdR t + (c - 96)
theorem cdR_lt : ∀ (l : List Nat), (∀ c ∈ l, 97 ≤ c ∧ c ≤ 122) → cdR l < 27 ^ l.length
  | [], _ => by decide
  | c :: t, h => by
    have := cdR_lt t (fun x hx => h x (List.mem_cons_of_mem _ hx))
    have hc := h c List.mem_cons_self
    rw [cdR, List.length_cons, Nat.pow_succ]
    omega
theorem cdR_inj : ∀ (l m : List Nat), (∀ c ∈ l, 97 ≤ c ∧ c ≤ 122) → (∀ c ∈ m, 97 ≤ c ∧ c ≤ 122) → cdR l = cdR m → l = m
  | [], [], _, _, _ => rfl
  | [], c :: t, _, h, e => by have hc := h c List.mem_cons_self; simp only [cdR] at e; omega
  | c :: t, [], h, _, e => by have hc := h c List.mem_cons_self; simp only [cdR] at e; omega
  | c :: t, c' :: t', h, h', e => by
    have hc := h c List.mem_cons_self
    have hc' := h' c' List.mem_cons_self
    simp only [cdR] at e
    have e1 : c = c' := by omega
    have e2 := cdR_inj t t' (fun x hx => h x (List.mem_cons_of_mem _ hx)) (fun x hx => h' x (List.mem_cons_of_mem _ hx)) (by omega)
    rw [e1, e2]
/-- the letters from i on, m of them, as a number -/
def cdA (b : By) (i : Nat) : Nat → Nat
  | 0 => 0
  | m + 1 => 27 * cdA b i m + (b (i + m) - 96)
theorem cdA_R (b : By) (i : Nat) : ∀ m, cdA b i m = cdR (ltA b i m).reverse
  | 0 => rfl
  | m + 1 => by
    rw [cdA, cdA_R b i m]
    unfold ltA
    rw [List.range_succ, List.map_append, List.reverse_append]
    rfl
theorem cdA_lt {b : By} {i : Nat} : ∀ {m}, (∀ j, j < m → 97 ≤ b (i + j) ∧ b (i + j) ≤ 122) → cdA b i m < 27 ^ m
  | 0, _ => Nat.zero_lt_one
  | m + 1, h => by
    have := cdA_lt (m := m) (fun j hj => h j (by omega))
    have := h m (by omega)
    rw [cdA, Nat.pow_succ]; omega
def wdC (b : By) (n i : Nat) : Int64 := if 8 < wE b n i - i then - lN 1 else lN (cdA b i (wE b n i - i))
def cW (k : Nat) : Nat := cdR (ow_ch (wT k)).reverse
theorem cW_l : ∀ k, k < 11 → (∀ c ∈ (ow_ch (wT k)).reverse, 97 ≤ c ∧ c ≤ 122) ∧ (ow_ch (wT k)).length ≤ 8 := by decide
theorem cW_lt : ∀ k, k < 11 → cW k < 2 ^ 40 := by decide
theorem m1_ne {a : Nat} (h : a < 2 ^ 62) : ¬ - lN 1 = lN a := fun q => by
  have := congrArg Int64.toInt q
  rw [show (- lN 1 : Int64).toInt = -1 from rfl, show (lN a).toInt = (a : Int) from Int64.toInt_ofNat_of_lt (by omega)] at this
  omega
theorem wdC_w {b : By} {n i k : Nat} (hk : k < 11) : wdC b n i = lN (cW k) ↔ ltA b i (wE b n i - i) = ow_ch (wT k) := by
  obtain ⟨g1, g2⟩ := cW_l k hk
  have g3 := cW_lt k hk
  have hl : ∀ j, j < wE b n i - i → 97 ≤ b (i + j) ∧ b (i + j) ≤ 122 := fun j hj => of_decide_eq_true (pE_in isLe b n i (i + j) (by omega) (show i + j < wE b n i by omega)).1
  unfold wdC
  by_cases h8 : 8 < wE b n i - i
  · rw [if_pos h8]
    refine ⟨fun q => absurd q (m1_ne (by omega)), fun q => ?_⟩
    have := congrArg List.length q
    simp [ltA] at this
    omega
  · rw [if_neg h8]
    have h9 := cdA_lt hl
    have h10 : 27 ^ (wE b n i - i) ≤ 27 ^ 8 := Nat.pow_le_pow_right (by decide) (by omega)
    constructor
    · intro q
      have e := l_inj (by omega) (by omega) q
      rw [cdA_R] at e
      have z := cdR_inj _ _ (fun c hc => ?_) g1 e
      · exact List.reverse_inj.mp z
      · obtain ⟨j, hj, rfl⟩ := List.mem_map.mp (List.mem_reverse.mp hc)
        exact hl j (List.mem_range.mp hj)
    · intro q
      rw [cdA_R, q]; rfl
theorem woR_none {l : List Nat} : ∀ {m}, m ≤ 11 → woR l m = none → ∀ k, 11 - m ≤ k → k < 11 → ¬ l = ow_ch (wT k)
  | 0, _, _, k, h1, h2 => absurd h1 (by omega)
  | m + 1, hm, h, k, h1, h2 => by
    rw [woR] at h
    by_cases e : l = ow_ch (wT (10 - m))
    · rw [if_pos e] at h; cases h
    · rw [if_neg e] at h
      by_cases q : k = 10 - m
      · rw [q]; exact e
      · exact woR_none (by omega) h k (by omega) h2
theorem wT_inj : ∀ k, k < 11 → ∀ j, j < 11 → ow_ch (wT k) = ow_ch (wT j) → k = j := by decide
theorem woA_w {b : By} {n i k : Nat} (hk : k < 11) (h : wdC b n i = lN (cW k)) : woA b n i = some k := by
  have e := (wdC_w hk).mp h
  unfold woA
  cases q : woR (ltA b i (wE b n i - i)) 11 with
  | none => exact absurd e (woR_none (Nat.le_refl _) q k (by omega) hk)
  | some j =>
    obtain ⟨g1, g2⟩ := woR_some (Nat.le_refl _) q
    rw [wT_inj j g1 k hk (g2.symm.trans e)]
theorem woA_n {b : By} {n i : Nat} (h : ∀ k, k < 11 → ¬ wdC b n i = lN (cW k)) : woA b n i = none := by
  cases q : woA b n i with
  | none => rfl
  | some j =>
    obtain ⟨g1, g2⟩ := woR_some (Nat.le_refl _) q
    exact absurd ((wdC_w g1).mpr g2) (h j g1)
/-- the model's number of a word -/
def mk : Nat → Nat
  | 0 => 0
  | 1 => 10
  | 2 => 2
  | 3 => 11
  | 4 => 3
  | 5 => 4
  | 6 => 5
  | 7 => 6
  | 8 => 7
  | 9 => 8
  | _ => 9
def kdI (b : By) (n i : Nat) : Int32 := match woA b n i with
  | none => -1
  | some k => nI (mk k)
def fv (a b c d e : Nat) : Nat :=
  if e = 0 then (if d = 0 then 27 * (27 * a + b) + c else 27 * (27 * (27 * a + b) + c) + d) else 27 * (if d = 0 then 27 * (27 * a + b) + c else 27 * (27 * (27 * a + b) + c) + d) + e
section RMB
variable {w : Wd} {d : Nat} {σ : Mem} {b : By} {n : Nat} {P : Option AV → Mem → Prop} {X : Nat → Mem → Prop}
theorem s_five {a1 a2 a3 a4 a5 : Nat} (h1 : a1 < 27) (h2 : a2 < 27) (h3 : a3 < 27) (h4 : a4 < 27) (h5 : a5 < 27) (hP : P (some (.long (lN (fv a1 a2 a3 a4 a5)))) σ) : Ret w true (d + 1) 0 0 m_Mo_five [.int (nI a1), .int (nI a2), .int (nI a3), .int (nI a4), .int (nI a5)] σ P X := by
  refine meth_ok k_Mo_five q_Mo_five rfl fun At hAt => ?_
  have e0 : lN 27 * (lN 27 * (nI a1).toInt64 + (nI a2).toInt64) + (nI a3).toInt64 = lN (27 * (27 * a1 + a2) + a3) := by
    rw [l_of (by omega), l_of (by omega), l_of (by omega), l_mul, l_add, l_mul, l_add]
  have e4 : (nI a4).toInt64 = lN a4 := l_of (by omega)
  have e5 : (nI a5).toInt64 = lN a5 := l_of (by omega)
  refine hAt 15 _ _ _ _ _ _ ?_
  refine And.intro (fun hq => ?_) (fun hq => ?_)
  · have c19 : ¬ a4 = 0 := fun zq => hq ((eqN (a := a4) (b := 0) rfl rfl (by omega) (by omega)).mpr zq)
    clear hq
    refine hAt 9 _ _ _ _ _ _ ?_
    refine And.intro (fun hq => ?_) (fun hq => ?_)
    · have c40 : ¬ a5 = 0 := fun zq => hq ((eqN (a := a5) (b := 0) rfl rfl (by omega) (by omega)).mpr zq)
      clear hq
      refine hAt 7 _ _ _ _ _ _ ?_
      have e : fv a1 a2 a3 a4 a5 = 27 * (27 * (27 * (27 * a1 + a2) + a3) + a4) + a5 := by unfold fv; rw [if_neg c40, if_neg c19]
      rw [e] at hP
      refine Eq.mpr (congrArg (fun z => P (some (.long z)) σ) ?_) hP
      rw [e0, e4, l_mul, l_add, e5, l_mul, l_add]
    · have c40 : a5 = 0 := (eqN (a := a5) (b := 0) rfl rfl (by omega) (by omega)).mp hq
      clear hq
      refine hAt 3 _ _ _ _ _ _ ?_
      have e : fv a1 a2 a3 a4 a5 = 27 * (27 * (27 * a1 + a2) + a3) + a4 := by unfold fv; rw [if_pos c40, if_neg c19]
      rw [e] at hP
      refine Eq.mpr (congrArg (fun z => P (some (.long z)) σ) ?_) hP
      rw [e0, e4, l_mul, l_add]
  · have c19 : a4 = 0 := (eqN (a := a4) (b := 0) rfl rfl (by omega) (by omega)).mp hq
    clear hq
    refine hAt 5 _ _ _ _ _ _ ?_
    refine And.intro (fun hq => ?_) (fun hq => ?_)
    · have c40 : ¬ a5 = 0 := fun zq => hq ((eqN (a := a5) (b := 0) rfl rfl (by omega) (by omega)).mpr zq)
      clear hq
      refine hAt 7 _ _ _ _ _ _ ?_
      have e : fv a1 a2 a3 a4 a5 = 27 * (27 * (27 * a1 + a2) + a3) + a5 := by unfold fv; rw [if_neg c40, if_pos c19]
      rw [e] at hP
      refine Eq.mpr (congrArg (fun z => P (some (.long z)) σ) ?_) hP
      rw [e0, e5, l_mul, l_add]
    · have c40 : a5 = 0 := (eqN (a := a5) (b := 0) rfl rfl (by omega) (by omega)).mp hq
      clear hq
      refine hAt 3 _ _ _ _ _ _ ?_
      have e : fv a1 a2 a3 a4 a5 = 27 * (27 * a1 + a2) + a3 := by unfold fv; rw [if_pos c40, if_pos c19]
      rw [e] at hP
      refine Eq.mpr (congrArg (fun z => P (some (.long z)) σ) ?_) hP
      rw [e0]
theorem s_wordHere {i : Nat} (hn : n ≤ 600) (hb : ∀ j, j < n → b j < 256) (hB : rmB b n σ) (h3 : rI σ 108 4 = nI i) (hi : i ≤ n) (hs : bS b n i = i) (hP : P (some (.long (wdC b n i))) σ) : Ret w true (d + 3) 0 0 m_Mo_wordHere [.ref 108] σ P X := by
  refine meth_ok k_Mo_wordHere q_Mo_wordHere rfl fun At hAt => ?_
  have e1 := pE_ge isLe b n i
  have e2 := pE_le isLe b n i hi
  have loop : ∀ m, m ≤ n - i → wE b n (i + m) = wE b n i → At 8 [.ref 108, .long (lN (cdA b i (min m 8))), junk, .int (nI m)] [] σ 0 0 := by
    refine upto fun m hm ih => ?_
    intro hw
    have hz := zb_b hb (i + m)
    have out : ¬ (97 ≤ zb b n (i + m) ∧ zb b n (i + m) ≤ 122) → wE b n i - i = m := fun q => by
      have : wE b n i = i + m := by rw [← hw, wE, pE_e (fun z => q (by have := of_decide_eq_true z.2; rw [zb_in z.1]; omega))]
      omega
    have fin8 : ¬ (97 ≤ zb b n (i + m) ∧ zb b n (i + m) ≤ 122) → 8 < m → P (some (.long (- lN 1))) σ := fun q h => by
      rw [wdC, if_pos (by rw [out q]; exact h)] at hP; exact hP
    have fin : ¬ (97 ≤ zb b n (i + m) ∧ zb b n (i + m) ≤ 122) → m ≤ 8 → P (some (.long (lN (cdA b i (min m 8))))) σ := fun q h => by
      rw [wdC, if_neg (by rw [out q]; omega), out q] at hP
      rw [Nat.min_eq_left h]; exact hP
    have nxt : 97 ≤ zb b n (i + m) → zb b n (i + m) ≤ 122 → i + m < n ∧ 97 ≤ b (i + m) ∧ b (i + m) ≤ 122 ∧ wE b n (i + (m + 1)) = wE b n i := fun q1 q2 => by
      obtain ⟨g1, g2⟩ := zb_p (b := b) (n := n) (k := i + m) (z := 97) (by omega) q1
      refine ⟨g1, by omega, by omega, ?_⟩
      rw [← hw]
      exact (pE_s g1 (decide_eq_true (by omega))).symm
    refine hAt 3 _ _ _ _ _ _ ?_
    refine Eq.mpr (congrArg (fun xq : Int32 => At 13 [.ref (108), .long (lN (cdA b i (min m 8))), junk, .int (nI m)] [.int xq, .ref (108)] σ 0 0) (show rI σ 108 4 = nI i from h3)) ?_
    refine hAt 2 _ _ _ _ _ _ ?_
    refine Eq.mpr (congrArg (fun xq : Int32 => At 15 [.ref (108), .long (lN (cdA b i (min m 8))), junk, .int (nI m)] [.int xq, .ref (108)] σ 0 0) (show nI i + nI m = nI (i + m) from (adE rfl rfl))) ?_
    refine hAt 3 _ _ _ _ _ _ ?_
    refine s_byteAt hn hB (by omega) ?_
    refine And.intro (fun hq => ?_) (fun hq => ?_)
    · have c20 : (zb b n (i + m) : Int) < 97 := (ltZ (a := zb b n (i + m)) (b := 97) rfl (ntZ rfl) (by omega) (by omega) (by omega) (by omega)).mp hq
      clear hq
      refine hAt 3 _ _ _ _ _ _ ?_
      refine And.intro (fun hq => ?_) (fun hq => ?_)
      · have c81 : m ≤ 8 := (leN (a := m) (b := 8) rfl rfl (by omega) (by omega)).mp hq
        clear hq
        refine hAt 2 _ _ _ _ _ _ ?_
        exact fin (by omega) (by omega)
      · have c81 : 8 < m := Nat.lt_of_not_le (fun zq => hq ((leN (a := m) (b := 8) rfl rfl (by omega) (by omega)).mpr zq))
        clear hq
        refine hAt 3 _ _ _ _ _ _ ?_
        exact fin8 (by omega) (by omega)
    · have c20 : (97 : Int) ≤ (zb b n (i + m) : Int) := Int.not_lt.mp (fun zq => hq ((ltZ (a := zb b n (i + m)) (b := 97) rfl (ntZ rfl) (by omega) (by omega) (by omega) (by omega)).mpr zq))
      clear hq
      
      refine hAt 3 _ _ _ _ _ _ ?_
      refine Eq.mpr (congrArg (fun xq : Int32 => At 28 [.ref (108), .long (lN (cdA b i (min m 8))), junk, .int (nI m)] [.int xq, .ref (108)] σ 0 0) (show rI σ 108 4 = nI i from h3)) ?_
      refine hAt 2 _ _ _ _ _ _ ?_
      refine Eq.mpr (congrArg (fun xq : Int32 => At 30 [.ref (108), .long (lN (cdA b i (min m 8))), junk, .int (nI m)] [.int xq, .ref (108)] σ 0 0) (show nI i + nI m = nI (i + m) from (adE rfl rfl))) ?_
      refine hAt 3 _ _ _ _ _ _ ?_
      refine s_byteAt hn hB (by omega) ?_
      refine And.intro (fun hq => ?_) (fun hq => ?_)
      · have c35 : (122 : Int) < zb b n (i + m) := (ltZ (a := 122) (b := zb b n (i + m)) (ntZ rfl) rfl (by omega) (by omega) (by omega) (by omega)).mp hq
        clear hq
        refine hAt 3 _ _ _ _ _ _ ?_
        refine And.intro (fun hq => ?_) (fun hq => ?_)
        · have c81 : m ≤ 8 := (leN (a := m) (b := 8) rfl rfl (by omega) (by omega)).mp hq
          clear hq
          refine hAt 2 _ _ _ _ _ _ ?_
          exact fin (by omega) (by omega)
        · have c81 : 8 < m := Nat.lt_of_not_le (fun zq => hq ((leN (a := m) (b := 8) rfl rfl (by omega) (by omega)).mpr zq))
          clear hq
          refine hAt 3 _ _ _ _ _ _ ?_
          exact fin8 (by omega) (by omega)
      · have c35 : (zb b n (i + m) : Int) ≤ (122 : Int) := Int.not_lt.mp (fun zq => hq ((ltZ (a := 122) (b := zb b n (i + m)) (ntZ rfl) rfl (by omega) (by omega) (by omega) (by omega)).mpr zq))
        clear hq
        obtain ⟨g1, g2, g3, g4⟩ := nxt c20 c35
        refine hAt 3 _ _ _ _ _ _ ?_
        refine And.intro (fun hq => ?_) (fun hq => ?_)
        · have c41 : 8 ≤ m := (leN (a := 8) (b := m) rfl rfl (by omega) (by omega)).mp hq
          clear hq
          refine hAt 4 _ _ _ _ _ _ ?_
          refine Eq.mpr (congrArg (fun xq : Int32 => At 8 [.ref (108), .long (lN (cdA b i (min m 8))), junk, .int xq] [] σ 0 0) (show nI m + nI 1 = nI (m + 1) from (adE rfl rfl))) ?_
          have z := ih (by omega) g4
          rw [show min (m + 1) 8 = min m 8 by omega] at z
          exact z
        · have c41 : m < 8 := Nat.lt_of_not_le (fun zq => hq ((leN (a := 8) (b := m) rfl rfl (by omega) (by omega)).mpr zq))
          clear hq
          refine hAt 6 _ _ _ _ _ _ ?_
          refine Eq.mpr (congrArg (fun xq : Int32 => At 54 [.ref (108), .long (lN (cdA b i (min m 8))), junk, .int (nI m)] [.int xq, .ref (108), .long ((lN 27) * (lN (cdA b i (min m 8))))] σ 0 0) (show rI σ 108 4 = nI i from h3)) ?_
          refine hAt 2 _ _ _ _ _ _ ?_
          refine Eq.mpr (congrArg (fun xq : Int32 => At 56 [.ref (108), .long (lN (cdA b i (min m 8))), junk, .int (nI m)] [.int xq, .ref (108), .long ((lN 27) * (lN (cdA b i (min m 8))))] σ 0 0) (show nI i + nI m = nI (i + m) from (adE rfl rfl))) ?_
          refine hAt 11 _ _ _ _ _ _ ?_
          refine s_byteAtN hn hB g1 ?_
          refine Eq.mpr (congrArg (fun xq : Int32 => At 8 [.ref (108), .long (((((lN 27) * (lN (cdA b i (min m 8)))) + ((nI (b (i + m))).toInt64)) - (lN 97)) + (lN 1)), junk, .int xq] [] σ 0 0) (show nI m + nI 1 = nI (m + 1) from (adE rfl rfl))) ?_
          have z := ih (by omega) g4
          rw [show min (m + 1) 8 = min m 8 + 1 by omega, cdA, show i + min m 8 = i + m by omega] at z
          have e : lN 27 * lN (cdA b i (min m 8)) + (nI (b (i + m))).toInt64 - lN 97 + lN 1 = lN (27 * cdA b i (min m 8) + (b (i + m) - 96)) := by
            rw [l_of (by omega), l_mul, l_add, l_sub (by omega), l_add]
            congr 1
            omega
          exact Eq.mpr (congrArg (fun z => At 8 [.ref 108, .long z, junk, .int (nI (m + 1))] [] σ 0 0) e) z
  refine hAt 6 _ _ _ _ _ _ ?_
  refine s_blanks hn hb hB h3 hi ?_
  rw [hs, wI_self h3]
  exact loop 0 (Nat.zero_le _) rfl
theorem s_isWord {i : Nat} {W : Int64} (hn : n ≤ 600) (hb : ∀ j, j < n → b j < 256) (hB : rmB b n σ) (h3 : rI σ 108 4 = nI i) (hi : i ≤ n) (hs : bS b n i = i) (h5 : rI σ 108 5 = nI 0) (hP : P (some (.int (bI (decide (wdC b n i = W))))) σ) : Ret w true (d + 4) 0 0 m_Mo_isWord [.ref 108, .long W] σ P X := by
  refine meth_ok k_Mo_isWord q_Mo_isWord rfl fun At hAt => ?_
  refine hAt 2 _ _ _ _ _ _ ?_
  refine Eq.mpr (congrArg (fun xq : Int32 => At 4 [.ref (108), .long (W), junk] [.int xq] σ 0 0) (show rI σ 108 5 = nI 0 from h5)) ?_
  refine hAt 1 _ _ _ _ _ _ ?_
  refine And.intro (fun hq => absurd hq (by decide)) (fun _ => ?_)
  refine hAt 5 _ _ _ _ _ _ ?_
  refine s_wordHere hn hb hB h3 hi hs ?_
  refine And.intro (fun hq => ?_) (fun hq => ?_)
  · have c13 : ¬ lg_cmp (wdC b n i) W = nI 0 := hq
    clear hq
    refine hAt 2 _ _ _ _ _ _ ?_
    refine And.intro (rfl) ?_
    rw [decide_eq_false (fun z => c13 (lcmp0.mpr z))] at hP
    exact hP
  · have c13 : lg_cmp (wdC b n i) W = nI 0 := hq
    clear hq
    refine hAt 3 _ _ _ _ _ _ ?_
    refine And.intro (rfl) ?_
    rw [decide_eq_true (lcmp0.mp c13)] at hP
    exact hP
theorem s_kindHere {i : Nat} (hn : n ≤ 600) (hb : ∀ j, j < n → b j < 256) (hB : rmB b n σ) (h3 : rI σ 108 4 = nI i) (hi : i ≤ n) (hs : bS b n i = i) (h5 : rI σ 108 5 = nI 0) (hP : P (some (.int (kdI b n i))) σ) : Ret w true (d + 5) 0 0 m_Mo_kindHere [.ref 108] σ P X := by
  have yes : ∀ k, k < 11 → wdC b n i = lN (cW k) → P (some (.int (nI (mk k)))) σ := fun k hk q => by
    unfold kdI at hP
    rw [woA_w hk q] at hP
    exact hP
  have no : (∀ k, k < 11 → ¬ wdC b n i = lN (cW k)) → P (some (.int (-1))) σ := fun q => by
    unfold kdI at hP
    rw [woA_n q] at hP
    exact hP
  refine meth_ok k_Mo_kindHere q_Mo_kindHere rfl fun At hAt => ?_
  refine hAt 9 _ _ _ _ _ _ ?_
  refine s_five (by omega) (by omega) (by omega) (by omega) (by omega) ?_
  refine s_isWord hn hb hB h3 hi hs h5 ?_
  rw [show lN (fv 19 11 25 0 0) = lN (cW 0) from rfl]
  refine And.intro (fun hq => ?_) (fun hq => ?_)
  · have c15 : ¬ (wdC b n i = lN (cW 0)) := of_decide_eq_false (bI_eq hq)
    clear hq
    refine hAt 9 _ _ _ _ _ _ ?_
    refine s_five (by omega) (by omega) (by omega) (by omega) (by omega) ?_
    refine s_isWord hn hb hB h3 hi hs h5 ?_
    rw [show lN (fv 3 12 15 21 4) = lN (cW 2) from rfl]
    refine And.intro (fun hq => ?_) (fun hq => ?_)
    · have c35 : ¬ (wdC b n i = lN (cW 2)) := of_decide_eq_false (bI_eq hq)
      clear hq
      refine hAt 9 _ _ _ _ _ _ ?_
      refine s_five (by omega) (by omega) (by omega) (by omega) (by omega) ?_
      refine s_isWord hn hb hB h3 hi hs h5 ?_
      rw [show lN (fv 6 9 5 12 4) = lN (cW 4) from rfl]
      refine And.intro (fun hq => ?_) (fun hq => ?_)
      · have c55 : ¬ (wdC b n i = lN (cW 4)) := of_decide_eq_false (bI_eq hq)
        clear hq
        refine hAt 17 _ _ _ _ _ _ ?_
        refine s_five (by omega) (by omega) (by omega) (by omega) (by omega) ?_
        refine s_isWord hn hb hB h3 hi hs h5 ?_
        rw [show ((lN 27) * (((lN 27) * (lN (fv 7 12 1 3 9))) + (lN 5))) + (lN 18) = lN (cW 5) from rfl]
        refine And.intro (fun hq => ?_) (fun hq => ?_)
        · have c91 : ¬ (wdC b n i = lN (cW 5)) := of_decide_eq_false (bI_eq hq)
          clear hq
          refine hAt 9 _ _ _ _ _ _ ?_
          refine s_five (by omega) (by omega) (by omega) (by omega) (by omega) ?_
          refine s_isWord hn hb hB h3 hi hs h5 ?_
          rw [show lN (fv 10 15 9 14 0) = lN (cW 6) from rfl]
          refine And.intro (fun hq => ?_) (fun hq => ?_)
          · have c112 : ¬ (wdC b n i = lN (cW 6)) := of_decide_eq_false (bI_eq hq)
            clear hq
            refine hAt 9 _ _ _ _ _ _ ?_
            refine s_five (by omega) (by omega) (by omega) (by omega) (by omega) ?_
            refine s_isWord hn hb hB h3 hi hs h5 ?_
            rw [show lN (fv 18 1 20 5 0) = lN (cW 7) from rfl]
            refine And.intro (fun hq => ?_) (fun hq => ?_)
            · have c131 : ¬ (wdC b n i = lN (cW 7)) := of_decide_eq_false (bI_eq hq)
              clear hq
              refine hAt 9 _ _ _ _ _ _ ?_
              refine s_five (by omega) (by omega) (by omega) (by omega) (by omega) ?_
              refine s_isWord hn hb hB h3 hi hs h5 ?_
              rw [show lN (fv 8 15 12 4 0) = lN (cW 8) from rfl]
              refine And.intro (fun hq => ?_) (fun hq => ?_)
              · have c152 : ¬ (wdC b n i = lN (cW 8)) := of_decide_eq_false (bI_eq hq)
                clear hq
                refine hAt 9 _ _ _ _ _ _ ?_
                refine s_five (by omega) (by omega) (by omega) (by omega) (by omega) ?_
                refine s_isWord hn hb hB h3 hi hs h5 ?_
                rw [show lN (fv 8 1 9 12 0) = lN (cW 9) from rfl]
                refine And.intro (fun hq => ?_) (fun hq => ?_)
                · have c173 : ¬ (wdC b n i = lN (cW 9)) := of_decide_eq_false (bI_eq hq)
                  clear hq
                  refine hAt 9 _ _ _ _ _ _ ?_
                  refine s_five (by omega) (by omega) (by omega) (by omega) (by omega) ?_
                  refine s_isWord hn hb hB h3 hi hs h5 ?_
                  rw [show lN (fv 6 12 15 15 4) = lN (cW 10) from rfl]
                  refine And.intro (fun hq => ?_) (fun hq => ?_)
                  · have c195 : ¬ (wdC b n i = lN (cW 10)) := of_decide_eq_false (bI_eq hq)
                    clear hq
                    refine hAt 9 _ _ _ _ _ _ ?_
                    refine s_five (by omega) (by omega) (by omega) (by omega) (by omega) ?_
                    refine s_isWord hn hb hB h3 hi hs h5 ?_
                    rw [show lN (fv 23 9 14 4 0) = lN (cW 1) from rfl]
                    refine And.intro (fun hq => ?_) (fun hq => ?_)
                    · have c216 : ¬ (wdC b n i = lN (cW 1)) := of_decide_eq_false (bI_eq hq)
                      clear hq
                      refine hAt 9 _ _ _ _ _ _ ?_
                      refine s_five (by omega) (by omega) (by omega) (by omega) (by omega) ?_
                      refine s_isWord hn hb hB h3 hi hs h5 ?_
                      rw [show lN (fv 19 5 5 14 0) = lN (cW 3) from rfl]
                      refine And.intro (fun hq => ?_) (fun hq => ?_)
                      · have c236 : ¬ (wdC b n i = lN (cW 3)) := of_decide_eq_false (bI_eq hq)
                        clear hq
                        refine hAt 2 _ _ _ _ _ _ ?_
                        exact no (fun k hk => by
                          have : k = 0 ∨ k = 1 ∨ k = 2 ∨ k = 3 ∨ k = 4 ∨ k = 5 ∨ k = 6 ∨ k = 7 ∨ k = 8 ∨ k = 9 ∨ k = 10 := by omega
                          rcases this with rfl | rfl | rfl | rfl | rfl | rfl | rfl | rfl | rfl | rfl | rfl
                          · exact c15
                          · exact c216
                          · exact c35
                          · exact c236
                          · exact c55
                          · exact c91
                          · exact c112
                          · exact c131
                          · exact c152
                          · exact c173
                          · exact c195)
                      · have c236 : wdC b n i = lN (cW 3) := of_decide_eq_true (bI_ne hq)
                        clear hq
                        refine hAt 3 _ _ _ _ _ _ ?_
                        exact yes 3 (by decide) c236
                    · have c216 : wdC b n i = lN (cW 1) := of_decide_eq_true (bI_ne hq)
                      clear hq
                      refine hAt 2 _ _ _ _ _ _ ?_
                      exact yes 1 (by decide) c216
                  · have c195 : wdC b n i = lN (cW 10) := of_decide_eq_true (bI_ne hq)
                    clear hq
                    refine hAt 2 _ _ _ _ _ _ ?_
                    exact yes 10 (by decide) c195
                · have c173 : wdC b n i = lN (cW 9) := of_decide_eq_true (bI_ne hq)
                  clear hq
                  refine hAt 2 _ _ _ _ _ _ ?_
                  exact yes 9 (by decide) c173
              · have c152 : wdC b n i = lN (cW 8) := of_decide_eq_true (bI_ne hq)
                clear hq
                refine hAt 2 _ _ _ _ _ _ ?_
                exact yes 8 (by decide) c152
            · have c131 : wdC b n i = lN (cW 7) := of_decide_eq_true (bI_ne hq)
              clear hq
              refine hAt 2 _ _ _ _ _ _ ?_
              exact yes 7 (by decide) c131
          · have c112 : wdC b n i = lN (cW 6) := of_decide_eq_true (bI_ne hq)
            clear hq
            refine hAt 2 _ _ _ _ _ _ ?_
            exact yes 6 (by decide) c112
        · have c91 : wdC b n i = lN (cW 5) := of_decide_eq_true (bI_ne hq)
          clear hq
          refine hAt 2 _ _ _ _ _ _ ?_
          exact yes 5 (by decide) c91
      · have c55 : wdC b n i = lN (cW 4) := of_decide_eq_true (bI_ne hq)
        clear hq
        refine hAt 2 _ _ _ _ _ _ ?_
        exact yes 4 (by decide) c55
    · have c35 : wdC b n i = lN (cW 2) := of_decide_eq_true (bI_ne hq)
      clear hq
      refine hAt 2 _ _ _ _ _ _ ?_
      exact yes 2 (by decide) c35
  · have c15 : wdC b n i = lN (cW 0) := of_decide_eq_true (bI_ne hq)
    clear hq
    refine hAt 2 _ _ _ _ _ _ ?_
    exact yes 0 (by decide) c15
end RMB
