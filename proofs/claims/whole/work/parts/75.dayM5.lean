/-! THE DAY on the model's side: rain and orders -/
/-- how many of the first n orders are of an hour -/
def ocn (b : Tb) (h : Nat) : Nat → Nat
  | 0 => 0
  | i + 1 => ocn b h i + if b.2 i 0 = h then 1 else 0
theorem ocn_mono {b : Tb} {h i : Nat} : ∀ n, i ≤ n → ocn b h i ≤ ocn b h n
  | 0, e => by have : i = 0 := by omega
               subst this; exact Nat.le_refl _
  | n + 1, e => by
    by_cases q : i = n + 1
    · subst q; exact Nat.le_refl _
    · have := ocn_mono (b := b) (h := h) (i := i) n (by omega); rw [ocn]; omega
theorem ocn_sum {b : Tb} {m : Nat} : ∀ n, sumN (fun h => ocn b h n) m ≤ n
  | 0 => by rw [show sumN (fun h => ocn b h 0) m = 0 from sumN_zero m (fun _ _ => rfl)]; exact Nat.le_refl _
  | n + 1 => by
    have e : sumN (fun h => ocn b h (n + 1)) m = sumN (fun h => ocn b h n) m + sumN (fun h => if h = b.2 n 0 then 1 else 0) m := by
      rw [← sumN_add]
      exact sumN_congr m (fun i _ => by
        show ocn b i (n + 1) = _
        rw [ocn]
        by_cases q : b.2 n 0 = i
        · rw [if_pos q, if_pos q.symm]
        · rw [if_neg q, if_neg (fun z => q z.symm)])
    rw [e, sumN_one]
    have := ocn_sum (b := b) (m := m) n
    split <;> omega
theorem cells_lt {W H x y : Nat} (hx : x < W) (hy : y < H) : W * y + x < W * H := by
  have h1 : W * (y + 1) ≤ W * H := Nat.mul_le_mul_left W (by omega)
  have h2 : W * (y + 1) = W * y + W := Nat.mul_succ W y
  omega
theorem sN4_id {D : Dy} {k : Nat} {v : Nat} (h : v = gN D 4 k) : sN D 4 k v = D := by
  refine Dy.ext (fun a c => ?_) (fun _ _ => rfl)
  rw [gN_sN]
  by_cases e : a = 4 ∧ c = k
  · rw [if_pos e, h, e.1, e.2]
  · rw [if_neg e]
theorem rwR.keep {σ τ : Mem} {f a wd : Nat} {t : Tb} (h : rwR σ f a wd t) (h1 : rI τ 108 f = rI σ 108 f) (h2 : ∀ k, k < t.1 → ∀ i, rI τ (a + 1 + k) i = rI σ (a + 1 + k) i) : rwR τ f a wd t := ⟨h1.trans h.1, fun k hk i hi => (h2 k hk i).trans (h.2 k hk i hi)⟩
section DM5
variable {w : Wd} {d : Nat} {σ0 σ : Mem} {s : Sk} {P : Option AV → Mem → Prop} {X : Nat → Mem → Prop}
theorem eM.or {D : Dy} {hf : Nat → Nat} {b : Tb} (hc : eM σ0 s hf D σ) (hB : b.1 ≤ 30) (hb0 : rwR σ0 19 184 4 b) : rwR σ 19 184 4 b := hb0.keep (hc.1.1 108 19 (by omega) (by omega)) (fun k hk i => hc.1.1 _ i (by omega) (by omega))
theorem s_draws {D : Dy} {a : Nat} {hf : Nat → Nat} (hv : VS s) (hc : eM σ0 s hf D σ) (ha : a ≤ 999) (hP : ∀ τ, eM σ0 s hf (sD D 0 0 (sdN (gD D 0 0))) τ → (∀ b j, b ≠ 108 → rI τ b j = rI σ b j) → P (some (.int (bI (decide (drN (sdN (gD D 0 0)) < a))))) τ) : Ret w true (d + 1) 0 0 m_Mo_draws [.ref 108, .int (nI a)] σ P X := by
  have hn := hv.2.2.1
  have hF := hv.2.2.2.1
  have hdr : drN (sdN (gD D 0 0)) < 8 := drN_lt _
  have es := hc.sed
  have z := fun b (e : b = decide (drN (sdN (gD D 0 0)) < a)) => e ▸ hP (wI σ 108 49 (sdN (gD D 0 0))) (hc.wsed (v := sdN (gD D 0 0)) hn hF) (fun b j q => by rw [rI_wI, if_neg (by omega)])
  refine meth_ok k_Mo_draws q_Mo_draws rfl fun At hAt => ?_
  refine hAt 3 _ _ _ _ _ _ ?_
  refine Eq.mpr (congrArg (fun xq : Int32 => At 5 [.ref (108), .int (nI a)] [.int xq, .ref (108)] σ 0 0) (show rI σ 108 49 = gD D 0 0 from es)) ?_
  refine hAt 7 _ _ _ _ _ _ ?_
  refine Eq.mpr (congrArg (fun xq : Int32 => At 20 [.ref (108), .int (nI a)] [.int xq] (wI σ 108 49 (((gD D 0 0) * nI 1103515245) + nI 12345)) 0 0) (show rI (wI σ 108 49 (((gD D 0 0) * nI 1103515245) + nI 12345)) 108 49 = ((gD D 0 0) * nI 1103515245) + nI 12345 from (by rw [rI_wI, if_pos ⟨rfl, rfl⟩]))) ?_
  refine hAt 6 _ _ _ _ _ _ ?_
  refine And.intro (fun hq => ?_) (fun hq => ?_)
  · have c27 : a ≤ drN (sdN (gD D 0 0)) := (leN (a := a) (b := drN (sdN (gD D 0 0))) rfl (drN_s (sdN (gD D 0 0))) (by omega) (by omega)).mp hq
    clear hq
    refine hAt 2 _ _ _ _ _ _ ?_
    refine And.intro (rfl) ?_
    exact z false (decide_eq_false (by omega)).symm
  · have c27 : drN (sdN (gD D 0 0)) < a := Nat.lt_of_not_le (fun zq => hq ((leN (a := a) (b := drN (sdN (gD D 0 0))) rfl (drN_s (sdN (gD D 0 0))) (by omega) (by omega)).mpr zq))
    clear hq
    refine hAt 3 _ _ _ _ _ _ ?_
    refine And.intro (rfl) ?_
    exact z true (decide_eq_true (by omega)).symm
theorem s_isKept {b : Tb} {h k : Nat} (hb : rwR σ 19 184 4 b) (hB : b.1 ≤ 30) (hbb : ∀ i, i < b.1 → b.2 i 0 < 50 ∧ b.2 i 1 < 8 ∧ b.2 i 2 ≤ 2) (hh : h < 50) (hk : k < 8) (hP : P (some (.int (bI (gnB b h k b.1)))) σ) : Ret w true (d + 1) 0 0 m_Mo_isKept [.ref 108, .int (nI k), .int (nI h)] σ P X := by
  refine meth_ok k_Mo_isKept q_Mo_isKept rfl fun At hAt => ?_
  have hit : ∀ i, i < b.1 → b.2 i 0 = h → b.2 i 1 = k → b.2 i 2 = 2 → gnB b h k b.1 = true := by
    intro i hi g0 g1 g2
    have aux : ∀ m, i < m → gnB b h k m = true := by
      intro m
      induction m with
      | zero => exact fun z => absurd z (Nat.not_lt_zero i)
      | succ m ih =>
        intro z
        rw [gnB, Bool.or_eq_true]
        by_cases e : i = m
        · subst e; exact Or.inr (decide_eq_true ⟨g0, g1, g2⟩)
        · exact Or.inl (ih (by omega))
    exact aux _ hi
  have loop : ∀ i, i ≤ b.1 → gnB b h k i = false → At 2 [.ref 108, .int (nI k), .int (nI h), .int (nI i)] [] σ 0 0 := by
    refine upto fun i hi ih => ?_
    intro hno
    have nxt : ¬ (b.2 i 0 = h ∧ b.2 i 1 = k ∧ b.2 i 2 = 2) → gnB b h k (i + 1) = false := fun q => by rw [gnB, hno, decide_eq_false q]; rfl
    refine hAt 3 _ _ _ _ _ _ ?_
    refine Eq.mpr (congrArg (fun xq : Int32 => At 7 [.ref (108), .int (nI k), .int (nI h), .int (nI i)] [.int xq, .int (nI i)] σ 0 0) (show rI σ 108 19 = nI b.1 from hb.1)) ?_
    refine hAt 1 _ _ _ _ _ _ ?_
    refine And.intro (fun hq => ?_) (fun hq => ?_)
    · have c7 : b.1 ≤ i := (leN (a := b.1) (b := i) rfl rfl (by omega) (by omega)).mp hq
      clear hq
      refine hAt 2 _ _ _ _ _ _ ?_
      refine And.intro (rfl) ?_
      have e : i = b.1 := by omega
      rw [e] at hno
      rw [hno] at hP
      exact hP
    · have c7 : i < b.1 := Nat.lt_of_not_le (fun zq => hq ((leN (a := b.1) (b := i) rfl rfl (by omega) (by omega)).mpr zq))
      clear hq
      have bi := hbb i c7
      refine hAt 4 _ _ _ _ _ _ ?_
      refine And.intro (mx_r (q := 184) (n := 30) (k := 4) rfl rfl (show i < 30 by omega)) (And.intro (Or.inl rfl) ?_)
      refine Eq.mpr (congrArg (fun xq : Nat => At 16 [.ref (108), .int (nI k), .int (nI h), .int (nI i)] [.ref xq] σ 0 0) (rwE rfl (by omega))) ?_
      refine hAt 2 _ _ _ _ _ _ ?_
      refine And.intro (mx_e (q := 184) (n := 30) (k := 4) (j := i) (i := 0) rfl (by omega) (by omega) rfl) ?_
      refine Eq.mpr (congrArg (fun xq : Int32 => At 18 [.ref (108), .int (nI k), .int (nI h), .int (nI i)] [.int xq] σ 0 0) (show rI σ (184 + 1 + i) (nI 0).toNatClampNeg = nI (b.2 i 0) from (ldE rfl (by omega) (hb.2 i (by omega) 0 (by omega))))) ?_
      refine hAt 2 _ _ _ _ _ _ ?_
      refine And.intro (fun hq => ?_) (fun hq => ?_)
      · have c19 : ¬ b.2 i 0 = h := fun zq => hq ((eqN (a := b.2 i 0) (b := h) rfl rfl (by omega) (by omega)).mpr zq)
        clear hq
        refine hAt 2 _ _ _ _ _ _ ?_
        refine Eq.mpr (congrArg (fun xq : Int32 => At 2 [.ref (108), .int (nI k), .int (nI h), .int xq] [] σ 0 0) (show nI i + nI 1 = nI (i + 1) from (adE rfl rfl))) ?_
        exact ih c7 (nxt (fun z => c19 z.1))
      · have c19 : b.2 i 0 = h := (eqN (a := b.2 i 0) (b := h) rfl rfl (by omega) (by omega)).mp hq
        clear hq
        refine hAt 4 _ _ _ _ _ _ ?_
        refine And.intro (mx_r (q := 184) (n := 30) (k := 4) rfl rfl (show i < 30 by omega)) (And.intro (Or.inl rfl) ?_)
        refine Eq.mpr (congrArg (fun xq : Nat => At 28 [.ref (108), .int (nI k), .int (nI h), .int (nI i)] [.ref xq] σ 0 0) (rwE rfl (by omega))) ?_
        refine hAt 2 _ _ _ _ _ _ ?_
        refine And.intro (mx_e (q := 184) (n := 30) (k := 4) (j := i) (i := 1) rfl (by omega) (by omega) rfl) ?_
        refine Eq.mpr (congrArg (fun xq : Int32 => At 30 [.ref (108), .int (nI k), .int (nI h), .int (nI i)] [.int xq] σ 0 0) (show rI σ (184 + 1 + i) (nI 1).toNatClampNeg = nI (b.2 i 1) from (ldE rfl (by omega) (hb.2 i (by omega) 1 (by omega))))) ?_
        refine hAt 2 _ _ _ _ _ _ ?_
        refine And.intro (fun hq => ?_) (fun hq => ?_)
        · have c31 : ¬ b.2 i 1 = k := fun zq => hq ((eqN (a := b.2 i 1) (b := k) rfl rfl (by omega) (by omega)).mpr zq)
          clear hq
          refine hAt 2 _ _ _ _ _ _ ?_
          refine Eq.mpr (congrArg (fun xq : Int32 => At 2 [.ref (108), .int (nI k), .int (nI h), .int xq] [] σ 0 0) (show nI i + nI 1 = nI (i + 1) from (adE rfl rfl))) ?_
          exact ih c7 (nxt (fun z => c31 z.2.1))
        · have c31 : b.2 i 1 = k := (eqN (a := b.2 i 1) (b := k) rfl rfl (by omega) (by omega)).mp hq
          clear hq
          refine hAt 4 _ _ _ _ _ _ ?_
          refine And.intro (mx_r (q := 184) (n := 30) (k := 4) rfl rfl (show i < 30 by omega)) (And.intro (Or.inl rfl) ?_)
          refine Eq.mpr (congrArg (fun xq : Nat => At 40 [.ref (108), .int (nI k), .int (nI h), .int (nI i)] [.ref xq] σ 0 0) (rwE rfl (by omega))) ?_
          refine hAt 2 _ _ _ _ _ _ ?_
          refine And.intro (mx_e (q := 184) (n := 30) (k := 4) (j := i) (i := 2) rfl (by omega) (by omega) rfl) ?_
          refine Eq.mpr (congrArg (fun xq : Int32 => At 42 [.ref (108), .int (nI k), .int (nI h), .int (nI i)] [.int xq] σ 0 0) (show rI σ (184 + 1 + i) (nI 2).toNatClampNeg = nI (b.2 i 2) from (ldE rfl (by omega) (hb.2 i (by omega) 2 (by omega))))) ?_
          refine hAt 2 _ _ _ _ _ _ ?_
          refine And.intro (fun hq => ?_) (fun hq => ?_)
          · have c43 : ¬ b.2 i 2 = 2 := fun zq => hq ((eqN (a := b.2 i 2) (b := 2) rfl rfl (by omega) (by omega)).mpr zq)
            clear hq
            refine hAt 2 _ _ _ _ _ _ ?_
            refine Eq.mpr (congrArg (fun xq : Int32 => At 2 [.ref (108), .int (nI k), .int (nI h), .int xq] [] σ 0 0) (show nI i + nI 1 = nI (i + 1) from (adE rfl rfl))) ?_
            exact ih c7 (nxt (fun z => c43 z.2.2))
          · have c43 : b.2 i 2 = 2 := (eqN (a := b.2 i 2) (b := 2) rfl rfl (by omega) (by omega)).mp hq
            clear hq
            refine hAt 2 _ _ _ _ _ _ ?_
            refine And.intro (rfl) ?_
            rw [hit i c7 c19 c31 c43] at hP
            exact hP
  refine hAt 2 _ _ _ _ _ _ ?_
  exact loop 0 (by omega) rfl
theorem s_rains {D : Dy} {b : Tb} {h : Nat} (hS0 : skM σ0 s) (hN0 : ow_n0 ≤ mN σ0) (hb0 : rwR σ0 19 184 4 b) (hB : b.1 ≤ 30) (hbb : ∀ i, i < b.1 → b.2 i 0 < 50 ∧ b.2 i 1 < kT s 2 ∧ b.2 i 2 ≤ 2 ∧ b.2 i 3 ≤ 999) (hv : VS s) (hh : h < 50) (hd : DV s (h + 1) D) (hrz : rz D) (hc : eM σ0 s (fun _ => h) D σ) (hP : ∀ τ, eM σ0 s (fun _ => h) (fld (ob1 s b h) (sR (fld (sp1 s b h) D (kT s 2)) 4 (fun _ => 0)) b.1) τ → hpM s (fld (ob1 s b h) (sR (fld (sp1 s b h) D (kT s 2)) 4 (fun _ => 0)) b.1) τ → P none τ) : Ret w true (d + 3) (8 + ocn b h b.1) (8 * (8 + ocn b h b.1)) m_Mo_rains [.ref 108, .int (nI h)] σ P X := by
  have hn := hv.2.2.1
  have hF := hv.2.2.2.1
  have s1 := hv.1
  have s2 := hv.2.1
  have hWH : kT s 0 * kT s 1 ≤ 8 * 8 := Nat.mul_le_mul s1.2 s2.2
  have hv' := hv
  obtain ⟨-, -, -, -, -, -, s6, s7, -⟩ := hv'
  refine meth_ok k_Mo_rains q_Mo_rains rfl fun At hAt => ?_
  obtain ⟨S, eS⟩ : ∃ S, S = fld (sp1 s b h) D (kT s 2) := ⟨_, rfl⟩
  rw [← eS] at hP
  have hdS : DVx s (pA s (h + 1)) (cap s (h + 1) (kT s 2)) (sR S 4 (fun _ => 0)) := by
    rw [eS]; exact DVx.sR4 (fld_dv (f := sp1 s b h) (n := kT s 2) (fun D k hk hd => sp1_dv (h := h) hv hk hd) hd _ (Nat.le_refl _))
  have loopO : ∀ i, i ≤ b.1 → ∀ τ z3 z4 u v, u ≤ 8 + ocn b h i → v ≤ 8 * (8 + ocn b h i) → eM σ0 s (fun _ => h) (fld (ob1 s b h) (sR S 4 (fun _ => 0)) i) τ → hpM s (fld (ob1 s b h) (sR S 4 (fun _ => 0)) i) τ → (∀ k, k < kT s 2 → rI τ 243 k = nI (gN (fld (ob1 s b h) (sR S 4 (fun _ => 0)) i) 4 k)) → At 115 [.ref 108, .int (nI h), .int (nI i), z3, z4] [] τ u v := by
    refine upto fun i hi ih => ?_
    intro τ z3 z4 u v hu hw hx hq hor
    have hS := hx.sk hS0 hv
    have hb := hx.or hB hb0
    have hdi := fld_dv (D := sR S 4 (fun _ => 0)) (f := ob1 s b h) (n := b.1) (fun D k hk hd => ob1_dv (h := h) hv (hbb k hk).2.1 hd) hdS i hi
    have h4 : ∀ k, k < kT s 2 → gN (fld (ob1 s b h) (sR S 4 (fun _ => 0)) i) 4 k ≤ kT s 6 := fun k hk => fld_4 (fun i hi => by have := hbb i hi; omega) (by rw [gR_eq (by omega)]; exact Nat.zero_le _) i hi
    have pk1 : ∀ k, k < kT s 2 → gN (fld (ob1 s b h) (sR S 4 (fun _ => 0)) i) 0 k = 1 → ∃ q, ps s k h = some q := fun k hk q => by
      have := (hdi.1 k hk q).1
      unfold pA at this
      rw [Nat.add_sub_cancel] at this
      cases e : ps s k h with
      | none => exact absurd e this.2
      | some q => exact ⟨q, rfl⟩
    obtain ⟨E, hE⟩ : ∃ E, E = fld (ob1 s b h) (sR S 4 (fun _ => 0)) i := ⟨_, rfl⟩
    have nxt : fld (ob1 s b h) (sR S 4 (fun _ => 0)) (i + 1) = ob1 s b h E i := by rw [hE]; rfl
    rw [nxt] at ih
    rw [← hE] at hx hq hdi pk1 hor h4
    have rk : ∀ k, k < kT s 2 → rs E (8 + k) ≤ 7992 := fun k _ => Nat.le_trans (hdi.rs_le (by omega) (by omega)) (cap_le hv (h + 1))
    have skip : i < b.1 → ob1 s b h E i = E → ∀ z3 z4, At 115 [.ref 108, .int (nI h), .int (nI (i + 1)), z3, z4] [] τ u v := fun hib q z3 z4 => by
      have := ocn_mono (b := b) (h := h) (i := i) (i + 1) (by omega)
      exact ih hib τ z3 z4 u v (by omega) (by omega) (by rw [q]; exact hx) (by rw [q]; exact hq) (by rw [q]; exact hor)
    have at287 : i < b.1 → b.2 i 0 = h → gN E 0 (b.2 i 1) = 1 → ∀ τ2, eM σ0 s (fun _ => h) (obS b E i) τ2 → hpM s (obS b E i) τ2 → (∀ a j, a ≠ 108 → rI τ2 a j = rI τ a j) → ∀ z4 n, n = obF s b E i → At 287 [.ref 108, .int (nI h), .int (nI i), .int (nI (b.2 i 1)), z4] [.int (nI n)] τ2 u v := by
      intro hib c0 c1 τ2 hx2 hq2 t2 z4 n hnf
      have bi := hbb i hib
      have h4i := h4 _ bi.2.1
      have rki := rk _ bi.2.1
      have hoc : ocn b h (i + 1) = ocn b h i + 1 := by rw [ocn, if_pos c0]
      have hom := ocn_mono (b := b) (h := h) (i := i + 1) b.1 (by omega)
      have hof : n ≤ rs E (8 + b.2 i 1) := by rw [hnf]; unfold obF; omega
      have hd2 : DVx s (pA s (h + 1)) (cap s (h + 1) (kT s 2)) (obS b E i) := by
        unfold obS; by_cases r : b.2 i 2 = 1
        · rw [if_pos r]; exact hdi.sD
        · rw [if_neg r]; exact hdi
      obtain ⟨q, pq⟩ := pk1 _ bi.2.1 c1
      have hx3 : eM σ0 s (fun _ => h) (obS b E i) (wI τ2 243 (b.2 i 1) (nI (gN E 4 (b.2 i 1) + n))) := hx2.mem ⟨fun a x u1 u2 => by rw [rI_wI, if_neg (by omega)]; exact hx2.1.1 a x u1 u2, hx2.1.2⟩ (fun a x u => by rw [rI_wI, if_neg (by omega)]) hn hF
      have hq3 : hpM s (obS b E i) (wI τ2 243 (b.2 i 1) (nI (gN E 4 (b.2 i 1) + n))) := hq2.keep hv (fun a x u1 u2 => by rw [rI_wI, if_neg (by omega)]) (fun _ _ _ _ => rfl)
      refine hAt 6 _ _ _ _ _ _ ?_
      refine And.intro (aOKx (n := 8) (j := (b.2 i 1)) rfl (by decide) rfl rfl (by omega) (by omega)) ?_
      refine Eq.mpr (congrArg (fun xq : Int32 => At 296 [.ref (108), .int (nI h), .int (nI i), .int (nI (b.2 i 1)), .int (nI n)] [.int xq, .int (nI (b.2 i 1)), .ref (243)] τ2 u v) (show rI τ2 243 (nI (b.2 i 1)).toNatClampNeg = nI (gN E 4 (b.2 i 1)) from (ldE rfl (by omega) ((t2 _ _ (by omega)).trans (hor _ bi.2.1))))) ?_
      refine hAt 3 _ _ _ _ _ _ ?_
      refine And.intro (aOKx (n := 8) (j := (b.2 i 1)) rfl (by decide) rfl rfl (by omega) (by omega)) ?_
      refine Eq.mpr (congrArg (fun xq : Mem => At 300 [.ref (108), .int (nI h), .int (nI i), .int (nI (b.2 i 1)), .int (nI n)] [] xq u v) (wrE (σ := τ2) (q := 243) (p := rfl) (hj := by omega) (h := (adE rfl rfl)))) ?_
      refine hAt 6 _ _ _ _ _ _ ?_
      refine callG 1 8 (by omega) (by omega) (s_falls hv hd2 (cap_le hv (h + 1)) hS0 hN0 hx3 hq3 bi.2.1 (by rw [gN_obS]; exact c1) pq (by rw [rs_obS]; exact hof) (fun τ3 hx4 hq4 t4 => ?_))
      refine Eq.mpr (congrArg (fun xq : Int32 => At 115 [.ref (108), .int (nI h), .int xq, .int (nI (b.2 i 1)), .int (nI n)] [] τ3 (u + 1) (v + 8)) (show nI i + nI 1 = nI (i + 1) from (adE rfl rfl))) ?_
      refine ih hib _ _ _ (u + 1) (v + 8) (by omega) (by omega) ?_ ?_ (fun k hk => ?_)
      · rw [ob1, if_pos ⟨c0, c1⟩, ← hnf]
        exact hx4.low (fun t j u1 u2 => gN_ne (by omega)) (fun _ _ => rfl) hn
      · rw [ob1, if_pos ⟨c0, c1⟩, ← hnf]
        exact hq4.keep hv (fun _ _ _ _ => rfl) (fun c o _ _ => gN_ne (by omega))
      · rw [ob1, if_pos ⟨c0, c1⟩, t4, rI_wI, gN_sN, ← hnf]
        by_cases e : k = b.2 i 1
        · rw [if_pos ⟨rfl, e⟩, if_pos ⟨rfl, e⟩]
        · rw [if_neg (fun z => e z.2), if_neg (fun z => e z.2), dfl_4 (by omega), gN_obS, t2 _ _ (by omega)]; exact hor k hk
    have at257 : i < b.1 → b.2 i 0 = h → gN E 0 (b.2 i 1) = 1 → ∀ τ2, eM σ0 s (fun _ => h) (obS b E i) τ2 → hpM s (obS b E i) τ2 → (∀ a j, a ≠ 108 → rI τ2 a j = rI τ a j) → ∀ z4 n, n = min (obW s b E i) (kT s 6 - gN E 4 (b.2 i 1)) → At 257 [.ref 108, .int (nI h), .int (nI i), .int (nI (b.2 i 1)), z4] [.int (nI n)] τ2 u v := by
      intro hib c0 c1 τ2 hx2 hq2 t2 z4 n hnf
      have bi := hbb i hib
      have h4i := h4 _ bi.2.1
      have rki := rk _ bi.2.1
      have en : obF s b E i = min n (rs E (8 + b.2 i 1)) := by rw [hnf]; unfold obF; omega
      refine hAt 6 _ _ _ _ _ _ ?_
      refine And.intro (mx_r (q := 244) (n := 8) (k := 8) rfl rfl (show b.2 i 1 < 8 by omega)) (And.intro (Or.inl rfl) ?_)
      refine Eq.mpr (congrArg (fun xq : Nat => At 267 [.ref (108), .int (nI h), .int (nI i), .int (nI (b.2 i 1)), .int (nI n)] [.ref xq, .int (nI n)] τ2 u v) (rwE rfl (by omega))) ?_
      refine hAt 2 _ _ _ _ _ _ ?_
      refine s_Mpsum hx2 hn bi.2.1 (by rw [gN_obS]; exact c1) ?_
      rw [rs_obS]
      refine And.intro (fun hq => ?_) (fun hq => ?_)
      · have c270 : n ≤ rs E (8 + b.2 i 1) := (leN (a := n) (b := rs E (8 + b.2 i 1)) rfl rfl (by omega) (by omega)).mp hq
        clear hq
        refine hAt 1 _ _ _ _ _ _ ?_
        exact at287 hib c0 c1 τ2 hx2 hq2 t2 _ _ (by omega)
      · have c270 : rs E (8 + b.2 i 1) < n := Nat.lt_of_not_le (fun zq => hq ((leN (a := n) (b := rs E (8 + b.2 i 1)) rfl rfl (by omega) (by omega)).mpr zq))
        clear hq
        refine hAt 4 _ _ _ _ _ _ ?_
        refine And.intro (mx_r (q := 244) (n := 8) (k := 8) rfl rfl (show b.2 i 1 < 8 by omega)) (And.intro (Or.inl rfl) ?_)
        refine Eq.mpr (congrArg (fun xq : Nat => At 279 [.ref (108), .int (nI h), .int (nI i), .int (nI (b.2 i 1)), .int (nI n)] [.ref xq] τ2 u v) (rwE rfl (by omega))) ?_
        refine hAt 2 _ _ _ _ _ _ ?_
        refine s_Mpsum hx2 hn bi.2.1 (by rw [gN_obS]; exact c1) ?_
        rw [rs_obS]
        exact at287 hib c0 c1 τ2 hx2 hq2 t2 _ _ (by omega)
    have at219 : i < b.1 → b.2 i 0 = h → gN E 0 (b.2 i 1) = 1 → ∀ τ2, eM σ0 s (fun _ => h) (obS b E i) τ2 → hpM s (obS b E i) τ2 → (∀ a j, a ≠ 108 → rI τ2 a j = rI τ a j) → ∀ n, n = obW s b E i → At 219 [.ref 108, .int (nI h), .int (nI i), .int (nI (b.2 i 1)), .int (nI n)] [] τ2 u v := by
      intro hib c0 c1 τ2 hx2 hq2 t2 n hnf
      have bi := hbb i hib
      have h4i := h4 _ bi.2.1
      have hS := hx2.sk hS0 hv
      have hw : n ≤ 999 := by rw [hnf]; unfold obW; repeat' split
                              all_goals omega
      refine hAt 5 _ _ _ _ _ _ ?_
      refine And.intro (aOKx (n := 11) (j := 6) rfl (by decide) rfl rfl (by omega) (by omega)) ?_
      refine Eq.mpr (congrArg (fun xq : Int32 => At 228 [.ref (108), .int (nI h), .int (nI i), .int (nI (b.2 i 1)), .int (nI n)] [.int xq, .int (nI n)] τ2 u v) (show rI τ2 111 (nI 6).toNatClampNeg = nI (kT s 6) from (ldE rfl (by omega) (hS.1 6 (by omega))))) ?_
      refine hAt 4 _ _ _ _ _ _ ?_
      refine And.intro (aOKx (n := 8) (j := (b.2 i 1)) rfl (by decide) rfl rfl (by omega) (by omega)) ?_
      refine Eq.mpr (congrArg (fun xq : Int32 => At 234 [.ref (108), .int (nI h), .int (nI i), .int (nI (b.2 i 1)), .int (nI n)] [.int xq, .int (nI (kT s 6)), .int (nI n)] τ2 u v) (show rI τ2 243 (nI (b.2 i 1)).toNatClampNeg = nI (gN E 4 (b.2 i 1)) from (ldE rfl (by omega) ((t2 _ _ (by omega)).trans (hor _ bi.2.1))))) ?_
      refine hAt 2 _ _ _ _ _ _ ?_
      refine And.intro (fun hq => ?_) (fun hq => ?_)
      · have c235 : n ≤ (kT s 6) - (gN E 4 (b.2 i 1)) := (leN (a := n) (b := (kT s 6) - (gN E 4 (b.2 i 1))) rfl (sbE rfl rfl (by omega)) (by omega) (by omega)).mp hq
        clear hq
        refine hAt 1 _ _ _ _ _ _ ?_
        exact at257 hib c0 c1 τ2 hx2 hq2 t2 _ _ (by omega)
      · have c235 : (kT s 6) - (gN E 4 (b.2 i 1)) < n := Nat.lt_of_not_le (fun zq => hq ((leN (a := n) (b := (kT s 6) - (gN E 4 (b.2 i 1))) rfl (sbE rfl rfl (by omega)) (by omega) (by omega)).mpr zq))
        clear hq
        refine hAt 4 _ _ _ _ _ _ ?_
        refine And.intro (aOKx (n := 11) (j := 6) rfl (by decide) rfl rfl (by omega) (by omega)) ?_
        refine Eq.mpr (congrArg (fun xq : Int32 => At 245 [.ref (108), .int (nI h), .int (nI i), .int (nI (b.2 i 1)), .int (nI n)] [.int xq] τ2 u v) (show rI τ2 111 (nI 6).toNatClampNeg = nI (kT s 6) from (ldE rfl (by omega) (hS.1 6 (by omega))))) ?_
        refine hAt 4 _ _ _ _ _ _ ?_
        refine And.intro (aOKx (n := 8) (j := (b.2 i 1)) rfl (by decide) rfl rfl (by omega) (by omega)) ?_
        refine Eq.mpr (congrArg (fun xq : Int32 => At 251 [.ref (108), .int (nI h), .int (nI i), .int (nI (b.2 i 1)), .int (nI n)] [.int xq, .int (nI (kT s 6))] τ2 u v) (show rI τ2 243 (nI (b.2 i 1)).toNatClampNeg = nI (gN E 4 (b.2 i 1)) from (ldE rfl (by omega) ((t2 _ _ (by omega)).trans (hor _ bi.2.1))))) ?_
        refine hAt 2 _ _ _ _ _ _ ?_
        refine Eq.mpr (congrArg (fun xq : Int32 => At 257 [.ref (108), .int (nI h), .int (nI i), .int (nI (b.2 i 1)), .int (nI n)] [.int xq] τ2 u v) (show (nI (kT s 6)) - (nI (gN E 4 (b.2 i 1))) = nI ((kT s 6) - (gN E 4 (b.2 i 1))) from (sbE rfl rfl (by omega)))) ?_
        exact at257 hib c0 c1 τ2 hx2 hq2 t2 _ _ (by omega)
    refine hAt 3 _ _ _ _ _ _ ?_
    refine Eq.mpr (congrArg (fun xq : Int32 => At 120 [.ref (108), .int (nI h), .int (nI i), z3, z4] [.int xq, .int (nI i)] τ u v) (show rI τ 108 19 = nI b.1 from hb.1)) ?_
    refine hAt 1 _ _ _ _ _ _ ?_
    refine And.intro (fun hq => ?_) (fun hq => ?_)
    · have c120 : b.1 ≤ i := (leN (a := b.1) (b := i) rfl rfl (by omega) (by omega)).mp hq
      clear hq
      refine hAt 1 _ _ _ _ _ _ ?_
      have e : i = b.1 := by omega
      rw [← e] at hP
      rw [hE] at hx hq
      exact hP τ hx hq
    · have c120 : i < b.1 := Nat.lt_of_not_le (fun zq => hq ((leN (a := b.1) (b := i) rfl rfl (by omega) (by omega)).mpr zq))
      clear hq
      have bi := hbb i c120
      have hvS : eM σ0 s (fun _ => h) E τ := hx
      refine hAt 4 _ _ _ _ _ _ ?_
      refine And.intro (mx_r (q := 184) (n := 30) (k := 4) rfl rfl (show i < 30 by omega)) (And.intro (Or.inl rfl) ?_)
      refine Eq.mpr (congrArg (fun xq : Nat => At 129 [.ref (108), .int (nI h), .int (nI i), z3, z4] [.ref xq] τ u v) (rwE rfl (by omega))) ?_
      refine hAt 2 _ _ _ _ _ _ ?_
      refine And.intro (mx_e (q := 184) (n := 30) (k := 4) (j := i) (i := 1) rfl (by omega) (by omega) rfl) ?_
      refine Eq.mpr (congrArg (fun xq : Int32 => At 131 [.ref (108), .int (nI h), .int (nI i), z3, z4] [.int xq] τ u v) (show rI τ (184 + 1 + i) (nI 1).toNatClampNeg = nI (b.2 i 1) from (ldE rfl (by omega) (hb.2 i (by omega) 1 (by omega))))) ?_
      refine hAt 7 _ _ _ _ _ _ ?_
      refine And.intro (mx_r (q := 184) (n := 30) (k := 4) rfl rfl (show i < 30 by omega)) (And.intro (Or.inl rfl) ?_)
      refine Eq.mpr (congrArg (fun xq : Nat => At 141 [.ref (108), .int (nI h), .int (nI i), .int (nI (b.2 i 1)), .int (nI 0)] [.ref xq] τ u v) (rwE rfl (by omega))) ?_
      refine hAt 2 _ _ _ _ _ _ ?_
      refine And.intro (mx_e (q := 184) (n := 30) (k := 4) (j := i) (i := 0) rfl (by omega) (by omega) rfl) ?_
      refine Eq.mpr (congrArg (fun xq : Int32 => At 143 [.ref (108), .int (nI h), .int (nI i), .int (nI (b.2 i 1)), .int (nI 0)] [.int xq] τ u v) (show rI τ (184 + 1 + i) (nI 0).toNatClampNeg = nI (b.2 i 0) from (ldE rfl (by omega) (hb.2 i (by omega) 0 (by omega))))) ?_
      refine hAt 2 _ _ _ _ _ _ ?_
      refine And.intro (fun hq => ?_) (fun hq => ?_)
      · have c144 : ¬ b.2 i 0 = h := fun zq => hq ((eqN (a := b.2 i 0) (b := h) rfl rfl (by omega) (by omega)).mpr zq)
        clear hq
        refine hAt 2 _ _ _ _ _ _ ?_
        refine Eq.mpr (congrArg (fun xq : Int32 => At 115 [.ref (108), .int (nI h), .int xq, .int (nI (b.2 i 1)), .int (nI 0)] [] τ u v) (show nI i + nI 1 = nI (i + 1) from (adE rfl rfl))) ?_
        exact skip c120 (if_neg (fun z => c144 z.1)) _ _
      · have c144 : b.2 i 0 = h := (eqN (a := b.2 i 0) (b := h) rfl rfl (by omega) (by omega)).mp hq
        clear hq
        refine hAt 4 _ _ _ _ _ _ ?_
        refine And.intro (aOKx (n := 8) (j := (b.2 i 1)) rfl (by decide) rfl rfl (by omega) (by omega)) ?_
        refine Eq.mpr (congrArg (fun xq : Int32 => At 153 [.ref (108), .int (nI h), .int (nI i), .int (nI (b.2 i 1)), .int (nI 0)] [.int xq] τ u v) (show rI τ 238 (nI (b.2 i 1)).toNatClampNeg = bI (decide (gN E 0 (b.2 i 1) = 1)) from (ldE rfl (by omega) ((hx.2.1 _ bi.2.1).1)))) ?_
        refine hAt 1 _ _ _ _ _ _ ?_
        refine And.intro (fun hq => ?_) (fun hq => ?_)
        · have c153 : ¬ (gN E 0 (b.2 i 1) = 1) := of_decide_eq_false (bI_eq hq)
          clear hq
          refine hAt 2 _ _ _ _ _ _ ?_
          refine Eq.mpr (congrArg (fun xq : Int32 => At 115 [.ref (108), .int (nI h), .int xq, .int (nI (b.2 i 1)), .int (nI 0)] [] τ u v) (show nI i + nI 1 = nI (i + 1) from (adE rfl rfl))) ?_
          exact skip c120 (if_neg (fun z => c153 z.2)) _ _
        · have c153 : gN E 0 (b.2 i 1) = 1 := of_decide_eq_true (bI_ne hq)
          clear hq
          refine hAt 4 _ _ _ _ _ _ ?_
          refine And.intro (mx_r (q := 184) (n := 30) (k := 4) rfl rfl (show i < 30 by omega)) (And.intro (Or.inl rfl) ?_)
          refine Eq.mpr (congrArg (fun xq : Nat => At 162 [.ref (108), .int (nI h), .int (nI i), .int (nI (b.2 i 1)), .int (nI 0)] [.ref xq] τ u v) (rwE rfl (by omega))) ?_
          refine hAt 2 _ _ _ _ _ _ ?_
          refine And.intro (mx_e (q := 184) (n := 30) (k := 4) (j := i) (i := 2) rfl (by omega) (by omega) rfl) ?_
          refine Eq.mpr (congrArg (fun xq : Int32 => At 164 [.ref (108), .int (nI h), .int (nI i), .int (nI (b.2 i 1)), .int (nI 0)] [.int xq] τ u v) (show rI τ (184 + 1 + i) (nI 2).toNatClampNeg = nI (b.2 i 2) from (ldE rfl (by omega) (hb.2 i (by omega) 2 (by omega))))) ?_
          refine hAt 2 _ _ _ _ _ _ ?_
          refine And.intro (fun hq => ?_) (fun hq => ?_)
          · have c165 : ¬ b.2 i 2 = 2 := fun zq => hq ((eqN (a := b.2 i 2) (b := 2) rfl rfl (by omega) (by omega)).mpr zq)
            clear hq
            refine hAt 4 _ _ _ _ _ _ ?_
            refine And.intro (mx_r (q := 184) (n := 30) (k := 4) rfl rfl (show i < 30 by omega)) (And.intro (Or.inl rfl) ?_)
            refine Eq.mpr (congrArg (fun xq : Nat => At 177 [.ref (108), .int (nI h), .int (nI i), .int (nI (b.2 i 1)), .int (nI 0)] [.ref xq] τ u v) (rwE rfl (by omega))) ?_
            refine hAt 2 _ _ _ _ _ _ ?_
            refine And.intro (mx_e (q := 184) (n := 30) (k := 4) (j := i) (i := 2) rfl (by omega) (by omega) rfl) ?_
            refine Eq.mpr (congrArg (fun xq : Int32 => At 179 [.ref (108), .int (nI h), .int (nI i), .int (nI (b.2 i 1)), .int (nI 0)] [.int xq] τ u v) (show rI τ (184 + 1 + i) (nI 2).toNatClampNeg = nI (b.2 i 2) from (ldE rfl (by omega) (hb.2 i (by omega) 2 (by omega))))) ?_
            refine hAt 1 _ _ _ _ _ _ ?_
            refine And.intro (fun hq => ?_) (fun hq => ?_)
            · have c179 : ¬ b.2 i 2 = 0 := fun zq => hq ((eqN (a := b.2 i 2) (b := 0) rfl rfl (by omega) (by omega)).mpr zq)
              clear hq
              refine hAt 5 _ _ _ _ _ _ ?_
              refine And.intro (mx_r (q := 184) (n := 30) (k := 4) rfl rfl (show i < 30 by omega)) (And.intro (Or.inl rfl) ?_)
              refine Eq.mpr (congrArg (fun xq : Nat => At 202 [.ref (108), .int (nI h), .int (nI i), .int (nI (b.2 i 1)), .int (nI 0)] [.ref xq, .ref (108)] τ u v) (rwE rfl (by omega))) ?_
              refine hAt 2 _ _ _ _ _ _ ?_
              refine And.intro (mx_e (q := 184) (n := 30) (k := 4) (j := i) (i := 3) rfl (by omega) (by omega) rfl) ?_
              refine Eq.mpr (congrArg (fun xq : Int32 => At 204 [.ref (108), .int (nI h), .int (nI i), .int (nI (b.2 i 1)), .int (nI 0)] [.int xq, .ref (108)] τ u v) (show rI τ (184 + 1 + i) (nI 3).toNatClampNeg = nI (b.2 i 3) from (ldE rfl (by omega) (hb.2 i (by omega) 3 (by omega))))) ?_
              refine hAt 2 _ _ _ _ _ _ ?_
              refine s_draws hv hx bi.2.2.2 (fun τ2 hx2 t2 => ?_)
              refine And.intro (fun hq => ?_) (fun hq => ?_)
              · have c207 : ¬ (drN (sdN (gD E 0 0)) < b.2 i 3) := of_decide_eq_false (bI_eq hq)
                clear hq
                have e1 : obS b E i = sD E 0 0 (sdN (gD E 0 0)) := if_pos (by omega)
                exact at219 c120 c144 c153 τ2 (by rw [e1]; exact hx2) (by rw [e1]; exact hq.keep hv (fun a x _ _ => t2 a x (by omega)) (fun _ _ _ _ => rfl)) t2 _ (by unfold obW; rw [if_neg (by omega), if_pos (by omega), if_neg c207])
              · have c207 : drN (sdN (gD E 0 0)) < b.2 i 3 := of_decide_eq_true (bI_ne hq)
                clear hq
                refine hAt 4 _ _ _ _ _ _ ?_
                refine And.intro (aOKx (n := 11) (j := 6) rfl (by decide) rfl rfl (by omega) (by omega)) ?_
                refine Eq.mpr (congrArg (fun xq : Int32 => At 217 [.ref (108), .int (nI h), .int (nI i), .int (nI (b.2 i 1)), .int (nI 0)] [.int xq] τ2 u v) (show rI τ2 111 (nI 6).toNatClampNeg = nI (kT s 6) from (ldE rfl (by omega) ((hx2.sk hS0 hv).1 6 (by omega))))) ?_
                refine hAt 1 _ _ _ _ _ _ ?_
                have e1 : obS b E i = sD E 0 0 (sdN (gD E 0 0)) := if_pos (by omega)
                exact at219 c120 c144 c153 τ2 (by rw [e1]; exact hx2) (by rw [e1]; exact hq.keep hv (fun a x _ _ => t2 a x (by omega)) (fun _ _ _ _ => rfl)) t2 _ (by unfold obW; rw [if_neg (by omega), if_pos (by omega), if_pos c207])
            · have c179 : b.2 i 2 = 0 := (eqN (a := b.2 i 2) (b := 0) rfl rfl (by omega) (by omega)).mp hq
              clear hq
              refine hAt 4 _ _ _ _ _ _ ?_
              refine And.intro (mx_r (q := 184) (n := 30) (k := 4) rfl rfl (show i < 30 by omega)) (And.intro (Or.inl rfl) ?_)
              refine Eq.mpr (congrArg (fun xq : Nat => At 188 [.ref (108), .int (nI h), .int (nI i), .int (nI (b.2 i 1)), .int (nI 0)] [.ref xq] τ u v) (rwE rfl (by omega))) ?_
              refine hAt 2 _ _ _ _ _ _ ?_
              refine And.intro (mx_e (q := 184) (n := 30) (k := 4) (j := i) (i := 3) rfl (by omega) (by omega) rfl) ?_
              refine Eq.mpr (congrArg (fun xq : Int32 => At 190 [.ref (108), .int (nI h), .int (nI i), .int (nI (b.2 i 1)), .int (nI 0)] [.int xq] τ u v) (show rI τ (184 + 1 + i) (nI 3).toNatClampNeg = nI (b.2 i 3) from (ldE rfl (by omega) (hb.2 i (by omega) 3 (by omega))))) ?_
              refine hAt 2 _ _ _ _ _ _ ?_
              have e1 : obS b E i = E := if_neg (by omega)
              exact at219 c120 c144 c153 τ (by rw [e1]; exact hx) (by rw [e1]; exact hq) (fun _ _ _ => rfl) _ (by unfold obW; rw [if_pos c179])
          · have c165 : b.2 i 2 = 2 := (eqN (a := b.2 i 2) (b := 2) rfl rfl (by omega) (by omega)).mp hq
            clear hq
            refine hAt 3 _ _ _ _ _ _ ?_
            refine Eq.mpr (congrArg (fun xq : Int32 => At 115 [.ref (108), .int (nI h), .int xq, .int (nI (b.2 i 1)), .int (nI 0)] [] τ u v) (show nI i + nI 1 = nI (i + 1) from (adE rfl rfl))) ?_
            refine skip c120 ?_ _ _
            have e1 : obS b E i = E := if_neg (by omega)
            have e2 : obF s b E i = 0 := by unfold obF obW; rw [if_neg (by omega), if_neg (by omega)]; exact Nat.zero_min _
            rw [ob1, if_pos ⟨c144, c153⟩, e1, e2, dfl, if_pos rfl]
            exact sN4_id rfl
  have loopS : ∀ k, k ≤ kT s 2 → ∀ τ z3 z4 u v, u ≤ k → v ≤ 8 * k → eM σ0 s (fun _ => h) (fld (sp1 s b h) D k) τ → hpM s (fld (sp1 s b h) D k) τ → (∀ j, j < k → rI τ 243 j = nI 0) → At 50 [.ref 108, .int (nI h), .int (nI k), z3, z4] [] τ u v := by
    refine upto fun k hk ih => ?_
    intro τ z3 z4 u v hu hw hx hq hor
    have hS := hx.sk hS0 hv
    have hb := hx.or hB hb0
    have hdk := fld_dv (f := sp1 s b h) (n := kT s 2) (fun D k hk hd => sp1_dv (h := h) hv hk hd) hd k hk
    have pk1 : ∀ i, i < kT s 2 → gN (fld (sp1 s b h) D k) 0 i = 1 → ∃ q, ps s i h = some q := fun i hi q => by
      have := (hdk.1 i hi q).1
      unfold pA at this
      rw [Nat.add_sub_cancel] at this
      cases e : ps s i h with
      | none => exact absurd e this.2
      | some q => exact ⟨q, rfl⟩
    have fin : k = kT s 2 → At 115 [.ref 108, .int (nI h), .int (nI 0), z3, z4] [] τ u v := fun e => by
      subst e
      rw [← eS] at hx hq
      refine loopO 0 (by omega) τ z3 z4 u v (by omega) (by omega) ?_ ?_ (fun j hj => ?_)
      · exact hx.low (fun t i u1 u2 => gR_ne (by omega)) (fun _ _ => rfl) hn
      · exact hq.keep hv (fun _ _ _ _ => rfl) (fun c o _ _ => gR_ne (by omega))
      · rw [hor j hj]; show nI 0 = nI (gN (sR S 4 _) 4 j); rw [gR_eq (by omega)]
    obtain ⟨E, hE⟩ : ∃ E, E = fld (sp1 s b h) D k := ⟨_, rfl⟩
    have nxt : fld (sp1 s b h) D (k + 1) = sp1 s b h E k := by rw [hE]; rfl
    rw [nxt] at ih
    rw [← hE] at hx hq hdk pk1
    have rk : k < kT s 2 → rs E (8 + k) ≤ 7992 := fun _ => Nat.le_trans (hdk.rs_le (by omega) (by omega)) (cap_le hv (h + 1))
    have hx3 : eM σ0 s (fun _ => h) E (wI τ 243 k (nI 0)) := hx.mem ⟨fun a x u1 u2 => by rw [rI_wI, if_neg (by omega)]; exact hx.1.1 a x u1 u2, hx.1.2⟩ (fun a x u => by rw [rI_wI, if_neg (by omega)]) hn hF
    have hq3 : hpM s E (wI τ 243 k (nI 0)) := hq.keep hv (fun a x u1 u2 => by rw [rI_wI, if_neg (by omega)]) (fun _ _ _ _ => rfl)
    have hor3 : ∀ j, j < k + 1 → rI (wI τ 243 k (nI 0)) 243 j = nI 0 := fun j hj => by
      rw [rI_wI]
      by_cases e : j = k
      · subst e; rw [if_pos ⟨rfl, rfl⟩]
      · rw [if_neg (by omega)]; exact hor j (by omega)
    have skip : k < kT s 2 → sp1 s b h E k = E → ∀ z3 z4, At 50 [.ref 108, .int (nI h), .int (nI (k + 1)), z3, z4] [] (wI τ 243 k (nI 0)) u v := fun hk2 q z3 z4 => by
      exact ih hk2 _ z3 z4 u v (by omega) (by omega) (by rw [q]; exact hx3) (by rw [q]; exact hq3) hor3
    refine hAt 5 _ _ _ _ _ _ ?_
    refine And.intro (aOKx (n := 11) (j := 2) rfl (by decide) rfl rfl (by omega) (by omega)) ?_
    refine Eq.mpr (congrArg (fun xq : Int32 => At 57 [.ref (108), .int (nI h), .int (nI k), z3, z4] [.int xq, .int (nI k)] τ u v) (show rI τ 111 (nI 2).toNatClampNeg = nI (kT s 2) from (ldE rfl (by omega) (hS.1 2 (by omega))))) ?_
    refine hAt 1 _ _ _ _ _ _ ?_
    refine And.intro (fun hq => ?_) (fun hq => ?_)
    · have c57 : kT s 2 ≤ k := (leN (a := kT s 2) (b := k) rfl rfl (by omega) (by omega)).mp hq
      clear hq
      refine hAt 2 _ _ _ _ _ _ ?_
      exact fin (by omega)
    · have c57 : k < kT s 2 := Nat.lt_of_not_le (fun zq => hq ((leN (a := kT s 2) (b := k) rfl rfl (by omega) (by omega)).mpr zq))
      clear hq
      have rk := rk c57
      refine hAt 5 _ _ _ _ _ _ ?_
      refine And.intro (aOKx (n := 8) (j := k) rfl (by decide) rfl rfl (by omega) (by omega)) ?_
      refine Eq.mpr (congrArg (fun xq : Mem => At 67 [.ref (108), .int (nI h), .int (nI k), z3, z4] [] xq u v) (wrE (σ := τ) (q := 243) (p := rfl) (hj := by omega) (h := rfl))) ?_
      refine hAt 4 _ _ _ _ _ _ ?_
      refine And.intro (aOKx (n := 8) (j := k) rfl (by decide) rfl rfl (by omega) (by omega)) ?_
      refine Eq.mpr (congrArg (fun xq : Int32 => At 73 [.ref (108), .int (nI h), .int (nI k), z3, z4] [.int xq] (wI τ 243 k (nI 0)) u v) (show rI (wI τ 243 k (nI 0)) 238 (nI k).toNatClampNeg = bI (decide (gN E 0 k = 1)) from (ldE rfl (by omega) (by rw [rI_wI, if_neg (by omega)]; exact (hx.2.1 k (by omega)).1)))) ?_
      refine hAt 1 _ _ _ _ _ _ ?_
      refine And.intro (fun hq => ?_) (fun hq => ?_)
      · have c73 : ¬ (gN E 0 k = 1) := of_decide_eq_false (bI_eq hq)
        clear hq
        refine hAt 2 _ _ _ _ _ _ ?_
        refine Eq.mpr (congrArg (fun xq : Int32 => At 50 [.ref (108), .int (nI h), .int xq, z3, z4] [] (wI τ 243 k (nI 0)) u v) (show nI k + nI 1 = nI (k + 1) from (adE rfl rfl))) ?_
        exact skip c57 (if_neg (fun z => c73 z.1)) _ _
      · have c73 : gN E 0 k = 1 := of_decide_eq_true (bI_ne hq)
        clear hq
        refine hAt 5 _ _ _ _ _ _ ?_
        refine s_isKept (hx3.or hB hb0) hB (fun i hi => by have := hbb i hi; omega) hh (by omega) ?_
        refine And.intro (fun hq => ?_) (fun hq => ?_)
        · have c82 : gnB b h k b.1 = true := bI_ne hq
          clear hq
          refine hAt 2 _ _ _ _ _ _ ?_
          refine Eq.mpr (congrArg (fun xq : Int32 => At 50 [.ref (108), .int (nI h), .int xq, z3, z4] [] (wI τ 243 k (nI 0)) u v) (show nI k + nI 1 = nI (k + 1) from (adE rfl rfl))) ?_
          exact skip c57 (if_neg (fun z => by rw [c82] at z; cases z.2)) _ _
        · have c82 : gnB b h k b.1 = false := bI_eq hq
          clear hq
          refine hAt 6 _ _ _ _ _ _ ?_
          refine And.intro (mx_r (q := 244) (n := 8) (k := 8) rfl rfl (show k < 8 by omega)) (And.intro (Or.inl rfl) ?_)
          refine Eq.mpr (congrArg (fun xq : Nat => At 93 [.ref (108), .int (nI h), .int (nI k), z3, z4] [.ref xq, .int (nI k), .ref (108)] (wI τ 243 k (nI 0)) u v) (rwE rfl (by omega))) ?_
          refine hAt 5 _ _ _ _ _ _ ?_
          refine s_Mpsum hx3 hn (by omega) c73 ?_
          refine And.intro (aOKx (n := 11) (j := 7) rfl (by decide) rfl rfl (by omega) (by omega)) ?_
          refine Eq.mpr (congrArg (fun xq : Int32 => At 103 [.ref (108), .int (nI h), .int (nI k), z3, z4] [.int xq, .int (nI (rs E (8 + k))), .int (nI k), .ref (108)] (wI τ 243 k (nI 0)) u v) (show rI (wI τ 243 k (nI 0)) 111 (nI 7).toNatClampNeg = nI (kT s 7) from (ldE rfl (by omega) (by rw [rI_wI, if_neg (by omega)]; exact (hS.1 7 (by omega)))))) ?_
          refine hAt 1 _ _ _ _ _ _ ?_
          obtain ⟨q, pq⟩ := pk1 k c57 c73
          have fin2 : ∀ τ2, eM σ0 s (fun _ => h) (sp1 s b h E k) τ2 → hpM s (sp1 s b h E k) τ2 → (∀ j, rI τ2 243 j = rI (wI τ 243 k (nI 0)) 243 j) → At 107 [.ref 108, .int (nI h), .int (nI k), z3, z4] [] τ2 (u + 1) (v + 8) := fun τ2 hx4 hq4 t4 => by
            refine hAt 2 _ _ _ _ _ _ ?_
            refine Eq.mpr (congrArg (fun xq : Int32 => At 50 [.ref 108, .int (nI h), .int xq, z3, z4] [] τ2 (u + 1) (v + 8)) (show nI k + nI 1 = nI (k + 1) from adE rfl rfl)) ?_
            exact ih c57 τ2 z3 z4 (u + 1) (v + 8) (by omega) (by omega) hx4 hq4 (fun j hj => (t4 j).trans (hor3 j hj))
          refine hAt 1 _ _ _ _ _ _ ?_
          by_cases c : rs E (8 + k) ≤ kT s 7
          · have e0 : sp1 s b h E k = E := by
              rw [sp1, if_pos ⟨c73, c82⟩, dfl, if_pos (by omega)]
            refine callG 1 8 (by omega) (by omega) (s_falls_0 (h := h) hv hx3 c57 c73 ?_ ?_)
            · have : nI (rs E (8 + k)) - nI (kT s 7) = iZ ((rs E (8 + k) : Int) - (kT s 7 : Int)) := sbZ (ntZ rfl) (ntZ rfl)
              rw [this]
              exact (leZ (a := (rs E (8 + k) : Int) - (kT s 7 : Int)) (b := 0) rfl (ntZ rfl) (by omega) (by omega) (by omega) (by omega)).mpr (by omega)
            · exact fin2 _ (by rw [e0]; exact hx3) (by rw [e0]; exact hq3) (fun _ => rfl)
          · rw [show nI (rs E (8 + k)) - nI (kT s 7) = nI (rs E (8 + k) - kT s 7) from sbE rfl rfl (by omega)]
            have e1 : sp1 s b h E k = dfl E k (cix s k h) (rs E (8 + k) - kT s 7) := if_pos ⟨c73, c82⟩
            refine callG 1 8 (by omega) (by omega) (s_falls hv hdk (cap_le hv (h + 1)) hS0 hN0 hx3 hq3 c57 c73 pq (by omega) (fun τ2 hx4 hq4 t4 => ?_))
            exact fin2 τ2 (by rw [e1]; exact hx4) (by rw [e1]; exact hq4) t4
  have clr : ∀ i, i ≤ kT s 0 * kT s 1 → ∀ τ z3 z4, (∀ a x, ¬ (253 + 1 ≤ a ∧ a < 318) → rI τ a x = rI σ a x) → τ.2 = σ.2 → (∀ c o, c < i → o < 8 → rI τ (253 + 1 + c) o = nI 0) → At 2 [.ref 108, .int (nI h), .int (nI i), z3, z4] [] τ 0 0 := by
    refine upto fun i hi ih => ?_
    intro τ z3 z4 t1 t2 t3
    have hS : skM τ s := hS0.scr2 hv (fun a j h1 h2 => by rw [t1 a j (by omega)]; exact hc.1.1 a j (by omega) (by omega))
    have inn : i < kT s 0 * kT s 1 → ∀ o, o ≤ 8 → ∀ τ2, (∀ a x, ¬ (253 + 1 ≤ a ∧ a < 318) → rI τ2 a x = rI σ a x) → τ2.2 = σ.2 → (∀ c o, c < i → o < 8 → rI τ2 (253 + 1 + c) o = nI 0) → (∀ x, x < o → rI τ2 (253 + 1 + i) x = nI 0) → At 21 [.ref 108, .int (nI h), .int (nI i), .int (nI o), z4] [] τ2 0 0 := by
      intro hi2
      refine upto fun o ho ih2 => ?_
      intro τ2 g1 g2 g3 g4
      refine hAt 3 _ _ _ _ _ _ ?_
      refine And.intro (fun hq => ?_) (fun hq => ?_)
      · have c24 : 8 ≤ o := (leN (a := 8) (b := o) rfl rfl (by omega) (by omega)).mp hq
        clear hq
        refine hAt 2 _ _ _ _ _ _ ?_
        refine Eq.mpr (congrArg (fun xq : Int32 => At 2 [.ref (108), .int (nI h), .int xq, .int (nI o), z4] [] τ2 0 0) (show nI i + nI 1 = nI (i + 1) from (adE rfl rfl))) ?_
        refine ih hi2 τ2 _ _ g1 g2 (fun c x hc1 hx1 => ?_)
        by_cases e : c = i
        · subst e; exact g4 x (by omega)
        · exact g3 c x (by omega) hx1
      · have c24 : o < 8 := Nat.lt_of_not_le (fun zq => hq ((leN (a := 8) (b := o) rfl rfl (by omega) (by omega)).mpr zq))
        clear hq
        refine hAt 4 _ _ _ _ _ _ ?_
        refine And.intro (mx_r (q := 253) (n := 64) (k := 8) rfl rfl (show i < 64 by omega)) (And.intro (Or.inl rfl) ?_)
        refine Eq.mpr (congrArg (fun xq : Nat => At 33 [.ref (108), .int (nI h), .int (nI i), .int (nI o), z4] [.ref xq] τ2 0 0) (rwE rfl (by omega))) ?_
        refine hAt 3 _ _ _ _ _ _ ?_
        refine And.intro (mx_e (q := 253) (n := 64) (k := 8) (j := i) (i := o) rfl (by omega) (by omega) rfl) ?_
        refine Eq.mpr (congrArg (fun xq : Mem => At 36 [.ref (108), .int (nI h), .int (nI i), .int (nI o), z4] [] xq 0 0) (wrE (σ := τ2) (q := 253 + 1 + i) (p := rfl) (hj := by omega) (h := rfl))) ?_
        refine hAt 2 _ _ _ _ _ _ ?_
        refine Eq.mpr (congrArg (fun xq : Int32 => At 21 [.ref (108), .int (nI h), .int (nI i), .int xq, z4] [] (wI τ2 (253 + 1 + i) o (nI 0)) 0 0) (show nI o + nI 1 = nI (o + 1) from (adE rfl rfl))) ?_
        refine ih2 c24 _ (fun a x u => ?_) g2 (fun c x hc1 hx1 => ?_) (fun x hx1 => ?_)
        · rw [rI_wI, if_neg (by omega)]; exact g1 a x u
        · rw [rI_wI, if_neg (by omega)]; exact g3 c x hc1 hx1
        · rw [rI_wI]
          by_cases e : x = o
          · rw [if_pos ⟨rfl, e⟩]
          · rw [if_neg (by omega)]; exact g4 x (by omega)
    refine hAt 5 _ _ _ _ _ _ ?_
    refine And.intro (aOKx (n := 11) (j := 0) rfl (by decide) rfl rfl (by omega) (by omega)) ?_
    refine Eq.mpr (congrArg (fun xq : Int32 => At 9 [.ref (108), .int (nI h), .int (nI i), z3, z4] [.int xq, .int (nI i)] τ 0 0) (show rI τ 111 (nI 0).toNatClampNeg = nI (kT s 0) from (ldE rfl (by omega) (hS.1 0 (by omega))))) ?_
    refine hAt 4 _ _ _ _ _ _ ?_
    refine And.intro (aOKx (n := 11) (j := 1) rfl (by decide) rfl rfl (by omega) (by omega)) ?_
    refine Eq.mpr (congrArg (fun xq : Int32 => At 15 [.ref (108), .int (nI h), .int (nI i), z3, z4] [.int xq, .int (nI (kT s 0)), .int (nI i)] τ 0 0) (show rI τ 111 (nI 1).toNatClampNeg = nI (kT s 1) from (ldE rfl (by omega) (hS.1 1 (by omega))))) ?_
    refine hAt 2 _ _ _ _ _ _ ?_
    refine And.intro (fun hq => ?_) (fun hq => ?_)
    · have c16 : (kT s 0) * (kT s 1) ≤ i := (leN (a := (kT s 0) * (kT s 1)) (b := i) (mlE rfl rfl) rfl (by omega) (by omega)).mp hq
      clear hq
      refine hAt 2 _ _ _ _ _ _ ?_
      have e : i = kT s 0 * kT s 1 := by omega
      refine loopS 0 (by omega) τ z3 z4 0 0 (by omega) (by omega) ?_ (fun x y o hx hy ho => ?_) (fun j hj => absurd hj (Nat.not_lt_zero j))
      · exact hc.mem ⟨fun a x u1 u2 => by rw [t1 a x (by omega)]; exact hc.1.1 a x u1 u2, fun a u x => by rw [show rL τ a x = rL σ a x from congrArg (fun z => z.1 a x) t2]; exact hc.1.2.1 a u x, by rw [show mN τ = mN σ from congrArg (fun z => z.2.2.1) t2]; exact hc.1.2.2⟩ (fun a x u => t1 a x (by omega)) hn hF
      · have := cells_lt (W := kT s 0) (H := kT s 1) hx hy
        rw [t3 _ _ (by omega) ho]
        have := gN_rs (D := D) (t := 20 + (8 * y + x)) ho
        have := hrz (8 * y + x) (by omega)
        show nI 0 = nI (gN D (20 + (8 * y + x)) o)
        rw [show gN D (20 + (8 * y + x)) o = 0 by omega]
    · have c16 : i < (kT s 0) * (kT s 1) := Nat.lt_of_not_le (fun zq => hq ((leN (a := (kT s 0) * (kT s 1)) (b := i) (mlE rfl rfl) rfl (by omega) (by omega)).mpr zq))
      clear hq
      refine hAt 2 _ _ _ _ _ _ ?_
      exact inn c16 0 (by omega) τ t1 t2 t3 (fun x hx1 => absurd hx1 (Nat.not_lt_zero x))
  refine hAt 2 _ _ _ _ _ _ ?_
  exact clr 0 (Nat.zero_le _) σ _ _ (fun _ _ _ => rfl) rfl (fun c _ hc1 _ => absurd hc1 (Nat.not_lt_zero c))
end DM5
