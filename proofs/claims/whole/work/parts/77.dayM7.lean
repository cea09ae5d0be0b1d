/-! THE DAY on the model's side: hour after hour -/
def icn (s : Sk) (h : Nat) : Nat → Nat
  | 0 => 0
  | g + 1 => icn s h g + if kI s g 2 = h then 1 else 0
theorem icn_mono {s : Sk} {h i : Nat} : ∀ n, i ≤ n → icn s h i ≤ icn s h n
  | 0, e => by have : i = 0 := by omega
               subst this; exact Nat.le_refl _
  | n + 1, e => by
    by_cases q : i = n + 1
    · subst q; exact Nat.le_refl _
    · have := icn_mono (s := s) (h := h) (i := i) n (by omega); rw [icn]; omega
theorem icn_sum {s : Sk} {m : Nat} : ∀ n, sumN (fun h => icn s h n) m ≤ n
  | 0 => by rw [show sumN (fun h => icn s h 0) m = 0 from sumN_zero m (fun _ _ => rfl)]; exact Nat.le_refl _
  | n + 1 => by
    have e : sumN (fun h => icn s h (n + 1)) m = sumN (fun h => icn s h n) m + sumN (fun h => if h = kI s n 2 then 1 else 0) m := by
      rw [← sumN_add]
      exact sumN_congr m (fun i _ => by
        show icn s i (n + 1) = _
        rw [icn]
        by_cases q : kI s n 2 = i
        · rw [if_pos q, if_pos q.symm]
        · rw [if_neg q, if_neg (fun z => q z.symm)])
    rw [e, sumN_one]
    have := icn_sum (s := s) (m := m) n
    split <;> omega
theorem fld_zero (f : Dy → Nat → Dy) (D : Dy) : fld f D 0 = D := rfl
/-- the arrays that an hour makes -/
def kcH (s : Sk) (b : Tb) (h : Nat) : Nat := 8 + ocn b h b.1 + icn s h (kT s 4)
theorem kcH_sum {s : Sk} {b : Tb} (hv : VS s) (hB : b.1 ≤ 30) {m : Nat} (hm : m ≤ 50) : sumN (kcH s b) m ≤ 433 := by
  have hG := hv.2.2.2.2.1
  have e : sumN (kcH s b) m = sumN (fun _ => 8) m + sumN (fun h => ocn b h b.1) m + sumN (fun h => icn s h (kT s 4)) m := by rw [← sumN_add, ← sumN_add]; rfl
  have a1 := ocn_sum (b := b) (m := m) b.1
  have a2 := icn_sum (s := s) (m := m) (kT s 4)
  have a3 : ∀ n, sumN (fun _ => 8) n = 8 * n := fun n => by
    induction n with
    | zero => rfl
    | succ n ih => rw [sumN, ih]; omega
  rw [e, a3]; omega
theorem rz_Jn {s : Sk} {h : Nat} {D : Dy} (hn8 : kT s 2 ≤ 8) (hz : rz D) : rz (dJn s h D) := by
  intro c hc
  unfold dJn dMv
  rw [fld_r (fun D k hk => ja1_r (by omega) (by omega)) _ (Nat.le_refl _), fld_r (fun D k hk => cm1_r (by omega) (by omega)) _ (Nat.le_refl _), fld_r (fun D k hk => go1_r (by omega) (by omega)) _ (Nat.le_refl _)]
  exact hz c hc
theorem ld_hi {s : Sk} {h : Nat} (hv : VS s) {D : Dy} {c o : Nat} : ∀ m, m ≤ c → gN (fld (ld1 s h) D m) (20 + c) o = gN D (20 + c) o
  | 0, _ => rfl
  | m + 1, e => by rw [fld, ld1_hi (by omega) (by omega) (fun g q => by have := (cG_b hv q).1; omega)]; exact ld_hi hv m (by omega)
theorem ld_rs {s : Sk} {h : Nat} (hv : VS s) {D : Dy} {c m : Nat} (e : m ≤ c) : rs (fld (ld1 s h) D m) (20 + c) = rs D (20 + c) := sumN_congr 8 (fun o _ => ld_hi hv m e)
theorem ld_skip {s : Sk} {h : Nat} (hv : VS s) {D : Dy} {a : Nat} : ∀ n, (∀ c, a ≤ c → c < a + n → rs D (20 + c) = 0) → fld (ld1 s h) D (a + n) = fld (ld1 s h) D a
  | 0, _ => rfl
  | n + 1, e => by
    show ld1 s h (fld (ld1 s h) D (a + n)) (a + n) = _
    rw [ld1_id (by rw [ld_rs hv (Nat.le_refl _)]; exact e _ (by omega) (by omega))]
    exact ld_skip hv n (fun c q1 q2 => e c q1 (by omega))
theorem off_grid {s : Sk} {h : Nat} (hv : VS s) {D : Dy} (hr : rIn s h D) {c : Nat} (hc : c < 64) (hg : ¬ (c % 8 < kT s 0 ∧ c / 8 < kT s 1)) : rs D (20 + c) = 0 := by
  by_cases q : rs D (20 + c) = 0
  · exact q
  · obtain ⟨k, hk, tk, ek⟩ := hr c hc q
    refine absurd ?_ hg
    have s1 := hv.1
    have s2 := hv.2.1
    unfold cix at ek
    cases e : ps s k h with
    | none => rw [e] at ek; have : c = 0 := ek.symm; subst this; omega
    | some p => rw [e] at ek
                have b := ps_in hv hk _ p e
                have : 8 * p.2 + p.1 = c := ek
                omega
theorem ld1_X {s : Sk} {h c : Nat} (hv : VS s) {D : Dy} : (∀ t i, t < 20 → gN (ld1 s h D c) t i = gN (ldX1 s h true (c % 8) (c / 8) D (gN D (20 + c))) t i) ∧ ∀ t i, gD (ld1 s h D c) t i = gD (ldX1 s h true (c % 8) (c / 8) D (gN D (20 + c))) t i := by
  unfold ld1 dld ldX1
  rw [show sumN (gN D (20 + c)) 8 = rs D (20 + c) from rfl]
  by_cases q : rs D (20 + c) = 0
  · rw [if_pos q, if_pos q]; exact ⟨fun _ _ _ => rfl, fun _ _ => rfl⟩
  · rw [if_neg q, if_neg q, ldB_R]
    exact ⟨fun t i u => gR_ne (by omega), fun _ _ => rfl⟩
theorem ml1_X {s : Sk} {h g : Nat} (hv : VS s) {D : Dy} (e : kI s g 2 = h) : ml1 s h D g = ldX1 s h false (kI s g 0) (kI s g 1 + 1) (sR D (16 + g) (fun _ => 0)) (gN D (16 + g)) := by
  unfold ml1 dld ldX1
  rw [if_pos e, show sumN (gN D (16 + g)) 8 = rs D (16 + g) from rfl]
  by_cases q : rs D (16 + g) = 0
  · rw [if_pos q, if_pos q]
    refine Dy.ext (fun a b => ?_) (fun _ _ => rfl)
    rw [gN_sR]
    by_cases z : a = 16 + g ∧ b < 8
    · have := gN_rs (D := D) (t := 16 + g) z.2
      rw [if_pos z, z.1]; omega
    · rw [if_neg z]
  · rw [if_neg q, if_neg q, ldB_R]
    have hG : ∀ i, icH s h (kI s g 0) (kI s g 1 + 1) = some i → i ≠ g := fun i z y => by
      have := (icH_some z).2
      rw [y] at this; omega
    cases eG : icH s h (kI s g 0) (kI s g 1 + 1) with
    | some i =>
      have hi := hG i eG
      refine Dy.ext (fun a b => ?_) (fun _ _ => rfl)
      show gN (sR (sR D (16 + i) _) (16 + g) _) a b = gN (sR (sR D (16 + g) _) (16 + i) _) a b
      simp only [gN_sR]
      by_cases z1 : a = 16 + g ∧ b < 8
      · rw [if_pos z1, if_neg (by omega), if_pos z1]
      · rw [if_neg z1]
        by_cases z2 : a = 16 + i ∧ b < 8
        · rw [if_pos z2, if_pos z2, if_neg (by omega)]
        · rw [if_neg z2, if_neg z2, if_neg z1]
    | none =>
      cases eF : fdA s (kI s g 0) (kI s g 1 + 1) (kT s 3) with
      | none => rfl
      | some f =>
        refine Dy.ext (fun a b => ?_) (fun a b => ?_)
        · show gN (sR (addD (sN D 3 f _) _) (16 + g) _) a b = gN (addD (sN (sR D (16 + g) _) 3 f _) _) a b
          rw [gN_sR, gN_addD, gN_addD, gN_sN, gN_sN, gN_sR, gN_sR, if_neg (show ¬ (3 = 16 + g ∧ f < 8) by omega)]
          by_cases z1 : a = 16 + g ∧ b < 8
          · rw [if_pos z1, if_neg (by omega), if_pos z1]
          · rw [if_neg z1, if_neg z1]
        · show gD D a b + (hlR s h false D _ f a b + skD s f (gN D 3 f) _ 8 a b) = gD D a b + (hlR s h false _ _ f a b + skD s f (gN (sR D (16 + g) _) 3 f) _ 8 a b)
          rw [gN_sR, if_neg (show ¬ (3 = 16 + g ∧ f < 8) by omega)]
          rfl
section DM7
variable {w : Wd} {d : Nat} {σ0 σ : Mem} {s : Sk} {P : Option AV → Mem → Prop} {X : Nat → Mem → Prop}
theorem s_hourGoes {D : Dy} {b : Tb} {h : Nat} (hS0 : skM σ0 s) (hN0 : ow_n0 ≤ mN σ0) (hb0 : rwR σ0 19 184 4 b) (hb : obB s b) (hv : VS s) (hh : h < 50) (hd : DV s h D) (hrz : rz D) (hc : eM σ0 s (fun _ => h - 1) D σ) (hP : ∀ τ, eM σ0 s (fun _ => h) (dHr s b h D) τ → P none τ) : Ret w true (d + 4) (kcH s b h) (8 * kcH s b h) m_Mo_hourGoes [.ref 108, .int (nI h)] σ P X := by
  have hn := hv.2.2.1
  have hF := hv.2.2.2.1
  have hG := hv.2.2.2.2.1
  have s1 := hv.1
  have s2 := hv.2.1
  have bG := hv.2.2.2.2.2.2.2.2.2.2.2.2.2.2.1
  have ek : kcH s b h = 8 + ocn b h b.1 + icn s h (kT s 4) := rfl
  have dJ := dJn_dv hv hd
  have zJ := rz_Jn (h := h) hn hrz
  have dO := dOb_dv (b := b) hv (fun i hi => (hb.2 i hi).2.1) hd
  have rO := dOb_rIn (h := h) hn (fun i hi => (hb.2 i hi).2.1) hrz
  have dL := dLd_dv (b := b) hv (fun i hi => (hb.2 i hi).2.1) hd
  obtain ⟨O, eO⟩ : ∃ O, O = dOb s b h D := ⟨_, rfl⟩
  rw [← eO] at dO rO
  have eL : dLd s b h D = fld (ld1 s h) O 64 := by rw [eO]; rfl
  have cp := cap_le hv (h + 1)
  refine meth_ok k_Mo_hourGoes q_Mo_hourGoes rfl fun At hAt => ?_
  have lG : ∀ g, g ≤ kT s 4 → ∀ τ z3 z4 u v, u ≤ 8 + ocn b h b.1 + icn s h g → v ≤ 8 * (8 + ocn b h b.1 + icn s h g) → eM σ0 s (fun _ => h) (fld (ml1 s h) (dLd s b h D) g) τ → At 71 [.ref 108, .int (nI h), .int (nI g), z3, z4] [] τ u v := by
    refine upto fun g hg ih => ?_
    intro τ z3 z4 u v hu hw hx
    have hS := hx.sk hS0 hv
    have hL : ow_n0 ≤ mN τ := Nat.le_trans hN0 hx.1.2.2
    have hLL : 368 ≤ mN τ := hL
    have hdk := fld_dv (f := ml1 s h) (n := kT s 4) (fun D k hk hd => ml1_dv (h := h) hv hk hd) dL g hg
    obtain ⟨E, hE⟩ : ∃ E, E = fld (ml1 s h) (dLd s b h D) g := ⟨_, rfl⟩
    have nxt : fld (ml1 s h) (dLd s b h D) (g + 1) = ml1 s h E g := by rw [hE]; rfl
    rw [nxt] at ih
    rw [← hE] at hx hdk
    have hro : ∀ t, 8 ≤ t → t < 84 → rs E t ≤ 7992 := fun t h1 h2 => Nat.le_trans (hdk.rs_le h1 h2) cp
    have inn : g < kT s 4 → kI s g 2 = h → ∀ o, o ≤ 8 → ∀ τ2, eM σ0 s (fun _ => h) (sR E (16 + g) (fun j => if j < o then 0 else gN E (16 + g) j)) τ2 → τ2.2 = (nD τ 8).2 → (∀ j, j < o → rI τ2 (mN τ) j = nI (gN E (16 + g) j)) → At 104 [.ref 108, .int (nI h), .int (nI g), .ref (mN τ), .int (nI o)] [] τ2 (u + 1) (v + 8) := by
      intro hg2 eg
      have bg := bG g hg2
      have hic : icn s h (g + 1) = icn s h g + 1 := by rw [icn, if_pos eg]
      refine upto fun o ho ih2 => ?_
      intro τ2 hx2 t2 ha
      have hS := hx2.sk hS0 hv
      have hM : mN τ < mN τ2 := by
        have : mN τ2 = mN τ + 1 := congrArg (fun z => z.2.2.1) t2
        omega
      have hD : mD τ2 (mN τ) = 8 + 1 := (congrArg (fun z => z.2.1 (mN τ)) t2).trans (if_pos rfl)
      have rk : o < 8 → rI τ2 (318 + 1 + g) o = nI (gN E (16 + g) o) := fun q => by rw [hx2.kep g o (by omega) q, gR_eq q, if_neg (by omega)]
      have e8 : o = 8 → eM σ0 s (fun _ => h) (sR E (16 + g) (fun _ => 0)) τ2 := fun q => by
        have : sR E (16 + g) (fun j => if j < o then 0 else gN E (16 + g) j) = sR E (16 + g) (fun _ => 0) := by
          refine Dy.ext (fun a b => ?_) (fun _ _ => rfl)
          rw [gN_sR, gN_sR]
          by_cases z : a = 16 + g ∧ b < 8
          · rw [if_pos z, if_pos z, if_pos (by omega)]
          · rw [if_neg z, if_neg z]
        rw [← this]; exact hx2
      refine hAt 3 _ _ _ _ _ _ ?_
      refine And.intro (fun hq => ?_) (fun hq => ?_)
      · have c108 : 8 ≤ o := (leN (a := 8) (b := o) rfl rfl (by omega) (by omega)).mp hq
        clear hq
        refine hAt 5 _ _ _ _ _ _ ?_
        refine And.intro (mx_r (q := 180) (n := 3) (k := 3) rfl rfl (show g < 3 by omega)) (And.intro (Or.inl rfl) ?_)
        refine Eq.mpr (congrArg (fun xq : Nat => At 147 [.ref (108), .int (nI h), .int (nI g), .ref (mN τ), .int (nI o)] [.ref xq, .ref (108)] τ2 (u + 1) (v + 8)) (rwE rfl (by omega))) ?_
        refine hAt 2 _ _ _ _ _ _ ?_
        refine And.intro (mx_e (q := 180) (n := 3) (k := 3) (j := g) (i := 0) rfl (by omega) (by omega) rfl) ?_
        refine Eq.mpr (congrArg (fun xq : Int32 => At 149 [.ref (108), .int (nI h), .int (nI g), .ref (mN τ), .int (nI o)] [.int xq, .ref (108)] τ2 (u + 1) (v + 8)) (show rI τ2 (180 + 1 + g) (nI 0).toNatClampNeg = nI (kI s g 0) from (ldE rfl (by omega) (hS.2.2.2.2 g (by omega) 0 (by omega))))) ?_
        refine hAt 4 _ _ _ _ _ _ ?_
        refine And.intro (mx_r (q := 180) (n := 3) (k := 3) rfl rfl (show g < 3 by omega)) (And.intro (Or.inl rfl) ?_)
        refine Eq.mpr (congrArg (fun xq : Nat => At 155 [.ref (108), .int (nI h), .int (nI g), .ref (mN τ), .int (nI o)] [.ref xq, .int (nI (kI s g 0)), .ref (108)] τ2 (u + 1) (v + 8)) (rwE rfl (by omega))) ?_
        refine hAt 2 _ _ _ _ _ _ ?_
        refine And.intro (mx_e (q := 180) (n := 3) (k := 3) (j := g) (i := 1) rfl (by omega) (by omega) rfl) ?_
        refine Eq.mpr (congrArg (fun xq : Int32 => At 157 [.ref (108), .int (nI h), .int (nI g), .ref (mN τ), .int (nI o)] [.int xq, .int (nI (kI s g 0)), .ref (108)] τ2 (u + 1) (v + 8)) (show rI τ2 (180 + 1 + g) (nI 1).toNatClampNeg = nI (kI s g 1) from (ldE rfl (by omega) (hS.2.2.2.2 g (by omega) 1 (by omega))))) ?_
        refine hAt 5 _ _ _ _ _ _ ?_
        refine Eq.mpr (congrArg (fun xq : Int32 => At 162 [.ref (108), .int (nI h), .int (nI g), .ref (mN τ), .int (nI o)] [.int (nI 0), .int (nI h), .ref (mN τ), .int xq, .int (nI (kI s g 0)), .ref (108)] τ2 (u + 1) (v + 8)) (show (nI (kI s g 1)) + nI 1 = nI (kI s g 1 + 1) from (adE rfl rfl))) ?_
        refine hAt 3 _ _ _ _ _ _ ?_
        refine s_lands (can := false) (r := gN E (16 + g)) hS0 hv hh (by omega) (by omega) (e8 (by omega)) (fun j hj => ha j (by omega)) (fun τ4 q i hi => aOK_d hL (show mN τ < mN τ4 by rw [show mN τ4 = mN τ2 from congrArg (fun z => z.2.2.1) q]; exact hM) (show mD τ4 (mN τ) = 8 + 1 by rw [show mD τ4 (mN τ) = mD τ2 (mN τ) from congrArg (fun z => z.2.1 (mN τ)) q]; exact hD) hi (by omega)) (Or.inr hLL) (hro _ (by omega) (by omega)) (fun f hf => by rw [gR_ne (by omega)]; exact hdk.2.2.2 f hf) (fun i hi => by rw [rs_sR]; split; exact Nat.le_trans (Nat.le_of_eq (sumN_0 8)) (Nat.zero_le _); exact hro _ (by omega) (by omega)) (fun τ3 hx3 t3 h3 => ?_)
        refine Eq.mpr (congrArg (fun xq : Int32 => At 71 [.ref (108), .int (nI h), .int xq, .ref (mN τ), .int (nI o)] [] τ3 (u + 1) (v + 8)) (show nI g + nI 1 = nI (g + 1) from (adE rfl rfl))) ?_
        refine ih hg2 τ3 _ _ (u + 1) (v + 8) (by omega) (by omega) ?_
        rw [ml1_X hv eg]; exact hx3
      · have c108 : o < 8 := Nat.lt_of_not_le (fun zq => hq ((leN (a := 8) (b := o) rfl rfl (by omega) (by omega)).mpr zq))
        clear hq
        refine hAt 6 _ _ _ _ _ _ ?_
        refine And.intro (mx_r (q := 318) (n := 3) (k := 8) rfl rfl (show g < 3 by omega)) (And.intro (Or.inl rfl) ?_)
        refine Eq.mpr (congrArg (fun xq : Nat => At 120 [.ref (108), .int (nI h), .int (nI g), .ref (mN τ), .int (nI o)] [.ref xq, .int (nI o), .ref (mN τ)] τ2 (u + 1) (v + 8)) (rwE rfl (by omega))) ?_
        refine hAt 2 _ _ _ _ _ _ ?_
        refine And.intro (mx_e (q := 318) (n := 3) (k := 8) (j := g) (i := o) rfl (by omega) (by omega) rfl) ?_
        refine Eq.mpr (congrArg (fun xq : Int32 => At 123 [.ref (108), .int (nI h), .int (nI g), .ref (mN τ), .int (nI o)] [.int xq, .int (nI o), .ref (mN τ)] τ2 (u + 1) (v + 8)) (show rI τ2 (318 + 1 + g) (nI o).toNatClampNeg = nI (gN E (16 + g) o) from (ldE rfl (by omega) (rk (by omega))))) ?_
        refine hAt 1 _ _ _ _ _ _ ?_
        refine And.intro (aOK_d hL hM hD (show o < 8 by omega) (by omega)) ?_
        refine Eq.mpr (congrArg (fun xq : Mem => At 124 [.ref (108), .int (nI h), .int (nI g), .ref (mN τ), .int (nI o)] [] xq (u + 1) (v + 8)) (wrE (σ := τ2) (q := mN τ) (p := rfl) (hj := by omega) (h := rfl))) ?_
        refine hAt 4 _ _ _ _ _ _ ?_
        refine And.intro (mx_r (q := 318) (n := 3) (k := 8) rfl rfl (show g < 3 by omega)) (And.intro (Or.inl rfl) ?_)
        refine Eq.mpr (congrArg (fun xq : Nat => At 130 [.ref (108), .int (nI h), .int (nI g), .ref (mN τ), .int (nI o)] [.ref xq] (wI τ2 (mN τ) o (nI (gN E (16 + g) o))) (u + 1) (v + 8)) (rwE rfl (by omega))) ?_
        refine hAt 3 _ _ _ _ _ _ ?_
        refine And.intro (mx_e (q := 318) (n := 3) (k := 8) (j := g) (i := o) rfl (by omega) (by omega) rfl) ?_
        refine Eq.mpr (congrArg (fun xq : Mem => At 134 [.ref (108), .int (nI h), .int (nI g), .ref (mN τ), .int (nI o)] [] xq (u + 1) (v + 8)) (wrE (σ := (wI τ2 (mN τ) o (nI (gN E (16 + g) o)))) (q := 318 + 1 + g) (p := rfl) (hj := by omega) (h := rfl))) ?_
        refine hAt 2 _ _ _ _ _ _ ?_
        refine Eq.mpr (congrArg (fun xq : Int32 => At 104 [.ref (108), .int (nI h), .int (nI g), .ref (mN τ), .int xq] [] (wI (wI τ2 (mN τ) o (nI (gN E (16 + g) o))) (318 + 1 + g) o (nI 0)) (u + 1) (v + 8)) (show nI o + nI 1 = nI (o + 1) from (adE rfl rfl))) ?_
        refine ih2 c108 _ ?_ t2 (fun j hj => ?_)
        · have hx4 : eM σ0 s (fun _ => h) (sR E (16 + g) (fun j => if j < o then 0 else gN E (16 + g) j)) (wI τ2 (mN τ) o (nI (gN E (16 + g) o))) := hx2.mem ⟨fun a x u1 u2 => by rw [rI_wI, if_neg (by omega)]; exact hx2.1.1 a x u1 u2, hx2.1.2⟩ (fun a x u => by rw [rI_wI, if_neg (by omega)]) hn hF
          have q := hx4.wkep (v := 0) (show g < 3 by omega) c108 hn hF
          have e2 : sN (sR E (16 + g) (fun j => if j < o then 0 else gN E (16 + g) j)) (16 + g) o 0 = sR E (16 + g) (fun j => if j < o + 1 then 0 else gN E (16 + g) j) := by
            refine Dy.ext (fun b j => ?_) (fun _ _ => rfl)
            rw [gN_sN, gN_sR, gN_sR]
            by_cases q1 : b = 16 + g ∧ j < 8
            · rw [if_pos q1, if_pos q1]
              by_cases q2 : j = o
              · rw [if_pos ⟨q1.1, q2⟩, if_pos (by omega)]
              · rw [if_neg (fun z => q2 z.2)]
                by_cases q3 : j < o
                · rw [if_pos q3, if_pos (by omega)]
                · rw [if_neg q3, if_neg (by omega)]
            · rw [if_neg (fun z => q1 (by omega)), if_neg q1, if_neg q1]
          rw [e2] at q
          exact q
        · rw [rI_wI, if_neg (by omega), rI_wI]
          by_cases e : j = o
          · rw [if_pos ⟨rfl, e⟩, e]
          · rw [if_neg (by omega)]; exact ha j (by omega)
    refine hAt 5 _ _ _ _ _ _ ?_
    refine And.intro (aOKx (n := 11) (j := 4) rfl (by decide) rfl rfl (by omega) (by omega)) ?_
    refine Eq.mpr (congrArg (fun xq : Int32 => At 78 [.ref (108), .int (nI h), .int (nI g), z3, z4] [.int xq, .int (nI g)] τ u v) (show rI τ 111 (nI 4).toNatClampNeg = nI (kT s 4) from (ldE rfl (by omega) (hS.1 4 (by omega))))) ?_
    refine hAt 1 _ _ _ _ _ _ ?_
    refine And.intro (fun hq => ?_) (fun hq => ?_)
    · have c78 : kT s 4 ≤ g := (leN (a := kT s 4) (b := g) rfl rfl (by omega) (by omega)).mp hq
      clear hq
      refine hAt 1 _ _ _ _ _ _ ?_
      have e : g = kT s 4 := by omega
      subst e
      refine hP τ ?_
      rw [hE] at hx
      exact hx
    · have c78 : g < kT s 4 := Nat.lt_of_not_le (fun zq => hq ((leN (a := kT s 4) (b := g) rfl rfl (by omega) (by omega)).mpr zq))
      clear hq
      have bg := bG g c78
      refine hAt 4 _ _ _ _ _ _ ?_
      refine And.intro (mx_r (q := 180) (n := 3) (k := 3) rfl rfl (show g < 3 by omega)) (And.intro (Or.inl rfl) ?_)
      refine Eq.mpr (congrArg (fun xq : Nat => At 87 [.ref (108), .int (nI h), .int (nI g), z3, z4] [.ref xq] τ u v) (rwE rfl (by omega))) ?_
      refine hAt 2 _ _ _ _ _ _ ?_
      refine And.intro (mx_e (q := 180) (n := 3) (k := 3) (j := g) (i := 2) rfl (by omega) (by omega) rfl) ?_
      refine Eq.mpr (congrArg (fun xq : Int32 => At 89 [.ref (108), .int (nI h), .int (nI g), z3, z4] [.int xq] τ u v) (show rI τ (180 + 1 + g) (nI 2).toNatClampNeg = nI (kI s g 2) from (ldE rfl (by omega) (hS.2.2.2.2 g (by omega) 2 (by omega))))) ?_
      refine hAt 2 _ _ _ _ _ _ ?_
      refine And.intro (fun hq => ?_) (fun hq => ?_)
      · have c90 : kI s g 2 = h := (eqN (a := kI s g 2) (b := h) rfl rfl (by omega) (by omega)).mp hq
        clear hq
        refine hAt 1 _ _ _ _ _ _ ?_
        have hic : icn s h (g + 1) = icn s h g + 1 := by rw [icn, if_pos c90]
        have him := icn_mono (s := s) (h := h) (i := g + 1) (kT s 4) (by omega)
        have n8 : (nI 8).toNatClampNeg = 8 := by decide
        refine hAt 4 _ _ _ _ _ _ ?_
        refine And.intro (by decide) (And.intro (by decide) (And.intro hL (And.intro (by omega) (And.intro (by omega) ?_))))
        refine inn c78 c90 0 (by omega) (nD τ 8) ?_ rfl (fun j hj => absurd hj (Nat.not_lt_zero j))
        have e0 : sR E (16 + g) (fun j => if j < 0 then 0 else gN E (16 + g) j) = E := by
          refine Dy.ext (fun a b => ?_) (fun _ _ => rfl)
          rw [gN_sR]
          by_cases z : a = 16 + g ∧ b < 8
          · rw [if_pos z, if_neg (Nat.not_lt_zero b), z.1]
          · rw [if_neg z]
        rw [e0]
        have r0 : ∀ a x, a < 368 → rI (nD τ 8) a x = rI τ a x := fun a x u => if_neg (fun z : a = mN τ => by omega)
        refine hx.mem ⟨fun a x u1 u2 => ?_, fun a u x => hx.1.2.1 a u x, ?_⟩ (fun a x u => r0 a x (by omega)) hn hF
        · rw [r0 a x u1]; exact hx.1.1 a x u1 u2
        · have := hx.1.2.2
          show mN σ0 ≤ mN τ + 1
          omega
      · have c90 : ¬ kI s g 2 = h := fun zq => hq ((eqN (a := kI s g 2) (b := h) rfl rfl (by omega) (by omega)).mpr zq)
        clear hq
        refine hAt 3 _ _ _ _ _ _ ?_
        refine Eq.mpr (congrArg (fun xq : Int32 => At 71 [.ref (108), .int (nI h), .int xq, z3, z4] [] τ u v) (show nI g + nI 1 = nI (g + 1) from (adE rfl rfl))) ?_
        have hic : icn s h (g + 1) = icn s h g := by rw [icn, if_neg c90]; rfl
        refine ih c78 τ _ _ u v (by omega) (by omega) ?_
        rw [ml1, if_neg c90]; exact hx
  have lY : ∀ u v, u ≤ 8 + ocn b h b.1 → v ≤ 8 * (8 + ocn b h b.1) → ∀ y, y ≤ kT s 1 → ∀ τ z3 z4, eM σ0 s (fun _ => h) (fld (ld1 s h) O (8 * y)) τ → hpM s O τ → At 16 [.ref 108, .int (nI h), .int (nI y), z3, z4] [] τ u v := by
    intro u v hu hw
    refine upto fun y hy ih => ?_
    intro τ z3 z4 hx hq
    have hS := hx.sk hS0 hv
    have lX : y < kT s 1 → ∀ x, x ≤ kT s 0 → ∀ τ2, eM σ0 s (fun _ => h) (fld (ld1 s h) O (8 * y + x)) τ2 → hpM s O τ2 → At 28 [.ref 108, .int (nI h), .int (nI y), .int (nI x), z4] [] τ2 u v := by
      intro hy2
      refine upto fun x hx0 ih2 => ?_
      intro τ2 hx2 hq2
      have hS := hx2.sk hS0 hv
      have hdk := fld_dv (f := ld1 s h) (n := 64) (fun D k hk hd => ld1_dv (h := h) hv hk hd) dO (8 * y + x) (by omega)
      have hro : ∀ t, 8 ≤ t → t < 84 → rs (fld (ld1 s h) O (8 * y + x)) t ≤ 7992 := fun t h1 h2 => Nat.le_trans (hdk.rs_le h1 h2) cp
      have er : gN O (20 + (8 * y + x)) = gN (fld (ld1 s h) O (8 * y + x)) (20 + (8 * y + x)) := funext fun o => (ld_hi hv _ (Nat.le_refl _)).symm
      have cl : x < kT s 0 → kT s 0 * y + x < 64 := fun q => row_lt s1.2 s2.2 q hy2
      refine hAt 5 _ _ _ _ _ _ ?_
      refine And.intro (aOKx (n := 11) (j := 0) rfl (by decide) rfl rfl (by omega) (by omega)) ?_
      refine Eq.mpr (congrArg (fun xq : Int32 => At 35 [.ref (108), .int (nI h), .int (nI y), .int (nI x), z4] [.int xq, .int (nI x)] τ2 u v) (show rI τ2 111 (nI 0).toNatClampNeg = nI (kT s 0) from (ldE rfl (by omega) (hS.1 0 (by omega))))) ?_
      refine hAt 1 _ _ _ _ _ _ ?_
      refine And.intro (fun hq => ?_) (fun hq => ?_)
      · have c35 : kT s 0 ≤ x := (leN (a := kT s 0) (b := x) rfl rfl (by omega) (by omega)).mp hq
        clear hq
        refine hAt 2 _ _ _ _ _ _ ?_
        refine Eq.mpr (congrArg (fun xq : Int32 => At 16 [.ref (108), .int (nI h), .int xq, .int (nI x), z4] [] τ2 u v) (show nI y + nI 1 = nI (y + 1) from (adE rfl rfl))) ?_
        have e : x = kT s 0 := by omega
        subst e
        refine ih hy2 τ2 _ _ ?_ hq2
        rw [show 8 * (y + 1) = 8 * y + kT s 0 + (8 - kT s 0) by omega, ld_skip hv _ (fun c q1 q2 => off_grid hv rO (by omega) (fun z => by omega))]
        exact hx2
      · have c35 : x < kT s 0 := Nat.lt_of_not_le (fun zq => hq ((leN (a := kT s 0) (b := x) rfl rfl (by omega) (by omega)).mpr zq))
        clear hq
        have cl := cl c35
        refine hAt 10 _ _ _ _ _ _ ?_
        refine s_McellN hS hv (by omega) (by omega) ?_
        refine And.intro (mx_r (q := 253) (n := 64) (k := 8) rfl rfl (show kT s 0 * y + x < 64 by omega)) (And.intro (Or.inl rfl) ?_)
        refine Eq.mpr (congrArg (fun xq : Nat => At 52 [.ref (108), .int (nI h), .int (nI y), .int (nI x), z4] [.ref xq, .int (nI y), .int (nI x), .ref (108)] τ2 u v) (rwE rfl (by omega))) ?_
        refine hAt 5 _ _ _ _ _ _ ?_
        refine s_lands (can := true) (r := gN O (20 + (8 * y + x))) hS0 hv hh (by omega) (by omega) hx2 (fun j hj => hq2 x y j c35 hy2 hj) (fun τ4 _ i hi => mx_row (q := 253) (n := 64) (k := 8) (j := kT s 0 * y + x) rfl cl i hi) (Or.inl (show 254 ≤ 253 + 1 + (kT s 0 * y + x) ∧ 253 + 1 + (kT s 0 * y + x) < 318 by omega)) (by rw [er]; exact hro _ (by omega) (by omega)) hdk.2.2.2 (fun i hi => hro _ (by omega) (by omega)) (fun τ3 hx3 t3 h3 => ?_)
        refine Eq.mpr (congrArg (fun xq : Int32 => At 28 [.ref (108), .int (nI h), .int (nI y), .int xq, z4] [] τ3 u v) (show nI x + nI 1 = nI (x + 1) from (adE rfl rfl))) ?_
        refine ih2 c35 τ3 ?_ (hq2.keep hv (fun a j u1 u2 => h3 a j (Or.inl ⟨by omega, u2⟩)) (fun _ _ _ _ => rfl))
        rw [er] at hx3
        have e := ld1_X (h := h) (c := 8 * y + x) hv (D := fld (ld1 s h) O (8 * y + x))
        rw [show (8 * y + x) % 8 = x by omega, show (8 * y + x) / 8 = y by omega] at e
        exact hx3.low (fun t i u1 _ => e.1 t i u1) e.2 hn
    refine hAt 5 _ _ _ _ _ _ ?_
    refine And.intro (aOKx (n := 11) (j := 1) rfl (by decide) rfl rfl (by omega) (by omega)) ?_
    refine Eq.mpr (congrArg (fun xq : Int32 => At 23 [.ref (108), .int (nI h), .int (nI y), z3, z4] [.int xq, .int (nI y)] τ u v) (show rI τ 111 (nI 1).toNatClampNeg = nI (kT s 1) from (ldE rfl (by omega) (hS.1 1 (by omega))))) ?_
    refine hAt 1 _ _ _ _ _ _ ?_
    refine And.intro (fun hq => ?_) (fun hq => ?_)
    · have c23 : kT s 1 ≤ y := (leN (a := kT s 1) (b := y) rfl rfl (by omega) (by omega)).mp hq
      clear hq
      refine hAt 2 _ _ _ _ _ _ ?_
      have e : y = kT s 1 := by omega
      subst e
      refine lG 0 (Nat.zero_le _) τ _ _ u v (by rw [icn]; omega) (by rw [icn]; omega) ?_
      have q := ld_skip (h := h) hv (D := O) (a := 8 * kT s 1) (64 - 8 * kT s 1) (fun c q1 q2 => off_grid hv rO (by omega) (fun z => by omega))
      rw [show 8 * kT s 1 + (64 - 8 * kT s 1) = 64 by omega] at q
      rw [fld_zero, eL, q]
      exact hx
    · have c23 : y < kT s 1 := Nat.lt_of_not_le (fun zq => hq ((leN (a := kT s 1) (b := y) rfl rfl (by omega) (by omega)).mpr zq))
      clear hq
      refine hAt 2 _ _ _ _ _ _ ?_
      exact lX c23 0 (Nat.zero_le _) τ hx hq
  have mE : fld (mv1 s h) D (kT s 2) = dMv s h D := mv_eq (fun k hk tk e => by have := (hd.1 k hk tk).1.1; omega) _ (Nat.le_refl _)
  refine hAt 10 _ _ _ _ _ _ ?_
  refine s_moves hS0 hv hh hd hc (fun τ1 hx1 _ => ?_)
  rw [mE] at hx1
  refine s_joinsAll hS0 hv (dMv_dv hv hd) hx1 (fun τ2 hx2 _ => ?_)
  refine callG (8 + ocn b h b.1) (8 * (8 + ocn b h b.1)) (by omega) (by omega) (s_rains hS0 hN0 hb0 hb.1 hb.2 hv hh dJ zJ hx2 (fun τ3 hx3 hq3 => ?_))
  have eO2 : fld (ob1 s b h) (sR (fld (sp1 s b h) (dJn s h D) (kT s 2)) 4 (fun _ => 0)) b.1 = O := by rw [eO]; rfl
  rw [eO2] at hq3
  refine lY _ _ (by omega) (by omega) 0 (Nat.zero_le _) τ3 _ _ ?_ hq3
  have hx4 : eM σ0 s (fun _ => h) (fld (ob1 s b h) (sR (fld (sp1 s b h) (dJn s h D) (kT s 2)) 4 (fun _ => 0)) b.1) τ3 := hx3
  rw [eO2] at hx4
  exact hx4
theorem s_goes {b : Tb} {H : Nat} {seed : Int32} (hS0 : skM σ s) (hN0 : ow_n0 ≤ mN σ) (hb0 : rwR σ 19 184 4 b) (hb : obB s b) (hv : VS s) (hH : H < 50) (hP : ∀ τ, eM σ s (fun _ => H) (dRun s b seed (H + 1)) τ → P none τ) : Ret w true (d + 5) 433 3464 m_Mo_goes [.ref 108, .int seed, .int (nI H)] σ P X := by
  have hbb : ∀ i, i < b.1 → b.2 i 1 < kT s 2 := fun i hi => (hb.2 i hi).2.1
  have tot : ∀ m, m ≤ 50 → sumN (kcH s b) m ≤ 433 := fun m hm => kcH_sum hv hb.1 hm
  refine meth_ok k_Mo_goes q_Mo_goes rfl fun At hAt => ?_
  have loop : ∀ h, h ≤ H + 1 → ∀ τ u v, u ≤ sumN (kcH s b) h → v ≤ 8 * sumN (kcH s b) h → eM σ s (fun _ => h - 1) (dRun s b seed h) τ → At 7 [.ref 108, .int seed, .int (nI H), .int (nI h)] [] τ u v := by
    refine upto fun h hh ih => ?_
    intro τ u v hu hw hx
    have es : sumN (kcH s b) (h + 1) = sumN (kcH s b) h + kcH s b h := rfl
    have tot1 : h < H + 1 → sumN (kcH s b) (h + 1) ≤ 433 := fun q => tot _ (by omega)
    refine hAt 3 _ _ _ _ _ _ ?_
    refine And.intro (fun hq => ?_) (fun hq => ?_)
    · have c9 : H < h := (ltN (a := H) (b := h) rfl rfl (by omega) (by omega)).mp hq
      clear hq
      refine hAt 1 _ _ _ _ _ _ ?_
      have e : h = H + 1 := by omega
      subst e
      exact hP τ hx
    · have c9 : h ≤ H := Nat.le_of_not_lt (fun zq => hq ((ltN (a := H) (b := h) rfl rfl (by omega) (by omega)).mpr zq))
      clear hq
      have tot1 := tot1 (by omega)
      refine hAt 5 _ _ _ _ _ _ ?_
      refine callG (kcH s b h) (8 * kcH s b h) (by omega) (by omega) (s_hourGoes hS0 hN0 hb0 hb hv (by omega) (dRun_dv hv hbb h) (dRun_rz hv h) hx (fun τ3 hx3 => ?_))
      refine Eq.mpr (congrArg (fun xq : Int32 => At 7 [.ref (108), .int (seed), .int (nI H), .int xq] [] τ3 (u + (kcH s b h)) (v + (8 * kcH s b h))) (show nI h + nI 1 = nI (h + 1) from (adE rfl rfl))) ?_
      exact ih (by omega) τ3 _ _ (by omega) (by omega) hx3
  refine hAt 5 _ _ _ _ _ _ ?_
  refine s_begins (hf := fun _ => 0 - 1) hS0 hv hN0 (fun τ1 hx1 _ => ?_)
  exact loop 0 (Nat.zero_le _) τ1 0 0 (Nat.zero_le _) (Nat.zero_le _) hx1
end DM7
