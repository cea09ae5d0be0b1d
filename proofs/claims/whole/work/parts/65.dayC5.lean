/-! THE DAY on the component's side: orders -/
theorem bv_and7 (X : BitVec 32) (s : Nat) : (X >>> s) &&& 7#32 = BitVec.ofNat 32 (X.toNat / 2 ^ s % 8) := by
  refine BitVec.eq_of_toNat_eq ?_
  rw [BitVec.toNat_and, BitVec.toNat_ushiftRight, Nat.shiftRight_eq_div_pow]
  have : (7#32).toNat = 2 ^ 3 - 1 := by decide
  rw [this, Nat.and_two_pow_sub_one_eq_mod, BitVec.toNat_ofNat]
  have : X.toNat / 2 ^ s % 8 < 8 := Nat.mod_lt _ (by decide)
  omega
theorem bv_sand7 (X : BitVec 32) (s : Nat) (hs : s ≤ 29) : (X.sshiftRight s) &&& 7#32 = (X >>> s) &&& 7#32 := by
  refine BitVec.eq_of_getLsbD_eq fun i hi => ?_
  rw [BitVec.getLsbD_and, BitVec.getLsbD_and, BitVec.getLsbD_sshiftRight, BitVec.getLsbD_ushiftRight]
  by_cases h : i < 3
  · rw [if_pos (by omega)]
    simp [show ¬ 32 ≤ i by omega]
  · have : (7#32).getLsbD i = false := by
      have h1 : (7#32) = BitVec.ofNat 32 (2 ^ 3 - 1) := by decide
      rw [h1, BitVec.getLsbD_ofNat, Nat.testBit_two_pow_sub_one]
      simp [h]
    rw [this, Bool.and_false, Bool.and_false]
theorem drN_u (x : Int32) : ((x.toUInt32 >>> ((nI 16).toUInt32 &&& Int32.toUInt32 31)).toInt32) &&& nI 7 = nI (drN x) := congrArg (fun b => (⟨⟨b⟩⟩ : Int32)) (bv_and7 x.toBitVec 16)
theorem drN_s (x : Int32) : (x >>> (nI 16 &&& 31)) &&& nI 7 = nI (drN x) := congrArg (fun b => (⟨⟨b⟩⟩ : Int32)) ((bv_sand7 x.toBitVec 16 (by decide)).trans (bv_and7 x.toBitVec 16))
theorem drN_lt (x : Int32) : drN x < 8 := Nat.mod_lt _ (by decide)
theorem gN_obS {b : Tb} {D : Dy} {i t j : Nat} : gN (obS b D i) t j = gN D t j := by
  unfold obS; by_cases r : b.2 i 2 = 1
  · rw [if_pos r]; rfl
  · rw [if_neg r]
theorem rs_obS {b : Tb} {D : Dy} {i t : Nat} : rs (obS b D i) t = rs D t := sumN_congr 8 (fun _ _ => gN_obS)
theorem dfl_4 {D : Dy} {k c n i : Nat} (hk : k < 8) : gN (dfl D k c n) 4 i = gN D 4 i := by
  by_cases q : n = 0
  · rw [dfl, if_pos q]
  · rw [gN_dfl q, if_neg (by omega), if_neg (by omega)]
theorem dfl_th {D : Dy} {k c n i : Nat} : gN (dfl D k c n) 0 i = gN D 0 i := by
  by_cases q : n = 0
  · rw [dfl, if_pos q]
  · rw [gN_dfl q, if_neg (by omega), if_neg (by omega)]
theorem ob1_4 {s : Sk} {b : Tb} {h : Nat} {D : Dy} {i k : Nat} (hk : b.2 i 1 < 8) (h4 : gN D 4 k ≤ kT s 6) : gN (ob1 s b h D i) 4 k ≤ kT s 6 := by
  unfold ob1
  by_cases q : b.2 i 0 = h ∧ gN D 0 (b.2 i 1) = 1
  · rw [if_pos q, gN_sN]
    by_cases e : k = b.2 i 1
    · rw [if_pos ⟨rfl, e⟩, ← e]; rw [e] at h4 ⊢; unfold obF; omega
    · rw [if_neg (fun z => e z.2), dfl_4 hk, gN_obS]; exact h4
  · rw [if_neg q]; exact h4
theorem fld_4 {s : Sk} {b : Tb} {h : Nat} {D : Dy} (hb : ∀ i, i < b.1 → b.2 i 1 < 8) {k : Nat} (h4 : gN D 4 k ≤ kT s 6) : ∀ i, i ≤ b.1 → gN (fld (ob1 s b h) D i) 4 k ≤ kT s 6
  | 0, _ => h4
  | i + 1, hi => ob1_4 (hb i (by omega)) (fld_4 hb h4 i (by omega))
section DC5
variable {w : Wd} {d : Nat} {σ0 σ : Mem} {s : Sk} {P : Option AV → Mem → Prop} {X : Nat → Mem → Prop}
theorem s_draw {D : Dy} {e : Nat} {hf : Nat → Nat} (hv : VS s) (hc : eC σ0 s e hf D σ) (hP : ∀ τ, eC σ0 s e hf (sD D 0 0 (sdN (gD D 0 0))) τ → (∀ j, rI τ 80 j = rI σ 80 j) → P (some (.int (nI (drN (sdN (gD D 0 0)))))) τ) : Ret w true (d + 1) 0 0 m_Day_draw [.ref 59] σ P X := by
  have hn := hv.2.2.1
  have hF := hv.2.2.2.1
  have fin := hP _ (hc.wsed (v := sdN (gD D 0 0)) hn hF) (fun j => by rw [rI_wI, if_neg (by omega)])
  refine meth_ok k_Day_draw q_Day_draw rfl fun At hAt => ?_
  refine hAt 3 _ _ _ _ _ _ ?_
  refine Eq.mpr (congrArg (fun xq : Int32 => At 5 [.ref (59)] [.int xq, .ref (59)] σ 0 0) (show rI σ 59 8 = gD D 0 0 from hc.sed)) ?_
  refine hAt 7 _ _ _ _ _ _ ?_
  refine Eq.mpr (congrArg (fun xq : Int32 => At 19 [.ref (59)] [.int xq] (wI σ 59 8 (((gD D 0 0) * nI 1103515245) + nI 12345)) 0 0) (show rI (wI σ 59 8 (((gD D 0 0) * nI 1103515245) + nI 12345)) 59 8 = ((gD D 0 0) * nI 1103515245) + nI 12345 from (by rw [rI_wI, if_pos ⟨rfl, rfl⟩]))) ?_
  refine hAt 5 _ _ _ _ _ _ ?_
  rw [← drN_u] at fin; exact fin
theorem s_wantedBy {D : Dy} {e kd am : Nat} {hf : Nat → Nat} (hS0 : skC σ0 4 s) (hv : VS s) (hc : eC σ0 s e hf D σ) (hkd : kd ≤ 2) (ham : am ≤ 999) (hP : ∀ τ, eC σ0 s e hf (if kd = 1 then sD D 0 0 (sdN (gD D 0 0)) else D) τ → (∀ j, rI τ 80 j = rI σ 80 j) → P (some (.int (nI (if kd = 0 then am else if kd = 1 then (if drN (sdN (gD D 0 0)) < am then kT s 6 else 0) else 0)))) τ) : Ret w true (d + 3) 0 0 m_Day_wantedBy [.ref 59, .int (nI kd), .int (nI am)] σ P X := by
  have hdr := drN_lt (sdN (gD D 0 0))
  refine meth_ok k_Day_wantedBy q_Day_wantedBy rfl fun At hAt => ?_
  refine hAt 2 _ _ _ _ _ _ ?_
  refine And.intro (And.intro (fun hq => ?_) (And.intro (fun hq => ?_) (trivial))) (fun hq0 hq1 => ?_)
  · have c1 : kd = 0 := (eqN (a := kd) (b := 0) rfl rfl (by omega) (by omega)).mp hq
    clear hq
    refine hAt 2 _ _ _ _ _ _ ?_
    have z := hP σ (by rw [if_neg (by omega)]; exact hc) (fun _ => rfl)
    rw [if_pos c1] at z
    exact z
  · have c1 : kd = 1 := (eqN (a := kd) (b := 1) rfl rfl (by omega) (by omega)).mp hq
    clear hq
    refine hAt 4 _ _ _ _ _ _ ?_
    refine s_draw hv hc (fun τ hc2 g80 => ?_)
    refine And.intro (fun hq => ?_) (fun hq => ?_)
    · have c35 : am ≤ drN (sdN (gD D 0 0)) := (leN (a := am) (b := drN (sdN (gD D 0 0))) rfl rfl (by omega) (by omega)).mp hq
      clear hq
      refine hAt 2 _ _ _ _ _ _ ?_
      have z := hP τ (by rw [if_pos c1]; exact hc2) g80
      rw [if_neg (by omega), if_pos c1, if_neg (by omega)] at z
      exact z
    · have c35 : drN (sdN (gD D 0 0)) < am := Nat.lt_of_not_le (fun zq => hq ((leN (a := am) (b := drN (sdN (gD D 0 0))) rfl rfl (by omega) (by omega)).mpr zq))
      clear hq
      refine hAt 6 _ _ _ _ _ _ ?_
      refine s_Sky_fact (hc2.sk hS0) (by omega) ?_
      have z := hP τ (by rw [if_pos c1]; exact hc2) g80
      rw [if_neg (by omega), if_pos c1, if_pos (by omega)] at z
      exact z
  · have c1 : ¬ kd = 0 ∧ ¬ kd = 1 := ⟨fun zq => hq0 ((eqN (a := kd) (b := 0) rfl rfl (by omega) (by omega)).mpr zq), fun zq => hq1 ((eqN (a := kd) (b := 1) rfl rfl (by omega) (by omega)).mpr zq)⟩
    refine hAt 2 _ _ _ _ _ _ ?_
    have z := hP σ (by rw [if_neg c1.2]; exact hc) (fun _ => rfl)
    rw [if_neg c1.1, if_neg c1.2] at z
    exact z
theorem s_obey {D : Dy} {b : Tb} {h : Nat} (hS0 : skC σ0 4 s) (hb0 : tbR σ0 31 32 4 b) (hB : b.1 ≤ 30) (hbb : ∀ i, i < b.1 → b.2 i 0 < 50 ∧ b.2 i 1 < kT s 2 ∧ b.2 i 2 ≤ 2 ∧ b.2 i 3 ≤ 999) (hv : VS s) (hh : h < 50) (hd : DV s (h + 1) D) (hc : eC σ0 s (h + 1) (fun _ => h) D σ) (hP : ∀ τ, eC σ0 s (h + 1) (fun _ => h) (fld (ob1 s b h) (sR D 4 (fun _ => 0)) b.1) τ → P none τ) : Ret w true (d + 4) 0 0 m_Day_obey [.ref 59, .int (nI h)] σ P X := by
  have hn := hv.2.2.1
  have hF := hv.2.2.2.1
  have hv' := hv
  obtain ⟨-, -, -, -, -, -, s6, s7, -⟩ := hv'
  refine meth_ok k_Day_obey q_Day_obey rfl fun At hAt => ?_
  have loop : ∀ i, i ≤ b.1 → ∀ τ z3 z4 z5 z6, eC σ0 s (h + 1) (fun _ => h) (fld (ob1 s b h) (sR D 4 (fun _ => 0)) i) τ → (∀ k, k < kT s 2 → rI τ 80 k = nI (gN (fld (ob1 s b h) (sR D 4 (fun _ => 0)) i) 4 k)) → At 10 [.ref 59, .int (nI h), .int (nI i), z3, z4, z5, z6] [] τ 0 0 := by
    refine upto fun i hi ih => ?_
    intro τ z3 z4 z5 z6 hcc hor
    have hS := hcc.sk hS0
    have hb := hcc.or hb0
    have hdi := fld_dv (D := sR D 4 (fun _ => 0)) (f := ob1 s b h) (n := b.1) (fun D k hk hd => ob1_dv (h := h) hv (hbb k hk).2.1 hd) (DVx.sR4 (f := fun _ => 0) hd) i hi
    have h4 : ∀ k, k < kT s 2 → gN (fld (ob1 s b h) (sR D 4 (fun _ => 0)) i) 4 k ≤ kT s 6 := fun k hk => fld_4 (fun i hi => by have := hbb i hi; omega) (by rw [gR_eq (by omega)]; exact Nat.zero_le _) i hi
    have pk1 : ∀ k, k < kT s 2 → gN (fld (ob1 s b h) (sR D 4 (fun _ => 0)) i) 0 k = 1 → ps s k h ≠ none := fun k hk q => by
      have := (hdi.1 k hk q).1
      unfold pA at this
      rw [Nat.add_sub_cancel] at this; exact this.2
    obtain ⟨E, hE⟩ : ∃ E, E = fld (ob1 s b h) (sR D 4 (fun _ => 0)) i := ⟨_, rfl⟩
    have nxt : fld (ob1 s b h) (sR D 4 (fun _ => 0)) (i + 1) = ob1 s b h E i := by rw [hE]; rfl
    rw [nxt] at ih
    rw [← hE] at hcc hdi pk1 hor h4
    have rk : ∀ k, k < kT s 2 → rs E (8 + k) ≤ 7992 := fun k _ => Nat.le_trans (hdi.rs_le (by omega) (by omega)) (cap_le hv (h + 1))
    have skip : i < b.1 → ¬ (b.2 i 0 = h ∧ gN E 0 (b.2 i 1) = 1) → ∀ z3 z4 z5 z6, At 10 [.ref 59, .int (nI h), .int (nI (i + 1)), z3, z4, z5, z6] [] τ 0 0 := fun hib q z3 z4 z5 z6 => by
      refine ih hib τ z3 z4 z5 z6 ?_ ?_
      · rw [ob1, if_neg q]; exact hcc
      · rw [ob1, if_neg q]; exact hor
    refine hAt 5 _ _ _ _ _ _ ?_
    refine s_Table_size (a := 31) (na := 32) (mo := 30) (wd := 4) rfl ?_
    refine Eq.mpr (congrArg (fun xq : Int32 => At 21 [.ref (59), .int (nI h), .int (nI i), z3, z4, z5, z6] [.int xq, .int (nI i)] τ 0 0) (show rI τ 31 3 = nI b.1 from hb.1)) ?_
    refine hAt 1 _ _ _ _ _ _ ?_
    refine And.intro (fun hq => ?_) (fun hq => ?_)
    · have c21 : b.1 ≤ i := (leN (a := b.1) (b := i) rfl rfl (by omega) (by omega)).mp hq
      clear hq
      refine hAt 1 _ _ _ _ _ _ ?_
      have e : i = b.1 := by omega
      rw [← e] at hP
      rw [hE] at hcc
      exact hP τ hcc
    · have c21 : i < b.1 := Nat.lt_of_not_le (fun zq => hq ((leN (a := b.1) (b := i) rfl rfl (by omega) (by omega)).mpr zq))
      clear hq
      have bi := hbb i c21
      have h4i := h4 _ bi.2.1
      have rki := rk _ bi.2.1
      refine hAt 6 _ _ _ _ _ _ ?_
      refine s_Table_get (a := 31) (na := 32) (mo := 30) (wd := 4) rfl (show i < 30 by omega) (show 1 < 4 by omega) ?_
      refine Eq.mpr (congrArg (fun xq : Int32 => At 36 [.ref (59), .int (nI h), .int (nI i), z3, z4, z5, z6] [.int xq] τ 0 0) (show rI τ 32 (i * 4 + 1) = nI (b.2 i 1) from (hb.2 i (by omega) 1 (by omega)))) ?_
      refine hAt 7 _ _ _ _ _ _ ?_
      refine s_Table_get (a := 31) (na := 32) (mo := 30) (wd := 4) rfl (show i < 30 by omega) (show 0 < 4 by omega) ?_
      refine Eq.mpr (congrArg (fun xq : Int32 => At 49 [.ref (59), .int (nI h), .int (nI i), .int (nI (b.2 i 1)), z4, z5, z6] [.int xq] τ 0 0) (show rI τ 32 (i * 4 + 0) = nI (b.2 i 0) from (hb.2 i (by omega) 0 (by omega)))) ?_
      refine hAt 2 _ _ _ _ _ _ ?_
      refine And.intro (fun hq => ?_) (fun hq => ?_)
      · have c50 : ¬ b.2 i 0 = h := fun zq => hq ((eqN (a := b.2 i 0) (b := h) rfl rfl (by omega) (by omega)).mpr zq)
        clear hq
        refine hAt 2 _ _ _ _ _ _ ?_
        refine Eq.mpr (congrArg (fun xq : Int32 => At 10 [.ref (59), .int (nI h), .int xq, .int (nI (b.2 i 1)), z4, z5, z6] [] τ 0 0) (show nI i + nI 1 = nI (i + 1) from (adE rfl rfl))) ?_
        exact skip c21 (fun z => c50 z.1) _ _ _ _
      · have c50 : b.2 i 0 = h := (eqN (a := b.2 i 0) (b := h) rfl rfl (by omega) (by omega)).mp hq
        clear hq
        refine hAt 4 _ _ _ _ _ _ ?_
        refine s_isThere hv hcc bi.2.1 (pk1 _ bi.2.1) ?_
        refine And.intro (fun hq => ?_) (fun hq => ?_)
        · have c58 : ¬ (gN E 0 (b.2 i 1) = 1) := of_decide_eq_false (bI_eq hq)
          clear hq
          refine hAt 2 _ _ _ _ _ _ ?_
          refine Eq.mpr (congrArg (fun xq : Int32 => At 10 [.ref (59), .int (nI h), .int xq, .int (nI (b.2 i 1)), z4, z5, z6] [] τ 0 0) (show nI i + nI 1 = nI (i + 1) from (adE rfl rfl))) ?_
          exact skip c21 (fun z => c58 z.2) _ _ _ _
        · have c58 : gN E 0 (b.2 i 1) = 1 := of_decide_eq_true (bI_ne hq)
          clear hq
          refine hAt 7 _ _ _ _ _ _ ?_
          refine s_Table_get (a := 31) (na := 32) (mo := 30) (wd := 4) rfl (show i < 30 by omega) (show 2 < 4 by omega) ?_
          refine Eq.mpr (congrArg (fun xq : Int32 => At 74 [.ref (59), .int (nI h), .int (nI i), .int (nI (b.2 i 1)), z4, z5, z6] [.int xq, .ref (59)] τ 0 0) (show rI τ 32 (i * 4 + 2) = nI (b.2 i 2) from (hb.2 i (by omega) 2 (by omega)))) ?_
          refine hAt 6 _ _ _ _ _ _ ?_
          refine s_Table_get (a := 31) (na := 32) (mo := 30) (wd := 4) rfl (show i < 30 by omega) (show 3 < 4 by omega) ?_
          refine Eq.mpr (congrArg (fun xq : Int32 => At 86 [.ref (59), .int (nI h), .int (nI i), .int (nI (b.2 i 1)), z4, z5, z6] [.int xq, .int (nI (b.2 i 2)), .ref (59)] τ 0 0) (show rI τ 32 (i * 4 + 3) = nI (b.2 i 3) from (hb.2 i (by omega) 3 (by omega)))) ?_
          refine hAt 10 _ _ _ _ _ _ ?_
          refine s_wantedBy hS0 hv hcc bi.2.2.1 bi.2.2.2 (fun τ2 hc2 g802 => ?_)
          have hd2 : DVx s (pA s (h + 1)) (cap s (h + 1) (kT s 2)) (obS b E i) := by
            unfold obS; by_cases r : b.2 i 2 = 1
            · rw [if_pos r]; exact hdi.sD
            · rw [if_neg r]; exact hdi
          have hc2 : eC σ0 s (h + 1) (fun _ => h) (obS b E i) τ2 := hc2
          have hw : obW s b E i ≤ 999 := by unfold obW; repeat' split
                                            all_goals omega
          refine s_Sky_fact (hc2.sk hS0) (by omega) ?_
          refine s_Row_get (a := 79) (na := 80) (n := 8) rfl (show b.2 i 1 < 8 by omega) ?_
          refine Eq.mpr (congrArg (fun xq : Int32 => At 108 [.ref (59), .int (nI h), .int (nI i), .int (nI (b.2 i 1)), .int (nI (obW s b E i)), z5, z6] [.int xq, .int (nI (kT s 6))] τ2 0 0) (show rI τ2 80 (b.2 i 1) = nI (gN E 4 (b.2 i 1)) from ((g802 _).trans (hor _ bi.2.1)))) ?_
          refine hAt 14 _ _ _ _ _ _ ?_
          refine s_psum hc2 hn bi.2.1 (by rw [gN_obS]; exact c58) ?_
          rw [rs_obS]
          refine Eq.mpr (congrArg (fun xq : Int32 => At 135 [.ref (59), .int (nI h), .int (nI i), .int (nI (b.2 i 1)), .int (nI (obW s b E i)), .int ((if (nI (rs E (8 + b.2 i 1))) < ((nI (kT s 6)) - (nI (gN E 4 (b.2 i 1)))) then (nI (rs E (8 + b.2 i 1))) else ((nI (kT s 6)) - (nI (gN E 4 (b.2 i 1)))))), .int ((if (if (nI (rs E (8 + b.2 i 1))) < ((nI (kT s 6)) - (nI (gN E 4 (b.2 i 1)))) then (nI (rs E (8 + b.2 i 1))) else ((nI (kT s 6)) - (nI (gN E 4 (b.2 i 1))))) < (nI (obW s b E i)) then (if (nI (rs E (8 + b.2 i 1))) < ((nI (kT s 6)) - (nI (gN E 4 (b.2 i 1)))) then (nI (rs E (8 + b.2 i 1))) else ((nI (kT s 6)) - (nI (gN E 4 (b.2 i 1))))) else (nI (obW s b E i))))] [.int xq, .int (nI (b.2 i 1)), .ref (59)] τ2 0 0) (show (if (if (nI (rs E (8 + b.2 i 1))) < ((nI (kT s 6)) - (nI (gN E 4 (b.2 i 1)))) then (nI (rs E (8 + b.2 i 1))) else ((nI (kT s 6)) - (nI (gN E 4 (b.2 i 1))))) < (nI (obW s b E i)) then (if (nI (rs E (8 + b.2 i 1))) < ((nI (kT s 6)) - (nI (gN E 4 (b.2 i 1)))) then (nI (rs E (8 + b.2 i 1))) else ((nI (kT s 6)) - (nI (gN E 4 (b.2 i 1))))) else (nI (obW s b E i))) = nI (min (obW s b E i) (min ((kT s 6) - (gN E 4 (b.2 i 1))) (rs E (8 + b.2 i 1)))) from (minE rfl (minE (sbE rfl rfl (by omega)) rfl (by omega) (by omega)) (by omega) (by omega)))) ?_
          refine hAt 5 _ _ _ _ _ _ ?_
          refine s_letFall hv hd2 (cap_le hv (h + 1)) hc2 bi.2.1 (by rw [gN_obS]; exact c58) (pk1 _ bi.2.1 c58) (by rw [rs_obS]; omega) (fun τ3 hc3 g803 => ?_)
          refine Eq.mpr (congrArg (fun xq : Int32 => At 145 [.ref (59), .int (nI h), .int (nI i), .int (nI (b.2 i 1)), .int (nI (obW s b E i)), .int ((if (nI (rs E (8 + b.2 i 1))) < ((nI (kT s 6)) - (nI (gN E 4 (b.2 i 1)))) then (nI (rs E (8 + b.2 i 1))) else ((nI (kT s 6)) - (nI (gN E 4 (b.2 i 1)))))), .int ((if (if (nI (rs E (8 + b.2 i 1))) < ((nI (kT s 6)) - (nI (gN E 4 (b.2 i 1)))) then (nI (rs E (8 + b.2 i 1))) else ((nI (kT s 6)) - (nI (gN E 4 (b.2 i 1))))) < (nI (obW s b E i)) then (if (nI (rs E (8 + b.2 i 1))) < ((nI (kT s 6)) - (nI (gN E 4 (b.2 i 1)))) then (nI (rs E (8 + b.2 i 1))) else ((nI (kT s 6)) - (nI (gN E 4 (b.2 i 1))))) else (nI (obW s b E i))))] [.int xq, .int (nI (b.2 i 1)), .ref (79)] τ3 0 0) (show (if (if (nI (rs E (8 + b.2 i 1))) < ((nI (kT s 6)) - (nI (gN E 4 (b.2 i 1)))) then (nI (rs E (8 + b.2 i 1))) else ((nI (kT s 6)) - (nI (gN E 4 (b.2 i 1))))) < (nI (obW s b E i)) then (if (nI (rs E (8 + b.2 i 1))) < ((nI (kT s 6)) - (nI (gN E 4 (b.2 i 1)))) then (nI (rs E (8 + b.2 i 1))) else ((nI (kT s 6)) - (nI (gN E 4 (b.2 i 1))))) else (nI (obW s b E i))) = nI (min (obW s b E i) (min ((kT s 6) - (gN E 4 (b.2 i 1))) (rs E (8 + b.2 i 1)))) from (minE rfl (minE (sbE rfl rfl (by omega)) rfl (by omega) (by omega)) (by omega) (by omega)))) ?_
          refine hAt 1 _ _ _ _ _ _ ?_
          refine s_Row_add (a := 79) (na := 80) (n := 8) rfl (show b.2 i 1 < 8 by omega) ?_
          refine Eq.mpr (congrArg (fun xq : Mem => At 148 [.ref (59), .int (nI h), .int (nI i), .int (nI (b.2 i 1)), .int (nI (obW s b E i)), .int ((if (nI (rs E (8 + b.2 i 1))) < ((nI (kT s 6)) - (nI (gN E 4 (b.2 i 1)))) then (nI (rs E (8 + b.2 i 1))) else ((nI (kT s 6)) - (nI (gN E 4 (b.2 i 1)))))), .int ((if (if (nI (rs E (8 + b.2 i 1))) < ((nI (kT s 6)) - (nI (gN E 4 (b.2 i 1)))) then (nI (rs E (8 + b.2 i 1))) else ((nI (kT s 6)) - (nI (gN E 4 (b.2 i 1))))) < (nI (obW s b E i)) then (if (nI (rs E (8 + b.2 i 1))) < ((nI (kT s 6)) - (nI (gN E 4 (b.2 i 1)))) then (nI (rs E (8 + b.2 i 1))) else ((nI (kT s 6)) - (nI (gN E 4 (b.2 i 1))))) else (nI (obW s b E i))))] [] xq 0 0) (congrArg (fun z => wI τ3 80 (b.2 i 1) z) (show rI τ3 80 (b.2 i 1) + (nI (min (obW s b E i) (min ((kT s 6) - (gN E 4 (b.2 i 1))) (rs E (8 + b.2 i 1))))) = nI (gN E 4 (b.2 i 1) + (min (obW s b E i) (min ((kT s 6) - (gN E 4 (b.2 i 1))) (rs E (8 + b.2 i 1))))) from (adE ((g803 _).trans ((g802 _).trans (hor _ bi.2.1))) rfl)))) ?_
          refine hAt 2 _ _ _ _ _ _ ?_
          refine Eq.mpr (congrArg (fun xq : Int32 => At 10 [.ref (59), .int (nI h), .int xq, .int (nI (b.2 i 1)), .int (nI (obW s b E i)), .int ((if (nI (rs E (8 + b.2 i 1))) < ((nI (kT s 6)) - (nI (gN E 4 (b.2 i 1)))) then (nI (rs E (8 + b.2 i 1))) else ((nI (kT s 6)) - (nI (gN E 4 (b.2 i 1)))))), .int ((if (if (nI (rs E (8 + b.2 i 1))) < ((nI (kT s 6)) - (nI (gN E 4 (b.2 i 1)))) then (nI (rs E (8 + b.2 i 1))) else ((nI (kT s 6)) - (nI (gN E 4 (b.2 i 1))))) < (nI (obW s b E i)) then (if (nI (rs E (8 + b.2 i 1))) < ((nI (kT s 6)) - (nI (gN E 4 (b.2 i 1)))) then (nI (rs E (8 + b.2 i 1))) else ((nI (kT s 6)) - (nI (gN E 4 (b.2 i 1))))) else (nI (obW s b E i))))] [] (wI τ3 80 (b.2 i 1) (nI (gN E 4 (b.2 i 1) + (min (obW s b E i) (min ((kT s 6) - (gN E 4 (b.2 i 1))) (rs E (8 + b.2 i 1))))))) 0 0) (show nI i + nI 1 = nI (i + 1) from (adE rfl rfl))) ?_
          refine Eq.mpr (congrArg (fun xq : Int32 => At 10 [.ref (59), .int (nI h), .int (nI (i + 1)), .int (nI (b.2 i 1)), .int (nI (obW s b E i)), .int xq, .int ((if (if (nI (rs E (8 + b.2 i 1))) < ((nI (kT s 6)) - (nI (gN E 4 (b.2 i 1)))) then (nI (rs E (8 + b.2 i 1))) else ((nI (kT s 6)) - (nI (gN E 4 (b.2 i 1))))) < (nI (obW s b E i)) then (if (nI (rs E (8 + b.2 i 1))) < ((nI (kT s 6)) - (nI (gN E 4 (b.2 i 1)))) then (nI (rs E (8 + b.2 i 1))) else ((nI (kT s 6)) - (nI (gN E 4 (b.2 i 1))))) else (nI (obW s b E i))))] [] (wI τ3 80 (b.2 i 1) (nI (gN E 4 (b.2 i 1) + (min (obW s b E i) (min ((kT s 6) - (gN E 4 (b.2 i 1))) (rs E (8 + b.2 i 1))))))) 0 0) (show (if (nI (rs E (8 + b.2 i 1))) < ((nI (kT s 6)) - (nI (gN E 4 (b.2 i 1)))) then (nI (rs E (8 + b.2 i 1))) else ((nI (kT s 6)) - (nI (gN E 4 (b.2 i 1))))) = nI (min ((kT s 6) - (gN E 4 (b.2 i 1))) (rs E (8 + b.2 i 1))) from (minE (sbE rfl rfl (by omega)) rfl (by omega) (by omega)))) ?_
          refine Eq.mpr (congrArg (fun xq : Int32 => At 10 [.ref (59), .int (nI h), .int (nI (i + 1)), .int (nI (b.2 i 1)), .int (nI (obW s b E i)), .int (nI (min ((kT s 6) - (gN E 4 (b.2 i 1))) (rs E (8 + b.2 i 1)))), .int xq] [] (wI τ3 80 (b.2 i 1) (nI (gN E 4 (b.2 i 1) + (min (obW s b E i) (min ((kT s 6) - (gN E 4 (b.2 i 1))) (rs E (8 + b.2 i 1))))))) 0 0) (show (if (if (nI (rs E (8 + b.2 i 1))) < ((nI (kT s 6)) - (nI (gN E 4 (b.2 i 1)))) then (nI (rs E (8 + b.2 i 1))) else ((nI (kT s 6)) - (nI (gN E 4 (b.2 i 1))))) < (nI (obW s b E i)) then (if (nI (rs E (8 + b.2 i 1))) < ((nI (kT s 6)) - (nI (gN E 4 (b.2 i 1)))) then (nI (rs E (8 + b.2 i 1))) else ((nI (kT s 6)) - (nI (gN E 4 (b.2 i 1))))) else (nI (obW s b E i))) = nI (min (obW s b E i) (min ((kT s 6) - (gN E 4 (b.2 i 1))) (rs E (8 + b.2 i 1)))) from (minE rfl (minE (sbE rfl rfl (by omega)) rfl (by omega) (by omega)) (by omega) (by omega)))) ?_
          refine ih c21 _ _ _ _ _ ?_ (fun k hk => ?_)
          · rw [ob1, if_pos ⟨c50, c58⟩]
            have g := hc3.mem (τ := wI τ3 80 (b.2 i 1) (nI (gN E 4 (b.2 i 1) + min (obW s b E i) (min (kT s 6 - gN E 4 (b.2 i 1)) (rs E (8 + b.2 i 1)))))) ⟨fun a j q => by rw [rI_wI, if_neg (by omega)]; exact hc3.1.1 a j q, hc3.1.2⟩ (fun a j q => by rw [rI_wI, if_neg (by omega)]) hn hF
            refine g.congr (fun k hk => ?_) (fun t j q => ?_) (fun t j => ?_) hn
            · rw [gN_ne (by omega)]; rfl
            · rw [gN_ne (by omega)]; rfl
            · rw [gD_sN]; rfl
          · rw [ob1, if_pos ⟨c50, c58⟩, rI_wI, gN_sN]
            by_cases e : k = b.2 i 1
            · rw [if_pos ⟨rfl, e⟩, if_pos ⟨rfl, e⟩]; rfl
            · rw [if_neg (fun z => e z.2), if_neg (fun z => e z.2), dfl_4 (by omega), gN_obS, g803, g802]; exact hor k hk
  refine hAt 6 _ _ _ _ _ _ ?_
  refine s_Row_setAll (a := 79) (na := 80) (n := 8) rfl ?_
  obtain ⟨τ1, e1⟩ : ∃ τ1, τ1 = uI σ 80 (fun j => if j < 8 then nI 0 else rI σ 80 j) := ⟨_, rfl⟩
  rw [← e1]
  have g1 : ∀ a x, rI τ1 a x = if a = 80 then (if x < 8 then nI 0 else rI σ 80 x) else rI σ a x := fun a x => by rw [e1, rI_uI]
  refine loop 0 (by omega) τ1 _ _ _ _ ?_ (fun k hk => ?_)
  · have g := hc.mem (τ := τ1) ⟨fun a j q => by rw [g1, if_neg (by omega)]; exact hc.1.1 a j q, by rw [e1]; exact hc.1.2⟩ (fun a j q => by rw [g1, if_neg (by omega)]) hn hF
    refine g.congr (fun k hk => ?_) (fun t j q => ?_) (fun t j => rfl) hn
    · show gN (sR D 4 _) 0 k = _; rw [gR_ne (by omega)]
    · show gN (sR D 4 _) t j = _; rw [gR_ne (by omega)]
  · rw [g1, if_pos rfl, if_pos (by omega)]
    show nI 0 = nI (gN (sR D 4 _) 4 k)
    rw [gR_eq (by omega)]
end DC5
