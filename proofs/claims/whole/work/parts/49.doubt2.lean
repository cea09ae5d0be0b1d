/-! DOUBT and the WORST: the calls -/
/-- the worst field -/
def wrs (A : St) (j h : Nat) : Int32 := oI (drs (aSk A) (dbt (aSk A) j h) (kT (aSk A) 3))
section DB2
variable {w : Wd} {d : Nat} {A : St} {v : AV}
theorem CC_doubt_bad1 {x y : Int32} (hx : x < nI 0 ∨ nI (kT (aSk A) 2) ≤ x) : CC w (d + 7) m_OC_doubt [.int x, .int y] A 2 v A := by
  intro σ P X hI _ hX
  refine meth_ok k_OC_doubt q_OC_doubt rfl fun At hAt => hAt 50 _ _ _ _ _ _ ?_
  exact callG 1 6 (by omega) (by omega) (s_needCloud_bad hI hx (by omega) (by omega) (fun n => hX 1 rfl _ (frC.nX σ n) (hI.nX n)))
theorem CC_doubt_bad2 {j : Nat} {y : Int32} (hv : VA A) (hj : j < kT (aSk A) 2) (hy : y < nI 0 ∨ nI 50 ≤ y) : CC w (d + 7) m_OC_doubt [.int (nI j), .int y] A 1 v A := by
  intro σ P X hI _ hX
  refine meth_ok k_OC_doubt q_OC_doubt rfl fun At hAt => hAt 50 _ _ _ _ _ _ ?_
  refine callG 0 0 (by omega) (by omega) (s_needCloud_ok hI hv hj ?_)
  refine s_isHour ?_
  rw [decide_eq_false (fun z => hy.elim z.1 z.2)]
  exact callG 1 6 (by omega) (by omega) (s_need_bad rfl (by omega) (by omega) hI.n (fun n => hX 0 rfl _ (frC.nX σ n) (hI.nX n)))
theorem MC_doubt_bad1 {x y : Int32} (hv : VA A) (hx : x < nI 0 ∨ nI (kT (aSk A) 2) ≤ x) : ML w (d + 4) 0 0 m_Mo_doubt [.int x, .int y] A 1 v A := by
  intro σ P X hI hP
  have hI' : IM A (wI σ 108 0 (nI 0)) := hI.thr hv
  have hn : kT (aSk A) 2 ≤ 8 := hv.2.2.1.2.2.1
  refine meth_ok k_Mo_doubt q_Mo_doubt rfl fun At hAt => hAt 80 _ _ _ _ _ _ ?_
  refine s_isCloud hI' ?_
  rw [decide_eq_false (in_bad (by omega) hx)]
  refine And.intro (fun q => absurd rfl q) (fun _ => ?_)
  refine s_bad1 (by decide) rfl (by omega) (by omega) ?_
  refine And.intro (fun _ => ?_) (fun q => absurd q (by decide))
  exact hP _ _ (((frM.rfl σ).wI (by omega)).wI (by omega)) (hI'.thr hv) rfl (fun q => by omega)
theorem MC_doubt_bad2 {j : Nat} {y : Int32} (hv : VA A) (hj : j < kT (aSk A) 2) (hy : y < nI 0 ∨ nI 50 ≤ y) : ML w (d + 4) 0 0 m_Mo_doubt [.int (nI j), .int y] A 2 v A := by
  intro σ P X hI hP
  have hI' : IM A (wI σ 108 0 (nI 0)) := hI.thr hv
  have hn : kT (aSk A) 2 ≤ 8 := hv.2.2.1.2.2.1
  refine meth_ok k_Mo_doubt q_Mo_doubt rfl fun At hAt => hAt 80 _ _ _ _ _ _ ?_
  refine s_isCloud hI' ?_
  rw [decide_eq_true (in_ok hj (by omega))]
  refine And.intro (fun _ => ?_) (fun q => absurd q (by decide))
  refine s_bad0 rfl rfl ?_
  refine And.intro (fun q => absurd rfl q) (fun _ => ?_)
  refine s_MisHour ?_
  rw [decide_eq_false (in_bad' (n := 49) (by omega) hy)]
  refine And.intro (fun q => absurd rfl q) (fun _ => ?_)
  refine s_bad1 (by decide) rfl (by omega) (by omega) ?_
  refine And.intro (fun q => absurd q (by decide)) (fun _ => ?_)
  exact hP _ _ (((frM.rfl σ).wI (by omega)).wI (by omega)) (hI'.thr hv) rfl (fun q => by omega)
theorem CC_worst_bad1 {x y : Int32} (hx : x < nI 0 ∨ nI (kT (aSk A) 2) ≤ x) : CC w (d + 7) m_OC_worst [.int x, .int y] A 2 v A := by
  intro σ P X hI _ hX
  refine meth_ok k_OC_worst q_OC_worst rfl fun At hAt => hAt 50 _ _ _ _ _ _ ?_
  exact callG 1 6 (by omega) (by omega) (s_needCloud_bad hI hx (by omega) (by omega) (fun n => hX 1 rfl _ (frC.nX σ n) (hI.nX n)))
theorem CC_worst_bad2 {j : Nat} {y : Int32} (hv : VA A) (hj : j < kT (aSk A) 2) (hy : y < nI 0 ∨ nI 50 ≤ y) : CC w (d + 7) m_OC_worst [.int (nI j), .int y] A 1 v A := by
  intro σ P X hI _ hX
  refine meth_ok k_OC_worst q_OC_worst rfl fun At hAt => hAt 50 _ _ _ _ _ _ ?_
  refine callG 0 0 (by omega) (by omega) (s_needCloud_ok hI hv hj ?_)
  refine s_isHour ?_
  rw [decide_eq_false (fun z => hy.elim z.1 z.2)]
  exact callG 1 6 (by omega) (by omega) (s_need_bad rfl (by omega) (by omega) hI.n (fun n => hX 0 rfl _ (frC.nX σ n) (hI.nX n)))
theorem MC_worst_bad1 {x y : Int32} (hv : VA A) (hx : x < nI 0 ∨ nI (kT (aSk A) 2) ≤ x) : MC w (d + 4) 0 0 m_Mo_worst [.int x, .int y] A 1 v A := by
  intro σ P X hI hP
  have hI' : IM A (wI σ 108 0 (nI 0)) := hI.thr hv
  have hn : kT (aSk A) 2 ≤ 8 := hv.2.2.1.2.2.1
  refine meth_ok k_Mo_worst q_Mo_worst rfl fun At hAt => hAt 80 _ _ _ _ _ _ ?_
  refine s_isCloud hI' ?_
  rw [decide_eq_false (in_bad (by omega) hx)]
  refine And.intro (fun q => absurd rfl q) (fun _ => ?_)
  refine s_bad1 (by decide) rfl (by omega) (by omega) ?_
  refine And.intro (fun _ => ?_) (fun q => absurd q (by decide))
  exact hP _ _ (((frM.rfl σ).wI (by omega)).wI (by omega)) (hI'.thr hv) rfl (fun q => by omega)
theorem MC_worst_bad2 {j : Nat} {y : Int32} (hv : VA A) (hj : j < kT (aSk A) 2) (hy : y < nI 0 ∨ nI 50 ≤ y) : MC w (d + 4) 0 0 m_Mo_worst [.int (nI j), .int y] A 2 v A := by
  intro σ P X hI hP
  have hI' : IM A (wI σ 108 0 (nI 0)) := hI.thr hv
  have hn : kT (aSk A) 2 ≤ 8 := hv.2.2.1.2.2.1
  refine meth_ok k_Mo_worst q_Mo_worst rfl fun At hAt => hAt 80 _ _ _ _ _ _ ?_
  refine s_isCloud hI' ?_
  rw [decide_eq_true (in_ok hj (by omega))]
  refine And.intro (fun _ => ?_) (fun q => absurd q (by decide))
  refine s_bad0 rfl rfl ?_
  refine And.intro (fun q => absurd rfl q) (fun _ => ?_)
  refine s_MisHour ?_
  rw [decide_eq_false (in_bad' (n := 49) (by omega) hy)]
  refine And.intro (fun q => absurd rfl q) (fun _ => ?_)
  refine s_bad1 (by decide) rfl (by omega) (by omega) ?_
  refine And.intro (fun q => absurd q (by decide)) (fun _ => ?_)
  exact hP _ _ (((frM.rfl σ).wI (by omega)).wI (by omega)) (hI'.thr hv) rfl (fun q => by omega)
theorem CC_doubt_ok {j h : Nat} (hv : VA A) (hj : j < kT (aSk A) 2) (hh : h < 50) : CC w (d + 7) m_OC_doubt [.int (nI j), .int (nI h)] A 0 (.long (dbt (aSk A) j h)) A := by
  intro σ P X hI hP _
  have hn : kT (aSk A) 2 ≤ 8 := hv.2.2.1.2.2.1
  have hS := hI.sk.p
  have hV := hv.2.2.1
  refine meth_ok k_OC_doubt q_OC_doubt rfl fun At hAt => ?_
  refine hAt 12 _ _ _ _ _ _ ?_
  refine callG 0 0 (by omega) (by omega) (s_needCloud_ok hI hv hj ?_)
  refine s_isHour ?_
  rw [decide_eq_true ⟨nI_nlt (Nat.zero_le _) (by omega), nI_ge hh (by omega)⟩]
  refine callG 0 0 (by omega) (by omega) (s_need_ok (by decide) ?_)
  refine s_reach hS hV hj hh ?_
  exact hP rfl σ (frC.rfl σ) hI
theorem CC_worst_ok {j h : Nat} (hv : VA A) (hj : j < kT (aSk A) 2) (hh : h < 50) : CC w (d + 7) m_OC_worst [.int (nI j), .int (nI h)] A 0 (.int (wrs A j h)) A := by
  intro σ P X hI hP _
  have hn : kT (aSk A) 2 ≤ 8 := hv.2.2.1.2.2.1
  have hS := hI.sk.p
  have hV := hv.2.2.1
  refine meth_ok k_OC_worst q_OC_worst rfl fun At hAt => ?_
  refine hAt 15 _ _ _ _ _ _ ?_
  refine callG 0 0 (by omega) (by omega) (s_needCloud_ok hI hv hj ?_)
  refine s_isHour ?_
  rw [decide_eq_true ⟨nI_nlt (Nat.zero_le _) (by omega), nI_ge hh (by omega)⟩]
  refine callG 0 0 (by omega) (by omega) (s_need_ok (by decide) ?_)
  refine s_reach hS hV hj hh ?_
  refine s_dearestIn hS hV ?_
  exact hP rfl σ (frC.rfl σ) hI
theorem MC_doubt_ok {j h : Nat} (hv : VA A) (hj : j < kT (aSk A) 2) (hh : h < 50) : ML w (d + 4) 0 0 m_Mo_doubt [.int (nI j), .int (nI h)] A 0 (.long (dbt (aSk A) j h)) A := by
  intro σ P X hI hP
  have hI' : IM A (wI σ 108 0 (nI 0)) := hI.thr hv
  have hn : kT (aSk A) 2 ≤ 8 := hv.2.2.1.2.2.1
  have hS := hI'.sk
  have hV := hv.2.2.1
  refine meth_ok k_Mo_doubt q_Mo_doubt rfl fun At hAt => ?_
  refine hAt 8 _ _ _ _ _ _ ?_
  refine s_isCloud hI' ?_
  rw [decide_eq_true (in_ok hj (by omega))]
  refine And.intro (fun _ => ?_) (fun hq => absurd hq (by decide))
  refine hAt 4 _ _ _ _ _ _ ?_
  refine s_bad0 rfl rfl ?_
  refine And.intro (fun hq => absurd hq (by decide)) (fun _ => ?_)
  refine hAt 4 _ _ _ _ _ _ ?_
  refine s_MisHour ?_
  rw [decide_eq_true ⟨nI_nlt (Nat.zero_le _) (by omega), nI_nlt (by omega) (by omega)⟩]
  refine And.intro (fun _ => ?_) (fun hq => absurd hq (by decide))
  refine hAt 4 _ _ _ _ _ _ ?_
  refine s_bad0 rfl rfl ?_
  refine And.intro (fun _ => ?_) (fun hq => absurd hq (by decide))
  refine hAt 5 _ _ _ _ _ _ ?_
  refine s_couldBe hS hV hj hh ?_
  exact hP _ _ ((frM.rfl σ).wI (by omega)) hI' rfl (fun _ => rfl)
theorem MC_worst_ok {j h : Nat} (hv : VA A) (hj : j < kT (aSk A) 2) (hh : h < 50) : MC w (d + 4) 0 0 m_Mo_worst [.int (nI j), .int (nI h)] A 0 (.int (wrs A j h)) A := by
  intro σ P X hI hP
  have hI' : IM A (wI σ 108 0 (nI 0)) := hI.thr hv
  have hn : kT (aSk A) 2 ≤ 8 := hv.2.2.1.2.2.1
  have hS := hI'.sk
  have hV := hv.2.2.1
  obtain ⟨s1, s2, s3, s4, s5, -, -, -, -, -, s6, s7, s8, s9, s10, -⟩ := id hV
  obtain ⟨bits, ebits⟩ : ∃ bits, bits = dbt (aSk A) j h := ⟨_, rfl⟩
  have fin := hP (wI σ 108 0 (nI 0)) (wrs A j h) ((frM.rfl σ).wI (by omega)) hI' rfl (fun _ => rfl)
  unfold wrs at fin
  rw [← ebits] at fin
  refine meth_ok k_Mo_worst q_Mo_worst rfl fun At hAt => ?_
  have loop : ∀ k, k ≤ kT (aSk A) 3 → At 61 [.ref 108, .int (nI j), .int (nI h), .long bits, junk, .int (oI (drs (aSk A) bits k)), .int (nI k)] [] (wI σ 108 0 (nI 0)) 0 0 := by
    refine upto fun k hk ih => ?_
    refine hAt 5 _ _ _ _ _ _ ?_
    refine And.intro (aOKx (n := 11) (j := 3) rfl (by decide) rfl rfl (by omega) (by omega)) ?_
    refine Eq.mpr (congrArg (fun xq : Int32 => At 69 [.ref (108), .int (nI j), .int (nI h), .long (bits), junk, .int (oI (drs (aSk A) bits k)), .int (nI k)] [.int xq, .int (nI k)] (wI σ 108 0 (nI 0)) 0 0) (show rI (wI σ 108 0 (nI 0)) 111 (nI 3).toNatClampNeg = nI (kT (aSk A) 3) from (ldE rfl (by omega) (hS.1 3 (by omega))))) ?_
    refine hAt 1 _ _ _ _ _ _ ?_
    refine And.intro (fun hq => ?_) (fun hq => ?_)
    · have c69 : kT (aSk A) 3 ≤ k := (leN (a := kT (aSk A) 3) (b := k) rfl rfl (by omega) (by omega)).mp hq
      clear hq
      refine hAt 2 _ _ _ _ _ _ ?_
      have e : k = kT (aSk A) 3 := by omega
      subst e
      exact fin
    · have c69 : k < kT (aSk A) 3 := Nat.lt_of_not_le (fun zq => hq ((leN (a := kT (aSk A) 3) (b := k) rfl rfl (by omega) (by omega)).mpr zq))
      clear hq
      have b := s9 k c69
      have cl := cel_lt s1.2 s2.2 b.1 b.2.1
      have q := ih c69
      have skip : ¬ (hasB bits (kT (aSk A) 0 * kF (aSk A) k 1 + kF (aSk A) k 0) && btr (aSk A) k (drs (aSk A) bits k)) = true → At 61 [.ref 108, .int (nI j), .int (nI h), .long bits, junk, .int (oI (drs (aSk A) bits k)), .int (nI (k + 1))] [] (wI σ 108 0 (nI 0)) 0 0 := by
        intro g
        rw [show drs (aSk A) bits (k + 1) = drs (aSk A) bits k by rw [drs, if_neg g]] at q
        exact q
      have take : (hasB bits (kT (aSk A) 0 * kF (aSk A) k 1 + kF (aSk A) k 0) && btr (aSk A) k (drs (aSk A) bits k)) = true → At 61 [.ref 108, .int (nI j), .int (nI h), .long bits, junk, .int (nI k), .int (nI (k + 1))] [] (wI σ 108 0 (nI 0)) 0 0 := by
        intro g
        rw [show drs (aSk A) bits (k + 1) = some k by rw [drs, if_pos g]] at q
        exact q
      refine hAt 6 _ _ _ _ _ _ ?_
      refine And.intro (mx_r (q := 163) (n := 12) (k := 6) rfl rfl (show k < 12 by omega)) (And.intro (Or.inl rfl) ?_)
      refine Eq.mpr (congrArg (fun xq : Nat => At 81 [.ref (108), .int (nI j), .int (nI h), .long (bits), junk, .int (oI (drs (aSk A) bits k)), .int (nI k)] [.ref xq, .ref (108), .long (bits)] (wI σ 108 0 (nI 0)) 0 0) (rwE rfl (by omega))) ?_
      refine hAt 2 _ _ _ _ _ _ ?_
      refine And.intro (mx_e (q := 163) (n := 12) (k := 6) (j := k) (i := 0) rfl (by omega) (by omega) rfl) ?_
      refine Eq.mpr (congrArg (fun xq : Int32 => At 83 [.ref (108), .int (nI j), .int (nI h), .long (bits), junk, .int (oI (drs (aSk A) bits k)), .int (nI k)] [.int xq, .ref (108), .long (bits)] (wI σ 108 0 (nI 0)) 0 0) (show rI (wI σ 108 0 (nI 0)) (163 + 1 + k) (nI 0).toNatClampNeg = nI (kF (aSk A) k 0) from (ldE rfl (by omega) (hS.2.2.2.1 k (by omega) 0 (by omega))))) ?_
      refine hAt 4 _ _ _ _ _ _ ?_
      refine And.intro (mx_r (q := 163) (n := 12) (k := 6) rfl rfl (show k < 12 by omega)) (And.intro (Or.inl rfl) ?_)
      refine Eq.mpr (congrArg (fun xq : Nat => At 90 [.ref (108), .int (nI j), .int (nI h), .long (bits), junk, .int (oI (drs (aSk A) bits k)), .int (nI k)] [.ref xq, .int (nI (kF (aSk A) k 0)), .ref (108), .long (bits)] (wI σ 108 0 (nI 0)) 0 0) (rwE rfl (by omega))) ?_
      refine hAt 2 _ _ _ _ _ _ ?_
      refine And.intro (mx_e (q := 163) (n := 12) (k := 6) (j := k) (i := 1) rfl (by omega) (by omega) rfl) ?_
      refine Eq.mpr (congrArg (fun xq : Int32 => At 92 [.ref (108), .int (nI j), .int (nI h), .long (bits), junk, .int (oI (drs (aSk A) bits k)), .int (nI k)] [.int xq, .int (nI (kF (aSk A) k 0)), .ref (108), .long (bits)] (wI σ 108 0 (nI 0)) 0 0) (show rI (wI σ 108 0 (nI 0)) (163 + 1 + k) (nI 1).toNatClampNeg = nI (kF (aSk A) k 1) from (ldE rfl (by omega) (hS.2.2.2.1 k (by omega) 1 (by omega))))) ?_
      refine hAt 0 _ _ _ _ _ _ ?_
      refine Eq.mpr (congrArg (fun xq : Int32 => At 92 [.ref (108), .int (nI j), .int (nI h), .long (bits), junk, .int (oI (drs (aSk A) bits k)), .int (nI k)] [.int (nI (kF (aSk A) k 1)), .int xq, .ref (108), .long (bits)] (wI σ 108 0 (nI 0)) 0 0) (ntZ rfl)) ?_
      refine Eq.mpr (congrArg (fun xq : Int32 => At 92 [.ref (108), .int (nI j), .int (nI h), .long (bits), junk, .int (oI (drs (aSk A) bits k)), .int (nI k)] [.int xq, .int (iZ ((kF (aSk A) k 0 : Nat) : Int)), .ref (108), .long (bits)] (wI σ 108 0 (nI 0)) 0 0) (ntZ rfl)) ?_
      refine hAt 7 _ _ _ _ _ _ ?_
      refine s_Mcell hS hV (by omega) (by omega) ?_
      refine And.intro (fun hq => ?_) (fun hq => ?_)
      · have c100 : ¬ lg_cmp ((((bits).toUInt64 >>> ((nI (kT (aSk A) 0 * (((kF (aSk A) k 1 : Nat) : Int)).toNat + (((kF (aSk A) k 0 : Nat) : Int)).toNat)).toInt64.toUInt64 &&& Int64.toUInt64 63)).toInt64) &&& (lN 1)) (lN 1) = nI 0 := hq
        clear hq
        have e100 : hasB bits (kT (aSk A) 0 * kF (aSk A) k 1 + kF (aSk A) k 0) = false := by
          cases g : hasB bits (kT (aSk A) 0 * kF (aSk A) k 1 + kF (aSk A) k 0) with
          | false => rfl
          | true => exact absurd (lcmp0.mpr ((hasB_u1 (by omega)).mpr g)) c100
        refine hAt 2 _ _ _ _ _ _ ?_
        refine Eq.mpr (congrArg (fun xq : Int32 => At 61 [.ref (108), .int (nI j), .int (nI h), .long (bits), junk, .int (oI (drs (aSk A) bits k)), .int xq] [] (wI σ 108 0 (nI 0)) 0 0) (show nI k + nI 1 = nI (k + 1) from (adE rfl rfl))) ?_
        exact skip (fun y => by rw [e100] at y; cases y)
      · have c100 : lg_cmp ((((bits).toUInt64 >>> ((nI (kT (aSk A) 0 * (((kF (aSk A) k 1 : Nat) : Int)).toNat + (((kF (aSk A) k 0 : Nat) : Int)).toNat)).toInt64.toUInt64 &&& Int64.toUInt64 63)).toInt64) &&& (lN 1)) (lN 1) = nI 0 := hq
        clear hq
        have e100 : hasB bits (kT (aSk A) 0 * kF (aSk A) k 1 + kF (aSk A) k 0) = true := (hasB_u1 (by omega)).mp (lcmp0.mp c100)
        refine hAt 3 _ _ _ _ _ _ ?_
        cases e106 : drs (aSk A) bits k with
        | none =>
          rw [e106] at take
          refine And.intro (fun _ => ?_) (fun hq => absurd rfl hq)
          refine hAt 4 _ _ _ _ _ _ ?_
          refine Eq.mpr (congrArg (fun xq : Int32 => At 61 [.ref (108), .int (nI j), .int (nI h), .long (bits), junk, .int (nI k), .int xq] [] (wI σ 108 0 (nI 0)) 0 0) (show nI k + nI 1 = nI (k + 1) from (adE rfl rfl))) ?_
          exact take (by rw [e100]; rfl)
        | some bb106 =>
          have hb := drs_lt (aSk A) bits k bb106 e106
          have b2 := s9 bb106 (by omega)
          rw [e106] at skip take
          refine And.intro (fun hq => absurd hq (nI_m1 (by omega))) (fun _ => ?_)
          refine hAt 4 _ _ _ _ _ _ ?_
          refine And.intro (mx_r (q := 163) (n := 12) (k := 6) rfl rfl (show k < 12 by omega)) (And.intro (Or.inl rfl) ?_)
          refine Eq.mpr (congrArg (fun xq : Nat => At 116 [.ref (108), .int (nI j), .int (nI h), .long (bits), junk, .int (oI (some bb106)), .int (nI k)] [.ref xq] (wI σ 108 0 (nI 0)) 0 0) (rwE rfl (by omega))) ?_
          refine hAt 2 _ _ _ _ _ _ ?_
          refine And.intro (mx_e (q := 163) (n := 12) (k := 6) (j := k) (i := 4) rfl (by omega) (by omega) rfl) ?_
          refine Eq.mpr (congrArg (fun xq : Int32 => At 118 [.ref (108), .int (nI j), .int (nI h), .long (bits), junk, .int (oI (some bb106)), .int (nI k)] [.int xq] (wI σ 108 0 (nI 0)) 0 0) (show rI (wI σ 108 0 (nI 0)) (163 + 1 + k) (nI 4).toNatClampNeg = nI (kF (aSk A) k 4) from (ldE rfl (by omega) (hS.2.2.2.1 k (by omega) 4 (by omega))))) ?_
          refine hAt 4 _ _ _ _ _ _ ?_
          refine And.intro (mx_r (q := 163) (n := 12) (k := 6) rfl rfl (show bb106 < 12 by omega)) (And.intro (Or.inl rfl) ?_)
          refine Eq.mpr (congrArg (fun xq : Nat => At 125 [.ref (108), .int (nI j), .int (nI h), .long (bits), junk, .int (oI (some bb106)), .int (nI k)] [.ref xq, .int (nI (kF (aSk A) k 4))] (wI σ 108 0 (nI 0)) 0 0) (rwE rfl (by omega))) ?_
          refine hAt 2 _ _ _ _ _ _ ?_
          refine And.intro (mx_e (q := 163) (n := 12) (k := 6) (j := bb106) (i := 4) rfl (by omega) (by omega) rfl) ?_
          refine Eq.mpr (congrArg (fun xq : Int32 => At 127 [.ref (108), .int (nI j), .int (nI h), .long (bits), junk, .int (oI (some bb106)), .int (nI k)] [.int xq, .int (nI (kF (aSk A) k 4))] (wI σ 108 0 (nI 0)) 0 0) (show rI (wI σ 108 0 (nI 0)) (163 + 1 + bb106) (nI 4).toNatClampNeg = nI (kF (aSk A) bb106 4) from (ldE rfl (by omega) (hS.2.2.2.1 bb106 (by omega) 4 (by omega))))) ?_
          refine hAt 1 _ _ _ _ _ _ ?_
          refine And.intro (fun hq => ?_) (fun hq => ?_)
          · have c127 : kF (aSk A) k 4 ≤ kF (aSk A) bb106 4 := (leN (a := kF (aSk A) k 4) (b := kF (aSk A) bb106 4) rfl rfl (by omega) (by omega)).mp hq
            clear hq
            refine hAt 2 _ _ _ _ _ _ ?_
            refine Eq.mpr (congrArg (fun xq : Int32 => At 61 [.ref (108), .int (nI j), .int (nI h), .long (bits), junk, .int (oI (some bb106)), .int xq] [] (wI σ 108 0 (nI 0)) 0 0) (show nI k + nI 1 = nI (k + 1) from (adE rfl rfl))) ?_
            exact skip (fun y => by rw [e100] at y; have y2 := of_decide_eq_true (show decide (kF (aSk A) bb106 4 < kF (aSk A) k 4) = true from y); omega)
          · have c127 : kF (aSk A) bb106 4 < kF (aSk A) k 4 := Nat.lt_of_not_le (fun zq => hq ((leN (a := kF (aSk A) k 4) (b := kF (aSk A) bb106 4) rfl rfl (by omega) (by omega)).mpr zq))
            clear hq
            refine hAt 4 _ _ _ _ _ _ ?_
            refine Eq.mpr (congrArg (fun xq : Int32 => At 61 [.ref (108), .int (nI j), .int (nI h), .long (bits), junk, .int (nI k), .int xq] [] (wI σ 108 0 (nI 0)) 0 0) (show nI k + nI 1 = nI (k + 1) from (adE rfl rfl))) ?_
            exact take (by rw [e100]; exact decide_eq_true c127)
  refine hAt 8 _ _ _ _ _ _ ?_
  refine s_isCloud hI' ?_
  rw [decide_eq_true (in_ok hj (by omega))]
  refine And.intro (fun _ => ?_) (fun hq => absurd hq (by decide))
  refine hAt 4 _ _ _ _ _ _ ?_
  refine s_bad0 rfl rfl ?_
  refine And.intro (fun hq => absurd hq (by decide)) (fun _ => ?_)
  refine hAt 4 _ _ _ _ _ _ ?_
  refine s_MisHour ?_
  rw [decide_eq_true ⟨nI_nlt (Nat.zero_le _) (by omega), nI_nlt (by omega) (by omega)⟩]
  refine And.intro (fun _ => ?_) (fun hq => absurd hq (by decide))
  refine hAt 4 _ _ _ _ _ _ ?_
  refine s_bad0 rfl rfl ?_
  refine And.intro (fun _ => ?_) (fun hq => absurd hq (by decide))
  refine hAt 9 _ _ _ _ _ _ ?_
  refine s_couldBe hS hV hj hh ?_
  have q := loop 0 (by omega)
  rw [ebits] at q
  exact q
end DB2
