/-! SKY, the call, on the component's side -/
def emT : Tb := (0, fun _ _ => 0)
def emB : Bk := (emT, emT, emT)
/-- what sky(n) makes of the state, and answers -/
def skN (A : St) (n : Nat) : St := if (skR (aTp A) n).1.2.1 = 0 then (0, aTp A, -1, (skR (aTp A) n).2, emB, 0, aIm A) else (0, aTp A, nI (skR (aTp A) n).1.2.2, aSk A, aBk A, aIn A, aIm A)
def skV (A : St) (n : Nat) : Int32 := if (skR (aTp A) n).1.2.1 = 0 then nI (kT (skR (aTp A) n).2 2) else nI (skR (aTp A) n).1.2.1 - nI 10
theorem VB_em {k : Sk} : VB k emB := ⟨by decide, by decide, by decide, fun i h => absurd h (Nat.not_lt_zero i), fun i h => absurd h (Nat.not_lt_zero i), fun i h => absurd h (Nat.not_lt_zero i), fun i _ h => absurd h (Nat.not_lt_zero i)⟩
theorem VA.sky {A : St} (hv : VA A) (n : Nat) : VA (skN A n) := by
  obtain ⟨v1, v2, v3, v4, v5, v6⟩ := hv
  unfold skN
  by_cases h : (skR (aTp A) n).1.2.1 = 0
  · rw [if_pos h]
    exact ⟨Nat.zero_le _, fun j q => absurd q (Nat.not_lt_zero j), VS.read h, VB_em, Nat.zero_le _, fun i q => absurd q (Nat.not_lt_zero i)⟩
  · rw [if_neg h]
    exact ⟨Nat.zero_le _, fun j q => absurd q (Nat.not_lt_zero j), v3, v4, v5, v6⟩
section SCD
variable {w : Wd} {d : Nat} {σ τ : Mem} {A : St} {v : AV} {k : Sk} {P : Option AV → Mem → Prop} {X : Nat → Mem → Prop}
theorem skC.fr {f : Nat} {s : Sk} (h : skC σ f s) (u : ∀ a j, f ≤ a → a ≤ f + 11 → rI τ a j = rI σ a j) : skC τ f s := by
  obtain ⟨k1, k2, k3, k4, k5, k6⟩ := h
  exact ⟨fun i hi => (u _ _ (by omega) (by omega)).trans (k1 i hi), k2.frame (fun j => u _ _ (by omega) (by omega)) (fun j => u _ _ (by omega) (by omega)), k3.frame (fun j => u _ _ (by omega) (by omega)) (fun j => u _ _ (by omega) (by omega)), k4.frame (fun j => u _ _ (by omega) (by omega)) (fun j => u _ _ (by omega) (by omega)), k5.frame (fun j => u _ _ (by omega) (by omega)) (fun j => u _ _ (by omega) (by omega)), fun k hk h hh => (u _ _ (by omega) (by omega)).trans (k6 k hk h hh)⟩
theorem bkC.fr {o : Nat} {s : Bk} (h : bkC σ o s) (u : ∀ a j, o ≤ a → a ≤ o + 5 → rI τ a j = rI σ a j) : bkC τ o s := by
  obtain ⟨k1, k2, k3⟩ := h
  exact ⟨k1.frame (fun j => u _ _ (by omega) (by omega)) (fun j => u _ _ (by omega) (by omega)), k2.frame (fun j => u _ _ (by omega) (by omega)) (fun j => u _ _ (by omega) (by omega)), k3.frame (fun j => u _ _ (by omega) (by omega)) (fun j => u _ _ (by omega) (by omega))⟩
theorem s_skyCopy (hS : skC σ 18 k) (hv : VS k) (hP : ∀ τ, (∀ a j, ¬ (5 ≤ a ∧ a ≤ 15) → rI τ a j = rI σ a j) → τ.2 = σ.2 → skC τ 4 k → P none τ) : Ret w true (d + 2) 0 0 m_Sky_copyFrom [.ref 3, .ref 17] σ P X := by
  have hv3 := hv.2.2.1
  have hv4 := hv.2.2.2.1
  have hv5 := hv.2.2.2.2.1
  have hv11 := hv.2.2.2.2.2.2.2.2.2.2.1
  obtain ⟨k1, k2, k3, k4, k5, k6⟩ := hS
  refine meth_ok k_Sky_copyFrom q_Sky_copyFrom rfl fun At hAt => ?_
  refine hAt 31 _ _ _ _ _ _ ?_
  refine s_RC (a := 4) (na := 5) (n := 10) (a2 := 18) (na2 := 19) rfl rfl (by decide) (fun τ1 u1 e1 y1 => ?_)
  refine s_TC (a := 6) (na := 7) (mo := 9) (wd := 4) (a2 := 20) (na2 := 21) rfl rfl (by decide) (fun τ2 u2 e2 z2 y2 => ?_)
  refine s_TC (a := 8) (na := 9) (mo := 8) (wd := 7) (a2 := 22) (na2 := 23) rfl rfl (by decide) (fun τ3 u3 e3 z3 y3 => ?_)
  refine s_TC (a := 10) (na := 11) (mo := 12) (wd := 6) (a2 := 24) (na2 := 25) rfl rfl (by decide) (fun τ4 u4 e4 z4 y4 => ?_)
  refine s_TC (a := 12) (na := 13) (mo := 3) (wd := 3) (a2 := 26) (na2 := 27) rfl rfl (by decide) (fun τ5 u5 e5 z5 y5 => ?_)
  refine s_TC (a := 14) (na := 15) (mo := 8) (wd := 50) (a2 := 28) (na2 := 29) rfl rfl (by decide) (fun τ6 u6 e6 z6 y6 => ?_)
  have ff : ∀ a j, ¬ (5 ≤ a ∧ a ≤ 15) → rI τ6 a j = rI σ a j := fun a j q => ((u6 a j (by omega)).trans ((u5 a j (by omega)).trans ((u4 a j (by omega)).trans ((u3 a j (by omega)).trans ((u2 a j (by omega)).trans (u1 a j (by omega)))))))
  refine hP τ6 ff (e6.trans (e5.trans (e4.trans (e3.trans (e2.trans e1))))) ⟨fun i hi => ?_, (tbR.frame (tbR.cp (mo := 9) (tbR.frame k2 (fun j => (u1 _ _ (by omega))) (fun j => (u1 _ _ (by omega)))) (by show _ ≤ 9; assumption) z2 y2) (fun j => ((u6 _ _ (by omega)).trans ((u5 _ _ (by omega)).trans ((u4 _ _ (by omega)).trans (u3 _ _ (by omega)))))) (fun j => ((u6 _ _ (by omega)).trans ((u5 _ _ (by omega)).trans ((u4 _ _ (by omega)).trans (u3 _ _ (by omega))))))), (tbR.frame (tbR.cp (mo := 8) (tbR.frame k3 (fun j => ((u2 _ _ (by omega)).trans (u1 _ _ (by omega)))) (fun j => ((u2 _ _ (by omega)).trans (u1 _ _ (by omega))))) (by show _ ≤ 8; assumption) z3 y3) (fun j => ((u6 _ _ (by omega)).trans ((u5 _ _ (by omega)).trans (u4 _ _ (by omega))))) (fun j => ((u6 _ _ (by omega)).trans ((u5 _ _ (by omega)).trans (u4 _ _ (by omega)))))), (tbR.frame (tbR.cp (mo := 12) (tbR.frame k4 (fun j => ((u3 _ _ (by omega)).trans ((u2 _ _ (by omega)).trans (u1 _ _ (by omega))))) (fun j => ((u3 _ _ (by omega)).trans ((u2 _ _ (by omega)).trans (u1 _ _ (by omega)))))) (by show _ ≤ 12; assumption) z4 y4) (fun j => ((u6 _ _ (by omega)).trans (u5 _ _ (by omega)))) (fun j => ((u6 _ _ (by omega)).trans (u5 _ _ (by omega))))), (tbR.frame (tbR.cp (mo := 3) (tbR.frame k5 (fun j => ((u4 _ _ (by omega)).trans ((u3 _ _ (by omega)).trans ((u2 _ _ (by omega)).trans (u1 _ _ (by omega)))))) (fun j => ((u4 _ _ (by omega)).trans ((u3 _ _ (by omega)).trans ((u2 _ _ (by omega)).trans (u1 _ _ (by omega))))))) (by show _ ≤ 3; assumption) z5 y5) (fun j => (u6 _ _ (by omega))) (fun j => (u6 _ _ (by omega)))), fun i hi h hh => ?_⟩
  · exact (((u6 _ _ (by omega)).trans ((u5 _ _ (by omega)).trans ((u4 _ _ (by omega)).trans ((u3 _ _ (by omega)).trans (u2 _ _ (by omega)))))).trans ((y1 i (by omega)).trans (k1 i hi)))
  · exact (y6 _ (tix (Nat.lt_of_lt_of_le hi hv3) hh)).trans (((u5 _ _ (by omega)).trans ((u4 _ _ (by omega)).trans ((u3 _ _ (by omega)).trans ((u2 _ _ (by omega)).trans (u1 _ _ (by omega)))))).trans (k6 i hi h hh))
theorem s_bookWipe (hP : ∀ τ, (∀ a j, ¬ (31 ≤ a ∧ a ≤ 36) → rI τ a j = rI σ a j) → τ.2 = σ.2 → bkC τ 31 emB → P none τ) : Ret w true (d + 2) 0 0 m_Book_wipe [.ref 30] σ P X := by
  refine meth_ok k_Book_wipe q_Book_wipe rfl fun At hAt => ?_
  refine hAt 10 _ _ _ _ _ _ ?_
  refine s_TE (a := 31) (na := 32) (mo := 30) (wd := 4) rfl (fun τ1 u1 e1 z1 => ?_)
  refine s_TE (a := 33) (na := 34) (mo := 8) (wd := 3) rfl (fun τ2 u2 e2 z2 => ?_)
  refine s_TE (a := 35) (na := 36) (mo := 9) (wd := 3) rfl (fun τ3 u3 e3 z3 => ?_)
  exact hP _ (fun a j q => by refine (u3 _ _ (by omega)).trans ?_; refine (u2 _ _ (by omega)).trans ?_; exact u1 _ _ (by omega)) (e3.trans (e2.trans (e1))) ⟨⟨((u3 31 3 (by omega)).trans ((u2 31 3 (by omega)).trans z1)), fun k hk => absurd hk (Nat.not_lt_zero k)⟩, ⟨((u3 33 3 (by omega)).trans z2), fun k hk => absurd hk (Nat.not_lt_zero k)⟩, ⟨z3, fun k hk => absurd hk (Nat.not_lt_zero k)⟩⟩
theorem s_faultPlace (hP : P (some (.int (rI σ 16 5))) σ) : Ret w true (d + 1) 0 0 m_SkyReader_faultPlace [.ref 16] σ P X := by
  refine meth_ok k_SkyReader_faultPlace q_SkyReader_faultPlace rfl fun At hAt => hAt 50 _ _ _ _ _ _ ?_
  exact hP
theorem s_draft (hP : P (some (.ref 17)) σ) : Ret w true (d + 1) 0 0 m_SkyReader_draft [.ref 16] σ P X := by
  refine meth_ok k_SkyReader_draft q_SkyReader_draft rfl fun At hAt => hAt 50 _ _ _ _ _ _ ?_
  exact hP
theorem CC_sky_bad {x : Int32} (hx : x < nI 0 ∨ nI (aTc A) < x) : CC w (d + 9) m_OC_sky [.int x] A 1 v A := by
  intro σ P X hI _ hX
  refine meth_ok k_OC_sky q_OC_sky rfl fun At hAt => ?_
  refine hAt 2 _ _ _ _ _ _ ?_
  refine And.intro (fun hq => ?_) (fun hq => ?_)
  · have c1 : x < nI 0 := hq
    clear hq
    refine hAt 2 _ _ _ _ _ _ ?_
    exact callG 1 6 (by omega) (by omega) (s_need_bad rfl (by omega) (by omega) hI.n (fun n => hX 0 rfl _ (frC.nX σ n) (hI.nX n)))
  · have c1 : ¬ x < nI 0 := hq
    clear hq
    refine hAt 3 _ _ _ _ _ _ ?_
    refine Eq.mpr (congrArg (fun xq : Int32 => At 9 [.ref (0), .int (x), junk] [.int xq, .int (x)] σ 0 0) (show rI σ 0 1 = nI (aTc A) from hI.2.1)) ?_
    refine hAt 1 _ _ _ _ _ _ ?_
    refine And.intro (fun hq => ?_) (fun hq => ?_)
    · have c9 : nI (aTc A) < x := hq
      clear hq
      refine hAt 2 _ _ _ _ _ _ ?_
      exact callG 1 6 (by omega) (by omega) (s_need_bad rfl (by omega) (by omega) hI.n (fun n => hX 0 rfl _ (frC.nX σ n) (hI.nX n)))
    · have c9 : ¬ nI (aTc A) < x := hq
      clear hq
      exact absurd hx (fun z => z.elim c1 (fun z => c9 z))
theorem IC.told {A' : St} (hI : IC A σ) (h1 : aTc A' = 0) (h2 : aSk A' = aSk A) (h3 : aBk A' = aBk A) (h4 : aIn A' = aIn A) (h5 : aIm A' = aIm A) (u : ∀ a j, ¬ (16 ≤ a ∧ a ≤ 29) → ¬ (a = 0 ∧ (j = 1 ∨ j = 4)) → rI τ a j = rI σ a j) (hn : mN σ ≤ mN τ) (g1 : rI τ 0 1 = nI 0) (g4 : rI τ 0 4 = aPl A') (hv : VA A) : IC A' τ := by
  obtain ⟨q1, q2, q3, q4, q5, q6, q7, q8⟩ := hI
  have v5 : aIn A ≤ 3 := hv.2.2.2.2.1
  refine ⟨Nat.le_trans q1 hn, by rw [h1]; exact g1, fun j hj => by rw [h1] at hj; exact absurd hj (Nat.not_lt_zero j), g4, by rw [h2]; exact q5.fr (fun a j r1 r2 => u a j (by omega) (by omega)), by rw [h3]; exact q6.fr (fun a j r1 r2 => u a j (by omega) (by omega)), by rw [h4]; exact (u _ _ (by omega) (by omega)).trans q7, fun i hi => by rw [h4] at hi; rw [h5]; exact (q8 i hi).fr (fun a j r1 r2 => u a j (by omega) (by omega))⟩
theorem CC_sky_ok {n : Nat} (hv : VA A) (hn : n ≤ aTc A) : CC w (d + 9) m_OC_sky [.int (nI n)] A 0 (.int (skV A n)) (skN A n) := by
  intro σ P X hI hP _
  have hv2 := hv
  obtain ⟨w1, w2, -⟩ := hv2
  refine meth_ok k_OC_sky q_OC_sky rfl fun At hAt => ?_
  refine hAt 2 _ _ _ _ _ _ ?_
  refine And.intro (fun hq => ?_) (fun hq => ?_)
  · have c1 : n < 0 := (ltN (a := n) (b := 0) rfl rfl (by omega) (by omega)).mp hq
    clear hq
    exact absurd c1 (by omega)
  · have c1 : 0 ≤ n := Nat.le_of_not_lt (fun zq => hq ((ltN (a := n) (b := 0) rfl rfl (by omega) (by omega)).mpr zq))
    clear hq
    refine hAt 3 _ _ _ _ _ _ ?_
    refine Eq.mpr (congrArg (fun xq : Int32 => At 9 [.ref (0), .int (nI n), junk] [.int xq, .int (nI n)] σ 0 0) (show rI σ 0 1 = nI (aTc A) from hI.2.1)) ?_
    refine hAt 1 _ _ _ _ _ _ ?_
    refine And.intro (fun hq => ?_) (fun hq => ?_)
    · have c9 : aTc A < n := (ltN (a := aTc A) (b := n) rfl rfl (by omega) (by omega)).mp hq
      clear hq
      exact absurd c9 (by omega)
    · have c9 : n ≤ aTc A := Nat.le_of_not_lt (fun zq => hq ((ltN (a := aTc A) (b := n) rfl rfl (by omega) (by omega)).mpr zq))
      clear hq
      refine hAt 18 _ _ _ _ _ _ ?_
      refine callG 0 0 (by omega) (by omega) (s_need_ok (by decide) ?_)
      refine s_read (b := aTp A) (by omega) (fun j hj => w2 j (by omega)) (fun j hj => by rw [rI_wI, if_neg (by omega)]; exact hI.2.2.1 j (by omega)) (fun τ1 t1 t2 t3 => ?_)
      have h94 := t2.2.2.1.1
      have h5 := t2.2.2.2
      refine s_faultPlace ?_
      refine And.intro (fun hq => ?_) (fun hq => ?_)
      · have c46 : (skR (aTp A) n).1.2.1 = 0 := (eqN (a := (skR (aTp A) n).1.2.1) (b := 0) rfl rfl (by omega) (by omega)).mp hq
        clear hq
        refine hAt 16 _ _ _ _ _ _ ?_
        refine s_draft ?_
        refine s_skyCopy ((t3 c46).fr (fun a j q1 q2 => by rw [rI_wI, if_neg (by omega)])) (VS.read c46) (fun τ2 u1 u2 u3 => ?_)
        refine s_bookWipe (fun τ3 y1 y2 y3 => ?_)
        refine s_Table_size (a := 8) (na := 9) (mo := 8) (wd := 7) rfl ?_
        refine Eq.mpr (congrArg (fun xq : Int32 => At 90 [.ref (0), .int (nI n), .int (nI ((skR (aTp A) n).1.2.1))] [.int xq] (wI τ3 0 7 (nI 0)) 0 0) (show rI (wI τ3 0 7 (nI 0)) 8 3 = nI (kT (skR (aTp A) n).2 2) from (by rw [rI_wI, if_neg (by omega)]; exact ((y1 8 3 (by omega)).trans u3.2.2.1.1)))) ?_
        refine hAt 1 _ _ _ _ _ _ ?_
        have ep : rI τ1 16 5 = -1 := by rw [h5, plI, if_pos c46]
        have eN : skN A n = (0, aTp A, -1, (skR (aTp A) n).2, emB, 0, aIm A) := if_pos c46
        have eV : skV A n = nI (kT (skR (aTp A) n).2 2) := if_pos c46
        rw [eN, eV] at hP
        have f2 : τ3.2 = σ.2 := y2.trans (u2.trans t1.2)
        refine hP rfl _ ⟨fun a h1 h2 j => ?_, fun j => ?_, ?_⟩ ⟨?_, ?_, fun j hj => absurd hj (Nat.not_lt_zero j), ?_, ?_, ?_, ?_, fun i hi => absurd hi (Nat.not_lt_zero i)⟩
        · rw [rI_wI, if_neg (by omega), y1 a j (by omega), u1 a j (by omega), rI_wI, if_neg (by omega), t1.1 a j (by omega), rI_wI, if_neg (by omega)]
        · show τ3.2.1 367 j = _
          rw [f2]; rfl
        · show mN σ ≤ τ3.2.2.2.1
          rw [f2]; exact Nat.le_refl _
        · show ow_n0 ≤ τ3.2.2.2.1
          rw [f2]; exact hI.1
        · show rI _ 0 1 = nI 0
          rw [rI_wI, if_neg (by omega), y1 0 1 (by omega), u1 0 1 (by omega), rI_wI, if_neg (by omega), t1.1 0 1 (by omega), rI_wI, if_pos ⟨rfl, rfl⟩]
        · show rI _ 0 4 = -1
          rw [rI_wI, if_neg (by omega), y1 0 4 (by omega), u1 0 4 (by omega), rI_wI, if_pos ⟨rfl, rfl⟩]; exact ep
        · exact u3.fr (fun a j q1 q2 => by rw [rI_wI, if_neg (by omega)]; exact y1 a j (by omega))
        · exact y3.fr (fun a j q1 q2 => by rw [rI_wI, if_neg (by omega)])
        · show rI _ 0 7 = nI 0
          rw [rI_wI, if_pos ⟨rfl, rfl⟩]
      · have c46 : ¬ (skR (aTp A) n).1.2.1 = 0 := fun zq => hq ((eqN (a := (skR (aTp A) n).1.2.1) (b := 0) rfl rfl (by omega) (by omega)).mpr zq)
        clear hq
        refine hAt 4 _ _ _ _ _ _ ?_
        have ep : rI τ1 16 5 = nI (skR (aTp A) n).1.2.2 := by rw [h5, plI, if_neg c46]
        have eN : skN A n = (0, aTp A, nI (skR (aTp A) n).1.2.2, aSk A, aBk A, aIn A, aIm A) := if_neg c46
        have eV : skV A n = nI (skR (aTp A) n).1.2.1 - nI 10 := if_neg c46
        rw [eN, eV] at hP
        refine hP rfl _ ⟨fun a h1 h2 j => ?_, fun j => ?_, ?_⟩ (hI.told rfl rfl rfl rfl rfl (fun a j h1 h2 => ?_) ?_ ?_ ?_ hv)
        · rw [rI_wI, if_neg (by omega), t1.1 a j (by omega), rI_wI, if_neg (by omega)]
        · show τ1.2.1 367 j = _
          rw [t1.2]; rfl
        · show mN σ ≤ τ1.2.2.2.1
          rw [t1.2]; exact Nat.le_refl _
        · rw [rI_wI, if_neg (by omega), t1.1 a j (by omega), rI_wI, if_neg (by omega)]
        · show mN σ ≤ τ1.2.2.2.1
          rw [t1.2]; exact Nat.le_refl _
        · rw [rI_wI, if_neg (by omega), t1.1 0 1 (by omega), rI_wI, if_pos ⟨rfl, rfl⟩]
        · rw [rI_wI, if_pos ⟨rfl, rfl⟩]; exact ep
end SCD
