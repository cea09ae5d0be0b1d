/-! FIELDS AND GLACIERS read on the model's side -/
theorem tw_f {b : By} {n : Nat} {s : Ps} {l : List (Nat × Int)} {g : Bool} (h : ¬ (nmT b n l s).2.1 = 0) : twA b n s l g = nmT b n l s := by
  unfold twA
  cases g with
  | true => rw [if_pos rfl]; exact if_neg h
  | false => rfl
theorem tw_s {b : By} {n : Nat} {s : Ps} {l : List (Nat × Int)} {g : Bool} : faA (twA b n s l g) 2 (bS b n (nmS b n s (l.headD (0, 0)).1 (l.headD (0, 0)).2).1) = twA b n s l true := by
  cases g with
  | true => unfold twA; rw [if_pos rfl]; exact faA_fa (by decide)
  | false => rfl
section RMD
variable {w : Wd} {d : Nat} {σ : Mem} {b : By} {n : Nat} {k : Sk} {s : Ps} {P : Option AV → Mem → Prop} {X : Nat → Mem → Prop}
theorem s_readsField (hn : n ≤ 600) (hb : ∀ j, j < n → b j < 256) (hR : rmC b n s σ) (hW : kT k 0 ≤ 8 ∧ kT k 1 ≤ 8) (hQ : skQ σ k) (hv : VS k) (hc : kT k 3 < 12) (hP : ∀ τ, (∀ a j, ¬ r3 a j → a ≠ 150 + 1 + (kT k 3) → rI τ a j = rI σ a j) → τ.2 = σ.2 → rmC b n (rdS b n 4 s k) τ → ((rdS b n 4 s k).2.1 = 0 → ∀ j, j < 6 → rI τ (150 + 1 + (kT k 3)) j = nI (rwF b n s k j)) → P none τ) : Ret w true (d + 4) 0 0 m_Mo_readsField [.ref 108, .ref (150 + 1 + (kT k 3)), .int (iZ ((kT k 0 : Int) - 1)), .int (iZ ((kT k 1 : Int) - 1))] σ P X := by
  have vq := hv.2.2.2.2.2.2.2.2.2.2.2.2.2.1
  have v1 := hv.1
  have v2 := hv.2.1
  refine meth_ok k_Mo_readsField q_Mo_readsField rfl fun At hAt => ?_
  have tail : ∀ τ0 zh z5, (∀ a j, ¬ r3 a j → a ≠ 150 + 1 + (kT k 3) → rI τ0 a j = rI σ a j) → τ0.2 = σ.2 → rmC b n (rdF1 b n s k) τ0 → ((nmT b n (qlF k) s).2.1 = 0 → rI τ0 (150 + 1 + (kT k 3)) 0 = nI (nmX b n s 0 ((kT k 0 : Int) - 1)) ∧ rI τ0 (150 + 1 + (kT k 3)) 1 = nI (nmX b n (nmS b n s 0 ((kT k 0 : Int) - 1)) 0 ((kT k 1 : Int) - 1))) → At 85 [.ref 108, .ref (150 + 1 + (kT k 3)), .int (iZ ((kT k 0 : Int) - 1)), .int (iZ ((kT k 1 : Int) - 1)), zh, z5] [] τ0 0 0 := by
    intro τ0 zh z5 u0 e0 y0 h01
    refine hAt 5 _ _ _ _ _ _ ?_
    refine Eq.mpr (congrArg (fun xq : Int32 => At 91 [.ref (108), .ref (150 + 1 + (kT k 3)), .int (iZ ((kT k 0 : Int) - 1)), .int (iZ ((kT k 1 : Int) - 1)), zh, z5] [.int xq, .int (nI 0), .ref (108), .int (nI 2), .ref (150 + 1 + (kT k 3))] τ0 0 0) (ntZ rfl)) ?_
    refine hAt 2 _ _ _ _ _ _ ?_
    refine s_number hn hb y0 (by omega) (by omega) (fun τ1 x1 u1 e1 y1 w1 => ?_)
    refine And.intro (mx_e (q := 150) (n := 12) (k := 6) (j := (kT k 3)) (i := 2) rfl (by omega) (by omega) rfl) ?_
    refine Eq.mpr (congrArg (fun xq : Mem => At 95 [.ref (108), .ref (150 + 1 + (kT k 3)), .int (iZ ((kT k 0 : Int) - 1)), .int (iZ ((kT k 1 : Int) - 1)), zh, z5] [] xq 0 0) (wrE (σ := τ1) (q := 150 + 1 + (kT k 3)) (p := rfl) (hj := by omega) (h := rfl))) ?_
    refine hAt 5 _ _ _ _ _ _ ?_
    refine Eq.mpr (congrArg (fun xq : Int32 => At 101 [.ref (108), .ref (150 + 1 + (kT k 3)), .int (iZ ((kT k 0 : Int) - 1)), .int (iZ ((kT k 1 : Int) - 1)), zh, z5] [.int xq, .int (nI 0), .ref (108), .int (nI 3), .ref (150 + 1 + (kT k 3))] (wI τ1 (150 + 1 + (kT k 3)) 2 x1) 0 0) (ntZ rfl)) ?_
    refine hAt 2 _ _ _ _ _ _ ?_
    refine s_number hn hb (y1.fr (fun j hj => by rw [rI_wI, if_neg (by omega)]) (fun j => by rw [rI_wI, if_neg (by omega)])) (by omega) (by omega) (fun τ2 x2 u2 e2 y2 w2 => ?_)
    refine And.intro (mx_e (q := 150) (n := 12) (k := 6) (j := (kT k 3)) (i := 3) rfl (by omega) (by omega) rfl) ?_
    refine Eq.mpr (congrArg (fun xq : Mem => At 105 [.ref (108), .ref (150 + 1 + (kT k 3)), .int (iZ ((kT k 0 : Int) - 1)), .int (iZ ((kT k 1 : Int) - 1)), zh, z5] [] xq 0 0) (wrE (σ := τ2) (q := 150 + 1 + (kT k 3)) (p := rfl) (hj := by omega) (h := rfl))) ?_
    refine hAt 5 _ _ _ _ _ _ ?_
    refine Eq.mpr (congrArg (fun xq : Int32 => At 111 [.ref (108), .ref (150 + 1 + (kT k 3)), .int (iZ ((kT k 0 : Int) - 1)), .int (iZ ((kT k 1 : Int) - 1)), zh, z5] [.int xq, .int (nI 0), .ref (108), .int (nI 4), .ref (150 + 1 + (kT k 3))] (wI τ2 (150 + 1 + (kT k 3)) 3 x2) 0 0) (ntZ rfl)) ?_
    refine hAt 2 _ _ _ _ _ _ ?_
    refine s_number hn hb (y2.fr (fun j hj => by rw [rI_wI, if_neg (by omega)]) (fun j => by rw [rI_wI, if_neg (by omega)])) (by omega) (by omega) (fun τ3 x3 u3 e3 y3 w3 => ?_)
    refine And.intro (mx_e (q := 150) (n := 12) (k := 6) (j := (kT k 3)) (i := 4) rfl (by omega) (by omega) rfl) ?_
    refine Eq.mpr (congrArg (fun xq : Mem => At 115 [.ref (108), .ref (150 + 1 + (kT k 3)), .int (iZ ((kT k 0 : Int) - 1)), .int (iZ ((kT k 1 : Int) - 1)), zh, z5] [] xq 0 0) (wrE (σ := τ3) (q := 150 + 1 + (kT k 3)) (p := rfl) (hj := by omega) (h := rfl))) ?_
    refine hAt 5 _ _ _ _ _ _ ?_
    refine Eq.mpr (congrArg (fun xq : Int32 => At 121 [.ref (108), .ref (150 + 1 + (kT k 3)), .int (iZ ((kT k 0 : Int) - 1)), .int (iZ ((kT k 1 : Int) - 1)), zh, z5] [.int xq, .int (nI 0), .ref (108), .int (nI 5), .ref (150 + 1 + (kT k 3))] (wI τ3 (150 + 1 + (kT k 3)) 4 x3) 0 0) (ntZ rfl)) ?_
    refine hAt 2 _ _ _ _ _ _ ?_
    refine s_number hn hb (y3.fr (fun j hj => by rw [rI_wI, if_neg (by omega)]) (fun j => by rw [rI_wI, if_neg (by omega)])) (by omega) (by omega) (fun τ4 x4 u4 e4 y4 w4 => ?_)
    refine And.intro (mx_e (q := 150) (n := 12) (k := 6) (j := (kT k 3)) (i := 5) rfl (by omega) (by omega) rfl) ?_
    refine Eq.mpr (congrArg (fun xq : Mem => At 125 [.ref (108), .ref (150 + 1 + (kT k 3)), .int (iZ ((kT k 0 : Int) - 1)), .int (iZ ((kT k 1 : Int) - 1)), zh, z5] [] xq 0 0) (wrE (σ := τ4) (q := 150 + 1 + (kT k 3)) (p := rfl) (hj := by omega) (h := rfl))) ?_
    refine hAt 1 _ _ _ _ _ _ ?_
    refine hP _ (fun a j q1 q2 => by unfold r3 at q1; rw [rI_wI, if_neg (by omega)]; refine (u4 _ _ (by unfold r3; omega)).trans ?_; rw [rI_wI, if_neg (by omega)]; refine (u3 _ _ (by unfold r3; omega)).trans ?_; rw [rI_wI, if_neg (by omega)]; refine (u2 _ _ (by unfold r3; omega)).trans ?_; rw [rI_wI, if_neg (by omega)]; refine (u1 _ _ (by unfold r3; omega)).trans ?_; exact u0 _ _ (by unfold r3; omega) (by omega)) ((e4.trans (e3.trans (e2.trans (e1)))).trans e0) (y4.fr (fun j hj => by rw [rI_wI, if_neg (by omega)]) (fun j => by rw [rI_wI, if_neg (by omega)])) (fun hf => ?_)
    have hg := (twA_f0 (nmS_f0 (nmS_f0 (nmS_f0 (nmS_f0 hf))))).2
    exact all6 (by rw [rI_wI, if_neg (by omega)]; refine (u4 _ _ (by unfold r3; omega)).trans ?_; rw [rI_wI, if_neg (by omega)]; refine (u3 _ _ (by unfold r3; omega)).trans ?_; rw [rI_wI, if_neg (by omega)]; refine (u2 _ _ (by unfold r3; omega)).trans ?_; rw [rI_wI, if_neg (by omega)]; refine (u1 _ _ (by unfold r3; omega)).trans ?_; exact (h01 hg).1) (by rw [rI_wI, if_neg (by omega)]; refine (u4 _ _ (by unfold r3; omega)).trans ?_; rw [rI_wI, if_neg (by omega)]; refine (u3 _ _ (by unfold r3; omega)).trans ?_; rw [rI_wI, if_neg (by omega)]; refine (u2 _ _ (by unfold r3; omega)).trans ?_; rw [rI_wI, if_neg (by omega)]; refine (u1 _ _ (by unfold r3; omega)).trans ?_; exact (h01 hg).2) ((show rI (wI τ4 (150 + 1 + (kT k 3)) 5 x4) (150 + 1 + (kT k 3)) 2 = x1 from (by rw [rI_wI, if_neg (by omega)]; exact ((u4 (150 + 1 + (kT k 3)) 2 (by unfold r3; omega)).trans (by rw [rI_wI, if_neg (by omega)]; exact ((u3 (150 + 1 + (kT k 3)) 2 (by unfold r3; omega)).trans (by rw [rI_wI, if_neg (by omega)]; exact ((u2 (150 + 1 + (kT k 3)) 2 (by unfold r3; omega)).trans (by rw [rI_wI, if_pos ⟨rfl, rfl⟩])))))))).trans (w1 (nmS_f0 (nmS_f0 (nmS_f0 hf))))) ((show rI (wI τ4 (150 + 1 + (kT k 3)) 5 x4) (150 + 1 + (kT k 3)) 3 = x2 from (by rw [rI_wI, if_neg (by omega)]; exact ((u4 (150 + 1 + (kT k 3)) 3 (by unfold r3; omega)).trans (by rw [rI_wI, if_neg (by omega)]; exact ((u3 (150 + 1 + (kT k 3)) 3 (by unfold r3; omega)).trans (by rw [rI_wI, if_pos ⟨rfl, rfl⟩])))))).trans (w2 (nmS_f0 (nmS_f0 hf)))) ((show rI (wI τ4 (150 + 1 + (kT k 3)) 5 x4) (150 + 1 + (kT k 3)) 4 = x3 from (by rw [rI_wI, if_neg (by omega)]; exact ((u4 (150 + 1 + (kT k 3)) 4 (by unfold r3; omega)).trans (by rw [rI_wI, if_pos ⟨rfl, rfl⟩])))).trans (w3 (nmS_f0 hf))) ((show rI (wI τ4 (150 + 1 + (kT k 3)) 5 x4) (150 + 1 + (kT k 3)) 5 = x4 from (by rw [rI_wI, if_pos ⟨rfl, rfl⟩])).trans (w4 hf))
  have rest : ∀ μ (x1 x2 here : Int32), (∀ a j, ¬ r3 a j → a ≠ 150 + 1 + (kT k 3) → rI μ a j = rI σ a j) → μ.2 = σ.2 → rmC b n (nmT b n (qlF k) s) μ → rI μ (150 + 1 + (kT k 3)) 0 = x1 → rI μ (150 + 1 + (kT k 3)) 1 = x2 → ((nmT b n (qlF k) s).2.1 = 0 → x1 = nI (nmX b n s 0 ((kT k 0 : Int) - 1)) ∧ x2 = nI (nmX b n (nmS b n s 0 ((kT k 0 : Int) - 1)) 0 ((kT k 1 : Int) - 1)) ∧ here = nI (bS b n (nmS b n s 0 ((kT k 0 : Int) - 1)).1)) → At 31 [.ref 108, .ref (150 + 1 + (kT k 3)), .int (iZ ((kT k 0 : Int) - 1)), .int (iZ ((kT k 1 : Int) - 1)), .int here, .int (nI 0)] [] μ 0 0 := by
    intro μ x1 x2 here m1 m2 m3 m4 m5 m6
    have hc3 : rI μ 110 3 = nI (kT k 3) := (m1 _ _ (by unfold r3; omega) (by omega)).trans (hQ.1 3 (by omega))
    by_cases hf : (nmT b n (qlF k) s).2.1 = 0
    · obtain ⟨rfl, rfl, rfl⟩ := m6 hf
      have hx : nmX b n s 0 ((kT k 0 : Int) - 1) ≤ 1000 := nmX_le (by omega) (by omega)
      have hy : nmX b n (nmS b n s 0 ((kT k 0 : Int) - 1)) 0 ((kT k 1 : Int) - 1) ≤ 1000 := nmX_le (by omega) (by omega)
      have loop : ∀ j, j ≤ kT k 3 → ∀ τ, (∀ a j, ¬ r3 a j → rI τ a j = rI μ a j) → τ.2 = μ.2 → rmC b n (twA b n s (qlF k) (hasF (kF k) (nmX b n s 0 ((kT k 0 : Int) - 1)) (nmX b n (nmS b n s 0 ((kT k 0 : Int) - 1)) 0 ((kT k 1 : Int) - 1)) j)) τ → At 31 [.ref 108, .ref (150 + 1 + (kT k 3)), .int (iZ ((kT k 0 : Int) - 1)), .int (iZ ((kT k 1 : Int) - 1)), .int (nI (bS b n (nmS b n s 0 ((kT k 0 : Int) - 1)).1)), .int (nI j)] [] τ 0 0 := by
        refine upto fun j hj ih => ?_
        intro τ t1 t2 t3
        have nxt : ∀ τ', (∀ a j, ¬ r3 a j → rI τ' a j = rI τ a j) → τ'.2 = τ.2 → j < kT k 3 → rmC b n (twA b n s (qlF k) (hasF (kF k) (nmX b n s 0 ((kT k 0 : Int) - 1)) (nmX b n (nmS b n s 0 ((kT k 0 : Int) - 1)) 0 ((kT k 1 : Int) - 1)) (j + 1))) τ' → At 31 [.ref 108, .ref (150 + 1 + (kT k 3)), .int (iZ ((kT k 0 : Int) - 1)), .int (iZ ((kT k 1 : Int) - 1)), .int (nI (bS b n (nmS b n s 0 ((kT k 0 : Int) - 1)).1)), .int (nI (j + 1))] [] τ' 0 0 := fun τ' s1 s2 hlt s3 => ih hlt τ' (fun a i q => (s1 a i q).trans (t1 a i q)) (s2.trans t2) s3
        have no : ¬ (kF k j 0 = nmX b n s 0 ((kT k 0 : Int) - 1) ∧ kF k j 1 = nmX b n (nmS b n s 0 ((kT k 0 : Int) - 1)) 0 ((kT k 1 : Int) - 1)) → hasF (kF k) (nmX b n s 0 ((kT k 0 : Int) - 1)) (nmX b n (nmS b n s 0 ((kT k 0 : Int) - 1)) 0 ((kT k 1 : Int) - 1)) (j + 1) = hasF (kF k) (nmX b n s 0 ((kT k 0 : Int) - 1)) (nmX b n (nmS b n s 0 ((kT k 0 : Int) - 1)) 0 ((kT k 1 : Int) - 1)) j := fun q => by rw [hasF, decide_eq_false q, Bool.or_false]
        have yes : kF k j 0 = nmX b n s 0 ((kT k 0 : Int) - 1) → kF k j 1 = nmX b n (nmS b n s 0 ((kT k 0 : Int) - 1)) 0 ((kT k 1 : Int) - 1) → hasF (kF k) (nmX b n s 0 ((kT k 0 : Int) - 1)) (nmX b n (nmS b n s 0 ((kT k 0 : Int) - 1)) 0 ((kT k 1 : Int) - 1)) (j + 1) = true := fun q1 q2 => by rw [hasF, decide_eq_true ⟨q1, q2⟩, Bool.or_true]
        refine hAt 5 _ _ _ _ _ _ ?_
        refine And.intro (aOKx (n := 11) (j := 3) rfl (by decide) rfl rfl (by omega) (by omega)) ?_
        refine Eq.mpr (congrArg (fun xq : Int32 => At 39 [.ref (108), .ref (150 + 1 + (kT k 3)), .int (iZ ((kT k 0 : Int) - 1)), .int (iZ ((kT k 1 : Int) - 1)), .int (nI (bS b n (nmS b n s 0 ((kT k 0 : Int) - 1)).1)), .int (nI j)] [.int xq, .int (nI j)] τ 0 0) (show rI τ 110 (nI 3).toNatClampNeg = nI (kT k 3) from (ldE rfl (by omega) ((t1 _ _ (by unfold r3; omega)).trans hc3)))) ?_
        refine hAt 1 _ _ _ _ _ _ ?_
        refine And.intro (fun hq => ?_) (fun hq => ?_)
        · have c39 : kT k 3 ≤ j := (leN (a := kT k 3) (b := j) rfl rfl (by omega) (by omega)).mp hq
          clear hq
          have ej : j = kT k 3 := by omega
          subst ej
          exact tail τ _ _ (fun a i q1 q2 => (t1 a i q1).trans (m1 a i q1 q2)) (t2.trans m2) t3 (fun _ => ⟨(t1 _ _ (by unfold r3; omega)).trans m4, (t1 _ _ (by unfold r3; omega)).trans m5⟩)
        · have c39 : j < kT k 3 := Nat.lt_of_not_le (fun zq => hq ((leN (a := kT k 3) (b := j) rfl rfl (by omega) (by omega)).mpr zq))
          clear hq
          have vj := vq j (by omega)
          refine hAt 4 _ _ _ _ _ _ ?_
          refine And.intro (mx_r (q := 150) (n := 12) (k := 6) rfl rfl (show j < 12 by omega)) (And.intro (Or.inl rfl) ?_)
          refine Eq.mpr (congrArg (fun xq : Nat => At 49 [.ref (108), .ref (150 + 1 + (kT k 3)), .int (iZ ((kT k 0 : Int) - 1)), .int (iZ ((kT k 1 : Int) - 1)), .int (nI (bS b n (nmS b n s 0 ((kT k 0 : Int) - 1)).1)), .int (nI j)] [.ref xq] τ 0 0) (rwE rfl (by omega))) ?_
          refine hAt 2 _ _ _ _ _ _ ?_
          refine And.intro (mx_e (q := 150) (n := 12) (k := 6) (j := j) (i := 0) rfl (by omega) (by omega) rfl) ?_
          refine Eq.mpr (congrArg (fun xq : Int32 => At 51 [.ref (108), .ref (150 + 1 + (kT k 3)), .int (iZ ((kT k 0 : Int) - 1)), .int (iZ ((kT k 1 : Int) - 1)), .int (nI (bS b n (nmS b n s 0 ((kT k 0 : Int) - 1)).1)), .int (nI j)] [.int xq] τ 0 0) (show rI τ (150 + 1 + j) (nI 0).toNatClampNeg = nI (kF k j 0) from (ldE rfl (by omega) ((t1 _ _ (by unfold r3; omega)).trans ((m1 _ _ (by unfold r3; omega) (by omega)).trans (hQ.2.2.2.1 j (by omega) 0 (by omega))))))) ?_
          refine hAt 3 _ _ _ _ _ _ ?_
          refine And.intro (mx_e (q := 150) (n := 12) (k := 6) (j := (kT k 3)) (i := 0) rfl (by omega) (by omega) rfl) ?_
          refine Eq.mpr (congrArg (fun xq : Int32 => At 54 [.ref (108), .ref (150 + 1 + (kT k 3)), .int (iZ ((kT k 0 : Int) - 1)), .int (iZ ((kT k 1 : Int) - 1)), .int (nI (bS b n (nmS b n s 0 ((kT k 0 : Int) - 1)).1)), .int (nI j)] [.int xq, .int (nI (kF k j 0))] τ 0 0) (show rI τ (150 + 1 + (kT k 3)) (nI 0).toNatClampNeg = nI (nmX b n s 0 ((kT k 0 : Int) - 1)) from (ldE rfl (by omega) ((t1 _ _ (by unfold r3; omega)).trans m4)))) ?_
          refine hAt 1 _ _ _ _ _ _ ?_
          refine And.intro (fun hq => ?_) (fun hq => ?_)
          · have c54 : ¬ kF k j 0 = nmX b n s 0 ((kT k 0 : Int) - 1) := fun zq => hq ((eqN (a := kF k j 0) (b := nmX b n s 0 ((kT k 0 : Int) - 1)) rfl rfl (by omega) (by omega)).mpr zq)
            clear hq
            refine hAt 2 _ _ _ _ _ _ ?_
            refine Eq.mpr (congrArg (fun xq : Int32 => At 31 [.ref (108), .ref (150 + 1 + (kT k 3)), .int (iZ ((kT k 0 : Int) - 1)), .int (iZ ((kT k 1 : Int) - 1)), .int (nI (bS b n (nmS b n s 0 ((kT k 0 : Int) - 1)).1)), .int xq] [] τ 0 0) (show nI j + nI 1 = nI (j + 1) from (adE rfl rfl))) ?_
            exact nxt τ (fun _ _ _ => rfl) rfl c39 (by rw [no (fun z => c54 z.1)]; exact t3)
          · have c54 : kF k j 0 = nmX b n s 0 ((kT k 0 : Int) - 1) := (eqN (a := kF k j 0) (b := nmX b n s 0 ((kT k 0 : Int) - 1)) rfl rfl (by omega) (by omega)).mp hq
            clear hq
            refine hAt 4 _ _ _ _ _ _ ?_
            refine And.intro (mx_r (q := 150) (n := 12) (k := 6) rfl rfl (show j < 12 by omega)) (And.intro (Or.inl rfl) ?_)
            refine Eq.mpr (congrArg (fun xq : Nat => At 64 [.ref (108), .ref (150 + 1 + (kT k 3)), .int (iZ ((kT k 0 : Int) - 1)), .int (iZ ((kT k 1 : Int) - 1)), .int (nI (bS b n (nmS b n s 0 ((kT k 0 : Int) - 1)).1)), .int (nI j)] [.ref xq] τ 0 0) (rwE rfl (by omega))) ?_
            refine hAt 2 _ _ _ _ _ _ ?_
            refine And.intro (mx_e (q := 150) (n := 12) (k := 6) (j := j) (i := 1) rfl (by omega) (by omega) rfl) ?_
            refine Eq.mpr (congrArg (fun xq : Int32 => At 66 [.ref (108), .ref (150 + 1 + (kT k 3)), .int (iZ ((kT k 0 : Int) - 1)), .int (iZ ((kT k 1 : Int) - 1)), .int (nI (bS b n (nmS b n s 0 ((kT k 0 : Int) - 1)).1)), .int (nI j)] [.int xq] τ 0 0) (show rI τ (150 + 1 + j) (nI 1).toNatClampNeg = nI (kF k j 1) from (ldE rfl (by omega) ((t1 _ _ (by unfold r3; omega)).trans ((m1 _ _ (by unfold r3; omega) (by omega)).trans (hQ.2.2.2.1 j (by omega) 1 (by omega))))))) ?_
            refine hAt 3 _ _ _ _ _ _ ?_
            refine And.intro (mx_e (q := 150) (n := 12) (k := 6) (j := (kT k 3)) (i := 1) rfl (by omega) (by omega) rfl) ?_
            refine Eq.mpr (congrArg (fun xq : Int32 => At 69 [.ref (108), .ref (150 + 1 + (kT k 3)), .int (iZ ((kT k 0 : Int) - 1)), .int (iZ ((kT k 1 : Int) - 1)), .int (nI (bS b n (nmS b n s 0 ((kT k 0 : Int) - 1)).1)), .int (nI j)] [.int xq, .int (nI (kF k j 1))] τ 0 0) (show rI τ (150 + 1 + (kT k 3)) (nI 1).toNatClampNeg = nI (nmX b n (nmS b n s 0 ((kT k 0 : Int) - 1)) 0 ((kT k 1 : Int) - 1)) from (ldE rfl (by omega) ((t1 _ _ (by unfold r3; omega)).trans m5)))) ?_
            refine hAt 1 _ _ _ _ _ _ ?_
            refine And.intro (fun hq => ?_) (fun hq => ?_)
            · have c69 : ¬ kF k j 1 = nmX b n (nmS b n s 0 ((kT k 0 : Int) - 1)) 0 ((kT k 1 : Int) - 1) := fun zq => hq ((eqN (a := kF k j 1) (b := nmX b n (nmS b n s 0 ((kT k 0 : Int) - 1)) 0 ((kT k 1 : Int) - 1)) rfl rfl (by omega) (by omega)).mpr zq)
              clear hq
              refine hAt 2 _ _ _ _ _ _ ?_
              refine Eq.mpr (congrArg (fun xq : Int32 => At 31 [.ref (108), .ref (150 + 1 + (kT k 3)), .int (iZ ((kT k 0 : Int) - 1)), .int (iZ ((kT k 1 : Int) - 1)), .int (nI (bS b n (nmS b n s 0 ((kT k 0 : Int) - 1)).1)), .int xq] [] τ 0 0) (show nI j + nI 1 = nI (j + 1) from (adE rfl rfl))) ?_
              exact nxt τ (fun _ _ _ => rfl) rfl c39 (by rw [no (fun z => c69 z.2)]; exact t3)
            · have c69 : kF k j 1 = nmX b n (nmS b n s 0 ((kT k 0 : Int) - 1)) 0 ((kT k 1 : Int) - 1) := (eqN (a := kF k j 1) (b := nmX b n (nmS b n s 0 ((kT k 0 : Int) - 1)) 0 ((kT k 1 : Int) - 1)) rfl rfl (by omega) (by omega)).mp hq
              clear hq
              refine hAt 6 _ _ _ _ _ _ ?_
              refine s_wrongS (by decide) t3 (fun _ => rfl) (fun τ2 s1 s2 s3 => ?_)
              refine Eq.mpr (congrArg (fun xq : Int32 => At 31 [.ref (108), .ref (150 + 1 + (kT k 3)), .int (iZ ((kT k 0 : Int) - 1)), .int (iZ ((kT k 1 : Int) - 1)), .int (nI (bS b n (nmS b n s 0 ((kT k 0 : Int) - 1)).1)), .int xq] [] τ2 0 0) (show nI j + nI 1 = nI (j + 1) from (adE rfl rfl))) ?_
              exact nxt τ2 s1 s2 c39 (by rw [yes c54 c69]; rw [← tw_s (g := hasF (kF k) (nmX b n s 0 ((kT k 0 : Int) - 1)) (nmX b n (nmS b n s 0 ((kT k 0 : Int) - 1)) 0 ((kT k 1 : Int) - 1)) j)]; exact s3)
      exact loop 0 (Nat.zero_le _) μ (fun _ _ _ => rfl) rfl m3
    · have loop : ∀ j, j ≤ kT k 3 → At 31 [.ref 108, .ref (150 + 1 + (kT k 3)), .int (iZ ((kT k 0 : Int) - 1)), .int (iZ ((kT k 1 : Int) - 1)), .int here, .int (nI j)] [] μ 0 0 := by
        refine upto fun j hj ih => ?_
        refine hAt 5 _ _ _ _ _ _ ?_
        refine And.intro (aOKx (n := 11) (j := 3) rfl (by decide) rfl rfl (by omega) (by omega)) ?_
        refine Eq.mpr (congrArg (fun xq : Int32 => At 39 [.ref (108), .ref (150 + 1 + (kT k 3)), .int (iZ ((kT k 0 : Int) - 1)), .int (iZ ((kT k 1 : Int) - 1)), .int (here), .int (nI j)] [.int xq, .int (nI j)] μ 0 0) (show rI μ 110 (nI 3).toNatClampNeg = nI (kT k 3) from (ldE rfl (by omega) hc3))) ?_
        refine hAt 1 _ _ _ _ _ _ ?_
        refine And.intro (fun hq => ?_) (fun hq => ?_)
        · have c39 : kT k 3 ≤ j := (leN (a := kT k 3) (b := j) rfl rfl (by omega) (by omega)).mp hq
          clear hq
          exact tail μ _ _ m1 m2 (by unfold rdF1; rw [tw_f hf]; exact m3) (fun z => absurd z hf)
        · have c39 : j < kT k 3 := Nat.lt_of_not_le (fun zq => hq ((leN (a := kT k 3) (b := j) rfl rfl (by omega) (by omega)).mpr zq))
          clear hq
          refine hAt 4 _ _ _ _ _ _ ?_
          refine And.intro (mx_r (q := 150) (n := 12) (k := 6) rfl rfl (show j < 12 by omega)) (And.intro (Or.inl rfl) ?_)
          refine Eq.mpr (congrArg (fun xq : Nat => At 49 [.ref (108), .ref (150 + 1 + (kT k 3)), .int (iZ ((kT k 0 : Int) - 1)), .int (iZ ((kT k 1 : Int) - 1)), .int (here), .int (nI j)] [.ref xq] μ 0 0) (rwE rfl (by omega))) ?_
          refine hAt 2 _ _ _ _ _ _ ?_
          refine And.intro (mx_e (q := 150) (n := 12) (k := 6) (j := j) (i := 0) rfl (by omega) (by omega) rfl) ?_
          refine Eq.mpr (congrArg (fun xq : Int32 => At 51 [.ref (108), .ref (150 + 1 + (kT k 3)), .int (iZ ((kT k 0 : Int) - 1)), .int (iZ ((kT k 1 : Int) - 1)), .int (here), .int (nI j)] [.int xq] μ 0 0) (show rI μ (150 + 1 + j) (nI 0).toNatClampNeg = rI μ (150 + 1 + j) 0 from (ldE rfl (by omega) rfl))) ?_
          refine hAt 3 _ _ _ _ _ _ ?_
          refine And.intro (mx_e (q := 150) (n := 12) (k := 6) (j := (kT k 3)) (i := 0) rfl (by omega) (by omega) rfl) ?_
          refine Eq.mpr (congrArg (fun xq : Int32 => At 54 [.ref (108), .ref (150 + 1 + (kT k 3)), .int (iZ ((kT k 0 : Int) - 1)), .int (iZ ((kT k 1 : Int) - 1)), .int (here), .int (nI j)] [.int xq, .int (rI μ (150 + 1 + j) 0)] μ 0 0) (show rI μ (150 + 1 + (kT k 3)) (nI 0).toNatClampNeg = rI μ (150 + 1 + (kT k 3)) 0 from (ldE rfl (by omega) rfl))) ?_
          refine hAt 1 _ _ _ _ _ _ ?_
          refine And.intro (fun hq => ?_) (fun hq => ?_)
          · have c54 : ¬ rI μ (150 + 1 + j) 0 = rI μ (150 + 1 + (kT k 3)) 0 := hq
            clear hq
            refine hAt 2 _ _ _ _ _ _ ?_
            refine Eq.mpr (congrArg (fun xq : Int32 => At 31 [.ref (108), .ref (150 + 1 + (kT k 3)), .int (iZ ((kT k 0 : Int) - 1)), .int (iZ ((kT k 1 : Int) - 1)), .int (here), .int xq] [] μ 0 0) (show nI j + nI 1 = nI (j + 1) from (adE rfl rfl))) ?_
            exact ih c39
          · have c54 : rI μ (150 + 1 + j) 0 = rI μ (150 + 1 + (kT k 3)) 0 := hq
            clear hq
            refine hAt 4 _ _ _ _ _ _ ?_
            refine And.intro (mx_r (q := 150) (n := 12) (k := 6) rfl rfl (show j < 12 by omega)) (And.intro (Or.inl rfl) ?_)
            refine Eq.mpr (congrArg (fun xq : Nat => At 64 [.ref (108), .ref (150 + 1 + (kT k 3)), .int (iZ ((kT k 0 : Int) - 1)), .int (iZ ((kT k 1 : Int) - 1)), .int (here), .int (nI j)] [.ref xq] μ 0 0) (rwE rfl (by omega))) ?_
            refine hAt 2 _ _ _ _ _ _ ?_
            refine And.intro (mx_e (q := 150) (n := 12) (k := 6) (j := j) (i := 1) rfl (by omega) (by omega) rfl) ?_
            refine Eq.mpr (congrArg (fun xq : Int32 => At 66 [.ref (108), .ref (150 + 1 + (kT k 3)), .int (iZ ((kT k 0 : Int) - 1)), .int (iZ ((kT k 1 : Int) - 1)), .int (here), .int (nI j)] [.int xq] μ 0 0) (show rI μ (150 + 1 + j) (nI 1).toNatClampNeg = rI μ (150 + 1 + j) 1 from (ldE rfl (by omega) rfl))) ?_
            refine hAt 3 _ _ _ _ _ _ ?_
            refine And.intro (mx_e (q := 150) (n := 12) (k := 6) (j := (kT k 3)) (i := 1) rfl (by omega) (by omega) rfl) ?_
            refine Eq.mpr (congrArg (fun xq : Int32 => At 69 [.ref (108), .ref (150 + 1 + (kT k 3)), .int (iZ ((kT k 0 : Int) - 1)), .int (iZ ((kT k 1 : Int) - 1)), .int (here), .int (nI j)] [.int xq, .int (rI μ (150 + 1 + j) 1)] μ 0 0) (show rI μ (150 + 1 + (kT k 3)) (nI 1).toNatClampNeg = rI μ (150 + 1 + (kT k 3)) 1 from (ldE rfl (by omega) rfl))) ?_
            refine hAt 1 _ _ _ _ _ _ ?_
            refine And.intro (fun hq => ?_) (fun hq => ?_)
            · have c69 : ¬ rI μ (150 + 1 + j) 1 = rI μ (150 + 1 + (kT k 3)) 1 := hq
              clear hq
              refine hAt 2 _ _ _ _ _ _ ?_
              refine Eq.mpr (congrArg (fun xq : Int32 => At 31 [.ref (108), .ref (150 + 1 + (kT k 3)), .int (iZ ((kT k 0 : Int) - 1)), .int (iZ ((kT k 1 : Int) - 1)), .int (here), .int xq] [] μ 0 0) (show nI j + nI 1 = nI (j + 1) from (adE rfl rfl))) ?_
              exact ih c39
            · have c69 : rI μ (150 + 1 + j) 1 = rI μ (150 + 1 + (kT k 3)) 1 := hq
              clear hq
              refine hAt 6 _ _ _ _ _ _ ?_
              refine s_wrong1 m3.2.2.1.2 ⟨hf, m3.2.2.1.1⟩ ?_
              refine Eq.mpr (congrArg (fun xq : Int32 => At 31 [.ref (108), .ref (150 + 1 + (kT k 3)), .int (iZ ((kT k 0 : Int) - 1)), .int (iZ ((kT k 1 : Int) - 1)), .int (here), .int xq] [] μ 0 0) (show nI j + nI 1 = nI (j + 1) from (adE rfl rfl))) ?_
              exact ih c39
      exact loop 0 (Nat.zero_le _)
  refine hAt 7 _ _ _ _ _ _ ?_
  refine s_number hn hb hR (by omega) (by omega) (fun τ1 x1 u1 e1 y1 w1 => ?_)
  refine And.intro (mx_e (q := 150) (n := 12) (k := 6) (j := (kT k 3)) (i := 0) rfl (by omega) (by omega) rfl) ?_
  refine Eq.mpr (congrArg (fun xq : Mem => At 9 [.ref (108), .ref (150 + 1 + (kT k 3)), .int (iZ ((kT k 0 : Int) - 1)), .int (iZ ((kT k 1 : Int) - 1)), junk, junk] [] xq 0 0) (wrE (σ := τ1) (q := 150 + 1 + (kT k 3)) (p := rfl) (hj := by omega) (h := rfl))) ?_
  refine hAt 12 _ _ _ _ _ _ ?_
  refine s_skipM hn hb (y1.fr (fun j hj => by rw [rI_wI, if_neg (by omega)]) (fun j => by rw [rI_wI, if_neg (by omega)])) (fun τb ub eb yb => ?_)
  refine s_number hn hb yb (by omega) (by omega) (fun τ2 x2 u2 e2 y2 w2 => ?_)
  refine And.intro (mx_e (q := 150) (n := 12) (k := 6) (j := (kT k 3)) (i := 1) rfl (by omega) (by omega) rfl) ?_
  refine Eq.mpr (congrArg (fun xq : Mem => At 28 [.ref (108), .ref (150 + 1 + (kT k 3)), .int (iZ ((kT k 0 : Int) - 1)), .int (iZ ((kT k 1 : Int) - 1)), .int (rI τb 108 4), junk] [] xq 0 0) (wrE (σ := τ2) (q := 150 + 1 + (kT k 3)) (p := rfl) (hj := by omega) (h := rfl))) ?_
  refine hAt 2 _ _ _ _ _ _ ?_
  refine rest _ x1 x2 _ (fun a j q1 q2 => by unfold r3 at q1; rw [rI_wI, if_neg (by omega)]; refine (u2 _ _ (by unfold r3; omega)).trans ?_; refine (ub _ _ (by unfold r3; omega)).trans ?_; rw [rI_wI, if_neg (by omega)]; exact u1 _ _ (by unfold r3; omega)) (e2.trans (eb.trans (e1))) (y2.bl.fr (fun j hj => by rw [rI_wI, if_neg (by omega)]) (fun j => by rw [rI_wI, if_neg (by omega)])) (by rw [rI_wI, if_neg (by omega)]; exact ((u2 (150 + 1 + (kT k 3)) 0 (by unfold r3; omega)).trans ((ub (150 + 1 + (kT k 3)) 0 (by unfold r3; omega)).trans (by rw [rI_wI, if_pos ⟨rfl, rfl⟩])))) (by rw [rI_wI, if_pos ⟨rfl, rfl⟩]) (fun hf => ⟨w1 (nmS_f0 hf), ?_, ?_⟩)
  · have h1 : (nmS b n s 0 ((kT k 0 : Int) - 1)).2.1 = 0 := nmS_f0 hf
    exact (w2 (by rw [nm_bS h1]; exact hf)).trans (congrArg nI (nmX_bS h1))
  · exact (yb.at0 (show (nmS b n s 0 ((kT k 0 : Int) - 1)).2.1 = 0 from nmS_f0 hf)).1
theorem s_readsIce (hn : n ≤ 600) (hb : ∀ j, j < n → b j < 256) (hR : rmC b n s σ) (hW : kT k 0 ≤ 8 ∧ kT k 1 ≤ 8) (hQ : skQ σ k) (hv : VS k) (hc : kT k 4 < 3) (hP : ∀ τ, (∀ a j, ¬ r3 a j → a ≠ 176 + 1 + (kT k 4) → rI τ a j = rI σ a j) → τ.2 = σ.2 → rmC b n (rdS b n 5 s k) τ → ((rdS b n 5 s k).2.1 = 0 → ∀ j, j < 3 → rI τ (176 + 1 + (kT k 4)) j = nI (rwG b n s k j)) → P none τ) : Ret w true (d + 4) 0 0 m_Mo_readsIce [.ref 108, .ref (176 + 1 + (kT k 4)), .int (iZ ((kT k 0 : Int) - 1)), .int (iZ ((kT k 1 : Int) - 1))] σ P X := by
  have vq := hv.2.2.2.2.2.2.2.2.2.2.2.2.2.2.1
  have v1 := hv.1
  have v2 := hv.2.1
  refine meth_ok k_Mo_readsIce q_Mo_readsIce rfl fun At hAt => ?_
  have tail : ∀ τ0 zh z5, (∀ a j, ¬ r3 a j → a ≠ 176 + 1 + (kT k 4) → rI τ0 a j = rI σ a j) → τ0.2 = σ.2 → rmC b n (rdI1 b n s k) τ0 → ((nmT b n (qlI k) s).2.1 = 0 → rI τ0 (176 + 1 + (kT k 4)) 0 = nI (nmX b n s 0 ((kT k 0 : Int) - 1)) ∧ rI τ0 (176 + 1 + (kT k 4)) 1 = nI (nmX b n (nmS b n s 0 ((kT k 0 : Int) - 1)) 0 (((kT k 1 : Int) - 1) - 1))) → At 87 [.ref 108, .ref (176 + 1 + (kT k 4)), .int (iZ ((kT k 0 : Int) - 1)), .int (iZ ((kT k 1 : Int) - 1)), zh, z5] [] τ0 0 0 := by
    intro τ0 zh z5 u0 e0 y0 h01
    refine hAt 5 _ _ _ _ _ _ ?_
    refine Eq.mpr (congrArg (fun xq : Int32 => At 93 [.ref (108), .ref (176 + 1 + (kT k 4)), .int (iZ ((kT k 0 : Int) - 1)), .int (iZ ((kT k 1 : Int) - 1)), zh, z5] [.int xq, .int (nI 0), .ref (108), .int (nI 2), .ref (176 + 1 + (kT k 4))] τ0 0 0) (ntZ rfl)) ?_
    refine hAt 2 _ _ _ _ _ _ ?_
    refine s_number hn hb y0 (by omega) (by omega) (fun τ1 x1 u1 e1 y1 w1 => ?_)
    refine And.intro (mx_e (q := 176) (n := 3) (k := 3) (j := (kT k 4)) (i := 2) rfl (by omega) (by omega) rfl) ?_
    refine Eq.mpr (congrArg (fun xq : Mem => At 97 [.ref (108), .ref (176 + 1 + (kT k 4)), .int (iZ ((kT k 0 : Int) - 1)), .int (iZ ((kT k 1 : Int) - 1)), zh, z5] [] xq 0 0) (wrE (σ := τ1) (q := 176 + 1 + (kT k 4)) (p := rfl) (hj := by omega) (h := rfl))) ?_
    refine hAt 1 _ _ _ _ _ _ ?_
    refine hP _ (fun a j q1 q2 => by unfold r3 at q1; rw [rI_wI, if_neg (by omega)]; refine (u1 _ _ (by unfold r3; omega)).trans ?_; exact u0 _ _ (by unfold r3; omega) (by omega)) ((e1).trans e0) (y1.fr (fun j hj => by rw [rI_wI, if_neg (by omega)]) (fun j => by rw [rI_wI, if_neg (by omega)])) (fun hf => ?_)
    have hg := (twA_f0 (nmS_f0 hf)).2
    exact all3 (by rw [rI_wI, if_neg (by omega)]; refine (u1 _ _ (by unfold r3; omega)).trans ?_; exact (h01 hg).1) (by rw [rI_wI, if_neg (by omega)]; refine (u1 _ _ (by unfold r3; omega)).trans ?_; exact (h01 hg).2) ((show rI (wI τ1 (176 + 1 + (kT k 4)) 2 x1) (176 + 1 + (kT k 4)) 2 = x1 from (by rw [rI_wI, if_pos ⟨rfl, rfl⟩])).trans (w1 hf))
  have rest : ∀ μ (x1 x2 here : Int32), (∀ a j, ¬ r3 a j → a ≠ 176 + 1 + (kT k 4) → rI μ a j = rI σ a j) → μ.2 = σ.2 → rmC b n (nmT b n (qlI k) s) μ → rI μ (176 + 1 + (kT k 4)) 0 = x1 → rI μ (176 + 1 + (kT k 4)) 1 = x2 → ((nmT b n (qlI k) s).2.1 = 0 → x1 = nI (nmX b n s 0 ((kT k 0 : Int) - 1)) ∧ x2 = nI (nmX b n (nmS b n s 0 ((kT k 0 : Int) - 1)) 0 (((kT k 1 : Int) - 1) - 1)) ∧ here = nI (bS b n (nmS b n s 0 ((kT k 0 : Int) - 1)).1)) → At 33 [.ref 108, .ref (176 + 1 + (kT k 4)), .int (iZ ((kT k 0 : Int) - 1)), .int (iZ ((kT k 1 : Int) - 1)), .int here, .int (nI 0)] [] μ 0 0 := by
    intro μ x1 x2 here m1 m2 m3 m4 m5 m6
    have hc3 : rI μ 110 4 = nI (kT k 4) := (m1 _ _ (by unfold r3; omega) (by omega)).trans (hQ.1 4 (by omega))
    by_cases hf : (nmT b n (qlI k) s).2.1 = 0
    · obtain ⟨rfl, rfl, rfl⟩ := m6 hf
      have hx : nmX b n s 0 ((kT k 0 : Int) - 1) ≤ 1000 := nmX_le (by omega) (by omega)
      have hy : nmX b n (nmS b n s 0 ((kT k 0 : Int) - 1)) 0 (((kT k 1 : Int) - 1) - 1) ≤ 1000 := nmX_le (by omega) (by omega)
      have loop : ∀ j, j ≤ kT k 4 → ∀ τ, (∀ a j, ¬ r3 a j → rI τ a j = rI μ a j) → τ.2 = μ.2 → rmC b n (twA b n s (qlI k) (hasF (kI k) (nmX b n s 0 ((kT k 0 : Int) - 1)) (nmX b n (nmS b n s 0 ((kT k 0 : Int) - 1)) 0 (((kT k 1 : Int) - 1) - 1)) j)) τ → At 33 [.ref 108, .ref (176 + 1 + (kT k 4)), .int (iZ ((kT k 0 : Int) - 1)), .int (iZ ((kT k 1 : Int) - 1)), .int (nI (bS b n (nmS b n s 0 ((kT k 0 : Int) - 1)).1)), .int (nI j)] [] τ 0 0 := by
        refine upto fun j hj ih => ?_
        intro τ t1 t2 t3
        have nxt : ∀ τ', (∀ a j, ¬ r3 a j → rI τ' a j = rI τ a j) → τ'.2 = τ.2 → j < kT k 4 → rmC b n (twA b n s (qlI k) (hasF (kI k) (nmX b n s 0 ((kT k 0 : Int) - 1)) (nmX b n (nmS b n s 0 ((kT k 0 : Int) - 1)) 0 (((kT k 1 : Int) - 1) - 1)) (j + 1))) τ' → At 33 [.ref 108, .ref (176 + 1 + (kT k 4)), .int (iZ ((kT k 0 : Int) - 1)), .int (iZ ((kT k 1 : Int) - 1)), .int (nI (bS b n (nmS b n s 0 ((kT k 0 : Int) - 1)).1)), .int (nI (j + 1))] [] τ' 0 0 := fun τ' s1 s2 hlt s3 => ih hlt τ' (fun a i q => (s1 a i q).trans (t1 a i q)) (s2.trans t2) s3
        have no : ¬ (kI k j 0 = nmX b n s 0 ((kT k 0 : Int) - 1) ∧ kI k j 1 = nmX b n (nmS b n s 0 ((kT k 0 : Int) - 1)) 0 (((kT k 1 : Int) - 1) - 1)) → hasF (kI k) (nmX b n s 0 ((kT k 0 : Int) - 1)) (nmX b n (nmS b n s 0 ((kT k 0 : Int) - 1)) 0 (((kT k 1 : Int) - 1) - 1)) (j + 1) = hasF (kI k) (nmX b n s 0 ((kT k 0 : Int) - 1)) (nmX b n (nmS b n s 0 ((kT k 0 : Int) - 1)) 0 (((kT k 1 : Int) - 1) - 1)) j := fun q => by rw [hasF, decide_eq_false q, Bool.or_false]
        have yes : kI k j 0 = nmX b n s 0 ((kT k 0 : Int) - 1) → kI k j 1 = nmX b n (nmS b n s 0 ((kT k 0 : Int) - 1)) 0 (((kT k 1 : Int) - 1) - 1) → hasF (kI k) (nmX b n s 0 ((kT k 0 : Int) - 1)) (nmX b n (nmS b n s 0 ((kT k 0 : Int) - 1)) 0 (((kT k 1 : Int) - 1) - 1)) (j + 1) = true := fun q1 q2 => by rw [hasF, decide_eq_true ⟨q1, q2⟩, Bool.or_true]
        refine hAt 5 _ _ _ _ _ _ ?_
        refine And.intro (aOKx (n := 11) (j := 4) rfl (by decide) rfl rfl (by omega) (by omega)) ?_
        refine Eq.mpr (congrArg (fun xq : Int32 => At 41 [.ref (108), .ref (176 + 1 + (kT k 4)), .int (iZ ((kT k 0 : Int) - 1)), .int (iZ ((kT k 1 : Int) - 1)), .int (nI (bS b n (nmS b n s 0 ((kT k 0 : Int) - 1)).1)), .int (nI j)] [.int xq, .int (nI j)] τ 0 0) (show rI τ 110 (nI 4).toNatClampNeg = nI (kT k 4) from (ldE rfl (by omega) ((t1 _ _ (by unfold r3; omega)).trans hc3)))) ?_
        refine hAt 1 _ _ _ _ _ _ ?_
        refine And.intro (fun hq => ?_) (fun hq => ?_)
        · have c41 : kT k 4 ≤ j := (leN (a := kT k 4) (b := j) rfl rfl (by omega) (by omega)).mp hq
          clear hq
          have ej : j = kT k 4 := by omega
          subst ej
          exact tail τ _ _ (fun a i q1 q2 => (t1 a i q1).trans (m1 a i q1 q2)) (t2.trans m2) t3 (fun _ => ⟨(t1 _ _ (by unfold r3; omega)).trans m4, (t1 _ _ (by unfold r3; omega)).trans m5⟩)
        · have c41 : j < kT k 4 := Nat.lt_of_not_le (fun zq => hq ((leN (a := kT k 4) (b := j) rfl rfl (by omega) (by omega)).mpr zq))
          clear hq
          have vj := vq j (by omega)
          refine hAt 4 _ _ _ _ _ _ ?_
          refine And.intro (mx_r (q := 176) (n := 3) (k := 3) rfl rfl (show j < 3 by omega)) (And.intro (Or.inl rfl) ?_)
          refine Eq.mpr (congrArg (fun xq : Nat => At 51 [.ref (108), .ref (176 + 1 + (kT k 4)), .int (iZ ((kT k 0 : Int) - 1)), .int (iZ ((kT k 1 : Int) - 1)), .int (nI (bS b n (nmS b n s 0 ((kT k 0 : Int) - 1)).1)), .int (nI j)] [.ref xq] τ 0 0) (rwE rfl (by omega))) ?_
          refine hAt 2 _ _ _ _ _ _ ?_
          refine And.intro (mx_e (q := 176) (n := 3) (k := 3) (j := j) (i := 0) rfl (by omega) (by omega) rfl) ?_
          refine Eq.mpr (congrArg (fun xq : Int32 => At 53 [.ref (108), .ref (176 + 1 + (kT k 4)), .int (iZ ((kT k 0 : Int) - 1)), .int (iZ ((kT k 1 : Int) - 1)), .int (nI (bS b n (nmS b n s 0 ((kT k 0 : Int) - 1)).1)), .int (nI j)] [.int xq] τ 0 0) (show rI τ (176 + 1 + j) (nI 0).toNatClampNeg = nI (kI k j 0) from (ldE rfl (by omega) ((t1 _ _ (by unfold r3; omega)).trans ((m1 _ _ (by unfold r3; omega) (by omega)).trans (hQ.2.2.2.2 j (by omega) 0 (by omega))))))) ?_
          refine hAt 3 _ _ _ _ _ _ ?_
          refine And.intro (mx_e (q := 176) (n := 3) (k := 3) (j := (kT k 4)) (i := 0) rfl (by omega) (by omega) rfl) ?_
          refine Eq.mpr (congrArg (fun xq : Int32 => At 56 [.ref (108), .ref (176 + 1 + (kT k 4)), .int (iZ ((kT k 0 : Int) - 1)), .int (iZ ((kT k 1 : Int) - 1)), .int (nI (bS b n (nmS b n s 0 ((kT k 0 : Int) - 1)).1)), .int (nI j)] [.int xq, .int (nI (kI k j 0))] τ 0 0) (show rI τ (176 + 1 + (kT k 4)) (nI 0).toNatClampNeg = nI (nmX b n s 0 ((kT k 0 : Int) - 1)) from (ldE rfl (by omega) ((t1 _ _ (by unfold r3; omega)).trans m4)))) ?_
          refine hAt 1 _ _ _ _ _ _ ?_
          refine And.intro (fun hq => ?_) (fun hq => ?_)
          · have c56 : ¬ kI k j 0 = nmX b n s 0 ((kT k 0 : Int) - 1) := fun zq => hq ((eqN (a := kI k j 0) (b := nmX b n s 0 ((kT k 0 : Int) - 1)) rfl rfl (by omega) (by omega)).mpr zq)
            clear hq
            refine hAt 2 _ _ _ _ _ _ ?_
            refine Eq.mpr (congrArg (fun xq : Int32 => At 33 [.ref (108), .ref (176 + 1 + (kT k 4)), .int (iZ ((kT k 0 : Int) - 1)), .int (iZ ((kT k 1 : Int) - 1)), .int (nI (bS b n (nmS b n s 0 ((kT k 0 : Int) - 1)).1)), .int xq] [] τ 0 0) (show nI j + nI 1 = nI (j + 1) from (adE rfl rfl))) ?_
            exact nxt τ (fun _ _ _ => rfl) rfl c41 (by rw [no (fun z => c56 z.1)]; exact t3)
          · have c56 : kI k j 0 = nmX b n s 0 ((kT k 0 : Int) - 1) := (eqN (a := kI k j 0) (b := nmX b n s 0 ((kT k 0 : Int) - 1)) rfl rfl (by omega) (by omega)).mp hq
            clear hq
            refine hAt 4 _ _ _ _ _ _ ?_
            refine And.intro (mx_r (q := 176) (n := 3) (k := 3) rfl rfl (show j < 3 by omega)) (And.intro (Or.inl rfl) ?_)
            refine Eq.mpr (congrArg (fun xq : Nat => At 66 [.ref (108), .ref (176 + 1 + (kT k 4)), .int (iZ ((kT k 0 : Int) - 1)), .int (iZ ((kT k 1 : Int) - 1)), .int (nI (bS b n (nmS b n s 0 ((kT k 0 : Int) - 1)).1)), .int (nI j)] [.ref xq] τ 0 0) (rwE rfl (by omega))) ?_
            refine hAt 2 _ _ _ _ _ _ ?_
            refine And.intro (mx_e (q := 176) (n := 3) (k := 3) (j := j) (i := 1) rfl (by omega) (by omega) rfl) ?_
            refine Eq.mpr (congrArg (fun xq : Int32 => At 68 [.ref (108), .ref (176 + 1 + (kT k 4)), .int (iZ ((kT k 0 : Int) - 1)), .int (iZ ((kT k 1 : Int) - 1)), .int (nI (bS b n (nmS b n s 0 ((kT k 0 : Int) - 1)).1)), .int (nI j)] [.int xq] τ 0 0) (show rI τ (176 + 1 + j) (nI 1).toNatClampNeg = nI (kI k j 1) from (ldE rfl (by omega) ((t1 _ _ (by unfold r3; omega)).trans ((m1 _ _ (by unfold r3; omega) (by omega)).trans (hQ.2.2.2.2 j (by omega) 1 (by omega))))))) ?_
            refine hAt 3 _ _ _ _ _ _ ?_
            refine And.intro (mx_e (q := 176) (n := 3) (k := 3) (j := (kT k 4)) (i := 1) rfl (by omega) (by omega) rfl) ?_
            refine Eq.mpr (congrArg (fun xq : Int32 => At 71 [.ref (108), .ref (176 + 1 + (kT k 4)), .int (iZ ((kT k 0 : Int) - 1)), .int (iZ ((kT k 1 : Int) - 1)), .int (nI (bS b n (nmS b n s 0 ((kT k 0 : Int) - 1)).1)), .int (nI j)] [.int xq, .int (nI (kI k j 1))] τ 0 0) (show rI τ (176 + 1 + (kT k 4)) (nI 1).toNatClampNeg = nI (nmX b n (nmS b n s 0 ((kT k 0 : Int) - 1)) 0 (((kT k 1 : Int) - 1) - 1)) from (ldE rfl (by omega) ((t1 _ _ (by unfold r3; omega)).trans m5)))) ?_
            refine hAt 1 _ _ _ _ _ _ ?_
            refine And.intro (fun hq => ?_) (fun hq => ?_)
            · have c71 : ¬ kI k j 1 = nmX b n (nmS b n s 0 ((kT k 0 : Int) - 1)) 0 (((kT k 1 : Int) - 1) - 1) := fun zq => hq ((eqN (a := kI k j 1) (b := nmX b n (nmS b n s 0 ((kT k 0 : Int) - 1)) 0 (((kT k 1 : Int) - 1) - 1)) rfl rfl (by omega) (by omega)).mpr zq)
              clear hq
              refine hAt 2 _ _ _ _ _ _ ?_
              refine Eq.mpr (congrArg (fun xq : Int32 => At 33 [.ref (108), .ref (176 + 1 + (kT k 4)), .int (iZ ((kT k 0 : Int) - 1)), .int (iZ ((kT k 1 : Int) - 1)), .int (nI (bS b n (nmS b n s 0 ((kT k 0 : Int) - 1)).1)), .int xq] [] τ 0 0) (show nI j + nI 1 = nI (j + 1) from (adE rfl rfl))) ?_
              exact nxt τ (fun _ _ _ => rfl) rfl c41 (by rw [no (fun z => c71 z.2)]; exact t3)
            · have c71 : kI k j 1 = nmX b n (nmS b n s 0 ((kT k 0 : Int) - 1)) 0 (((kT k 1 : Int) - 1) - 1) := (eqN (a := kI k j 1) (b := nmX b n (nmS b n s 0 ((kT k 0 : Int) - 1)) 0 (((kT k 1 : Int) - 1) - 1)) rfl rfl (by omega) (by omega)).mp hq
              clear hq
              refine hAt 6 _ _ _ _ _ _ ?_
              refine s_wrongS (by decide) t3 (fun _ => rfl) (fun τ2 s1 s2 s3 => ?_)
              refine Eq.mpr (congrArg (fun xq : Int32 => At 33 [.ref (108), .ref (176 + 1 + (kT k 4)), .int (iZ ((kT k 0 : Int) - 1)), .int (iZ ((kT k 1 : Int) - 1)), .int (nI (bS b n (nmS b n s 0 ((kT k 0 : Int) - 1)).1)), .int xq] [] τ2 0 0) (show nI j + nI 1 = nI (j + 1) from (adE rfl rfl))) ?_
              exact nxt τ2 s1 s2 c41 (by rw [yes c56 c71]; rw [← tw_s (g := hasF (kI k) (nmX b n s 0 ((kT k 0 : Int) - 1)) (nmX b n (nmS b n s 0 ((kT k 0 : Int) - 1)) 0 (((kT k 1 : Int) - 1) - 1)) j)]; exact s3)
      exact loop 0 (Nat.zero_le _) μ (fun _ _ _ => rfl) rfl m3
    · have loop : ∀ j, j ≤ kT k 4 → At 33 [.ref 108, .ref (176 + 1 + (kT k 4)), .int (iZ ((kT k 0 : Int) - 1)), .int (iZ ((kT k 1 : Int) - 1)), .int here, .int (nI j)] [] μ 0 0 := by
        refine upto fun j hj ih => ?_
        refine hAt 5 _ _ _ _ _ _ ?_
        refine And.intro (aOKx (n := 11) (j := 4) rfl (by decide) rfl rfl (by omega) (by omega)) ?_
        refine Eq.mpr (congrArg (fun xq : Int32 => At 41 [.ref (108), .ref (176 + 1 + (kT k 4)), .int (iZ ((kT k 0 : Int) - 1)), .int (iZ ((kT k 1 : Int) - 1)), .int (here), .int (nI j)] [.int xq, .int (nI j)] μ 0 0) (show rI μ 110 (nI 4).toNatClampNeg = nI (kT k 4) from (ldE rfl (by omega) hc3))) ?_
        refine hAt 1 _ _ _ _ _ _ ?_
        refine And.intro (fun hq => ?_) (fun hq => ?_)
        · have c41 : kT k 4 ≤ j := (leN (a := kT k 4) (b := j) rfl rfl (by omega) (by omega)).mp hq
          clear hq
          exact tail μ _ _ m1 m2 (by unfold rdI1; rw [tw_f hf]; exact m3) (fun z => absurd z hf)
        · have c41 : j < kT k 4 := Nat.lt_of_not_le (fun zq => hq ((leN (a := kT k 4) (b := j) rfl rfl (by omega) (by omega)).mpr zq))
          clear hq
          refine hAt 4 _ _ _ _ _ _ ?_
          refine And.intro (mx_r (q := 176) (n := 3) (k := 3) rfl rfl (show j < 3 by omega)) (And.intro (Or.inl rfl) ?_)
          refine Eq.mpr (congrArg (fun xq : Nat => At 51 [.ref (108), .ref (176 + 1 + (kT k 4)), .int (iZ ((kT k 0 : Int) - 1)), .int (iZ ((kT k 1 : Int) - 1)), .int (here), .int (nI j)] [.ref xq] μ 0 0) (rwE rfl (by omega))) ?_
          refine hAt 2 _ _ _ _ _ _ ?_
          refine And.intro (mx_e (q := 176) (n := 3) (k := 3) (j := j) (i := 0) rfl (by omega) (by omega) rfl) ?_
          refine Eq.mpr (congrArg (fun xq : Int32 => At 53 [.ref (108), .ref (176 + 1 + (kT k 4)), .int (iZ ((kT k 0 : Int) - 1)), .int (iZ ((kT k 1 : Int) - 1)), .int (here), .int (nI j)] [.int xq] μ 0 0) (show rI μ (176 + 1 + j) (nI 0).toNatClampNeg = rI μ (176 + 1 + j) 0 from (ldE rfl (by omega) rfl))) ?_
          refine hAt 3 _ _ _ _ _ _ ?_
          refine And.intro (mx_e (q := 176) (n := 3) (k := 3) (j := (kT k 4)) (i := 0) rfl (by omega) (by omega) rfl) ?_
          refine Eq.mpr (congrArg (fun xq : Int32 => At 56 [.ref (108), .ref (176 + 1 + (kT k 4)), .int (iZ ((kT k 0 : Int) - 1)), .int (iZ ((kT k 1 : Int) - 1)), .int (here), .int (nI j)] [.int xq, .int (rI μ (176 + 1 + j) 0)] μ 0 0) (show rI μ (176 + 1 + (kT k 4)) (nI 0).toNatClampNeg = rI μ (176 + 1 + (kT k 4)) 0 from (ldE rfl (by omega) rfl))) ?_
          refine hAt 1 _ _ _ _ _ _ ?_
          refine And.intro (fun hq => ?_) (fun hq => ?_)
          · have c56 : ¬ rI μ (176 + 1 + j) 0 = rI μ (176 + 1 + (kT k 4)) 0 := hq
            clear hq
            refine hAt 2 _ _ _ _ _ _ ?_
            refine Eq.mpr (congrArg (fun xq : Int32 => At 33 [.ref (108), .ref (176 + 1 + (kT k 4)), .int (iZ ((kT k 0 : Int) - 1)), .int (iZ ((kT k 1 : Int) - 1)), .int (here), .int xq] [] μ 0 0) (show nI j + nI 1 = nI (j + 1) from (adE rfl rfl))) ?_
            exact ih c41
          · have c56 : rI μ (176 + 1 + j) 0 = rI μ (176 + 1 + (kT k 4)) 0 := hq
            clear hq
            refine hAt 4 _ _ _ _ _ _ ?_
            refine And.intro (mx_r (q := 176) (n := 3) (k := 3) rfl rfl (show j < 3 by omega)) (And.intro (Or.inl rfl) ?_)
            refine Eq.mpr (congrArg (fun xq : Nat => At 66 [.ref (108), .ref (176 + 1 + (kT k 4)), .int (iZ ((kT k 0 : Int) - 1)), .int (iZ ((kT k 1 : Int) - 1)), .int (here), .int (nI j)] [.ref xq] μ 0 0) (rwE rfl (by omega))) ?_
            refine hAt 2 _ _ _ _ _ _ ?_
            refine And.intro (mx_e (q := 176) (n := 3) (k := 3) (j := j) (i := 1) rfl (by omega) (by omega) rfl) ?_
            refine Eq.mpr (congrArg (fun xq : Int32 => At 68 [.ref (108), .ref (176 + 1 + (kT k 4)), .int (iZ ((kT k 0 : Int) - 1)), .int (iZ ((kT k 1 : Int) - 1)), .int (here), .int (nI j)] [.int xq] μ 0 0) (show rI μ (176 + 1 + j) (nI 1).toNatClampNeg = rI μ (176 + 1 + j) 1 from (ldE rfl (by omega) rfl))) ?_
            refine hAt 3 _ _ _ _ _ _ ?_
            refine And.intro (mx_e (q := 176) (n := 3) (k := 3) (j := (kT k 4)) (i := 1) rfl (by omega) (by omega) rfl) ?_
            refine Eq.mpr (congrArg (fun xq : Int32 => At 71 [.ref (108), .ref (176 + 1 + (kT k 4)), .int (iZ ((kT k 0 : Int) - 1)), .int (iZ ((kT k 1 : Int) - 1)), .int (here), .int (nI j)] [.int xq, .int (rI μ (176 + 1 + j) 1)] μ 0 0) (show rI μ (176 + 1 + (kT k 4)) (nI 1).toNatClampNeg = rI μ (176 + 1 + (kT k 4)) 1 from (ldE rfl (by omega) rfl))) ?_
            refine hAt 1 _ _ _ _ _ _ ?_
            refine And.intro (fun hq => ?_) (fun hq => ?_)
            · have c71 : ¬ rI μ (176 + 1 + j) 1 = rI μ (176 + 1 + (kT k 4)) 1 := hq
              clear hq
              refine hAt 2 _ _ _ _ _ _ ?_
              refine Eq.mpr (congrArg (fun xq : Int32 => At 33 [.ref (108), .ref (176 + 1 + (kT k 4)), .int (iZ ((kT k 0 : Int) - 1)), .int (iZ ((kT k 1 : Int) - 1)), .int (here), .int xq] [] μ 0 0) (show nI j + nI 1 = nI (j + 1) from (adE rfl rfl))) ?_
              exact ih c41
            · have c71 : rI μ (176 + 1 + j) 1 = rI μ (176 + 1 + (kT k 4)) 1 := hq
              clear hq
              refine hAt 6 _ _ _ _ _ _ ?_
              refine s_wrong1 m3.2.2.1.2 ⟨hf, m3.2.2.1.1⟩ ?_
              refine Eq.mpr (congrArg (fun xq : Int32 => At 33 [.ref (108), .ref (176 + 1 + (kT k 4)), .int (iZ ((kT k 0 : Int) - 1)), .int (iZ ((kT k 1 : Int) - 1)), .int (here), .int xq] [] μ 0 0) (show nI j + nI 1 = nI (j + 1) from (adE rfl rfl))) ?_
              exact ih c41
      exact loop 0 (Nat.zero_le _)
  refine hAt 7 _ _ _ _ _ _ ?_
  refine s_number hn hb hR (by omega) (by omega) (fun τ1 x1 u1 e1 y1 w1 => ?_)
  refine And.intro (mx_e (q := 176) (n := 3) (k := 3) (j := (kT k 4)) (i := 0) rfl (by omega) (by omega) rfl) ?_
  refine Eq.mpr (congrArg (fun xq : Mem => At 9 [.ref (108), .ref (176 + 1 + (kT k 4)), .int (iZ ((kT k 0 : Int) - 1)), .int (iZ ((kT k 1 : Int) - 1)), junk, junk] [] xq 0 0) (wrE (σ := τ1) (q := 176 + 1 + (kT k 4)) (p := rfl) (hj := by omega) (h := rfl))) ?_
  refine hAt 12 _ _ _ _ _ _ ?_
  refine s_skipM hn hb (y1.fr (fun j hj => by rw [rI_wI, if_neg (by omega)]) (fun j => by rw [rI_wI, if_neg (by omega)])) (fun τb ub eb yb => ?_)
  refine Eq.mpr (congrArg (fun xq : Int32 => At 26 [.ref (108), .ref (176 + 1 + (kT k 4)), .int (iZ ((kT k 0 : Int) - 1)), .int (iZ ((kT k 1 : Int) - 1)), .int (rI τb 108 4), junk] [.int xq, .int (nI 0), .ref (108), .int (nI 1), .ref (176 + 1 + (kT k 4))] τb 0 0) (show (iZ ((kT k 1 : Int) - 1)) - nI 1 = iZ (((kT k 1 : Int) - 1) - 1) from (sbZ rfl (ntZ rfl)))) ?_
  refine hAt 2 _ _ _ _ _ _ ?_
  refine s_number hn hb yb (by omega) (by omega) (fun τ2 x2 u2 e2 y2 w2 => ?_)
  refine And.intro (mx_e (q := 176) (n := 3) (k := 3) (j := (kT k 4)) (i := 1) rfl (by omega) (by omega) rfl) ?_
  refine Eq.mpr (congrArg (fun xq : Mem => At 30 [.ref (108), .ref (176 + 1 + (kT k 4)), .int (iZ ((kT k 0 : Int) - 1)), .int (iZ ((kT k 1 : Int) - 1)), .int (rI τb 108 4), junk] [] xq 0 0) (wrE (σ := τ2) (q := 176 + 1 + (kT k 4)) (p := rfl) (hj := by omega) (h := rfl))) ?_
  refine hAt 2 _ _ _ _ _ _ ?_
  refine rest _ x1 x2 _ (fun a j q1 q2 => by unfold r3 at q1; rw [rI_wI, if_neg (by omega)]; refine (u2 _ _ (by unfold r3; omega)).trans ?_; refine (ub _ _ (by unfold r3; omega)).trans ?_; rw [rI_wI, if_neg (by omega)]; exact u1 _ _ (by unfold r3; omega)) (e2.trans (eb.trans (e1))) (y2.bl.fr (fun j hj => by rw [rI_wI, if_neg (by omega)]) (fun j => by rw [rI_wI, if_neg (by omega)])) (by rw [rI_wI, if_neg (by omega)]; exact ((u2 (176 + 1 + (kT k 4)) 0 (by unfold r3; omega)).trans ((ub (176 + 1 + (kT k 4)) 0 (by unfold r3; omega)).trans (by rw [rI_wI, if_pos ⟨rfl, rfl⟩])))) (by rw [rI_wI, if_pos ⟨rfl, rfl⟩]) (fun hf => ⟨w1 (nmS_f0 hf), ?_, ?_⟩)
  · have h1 : (nmS b n s 0 ((kT k 0 : Int) - 1)).2.1 = 0 := nmS_f0 hf
    exact (w2 (by rw [nm_bS h1]; exact hf)).trans (congrArg nI (nmX_bS h1))
  · exact (yb.at0 (show (nmS b n s 0 ((kT k 0 : Int) - 1)).2.1 = 0 from nmS_f0 hf)).1
end RMD
