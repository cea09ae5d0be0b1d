/-! CLAUSES on the component's side -/
theorem fsH {σ : Mem} {o a wd x y : Nat} {t : Tb} (h : tbR σ o a wd t) (hw : 2 ≤ wd) (ht : t.1 < 2 ^ 31) (hb : ∀ i, i < t.1 → t.2 i 0 < 2 ^ 31 ∧ t.2 i 1 < 2 ^ 31) (hx : x < 2 ^ 31) (hy : y < 2 ^ 31) : fsF (atXY σ a wd (nI x) (nI y)) 0 t.1 = -1 ↔ hasF t.2 x y t.1 = false := by
  have at_i : ∀ i, i < t.1 → (atXY σ a wd (nI x) (nI y) i = true ↔ (t.2 i 0 = x ∧ t.2 i 1 = y)) := fun i hi => by
    have b := hb i hi
    unfold atXY
    rw [decide_eq_true_iff, h.2 i hi 0 (by omega), h.2 i hi 1 (by omega), nI_eq b.1 hx, nI_eq b.2 hy]
  rcases fsF_spec (atXY σ a wd (nI x) (nI y)) t.1 0 with ⟨h1, h2⟩ | ⟨i, h1, h2, h3, h4, h5⟩
  · refine ⟨fun _ => ?_, fun _ => h1⟩
    cases e : hasF t.2 x y t.1 with
    | false => rfl
    | true =>
      obtain ⟨i, q1, q2⟩ := hasF_t.mp e
      have := h2 i (by omega) (by omega)
      rw [(at_i i q1).mpr q2] at this
      cases this
  · have q : hasF t.2 x y t.1 = true := hasF_t.mpr ⟨i, by omega, (at_i i (by omega)).mp h3⟩
    rw [q]
    refine ⟨fun z => ?_, fun z => by cases z⟩
    rw [h4] at z
    exfalso
    exact nI_m1 (n := i) (by omega) z
theorem fullE (k mo : Nat) : (if k < mo then nI 0 else nI 1) = bI (decide (mo ≤ k)) := by
  by_cases h : k < mo
  · rw [if_pos h, decide_eq_false (by omega)]; rfl
  · rw [if_neg h, decide_eq_true (by omega)]; rfl
theorem fu_o : ∀ {k : Sk} (w : Nat), (w < 1 ∨ 6 ≤ w) → fuA k w = false
  | _, 0, _ => rfl
  | _, 1, h => absurd h (by omega)
  | _, 2, h => absurd h (by omega)
  | _, 3, h => absurd h (by omega)
  | _, 4, h => absurd h (by omega)
  | _, 5, h => absurd h (by omega)
  | _, w + 6, _ => rfl
section RDF
variable {w : Wd} {d : Nat} {σ : Mem} {b : By} {n : Nat} {k : Sk} {s : Ps} {P : Option AV → Mem → Prop} {X : Nat → Mem → Prop}
theorem s_readSeen (hn : n ≤ 600) (hb : ∀ j, j < n → b j < 256) (hR : rdC b n s σ) (hD : skP σ 18 k) (hW : kT k 0 ≤ 8 ∧ kT k 1 ≤ 8) (h8 : kT k 2 ≤ 8) (hm : ∀ i, i < kT k 2 → kC k i 6 ≤ 1000) (hP : ∀ τ, frD σ τ → rdC b n (rdS b n 3 s k) τ → ((rdS b n 3 s k).2.1 = 0 → skP τ 18 (rdK b n 3 s k)) → P none τ) : Ret w true (d + 4) 0 0 m_SkyReader_readSeen [.ref 16] σ P X := by
  by_cases h0 : kT k 2 = 0
  · have dead : ∀ {Q : Prop}, (rdS b n 3 s k).2.1 = 0 → Q := fun hs => by
      have y := nmY_b (qlS k) s hs 0 _ rfl
      have y0 := y.1
      have y1 := y.2
      simp only [] at y0 y1
      omega
    refine meth_ok k_SkyReader_readSeen q_SkyReader_readSeen rfl fun At hAt => ?_
    refine hAt 6 _ _ _ _ _ _ ?_
    refine s_Table_size (a := 22) (na := 23) (mo := 8) (wd := 7) rfl ?_
    refine Eq.mpr (congrArg (fun xq : Int32 => At 12 [.ref (16), junk, junk, junk] [.int xq, .int (nI 0), .ref (16)] σ 0 0) (show rI σ 22 3 = nI (kT k 2) from hD.2.2.1.1)) ?_
    refine hAt 2 _ _ _ _ _ _ ?_
    refine Eq.mpr (congrArg (fun xq : Int32 => At 14 [.ref (16), junk, junk, junk] [.int xq, .int (nI 0), .ref (16)] σ 0 0) (show (nI (kT k 2)) - nI 1 = iZ (((kT k 2 : Nat) : Int) - 1) from (sbZ (ntZ rfl) (ntZ rfl)))) ?_
    refine hAt 5 _ _ _ _ _ _ ?_
    refine s_readNumber hn hb hR (by omega) (by omega) (fun τ1 u1 e1 r1 v1 => ?_)
    have c7 : nmX b n s 0 ((kT k 2 : Int) - 1) ≤ 7 := nmX_le (by omega) (by omega)
    refine Eq.mpr (congrArg (fun xq : Int32 => At 22 [.ref (16), .int (nI (nmX b n s 0 (((kT k 2 : Nat) : Int) - 1))), junk, junk] [.int xq, .int (nI 0), .ref (16)] τ1 0 0) (ntZ rfl)) ?_
    refine hAt 5 _ _ _ _ _ _ ?_
    refine s_readNumber hn hb r1 (by omega) (by omega) (fun τ2 u2 e2 r2 v2 => ?_)
    have n2 : nmX b n (nmS b n s 0 (((kT k 2 : Nat) : Int) - 1)) 0 6 ≤ 6 := nmX_le (by omega) (by omega)
    refine Eq.mpr (congrArg (fun xq : Int32 => At 31 [.ref (16), .int (nI (nmX b n s 0 (((kT k 2 : Nat) : Int) - 1))), .int (nI (nmX b n (nmS b n s 0 (((kT k 2 : Nat) : Int) - 1)) 0 6)), junk] [.int xq, .int (nI 0), .ref (16)] τ2 0 0) (ntZ rfl)) ?_
    refine hAt 10 _ _ _ _ _ _ ?_
    refine s_readNumber hn hb r2 (by omega) (by omega) (fun τ3 u3 e3 r3 v3 => ?_)
    have n3 : nmX b n (nmS b n (nmS b n s 0 (((kT k 2 : Nat) : Int) - 1)) 0 6) 0 999 ≤ 999 := nmX_le (by omega) (by omega)
    refine s_Table_get (a := 22) (na := 23) (mo := 8) (wd := 7) rfl (show nmX b n s 0 (((kT k 2 : Nat) : Int) - 1) < 8 by omega) (show 6 < 7 by omega) ?_
    refine And.intro (fun hq => ?_) (fun hq => ?_)
    · have c49 : rI τ3 23 ((nmX b n s 0 (((kT k 2 : Nat) : Int) - 1)) * 7 + 6) ≤ nI (nmX b n (nmS b n (nmS b n s 0 (((kT k 2 : Nat) : Int) - 1)) 0 6) 0 999) := hq
      clear hq
      refine hAt 1 _ _ _ _ _ _ ?_
      exact hP _ ⟨fun a j q => by refine (u3 _ _ (by omega)).trans ?_; refine (u2 _ _ (by omega)).trans ?_; exact u1 _ _ (by omega), (e3.trans (e2.trans (e1)))⟩ r3 dead
    · have c49 : ¬ rI τ3 23 ((nmX b n s 0 (((kT k 2 : Nat) : Int) - 1)) * 7 + 6) ≤ nI (nmX b n (nmS b n (nmS b n s 0 (((kT k 2 : Nat) : Int) - 1)) 0 6) 0 999) := hq
      clear hq
      refine hAt 15 _ _ _ _ _ _ ?_
      refine s_Table_set (a := 22) (na := 23) (mo := 8) (wd := 7) rfl (show nmX b n s 0 (((kT k 2 : Nat) : Int) - 1) < 8 by omega) (show 5 < 7 by omega) ?_
      refine s_Table_set (a := 22) (na := 23) (mo := 8) (wd := 7) rfl (show nmX b n s 0 (((kT k 2 : Nat) : Int) - 1) < 8 by omega) (show 6 < 7 by omega) ?_
      exact hP _ ⟨fun a j q => by rw [rI_wI, if_neg (by omega)]; rw [rI_wI, if_neg (by omega)]; refine (u3 _ _ (by omega)).trans ?_; refine (u2 _ _ (by omega)).trans ?_; exact u1 _ _ (by omega), (e3.trans (e2.trans (e1)))⟩ (r3.fr (fun j => by rw [rI_wI, if_neg (by omega)]; rw [rI_wI, if_neg (by omega)]) (fun j => by rw [rI_wI, if_neg (by omega)]; rw [rI_wI, if_neg (by omega)])) dead
  · refine meth_ok k_SkyReader_readSeen q_SkyReader_readSeen rfl fun At hAt => ?_
    refine hAt 6 _ _ _ _ _ _ ?_
    refine s_Table_size (a := 22) (na := 23) (mo := 8) (wd := 7) rfl ?_
    refine Eq.mpr (congrArg (fun xq : Int32 => At 12 [.ref (16), junk, junk, junk] [.int xq, .int (nI 0), .ref (16)] σ 0 0) (show rI σ 22 3 = nI (kT k 2) from hD.2.2.1.1)) ?_
    refine hAt 2 _ _ _ _ _ _ ?_
    refine Eq.mpr (congrArg (fun xq : Int32 => At 14 [.ref (16), junk, junk, junk] [.int xq, .int (nI 0), .ref (16)] σ 0 0) (show (nI (kT k 2)) - nI 1 = iZ (((kT k 2 : Nat) : Int) - 1) from (sbZ (ntZ rfl) (ntZ rfl)))) ?_
    refine hAt 5 _ _ _ _ _ _ ?_
    refine s_readNumber hn hb hR (by omega) (by omega) (fun τ1 u1 e1 r1 v1 => ?_)
    have cl : nmX b n s 0 ((kT k 2 : Int) - 1) < kT k 2 := Nat.lt_of_le_of_lt (nmX_le (m := kT k 2 - 1) (by omega) (by omega)) (by omega)
    have hm2 := hm _ cl
    refine Eq.mpr (congrArg (fun xq : Int32 => At 22 [.ref (16), .int (nI (nmX b n s 0 (((kT k 2 : Nat) : Int) - 1))), junk, junk] [.int xq, .int (nI 0), .ref (16)] τ1 0 0) (ntZ rfl)) ?_
    refine hAt 5 _ _ _ _ _ _ ?_
    refine s_readNumber hn hb r1 (by omega) (by omega) (fun τ2 u2 e2 r2 v2 => ?_)
    have n2 : nmX b n (nmS b n s 0 (((kT k 2 : Nat) : Int) - 1)) 0 6 ≤ 6 := nmX_le (by omega) (by omega)
    refine Eq.mpr (congrArg (fun xq : Int32 => At 31 [.ref (16), .int (nI (nmX b n s 0 (((kT k 2 : Nat) : Int) - 1))), .int (nI (nmX b n (nmS b n s 0 (((kT k 2 : Nat) : Int) - 1)) 0 6)), junk] [.int xq, .int (nI 0), .ref (16)] τ2 0 0) (ntZ rfl)) ?_
    refine hAt 9 _ _ _ _ _ _ ?_
    refine s_readNumber hn hb r2 (by omega) (by omega) (fun τ3 u3 e3 r3 v3 => ?_)
    have n3 : nmX b n (nmS b n (nmS b n s 0 (((kT k 2 : Nat) : Int) - 1)) 0 6) 0 999 ≤ 999 := nmX_le (by omega) (by omega)
    refine s_Table_get (a := 22) (na := 23) (mo := 8) (wd := 7) rfl (show nmX b n s 0 (((kT k 2 : Nat) : Int) - 1) < 8 by omega) (show 6 < 7 by omega) ?_
    refine Eq.mpr (congrArg (fun xq : Int32 => At 49 [.ref (16), .int (nI (nmX b n s 0 (((kT k 2 : Nat) : Int) - 1))), .int (nI (nmX b n (nmS b n s 0 (((kT k 2 : Nat) : Int) - 1)) 0 6)), .int (nI (nmX b n (nmS b n (nmS b n s 0 (((kT k 2 : Nat) : Int) - 1)) 0 6) 0 999))] [.int xq, .int (nI (nmX b n (nmS b n (nmS b n s 0 (((kT k 2 : Nat) : Int) - 1)) 0 6) 0 999))] τ3 0 0) (show rI τ3 23 ((nmX b n s 0 (((kT k 2 : Nat) : Int) - 1)) * 7 + 6) = nI (kC k (nmX b n s 0 (((kT k 2 : Nat) : Int) - 1)) 6) from ((u3 23 ((nmX b n s 0 (((kT k 2 : Nat) : Int) - 1)) * 7 + 6) (by omega)).trans ((u2 23 ((nmX b n s 0 (((kT k 2 : Nat) : Int) - 1)) * 7 + 6) (by omega)).trans ((u1 23 ((nmX b n s 0 (((kT k 2 : Nat) : Int) - 1)) * 7 + 6) (by omega)).trans (hD.2.2.1.2 (nmX b n s 0 (((kT k 2 : Nat) : Int) - 1)) (by omega) 6 (by omega))))))) ?_
    refine hAt 1 _ _ _ _ _ _ ?_
    refine And.intro (fun hq => ?_) (fun hq => ?_)
    · have c49 : kC k (nmX b n s 0 (((kT k 2 : Nat) : Int) - 1)) 6 ≤ nmX b n (nmS b n (nmS b n s 0 (((kT k 2 : Nat) : Int) - 1)) 0 6) 0 999 := (leN (a := kC k (nmX b n s 0 (((kT k 2 : Nat) : Int) - 1)) 6) (b := nmX b n (nmS b n (nmS b n s 0 (((kT k 2 : Nat) : Int) - 1)) 0 6) 0 999) rfl rfl (by omega) (by omega)).mp hq
      clear hq
      refine hAt 1 _ _ _ _ _ _ ?_
      have ek : rdK b n 3 s k = k := if_neg (Nat.not_lt.mpr c49)
      exact hP _ ⟨fun a j q => by refine (u3 _ _ (by omega)).trans ?_; refine (u2 _ _ (by omega)).trans ?_; exact u1 _ _ (by omega), (e3.trans (e2.trans (e1)))⟩ r3 (fun _ => by rw [ek]; exact hD.fr (fun a j q1 => by refine (u3 _ _ (by omega)).trans ?_; refine (u2 _ _ (by omega)).trans ?_; exact u1 _ _ (by omega)))
    · have c49 : nmX b n (nmS b n (nmS b n s 0 (((kT k 2 : Nat) : Int) - 1)) 0 6) 0 999 < kC k (nmX b n s 0 (((kT k 2 : Nat) : Int) - 1)) 6 := Nat.lt_of_not_le (fun zq => hq ((leN (a := kC k (nmX b n s 0 (((kT k 2 : Nat) : Int) - 1)) 6) (b := nmX b n (nmS b n (nmS b n s 0 (((kT k 2 : Nat) : Int) - 1)) 0 6) 0 999) rfl rfl (by omega) (by omega)).mpr zq))
      clear hq
      refine hAt 15 _ _ _ _ _ _ ?_
      refine s_Table_set (a := 22) (na := 23) (mo := 8) (wd := 7) rfl (show nmX b n s 0 (((kT k 2 : Nat) : Int) - 1) < 8 by omega) (show 5 < 7 by omega) ?_
      refine s_Table_set (a := 22) (na := 23) (mo := 8) (wd := 7) rfl (show nmX b n s 0 (((kT k 2 : Nat) : Int) - 1) < 8 by omega) (show 6 < 7 by omega) ?_
      have ek : rdK b n 3 s k = kSn k (nmX b n s 0 (((kT k 2 : Nat) : Int) - 1)) (nmX b n (nmS b n s 0 (((kT k 2 : Nat) : Int) - 1)) 0 6) (nmX b n (nmS b n (nmS b n s 0 (((kT k 2 : Nat) : Int) - 1)) 0 6) 0 999) := if_pos c49
      exact hP _ ⟨fun a j q => by rw [rI_wI, if_neg (by omega)]; rw [rI_wI, if_neg (by omega)]; refine (u3 _ _ (by omega)).trans ?_; refine (u2 _ _ (by omega)).trans ?_; exact u1 _ _ (by omega), (e3.trans (e2.trans (e1)))⟩ (r3.fr (fun j => by rw [rI_wI, if_neg (by omega)]; rw [rI_wI, if_neg (by omega)]) (fun j => by rw [rI_wI, if_neg (by omega)]; rw [rI_wI, if_neg (by omega)])) (fun _ => by rw [ek]; exact hD.sn cl (fun a j q1 q2 => by rw [rI_wI, if_neg (by omega)]; rw [rI_wI, if_neg (by omega)]; refine (u3 _ _ (by omega)).trans ?_; refine (u2 _ _ (by omega)).trans ?_; exact u1 _ _ (by omega)) (by rw [rI_wI, if_neg (by omega), rI_wI, if_pos ⟨rfl, rfl⟩]) (by rw [rI_wI, if_pos ⟨rfl, rfl⟩]))
theorem s_readField (hn : n ≤ 600) (hb : ∀ j, j < n → b j < 256) (hR : rdC b n s σ) (hD : skP σ 18 k) (hW : kT k 0 ≤ 8 ∧ kT k 1 ≤ 8) (hc : kT k 3 < 12) (hq : ∀ i, i < kT k 3 → kF k i 0 < 2 ^ 31 ∧ kF k i 1 < 2 ^ 31) (hP : ∀ τ, frD σ τ → rdC b n (rdS b n 4 s k) τ → ((rdS b n 4 s k).2.1 = 0 → skP τ 18 (rdK b n 4 s k)) → P none τ) : Ret w true (d + 4) 0 0 m_SkyReader_readField [.ref 16] σ P X := by
  refine meth_ok k_SkyReader_readField q_SkyReader_readField rfl fun At hAt => ?_
  have hx : nmX b n s 0 ((kT k 0 : Int) - 1) ≤ 1000 := nmX_le (by omega) (by omega)
  have hy : nmX b n (nmS b n s 0 ((kT k 0 : Int) - 1)) 0 ((kT k 1 : Int) - 1) ≤ 1000 := nmX_le (by omega) (by omega)
  have rest : ∀ τ0, (∀ a j, a ≠ 16 → rI τ0 a j = rI σ a j) → τ0.2 = σ.2 → rdC b n (rdF1 b n s k) τ0 → At 45 [.ref 16, .int (nI (nmX b n s 0 ((kT k 0 : Int) - 1))), .int (nI (nmX b n (nmS b n s 0 ((kT k 0 : Int) - 1)) 0 ((kT k 1 : Int) - 1))), junk] [] τ0 0 0 := by
    intro τ0 u0 e0 r0
    refine hAt 27 _ _ _ _ _ _ ?_
    refine s_Table_open (a := 24) (na := 25) (mo := 12) (wd := 6) rfl ((u0 24 3 (by omega)).trans hD.2.2.2.1.1) (by omega) ?_
    refine s_Table_set (a := 24) (na := 25) (mo := 12) (wd := 6) rfl (show kT k 3 < 12 by omega) (show 0 < 6 by omega) ?_
    refine s_Table_set (a := 24) (na := 25) (mo := 12) (wd := 6) rfl (show kT k 3 < 12 by omega) (show 1 < 6 by omega) ?_
    refine Eq.mpr (congrArg (fun xq : Int32 => At 95 [.ref (16), .int (nI (nmX b n s 0 ((kT k 0 : Int) - 1))), .int (nI (nmX b n (nmS b n s 0 ((kT k 0 : Int) - 1)) 0 ((kT k 1 : Int) - 1))), .int (nI (kT k 3))] [.int xq, .int (nI 0), .ref (16), .int (nI 2), .int (nI (kT k 3)), .ref (24)] (wI (wI (wI τ0 24 3 (nI (kT k 3 + 1))) 25 ((kT k 3) * 6 + 0) (nI (nmX b n s 0 ((kT k 0 : Int) - 1)))) 25 ((kT k 3) * 6 + 1) (nI (nmX b n (nmS b n s 0 ((kT k 0 : Int) - 1)) 0 ((kT k 1 : Int) - 1)))) 0 0) (ntZ rfl)) ?_
    refine hAt 10 _ _ _ _ _ _ ?_
    refine s_readNumber hn hb (r0.fr (fun j => by rw [rI_wI, if_neg (by omega)]; rw [rI_wI, if_neg (by omega)]; rw [rI_wI, if_neg (by omega)]) (fun j => by rw [rI_wI, if_neg (by omega)]; rw [rI_wI, if_neg (by omega)]; rw [rI_wI, if_neg (by omega)])) (by omega) (by omega) (fun τ1 u1 e1 r1 v1 => ?_)
    have n1 : nmX b n (rdF1 b n s k) 0 6 ≤ 6 := nmX_le (by omega) (by omega)
    refine s_Table_set (a := 24) (na := 25) (mo := 12) (wd := 6) rfl (show kT k 3 < 12 by omega) (show 2 < 6 by omega) ?_
    refine Eq.mpr (congrArg (fun xq : Int32 => At 114 [.ref (16), .int (nI (nmX b n s 0 ((kT k 0 : Int) - 1))), .int (nI (nmX b n (nmS b n s 0 ((kT k 0 : Int) - 1)) 0 ((kT k 1 : Int) - 1))), .int (nI (kT k 3))] [.int xq, .int (nI 0), .ref (16), .int (nI 3), .int (nI (kT k 3)), .ref (24)] (wI τ1 25 ((kT k 3) * 6 + 2) (nI (nmX b n (rdF1 b n s k) 0 6))) 0 0) (ntZ rfl)) ?_
    refine hAt 10 _ _ _ _ _ _ ?_
    refine s_readNumber hn hb (r1.fr (fun j => by rw [rI_wI, if_neg (by omega)]) (fun j => by rw [rI_wI, if_neg (by omega)])) (by omega) (by omega) (fun τ2 u2 e2 r2 v2 => ?_)
    have n2 : nmX b n (nmS b n (rdF1 b n s k) 0 6) 0 99 ≤ 99 := nmX_le (by omega) (by omega)
    refine s_Table_set (a := 24) (na := 25) (mo := 12) (wd := 6) rfl (show kT k 3 < 12 by omega) (show 3 < 6 by omega) ?_
    refine Eq.mpr (congrArg (fun xq : Int32 => At 133 [.ref (16), .int (nI (nmX b n s 0 ((kT k 0 : Int) - 1))), .int (nI (nmX b n (nmS b n s 0 ((kT k 0 : Int) - 1)) 0 ((kT k 1 : Int) - 1))), .int (nI (kT k 3))] [.int xq, .int (nI 0), .ref (16), .int (nI 4), .int (nI (kT k 3)), .ref (24)] (wI τ2 25 ((kT k 3) * 6 + 3) (nI (nmX b n (nmS b n (rdF1 b n s k) 0 6) 0 99))) 0 0) (ntZ rfl)) ?_
    refine hAt 10 _ _ _ _ _ _ ?_
    refine s_readNumber hn hb (r2.fr (fun j => by rw [rI_wI, if_neg (by omega)]) (fun j => by rw [rI_wI, if_neg (by omega)])) (by omega) (by omega) (fun τ3 u3 e3 r3 v3 => ?_)
    have n3 : nmX b n (nmS b n (nmS b n (rdF1 b n s k) 0 6) 0 99) 0 99 ≤ 99 := nmX_le (by omega) (by omega)
    refine s_Table_set (a := 24) (na := 25) (mo := 12) (wd := 6) rfl (show kT k 3 < 12 by omega) (show 4 < 6 by omega) ?_
    refine Eq.mpr (congrArg (fun xq : Int32 => At 152 [.ref (16), .int (nI (nmX b n s 0 ((kT k 0 : Int) - 1))), .int (nI (nmX b n (nmS b n s 0 ((kT k 0 : Int) - 1)) 0 ((kT k 1 : Int) - 1))), .int (nI (kT k 3))] [.int xq, .int (nI 0), .ref (16), .int (nI 5), .int (nI (kT k 3)), .ref (24)] (wI τ3 25 ((kT k 3) * 6 + 4) (nI (nmX b n (nmS b n (nmS b n (rdF1 b n s k) 0 6) 0 99) 0 99))) 0 0) (ntZ rfl)) ?_
    refine hAt 3 _ _ _ _ _ _ ?_
    refine s_readNumber hn hb (r3.fr (fun j => by rw [rI_wI, if_neg (by omega)]) (fun j => by rw [rI_wI, if_neg (by omega)])) (by omega) (by omega) (fun τ4 u4 e4 r4 v4 => ?_)
    have n4 : nmX b n (nmS b n (nmS b n (nmS b n (rdF1 b n s k) 0 6) 0 99) 0 99) 0 9 ≤ 9 := nmX_le (by omega) (by omega)
    refine s_Table_set (a := 24) (na := 25) (mo := 12) (wd := 6) rfl (show kT k 3 < 12 by omega) (show 5 < 6 by omega) ?_
    exact hP _ ⟨fun a j q => by rw [rI_wI, if_neg (by omega)]; refine (u4 _ _ (by omega)).trans ?_; rw [rI_wI, if_neg (by omega)]; refine (u3 _ _ (by omega)).trans ?_; rw [rI_wI, if_neg (by omega)]; refine (u2 _ _ (by omega)).trans ?_; rw [rI_wI, if_neg (by omega)]; refine (u1 _ _ (by omega)).trans ?_; rw [rI_wI, if_neg (by omega)]; rw [rI_wI, if_neg (by omega)]; rw [rI_wI, if_neg (by omega)]; exact u0 _ _ (by omega), (e4.trans (e3.trans (e2.trans (e1.trans (e0)))))⟩ (r4.fr (fun j => by rw [rI_wI, if_neg (by omega)]) (fun j => by rw [rI_wI, if_neg (by omega)])) (fun _ => (skP.pf hD (fun a j q1 q2 => by rw [rI_wI, if_neg (by omega)]; refine (u4 _ _ (by omega)).trans ?_; rw [rI_wI, if_neg (by omega)]; refine (u3 _ _ (by omega)).trans ?_; rw [rI_wI, if_neg (by omega)]; refine (u2 _ _ (by omega)).trans ?_; rw [rI_wI, if_neg (by omega)]; refine (u1 _ _ (by omega)).trans ?_; rw [rI_wI, if_neg (by omega)]; rw [rI_wI, if_neg (by omega)]; rw [rI_wI, if_neg (by omega)]; exact u0 _ _ (by omega)) (by rw [rI_wI, if_neg (by omega)]; exact ((u4 24 3 (by omega)).trans (by rw [rI_wI, if_neg (by omega)]; exact ((u3 24 3 (by omega)).trans (by rw [rI_wI, if_neg (by omega)]; exact ((u2 24 3 (by omega)).trans (by rw [rI_wI, if_neg (by omega)]; exact ((u1 24 3 (by omega)).trans (by rw [rI_wI, if_neg (by omega), rI_wI, if_neg (by omega), rI_wI, if_pos ⟨rfl, rfl⟩]))))))))) (all6 (show rI (wI τ4 25 ((kT k 3) * 6 + 5) (nI (nmX b n (nmS b n (nmS b n (nmS b n (rdF1 b n s k) 0 6) 0 99) 0 99) 0 9))) 25 ((kT k 3) * 6 + 0) = nI (nmX b n s 0 ((kT k 0 : Int) - 1)) from (by rw [rI_wI, if_neg (by omega)]; exact ((u4 25 ((kT k 3) * 6 + 0) (by omega)).trans (by rw [rI_wI, if_neg (by omega)]; exact ((u3 25 ((kT k 3) * 6 + 0) (by omega)).trans (by rw [rI_wI, if_neg (by omega)]; exact ((u2 25 ((kT k 3) * 6 + 0) (by omega)).trans (by rw [rI_wI, if_neg (by omega)]; exact ((u1 25 ((kT k 3) * 6 + 0) (by omega)).trans (by rw [rI_wI, if_neg (by omega), rI_wI, if_pos ⟨rfl, rfl⟩])))))))))) (show rI (wI τ4 25 ((kT k 3) * 6 + 5) (nI (nmX b n (nmS b n (nmS b n (nmS b n (rdF1 b n s k) 0 6) 0 99) 0 99) 0 9))) 25 ((kT k 3) * 6 + 1) = nI (nmX b n (nmS b n s 0 ((kT k 0 : Int) - 1)) 0 ((kT k 1 : Int) - 1)) from (by rw [rI_wI, if_neg (by omega)]; exact ((u4 25 ((kT k 3) * 6 + 1) (by omega)).trans (by rw [rI_wI, if_neg (by omega)]; exact ((u3 25 ((kT k 3) * 6 + 1) (by omega)).trans (by rw [rI_wI, if_neg (by omega)]; exact ((u2 25 ((kT k 3) * 6 + 1) (by omega)).trans (by rw [rI_wI, if_neg (by omega)]; exact ((u1 25 ((kT k 3) * 6 + 1) (by omega)).trans (by rw [rI_wI, if_pos ⟨rfl, rfl⟩])))))))))) (show rI (wI τ4 25 ((kT k 3) * 6 + 5) (nI (nmX b n (nmS b n (nmS b n (nmS b n (rdF1 b n s k) 0 6) 0 99) 0 99) 0 9))) 25 ((kT k 3) * 6 + 2) = nI (nmX b n (rdF1 b n s k) 0 6) from (by rw [rI_wI, if_neg (by omega)]; exact ((u4 25 ((kT k 3) * 6 + 2) (by omega)).trans (by rw [rI_wI, if_neg (by omega)]; exact ((u3 25 ((kT k 3) * 6 + 2) (by omega)).trans (by rw [rI_wI, if_neg (by omega)]; exact ((u2 25 ((kT k 3) * 6 + 2) (by omega)).trans (by rw [rI_wI, if_pos ⟨rfl, rfl⟩])))))))) (show rI (wI τ4 25 ((kT k 3) * 6 + 5) (nI (nmX b n (nmS b n (nmS b n (nmS b n (rdF1 b n s k) 0 6) 0 99) 0 99) 0 9))) 25 ((kT k 3) * 6 + 3) = nI (nmX b n (nmS b n (rdF1 b n s k) 0 6) 0 99) from (by rw [rI_wI, if_neg (by omega)]; exact ((u4 25 ((kT k 3) * 6 + 3) (by omega)).trans (by rw [rI_wI, if_neg (by omega)]; exact ((u3 25 ((kT k 3) * 6 + 3) (by omega)).trans (by rw [rI_wI, if_pos ⟨rfl, rfl⟩])))))) (show rI (wI τ4 25 ((kT k 3) * 6 + 5) (nI (nmX b n (nmS b n (nmS b n (nmS b n (rdF1 b n s k) 0 6) 0 99) 0 99) 0 9))) 25 ((kT k 3) * 6 + 4) = nI (nmX b n (nmS b n (nmS b n (rdF1 b n s k) 0 6) 0 99) 0 99) from (by rw [rI_wI, if_neg (by omega)]; exact ((u4 25 ((kT k 3) * 6 + 4) (by omega)).trans (by rw [rI_wI, if_pos ⟨rfl, rfl⟩])))) (show rI (wI τ4 25 ((kT k 3) * 6 + 5) (nI (nmX b n (nmS b n (nmS b n (nmS b n (rdF1 b n s k) 0 6) 0 99) 0 99) 0 9))) 25 ((kT k 3) * 6 + 5) = nI (nmX b n (nmS b n (nmS b n (nmS b n (rdF1 b n s k) 0 6) 0 99) 0 99) 0 9) from (by rw [rI_wI, if_pos ⟨rfl, rfl⟩]))) (fun j q => by rw [rI_wI, if_neg (by omega)]; refine (u4 _ _ (by omega)).trans ?_; rw [rI_wI, if_neg (by omega)]; refine (u3 _ _ (by omega)).trans ?_; rw [rI_wI, if_neg (by omega)]; refine (u2 _ _ (by omega)).trans ?_; rw [rI_wI, if_neg (by omega)]; refine (u1 _ _ (by omega)).trans ?_; rw [rI_wI, if_neg (by omega)]; rw [rI_wI, if_neg (by omega)]; rw [rI_wI, if_neg (by omega)]; exact u0 _ _ (by omega))))
  refine hAt 20 _ _ _ _ _ _ ?_
  refine s_lastX (hD.1 0 (by omega)) (by omega) ?_
  refine s_readNumber hn hb hR (by omega) (by omega) (fun τ1 u1 e1 r1 v1 => ?_)
  refine s_lastY ((u1 19 1 (by omega)).trans (hD.1 1 (by omega))) (by omega) ?_
  refine s_readNumber hn hb r1 (by omega) (by omega) (fun τ2 u2 e2 r2 v2 => ?_)
  refine s_Table_rowAt (a := 24) (na := 25) (mo := 12) (wd := 6) (sz := kT k 3) rfl (by omega) ((u2 24 3 (by omega)).trans ((u1 24 3 (by omega)).trans hD.2.2.2.1.1)) (by omega) ?_
  have key := fsH (σ := τ2) (o := 24) (a := 25) (wd := 6) (t := (kT k 3, kF k)) (hD.2.2.2.1.frame (fun j => by refine (u2 _ _ (by omega)).trans ?_; exact u1 _ _ (by omega)) (fun j => by refine (u2 _ _ (by omega)).trans ?_; exact u1 _ _ (by omega))) (by omega) (show kT k 3 < 2 ^ 31 by omega) hq (show nmX b n s 0 ((kT k 0 : Int) - 1) < 2 ^ 31 by omega) (show nmX b n (nmS b n s 0 ((kT k 0 : Int) - 1)) 0 ((kT k 1 : Int) - 1) < 2 ^ 31 by omega)
  refine And.intro (fun hq => ?_) (fun hq => ?_)
  · have c33 : fsF (atXY τ2 25 6 (nI (nmX b n s 0 ((kT k 0 : Int) - 1))) (nI (nmX b n (nmS b n s 0 ((kT k 0 : Int) - 1)) 0 ((kT k 1 : Int) - 1)))) 0 (kT k 3) = -1 := hq
    clear hq
    exact rest τ2 (fun a j q => by refine (u2 _ _ (by omega)).trans ?_; exact u1 _ _ (by omega)) (e2.trans e1) (by
      have g := key.mp c33
      unfold rdF1
      rw [show hasF (kF k) (nmY b n (qlF k) s 0) (nmY b n (qlF k) s 1) (kT k 3) = false from g]
      exact r2)
  · have c33 : ¬ fsF (atXY τ2 25 6 (nI (nmX b n s 0 ((kT k 0 : Int) - 1))) (nI (nmX b n (nmS b n s 0 ((kT k 0 : Int) - 1)) 0 ((kT k 1 : Int) - 1)))) 0 (kT k 3) = -1 := hq
    clear hq
    refine hAt 5 _ _ _ _ _ _ ?_
    refine s_failS (by decide) r2 (fun q => v2 (nmS_f0 q)) (fun τ3 u3 e3 r3 => ?_)
    exact rest τ3 (fun a j q => by refine (u3 _ _ (by omega)).trans ?_; refine (u2 _ _ (by omega)).trans ?_; exact u1 _ _ (by omega)) (e3.trans (e2.trans e1)) (by
      have g : hasF (kF k) (nmY b n (qlF k) s 0) (nmY b n (qlF k) s 1) (kT k 3) = true := by
        cases e : hasF (kF k) (nmY b n (qlF k) s 0) (nmY b n (qlF k) s 1) (kT k 3) with
        | true => rfl
        | false => exact absurd (key.mpr e) c33
      unfold rdF1
      rw [g]
      exact r3)
theorem s_readGlacier (hn : n ≤ 600) (hb : ∀ j, j < n → b j < 256) (hR : rdC b n s σ) (hD : skP σ 18 k) (hW : kT k 0 ≤ 8 ∧ kT k 1 ≤ 8) (hc : kT k 4 < 3) (hq : ∀ i, i < kT k 4 → kI k i 0 < 2 ^ 31 ∧ kI k i 1 < 2 ^ 31) (hP : ∀ τ, frD σ τ → rdC b n (rdS b n 5 s k) τ → ((rdS b n 5 s k).2.1 = 0 → skP τ 18 (rdK b n 5 s k)) → P none τ) : Ret w true (d + 4) 0 0 m_SkyReader_readGlacier [.ref 16] σ P X := by
  refine meth_ok k_SkyReader_readGlacier q_SkyReader_readGlacier rfl fun At hAt => ?_
  have hx : nmX b n s 0 ((kT k 0 : Int) - 1) ≤ 1000 := nmX_le (by omega) (by omega)
  have hy : nmX b n (nmS b n s 0 ((kT k 0 : Int) - 1)) 0 (((kT k 1 : Int) - 1) - 1) ≤ 1000 := nmX_le (by omega) (by omega)
  have rest : ∀ τ0, (∀ a j, a ≠ 16 → rI τ0 a j = rI σ a j) → τ0.2 = σ.2 → rdC b n (rdI1 b n s k) τ0 → At 47 [.ref 16, .int (nI (nmX b n s 0 ((kT k 0 : Int) - 1))), .int (nI (nmX b n (nmS b n s 0 ((kT k 0 : Int) - 1)) 0 (((kT k 1 : Int) - 1) - 1))), junk] [] τ0 0 0 := by
    intro τ0 u0 e0 r0
    refine hAt 27 _ _ _ _ _ _ ?_
    refine s_Table_open (a := 26) (na := 27) (mo := 3) (wd := 3) rfl ((u0 26 3 (by omega)).trans hD.2.2.2.2.1) (by omega) ?_
    refine s_Table_set (a := 26) (na := 27) (mo := 3) (wd := 3) rfl (show kT k 4 < 3 by omega) (show 0 < 3 by omega) ?_
    refine s_Table_set (a := 26) (na := 27) (mo := 3) (wd := 3) rfl (show kT k 4 < 3 by omega) (show 1 < 3 by omega) ?_
    refine Eq.mpr (congrArg (fun xq : Int32 => At 97 [.ref (16), .int (nI (nmX b n s 0 ((kT k 0 : Int) - 1))), .int (nI (nmX b n (nmS b n s 0 ((kT k 0 : Int) - 1)) 0 (((kT k 1 : Int) - 1) - 1))), .int (nI (kT k 4))] [.int xq, .int (nI 0), .ref (16), .int (nI 2), .int (nI (kT k 4)), .ref (26)] (wI (wI (wI τ0 26 3 (nI (kT k 4 + 1))) 27 ((kT k 4) * 3 + 0) (nI (nmX b n s 0 ((kT k 0 : Int) - 1)))) 27 ((kT k 4) * 3 + 1) (nI (nmX b n (nmS b n s 0 ((kT k 0 : Int) - 1)) 0 (((kT k 1 : Int) - 1) - 1)))) 0 0) (ntZ rfl)) ?_
    refine hAt 3 _ _ _ _ _ _ ?_
    refine s_readNumber hn hb (r0.fr (fun j => by rw [rI_wI, if_neg (by omega)]; rw [rI_wI, if_neg (by omega)]; rw [rI_wI, if_neg (by omega)]) (fun j => by rw [rI_wI, if_neg (by omega)]; rw [rI_wI, if_neg (by omega)]; rw [rI_wI, if_neg (by omega)])) (by omega) (by omega) (fun τ1 u1 e1 r1 v1 => ?_)
    have n1 : nmX b n (rdI1 b n s k) 0 49 ≤ 49 := nmX_le (by omega) (by omega)
    refine s_Table_set (a := 26) (na := 27) (mo := 3) (wd := 3) rfl (show kT k 4 < 3 by omega) (show 2 < 3 by omega) ?_
    exact hP _ ⟨fun a j q => by rw [rI_wI, if_neg (by omega)]; refine (u1 _ _ (by omega)).trans ?_; rw [rI_wI, if_neg (by omega)]; rw [rI_wI, if_neg (by omega)]; rw [rI_wI, if_neg (by omega)]; exact u0 _ _ (by omega), (e1.trans (e0))⟩ (r1.fr (fun j => by rw [rI_wI, if_neg (by omega)]) (fun j => by rw [rI_wI, if_neg (by omega)])) (fun _ => (skP.pi hD (fun a j q1 q2 => by rw [rI_wI, if_neg (by omega)]; refine (u1 _ _ (by omega)).trans ?_; rw [rI_wI, if_neg (by omega)]; rw [rI_wI, if_neg (by omega)]; rw [rI_wI, if_neg (by omega)]; exact u0 _ _ (by omega)) (by rw [rI_wI, if_neg (by omega)]; exact ((u1 26 3 (by omega)).trans (by rw [rI_wI, if_neg (by omega), rI_wI, if_neg (by omega), rI_wI, if_pos ⟨rfl, rfl⟩]))) (all3 (show rI (wI τ1 27 ((kT k 4) * 3 + 2) (nI (nmX b n (rdI1 b n s k) 0 49))) 27 ((kT k 4) * 3 + 0) = nI (nmX b n s 0 ((kT k 0 : Int) - 1)) from (by rw [rI_wI, if_neg (by omega)]; exact ((u1 27 ((kT k 4) * 3 + 0) (by omega)).trans (by rw [rI_wI, if_neg (by omega), rI_wI, if_pos ⟨rfl, rfl⟩])))) (show rI (wI τ1 27 ((kT k 4) * 3 + 2) (nI (nmX b n (rdI1 b n s k) 0 49))) 27 ((kT k 4) * 3 + 1) = nI (nmX b n (nmS b n s 0 ((kT k 0 : Int) - 1)) 0 (((kT k 1 : Int) - 1) - 1)) from (by rw [rI_wI, if_neg (by omega)]; exact ((u1 27 ((kT k 4) * 3 + 1) (by omega)).trans (by rw [rI_wI, if_pos ⟨rfl, rfl⟩])))) (show rI (wI τ1 27 ((kT k 4) * 3 + 2) (nI (nmX b n (rdI1 b n s k) 0 49))) 27 ((kT k 4) * 3 + 2) = nI (nmX b n (rdI1 b n s k) 0 49) from (by rw [rI_wI, if_pos ⟨rfl, rfl⟩]))) (fun j q => by rw [rI_wI, if_neg (by omega)]; refine (u1 _ _ (by omega)).trans ?_; rw [rI_wI, if_neg (by omega)]; rw [rI_wI, if_neg (by omega)]; rw [rI_wI, if_neg (by omega)]; exact u0 _ _ (by omega))))
  refine hAt 12 _ _ _ _ _ _ ?_
  refine s_lastX (hD.1 0 (by omega)) (by omega) ?_
  refine s_readNumber hn hb hR (by omega) (by omega) (fun τ1 u1 e1 r1 v1 => ?_)
  refine s_lastY ((u1 19 1 (by omega)).trans (hD.1 1 (by omega))) (by omega) ?_
  refine Eq.mpr (congrArg (fun xq : Int32 => At 18 [.ref (16), .int (nI (nmX b n s 0 ((kT k 0 : Int) - 1))), junk, junk] [.int xq, .int (nI 0), .ref (16)] τ1 0 0) (show (iZ ((kT k 1 : Int) - 1)) - nI 1 = iZ (((kT k 1 : Int) - 1) - 1) from (sbZ rfl (ntZ rfl)))) ?_
  refine hAt 10 _ _ _ _ _ _ ?_
  refine s_readNumber hn hb r1 (by omega) (by omega) (fun τ2 u2 e2 r2 v2 => ?_)
  refine s_Table_rowAt (a := 26) (na := 27) (mo := 3) (wd := 3) (sz := kT k 4) rfl (by omega) ((u2 26 3 (by omega)).trans ((u1 26 3 (by omega)).trans hD.2.2.2.2.1)) (by omega) ?_
  have key := fsH (σ := τ2) (o := 26) (a := 27) (wd := 3) (t := (kT k 4, kI k)) (hD.2.2.2.2.frame (fun j => by refine (u2 _ _ (by omega)).trans ?_; exact u1 _ _ (by omega)) (fun j => by refine (u2 _ _ (by omega)).trans ?_; exact u1 _ _ (by omega))) (by omega) (show kT k 4 < 2 ^ 31 by omega) hq (show nmX b n s 0 ((kT k 0 : Int) - 1) < 2 ^ 31 by omega) (show nmX b n (nmS b n s 0 ((kT k 0 : Int) - 1)) 0 (((kT k 1 : Int) - 1) - 1) < 2 ^ 31 by omega)
  refine And.intro (fun hq => ?_) (fun hq => ?_)
  · have c35 : fsF (atXY τ2 27 3 (nI (nmX b n s 0 ((kT k 0 : Int) - 1))) (nI (nmX b n (nmS b n s 0 ((kT k 0 : Int) - 1)) 0 (((kT k 1 : Int) - 1) - 1)))) 0 (kT k 4) = -1 := hq
    clear hq
    exact rest τ2 (fun a j q => by refine (u2 _ _ (by omega)).trans ?_; exact u1 _ _ (by omega)) (e2.trans e1) (by
      have g := key.mp c35
      unfold rdI1
      rw [show hasF (kI k) (nmY b n (qlI k) s 0) (nmY b n (qlI k) s 1) (kT k 4) = false from g]
      exact r2)
  · have c35 : ¬ fsF (atXY τ2 27 3 (nI (nmX b n s 0 ((kT k 0 : Int) - 1))) (nI (nmX b n (nmS b n s 0 ((kT k 0 : Int) - 1)) 0 (((kT k 1 : Int) - 1) - 1)))) 0 (kT k 4) = -1 := hq
    clear hq
    refine hAt 5 _ _ _ _ _ _ ?_
    refine s_failS (by decide) r2 (fun q => v2 (nmS_f0 q)) (fun τ3 u3 e3 r3 => ?_)
    exact rest τ3 (fun a j q => by refine (u3 _ _ (by omega)).trans ?_; refine (u2 _ _ (by omega)).trans ?_; exact u1 _ _ (by omega)) (e3.trans (e2.trans e1)) (by
      have g : hasF (kI k) (nmY b n (qlI k) s 0) (nmY b n (qlI k) s 1) (kT k 4) = true := by
        cases e : hasF (kI k) (nmY b n (qlI k) s 0) (nmY b n (qlI k) s 1) (kT k 4) with
        | true => rfl
        | false => exact absurd (key.mpr e) c35
      unfold rdI1
      rw [g]
      exact r3)
theorem s_isTooMany {v : Nat} (hv : v < 11) (hD : skP σ 18 k) (hk : kT k 10 ≤ 9 ∧ kT k 2 ≤ 8 ∧ kT k 3 ≤ 12 ∧ kT k 4 ≤ 3) (hP : P (some (.int (bI (fuA k v)))) σ) : Ret w true (d + 2) 0 0 m_SkyReader_isTooMany [.ref 16, .int (nI v)] σ P X := by
  refine meth_ok k_SkyReader_isTooMany q_SkyReader_isTooMany rfl fun At hAt => ?_
  refine hAt 2 _ _ _ _ _ _ ?_
  refine And.intro (And.intro (fun hq => ?_) (And.intro (fun hq => ?_) (And.intro (fun hq => ?_) (And.intro (fun hq => ?_) (And.intro (fun hq => ?_) (trivial)))))) (fun hq => ?_)
  · have c1 : v = 1 := (eqN rfl rfl (by omega) (by omega)).mp hq
    clear hq
    refine hAt 5 _ _ _ _ _ _ ?_
    refine s_Table_isFull (a := 20) (na := 21) (mo := 9) (wd := 4) rfl hD.2.1.1 (by omega) ?_
    rw [fullE]
    refine And.intro (bI_nar _) ?_
    subst c1
    exact hP
  · have c1 : v = 2 := (eqN rfl rfl (by omega) (by omega)).mp hq
    clear hq
    refine hAt 5 _ _ _ _ _ _ ?_
    refine s_Table_isFull (a := 22) (na := 23) (mo := 8) (wd := 7) rfl hD.2.2.1.1 (by omega) ?_
    rw [fullE]
    refine And.intro (bI_nar _) ?_
    subst c1
    exact hP
  · have c1 : v = 3 := (eqN rfl rfl (by omega) (by omega)).mp hq
    clear hq
    refine hAt 2 _ _ _ _ _ _ ?_
    refine And.intro (rfl) ?_
    subst c1
    exact hP
  · have c1 : v = 4 := (eqN rfl rfl (by omega) (by omega)).mp hq
    clear hq
    refine hAt 5 _ _ _ _ _ _ ?_
    refine s_Table_isFull (a := 24) (na := 25) (mo := 12) (wd := 6) rfl hD.2.2.2.1.1 (by omega) ?_
    rw [fullE]
    refine And.intro (bI_nar _) ?_
    subst c1
    exact hP
  · have c1 : v = 5 := (eqN rfl rfl (by omega) (by omega)).mp hq
    clear hq
    refine hAt 5 _ _ _ _ _ _ ?_
    refine s_Table_isFull (a := 26) (na := 27) (mo := 3) (wd := 3) rfl hD.2.2.2.2.1 (by omega) ?_
    rw [fullE]
    refine And.intro (bI_nar _) ?_
    subst c1
    exact hP
  · have c1 : v < 1 ∨ 6 ≤ v := hq.imp (fun z => (ltN rfl rfl (by omega) (by omega)).mp z) (fun z => (leN rfl rfl (by omega) (by omega)).mp z)
    clear hq
    refine hAt 2 _ _ _ _ _ _ ?_
    refine And.intro (rfl) ?_
    rw [fu_o v c1] at hP
    exact hP
theorem s_readNumbers {v : Nat} (hw : v < 11) (hn : n ≤ 600) (hb : ∀ j, j < n → b j < 256) (hR : rdC b n s σ) (hD : skP σ 18 k) (hv : VS k) (hf : fuA k v = false) (hP : ∀ τ, frD σ τ → rdC b n (rdS b n v s k) τ → ((rdS b n v s k).2.1 = 0 → skP τ 18 (rdK b n v s k)) → P none τ) : Ret w true (d + 5) 0 0 m_SkyReader_readNumbers [.ref 16, .int (nI v)] σ P X := by
  obtain ⟨v1, v2, v3, v4, v5, v6, v7, v8, v9, v10, v11, v12, v13, v14, v15, v16, v17⟩ := hv
  have hW : kT k 0 ≤ 8 ∧ kT k 1 ≤ 8 := ⟨v1.2, v2.2⟩
  refine meth_ok k_SkyReader_readNumbers q_SkyReader_readNumbers rfl fun At hAt => ?_
  refine hAt 2 _ _ _ _ _ _ ?_
  refine And.intro (And.intro (fun hq => ?_) (And.intro (fun hq => ?_) (And.intro (fun hq => ?_) (And.intro (fun hq => ?_) (And.intro (fun hq => ?_) (And.intro (fun hq => ?_) (And.intro (fun hq => ?_) (And.intro (fun hq => ?_) (And.intro (fun hq => ?_) (And.intro (fun hq => ?_) (trivial))))))))))) (fun hq => ?_)
  · have c1 : v = 0 := (eqN rfl rfl (by omega) (by omega)).mp hq
    clear hq
    subst c1
    refine hAt 4 _ _ _ _ _ _ ?_
    refine s_readSize hn hb hR hD hW (fun τ t1 t2 t3 => ?_)
    exact hP τ t1 t2 t3
  · have c1 : v = 1 := (eqN rfl rfl (by omega) (by omega)).mp hq
    clear hq
    subst c1
    refine hAt 4 _ _ _ _ _ _ ?_
    refine s_readWind hn hb hR hD hW (Nat.lt_of_not_le (of_decide_eq_false hf)) (fun τ t1 t2 t3 => ?_)
    exact hP τ t1 t2 t3
  · have c1 : v = 2 := (eqN rfl rfl (by omega) (by omega)).mp hq
    clear hq
    subst c1
    refine hAt 4 _ _ _ _ _ _ ?_
    refine s_readCloud hn hb hR hD hW (Nat.lt_of_not_le (of_decide_eq_false hf)) (fun τ t1 t2 t3 => ?_)
    exact hP τ t1 t2 t3
  · have c1 : v = 3 := (eqN rfl rfl (by omega) (by omega)).mp hq
    clear hq
    subst c1
    refine hAt 4 _ _ _ _ _ _ ?_
    refine s_readSeen hn hb hR hD hW v3 (fun i hi => (v13 i hi).2.2.2.2.2.2) (fun τ t1 t2 t3 => ?_)
    exact hP τ t1 t2 t3
  · have c1 : v = 4 := (eqN rfl rfl (by omega) (by omega)).mp hq
    clear hq
    subst c1
    refine hAt 4 _ _ _ _ _ _ ?_
    refine s_readField hn hb hR hD hW (Nat.lt_of_not_le (of_decide_eq_false hf)) (fun i hi => by have := v14 i hi; omega) (fun τ t1 t2 t3 => ?_)
    exact hP τ t1 t2 t3
  · have c1 : v = 5 := (eqN rfl rfl (by omega) (by omega)).mp hq
    clear hq
    subst c1
    refine hAt 4 _ _ _ _ _ _ ?_
    refine s_readGlacier hn hb hR hD hW (Nat.lt_of_not_le (of_decide_eq_false hf)) (fun i hi => by have := v15 i hi; omega) (fun τ t1 t2 t3 => ?_)
    exact hP τ t1 t2 t3
  · have c1 : v = 6 := (eqN rfl rfl (by omega) (by omega)).mp hq
    clear hq
    subst c1
    refine hAt 7 _ _ _ _ _ _ ?_
    refine Eq.mpr (congrArg (fun xq : Int32 => At 109 [.ref (16), .int (nI 6)] [.int xq, .int (nI 0), .ref (16), .int (nI 5), .ref (18)] σ 0 0) (ntZ rfl)) ?_
    refine hAt 4 _ _ _ _ _ _ ?_
    refine s_readNumber hn hb hR (by omega) (by omega) (fun τ1 u1 e1 r1 v1 => ?_)
    have n1 : nmX b n s 0 2 ≤ 2 := nmX_le (by omega) (by omega)
    refine s_Row_set (a := 18) (na := 19) (n := 10) rfl (show 5 < 10 by omega) ?_
    exact hP _ ⟨fun a j q => by rw [rI_wI, if_neg (by omega)]; exact u1 _ _ (by omega), (e1)⟩ (r1.fr (fun j => by rw [rI_wI, if_neg (by omega)]) (fun j => by rw [rI_wI, if_neg (by omega)])) (fun _ => hD.st (i := 5) (by omega) (fun a j q1 q2 => by rw [rI_wI, if_neg (by omega)]; exact u1 _ _ (by omega)) (by rw [rI_wI, if_pos ⟨rfl, rfl⟩]; rfl))
  · have c1 : v = 7 := (eqN rfl rfl (by omega) (by omega)).mp hq
    clear hq
    subst c1
    refine hAt 7 _ _ _ _ _ _ ?_
    refine Eq.mpr (congrArg (fun xq : Int32 => At 131 [.ref (16), .int (nI 7)] [.int xq, .int (nI 1), .ref (16), .int (nI 6), .ref (18)] σ 0 0) (ntZ rfl)) ?_
    refine hAt 4 _ _ _ _ _ _ ?_
    refine s_readNumber hn hb hR (by omega) (by omega) (fun τ1 u1 e1 r1 v1 => ?_)
    refine s_Row_set (a := 18) (na := 19) (n := 10) rfl (show 6 < 10 by omega) ?_
    exact hP _ ⟨fun a j q => by rw [rI_wI, if_neg (by omega)]; exact u1 _ _ (by omega), (e1)⟩ (r1.fr (fun j => by rw [rI_wI, if_neg (by omega)]) (fun j => by rw [rI_wI, if_neg (by omega)])) (fun _ => hD.st (i := 6) (by omega) (fun a j q1 q2 => by rw [rI_wI, if_neg (by omega)]; exact u1 _ _ (by omega)) (by rw [rI_wI, if_pos ⟨rfl, rfl⟩]; rfl))
  · have c1 : v = 8 := (eqN rfl rfl (by omega) (by omega)).mp hq
    clear hq
    subst c1
    refine hAt 7 _ _ _ _ _ _ ?_
    refine Eq.mpr (congrArg (fun xq : Int32 => At 154 [.ref (16), .int (nI 8)] [.int xq, .int (nI 1), .ref (16), .int (nI 7), .ref (18)] σ 0 0) (ntZ rfl)) ?_
    refine hAt 4 _ _ _ _ _ _ ?_
    refine s_readNumber hn hb hR (by omega) (by omega) (fun τ1 u1 e1 r1 v1 => ?_)
    refine s_Row_set (a := 18) (na := 19) (n := 10) rfl (show 7 < 10 by omega) ?_
    exact hP _ ⟨fun a j q => by rw [rI_wI, if_neg (by omega)]; exact u1 _ _ (by omega), (e1)⟩ (r1.fr (fun j => by rw [rI_wI, if_neg (by omega)]) (fun j => by rw [rI_wI, if_neg (by omega)])) (fun _ => hD.st (i := 7) (by omega) (fun a j q1 q2 => by rw [rI_wI, if_neg (by omega)]; exact u1 _ _ (by omega)) (by rw [rI_wI, if_pos ⟨rfl, rfl⟩]; rfl))
  · have c1 : v = 9 := (eqN rfl rfl (by omega) (by omega)).mp hq
    clear hq
    subst c1
    refine hAt 7 _ _ _ _ _ _ ?_
    refine Eq.mpr (congrArg (fun xq : Int32 => At 176 [.ref (16), .int (nI 9)] [.int xq, .int (nI 1), .ref (16), .int (nI 8), .ref (18)] σ 0 0) (ntZ rfl)) ?_
    refine hAt 4 _ _ _ _ _ _ ?_
    refine s_readNumber hn hb hR (by omega) (by omega) (fun τ1 u1 e1 r1 v1 => ?_)
    refine s_Row_set (a := 18) (na := 19) (n := 10) rfl (show 8 < 10 by omega) ?_
    exact hP _ ⟨fun a j q => by rw [rI_wI, if_neg (by omega)]; exact u1 _ _ (by omega), (e1)⟩ (r1.fr (fun j => by rw [rI_wI, if_neg (by omega)]) (fun j => by rw [rI_wI, if_neg (by omega)])) (fun _ => hD.st (i := 8) (by omega) (fun a j q1 q2 => by rw [rI_wI, if_neg (by omega)]; exact u1 _ _ (by omega)) (by rw [rI_wI, if_pos ⟨rfl, rfl⟩]; rfl))
  · have c1 : v < 0 ∨ 10 ≤ v := hq.imp (fun z => (ltN rfl rfl (by omega) (by omega)).mp z) (fun z => (leN rfl rfl (by omega) (by omega)).mp z)
    clear hq
    have ev : v = 10 := by omega
    subst ev
    refine hAt 7 _ _ _ _ _ _ ?_
    refine Eq.mpr (congrArg (fun xq : Int32 => At 198 [.ref (16), .int (nI 10)] [.int xq, .int (nI 0), .ref (16), .int (nI 9), .ref (18)] σ 0 0) (ntZ rfl)) ?_
    refine hAt 3 _ _ _ _ _ _ ?_
    refine s_readNumber hn hb hR (by omega) (by omega) (fun τ1 u1 e1 r1 v1 => ?_)
    have n1 : nmX b n s 0 9 ≤ 9 := nmX_le (by omega) (by omega)
    refine s_Row_set (a := 18) (na := 19) (n := 10) rfl (show 9 < 10 by omega) ?_
    exact hP _ ⟨fun a j q => by rw [rI_wI, if_neg (by omega)]; exact u1 _ _ (by omega), (e1)⟩ (r1.fr (fun j => by rw [rI_wI, if_neg (by omega)]) (fun j => by rw [rI_wI, if_neg (by omega)])) (fun _ => hD.st (i := 9) (by omega) (fun a j q1 q2 => by rw [rI_wI, if_neg (by omega)]; exact u1 _ _ (by omega)) (by rw [rI_wI, if_pos ⟨rfl, rfl⟩]; rfl))
theorem s_readClause {c : Nat} (hc : c ≤ 60) (hn : n ≤ 600) (hb : ∀ j, j < n → b j < 256) (hR : rdC b n s σ) (h0 : s.2.1 = 0) (hD : skP σ 18 k) (hv : VS k) (hP : ∀ τ, frD σ τ → rdC b n (clS b n c s.1 k) τ → ((clS b n c s.1 k).2.1 = 0 → skP τ 18 (clK b n c s.1 k)) → P none τ) : Ret w true (d + 7) 0 0 m_SkyReader_readClause [.ref 16, .int (nI c)] σ P X := by
  obtain ⟨h3, hi⟩ := hR.at0 h0
  obtain ⟨hB, -, ⟨-, h4⟩, h5⟩ := hR
  have h4 : rI σ 16 4 = nI 0 := h4.trans (congrArg nI h0)
  have h5 : rI σ 16 5 = -1 := h5.trans (if_pos h0)
  have hk : kT k 10 ≤ 9 ∧ kT k 2 ≤ 8 ∧ kT k 3 ≤ 12 ∧ kT k 4 ≤ 3 := ⟨hv.2.2.2.2.2.2.2.2.2.2.1, hv.2.2.1, hv.2.2.2.1, hv.2.2.2.2.1⟩
  obtain ⟨e, ee⟩ : ∃ e, e = wE b n s.1 := ⟨_, rfl⟩
  have hen : e ≤ n := by rw [ee]; exact pE_le isLe b n _ hi
  have hD2 : skP (wI σ 16 3 (nI e)) 18 k := hD.fr (fun a j q => by rw [rI_wI, if_neg (by omega)])
  have bad : ∀ f, f ≠ 0 ∧ f ≤ 4 → clS b n c s.1 k = (0, f, s.1) → P none (wI (wI (wI σ 16 3 (nI e)) 16 4 (nI f)) 16 5 (nI s.1)) := fun f hf he => by
    refine hP _ ⟨fun a j q => by rw [rI_wI, if_neg (by omega), rI_wI, if_neg (by omega), rI_wI, if_neg (by omega)], rfl⟩ ?_ (fun z => ?_)
    · rw [he]; exact ⟨⟨hB.1, hB.2⟩, ⟨e, hen, rfl, fun z => absurd z hf.1⟩, ⟨hf.2, rfl⟩, by rw [plI, if_neg hf.1]; rfl⟩
    · rw [he] at z; exact absurd z hf.1
  refine meth_ok k_SkyReader_readClause q_SkyReader_readClause rfl fun At hAt => ?_
  refine hAt 2 _ _ _ _ _ _ ?_
  refine Eq.mpr (congrArg (fun xq : Int32 => At 4 [.ref (16), .int (nI c), junk, junk] [.int xq] σ 0 0) (show rI σ 16 3 = nI s.1 from h3)) ?_
  refine hAt 7 _ _ _ _ _ _ ?_
  refine s_readWord hn hb hB h3 hi ?_
  rw [← ee]
  cases e12 : woA b n s.1 with
  | none =>
    refine And.intro (fun hq => absurd rfl hq) (fun _ => ?_)
    refine hAt 6 _ _ _ _ _ _ ?_
    refine s_fail0 (by rw [rI_wI, if_neg (by omega)]; exact h4) ?_
    exact bad 1 (by decide) (by
      unfold clS
      rw [e12])
  | some bb12 =>
    have hw11 := (woR_some (Nat.le_refl _) e12).1
    refine And.intro (fun _ => ?_) (fun hq => absurd hq (nI_m1 (by omega)))
    refine hAt 3 _ _ _ _ _ _ ?_
    refine And.intro (fun hq => ?_) (fun hq => ?_)
    · have c27 : 60 ≤ c := (leN (a := 60) (b := c) rfl rfl (by omega) (by omega)).mp hq
      clear hq
      refine hAt 6 _ _ _ _ _ _ ?_
      refine s_fail0 (by rw [rI_wI, if_neg (by omega)]; exact h4) ?_
      exact bad 3 (by decide) (by
        unfold clS
        rw [e12]; exact if_pos (Or.inl c27))
    · have c27 : c < 60 := Nat.lt_of_not_le (fun zq => hq ((leN (a := 60) (b := c) rfl rfl (by omega) (by omega)).mpr zq))
      clear hq
      refine hAt 4 _ _ _ _ _ _ ?_
      refine s_isTooMany hw11 hD2 hk ?_
      refine And.intro (fun hq => ?_) (fun hq => ?_)
      · have c35 : fuA k bb12 = false := bI_eq hq
        clear hq
        refine hAt 2 _ _ _ _ _ _ ?_
        refine And.intro (fun hq => ?_) (fun hq => ?_)
        · have c48 : ¬ bb12 = 0 := fun zq => hq ((eqN (a := bb12) (b := 0) rfl rfl (by omega) (by omega)).mpr zq)
          clear hq
          refine hAt 6 _ _ _ _ _ _ ?_
          refine s_readNumbers (s := (e, 0, 0)) hw11 hn hb ⟨⟨hB.1, hB.2⟩, ⟨e, hen, rfl, fun _ => rfl⟩, ⟨Nat.zero_le _, h4⟩, h5⟩ hD2 hv (by cases g : fuA k bb12 with | false => rfl | true => exact absurd g (by rw [c35]; decide)) (fun τ t1 t2 t3 => ?_)
          refine s_readEnd hn hb t2 (fun τ2 x1 x2 x3 => ?_)
          have g : clS b n c s.1 k = enA b n (rdS b n bb12 (e, 0, 0) k) := by
            unfold clS
            rw [e12, ee]
            show (if 60 ≤ c ∨ fuA k bb12 = true then _ else if bb12 = 0 ∧ 0 < c then _ else _) = _
            rw [if_neg (fun z => z.elim (fun z => by omega) (fun z => by rw [c35] at z; cases z)), if_neg (fun z => by omega)]
          have g2 : clK b n c s.1 k = rdK b n bb12 (e, 0, 0) k := by
            unfold clK
            rw [e12, ee]
            show (if 60 ≤ c ∨ fuA k bb12 = true then _ else if bb12 = 0 ∧ 0 < c then _ else _) = _
            rw [if_neg (fun z => z.elim (fun z => by omega) (fun z => by rw [c35] at z; cases z)), if_neg (fun z => by omega)]
          refine hP τ2 ⟨fun a j q => (x1 a j (by omega)).trans ((t1.1 a j q).trans (by rw [rI_wI, if_neg (by omega)])), x2.trans t1.2⟩ (by rw [g]; exact x3) (fun z => ?_)
          rw [g] at z
          rw [g2]
          exact (t3 (enA_f0 z)).fr (fun a j q => x1 a j (by omega))
        · have c48 : bb12 = 0 := (eqN (a := bb12) (b := 0) rfl rfl (by omega) (by omega)).mp hq
          clear hq
          refine hAt 2 _ _ _ _ _ _ ?_
          refine And.intro (fun hq => ?_) (fun hq => ?_)
          · have c52 : c ≤ 0 := (leN (a := c) (b := 0) rfl rfl (by omega) (by omega)).mp hq
            clear hq
            refine hAt 6 _ _ _ _ _ _ ?_
            refine s_readNumbers (s := (e, 0, 0)) hw11 hn hb ⟨⟨hB.1, hB.2⟩, ⟨e, hen, rfl, fun _ => rfl⟩, ⟨Nat.zero_le _, h4⟩, h5⟩ hD2 hv (by cases g : fuA k bb12 with | false => rfl | true => exact absurd g (by rw [c35]; decide)) (fun τ t1 t2 t3 => ?_)
            refine s_readEnd hn hb t2 (fun τ2 x1 x2 x3 => ?_)
            have g : clS b n c s.1 k = enA b n (rdS b n bb12 (e, 0, 0) k) := by
              unfold clS
              rw [e12, ee]
              show (if 60 ≤ c ∨ fuA k bb12 = true then _ else if bb12 = 0 ∧ 0 < c then _ else _) = _
              rw [if_neg (fun z => z.elim (fun z => by omega) (fun z => by rw [c35] at z; cases z)), if_neg (fun z => by omega)]
            have g2 : clK b n c s.1 k = rdK b n bb12 (e, 0, 0) k := by
              unfold clK
              rw [e12, ee]
              show (if 60 ≤ c ∨ fuA k bb12 = true then _ else if bb12 = 0 ∧ 0 < c then _ else _) = _
              rw [if_neg (fun z => z.elim (fun z => by omega) (fun z => by rw [c35] at z; cases z)), if_neg (fun z => by omega)]
            refine hP τ2 ⟨fun a j q => (x1 a j (by omega)).trans ((t1.1 a j q).trans (by rw [rI_wI, if_neg (by omega)])), x2.trans t1.2⟩ (by rw [g]; exact x3) (fun z => ?_)
            rw [g] at z
            rw [g2]
            exact (t3 (enA_f0 z)).fr (fun a j q => x1 a j (by omega))
          · have c52 : 0 < c := Nat.lt_of_not_le (fun zq => hq ((leN (a := c) (b := 0) rfl rfl (by omega) (by omega)).mpr zq))
            clear hq
            refine hAt 6 _ _ _ _ _ _ ?_
            refine s_fail0 (by rw [rI_wI, if_neg (by omega)]; exact h4) ?_
            exact bad 4 (by decide) (by
              unfold clS
              rw [e12]; exact (if_neg (fun z => z.elim (fun z => by omega) (fun z => by rw [c35] at z; cases z))).trans (if_pos ⟨c48, c52⟩))
      · have c35 : fuA k bb12 = true := bI_ne hq
        clear hq
        refine hAt 6 _ _ _ _ _ _ ?_
        refine s_fail0 (by rw [rI_wI, if_neg (by omega)]; exact h4) ?_
        exact bad 3 (by decide) (by
          unfold clS
          rw [e12]; exact if_pos (Or.inr c35))
end RDF
