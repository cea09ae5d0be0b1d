/-! THE NUMBERS BEHIND A WORD on the component's side -/
theorem all3 {Q : Nat → Prop} (h0 : Q 0) (h1 : Q 1) (h2 : Q 2) : ∀ i, i < 3 → Q i
  | 0, _ => h0
  | 1, _ => h1
  | 2, _ => h2
  | i + 3, h => absurd h (by omega)
theorem all4 {Q : Nat → Prop} (h0 : Q 0) (h1 : Q 1) (h2 : Q 2) (h3 : Q 3) : ∀ i, i < 4 → Q i
  | 0, _ => h0
  | 1, _ => h1
  | 2, _ => h2
  | 3, _ => h3
  | i + 4, h => absurd h (by omega)
theorem all6 {Q : Nat → Prop} (h0 : Q 0) (h1 : Q 1) (h2 : Q 2) (h3 : Q 3) (h4 : Q 4) (h5 : Q 5) : ∀ i, i < 6 → Q i
  | 0, _ => h0
  | 1, _ => h1
  | 2, _ => h2
  | 3, _ => h3
  | 4, _ => h4
  | 5, _ => h5
  | i + 6, h => absurd h (by omega)
theorem all7 {Q : Nat → Prop} (h0 : Q 0) (h1 : Q 1) (h2 : Q 2) (h3 : Q 3) (h4 : Q 4) (h5 : Q 5) (h6 : Q 6) : ∀ i, i < 7 → Q i
  | 0, _ => h0
  | 1, _ => h1
  | 2, _ => h2
  | 3, _ => h3
  | 4, _ => h4
  | 5, _ => h5
  | 6, _ => h6
  | i + 7, h => absurd h (by omega)
/-- the reader and its draft alone change -/
def frD (σ τ : Mem) : Prop := (∀ a j, ¬ (16 ≤ a ∧ a ≤ 29) → rI τ a j = rI σ a j) ∧ τ.2 = σ.2
/-- a row comes onto a table -/
theorem tbR.push2 {σ τ : Mem} {o a wd : Nat} {t t' : Tb} {r : Nat → Nat} (h : tbR σ o a wd t) (h1 : rI τ o 3 = nI (t.1 + 1)) (h2 : ∀ i, i < wd → rI τ a (t.1 * wd + i) = nI (r i))
    (h3 : ∀ j, j < t.1 * wd → rI τ a j = rI σ a j) (e1 : t'.1 = t.1 + 1) (e2 : t'.2 = fun k i => if k = t.1 then r i else t.2 k i) : tbR τ o a wd t' := by
  have := tbR.push h h1 h2 h3
  have e : t' = addR t r := Prod.ext e1 e2
  rw [e]; exact this
section SKD
variable {σ τ : Mem} {k : Sk} {r : Nat → Nat}
theorem skP.pw (h : skP σ 18 k) (u : ∀ a j, 17 ≤ a → ¬ (a = 20 ∨ a = 21) → rI τ a j = rI σ a j) (h1 : rI τ 20 3 = nI (kT k 10 + 1)) (h2 : ∀ i, i < 4 → rI τ 21 (kT k 10 * 4 + i) = nI (r i)) (h3 : ∀ j, j < kT k 10 * 4 → rI τ 21 j = rI σ 21 j) : skP τ 18 (kPw k r) := by
  obtain ⟨k1, k2, k3, k4, k5⟩ := h
  exact ⟨fun i hi => (u _ _ (by omega) (by omega)).trans ((k1 i hi).trans (congrArg nI (show kT k i = if i = 10 then kT k 10 + 1 else kT k i by rw [if_neg (by omega)]))),
    k2.push2 h1 h2 h3 rfl rfl, k3.frame (fun j => u _ _ (by omega) (by omega)) (fun j => u _ _ (by omega) (by omega)), k4.frame (fun j => u _ _ (by omega) (by omega)) (fun j => u _ _ (by omega) (by omega)), k5.frame (fun j => u _ _ (by omega) (by omega)) (fun j => u _ _ (by omega) (by omega))⟩
theorem skP.pc (h : skP σ 18 k) (u : ∀ a j, 17 ≤ a → ¬ (a = 22 ∨ a = 23) → rI τ a j = rI σ a j) (h1 : rI τ 22 3 = nI (kT k 2 + 1)) (h2 : ∀ i, i < 7 → rI τ 23 (kT k 2 * 7 + i) = nI (r i)) (h3 : ∀ j, j < kT k 2 * 7 → rI τ 23 j = rI σ 23 j) : skP τ 18 (kPc k r) := by
  obtain ⟨k1, k2, k3, k4, k5⟩ := h
  exact ⟨fun i hi => (u _ _ (by omega) (by omega)).trans ((k1 i hi).trans (congrArg nI (show kT k i = if i = 2 then kT k 2 + 1 else kT k i by rw [if_neg (by omega)]))),
    k2.frame (fun j => u _ _ (by omega) (by omega)) (fun j => u _ _ (by omega) (by omega)), k3.push2 h1 h2 h3 rfl rfl, k4.frame (fun j => u _ _ (by omega) (by omega)) (fun j => u _ _ (by omega) (by omega)), k5.frame (fun j => u _ _ (by omega) (by omega)) (fun j => u _ _ (by omega) (by omega))⟩
theorem skP.pf (h : skP σ 18 k) (u : ∀ a j, 17 ≤ a → ¬ (a = 24 ∨ a = 25) → rI τ a j = rI σ a j) (h1 : rI τ 24 3 = nI (kT k 3 + 1)) (h2 : ∀ i, i < 6 → rI τ 25 (kT k 3 * 6 + i) = nI (r i)) (h3 : ∀ j, j < kT k 3 * 6 → rI τ 25 j = rI σ 25 j) : skP τ 18 (kPf k r) := by
  obtain ⟨k1, k2, k3, k4, k5⟩ := h
  exact ⟨fun i hi => (u _ _ (by omega) (by omega)).trans ((k1 i hi).trans (congrArg nI (show kT k i = if i = 3 then kT k 3 + 1 else kT k i by rw [if_neg (by omega)]))),
    k2.frame (fun j => u _ _ (by omega) (by omega)) (fun j => u _ _ (by omega) (by omega)), k3.frame (fun j => u _ _ (by omega) (by omega)) (fun j => u _ _ (by omega) (by omega)), k4.push2 h1 h2 h3 rfl rfl, k5.frame (fun j => u _ _ (by omega) (by omega)) (fun j => u _ _ (by omega) (by omega))⟩
theorem skP.pi (h : skP σ 18 k) (u : ∀ a j, 17 ≤ a → ¬ (a = 26 ∨ a = 27) → rI τ a j = rI σ a j) (h1 : rI τ 26 3 = nI (kT k 4 + 1)) (h2 : ∀ i, i < 3 → rI τ 27 (kT k 4 * 3 + i) = nI (r i)) (h3 : ∀ j, j < kT k 4 * 3 → rI τ 27 j = rI σ 27 j) : skP τ 18 (kPi k r) := by
  obtain ⟨k1, k2, k3, k4, k5⟩ := h
  exact ⟨fun i hi => (u _ _ (by omega) (by omega)).trans ((k1 i hi).trans (congrArg nI (show kT k i = if i = 4 then kT k 4 + 1 else kT k i by rw [if_neg (by omega)]))),
    k2.frame (fun j => u _ _ (by omega) (by omega)) (fun j => u _ _ (by omega) (by omega)), k3.frame (fun j => u _ _ (by omega) (by omega)) (fun j => u _ _ (by omega) (by omega)), k4.frame (fun j => u _ _ (by omega) (by omega)) (fun j => u _ _ (by omega) (by omega)), k5.push2 h1 h2 h3 rfl rfl⟩
theorem skP.st {i v : Nat} (h : skP σ 18 k) (hi : i = 0 ∨ i = 1 ∨ (5 ≤ i ∧ i ≤ 9)) (u : ∀ a j, 17 ≤ a → ¬ (a = 19 ∧ j = i) → rI τ a j = rI σ a j) (h1 : rI τ 19 i = nI v) : skP τ 18 (kSet k i v) := by
  obtain ⟨k1, k2, k3, k4, k5⟩ := h
  have e : ∀ j, j ≠ i → kT (kSet k i v) j = kT k j := fun j q => if_neg q
  refine ⟨fun j hj => ?_, ?_, ?_, ?_, ?_⟩
  · by_cases q : j = i
    · subst q; exact h1.trans (congrArg nI (show v = if j = j then v else kT k j by rw [if_pos rfl]))
    · exact (u _ _ (by omega) (by omega)).trans ((k1 j hj).trans (congrArg nI (e j q).symm))
  · rw [e 10 (by omega)]; exact k2.frame (fun j => u _ _ (by omega) (by omega)) (fun j => u _ _ (by omega) (by omega))
  · rw [e 2 (by omega)]; exact k3.frame (fun j => u _ _ (by omega) (by omega)) (fun j => u _ _ (by omega) (by omega))
  · rw [e 3 (by omega)]; exact k4.frame (fun j => u _ _ (by omega) (by omega)) (fun j => u _ _ (by omega) (by omega))
  · rw [e 4 (by omega)]; exact k5.frame (fun j => u _ _ (by omega) (by omega)) (fun j => u _ _ (by omega) (by omega))
theorem skP.fr (h : skP σ 18 k) (u : ∀ a j, 17 ≤ a → rI τ a j = rI σ a j) : skP τ 18 k := by
  obtain ⟨k1, k2, k3, k4, k5⟩ := h
  exact ⟨fun i hi => (u _ _ (by omega)).trans (k1 i hi), k2.frame (fun j => u _ _ (by omega)) (fun j => u _ _ (by omega)), k3.frame (fun j => u _ _ (by omega)) (fun j => u _ _ (by omega)), k4.frame (fun j => u _ _ (by omega)) (fun j => u _ _ (by omega)), k5.frame (fun j => u _ _ (by omega)) (fun j => u _ _ (by omega))⟩
theorem skP.sn {c o m : Nat} (h : skP σ 18 k) (hc : c < kT k 2) (u : ∀ a j, 17 ≤ a → ¬ (a = 23 ∧ (j = c * 7 + 5 ∨ j = c * 7 + 6)) → rI τ a j = rI σ a j) (h5 : rI τ 23 (c * 7 + 5) = nI o) (h6 : rI τ 23 (c * 7 + 6) = nI m) : skP τ 18 (kSn k c o m) := by
  obtain ⟨k1, k2, k3, k4, k5⟩ := h
  refine ⟨fun i hi => (u _ _ (by omega) (by omega)).trans (k1 i hi), k2.frame (fun j => u _ _ (by omega) (by omega)) (fun j => u _ _ (by omega) (by omega)), ⟨(u _ _ (by omega) (by omega)).trans k3.1, fun i hi j hj => ?_⟩, k4.frame (fun j => u _ _ (by omega) (by omega)) (fun j => u _ _ (by omega) (by omega)), k5.frame (fun j => u _ _ (by omega) (by omega)) (fun j => u _ _ (by omega) (by omega))⟩
  show rI τ 23 (i * 7 + j) = nI (if i = c ∧ j = 5 then o else if i = c ∧ j = 6 then m else kC k i j)
  by_cases q5 : i = c ∧ j = 5
  · rw [if_pos q5, q5.1, q5.2]; exact h5
  · rw [if_neg q5]
    by_cases q6 : i = c ∧ j = 6
    · rw [if_pos q6, q6.1, q6.2]; exact h6
    · rw [if_neg q6]; exact (u _ _ (by omega) (by omega)).trans (k3.2 i hi j hj)
end SKD
section RDE
variable {w : Wd} {d : Nat} {σ : Mem} {b : By} {n : Nat} {k : Sk} {s : Ps} {P : Option AV → Mem → Prop} {X : Nat → Mem → Prop}
theorem s_readSize (hn : n ≤ 600) (hb : ∀ j, j < n → b j < 256) (hR : rdC b n s σ) (hD : skP σ 18 k) (hW : kT k 0 ≤ 8 ∧ kT k 1 ≤ 8)  (hP : ∀ τ, frD σ τ → rdC b n (nmT b n [(2, 8), (2, 8)] s) τ → ((nmT b n [(2, 8), (2, 8)] s).2.1 = 0 → skP τ 18 (kSet (kSet k 0 (nmY b n [(2, 8), (2, 8)] s 0)) 1 (nmY b n [(2, 8), (2, 8)] s 1))) → P none τ) : Ret w true (d + 4) 0 0 m_SkyReader_readSize [.ref 16] σ P X := by
  refine meth_ok k_SkyReader_readSize q_SkyReader_readSize rfl fun At hAt => ?_
  refine hAt 7 _ _ _ _ _ _ ?_
  refine Eq.mpr (congrArg (fun xq : Int32 => At 12 [.ref (16)] [.int xq, .int (nI 2), .ref (16), .int (nI 0), .ref (18)] σ 0 0) (ntZ rfl)) ?_
  refine hAt 9 _ _ _ _ _ _ ?_
  refine s_readNumber hn hb hR (by omega) (by omega) (fun τ1 u1 e1 r1 v1 => ?_)
  refine s_Row_set (a := 18) (na := 19) (n := 10) rfl (show 0 < 10 by omega) ?_
  refine Eq.mpr (congrArg (fun xq : Int32 => At 30 [.ref (16)] [.int xq, .int (nI 2), .ref (16), .int (nI 1), .ref (18)] (wI τ1 19 0 (nI (nmX b n s 2 8))) 0 0) (ntZ rfl)) ?_
  refine hAt 3 _ _ _ _ _ _ ?_
  refine s_readNumber hn hb (r1.fr (fun j => by rw [rI_wI, if_neg (by omega)]) (fun j => by rw [rI_wI, if_neg (by omega)])) (by omega) (by omega) (fun τ2 u2 e2 r2 v2 => ?_)
  refine s_Row_set (a := 18) (na := 19) (n := 10) rfl (show 1 < 10 by omega) ?_
  exact hP _ ⟨fun a j q => by rw [rI_wI, if_neg (by omega)]; refine (u2 _ _ (by omega)).trans ?_; rw [rI_wI, if_neg (by omega)]; exact u1 _ _ (by omega), (e2.trans (e1))⟩ (r2.fr (fun j => by rw [rI_wI, if_neg (by omega)]) (fun j => by rw [rI_wI, if_neg (by omega)])) (fun _ => (skP.st (τ := (wI τ2 19 1 (nI (nmX b n (nmS b n s 2 8) 2 8)))) (skP.st (τ := wI τ1 19 0 (nI (nmX b n s 2 8))) hD (by omega) (fun a j q1 q2 => by rw [rI_wI, if_neg (by omega)]; exact u1 _ _ (by omega)) (by rw [rI_wI, if_pos ⟨rfl, rfl⟩]; rfl)) (by omega) (fun a j q1 q2 => by rw [rI_wI, if_neg (by omega)]; exact u2 _ _ (by omega)) (by rw [rI_wI, if_pos ⟨rfl, rfl⟩]; rfl)))
theorem s_readWind (hn : n ≤ 600) (hb : ∀ j, j < n → b j < 256) (hR : rdC b n s σ) (hD : skP σ 18 k) (hW : kT k 0 ≤ 8 ∧ kT k 1 ≤ 8) (hc : kT k 10 < 9) (hP : ∀ τ, frD σ τ → rdC b n (nmT b n qlW s) τ → ((nmT b n qlW s).2.1 = 0 → skP τ 18 (kPw k (nmY b n qlW s))) → P none τ) : Ret w true (d + 4) 0 0 m_SkyReader_readWind [.ref 16] σ P X := by
  refine meth_ok k_SkyReader_readWind q_SkyReader_readWind rfl fun At hAt => ?_
  refine hAt 13 _ _ _ _ _ _ ?_
  refine s_Table_open (a := 20) (na := 21) (mo := 9) (wd := 4) rfl hD.2.1.1 (by omega) ?_
  refine Eq.mpr (congrArg (fun xq : Int32 => At 23 [.ref (16), .int (nI (kT k 10))] [.int xq, .int (nI 0), .ref (16), .int (nI 0), .int (nI (kT k 10)), .ref (20)] (wI σ 20 3 (nI (kT k 10 + 1))) 0 0) (ntZ rfl)) ?_
  refine hAt 10 _ _ _ _ _ _ ?_
  refine s_readNumber hn hb (hR.fr (fun j => by rw [rI_wI, if_neg (by omega)]) (fun j => by rw [rI_wI, if_neg (by omega)])) (by omega) (by omega) (fun τ1 u1 e1 r1 v1 => ?_)
  have n1 : nmX b n s 0 2 ≤ 2 := nmX_le (by omega) (by omega)
  refine s_Table_set (a := 20) (na := 21) (mo := 9) (wd := 4) rfl (show kT k 10 < 9 by omega) (show 0 < 4 by omega) ?_
  refine Eq.mpr (congrArg (fun xq : Int32 => At 42 [.ref (16), .int (nI (kT k 10))] [.int xq, .int (nI 0), .ref (16), .int (nI 1), .int (nI (kT k 10)), .ref (20)] (wI τ1 21 ((kT k 10) * 4 + 0) (nI (nmX b n s 0 2))) 0 0) (ntZ rfl)) ?_
  refine hAt 10 _ _ _ _ _ _ ?_
  refine s_readNumber hn hb (r1.fr (fun j => by rw [rI_wI, if_neg (by omega)]) (fun j => by rw [rI_wI, if_neg (by omega)])) (by omega) (by omega) (fun τ2 u2 e2 r2 v2 => ?_)
  have n2 : nmX b n (nmS b n s 0 2) 0 49 ≤ 49 := nmX_le (by omega) (by omega)
  refine s_Table_set (a := 20) (na := 21) (mo := 9) (wd := 4) rfl (show kT k 10 < 9 by omega) (show 1 < 4 by omega) ?_
  refine Eq.mpr (congrArg (fun xq : Int32 => At 60 [.ref (16), .int (nI (kT k 10))] [.int xq, .int (nI 0), .ref (16), .int (nI 2), .int (nI (kT k 10)), .ref (20)] (wI τ2 21 ((kT k 10) * 4 + 1) (nI (nmX b n (nmS b n s 0 2) 0 49))) 0 0) (ntZ rfl)) ?_
  refine hAt 10 _ _ _ _ _ _ ?_
  refine s_readNumber hn hb (r2.fr (fun j => by rw [rI_wI, if_neg (by omega)]) (fun j => by rw [rI_wI, if_neg (by omega)])) (by omega) (by omega) (fun τ3 u3 e3 r3 v3 => ?_)
  have n3 : nmX b n (nmS b n (nmS b n s 0 2) 0 49) 0 2 ≤ 2 := nmX_le (by omega) (by omega)
  refine s_Table_set (a := 20) (na := 21) (mo := 9) (wd := 4) rfl (show kT k 10 < 9 by omega) (show 2 < 4 by omega) ?_
  refine Eq.mpr (congrArg (fun xq : Int32 => At 78 [.ref (16), .int (nI (kT k 10))] [.int xq, .int (nI 0), .ref (16), .int (nI 3), .int (nI (kT k 10)), .ref (20)] (wI τ3 21 ((kT k 10) * 4 + 2) (nI (nmX b n (nmS b n (nmS b n s 0 2) 0 49) 0 2))) 0 0) (ntZ rfl)) ?_
  refine hAt 3 _ _ _ _ _ _ ?_
  refine s_readNumber hn hb (r3.fr (fun j => by rw [rI_wI, if_neg (by omega)]) (fun j => by rw [rI_wI, if_neg (by omega)])) (by omega) (by omega) (fun τ4 u4 e4 r4 v4 => ?_)
  have n4 : nmX b n (nmS b n (nmS b n (nmS b n s 0 2) 0 49) 0 2) 0 2 ≤ 2 := nmX_le (by omega) (by omega)
  refine s_Table_set (a := 20) (na := 21) (mo := 9) (wd := 4) rfl (show kT k 10 < 9 by omega) (show 3 < 4 by omega) ?_
  exact hP _ ⟨fun a j q => by rw [rI_wI, if_neg (by omega)]; refine (u4 _ _ (by omega)).trans ?_; rw [rI_wI, if_neg (by omega)]; refine (u3 _ _ (by omega)).trans ?_; rw [rI_wI, if_neg (by omega)]; refine (u2 _ _ (by omega)).trans ?_; rw [rI_wI, if_neg (by omega)]; refine (u1 _ _ (by omega)).trans ?_; rw [rI_wI, if_neg (by omega)], (e4.trans (e3.trans (e2.trans (e1))))⟩ (r4.fr (fun j => by rw [rI_wI, if_neg (by omega)]) (fun j => by rw [rI_wI, if_neg (by omega)])) (fun _ => (skP.pw hD (fun a j q1 q2 => by rw [rI_wI, if_neg (by omega)]; refine (u4 _ _ (by omega)).trans ?_; rw [rI_wI, if_neg (by omega)]; refine (u3 _ _ (by omega)).trans ?_; rw [rI_wI, if_neg (by omega)]; refine (u2 _ _ (by omega)).trans ?_; rw [rI_wI, if_neg (by omega)]; refine (u1 _ _ (by omega)).trans ?_; rw [rI_wI, if_neg (by omega)]) (by rw [rI_wI, if_neg (by omega)]; exact ((u4 20 3 (by omega)).trans (by rw [rI_wI, if_neg (by omega)]; exact ((u3 20 3 (by omega)).trans (by rw [rI_wI, if_neg (by omega)]; exact ((u2 20 3 (by omega)).trans (by rw [rI_wI, if_neg (by omega)]; exact ((u1 20 3 (by omega)).trans (by rw [rI_wI, if_pos ⟨rfl, rfl⟩]))))))))) (all4 (show rI (wI τ4 21 ((kT k 10) * 4 + 3) (nI (nmX b n (nmS b n (nmS b n (nmS b n s 0 2) 0 49) 0 2) 0 2))) 21 ((kT k 10) * 4 + 0) = nI (nmX b n s 0 2) from (by rw [rI_wI, if_neg (by omega)]; exact ((u4 21 ((kT k 10) * 4 + 0) (by omega)).trans (by rw [rI_wI, if_neg (by omega)]; exact ((u3 21 ((kT k 10) * 4 + 0) (by omega)).trans (by rw [rI_wI, if_neg (by omega)]; exact ((u2 21 ((kT k 10) * 4 + 0) (by omega)).trans (by rw [rI_wI, if_pos ⟨rfl, rfl⟩])))))))) (show rI (wI τ4 21 ((kT k 10) * 4 + 3) (nI (nmX b n (nmS b n (nmS b n (nmS b n s 0 2) 0 49) 0 2) 0 2))) 21 ((kT k 10) * 4 + 1) = nI (nmX b n (nmS b n s 0 2) 0 49) from (by rw [rI_wI, if_neg (by omega)]; exact ((u4 21 ((kT k 10) * 4 + 1) (by omega)).trans (by rw [rI_wI, if_neg (by omega)]; exact ((u3 21 ((kT k 10) * 4 + 1) (by omega)).trans (by rw [rI_wI, if_pos ⟨rfl, rfl⟩])))))) (show rI (wI τ4 21 ((kT k 10) * 4 + 3) (nI (nmX b n (nmS b n (nmS b n (nmS b n s 0 2) 0 49) 0 2) 0 2))) 21 ((kT k 10) * 4 + 2) = nI (nmX b n (nmS b n (nmS b n s 0 2) 0 49) 0 2) from (by rw [rI_wI, if_neg (by omega)]; exact ((u4 21 ((kT k 10) * 4 + 2) (by omega)).trans (by rw [rI_wI, if_pos ⟨rfl, rfl⟩])))) (show rI (wI τ4 21 ((kT k 10) * 4 + 3) (nI (nmX b n (nmS b n (nmS b n (nmS b n s 0 2) 0 49) 0 2) 0 2))) 21 ((kT k 10) * 4 + 3) = nI (nmX b n (nmS b n (nmS b n (nmS b n s 0 2) 0 49) 0 2) 0 2) from (by rw [rI_wI, if_pos ⟨rfl, rfl⟩]))) (fun j q => by rw [rI_wI, if_neg (by omega)]; refine (u4 _ _ (by omega)).trans ?_; rw [rI_wI, if_neg (by omega)]; refine (u3 _ _ (by omega)).trans ?_; rw [rI_wI, if_neg (by omega)]; refine (u2 _ _ (by omega)).trans ?_; rw [rI_wI, if_neg (by omega)]; refine (u1 _ _ (by omega)).trans ?_; rw [rI_wI, if_neg (by omega)])))
theorem s_readCloud (hn : n ≤ 600) (hb : ∀ j, j < n → b j < 256) (hR : rdC b n s σ) (hD : skP σ 18 k) (hW : kT k 0 ≤ 8 ∧ kT k 1 ≤ 8) (hc : kT k 2 < 8) (hP : ∀ τ, frD σ τ → rdC b n (nmT b n (qlC k) s) τ → ((nmT b n (qlC k) s).2.1 = 0 → skP τ 18 (kPc k (rwC b n s k))) → P none τ) : Ret w true (d + 4) 0 0 m_SkyReader_readCloud [.ref 16] σ P X := by
  refine meth_ok k_SkyReader_readCloud q_SkyReader_readCloud rfl fun At hAt => ?_
  refine hAt 35 _ _ _ _ _ _ ?_
  refine s_Table_open (a := 22) (na := 23) (mo := 8) (wd := 7) rfl hD.2.2.1.1 (by omega) ?_
  refine s_lastX (by rw [rI_wI, if_neg (by omega)]; exact (hD.1 0 (by omega))) (by omega) ?_
  refine s_readNumber hn hb (hR.fr (fun j => by rw [rI_wI, if_neg (by omega)]) (fun j => by rw [rI_wI, if_neg (by omega)])) (by omega) (by omega) (fun τ1 u1 e1 r1 v1 => ?_)
  refine s_Table_set (a := 22) (na := 23) (mo := 8) (wd := 7) rfl (show kT k 2 < 8 by omega) (show 0 < 7 by omega) ?_
  refine s_lastY (by rw [rI_wI, if_neg (by omega)]; exact ((u1 19 1 (by omega)).trans (by rw [rI_wI, if_neg (by omega)]; exact (hD.1 1 (by omega))))) (by omega) ?_
  refine s_readNumber hn hb (r1.fr (fun j => by rw [rI_wI, if_neg (by omega)]) (fun j => by rw [rI_wI, if_neg (by omega)])) (by omega) (by omega) (fun τ2 u2 e2 r2 v2 => ?_)
  refine s_Table_set (a := 22) (na := 23) (mo := 8) (wd := 7) rfl (show kT k 2 < 8 by omega) (show 1 < 7 by omega) ?_
  refine Eq.mpr (congrArg (fun xq : Int32 => At 65 [.ref (16), .int (nI (kT k 2))] [.int xq, .int (nI 0), .ref (16), .int (nI 2), .int (nI (kT k 2)), .ref (22)] (wI τ2 23 ((kT k 2) * 7 + 1) (nI (nmX b n (nmS b n s 0 ((kT k 0 : Int) - 1)) 0 ((kT k 1 : Int) - 1)))) 0 0) (ntZ rfl)) ?_
  refine hAt 10 _ _ _ _ _ _ ?_
  refine s_readNumber hn hb (r2.fr (fun j => by rw [rI_wI, if_neg (by omega)]) (fun j => by rw [rI_wI, if_neg (by omega)])) (by omega) (by omega) (fun τ3 u3 e3 r3 v3 => ?_)
  have n3 : nmX b n (nmS b n (nmS b n s 0 ((kT k 0 : Int) - 1)) 0 ((kT k 1 : Int) - 1)) 0 2 ≤ 2 := nmX_le (by omega) (by omega)
  refine s_Table_set (a := 22) (na := 23) (mo := 8) (wd := 7) rfl (show kT k 2 < 8 by omega) (show 2 < 7 by omega) ?_
  refine Eq.mpr (congrArg (fun xq : Int32 => At 84 [.ref (16), .int (nI (kT k 2))] [.int xq, .int (nI 0), .ref (16), .int (nI 3), .int (nI (kT k 2)), .ref (22)] (wI τ3 23 ((kT k 2) * 7 + 2) (nI (nmX b n (nmS b n (nmS b n s 0 ((kT k 0 : Int) - 1)) 0 ((kT k 1 : Int) - 1)) 0 2))) 0 0) (ntZ rfl)) ?_
  refine hAt 10 _ _ _ _ _ _ ?_
  refine s_readNumber hn hb (r3.fr (fun j => by rw [rI_wI, if_neg (by omega)]) (fun j => by rw [rI_wI, if_neg (by omega)])) (by omega) (by omega) (fun τ4 u4 e4 r4 v4 => ?_)
  have n4 : nmX b n (nmS b n (nmS b n (nmS b n s 0 ((kT k 0 : Int) - 1)) 0 ((kT k 1 : Int) - 1)) 0 2) 0 49 ≤ 49 := nmX_le (by omega) (by omega)
  refine s_Table_set (a := 22) (na := 23) (mo := 8) (wd := 7) rfl (show kT k 2 < 8 by omega) (show 3 < 7 by omega) ?_
  refine Eq.mpr (congrArg (fun xq : Int32 => At 104 [.ref (16), .int (nI (kT k 2))] [.int xq, .int (nI 1), .ref (16), .int (nI 4), .int (nI (kT k 2)), .ref (22)] (wI τ4 23 ((kT k 2) * 7 + 3) (nI (nmX b n (nmS b n (nmS b n (nmS b n s 0 ((kT k 0 : Int) - 1)) 0 ((kT k 1 : Int) - 1)) 0 2) 0 49))) 0 0) (ntZ rfl)) ?_
  refine hAt 17 _ _ _ _ _ _ ?_
  refine s_readNumber hn hb (r4.fr (fun j => by rw [rI_wI, if_neg (by omega)]) (fun j => by rw [rI_wI, if_neg (by omega)])) (by omega) (by omega) (fun τ5 u5 e5 r5 v5 => ?_)
  refine s_Table_set (a := 22) (na := 23) (mo := 8) (wd := 7) rfl (show kT k 2 < 8 by omega) (show 4 < 7 by omega) ?_
  refine s_Table_set (a := 22) (na := 23) (mo := 8) (wd := 7) rfl (show kT k 2 < 8 by omega) (show 5 < 7 by omega) ?_
  refine s_Table_set (a := 22) (na := 23) (mo := 8) (wd := 7) rfl (show kT k 2 < 8 by omega) (show 6 < 7 by omega) ?_
  exact hP _ ⟨fun a j q => by rw [rI_wI, if_neg (by omega)]; rw [rI_wI, if_neg (by omega)]; rw [rI_wI, if_neg (by omega)]; refine (u5 _ _ (by omega)).trans ?_; rw [rI_wI, if_neg (by omega)]; refine (u4 _ _ (by omega)).trans ?_; rw [rI_wI, if_neg (by omega)]; refine (u3 _ _ (by omega)).trans ?_; rw [rI_wI, if_neg (by omega)]; refine (u2 _ _ (by omega)).trans ?_; rw [rI_wI, if_neg (by omega)]; refine (u1 _ _ (by omega)).trans ?_; rw [rI_wI, if_neg (by omega)], (e5.trans (e4.trans (e3.trans (e2.trans (e1)))))⟩ (r5.fr (fun j => by rw [rI_wI, if_neg (by omega)]; rw [rI_wI, if_neg (by omega)]; rw [rI_wI, if_neg (by omega)]) (fun j => by rw [rI_wI, if_neg (by omega)]; rw [rI_wI, if_neg (by omega)]; rw [rI_wI, if_neg (by omega)])) (fun _ => (skP.pc hD (fun a j q1 q2 => by rw [rI_wI, if_neg (by omega)]; rw [rI_wI, if_neg (by omega)]; rw [rI_wI, if_neg (by omega)]; refine (u5 _ _ (by omega)).trans ?_; rw [rI_wI, if_neg (by omega)]; refine (u4 _ _ (by omega)).trans ?_; rw [rI_wI, if_neg (by omega)]; refine (u3 _ _ (by omega)).trans ?_; rw [rI_wI, if_neg (by omega)]; refine (u2 _ _ (by omega)).trans ?_; rw [rI_wI, if_neg (by omega)]; refine (u1 _ _ (by omega)).trans ?_; rw [rI_wI, if_neg (by omega)]) (by rw [rI_wI, if_neg (by omega), rI_wI, if_neg (by omega), rI_wI, if_neg (by omega)]; exact ((u5 22 3 (by omega)).trans (by rw [rI_wI, if_neg (by omega)]; exact ((u4 22 3 (by omega)).trans (by rw [rI_wI, if_neg (by omega)]; exact ((u3 22 3 (by omega)).trans (by rw [rI_wI, if_neg (by omega)]; exact ((u2 22 3 (by omega)).trans (by rw [rI_wI, if_neg (by omega)]; exact ((u1 22 3 (by omega)).trans (by rw [rI_wI, if_pos ⟨rfl, rfl⟩]))))))))))) (all7 (show rI (wI (wI (wI τ5 23 ((kT k 2) * 7 + 4) (nI (nmX b n (nmS b n (nmS b n (nmS b n (nmS b n s 0 ((kT k 0 : Int) - 1)) 0 ((kT k 1 : Int) - 1)) 0 2) 0 49) 1 999))) 23 ((kT k 2) * 7 + 5) (nI 7)) 23 ((kT k 2) * 7 + 6) (nI 1000)) 23 ((kT k 2) * 7 + 0) = nI (nmX b n s 0 ((kT k 0 : Int) - 1)) from (by rw [rI_wI, if_neg (by omega), rI_wI, if_neg (by omega), rI_wI, if_neg (by omega)]; exact ((u5 23 ((kT k 2) * 7 + 0) (by omega)).trans (by rw [rI_wI, if_neg (by omega)]; exact ((u4 23 ((kT k 2) * 7 + 0) (by omega)).trans (by rw [rI_wI, if_neg (by omega)]; exact ((u3 23 ((kT k 2) * 7 + 0) (by omega)).trans (by rw [rI_wI, if_neg (by omega)]; exact ((u2 23 ((kT k 2) * 7 + 0) (by omega)).trans (by rw [rI_wI, if_pos ⟨rfl, rfl⟩])))))))))) (show rI (wI (wI (wI τ5 23 ((kT k 2) * 7 + 4) (nI (nmX b n (nmS b n (nmS b n (nmS b n (nmS b n s 0 ((kT k 0 : Int) - 1)) 0 ((kT k 1 : Int) - 1)) 0 2) 0 49) 1 999))) 23 ((kT k 2) * 7 + 5) (nI 7)) 23 ((kT k 2) * 7 + 6) (nI 1000)) 23 ((kT k 2) * 7 + 1) = nI (nmX b n (nmS b n s 0 ((kT k 0 : Int) - 1)) 0 ((kT k 1 : Int) - 1)) from (by rw [rI_wI, if_neg (by omega), rI_wI, if_neg (by omega), rI_wI, if_neg (by omega)]; exact ((u5 23 ((kT k 2) * 7 + 1) (by omega)).trans (by rw [rI_wI, if_neg (by omega)]; exact ((u4 23 ((kT k 2) * 7 + 1) (by omega)).trans (by rw [rI_wI, if_neg (by omega)]; exact ((u3 23 ((kT k 2) * 7 + 1) (by omega)).trans (by rw [rI_wI, if_pos ⟨rfl, rfl⟩])))))))) (show rI (wI (wI (wI τ5 23 ((kT k 2) * 7 + 4) (nI (nmX b n (nmS b n (nmS b n (nmS b n (nmS b n s 0 ((kT k 0 : Int) - 1)) 0 ((kT k 1 : Int) - 1)) 0 2) 0 49) 1 999))) 23 ((kT k 2) * 7 + 5) (nI 7)) 23 ((kT k 2) * 7 + 6) (nI 1000)) 23 ((kT k 2) * 7 + 2) = nI (nmX b n (nmS b n (nmS b n s 0 ((kT k 0 : Int) - 1)) 0 ((kT k 1 : Int) - 1)) 0 2) from (by rw [rI_wI, if_neg (by omega), rI_wI, if_neg (by omega), rI_wI, if_neg (by omega)]; exact ((u5 23 ((kT k 2) * 7 + 2) (by omega)).trans (by rw [rI_wI, if_neg (by omega)]; exact ((u4 23 ((kT k 2) * 7 + 2) (by omega)).trans (by rw [rI_wI, if_pos ⟨rfl, rfl⟩])))))) (show rI (wI (wI (wI τ5 23 ((kT k 2) * 7 + 4) (nI (nmX b n (nmS b n (nmS b n (nmS b n (nmS b n s 0 ((kT k 0 : Int) - 1)) 0 ((kT k 1 : Int) - 1)) 0 2) 0 49) 1 999))) 23 ((kT k 2) * 7 + 5) (nI 7)) 23 ((kT k 2) * 7 + 6) (nI 1000)) 23 ((kT k 2) * 7 + 3) = nI (nmX b n (nmS b n (nmS b n (nmS b n s 0 ((kT k 0 : Int) - 1)) 0 ((kT k 1 : Int) - 1)) 0 2) 0 49) from (by rw [rI_wI, if_neg (by omega), rI_wI, if_neg (by omega), rI_wI, if_neg (by omega)]; exact ((u5 23 ((kT k 2) * 7 + 3) (by omega)).trans (by rw [rI_wI, if_pos ⟨rfl, rfl⟩])))) (show rI (wI (wI (wI τ5 23 ((kT k 2) * 7 + 4) (nI (nmX b n (nmS b n (nmS b n (nmS b n (nmS b n s 0 ((kT k 0 : Int) - 1)) 0 ((kT k 1 : Int) - 1)) 0 2) 0 49) 1 999))) 23 ((kT k 2) * 7 + 5) (nI 7)) 23 ((kT k 2) * 7 + 6) (nI 1000)) 23 ((kT k 2) * 7 + 4) = nI (nmX b n (nmS b n (nmS b n (nmS b n (nmS b n s 0 ((kT k 0 : Int) - 1)) 0 ((kT k 1 : Int) - 1)) 0 2) 0 49) 1 999) from (by rw [rI_wI, if_neg (by omega), rI_wI, if_neg (by omega), rI_wI, if_pos ⟨rfl, rfl⟩])) (show rI (wI (wI (wI τ5 23 ((kT k 2) * 7 + 4) (nI (nmX b n (nmS b n (nmS b n (nmS b n (nmS b n s 0 ((kT k 0 : Int) - 1)) 0 ((kT k 1 : Int) - 1)) 0 2) 0 49) 1 999))) 23 ((kT k 2) * 7 + 5) (nI 7)) 23 ((kT k 2) * 7 + 6) (nI 1000)) 23 ((kT k 2) * 7 + 5) = nI 7 from (by rw [rI_wI, if_neg (by omega), rI_wI, if_pos ⟨rfl, rfl⟩])) (show rI (wI (wI (wI τ5 23 ((kT k 2) * 7 + 4) (nI (nmX b n (nmS b n (nmS b n (nmS b n (nmS b n s 0 ((kT k 0 : Int) - 1)) 0 ((kT k 1 : Int) - 1)) 0 2) 0 49) 1 999))) 23 ((kT k 2) * 7 + 5) (nI 7)) 23 ((kT k 2) * 7 + 6) (nI 1000)) 23 ((kT k 2) * 7 + 6) = nI 1000 from (by rw [rI_wI, if_pos ⟨rfl, rfl⟩]))) (fun j q => by rw [rI_wI, if_neg (by omega)]; rw [rI_wI, if_neg (by omega)]; rw [rI_wI, if_neg (by omega)]; refine (u5 _ _ (by omega)).trans ?_; rw [rI_wI, if_neg (by omega)]; refine (u4 _ _ (by omega)).trans ?_; rw [rI_wI, if_neg (by omega)]; refine (u3 _ _ (by omega)).trans ?_; rw [rI_wI, if_neg (by omega)]; refine (u2 _ _ (by omega)).trans ?_; rw [rI_wI, if_neg (by omega)]; refine (u1 _ _ (by omega)).trans ?_; rw [rI_wI, if_neg (by omega)])))
end RDE
