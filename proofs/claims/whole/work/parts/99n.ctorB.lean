/-! CONSTRUCTORS (mode false): the component's classes, each at its address -/
def Js (J : Nat → Nat → Int32) (f : Nat) : Nat → Nat → Int32 := Jw (Jw (Jw (Jw (Jw (Jw (Jw J f 0 (nI 6)) f 1 (nI 5)) f 5 (nI 0)) f 6 (nI 20)) f 7 (nI 999)) f 8 (nI 50)) f 9 (nI 1)
theorem Js_o {J : Nat → Nat → Int32} {a : Nat} {b : Nat} (h : b ≠ a) (j : Nat) : Js J a b j = J b j := by
  unfold Js
  rw [Jw_o h, Jw_o h, Jw_o h, Jw_o h, Jw_o h, Jw_o h, Jw_o h]
theorem Js_z {J : Nat → Nat → Int32} {a N : Nat} (h : a < N) (hZ : ∀ b j, N ≤ b → J b j = 0) : ∀ b j, N ≤ b → Js J a b j = 0 := by
  intro b j hb
  rw [Js_o (by omega)]; exact hZ b j hb
theorem nS_zz {σ : Mem} {J : Nat → Nat → Int32} {N n : Nat} {l : List (Nat × Nat)} (h1 : σ.1 = J) (h2 : mN σ = N) (h3 : mA σ = l) (hZ : ∀ b j, N ≤ b → J b j = 0) : nS σ n = (J, (fun b j => if N ≤ b then 0 else σ.2.1 b j), σ.2.2.1, N + n, l) := by
  subst h1; subst h2; subst h3
  exact nS_z hZ
section CTB
variable {w : Wd} {d : Nat} {P : Option AV → Mem → Prop} {X : Nat → Mem → Prop} {J : Nat → Nat → Int32} {g : Nat → Nat → Int64} {D : Nat → Nat} {l : List (Nat × Nat)}
set_option maxRecDepth 8000 in
theorem i_wipe_3 (hZ : ∀ b j, 3 ≤ b → J b j = 0) (hP : P none (Js J 5, g, D, 16, (3, 5) :: (14, 2) :: (14, 1) :: (14, 0) :: (3, 4) :: (12, 2) :: (12, 1) :: (12, 0) :: (3, 3) :: (10, 2) :: (10, 1) :: (10, 0) :: (3, 2) :: (8, 2) :: (8, 1) :: (8, 0) :: (3, 1) :: (6, 2) :: (6, 1) :: (6, 0) :: (3, 0) :: (4, 0) :: l)) : Ret w false (d + 2) 0 0 m_Sky_wipe [.ref 3] (J, g, D, 16, (3, 5) :: (14, 2) :: (14, 1) :: (14, 0) :: (3, 4) :: (12, 2) :: (12, 1) :: (12, 0) :: (3, 3) :: (10, 2) :: (10, 1) :: (10, 0) :: (3, 2) :: (8, 2) :: (8, 1) :: (8, 0) :: (3, 1) :: (6, 2) :: (6, 1) :: (6, 0) :: (3, 0) :: (4, 0) :: l) P X := by
  refine meth_ok k_Sky_wipe q_Sky_wipe rfl fun At hAt => hAt 150 _ _ _ _ _ _ ?_
  refine i_set (a := 4) (na := 5) (n := 10) (j := 0) rfl (by decide) (by decide) rfl (by decide) ?_
  refine i_set (a := 4) (na := 5) (n := 10) (j := 1) rfl (by decide) (by decide) rfl (by decide) ?_
  refine i_set (a := 4) (na := 5) (n := 10) (j := 5) rfl (by decide) (by decide) rfl (by decide) ?_
  refine i_set (a := 4) (na := 5) (n := 10) (j := 6) rfl (by decide) (by decide) rfl (by decide) ?_
  refine i_set (a := 4) (na := 5) (n := 10) (j := 7) rfl (by decide) (by decide) rfl (by decide) ?_
  refine i_set (a := 4) (na := 5) (n := 10) (j := 8) rfl (by decide) (by decide) rfl (by decide) ?_
  refine i_set (a := 4) (na := 5) (n := 10) (j := 9) rfl (by decide) (by decide) rfl (by decide) ?_
  refine i_empty (J := (Js J 5)) (a := 6) (na := 7) (mo := 9) (wd := 4) rfl (by decide) (by decide) rfl (fun j => (Js_o (by decide) j).trans (hZ _ j (by decide))) (fun j => (Js_o (by decide) j).trans (hZ _ j (by decide))) ?_
  refine i_empty (J := (Js J 5)) (a := 8) (na := 9) (mo := 8) (wd := 7) rfl (by decide) (by decide) rfl (fun j => (Js_o (by decide) j).trans (hZ _ j (by decide))) (fun j => (Js_o (by decide) j).trans (hZ _ j (by decide))) ?_
  refine i_empty (J := (Js J 5)) (a := 10) (na := 11) (mo := 12) (wd := 6) rfl (by decide) (by decide) rfl (fun j => (Js_o (by decide) j).trans (hZ _ j (by decide))) (fun j => (Js_o (by decide) j).trans (hZ _ j (by decide))) ?_
  refine i_empty (J := (Js J 5)) (a := 12) (na := 13) (mo := 3) (wd := 3) rfl (by decide) (by decide) rfl (fun j => (Js_o (by decide) j).trans (hZ _ j (by decide))) (fun j => (Js_o (by decide) j).trans (hZ _ j (by decide))) ?_
  refine i_empty (J := (Js J 5)) (a := 14) (na := 15) (mo := 8) (wd := 50) rfl (by decide) (by decide) rfl (fun j => (Js_o (by decide) j).trans (hZ _ j (by decide))) (fun j => (Js_o (by decide) j).trans (hZ _ j (by decide))) ?_
  exact hP

set_option maxRecDepth 8000 in
theorem i_Sky_3 (hZ : ∀ b j, 3 ≤ b → J b j = 0) (hP : ∀ g', P none ((Js J 5), g', D, 16, (3, 5) :: (14, 2) :: (14, 1) :: (14, 0) :: (3, 4) :: (12, 2) :: (12, 1) :: (12, 0) :: (3, 3) :: (10, 2) :: (10, 1) :: (10, 0) :: (3, 2) :: (8, 2) :: (8, 1) :: (8, 0) :: (3, 1) :: (6, 2) :: (6, 1) :: (6, 0) :: (3, 0) :: (4, 0) :: l)) : Ret w false (d + 3) 12 604 m_Sky_init [.ref 3] (nS (J, g, D, 3, l) 1) P X := by
  rw [nS_z hZ]
  refine meth_ok k_Sky_init q_Sky_init rfl fun At hAt => hAt 150 _ _ _ _ _ _ ?_
  refine And.intro (by decide) (And.intro (by decide) ?_)
  refine callG 1 10 (by decide) (by decide) (i_Row (N := 4) (n := 10) (J := J) (l := l) rfl (by decide) (fun b j h => hZ b j (Nat.le_trans (by decide) h)) fun g0 => ?_)
  refine And.intro (by decide) (And.intro (by decide) ?_)
  refine callG 1 36 (by decide) (by decide) (i_Table (N := 6) (mo := 9) (wd := 4) (J := J) (l := (3, 0) :: (4, 0) :: l) rfl (fun b j h => hZ b j (Nat.le_trans (by decide) h)) fun g1 => ?_)
  refine And.intro (by decide) (And.intro (by decide) ?_)
  refine callG 1 56 (by decide) (by decide) (i_Table (N := 8) (mo := 8) (wd := 7) (J := J) (l := (3, 1) :: (6, 2) :: (6, 1) :: (6, 0) :: (3, 0) :: (4, 0) :: l) rfl (fun b j h => hZ b j (Nat.le_trans (by decide) h)) fun g2 => ?_)
  refine And.intro (by decide) (And.intro (by decide) ?_)
  refine callG 1 72 (by decide) (by decide) (i_Table (N := 10) (mo := 12) (wd := 6) (J := J) (l := (3, 2) :: (8, 2) :: (8, 1) :: (8, 0) :: (3, 1) :: (6, 2) :: (6, 1) :: (6, 0) :: (3, 0) :: (4, 0) :: l) rfl (fun b j h => hZ b j (Nat.le_trans (by decide) h)) fun g3 => ?_)
  refine And.intro (by decide) (And.intro (by decide) ?_)
  refine callG 1 9 (by decide) (by decide) (i_Table (N := 12) (mo := 3) (wd := 3) (J := J) (l := (3, 3) :: (10, 2) :: (10, 1) :: (10, 0) :: (3, 2) :: (8, 2) :: (8, 1) :: (8, 0) :: (3, 1) :: (6, 2) :: (6, 1) :: (6, 0) :: (3, 0) :: (4, 0) :: l) rfl (fun b j h => hZ b j (Nat.le_trans (by decide) h)) fun g4 => ?_)
  refine And.intro (by decide) (And.intro (by decide) ?_)
  refine callG 1 400 (by decide) (by decide) (i_Table (N := 14) (mo := 8) (wd := 50) (J := J) (l := (3, 4) :: (12, 2) :: (12, 1) :: (12, 0) :: (3, 3) :: (10, 2) :: (10, 1) :: (10, 0) :: (3, 2) :: (8, 2) :: (8, 1) :: (8, 0) :: (3, 1) :: (6, 2) :: (6, 1) :: (6, 0) :: (3, 0) :: (4, 0) :: l) rfl (fun b j h => hZ b j (Nat.le_trans (by decide) h)) fun g5 => ?_)
  refine i_wipe_3 (J := J) (l := l) (fun b j h => hZ b j (Nat.le_trans (by decide) h)) ?_
  exact hP _

set_option maxRecDepth 8000 in
theorem i_wipe_17 (hZ : ∀ b j, 17 ≤ b → J b j = 0) (hP : P none (Js J 19, g, D, 30, (17, 5) :: (28, 2) :: (28, 1) :: (28, 0) :: (17, 4) :: (26, 2) :: (26, 1) :: (26, 0) :: (17, 3) :: (24, 2) :: (24, 1) :: (24, 0) :: (17, 2) :: (22, 2) :: (22, 1) :: (22, 0) :: (17, 1) :: (20, 2) :: (20, 1) :: (20, 0) :: (17, 0) :: (18, 0) :: l)) : Ret w false (d + 2) 0 0 m_Sky_wipe [.ref 17] (J, g, D, 30, (17, 5) :: (28, 2) :: (28, 1) :: (28, 0) :: (17, 4) :: (26, 2) :: (26, 1) :: (26, 0) :: (17, 3) :: (24, 2) :: (24, 1) :: (24, 0) :: (17, 2) :: (22, 2) :: (22, 1) :: (22, 0) :: (17, 1) :: (20, 2) :: (20, 1) :: (20, 0) :: (17, 0) :: (18, 0) :: l) P X := by
  refine meth_ok k_Sky_wipe q_Sky_wipe rfl fun At hAt => hAt 150 _ _ _ _ _ _ ?_
  refine i_set (a := 18) (na := 19) (n := 10) (j := 0) rfl (by decide) (by decide) rfl (by decide) ?_
  refine i_set (a := 18) (na := 19) (n := 10) (j := 1) rfl (by decide) (by decide) rfl (by decide) ?_
  refine i_set (a := 18) (na := 19) (n := 10) (j := 5) rfl (by decide) (by decide) rfl (by decide) ?_
  refine i_set (a := 18) (na := 19) (n := 10) (j := 6) rfl (by decide) (by decide) rfl (by decide) ?_
  refine i_set (a := 18) (na := 19) (n := 10) (j := 7) rfl (by decide) (by decide) rfl (by decide) ?_
  refine i_set (a := 18) (na := 19) (n := 10) (j := 8) rfl (by decide) (by decide) rfl (by decide) ?_
  refine i_set (a := 18) (na := 19) (n := 10) (j := 9) rfl (by decide) (by decide) rfl (by decide) ?_
  refine i_empty (J := (Js J 19)) (a := 20) (na := 21) (mo := 9) (wd := 4) rfl (by decide) (by decide) rfl (fun j => (Js_o (by decide) j).trans (hZ _ j (by decide))) (fun j => (Js_o (by decide) j).trans (hZ _ j (by decide))) ?_
  refine i_empty (J := (Js J 19)) (a := 22) (na := 23) (mo := 8) (wd := 7) rfl (by decide) (by decide) rfl (fun j => (Js_o (by decide) j).trans (hZ _ j (by decide))) (fun j => (Js_o (by decide) j).trans (hZ _ j (by decide))) ?_
  refine i_empty (J := (Js J 19)) (a := 24) (na := 25) (mo := 12) (wd := 6) rfl (by decide) (by decide) rfl (fun j => (Js_o (by decide) j).trans (hZ _ j (by decide))) (fun j => (Js_o (by decide) j).trans (hZ _ j (by decide))) ?_
  refine i_empty (J := (Js J 19)) (a := 26) (na := 27) (mo := 3) (wd := 3) rfl (by decide) (by decide) rfl (fun j => (Js_o (by decide) j).trans (hZ _ j (by decide))) (fun j => (Js_o (by decide) j).trans (hZ _ j (by decide))) ?_
  refine i_empty (J := (Js J 19)) (a := 28) (na := 29) (mo := 8) (wd := 50) rfl (by decide) (by decide) rfl (fun j => (Js_o (by decide) j).trans (hZ _ j (by decide))) (fun j => (Js_o (by decide) j).trans (hZ _ j (by decide))) ?_
  exact hP

set_option maxRecDepth 8000 in
theorem i_Sky_17 (hZ : ∀ b j, 17 ≤ b → J b j = 0) (hP : ∀ g', P none ((Js J 19), g', D, 30, (17, 5) :: (28, 2) :: (28, 1) :: (28, 0) :: (17, 4) :: (26, 2) :: (26, 1) :: (26, 0) :: (17, 3) :: (24, 2) :: (24, 1) :: (24, 0) :: (17, 2) :: (22, 2) :: (22, 1) :: (22, 0) :: (17, 1) :: (20, 2) :: (20, 1) :: (20, 0) :: (17, 0) :: (18, 0) :: l)) : Ret w false (d + 3) 12 604 m_Sky_init [.ref 17] (nS (J, g, D, 17, l) 1) P X := by
  rw [nS_z hZ]
  refine meth_ok k_Sky_init q_Sky_init rfl fun At hAt => hAt 150 _ _ _ _ _ _ ?_
  refine And.intro (by decide) (And.intro (by decide) ?_)
  refine callG 1 10 (by decide) (by decide) (i_Row (N := 18) (n := 10) (J := J) (l := l) rfl (by decide) (fun b j h => hZ b j (Nat.le_trans (by decide) h)) fun g0 => ?_)
  refine And.intro (by decide) (And.intro (by decide) ?_)
  refine callG 1 36 (by decide) (by decide) (i_Table (N := 20) (mo := 9) (wd := 4) (J := J) (l := (17, 0) :: (18, 0) :: l) rfl (fun b j h => hZ b j (Nat.le_trans (by decide) h)) fun g1 => ?_)
  refine And.intro (by decide) (And.intro (by decide) ?_)
  refine callG 1 56 (by decide) (by decide) (i_Table (N := 22) (mo := 8) (wd := 7) (J := J) (l := (17, 1) :: (20, 2) :: (20, 1) :: (20, 0) :: (17, 0) :: (18, 0) :: l) rfl (fun b j h => hZ b j (Nat.le_trans (by decide) h)) fun g2 => ?_)
  refine And.intro (by decide) (And.intro (by decide) ?_)
  refine callG 1 72 (by decide) (by decide) (i_Table (N := 24) (mo := 12) (wd := 6) (J := J) (l := (17, 2) :: (22, 2) :: (22, 1) :: (22, 0) :: (17, 1) :: (20, 2) :: (20, 1) :: (20, 0) :: (17, 0) :: (18, 0) :: l) rfl (fun b j h => hZ b j (Nat.le_trans (by decide) h)) fun g3 => ?_)
  refine And.intro (by decide) (And.intro (by decide) ?_)
  refine callG 1 9 (by decide) (by decide) (i_Table (N := 26) (mo := 3) (wd := 3) (J := J) (l := (17, 3) :: (24, 2) :: (24, 1) :: (24, 0) :: (17, 2) :: (22, 2) :: (22, 1) :: (22, 0) :: (17, 1) :: (20, 2) :: (20, 1) :: (20, 0) :: (17, 0) :: (18, 0) :: l) rfl (fun b j h => hZ b j (Nat.le_trans (by decide) h)) fun g4 => ?_)
  refine And.intro (by decide) (And.intro (by decide) ?_)
  refine callG 1 400 (by decide) (by decide) (i_Table (N := 28) (mo := 8) (wd := 50) (J := J) (l := (17, 4) :: (26, 2) :: (26, 1) :: (26, 0) :: (17, 3) :: (24, 2) :: (24, 1) :: (24, 0) :: (17, 2) :: (22, 2) :: (22, 1) :: (22, 0) :: (17, 1) :: (20, 2) :: (20, 1) :: (20, 0) :: (17, 0) :: (18, 0) :: l) rfl (fun b j h => hZ b j (Nat.le_trans (by decide) h)) fun g5 => ?_)
  refine i_wipe_17 (J := J) (l := l) (fun b j h => hZ b j (Nat.le_trans (by decide) h)) ?_
  exact hP _

set_option maxRecDepth 8000 in
theorem i_SkyReader_16 (hZ : ∀ b j, 16 ≤ b → J b j = 0) (hP : ∀ g', P none ((Jw (Js J 19) 16 5 (-1)), g', D, 30, (16, 1) :: (17, 5) :: (28, 2) :: (28, 1) :: (28, 0) :: (17, 4) :: (26, 2) :: (26, 1) :: (26, 0) :: (17, 3) :: (24, 2) :: (24, 1) :: (24, 0) :: (17, 2) :: (22, 2) :: (22, 1) :: (22, 0) :: (17, 1) :: (20, 2) :: (20, 1) :: (20, 0) :: (17, 0) :: (18, 0) :: (16, 0) :: l)) : Ret w false (d + 4) 13 610 m_SkyReader_init [.ref 16, .ref 1] (nS (J, g, D, 16, l) 1) P X := by
  rw [nS_z hZ]
  refine meth_ok k_SkyReader_init q_SkyReader_init rfl fun At hAt => hAt 150 _ _ _ _ _ _ ?_
  refine And.intro (by decide) (And.intro (by decide) ?_)
  refine callG 12 604 (by decide) (by decide) (i_Sky_17 (J := J) (l := (16, 0) :: l) (fun b j h => hZ b j (Nat.le_trans (by decide) h)) fun g0 => ?_)
  exact hP _

set_option maxRecDepth 8000 in
theorem i_Book_30 (hZ : ∀ b j, 30 ≤ b → J b j = 0) (hP : ∀ g', P none (J, g', D, 37, (30, 2) :: (35, 2) :: (35, 1) :: (35, 0) :: (30, 1) :: (33, 2) :: (33, 1) :: (33, 0) :: (30, 0) :: (31, 2) :: (31, 1) :: (31, 0) :: l)) : Ret w false (d + 2) 6 183 m_Book_init [.ref 30] (nS (J, g, D, 30, l) 1) P X := by
  rw [nS_z hZ]
  refine meth_ok k_Book_init q_Book_init rfl fun At hAt => hAt 150 _ _ _ _ _ _ ?_
  refine And.intro (by decide) (And.intro (by decide) ?_)
  refine callG 1 120 (by decide) (by decide) (i_Table (N := 31) (mo := 30) (wd := 4) (J := J) (l := l) rfl (fun b j h => hZ b j (Nat.le_trans (by decide) h)) fun g0 => ?_)
  refine And.intro (by decide) (And.intro (by decide) ?_)
  refine callG 1 24 (by decide) (by decide) (i_Table (N := 33) (mo := 8) (wd := 3) (J := J) (l := (30, 0) :: (31, 2) :: (31, 1) :: (31, 0) :: l) rfl (fun b j h => hZ b j (Nat.le_trans (by decide) h)) fun g1 => ?_)
  refine And.intro (by decide) (And.intro (by decide) ?_)
  refine callG 1 27 (by decide) (by decide) (i_Table (N := 35) (mo := 9) (wd := 3) (J := J) (l := (30, 1) :: (33, 2) :: (33, 1) :: (33, 0) :: (30, 0) :: (31, 2) :: (31, 1) :: (31, 0) :: l) rfl (fun b j h => hZ b j (Nat.le_trans (by decide) h)) fun g2 => ?_)
  exact hP _

set_option maxRecDepth 8000 in
theorem i_Book_38 (hZ : ∀ b j, 38 ≤ b → J b j = 0) (hP : ∀ g', P none (J, g', D, 45, (38, 2) :: (43, 2) :: (43, 1) :: (43, 0) :: (38, 1) :: (41, 2) :: (41, 1) :: (41, 0) :: (38, 0) :: (39, 2) :: (39, 1) :: (39, 0) :: l)) : Ret w false (d + 2) 6 183 m_Book_init [.ref 38] (nS (J, g, D, 38, l) 1) P X := by
  rw [nS_z hZ]
  refine meth_ok k_Book_init q_Book_init rfl fun At hAt => hAt 150 _ _ _ _ _ _ ?_
  refine And.intro (by decide) (And.intro (by decide) ?_)
  refine callG 1 120 (by decide) (by decide) (i_Table (N := 39) (mo := 30) (wd := 4) (J := J) (l := l) rfl (fun b j h => hZ b j (Nat.le_trans (by decide) h)) fun g0 => ?_)
  refine And.intro (by decide) (And.intro (by decide) ?_)
  refine callG 1 24 (by decide) (by decide) (i_Table (N := 41) (mo := 8) (wd := 3) (J := J) (l := (38, 0) :: (39, 2) :: (39, 1) :: (39, 0) :: l) rfl (fun b j h => hZ b j (Nat.le_trans (by decide) h)) fun g1 => ?_)
  refine And.intro (by decide) (And.intro (by decide) ?_)
  refine callG 1 27 (by decide) (by decide) (i_Table (N := 43) (mo := 9) (wd := 3) (J := J) (l := (38, 1) :: (41, 2) :: (41, 1) :: (41, 0) :: (38, 0) :: (39, 2) :: (39, 1) :: (39, 0) :: l) rfl (fun b j h => hZ b j (Nat.le_trans (by decide) h)) fun g2 => ?_)
  exact hP _

set_option maxRecDepth 8000 in
theorem i_Book_45 (hZ : ∀ b j, 45 ≤ b → J b j = 0) (hP : ∀ g', P none (J, g', D, 52, (45, 2) :: (50, 2) :: (50, 1) :: (50, 0) :: (45, 1) :: (48, 2) :: (48, 1) :: (48, 0) :: (45, 0) :: (46, 2) :: (46, 1) :: (46, 0) :: l)) : Ret w false (d + 2) 6 183 m_Book_init [.ref 45] (nS (J, g, D, 45, l) 1) P X := by
  rw [nS_z hZ]
  refine meth_ok k_Book_init q_Book_init rfl fun At hAt => hAt 150 _ _ _ _ _ _ ?_
  refine And.intro (by decide) (And.intro (by decide) ?_)
  refine callG 1 120 (by decide) (by decide) (i_Table (N := 46) (mo := 30) (wd := 4) (J := J) (l := l) rfl (fun b j h => hZ b j (Nat.le_trans (by decide) h)) fun g0 => ?_)
  refine And.intro (by decide) (And.intro (by decide) ?_)
  refine callG 1 24 (by decide) (by decide) (i_Table (N := 48) (mo := 8) (wd := 3) (J := J) (l := (45, 0) :: (46, 2) :: (46, 1) :: (46, 0) :: l) rfl (fun b j h => hZ b j (Nat.le_trans (by decide) h)) fun g1 => ?_)
  refine And.intro (by decide) (And.intro (by decide) ?_)
  refine callG 1 27 (by decide) (by decide) (i_Table (N := 50) (mo := 9) (wd := 3) (J := J) (l := (45, 1) :: (48, 2) :: (48, 1) :: (48, 0) :: (45, 0) :: (46, 2) :: (46, 1) :: (46, 0) :: l) rfl (fun b j h => hZ b j (Nat.le_trans (by decide) h)) fun g2 => ?_)
  exact hP _

set_option maxRecDepth 8000 in
theorem i_Book_52 (hZ : ∀ b j, 52 ≤ b → J b j = 0) (hP : ∀ g', P none (J, g', D, 59, (52, 2) :: (57, 2) :: (57, 1) :: (57, 0) :: (52, 1) :: (55, 2) :: (55, 1) :: (55, 0) :: (52, 0) :: (53, 2) :: (53, 1) :: (53, 0) :: l)) : Ret w false (d + 2) 6 183 m_Book_init [.ref 52] (nS (J, g, D, 52, l) 1) P X := by
  rw [nS_z hZ]
  refine meth_ok k_Book_init q_Book_init rfl fun At hAt => hAt 150 _ _ _ _ _ _ ?_
  refine And.intro (by decide) (And.intro (by decide) ?_)
  refine callG 1 120 (by decide) (by decide) (i_Table (N := 53) (mo := 30) (wd := 4) (J := J) (l := l) rfl (fun b j h => hZ b j (Nat.le_trans (by decide) h)) fun g0 => ?_)
  refine And.intro (by decide) (And.intro (by decide) ?_)
  refine callG 1 24 (by decide) (by decide) (i_Table (N := 55) (mo := 8) (wd := 3) (J := J) (l := (52, 0) :: (53, 2) :: (53, 1) :: (53, 0) :: l) rfl (fun b j h => hZ b j (Nat.le_trans (by decide) h)) fun g1 => ?_)
  refine And.intro (by decide) (And.intro (by decide) ?_)
  refine callG 1 27 (by decide) (by decide) (i_Table (N := 57) (mo := 9) (wd := 3) (J := J) (l := (52, 1) :: (55, 2) :: (55, 1) :: (55, 0) :: (52, 0) :: (53, 2) :: (53, 1) :: (53, 0) :: l) rfl (fun b j h => hZ b j (Nat.le_trans (by decide) h)) fun g2 => ?_)
  exact hP _

set_option maxRecDepth 8000 in
theorem i_Ground_60 (hZ : ∀ b j, 60 ≤ b → J b j = 0) (hP : ∀ g', P none (J, g', D, 71, (60, 5) :: (69, 2) :: (69, 1) :: (69, 0) :: (60, 4) :: (67, 2) :: (67, 1) :: (67, 0) :: (60, 3) :: (65, 2) :: (65, 1) :: (65, 0) :: (60, 2) :: (63, 2) :: (63, 1) :: (63, 0) :: (60, 1) :: (61, 2) :: (61, 1) :: (61, 0) :: (60, 0) :: l)) : Ret w false (d + 2) 10 630 m_Ground_init [.ref 60, .ref 3] (nS (J, g, D, 60, l) 1) P X := by
  rw [nS_z hZ]
  refine meth_ok k_Ground_init q_Ground_init rfl fun At hAt => hAt 150 _ _ _ _ _ _ ?_
  refine And.intro (by decide) (And.intro (by decide) ?_)
  refine callG 1 512 (by decide) (by decide) (i_Table (N := 61) (mo := 64) (wd := 8) (J := J) (l := (60, 0) :: l) rfl (fun b j h => hZ b j (Nat.le_trans (by decide) h)) fun g0 => ?_)
  refine And.intro (by decide) (And.intro (by decide) ?_)
  refine callG 1 24 (by decide) (by decide) (i_Table (N := 63) (mo := 3) (wd := 8) (J := J) (l := (60, 1) :: (61, 2) :: (61, 1) :: (61, 0) :: (60, 0) :: l) rfl (fun b j h => hZ b j (Nat.le_trans (by decide) h)) fun g1 => ?_)
  refine And.intro (by decide) (And.intro (by decide) ?_)
  refine callG 1 24 (by decide) (by decide) (i_Table (N := 65) (mo := 8) (wd := 3) (J := J) (l := (60, 2) :: (63, 2) :: (63, 1) :: (63, 0) :: (60, 1) :: (61, 2) :: (61, 1) :: (61, 0) :: (60, 0) :: l) rfl (fun b j h => hZ b j (Nat.le_trans (by decide) h)) fun g2 => ?_)
  refine And.intro (by decide) (And.intro (by decide) ?_)
  refine callG 1 14 (by decide) (by decide) (i_Table (N := 67) (mo := 7) (wd := 2) (J := J) (l := (60, 3) :: (65, 2) :: (65, 1) :: (65, 0) :: (60, 2) :: (63, 2) :: (63, 1) :: (63, 0) :: (60, 1) :: (61, 2) :: (61, 1) :: (61, 0) :: (60, 0) :: l) rfl (fun b j h => hZ b j (Nat.le_trans (by decide) h)) fun g3 => ?_)
  refine And.intro (by decide) (And.intro (by decide) ?_)
  refine callG 1 36 (by decide) (by decide) (i_Table (N := 69) (mo := 12) (wd := 3) (J := J) (l := (60, 4) :: (67, 2) :: (67, 1) :: (67, 0) :: (60, 3) :: (65, 2) :: (65, 1) :: (65, 0) :: (60, 2) :: (63, 2) :: (63, 1) :: (63, 0) :: (60, 1) :: (61, 2) :: (61, 1) :: (61, 0) :: (60, 0) :: l) rfl (fun b j h => hZ b j (Nat.le_trans (by decide) h)) fun g4 => ?_)
  exact hP _

set_option maxRecDepth 8000 in
theorem i_Day_59 (hZ : ∀ b j, 59 ≤ b → J b j = 0) (hP : ∀ g', P none (J, g', D, 81, (59, 7) :: (79, 0) :: (59, 6) :: (77, 0) :: (59, 5) :: (75, 0) :: (59, 4) :: (73, 2) :: (73, 1) :: (73, 0) :: (59, 3) :: (71, 0) :: (59, 2) :: (60, 5) :: (69, 2) :: (69, 1) :: (69, 0) :: (60, 4) :: (67, 2) :: (67, 1) :: (67, 0) :: (60, 3) :: (65, 2) :: (65, 1) :: (65, 0) :: (60, 2) :: (63, 2) :: (63, 1) :: (63, 0) :: (60, 1) :: (61, 2) :: (61, 1) :: (61, 0) :: (60, 0) :: (59, 1) :: (59, 0) :: l)) : Ret w false (d + 3) 21 744 m_Day_init [.ref 59, .ref 3, .ref 30] (nS (J, g, D, 59, l) 1) P X := by
  rw [nS_z hZ]
  refine meth_ok k_Day_init q_Day_init rfl fun At hAt => hAt 150 _ _ _ _ _ _ ?_
  refine And.intro (by decide) (And.intro (by decide) ?_)
  refine callG 10 630 (by decide) (by decide) (i_Ground_60 (J := J) (l := (59, 1) :: (59, 0) :: l) (fun b j h => hZ b j (Nat.le_trans (by decide) h)) fun g0 => ?_)
  refine And.intro (by decide) (And.intro (by decide) ?_)
  refine callG 1 8 (by decide) (by decide) (i_Row (N := 71) (n := 8) (J := J) (l := (59, 2) :: (60, 5) :: (69, 2) :: (69, 1) :: (69, 0) :: (60, 4) :: (67, 2) :: (67, 1) :: (67, 0) :: (60, 3) :: (65, 2) :: (65, 1) :: (65, 0) :: (60, 2) :: (63, 2) :: (63, 1) :: (63, 0) :: (60, 1) :: (61, 2) :: (61, 1) :: (61, 0) :: (60, 0) :: (59, 1) :: (59, 0) :: l) rfl (by decide) (fun b j h => hZ b j (Nat.le_trans (by decide) h)) fun g1 => ?_)
  refine And.intro (by decide) (And.intro (by decide) ?_)
  refine callG 1 64 (by decide) (by decide) (i_Table (N := 73) (mo := 8) (wd := 8) (J := J) (l := (59, 3) :: (71, 0) :: (59, 2) :: (60, 5) :: (69, 2) :: (69, 1) :: (69, 0) :: (60, 4) :: (67, 2) :: (67, 1) :: (67, 0) :: (60, 3) :: (65, 2) :: (65, 1) :: (65, 0) :: (60, 2) :: (63, 2) :: (63, 1) :: (63, 0) :: (60, 1) :: (61, 2) :: (61, 1) :: (61, 0) :: (60, 0) :: (59, 1) :: (59, 0) :: l) rfl (fun b j h => hZ b j (Nat.le_trans (by decide) h)) fun g2 => ?_)
  refine And.intro (by decide) (And.intro (by decide) ?_)
  refine callG 1 8 (by decide) (by decide) (i_Row (N := 75) (n := 8) (J := J) (l := (59, 4) :: (73, 2) :: (73, 1) :: (73, 0) :: (59, 3) :: (71, 0) :: (59, 2) :: (60, 5) :: (69, 2) :: (69, 1) :: (69, 0) :: (60, 4) :: (67, 2) :: (67, 1) :: (67, 0) :: (60, 3) :: (65, 2) :: (65, 1) :: (65, 0) :: (60, 2) :: (63, 2) :: (63, 1) :: (63, 0) :: (60, 1) :: (61, 2) :: (61, 1) :: (61, 0) :: (60, 0) :: (59, 1) :: (59, 0) :: l) rfl (by decide) (fun b j h => hZ b j (Nat.le_trans (by decide) h)) fun g3 => ?_)
  refine And.intro (by decide) (And.intro (by decide) ?_)
  refine callG 1 8 (by decide) (by decide) (i_Row (N := 77) (n := 8) (J := J) (l := (59, 5) :: (75, 0) :: (59, 4) :: (73, 2) :: (73, 1) :: (73, 0) :: (59, 3) :: (71, 0) :: (59, 2) :: (60, 5) :: (69, 2) :: (69, 1) :: (69, 0) :: (60, 4) :: (67, 2) :: (67, 1) :: (67, 0) :: (60, 3) :: (65, 2) :: (65, 1) :: (65, 0) :: (60, 2) :: (63, 2) :: (63, 1) :: (63, 0) :: (60, 1) :: (61, 2) :: (61, 1) :: (61, 0) :: (60, 0) :: (59, 1) :: (59, 0) :: l) rfl (by decide) (fun b j h => hZ b j (Nat.le_trans (by decide) h)) fun g4 => ?_)
  refine And.intro (by decide) (And.intro (by decide) ?_)
  refine callG 1 8 (by decide) (by decide) (i_Row (N := 79) (n := 8) (J := J) (l := (59, 6) :: (77, 0) :: (59, 5) :: (75, 0) :: (59, 4) :: (73, 2) :: (73, 1) :: (73, 0) :: (59, 3) :: (71, 0) :: (59, 2) :: (60, 5) :: (69, 2) :: (69, 1) :: (69, 0) :: (60, 4) :: (67, 2) :: (67, 1) :: (67, 0) :: (60, 3) :: (65, 2) :: (65, 1) :: (65, 0) :: (60, 2) :: (63, 2) :: (63, 1) :: (63, 0) :: (60, 1) :: (61, 2) :: (61, 1) :: (61, 0) :: (60, 0) :: (59, 1) :: (59, 0) :: l) rfl (by decide) (fun b j h => hZ b j (Nat.le_trans (by decide) h)) fun g5 => ?_)
  exact hP _

set_option maxRecDepth 8000 in
theorem i_Worth_81 (hZ : ∀ b j, 81 ≤ b → J b j = 0) (hP : ∀ g', P none (J, g', D, 98, (81, 8) :: (96, 0) :: (81, 7) :: (94, 0) :: (81, 6) :: (92, 0) :: (81, 5) :: (90, 0) :: (81, 4) :: (88, 0) :: (81, 3) :: (86, 0) :: (81, 2) :: (84, 2) :: (84, 1) :: (84, 0) :: (81, 1) :: (82, 2) :: (82, 1) :: (82, 0) :: (81, 0) :: l)) : Ret w false (d + 2) 16 322 m_Worth_init [.ref 81, .ref 3] (nS (J, g, D, 81, l) 1) P X := by
  rw [nS_z hZ]
  refine meth_ok k_Worth_init q_Worth_init rfl fun At hAt => hAt 150 _ _ _ _ _ _ ?_
  refine And.intro (by decide) (And.intro (by decide) ?_)
  refine callG 1 96 (by decide) (by decide) (i_Table (N := 82) (mo := 8) (wd := 12) (J := J) (l := (81, 0) :: l) rfl (fun b j h => hZ b j (Nat.le_trans (by decide) h)) fun g0 => ?_)
  refine And.intro (by decide) (And.intro (by decide) ?_)
  refine callG 1 96 (by decide) (by decide) (i_Table (N := 84) (mo := 8) (wd := 12) (J := J) (l := (81, 1) :: (82, 2) :: (82, 1) :: (82, 0) :: (81, 0) :: l) rfl (fun b j h => hZ b j (Nat.le_trans (by decide) h)) fun g1 => ?_)
  refine And.intro (by decide) (And.intro (by decide) ?_)
  refine callG 1 8 (by decide) (by decide) (i_Row (N := 86) (n := 8) (J := J) (l := (81, 2) :: (84, 2) :: (84, 1) :: (84, 0) :: (81, 1) :: (82, 2) :: (82, 1) :: (82, 0) :: (81, 0) :: l) rfl (by decide) (fun b j h => hZ b j (Nat.le_trans (by decide) h)) fun g2 => ?_)
  refine And.intro (by decide) (And.intro (by decide) ?_)
  refine callG 1 12 (by decide) (by decide) (i_Row (N := 88) (n := 12) (J := J) (l := (81, 3) :: (86, 0) :: (81, 2) :: (84, 2) :: (84, 1) :: (84, 0) :: (81, 1) :: (82, 2) :: (82, 1) :: (82, 0) :: (81, 0) :: l) rfl (by decide) (fun b j h => hZ b j (Nat.le_trans (by decide) h)) fun g3 => ?_)
  refine And.intro (by decide) (And.intro (by decide) ?_)
  refine callG 1 8 (by decide) (by decide) (i_Row (N := 90) (n := 8) (J := J) (l := (81, 4) :: (88, 0) :: (81, 3) :: (86, 0) :: (81, 2) :: (84, 2) :: (84, 1) :: (84, 0) :: (81, 1) :: (82, 2) :: (82, 1) :: (82, 0) :: (81, 0) :: l) rfl (by decide) (fun b j h => hZ b j (Nat.le_trans (by decide) h)) fun g4 => ?_)
  refine And.intro (by decide) (And.intro (by decide) ?_)
  refine callG 1 12 (by decide) (by decide) (i_Row (N := 92) (n := 12) (J := J) (l := (81, 5) :: (90, 0) :: (81, 4) :: (88, 0) :: (81, 3) :: (86, 0) :: (81, 2) :: (84, 2) :: (84, 1) :: (84, 0) :: (81, 1) :: (82, 2) :: (82, 1) :: (82, 0) :: (81, 0) :: l) rfl (by decide) (fun b j h => hZ b j (Nat.le_trans (by decide) h)) fun g5 => ?_)
  refine And.intro (by decide) (And.intro (by decide) ?_)
  refine callG 1 12 (by decide) (by decide) (i_Row (N := 94) (n := 12) (J := J) (l := (81, 6) :: (92, 0) :: (81, 5) :: (90, 0) :: (81, 4) :: (88, 0) :: (81, 3) :: (86, 0) :: (81, 2) :: (84, 2) :: (84, 1) :: (84, 0) :: (81, 1) :: (82, 2) :: (82, 1) :: (82, 0) :: (81, 0) :: l) rfl (by decide) (fun b j h => hZ b j (Nat.le_trans (by decide) h)) fun g6 => ?_)
  refine And.intro (by decide) (And.intro (by decide) ?_)
  refine callG 1 64 (by decide) (by decide) (i_Row (N := 96) (n := 64) (J := J) (l := (81, 7) :: (94, 0) :: (81, 6) :: (92, 0) :: (81, 5) :: (90, 0) :: (81, 4) :: (88, 0) :: (81, 3) :: (86, 0) :: (81, 2) :: (84, 2) :: (84, 1) :: (84, 0) :: (81, 1) :: (82, 2) :: (82, 1) :: (82, 0) :: (81, 0) :: l) rfl (by decide) (fun b j h => hZ b j (Nat.le_trans (by decide) h)) fun g7 => ?_)
  exact hP _

set_option maxRecDepth 8000 in
theorem i_Market_98 (hZ : ∀ b j, 98 ≤ b → J b j = 0) (hP : ∀ g', P none (J, g', D, 105, (98, 4) :: (103, 0) :: (98, 3) :: (101, 0) :: (98, 2) :: (99, 0) :: (98, 1) :: (98, 0) :: l)) : Ret w false (d + 2) 6 31 m_Market_init [.ref 98, .ref 3, .ref 30] (nS (J, g, D, 98, l) 1) P X := by
  rw [nS_z hZ]
  refine meth_ok k_Market_init q_Market_init rfl fun At hAt => hAt 150 _ _ _ _ _ _ ?_
  refine And.intro (by decide) (And.intro (by decide) ?_)
  refine callG 1 8 (by decide) (by decide) (i_Row (N := 99) (n := 8) (J := J) (l := (98, 1) :: (98, 0) :: l) rfl (by decide) (fun b j h => hZ b j (Nat.le_trans (by decide) h)) fun g0 => ?_)
  refine And.intro (by decide) (And.intro (by decide) ?_)
  refine callG 1 8 (by decide) (by decide) (i_Row (N := 101) (n := 8) (J := J) (l := (98, 2) :: (99, 0) :: (98, 1) :: (98, 0) :: l) rfl (by decide) (fun b j h => hZ b j (Nat.le_trans (by decide) h)) fun g1 => ?_)
  refine And.intro (by decide) (And.intro (by decide) ?_)
  refine callG 1 12 (by decide) (by decide) (i_Row (N := 103) (n := 12) (J := J) (l := (98, 3) :: (101, 0) :: (98, 2) :: (99, 0) :: (98, 1) :: (98, 0) :: l) rfl (by decide) (fun b j h => hZ b j (Nat.le_trans (by decide) h)) fun g2 => ?_)
  exact hP _

set_option maxRecDepth 8000 in
theorem i_Guess_105 (hZ : ∀ b j, 105 ≤ b → J b j = 0) (hP : ∀ g', P none (J, g', D, 108, (105, 2) :: (106, 0) :: (105, 1) :: (105, 0) :: l)) : Ret w false (d + 2) 2 10 m_Guess_init [.ref 105, .ref 3, .ref 30] (nS (J, g, D, 105, l) 1) P X := by
  rw [nS_z hZ]
  refine meth_ok k_Guess_init q_Guess_init rfl fun At hAt => hAt 150 _ _ _ _ _ _ ?_
  refine And.intro (by decide) (And.intro (by decide) ?_)
  refine callG 1 9 (by decide) (by decide) (i_Row (N := 106) (n := 9) (J := J) (l := (105, 1) :: (105, 0) :: l) rfl (by decide) (fun b j h => hZ b j (Nat.le_trans (by decide) h)) fun g0 => ?_)
  exact hP _
end CTB
