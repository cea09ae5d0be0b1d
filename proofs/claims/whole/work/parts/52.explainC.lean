/-! EXPLAIN on the component's side -/
def exW (wo : Int32) (i : Nat) : Bool := decide (nI i = wo)
/-- what lacks at first -/
def lk0 (t : Tb) (wo : Int32) (i : Nat) : Nat := if exW wo i = true then 0 else t.2 i 2
def okE (s : Sk) (t : Tb) (wo : Int32) (k i : Nat) : Bool := decide (0 < cntH s k (t.2 i 0) (t.2 i 1) 50) && !exW wo i
def kQ (s : Sk) (k : Nat) : Nat := kC s k 4
def kG (s : Sk) : Nat := min (kT s 2) 6
def xC (σ τ : Mem) (t : Tb) (wo : Int32) (l : Nat → Nat) (W S : Int32) : Prop :=
  (∀ a j, a ≠ 107 → ¬ (a = 105 ∧ (3 ≤ j ∧ j ≤ 5)) → rI τ a j = rI σ a j) ∧ τ.2 = σ.2 ∧ (∀ i, i < t.1 → exW wo i = false → rI τ 107 i = nI (l i)) ∧ rI τ 105 3 = nI (sumN l t.1) ∧ rI τ 105 4 = W ∧ rI τ 105 5 = S
theorem skP.scr {σ τ : Mem} {f : Nat} {s : Sk} (h : skP σ f s) (g : ∀ a j, f ≤ a → a ≤ f + 9 → rI τ a j = rI σ a j) : skP τ f s := by
  obtain ⟨k1, k2, k3, k4, k5⟩ := h
  exact ⟨fun i hi => by rw [g _ _ (by omega) (by omega)]; exact k1 i hi, k2.frame (fun j => g _ _ (by omega) (by omega)) (fun j => g _ _ (by omega) (by omega)), k3.frame (fun j => g _ _ (by omega) (by omega)) (fun j => g _ _ (by omega) (by omega)), k4.frame (fun j => g _ _ (by omega) (by omega)) (fun j => g _ _ (by omega) (by omega)), k5.frame (fun j => g _ _ (by omega) (by omega)) (fun j => g _ _ (by omega) (by omega))⟩
theorem skC.scr {σ τ : Mem} {f : Nat} {s : Sk} (h : skC σ f s) (g : ∀ a j, f ≤ a → a ≤ f + 11 → rI τ a j = rI σ a j) : skC τ f s :=
  have p := h.p.scr (fun a j h1 h2 => g a j h1 (by omega))
  ⟨p.1, p.2.1, p.2.2.1, p.2.2.2.1, p.2.2.2.2, fun k hk h' hh => by rw [g _ _ (by omega) (by omega)]; exact h.2.2.2.2.2 k hk h' hh⟩
section EXC
variable {w : Wd} {d : Nat} {σ : Mem} {s : Sk} {P : Option AV → Mem → Prop} {X : Nat → Mem → Prop}
theorem s_hoursIn {k x y : Nat} (hS : skC σ 4 s) (hv : VS s) (hk : k < kT s 2) (hx : x < 8) (hy : y < 8) (hP : P (some (.int (nI (cntH s k x y 50)))) σ) : Ret w true (d + 2) 0 0 m_Sky_hoursIn [.ref 3, .int (nI k), .int (nI (8 * y + x))] σ P X := by
  have s3 := hv.2.2.1
  refine meth_ok k_Sky_hoursIn q_Sky_hoursIn rfl fun At hAt => ?_
  have loop : ∀ n, n ≤ 50 → At 5 [.ref 3, .int (nI k), .int (nI (8 * y + x)), .int (nI (cntH s k x y n)), .int (nI n)] [] σ 0 0 := by
    refine upto fun n hn ih => ?_
    have cl := cntH_le s k x y n
    refine hAt 3 _ _ _ _ _ _ ?_
    refine And.intro (fun hq => ?_) (fun hq => ?_)
    · have c9 : 50 ≤ n := (leN (a := 50) (b := n) rfl rfl (by omega) (by omega)).mp hq
      clear hq
      refine hAt 2 _ _ _ _ _ _ ?_
      have e : n = 50 := by omega
      subst e
      exact hP
    · have c9 : n < 50 := Nat.lt_of_not_le (fun zq => hq ((leN (a := 50) (b := n) rfl rfl (by omega) (by omega)).mpr zq))
      clear hq
      refine hAt 7 _ _ _ _ _ _ ?_
      refine s_Table_get (a := 14) (na := 15) (mo := 8) (wd := 50) rfl (show k < 8 by omega) (show n < 50 by omega) ?_
      refine And.intro (fun hq => ?_) (fun hq => ?_)
      · have c23 : ¬ rI σ 15 (k * 50 + n) = nI (8 * y + x) := hq
        clear hq
        refine hAt 2 _ _ _ _ _ _ ?_
        refine Eq.mpr (congrArg (fun xq : Int32 => At 5 [.ref (3), .int (nI k), .int (nI (8 * y + x)), .int (nI (cntH s k x y n)), .int xq] [] σ 0 0) (show nI n + nI 1 = nI (n + 1) from (adE rfl rfl))) ?_
        have q := ih c9
        rw [cntH, if_neg (fun z => c23 ((hS.2.2.2.2.2 k hk n c9).trans ((tr_eq hv hk hx hy).mpr z))), Nat.add_zero] at q
        exact q
      · have c23 : rI σ 15 (k * 50 + n) = nI (8 * y + x) := hq
        clear hq
        refine hAt 3 _ _ _ _ _ _ ?_
        refine Eq.mpr (congrArg (fun xq : Int32 => At 5 [.ref (3), .int (nI k), .int (nI (8 * y + x)), .int xq, .int (nI n + nI 1)] [] σ 0 0) (show (nI (cntH s k x y n)) + nI 1 = nI (cntH s k x y n + 1) from (adE rfl rfl))) ?_
        refine Eq.mpr (congrArg (fun xq : Int32 => At 5 [.ref (3), .int (nI k), .int (nI (8 * y + x)), .int (nI (cntH s k x y n + 1)), .int xq] [] σ 0 0) (show nI n + nI 1 = nI (n + 1) from (adE rfl rfl))) ?_
        have q := ih c9
        rw [cntH, if_pos ((tr_eq hv hk hx hy).mp ((hS.2.2.2.2.2 k hk n c9).symm.trans c23))] at q
        exact q
  refine hAt 4 _ _ _ _ _ _ ?_
  exact loop 0 (by omega)
theorem s_cellOf {x y : Nat} (hP : P (some (.int (nI (8 * y + x)))) σ) : Ret w true (d + 1) 0 0 m_OC_cellOf [.int (nI x), .int (nI y)] σ P X := by
  refine meth_ok k_OC_cellOf q_OC_cellOf rfl fun At hAt => ?_
  refine hAt 6 _ _ _ _ _ _ ?_
  refine retE (adE (mlE rfl rfl) rfl) ?_
  exact hP
theorem s_passes {t : Tb} {k i : Nat} (hS : skC σ 4 s) (hv : VS s) (hb : tbR σ 35 36 3 t) (hg : ∀ i, i < t.1 → t.2 i 0 < kT s 0 ∧ t.2 i 1 < kT s 1 ∧ t.2 i 2 ≤ 9999) (hn : t.1 ≤ 9) (hk : k < kT s 2) (hi : i < t.1) (hP : P (some (.int (bI (decide (0 < cntH s k (t.2 i 0) (t.2 i 1) 50))))) σ) : Ret w true (d + 3) 0 0 m_Guess_passes [.ref 105, .int (nI k), .int (nI i)] σ P X := by
  have b := hg i hi
  have s1 := hv.1
  have s2 := hv.2.1
  have cl := cntH_le s k (t.2 i 0) (t.2 i 1) 50
  refine meth_ok k_Guess_passes q_Guess_passes rfl fun At hAt => ?_
  refine hAt 6 _ _ _ _ _ _ ?_
  refine s_Table_get (a := 35) (na := 36) (mo := 9) (wd := 3) rfl (show i < 9 by omega) (show 0 < 3 by omega) ?_
  refine Eq.mpr (congrArg (fun xq : Int32 => At 12 [.ref (105), .int (nI k), .int (nI i), junk] [.int xq] σ 0 0) (show rI σ 36 (i * 3 + 0) = nI (t.2 i 0) from (hb.2 i (by omega) 0 (by omega)))) ?_
  refine hAt 6 _ _ _ _ _ _ ?_
  refine s_Table_get (a := 35) (na := 36) (mo := 9) (wd := 3) rfl (show i < 9 by omega) (show 1 < 3 by omega) ?_
  refine Eq.mpr (congrArg (fun xq : Int32 => At 24 [.ref (105), .int (nI k), .int (nI i), junk] [.int xq, .int (nI (t.2 i 0))] σ 0 0) (show rI σ 36 (i * 3 + 1) = nI (t.2 i 1) from (hb.2 i (by omega) 1 (by omega)))) ?_
  refine hAt 8 _ _ _ _ _ _ ?_
  refine s_cellOf ?_
  refine s_hoursIn (x := t.2 i 0) (y := t.2 i 1) hS hv hk (by omega) (by omega) ?_
  refine And.intro (fun hq => ?_) (fun hq => ?_)
  · have c37 : cntH s k (t.2 i 0) (t.2 i 1) 50 ≤ 0 := (leN (a := cntH s k (t.2 i 0) (t.2 i 1) 50) (b := 0) rfl rfl (by omega) (by omega)).mp hq
    clear hq
    refine hAt 2 _ _ _ _ _ _ ?_
    refine And.intro (rfl) ?_
    rw [decide_eq_false (by omega)] at hP; exact hP
  · have c37 : 0 < cntH s k (t.2 i 0) (t.2 i 1) 50 := Nat.lt_of_not_le (fun zq => hq ((leN (a := cntH s k (t.2 i 0) (t.2 i 1) 50) (b := 0) rfl rfl (by omega) (by omega)).mpr zq))
    clear hq
    refine hAt 3 _ _ _ _ _ _ ?_
    refine And.intro (rfl) ?_
    rw [decide_eq_true (by omega)] at hP; exact hP
theorem s_guessed (hS : skC σ 4 s) (hv : VS s) (hP : P (some (.int (nI (kG s)))) σ) : Ret w true (d + 2) 0 0 m_Guess_guessed [.ref 105] σ P X := by
  have s3 := hv.2.2.1
  refine meth_ok k_Guess_guessed q_Guess_guessed rfl fun At hAt => ?_
  refine hAt 4 _ _ _ _ _ _ ?_
  refine s_Table_size (a := 8) (na := 9) (mo := 8) (wd := 7) rfl ?_
  refine Eq.mpr (congrArg (fun xq : Int32 => At 10 [.ref (105)] [.int xq] σ 0 0) (show rI σ 8 3 = nI (kT s 2) from hS.2.2.1.1)) ?_
  refine hAt 3 _ _ _ _ _ _ ?_
  refine retE (minE rfl rfl (by omega) (by omega)) ?_
  exact hP
theorem s_explainBy {i : Nat} {x : Int32} (hi : i < 9) (hP : P none (wI (wI σ 107 i (rI σ 107 i + -x)) 105 3 (rI σ 105 3 - x))) : Ret w true (d + 2) 0 0 m_Guess_explainBy [.ref 105, .int (nI i), .int x] σ P X := by
  refine meth_ok k_Guess_explainBy q_Guess_explainBy rfl fun At hAt => hAt 50 _ _ _ _ _ _ ?_
  refine s_Row_add (a := 106) (na := 107) (n := 9) rfl hi ?_
  exact hP
theorem xC.sub {τ : Mem} {t : Tb} {wo W S : Int32} {l : Nat → Nat} {i x : Nat} (h : xC σ τ t wo l W S) (hi : i < t.1) (hx : x ≤ l i) (he : exW wo i = false) : xC σ (wI (wI τ 107 i (rI τ 107 i + -nI x)) 105 3 (rI τ 105 3 - nI x)) t wo (sb l i x) W S := by
  obtain ⟨h1, h2, h3, h4, h5, h6⟩ := h
  refine ⟨fun a j q1 q2 => by rw [rI_wI, if_neg (by omega), rI_wI, if_neg (by omega)]; exact h1 a j q1 q2, h2, fun j hj hej => ?_, ?_, by rw [rI_wI, if_neg (by omega), rI_wI, if_neg (by omega)]; exact h5, by rw [rI_wI, if_neg (by omega), rI_wI, if_neg (by omega)]; exact h6⟩
  · rw [rI_wI, if_neg (by omega), rI_wI]
    by_cases e : j = i
    · subst e
      rw [if_pos ⟨rfl, rfl⟩, h3 j hj hej]
      unfold sb
      rw [if_pos rfl, ← nI_sub hx, Int32.sub_eq_add_neg]
    · rw [if_neg (fun z => e z.2), h3 j hj hej]
      unfold sb; rw [if_neg e]
  · rw [rI_wI, if_pos ⟨rfl, rfl⟩, h4, sumN_sb hx, if_pos hi, nI_sub]
    have := sumN_mem (f := l) t.1 i hi; omega
theorem xC.add {τ : Mem} {t : Tb} {wo W S : Int32} {l : Nat → Nat} {i x : Nat} (h : xC σ τ t wo (sb l i x) W S) (hi : i < t.1) (hx : x ≤ l i) (he : exW wo i = false) : xC σ (wI (wI τ 107 i (rI τ 107 i + - -nI x)) 105 3 (rI τ 105 3 - -nI x)) t wo l W S := by
  obtain ⟨h1, h2, h3, h4, h5, h6⟩ := h
  have nn : ∀ a b : Int32, a + - -b = a + b := fun a b => by rw [Int32.neg_neg]
  have sn : ∀ a b : Int32, a - -b = a + b := fun a b => Int32.sub_neg
  refine ⟨fun a j q1 q2 => by rw [rI_wI, if_neg (by omega), rI_wI, if_neg (by omega)]; exact h1 a j q1 q2, h2, fun j hj hej => ?_, ?_, by rw [rI_wI, if_neg (by omega), rI_wI, if_neg (by omega)]; exact h5, by rw [rI_wI, if_neg (by omega), rI_wI, if_neg (by omega)]; exact h6⟩
  · rw [rI_wI, if_neg (by omega), rI_wI]
    by_cases e : j = i
    · subst e
      rw [if_pos ⟨rfl, rfl⟩, h3 j hj hej, nn]
      unfold sb
      rw [if_pos rfl, nI_add]; congr 1; omega
    · rw [if_neg (fun z => e z.2), h3 j hj hej]
      unfold sb; rw [if_neg e]
  · rw [rI_wI, if_pos ⟨rfl, rfl⟩, h4, sumN_sb hx, if_pos hi, sn, nI_add]
    have := sumN_mem (f := l) t.1 i hi
    congr 1; omega
theorem s_place {t : Tb} {wo : Int32} (hS : skC σ 4 s) (hv : VS s) (hb : tbR σ 35 36 3 t) (hn : t.1 ≤ 9) (hg : ∀ i, i < t.1 → t.2 i 0 < kT s 0 ∧ t.2 i 1 < kT s 1 ∧ t.2 i 2 ≤ 9999) :
    ∀ m d k f l W S τ (P : Option AV → Mem → Prop), k + m = kG s → (∀ i, i < t.1 → l i ≤ 9999 ∧ (exW wo i = true → l i = 0)) → xC σ τ t wo l W S →
      (∀ τ', xC σ τ' t wo l (W + nI (wy t.1 (okE s t wo) (kQ s) m k l)) (S &&& sr t.1 (okE s t wo) (kQ s) m k f l) → P none τ') → Ret w true (d + m + 4) 0 0 m_Guess_place [.ref 105, .int (nI k), .int f, .int (nI (wat (kQ s) m k)), .int wo] τ P X := by
  have s3 := hv.2.2.1
  have s8 := hv.2.2.2.2.2.2.2.2.2.2.2.2.1
  have hK : kG s ≤ kT s 2 ∧ kG s ≤ 6 := ⟨Nat.min_le_left _ _, Nat.min_le_right _ _⟩
  have hq : ∀ k, k < kG s → 1 ≤ kQ s k ∧ kQ s k ≤ 999 := fun k hk => (s8 k (by omega)).2.2.2.2.1
  have hwat : ∀ m k, k + m = kG s → wat (kQ s) m k ≤ m * 999 := by
    intro m
    induction m with
    | zero => exact fun k hk => Nat.zero_le _
    | succ m ih =>
      intro k hk
      have := ih (k + 1) (by omega)
      have := hq k (by omega)
      rw [wat, Nat.add_mul]; omega
  intro m
  induction m with
  | zero =>
    intro d k f l W S τ P hk hl hx hP
    obtain ⟨h1, h2, h3, h4, h5, h6⟩ := hx
    have hSt := hS.scr (fun a j g1 g2 => h1 a j (by omega) (by omega))
    have sl := sumN_le (f := l) (b := 9999) t.1 (fun i hi => (hl i hi).1)
    have hbt : tbR τ 35 36 3 t := hb.frame (fun j => h1 _ _ (by omega) (by omega)) (fun j => h1 _ _ (by omega) (by omega))
    refine meth_ok k_Guess_place q_Guess_place rfl fun At hAt => ?_
    have ew : wat (kQ s) 0 k = 0 := rfl
    refine hAt 2 _ _ _ _ _ _ ?_
    refine Eq.mpr (congrArg (fun xq : Int32 => At 4 [.ref (105), .int (nI k), .int (f), .int (nI (wat (kQ s) 0 k)), .int (wo), junk, junk] [.int xq] τ 0 0) (show rI τ 105 3 = nI (sumN l t.1) from h4)) ?_
    refine hAt 2 _ _ _ _ _ _ ?_
    refine And.intro (fun hq => ?_) (fun hq => ?_)
    · have c5 : sumN l t.1 ≤ wat (kQ s) 0 k := (leN (a := sumN l t.1) (b := wat (kQ s) 0 k) rfl rfl (by omega) (by omega)).mp hq
      clear hq
      refine hAt 4 _ _ _ _ _ _ ?_
      refine s_guessed hSt hv ?_
      refine And.intro (fun hq => ?_) (fun hq => ?_)
      · have c14 : k < kG s := (ltN (a := k) (b := kG s) rfl rfl (by omega) (by omega)).mp hq
        clear hq
        exact absurd c14 (by omega)
      · have c14 : kG s ≤ k := Nat.le_of_not_lt (fun zq => hq ((ltN (a := k) (b := kG s) rfl rfl (by omega) (by omega)).mpr zq))
        clear hq
        refine hAt 3 _ _ _ _ _ _ ?_
        refine Eq.mpr (congrArg (fun xq : Int32 => At 22 [.ref (105), .int (nI k), .int (f), .int (nI (wat (kQ s) 0 k)), .int (wo), junk, junk] [.int xq, .ref (105)] τ 0 0) (show rI τ 105 4 = W from h5)) ?_
        refine hAt 6 _ _ _ _ _ _ ?_
        refine Eq.mpr (congrArg (fun xq : Int32 => At 32 [.ref (105), .int (nI k), .int (f), .int (nI (wat (kQ s) 0 k)), .int (wo), junk, junk] [.int xq, .ref (105)] (wI τ 105 4 (W + nI 1)) 0 0) (show rI (wI τ 105 4 (W + nI 1)) 105 5 = S from (by rw [rI_wI, if_neg (by omega)]; exact h6))) ?_
        refine hAt 4 _ _ _ _ _ _ ?_
        have z := (zr_sum l t.1).mpr (by omega)
        rw [wy, sr, if_pos z, if_pos z] at hP
        refine hP _ ⟨fun a j q1 q2 => ?_, h2, fun i hi he => ?_, ?_, ?_, ?_⟩
        · rw [rI_wI, if_neg (by omega), rI_wI, if_neg (by omega)]; exact h1 a j q1 q2
        · rw [rI_wI, if_neg (by omega), rI_wI, if_neg (by omega)]; exact h3 i hi he
        · rw [rI_wI, if_neg (by omega), rI_wI, if_neg (by omega)]; exact h4
        · rw [rI_wI, if_neg (by omega), rI_wI, if_pos ⟨rfl, rfl⟩]
        · rw [rI_wI, if_pos ⟨rfl, rfl⟩]
    · have c5 : wat (kQ s) 0 k < sumN l t.1 := Nat.lt_of_not_le (fun zq => hq ((leN (a := sumN l t.1) (b := wat (kQ s) 0 k) rfl rfl (by omega) (by omega)).mpr zq))
      clear hq
      refine hAt 1 _ _ _ _ _ _ ?_
      have z := no_way (G := t.1) (ok := okE s t wo) (q := kQ s) 0 k l f (by omega)
      rw [z.1, z.2, ad_0, an1] at hP
      exact hP τ ⟨h1, h2, h3, h4, h5, h6⟩
  | succ m ihm =>
    intro d k f l W S τ0 P hk hl hx0 hP
    have q1 := hq k (by omega)
    have ew : wat (kQ s) (m + 1) k = kQ s k + wat (kQ s) m (k + 1) := rfl
    have hwb := hwat (m + 1) k hk
    have sl := sumN_le (f := l) (b := 9999) t.1 (fun i hi => (hl i hi).1)
    obtain ⟨ok, eok⟩ : ∃ ok, ok = okE s t wo := ⟨_, rfl⟩
    obtain ⟨F, eF⟩ : ∃ F : Nat → Nat, F = fun i => if tk ok (kQ s) k l i = true then wy t.1 ok (kQ s) m (k + 1) (sb l i (kQ s k)) else 0 := ⟨_, rfl⟩
    obtain ⟨G, eG⟩ : ∃ G : Nat → Int32, G = fun i => if tk ok (kQ s) k l i = true then sr t.1 ok (kQ s) m (k + 1) (f ||| bitk k) (sb l i (kQ s k)) else -1 := ⟨_, rfl⟩
    have hfin : ∀ τ', xC σ τ' t wo l ((W + nI (sumN F t.1)) + nI (wy t.1 ok (kQ s) m (k + 1) l)) ((S &&& anI G t.1) &&& sr t.1 ok (kQ s) m (k + 1) f l) → P none τ' := fun τ' h => by
      refine hP τ' ?_
      rw [wy, sr, ← eok, ← eF, ← eG, Nat.add_comm, ← nI_add, ← ad_a, an_c (sr t.1 ok (kQ s) m (k + 1) f l), ← an_a]
      exact h
    clear hP
    refine meth_ok k_Guess_place q_Guess_place rfl fun At hAt => ?_
    have loop : ∀ i, i ≤ t.1 → ∀ τ, xC σ τ t wo l (W + nI (sumN F i)) (S &&& anI G i) → At 55 [.ref 105, .int (nI k), .int f, .int (nI (wat (kQ s) (m + 1) k)), .int wo, .int (nI (kQ s k)), .int (nI i)] [] τ 0 0 := by
      refine upto fun i hi ih => ?_
      intro τ hx
      have hx' := hx
      obtain ⟨h1, h2, h3, h4, h5, h6⟩ := hx
      have hSt := hS.scr (fun a j g1 g2 => h1 a j (by omega) (by omega))
      have hbt : tbR τ 35 36 3 t := hb.frame (fun j => h1 _ _ (by omega) (by omega)) (fun j => h1 _ _ (by omega) (by omega))
      have skip : i < t.1 → ¬ tk ok (kQ s) k l i = true → At 55 [.ref 105, .int (nI k), .int f, .int (nI (wat (kQ s) (m + 1) k)), .int wo, .int (nI (kQ s k)), .int (nI (i + 1))] [] τ 0 0 := fun hi ht => by
        have q := ih hi τ
        rw [sumN, anI, eF, eG] at q
        simp only [if_neg ht] at q
        rw [← eF, ← eG, Nat.add_zero, an1] at q
        exact q hx'
      refine hAt 5 _ _ _ _ _ _ ?_
      refine s_Table_size (a := 35) (na := 36) (mo := 9) (wd := 3) rfl ?_
      refine Eq.mpr (congrArg (fun xq : Int32 => At 67 [.ref (105), .int (nI k), .int (f), .int (nI (wat (kQ s) (m + 1) k)), .int (wo), .int (nI (kQ s k)), .int (nI i)] [.int xq, .int (nI i)] τ 0 0) (show rI τ 35 3 = nI t.1 from hbt.1)) ?_
      refine hAt 1 _ _ _ _ _ _ ?_
      refine And.intro (fun hq => ?_) (fun hq => ?_)
      · have c67 : t.1 ≤ i := (leN (a := t.1) (b := i) rfl rfl (by omega) (by omega)).mp hq
        clear hq
        refine hAt 9 _ _ _ _ _ _ ?_
        refine Eq.mpr (congrArg (fun xq : Int32 => At 153 [.ref (105), .int (nI k), .int (f), .int (nI (wat (kQ s) (m + 1) k)), .int (wo), .int (nI (kQ s k)), .int (nI i)] [.int (wo), .int (nI (wat (kQ s) (m + 1) k) - nI (kQ s k)), .int (f), .int xq, .ref (105)] τ 0 0) (show nI k + nI 1 = nI (k + 1) from (adE rfl rfl))) ?_
        refine Eq.mpr (congrArg (fun xq : Int32 => At 153 [.ref (105), .int (nI k), .int (f), .int (nI (wat (kQ s) (m + 1) k)), .int (wo), .int (nI (kQ s k)), .int (nI i)] [.int (wo), .int xq, .int (f), .int (nI (k + 1)), .ref (105)] τ 0 0) (show nI (wat (kQ s) (m + 1) k) - nI (kQ s k) = nI (wat (kQ s) m (k + 1)) from (by rw [ew, nI_sub (Nat.le_add_right _ _), Nat.add_sub_cancel_left]))) ?_
        refine hAt 2 _ _ _ _ _ _ ?_
        refine ihm d (k + 1) _ l _ _ τ _ (by omega) hl hx' (fun τ2 hx2 => ?_)
        have e : i = t.1 := by omega
        subst e
        rw [← eok] at hx2
        exact hfin _ hx2
      · have c67 : i < t.1 := Nat.lt_of_not_le (fun zq => hq ((leN (a := t.1) (b := i) rfl rfl (by omega) (by omega)).mpr zq))
        clear hq
        have hli := hl i c67
        refine hAt 3 _ _ _ _ _ _ ?_
        refine And.intro (fun hq => ?_) (fun hq => ?_)
        · have c74 : nI i = wo := hq
          clear hq
          refine hAt 2 _ _ _ _ _ _ ?_
          refine Eq.mpr (congrArg (fun xq : Int32 => At 55 [.ref (105), .int (nI k), .int (f), .int (nI (wat (kQ s) (m + 1) k)), .int (wo), .int (nI (kQ s k)), .int xq] [] τ 0 0) (show nI i + nI 1 = nI (i + 1) from (adE rfl rfl))) ?_
          refine skip c67 (fun z => ?_)
          unfold tk at z
          rw [eok] at z
          unfold okE exW at z
          rw [decide_eq_true c74] at z
          simp at z
        · have c74 : ¬ nI i = wo := hq
          clear hq
          have he : exW wo i = false := decide_eq_false c74
          refine hAt 4 _ _ _ _ _ _ ?_
          refine s_Row_get (a := 106) (na := 107) (n := 9) rfl (show i < 9 by omega) ?_
          refine Eq.mpr (congrArg (fun xq : Int32 => At 86 [.ref (105), .int (nI k), .int (f), .int (nI (wat (kQ s) (m + 1) k)), .int (wo), .int (nI (kQ s k)), .int (nI i)] [.int xq] τ 0 0) (show rI τ 107 i = nI (l i) from (h3 i (by omega) he))) ?_
          refine hAt 2 _ _ _ _ _ _ ?_
          refine And.intro (fun hq => ?_) (fun hq => ?_)
          · have c88 : l i < kQ s k := (ltN (a := l i) (b := kQ s k) rfl rfl (by omega) (by omega)).mp hq
            clear hq
            refine hAt 2 _ _ _ _ _ _ ?_
            refine Eq.mpr (congrArg (fun xq : Int32 => At 55 [.ref (105), .int (nI k), .int (f), .int (nI (wat (kQ s) (m + 1) k)), .int (wo), .int (nI (kQ s k)), .int xq] [] τ 0 0) (show nI i + nI 1 = nI (i + 1) from (adE rfl rfl))) ?_
            refine skip c67 (fun z => ?_)
            unfold tk at z
            rw [decide_eq_false (show ¬ kQ s k ≤ l i by omega)] at z
            simp at z
          · have c88 : kQ s k ≤ l i := Nat.le_of_not_lt (fun zq => hq ((ltN (a := l i) (b := kQ s k) rfl rfl (by omega) (by omega)).mpr zq))
            clear hq
            refine hAt 5 _ _ _ _ _ _ ?_
            refine s_passes hSt hv hbt hg hn (by omega) (by omega) ?_
            refine And.intro (fun hq => ?_) (fun hq => ?_)
            · have c98 : ¬ (0 < cntH s k (t.2 i 0) (t.2 i 1) 50) := of_decide_eq_false (bI_eq hq)
              clear hq
              refine hAt 2 _ _ _ _ _ _ ?_
              refine Eq.mpr (congrArg (fun xq : Int32 => At 55 [.ref (105), .int (nI k), .int (f), .int (nI (wat (kQ s) (m + 1) k)), .int (wo), .int (nI (kQ s k)), .int xq] [] τ 0 0) (show nI i + nI 1 = nI (i + 1) from (adE rfl rfl))) ?_
              refine skip c67 (fun z => ?_)
              unfold tk at z
              rw [eok] at z
              unfold okE at z
              rw [decide_eq_false c98] at z
              simp at z
            · have c98 : 0 < cntH s k (t.2 i 0) (t.2 i 1) 50 := of_decide_eq_true (bI_ne hq)
              clear hq
              refine hAt 17 _ _ _ _ _ _ ?_
              refine s_explainBy (by omega) ?_
              have hx1 := xC.sub hx' c67 c88 he
              generalize (wI (wI τ 107 i (rI τ 107 i + -nI (kQ s k))) 105 3 (rI τ 105 3 - nI (kQ s k))) = τ1 at hx1 ⊢
              refine Eq.mpr (congrArg (fun xq : Int32 => At 124 [.ref (105), .int (nI k), .int (f), .int (nI (wat (kQ s) (m + 1) k)), .int (wo), .int (nI (kQ s k)), .int (nI i)] [.int (wo), .int (nI (wat (kQ s) (m + 1) k) - nI (kQ s k)), .int (f ||| ((nI 1) <<< ((nI k) &&& 31))), .int xq, .ref (105)] τ1 0 0) (show nI k + nI 1 = nI (k + 1) from (adE rfl rfl))) ?_
              refine Eq.mpr (congrArg (fun xq : Int32 => At 124 [.ref (105), .int (nI k), .int (f), .int (nI (wat (kQ s) (m + 1) k)), .int (wo), .int (nI (kQ s k)), .int (nI i)] [.int (wo), .int xq, .int (f ||| ((nI 1) <<< ((nI k) &&& 31))), .int (nI (k + 1)), .ref (105)] τ1 0 0) (show nI (wat (kQ s) (m + 1) k) - nI (kQ s k) = nI (wat (kQ s) m (k + 1)) from (by rw [ew, nI_sub (Nat.le_add_right _ _), Nat.add_sub_cancel_left]))) ?_
              refine hAt 8 _ _ _ _ _ _ ?_
              refine ihm d (k + 1) _ (sb l i (kQ s k)) _ _ τ1 _ (by omega) (fun j hj => ?_) hx1 (fun τ2 hx2 => ?_)
              · show sb l i (kQ s k) j ≤ 9999 ∧ _
                have := hl j hj
                unfold sb
                by_cases e : j = i
                · rw [if_pos e]; exact ⟨by omega, fun z => by have := this.2 z; omega⟩
                · rw [if_neg e]; exact this
              refine s_explainBy (by omega) ?_
              have hx3 := xC.add hx2 c67 c88 he
              generalize (wI (wI τ2 107 i (rI τ2 107 i + - -nI (kQ s k))) 105 3 (rI τ2 105 3 - -nI (kQ s k))) = τ3 at hx3 ⊢
              refine Eq.mpr (congrArg (fun xq : Int32 => At 55 [.ref (105), .int (nI k), .int (f), .int (nI (wat (kQ s) (m + 1) k)), .int (wo), .int (nI (kQ s k)), .int xq] [] τ3 0 0) (show nI i + nI 1 = nI (i + 1) from (adE rfl rfl))) ?_
              have ht : tk ok (kQ s) k l i = true := by
                unfold tk
                rw [eok]
                unfold okE
                rw [decide_eq_true c98, he, decide_eq_true c88]; rfl
              have q := ih c67 τ3
              rw [sumN, anI, show F i = wy t.1 ok (kQ s) m (k + 1) (sb l i (kQ s k)) by rw [eF]; exact if_pos ht, show G i = sr t.1 ok (kQ s) m (k + 1) (f ||| bitk k) (sb l i (kQ s k)) by rw [eG]; exact if_pos ht, ← nI_add, ← ad_a, ← an_a, eok] at q
              exact q hx3
    have hx' := hx0
    obtain ⟨h1, h2, h3, h4, h5, h6⟩ := hx0
    have hSt := hS.scr (fun a j g1 g2 => h1 a j (by omega) (by omega))
    refine hAt 2 _ _ _ _ _ _ ?_
    refine Eq.mpr (congrArg (fun xq : Int32 => At 4 [.ref (105), .int (nI k), .int (f), .int (nI (wat (kQ s) (m + 1) k)), .int (wo), junk, junk] [.int xq] τ0 0 0) (show rI τ0 105 3 = nI (sumN l t.1) from h4)) ?_
    refine hAt 2 _ _ _ _ _ _ ?_
    refine And.intro (fun hq => ?_) (fun hq => ?_)
    · have c5 : sumN l t.1 ≤ wat (kQ s) (m + 1) k := (leN (a := sumN l t.1) (b := wat (kQ s) (m + 1) k) rfl rfl (by omega) (by omega)).mp hq
      clear hq
      refine hAt 4 _ _ _ _ _ _ ?_
      refine s_guessed hSt hv ?_
      refine And.intro (fun hq => ?_) (fun hq => ?_)
      · have c14 : k < kG s := (ltN (a := k) (b := kG s) rfl rfl (by omega) (by omega)).mp hq
        clear hq
        refine hAt 6 _ _ _ _ _ _ ?_
        refine s_Table_get (a := 8) (na := 9) (mo := 8) (wd := 7) rfl (show k < 8 by omega) (show 4 < 7 by omega) ?_
        refine Eq.mpr (congrArg (fun xq : Int32 => At 50 [.ref (105), .int (nI k), .int (f), .int (nI (wat (kQ s) (m + 1) k)), .int (wo), junk, junk] [.int xq] τ0 0 0) (show rI τ0 9 (k * 7 + 4) = nI (kQ s k) from (hSt.2.2.1.2 k (by omega) 4 (by omega)))) ?_
        refine hAt 3 _ _ _ _ _ _ ?_
        refine loop 0 (by omega) τ0 ?_
        rw [sumN, anI, ad_0, an1]
        exact hx'
      · have c14 : kG s ≤ k := Nat.le_of_not_lt (fun zq => hq ((ltN (a := k) (b := kG s) rfl rfl (by omega) (by omega)).mpr zq))
        clear hq
        exact absurd c14 (by omega)
    · have c5 : wat (kQ s) (m + 1) k < sumN l t.1 := Nat.lt_of_not_le (fun zq => hq ((leN (a := sumN l t.1) (b := wat (kQ s) (m + 1) k) rfl rfl (by omega) (by omega)).mpr zq))
      clear hq
      refine hAt 1 _ _ _ _ _ _ ?_
      have z := no_way (G := t.1) (ok := ok) (q := kQ s) m (k + 1) l f (by omega)
      have z2 := no_way (G := t.1) (ok := ok) (q := kQ s) (m + 1) k l f (by omega)
      rw [wy, sr, ← eF, ← eG, z.1, z.2] at z2
      rw [an_c, an1] at z2
      refine hfin τ0 ?_
      rw [z.1, z.2, z2.2, show sumN F t.1 = 0 by have := z2.1; omega, ad_0, ad_0, an1, an1]
      exact hx'
end EXC
