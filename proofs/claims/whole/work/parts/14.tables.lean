/-! ROWS AND TABLES: contracts of the small classes -/
theorem cond_t {c : Bool} {P : Prop} (h : c = true) (hp : P) : cond c P False := by rw [h]; exact hp
theorem rMat_s {r n : Nat} {F : Nat → Prop} (h : r = n + 1) (hp : F n) : rMat r F := by rw [h]; exact hp
theorem blt_t {a n : Nat} (h : a < n) : Nat.blt a n = true := by simp [Nat.blt]; omega
theorem lvB_t {σ : Mem} {a : Nat} (h : a < ow_n0) : lvB true σ a = true := by unfold lvB; rw [blt_t h]; rfl
theorem oOK_t {σ : Mem} {a ci : Nat} (h : a < ow_n0) (hk : kS a = ci) : oOK true σ a ci = true := by
  unfold oOK; rw [lvB_t h, blt_t h, nbq]; simp [hk]
theorem aLen_s {σ : Mem} {a : Nat} (h : a < ow_n0) : aLen σ a = lS a := by unfold aLen; rw [blt_t h]; rfl
theorem aOK_t {σ : Mem} {a kd n j : Nat} (h : a < ow_n0) (hk : kS a = kd) (hl : lS a = n) (hj : j < n) (hn : n < 2 ^ 31) : aOK true σ a kd (nI j) :=
  ⟨lvB_t h, (kind_s h).trans hk, by rw [aLen_s h, hl]; exact vp_in_nI hj hn⟩
theorem alB_t {σ : Mem} {a : Nat} (h : a < ow_n0) (hk : kS a = 12) : (lvB true σ a && Nat.ble 12 (kind σ a) && Nat.ble (kind σ a) 17) = true := by
  rw [lvB_t h, kind_s h, hk]; rfl
theorem nI_cl {j : Nat} (h : j < 2 ^ 31) : (nI j).toNatClampNeg = j := nI_clamp h
/-- a cell's contents, set as a whole -/
def uI (σ : Mem) (a : Nat) (f : Nat → Int32) : Mem := (fun b j => if b = a then f j else σ.1 b j, σ.2)
theorem rI_uI (σ : Mem) (a : Nat) (f : Nat → Int32) (b j : Nat) : rI (uI σ a f) b j = if b = a then f j else rI σ b j := rfl
theorem uI_uI (σ : Mem) (a : Nat) (f g : Nat → Int32) : uI (uI σ a f) a g = uI σ a g := by
  unfold uI
  simp only [Prod.mk.injEq, and_true]
  funext b j
  by_cases h : b = a <;> simp [h]
theorem wI_uI (σ : Mem) (a k : Nat) (x : Int32) : wI σ a k x = uI σ a (fun j => if j = k then x else rI σ a j) := by
  unfold wI uI
  simp only [Prod.mk.injEq, and_true]
  funext b j
  by_cases h : b = a
  · subst h; by_cases h2 : j = k <;> simp [h2, rI]
  · simp [h]
theorem uI_self (σ : Mem) (a : Nat) : uI σ a (rI σ a) = σ := by
  unfold uI
  refine Prod.ext ?_ rfl
  funext b j
  by_cases h : b = a
  · subst h; simp [rI]
  · simp [h]
theorem uI_ext {σ : Mem} {a : Nat} {f g : Nat → Int32} (h : ∀ j, f j = g j) : uI σ a f = uI σ a g := by rw [show f = g from funext h]
def rwB (a na n : Nat) : Bool := Nat.blt a ow_n0 && Nat.beq (kS a) 5 && Nat.beq (rS a 0) (na + 1) && Nat.blt na ow_n0 && Nat.beq (kS na) 12 && Nat.beq (lS na) n && Nat.ble n 1000
theorem rwB_s {a na n : Nat} (h : rwB a na n = true) : a < ow_n0 ∧ kS a = 5 ∧ rS a 0 = na + 1 ∧ na < ow_n0 ∧ kS na = 12 ∧ lS na = n ∧ n ≤ 1000 := by
  unfold rwB at h
  simp only [Bool.and_eq_true, nbq, decide_eq_true_eq, Nat.ble_eq] at h
  obtain ⟨⟨⟨⟨⟨⟨h1, h2⟩, h3⟩, h4⟩, h5⟩, h6⟩, h7⟩ := h
  simp [Nat.blt] at h1 h4
  exact ⟨by omega, h2, h3, by omega, h5, h6, h7⟩
def tbB (a na mo wd : Nat) : Bool := Nat.blt a ow_n0 && Nat.beq (kS a) 8 && Nat.beq (rS a 2) (na + 1) && Nat.blt na ow_n0 && Nat.beq (kS na) 12 && Nat.beq (lS na) (mo * wd) && Nat.beq (iSn a 0) mo && Nat.beq (iSn a 1) wd && Nat.ble (mo * wd) 1000 && Nat.ble 1 mo && Nat.ble 1 wd
theorem tbB_s {a na mo wd : Nat} (h : tbB a na mo wd = true) : a < ow_n0 ∧ kS a = 8 ∧ rS a 2 = na + 1 ∧ na < ow_n0 ∧ kS na = 12 ∧ lS na = mo * wd ∧ iSn a 0 = mo ∧ iSn a 1 = wd ∧ mo * wd ≤ 1000 ∧ 1 ≤ mo ∧ 1 ≤ wd := by
  unfold tbB at h
  simp only [Bool.and_eq_true, nbq, decide_eq_true_eq, Nat.ble_eq] at h
  obtain ⟨⟨⟨⟨⟨⟨⟨⟨⟨⟨h1, h2⟩, h3⟩, h4⟩, h5⟩, h6⟩, h7⟩, h8⟩, h9⟩, h10⟩, h11⟩ := h
  simp [Nat.blt] at h1 h4
  exact ⟨by omega, h2, h3, by omega, h5, h6, h7, h8, h9, h10, h11⟩
section TAB
variable {w : Wd} {d : Nat} {σ : Mem} {a na n mo wd : Nat} {P : Option AV → Mem → Prop} {X : Nat → Mem → Prop}
theorem s_Row_get (h : rwB a na n = true) {j : Nat} (hj : j < n) (hP : P (some (.int (rI σ na j))) σ) : Ret w true (d + 1) 0 0 m_Row_get [.ref a, .int (nI j)] σ P X := by
  obtain ⟨h1, h2, h3, h4, h5, h6, h7⟩ := rwB_s h
  refine meth_ok k_Row_get q_Row_get rfl fun At hAt => hAt 50 _ _ _ _ _ _ ?_
  refine And.intro (fun q => absurd q (nI_nlt (Nat.zero_le j) (by omega))) (fun _ => ?_)
  refine cond_t (oOK_t h1 h2) (cond_t rfl (rMat_s h3 (cond_t (alB_t h4 h5) ?_)))
  rw [aLen_s h4, h6]
  refine And.intro (fun q => absurd q (nI_ge hj (by omega))) (fun _ => ?_)
  refine cond_t (oOK_t h1 h2) (cond_t rfl (rMat_s h3 (And.intro (aOK_t h4 h5 h6 hj (by omega)) ?_)))
  rw [nI_cl (by omega)]
  exact hP
theorem nI_s (n : Nat) : nI (n + 1) = nI n + nI 1 := (nI_add n 1).symm
theorem nI_mul (a b : Nat) : nI a * nI b = nI (a * b) := (Int32.ofNat_mul a b).symm
theorem uI_0 (σ : Mem) (a : Nat) {f : Nat → Int32} (h : ∀ j, f j = rI σ a j) : uI σ a f = σ := by rw [uI_ext h]; exact uI_self σ a
theorem uI_wI {σ : Mem} {a k : Nat} {f g : Nat → Int32} {x : Int32} (h : ∀ j, g j = if j = k then x else f j) : wI (uI σ a f) a k x = uI σ a g := by
  rw [wI_uI, uI_uI]
  refine uI_ext fun j => ?_
  rw [h j]
  by_cases e : j = k
  · simp [e]
  · simp [e, rI_uI]
theorem s_Row_set (h : rwB a na n = true) {j : Nat} {x : Int32} (hj : j < n) (hP : P none (wI σ na j x)) : Ret w true (d + 1) 0 0 m_Row_set [.ref a, .int (nI j), .int x] σ P X := by
  obtain ⟨h1, h2, h3, h4, h5, h6, h7⟩ := rwB_s h
  refine meth_ok k_Row_set q_Row_set rfl fun At hAt => hAt 50 _ _ _ _ _ _ ?_
  refine And.intro (fun q => absurd q (nI_nlt (Nat.zero_le j) (by omega))) (fun _ => ?_)
  refine cond_t (oOK_t h1 h2) (cond_t rfl (rMat_s h3 (cond_t (alB_t h4 h5) ?_)))
  rw [aLen_s h4, h6]
  refine And.intro (fun q => absurd q (nI_ge hj (by omega))) (fun _ => ?_)
  refine cond_t (oOK_t h1 h2) (cond_t rfl (rMat_s h3 (And.intro (aOK_t h4 h5 h6 hj (by omega)) ?_)))
  rw [nI_cl (by omega)]
  exact hP
theorem s_Row_add (h : rwB a na n = true) {j : Nat} {x : Int32} (hj : j < n) (hP : P none (wI σ na j (rI σ na j + x))) : Ret w true (d + 1) 0 0 m_Row_add [.ref a, .int (nI j), .int x] σ P X := by
  obtain ⟨h1, h2, h3, h4, h5, h6, h7⟩ := rwB_s h
  refine meth_ok k_Row_add q_Row_add rfl fun At hAt => hAt 50 _ _ _ _ _ _ ?_
  refine And.intro (fun q => absurd q (nI_nlt (Nat.zero_le j) (by omega))) (fun _ => ?_)
  refine cond_t (oOK_t h1 h2) (cond_t rfl (rMat_s h3 (cond_t (alB_t h4 h5) ?_)))
  rw [aLen_s h4, h6]
  refine And.intro (fun q => absurd q (nI_ge hj (by omega))) (fun _ => ?_)
  refine cond_t (oOK_t h1 h2) (cond_t rfl (rMat_s h3 (And.intro (aOK_t h4 h5 h6 hj (by omega)) (And.intro (aOK_t h4 h5 h6 hj (by omega)) ?_))))
  rw [nI_cl (by omega)]
  exact hP
theorem s_Row_setAll (h : rwB a na n = true) {x : Int32} (hP : P none (uI σ na (fun j => if j < n then x else rI σ na j))) : Ret w true (d + 1) 0 0 m_Row_setAll [.ref a, .int x] σ P X := by
  obtain ⟨h1, h2, h3, h4, h5, h6, h7⟩ := rwB_s h
  refine meth_ok k_Row_setAll q_Row_setAll rfl fun At hAt => ?_
  have loop : ∀ k j, j + k = n → At 2 [.ref a, .int x, .int (nI j)] [] (uI σ na (fun i => if i < j then x else rI σ na i)) 0 0 := by
    intro k
    induction k with
    | zero =>
      intro j hj
      refine hAt 50 _ _ _ _ _ _ (cond_t (oOK_t h1 h2) (cond_t rfl (rMat_s h3 (cond_t (alB_t h4 h5) ?_))))
      rw [aLen_s h4, h6]
      refine And.intro (fun _ => ?_) (fun q => absurd (nI_le (by omega) (by omega)) q)
      rw [show j = n by omega]
      exact hP
    | succ k ih =>
      intro j hj
      refine hAt 50 _ _ _ _ _ _ (cond_t (oOK_t h1 h2) (cond_t rfl (rMat_s h3 (cond_t (alB_t h4 h5) ?_))))
      rw [aLen_s h4, h6]
      refine And.intro (fun q => absurd q (nI_ge (by omega) (by omega))) (fun _ => ?_)
      refine cond_t (oOK_t h1 h2) (cond_t rfl (rMat_s h3 (And.intro (aOK_t h4 h5 h6 (by omega) (by omega)) ?_)))
      rw [nI_cl (by omega), uI_wI (g := fun i => if i < j + 1 then x else rI σ na i) (fun i => by
        by_cases e : i = j
        · simp [e]
        · by_cases e2 : i < j <;> simp [e, e2] <;> omega)]
      have q := ih (j + 1) (by omega)
      rw [nI_s] at q
      exact q
  refine hAt 50 _ _ _ _ _ _ ?_
  have := loop n 0 (by omega)
  rw [uI_0 σ na (fun j => by simp)] at this
  exact this
theorem s_Row_copyFrom (h : rwB a na n = true) {a2 na2 : Nat} (h' : rwB a2 na2 n = true) (hne : na2 ≠ na) (hP : P none (uI σ na (fun j => if j < n then rI σ na2 j else rI σ na j))) : Ret w true (d + 1) 0 0 m_Row_copyFrom [.ref a, .ref a2] σ P X := by
  obtain ⟨h1, h2, h3, h4, h5, h6, h7⟩ := rwB_s h
  obtain ⟨g1, g2, g3, g4, g5, g6, g7⟩ := rwB_s h'
  refine meth_ok k_Row_copyFrom q_Row_copyFrom rfl fun At hAt => ?_
  have loop : ∀ k j, j + k = n → At 2 [.ref a, .ref a2, .int (nI j)] [] (uI σ na (fun i => if i < j then rI σ na2 i else rI σ na i)) 0 0 := by
    intro k
    induction k with
    | zero =>
      intro j hj
      refine hAt 50 _ _ _ _ _ _ (cond_t (oOK_t h1 h2) (cond_t rfl (rMat_s h3 (cond_t (alB_t h4 h5) ?_))))
      rw [aLen_s h4, h6]
      refine And.intro (fun _ => ?_) (fun q => absurd (nI_le (by omega) (by omega)) q)
      rw [show j = n by omega]
      exact hP
    | succ k ih =>
      intro j hj
      refine hAt 50 _ _ _ _ _ _ (cond_t (oOK_t h1 h2) (cond_t rfl (rMat_s h3 (cond_t (alB_t h4 h5) ?_))))
      rw [aLen_s h4, h6]
      refine And.intro (fun q => absurd q (nI_ge (by omega) (by omega))) (fun _ => ?_)
      refine cond_t (oOK_t g1 g2) (cond_t rfl (rMat_s g3 (cond_t (alB_t g4 g5) ?_)))
      rw [aLen_s g4, g6]
      refine And.intro (fun q => absurd q (nI_ge (by omega) (by omega))) (fun _ => ?_)
      refine cond_t (oOK_t h1 h2) (cond_t rfl (rMat_s h3 (cond_t (oOK_t g1 g2) (cond_t rfl (rMat_s g3 (And.intro (aOK_t g4 g5 g6 (by omega) (by omega)) (And.intro (aOK_t h4 h5 h6 (by omega) (by omega)) ?_)))))))
      rw [nI_cl (by omega), rI_uI, if_neg hne, uI_wI (g := fun i => if i < j + 1 then rI σ na2 i else rI σ na i) (fun i => by
        by_cases e : i = j
        · simp [e]
        · by_cases e2 : i < j <;> simp [e, e2] <;> omega)]
      have q := ih (j + 1) (by omega)
      rw [nI_s] at q
      exact q
  refine hAt 50 _ _ _ _ _ _ ?_
  have := loop n 0 (by omega)
  rw [uI_0 σ na (fun j => by simp)] at this
  exact this
/-! tables -/
theorem tix {r c mo wd : Nat} (hr : r < mo) (hc : c < wd) : r * wd + c < mo * wd := by
  have : (r + 1) * wd ≤ mo * wd := Nat.mul_le_mul_right wd hr
  rw [Nat.add_mul] at this; omega
theorem s_Table_size (h : tbB a na mo wd = true) (hP : P (some (.int (rI σ a 3))) σ) : Ret w true (d + 1) 0 0 m_Table_size [.ref a] σ P X := by
  obtain ⟨h1, h2, h3, h4, h5, h6, h7, h8, h9, h10, h11⟩ := tbB_s h
  refine meth_ok k_Table_size q_Table_size rfl fun At hAt => hAt 50 _ _ _ _ _ _ (cond_t (oOK_t h1 h2) hP)
theorem s_Table_isFull (h : tbB a na mo wd = true) {k : Nat} (hk : rI σ a 3 = nI k) (hk1 : k < 2 ^ 31) (hP : P (some (.int (if k < mo then nI 0 else nI 1))) σ) : Ret w true (d + 1) 0 0 m_Table_isFull [.ref a] σ P X := by
  obtain ⟨h1, h2, h3, h4, h5, h6, h7, h8, h9, h10, h11⟩ := tbB_s h
  have hmo : mo ≤ 1000 := Nat.le_trans (Nat.le_mul_of_pos_right mo (by omega)) h9
  refine meth_ok k_Table_isFull q_Table_isFull rfl fun At hAt => hAt 50 _ _ _ _ _ _ (cond_t (oOK_t h1 h2) (cond_t (oOK_t h1 h2) (cond_t rfl ?_)))
  rw [h7, hk]
  refine And.intro (fun q => ?_) (fun q => ?_)
  · rw [nI_ltI hk1 (by omega)] at q
    rw [if_pos q] at hP
    exact And.intro rfl hP
  · rw [nI_ltI hk1 (by omega)] at q
    rw [if_neg q] at hP
    exact And.intro rfl hP
theorem s_Table_get (h : tbB a na mo wd = true) {r c : Nat} (hr : r < mo) (hc : c < wd) (hP : P (some (.int (rI σ na (r * wd + c)))) σ) : Ret w true (d + 1) 0 0 m_Table_get [.ref a, .int (nI r), .int (nI c)] σ P X := by
  obtain ⟨h1, h2, h3, h4, h5, h6, h7, h8, h9, h10, h11⟩ := tbB_s h
  have hx := tix hr hc
  have hwd : wd ≤ 1000 := Nat.le_trans (Nat.le_mul_of_pos_left wd (by omega)) h9
  have e : nI r * nI wd + nI c = nI (r * wd + c) := by rw [nI_mul, nI_add]
  refine meth_ok k_Table_get q_Table_get rfl fun At hAt => hAt 50 _ _ _ _ _ _ (cond_t (oOK_t h1 h2) (cond_t rfl ?_))
  rw [h8]
  refine And.intro (fun q => absurd q (nI_nlt (Nat.zero_le c) (by omega))) (fun _ => cond_t (oOK_t h1 h2) (cond_t rfl ?_))
  rw [h8]
  refine And.intro (fun q => absurd q (nI_ge hc (by omega))) (fun _ => ?_)
  refine And.intro (fun q => absurd q (by rw [e]; exact nI_nlt (Nat.zero_le _) (by omega))) (fun _ => ?_)
  refine cond_t (oOK_t h1 h2) (cond_t rfl (rMat_s h3 (cond_t (alB_t h4 h5) ?_)))
  rw [aLen_s h4, h6]
  refine And.intro (fun q => absurd q (by rw [e]; exact nI_ge hx (by omega))) (fun _ => ?_)
  refine cond_t (oOK_t h1 h2) (cond_t rfl (rMat_s h3 (And.intro (by rw [e]; exact aOK_t h4 h5 h6 hx (by omega)) ?_)))
  rw [e, nI_cl (by omega)]
  exact hP
theorem s_Table_set (h : tbB a na mo wd = true) {r c : Nat} {x : Int32} (hr : r < mo) (hc : c < wd) (hP : P none (wI σ na (r * wd + c) x)) : Ret w true (d + 1) 0 0 m_Table_set [.ref a, .int (nI r), .int (nI c), .int x] σ P X := by
  obtain ⟨h1, h2, h3, h4, h5, h6, h7, h8, h9, h10, h11⟩ := tbB_s h
  have hx := tix hr hc
  have hwd : wd ≤ 1000 := Nat.le_trans (Nat.le_mul_of_pos_left wd (by omega)) h9
  have e : nI r * nI wd + nI c = nI (r * wd + c) := by rw [nI_mul, nI_add]
  refine meth_ok k_Table_set q_Table_set rfl fun At hAt => hAt 50 _ _ _ _ _ _ (cond_t (oOK_t h1 h2) (cond_t rfl ?_))
  rw [h8]
  refine And.intro (fun q => absurd q (nI_nlt (Nat.zero_le c) (by omega))) (fun _ => cond_t (oOK_t h1 h2) (cond_t rfl ?_))
  rw [h8]
  refine And.intro (fun q => absurd q (nI_ge hc (by omega))) (fun _ => ?_)
  refine And.intro (fun q => absurd q (by rw [e]; exact nI_nlt (Nat.zero_le _) (by omega))) (fun _ => ?_)
  refine cond_t (oOK_t h1 h2) (cond_t rfl (rMat_s h3 (cond_t (alB_t h4 h5) ?_)))
  rw [aLen_s h4, h6]
  refine And.intro (fun q => absurd q (by rw [e]; exact nI_ge hx (by omega))) (fun _ => ?_)
  refine cond_t (oOK_t h1 h2) (cond_t rfl (rMat_s h3 (And.intro (by rw [e]; exact aOK_t h4 h5 h6 hx (by omega)) ?_)))
  rw [e, nI_cl (by omega)]
  exact hP
theorem s_Table_add (h : tbB a na mo wd = true) {r c : Nat} {x : Int32} (hr : r < mo) (hc : c < wd) (hP : P none (wI σ na (r * wd + c) (rI σ na (r * wd + c) + x))) : Ret w true (d + 1) 0 0 m_Table_add [.ref a, .int (nI r), .int (nI c), .int x] σ P X := by
  obtain ⟨h1, h2, h3, h4, h5, h6, h7, h8, h9, h10, h11⟩ := tbB_s h
  have hx := tix hr hc
  have hwd : wd ≤ 1000 := Nat.le_trans (Nat.le_mul_of_pos_left wd (by omega)) h9
  have e : nI r * nI wd + nI c = nI (r * wd + c) := by rw [nI_mul, nI_add]
  refine meth_ok k_Table_add q_Table_add rfl fun At hAt => hAt 50 _ _ _ _ _ _ (cond_t (oOK_t h1 h2) (cond_t rfl ?_))
  rw [h8]
  refine And.intro (fun q => absurd q (nI_nlt (Nat.zero_le c) (by omega))) (fun _ => cond_t (oOK_t h1 h2) (cond_t rfl ?_))
  rw [h8]
  refine And.intro (fun q => absurd q (nI_ge hc (by omega))) (fun _ => ?_)
  refine And.intro (fun q => absurd q (by rw [e]; exact nI_nlt (Nat.zero_le _) (by omega))) (fun _ => ?_)
  refine cond_t (oOK_t h1 h2) (cond_t rfl (rMat_s h3 (cond_t (alB_t h4 h5) ?_)))
  rw [aLen_s h4, h6]
  refine And.intro (fun q => absurd q (by rw [e]; exact nI_ge hx (by omega))) (fun _ => ?_)
  refine cond_t (oOK_t h1 h2) (cond_t rfl (rMat_s h3 (And.intro (by rw [e]; exact aOK_t h4 h5 h6 hx (by omega)) (And.intro (by rw [e]; exact aOK_t h4 h5 h6 hx (by omega)) ?_))))
  rw [e, nI_cl (by omega)]
  exact hP
theorem s_Table_open (h : tbB a na mo wd = true) {k : Nat} (hk : rI σ a 3 = nI k) (hk1 : k < mo) (hP : P (some (.int (nI k))) (wI σ a 3 (nI (k + 1)))) : Ret w true (d + 2) 0 0 m_Table_open [.ref a] σ P X := by
  obtain ⟨h1, h2, h3, h4, h5, h6, h7, h8, h9, h10, h11⟩ := tbB_s h
  have hmo : mo ≤ 1000 := Nat.le_trans (Nat.le_mul_of_pos_right mo (by omega)) h9
  refine meth_ok k_Table_open q_Table_open rfl fun At hAt => hAt 50 _ _ _ _ _ _ (cond_t (oOK_t h1 h2) ?_)
  refine s_Table_isFull h hk (by omega) ?_
  rw [if_pos hk1]
  refine And.intro (fun _ => ?_) (fun q => absurd rfl q)
  refine cond_t (oOK_t h1 h2) ?_
  rw [hk]
  refine cond_t (oOK_t h1 h2) (cond_t (oOK_t h1 h2) ?_)
  have e1 : nI k + nI 1 = nI (k + 1) := nI_add k 1
  have e2 : rI (wI σ a 3 (nI (k + 1))) a 3 = nI (k + 1) := by rw [rI_wI]; simp
  have e3 : nI (k + 1) - nI 1 = nI k := nI_pred k
  show P (some (.int (rI (wI σ a 3 (nI k + nI 1)) a 3 - nI 1))) (wI σ a 3 (nI k + nI 1))
  rw [e1, e2, e3]
  exact hP
theorem s_Table_openF (h : tbB a na mo wd = true) {k : Nat} (hk : rI σ a 3 = nI k) (hk0 : k < 2 ^ 31) (hk1 : mo ≤ k) (hP : P (some (.int (-1))) σ) : Ret w true (d + 2) 0 0 m_Table_open [.ref a] σ P X := by
  obtain ⟨h1, h2, h3, h4, h5, h6, h7, h8, h9, h10, h11⟩ := tbB_s h
  refine meth_ok k_Table_open q_Table_open rfl fun At hAt => hAt 50 _ _ _ _ _ _ (cond_t (oOK_t h1 h2) ?_)
  refine s_Table_isFull h hk hk0 ?_
  rw [if_neg (by omega)]
  exact And.intro (fun q => absurd q (by decide)) (fun _ => hP)
/-- the sum of the first n -/
def sI (f : Nat → Int32) : Nat → Int32
  | 0 => 0
  | n + 1 => sI f n + f n
/-- the place of the most of the first n, of these the first -/
def moI (f : Nat → Int32) : Nat → Nat
  | 0 => 0
  | n + 1 => if f (moI f n) < f n then n else moI f n
theorem moI_lt (f : Nat → Int32) : ∀ n, moI f (n + 1) ≤ n
  | 0 => by unfold moI; split <;> simp [moI]
  | n + 1 => by
    have := moI_lt f n
    show (if f (moI f (n + 1)) < f (n + 1) then n + 1 else moI f (n + 1)) ≤ n + 1
    split <;> omega
/-- the first of n of which p holds, or n -/
def fsI (p : Nat → Bool) : Nat → Nat
  | 0 => 0
  | n + 1 => if fsI p n < n then fsI p n else if p n then n else n + 1
theorem sI_nI {f : Nat → Int32} {g : Nat → Nat} (h : ∀ j, f j = nI (g j)) : ∀ n, sI f n = nI (n.fold (fun i _ acc => acc + g i) 0)
  | 0 => rfl
  | n + 1 => by rw [sI, sI_nI h n, h n, nI_add, Nat.fold_succ]
theorem s_Table_sum (h : tbB a na mo wd = true) {r : Nat} (hr : r < mo) (hP : P (some (.int (sI (fun c => rI σ na (r * wd + c)) wd))) σ) : Ret w true (d + 2) 0 0 m_Table_sum [.ref a, .int (nI r)] σ P X := by
  obtain ⟨h1, h2, h3, h4, h5, h6, h7, h8, h9, h10, h11⟩ := tbB_s h
  have hwd : wd ≤ 1000 := Nat.le_trans (Nat.le_mul_of_pos_left wd (by omega)) h9
  refine meth_ok k_Table_sum q_Table_sum rfl fun At hAt => ?_
  have loop : ∀ k j, j + k = wd → At 4 [.ref a, .int (nI r), .int (sI (fun c => rI σ na (r * wd + c)) j), .int (nI j)] [] σ 0 0 := by
    intro k
    induction k with
    | zero =>
      intro j hj
      refine hAt 50 _ _ _ _ _ _ (cond_t (oOK_t h1 h2) (cond_t rfl ?_))
      rw [h8]
      refine And.intro (fun _ => ?_) (fun q => absurd (nI_le (by omega) (by omega)) q)
      rw [show j = wd by omega]
      exact hP
    | succ k ih =>
      intro j hj
      refine hAt 50 _ _ _ _ _ _ (cond_t (oOK_t h1 h2) (cond_t rfl ?_))
      rw [h8]
      refine And.intro (fun q => absurd q (nI_ge (by omega) (by omega))) (fun _ => ?_)
      refine cond_t (oOK_t h1 h2) (s_Table_get h hr (show j < wd by omega) ?_)
      have q := ih (j + 1) (by omega)
      rw [nI_s] at q
      exact q
  exact hAt 50 _ _ _ _ _ _ (loop wd 0 (by omega))
theorem s_Table_mostIn (h : tbB a na mo wd = true) {r : Nat} (hr : r < mo) (hP : P (some (.int (nI (moI (fun c => rI σ na (r * wd + c)) wd)))) σ) : Ret w true (d + 2) 0 0 m_Table_mostIn [.ref a, .int (nI r)] σ P X := by
  obtain ⟨h1, h2, h3, h4, h5, h6, h7, h8, h9, h10, h11⟩ := tbB_s h
  have hwd : wd ≤ 1000 := Nat.le_trans (Nat.le_mul_of_pos_left wd (by omega)) h9
  refine meth_ok k_Table_mostIn q_Table_mostIn rfl fun At hAt => ?_
  have loop : ∀ k j, j + 1 + k = wd → At 4 [.ref a, .int (nI r), .int (nI (moI (fun c => rI σ na (r * wd + c)) (j + 1))), .int (nI (j + 1))] [] σ 0 0 := by
    intro k
    induction k with
    | zero =>
      intro j hj
      refine hAt 50 _ _ _ _ _ _ (cond_t (oOK_t h1 h2) (cond_t rfl ?_))
      rw [h8]
      refine And.intro (fun _ => ?_) (fun q => absurd (nI_le (by omega) (by omega)) q)
      rw [show j + 1 = wd by omega]
      exact hP
    | succ k ih =>
      intro j hj
      refine hAt 50 _ _ _ _ _ _ (cond_t (oOK_t h1 h2) (cond_t rfl ?_))
      rw [h8]
      refine And.intro (fun q => absurd q (nI_ge (by omega) (by omega))) (fun _ => ?_)
      have hm := moI_lt (fun c => rI σ na (r * wd + c)) j
      refine cond_t (oOK_t h1 h2) (s_Table_get h hr (show j + 1 < wd by omega) ?_)
      refine cond_t (oOK_t h1 h2) (s_Table_get h hr (show moI (fun c => rI σ na (r * wd + c)) (j + 1) < wd by omega) ?_)
      have hn := ih (j + 1) (by omega)
      rw [nI_s (j + 1)] at hn
      have e : moI (fun c => rI σ na (r * wd + c)) (j + 1 + 1) = if rI σ na (r * wd + moI (fun c => rI σ na (r * wd + c)) (j + 1)) < rI σ na (r * wd + (j + 1)) then j + 1 else moI (fun c => rI σ na (r * wd + c)) (j + 1) := rfl
      refine And.intro (fun q => ?_) (fun q => ?_)
      · rw [e, if_neg (Int32.not_lt.mpr q)] at hn
        exact hn
      · rw [e, if_pos (Int32.not_le.mp q)] at hn
        exact hn
  have := loop (wd - 1) 0 (by omega)
  have e0 : moI (fun c => rI σ na (r * wd + c)) (0 + 1) = 0 := by have := moI_lt (fun c => rI σ na (r * wd + c)) 0; omega
  rw [e0] at this
  exact hAt 50 _ _ _ _ _ _ this
end TAB
