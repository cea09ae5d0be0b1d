/-! ROWS AND TABLES: contracts of the small classes -/
theorem cond_t {c : Bool} {P : Prop} (h : c = true) (hp : P) : cond c P False := by rw [h]; exact hp
theorem rMat_s {r n : Nat} {F : Nat → Prop} (h : r = n + 1) (hp : F n) : rMat r F := by rw [h]; exact hp
theorem blt_t {a n : Nat} (h : a < n) : Nat.blt a n = true := by simp [Nat.blt]; omega
theorem lvB_t {σ : Mem} {a : Nat} (h : a < ow_n0) : lvB true σ a = true := by unfold lvB; rw [blt_t h]; rfl
theorem oOK_t {σ : Mem} {a ci : Nat} (h : a < ow_n0) (hk : kS a = ci) : oOK true σ a ci = true := by
  unfold oOK; rw [lvB_t h, blt_t h, nbq]; simp [hk]
theorem aLen_s {σ : Mem} {a : Nat} (h : a < ow_n0) : aLen σ a = lS a := by unfold aLen; rw [blt_t h]; rfl
theorem aOK_t {σ : Mem} {a kd n j : Nat} (h : a < ow_n0) (hk : kS a = kd) (hl : lS a = n) (hj : j < n) (hn : n < 2 ^ 31) : aOK true σ a kd (nI j) :=
  ⟨lvB_t h, (kind_s h).trans hk, by rw [aLen_s h, hl]; exact vp_in_nI hj hn⟩
theorem alB_t {σ : Mem} {a n : Nat} (h : a < ow_n0) (hk : kS a = 12) : (lvB true σ a && Nat.ble 12 (kind σ a) && Nat.ble (kind σ a) 17) = true := by
  rw [lvB_t h, kind_s h, hk]; rfl
theorem nI_cl {j : Nat} (h : j < 2 ^ 31) : (nI j).toNatClampNeg = j := nI_clamp h
/-- a cell's contents, set as a whole -/
def uI (σ : Mem) (a : Nat) (f : Nat → Int32) : Mem := (fun b j => if b = a then f j else σ.1 b j, σ.2)
theorem rI_uI (σ : Mem) (a : Nat) (f : Nat → Int32) (b j : Nat) : rI (uI σ a f) b j = if b = a then f j else rI σ b j := rfl
theorem uI_uI (σ : Mem) (a : Nat) (f g : Nat → Int32) : uI (uI σ a f) a g = uI σ a g := by
  unfold uI
  simp only [Prod.mk.injEq, and_true]
  funext b j
  by_cases h : b = a <;> simp [h]
theorem wI_uI (σ : Mem) (a k : Nat) (x : Int32) : wI σ a k x = uI σ a (fun j => if j = k then x else rI σ a j) := by
  unfold wI uI
  simp only [Prod.mk.injEq, and_true]
  funext b j
  by_cases h : b = a
  · subst h; by_cases h2 : j = k <;> simp [h2, rI]
  · simp [h]
theorem uI_self (σ : Mem) (a : Nat) : uI σ a (rI σ a) = σ := by
  unfold uI
  refine Prod.ext ?_ rfl
  funext b j
  by_cases h : b = a
  · subst h; simp [rI]
  · simp [h]
theorem uI_ext {σ : Mem} {a : Nat} {f g : Nat → Int32} (h : ∀ j, f j = g j) : uI σ a f = uI σ a g := by rw [show f = g from funext h]
def rwB (a na n : Nat) : Bool := Nat.blt a ow_n0 && Nat.beq (kS a) 5 && Nat.beq (rS a 0) (na + 1) && Nat.blt na ow_n0 && Nat.beq (kS na) 12 && Nat.beq (lS na) n && Nat.ble n 1000
theorem rwB_s {a na n : Nat} (h : rwB a na n = true) : a < ow_n0 ∧ kS a = 5 ∧ rS a 0 = na + 1 ∧ na < ow_n0 ∧ kS na = 12 ∧ lS na = n ∧ n ≤ 1000 := by
  unfold rwB at h
  simp only [Bool.and_eq_true, nbq, decide_eq_true_eq, Nat.ble_eq] at h
  obtain ⟨⟨⟨⟨⟨⟨h1, h2⟩, h3⟩, h4⟩, h5⟩, h6⟩, h7⟩ := h
  simp [Nat.blt] at h1 h4
  exact ⟨by omega, h2, h3, by omega, h5, h6, h7⟩
def tbB (a na mo wd : Nat) : Bool := Nat.blt a ow_n0 && Nat.beq (kS a) 8 && Nat.beq (rS a 2) (na + 1) && Nat.blt na ow_n0 && Nat.beq (kS na) 12 && Nat.beq (lS na) (mo * wd) && Nat.beq (iSn a 0) mo && Nat.beq (iSn a 1) wd && Nat.ble (mo * wd) 1000 && Nat.ble 1 mo && Nat.ble 1 wd
theorem tbB_s {a na mo wd : Nat} (h : tbB a na mo wd = true) : a < ow_n0 ∧ kS a = 8 ∧ rS a 2 = na + 1 ∧ na < ow_n0 ∧ kS na = 12 ∧ lS na = mo * wd ∧ iSn a 0 = mo ∧ iSn a 1 = wd ∧ mo * wd ≤ 1000 ∧ 1 ≤ mo ∧ 1 ≤ wd := by
  unfold tbB at h
  simp only [Bool.and_eq_true, nbq, decide_eq_true_eq, Nat.ble_eq] at h
  obtain ⟨⟨⟨⟨⟨⟨⟨⟨⟨⟨h1, h2⟩, h3⟩, h4⟩, h5⟩, h6⟩, h7⟩, h8⟩, h9⟩, h10⟩, h11⟩ := h
  simp [Nat.blt] at h1 h4
  exact ⟨by omega, h2, h3, by omega, h5, h6, h7, h8, h9, h10, h11⟩
section TAB
variable {w : Wd} {d : Nat} {σ : Mem} {a na n mo wd : Nat} {P : Option AV → Mem → Prop} {X : Nat → Mem → Prop}
theorem s_Row_get (h : rwB a na n = true) {j : Nat} (hj : j < n) (hP : P (some (.int (rI σ na j))) σ) : Ret w true (d + 1) 0 0 m_Row_get [.ref a, .int (nI j)] σ P X := by
  obtain ⟨h1, h2, h3, h4, h5, h6, h7⟩ := rwB_s h
  refine meth_ok k_Row_get q_Row_get rfl fun At hAt => hAt 50 _ _ _ _ _ _ ?_
  refine And.intro (fun q => absurd q (nI_nlt (Nat.zero_le j) (by omega))) (fun _ => ?_)
  refine cond_t (oOK_t h1 h2) (cond_t rfl (rMat_s h3 (cond_t (alB_t (n := n) h4 h5) ?_)))
  rw [aLen_s h4, h6]
  refine And.intro (fun q => absurd q (nI_ge hj (by omega))) (fun _ => ?_)
  refine cond_t (oOK_t h1 h2) (cond_t rfl (rMat_s h3 (And.intro (aOK_t h4 h5 h6 hj (by omega)) ?_)))
  rw [nI_cl (by omega)]
  exact hP
end TAB
