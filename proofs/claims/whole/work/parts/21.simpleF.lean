/-! the small classes' contracts, with the places given by equations -/
section PR
variable {w : Wd} {d : Nat} {σ : Mem} {a na n mo wd : Nat} {P : Option AV → Mem → Prop} {X : Nat → Mem → Prop}
theorem z_Row_get (h : rwB a na n = true) {i : Int32} {j : Nat} (hi : i = nI j) (hj : j < n) (hP : P (some (.int (rI σ na j))) σ) : Ret w true (d + 1) 0 0 m_Row_get [.ref a, .int i] σ P X := by
  subst hi; exact s_Row_get h hj hP
theorem z_Row_set (h : rwB a na n = true) {i x : Int32} {j : Nat} (hi : i = nI j) (hj : j < n) (hP : P none (wI σ na j x)) : Ret w true (d + 1) 0 0 m_Row_set [.ref a, .int i, .int x] σ P X := by
  subst hi; exact s_Row_set h hj hP
theorem z_Row_add (h : rwB a na n = true) {i x : Int32} {j : Nat} (hi : i = nI j) (hj : j < n) (hP : P none (wI σ na j (rI σ na j + x))) : Ret w true (d + 1) 0 0 m_Row_add [.ref a, .int i, .int x] σ P X := by
  subst hi; exact s_Row_add h hj hP
theorem z_Table_get (h : tbB a na mo wd = true) {ri ci : Int32} {r c : Nat} (e1 : ri = nI r) (e2 : ci = nI c) (hr : r < mo) (hc : c < wd) (hP : P (some (.int (rI σ na (r * wd + c)))) σ) : Ret w true (d + 1) 0 0 m_Table_get [.ref a, .int ri, .int ci] σ P X := by
  subst e1; subst e2; exact s_Table_get h hr hc hP
theorem z_Table_set (h : tbB a na mo wd = true) {ri ci x : Int32} {r c : Nat} (e1 : ri = nI r) (e2 : ci = nI c) (hr : r < mo) (hc : c < wd) (hP : P none (wI σ na (r * wd + c) x)) : Ret w true (d + 1) 0 0 m_Table_set [.ref a, .int ri, .int ci, .int x] σ P X := by
  subst e1; subst e2; exact s_Table_set h hr hc hP
theorem z_Table_add (h : tbB a na mo wd = true) {ri ci x : Int32} {r c : Nat} (e1 : ri = nI r) (e2 : ci = nI c) (hr : r < mo) (hc : c < wd) (hP : P none (wI σ na (r * wd + c) (rI σ na (r * wd + c) + x))) : Ret w true (d + 1) 0 0 m_Table_add [.ref a, .int ri, .int ci, .int x] σ P X := by
  subst e1; subst e2; exact s_Table_add h hr hc hP
theorem z_Table_sum (h : tbB a na mo wd = true) {ri : Int32} {r : Nat} (e1 : ri = nI r) (hr : r < mo) (hP : P (some (.int (sI (fun c => rI σ na (r * wd + c)) wd))) σ) : Ret w true (d + 2) 0 0 m_Table_sum [.ref a, .int ri] σ P X := by
  subst e1; exact s_Table_sum h hr hP
theorem z_Table_mostIn (h : tbB a na mo wd = true) {ri : Int32} {r : Nat} (e1 : ri = nI r) (hr : r < mo) (hP : P (some (.int (nI (moI (fun c => rI σ na (r * wd + c)) wd)))) σ) : Ret w true (d + 2) 0 0 m_Table_mostIn [.ref a, .int ri] σ P X := by
  subst e1; exact s_Table_mostIn h hr hP
theorem z_Table_emptyRow (h : tbB a na mo wd = true) {ri : Int32} {r : Nat} (e1 : ri = nI r) (hr : r < mo) (hP : P none (uI σ na (fun j => if r * wd ≤ j ∧ j < r * wd + wd then nI 0 else rI σ na j))) : Ret w true (d + 2) 0 0 m_Table_emptyRow [.ref a, .int ri] σ P X := by
  subst e1; exact s_Table_emptyRow h hr hP
end PR
/-! BYTES, feed; books copied -/
def byt (x : Int32) (m : Nat) : Nat := x.toBitVec.toNat / 2 ^ (8 * m) % 256
theorem byt_lt (x : Int32) (m : Nat) : byt x m < 256 := Nat.mod_lt _ (by decide)
theorem bv_byt (X : BitVec 32) (s : Nat) : (X >>> s) &&& 255#32 = BitVec.ofNat 32 (X.toNat / 2 ^ s % 256) := by
  refine BitVec.eq_of_toNat_eq ?_
  rw [BitVec.toNat_and, BitVec.toNat_ushiftRight, Nat.shiftRight_eq_div_pow]
  have : (255#32).toNat = 2 ^ 8 - 1 := by decide
  rw [this, Nat.and_two_pow_sub_one_eq_mod, BitVec.toNat_ofNat]
  have : X.toNat / 2 ^ s % 256 < 256 := Nat.mod_lt _ (by decide)
  omega
theorem bv_sbyt (X : BitVec 32) (s : Nat) (hs : s ≤ 24) : (X.sshiftRight s) &&& 255#32 = (X >>> s) &&& 255#32 := by
  refine BitVec.eq_of_getLsbD_eq fun i hi => ?_
  rw [BitVec.getLsbD_and, BitVec.getLsbD_and, BitVec.getLsbD_sshiftRight, BitVec.getLsbD_ushiftRight]
  by_cases h : i < 8
  · rw [if_pos (by omega)]
    simp [show ¬ 32 ≤ i by omega]
  · have : (255#32).getLsbD i = false := by
      have h1 : (255#32) = BitVec.ofNat 32 (2 ^ 8 - 1) := by decide
      rw [h1, BitVec.getLsbD_ofNat, Nat.testBit_two_pow_sub_one]
      simp [h]
    rw [this, Bool.and_false, Bool.and_false]
theorem byt_u (x : Int32) (m : Nat) (hm : m < 4) : ((x.toUInt32 >>> ((nI (8 * m)).toUInt32 &&& Int32.toUInt32 31)).toInt32) &&& nI 255 = nI (byt x m) := by
  have : m = 0 ∨ m = 1 ∨ m = 2 ∨ m = 3 := by omega
  rcases this with rfl | rfl | rfl | rfl
  · exact congrArg (fun b => (⟨⟨b⟩⟩ : Int32)) (bv_byt x.toBitVec 0)
  · exact congrArg (fun b => (⟨⟨b⟩⟩ : Int32)) (bv_byt x.toBitVec 8)
  · exact congrArg (fun b => (⟨⟨b⟩⟩ : Int32)) (bv_byt x.toBitVec 16)
  · exact congrArg (fun b => (⟨⟨b⟩⟩ : Int32)) (bv_byt x.toBitVec 24)
theorem byt_s (x : Int32) (m : Nat) (hm : m < 4) : (x >>> (nI (8 * m) &&& 31)) &&& nI 255 = nI (byt x m) := by
  have : m = 0 ∨ m = 1 ∨ m = 2 ∨ m = 3 := by omega
  rcases this with rfl | rfl | rfl | rfl
  · exact congrArg (fun b => (⟨⟨b⟩⟩ : Int32)) ((bv_sbyt x.toBitVec 0 (by decide)).trans (bv_byt x.toBitVec 0))
  · exact congrArg (fun b => (⟨⟨b⟩⟩ : Int32)) ((bv_sbyt x.toBitVec 8 (by decide)).trans (bv_byt x.toBitVec 8))
  · exact congrArg (fun b => (⟨⟨b⟩⟩ : Int32)) ((bv_sbyt x.toBitVec 16 (by decide)).trans (bv_byt x.toBitVec 16))
  · exact congrArg (fun b => (⟨⟨b⟩⟩ : Int32)) ((bv_sbyt x.toBitVec 24 (by decide)).trans (bv_byt x.toBitVec 24))
/-- four bytes of x more stand on the tape, behind c -/
def fed4 (c : Nat) (x : Int32) (σ σ' : Mem) : Prop :=
  (∀ a j, a ≠ 2 → ¬ (a = 0 ∧ j = 1) → rI σ' a j = rI σ a j) ∧ rI σ' 0 1 = nI (c + 4) ∧ (∀ j, j < c → rI σ' 2 j = rI σ 2 j) ∧ (∀ i, i < 4 → rI σ' 2 (c + i) = nI (byt x (3 - i))) ∧ σ'.2 = σ.2
section SF
variable {w : Wd} {d : Nat} {σ : Mem} {A : St} {P : Option AV → Mem → Prop} {X : Nat → Mem → Prop}
theorem s_putNumber {c : Nat} {x : Int32} (hc : rI σ 0 1 = nI c) (hl : c + 4 ≤ 600) (hP : ∀ σ', fed4 c x σ σ' → P none σ') : Ret w true (d + 2) 0 0 m_OC_putNumber [.ref 0, .int x] σ P X := by
  refine meth_ok k_OC_putNumber q_OC_putNumber rfl fun At hAt => ?_
  have step : ∀ (m k : Nat) (τ : Mem), rI τ 0 1 = nI k → k < 600 → m < 4 → At 3 [.ref 0, .int x, .int (nI (8 * m) - nI 8)] [] (wI (wI τ 2 k (nI (byt x m))) 0 1 (nI (k + 1))) 0 0 → At 3 [.ref 0, .int x, .int (nI (8 * m))] [] τ 0 0 := by
    intro m k τ h1 h2 h3 h4
    refine hAt 50 _ _ _ _ _ _ ?_
    refine And.intro (fun q => absurd q (nI_nlt (Nat.zero_le _) (by omega))) (fun _ => ?_)
    refine z_Row_set (a := 1) (na := 2) (n := 600) rfl h1 h2 ?_
    have e : rI (wI τ 2 k (nI (byt x m))) 0 1 + nI 1 = nI (k + 1) := by rw [rI_wI, if_neg (by omega), h1, nI_add]
    rw [← e, ← byt_u x m h3] at h4
    exact h4
  refine hAt 50 _ _ _ _ _ _ ?_
  refine step 3 c _ hc (by omega) (by omega) ?_
  refine step 2 (c + 1) _ (by simp [rI_wI]) (by omega) (by omega) ?_
  refine step 1 (c + 2) _ (by simp [rI_wI]) (by omega) (by omega) ?_
  refine step 0 (c + 3) _ (by simp [rI_wI]) (by omega) (by omega) ?_
  refine hAt 50 _ _ _ _ _ _ ?_
  refine And.intro (fun _ => ?_) (fun q => absurd (by decide) q)
  refine hP _ ⟨fun a j h1 h2 => ?_, by simp [rI_wI], fun j hj => ?_, fun i hi => ?_, rfl⟩
  · simp only [rI_wI]
    rw [if_neg h2, if_neg (fun z => h1 z.1), if_neg h2, if_neg (fun z => h1 z.1), if_neg h2, if_neg (fun z => h1 z.1), if_neg h2, if_neg (fun z => h1 z.1)]
  · simp only [rI_wI]
    rw [if_neg (by omega), if_neg (by omega), if_neg (by omega), if_neg (by omega), if_neg (by omega), if_neg (by omega), if_neg (by omega), if_neg (by omega)]
  · have : i = 0 ∨ i = 1 ∨ i = 2 ∨ i = 3 := by omega
    rcases this with rfl | rfl | rfl | rfl <;> simp [rI_wI]
/-- the tape with five numbers more -/
def fdS (A : St) (n : Nat → Int32) : St := (aTc A + 20, fun j => if j < aTc A then aTp A j else byt (n ((j - aTc A) / 4)) (3 - (j - aTc A) % 4), A.2.2)
theorem CC_feed_full {a b c e f : Int32} (hv : VA A) (hl : 600 < aTc A + 20) : CC w (d + 3) m_OC_feed [.int a, .int b, .int c, .int e, .int f] A 0 (.int (-1)) A := by
  intro σ P X hI hP _
  have := hv.1
  refine meth_ok k_OC_feed q_OC_feed rfl fun At hAt => hAt 50 _ _ _ _ _ _ ?_
  refine And.intro (fun q => ?_) (fun _ => hP rfl σ (frC.rfl σ) hI)
  have q' : rI σ 0 1 + nI 20 ≤ nI 600 := q
  rw [hI.2.1, nI_add, nI_leI (by omega) (by omega)] at q'
  omega
theorem CC_feed_ok {n : Nat → Int32} (hv : VA A) (hl : aTc A + 20 ≤ 600) : CC w (d + 3) m_OC_feed [.int (n 0), .int (n 1), .int (n 2), .int (n 3), .int (n 4)] A 0 (.int (nI (aTc A + 20))) (fdS A n) := by
  intro σ P X hI hP _
  refine meth_ok k_OC_feed q_OC_feed rfl fun At hAt => hAt 50 _ _ _ _ _ _ ?_
  refine And.intro (fun _ => ?_) (fun q => absurd (show rI σ 0 1 + nI 20 ≤ nI 600 by rw [hI.2.1, nI_add]; exact nI_le hl (by omega)) q)
  refine s_putNumber (c := aTc A) hI.2.1 (by omega) fun σ1 g1 => ?_
  refine s_putNumber (c := aTc A + 4) g1.2.1 (by omega) fun σ2 g2 => ?_
  refine s_putNumber (c := aTc A + 8) g2.2.1 (by omega) fun σ3 g3 => ?_
  refine s_putNumber (c := aTc A + 12) g3.2.1 (by omega) fun σ4 g4 => ?_
  refine s_putNumber (c := aTc A + 16) g4.2.1 (by omega) fun σ5 g5 => ?_
  have hf : ∀ b j, b ≠ 2 → ¬ (b = 0 ∧ j = 1) → rI σ5 b j = rI σ b j := fun b j h1 h2 => by rw [g5.1 b j h1 h2, g4.1 b j h1 h2, g3.1 b j h1 h2, g2.1 b j h1 h2, g1.1 b j h1 h2]
  have h2 : σ5.2 = σ.2 := by rw [g5.2.2.2.2, g4.2.2.2.2, g3.2.2.2.2, g2.2.2.2.2, g1.2.2.2.2]
  have hN : mN σ5 = mN σ := congrArg (fun z => z.2.2.1) h2
  have hL : ∀ b j, rL σ5 b j = rL σ b j := fun b j => congrArg (fun z => z.1 b j) h2
  have hP' : ∀ σ' x, frC σ σ' → IC _ σ' → x = nI (aTc A + 20) → P (some (.int x)) σ' := fun σ' x h1 h2 h3 => by rw [h3]; exact hP rfl σ' h1 h2
  refine hP' σ5 _ ⟨fun b h3 h4 j => hf b j (by omega) (by omega), fun j => hL _ j, by omega⟩ ?_ g5.2.1
  obtain ⟨i1, i2, i3, i4, i5, i6, i7, i8⟩ := hI
  have ht : ∀ j, j < aTc A → rI σ5 2 j = rI σ 2 j := fun j hj => by rw [g5.2.2.1 j (by omega), g4.2.2.1 j (by omega), g3.2.2.1 j (by omega), g2.2.2.1 j (by omega), g1.2.2.1 j hj]
  have hb : ∀ i, i < 20 → rI σ5 2 (aTc A + i) = nI (byt (n (i / 4)) (3 - i % 4)) := by
    intro i hi
    by_cases z1 : i < 4
    · rw [g5.2.2.1 _ (by omega), g4.2.2.1 _ (by omega), g3.2.2.1 _ (by omega), g2.2.2.1 _ (by omega), g1.2.2.2.1 i z1, show i / 4 = 0 by omega, show i % 4 = i by omega]
    · by_cases z2 : i < 8
      · rw [g5.2.2.1 _ (by omega), g4.2.2.1 _ (by omega), g3.2.2.1 _ (by omega), show aTc A + i = aTc A + 4 + (i - 4) by omega, g2.2.2.2.1 (i - 4) (by omega), show i / 4 = 1 by omega, show i % 4 = i - 4 by omega]
      · by_cases z3 : i < 12
        · rw [g5.2.2.1 _ (by omega), g4.2.2.1 _ (by omega), show aTc A + i = aTc A + 8 + (i - 8) by omega, g3.2.2.2.1 (i - 8) (by omega), show i / 4 = 2 by omega, show i % 4 = i - 8 by omega]
        · by_cases z4 : i < 16
          · rw [g5.2.2.1 _ (by omega), show aTc A + i = aTc A + 12 + (i - 12) by omega, g4.2.2.2.1 (i - 12) (by omega), show i / 4 = 3 by omega, show i % 4 = i - 12 by omega]
          · rw [show aTc A + i = aTc A + 16 + (i - 16) by omega, g5.2.2.2.1 (i - 16) (by omega), show i / 4 = 4 by omega, show i % 4 = i - 16 by omega]
  refine ⟨by omega, g5.2.1, fun j hj => ?_, by rw [hf _ _ (by omega) (by omega)]; exact i4, ?_, ?_, by rw [hf _ _ (by omega) (by omega)]; exact i7, fun i hi => ?_⟩
  · show rI σ5 2 j = nI (if j < aTc A then aTp A j else byt (n ((j - aTc A) / 4)) (3 - (j - aTc A) % 4))
    have hj' : j < aTc A + 20 := hj
    by_cases z : j < aTc A
    · rw [if_pos z, ht j z]; exact i3 j z
    · rw [if_neg z]
      have := hb (j - aTc A) (by omega)
      rw [show aTc A + (j - aTc A) = j by omega] at this
      exact this
  · obtain ⟨k1, k2, k3, k4, k5, k6⟩ := i5
    have f := fun a (q : 4 ≤ a) j => hf a j (by omega) (by omega)
    exact ⟨fun i hi => by rw [f _ (by omega)]; exact k1 i hi, k2.frame (f _ (by omega)) (f _ (by omega)), k3.frame (f _ (by omega)) (f _ (by omega)), k4.frame (f _ (by omega)) (f _ (by omega)), k5.frame (f _ (by omega)) (f _ (by omega)), fun k hk h hh => by rw [f _ (by omega)]; exact k6 k hk h hh⟩
  · have f := fun a (q : 4 ≤ a) j => hf a j (by omega) (by omega)
    exact ⟨i6.1.frame (f _ (by omega)) (f _ (by omega)), i6.2.1.frame (f _ (by omega)) (f _ (by omega)), i6.2.2.frame (f _ (by omega)) (f _ (by omega))⟩
  · have f := fun a (q : 4 ≤ a) j => hf a j (by omega) (by omega)
    obtain ⟨k1, k2, k3⟩ := i8 i hi
    exact ⟨k1.frame (f _ (by omega)) (f _ (by omega)), k2.frame (f _ (by omega)) (f _ (by omega)), k3.frame (f _ (by omega)) (f _ (by omega))⟩
end SF
