/-! BOTH SIDES OF A CALL: the same class of answer, the same number, the same state after, and the state stays valid -/
def T0 (t c : Nat) : Prop := t = 0 ∧ c = 0
def T1 (k : Nat) (t c : Nat) : Prop := (t = 0 ∧ c = 0) ∨ (t = k + 1 ∧ c = 1)
def T2 (k : Nat) (t c : Nat) : Prop := (t = 0 ∧ c = 0) ∨ (t = k + 1 ∧ c = 1) ∨ (t = 1 ∧ c = 2)
def DU (w : Wd) (mc mm KC KS : Nat) (as : List AV) (A : St) (T : Nat → Nat → Prop) : Prop := ∃ (t c : Nat) (y : Int32) (A' : St), T t c ∧ CC w 49 mc as A t (.int y) A' ∧ MC w 50 KC KS mm as A c (.int y) A' ∧ VA A'
def DL (w : Wd) (mc mm KC KS : Nat) (as : List AV) (A : St) (T : Nat → Nat → Prop) : Prop := ∃ (t c : Nat) (y : Int64) (A' : St), T t c ∧ CC w 49 mc as A t (.long y) A' ∧ ML w 50 KC KS mm as A c (.long y) A' ∧ VA A'
theorem T1.ok {k : Nat} : T1 k 0 0 := Or.inl ⟨rfl, rfl⟩
theorem T1.bad {k : Nat} : T1 k (k + 1) 1 := Or.inr ⟨rfl, rfl⟩
theorem T2.ok {k : Nat} : T2 k 0 0 := Or.inl ⟨rfl, rfl⟩
theorem T2.b1 {k : Nat} : T2 k (k + 1) 1 := Or.inr (Or.inl ⟨rfl, rfl⟩)
theorem T2.b2 {k : Nat} : T2 k 1 2 := Or.inr (Or.inr ⟨rfl, rfl⟩)
theorem rngL {x : Int32} {n : Nat} (hn : n < 2 ^ 31) (h0 : ¬ x < nI 0) (h1 : ¬ nI n ≤ x) : ∃ j, j < n ∧ x = nI j := (rng x hn).elim id (fun q => q.elim (fun q => absurd q h0) (fun q => absurd q h1))
theorem rngE {x : Int32} {n : Nat} (hn : n + 1 < 2 ^ 31) (h0 : ¬ x < nI 0) (h1 : ¬ nI n < x) : ∃ j, j ≤ n ∧ x = nI j := by
  rcases rng x hn with ⟨j, hj, e⟩ | q | q
  · exact ⟨j, by omega, e⟩
  · exact absurd q h0
  · refine absurd ?_ h1
    have a1 := Int32.le_iff_toInt_le.mp q
    rw [Int32.lt_iff_toInt_lt]
    rw [nI_toInt hn] at a1
    rw [nI_toInt (by omega)]
    omega
theorem rngS {x : Int32} {n : Nat} (hn : n + 1 < 2 ^ 31) : (∃ j, j ≤ n ∧ x = nI j) ∨ (x < nI 0 ∨ nI n < x) := by
  by_cases h0 : x < nI 0
  · exact Or.inr (Or.inl h0)
  · by_cases h1 : nI n < x
    · exact Or.inr (Or.inr h1)
    · exact Or.inl (rngE hn h0 h1)
theorem nlt_le {a b : Nat} (ha : a < 2 ^ 31) (hb : b < 2 ^ 31) (h : ¬ nI a < nI b) : b ≤ a := by
  by_cases q : a < b
  · refine absurd ?_ h
    rw [Int32.lt_iff_toInt_lt, nI_toInt ha, nI_toInt hb]; omega
  · omega
/-! the state stays valid -/
theorem VA.bk {A : St} {b : Bk} (hv : VA A) (hb : VB (aSk A) b) : VA (sBk A b) := ⟨hv.1, hv.2.1, hv.2.2.1, hb, hv.2.2.2.2.1, hv.2.2.2.2.2⟩
theorem VA.im {A : St} (hv : VA A) (h : aIn A < 3) : VA (imS A) := by
  refine ⟨hv.1, hv.2.1, hv.2.2.1, hv.2.2.2.1, h, fun i hi => ?_⟩
  show VB (aSk A) (if i = aIn A then aBk A else aIm A i)
  have hi : i < aIn A + 1 := hi
  by_cases q : i = aIn A
  · rw [if_pos q]; exact hv.2.2.2.1
  · rw [if_neg q]; exact hv.2.2.2.2.2 i (by omega)
theorem VA.re {A : St} (hv : VA A) (h : 0 < aIn A) : VA (reS A) := by
  refine ⟨hv.1, hv.2.1, hv.2.2.1, hv.2.2.2.2.2 _ (by omega), ?_, fun i hi => hv.2.2.2.2.2 i ?_⟩
  · show aIn A - 1 ≤ 3
    have := hv.2.2.2.2.1; omega
  · have hi : i < aIn A - 1 := hi
    omega
theorem VA.fd {A : St} {n : Nat → Int32} (hv : VA A) (h : aTc A + 20 ≤ 600) : VA (fdS A n) := by
  refine ⟨h, fun j hj => ?_, hv.2.2⟩
  show (if j < aTc A then aTp A j else byt (n ((j - aTc A) / 4)) (3 - (j - aTc A) % 4)) < 256
  by_cases q : j < aTc A
  · rw [if_pos q]; exact hv.2.1 j q
  · rw [if_neg q]; exact byt_lt _ _
theorem VB.e1 {s : Sk} {b : Bk} (h : VB s b) : VB s (eT b.1, b.2) := ⟨Nat.zero_le _, h.2.1, h.2.2.1, fun k hk => absurd hk (Nat.not_lt_zero k), h.2.2.2.2⟩
theorem VB.e2 {s : Sk} {b : Bk} (h : VB s b) : VB s (b.1, eT b.2.1, b.2.2) := ⟨h.1, Nat.zero_le _, h.2.2.1, h.2.2.2.1, fun k hk => absurd hk (Nat.not_lt_zero k), h.2.2.2.2.2⟩
theorem VB.e3 {s : Sk} {b : Bk} (h : VB s b) : VB s (b.1, b.2.1, eT b.2.2) := ⟨h.1, h.2.1, Nat.zero_le _, h.2.2.2.1, h.2.2.2.2.1, fun k hk => absurd hk (Nat.not_lt_zero k), fun k _ hk => absurd hk (Nat.not_lt_zero k)⟩
theorem VB.a1 {s : Sk} {b : Bk} {r : Nat → Nat} (h : VB s b) (hf : b.1.1 < 30) (hr : r 0 < 50 ∧ r 1 < kT s 2 ∧ r 2 ≤ 2 ∧ r 3 ≤ 999 ∧ (r 2 = 0 → 1 ≤ r 3) ∧ (r 2 = 1 → r 3 ≤ 8) ∧ (r 2 = 2 → r 3 = 0)) : VB s (addR b.1 r, b.2) := by
  refine ⟨hf, h.2.1, h.2.2.1, fun k hk => ?_, h.2.2.2.2⟩
  have hk : k < b.1.1 + 1 := hk
  by_cases q : k = b.1.1
  · subst q
    have e : ∀ i, (addR b.1 r).2 b.1.1 i = r i := fun i => if_pos rfl
    show (addR b.1 r).2 b.1.1 0 < 50 ∧ (addR b.1 r).2 b.1.1 1 < kT s 2 ∧ (addR b.1 r).2 b.1.1 2 ≤ 2 ∧ (addR b.1 r).2 b.1.1 3 ≤ 999 ∧ ((addR b.1 r).2 b.1.1 2 = 0 → 1 ≤ (addR b.1 r).2 b.1.1 3) ∧ ((addR b.1 r).2 b.1.1 2 = 1 → (addR b.1 r).2 b.1.1 3 ≤ 8) ∧ ((addR b.1 r).2 b.1.1 2 = 2 → (addR b.1 r).2 b.1.1 3 = 0)
    rw [e, e, e, e]; exact hr
  · have e : ∀ i, (addR b.1 r).2 k i = b.1.2 k i := fun i => if_neg q
    show (addR b.1 r).2 k 0 < 50 ∧ (addR b.1 r).2 k 1 < kT s 2 ∧ (addR b.1 r).2 k 2 ≤ 2 ∧ (addR b.1 r).2 k 3 ≤ 999 ∧ ((addR b.1 r).2 k 2 = 0 → 1 ≤ (addR b.1 r).2 k 3) ∧ ((addR b.1 r).2 k 2 = 1 → (addR b.1 r).2 k 3 ≤ 8) ∧ ((addR b.1 r).2 k 2 = 2 → (addR b.1 r).2 k 3 = 0)
    rw [e, e, e, e]; exact h.2.2.2.1 k (by omega)
theorem VB.a2 {s : Sk} {b : Bk} {r : Nat → Nat} (h : VB s b) (hf : b.2.1.1 < 8) (hr : r 0 ≤ 6 ∧ (1 ≤ r 1 ∧ r 1 ≤ 999) ∧ r 2 ≤ 99) : VB s (b.1, addR b.2.1 r, b.2.2) := by
  refine ⟨h.1, hf, h.2.2.1, h.2.2.2.1, fun k hk => ?_, h.2.2.2.2.2⟩
  have hk : k < b.2.1.1 + 1 := hk
  by_cases q : k = b.2.1.1
  · subst q
    have e : ∀ i, (addR b.2.1 r).2 b.2.1.1 i = r i := fun i => if_pos rfl
    show (addR b.2.1 r).2 b.2.1.1 0 ≤ 6 ∧ (1 ≤ (addR b.2.1 r).2 b.2.1.1 1 ∧ (addR b.2.1 r).2 b.2.1.1 1 ≤ 999) ∧ (addR b.2.1 r).2 b.2.1.1 2 ≤ 99
    rw [e, e, e]; exact hr
  · have e : ∀ i, (addR b.2.1 r).2 k i = b.2.1.2 k i := fun i => if_neg q
    show (addR b.2.1 r).2 k 0 ≤ 6 ∧ (1 ≤ (addR b.2.1 r).2 k 1 ∧ (addR b.2.1 r).2 k 1 ≤ 999) ∧ (addR b.2.1 r).2 k 2 ≤ 99
    rw [e, e, e]; exact h.2.2.2.2.1 k (by omega)
theorem VB.a3 {s : Sk} {b : Bk} {r : Nat → Nat} (h : VB s b) (hf : b.2.2.1 < 9) (hr : r 0 < kT s 0 ∧ r 1 < kT s 1 ∧ r 2 ≤ 9999) (hn : ¬ hasG b.2.2 (r 0) (r 1)) : VB s (b.1, b.2.1, addR b.2.2 r) := by
  have e : ∀ i, (addR b.2.2 r).2 b.2.2.1 i = r i := fun i => if_pos rfl
  have e' : ∀ k i, ¬ k = b.2.2.1 → (addR b.2.2 r).2 k i = b.2.2.2 k i := fun k i q => if_neg q
  refine ⟨h.1, h.2.1, hf, h.2.2.2.1, h.2.2.2.2.1, fun k hk => ?_, fun k j hk hj h0 h1 => ?_⟩
  · have hk : k < b.2.2.1 + 1 := hk
    show (addR b.2.2 r).2 k 0 < kT s 0 ∧ (addR b.2.2 r).2 k 1 < kT s 1 ∧ (addR b.2.2 r).2 k 2 ≤ 9999
    by_cases q : k = b.2.2.1
    · subst q
      rw [e, e, e]; exact hr
    · rw [e' k _ q, e' k _ q, e' k _ q]; exact h.2.2.2.2.2.1 k (by omega)
  · have hk : k < b.2.2.1 + 1 := hk
    have hj : j < b.2.2.1 + 1 := hj
    have h0 : (addR b.2.2 r).2 k 0 = (addR b.2.2 r).2 j 0 := h0
    have h1 : (addR b.2.2 r).2 k 1 = (addR b.2.2 r).2 j 1 := h1
    by_cases q : k = b.2.2.1
    · by_cases q2 : j = b.2.2.1
      · omega
      · rw [q, e, e' j _ q2] at h0 h1
        exact absurd ⟨j, by omega, h0.symm, h1.symm⟩ hn
    · by_cases q2 : j = b.2.2.1
      · rw [q2, e, e' k _ q] at h0 h1
        exact absurd ⟨k, by omega, h0, h1⟩ hn
      · rw [e' k _ q, e' j _ q2] at h0 h1
        exact h.2.2.2.2.2.2 k j (by omega) (by omega) h0 h1
section DUO
variable {w : Wd} {A : St}
theorem D_sky (hv : VA A) (x : Int32) : DU w m_OC_sky m_Mo_sky 0 0 [.int x] A (T1 0) := by
  rcases rngS (x := x) (n := aTc A) (by have := hv.1; omega) with ⟨n, hn, rfl⟩ | h
  · exact ⟨0, 0, _, _, T1.ok, CC_sky_ok (d := 40) hv hn, MC_sky_ok (d := 43) hv hn, hv.sky n⟩
  · exact ⟨1, 1, 0, A, T1.bad, CC_sky_bad (d := 40) h, MC_sky_bad (d := 43) hv h, hv⟩
theorem D_fault (hv : VA A) : DU w m_OC_fault m_Mo_fault 0 0 [] A T0 := ⟨0, 0, _, A, ⟨rfl, rfl⟩, CC_fault (d := 48), MC_fault (d := 49) hv, hv⟩
theorem D_told (hv : VA A) (x : Int32) : DU w m_OC_told m_Mo_told 0 0 [.int x] A (T1 0) := by
  rcases rng x (n := 10) (by decide) with ⟨j, hj, rfl⟩ | h
  · exact ⟨0, 0, _, A, T1.ok, CC_told_ok (d := 42) hj, MC_told_ok (d := 47) hv hj, hv⟩
  · exact ⟨1, 1, 0, A, T1.bad, CC_told_bad (d := 42) h, MC_told_bad (d := 47) hv h, hv⟩
theorem VA.c8 (hv : VA A) : kT (aSk A) 2 < 2 ^ 31 := by have := hv.2.2.1.2.2.1; omega
theorem VA.f12 (hv : VA A) : kT (aSk A) 3 < 2 ^ 31 := by have := hv.2.2.1.2.2.2.1; omega
theorem D_owner (hv : VA A) (x : Int32) : DU w m_OC_owner m_Mo_owner 0 0 [.int x] A (T1 1) := by
  rcases rng x hv.c8 with ⟨j, hj, rfl⟩ | h
  · exact ⟨0, 0, _, A, T1.ok, CC_owner_ok (d := 42) hv hj, MC_owner_ok (d := 47) hv hj, hv⟩
  · exact ⟨2, 1, 0, A, T1.bad, CC_owner_bad (d := 42) h, MC_owner_bad (d := 47) hv h, hv⟩
theorem D_path (hv : VA A) (x y : Int32) : DU w m_OC_path m_Mo_path 0 0 [.int x, .int y] A (T2 1) := by
  rcases rng x hv.c8 with ⟨j, hj, rfl⟩ | h
  · rcases rng y (n := 50) (by decide) with ⟨i, hi, rfl⟩ | h
    · exact ⟨0, 0, _, A, T2.ok, CC_path_ok (d := 42) hv hj hi, MC_path_ok (d := 46) hv hj hi, hv⟩
    · exact ⟨1, 2, 0, A, T2.b2, CC_path_bad2 (d := 42) hv hj h, MC_path_bad2 (d := 46) hv hj h, hv⟩
  · exact ⟨2, 1, 0, A, T2.b1, CC_path_bad1 (d := 42) h, MC_path_bad1 (d := 46) hv h, hv⟩
theorem D_field (hv : VA A) (x y : Int32) : DU w m_OC_field m_Mo_field 0 0 [.int x, .int y] A (T2 2) := by
  rcases rng x hv.f12 with ⟨j, hj, rfl⟩ | h
  · rcases rng y (n := 6) (by decide) with ⟨i, hi, rfl⟩ | h
    · exact ⟨0, 0, _, A, T2.ok, CC_field_ok (d := 42) hv hj hi, MC_field_ok (d := 47) hv hj hi, hv⟩
    · exact ⟨1, 2, 0, A, T2.b2, CC_field_bad2 (d := 42) hv hj h, MC_field_bad2 (d := 47) hv hj h, hv⟩
  · exact ⟨3, 1, 0, A, T2.b1, CC_field_bad1 (d := 42) h, MC_field_bad1 (d := 47) hv h, hv⟩
theorem okO_s {k n : Int32} (h : okO k n = true) : ∃ k' n', k = nI k' ∧ n = nI n' ∧ k' ≤ 2 ∧ n' ≤ 999 ∧ (k' = 0 → 1 ≤ n') ∧ (k' = 1 → n' ≤ 8) ∧ (k' = 2 → n' = 0) := by
  unfold okO at h
  rcases of_decide_eq_true h with ⟨h1, h2, h3⟩ | ⟨h1, h2, h3⟩ | ⟨h1, h2⟩
  · have h0 : ¬ n < nI 0 := fun q => h2 (by
      rw [Int32.lt_iff_toInt_lt] at q ⊢
      rw [nI_toInt (by decide)] at q ⊢; omega)
    obtain ⟨n', hn, rfl⟩ := rngE (n := 999) (by decide) h0 h3
    exact ⟨0, n', h1, rfl, by omega, hn, fun _ => nlt_le (by omega) (by decide) h2, fun q => by omega, fun q => by omega⟩
  · obtain ⟨n', hn, rfl⟩ := rngE (n := 8) (by decide) h2 h3
    exact ⟨1, n', h1, rfl, by omega, by omega, fun q => by omega, fun _ => hn, fun q => by omega⟩
  · exact ⟨2, 0, h1, h2, by omega, by omega, fun q => by omega, fun q => by omega, fun _ => rfl⟩
theorem D_order (hv : VA A) (h x k n : Int32) : DU w m_OC_order m_Mo_order 0 0 [.int h, .int x, .int k, .int n] A (T2 1) := by
  rcases rng x hv.c8 with ⟨j, hj, rfl⟩ | q
  · by_cases hh : (¬ h < nI 0 ∧ ¬ nI 50 ≤ h) ∧ okO k n = true
    · obtain ⟨⟨q1, q2⟩, ho⟩ := hh
      obtain ⟨h', hh', rfl⟩ := rngL (n := 50) (by decide) q1 q2
      obtain ⟨k', n', rfl, rfl, b1, b2, b3, b4, b5⟩ := okO_s ho
      by_cases hf : (aBk A).1.1 < 30
      · refine ⟨0, 0, _, _, T2.ok, CC_order_ok (d := 42) hv hj hh' ho hf, MC_order_ok (d := 47) (by omega) hv hj hh' ho (_, _) (by rw [if_pos hf]; rfl), hv.bk (hv.2.2.2.1.a1 hf ⟨hh', hj, b1, b2, b3, b4, b5⟩)⟩
      · exact ⟨0, 0, _, A, T2.ok, CC_order_full (d := 42) hv hj hh' ho hf, MC_order_ok (d := 47) (by omega) hv hj hh' ho (_, _) (by rw [if_neg hf]), hv⟩
    · exact ⟨1, 2, 0, A, T2.b2, CC_order_bad2 (d := 42) hv hj hh, MC_order_bad2 (d := 47) hv hj hh, hv⟩
  · exact ⟨2, 1, 0, A, T2.b1, CC_order_bad1 (d := 42) q, MC_order_bad1 (d := 47) hv q, hv⟩
theorem D_clear (hv : VA A) : DU w m_OC_clear m_Mo_clear 0 0 [] A T0 := ⟨0, 0, _, _, ⟨rfl, rfl⟩, CC_clear (d := 47), MC_clear (d := 49) hv, hv.bk hv.2.2.2.1.e1⟩
theorem D_forget (hv : VA A) : DU w m_OC_forget m_Mo_forget 0 0 [] A T0 := ⟨0, 0, _, _, ⟨rfl, rfl⟩, CC_forget (d := 47), MC_forget (d := 49) hv, hv.bk hv.2.2.2.1.e2⟩
theorem D_away (hv : VA A) : DU w m_OC_away m_Mo_away 0 0 [] A T0 := ⟨0, 0, _, _, ⟨rfl, rfl⟩, CC_away (d := 47), MC_away (d := 49) hv, hv.bk hv.2.2.2.1.e3⟩
theorem D_count (hv : VA A) (x : Int32) : DU w m_OC_count m_Mo_count 0 0 [.int x] A T0 := by
  rcases rng x (n := 5) (by decide) with ⟨j, hj, rfl⟩ | h
  · exact ⟨0, 0, _, A, ⟨rfl, rfl⟩, CC_count_ok (d := 47) hj, MC_count_ok (d := 49) hv hj, hv⟩
  · exact ⟨0, 0, _, A, ⟨rfl, rfl⟩, CC_count_bad (d := 47) h, MC_count_bad (d := 49) hv h, hv⟩
theorem D_image (hv : VA A) : DU w m_OC_image m_Mo_image 0 0 [] A T0 := by
  by_cases h : aIn A < 3
  · exact ⟨0, 0, _, _, ⟨rfl, rfl⟩, CC_image_ok (d := 46) hv h, MC_image_ok (d := 47) hv h, hv.im h⟩
  · have h3 : aIn A = 3 := by have := hv.2.2.2.2.1; omega
    exact ⟨0, 0, _, A, ⟨rfl, rfl⟩, CC_image_full (d := 46) h3, MC_image_full (d := 47) hv h3, hv⟩
theorem D_restore (hv : VA A) : DU w m_OC_restore m_Mo_restore 0 0 [] A T0 := by
  by_cases h : 0 < aIn A
  · exact ⟨0, 0, _, _, ⟨rfl, rfl⟩, CC_restore_ok (d := 46) hv h, MC_restore_ok (d := 47) hv h, hv.re h⟩
  · have h3 : aIn A = 0 := by omega
    exact ⟨0, 0, _, A, ⟨rfl, rfl⟩, CC_restore_no (d := 46) h3, MC_restore_no (d := 47) hv h3, hv⟩
theorem D_feed (hv : VA A) (a b c e f : Int32) : DU w m_OC_feed m_Mo_feed 0 0 [.int a, .int b, .int c, .int e, .int f] A T0 := by
  by_cases h : aTc A + 20 ≤ 600
  · exact ⟨0, 0, _, _, ⟨rfl, rfl⟩, CC_feed_ok (d := 46) (n := fun i => if i = 0 then a else if i = 1 then b else if i = 2 then c else if i = 3 then e else f) hv h, MC_feed_ok (d := 49) (n := fun i => if i = 0 then a else if i = 1 then b else if i = 2 then c else if i = 3 then e else f) hv h, hv.fd h⟩
  · exact ⟨0, 0, _, A, ⟨rfl, rfl⟩, CC_feed_full (d := 46) hv (by omega), MC_feed_full (d := 49) hv (by omega), hv⟩
theorem D_bid (hv : VA A) (f m p : Int32) : DU w m_OC_bid m_Mo_bid 0 0 [.int f, .int m, .int p] A (T1 0) := by
  by_cases hx : okB3 f m p
  · obtain ⟨h1, h2, h3, h4, h5, h6⟩ := id hx
    by_cases hf : (aBk A).2.1.1 < 8
    · obtain ⟨f', hf', rfl⟩ := rngL (n := 7) (by decide) h1 h2
      have h0 : ¬ m < nI 0 := fun q => h3 (by
        rw [Int32.lt_iff_toInt_lt] at q ⊢
        rw [nI_toInt (by decide)] at q ⊢; omega)
      obtain ⟨m', hm', rfl⟩ := rngE (n := 999) (by decide) h0 h4
      obtain ⟨p', hp', rfl⟩ := rngE (n := 99) (by decide) h5 h6
      exact ⟨0, 0, _, _, T1.ok, CC_bid_ok (d := 42) hx hf, MC_bid_ok (d := 47) hv hx hf, hv.bk (hv.2.2.2.1.a2 hf ⟨show f' ≤ 6 by omega, ⟨show 1 ≤ m' from nlt_le (by omega) (by decide) h3, show m' ≤ 999 from hm'⟩, show p' ≤ 99 from hp'⟩)⟩
    · exact ⟨0, 0, _, A, T1.ok, CC_bid_full (d := 42) hv hx hf, MC_bid_full (d := 47) hv hx hf, hv⟩
  · exact ⟨1, 1, 0, A, T1.bad, CC_bid_bad (d := 42) hx, MC_bid_bad (d := 47) hv hx, hv⟩
theorem D_gauge (hv : VA A) (x y n : Int32) : DU w m_OC_gauge m_Mo_gauge 0 0 [.int x, .int y, .int n] A (T1 0) := by
  by_cases hx : okG (aSk A) x y n
  · obtain ⟨h1, h2, h3, h4, h5, h6⟩ := id hx
    have v0 := hv.2.2.1.1.2
    have v1 := hv.2.2.1.2.1.2
    obtain ⟨x', hx', rfl⟩ := rngL (by omega) h1 h2
    obtain ⟨y', hy', rfl⟩ := rngL (by omega) h3 h4
    obtain ⟨n', hn', rfl⟩ := rngE (n := 9999) (by decide) h5 h6
    have hM := MC_gauge_ok (w := w) (d := 47) hv hx ⟨by omega, by omega⟩
    by_cases hg : hasG (aBk A).2.2 x' y'
    · exact ⟨0, 0, _, A, T1.ok, CC_gauge_no (d := 42) hv hx ⟨by omega, by omega⟩ (Or.inl hg), hM.1 (Or.inl hg), hv⟩
    · by_cases hf : (aBk A).2.2.1 < 9
      · exact ⟨0, 0, _, _, T1.ok, CC_gauge_ok (d := 42) hv hx ⟨by omega, by omega⟩ hg hf, hM.2 ⟨hg, hf⟩, hv.bk (hv.2.2.2.1.a3 hf ⟨hx', hy', hn'⟩ hg)⟩
      · exact ⟨0, 0, _, A, T1.ok, CC_gauge_no (d := 42) hv hx ⟨by omega, by omega⟩ (Or.inr hf), hM.1 (Or.inr hf), hv⟩
  · exact ⟨1, 1, 0, A, T1.bad, CC_gauge_bad (d := 42) hx, MC_gauge_bad (d := 47) hv hx, hv⟩
theorem D_day (hv : VA A) (s x : Int32) : DU w m_OC_day m_Mo_day 433 3464 [.int s, .int x] A (T1 0) := by
  rcases rng x (n := 8) (by decide) with ⟨j, hj, rfl⟩ | h
  · exact ⟨0, 0, _, A, T1.ok, CC_day_ok (d := 41) hv hj, MC_day_ok (d := 44) hv hj, hv⟩
  · exact ⟨1, 1, 0, A, T1.bad, CC_day_bad (d := 41) h, MC_day_bad (d := 44) hv h, hv⟩
theorem D_cloud (hv : VA A) (s x y z : Int32) : DU w m_OC_cloud m_Mo_cloud 433 3464 [.int s, .int x, .int y, .int z] A (T2 1) := by
  rcases rng x hv.c8 with ⟨j, hj, rfl⟩ | h
  · by_cases h : (¬ y < nI 0 ∧ ¬ nI 50 ≤ y) ∧ (¬ z < nI 0 ∧ ¬ nI 2 < z)
    · obtain ⟨y', hy', rfl⟩ := rngL (n := 50) (by decide) h.1.1 h.1.2
      obtain ⟨z', hz', rfl⟩ := rngE (n := 2) (by decide) h.2.1 h.2.2
      exact ⟨0, 0, _, A, T2.ok, CC_cloud_ok (d := 41) hv hj hy' (by omega), MC_cloud_ok (d := 44) hv hj hy' (by omega), hv⟩
    · exact ⟨1, 2, 0, A, T2.b2, CC_cloud_bad2 (d := 41) hv hj h, MC_cloud_bad2 (d := 44) hv hj h, hv⟩
  · exact ⟨2, 1, 0, A, T2.b1, CC_cloud_bad1 (d := 41) h, MC_cloud_bad1 (d := 44) hv h, hv⟩
theorem D_part (hv : VA A) (s x y z : Int32) : DU w m_OC_part m_Mo_part 433 3464 [.int s, .int x, .int y, .int z] A (T2 1) := by
  rcases rng x hv.c8 with ⟨j, hj, rfl⟩ | h
  · by_cases h : (¬ y < nI 0 ∧ ¬ nI 50 ≤ y) ∧ (¬ z < nI 0 ∧ ¬ nI 8 ≤ z)
    · obtain ⟨y', hy', rfl⟩ := rngL (n := 50) (by decide) h.1.1 h.1.2
      obtain ⟨z', hz', rfl⟩ := rngL (n := 8) (by decide) h.2.1 h.2.2
      exact ⟨0, 0, _, A, T2.ok, CC_part_ok (d := 41) hv hj hy' hz', MC_part_ok (d := 44) hv hj hy' hz', hv⟩
    · exact ⟨1, 2, 0, A, T2.b2, CC_part_bad2 (d := 41) hv hj h, MC_part_bad2 (d := 44) hv hj h, hv⟩
  · exact ⟨2, 1, 0, A, T2.b1, CC_part_bad1 (d := 41) h, MC_part_bad1 (d := 44) hv h, hv⟩
theorem D_account (hv : VA A) (s x y : Int32) : DU w m_OC_account m_Mo_account 433 3464 [.int s, .int x, .int y] A (T1 0) := by
  by_cases h : (¬ x < nI 0 ∧ ¬ nI 8 ≤ x) ∧ (¬ y < nI 0 ∧ ¬ nI 2 < y)
  · obtain ⟨x', hx', rfl⟩ := rngL (n := 8) (by decide) h.1.1 h.1.2
    obtain ⟨y', hy', rfl⟩ := rngE (n := 2) (by decide) h.2.1 h.2.2
    exact ⟨0, 0, _, A, T1.ok, CC_account_ok (d := 41) hv hx' (by omega), MC_account_ok (d := 44) hv hx' (by omega), hv⟩
  · exact ⟨1, 1, 0, A, T1.bad, CC_account_bad (d := 41) h, MC_account_bad (d := 44) hv h, hv⟩
theorem nI01 {y : Int32} (h : y = nI 0 ∨ y = nI 1) : ∃ i, i < 2 ∧ y = nI i := h.elim (fun q => ⟨0, by decide, q⟩) (fun q => ⟨1, by decide, q⟩)
theorem D_farmer (hv : VA A) (s x y : Int32) : DU w m_OC_farmer m_Mo_farmer 433 3464 [.int s, .int x, .int y] A (T1 0) := by
  by_cases h : (¬ x < nI 0 ∧ ¬ nI 7 ≤ x) ∧ (y = nI 0 ∨ y = nI 1)
  · obtain ⟨x', hx', rfl⟩ := rngL (n := 7) (by decide) h.1.1 h.1.2
    obtain ⟨y', hy', rfl⟩ := nI01 h.2
    exact ⟨0, 0, _, A, T1.ok, CC_farmer_ok (d := 41) hv hx' hy', MC_farmer_ok (d := 44) hv hx' hy', hv⟩
  · exact ⟨1, 1, 0, A, T1.bad, CC_farmer_bad (d := 41) h, MC_farmer_bad (d := 44) hv h, hv⟩
theorem D_after (hv : VA A) (s x y : Int32) : DU w m_OC_after m_Mo_after 433 3464 [.int s, .int x, .int y] A (T2 2) := by
  rcases rng x hv.f12 with ⟨j, hj, rfl⟩ | h
  · rcases rng y (n := 3) (by decide) with ⟨i, hi, rfl⟩ | h
    · exact ⟨0, 0, _, A, T2.ok, CC_after_ok (d := 41) hv hj hi, MC_after_ok (d := 44) hv hj hi, hv⟩
    · exact ⟨1, 2, 0, A, T2.b2, CC_after_bad2 (d := 41) hv hj h, MC_after_bad2 (d := 44) hv hj h, hv⟩
  · exact ⟨3, 1, 0, A, T2.b1, CC_after_bad1 (d := 41) h, MC_after_bad1 (d := 44) hv h, hv⟩
theorem D_worth (hv : VA A) (x : Int32) : DU w m_OC_worth m_Mo_worth 0 0 [.int x] A (T1 0) := by
  by_cases h : u32 x < 2 ^ kT (aSk A) 2
  · exact ⟨0, 0, _, A, T1.ok, CC_worth_ok (d := 41) hv h, MC_worth_ok (d := 34) hv h, hv⟩
  · exact ⟨1, 1, 0, A, T1.bad, CC_worth_bad (d := 41) hv h, MC_worth_bad (d := 34) hv h, hv⟩
theorem D_share (hv : VA A) (x y : Int32) : DL w m_OC_share m_Mo_share 0 0 [.int x, .int y] A (T2 1) := by
  rcases rng x hv.c8 with ⟨j, hj, rfl⟩ | h
  · by_cases h : y = nI 0 ∨ y = nI 1
    · obtain ⟨i, hi, rfl⟩ := nI01 h
      exact ⟨0, 0, _, A, T2.ok, CC_share_ok (d := 40) hv hj hi, MC_share_ok (d := 34) hv hj hi, hv⟩
    · exact ⟨1, 2, 0, A, T2.b2, CC_share_bad2 (d := 40) hv hj h, MC_share_bad2 (d := 34) hv hj h, hv⟩
  · exact ⟨2, 1, 0, A, T2.b1, CC_share_bad1 (d := 40) h, MC_share_bad1 (d := 34) hv h, hv⟩
theorem D_gets (hv : VA A) (x y : Int32) : DU w m_OC_gets m_Mo_gets 0 0 [.int x, .int y] A (T2 2) := by
  rcases rng y (n := (aBk A).2.1.1) (by have := hv.2.2.2.1.2.1; omega) with ⟨i, hi, rfl⟩ | h
  · rcases rng x (n := 10000) (by decide) with ⟨q, hq, rfl⟩ | h
    · exact ⟨0, 0, _, A, T2.ok, CC_gets_ok (d := 42) hv hi (by omega), MC_gets_ok (d := 47) hv hi (by omega), hv⟩
    · exact ⟨1, 2, 0, A, T2.b2, CC_gets_bad2 (d := 42) hv hi h, MC_gets_bad2 (d := 47) hv hi h, hv⟩
  · exact ⟨3, 1, 0, A, T2.b1, CC_gets_bad1 (d := 43) hv h, MC_gets_bad1 (d := 47) hv h, hv⟩
theorem D_settled (hv : VA A) (x y : Int32) : DU w m_OC_settled m_Mo_settled 0 0 [.int x, .int y] A (T1 0) := by
  by_cases h : okS x y
  · obtain ⟨q, hq, rfl⟩ := rngE (n := 9999) (by decide) h.1.1 h.1.2
    obtain ⟨i, hi, rfl⟩ := nI01 h.2
    exact ⟨0, 0, _, A, T1.ok, CC_settled_ok (d := 42) hv hq hi, MC_settled_ok (d := 47) hv hq hi, hv⟩
  · exact ⟨1, 1, 0, A, T1.bad, CC_settled_bad (d := 42) h, MC_settled_bad (d := 47) hv h, hv⟩
theorem D_drought (hv : VA A) (x y : Int32) : DU w m_OC_drought m_Mo_drought 1 12 [.int x, .int y] A (T2 2) := by
  rcases rng y hv.f12 with ⟨i, hi, rfl⟩ | h
  · rcases rng x (n := 10000) (by decide) with ⟨q, hq, rfl⟩ | h
    · exact ⟨0, 0, _, A, T2.ok, CC_drought_ok (d := 42) hv hi (by omega), MC_drought_ok (d := 47) hv hi (by omega), hv⟩
    · exact ⟨1, 2, 0, A, T2.b2, CC_drought_bad2 (d := 42) hv hi h, MC_drought_bad2 (d := 47) hv hi h, hv⟩
  · exact ⟨3, 1, 0, A, T2.b1, CC_drought_bad1 (d := 42) h, MC_drought_bad1 (d := 47) hv h, hv⟩
theorem D_explain (hv : VA A) (x : Int32) : DU w m_OC_explain m_Mo_explain 0 0 [.int x] A (T1 0) := by
  rcases rng x (n := 3) (by decide) with ⟨j, hj, rfl⟩ | h
  · exact ⟨0, 0, _, A, T1.ok, CC_explain_ok (d := 36) hv hj, MC_explain_ok (d := 41) hv hj, hv⟩
  · exact ⟨1, 1, 0, A, T1.bad, CC_explain_bad (d := 36) h, MC_explain_bad (d := 41) hv h, hv⟩
theorem D_doubt (hv : VA A) (x y : Int32) : DL w m_OC_doubt m_Mo_doubt 0 0 [.int x, .int y] A (T2 1) := by
  rcases rng x hv.c8 with ⟨j, hj, rfl⟩ | h
  · rcases rng y (n := 50) (by decide) with ⟨i, hi, rfl⟩ | h
    · exact ⟨0, 0, _, A, T2.ok, CC_doubt_ok (d := 42) hv hj hi, MC_doubt_ok (d := 46) hv hj hi, hv⟩
    · exact ⟨1, 2, 0, A, T2.b2, CC_doubt_bad2 (d := 42) hv hj h, MC_doubt_bad2 (d := 46) hv hj h, hv⟩
  · exact ⟨2, 1, 0, A, T2.b1, CC_doubt_bad1 (d := 42) h, MC_doubt_bad1 (d := 46) hv h, hv⟩
theorem D_worst (hv : VA A) (x y : Int32) : DU w m_OC_worst m_Mo_worst 0 0 [.int x, .int y] A (T2 1) := by
  rcases rng x hv.c8 with ⟨j, hj, rfl⟩ | h
  · rcases rng y (n := 50) (by decide) with ⟨i, hi, rfl⟩ | h
    · exact ⟨0, 0, _, A, T2.ok, CC_worst_ok (d := 42) hv hj hi, MC_worst_ok (d := 46) hv hj hi, hv⟩
    · exact ⟨1, 2, 0, A, T2.b2, CC_worst_bad2 (d := 42) hv hj h, MC_worst_bad2 (d := 46) hv hj h, hv⟩
  · exact ⟨2, 1, 0, A, T2.b1, CC_worst_bad1 (d := 42) h, MC_worst_bad1 (d := 46) hv h, hv⟩
end DUO
