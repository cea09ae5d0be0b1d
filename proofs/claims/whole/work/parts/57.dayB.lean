/-! THE DAY: what holds in every hour -/
def cap (s : Sk) (h n : Nat) : Nat := sumN (fun k => if kC s k 3 < h then kC s k 4 else 0) n
def capC (s : Sk) (h n : Nat) : Nat := sumN (fun k => if kC s k 3 = h then kC s k 4 else 0) n
theorem cap_s (s : Sk) (h : Nat) : ∀ n, cap s h n + capC s h n = cap s (h + 1) n
  | 0 => rfl
  | n + 1 => by
    have ih := cap_s s h n
    unfold cap capC at ih ⊢
    rw [sumN, sumN, sumN]
    by_cases h1 : kC s n 3 < h
    · rw [if_pos h1, if_neg (by omega), if_pos (by omega)]; omega
    · by_cases h2 : kC s n 3 = h
      · rw [if_neg h1, if_pos h2, if_pos (by omega)]; omega
      · rw [if_neg h1, if_neg h2, if_neg (by omega)]; omega
theorem cap_le {s : Sk} (hv : VS s) (h : Nat) : cap s h (kT s 2) ≤ 7992 := by
  have s3 := hv.2.2.1
  have s8 := hv.2.2.2.2.2.2.2.2.2.2.2.2.1
  have := sumN_le (f := fun k => if kC s k 3 < h then kC s k 4 else 0) (b := 999) (kT s 2) (fun k hk => by
    show (if kC s k 3 < h then kC s k 4 else 0) ≤ 999
    have := (s8 k hk).2.2.2.2.1.2
    by_cases q : kC s k 3 < h
    · rw [if_pos q]; exact this
    · rw [if_neg q]; omega)
  have h2 := Nat.mul_le_mul_right 999 s3
  exact Nat.le_trans this h2
def DVx (s : Sk) (A : Nat → Prop) (c : Nat) (D : Dy) : Prop := (∀ k, k < kT s 2 → gN D 0 k = 1 → A k ∧ gN D 1 k ≤ 7 ∧ gN D 2 k ≤ 1000) ∧ (∀ k, k < kT s 2 → gN D 0 k ≠ 1 → ∀ o, o < 8 → gN D (8 + k) o = 0) ∧ wat8 D ≤ c ∧ ∀ f, f < kT s 3 → gN D 3 f ≤ 99
def pA (s : Sk) (h k : Nat) : Prop := kC s k 3 < h ∧ ps s k (h - 1) ≠ none
def DV (s : Sk) (h : Nat) (D : Dy) : Prop := DVx s (pA s h) (cap s h (kT s 2)) D
theorem DVx.weak {s : Sk} {A B : Nat → Prop} {c e : Nat} {D : Dy} (h : DVx s A c D) (hA : ∀ k, A k → B k) (hc : c ≤ e) : DVx s B e D := ⟨fun k hk ht => ⟨hA k (h.1 k hk ht).1, (h.1 k hk ht).2⟩, h.2.1, Nat.le_trans h.2.2.1 hc, h.2.2.2⟩
/-- nobody else comes or goes -/
theorem DVx.keep {s : Sk} {A : Nat → Prop} {c : Nat} {D E : Dy} (h : DVx s A c D) (h0 : ∀ k, gN E 0 k = gN D 0 k) (h1 : ∀ k, gN E 1 k = gN D 1 k) (h2 : ∀ k, gN E 2 k = gN D 2 k) (h3 : ∀ f, f < kT s 3 → gN E 3 f ≤ gN D 3 f) (h8 : ∀ k, k < kT s 2 → gN D 0 k ≠ 1 → ∀ o, o < 8 → gN E (8 + k) o = gN D (8 + k) o) (hw : wat8 E ≤ wat8 D) : DVx s A c E :=
  ⟨fun k hk ht => by rw [h0] at ht; rw [h1, h2]; exact h.1 k hk ht, fun k hk ht o ho => by rw [h0] at ht; rw [h8 k hk ht o ho]; exact h.2.1 k hk ht o ho, Nat.le_trans hw h.2.2.1, fun f hf => Nat.le_trans (h3 f hf) (h.2.2.2 f hf)⟩
theorem DVx.rs_le {s : Sk} {A : Nat → Prop} {c : Nat} {D : Dy} (h : DVx s A c D) {t : Nat} (h1 : 8 ≤ t) (h2 : t < 84) : rs D t ≤ c := Nat.le_trans (rs_wat h1 h2) h.2.2.1
theorem DV.rs_le {s : Sk} {h : Nat} {D : Dy} (hd : DV s h D) (hv : VS s) {t : Nat} (h1 : 8 ≤ t) (h2 : t < 84) : rs D t ≤ 7992 := Nat.le_trans (DVx.rs_le hd h1 h2) (cap_le hv h)
section DVS
variable {s : Sk} {h : Nat}
def goA (s : Sk) (h j i : Nat) : Prop := kC s i 3 < h ∧ (i < j → ps s i h ≠ none)
theorem go1_dv {D : Dy} {c k : Nat} (hn : kT s 2 ≤ 8) (hk : k < kT s 2) (hd : DVx s (goA s h k) c D) : DVx s (goA s h (k + 1)) c (go1 s h D k) := by
  unfold go1
  by_cases q : gN D 0 k = 1 ∧ ps s k h = none
  · rw [if_pos q]
    have er : ∀ a, 8 ≤ a → rs (sR (sN (sD D 0 1 (gD D 0 1 + nI (rs D (8 + k)))) 0 k 0) (8 + k) (fun _ => 0)) a = if a = 8 + k then 0 else rs D a := fun a ha => by
      rw [rs_sR, sumN_0]
      by_cases e : a = 8 + k
      · rw [if_pos e, if_pos e]
      · rw [if_neg e, if_neg e, rs_sN (by omega), rs_sD]
    refine ⟨fun i hi ht => ?_, fun i hi ht o ho => ?_, ?_, fun f hf => ?_⟩
    · rw [gN_sR, if_neg (by omega), gN_sN] at ht
      by_cases e : i = k
      · rw [if_pos ⟨rfl, e⟩] at ht; cases ht
      · rw [if_neg (fun z => e z.2), gN_sD] at ht
        rw [gN_sR, if_neg (by omega), gN_sN, if_neg (by omega), gN_sD, gN_sR, if_neg (by omega), gN_sN, if_neg (by omega), gN_sD]
        have := hd.1 i hi ht
        exact ⟨⟨this.1.1, fun z => this.1.2 (by omega)⟩, this.2⟩
    · rw [gN_sR]
      by_cases e : i = k
      · rw [if_pos ⟨by omega, ho⟩]
      · rw [if_neg (by omega), gN_sN, if_neg (by omega), gN_sD]
        rw [gN_sR, if_neg (by omega), gN_sN, if_neg (fun z => e z.2), gN_sD] at ht
        exact hd.2.1 i hi ht o ho
    · have := wat8_1 (D := D) (E := sR (sN (sD D 0 1 (gD D 0 1 + nI (rs D (8 + k)))) 0 k 0) (8 + k) (fun _ => 0)) (t := 8 + k) (by omega) (by omega) (fun a ha h8 _ => by rw [er a h8, if_neg ha])
      rw [er _ (by omega), if_pos rfl] at this
      have := hd.2.2.1; omega
    · rw [gN_sR, if_neg (by omega), gN_sN, if_neg (by omega), gN_sD]; exact hd.2.2.2 f hf
  · rw [if_neg q]
    refine ⟨fun i hi ht => ?_, hd.2.1, hd.2.2⟩
    have := hd.1 i hi ht
    refine ⟨⟨this.1.1, fun z => ?_⟩, this.2⟩
    by_cases e : i = k
    · subst e; exact fun y => q ⟨ht, y⟩
    · exact this.1.2 (by omega)
theorem go_dv {D : Dy} {c : Nat} (hn : kT s 2 ≤ 8) (hd : DVx s (goA s h 0) c D) : ∀ k, k ≤ kT s 2 → DVx s (goA s h k) c (fld (go1 s h) D k)
  | 0, _ => hd
  | k + 1, hk => go1_dv hn (by omega) (go_dv hn hd k (by omega))
def cmA (s : Sk) (h j i : Nat) : Prop := (kC s i 3 < h ∨ (kC s i 3 = h ∧ i < j)) ∧ ps s i h ≠ none
theorem cm1_dv {D : Dy} {c k : Nat} (hv : VS s) (hk : k < kT s 2) (hd : DVx s (cmA s h k) (c + capC s h k) D) : DVx s (cmA s h (k + 1)) (c + capC s h (k + 1)) (cm1 s h D k) := by
  have hn := hv.2.2.1
  have s8 := hv.2.2.2.2.2.2.2.2.2.2.2.2.1 k hk
  have ec : capC s h (k + 1) = capC s h k + if kC s k 3 = h then kC s k 4 else 0 := rfl
  unfold cm1
  by_cases q : kC s k 3 = h
  · rw [if_pos q]
    rw [if_pos q] at ec
    have hno : gN D 0 k ≠ 1 := fun z => by have := (hd.1 k hk z).1.1; omega
    have er : ∀ a, 8 ≤ a → rs (sN (sN (sR (sN D 0 k 1) (8 + k) (fun o => if o = kC s k 5 then kC s k 4 else 0)) 1 k (kC s k 5)) 2 k (kC s k 6)) a = if a = 8 + k then kC s k 4 else rs D a := fun a ha => by
      rw [rs_sN (by omega), rs_sN (by omega), rs_sR, sumN_one, if_pos (show kC s k 5 < 8 by omega)]
      by_cases e : a = 8 + k
      · rw [if_pos e, if_pos e]
      · rw [if_neg e, if_neg e, rs_sN (by omega)]
    refine ⟨fun i hi ht => ?_, fun i hi ht o ho => ?_, ?_, fun f hf => ?_⟩
    · rw [gN_sN, if_neg (by omega), gN_sN, if_neg (by omega), gN_sR, if_neg (by omega), gN_sN] at ht
      by_cases e : i = k
      · subst e
        refine ⟨⟨Or.inr ⟨q, by omega⟩, ?_⟩, ?_, ?_⟩
        · rw [← q, ps_at]; exact fun z => by cases z
        · rw [gN_sN, if_neg (by omega), gN_sN, if_pos ⟨rfl, rfl⟩]; exact s8.2.2.2.2.2.1
        · rw [gN_sN, if_pos ⟨rfl, rfl⟩]; exact s8.2.2.2.2.2.2
      · rw [if_neg (fun z => e z.2)] at ht
        have := hd.1 i hi ht
        refine ⟨⟨this.1.1.imp id (fun z => ⟨z.1, by omega⟩), this.1.2⟩, ?_, ?_⟩
        · rw [gN_sN, if_neg (by omega), gN_sN, if_neg (by omega), gN_sR, if_neg (by omega), gN_sN, if_neg (by omega)]; exact this.2.1
        · rw [gN_sN, if_neg (by omega), gN_sN, if_neg (by omega), gN_sR, if_neg (by omega), gN_sN, if_neg (by omega)]; exact this.2.2
    · rw [gN_sN, if_neg (by omega), gN_sN, if_neg (by omega), gN_sR, if_neg (by omega), gN_sN] at ht
      by_cases e : i = k
      · rw [if_pos ⟨rfl, e⟩] at ht; exact absurd rfl ht
      · rw [if_neg (fun z => e z.2)] at ht
        rw [gN_sN, if_neg (by omega), gN_sN, if_neg (by omega), gN_sR, if_neg (by omega), gN_sN, if_neg (by omega)]
        exact hd.2.1 i hi ht o ho
    · have := wat8_1 (D := D) (E := sN (sN (sR (sN D 0 k 1) (8 + k) (fun o => if o = kC s k 5 then kC s k 4 else 0)) 1 k (kC s k 5)) 2 k (kC s k 6)) (t := 8 + k) (by omega) (by omega) (fun a ha h8 _ => by rw [er a h8, if_neg ha])
      rw [er _ (by omega), if_pos rfl] at this
      have := hd.2.2.1; omega
    · rw [gN_sN, if_neg (by omega), gN_sN, if_neg (by omega), gN_sR, if_neg (by omega), gN_sN, if_neg (by omega)]; exact hd.2.2.2 f hf
  · rw [if_neg q]
    rw [if_neg q] at ec
    refine hd.weak (fun i hi => ⟨hi.1.imp id (fun z => ⟨z.1, by omega⟩), hi.2⟩) (by omega)
theorem cm_dv {D : Dy} {c : Nat} (hv : VS s) (hd : DVx s (cmA s h 0) c D) : ∀ k, k ≤ kT s 2 → DVx s (cmA s h k) (c + capC s h k) (fld (cm1 s h) D k)
  | 0, _ => hd
  | k + 1, hk => cm1_dv hv (by omega) (cm_dv hv hd k (by omega))
theorem dMv_dv {D : Dy} (hv : VS s) (hd : DV s h D) : DV s (h + 1) (dMv s h D) := by
  have h1 := go_dv (h := h) hv.2.2.1 (hd.weak (B := goA s h 0) (fun k hk => ⟨hk.1, fun z => absurd z (Nat.not_lt_zero k)⟩) (Nat.le_refl _)) (kT s 2) (Nat.le_refl _)
  have h2 : DVx s (cmA s h 0) (cap s h (kT s 2)) (fld (go1 s h) D (kT s 2)) := ⟨fun k hk ht => ⟨⟨Or.inl (h1.1 k hk ht).1.1, (h1.1 k hk ht).1.2 hk⟩, (h1.1 k hk ht).2⟩, h1.2⟩
  have h3 := cm_dv hv h2 (kT s 2) (Nat.le_refl _)
  rw [cap_s] at h3
  exact h3.weak (fun k hk => ⟨by have := hk.1; omega, by rw [Nat.add_sub_cancel]; exact hk.2⟩) (Nat.le_refl _)
/-! the model moves each in one go -/
theorem go1_0 {D : Dy} {k j : Nat} (e : j ≠ k) : gN (go1 s h D k) 0 j = gN D 0 j := by
  unfold go1
  by_cases q : gN D 0 k = 1 ∧ ps s k h = none
  · rw [if_pos q, gN_sR, if_neg (by omega), gN_sN, if_neg (by omega), gN_sD]
  · rw [if_neg q]
theorem cm1_0 {D : Dy} {k j : Nat} (e : j ≠ k) : gN (cm1 s h D k) 0 j = gN D 0 j := by
  unfold cm1
  by_cases q : kC s k 3 = h
  · rw [if_pos q, gN_sN, if_neg (by omega), gN_sN, if_neg (by omega), gN_sR, if_neg (by omega), gN_sN, if_neg (by omega)]
  · rw [if_neg q]
theorem go_cm {D : Dy} {j k : Nat} (e : j ≠ k) : go1 s h (cm1 s h D j) k = cm1 s h (go1 s h D k) j := by
  by_cases q : kC s j 3 = h
  · by_cases r : gN D 0 k = 1 ∧ ps s k h = none
    · have r' : gN (cm1 s h D j) 0 k = 1 ∧ ps s k h = none := by rw [cm1_0 (fun z => e z.symm)]; exact r
      have er : rs (cm1 s h D j) (8 + k) = rs D (8 + k) := by
        unfold cm1
        rw [if_pos q, rs_sN (by omega), rs_sN (by omega), rs_sR, if_neg (by omega), rs_sN (by omega)]
      rw [go1, if_pos r', er, go1, if_pos r, cm1, if_pos q, cm1, if_pos q]
      refine Dy.ext (fun a b => ?_) (fun a b => ?_)
      · simp only [gN_sR, gN_sN, gN_sD]
        repeat' split
        all_goals first | rfl | omega
      · simp only [gD_sR, gD_sN, gD_sD]
    · have r' : ¬ (gN (cm1 s h D j) 0 k = 1 ∧ ps s k h = none) := by rw [cm1_0 (fun z => e z.symm)]; exact r
      rw [go1, if_neg r', go1, if_neg r]
  · rw [cm1, if_neg q, cm1, if_neg q]
theorem go_cms {D : Dy} {k : Nat} : ∀ m, m ≤ k → go1 s h (fld (cm1 s h) D m) k = fld (cm1 s h) (go1 s h D k) m
  | 0, _ => rfl
  | m + 1, hm => by rw [fld, go_cm (by omega), go_cms m (by omega)]; rfl
theorem fld_0 {f : Dy → Nat → Dy} (hf : ∀ D k j, j ≠ k → gN (f D k) 0 j = gN D 0 j) (D : Dy) {j : Nat} : ∀ m, m ≤ j → gN (fld f D m) 0 j = gN D 0 j
  | 0, _ => rfl
  | m + 1, hm => by rw [fld, hf _ _ _ (by omega), fld_0 hf D m (by omega)]
theorem mv_eq {D : Dy} (hd : ∀ k, k < kT s 2 → gN D 0 k = 1 → kC s k 3 ≠ h) : ∀ k, k ≤ kT s 2 → fld (mv1 s h) D k = fld (cm1 s h) (fld (go1 s h) D k) k
  | 0, _ => rfl
  | k + 1, hk => by
    rw [fld, mv_eq hd k (by omega), fld, fld, ← go_cms k (Nat.le_refl k)]
    have e0 : gN (fld (cm1 s h) (fld (go1 s h) D k) k) 0 k = gN D 0 k := by rw [fld_0 (fun _ _ _ q => cm1_0 q) _ k (Nat.le_refl k), fld_0 (fun _ _ _ q => go1_0 q) _ k (Nat.le_refl k)]
    obtain ⟨Y, hY⟩ : ∃ Y, Y = fld (cm1 s h) (fld (go1 s h) D k) k := ⟨_, rfl⟩
    rw [← hY] at e0 ⊢
    unfold mv1
    by_cases q : gN Y 0 k = 1
    · rw [if_pos q]
      have : kC s k 3 ≠ h := hd k (by omega) (by rw [← e0]; exact q)
      rw [cm1, if_neg this]
    · rw [if_neg q]
      rw [show go1 s h Y k = Y by rw [go1, if_neg (fun z => q z.1)]]
end DVS
