/-! THE MODEL'S image, restore -/
theorem bkv_o (σ : Mem) {k i : Nat} (hk : k < 30) (hi : i < 4) : bkv σ (3 + (k * 4 + i)) = rI σ (184 + 1 + k) i := by
  have ea : bkAd (3 + (k * 4 + i)) = 184 + 1 + k := by unfold bkAd; rw [if_neg (by omega), if_pos (by omega)]; omega
  have ej : bkJ (3 + (k * 4 + i)) = i := by unfold bkJ; rw [if_neg (by omega), if_pos (by omega)]; omega
  unfold bkv; rw [ea, ej]
theorem bkv_b (σ : Mem) {k i : Nat} (hk : k < 8) (hi : i < 3) : bkv σ (123 + (k * 3 + i)) = rI σ (215 + 1 + k) i := by
  have ea : bkAd (123 + (k * 3 + i)) = 215 + 1 + k := by unfold bkAd; rw [if_neg (by omega), if_neg (by omega), if_pos (by omega)]; omega
  have ej : bkJ (123 + (k * 3 + i)) = i := by unfold bkJ; rw [if_neg (by omega), if_neg (by omega), if_pos (by omega)]; omega
  unfold bkv; rw [ea, ej]
theorem bkv_g (σ : Mem) {k i : Nat} (hk : k < 9) (hi : i < 3) : bkv σ (147 + (k * 3 + i)) = rI σ (224 + 1 + k) i := by
  have ea : bkAd (147 + (k * 3 + i)) = 224 + 1 + k := by unfold bkAd; rw [if_neg (by omega), if_neg (by omega), if_neg (by omega)]; omega
  have ej : bkJ (147 + (k * 3 + i)) = i := by unfold bkJ; rw [if_neg (by omega), if_neg (by omega), if_neg (by omega)]; omega
  unfold bkv; rw [ea, ej]
/-- a book told by its numbers in a row -/
def bkF (f : Nat → Int32) (b : Bk) : Prop := f 0 = nI b.1.1 ∧ f 1 = nI b.2.1.1 ∧ f 2 = nI b.2.2.1 ∧
  (∀ k, k < b.1.1 → ∀ i, i < 4 → f (3 + (k * 4 + i)) = nI (b.1.2 k i)) ∧ (∀ k, k < b.2.1.1 → ∀ i, i < 3 → f (123 + (k * 3 + i)) = nI (b.2.1.2 k i)) ∧ (∀ k, k < b.2.2.1 → ∀ i, i < 3 → f (147 + (k * 3 + i)) = nI (b.2.2.2 k i))
theorem bkF.ofM {σ : Mem} {b : Bk} (h : bkM σ b) (hc : b.1.1 ≤ 30 ∧ b.2.1.1 ≤ 8 ∧ b.2.2.1 ≤ 9) : bkF (bkv σ) b :=
  ⟨h.1.1, h.2.1.1, h.2.2.1, fun k hk i hi => (bkv_o σ (by omega) hi).trans (h.1.2 k hk i hi), fun k hk i hi => (bkv_b σ (by omega) hi).trans (h.2.1.2 k hk i hi), fun k hk i hi => (bkv_g σ (by omega) hi).trans (h.2.2.2 k hk i hi)⟩
theorem bkF.toM {σ : Mem} {b : Bk} (h : bkF (bkv σ) b) (hc : b.1.1 ≤ 30 ∧ b.2.1.1 ≤ 8 ∧ b.2.2.1 ≤ 9) : bkM σ b :=
  ⟨⟨h.1, fun k hk i hi => (bkv_o σ (by omega) hi).symm.trans (h.2.2.2.1 k hk i hi)⟩, ⟨h.2.1, fun k hk i hi => (bkv_b σ (by omega) hi).symm.trans (h.2.2.2.2.1 k hk i hi)⟩, ⟨h.2.2.1, fun k hk i hi => (bkv_g σ (by omega) hi).symm.trans (h.2.2.2.2.2 k hk i hi)⟩⟩
theorem bkF.congr {f g : Nat → Int32} {b : Bk} (h : bkF f b) (hc : b.1.1 ≤ 30 ∧ b.2.1.1 ≤ 8 ∧ b.2.2.1 ≤ 9) (e : ∀ q, q < 174 → g q = f q) : bkF g b :=
  ⟨(e 0 (by omega)).trans h.1, (e 1 (by omega)).trans h.2.1, (e 2 (by omega)).trans h.2.2.1, fun k hk i hi => (e _ (by omega)).trans (h.2.2.2.1 k hk i hi), fun k hk i hi => (e _ (by omega)).trans (h.2.2.2.2.1 k hk i hi), fun k hk i hi => (e _ (by omega)).trans (h.2.2.2.2.2 k hk i hi)⟩
theorem bkv_w {σ : Mem} {k : Nat} {x : Int32} (hk : 22 ≤ k) {q : Nat} (hq : q < 174) : bkv (wI σ 108 k x) q = bkv σ q := by
  have := bkAd_r hq
  unfold bkv
  rw [rI_wI, if_neg (by omega)]
section MH
variable {w : Wd} {d : Nat} {A : St} {v : AV}
theorem MC_image_full (hv : VA A) (h3 : aIn A = 3) : MC w (d + 3) 0 0 m_Mo_image [] A 0 (.int (-1)) A := by
  intro σ P X hI hP
  have hI' : IM A (wI σ 108 0 (nI 0)) := hI.thr hv
  have en := hI'.2.2.2.2.2.2.1
  rw [h3] at en
  refine meth_ok k_Mo_image q_Mo_image rfl fun At hAt => hAt 50 _ _ _ _ _ _ ?_
  exact And.intro (fun q => absurd en q) (fun _ => hP _ _ ((frM.rfl σ).wI (by omega)) hI' rfl (fun _ => rfl))
theorem MC_image_ok (hv : VA A) (h3 : aIn A < 3) : MC w (d + 3) 0 0 m_Mo_image [] A 0 (.int (nI (aIn A + 1))) (imS A) := by
  intro σ P X hI hP
  have hI' : IM A (wI σ 108 0 (nI 0)) := hI.thr hv
  have en := hI'.2.2.2.2.2.2.1
  have hc := hv.2.2.2.1.cap
  refine meth_ok k_Mo_image q_Mo_image rfl fun At hAt => hAt 50 _ _ _ _ _ _ ?_
  refine And.intro (fun _ => ?_) (fun q => absurd (show rI (wI σ 108 0 (nI 0)) 108 22 = nI 3 from q) (by rw [en]; exact nI_ne (by omega) (by omega) (by omega)))
  refine And.intro (mx_r (q := 234) (n := 3) (k := 240) rfl en h3) (And.intro (Or.inl rfl) ?_)
  rw [en, nI_cl (by omega)]
  refine s_keepsAll (b := false) h3 fun τ hτ => ?_
  obtain ⟨t1, t2, t3, t4, t5, t6⟩ := hτ
  have e22 : rI τ 108 22 + nI 1 = nI (aIn A + 1) := by rw [t2, en, nI_add]
  have hN : mN τ = mN σ := congrArg (fun z => z.2.2.1) t6
  have hL : ∀ b j, rL τ b j = rL σ b j := fun b j => congrArg (fun z => z.1 b j) t6
  have fin : P (some (.int (rI (wI τ 108 22 (rI τ 108 22 + nI 1)) 108 22))) (wI τ 108 22 (rI τ 108 22 + nI 1)) := by
    rw [e22]
    have f : ∀ a j, a ≠ 234 + 1 + aIn A → ¬ (a = 108 ∧ 19 ≤ j ∧ j < 24) → ¬ (185 ≤ a ∧ a < 234) → rI (wI τ 108 22 (nI (aIn A + 1))) a j = rI (wI σ 108 0 (nI 0)) a j := fun a j h1 h2 h3 => by rw [rI_wI, if_neg (by omega)]; exact t1 a j h1 h2 h3
    refine hP _ _ ⟨fun a h1 j => ?_, fun a h1 j => hL a j, by show mN σ ≤ mN τ; omega⟩ ?_ ?_ (fun _ => congrArg Value.int (by rw [rI_wI, if_pos ⟨rfl, rfl⟩]))
    · rw [f a j (by omega) (by omega) (by omega), rI_wI, if_neg (by omega)]
    · obtain ⟨h1, h2, h3, h4, h5, h6, h7, h8⟩ := hI'
      obtain ⟨v1, v2, v3, v4, v5, v6⟩ := hv
      obtain ⟨s1, s2, s3, s4, s5, -, -, -, -, -, s6, -⟩ := v3
      have h1' : ow_n0 ≤ mN σ := h1
      refine ⟨by show ow_n0 ≤ mN τ; omega, by rw [f _ _ (by omega) (by omega) (by omega)]; exact h2, fun j hj => by rw [f _ _ (by omega) (by omega) (by omega)]; exact h3 j hj, by rw [f _ _ (by omega) (by omega) (by omega)]; exact h4, ?_, ?_, by rw [rI_wI, if_pos ⟨rfl, rfl⟩]; rfl, fun i hi => ?_⟩
      · show skM _ (aSk A)
        obtain ⟨k1, k2, k3, k4, k5⟩ := h5
        exact ⟨fun i hi => by rw [f _ _ (by omega) (by omega) (by omega)]; exact k1 i hi, fun k hk i hi => by rw [f _ _ (by omega) (by omega) (by omega)]; exact k2 k hk i hi, fun k hk i hi => by rw [f _ _ (by omega) (by omega) (by omega)]; exact k3 k hk i hi,
          fun k hk i hi => by rw [f _ _ (by omega) (by omega) (by omega)]; exact k4 k hk i hi, fun k hk i hi => by rw [f _ _ (by omega) (by omega) (by omega)]; exact k5 k hk i hi⟩
      · show bkM _ (aBk A)
        refine bkF.toM ((bkF.ofM h6 hc).congr hc fun q hq => ?_) hc
        rw [bkv_w (by omega) hq, t4 q hq, if_neg (fun z => by cases z.1)]
      · show bkK _ (235 + i) (if i = aIn A then aBk A else aIm A i)
        by_cases z : i = aIn A
        · subst z
          rw [if_pos rfl]
          have : bkF (rI (wI τ 108 22 (nI (aIn A + 1))) (235 + aIn A)) (aBk A) := (bkF.ofM h6 hc).congr hc fun q hq => by
            rw [rI_wI, if_neg (by omega), show 235 + aIn A = 234 + 1 + aIn A by omega, t5, if_pos ⟨rfl, hq⟩]
          exact this
        · rw [if_neg z]
          have hi' : i < aIn A + 1 := hi
          obtain ⟨k1, k2, k3, k4, k5, k6⟩ := h8 i (by omega)
          have g := fun j => f (235 + i) j (by omega) (by omega) (by omega)
          exact ⟨by rw [g]; exact k1, by rw [g]; exact k2, by rw [g]; exact k3, fun k hk i hi => by rw [g]; exact k4 k hk i hi, fun k hk i hi => by rw [g]; exact k5 k hk i hi, fun k hk i hi => by rw [g]; exact k6 k hk i hi⟩
    · rw [f _ _ (by omega) (by omega) (by omega)]; rfl
  exact fin
theorem MC_restore_no (hv : VA A) (h3 : aIn A = 0) : MC w (d + 3) 0 0 m_Mo_restore [] A 0 (.int (-1)) A := by
  intro σ P X hI hP
  have hI' : IM A (wI σ 108 0 (nI 0)) := hI.thr hv
  have en := hI'.2.2.2.2.2.2.1
  rw [h3] at en
  refine meth_ok k_Mo_restore q_Mo_restore rfl fun At hAt => hAt 50 _ _ _ _ _ _ ?_
  exact And.intro (fun q => absurd en q) (fun _ => hP _ _ ((frM.rfl σ).wI (by omega)) hI' rfl (fun _ => rfl))
theorem MC_restore_ok (hv : VA A) (h3 : 0 < aIn A) : MC w (d + 3) 0 0 m_Mo_restore [] A 0 (.int (nI (aIn A - 1))) (reS A) := by
  intro σ P X hI hP
  have hI' : IM A (wI σ 108 0 (nI 0)) := hI.thr hv
  have en := hI'.2.2.2.2.2.2.1
  have hm := hv.2.2.2.2.1
  obtain ⟨m, em⟩ : ∃ m, aIn A = m + 1 := ⟨aIn A - 1, by omega⟩
  have hc := (hv.2.2.2.2.2 m (by omega)).cap
  have e0 : rI (wI σ 108 0 (nI 0)) 108 22 - nI 1 = nI m := by rw [en, em, nI_pr]
  refine meth_ok k_Mo_restore q_Mo_restore rfl fun At hAt => hAt 50 _ _ _ _ _ _ ?_
  refine And.intro (fun _ => ?_) (fun q => absurd (show rI (wI σ 108 0 (nI 0)) 108 22 = nI 0 from q) (by rw [en]; exact nI_z (by omega) (by omega)))
  have e1 : rI (wI (wI σ 108 0 (nI 0)) 108 22 (rI (wI σ 108 0 (nI 0)) 108 22 - nI 1)) 108 22 = nI m := by rw [rI_wI, if_pos ⟨rfl, rfl⟩]; exact e0
  refine And.intro (mx_r (q := 234) (n := 3) (k := 240) rfl e1 (show m < 3 by omega)) (And.intro (Or.inl rfl) ?_)
  rw [e1, nI_cl (by omega)]
  refine s_keepsAll (b := true) (show m < 3 by omega) fun τ hτ => ?_
  obtain ⟨t1, t2, t3, t4, t5, t6⟩ := hτ
  have e22 : rI τ 108 22 = nI m := t2.trans e1
  have hN : mN τ = mN σ := congrArg (fun z => z.2.2.1) t6
  have hL : ∀ b j, rL τ b j = rL σ b j := fun b j => congrArg (fun z => z.1 b j) t6
  have ea : aIn A - 1 = m := by omega
  have fin : P (some (.int (rI τ 108 22))) τ := by
    have f : ∀ a j, ¬ (a = 108 ∧ 19 ≤ j ∧ j < 24) → ¬ (185 ≤ a ∧ a < 234) → rI τ a j = rI (wI σ 108 0 (nI 0)) a j := fun a j h2 h3 => by
      by_cases ht : a = 234 + 1 + m
      · subst ht
        rw [t5, if_neg (fun z => by cases z.1), rI_wI, if_neg (by omega)]
      · rw [t1 a j ht h2 h3, rI_wI, if_neg (by omega)]
    refine hP _ _ ⟨fun a h1 j => ?_, fun a h1 j => hL a j, by omega⟩ ?_ ?_ (fun _ => congrArg Value.int (by rw [e22, ea]))
    · rw [f a j (by omega) (by omega), rI_wI, if_neg (by omega)]
    · obtain ⟨h1, h2, h3, h4, h5, h6, h7, h8⟩ := hI'
      obtain ⟨v1, v2, v3, v4, v5, v6⟩ := hv
      obtain ⟨s1, s2, s3, s4, s5, -, -, -, -, -, s6, -⟩ := v3
      have h1' : ow_n0 ≤ mN σ := h1
      refine ⟨by omega, by rw [f _ _ (by omega) (by omega)]; exact h2, fun j hj => by rw [f _ _ (by omega) (by omega)]; exact h3 j hj, by rw [f _ _ (by omega) (by omega)]; exact h4, ?_, ?_, by rw [e22]; exact congrArg nI ea.symm, fun i hi => ?_⟩
      · show skM _ (aSk A)
        obtain ⟨k1, k2, k3, k4, k5⟩ := h5
        exact ⟨fun i hi => by rw [f _ _ (by omega) (by omega)]; exact k1 i hi, fun k hk i hi => by rw [f _ _ (by omega) (by omega)]; exact k2 k hk i hi, fun k hk i hi => by rw [f _ _ (by omega) (by omega)]; exact k3 k hk i hi,
          fun k hk i hi => by rw [f _ _ (by omega) (by omega)]; exact k4 k hk i hi, fun k hk i hi => by rw [f _ _ (by omega) (by omega)]; exact k5 k hk i hi⟩
      · show bkM _ (aIm A (aIn A - 1))
        rw [ea]
        have hK : bkF (rI (wI σ 108 0 (nI 0)) (235 + m)) (aIm A m) := h8 m (by omega)
        refine bkF.toM (hK.congr hc fun q hq => ?_) hc
        rw [t4 q hq, if_pos ⟨rfl, hq⟩, show 234 + 1 + m = 235 + m by omega, rI_wI, if_neg (by omega)]
      · have hi' : i < aIn A - 1 := hi
        obtain ⟨k1, k2, k3, k4, k5, k6⟩ := h8 i (by omega)
        have g := fun j => f (235 + i) j (by omega) (by omega)
        exact ⟨by rw [g]; exact k1, by rw [g]; exact k2, by rw [g]; exact k3, fun k hk i hi => by rw [g]; exact k4 k hk i hi, fun k hk i hi => by rw [g]; exact k5 k hk i hi, fun k hk i hi => by rw [g]; exact k6 k hk i hi⟩
    · rw [f _ _ (by omega) (by omega)]; rfl
  exact fin
end MH
