/-! THE COMPONENT'S IMAGES -/
def imS (A : St) : St := (A.1, A.2.1, A.2.2.1, A.2.2.2.1, A.2.2.2.2.1, aIn A + 1, fun i => if i = aIn A then aBk A else aIm A i)
def reS (A : St) : St := (A.1, A.2.1, A.2.2.1, A.2.2.2.1, aIm A (aIn A - 1), aIn A - 1, aIm A)
theorem imB {j : Nat} (h : j < 3) : rS 37 j = 38 + 7 * j + 1 ∧ bkB (38 + 7 * j) = true := by
  have : j = 0 ∨ j = 1 ∨ j = 2 := by omega
  rcases this with rfl | rfl | rfl <;> exact ⟨rfl, rfl⟩
section SI
variable {w : Wd} {d : Nat} {A : St} {v : AV}
theorem VB.cap {s : Sk} {b : Bk} (h : VB s b) : b.1.1 ≤ 30 ∧ b.2.1.1 ≤ 8 ∧ b.2.2.1 ≤ 9 := ⟨h.1, h.2.1, h.2.2.1⟩
theorem CC_image_full (h3 : aIn A = 3) : CC w (d + 3) m_OC_image [] A 0 (.int (-1)) A := by
  intro σ P X hI hP _
  have h7 := hI.2.2.2.2.2.2.1
  rw [h3] at h7
  refine meth_ok k_OC_image q_OC_image rfl fun At hAt => hAt 50 _ _ _ _ _ _ ?_
  refine And.intro (fun _ => hP rfl σ (frC.rfl σ) hI) (fun _ => And.intro (fun _ => hP rfl σ (frC.rfl σ) hI) (fun q => ?_))
  exact absurd (show nI 3 ≤ rI σ 0 7 by rw [h7]; decide) q
theorem CC_image_ok (hv : VA A) (h3 : aIn A < 3) : CC w (d + 3) m_OC_image [] A 0 (.int (nI (aIn A + 1))) (imS A) := by
  intro σ P X hI hP _
  have h7 := hI.2.2.2.2.2.2.1
  have hP' : ∀ σ' x, frC σ σ' → IC _ σ' → x = nI (aIn A + 1) → P (some (.int x)) σ' := fun σ' x h1 h2 h3 => by rw [h3]; exact hP rfl σ' h1 h2
  obtain ⟨r1, r2⟩ := imB h3
  refine meth_ok k_OC_image q_OC_image rfl fun At hAt => hAt 50 _ _ _ _ _ _ ?_
  refine And.intro (fun q => absurd q (by rw [h7]; exact nI_nlt (Nat.zero_le _) (by omega))) (fun _ => And.intro (fun q => absurd q (by rw [h7]; exact nI_ge h3 (by omega))) (fun _ => ?_))
  refine And.intro (fun _ => ?_) (fun q => absurd (show rI σ 0 7 < nI 3 by rw [h7]; exact nI_lt h3 (by omega)) q)
  refine And.intro (by rw [h7]; exact aOK_t (by decide) rfl (show lS 37 = 3 from rfl) h3 (by omega)) (rMat_s (n := 38 + 7 * aIn A) (by rw [h7, nI_cl (by omega)]; exact r1) ?_)
  refine cond_t (oOK_t (bkB_s r2).1 (bkB_s r2).2.1) ?_
  refine s_Book_copyFrom (o2 := 30) r2 (show bkB 30 = true from rfl) (by omega) hI.bk hv.2.2.2.1.cap fun σ1 g1 g2 g3 => ?_
  have hN : mN σ1 = mN σ := congrArg (fun z => z.2.2.1) g2
  have hL : ∀ b j, rL σ1 b j = rL σ b j := fun b j => congrArg (fun z => z.1 b j) g2
  have e7 : rI σ1 0 7 + nI 1 = nI (aIn A + 1) := by rw [g1 0 7 (by omega), h7, nI_add]
  have f : ∀ b j, ¬ (b = 0 ∧ j = 7) → (b ≤ 38 + 7 * aIn A ∨ 38 + 7 * aIn A + 7 ≤ b) → rI (wI σ1 0 7 (rI σ1 0 7 + nI 1)) b j = rI σ b j := fun b j z1 z2 => by rw [rI_wI, if_neg z1]; exact g1 b j z2
  refine hP' (wI σ1 0 7 (rI σ1 0 7 + nI 1)) _ ⟨fun b h3 h4 j => f b j (by omega) (by omega), fun j => hL _ j, by show mN σ ≤ mN σ1; omega⟩ ?_ ?_
  · obtain ⟨i1, i2, i3, i4, i5, i6, i7, i8⟩ := hI
    refine ⟨by show ow_n0 ≤ mN σ1; omega, by rw [f _ _ (by omega) (by omega)]; exact i2, fun j hj => by rw [f _ _ (by omega) (by omega)]; exact i3 j hj, by rw [f _ _ (by omega) (by omega)]; exact i4, ?_, ?_, by rw [rI_wI, if_pos ⟨rfl, rfl⟩]; exact e7, fun i hi => ?_⟩
    · obtain ⟨k1, k2, k3, k4, k5, k6⟩ := i5
      have f := fun a (q : 4 ≤ a ∧ a ≤ 38) j => f a j (by omega) (by omega)
      exact ⟨fun i hi => by rw [f _ (by omega)]; exact k1 i hi, k2.frame (f _ (by omega)) (f _ (by omega)), k3.frame (f _ (by omega)) (f _ (by omega)), k4.frame (f _ (by omega)) (f _ (by omega)), k5.frame (f _ (by omega)) (f _ (by omega)), fun k hk h hh => by rw [f _ (by omega)]; exact k6 k hk h hh⟩
    · have f := fun a (q : 4 ≤ a ∧ a ≤ 38) j => f a j (by omega) (by omega)
      exact ⟨i6.1.frame (f _ (by omega)) (f _ (by omega)), i6.2.1.frame (f _ (by omega)) (f _ (by omega)), i6.2.2.frame (f _ (by omega)) (f _ (by omega))⟩
    · show bkC _ (39 + 7 * i) (if i = aIn A then aBk A else aIm A i)
      by_cases z : i = aIn A
      · subst z
        rw [if_pos rfl]
        obtain ⟨k1, k2, k3⟩ := g3
        rw [show 39 + 7 * aIn A = 38 + 7 * aIn A + 1 by omega]
        have f := fun a (q : 4 ≤ a) j => show rI (wI σ1 0 7 (rI σ1 0 7 + nI 1)) a j = rI σ1 a j by rw [rI_wI, if_neg (by omega)]
        exact ⟨k1.frame (f _ (by omega)) (f _ (by omega)), k2.frame (f _ (by omega)) (f _ (by omega)), k3.frame (f _ (by omega)) (f _ (by omega))⟩
      · rw [if_neg z]
        have hi' : i < aIn A + 1 := hi
        obtain ⟨k1, k2, k3⟩ := i8 i (by omega)
        exact ⟨k1.frame (fun j => f _ _ (by omega) (by omega)) (fun j => f _ _ (by omega) (by omega)), k2.frame (fun j => f _ _ (by omega) (by omega)) (fun j => f _ _ (by omega) (by omega)), k3.frame (fun j => f _ _ (by omega) (by omega)) (fun j => f _ _ (by omega) (by omega))⟩
  · show rI (wI σ1 0 7 (rI σ1 0 7 + nI 1)) 0 7 = _
    rw [rI_wI, if_pos ⟨rfl, rfl⟩]; exact e7
theorem CC_restore_no (h3 : aIn A = 0) : CC w (d + 3) m_OC_restore [] A 0 (.int (-1)) A := by
  intro σ P X hI hP _
  have h7 := hI.2.2.2.2.2.2.1
  rw [h3] at h7
  refine meth_ok k_OC_restore q_OC_restore rfl fun At hAt => hAt 50 _ _ _ _ _ _ ?_
  refine And.intro (fun _ => hP rfl σ (frC.rfl σ) hI) (fun q => absurd (show rI σ 0 7 - nI 1 < nI 0 by rw [h7]; decide) q)
theorem CC_restore_ok (hv : VA A) (h3 : 0 < aIn A) : CC w (d + 3) m_OC_restore [] A 0 (.int (nI (aIn A - 1))) (reS A) := by
  intro σ P X hI hP _
  have hm := hv.2.2.2.2.1
  obtain ⟨m, em⟩ : ∃ m, aIn A = m + 1 := ⟨aIn A - 1, by omega⟩
  have h7 : rI σ 0 7 - nI 1 = nI m := by rw [hI.2.2.2.2.2.2.1, em]; exact nI_pred m
  have hP' : ∀ σ' x, frC σ σ' → IC _ σ' → x = nI (aIn A - 1) → P (some (.int x)) σ' := fun σ' x h1 h2 h3 => by rw [h3]; exact hP rfl σ' h1 h2
  obtain ⟨r1, r2⟩ := imB (show m < 3 by omega)
  have hb := hI.2.2.2.2.2.2.2 m (by omega)
  rw [show 39 + 7 * m = 38 + 7 * m + 1 by omega] at hb
  refine meth_ok k_OC_restore q_OC_restore rfl fun At hAt => hAt 50 _ _ _ _ _ _ ?_
  refine And.intro (fun q => absurd q (by rw [h7]; exact nI_nlt (Nat.zero_le _) (by omega))) (fun _ => ?_)
  refine And.intro (fun _ => ?_) (fun q => absurd (show rI σ 0 7 - nI 1 < nI 3 by rw [h7]; exact nI_lt (by omega) (by omega)) q)
  refine And.intro (by rw [h7]; exact aOK_t (by decide) rfl (show lS 37 = 3 from rfl) (by omega) (by omega)) (rMat_s (n := 38 + 7 * m) (by rw [h7, nI_cl (by omega)]; exact r1) ?_)
  refine s_Book_copyFrom (o := 30) (show bkB 30 = true from rfl) r2 (by omega) hb (hv.2.2.2.2.2 m (by omega)).cap fun σ1 g1 g2 g3 => ?_
  have hN : mN σ1 = mN σ := congrArg (fun z => z.2.2.1) g2
  have hL : ∀ b j, rL σ1 b j = rL σ b j := fun b j => congrArg (fun z => z.1 b j) g2
  have f : ∀ b j, ¬ (b = 0 ∧ j = 7) → (b ≤ 30 ∨ 30 + 7 ≤ b) → rI (wI σ1 0 7 (rI σ 0 7 - nI 1)) b j = rI σ b j := fun b j z1 z2 => by rw [rI_wI, if_neg z1]; exact g1 b j z2
  have ea : aIn A - 1 = m := by omega
  refine hP' (wI σ1 0 7 (rI σ 0 7 - nI 1)) _ ⟨fun b h3 h4 j => f b j (by omega) (by omega), fun j => hL _ j, by show mN σ ≤ mN σ1; omega⟩ ?_ ?_
  · obtain ⟨i1, i2, i3, i4, i5, i6, i7, i8⟩ := hI
    refine ⟨by show ow_n0 ≤ mN σ1; omega, by rw [f _ _ (by omega) (by omega)]; exact i2, fun j hj => by rw [f _ _ (by omega) (by omega)]; exact i3 j hj, by rw [f _ _ (by omega) (by omega)]; exact i4, ?_, ?_, by rw [rI_wI, if_pos ⟨rfl, rfl⟩, h7]; exact congrArg nI ea.symm, fun i hi => ?_⟩
    · obtain ⟨k1, k2, k3, k4, k5, k6⟩ := i5
      have f := fun a (q : 4 ≤ a ∧ a ≤ 30) j => f a j (by omega) (by omega)
      exact ⟨fun i hi => by rw [f _ (by omega)]; exact k1 i hi, k2.frame (f _ (by omega)) (f _ (by omega)), k3.frame (f _ (by omega)) (f _ (by omega)), k4.frame (f _ (by omega)) (f _ (by omega)), k5.frame (f _ (by omega)) (f _ (by omega)), fun k hk h hh => by rw [f _ (by omega)]; exact k6 k hk h hh⟩
    · show bkC _ 31 (aIm A (aIn A - 1))
      rw [ea]
      obtain ⟨k1, k2, k3⟩ := g3
      have f := fun a (q : 4 ≤ a) j => show rI (wI σ1 0 7 (rI σ 0 7 - nI 1)) a j = rI σ1 a j by rw [rI_wI, if_neg (by omega)]
      exact ⟨k1.frame (f _ (by omega)) (f _ (by omega)), k2.frame (f _ (by omega)) (f _ (by omega)), k3.frame (f _ (by omega)) (f _ (by omega))⟩
    · have hi' : i < aIn A - 1 := hi
      obtain ⟨k1, k2, k3⟩ := i8 i (by omega)
      exact ⟨k1.frame (fun j => f _ _ (by omega) (by omega)) (fun j => f _ _ (by omega) (by omega)), k2.frame (fun j => f _ _ (by omega) (by omega)) (fun j => f _ _ (by omega) (by omega)), k3.frame (fun j => f _ _ (by omega) (by omega)) (fun j => f _ _ (by omega) (by omega))⟩
  · show rI (wI σ1 0 7 (rI σ 0 7 - nI 1)) 0 7 = _
    rw [rI_wI, if_pos ⟨rfl, rfl⟩, h7, ea]
end SI
