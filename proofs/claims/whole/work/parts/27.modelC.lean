/-! THE MODEL'S feed, bid -/
theorem sh20 : ∀ k, k < 20 → nI 24 - nI 8 * (nI k - nI k / nI 4 * nI 4) = nI (8 * (3 - k % 4)) := by decide
/-- the first k bytes of the numbers n stand behind c -/
def fedM (n : Nat → Int32) (c k : Nat) (σ τ : Mem) : Prop :=
  (∀ a j, a ≠ 109 → ¬ (a = 108 ∧ j = 1) → rI τ a j = rI σ a j) ∧ rI τ 108 1 = nI (c + k) ∧ (∀ j, j < c → rI τ 109 j = rI σ 109 j) ∧ (∀ i, i < k → rI τ 109 (c + i) = nI (byt (n (i / 4)) (3 - i % 4))) ∧ τ.2 = σ.2
section MCC
variable {w : Wd} {d : Nat} {A : St} {v : AV}
theorem MC_feed_full {a b c e f : Int32} (hv : VA A) (hl : 600 < aTc A + 20) : MC w (d + 1) 0 0 m_Mo_feed [.int a, .int b, .int c, .int e, .int f] A 0 (.int (-1)) A := by
  intro σ P X hI hP
  have hI' : IM A (wI σ 108 0 (nI 0)) := hI.thr hv
  have := hv.1
  refine meth_ok k_Mo_feed q_Mo_feed rfl fun At hAt => hAt 50 _ _ _ _ _ _ ?_
  refine And.intro (fun q => ?_) (fun _ => hP _ _ ((frM.rfl σ).wI (by omega)) hI' rfl (fun _ => rfl))
  have q' : rI (wI σ 108 0 (nI 0)) 108 1 + nI 20 ≤ nI 600 := q
  rw [hI'.2.1, nI_add, nI_leI (by omega) (by omega)] at q'
  omega
theorem MC_feed_ok {n : Nat → Int32} (hv : VA A) (hl : aTc A + 20 ≤ 600) : MC w (d + 1) 0 0 m_Mo_feed [.int (n 0), .int (n 1), .int (n 2), .int (n 3), .int (n 4)] A 0 (.int (nI (aTc A + 20))) (fdS A n) := by
  intro σ P X hI hP
  have hI' : IM A (wI σ 108 0 (nI 0)) := hI.thr hv
  refine meth_ok k_Mo_feed q_Mo_feed rfl fun At hAt => ?_
  have loop : ∀ m k, k + m = 20 → ∀ τ z, fedM n (aTc A) k (wI σ 108 0 (nI 0)) τ → At 23 [.ref 108, .int (n 0), .int (n 1), .int (n 2), .int (n 3), .int (n 4), .int (nI k), z] [] τ 0 0 := by
    intro m
    induction m with
    | zero =>
      intro k hk τ z hf
      refine hAt 50 _ _ _ _ _ _ ?_
      refine And.intro (fun _ => ?_) (fun q => absurd (nI_le (by omega) (by omega)) q)
      obtain ⟨f1, f2, f3, f4, f5⟩ := hf
      have hN : mN τ = mN σ := congrArg (fun z => z.2.2.1) f5
      have hL : ∀ b j, rL τ b j = rL σ b j := fun b j => congrArg (fun z => z.1 b j) f5
      have e20 : k = 20 := by omega
      subst e20
      refine hP _ _ ⟨fun b h1 j => ?_, fun b h1 j => hL b j, by omega⟩ ?_ ?_ (fun _ => congrArg Value.int f2)
      · rw [f1 b j (by omega) (by omega), rI_wI, if_neg (by omega)]
      · obtain ⟨h1, h2, h3, h4, h5, h6, h7, h8⟩ := hI'
        have v1 := hv.1
        obtain ⟨s1, s2, s3, s4, s5, -, -, -, -, -, s6, -⟩ := hv.2.2.1
        obtain ⟨b1, b2, b3, -⟩ := hv.2.2.2.1
        have v5 := hv.2.2.2.2.1
        have hn0 : ow_n0 ≤ mN σ := h1
        refine ⟨by omega, f2, fun j hj => ?_, by rw [f1 _ _ (by omega) (by omega)]; exact h4, ?_, ?_, by rw [f1 _ _ (by omega) (by omega)]; exact h7, fun i hi => ?_⟩
        · show rI τ 109 j = nI (if j < aTc A then aTp A j else byt (n ((j - aTc A) / 4)) (3 - (j - aTc A) % 4))
          have hj' : j < aTc A + 20 := hj
          by_cases z : j < aTc A
          · rw [if_pos z, f3 j z]; exact h3 j z
          · rw [if_neg z]
            have := f4 (j - aTc A) (by omega)
            rw [show aTc A + (j - aTc A) = j by omega] at this
            exact this
        · show skM τ (aSk A)
          obtain ⟨k1, k2, k3, k4, k5⟩ := h5
          exact ⟨fun i hi => by rw [f1 _ _ (by omega) (by omega)]; exact k1 i hi, fun k hk i hi => by rw [f1 _ _ (by omega) (by omega)]; exact k2 k hk i hi, fun k hk i hi => by rw [f1 _ _ (by omega) (by omega)]; exact k3 k hk i hi,
            fun k hk i hi => by rw [f1 _ _ (by omega) (by omega)]; exact k4 k hk i hi, fun k hk i hi => by rw [f1 _ _ (by omega) (by omega)]; exact k5 k hk i hi⟩
        · show bkM τ (aBk A)
          obtain ⟨k1, k2, k3⟩ := h6
          exact ⟨k1.frame (f1 _ _ (by omega) (by omega)) (fun k i hk => f1 _ _ (by omega) (by omega)), k2.frame (f1 _ _ (by omega) (by omega)) (fun k i hk => f1 _ _ (by omega) (by omega)), k3.frame (f1 _ _ (by omega) (by omega)) (fun k i hk => f1 _ _ (by omega) (by omega))⟩
        · have hi' : i < aIn A := hi
          obtain ⟨k1, k2, k3, k4, k5, k6⟩ := h8 i hi
          have g := fun j => f1 (235 + i) j (by omega) (by omega)
          exact ⟨by rw [g]; exact k1, by rw [g]; exact k2, by rw [g]; exact k3, fun k hk i hi => by rw [g]; exact k4 k hk i hi, fun k hk i hi => by rw [g]; exact k5 k hk i hi, fun k hk i hi => by rw [g]; exact k6 k hk i hi⟩
      · rw [f1 108 0 (by omega) (by omega)]; rfl
    | succ m ih =>
      intro k hk τ z hf
      obtain ⟨f1, f2, f3, f4, f5⟩ := hf
      have hk2 : nI (k + 1) = nI k + nI 1 := nI_s k
      have fin : ∀ x : Int32, x = n (k / 4) → fedM n (aTc A) (k + 1) (wI σ 108 0 (nI 0)) (wI (wI τ 109 (aTc A + k) (nI (byt x (3 - k % 4)))) 108 1 (nI (aTc A + (k + 1)))) := by
        intro x hx
        refine ⟨fun a j h1 h2 => ?_, by simp [rI_wI], fun j hj => ?_, fun i hi => ?_, f5⟩
        · rw [rI_wI, if_neg (by omega), rI_wI, if_neg (by omega)]; exact f1 a j h1 h2
        · rw [rI_wI, if_neg (by omega), rI_wI, if_neg (by omega)]; exact f3 j hj
        · rw [rI_wI, if_neg (by omega), rI_wI]
          by_cases e : i = k
          · subst e; rw [if_pos ⟨rfl, rfl⟩, hx]
          · rw [if_neg (by omega)]; exact f4 i (by omega)
      refine hAt 50 _ _ _ _ _ _ ?_
      refine And.intro (fun q => absurd q (nI_ge (by omega) (by omega))) (fun _ => ?_)
      have h5 : k < 4 ∨ (4 ≤ k ∧ k < 8) ∨ (8 ≤ k ∧ k < 12) ∨ (12 ≤ k ∧ k < 16) ∨ (16 ≤ k ∧ k < 20) := by omega
      rcases h5 with h | ⟨h, h'⟩ | ⟨h, h'⟩ | ⟨h, h'⟩ | ⟨h, h'⟩
      · refine And.intro (fun q => absurd q (nI_ge (by omega) (by omega))) (fun _ => ?_)
        refine And.intro (by decide) ?_
        refine And.intro (by rw [f2]; exact aOK_t (n := 600) (by decide) rfl rfl (by omega) (by omega)) ?_
        rw [f2, nI_cl (by omega), sh20 k (by omega), byt_s _ _ (by omega)]
        have q := ih (k + 1) (by omega) _ (.int (n 0)) (fin (n 0) (by rw [show k / 4 = 0 by omega]))
        have e : rI (wI τ 109 (aTc A + k) (nI (byt (n 0) (3 - k % 4)))) 108 1 + nI 1 = nI (aTc A + (k + 1)) := by rw [rI_wI, if_neg (by omega), f2, nI_add]; rfl
        rw [← e, hk2] at q
        exact q
      · refine And.intro (fun _ => And.intro (fun q => absurd q (nI_ge (by omega) (by omega))) (fun _ => ?_)) (fun q => absurd (nI_le (by omega) (by omega)) q)
        refine And.intro (by decide) ?_
        refine And.intro (by rw [f2]; exact aOK_t (n := 600) (by decide) rfl rfl (by omega) (by omega)) ?_
        rw [f2, nI_cl (by omega), sh20 k (by omega), byt_s _ _ (by omega)]
        have q := ih (k + 1) (by omega) _ (.int (n 1)) (fin (n 1) (by rw [show k / 4 = 1 by omega]))
        have e : rI (wI τ 109 (aTc A + k) (nI (byt (n 1) (3 - k % 4)))) 108 1 + nI 1 = nI (aTc A + (k + 1)) := by rw [rI_wI, if_neg (by omega), f2, nI_add]; rfl
        rw [← e, hk2] at q
        exact q
      · refine And.intro (fun _ => And.intro (fun _ => And.intro (fun q => absurd q (nI_ge (by omega) (by omega))) (fun _ => ?_)) (fun q => absurd (nI_le (by omega) (by omega)) q)) (fun q => absurd (nI_le (by omega) (by omega)) q)
        refine And.intro (by decide) ?_
        refine And.intro (by rw [f2]; exact aOK_t (n := 600) (by decide) rfl rfl (by omega) (by omega)) ?_
        rw [f2, nI_cl (by omega), sh20 k (by omega), byt_s _ _ (by omega)]
        have q := ih (k + 1) (by omega) _ (.int (n 2)) (fin (n 2) (by rw [show k / 4 = 2 by omega]))
        have e : rI (wI τ 109 (aTc A + k) (nI (byt (n 2) (3 - k % 4)))) 108 1 + nI 1 = nI (aTc A + (k + 1)) := by rw [rI_wI, if_neg (by omega), f2, nI_add]; rfl
        rw [← e, hk2] at q
        exact q
      · refine And.intro (fun _ => And.intro (fun _ => And.intro (fun _ => And.intro (fun q => absurd q (nI_ge (by omega) (by omega))) (fun _ => ?_)) (fun q => absurd (nI_le (by omega) (by omega)) q)) (fun q => absurd (nI_le (by omega) (by omega)) q)) (fun q => absurd (nI_le (by omega) (by omega)) q)
        refine And.intro (by decide) ?_
        refine And.intro (by rw [f2]; exact aOK_t (n := 600) (by decide) rfl rfl (by omega) (by omega)) ?_
        rw [f2, nI_cl (by omega), sh20 k (by omega), byt_s _ _ (by omega)]
        have q := ih (k + 1) (by omega) _ (.int (n 3)) (fin (n 3) (by rw [show k / 4 = 3 by omega]))
        have e : rI (wI τ 109 (aTc A + k) (nI (byt (n 3) (3 - k % 4)))) 108 1 + nI 1 = nI (aTc A + (k + 1)) := by rw [rI_wI, if_neg (by omega), f2, nI_add]; rfl
        rw [← e, hk2] at q
        exact q
      · refine And.intro (fun _ => And.intro (fun _ => And.intro (fun _ => And.intro (fun _ => ?_) (fun q => absurd (nI_le (by omega) (by omega)) q)) (fun q => absurd (nI_le (by omega) (by omega)) q)) (fun q => absurd (nI_le (by omega) (by omega)) q)) (fun q => absurd (nI_le (by omega) (by omega)) q)
        refine And.intro (by decide) ?_
        refine And.intro (by rw [f2]; exact aOK_t (n := 600) (by decide) rfl rfl (by omega) (by omega)) ?_
        rw [f2, nI_cl (by omega), sh20 k (by omega), byt_s _ _ (by omega)]
        have q := ih (k + 1) (by omega) _ (.int (n 4)) (fin (n 4) (by rw [show k / 4 = 4 by omega]))
        have e : rI (wI τ 109 (aTc A + k) (nI (byt (n 4) (3 - k % 4)))) 108 1 + nI 1 = nI (aTc A + (k + 1)) := by rw [rI_wI, if_neg (by omega), f2, nI_add]; rfl
        rw [← e, hk2] at q
        exact q
  refine hAt 50 _ _ _ _ _ _ ?_
  have hn := hI'.2.1
  refine And.intro (fun _ => ?_) (fun q => absurd (show rI (wI σ 108 0 (nI 0)) 108 1 + nI 20 ≤ nI 600 by rw [hn, nI_add]; exact nI_le hl (by omega)) q)
  exact loop 20 0 (by omega) _ _ ⟨fun _ _ _ _ => rfl, hn, fun _ _ => rfl, fun i hi => absurd hi (Nat.not_lt_zero i), rfl⟩
end MCC
