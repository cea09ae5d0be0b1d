/-! THE MARKET on the model's side -/
theorem nI_sub {a b : Nat} (h : b ≤ a) : nI a - nI b = nI (a - b) := by
  obtain ⟨c, rfl⟩ : ∃ c, a = c + b := ⟨a - b, by omega⟩
  rw [← nI_add, Int32.add_sub_cancel, Nat.add_sub_cancel]
theorem sP_none (f : Nat → Nat) {q : Nat → Bool} : ∀ n, (∀ j, j < n → q j = false) → sP f q n = 0
  | 0, _ => rfl
  | n + 1, h => by rw [sP, sP_none f n (fun j hj => h j (by omega)), h n (by omega)]; rfl
theorem mPr_none (m pr : Nat → Nat) (n W : Nat) {q : Nat → Bool} : ∀ k, (∀ j, j < k → q j = false) → mPr m pr n W q k = 0
  | 0, _ => rfl
  | k + 1, h => by rw [mPr, mPr_none m pr n W k (fun j hj => h j (by omega)), h k (by omega)]; rfl
section ST
variable {w : Wd} {d : Nat} {σ : Mem} {P : Option AV → Mem → Prop} {X : Nat → Mem → Prop}
theorem mPr_le (m pr : Nat → Nat) (n W : Nat) (q : Nat → Bool) {b : Nat} : ∀ k, (∀ j, j < k → pr j ≤ b) → mPr m pr n W q k ≤ b
  | 0, _ => Nat.zero_le _
  | k + 1, h => by
    rw [mPr]
    have h1 := mPr_le m pr n W q k (fun j hj => h j (by omega))
    have h2 := h k (by omega)
    by_cases z : (q k && decide (gA m pr n W k < m k)) = true
    · rw [if_pos z]; omega
    · rw [if_neg z]; omega
theorem s_settles {t : Tb} {W : Nat} (hb : rwR σ 20 215 3 t) (hn : t.1 ≤ 8) (hW : W ≤ 9999) (hm : ∀ k, k < t.1 → t.2 k 1 ≤ 999 ∧ t.2 k 2 ≤ 99)
    (hP : ∀ τ, (∀ a j, a ≠ 358 → rI τ a j = rI σ a j) → τ.2 = σ.2 → (∀ i, i < t.1 → rI τ 358 i = nI (gA (fun k => t.2 k 1) (fun k => t.2 k 2) t.1 W i)) → P (some (.int (nI (mPr (fun k => t.2 k 1) (fun k => t.2 k 2) t.1 W (fun _ => true) t.1)))) τ) :
    Ret w true (d + 1) 0 0 m_Mo_settles [.ref 108, .int (nI W)] σ P X := by
  obtain ⟨n, r⟩ := t
  have hn' : n ≤ 8 := hn
  have hm' : ∀ k, k < n → r k 1 ≤ 999 ∧ r k 2 ≤ 99 := hm
  obtain ⟨m, em⟩ : ∃ m : Nat → Nat, m = fun k => r k 1 := ⟨_, rfl⟩
  obtain ⟨pr, ep⟩ : ∃ pr : Nat → Nat, pr = fun k => r k 2 := ⟨_, rfl⟩
  have e1 : ∀ k, m k = r k 1 := fun k => by rw [em]
  have e2 : ∀ k, pr k = r k 2 := fun k => by rw [ep]
  have hP' : ∀ τ, (∀ a j, a ≠ 358 → rI τ a j = rI σ a j) → τ.2 = σ.2 → (∀ i, i < n → rI τ 358 i = nI (gA m pr n W i)) → P (some (.int (nI (mPr m pr n W (fun _ => true) n)))) τ := by rw [em, ep]; exact hP
  have gm : ∀ i, gA m pr n W i ≤ m i := fun i => Nat.min_le_left _ _
  refine meth_ok k_Mo_settles q_Mo_settles rfl fun At hAt => ?_
  have outer : ∀ p z τ, p ≤ 100 → (∀ a j, a ≠ 358 → rI τ a j = rI σ a j) → τ.2 = σ.2 → (∀ j, j < n → svM pr p 0 j = true → rI τ 358 j = nI (gA m pr n W j)) →
      At 8 [.ref 108, .int (nI W), .int (nI (W - sP m (svM pr p 0) n)), .int (nI (mPr m pr n W (svM pr p 0) n)), .int (nI p - nI 1), z] [] τ 0 0 := by
    intro p
    induction p with
    | zero =>
      intro z τ _ t1 t2 t3
      refine hAt 80 _ _ _ _ _ _ ?_
      refine And.intro (fun _ => ?_) (fun y => absurd (by decide) y)
      have ha : ∀ j, j < n → svM pr 0 0 j = true := fun j _ => decide_eq_true (Or.inl (Nat.zero_le _))
      have fin := hP' τ t1 t2 (fun i hi => t3 i hi (ha i hi))
      rw [mPr_congr m pr n W n (q := fun _ => true) (r := svM pr 0 0) (fun j hj => (ha j hj).symm)] at fin
      exact fin
    | succ p ihp =>
      intro z τ hp t1 t2 t3
      have inner : ∀ k i, i + k = n → ∀ τ, (∀ a j, a ≠ 358 → rI τ a j = rI σ a j) → τ.2 = σ.2 → (∀ j, j < n → svM pr (p + 1) i j = true → rI τ 358 j = nI (gA m pr n W j)) →
          At 16 [.ref 108, .int (nI W), .int (nI (W - sP m (svM pr (p + 1) i) n)), .int (nI (mPr m pr n W (svM pr (p + 1) i) n)), .int (nI p), .int (nI i)] [] τ 0 0 := by
        intro k
        induction k with
        | zero =>
          intro i hi τ t1 t2 t3
          have e : i = n := by omega
          subst e
          have en : rI τ 108 20 = nI i := by rw [t1 _ _ (by omega)]; exact hb.1
          refine hAt 80 _ _ _ _ _ _ ?_
          refine And.intro (fun _ => ?_) (fun y => absurd (show rI τ 108 20 ≤ nI i by rw [en]; exact nI_le (Nat.le_refl _) (by omega)) y)
          have y := ihp (.int (nI i)) τ (by omega) t1 t2 (fun j hj h => t3 j hj (by rw [svM_next j hj]; exact h))
          rw [← sP_congr m (q := svM pr (p + 1) i) i svM_next, ← mPr_congr m pr i W (q := svM pr (p + 1) i) i svM_next] at y
          exact y
        | succ k ih =>
          intro i hi τ t1 t2 t3
          have hin : i < n := by omega
          have en : rI τ 108 20 = nI n := by rw [t1 _ _ (by omega)]; exact hb.1
          have r2 : rI τ (215 + 1 + i) 2 = nI (pr i) := by rw [t1 _ _ (by omega), e2]; exact hb.2 i hin 2 (by omega)
          have r1 : rI τ (215 + 1 + i) 1 = nI (m i) := by rw [t1 _ _ (by omega), e1]; exact hb.2 i hin 1 (by omega)
          have c := hm' i hin
          rw [← e1, ← e2] at c
          refine hAt 80 _ _ _ _ _ _ ?_
          refine And.intro (fun y => absurd (show rI τ 108 20 ≤ nI i from y) (by rw [en]; exact nI_ge hin (by omega))) (fun _ => ?_)
          refine And.intro (mx_r (q := 215) (n := 8) (k := 3) rfl rfl (show i < 8 by omega)) (And.intro (Or.inl rfl) ?_)
          rw [nI_cl (j := i) (by omega)]
          refine And.intro (mx_e (q := 215) (n := 8) (k := 3) (i := 2) rfl (by omega) (by omega) rfl) ?_
          refine And.intro (fun h => ?_) (fun h => ?_)
          · have h0 : rI τ (215 + 1 + i) 2 = nI p := h
            rw [r2, nI_eq (by omega) (by omega)] at h0
            have hp1 : pr i + 1 = p + 1 := by omega
            obtain ⟨q0, q1, q2⟩ := svM_in hp1
            have eg : gA m pr n W i = min (m i) (W - sP m (svM pr (p + 1) i) n) := by unfold gA; rw [svM_bef hp1]
            have eP := mPr_ins m pr n W q0 q1 q2 n hin
            have eS := sP_ins m q0 q1 q2 n hin
            have lP : mPr m pr n W (svM pr (p + 1) i) n ≤ 99 := mPr_le m pr n W _ n (fun j hj => by have := (hm' j hj).2; rw [← e2] at this; exact this)
            have y : ∀ x, x = nI (gA m pr n W i) → At 16 [.ref 108, .int (nI W), .int (nI (W - sP m (svM pr (p + 1) i) n) - x), .int (nI (mPr m pr n W (svM pr (p + 1) (i + 1)) n)), .int (nI p), .int (nI i + nI 1)] [] (wI τ 358 i x) 0 0 := by
              intro x hx
              have y := ih (i + 1) (by omega) (wI τ 358 i x) (fun a j h => by rw [rI_wI, if_neg (fun z => h z.1)]; exact t1 a j h) t2 (fun j hj g => by
                rw [rI_wI]
                by_cases e : j = i
                · rw [if_pos ⟨rfl, e⟩, e]; exact hx
                · rw [if_neg (fun z => e z.2)]; exact t3 j hj (by rw [← q2 j e]; exact g))
              rw [nI_s i] at y
              rw [hx, nI_sub (by omega), show W - sP m (svM pr (p + 1) i) n - gA m pr n W i = W - sP m (svM pr (p + 1) (i + 1)) n by omega, ← hx]
              exact y
            have fin : ∀ x g1 g2, x = nI (gA m pr n W i) → g1 = nI (m i) → g2 = x → ((g1 ≤ g2 → At 16 [.ref 108, .int (nI W), .int (nI (W - sP m (svM pr (p + 1) i) n) - g2), .int (nI (mPr m pr n W (svM pr (p + 1) i) n)), .int (nI p), .int (nI i + nI 1)] [] (wI τ 358 i x) 0 0) ∧
                (¬ g1 ≤ g2 → ((nI p ≤ nI (mPr m pr n W (svM pr (p + 1) i) n) → At 16 [.ref 108, .int (nI W), .int (nI (W - sP m (svM pr (p + 1) i) n) - g2), .int (nI (mPr m pr n W (svM pr (p + 1) i) n)), .int (nI p), .int (nI i + nI 1)] [] (wI τ 358 i x) 0 0) ∧
                  (¬ nI p ≤ nI (mPr m pr n W (svM pr (p + 1) i) n) → At 16 [.ref 108, .int (nI W), .int (nI (W - sP m (svM pr (p + 1) i) n) - g2), .int (nI p), .int (nI p), .int (nI i + nI 1)] [] (wI τ 358 i x) 0 0)))) := by
              intro x g1 g2 hx h1 h2
              subst h2
              subst h1
              have z := y g2 hx
              have gi := gm i
              refine ⟨fun g => ?_, fun g => ⟨fun g3 => ?_, fun g3 => ?_⟩⟩
              · rw [hx, nI_leI (by omega) (by omega)] at g
                rw [if_neg (by omega), Nat.max_zero] at eP
                rw [eP] at z; exact z
              · rw [hx, nI_leI (by omega) (by omega)] at g
                rw [nI_leI (by omega) (by omega)] at g3
                rw [if_pos (by omega), Nat.max_eq_left (by omega)] at eP
                rw [eP] at z; exact z
              · rw [hx, nI_leI (by omega) (by omega)] at g
                rw [nI_leI (by omega) (by omega)] at g3
                rw [if_pos (by omega), Nat.max_eq_right (by omega), show pr i = p by omega] at eP
                rw [eP] at z; exact z
            refine And.intro (mx_r (q := 215) (n := 8) (k := 3) rfl rfl (show i < 8 by omega)) (And.intro (Or.inl rfl) ?_)
            rw [nI_cl (j := i) (by omega)]
            refine And.intro (mx_e (q := 215) (n := 8) (k := 3) (i := 1) rfl (by omega) (by omega) rfl) ?_
            refine And.intro (fun g => ?_) (fun g => ?_)
            · have ex : nI (W - sP m (svM pr (p + 1) i) n) = nI (gA m pr n W i) := by
                have g' : nI (W - sP m (svM pr (p + 1) i) n) ≤ rI τ (215 + 1 + i) 1 := g
                rw [r1, nI_leI (by omega) (by omega)] at g'
                rw [eg]; exact congrArg nI (by omega)
              refine And.intro (aOK_t (n := 8) (by decide) rfl rfl (show i < 8 by omega) (by omega)) ?_
              rw [nI_cl (j := i) (by omega)]
              refine And.intro (aOK_t (n := 8) (by decide) rfl rfl (show i < 8 by omega) (by omega)) ?_
              rw [nI_cl (j := i) (by omega)]
              refine And.intro (aOK_t (n := 8) (by decide) rfl rfl (show i < 8 by omega) (by omega)) ?_
              rw [nI_cl (j := i) (by omega)]
              refine And.intro (mx_r (q := 215) (n := 8) (k := 3) rfl rfl (show i < 8 by omega)) (And.intro (Or.inl rfl) ?_)
              rw [nI_cl (j := i) (by omega)]
              refine And.intro (mx_e (q := 215) (n := 8) (k := 3) (i := 1) rfl (by omega) (by omega) rfl) ?_
              exact fin (nI (W - sP m (svM pr (p + 1) i) n)) (rI (wI τ 358 i (nI (W - sP m (svM pr (p + 1) i) n))) (215 + 1 + i) 1) (rI (wI τ 358 i (nI (W - sP m (svM pr (p + 1) i) n))) 358 i) ex (by rw [rI_wI, if_neg (by omega), r1]) (by rw [rI_wI, if_pos ⟨rfl, rfl⟩])
            · have ex : rI τ (215 + 1 + i) 1 = nI (gA m pr n W i) := by
                have g' : ¬ nI (W - sP m (svM pr (p + 1) i) n) ≤ rI τ (215 + 1 + i) 1 := g
                rw [r1, nI_leI (by omega) (by omega)] at g'
                rw [r1, eg]; exact congrArg nI (by omega)
              refine And.intro (mx_r (q := 215) (n := 8) (k := 3) rfl rfl (show i < 8 by omega)) (And.intro (Or.inl rfl) ?_)
              rw [nI_cl (j := i) (by omega)]
              refine And.intro (mx_e (q := 215) (n := 8) (k := 3) (i := 1) rfl (by omega) (by omega) rfl) ?_
              refine And.intro (aOK_t (n := 8) (by decide) rfl rfl (show i < 8 by omega) (by omega)) ?_
              rw [nI_cl (j := i) (by omega)]
              refine And.intro (aOK_t (n := 8) (by decide) rfl rfl (show i < 8 by omega) (by omega)) ?_
              rw [nI_cl (j := i) (by omega)]
              refine And.intro (aOK_t (n := 8) (by decide) rfl rfl (show i < 8 by omega) (by omega)) ?_
              rw [nI_cl (j := i) (by omega)]
              refine And.intro (mx_r (q := 215) (n := 8) (k := 3) rfl rfl (show i < 8 by omega)) (And.intro (Or.inl rfl) ?_)
              rw [nI_cl (j := i) (by omega)]
              refine And.intro (mx_e (q := 215) (n := 8) (k := 3) (i := 1) rfl (by omega) (by omega) rfl) ?_
              exact fin (rI τ (215 + 1 + i) 1) (rI (wI τ 358 i (rI τ (215 + 1 + i) 1)) (215 + 1 + i) 1) (rI (wI τ 358 i (rI τ (215 + 1 + i) 1)) 358 i) ex (by rw [rI_wI, if_neg (by omega), r1]) (by rw [rI_wI, if_pos ⟨rfl, rfl⟩])
          · have h' : ¬ pr i + 1 = p + 1 := fun y => h (show rI τ (215 + 1 + i) 2 = nI p by rw [r2]; exact congrArg nI (by omega))
            have y := ih (i + 1) (by omega) τ t1 t2 (fun j hj g => t3 j hj (by rw [svM_skip h'] at g; exact g))
            rw [svM_skip h', nI_s i] at y
            exact y
      have e99 : nI (p + 1) - nI 1 = nI p := nI_pr p
      rw [e99]
      refine hAt 80 _ _ _ _ _ _ ?_
      refine And.intro (fun y => absurd y (nI_nlt (Nat.zero_le _) (by omega))) (fun _ => ?_)
      exact inner n 0 (by omega) τ t1 t2 t3
  have z0 : ∀ j, j < n → svM pr 100 0 j = false := fun j hj => decide_eq_false (by have := (hm' j hj).2; rw [← e2] at this; omega)
  have y := outer 100 junk σ (by omega) (fun _ _ _ => rfl) rfl (fun j hj h => by rw [z0 j hj] at h; cases h)
  rw [sP_none m n z0, mPr_none m pr n W n z0, Nat.sub_zero, nI_pr 99] at y
  exact hAt 80 _ _ _ _ _ _ y
end ST
