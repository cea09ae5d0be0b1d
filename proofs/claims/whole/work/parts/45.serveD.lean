/-! serve -/
section SVD
variable {w : Wd} {d : Nat} {σ : Mem} {P : Option AV → Mem → Prop} {X : Nat → Mem → Prop}
theorem s_serve {t : Tb} {W : Nat} (hb : tbR σ 33 34 3 t) (hn : t.1 ≤ 8) (hW : W ≤ 9999) (hm : ∀ k, k < t.1 → t.2 k 1 ≤ 999 ∧ t.2 k 2 ≤ 99)
    (hP : ∀ τ, (∀ a j, a ≠ 100 → a ≠ 102 → ¬ (a = 98 ∧ j = 5) → rI τ a j = rI σ a j) → τ.2 = σ.2 → (∀ i, i < t.1 → rI τ 102 i = nI (gA (fun k => t.2 k 1) (fun k => t.2 k 2) t.1 W i)) → rI τ 98 5 = nI (mPr (fun k => t.2 k 1) (fun k => t.2 k 2) t.1 W (fun _ => true) t.1) → P none τ) :
    Ret w true (d + 3) 0 0 m_Market_serve [.ref 98, .int (nI W)] σ P X := by
  obtain ⟨n, hnn⟩ : ∃ n, n = t.1 := ⟨_, rfl⟩
  obtain ⟨m, em⟩ : ∃ m : Nat → Nat, m = fun k => t.2 k 1 := ⟨_, rfl⟩
  obtain ⟨pr, ep⟩ : ∃ pr : Nat → Nat, pr = fun k => t.2 k 2 := ⟨_, rfl⟩
  have e1 : ∀ k, t.2 k 1 = m k := fun k => by rw [em]
  have e2 : ∀ k, t.2 k 2 = pr k := fun k => by rw [ep]
  rw [← em, ← ep, ← hnn] at hP
  rw [← hnn] at hn
  have hb1 : rI σ 33 3 = nI n := by rw [hnn]; exact hb.1
  have hmm : ∀ k, k < n → m k ≤ 999 ∧ pr k ≤ 99 := fun k hk => by rw [← e1, ← e2]; exact hm k (by omega)
  have gm : ∀ i, gA m pr n W i ≤ m i := fun i => Nat.min_le_left _ _
  refine meth_ok k_Market_serve q_Market_serve rfl fun At hAt => ?_
  have loop : ∀ l k, k + l = n → ∀ τ z1 z2 (dn : Nat → Bool), (∀ a j, a ≠ 100 → a ≠ 102 → ¬ (a = 98 ∧ j = 5) → rI τ a j = rI σ a j) → τ.2 = σ.2 → clD pr n dn → sP (fun _ => 1) dn n = k → (∀ i, i < n → rI τ 100 i = bI (dn i)) → (∀ i, i < n → dn i = true → rI τ 102 i = nI (gA m pr n W i)) →
      rI τ 98 5 = nI (mPr m pr n W dn n) → At 17 [.ref 98, .int (nI W), .int (nI (W - sP m dn n)), .int (nI k), z1, z2] [] τ 0 0 := by
    intro l
    induction l with
    | zero =>
      intro k hk τ z1 z2 dn t1 t2 t3 t4 t5 t6 t7
      have e : k = n := by omega
      have hall := cnt_all dn n (t4.trans e)
      refine hAt 80 _ _ _ _ _ _ ?_
      refine s_Table_size (a := 33) (na := 34) (mo := 8) (wd := 3) rfl ?_
      refine And.intro (fun _ => ?_) (fun y => absurd (show rI τ 33 3 ≤ nI k by rw [t1 _ _ (by omega) (by omega) (by omega), hb1]; exact nI_le (by omega) (by omega)) y)
      exact hP τ t1 t2 (fun i hi => t6 i hi (hall i hi)) (by rw [t7, mPr_congr m pr n W (q := dn) (r := fun _ => true) n hall])
    | succ l ih =>
      intro k hk τ z1 z2 dn t1 t2 t3 t4 t5 t6 t7
      have tb : tbR τ 33 34 3 t := hb.frame (fun j => t1 _ _ (by omega) (by omega) (by omega)) (fun j => t1 _ _ (by omega) (by omega) (by omega))
      refine hAt 80 _ _ _ _ _ _ ?_
      refine s_Table_size (a := 33) (na := 34) (mo := 8) (wd := 3) rfl ?_
      refine And.intro (fun y => absurd (show rI τ 33 3 ≤ nI k from y) (by rw [t1 _ _ (by omega) (by omega) (by omega), hb1]; exact nI_ge (by omega) (by omega))) (fun _ => ?_)
      refine s_bestLeft (pr := pr) (dn := dn) tb (by omega) (fun i hi => ⟨e2 i, (hmm i (by omega)).2⟩) (fun i hi => t5 i (by omega)) ?_
      rw [← hnn]
      cases e : bsL dn pr n with
      | none =>
        have := cnt_full dn n (bsL_none n e)
        omega
      | some b =>
        obtain ⟨b1, b2, b3⟩ := bsL_some n b e
        have c := hmm b b1
        have rm : rI τ 34 (b * 3 + 1) = nI (m b) := by rw [tb.2 b (by omega) 1 (by omega), e1]
        have rp : rI τ 34 (b * 3 + 2) = nI (pr b) := by rw [tb.2 b (by omega) 2 (by omega), e2]
        have eg : gA m pr n W b = min (m b) (W - sP m dn n) := by unfold gA; rw [sP_congr m n (clD_bef t3 e)]
        have eP := mPr_ins m pr n W b2 (insD_in (dn := dn)).1 (insD_in (dn := dn)).2 n b1
        have eS := sP_ins m b2 (insD_in (dn := dn)).1 (insD_in (dn := dn)).2 n b1
        have eC := sP_ins (fun _ => 1) b2 (insD_in (dn := dn)).1 (insD_in (dn := dn)).2 n b1
        have lP : mPr m pr n W dn n ≤ 99 := mPr_le m pr n W _ n (fun j hj => (hmm j hj).2)
        have gi := gm b
        have y : ∀ x τ', x = nI (gA m pr n W b) → (∀ a j, ¬ (a = 98 ∧ j = 5) → rI τ' a j = rI τ a j) → τ'.2 = τ.2 → rI τ' 98 5 = nI (mPr m pr n W (insD dn b) n) → At 17 [.ref 98, .int (nI W), .int (nI (W - sP m dn n) - x), .int (nI k + nI 1), .int (nI b), .int x] [] (wI (wI τ' 102 b x) 100 b (nI 1)) 0 0 := by
          intro x τ' hx u1 u2 u3
          have y := ih (k + 1) (by omega) (wI (wI τ' 102 b x) 100 b (nI 1)) (.int (nI b)) (.int x) (insD dn b) (fun a j h1 h2 h3 => by rw [rI_wI, if_neg (fun z => h1 z.1), rI_wI, if_neg (fun z => h2 z.1), u1 a j h3]; exact t1 a j h1 h2 h3) (u2.trans t2) (clD_ins t3 e) (by omega)
            (fun i hi => by
              rw [rI_wI]
              by_cases z : i = b
              · rw [if_pos ⟨rfl, z⟩, z, insD_in.1]; rfl
              · rw [if_neg (fun u => z u.2), rI_wI, if_neg (by omega), u1 _ _ (by omega), insD_in.2 i z]; exact t5 i hi)
            (fun i hi h => by
              rw [rI_wI, if_neg (by omega), rI_wI]
              by_cases z : i = b
              · rw [if_pos ⟨rfl, z⟩, z]; exact hx
              · rw [if_neg (fun u => z u.2), u1 _ _ (by omega)]
                rw [insD_in.2 i z] at h
                exact t6 i hi h)
            (by rw [rI_wI, if_neg (by omega), rI_wI, if_neg (by omega)]; exact u3)
          rw [nI_s k] at y
          rw [show nI (W - sP m dn n) - x = nI (W - sP m (insD dn b) n) by rw [hx, nI_sub (by omega)]; exact congrArg nI (by omega)]
          exact y
        refine z_Table_get (a := 33) (na := 34) (mo := 8) (wd := 3) (r := b) (c := 1) rfl rfl rfl (by omega) (by omega) ?_
        have ex : (if rI τ 34 (b * 3 + 1) < nI (W - sP m dn n) then rI τ 34 (b * 3 + 1) else nI (W - sP m dn n)) = nI (gA m pr n W b) := by
          rw [rm, eg]
          by_cases z : m b < W - sP m dn n
          · rw [if_pos ((nI_ltI (by omega) (by omega)).mpr z), Nat.min_eq_left (by omega)]
          · rw [if_neg (fun u => z ((nI_ltI (by omega) (by omega)).mp u)), Nat.min_eq_right (by omega)]
        refine z_Table_get (a := 33) (na := 34) (mo := 8) (wd := 3) (r := b) (c := 1) rfl rfl rfl (by omega) (by omega) ?_
        refine And.intro (fun g => ?_) (fun g => ?_)
        · have g' : rI τ 34 (b * 3 + 1) ≤ (if rI τ 34 (b * 3 + 1) < nI (W - sP m dn n) then rI τ 34 (b * 3 + 1) else nI (W - sP m dn n)) := g
          rw [ex, rm, nI_leI (by omega) (by omega)] at g'
          refine z_Row_set (a := 101) (na := 102) (n := 8) (j := b) rfl rfl (by omega) ?_
          refine z_Row_set (a := 99) (na := 100) (n := 8) (j := b) rfl rfl (by omega) ?_
          exact y _ τ ex (fun _ _ _ => rfl) rfl (by rw [t7, eP, if_neg (by omega), Nat.max_zero])
        · have g' : ¬ rI τ 34 (b * 3 + 1) ≤ (if rI τ 34 (b * 3 + 1) < nI (W - sP m dn n) then rI τ 34 (b * 3 + 1) else nI (W - sP m dn n)) := g
          rw [ex, rm, nI_leI (by omega) (by omega)] at g'
          refine z_Table_get (a := 33) (na := 34) (mo := 8) (wd := 3) (r := b) (c := 2) rfl rfl rfl (by omega) (by omega) ?_
          refine z_Row_set (a := 101) (na := 102) (n := 8) (j := b) rfl rfl (by omega) ?_
          refine z_Row_set (a := 99) (na := 100) (n := 8) (j := b) rfl rfl (by omega) ?_
          refine y _ _ ex (fun a j h => by rw [rI_wI, if_neg h]) rfl ?_
          rw [rI_wI, if_pos ⟨rfl, rfl⟩, t7, rp, eP, if_pos (show gA m pr n W b < m b by omega)]
          by_cases z : mPr m pr n W dn n < pr b
          · rw [if_pos ((nI_ltI (by omega) (by omega)).mpr z), Nat.max_eq_right (by omega)]
          · rw [if_neg (fun u => z ((nI_ltI (by omega) (by omega)).mp u)), Nat.max_eq_left (by omega)]
  refine hAt 80 _ _ _ _ _ _ ?_
  refine s_Row_setAll (a := 99) (na := 100) (n := 8) rfl ?_
  have e0 : sP m (fun _ => false) n = 0 := sP_none m n (fun _ _ => rfl)
  have y := loop n 0 (by omega) (uI (wI σ 98 5 (nI 0)) 100 (fun j => if j < 8 then nI 0 else rI (wI σ 98 5 (nI 0)) 100 j)) junk junk (fun _ => false) (fun a j h1 h2 h3 => by rw [rI_uI, if_neg h1, rI_wI, if_neg h3]) rfl (fun i j _ _ h => by cases h) (sP_none _ n (fun _ _ => rfl))
    (fun i hi => by rw [rI_uI, if_pos rfl, if_pos (by omega)]; rfl) (fun i _ h => by cases h) (by rw [rI_uI, if_neg (by omega), rI_wI, if_pos ⟨rfl, rfl⟩, mPr_none m pr n W n (fun _ _ => rfl)])
  rw [e0] at y
  exact y
end SVD
