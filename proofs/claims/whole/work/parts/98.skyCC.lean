/-! A SKY IS READ on the component's side -/
section SCA
variable {w : Wd} {d : Nat} {σ : Mem} {P : Option AV → Mem → Prop} {X : Nat → Mem → Prop} {a na mo wd a2 na2 n : Nat}
theorem s_TE (h : tbB a na mo wd = true) (hP : ∀ τ, (∀ c j, ¬ (c = a ∨ c = na) → rI τ c j = rI σ c j) → τ.2 = σ.2 → rI τ a 3 = nI 0 → P none τ) : Ret w true (d + 1) 0 0 m_Table_empty [.ref a] σ P X := by
  obtain ⟨h1, h2, h3, h4, h5, h6, h7, h8, h9, h10, h11⟩ := tbB_s h
  have hna : na ≠ a := fun q => by rw [q, h2] at h5; cases h5
  refine s_Table_empty h (hP _ (fun c j q => ?_) rfl ?_)
  · rw [rI_uI, if_neg (by omega), rI_wI, if_neg (by omega)]
  · rw [rI_uI, if_neg (by omega), rI_wI, if_pos ⟨rfl, rfl⟩]
theorem s_TC (h : tbB a na mo wd = true) (h' : tbB a2 na2 mo wd = true) (hne : na2 ≠ na) (hP : ∀ τ, (∀ c j, ¬ (c = a ∨ c = na) → rI τ c j = rI σ c j) → τ.2 = σ.2 → rI τ a 3 = rI σ a2 3 → (∀ j, j < mo * wd → rI τ na j = rI σ na2 j) → P none τ) : Ret w true (d + 1) 0 0 m_Table_copyFrom [.ref a, .ref a2] σ P X := by
  obtain ⟨h1, h2, h3, h4, h5, h6, h7, h8, h9, h10, h11⟩ := tbB_s h
  have hna : na ≠ a := fun q => by rw [q, h2] at h5; cases h5
  refine s_Table_copyFrom h h' hne (hP _ (fun c j q => ?_) rfl ?_ (fun j hj => ?_))
  · rw [rI_uI, if_neg (by omega), rI_wI, if_neg (by omega)]
  · rw [rI_uI, if_neg (by omega), rI_wI, if_pos ⟨rfl, rfl⟩]
  · rw [rI_uI, if_pos rfl, if_pos hj]
theorem s_RC (h : rwB a na n = true) (h' : rwB a2 na2 n = true) (hne : na2 ≠ na) (hP : ∀ τ, (∀ c j, c ≠ na → rI τ c j = rI σ c j) → τ.2 = σ.2 → (∀ j, j < n → rI τ na j = rI σ na2 j) → P none τ) : Ret w true (d + 1) 0 0 m_Row_copyFrom [.ref a, .ref a2] σ P X := by
  refine s_Row_copyFrom h h' hne (hP _ (fun c j q => ?_) rfl (fun j hj => ?_))
  · rw [rI_uI, if_neg q]
  · rw [rI_uI, if_pos rfl, if_pos hj]
theorem tbR.cp {τ : Mem} {t : Tb} (h : tbR σ a2 na2 wd t) (hm : t.1 ≤ mo) (h1 : rI τ a 3 = rI σ a2 3) (h2 : ∀ j, j < mo * wd → rI τ na j = rI σ na2 j) : tbR τ a na wd t :=
  ⟨h1.trans h.1, fun k hk i hi => (h2 _ (tix (Nat.lt_of_lt_of_le hk hm) hi)).trans (h.2 k hk i hi)⟩
end SCA
section SCB
variable {w : Wd} {d : Nat} {σ : Mem} {b : By} {n : Nat} {k : Sk} {s : Ps} {P : Option AV → Mem → Prop} {X : Nat → Mem → Prop}
theorem s_wipe17 (hP : ∀ τ, (∀ a j, ¬ (18 ≤ a ∧ a ≤ 29) → rI τ a j = rI σ a j) → τ.2 = σ.2 → skP τ 18 k0 → P none τ) : Ret w true (d + 2) 0 0 m_Sky_wipe [.ref 17] σ P X := by
  refine meth_ok k_Sky_wipe q_Sky_wipe rfl fun At hAt => ?_
  refine hAt 51 _ _ _ _ _ _ ?_
  refine s_Row_set (a := 18) (na := 19) (n := 10) rfl (show 0 < 10 by omega) ?_
  refine s_Row_set (a := 18) (na := 19) (n := 10) rfl (show 1 < 10 by omega) ?_
  refine s_Row_set (a := 18) (na := 19) (n := 10) rfl (show 5 < 10 by omega) ?_
  refine s_Row_set (a := 18) (na := 19) (n := 10) rfl (show 6 < 10 by omega) ?_
  refine s_Row_set (a := 18) (na := 19) (n := 10) rfl (show 7 < 10 by omega) ?_
  refine s_Row_set (a := 18) (na := 19) (n := 10) rfl (show 8 < 10 by omega) ?_
  refine s_Row_set (a := 18) (na := 19) (n := 10) rfl (show 9 < 10 by omega) ?_
  refine s_TE (a := 20) (na := 21) (mo := 9) (wd := 4) rfl (fun τ1 u1 e1 z1 => ?_)
  refine s_TE (a := 22) (na := 23) (mo := 8) (wd := 7) rfl (fun τ2 u2 e2 z2 => ?_)
  refine s_TE (a := 24) (na := 25) (mo := 12) (wd := 6) rfl (fun τ3 u3 e3 z3 => ?_)
  refine s_TE (a := 26) (na := 27) (mo := 3) (wd := 3) rfl (fun τ4 u4 e4 z4 => ?_)
  refine s_TE (a := 28) (na := 29) (mo := 8) (wd := 50) rfl (fun τ5 u5 e5 z5 => ?_)
  refine hP _ (fun a j q => by refine (u5 _ _ (by omega)).trans ?_; refine (u4 _ _ (by omega)).trans ?_; refine (u3 _ _ (by omega)).trans ?_; refine (u2 _ _ (by omega)).trans ?_; refine (u1 _ _ (by omega)).trans ?_; rw [rI_wI, if_neg (by omega)]; rw [rI_wI, if_neg (by omega)]; rw [rI_wI, if_neg (by omega)]; rw [rI_wI, if_neg (by omega)]; rw [rI_wI, if_neg (by omega)]; rw [rI_wI, if_neg (by omega)]; rw [rI_wI, if_neg (by omega)]) (e5.trans (e4.trans (e3.trans (e2.trans (e1))))) ⟨fun i hi => ?_, ⟨((u5 20 3 (by omega)).trans ((u4 20 3 (by omega)).trans ((u3 20 3 (by omega)).trans ((u2 20 3 (by omega)).trans z1)))), fun k hk => absurd hk (Nat.not_lt_zero k)⟩, ⟨((u5 22 3 (by omega)).trans ((u4 22 3 (by omega)).trans ((u3 22 3 (by omega)).trans z2))), fun k hk => absurd hk (Nat.not_lt_zero k)⟩, ⟨((u5 24 3 (by omega)).trans ((u4 24 3 (by omega)).trans z3)), fun k hk => absurd hk (Nat.not_lt_zero k)⟩, ⟨((u5 26 3 (by omega)).trans z4), fun k hk => absurd hk (Nat.not_lt_zero k)⟩⟩
  have hi7 : i = 0 ∨ i = 1 ∨ i = 5 ∨ i = 6 ∨ i = 7 ∨ i = 8 ∨ i = 9 := by omega
  rcases hi7 with rfl | rfl | rfl | rfl | rfl | rfl | rfl
  · exact (show rI τ5 19 0 = nI 6 from ((u5 19 0 (by omega)).trans ((u4 19 0 (by omega)).trans ((u3 19 0 (by omega)).trans ((u2 19 0 (by omega)).trans ((u1 19 0 (by omega)).trans (by rw [rI_wI, if_neg (by omega), rI_wI, if_neg (by omega), rI_wI, if_neg (by omega), rI_wI, if_neg (by omega), rI_wI, if_neg (by omega), rI_wI, if_neg (by omega), rI_wI, if_pos ⟨rfl, rfl⟩])))))))
  · exact (show rI τ5 19 1 = nI 5 from ((u5 19 1 (by omega)).trans ((u4 19 1 (by omega)).trans ((u3 19 1 (by omega)).trans ((u2 19 1 (by omega)).trans ((u1 19 1 (by omega)).trans (by rw [rI_wI, if_neg (by omega), rI_wI, if_neg (by omega), rI_wI, if_neg (by omega), rI_wI, if_neg (by omega), rI_wI, if_neg (by omega), rI_wI, if_pos ⟨rfl, rfl⟩])))))))
  · exact (show rI τ5 19 5 = nI 0 from ((u5 19 5 (by omega)).trans ((u4 19 5 (by omega)).trans ((u3 19 5 (by omega)).trans ((u2 19 5 (by omega)).trans ((u1 19 5 (by omega)).trans (by rw [rI_wI, if_neg (by omega), rI_wI, if_neg (by omega), rI_wI, if_neg (by omega), rI_wI, if_neg (by omega), rI_wI, if_pos ⟨rfl, rfl⟩])))))))
  · exact (show rI τ5 19 6 = nI 20 from ((u5 19 6 (by omega)).trans ((u4 19 6 (by omega)).trans ((u3 19 6 (by omega)).trans ((u2 19 6 (by omega)).trans ((u1 19 6 (by omega)).trans (by rw [rI_wI, if_neg (by omega), rI_wI, if_neg (by omega), rI_wI, if_neg (by omega), rI_wI, if_pos ⟨rfl, rfl⟩])))))))
  · exact (show rI τ5 19 7 = nI 999 from ((u5 19 7 (by omega)).trans ((u4 19 7 (by omega)).trans ((u3 19 7 (by omega)).trans ((u2 19 7 (by omega)).trans ((u1 19 7 (by omega)).trans (by rw [rI_wI, if_neg (by omega), rI_wI, if_neg (by omega), rI_wI, if_pos ⟨rfl, rfl⟩])))))))
  · exact (show rI τ5 19 8 = nI 50 from ((u5 19 8 (by omega)).trans ((u4 19 8 (by omega)).trans ((u3 19 8 (by omega)).trans ((u2 19 8 (by omega)).trans ((u1 19 8 (by omega)).trans (by rw [rI_wI, if_neg (by omega), rI_wI, if_pos ⟨rfl, rfl⟩])))))))
  · exact (show rI τ5 19 9 = nI 1 from ((u5 19 9 (by omega)).trans ((u4 19 9 (by omega)).trans ((u3 19 9 (by omega)).trans ((u2 19 9 (by omega)).trans ((u1 19 9 (by omega)).trans (by rw [rI_wI, if_pos ⟨rfl, rfl⟩])))))))
theorem skP.fr2 {τ : Mem} (h : skP σ 18 k) (u : ∀ a j, 17 ≤ a → a ≤ 27 → rI τ a j = rI σ a j) : skP τ 18 k := by
  obtain ⟨k1, k2, k3, k4, k5⟩ := h
  exact ⟨fun i hi => (u _ _ (by omega) (by omega)).trans (k1 i hi), k2.frame (fun j => u _ _ (by omega) (by omega)) (fun j => u _ _ (by omega) (by omega)), k3.frame (fun j => u _ _ (by omega) (by omega)) (fun j => u _ _ (by omega) (by omega)), k4.frame (fun j => u _ _ (by omega) (by omega)) (fun j => u _ _ (by omega) (by omega)), k5.frame (fun j => u _ _ (by omega) (by omega)) (fun j => u _ _ (by omega) (by omega))⟩
theorem s_cellZ {x y : Int} (hP : P (some (.int (iZ (8 * y + x)))) σ) : Ret w true (d + 1) 0 0 m_OC_cellOf [.int (iZ x), .int (iZ y)] σ P X := by
  refine meth_ok k_OC_cellOf q_OC_cellOf rfl fun At hAt => ?_
  refine hAt 6 _ _ _ _ _ _ ?_
  refine retE (adZ (mlZ (ntZ rfl) rfl) rfl) ?_
  exact hP
theorem s_layTrail {i : Nat} (hS0 : skP σ 18 k) (hv : VS k) (hi : i < kT k 2) (hP : ∀ τ, (∀ a j, ¬ (a = 29 ∧ i * 50 ≤ j ∧ j < i * 50 + 50) → rI τ a j = rI σ a j) → τ.2 = σ.2 → (∀ h, h < 50 → rI τ 29 (i * 50 + h) = tr k i h) → P none τ) : Ret w true (d + 4) 0 0 m_Sky_layTrail [.ref 17, .int (nI i)] σ P X := by
  have hv2 := hv
  obtain ⟨v1, v2, v3, v4, v5, v6, v7, v8, v9, v10, v11, v12, v13, v14, v15, v16, v17⟩ := hv2
  obtain ⟨b0, b1, b2, b3, -⟩ := v13 i hi
  refine meth_ok k_Sky_layTrail q_Sky_layTrail rfl fun At hAt => ?_
  have loop : ∀ h, h ≤ 50 → ∀ τ, (∀ a j, ¬ (a = 29 ∧ i * 50 ≤ j ∧ j < i * 50 + 50) → rI τ a j = rI σ a j) → τ.2 = σ.2 → (∀ g, g < h → rI τ 29 (i * 50 + g) = tr k i g) → ∀ x y : Int, -2 ≤ x ∧ x ≤ 9 → -2 ≤ y ∧ y ≤ 9 → (h ≤ kC k i 3 → x = kC k i 0 ∧ y = kC k i 1) → (kC k i 3 < h → (∀ q, ps k i (h - 1) = some q → x = q.1 ∧ y = q.2) ∧ (ps k i (h - 1) = none → isInB k x y = false)) → ∀ z6, At 34 [.ref 17, .int (nI i), .int (iZ x), .int (iZ y), .int (nI (kC k i 3)), .int (nI h), z6] [] τ 0 0 := by
    refine upto fun h hh ih => ?_
    intro τ t1 t2 t3 x y hx hy g1 g2 z6
    have hS : skP τ 18 k := hS0.fr2 (fun a j q1 q2 => t1 a j (by omega))
    have ts : h < 50 → ∀ val, val = tr k i h → (∀ a j, ¬ (a = 29 ∧ i * 50 ≤ j ∧ j < i * 50 + 50) → rI (wI τ 29 (i * 50 + h) val) a j = rI σ a j) ∧ ∀ g, g < h + 1 → rI (wI τ 29 (i * 50 + h) val) 29 (i * 50 + g) = tr k i g := fun q val e => by
      refine ⟨fun a j z => by rw [rI_wI, if_neg (by omega)]; exact t1 a j z, fun g hg => ?_⟩
      by_cases eg : g = h
      · rw [eg, rI_wI, if_pos ⟨rfl, rfl⟩]; exact e
      · rw [rI_wI, if_neg (by omega)]; exact t3 g (by omega)
    have inx : ∀ x y, isInB k x y = true → 0 ≤ x ∧ x ≤ 7 ∧ 0 ≤ y ∧ y ≤ 7 := fun x y q => by have := isInB_s.mp q; omega
    refine hAt 3 _ _ _ _ _ _ ?_
    refine And.intro (fun hq => ?_) (fun hq => ?_)
    · have c38 : 50 ≤ h := (leN (a := 50) (b := h) rfl rfl (by omega) (by omega)).mp hq
      clear hq
      refine hAt 1 _ _ _ _ _ _ ?_
      have e : h = 50 := by omega
      subst e
      exact hP τ t1 t2 t3
    · have c38 : h < 50 := Nat.lt_of_not_le (fun zq => hq ((leN (a := 50) (b := h) rfl rfl (by omega) (by omega)).mpr zq))
      clear hq
      refine hAt 3 _ _ _ _ _ _ ?_
      refine And.intro (fun hq => ?_) (fun hq => ?_)
      · have c45 : h ≤ kC k i 3 := (leN (a := h) (b := kC k i 3) rfl rfl (by omega) (by omega)).mp hq
        clear hq
        refine hAt 7 _ _ _ _ _ _ ?_
        refine And.intro (fun hq => ?_) (fun hq => ?_)
        · have c103 : h < kC k i 3 := (ltN (a := h) (b := kC k i 3) rfl rfl (by omega) (by omega)).mp hq
          clear hq
          refine hAt 4 _ _ _ _ _ _ ?_
          refine s_Table_set (a := 28) (na := 29) (mo := 8) (wd := 50) rfl (show i < 8 by omega) (show h < 50 by omega) ?_
          refine Eq.mpr (congrArg (fun xq : Int32 => At 34 [.ref (17), .int (nI i), .int (iZ x), .int (iZ y), .int (nI (kC k i 3)), .int xq, z6] [] (wI τ 29 (i * 50 + h) (-1)) 0 0) (show nI h + nI 1 = nI (h + 1) from (adE rfl rfl))) ?_
          have e : ps k i h = none := ps_lt h c103
          obtain ⟨y1, y2⟩ := ts c38 (-1) (by unfold tr; rw [e])
          exact ih c38 _ y1 t2 y2 x y hx hy (fun q => g1 c45) (fun q => absurd q (by omega)) z6
        · have c103 : kC k i 3 ≤ h := Nat.le_of_not_lt (fun zq => hq ((ltN (a := h) (b := kC k i 3) rfl rfl (by omega) (by omega)).mpr zq))
          clear hq
          refine hAt 5 _ _ _ _ _ _ ?_
          refine s_isInside_17 hS hv (by omega) (by omega) ?_
          refine And.intro (fun hq => ?_) (fun hq => ?_)
          · have c112 : isInB k x y = false := bI_eq hq
            clear hq
            obtain ⟨rfl, rfl⟩ := g1 c45; have := c112.symm.trans (isInB_s.mpr (by omega)); cases this
          · have c112 : isInB k x y = true := bI_ne hq
            clear hq
            refine hAt 7 _ _ _ _ _ _ ?_
            refine s_cellZ ?_
            refine s_Table_set (a := 28) (na := 29) (mo := 8) (wd := 50) rfl (show i < 8 by omega) (show h < 50 by omega) ?_
            refine Eq.mpr (congrArg (fun xq : Int32 => At 34 [.ref (17), .int (nI i), .int (iZ x), .int (iZ y), .int (nI (kC k i 3)), .int xq, z6] [] (wI τ 29 (i * 50 + h) (iZ (8 * y + x))) 0 0) (show nI h + nI 1 = nI (h + 1) from (adE rfl rfl))) ?_
            obtain ⟨ex, ey⟩ := g1 c45
            have eh : h = kC k i 3 := by omega
            have e : ps k i h = some (kC k i 0, kC k i 1) := by rw [eh]; exact ps_at
            obtain ⟨y1, y2⟩ := ts c38 (iZ (8 * (y) + (x))) (by unfold tr; rw [e]; show _ = nI _; rw [← iZ_nat]; congr 1; omega)
            exact ih c38 _ y1 t2 y2 x y hx hy (fun q => ⟨ex, ey⟩) (fun q => ⟨(fun q2 e2 => by rw [Nat.add_sub_cancel, e] at e2; cases e2; exact ⟨ex, ey⟩), fun e2 => by rw [Nat.add_sub_cancel, e] at e2; cases e2⟩) z6
      · have c45 : kC k i 3 < h := Nat.lt_of_not_le (fun zq => hq ((leN (a := h) (b := kC k i 3) rfl rfl (by omega) (by omega)).mpr zq))
        clear hq
        refine hAt 5 _ _ _ _ _ _ ?_
        refine s_isInside_17 hS hv (by omega) (by omega) ?_
        refine And.intro (fun hq => ?_) (fun hq => ?_)
        · have c54 : isInB k x y = false := bI_eq hq
          clear hq
          refine hAt 7 _ _ _ _ _ _ ?_
          refine And.intro (fun hq => ?_) (fun hq => ?_)
          · have c103 : h < kC k i 3 := (ltN (a := h) (b := kC k i 3) rfl rfl (by omega) (by omega)).mp hq
            clear hq
            exact absurd c103 (by omega)
          · have c103 : kC k i 3 ≤ h := Nat.le_of_not_lt (fun zq => hq ((ltN (a := h) (b := kC k i 3) rfl rfl (by omega) (by omega)).mpr zq))
            clear hq
            refine hAt 5 _ _ _ _ _ _ ?_
            refine s_isInside_17 hS hv (by omega) (by omega) ?_
            refine And.intro (fun hq => ?_) (fun hq => ?_)
            · have c112 : isInB k x y = false := bI_eq hq
              clear hq
              refine hAt 4 _ _ _ _ _ _ ?_
              refine s_Table_set (a := 28) (na := 29) (mo := 8) (wd := 50) rfl (show i < 8 by omega) (show h < 50 by omega) ?_
              refine Eq.mpr (congrArg (fun xq : Int32 => At 34 [.ref (17), .int (nI i), .int (iZ x), .int (iZ y), .int (nI (kC k i 3)), .int xq, z6] [] (wI τ 29 (i * 50 + h) (-1)) 0 0) (show nI h + nI 1 = nI (h + 1) from (adE rfl rfl))) ?_
              have e0 : ps k i (h - 1) = none := by
                cases e1 : ps k i (h - 1) with
                | none => rfl
                | some q =>
                  obtain ⟨r1, r2⟩ := (g2 c45).1 q e1
                  have hq := ps_in hv hi (h - 1) q e1
                  have := isInB_s.mpr (show 0 ≤ x ∧ x < kT k 0 ∧ 0 ≤ y ∧ y < kT k 1 by omega)
                  rw [this] at c54; cases c54
              have e : ps k i h = none := ps_none c45 e0
              obtain ⟨y1, y2⟩ := ts c38 (-1) (by unfold tr; rw [e])
              exact ih c38 _ y1 t2 y2 x y hx hy (fun q => absurd q (by omega)) (fun q => ⟨(fun q2 e2 => by rw [Nat.add_sub_cancel, e] at e2; cases e2), fun _ => c54⟩) z6
            · have c112 : isInB k x y = true := bI_ne hq
              clear hq
              exact absurd c112 (by rw [c54]; decide)
        · have c54 : isInB k x y = true := bI_ne hq
          clear hq
          have hin := inx x y c54
          refine hAt 6 _ _ _ _ _ _ ?_
          refine s_Table_get (a := 22) (na := 23) (mo := 8) (wd := 7) rfl (show i < 8 by omega) (show 2 < 7 by omega) ?_
          refine Eq.mpr (congrArg (fun xq : Int32 => At 67 [.ref (17), .int (nI i), .int (iZ x), .int (iZ y), .int (nI (kC k i 3)), .int (nI h), z6] [.int xq, .ref (17)] τ 0 0) (show rI τ 23 (i * 7 + 2) = nI (kC k i 2) from (hS.2.2.1.2 i (by omega) 2 (by omega)))) ?_
          refine hAt 22 _ _ _ _ _ _ ?_
          refine s_windAt_17 hS hv (by omega) (by omega) ?_
          refine s_across_17 (z := (kC k i 2)) (h := h) hS hv ?_
          have w0 := blw_b hv ((kC k i 2)) (h) 0 (by omega)
          refine s_down_17 (z := (kC k i 2)) (h := h) hS hv ?_
          have w1 := blw_b hv ((kC k i 2)) (h) 1 (by omega)
          refine And.intro (fun hq => ?_) (fun hq => ?_)
          · have c103 : h < kC k i 3 := (ltN (a := h) (b := kC k i 3) rfl rfl (by omega) (by omega)).mp hq
            clear hq
            exact absurd c103 (by omega)
          · have c103 : kC k i 3 ≤ h := Nat.le_of_not_lt (fun zq => hq ((ltN (a := h) (b := kC k i 3) rfl rfl (by omega) (by omega)).mpr zq))
            clear hq
            refine hAt 3 _ _ _ _ _ _ ?_
            refine Eq.mpr (congrArg (fun xq : Int32 => At 109 [.ref (17), .int (nI i), .int ((iZ x) + (iZ (blw k (kC k i 2) h 0))), .int ((iZ y) + (iZ (blw k (kC k i 2) h 1))), .int (nI (kC k i 3)), .int (nI h), .int (oI (wOf k (kC k i 2) h (kT k 10)))] [.int ((iZ y) + (iZ (blw k (kC k i 2) h 1))), .int xq, .ref (17), .int (nI h), .int (nI i), .ref (28)] τ 0 0) (show (iZ x) + (iZ (blw k (kC k i 2) h 0)) = iZ (x + (blw k (kC k i 2) h 0)) from (adZ rfl rfl))) ?_
            refine Eq.mpr (congrArg (fun xq : Int32 => At 109 [.ref (17), .int (nI i), .int ((iZ x) + (iZ (blw k (kC k i 2) h 0))), .int ((iZ y) + (iZ (blw k (kC k i 2) h 1))), .int (nI (kC k i 3)), .int (nI h), .int (oI (wOf k (kC k i 2) h (kT k 10)))] [.int xq, .int (iZ (x + (blw k (kC k i 2) h 0))), .ref (17), .int (nI h), .int (nI i), .ref (28)] τ 0 0) (show (iZ y) + (iZ (blw k (kC k i 2) h 1)) = iZ (y + (blw k (kC k i 2) h 1)) from (adZ rfl rfl))) ?_
            refine hAt 2 _ _ _ _ _ _ ?_
            refine s_isInside_17 hS hv (by omega) (by omega) ?_
            refine And.intro (fun hq => ?_) (fun hq => ?_)
            · have c112 : isInB k (x + (blw k (kC k i 2) h 0)) (y + (blw k (kC k i 2) h 1)) = false := bI_eq hq
              clear hq
              refine hAt 4 _ _ _ _ _ _ ?_
              refine s_Table_set (a := 28) (na := 29) (mo := 8) (wd := 50) rfl (show i < 8 by omega) (show h < 50 by omega) ?_
              refine Eq.mpr (congrArg (fun xq : Int32 => At 34 [.ref (17), .int (nI i), .int xq, .int ((iZ y) + (iZ (blw k (kC k i 2) h 1))), .int (nI (kC k i 3)), .int (nI h + nI 1), .int (oI (wOf k (kC k i 2) h (kT k 10)))] [] (wI τ 29 (i * 50 + h) (-1)) 0 0) (show (iZ x) + (iZ (blw k (kC k i 2) h 0)) = iZ (x + (blw k (kC k i 2) h 0)) from (adZ rfl rfl))) ?_
              refine Eq.mpr (congrArg (fun xq : Int32 => At 34 [.ref (17), .int (nI i), .int (iZ (x + (blw k (kC k i 2) h 0))), .int xq, .int (nI (kC k i 3)), .int (nI h + nI 1), .int (oI (wOf k (kC k i 2) h (kT k 10)))] [] (wI τ 29 (i * 50 + h) (-1)) 0 0) (show (iZ y) + (iZ (blw k (kC k i 2) h 1)) = iZ (y + (blw k (kC k i 2) h 1)) from (adZ rfl rfl))) ?_
              refine Eq.mpr (congrArg (fun xq : Int32 => At 34 [.ref (17), .int (nI i), .int (iZ (x + (blw k (kC k i 2) h 0))), .int (iZ (y + (blw k (kC k i 2) h 1))), .int (nI (kC k i 3)), .int xq, .int (oI (wOf k (kC k i 2) h (kT k 10)))] [] (wI τ 29 (i * 50 + h) (-1)) 0 0) (show nI h + nI 1 = nI (h + 1) from (adE rfl rfl))) ?_
              obtain ⟨q0, e0⟩ : ∃ q0, ps k i (h - 1) = some q0 := by
                cases e1 : ps k i (h - 1) with
                | none => exact absurd ((g2 c45).2 e1) (by rw [c54]; decide)
                | some q => exact ⟨q, rfl⟩
              obtain ⟨r1, r2⟩ := (g2 c45).1 q0 e0
              have e : ps k i h = none := by rw [ps_some c45 e0, ← r1, ← r2, if_neg (by rw [c112]; decide)]
              obtain ⟨y1, y2⟩ := ts c38 (-1) (by unfold tr; rw [e])
              exact ih c38 _ y1 t2 y2 _ _ (by omega) (by omega) (fun q => absurd q (by omega)) (fun q => ⟨(fun q2 e2 => by rw [Nat.add_sub_cancel, e] at e2; cases e2), fun _ => c112⟩) _
            · have c112 : isInB k (x + (blw k (kC k i 2) h 0)) (y + (blw k (kC k i 2) h 1)) = true := bI_ne hq
              clear hq
              refine hAt 2 _ _ _ _ _ _ ?_
              refine Eq.mpr (congrArg (fun xq : Int32 => At 117 [.ref (17), .int (nI i), .int ((iZ x) + (iZ (blw k (kC k i 2) h 0))), .int ((iZ y) + (iZ (blw k (kC k i 2) h 1))), .int (nI (kC k i 3)), .int (nI h), .int (oI (wOf k (kC k i 2) h (kT k 10)))] [.int ((iZ y) + (iZ (blw k (kC k i 2) h 1))), .int xq, .int (nI h), .int (nI i), .ref (28)] τ 0 0) (show (iZ x) + (iZ (blw k (kC k i 2) h 0)) = iZ (x + (blw k (kC k i 2) h 0)) from (adZ rfl rfl))) ?_
              refine Eq.mpr (congrArg (fun xq : Int32 => At 117 [.ref (17), .int (nI i), .int ((iZ x) + (iZ (blw k (kC k i 2) h 0))), .int ((iZ y) + (iZ (blw k (kC k i 2) h 1))), .int (nI (kC k i 3)), .int (nI h), .int (oI (wOf k (kC k i 2) h (kT k 10)))] [.int xq, .int (iZ (x + (blw k (kC k i 2) h 0))), .int (nI h), .int (nI i), .ref (28)] τ 0 0) (show (iZ y) + (iZ (blw k (kC k i 2) h 1)) = iZ (y + (blw k (kC k i 2) h 1)) from (adZ rfl rfl))) ?_
              refine hAt 5 _ _ _ _ _ _ ?_
              refine s_cellZ ?_
              refine s_Table_set (a := 28) (na := 29) (mo := 8) (wd := 50) rfl (show i < 8 by omega) (show h < 50 by omega) ?_
              refine Eq.mpr (congrArg (fun xq : Int32 => At 34 [.ref (17), .int (nI i), .int xq, .int ((iZ y) + (iZ (blw k (kC k i 2) h 1))), .int (nI (kC k i 3)), .int (nI h + nI 1), .int (oI (wOf k (kC k i 2) h (kT k 10)))] [] (wI τ 29 (i * 50 + h) (iZ (8 * (y + (blw k (kC k i 2) h 1)) + (x + (blw k (kC k i 2) h 0))))) 0 0) (show (iZ x) + (iZ (blw k (kC k i 2) h 0)) = iZ (x + (blw k (kC k i 2) h 0)) from (adZ rfl rfl))) ?_
              refine Eq.mpr (congrArg (fun xq : Int32 => At 34 [.ref (17), .int (nI i), .int (iZ (x + (blw k (kC k i 2) h 0))), .int xq, .int (nI (kC k i 3)), .int (nI h + nI 1), .int (oI (wOf k (kC k i 2) h (kT k 10)))] [] (wI τ 29 (i * 50 + h) (iZ (8 * (y + (blw k (kC k i 2) h 1)) + (x + (blw k (kC k i 2) h 0))))) 0 0) (show (iZ y) + (iZ (blw k (kC k i 2) h 1)) = iZ (y + (blw k (kC k i 2) h 1)) from (adZ rfl rfl))) ?_
              refine Eq.mpr (congrArg (fun xq : Int32 => At 34 [.ref (17), .int (nI i), .int (iZ (x + (blw k (kC k i 2) h 0))), .int (iZ (y + (blw k (kC k i 2) h 1))), .int (nI (kC k i 3)), .int xq, .int (oI (wOf k (kC k i 2) h (kT k 10)))] [] (wI τ 29 (i * 50 + h) (iZ (8 * (y + (blw k (kC k i 2) h 1)) + (x + (blw k (kC k i 2) h 0))))) 0 0) (show nI h + nI 1 = nI (h + 1) from (adE rfl rfl))) ?_
              obtain ⟨q0, e0⟩ : ∃ q0, ps k i (h - 1) = some q0 := by
                cases e1 : ps k i (h - 1) with
                | none => exact absurd ((g2 c45).2 e1) (by rw [c54]; decide)
                | some q => exact ⟨q, rfl⟩
              obtain ⟨r1, r2⟩ := (g2 c45).1 q0 e0
              have hin2 := inx _ _ c112
              have e : ps k i h = some ((x + blw k (kC k i 2) h 0).toNat, (y + blw k (kC k i 2) h 1).toNat) := by rw [ps_some c45 e0, ← r1, ← r2, if_pos c112]
              obtain ⟨y1, y2⟩ := ts c38 (iZ (8 * (y + blw k (kC k i 2) h 1) + (x + blw k (kC k i 2) h 0))) (by unfold tr; rw [e]; show _ = nI _; rw [← iZ_nat]; congr 1; omega)
              exact ih c38 _ y1 t2 y2 _ _ (by omega) (by omega) (fun q => absurd q (by omega)) (fun q => ⟨(fun q2 e2 => by rw [Nat.add_sub_cancel, e] at e2; cases e2; exact ⟨by show _ = (Int.ofNat _ : Int); simp only [Int.ofNat_eq_natCast]; omega, by show _ = (Int.ofNat _ : Int); simp only [Int.ofNat_eq_natCast]; omega⟩), fun e2 => by rw [Nat.add_sub_cancel, e] at e2; cases e2⟩) _
  refine hAt 5 _ _ _ _ _ _ ?_
  refine s_Table_get (a := 22) (na := 23) (mo := 8) (wd := 7) rfl (show i < 8 by omega) (show 0 < 7 by omega) ?_
  refine Eq.mpr (congrArg (fun xq : Int32 => At 9 [.ref (17), .int (nI i), junk, junk, junk, junk, junk] [.int xq] σ 0 0) (show rI σ 23 (i * 7 + 0) = nI (kC k i 0) from (hS0.2.2.1.2 i (by omega) 0 (by omega)))) ?_
  refine hAt 6 _ _ _ _ _ _ ?_
  refine s_Table_get (a := 22) (na := 23) (mo := 8) (wd := 7) rfl (show i < 8 by omega) (show 1 < 7 by omega) ?_
  refine Eq.mpr (congrArg (fun xq : Int32 => At 19 [.ref (17), .int (nI i), .int (nI (kC k i 0)), junk, junk, junk, junk] [.int xq] σ 0 0) (show rI σ 23 (i * 7 + 1) = nI (kC k i 1) from (hS0.2.2.1.2 i (by omega) 1 (by omega)))) ?_
  refine hAt 6 _ _ _ _ _ _ ?_
  refine s_Table_get (a := 22) (na := 23) (mo := 8) (wd := 7) rfl (show i < 8 by omega) (show 3 < 7 by omega) ?_
  refine Eq.mpr (congrArg (fun xq : Int32 => At 29 [.ref (17), .int (nI i), .int (nI (kC k i 0)), .int (nI (kC k i 1)), junk, junk, junk] [.int xq] σ 0 0) (show rI σ 23 (i * 7 + 3) = nI (kC k i 3) from (hS0.2.2.1.2 i (by omega) 3 (by omega)))) ?_
  refine hAt 3 _ _ _ _ _ _ ?_
  have z := loop 0 (Nat.zero_le _) σ (fun _ _ _ => rfl) rfl (fun g hg => absurd hg (Nat.not_lt_zero g)) (kC k i 0) (kC k i 1) (by omega) (by omega) (fun _ => ⟨rfl, rfl⟩) (fun q => absurd q (Nat.not_lt_zero _)) junk
  rw [iZ_nat, iZ_nat] at z
  exact z
theorem s_layTrails (hS0 : skP σ 18 k) (hv : VS k) (hP : ∀ τ, (∀ a j, a ≠ 29 → rI τ a j = rI σ a j) → τ.2 = σ.2 → (∀ i, i < kT k 2 → ∀ h, h < 50 → rI τ 29 (i * 50 + h) = tr k i h) → P none τ) : Ret w true (d + 5) 0 0 m_Sky_layTrails [.ref 17] σ P X := by
  have v3 := hv.2.2.1
  refine meth_ok k_Sky_layTrails q_Sky_layTrails rfl fun At hAt => ?_
  have loop : ∀ i, i ≤ kT k 2 → ∀ τ, (∀ a j, a ≠ 29 → rI τ a j = rI σ a j) → τ.2 = σ.2 → (∀ g, g < i → ∀ h, h < 50 → rI τ 29 (g * 50 + h) = tr k g h) → At 2 [.ref 17, .int (nI i)] [] τ 0 0 := by
    refine upto fun i hi ih => ?_
    intro τ t1 t2 t3
    have hS : skP τ 18 k := hS0.fr2 (fun a j q1 q2 => t1 a j (by omega))
    refine hAt 4 _ _ _ _ _ _ ?_
    refine s_Table_size (a := 22) (na := 23) (mo := 8) (wd := 7) rfl ?_
    refine Eq.mpr (congrArg (fun xq : Int32 => At 10 [.ref (17), .int (nI i)] [.int xq, .int (nI i)] τ 0 0) (show rI τ 22 3 = nI (kT k 2) from hS.2.2.1.1)) ?_
    refine hAt 1 _ _ _ _ _ _ ?_
    refine And.intro (fun hq => ?_) (fun hq => ?_)
    · have c10 : kT k 2 ≤ i := (leN (a := kT k 2) (b := i) rfl rfl (by omega) (by omega)).mp hq
      clear hq
      refine hAt 1 _ _ _ _ _ _ ?_
      have e : i = kT k 2 := by omega
      subst e
      exact hP τ t1 t2 t3
    · have c10 : i < kT k 2 := Nat.lt_of_not_le (fun zq => hq ((leN (a := kT k 2) (b := i) rfl rfl (by omega) (by omega)).mpr zq))
      clear hq
      refine hAt 5 _ _ _ _ _ _ ?_
      refine s_layTrail hS hv c10 (fun τ2 u1 u2 u3 => ?_)
      refine Eq.mpr (congrArg (fun xq : Int32 => At 2 [.ref (17), .int xq] [] τ2 0 0) (show nI i + nI 1 = nI (i + 1) from (adE rfl rfl))) ?_
      exact ih c10 τ2 (fun a j q => (u1 a j (by omega)).trans (t1 a j q)) (u2.trans t2) (fun g hg h hh => by
        by_cases e : g = i
        · rw [e]; exact u3 h hh
        · exact (u1 29 _ (by omega)).trans (t3 g (by omega) h hh))
  refine hAt 2 _ _ _ _ _ _ ?_
  exact loop 0 (Nat.zero_le _) σ (fun _ _ _ => rfl) rfl (fun g hg => absurd hg (Nat.not_lt_zero g))
theorem s_skipS (hn : n ≤ 600) (hb : ∀ j, j < n → b j < 256) (h : rdC b n s σ) (hP : ∀ τ, (∀ a j, a ≠ 16 → rI τ a j = rI σ a j) → τ.2 = σ.2 → rdC b n (bS b n s.1, s.2) τ → P none τ) : Ret w true (d + 2) 0 0 m_SkyReader_skipBlanks [.ref 16] σ P X := by
  obtain ⟨hB, ⟨a, ha, h3, h3'⟩, ⟨h4, h4'⟩, h5⟩ := h
  exact s_skipBlanks hn hb hB h3 ha (hP _ (fr16 (fun _ _ _ => rfl) _ _) rfl ⟨⟨hB.1, hB.2⟩, ⟨bS b n a, pE_le isBl b n a ha, rfl, fun z => by rw [h3' z]⟩, ⟨h4, h4'⟩, h5⟩)
theorem s_read (hn : n ≤ 600) (hb : ∀ j, j < n → b j < 256) (hB : ∀ j, j < n → rI σ 2 j = nI (b j)) (hP : ∀ τ, frD σ τ → rdC b n (skR b n).1 τ → ((skR b n).1.2.1 = 0 → skC τ 18 (skR b n).2) → P (some (.int (nI (skR b n).1.2.1))) τ) : Ret w true (d + 8) 0 0 m_SkyReader_read [.ref 16, .int (nI n)] σ P X := by
  refine meth_ok k_SkyReader_read q_SkyReader_read rfl fun At hAt => ?_
  have out : ∀ τ z2, frD σ τ → rdC b n (skR b n).1 τ → ((skR b n).1.2.1 = 0 → skP τ 18 (skR b n).2) → At 72 [.ref 16, .int (nI n), z2] [] τ 0 0 := by
    intro τ z2 t1 t2 t3
    have h9 := t2.2.2.1.2
    have h94 := t2.2.2.1.1
    refine hAt 2 _ _ _ _ _ _ ?_
    refine Eq.mpr (congrArg (fun xq : Int32 => At 76 [.ref (16), .int (nI n), z2] [.int xq] τ 0 0) (show rI τ 16 4 = nI ((skR b n).1.2.1) from h9)) ?_
    refine hAt 1 _ _ _ _ _ _ ?_
    refine And.intro (fun hq => ?_) (fun hq => ?_)
    · have c76 : ¬ (skR b n).1.2.1 = 0 := fun zq => hq ((eqN (a := (skR b n).1.2.1) (b := 0) rfl rfl (by omega) (by omega)).mpr zq)
      clear hq
      refine hAt 2 _ _ _ _ _ _ ?_
      refine Eq.mpr (congrArg (fun xq : Int32 => At 90 [.ref (16), .int (nI n), z2] [.int xq] τ 0 0) (show rI τ 16 4 = nI ((skR b n).1.2.1) from h9)) ?_
      refine hAt 1 _ _ _ _ _ _ ?_
      exact hP τ t1 t2 (fun z => absurd z c76)
    · have c76 : (skR b n).1.2.1 = 0 := (eqN (a := (skR b n).1.2.1) (b := 0) rfl rfl (by omega) (by omega)).mp hq
      clear hq
      refine hAt 5 _ _ _ _ _ _ ?_
      refine s_layTrails (t3 c76) (VS.read c76) (fun τ2 u1 u2 u3 => ?_)
      refine Eq.mpr (congrArg (fun xq : Int32 => At 90 [.ref (16), .int (nI n), z2] [.int xq] τ2 0 0) (show rI τ2 16 4 = nI ((skR b n).1.2.1) from ((u1 16 4 (by omega)).trans h9))) ?_
      refine hAt 1 _ _ _ _ _ _ ?_
      exact hP τ2 ⟨fun a j q => (u1 a j (by omega)).trans (t1.1 a j q), u2.trans t1.2⟩ (t2.fr (fun j => u1 _ _ (by omega)) (fun j => u1 _ _ (by omega))) (fun z => by
        obtain ⟨k1, k2, k3, k4, k5⟩ := (t3 z).fr2 (τ := τ2) (fun a j q1 q2 => u1 a j (by omega))
        exact ⟨k1, k2, k3, k4, k5, u3⟩)
  have loop : ∀ c, c ≤ 61 → ∀ (s : Ps) (k : Sk) τ, frD σ τ → rdC b n s τ → (s.2.1 = 0 → skP τ 18 k ∧ VS k ∧ (c = 0 → kT k 2 = 0 ∧ kT k 3 = 0 ∧ kT k 4 = 0)) → goS b n (61 - c) c s k = skR b n → At 33 [.ref 16, .int (nI n), .int (nI c)] [] τ 0 0 := by
    refine upto fun c hc ih => ?_
    intro s k τ t1 t2 t3 hg
    have h9 := t2.2.2.1.2
    have h94 := t2.2.2.1.1
    have stop : (s, k) = skR b n → At 72 [.ref 16, .int (nI n), .int (nI c)] [] τ 0 0 := fun e => out τ _ t1 (by rw [← e]; exact t2) (fun z => by rw [← e] at z ⊢; exact (t3 z).1)
    have stop2 : ¬ (s.2.1 = 0 ∧ s.1 < n) → At 72 [.ref 16, .int (nI n), .int (nI c)] [] τ 0 0 := fun q => by
      refine stop ?_
      rw [← hg]
      by_cases e : c = 61
      · rw [e]; rfl
      · rw [show 61 - c = (61 - (c + 1)) + 1 by omega, goS, if_neg q]
    have h16 := t2.1.1
    have at0 : s.2.1 = 0 → rI τ 16 3 = nI s.1 ∧ s.1 ≤ n := fun z => t2.at0 z
    refine hAt 3 _ _ _ _ _ _ ?_
    refine And.intro (fun hq => ?_) (fun hq => ?_)
    · have c36 : 60 < c := (ltN (a := 60) (b := c) rfl rfl (by omega) (by omega)).mp hq
      clear hq
      have e : c = 61 := by omega
      subst e
      exact stop hg
    · have c36 : c ≤ 60 := Nat.le_of_not_lt (fun zq => hq ((ltN (a := 60) (b := c) rfl rfl (by omega) (by omega)).mpr zq))
      clear hq
      refine hAt 2 _ _ _ _ _ _ ?_
      refine Eq.mpr (congrArg (fun xq : Int32 => At 43 [.ref (16), .int (nI n), .int (nI c)] [.int xq] τ 0 0) (show rI τ 16 4 = nI s.2.1 from h9)) ?_
      refine hAt 1 _ _ _ _ _ _ ?_
      refine And.intro (fun hq => ?_) (fun hq => ?_)
      · have c43 : ¬ s.2.1 = 0 := fun zq => hq ((eqN (a := s.2.1) (b := 0) rfl rfl (by omega) (by omega)).mpr zq)
        clear hq
        exact stop2 (fun z => c43 z.1)
      · have c43 : s.2.1 = 0 := (eqN (a := s.2.1) (b := 0) rfl rfl (by omega) (by omega)).mp hq
        clear hq
        obtain ⟨h3, h3n⟩ := at0 c43
        obtain ⟨k1, k2, k3⟩ := t3 c43
        refine hAt 2 _ _ _ _ _ _ ?_
        refine Eq.mpr (congrArg (fun xq : Int32 => At 50 [.ref (16), .int (nI n), .int (nI c)] [.int xq] τ 0 0) (show rI τ 16 3 = nI s.1 from h3)) ?_
        refine hAt 2 _ _ _ _ _ _ ?_
        refine Eq.mpr (congrArg (fun xq : Int32 => At 54 [.ref (16), .int (nI n), .int (nI c)] [.int xq, .int (nI s.1)] τ 0 0) (show rI τ 16 2 = nI n from h16)) ?_
        refine hAt 1 _ _ _ _ _ _ ?_
        refine And.intro (fun hq => ?_) (fun hq => ?_)
        · have c54 : n ≤ s.1 := (leN (a := n) (b := s.1) rfl rfl (by omega) (by omega)).mp hq
          clear hq
          exact stop2 (fun z => by omega)
        · have c54 : s.1 < n := Nat.lt_of_not_le (fun zq => hq ((leN (a := n) (b := s.1) rfl rfl (by omega) (by omega)).mpr zq))
          clear hq
          refine hAt 7 _ _ _ _ _ _ ?_
          refine s_readClause (by omega) hn hb t2 c43 k1 k2 (fun τ1 u1 u2 u3 => ?_)
          refine s_skipS hn hb u2 (fun τ2 v1 v2 v3 => ?_)
          refine Eq.mpr (congrArg (fun xq : Int32 => At 33 [.ref (16), .int (nI n), .int xq] [] τ2 0 0) (show nI c + nI 1 = nI (c + 1) from (adE rfl rfl))) ?_
          refine ih (by omega) (bS b n (clS b n c s.1 k).1, (clS b n c s.1 k).2) (clK b n c s.1 k) τ2 ⟨fun a j q => (v1 a j (by omega)).trans ((u1.1 a j q).trans (t1.1 a j q)), v2.trans (u1.2.trans t1.2)⟩ v3 (fun z => ⟨(u3 z).fr (fun a j q => v1 a j (by omega)), k2.cl k3 z, fun q => absurd q (by omega)⟩) ?_
          rw [← hg, show 61 - c = (61 - (c + 1)) + 1 by omega]
          conv => rhs; rw [goS, if_pos ⟨c43, c54⟩]
  refine hAt 19 _ _ _ _ _ _ ?_
  refine s_wipe17 (fun τ1 u1 u2 u3 => ?_)
  have hR1 : rdC b n (0, 0, 0) τ1 := ⟨⟨((u1 16 2 (by omega)).trans (by rw [rI_wI, if_neg (by omega), rI_wI, if_neg (by omega), rI_wI, if_neg (by omega), rI_wI, if_pos ⟨rfl, rfl⟩])), fun j hj => (u1 2 j (by omega)).trans (by rw [rI_wI, if_neg (by omega), rI_wI, if_neg (by omega), rI_wI, if_neg (by omega), rI_wI, if_neg (by omega)]; exact hB j hj)⟩, ⟨0, Nat.zero_le _, ((u1 16 3 (by omega)).trans (by rw [rI_wI, if_neg (by omega), rI_wI, if_neg (by omega), rI_wI, if_pos ⟨rfl, rfl⟩])), fun _ => rfl⟩, ⟨by decide, ((u1 16 4 (by omega)).trans (by rw [rI_wI, if_neg (by omega), rI_wI, if_pos ⟨rfl, rfl⟩]))⟩, (show rI τ1 16 5 = -1 from ((u1 16 5 (by omega)).trans (by rw [rI_wI, if_pos ⟨rfl, rfl⟩])))⟩
  refine s_skipS (s := (0, 0, 0)) hn hb hR1 (fun τ2 v1 v2 v3 => ?_)
  exact loop 0 (Nat.zero_le _) (bS b n 0, 0, 0) k0 τ2 ⟨fun a j q => (v1 a j (by omega)).trans ((u1 a j (by omega)).trans (by rw [rI_wI, if_neg (by omega), rI_wI, if_neg (by omega), rI_wI, if_neg (by omega), rI_wI, if_neg (by omega)])), v2.trans u2⟩ v3 (fun _ => ⟨u3.fr (fun a j q => v1 a j (by omega)), VS0, fun _ => ⟨rfl, rfl, rfl⟩⟩) rfl
end SCB
