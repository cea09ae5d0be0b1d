/-! THE DAY on the component's side: cells take their rain, glaciers melt -/
theorem ldB_ff {s : Sk} {h : Nat} {D : Dy} {t f : Nat} : ldB s h false D t none (some f) = addD (sN D 3 f (thp (gN D 3 f) (gN D t) 8)) (skD s f (gN D 3 f) (gN D t) 8) := by
  show addD _ _ = _
  exact addD_congr (fun a b => by show (0 : Int32) + _ = _; exact Int32.zero_add _)
section DC7
variable {w : Wd} {d : Nat} {σ0 σ : Mem} {s : Sk} {P : Option AV → Mem → Prop} {X : Nat → Mem → Prop}
theorem s_lie_61 {D : Dy} {e h r c : Nat} {hf : Nat → Nat} (hS0 : skC σ0 4 s) (hv : VS s) (hh : h < 50) (hc : eC σ0 s e hf D σ) (hr : r < 64) (hcl : c < 64) (hrs : rs D (20 + r) ≤ 7992) (hth : ∀ f, f < kT s 3 → gN D 3 f ≤ 99) (hne : ∀ g, cG s h c = some g → 20 + r ≠ 16 + g) (hkp : ∀ g, g < 3 → rs D (16 + g) ≤ 7992)
    (hP : ∀ τ, eC σ0 s e hf (sR (ldB s h false D (20 + r) (cG s h c) (cF s c)) (20 + r) (fun _ => 0)) τ → P none τ) : Ret w true (d + 5) 0 0 m_Ground_lie [.ref 60, .ref 61, .int (nI r), .int (nI c), .int (nI h)] σ P X := by
  have hn := hv.2.2.1
  have hF := hv.2.2.2.1
  have gr : ∀ o, o < 8 → gN D (20 + r) o ≤ 7992 := fun o ho => Nat.le_trans (gN_rs ho) hrs
  refine meth_ok k_Ground_lie q_Ground_lie rfl fun At hAt => ?_
  have lg : ∀ g, cG s h c = some g → ∀ x6 : Int32, ∀ o, o ≤ 8 → ∀ τ, eC σ0 s e hf (sR (sR D (16 + g) (fun i => if i < o then gN D (16 + g) i + gN D (20 + r) i else gN D (16 + g) i)) (20 + r) (fun i => if i < o then 0 else gN D (20 + r) i)) τ → ∀ z8, At 22 [.ref 60, .ref 61, .int (nI r), .int (nI c), .int (nI h), .int (nI g), .int x6, .int (nI o), z8] [] τ 0 0 := by
    intro g hg x6
    have hg3 := (cG_b hv hg).1
    have hng := hne g hg
    refine upto fun o ho ih => ?_
    intro τ hx z8
    have gro := gr o
    have hko : o < 8 → gN D (16 + g) o ≤ 7992 := fun q => Nat.le_trans (gN_rs q) (hkp g hg3)
    have r1 : o < 8 → rI τ 62 (r * 8 + o) = nI (gN D (20 + r) o) := fun q => by rw [hx.rai r o hr q, gR_eq q, if_neg (by omega)]
    have r2 : o < 8 → rI τ 64 (g * 8 + o) = nI (gN D (16 + g) o) := fun q => by rw [hx.kep g o hg3 q, gR_ne (by omega), gR_eq q, if_neg (by omega)]
    refine hAt 3 _ _ _ _ _ _ ?_
    refine And.intro (fun hq => ?_) (fun hq => ?_)
    · have c26 : 8 ≤ o := (leN (a := 8) (b := o) rfl rfl (by omega) (by omega)).mp hq
      clear hq
      refine hAt 1 _ _ _ _ _ _ ?_
      have e8 : o = 8 := by omega
      subst e8
      refine hP τ ?_
      rw [hg]
      have eq : sR (ldB s h false D (20 + r) (some g) (cF s c)) (20 + r) (fun _ => 0) = sR (sR D (16 + g) (fun i => if i < 8 then gN D (16 + g) i + gN D (20 + r) i else gN D (16 + g) i)) (20 + r) (fun i => if i < 8 then 0 else gN D (20 + r) i) := by
        refine Dy.ext (fun a b => ?_) (fun _ _ => rfl)
        show gN (sR (sR D (16 + g) _) (20 + r) _) a b = _
        simp only [gN_sR]
        by_cases q : b < 8
        · simp [q]
        · simp [q]
      rw [eq]; exact hx
    · have c26 : o < 8 := Nat.lt_of_not_le (fun zq => hq ((leN (a := 8) (b := o) rfl rfl (by omega) (by omega)).mpr zq))
      clear hq
      have gro := gro c26
      have hko := hko c26
      refine hAt 4 _ _ _ _ _ _ ?_
      refine s_Table_get (a := 61) (na := 62) (mo := 64) (wd := 8) rfl (show r < 64 by omega) (show o < 8 by omega) ?_
      refine Eq.mpr (congrArg (fun xq : Int32 => At 36 [.ref (60), .ref (61), .int (nI r), .int (nI c), .int (nI h), .int (nI g), .int (x6), .int (nI o), z8] [.int xq] τ 0 0) (show rI τ 62 (r * 8 + o) = nI (gN D (20 + r) o) from (r1 (by omega)))) ?_
      refine hAt 9 _ _ _ _ _ _ ?_
      refine s_Table_set (a := 61) (na := 62) (mo := 64) (wd := 8) rfl (show r < 64 by omega) (show o < 8 by omega) ?_
      refine And.intro (fun hq => ?_) (fun hq => ?_)
      · have c49 : (g : Int) = -1 := (eqZ (a := (g : Int)) (b := -1) (ntZ rfl) m1Z (by omega) (by omega) (by omega) (by omega)).mp hq
        clear hq
        exact absurd c49 (by omega)
      · have c49 : ¬ (g : Int) = -1 := fun zq => hq ((eqZ (a := (g : Int)) (b := -1) (ntZ rfl) m1Z (by omega) (by omega) (by omega) (by omega)).mpr zq)
        clear hq
        refine hAt 6 _ _ _ _ _ _ ?_
        refine s_Table_add (a := 63) (na := 64) (mo := 3) (wd := 8) rfl (show g < 3 by omega) (show o < 8 by omega) ?_
        refine Eq.mpr (congrArg (fun xq : Mem => At 65 [.ref (60), .ref (61), .int (nI r), .int (nI c), .int (nI h), .int (nI g), .int (x6), .int (nI o), .int (nI (gN D (20 + r) o))] [] xq 0 0) (congrArg (fun z => wI (wI τ 62 (r * 8 + o) (nI 0)) 64 (g * 8 + o) z) (show rI (wI τ 62 (r * 8 + o) (nI 0)) 64 (g * 8 + o) + (nI (gN D (20 + r) o)) = nI (gN D (16 + g) o + (gN D (20 + r) o)) from (adE (by rw [rI_wI, if_neg (by omega)]; exact (r2 (by omega))) rfl)))) ?_
        refine hAt 3 _ _ _ _ _ _ ?_
        refine Eq.mpr (congrArg (fun xq : Int32 => At 22 [.ref (60), .ref (61), .int (nI r), .int (nI c), .int (nI h), .int (nI g), .int (x6), .int xq, .int (nI (gN D (20 + r) o))] [] (wI (wI τ 62 (r * 8 + o) (nI 0)) 64 (g * 8 + o) (nI (gN D (16 + g) o + (gN D (20 + r) o)))) 0 0) (show nI o + nI 1 = nI (o + 1) from (adE rfl rfl))) ?_
        have g1 := (hx.wrai (v := 0) hr c26 hn hF).wkep (v := gN D (16 + g) o + gN D (20 + r) o) hg3 c26 hn hF
        refine ih c26 _ ?_ _
        · have eq : sR (sR D (16 + g) (fun i => if i < o + 1 then gN D (16 + g) i + gN D (20 + r) i else gN D (16 + g) i)) (20 + r) (fun i => if i < o + 1 then 0 else gN D (20 + r) i) = sN (sN (sR (sR D (16 + g) (fun i => if i < o then gN D (16 + g) i + gN D (20 + r) i else gN D (16 + g) i)) (20 + r) (fun i => if i < o then 0 else gN D (20 + r) i)) (20 + r) o 0) (16 + g) o (gN D (16 + g) o + gN D (20 + r) o) := by
            have hng' : ¬ (16 + g = 20 + r) := fun z => hng z.symm
            refine Dy.ext (fun a b => ?_) (fun _ _ => rfl)
            simp only [gN_sN, gN_sR]
            by_cases eb : b = o
            · subst eb
              by_cases e2 : a = 16 + g
              · subst e2; simp [c26, hng'] <;> (intro z; omega)
              · by_cases e3 : a = 20 + r
                · subst e3; simp [c26] <;> (intro z; omega)
                · simp [e2, e3]
            · have e4 : (b < o + 1) = (b < o) := propext ⟨fun z => by omega, fun z => by omega⟩
              simp [eb, e4]
          rw [eq]; exact g1
  have lw : cG s h c = none → cF s c = none → ∀ o, o ≤ 8 → ∀ τ, eC σ0 s e hf (sR (sD D 0 5 (gD D 0 5 + nI (sumN (gN D (20 + r)) o))) (20 + r) (fun i => if i < o then 0 else gN D (20 + r) i)) τ → ∀ z8, At 22 [.ref 60, .ref 61, .int (nI r), .int (nI c), .int (nI h), .int (-1), .int (-1), .int (nI o), z8] [] τ 0 0 := by
    intro hg hff
    refine upto fun o ho ih => ?_
    intro τ hx z8
    have gro := gr o
    have r1 : o < 8 → rI τ 62 (r * 8 + o) = nI (gN D (20 + r) o) := fun q => by rw [hx.rai r o hr q, gR_eq q, if_neg (by omega)]
    have r2 : rI τ 60 8 = gD D 0 5 + nI (sumN (gN D (20 + r)) o) := by rw [hx.was, gD_sR, gD_sD, if_pos ⟨rfl, rfl⟩]
    refine hAt 3 _ _ _ _ _ _ ?_
    refine And.intro (fun hq => ?_) (fun hq => ?_)
    · have c26 : 8 ≤ o := (leN (a := 8) (b := o) rfl rfl (by omega) (by omega)).mp hq
      clear hq
      refine hAt 1 _ _ _ _ _ _ ?_
      have e8 : o = 8 := by omega
      subst e8
      refine hP τ ?_
      rw [hg, hff]
      have eq : sR (ldB s h false D (20 + r) none none) (20 + r) (fun _ => 0) = sR (sD D 0 5 (gD D 0 5 + nI (sumN (gN D (20 + r)) 8))) (20 + r) (fun i => if i < 8 then 0 else gN D (20 + r) i) := by
        refine Dy.ext (fun a b => ?_) (fun _ _ => rfl)
        show gN (sR (sD D 0 5 _) (20 + r) _) a b = _
        simp only [gN_sR]
        by_cases q : b < 8
        · simp [q]; rfl
        · simp [q]; rfl
      rw [eq]; exact hx
    · have c26 : o < 8 := Nat.lt_of_not_le (fun zq => hq ((leN (a := 8) (b := o) rfl rfl (by omega) (by omega)).mpr zq))
      clear hq
      refine hAt 4 _ _ _ _ _ _ ?_
      refine s_Table_get (a := 61) (na := 62) (mo := 64) (wd := 8) rfl (show r < 64 by omega) (show o < 8 by omega) ?_
      refine Eq.mpr (congrArg (fun xq : Int32 => At 36 [.ref (60), .ref (61), .int (nI r), .int (nI c), .int (nI h), .int (-1), .int (-1), .int (nI o), z8] [.int xq] τ 0 0) (show rI τ 62 (r * 8 + o) = nI (gN D (20 + r) o) from (r1 (by omega)))) ?_
      refine hAt 9 _ _ _ _ _ _ ?_
      refine s_Table_set (a := 61) (na := 62) (mo := 64) (wd := 8) rfl (show r < 64 by omega) (show o < 8 by omega) ?_
      refine And.intro (fun _ => ?_) (fun hq => absurd hq (by decide))
      refine hAt 3 _ _ _ _ _ _ ?_
      refine And.intro (fun _ => ?_) (fun hq => absurd hq (by decide))
      refine hAt 3 _ _ _ _ _ _ ?_
      refine Eq.mpr (congrArg (fun xq : Int32 => At 92 [.ref (60), .ref (61), .int (nI r), .int (nI c), .int (nI h), .int (-1), .int (-1), .int (nI o), .int (nI (gN D (20 + r) o))] [.int xq, .ref (60)] (wI τ 62 (r * 8 + o) (nI 0)) 0 0) (show rI (wI τ 62 (r * 8 + o) (nI 0)) 60 8 = gD D 0 5 + nI (sumN (gN D (20 + r)) o) from (by rw [rI_wI, if_neg (by omega)]; exact r2))) ?_
      refine hAt 5 _ _ _ _ _ _ ?_
      refine Eq.mpr (congrArg (fun xq : Int32 => At 22 [.ref (60), .ref (61), .int (nI r), .int (nI c), .int (nI h), .int (-1), .int (-1), .int xq, .int (nI (gN D (20 + r) o))] [] (wI (wI τ 62 (r * 8 + o) (nI 0)) 60 8 ((gD D 0 5 + nI (sumN (gN D (20 + r)) o)) + (nI (gN D (20 + r) o)))) 0 0) (show nI o + nI 1 = nI (o + 1) from (adE rfl rfl))) ?_
      have g1 := (hx.wrai (v := 0) hr c26 hn hF).wwas (v := gD D 0 5 + nI (sumN (gN D (20 + r)) o) + nI (gN D (20 + r) o)) hn hF
      refine ih c26 _ ?_ _
      · have eq : sR (sD D 0 5 (gD D 0 5 + nI (sumN (gN D (20 + r)) (o + 1)))) (20 + r) (fun i => if i < o + 1 then 0 else gN D (20 + r) i) = sD (sN (sR (sD D 0 5 (gD D 0 5 + nI (sumN (gN D (20 + r)) o))) (20 + r) (fun i => if i < o then 0 else gN D (20 + r) i)) (20 + r) o 0) 0 5 (gD D 0 5 + nI (sumN (gN D (20 + r)) o) + nI (gN D (20 + r) o)) := by
          refine Dy.ext (fun a b => ?_) (fun a b => ?_)
          · simp only [gN_sN, gN_sR, gN_sD]
            by_cases eb : b = o
            · subst eb
              by_cases e3 : a = 20 + r
              · subst e3; simp [c26]
              · simp [e3]
            · have e4 : (b < o + 1) = (b < o) := propext ⟨fun z => by omega, fun z => by omega⟩
              simp [eb, e4]
          · simp only [gD_sN, gD_sR, gD_sD]
            by_cases q : a = 0 ∧ b = 5
            · rw [if_pos q, if_pos q, sumN, ← nI_add, Int32.add_assoc]
            · rw [if_neg q, if_neg q, if_neg q]
        rw [eq]; exact g1
  have lf : cG s h c = none → ∀ f, cF s c = some f → ∀ o, o ≤ 8 → ∀ τ, eC σ0 s e hf (sR (addD (sN D 3 f (thp (gN D 3 f) (gN D (20 + r)) o)) (skD s f (gN D 3 f) (gN D (20 + r)) o)) (20 + r) (fun i => if i < o then 0 else gN D (20 + r) i)) τ → ∀ z8, At 22 [.ref 60, .ref 61, .int (nI r), .int (nI c), .int (nI h), .int (-1), .int (nI f), .int (nI o), z8] [] τ 0 0 := by
    intro hg f hff
    have hfl := (fdA_some _ hff).1
    refine upto fun o ho ih => ?_
    intro τ hx z8
    have gro := gr o
    have ht := thp_le (gN D 3 f) (gN D (20 + r)) o
    have htf := hth f hfl
    have r1 : o < 8 → rI τ 62 (r * 8 + o) = nI (gN D (20 + r) o) := fun q => by rw [hx.rai r o hr q, gR_eq q, if_neg (by omega)]
    obtain ⟨E, hE⟩ : ∃ E, E = sN (sR (addD (sN D 3 f (thp (gN D 3 f) (gN D (20 + r)) o)) (skD s f (gN D 3 f) (gN D (20 + r)) o)) (20 + r) (fun i => if i < o then 0 else gN D (20 + r) i)) (20 + r) o 0 := ⟨_, rfl⟩
    have e3 : gN E 3 f = thp (gN D 3 f) (gN D (20 + r)) o := by rw [hE, gN_ne (by omega), gR_ne (by omega), gN_addD, gN_eq]
    refine hAt 3 _ _ _ _ _ _ ?_
    refine And.intro (fun hq => ?_) (fun hq => ?_)
    · have c26 : 8 ≤ o := (leN (a := 8) (b := o) rfl rfl (by omega) (by omega)).mp hq
      clear hq
      refine hAt 1 _ _ _ _ _ _ ?_
      have e8 : o = 8 := by omega
      subst e8
      refine hP τ ?_
      rw [hg, hff, ldB_ff]
      have eq : sR (addD (sN D 3 f (thp (gN D 3 f) (gN D (20 + r)) 8)) (skD s f (gN D 3 f) (gN D (20 + r)) 8)) (20 + r) (fun _ => 0) = sR (addD (sN D 3 f (thp (gN D 3 f) (gN D (20 + r)) 8)) (skD s f (gN D 3 f) (gN D (20 + r)) 8)) (20 + r) (fun i => if i < 8 then 0 else gN D (20 + r) i) := by
        refine Dy.ext (fun a b => ?_) (fun _ _ => rfl)
        simp only [gN_sR]
        by_cases q : b < 8
        · simp [q]
        · simp [q]
      rw [eq]; exact hx
    · have c26 : o < 8 := Nat.lt_of_not_le (fun zq => hq ((leN (a := 8) (b := o) rfl rfl (by omega) (by omega)).mpr zq))
      clear hq
      have gro := gro c26
      refine hAt 4 _ _ _ _ _ _ ?_
      refine s_Table_get (a := 61) (na := 62) (mo := 64) (wd := 8) rfl (show r < 64 by omega) (show o < 8 by omega) ?_
      refine Eq.mpr (congrArg (fun xq : Int32 => At 36 [.ref (60), .ref (61), .int (nI r), .int (nI c), .int (nI h), .int (-1), .int (nI f), .int (nI o), z8] [.int xq] τ 0 0) (show rI τ 62 (r * 8 + o) = nI (gN D (20 + r) o) from (r1 (by omega)))) ?_
      refine hAt 9 _ _ _ _ _ _ ?_
      refine s_Table_set (a := 61) (na := 62) (mo := 64) (wd := 8) rfl (show r < 64 by omega) (show o < 8 by omega) ?_
      refine And.intro (fun _ => ?_) (fun hq => absurd hq (by decide))
      refine hAt 3 _ _ _ _ _ _ ?_
      refine And.intro (fun hq => ?_) (fun hq => ?_)
      · have c71 : (f : Int) = -1 := (eqZ (a := (f : Int)) (b := -1) (ntZ rfl) m1Z (by omega) (by omega) (by omega) (by omega)).mp hq
        clear hq
        exact absurd c71 (by omega)
      · have c71 : ¬ (f : Int) = -1 := fun zq => hq ((eqZ (a := (f : Int)) (b := -1) (ntZ rfl) m1Z (by omega) (by omega) (by omega) (by omega)).mpr zq)
        clear hq
        refine hAt 8 _ _ _ _ _ _ ?_
        refine s_soak hS0 hv (D := E) (by rw [hE]; exact hx.wrai (v := 0) hr c26 hn hF) hfl c26 (by omega) (by omega) (fun τ2 hc2 => ?_)
        refine Eq.mpr (congrArg (fun xq : Int32 => At 22 [.ref (60), .ref (61), .int (nI r), .int (nI c), .int (nI h), .int (-1), .int (nI f), .int xq, .int (nI (gN D (20 + r) o))] [] τ2 0 0) (show nI o + nI 1 = nI (o + 1) from (adE rfl rfl))) ?_
        have q := ih c26 τ2 ?_ (.int (nI (gN D (20 + r) o)))
        · exact q
        · have eq : sR (addD (sN D 3 f (thp (gN D 3 f) (gN D (20 + r)) (o + 1))) (skD s f (gN D 3 f) (gN D (20 + r)) (o + 1))) (20 + r) (fun i => if i < o + 1 then 0 else gN D (20 + r) i) = addD (sN E 3 f (gN E 3 f - min (gN D (20 + r) o) (gN E 3 f))) (sk1 s f o (min (gN D (20 + r) o) (gN E 3 f)) (gN D (20 + r) o - min (gN D (20 + r) o) (gN E 3 f))) := by
            rw [e3, hE]
            refine Dy.ext (fun a b => ?_) (fun a b => ?_)
            · simp only [gN_sN, gN_sR, gN_addD]
              by_cases e4 : a = 3
              · subst e4
                have e5 : ¬ (3 = 20 + r) := by omega
                by_cases e6 : b = f
                · subst e6; simp [e5, thp]
                · simp [e5, e6]
              · by_cases eb : b = o
                · subst eb
                  by_cases e7 : a = 20 + r
                  · subst e7; simp [c26, e4]
                  · simp [e7, e4]
                · have e8 : (b < o + 1) = (b < o) := propext ⟨fun z => by omega, fun z => by omega⟩
                  simp [eb, e8, e4]
            · simp only [gD_sN, gD_sR, gD_addD]
              rw [Int32.add_assoc]; rfl
          rw [eq]; exact hc2
  have hS := hc.sk hS0
  refine hAt 12 _ _ _ _ _ _ ?_
  refine s_keeperOf hS hv hcl hh ?_
  refine s_fieldAt hS hv hcl ?_
  have z0 : ∀ t : Nat, (fun i => if i < 0 then 0 else gN D t i) = gN D t := fun t => funext fun i => if_neg (by omega)
  have zR : ∀ (E : Dy) t, (∀ b, b < 8 → gN E t b = gN D t b) → sR E t (gN D t) = E := fun E t q => Dy.ext (fun a b => by
    rw [gN_sR]
    by_cases y : a = t ∧ b < 8
    · rw [if_pos y, y.1, q b y.2]
    · rw [if_neg y]) (fun _ _ => rfl)
  cases e1 : cG s h c with
  | some g =>
    refine lg g e1 _ 0 (by omega) σ ?_ _
    rw [z0, show (fun i => if i < 0 then gN D (16 + g) i + gN D (20 + r) i else gN D (16 + g) i) = gN D (16 + g) from funext fun i => if_neg (by omega), zR D (16 + g) (fun _ _ => rfl), zR D (20 + r) (fun _ _ => rfl)]
    exact hc
  | none =>
    cases e2 : cF s c with
    | none =>
      refine lw e1 e2 0 (by omega) σ ?_ _
      rw [z0, show sD D 0 5 (gD D 0 5 + nI (sumN (gN D (20 + r)) 0)) = D from Dy.ext (fun _ _ => rfl) (fun a b => by
        rw [gD_sD]
        by_cases y : a = 0 ∧ b = 5
        · rw [if_pos y, y.1, y.2, sumN, ad_0]
        · rw [if_neg y]), zR D (20 + r) (fun _ _ => rfl)]
      exact hc
    | some f =>
      refine lf e1 f e2 0 (by omega) σ ?_ _
      rw [z0, show addD (sN D 3 f (thp (gN D 3 f) (gN D (20 + r)) 0)) (skD s f (gN D 3 f) (gN D (20 + r)) 0) = D from Dy.ext (fun a b => by
        rw [gN_addD, gN_sN]
        by_cases y : a = 3 ∧ b = f
        · rw [if_pos y, y.1, y.2]; rfl
        · rw [if_neg y]) (fun a b => by rw [gD_addD]; exact Int32.add_zero _), zR D (20 + r) (fun _ _ => rfl)]
      exact hc
theorem s_lie_63 {D : Dy} {e h r c : Nat} {hf : Nat → Nat} (hS0 : skC σ0 4 s) (hv : VS s) (hh : h < 50) (hc : eC σ0 s e hf D σ) (hr : r < 3) (hcl : c < 64) (hrs : rs D (16 + r) ≤ 7992) (hth : ∀ f, f < kT s 3 → gN D 3 f ≤ 99) (hne : ∀ g, cG s h c = some g → 16 + r ≠ 16 + g) (hkp : ∀ g, g < 3 → rs D (16 + g) ≤ 7992)
    (hP : ∀ τ, eC σ0 s e hf (sR (ldB s h false D (16 + r) (cG s h c) (cF s c)) (16 + r) (fun _ => 0)) τ → P none τ) : Ret w true (d + 5) 0 0 m_Ground_lie [.ref 60, .ref 63, .int (nI r), .int (nI c), .int (nI h)] σ P X := by
  have hn := hv.2.2.1
  have hF := hv.2.2.2.1
  have gr : ∀ o, o < 8 → gN D (16 + r) o ≤ 7992 := fun o ho => Nat.le_trans (gN_rs ho) hrs
  refine meth_ok k_Ground_lie q_Ground_lie rfl fun At hAt => ?_
  have lg : ∀ g, cG s h c = some g → ∀ x6 : Int32, ∀ o, o ≤ 8 → ∀ τ, eC σ0 s e hf (sR (sR D (16 + g) (fun i => if i < o then gN D (16 + g) i + gN D (16 + r) i else gN D (16 + g) i)) (16 + r) (fun i => if i < o then 0 else gN D (16 + r) i)) τ → ∀ z8, At 22 [.ref 60, .ref 63, .int (nI r), .int (nI c), .int (nI h), .int (nI g), .int x6, .int (nI o), z8] [] τ 0 0 := by
    intro g hg x6
    have hg3 := (cG_b hv hg).1
    have hng := hne g hg
    refine upto fun o ho ih => ?_
    intro τ hx z8
    have gro := gr o
    have hko : o < 8 → gN D (16 + g) o ≤ 7992 := fun q => Nat.le_trans (gN_rs q) (hkp g hg3)
    have r1 : o < 8 → rI τ 64 (r * 8 + o) = nI (gN D (16 + r) o) := fun q => by rw [hx.kep r o hr q, gR_eq q, if_neg (by omega)]
    have r2 : o < 8 → rI τ 64 (g * 8 + o) = nI (gN D (16 + g) o) := fun q => by rw [hx.kep g o hg3 q, gR_ne (by omega), gR_eq q, if_neg (by omega)]
    refine hAt 3 _ _ _ _ _ _ ?_
    refine And.intro (fun hq => ?_) (fun hq => ?_)
    · have c26 : 8 ≤ o := (leN (a := 8) (b := o) rfl rfl (by omega) (by omega)).mp hq
      clear hq
      refine hAt 1 _ _ _ _ _ _ ?_
      have e8 : o = 8 := by omega
      subst e8
      refine hP τ ?_
      rw [hg]
      have eq : sR (ldB s h false D (16 + r) (some g) (cF s c)) (16 + r) (fun _ => 0) = sR (sR D (16 + g) (fun i => if i < 8 then gN D (16 + g) i + gN D (16 + r) i else gN D (16 + g) i)) (16 + r) (fun i => if i < 8 then 0 else gN D (16 + r) i) := by
        refine Dy.ext (fun a b => ?_) (fun _ _ => rfl)
        show gN (sR (sR D (16 + g) _) (16 + r) _) a b = _
        simp only [gN_sR]
        by_cases q : b < 8
        · simp [q]
        · simp [q]
      rw [eq]; exact hx
    · have c26 : o < 8 := Nat.lt_of_not_le (fun zq => hq ((leN (a := 8) (b := o) rfl rfl (by omega) (by omega)).mpr zq))
      clear hq
      have gro := gro c26
      have hko := hko c26
      refine hAt 4 _ _ _ _ _ _ ?_
      refine s_Table_get (a := 63) (na := 64) (mo := 3) (wd := 8) rfl (show r < 3 by omega) (show o < 8 by omega) ?_
      refine Eq.mpr (congrArg (fun xq : Int32 => At 36 [.ref (60), .ref (63), .int (nI r), .int (nI c), .int (nI h), .int (nI g), .int (x6), .int (nI o), z8] [.int xq] τ 0 0) (show rI τ 64 (r * 8 + o) = nI (gN D (16 + r) o) from (r1 (by omega)))) ?_
      refine hAt 9 _ _ _ _ _ _ ?_
      refine s_Table_set (a := 63) (na := 64) (mo := 3) (wd := 8) rfl (show r < 3 by omega) (show o < 8 by omega) ?_
      refine And.intro (fun hq => ?_) (fun hq => ?_)
      · have c49 : (g : Int) = -1 := (eqZ (a := (g : Int)) (b := -1) (ntZ rfl) m1Z (by omega) (by omega) (by omega) (by omega)).mp hq
        clear hq
        exact absurd c49 (by omega)
      · have c49 : ¬ (g : Int) = -1 := fun zq => hq ((eqZ (a := (g : Int)) (b := -1) (ntZ rfl) m1Z (by omega) (by omega) (by omega) (by omega)).mpr zq)
        clear hq
        refine hAt 6 _ _ _ _ _ _ ?_
        refine s_Table_add (a := 63) (na := 64) (mo := 3) (wd := 8) rfl (show g < 3 by omega) (show o < 8 by omega) ?_
        refine Eq.mpr (congrArg (fun xq : Mem => At 65 [.ref (60), .ref (63), .int (nI r), .int (nI c), .int (nI h), .int (nI g), .int (x6), .int (nI o), .int (nI (gN D (16 + r) o))] [] xq 0 0) (congrArg (fun z => wI (wI τ 64 (r * 8 + o) (nI 0)) 64 (g * 8 + o) z) (show rI (wI τ 64 (r * 8 + o) (nI 0)) 64 (g * 8 + o) + (nI (gN D (16 + r) o)) = nI (gN D (16 + g) o + (gN D (16 + r) o)) from (adE (by rw [rI_wI, if_neg (by omega)]; exact (r2 (by omega))) rfl)))) ?_
        refine hAt 3 _ _ _ _ _ _ ?_
        refine Eq.mpr (congrArg (fun xq : Int32 => At 22 [.ref (60), .ref (63), .int (nI r), .int (nI c), .int (nI h), .int (nI g), .int (x6), .int xq, .int (nI (gN D (16 + r) o))] [] (wI (wI τ 64 (r * 8 + o) (nI 0)) 64 (g * 8 + o) (nI (gN D (16 + g) o + (gN D (16 + r) o)))) 0 0) (show nI o + nI 1 = nI (o + 1) from (adE rfl rfl))) ?_
        have g1 := (hx.wkep (v := 0) hr c26 hn hF).wkep (v := gN D (16 + g) o + gN D (16 + r) o) hg3 c26 hn hF
        refine ih c26 _ ?_ _
        · have eq : sR (sR D (16 + g) (fun i => if i < o + 1 then gN D (16 + g) i + gN D (16 + r) i else gN D (16 + g) i)) (16 + r) (fun i => if i < o + 1 then 0 else gN D (16 + r) i) = sN (sN (sR (sR D (16 + g) (fun i => if i < o then gN D (16 + g) i + gN D (16 + r) i else gN D (16 + g) i)) (16 + r) (fun i => if i < o then 0 else gN D (16 + r) i)) (16 + r) o 0) (16 + g) o (gN D (16 + g) o + gN D (16 + r) o) := by
            have hng' : ¬ (16 + g = 16 + r) := fun z => hng z.symm
            refine Dy.ext (fun a b => ?_) (fun _ _ => rfl)
            simp only [gN_sN, gN_sR]
            by_cases eb : b = o
            · subst eb
              by_cases e2 : a = 16 + g
              · subst e2; simp [c26, hng'] <;> (intro z; omega)
              · by_cases e3 : a = 16 + r
                · subst e3; simp [c26] <;> (intro z; omega)
                · simp [e2, e3]
            · have e4 : (b < o + 1) = (b < o) := propext ⟨fun z => by omega, fun z => by omega⟩
              simp [eb, e4]
          rw [eq]; exact g1
  have lw : cG s h c = none → cF s c = none → ∀ o, o ≤ 8 → ∀ τ, eC σ0 s e hf (sR (sD D 0 5 (gD D 0 5 + nI (sumN (gN D (16 + r)) o))) (16 + r) (fun i => if i < o then 0 else gN D (16 + r) i)) τ → ∀ z8, At 22 [.ref 60, .ref 63, .int (nI r), .int (nI c), .int (nI h), .int (-1), .int (-1), .int (nI o), z8] [] τ 0 0 := by
    intro hg hff
    refine upto fun o ho ih => ?_
    intro τ hx z8
    have gro := gr o
    have r1 : o < 8 → rI τ 64 (r * 8 + o) = nI (gN D (16 + r) o) := fun q => by rw [hx.kep r o hr q, gR_eq q, if_neg (by omega)]
    have r2 : rI τ 60 8 = gD D 0 5 + nI (sumN (gN D (16 + r)) o) := by rw [hx.was, gD_sR, gD_sD, if_pos ⟨rfl, rfl⟩]
    refine hAt 3 _ _ _ _ _ _ ?_
    refine And.intro (fun hq => ?_) (fun hq => ?_)
    · have c26 : 8 ≤ o := (leN (a := 8) (b := o) rfl rfl (by omega) (by omega)).mp hq
      clear hq
      refine hAt 1 _ _ _ _ _ _ ?_
      have e8 : o = 8 := by omega
      subst e8
      refine hP τ ?_
      rw [hg, hff]
      have eq : sR (ldB s h false D (16 + r) none none) (16 + r) (fun _ => 0) = sR (sD D 0 5 (gD D 0 5 + nI (sumN (gN D (16 + r)) 8))) (16 + r) (fun i => if i < 8 then 0 else gN D (16 + r) i) := by
        refine Dy.ext (fun a b => ?_) (fun _ _ => rfl)
        show gN (sR (sD D 0 5 _) (16 + r) _) a b = _
        simp only [gN_sR]
        by_cases q : b < 8
        · simp [q]; rfl
        · simp [q]; rfl
      rw [eq]; exact hx
    · have c26 : o < 8 := Nat.lt_of_not_le (fun zq => hq ((leN (a := 8) (b := o) rfl rfl (by omega) (by omega)).mpr zq))
      clear hq
      refine hAt 4 _ _ _ _ _ _ ?_
      refine s_Table_get (a := 63) (na := 64) (mo := 3) (wd := 8) rfl (show r < 3 by omega) (show o < 8 by omega) ?_
      refine Eq.mpr (congrArg (fun xq : Int32 => At 36 [.ref (60), .ref (63), .int (nI r), .int (nI c), .int (nI h), .int (-1), .int (-1), .int (nI o), z8] [.int xq] τ 0 0) (show rI τ 64 (r * 8 + o) = nI (gN D (16 + r) o) from (r1 (by omega)))) ?_
      refine hAt 9 _ _ _ _ _ _ ?_
      refine s_Table_set (a := 63) (na := 64) (mo := 3) (wd := 8) rfl (show r < 3 by omega) (show o < 8 by omega) ?_
      refine And.intro (fun _ => ?_) (fun hq => absurd hq (by decide))
      refine hAt 3 _ _ _ _ _ _ ?_
      refine And.intro (fun _ => ?_) (fun hq => absurd hq (by decide))
      refine hAt 3 _ _ _ _ _ _ ?_
      refine Eq.mpr (congrArg (fun xq : Int32 => At 92 [.ref (60), .ref (63), .int (nI r), .int (nI c), .int (nI h), .int (-1), .int (-1), .int (nI o), .int (nI (gN D (16 + r) o))] [.int xq, .ref (60)] (wI τ 64 (r * 8 + o) (nI 0)) 0 0) (show rI (wI τ 64 (r * 8 + o) (nI 0)) 60 8 = gD D 0 5 + nI (sumN (gN D (16 + r)) o) from (by rw [rI_wI, if_neg (by omega)]; exact r2))) ?_
      refine hAt 5 _ _ _ _ _ _ ?_
      refine Eq.mpr (congrArg (fun xq : Int32 => At 22 [.ref (60), .ref (63), .int (nI r), .int (nI c), .int (nI h), .int (-1), .int (-1), .int xq, .int (nI (gN D (16 + r) o))] [] (wI (wI τ 64 (r * 8 + o) (nI 0)) 60 8 ((gD D 0 5 + nI (sumN (gN D (16 + r)) o)) + (nI (gN D (16 + r) o)))) 0 0) (show nI o + nI 1 = nI (o + 1) from (adE rfl rfl))) ?_
      have g1 := (hx.wkep (v := 0) hr c26 hn hF).wwas (v := gD D 0 5 + nI (sumN (gN D (16 + r)) o) + nI (gN D (16 + r) o)) hn hF
      refine ih c26 _ ?_ _
      · have eq : sR (sD D 0 5 (gD D 0 5 + nI (sumN (gN D (16 + r)) (o + 1)))) (16 + r) (fun i => if i < o + 1 then 0 else gN D (16 + r) i) = sD (sN (sR (sD D 0 5 (gD D 0 5 + nI (sumN (gN D (16 + r)) o))) (16 + r) (fun i => if i < o then 0 else gN D (16 + r) i)) (16 + r) o 0) 0 5 (gD D 0 5 + nI (sumN (gN D (16 + r)) o) + nI (gN D (16 + r) o)) := by
          refine Dy.ext (fun a b => ?_) (fun a b => ?_)
          · simp only [gN_sN, gN_sR, gN_sD]
            by_cases eb : b = o
            · subst eb
              by_cases e3 : a = 16 + r
              · subst e3; simp [c26]
              · simp [e3]
            · have e4 : (b < o + 1) = (b < o) := propext ⟨fun z => by omega, fun z => by omega⟩
              simp [eb, e4]
          · simp only [gD_sN, gD_sR, gD_sD]
            by_cases q : a = 0 ∧ b = 5
            · rw [if_pos q, if_pos q, sumN, ← nI_add, Int32.add_assoc]
            · rw [if_neg q, if_neg q, if_neg q]
        rw [eq]; exact g1
  have lf : cG s h c = none → ∀ f, cF s c = some f → ∀ o, o ≤ 8 → ∀ τ, eC σ0 s e hf (sR (addD (sN D 3 f (thp (gN D 3 f) (gN D (16 + r)) o)) (skD s f (gN D 3 f) (gN D (16 + r)) o)) (16 + r) (fun i => if i < o then 0 else gN D (16 + r) i)) τ → ∀ z8, At 22 [.ref 60, .ref 63, .int (nI r), .int (nI c), .int (nI h), .int (-1), .int (nI f), .int (nI o), z8] [] τ 0 0 := by
    intro hg f hff
    have hfl := (fdA_some _ hff).1
    refine upto fun o ho ih => ?_
    intro τ hx z8
    have gro := gr o
    have ht := thp_le (gN D 3 f) (gN D (16 + r)) o
    have htf := hth f hfl
    have r1 : o < 8 → rI τ 64 (r * 8 + o) = nI (gN D (16 + r) o) := fun q => by rw [hx.kep r o hr q, gR_eq q, if_neg (by omega)]
    obtain ⟨E, hE⟩ : ∃ E, E = sN (sR (addD (sN D 3 f (thp (gN D 3 f) (gN D (16 + r)) o)) (skD s f (gN D 3 f) (gN D (16 + r)) o)) (16 + r) (fun i => if i < o then 0 else gN D (16 + r) i)) (16 + r) o 0 := ⟨_, rfl⟩
    have e3 : gN E 3 f = thp (gN D 3 f) (gN D (16 + r)) o := by rw [hE, gN_ne (by omega), gR_ne (by omega), gN_addD, gN_eq]
    refine hAt 3 _ _ _ _ _ _ ?_
    refine And.intro (fun hq => ?_) (fun hq => ?_)
    · have c26 : 8 ≤ o := (leN (a := 8) (b := o) rfl rfl (by omega) (by omega)).mp hq
      clear hq
      refine hAt 1 _ _ _ _ _ _ ?_
      have e8 : o = 8 := by omega
      subst e8
      refine hP τ ?_
      rw [hg, hff, ldB_ff]
      have eq : sR (addD (sN D 3 f (thp (gN D 3 f) (gN D (16 + r)) 8)) (skD s f (gN D 3 f) (gN D (16 + r)) 8)) (16 + r) (fun _ => 0) = sR (addD (sN D 3 f (thp (gN D 3 f) (gN D (16 + r)) 8)) (skD s f (gN D 3 f) (gN D (16 + r)) 8)) (16 + r) (fun i => if i < 8 then 0 else gN D (16 + r) i) := by
        refine Dy.ext (fun a b => ?_) (fun _ _ => rfl)
        simp only [gN_sR]
        by_cases q : b < 8
        · simp [q]
        · simp [q]
      rw [eq]; exact hx
    · have c26 : o < 8 := Nat.lt_of_not_le (fun zq => hq ((leN (a := 8) (b := o) rfl rfl (by omega) (by omega)).mpr zq))
      clear hq
      have gro := gro c26
      refine hAt 4 _ _ _ _ _ _ ?_
      refine s_Table_get (a := 63) (na := 64) (mo := 3) (wd := 8) rfl (show r < 3 by omega) (show o < 8 by omega) ?_
      refine Eq.mpr (congrArg (fun xq : Int32 => At 36 [.ref (60), .ref (63), .int (nI r), .int (nI c), .int (nI h), .int (-1), .int (nI f), .int (nI o), z8] [.int xq] τ 0 0) (show rI τ 64 (r * 8 + o) = nI (gN D (16 + r) o) from (r1 (by omega)))) ?_
      refine hAt 9 _ _ _ _ _ _ ?_
      refine s_Table_set (a := 63) (na := 64) (mo := 3) (wd := 8) rfl (show r < 3 by omega) (show o < 8 by omega) ?_
      refine And.intro (fun _ => ?_) (fun hq => absurd hq (by decide))
      refine hAt 3 _ _ _ _ _ _ ?_
      refine And.intro (fun hq => ?_) (fun hq => ?_)
      · have c71 : (f : Int) = -1 := (eqZ (a := (f : Int)) (b := -1) (ntZ rfl) m1Z (by omega) (by omega) (by omega) (by omega)).mp hq
        clear hq
        exact absurd c71 (by omega)
      · have c71 : ¬ (f : Int) = -1 := fun zq => hq ((eqZ (a := (f : Int)) (b := -1) (ntZ rfl) m1Z (by omega) (by omega) (by omega) (by omega)).mpr zq)
        clear hq
        refine hAt 8 _ _ _ _ _ _ ?_
        refine s_soak hS0 hv (D := E) (by rw [hE]; exact hx.wkep (v := 0) hr c26 hn hF) hfl c26 (by omega) (by omega) (fun τ2 hc2 => ?_)
        refine Eq.mpr (congrArg (fun xq : Int32 => At 22 [.ref (60), .ref (63), .int (nI r), .int (nI c), .int (nI h), .int (-1), .int (nI f), .int xq, .int (nI (gN D (16 + r) o))] [] τ2 0 0) (show nI o + nI 1 = nI (o + 1) from (adE rfl rfl))) ?_
        have q := ih c26 τ2 ?_ (.int (nI (gN D (16 + r) o)))
        · exact q
        · have eq : sR (addD (sN D 3 f (thp (gN D 3 f) (gN D (16 + r)) (o + 1))) (skD s f (gN D 3 f) (gN D (16 + r)) (o + 1))) (16 + r) (fun i => if i < o + 1 then 0 else gN D (16 + r) i) = addD (sN E 3 f (gN E 3 f - min (gN D (16 + r) o) (gN E 3 f))) (sk1 s f o (min (gN D (16 + r) o) (gN E 3 f)) (gN D (16 + r) o - min (gN D (16 + r) o) (gN E 3 f))) := by
            rw [e3, hE]
            refine Dy.ext (fun a b => ?_) (fun a b => ?_)
            · simp only [gN_sN, gN_sR, gN_addD]
              by_cases e4 : a = 3
              · subst e4
                have e5 : ¬ (3 = 16 + r) := by omega
                by_cases e6 : b = f
                · subst e6; simp [e5, thp]
                · simp [e5, e6]
              · by_cases eb : b = o
                · subst eb
                  by_cases e7 : a = 16 + r
                  · subst e7; simp [c26, e4]
                  · simp [e7, e4]
                · have e8 : (b < o + 1) = (b < o) := propext ⟨fun z => by omega, fun z => by omega⟩
                  simp [eb, e8, e4]
            · simp only [gD_sN, gD_sR, gD_addD]
              rw [Int32.add_assoc]; rfl
          rw [eq]; exact hc2
  have hS := hc.sk hS0
  refine hAt 12 _ _ _ _ _ _ ?_
  refine s_keeperOf hS hv hcl hh ?_
  refine s_fieldAt hS hv hcl ?_
  have z0 : ∀ t : Nat, (fun i => if i < 0 then 0 else gN D t i) = gN D t := fun t => funext fun i => if_neg (by omega)
  have zR : ∀ (E : Dy) t, (∀ b, b < 8 → gN E t b = gN D t b) → sR E t (gN D t) = E := fun E t q => Dy.ext (fun a b => by
    rw [gN_sR]
    by_cases y : a = t ∧ b < 8
    · rw [if_pos y, y.1, q b y.2]
    · rw [if_neg y]) (fun _ _ => rfl)
  cases e1 : cG s h c with
  | some g =>
    refine lg g e1 _ 0 (by omega) σ ?_ _
    rw [z0, show (fun i => if i < 0 then gN D (16 + g) i + gN D (16 + r) i else gN D (16 + g) i) = gN D (16 + g) from funext fun i => if_neg (by omega), zR D (16 + g) (fun _ _ => rfl), zR D (16 + r) (fun _ _ => rfl)]
    exact hc
  | none =>
    cases e2 : cF s c with
    | none =>
      refine lw e1 e2 0 (by omega) σ ?_ _
      rw [z0, show sD D 0 5 (gD D 0 5 + nI (sumN (gN D (16 + r)) 0)) = D from Dy.ext (fun _ _ => rfl) (fun a b => by
        rw [gD_sD]
        by_cases y : a = 0 ∧ b = 5
        · rw [if_pos y, y.1, y.2, sumN, ad_0]
        · rw [if_neg y]), zR D (16 + r) (fun _ _ => rfl)]
      exact hc
    | some f =>
      refine lf e1 f e2 0 (by omega) σ ?_ _
      rw [z0, show addD (sN D 3 f (thp (gN D 3 f) (gN D (16 + r)) 0)) (skD s f (gN D 3 f) (gN D (16 + r)) 0) = D from Dy.ext (fun a b => by
        rw [gN_addD, gN_sN]
        by_cases y : a = 3 ∧ b = f
        · rw [if_pos y, y.1, y.2]; rfl
        · rw [if_neg y]) (fun a b => by rw [gD_addD]; exact Int32.add_zero _), zR D (16 + r) (fun _ _ => rfl)]
      exact hc
end DC7
