/-! WORTH on the component's side: the search -/
/-- how the component holds rooms, flows and what is left -/
def wC (n m : Nat) (r g : Nat → Nat → Nat) (lf : Nat → Nat) (σ : Mem) : Prop :=
  (∀ k f, k < n → f < m → rI σ 83 (k * 12 + f) = nI (r k f)) ∧ (∀ k f, k < n → f < m → rI σ 85 (k * 12 + f) = nI (g k f)) ∧ ∀ k, k < n → rI σ 87 k = nI (lf k)
/-- what the search holds -/
def sC (n m : Nat) (cf fb : Nat → Option Nat) (qu : Nat → Nat) (q : Nat) (σ : Mem) : Prop :=
  (∀ k, k < n → rI σ 91 k = oI (cf k)) ∧ (∀ f, f < m → rI σ 93 f = oI (fb f)) ∧ ∀ i, i < q → rI σ 95 i = nI (qu i)
theorem skC.frame9 {σ τ : Mem} {s : Sk} (h : skC σ 4 s) (f : ∀ a j, a < 81 → rI τ a j = rI σ a j) : skC τ 4 s :=
  ⟨fun i hi => by rw [f _ _ (by omega)]; exact h.1 i hi, h.2.1.frame (fun j => f _ _ (by omega)) (fun j => f _ _ (by omega)), h.2.2.1.frame (fun j => f _ _ (by omega)) (fun j => f _ _ (by omega)), h.2.2.2.1.frame (fun j => f _ _ (by omega)) (fun j => f _ _ (by omega)), h.2.2.2.2.1.frame (fun j => f _ _ (by omega)) (fun j => f _ _ (by omega)), fun k hk i hi => by rw [f _ _ (by omega)]; exact h.2.2.2.2.2 k hk i hi⟩
section WC
variable {w : Wd} {d : Nat} {σ : Mem} {s : Sk} {P : Option AV → Mem → Prop} {X : Nat → Mem → Prop}
theorem s_queueServed {r g : Nat → Nat → Nat} {lf : Nat → Nat} {cf fb : Nat → Option Nat} {qu : Nat → Nat} {k f0 q : Nat} (hS : skC σ 4 s) (hv : VS s) (hw : wC (kT s 2) (kT s 3) r g lf σ) (hb : ∀ k f, k < kT s 2 → f < kT s 3 → g k f ≤ 4950) (hs : sC (kT s 2) (kT s 3) cf fb qu q σ) (hq : QI (kT s 3) f0 fb qu q) (hk : k < kT s 2) (hbk : ∀ i x, i < kT s 3 → fb i = some x → x < kT s 2)
    (hP : ∀ τ fb' qu' q', (∀ a j, a ≠ 93 → a ≠ 95 → rI τ a j = rI σ a j) → τ.2 = σ.2 → sC (kT s 2) (kT s 3) cf fb' qu' q' τ → QI (kT s 3) f0 fb' qu' q' → (q ≤ q' ∧ ∀ i, i < q → qu' i = qu i) → (∀ i, i < kT s 3 → fb i ≠ none → fb' i = fb i) → (∀ i, i < kT s 3 → fb i = none → fb' i ≠ none → fb' i = some k ∧ 0 < g k i) → (∀ i, i < kT s 3 → 0 < g k i → i = f0 ∨ fb' i ≠ none) → P (some (.int (nI q'))) τ) : Ret w true (d + 2) 0 0 m_Worth_queueServed [.ref 81, .int (nI k), .int (nI f0), .int (nI q)] σ P X := by
  have hn := hv.2.2.1
  have hF := hv.2.2.2.1
  have hf0 := hq.1
  refine meth_ok k_Worth_queueServed q_Worth_queueServed rfl fun At hAt => ?_
  have loop : ∀ f, f ≤ kT s 3 → ∀ τ fb' qu' q', (∀ a j, a ≠ 93 → a ≠ 95 → rI τ a j = rI σ a j) → τ.2 = σ.2 → sC (kT s 2) (kT s 3) cf fb' qu' q' τ → QI (kT s 3) f0 fb' qu' q' → (q ≤ q' ∧ ∀ i, i < q → qu' i = qu i) → (∀ i, i < kT s 3 → fb i ≠ none → fb' i = fb i) → (∀ i, i < kT s 3 → fb i = none → fb' i ≠ none → fb' i = some k ∧ 0 < g k i) → (∀ i, i < f → 0 < g k i → i = f0 ∨ fb' i ≠ none) → At 6 [.ref 81, .int (nI k), .int (nI f0), .int (nI q), .int (nI q'), .int (nI f)] [] τ 0 0 := by
    refine upto fun f hf ih => ?_
    intro τ fb' qu' q' t1 t2 hs' hq' e0 e1 e2 e3
    have hS := hS.frame9 (τ := τ) (fun a j h => t1 a j (by omega) (by omega))
    have gb := hb k f hk
    have skip : f < kT s 3 → (0 < g k f → f = f0 ∨ fb' f ≠ none) → At 6 [.ref 81, .int (nI k), .int (nI f0), .int (nI q), .int (nI q'), .int (nI (f + 1))] [] τ 0 0 := fun hf2 h => ih hf2 τ fb' qu' q' t1 t2 hs' hq' e0 e1 e2 (fun i hi => by
      by_cases e : i = f
      · subst e; exact h
      · exact e3 i (by omega))
    have hq12 : q' ≤ kT s 3 + 1 := by rw [hq'.2.2.2.2.2]; exact Nat.succ_le_succ (cnO_le _ _)
    have flw : f < kT s 3 → rI τ 85 (k * 12 + f) = nI (g k f) := fun h => by rw [t1 _ _ (by omega) (by omega)]; exact hw.2.1 k f hk h
    refine hAt 5 _ _ _ _ _ _ ?_
    refine s_Table_size (a := 10) (na := 11) (mo := 12) (wd := 6) rfl ?_
    refine Eq.mpr (congrArg (fun xq : Int32 => At 18 [.ref (81), .int (nI k), .int (nI f0), .int (nI q), .int (nI q'), .int (nI f)] [.int xq, .int (nI f)] τ 0 0) (show rI τ 10 3 = nI (kT s 3) from hS.2.2.2.1.1)) ?_
    refine hAt 1 _ _ _ _ _ _ ?_
    refine And.intro (fun hq => ?_) (fun hq => ?_)
    · have c18 : kT s 3 ≤ f := (leN (a := kT s 3) (b := f) rfl rfl (by omega) (by omega)).mp hq
      clear hq
      refine hAt 2 _ _ _ _ _ _ ?_
      have e : f = kT s 3 := by omega
      subst e
      exact hP τ fb' qu' q' t1 t2 hs' hq' e0 e1 e2 e3
    · have c18 : f < kT s 3 := Nat.lt_of_not_le (fun zq => hq ((leN (a := kT s 3) (b := f) rfl rfl (by omega) (by omega)).mpr zq))
      clear hq
      have gb := gb c18
      refine hAt 3 _ _ _ _ _ _ ?_
      refine And.intro (fun hq => ?_) (fun hq => ?_)
      · have c24 : f = f0 := (eqN (a := f) (b := f0) rfl rfl (by omega) (by omega)).mp hq
        clear hq
        refine hAt 2 _ _ _ _ _ _ ?_
        refine Eq.mpr (congrArg (fun xq : Int32 => At 6 [.ref (81), .int (nI k), .int (nI f0), .int (nI q), .int (nI q'), .int xq] [] τ 0 0) (show nI f + nI 1 = nI (f + 1) from (adE rfl rfl))) ?_
        exact skip c18 (fun _ => Or.inl c24)
      · have c24 : ¬ f = f0 := fun zq => hq ((eqN (a := f) (b := f0) rfl rfl (by omega) (by omega)).mpr zq)
        clear hq
        refine hAt 4 _ _ _ _ _ _ ?_
        refine s_Row_get (a := 92) (na := 93) (n := 12) rfl (show f < 12 by omega) ?_
        refine Eq.mpr (congrArg (fun xq : Int32 => At 36 [.ref (81), .int (nI k), .int (nI f0), .int (nI q), .int (nI q'), .int (nI f)] [.int xq] τ 0 0) (show rI τ 93 f = oI (fb' f) from (hs'.2.1 f (by omega)))) ?_
        refine hAt 2 _ _ _ _ _ _ ?_
        cases e37 : fb' f with
        | none =>
          refine And.intro (fun hq => absurd rfl hq) (fun _ => ?_)
          refine hAt 5 _ _ _ _ _ _ ?_
          refine s_Table_get (a := 84) (na := 85) (mo := 8) (wd := 12) rfl (show k < 8 by omega) (show f < 12 by omega) ?_
          refine Eq.mpr (congrArg (fun xq : Int32 => At 50 [.ref (81), .int (nI k), .int (nI f0), .int (nI q), .int (nI q'), .int (nI f)] [.int xq] τ 0 0) (show rI τ 85 (k * 12 + f) = nI (g k f) from (flw (by omega)))) ?_
          refine hAt 1 _ _ _ _ _ _ ?_
          refine And.intro (fun hq => ?_) (fun hq => ?_)
          · have c50 : g k f ≤ 0 := (leN (a := g k f) (b := 0) rfl rfl (by omega) (by omega)).mp hq
            clear hq
            refine hAt 2 _ _ _ _ _ _ ?_
            refine Eq.mpr (congrArg (fun xq : Int32 => At 6 [.ref (81), .int (nI k), .int (nI f0), .int (nI q), .int (nI q'), .int xq] [] τ 0 0) (show nI f + nI 1 = nI (f + 1) from (adE rfl rfl))) ?_
            exact skip c18 (fun z => by omega)
          · have c50 : 0 < g k f := Nat.lt_of_not_le (fun zq => hq ((leN (a := g k f) (b := 0) rfl rfl (by omega) (by omega)).mpr zq))
            clear hq
            obtain ⟨hq13, hq14⟩ := QI_push (k := k) hq' c18 c24 e37
            refine hAt 13 _ _ _ _ _ _ ?_
            refine s_Row_set (a := 92) (na := 93) (n := 12) rfl (show f < 12 by omega) ?_
            refine s_Row_set (a := 94) (na := 95) (n := 12) rfl (show q' < 12 by omega) ?_
            refine Eq.mpr (congrArg (fun xq : Int32 => At 6 [.ref (81), .int (nI k), .int (nI f0), .int (nI q), .int xq, .int (nI f + nI 1)] [] (wI (wI τ 93 f (nI k)) 95 q' (nI f)) 0 0) (show (nI q') + nI 1 = nI (q' + 1) from (adE rfl rfl))) ?_
            refine Eq.mpr (congrArg (fun xq : Int32 => At 6 [.ref (81), .int (nI k), .int (nI f0), .int (nI q), .int (nI (q' + 1)), .int xq] [] (wI (wI τ 93 f (nI k)) 95 q' (nI f)) 0 0) (show nI f + nI 1 = nI (f + 1) from (adE rfl rfl))) ?_
            refine ih c18 _ (upO fb' f (some k)) (up1 qu' q' f) (q' + 1) (fun a j u1 u2 => ?_) t2 ⟨fun i hi => ?_, fun i hi => ?_, fun i hi => ?_⟩ hq14 ⟨by omega, fun i hi => ?_⟩ (fun i hi z => ?_) (fun i hi z1 z2 => ?_) (fun i hi z => ?_)
            · rw [rI_wI, if_neg (by omega), rI_wI, if_neg (by omega)]; exact t1 a j u1 u2
            · rw [rI_wI, if_neg (by omega), rI_wI, if_neg (by omega)]; exact hs'.1 i hi
            · rw [rI_wI, if_neg (by omega), rI_wI]
              unfold upO
              by_cases e : i = f
              · rw [if_pos ⟨rfl, e⟩, if_pos e]; rfl
              · rw [if_neg (by omega), if_neg e]; exact hs'.2.1 i hi
            · rw [rI_wI]
              unfold up1
              by_cases e : i = q'
              · rw [if_pos ⟨rfl, e⟩, if_pos e]
              · rw [if_neg (by omega), if_neg e, rI_wI, if_neg (by omega)]; exact hs'.2.2 i (by omega)
            · unfold up1; rw [if_neg (by omega)]; exact e0.2 i hi
            · unfold upO
              by_cases e : i = f
              · rw [e] at z
                rw [e1 f c18 z] at e37
                exact absurd e37 z
              · rw [if_neg e]; exact e1 i hi z
            · unfold upO at z2 ⊢
              by_cases e : i = f
              · rw [if_pos e, e]; exact ⟨rfl, c50⟩
              · rw [if_neg e] at z2 ⊢; exact e2 i hi z1 z2
            · by_cases e : i = f
              · refine Or.inr ?_
                unfold upO
                rw [if_pos e]; exact (fun z => by cases z)
              · rcases e3 i (by omega) z with y | y
                · exact Or.inl y
                · refine Or.inr ?_
                  unfold upO
                  rw [if_neg e]; exact y
        | some bb37 =>
          have hbb : bb37 < 8 := by
            by_cases z : fb f = none
            · have y := e2 f c18 z (by rw [e37]; exact (fun z => by cases z))
              rw [e37] at y; cases y.1; omega
            · rw [e1 f c18 z] at e37; have := hbk f _ c18 e37; omega
          refine And.intro (fun _ => ?_) (fun hq => absurd hq (nI_m1 (by omega)))
          refine hAt 2 _ _ _ _ _ _ ?_
          refine Eq.mpr (congrArg (fun xq : Int32 => At 6 [.ref (81), .int (nI k), .int (nI f0), .int (nI q), .int (nI q'), .int xq] [] τ 0 0) (show nI f + nI 1 = nI (f + 1) from (adE rfl rfl))) ?_
          exact skip c18 (fun _ => Or.inr (by rw [e37]; exact (fun z => by cases z)))
  refine hAt 4 _ _ _ _ _ _ ?_
  exact loop 0 (Nat.zero_le _) σ fb qu q (fun _ _ _ _ => rfl) rfl hs hq ⟨Nat.le_refl _, fun _ _ => rfl⟩ (fun _ _ _ => rfl) (fun i _ h1 h2 => absurd h1 h2) (fun i hi => absurd hi (Nat.not_lt_zero i))
theorem wC.frame {n m : Nat} {r g : Nat → Nat → Nat} {lf : Nat → Nat} {τ : Mem} (h : wC n m r g lf σ) (f : ∀ a j, a = 83 ∨ a = 85 ∨ a = 87 → rI τ a j = rI σ a j) : wC n m r g lf τ :=
  ⟨fun k i hk hi => by rw [f _ _ (by omega)]; exact h.1 k i hk hi, fun k i hk hi => by rw [f _ _ (by omega)]; exact h.2.1 k i hk hi, fun k hk => by rw [f _ _ (by omega)]; exact h.2.2 k hk⟩
theorem s_findWater {r g : Nat → Nat → Nat} {lf Q : Nat → Nat} {f0 : Nat} (hS : skC σ 4 s) (hv : VS s) (hw : wC (kT s 2) (kT s 3) r g lf σ) (hb : ∀ k f, k < kT s 2 → f < kT s 3 → r k f ≤ 4950) (hr : ∀ k f, k < kT s 2 → f < kT s 3 → g k f ≤ r k f) (hl : ∀ k, k < kT s 2 → lf k ≤ 999) (hsum : ∀ k, k < kT s 2 → sumN (g k) (kT s 3) + lf k = Q k) (hf0 : f0 < kT s 3)
    (hP0 : ∀ τ, (∀ a j, a ≠ 91 → a ≠ 93 → a ≠ 95 → rI τ a j = rI σ a j) → τ.2 = σ.2 → (∃ R C, R f0 = true ∧ (∀ f, f < kT s 3 → R f = true → f = f0 ∨ ∃ k, k < kT s 2 ∧ 0 < g k f) ∧ cert (kT s 2) (kT s 3) r Q g R C) → P (some (.int (-1))) τ)
    (hP1 : ∀ τ cf fb rk k, (∀ a j, a ≠ 91 → a ≠ 93 → a ≠ 95 → rI τ a j = rI σ a j) → τ.2 = σ.2 → (∀ k, k < kT s 2 → rI τ 91 k = oI (cf k)) → (∀ f, f < kT s 3 → rI τ 93 f = oI (fb f)) → BI4 (kT s 2) (kT s 3) r g f0 cf fb → BI5 (kT s 2) (kT s 3) g cf fb → BI6 (kT s 2) cf fb rk → k < kT s 2 → cf k ≠ none → 0 < lf k → P (some (.int (nI k))) τ) : Ret w true (d + 3) 0 0 m_Worth_findWater [.ref 81, .int (nI f0)] σ P X := by
  have hn := hv.2.2.1
  have hF := hv.2.2.2.1
  have hgb : ∀ k f, k < kT s 2 → f < kT s 3 → g k f ≤ 4950 := fun k f h1 h2 => Nat.le_trans (hr k f h1 h2) (hb k f h1 h2)
  refine meth_ok k_Worth_findWater q_Worth_findWater rfl fun At hAt => ?_
  have outer : ∀ h, h ≤ 12 → ∀ τ cf fb qu q rk z4 z5, (∀ a j, a ≠ 91 → a ≠ 93 → a ≠ 95 → rI τ a j = rI σ a j) → τ.2 = σ.2 → sC (kT s 2) (kT s 3) cf fb qu q τ → QI (kT s 3) f0 fb qu q → BI4 (kT s 2) (kT s 3) r g f0 cf fb → BI5 (kT s 2) (kT s 3) g cf fb → BI6 (kT s 2) cf fb rk → BI7 (kT s 2) (kT s 3) g lf f0 cf fb → (∀ i, i < h → i < q → ∀ k, k < kT s 2 → g k (qu i) < r k (qu i) → cf k ≠ none) → At 29 [.ref 81, .int (nI f0), .int (nI q), .int (nI h), z4, z5] [] τ 0 0 := by
    refine upto fun h hh ih => ?_
    intro τ cf fb qu q rk z4 z5 t1 t2 hs hq h4 h5 h6 h7 h8
    have inner : h < q → ∀ dr, qu h = dr → dr < kT s 3 → ∀ k, k ≤ kT s 2 → ∀ τ cf fb qu q rk, (∀ a j, a ≠ 91 → a ≠ 93 → a ≠ 95 → rI τ a j = rI σ a j) → τ.2 = σ.2 → sC (kT s 2) (kT s 3) cf fb qu q τ → QI (kT s 3) f0 fb qu q → BI4 (kT s 2) (kT s 3) r g f0 cf fb → BI5 (kT s 2) (kT s 3) g cf fb → BI6 (kT s 2) cf fb rk → BI7 (kT s 2) (kT s 3) g lf f0 cf fb → (∀ i, i < h → i < q → ∀ k, k < kT s 2 → g k (qu i) < r k (qu i) → cf k ≠ none) → h < q → qu h = dr → (∀ j, j < k → g j dr < r j dr → cf j ≠ none) → At 53 [.ref 81, .int (nI f0), .int (nI q), .int (nI h), .int (nI dr), .int (nI k)] [] τ 0 0 := by
      intro hhq0 dr hdr0 hdm
      refine upto fun k hk ih2 => ?_
      intro τ cf fb qu q rk t1 t2 hs hq h4 h5 h6 h7 h8 hhq hdr h9
      have hqm := QI_le hq
      have hS := hS.frame9 (τ := τ) (fun a j h => t1 a j (by omega) (by omega) (by omega))
      have hw := hw.frame (τ := τ) (fun a j h => t1 a j (by omega) (by omega) (by omega))
      have b1 := fun h => hb k dr h hdm
      have b2 := fun h => hr k dr h hdm
      have b3 := hl k
      have b4 : k < kT s 2 → ∀ x, cf k = some x → x < kT s 3 := fun h x e => (h4 k x h e).1
      have next : k < kT s 2 → (g k dr < r k dr → cf k ≠ none) → At 53 [.ref 81, .int (nI f0), .int (nI q), .int (nI h), .int (nI dr), .int (nI (k + 1))] [] τ 0 0 := fun hk2 z => ih2 hk2 τ cf fb qu q rk t1 t2 hs hq h4 h5 h6 h7 h8 hhq hdr (fun j hj y => by
        by_cases e : j = k
        · subst e; exact z y
        · exact h9 j (by omega) y)
      have hfq : dr = f0 ∨ fb dr ≠ none := by rw [← hdr]; exact (hq.2.2.2.1 h hhq).2
      refine hAt 5 _ _ _ _ _ _ ?_
      refine s_Table_size (a := 8) (na := 9) (mo := 8) (wd := 7) rfl ?_
      refine Eq.mpr (congrArg (fun xq : Int32 => At 65 [.ref (81), .int (nI f0), .int (nI q), .int (nI h), .int (nI dr), .int (nI k)] [.int xq, .int (nI k)] τ 0 0) (show rI τ 8 3 = nI (kT s 2) from hS.2.2.1.1)) ?_
      refine hAt 1 _ _ _ _ _ _ ?_
      refine And.intro (fun hq => ?_) (fun hq => ?_)
      · have c65 : kT s 2 ≤ k := (leN (a := kT s 2) (b := k) rfl rfl (by omega) (by omega)).mp hq
        clear hq
        refine hAt 2 _ _ _ _ _ _ ?_
        refine Eq.mpr (congrArg (fun xq : Int32 => At 29 [.ref (81), .int (nI f0), .int (nI q), .int xq, .int (nI dr), .int (nI k)] [] τ 0 0) (show nI h + nI 1 = nI (h + 1) from (adE rfl rfl))) ?_
        have e : k = kT s 2 := by omega
        subst e
        refine ih (by omega) τ cf fb qu q rk _ _ t1 t2 hs hq h4 h5 h6 h7 (fun i hi hi2 j hj z => ?_)
        by_cases e : i = h
        · subst e; rw [hdr] at z; exact h9 j hj z
        · exact h8 i (by omega) hi2 j hj z
      · have c65 : k < kT s 2 := Nat.lt_of_not_le (fun zq => hq ((leN (a := kT s 2) (b := k) rfl rfl (by omega) (by omega)).mpr zq))
        clear hq
        have b1 := b1 c65
        have b2 := b2 c65
        have b3 := b3 c65
        refine hAt 4 _ _ _ _ _ _ ?_
        refine s_Row_get (a := 90) (na := 91) (n := 8) rfl (show k < 8 by omega) ?_
        refine Eq.mpr (congrArg (fun xq : Int32 => At 77 [.ref (81), .int (nI f0), .int (nI q), .int (nI h), .int (nI dr), .int (nI k)] [.int xq] τ 0 0) (show rI τ 91 k = oI (cf k) from (hs.1 k (by omega)))) ?_
        refine hAt 2 _ _ _ _ _ _ ?_
        cases e78 : cf k with
        | none =>
          refine And.intro (fun hq => absurd rfl hq) (fun _ => ?_)
          refine hAt 5 _ _ _ _ _ _ ?_
          refine s_Table_get (a := 82) (na := 83) (mo := 8) (wd := 12) rfl (show k < 8 by omega) (show dr < 12 by omega) ?_
          refine Eq.mpr (congrArg (fun xq : Int32 => At 92 [.ref (81), .int (nI f0), .int (nI q), .int (nI h), .int (nI dr), .int (nI k)] [.int xq] τ 0 0) (show rI τ 83 (k * 12 + dr) = nI (r k dr) from (hw.1 k dr (by omega) hdm))) ?_
          refine hAt 5 _ _ _ _ _ _ ?_
          refine s_Table_get (a := 84) (na := 85) (mo := 8) (wd := 12) rfl (show k < 8 by omega) (show dr < 12 by omega) ?_
          refine Eq.mpr (congrArg (fun xq : Int32 => At 103 [.ref (81), .int (nI f0), .int (nI q), .int (nI h), .int (nI dr), .int (nI k)] [.int xq, .int (nI (r k dr))] τ 0 0) (show rI τ 85 (k * 12 + dr) = nI (g k dr) from (hw.2.1 k dr (by omega) hdm))) ?_
          refine hAt 1 _ _ _ _ _ _ ?_
          refine And.intro (fun hq => ?_) (fun hq => ?_)
          · have c103 : r k dr ≤ g k dr := (leN (a := r k dr) (b := g k dr) rfl rfl (by omega) (by omega)).mp hq
            clear hq
            refine hAt 2 _ _ _ _ _ _ ?_
            refine Eq.mpr (congrArg (fun xq : Int32 => At 53 [.ref (81), .int (nI f0), .int (nI q), .int (nI h), .int (nI dr), .int xq] [] τ 0 0) (show nI k + nI 1 = nI (k + 1) from (adE rfl rfl))) ?_
            exact next c65 (fun z => by omega)
          · have c103 : g k dr < r k dr := Nat.lt_of_not_le (fun zq => hq ((leN (a := r k dr) (b := g k dr) rfl rfl (by omega) (by omega)).mpr zq))
            clear hq
            have cfw : ∀ i, i < kT s 2 → rI (wI τ 91 k (nI dr)) 91 i = oI (upO cf k (some dr) i) := fun i hi => by
              rw [rI_wI]
              unfold upO
              by_cases e : i = k
              · rw [if_pos ⟨rfl, e⟩, if_pos e]; rfl
              · rw [if_neg (by omega), if_neg e]; exact hs.1 i hi
            refine hAt 9 _ _ _ _ _ _ ?_
            refine s_Row_set (a := 90) (na := 91) (n := 8) rfl (show k < 8 by omega) ?_
            refine s_Row_get (a := 86) (na := 87) (n := 8) rfl (show k < 8 by omega) ?_
            refine Eq.mpr (congrArg (fun xq : Int32 => At 126 [.ref (81), .int (nI f0), .int (nI q), .int (nI h), .int (nI dr), .int (nI k)] [.int xq] (wI τ 91 k (nI dr)) 0 0) (show rI (wI τ 91 k (nI dr)) 87 k = nI (lf k) from (by rw [rI_wI, if_neg (by omega)]; exact (hw.2.2 k (by omega))))) ?_
            refine hAt 1 _ _ _ _ _ _ ?_
            refine And.intro (fun hq => ?_) (fun hq => ?_)
            · have c126 : lf k ≤ 0 := (leN (a := lf k) (b := 0) rfl rfl (by omega) (by omega)).mp hq
              clear hq
              refine hAt 8 _ _ _ _ _ _ ?_
              refine s_queueServed (cf := upO cf k (some dr)) (hS.frame9 (fun a j u => by rw [rI_wI, if_neg (by omega)])) hv (hw.frame (fun a j u => by rw [rI_wI, if_neg (by omega)])) hgb ⟨fun i hi => cfw i hi, fun i hi => by rw [rI_wI, if_neg (by omega)]; exact hs.2.1 i hi, fun i hi => by rw [rI_wI, if_neg (by omega)]; exact hs.2.2 i hi⟩ hq (by omega) (fun i x hi e => (h5 i x hi e).1) (fun τ2 fb' qu' q' g1 g2 hs' hq' e0 e1 e2 e3 => ?_)
              have hqm' := QI_le hq'
              refine Eq.mpr (congrArg (fun xq : Int32 => At 53 [.ref (81), .int (nI f0), .int (nI q'), .int (nI h), .int (nI dr), .int xq] [] τ2 0 0) (show nI k + nI 1 = nI (k + 1) from (adE rfl rfl))) ?_
              have st := BI_step hq hq' h4 h5 h6 c65 e78 hdm hfq c103 e1 e2
              have nu : ∀ i, cf i ≠ none → upO cf k (some dr) i ≠ none := fun i z => by
                unfold upO
                by_cases y : i = k
                · rw [if_pos y]; exact (fun z => by cases z)
                · rw [if_neg y]; exact z
              refine ih2 c65 τ2 (upO cf k (some dr)) fb' qu' q' _ (fun a j u1 u2 u3 => ?_) (g2.trans t2) hs' hq' st.1 st.2.1 st.2.2 (fun j hj z => ?_) (fun i hi hi2 j hj z => ?_) (by omega) (by rw [e0.2 h hhq]; exact hdr) (fun j hj z => ?_)
              · rw [g1 a j u2 u3, rI_wI, if_neg (by omega)]; exact t1 a j u1 u2 u3
              · by_cases y : j = k
                · subst y; exact ⟨by omega, e3⟩
                · rw [show upO cf k (some dr) j = cf j from if_neg y] at z
                  have x := h7 j hj z
                  exact ⟨x.1, fun f hf u => (x.2 f hf u).elim Or.inl (fun v => Or.inr (by rw [e1 f hf v]; exact v))⟩
              · rw [e0.2 i (by omega)] at z; exact nu j (h8 i hi (by omega) j hj z)
              · by_cases y : j = k
                · subst y; rw [show upO cf j (some dr) j = some dr from if_pos rfl]; exact (fun z => by cases z)
                · exact nu j (h9 j (by omega) z)
            · have c126 : 0 < lf k := Nat.lt_of_not_le (fun zq => hq ((leN (a := lf k) (b := 0) rfl rfl (by omega) (by omega)).mpr zq))
              clear hq
              refine hAt 2 _ _ _ _ _ _ ?_
              have st := BI_step hq hq h4 h5 h6 c65 e78 hdm hfq c103 (fun _ _ _ => rfl) (fun i _ z1 z2 => absurd z1 z2)
              refine hP1 _ (upO cf k (some dr)) fb _ k (fun a j u1 u2 u3 => ?_) t2 cfw (fun i hi => ?_) st.1 st.2.1 st.2.2 c65 ?_ c126
              · rw [rI_wI, if_neg (by omega)]; exact t1 a j u1 u2 u3
              · rw [rI_wI, if_neg (by omega)]; exact hs.2.1 i hi
              · rw [show upO cf k (some dr) k = some dr from if_pos rfl]; exact (fun z => by cases z)
        | some bb78 =>
          have b4 := b4 c65 _ e78
          refine And.intro (fun _ => ?_) (fun hq => absurd hq (nI_m1 (by omega)))
          refine hAt 2 _ _ _ _ _ _ ?_
          refine Eq.mpr (congrArg (fun xq : Int32 => At 53 [.ref (81), .int (nI f0), .int (nI q), .int (nI h), .int (nI dr), .int xq] [] τ 0 0) (show nI k + nI 1 = nI (k + 1) from (adE rfl rfl))) ?_
          exact next c65 (fun _ => by rw [e78]; exact (fun z => by cases z))
    have hqm := QI_le hq
    have qh := fun (z : h < q) => hq.2.2.2.1 h z
    refine hAt 3 _ _ _ _ _ _ ?_
    refine And.intro (fun hq => ?_) (fun hq => ?_)
    · have c31 : q ≤ h := (leN (a := q) (b := h) rfl rfl (by omega) (by omega)).mp hq
      clear hq
      refine hAt 2 _ _ _ _ _ _ ?_
      exact hP0 τ t1 t2 (cert_of hq hr hsum h7 (fun i hi k hk z => h8 i (by omega) hi k hk z) h5)
    · have c31 : h < q := Nat.lt_of_not_le (fun zq => hq ((leN (a := q) (b := h) rfl rfl (by omega) (by omega)).mpr zq))
      clear hq
      have qh := qh c31
      refine hAt 3 _ _ _ _ _ _ ?_
      refine And.intro (fun hq => ?_) (fun hq => ?_)
      · have c37 : 12 ≤ h := (leN (a := 12) (b := h) rfl rfl (by omega) (by omega)).mp hq
        clear hq
        exact absurd c37 (by omega)
      · have c37 : h < 12 := Nat.lt_of_not_le (fun zq => hq ((leN (a := 12) (b := h) rfl rfl (by omega) (by omega)).mpr zq))
        clear hq
        refine hAt 4 _ _ _ _ _ _ ?_
        refine s_Row_get (a := 94) (na := 95) (n := 12) rfl (show h < 12 by omega) ?_
        refine Eq.mpr (congrArg (fun xq : Int32 => At 48 [.ref (81), .int (nI f0), .int (nI q), .int (nI h), z4, z5] [.int xq] τ 0 0) (show rI τ 95 h = nI (qu h) from (hs.2.2 h (by omega)))) ?_
        refine hAt 3 _ _ _ _ _ _ ?_
        exact inner c31 (qu h) rfl qh.1 0 (Nat.zero_le _) τ cf fb qu q rk t1 t2 hs hq h4 h5 h6 h7 h8 c31 rfl (fun j hj => absurd hj (Nat.not_lt_zero j))
  refine hAt 17 _ _ _ _ _ _ ?_
  refine s_Row_setAll (a := 90) (na := 91) (n := 8) rfl ?_
  obtain ⟨τ1, e1⟩ : ∃ τ1, τ1 = uI σ 91 (fun j => if j < 8 then -1 else rI σ 91 j) := ⟨_, rfl⟩
  rw [← e1]
  have g1 : ∀ a x, rI τ1 a x = if a = 91 then (if x < 8 then -1 else rI σ 91 x) else rI σ a x := fun a x => by rw [e1, rI_uI]
  refine s_Row_setAll (a := 92) (na := 93) (n := 12) rfl ?_
  obtain ⟨τ2, e2⟩ : ∃ τ2, τ2 = uI τ1 93 (fun j => if j < 12 then -1 else rI τ1 93 j) := ⟨_, rfl⟩
  rw [← e2]
  have g2 : ∀ a x, rI τ2 a x = if a = 93 then (if x < 12 then -1 else rI τ1 93 x) else rI τ1 a x := fun a x => by rw [e2, rI_uI]
  refine s_Row_set (a := 94) (na := 95) (n := 12) rfl (show 0 < 12 by omega) ?_
  refine outer 0 (by omega) _ (fun _ => none) (fun _ => none) (fun _ => f0) 1 (fun _ => 0) _ _ (fun a j u1 u2 u3 => ?_) ?_ ⟨fun i hi => ?_, fun i hi => ?_, fun i hi => ?_⟩ ⟨hf0, rfl, rfl, fun _ _ => ⟨hf0, Or.inl rfl⟩, fun f _ z => absurd rfl z, ?_⟩ (fun k f _ z => by cases z) (fun f k _ z => by cases z) ⟨fun k f i _ z => (by cases z), fun k _ z => absurd rfl z⟩ (fun k _ z => absurd rfl z) (fun i hi => absurd hi (Nat.not_lt_zero i))
  · rw [rI_wI, if_neg (by omega), g2, if_neg (by omega), g1, if_neg (by omega)]
  · show τ2.2 = σ.2; rw [e2]; show τ1.2 = σ.2; rw [e1]; rfl
  · rw [rI_wI, if_neg (by omega), g2, if_neg (by omega), g1, if_pos rfl, if_pos (by omega)]; rfl
  · rw [rI_wI, if_neg (by omega), g2, if_pos rfl, if_pos (by omega)]; rfl
  · rw [rI_wI, if_pos ⟨rfl, by omega⟩]
  · show 1 = cnO (fun _ => none) (kT s 3) + 1
    rw [show cnO (fun _ => none) (kT s 3) = 0 from sumN_zero _ (fun _ _ => rfl)]
end WC
