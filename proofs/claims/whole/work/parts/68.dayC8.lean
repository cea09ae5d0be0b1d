/-! THE DAY on the component's side: an hour, all hours -/
theorem lie_z {s : Sk} {h t : Nat} {D : Dy} {G F : Option Nat} (q : rs D t = 0) : sR (ldB s h false D t G F) t (fun _ => 0) = D := by
  have hz : ∀ o, o < 8 → gN D t o = 0 := fun o ho => by have := gN_rs (D := D) (t := t) ho; omega
  have tz : ∀ th o, o ≤ 8 → thp th (gN D t) o = th := by
    intro th o
    induction o with
    | zero => exact fun _ => rfl
    | succ o ih => intro ho; rw [thp, ih (by omega), hz o (by omega)]; omega
  have sz : ∀ f th o, o ≤ 8 → ∀ a b, skD s f th (gN D t) o a b = 0 := by
    intro f th o
    induction o with
    | zero => exact fun _ _ _ => rfl
    | succ o ih =>
      intro ho a b
      show skD s f th (gN D t) o a b + sk1 s f o _ _ a b = 0
      rw [ih (by omega), hz o (by omega), Nat.zero_min, Nat.zero_sub]
      have m0 : ∀ x : Int32, nI 0 * x = 0 := fun x => Int32.zero_mul
      have o0 : ∀ t i, one t i (nI 0) a b = 0 := fun t i => by unfold one; by_cases y : a = t ∧ b = i <;> simp [y] <;> rfl
      have o1 : ∀ t i, one t i (0 : Int32) a b = 0 := fun t i => by unfold one; by_cases y : a = t ∧ b = i <;> simp [y]
      unfold sk1
      rw [m0, m0, o0, o0, o0, o1, o1, o1, o1]; rfl
  refine Dy.ext (fun a b => ?_) (fun a b => ?_)
  · rw [gN_sR]
    by_cases y : a = t ∧ b < 8
    · rw [if_pos y, y.1, hz b y.2]
    · rw [if_neg y, gN_ldB]
      cases G with
      | some g =>
        show (if a = 16 + g ∧ b < 8 then gN D (16 + g) b + gN D t b else gN D a b) = _
        by_cases y2 : a = 16 + g ∧ b < 8
        · rw [if_pos y2, hz b y2.2, y2.1]; rfl
        · rw [if_neg y2]
      | none => cases F with
        | none => rfl
        | some f =>
          show (if a = 3 ∧ b = f then thp (gN D 3 f) (gN D t) 8 else gN D a b) = _
          by_cases y2 : a = 3 ∧ b = f
          · rw [if_pos y2, tz _ 8 (by omega), y2.1, y2.2]
          · rw [if_neg y2]
  · rw [gD_sR, gD_ldB]
    cases G with
    | some g => exact Int32.add_zero _
    | none => cases F with
      | none =>
        show gD D a b + one 0 5 (nI (rs D t)) a b = _
        rw [q]; unfold one
        by_cases y : a = 0 ∧ b = 5
        · rw [if_pos y]; exact Int32.add_zero _
        · rw [if_neg y]; exact Int32.add_zero _
      | some f =>
        show gD D a b + ((0 : Int32) + skD s f (gN D 3 f) (gN D t) 8 a b) = _
        rw [sz _ _ 8 (by omega)]; exact Int32.add_zero _
/-- where rain is -/
theorem go1_r {s : Sk} {h : Nat} {D : Dy} {k a : Nat} (hk : k < 8) (ha : 16 ≤ a) : rs (go1 s h D k) a = rs D a := by
  unfold go1
  by_cases q : gN D 0 k = 1 ∧ ps s k h = none
  · rw [if_pos q, rs_sR, if_neg (by omega), rs_sN (by omega), rs_sD]
  · rw [if_neg q]
theorem cm1_r {s : Sk} {h : Nat} {D : Dy} {k a : Nat} (hk : k < 8) (ha : 16 ≤ a) : rs (cm1 s h D k) a = rs D a := sumN_congr 8 (fun o _ => cm1_hi (by omega))
theorem ja1_r {s : Sk} {h : Nat} {D : Dy} {k a : Nat} (hk : k < 8) (ha : 16 ≤ a) : rs (ja1 s h D k) a = rs D a := by
  unfold ja1
  by_cases q : gN D 0 k = 1
  · rw [if_pos q]
    cases e : bes s D h k k with
    | none => rfl
    | some j =>
      have := (bes_some k j e).1
      exact sumN_congr 8 (fun o _ => by show gN (djn s D j k) a o = _; rw [gN_djn, if_neg (by omega), if_neg (by omega), if_neg (by omega), if_neg (by omega), if_neg (by omega)])
  · rw [if_neg q]
theorem fld_r {f : Dy → Nat → Dy} {n a : Nat} (hf : ∀ D k, k < n → rs (f D k) a = rs D a) {D : Dy} : ∀ k, k ≤ n → rs (fld f D k) a = rs D a
  | 0, _ => rfl
  | k + 1, hk => by rw [fld, hf _ k (by omega)]; exact fld_r hf k (by omega)
theorem dfl_rIn {s : Sk} {h : Nat} {D : Dy} {k n : Nat} (hn8 : kT s 2 ≤ 8) (hk : k < kT s 2) (tk : gN D 0 k = 1) (hr : rIn s h D) : rIn s h (dfl D k (cix s k h) n) := by
  intro c hc hne
  by_cases e : cix s k h = c
  · exact ⟨k, hk, by rw [dfl_th]; exact tk, e⟩
  · have : rs (dfl D k (cix s k h) n) (20 + c) = rs D (20 + c) := by
      by_cases q : n = 0
      · rw [dfl, if_pos q]
      · exact sumN_congr 8 (fun o _ => by rw [gN_dfl q, if_neg (by omega), if_neg (by omega)])
    rw [this] at hne
    obtain ⟨j, h1, h2, h3⟩ := hr c hc hne
    exact ⟨j, h1, by rw [dfl_th]; exact h2, h3⟩
theorem sp1_rIn {s : Sk} {b : Tb} {h : Nat} {D : Dy} {k : Nat} (hn8 : kT s 2 ≤ 8) (hk : k < kT s 2) (hr : rIn s h D) : rIn s h (sp1 s b h D k) := by
  unfold sp1
  by_cases q : gN D 0 k = 1 ∧ gnB b h k b.1 = false
  · rw [if_pos q]; exact dfl_rIn hn8 hk q.1 hr
  · rw [if_neg q]; exact hr
theorem rIn.of {s : Sk} {h : Nat} {D E : Dy} (hr : rIn s h D) (h0 : ∀ k, k < kT s 2 → gN E 0 k = gN D 0 k) (h1 : ∀ c, c < 64 → rs E (20 + c) = rs D (20 + c)) : rIn s h E := by
  intro c hc hne
  rw [h1 c hc] at hne
  obtain ⟨j, g1, g2, g3⟩ := hr c hc hne
  exact ⟨j, g1, by rw [h0 j g1]; exact g2, g3⟩
theorem ob1_rIn {s : Sk} {b : Tb} {h : Nat} {D : Dy} {i : Nat} (hn8 : kT s 2 ≤ 8) (hk : b.2 i 1 < kT s 2) (hr : rIn s h D) : rIn s h (ob1 s b h D i) := by
  unfold ob1
  by_cases q : b.2 i 0 = h ∧ gN D 0 (b.2 i 1) = 1
  · rw [if_pos q]
    have h1 : rIn s h (obS b D i) := hr.of (fun k _ => gN_obS) (fun c _ => rs_obS)
    have h2 := dfl_rIn (n := obF s b D i) hn8 hk (by rw [gN_obS]; exact q.2) h1
    exact h2.of (fun k _ => gN_ne (by omega)) (fun c _ => rs_sN (by omega))
  · rw [if_neg q]; exact hr
def rz (D : Dy) : Prop := ∀ c, c < 64 → rs D (20 + c) = 0
theorem dOb_rIn {s : Sk} {b : Tb} {h : Nat} {D : Dy} (hn8 : kT s 2 ≤ 8) (hbb : ∀ i, i < b.1 → b.2 i 1 < kT s 2) (hz : rz D) : rIn s h (dOb s b h D) := by
  have f0 : rIn s h (dJn s h D) := by
    intro c hc hne
    refine absurd ?_ hne
    unfold dJn dMv
    rw [fld_r (fun D k hk => ja1_r (by omega) (by omega)) _ (Nat.le_refl _), fld_r (fun D k hk => cm1_r (by omega) (by omega)) _ (Nat.le_refl _), fld_r (fun D k hk => go1_r (by omega) (by omega)) _ (Nat.le_refl _)]
    exact hz c hc
  have f1 : ∀ k, k ≤ kT s 2 → rIn s h (fld (sp1 s b h) (dJn s h D) k) := by
    intro k
    induction k with
    | zero => exact fun _ => f0
    | succ k ih => exact fun hk => sp1_rIn hn8 (by omega) (ih (by omega))
  have f2 : rIn s h (dSp s b h D) := (f1 _ (Nat.le_refl _)).of (fun k _ => gR_ne (by omega)) (fun c _ => by unfold dSp; rw [rs_sR, if_neg (by omega)])
  have f3 : ∀ i, i ≤ b.1 → rIn s h (fld (ob1 s b h) (dSp s b h D) i) := by
    intro i
    induction i with
    | zero => exact fun _ => f2
    | succ i ih => exact fun hi => ob1_rIn hn8 (hbb i (by omega)) (ih (by omega))
  exact f3 _ (Nat.le_refl _)
theorem ml1_r {s : Sk} {h : Nat} (hv : VS s) {D : Dy} {g c : Nat} (hg : g < kT s 4) : rs (ml1 s h D g) (20 + c) = rs D (20 + c) := by
  have hG := hv.2.2.2.2.1
  unfold ml1
  by_cases q : kI s g 2 = h
  · rw [if_pos q]
    unfold dld
    by_cases q2 : rs D (16 + g) = 0
    · rw [if_pos q2]
    · rw [if_neg q2, rs_sR, if_neg (by omega)]
      cases e : icH s h (kI s g 0) (kI s g 1 + 1) with
      | some g2 =>
        have := icA_some _ (icH_some e).1
        show rs (sR D (16 + g2) _) (20 + c) = _
        rw [rs_sR, if_neg (by omega)]
      | none => cases fdA s (kI s g 0) (kI s g 1 + 1) (kT s 3) with
        | none => rfl
        | some f => show rs (ldF s h false D f (16 + g)) (20 + c) = _; unfold ldF; rw [rs_addD, rs_sN (by omega)]
  · rw [if_neg q]
theorem dHr_rz {s : Sk} {b : Tb} {h : Nat} {D : Dy} (hv : VS s) : rz (dHr s b h D) := fun c hc => by
  unfold dHr
  rw [fld_r (fun D g hg => ml1_r hv hg) _ (Nat.le_refl _)]
  exact ld_dry hv 64 hc
section DVR
variable {s : Sk} {b : Tb} {h : Nat} {D : Dy}
theorem dJn_dv (hv : VS s) (hd : DV s h D) : DV s (h + 1) (dJn s h D) := fld_dv (n := kT s 2) (fun _ _ hk hd => ja1_dv hv hk hd) (dMv_dv hv hd) _ (Nat.le_refl _)
theorem dSp_dv (hv : VS s) (hd : DV s h D) : DV s (h + 1) (dSp s b h D) := DVx.sR4 (fld_dv (n := kT s 2) (fun _ _ hk hd => sp1_dv hv hk hd) (dJn_dv hv hd) _ (Nat.le_refl _))
theorem dOb_dv (hv : VS s) (hbb : ∀ i, i < b.1 → b.2 i 1 < kT s 2) (hd : DV s h D) : DV s (h + 1) (dOb s b h D) := fld_dv (n := b.1) (fun _ i hi hd => ob1_dv hv (hbb i hi) hd) (dSp_dv hv hd) _ (Nat.le_refl _)
theorem dLd_dv (hv : VS s) (hbb : ∀ i, i < b.1 → b.2 i 1 < kT s 2) (hd : DV s h D) : DV s (h + 1) (dLd s b h D) := fld_dv (n := 64) (fun _ c hc hd => ld1_dv hv hc hd) (dOb_dv hv hbb hd) _ (Nat.le_refl _)
theorem dHr_dv (hv : VS s) (hbb : ∀ i, i < b.1 → b.2 i 1 < kT s 2) (hd : DV s h D) : DV s (h + 1) (dHr s b h D) := fld_dv (n := kT s 4) (fun _ g hg hd => ml1_dv hv hg hd) (dLd_dv hv hbb hd) _ (Nat.le_refl _)
theorem dBg_dv {seed : Int32} (hv : VS s) : DV s 0 (dBg s seed) := by
  have s9 := hv.2.2.2.2.2.2.2.2.2.2.2.2.2.1
  have g0 : ∀ t i, t ≠ 3 → gN (dBg s seed) t i = 0 := fun t i h => if_neg h
  refine ⟨fun k hk ht => ?_, fun k hk ht o ho => g0 _ _ (by omega), ?_, fun f hf => ?_⟩
  · rw [g0 _ _ (by omega)] at ht; cases ht
  · rw [show wat8 (dBg s seed) = 0 from sumN_zero 76 (fun i _ => sumN_zero 8 (fun o _ => g0 _ _ (by omega)))]; exact Nat.zero_le _
  · show (if 3 = 3 then kF s f 3 else 0) ≤ 99
    rw [if_pos rfl]; exact (s9 f hf).2.2.2.1
theorem dRun_dv {seed : Int32} (hv : VS s) (hbb : ∀ i, i < b.1 → b.2 i 1 < kT s 2) : ∀ h, DV s h (dRun s b seed h)
  | 0 => dBg_dv hv
  | h + 1 => dHr_dv hv hbb (dRun_dv hv hbb h)
theorem dRun_rz {seed : Int32} (hv : VS s) : ∀ h, rz (dRun s b seed h)
  | 0 => fun c hc => sumN_zero 8 (fun o _ => if_neg (by omega))
  | h + 1 => dHr_rz hv
end DVR
section DC8
variable {w : Wd} {d : Nat} {σ0 σ : Mem} {s : Sk} {P : Option AV → Mem → Prop} {X : Nat → Mem → Prop}
theorem s_takeRain {D : Dy} {h e c : Nat} {A : Nat → Prop} {cc : Nat} {hf : Nat → Nat} (hS0 : skC σ0 4 s) (hv : VS s) (hh : h < 50) (hd : DVx s A cc D) (hcc : cc ≤ 7992) (hc : eC σ0 s e hf D σ) (hcl : c < 64) (hP : ∀ τ, eC σ0 s e hf (ld1 s h D c) τ → P none τ) : Ret w true (d + 6) 0 0 m_Ground_takeRain [.ref 60, .int (nI c), .int (nI h)] σ P X := by
  have hn := hv.2.2.1
  have hS := hc.sk hS0
  have hG := hv.2.2.2.2.1
  have rr : ∀ t, 8 ≤ t → t < 84 → rs D t ≤ 7992 := fun t h1 h2 => Nat.le_trans (hd.rs_le h1 h2) hcc
  have rc := rr (20 + c) (by omega) (by omega)
  have hne : ∀ g, cG s h c = some g → 20 + c ≠ 16 + g := fun g e => by have := (cG_b hv e).1; omega
  have fin : rs D (20 + c) ≠ 0 → ∀ τ, eC σ0 s e hf (sR (ldB s h true D (20 + c) (cG s h c) (cF s c)) (20 + c) (fun _ => 0)) τ → P none τ := fun q τ hx => hP τ (by unfold ld1 dld; rw [if_neg q]; exact hx)
  refine meth_ok k_Ground_takeRain q_Ground_takeRain rfl fun At hAt => ?_
  refine hAt 3 _ _ _ _ _ _ ?_
  refine And.intro (fun hq => ?_) (fun hq => ?_)
  · have c2 : (c : Int) = -1 := (eqZ (a := (c : Int)) (b := -1) (ntZ rfl) m1Z (by omega) (by omega) (by omega) (by omega)).mp hq
    clear hq
    exact absurd c2 (by omega)
  · have c2 : ¬ (c : Int) = -1 := fun zq => hq ((eqZ (a := (c : Int)) (b := -1) (ntZ rfl) m1Z (by omega) (by omega) (by omega) (by omega)).mpr zq)
    clear hq
    refine hAt 5 _ _ _ _ _ _ ?_
    refine s_rsum hc hcl ?_
    refine And.intro (fun hq => ?_) (fun hq => ?_)
    · have c13 : ¬ rs D (20 + c) = 0 := fun zq => hq ((eqN (a := rs D (20 + c)) (b := 0) rfl rfl (by omega) (by omega)).mpr zq)
      clear hq
      refine hAt 8 _ _ _ _ _ _ ?_
      refine s_fieldAt hS hv hcl ?_
      cases e28 : cF s c with
      | none =>
        refine And.intro (fun _ => ?_) (fun hq => absurd rfl hq)
        refine hAt 8 _ _ _ _ _ _ ?_
        refine s_lie_61 hS0 hv hh hc hcl hcl rc hd.2.2.2 hne (fun g hg => rr _ (by omega) (by omega)) (fun τ2 hc2 => ?_)
        refine fin c13 τ2 ?_
        have : ldB s h true D (20 + c) (cG s h c) (cF s c) = ldB s h false D (20 + c) (cG s h c) (cF s c) := by
          rw [e28]
          cases cG s h c with
          | none => rfl
          | some g => rfl
        rw [this]; exact hc2
      | some bb28 =>
        have hfl := (fdA_some _ e28).1
        have hF := hv.2.2.2.1
        refine And.intro (fun hq => absurd hq (nI_m1 (by omega))) (fun _ => ?_)
        refine hAt 6 _ _ _ _ _ _ ?_
        refine s_keeperOf hS hv hcl hh ?_
        cases e38 : cG s h c with
        | none =>
          refine And.intro (fun hq => absurd rfl hq) (fun _ => ?_)
          refine hAt 13 _ _ _ _ _ _ ?_
          refine s_hail hS0 hv hc hfl hcl rc (fun τ1 hc1 => ?_)
          have en : ∀ a b, gN (hlE s h D bb28 (20 + c)) a b = gN D a b := fun a b => rfl
          have er : ∀ t, rs (hlE s h D bb28 (20 + c)) t = rs D t := fun t => rfl
          refine s_lie_61 hS0 hv hh hc1 hcl hcl (by rw [er]; exact rc) (fun f hf => by rw [en]; exact hd.2.2.2 f hf) hne (fun g hg => by rw [er]; exact rr _ (by omega) (by omega)) (fun τ2 hc2 => ?_)
          refine fin c13 τ2 ?_
          have : sR (ldB s h true D (20 + c) (cG s h c) (cF s c)) (20 + c) (fun _ => 0) = sR (ldB s h false (hlE s h D bb28 (20 + c)) (20 + c) (cG s h c) (cF s c)) (20 + c) (fun _ => 0) := by
            rw [e38, e28, ldB_ff]
            refine Dy.ext (fun a b => rfl) (fun a b => ?_)
            show gD D a b + (hlD s h true D bb28 (20 + c) a b + skD s bb28 _ _ 8 a b) = (gD D a b + hlD s h true D bb28 (20 + c) a b) + skD s bb28 _ _ 8 a b
            rw [Int32.add_assoc]; rfl
          rw [this]; exact hc2
        | some bb38 =>
          have hg38 := cG_b hv e38
          refine And.intro (fun _ => ?_) (fun hq => absurd hq (nI_m1 (by omega)))
          refine hAt 8 _ _ _ _ _ _ ?_
          refine s_lie_61 hS0 hv hh hc hcl hcl rc hd.2.2.2 hne (fun g hg => rr _ (by omega) (by omega)) (fun τ2 hc2 => ?_)
          refine fin c13 τ2 ?_
          have : ldB s h true D (20 + c) (cG s h c) (cF s c) = ldB s h false D (20 + c) (cG s h c) (cF s c) := by
            rw [e38]; rfl
          rw [this]; exact hc2
    · have c13 : rs D (20 + c) = 0 := (eqN (a := rs D (20 + c)) (b := 0) rfl rfl (by omega) (by omega)).mp hq
      clear hq
      refine hAt 1 _ _ _ _ _ _ ?_
      exact hP σ (by rw [ld1_id c13]; exact hc)
theorem s_melt {D : Dy} {h e : Nat} {A : Nat → Prop} {cc : Nat} {hf : Nat → Nat} (hS0 : skC σ0 4 s) (hv : VS s) (hh : h < 50) (hd : DVx s A cc D) (hcc : cc ≤ 7992) (hc : eC σ0 s e hf D σ) (hP : ∀ τ, eC σ0 s e hf (fld (ml1 s h) D (kT s 4)) τ → P none τ) : Ret w true (d + 6) 0 0 m_Ground_melt [.ref 60, .int (nI h)] σ P X := by
  have hn := hv.2.2.1
  have hG := hv.2.2.2.2.1
  have s9 := hv.2.2.2.2.2.2.2.2.2.2.2.2.2.2.1
  have s1 := hv.1
  have s2 := hv.2.1
  refine meth_ok k_Ground_melt q_Ground_melt rfl fun At hAt => ?_
  have loop : ∀ g, g ≤ kT s 4 → ∀ τ, eC σ0 s e hf (fld (ml1 s h) D g) τ → ∀ x3 : Int32, At 2 [.ref 60, .int (nI h), .int (nI g), .int x3] [] τ 0 0 ∧ At 2 [.ref 60, .int (nI h), .int (nI g), junk] [] τ 0 0 := by
    refine upto fun g hg ih => ?_
    intro τ hx x3
    have hS := hx.sk hS0
    have bg : g < kT s 4 → _ := s9 g
    have hdg := fld_dv (f := ml1 s h) (n := kT s 4) (fun D g hg hd => ml1_dv (h := h) hv hg hd) hd g hg
    obtain ⟨E, hE⟩ : ∃ E, E = fld (ml1 s h) D g := ⟨_, rfl⟩
    have nxt : fld (ml1 s h) D (g + 1) = ml1 s h E g := by rw [hE]; rfl
    rw [nxt] at ih
    rw [← hE] at hx hdg
    have rr : ∀ t, 8 ≤ t → t < 84 → rs E t ≤ 7992 := fun t h1 h2 => Nat.le_trans (hdg.rs_le h1 h2) hcc
    have hne : g < kT s 4 → ∀ g2, cG s h (8 * (kI s g 1 + 1) + kI s g 0) = some g2 → 16 + g ≠ 16 + g2 := fun hgl g2 e2 z => by
      have b2 := cG_b hv e2
      have := s9 g hgl
      have e3 : g2 = g := by omega
      rw [e3] at b2; omega
    refine ⟨?_, ?_⟩
    · skip
      refine hAt 5 _ _ _ _ _ _ ?_
      refine s_Table_size (a := 12) (na := 13) (mo := 3) (wd := 3) rfl ?_
      refine Eq.mpr (congrArg (fun xq : Int32 => At 13 [.ref (60), .int (nI h), .int (nI g), .int (x3)] [.int xq, .int (nI g)] τ 0 0) (show rI τ 12 3 = nI (kT s 4) from hS.p.2.2.2.2.1)) ?_
      refine hAt 1 _ _ _ _ _ _ ?_
      refine And.intro (fun hq => ?_) (fun hq => ?_)
      · have c13 : kT s 4 ≤ g := (leN (a := kT s 4) (b := g) rfl rfl (by omega) (by omega)).mp hq
        clear hq
        refine hAt 1 _ _ _ _ _ _ ?_
        have e : g = kT s 4 := by omega
        rw [← e] at hP
        rw [hE] at hx
        exact hP τ hx
      · have c13 : g < kT s 4 := Nat.lt_of_not_le (fun zq => hq ((leN (a := kT s 4) (b := g) rfl rfl (by omega) (by omega)).mpr zq))
        clear hq
        have bg := bg c13
        refine hAt 6 _ _ _ _ _ _ ?_
        refine s_Table_get (a := 12) (na := 13) (mo := 3) (wd := 3) rfl (show g < 3 by omega) (show 2 < 3 by omega) ?_
        refine Eq.mpr (congrArg (fun xq : Int32 => At 28 [.ref (60), .int (nI h), .int (nI g), .int (x3)] [.int xq] τ 0 0) (show rI τ 13 (g * 3 + 2) = nI (kI s g 2) from (hS.p.2.2.2.2.2 g (by omega) 2 (by omega)))) ?_
        refine hAt 2 _ _ _ _ _ _ ?_
        refine And.intro (fun hq => ?_) (fun hq => ?_)
        · have c29 : ¬ kI s g 2 = h := fun zq => hq ((eqN (a := kI s g 2) (b := h) rfl rfl (by omega) (by omega)).mpr zq)
          clear hq
          refine hAt 2 _ _ _ _ _ _ ?_
          refine Eq.mpr (congrArg (fun xq : Int32 => At 2 [.ref (60), .int (nI h), .int xq, .int (x3)] [] τ 0 0) (show nI g + nI 1 = nI (g + 1) from (adE rfl rfl))) ?_
          refine (ih c13 τ ?_ x3).1
          rw [ml1, if_neg c29]; exact hx
        · have c29 : kI s g 2 = h := (eqN (a := kI s g 2) (b := h) rfl rfl (by omega) (by omega)).mp hq
          clear hq
          refine hAt 6 _ _ _ _ _ _ ?_
          refine s_Table_get (a := 12) (na := 13) (mo := 3) (wd := 3) rfl (show g < 3 by omega) (show 0 < 3 by omega) ?_
          refine Eq.mpr (congrArg (fun xq : Int32 => At 44 [.ref (60), .int (nI h), .int (nI g), .int (x3)] [.int xq] τ 0 0) (show rI τ 13 (g * 3 + 0) = nI (kI s g 0) from (hS.p.2.2.2.2.2 g (by omega) 0 (by omega)))) ?_
          refine hAt 6 _ _ _ _ _ _ ?_
          refine s_Table_get (a := 12) (na := 13) (mo := 3) (wd := 3) rfl (show g < 3 by omega) (show 1 < 3 by omega) ?_
          refine Eq.mpr (congrArg (fun xq : Int32 => At 56 [.ref (60), .int (nI h), .int (nI g), .int (x3)] [.int xq, .int (nI (kI s g 0))] τ 0 0) (show rI τ 13 (g * 3 + 1) = nI (kI s g 1) from (hS.p.2.2.2.2.2 g (by omega) 1 (by omega)))) ?_
          refine hAt 2 _ _ _ _ _ _ ?_
          refine Eq.mpr (congrArg (fun xq : Int32 => At 58 [.ref (60), .int (nI h), .int (nI g), .int (x3)] [.int xq, .int (nI (kI s g 0))] τ 0 0) (show (nI (kI s g 1)) + nI 1 = nI (kI s g 1 + 1) from (adE rfl rfl))) ?_
          refine hAt 11 _ _ _ _ _ _ ?_
          refine s_cellOf ?_
          refine s_lie_63 hS0 hv hh hx (by omega) (by omega) (rr _ (by omega) (by omega)) hdg.2.2.2 (hne c13) (fun g2 h2 => rr _ (by omega) (by omega)) (fun τ2 hc2 => ?_)
          refine Eq.mpr (congrArg (fun xq : Int32 => At 2 [.ref (60), .int (nI h), .int xq, .int (nI (8 * (kI s g 1 + 1) + kI s g 0))] [] τ2 0 0) (show nI g + nI 1 = nI (g + 1) from (adE rfl rfl))) ?_
          refine (ih c13 τ2 ?_ _).1
          rw [ml1, if_pos c29]
          unfold dld
          have ec : cG s h (8 * (kI s g 1 + 1) + kI s g 0) = icH s h (kI s g 0) (kI s g 1 + 1) := by unfold cG; rw [show (8 * (kI s g 1 + 1) + kI s g 0) % 8 = kI s g 0 by omega, show (8 * (kI s g 1 + 1) + kI s g 0) / 8 = kI s g 1 + 1 by omega]
          have ef : cF s (8 * (kI s g 1 + 1) + kI s g 0) = fdA s (kI s g 0) (kI s g 1 + 1) (kT s 3) := by unfold cF; rw [show (8 * (kI s g 1 + 1) + kI s g 0) % 8 = kI s g 0 by omega, show (8 * (kI s g 1 + 1) + kI s g 0) / 8 = kI s g 1 + 1 by omega]
          rw [ec, ef] at hc2
          by_cases q : rs E (16 + g) = 0
          · rw [if_pos q]; rw [lie_z q] at hc2; exact hc2
          · rw [if_neg q]; exact hc2
    · skip
      refine hAt 5 _ _ _ _ _ _ ?_
      refine s_Table_size (a := 12) (na := 13) (mo := 3) (wd := 3) rfl ?_
      refine Eq.mpr (congrArg (fun xq : Int32 => At 13 [.ref (60), .int (nI h), .int (nI g), junk] [.int xq, .int (nI g)] τ 0 0) (show rI τ 12 3 = nI (kT s 4) from hS.p.2.2.2.2.1)) ?_
      refine hAt 1 _ _ _ _ _ _ ?_
      refine And.intro (fun hq => ?_) (fun hq => ?_)
      · have c13 : kT s 4 ≤ g := (leN (a := kT s 4) (b := g) rfl rfl (by omega) (by omega)).mp hq
        clear hq
        refine hAt 1 _ _ _ _ _ _ ?_
        have e : g = kT s 4 := by omega
        rw [← e] at hP
        rw [hE] at hx
        exact hP τ hx
      · have c13 : g < kT s 4 := Nat.lt_of_not_le (fun zq => hq ((leN (a := kT s 4) (b := g) rfl rfl (by omega) (by omega)).mpr zq))
        clear hq
        have bg := bg c13
        refine hAt 6 _ _ _ _ _ _ ?_
        refine s_Table_get (a := 12) (na := 13) (mo := 3) (wd := 3) rfl (show g < 3 by omega) (show 2 < 3 by omega) ?_
        refine Eq.mpr (congrArg (fun xq : Int32 => At 28 [.ref (60), .int (nI h), .int (nI g), junk] [.int xq] τ 0 0) (show rI τ 13 (g * 3 + 2) = nI (kI s g 2) from (hS.p.2.2.2.2.2 g (by omega) 2 (by omega)))) ?_
        refine hAt 2 _ _ _ _ _ _ ?_
        refine And.intro (fun hq => ?_) (fun hq => ?_)
        · have c29 : ¬ kI s g 2 = h := fun zq => hq ((eqN (a := kI s g 2) (b := h) rfl rfl (by omega) (by omega)).mpr zq)
          clear hq
          refine hAt 2 _ _ _ _ _ _ ?_
          refine Eq.mpr (congrArg (fun xq : Int32 => At 2 [.ref (60), .int (nI h), .int xq, junk] [] τ 0 0) (show nI g + nI 1 = nI (g + 1) from (adE rfl rfl))) ?_
          refine (ih c13 τ ?_ 0).2
          rw [ml1, if_neg c29]; exact hx
        · have c29 : kI s g 2 = h := (eqN (a := kI s g 2) (b := h) rfl rfl (by omega) (by omega)).mp hq
          clear hq
          refine hAt 6 _ _ _ _ _ _ ?_
          refine s_Table_get (a := 12) (na := 13) (mo := 3) (wd := 3) rfl (show g < 3 by omega) (show 0 < 3 by omega) ?_
          refine Eq.mpr (congrArg (fun xq : Int32 => At 44 [.ref (60), .int (nI h), .int (nI g), junk] [.int xq] τ 0 0) (show rI τ 13 (g * 3 + 0) = nI (kI s g 0) from (hS.p.2.2.2.2.2 g (by omega) 0 (by omega)))) ?_
          refine hAt 6 _ _ _ _ _ _ ?_
          refine s_Table_get (a := 12) (na := 13) (mo := 3) (wd := 3) rfl (show g < 3 by omega) (show 1 < 3 by omega) ?_
          refine Eq.mpr (congrArg (fun xq : Int32 => At 56 [.ref (60), .int (nI h), .int (nI g), junk] [.int xq, .int (nI (kI s g 0))] τ 0 0) (show rI τ 13 (g * 3 + 1) = nI (kI s g 1) from (hS.p.2.2.2.2.2 g (by omega) 1 (by omega)))) ?_
          refine hAt 2 _ _ _ _ _ _ ?_
          refine Eq.mpr (congrArg (fun xq : Int32 => At 58 [.ref (60), .int (nI h), .int (nI g), junk] [.int xq, .int (nI (kI s g 0))] τ 0 0) (show (nI (kI s g 1)) + nI 1 = nI (kI s g 1 + 1) from (adE rfl rfl))) ?_
          refine hAt 11 _ _ _ _ _ _ ?_
          refine s_cellOf ?_
          refine s_lie_63 hS0 hv hh hx (by omega) (by omega) (rr _ (by omega) (by omega)) hdg.2.2.2 (hne c13) (fun g2 h2 => rr _ (by omega) (by omega)) (fun τ2 hc2 => ?_)
          refine Eq.mpr (congrArg (fun xq : Int32 => At 2 [.ref (60), .int (nI h), .int xq, .int (nI (8 * (kI s g 1 + 1) + kI s g 0))] [] τ2 0 0) (show nI g + nI 1 = nI (g + 1) from (adE rfl rfl))) ?_
          refine (ih c13 τ2 ?_ _).1
          rw [ml1, if_pos c29]
          unfold dld
          have ec : cG s h (8 * (kI s g 1 + 1) + kI s g 0) = icH s h (kI s g 0) (kI s g 1 + 1) := by unfold cG; rw [show (8 * (kI s g 1 + 1) + kI s g 0) % 8 = kI s g 0 by omega, show (8 * (kI s g 1 + 1) + kI s g 0) / 8 = kI s g 1 + 1 by omega]
          have ef : cF s (8 * (kI s g 1 + 1) + kI s g 0) = fdA s (kI s g 0) (kI s g 1 + 1) (kT s 3) := by unfold cF; rw [show (8 * (kI s g 1 + 1) + kI s g 0) % 8 = kI s g 0 by omega, show (8 * (kI s g 1 + 1) + kI s g 0) / 8 = kI s g 1 + 1 by omega]
          rw [ec, ef] at hc2
          by_cases q : rs E (16 + g) = 0
          · rw [if_pos q]; rw [lie_z q] at hc2; exact hc2
          · rw [if_neg q]; exact hc2
  refine hAt 2 _ _ _ _ _ _ ?_
  exact (loop 0 (by omega) σ hc 0).2
end DC8
