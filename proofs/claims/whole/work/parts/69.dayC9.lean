/-! THE DAY on the component's side: from the first hour on -/
theorem go_cmA {s : Sk} {h : Nat} {D : Dy} (hv : VS s) (hd : DV s h D) : DVx s (cmA s h 0) (cap s h (kT s 2)) (fld (go1 s h) D (kT s 2)) := by
  have h1 := go_dv (h := h) hv.2.2.1 (hd.weak (B := goA s h 0) (fun k hk => ⟨hk.1, fun z => absurd z (Nat.not_lt_zero k)⟩) (Nat.le_refl _)) (kT s 2) (Nat.le_refl _)
  exact ⟨fun k hk ht => ⟨⟨Or.inl (h1.1 k hk ht).1.1, (h1.1 k hk ht).1.2 hk⟩, (h1.1 k hk ht).2⟩, h1.2⟩
theorem la1_dv {s : Sk} {h : Nat} {D : Dy} {A : Nat → Prop} {c k : Nat} (hv : VS s) (hk : k < kT s 2) (hd : DVx s A c D) : DVx s A c (la1 s h D k) := by
  unfold la1
  by_cases q : gN D 0 k = 1
  · rw [if_pos q]; exact ld1_dv hv (cix_lt hv hk) hd
  · rw [if_neg q]; exact hd
theorem la1_0 {s : Sk} {h : Nat} {D : Dy} {k j : Nat} : gN (la1 s h D k) 0 j = gN D 0 j := by
  unfold la1
  by_cases q : gN D 0 k = 1
  · rw [if_pos q]; exact ld1_there
  · rw [if_neg q]
theorem la_0 {s : Sk} {h : Nat} {D : Dy} {j : Nat} : ∀ k, gN (fld (la1 s h) D k) 0 j = gN D 0 j
  | 0 => rfl
  | k + 1 => by rw [fld, la1_0]; exact la_0 k
/-- the orders are in order -/
def obB (s : Sk) (b : Tb) : Prop := b.1 ≤ 30 ∧ ∀ i, i < b.1 → b.2 i 0 < 50 ∧ b.2 i 1 < kT s 2 ∧ b.2 i 2 ≤ 2 ∧ b.2 i 3 ≤ 999
section DC9
variable {w : Wd} {d : Nat} {σ0 σ : Mem} {s : Sk} {P : Option AV → Mem → Prop} {X : Nat → Mem → Prop}
theorem s_takeK {D : Dy} {h e k : Nat} {A : Nat → Prop} {cc : Nat} (hS0 : skC σ0 4 s) (hv : VS s) (hh : h < 50) (hd : DVx s A cc D) (hcc : cc ≤ 7992) (hc : eC σ0 s e (fun _ => h) D σ) (hk : k < kT s 2) (pk : gN D 0 k = 1 → ps s k h ≠ none) (hP : ∀ τ, eC σ0 s e (fun _ => h) (la1 s h D k) τ → P none τ) : Ret w true (d + 6) 0 0 m_Ground_takeRain [.ref 60, .int (clV s D (fun _ => h) k), .int (nI h)] σ P X := by
  by_cases q : gN D 0 k = 1
  · rw [show clV s D (fun _ => h) k = nI (cix s k h) by unfold clV; rw [if_pos q, tr_cix (pk q)]]
    refine s_takeRain hS0 hv hh hd hcc hc (cix_lt hv hk) (fun τ hx => hP τ ?_)
    rw [la1, if_pos q]; exact hx
  · rw [show clV s D (fun _ => h) k = -1 by unfold clV; rw [if_neg q]]
    rw [la1, if_neg q] at hP
    refine meth_ok k_Ground_takeRain q_Ground_takeRain rfl fun At hAt => ?_
    refine hAt 3 _ _ _ _ _ _ ?_
    refine And.intro (fun _ => ?_) (fun hq => absurd hq (by decide))
    refine hAt 1 _ _ _ _ _ _ ?_
    exact hP σ hc
theorem s_wipe (hP : ∀ τ, (∀ a j, ¬ (60 ≤ a ∧ a ≤ 70) → rI τ a j = rI σ a j) → τ.2 = σ.2 → (∀ j, j < 512 → rI τ 62 j = nI 0) → (∀ j, j < 24 → rI τ 64 j = nI 0) → (∀ j, j < 24 → rI τ 66 j = nI 0) → (∀ j, j < 14 → rI τ 68 j = nI 0) → (∀ f, f < 12 → rI τ 70 (f * 3 + 0) = rI σ 11 (f * 6 + 3) ∧ rI τ 70 (f * 3 + 1) = nI 0 ∧ rI τ 70 (f * 3 + 2) = -1) → rI τ 60 6 = nI 0 → rI τ 60 7 = nI 0 → rI τ 60 8 = nI 0 → rI τ 60 9 = nI 0 → P none τ) : Ret w true (d + 2) 0 0 m_Ground_wipe [.ref 60] σ P X := by
  refine meth_ok k_Ground_wipe q_Ground_wipe rfl fun At hAt => ?_
  have loop : ∀ τ4, (∀ a j, ¬ (60 ≤ a ∧ a ≤ 70) → rI τ4 a j = rI σ a j) → τ4.2 = σ.2 → (∀ j, j < 512 → rI τ4 62 j = nI 0) → (∀ j, j < 24 → rI τ4 64 j = nI 0) → (∀ j, j < 24 → rI τ4 66 j = nI 0) → (∀ j, j < 14 → rI τ4 68 j = nI 0) → ∀ i, i ≤ 12 → ∀ τ, (∀ a j, a ≠ 70 → rI τ a j = rI τ4 a j) → τ.2 = τ4.2 → (∀ f, f < i → rI τ 70 (f * 3 + 0) = rI σ 11 (f * 6 + 3) ∧ rI τ 70 (f * 3 + 1) = nI 0 ∧ rI τ 70 (f * 3 + 2) = -1) → At 30 [.ref 60, .int (nI i)] [] τ 0 0 := by
    intro τ4 q1 q2 z62 z64 z66 z68
    refine upto fun i hi ih => ?_
    intro τ h1 h2 h3
    have r11 : rI τ 11 (i * 6 + 3) = rI σ 11 (i * 6 + 3) := (h1 _ _ (by omega)).trans (q1 _ _ (by omega))
    refine hAt 3 _ _ _ _ _ _ ?_
    refine And.intro (fun hq => ?_) (fun hq => ?_)
    · have c33 : 12 ≤ i := (leN (a := 12) (b := i) rfl rfl (by omega) (by omega)).mp hq
      clear hq
      refine hAt 13 _ _ _ _ _ _ ?_
      have e : i = 12 := by omega
      subst e
      refine hP _ (fun a j q => ?_) (h2.trans q2) (fun j hj => ?_) (fun j hj => ?_) (fun j hj => ?_) (fun j hj => ?_) (fun f hf => ?_) ?_ ?_ ?_ ?_
      · rw [rI_wI, if_neg (by omega), rI_wI, if_neg (by omega), rI_wI, if_neg (by omega), rI_wI, if_neg (by omega), h1 _ _ (by omega)]; exact q1 a j q
      · rw [rI_wI, if_neg (by omega), rI_wI, if_neg (by omega), rI_wI, if_neg (by omega), rI_wI, if_neg (by omega), h1 _ _ (by omega)]; exact z62 j hj
      · rw [rI_wI, if_neg (by omega), rI_wI, if_neg (by omega), rI_wI, if_neg (by omega), rI_wI, if_neg (by omega), h1 _ _ (by omega)]; exact z64 j hj
      · rw [rI_wI, if_neg (by omega), rI_wI, if_neg (by omega), rI_wI, if_neg (by omega), rI_wI, if_neg (by omega), h1 _ _ (by omega)]; exact z66 j hj
      · rw [rI_wI, if_neg (by omega), rI_wI, if_neg (by omega), rI_wI, if_neg (by omega), rI_wI, if_neg (by omega), h1 _ _ (by omega)]; exact z68 j hj
      · simp only [rI_wI]
        simp
        exact h3 f hf
      · rw [rI_wI, if_neg (by omega), rI_wI, if_neg (by omega), rI_wI, if_neg (by omega), rI_wI, if_pos ⟨rfl, rfl⟩]
      · rw [rI_wI, if_neg (by omega), rI_wI, if_neg (by omega), rI_wI, if_pos ⟨rfl, rfl⟩]
      · rw [rI_wI, if_neg (by omega), rI_wI, if_pos ⟨rfl, rfl⟩]
      · rw [rI_wI, if_pos ⟨rfl, rfl⟩]
    · have c33 : i < 12 := Nat.lt_of_not_le (fun zq => hq ((leN (a := 12) (b := i) rfl rfl (by omega) (by omega)).mpr zq))
      clear hq
      refine hAt 10 _ _ _ _ _ _ ?_
      refine s_Table_get (a := 10) (na := 11) (mo := 12) (wd := 6) rfl (show i < 12 by omega) (show 3 < 6 by omega) ?_
      refine Eq.mpr (congrArg (fun xq : Int32 => At 54 [.ref (60), .int (nI i)] [.int xq, .int (nI 0), .int (nI i), .ref (69)] τ 0 0) (show rI τ 11 (i * 6 + 3) = rI σ 11 (i * 6 + 3) from r11)) ?_
      refine hAt 15 _ _ _ _ _ _ ?_
      refine s_Table_set (a := 69) (na := 70) (mo := 12) (wd := 3) rfl (show i < 12 by omega) (show 0 < 3 by omega) ?_
      refine s_Table_set (a := 69) (na := 70) (mo := 12) (wd := 3) rfl (show i < 12 by omega) (show 1 < 3 by omega) ?_
      refine s_Table_set (a := 69) (na := 70) (mo := 12) (wd := 3) rfl (show i < 12 by omega) (show 2 < 3 by omega) ?_
      refine Eq.mpr (congrArg (fun xq : Int32 => At 30 [.ref (60), .int xq] [] (wI (wI (wI τ 70 (i * 3 + 0) (rI σ 11 (i * 6 + 3))) 70 (i * 3 + 1) (nI 0)) 70 (i * 3 + 2) (-1)) 0 0) (show nI i + nI 1 = nI (i + 1) from (adE rfl rfl))) ?_
      refine ih c33 _ (fun a j q => ?_) h2 (fun f hf => ?_)
      · rw [rI_wI, if_neg (by omega), rI_wI, if_neg (by omega), rI_wI, if_neg (by omega)]; exact h1 a j q
      · by_cases e : f = i
        · subst e
          refine ⟨?_, ?_, ?_⟩
          · rw [rI_wI, if_neg (by omega), rI_wI, if_neg (by omega), rI_wI, if_pos ⟨rfl, rfl⟩]
          · rw [rI_wI, if_neg (by omega), rI_wI, if_pos ⟨rfl, rfl⟩]
          · rw [rI_wI, if_pos ⟨rfl, rfl⟩]
        · have := h3 f (by omega)
          refine ⟨?_, ?_, ?_⟩
          · rw [rI_wI, if_neg (by omega), rI_wI, if_neg (by omega), rI_wI, if_neg (by omega)]; exact this.1
          · rw [rI_wI, if_neg (by omega), rI_wI, if_neg (by omega), rI_wI, if_neg (by omega)]; exact this.2.1
          · rw [rI_wI, if_neg (by omega), rI_wI, if_neg (by omega), rI_wI, if_neg (by omega)]; exact this.2.2
  refine hAt 14 _ _ _ _ _ _ ?_
  refine s_Table_empty (a := 61) (na := 62) (mo := 64) (wd := 8) rfl ?_
  obtain ⟨τ1, e1⟩ : ∃ τ1, τ1 = uI (wI σ 61 3 (nI 0)) 62 (fun j => if j < 64 * 8 then nI 0 else rI σ 62 j) := ⟨_, rfl⟩
  rw [← e1]
  have g1 : ∀ a x, rI τ1 a x = if a = 62 then (if x < 512 then nI 0 else rI σ 62 x) else if a = 61 ∧ x = 3 then nI 0 else rI σ a x := fun a x => by rw [e1, rI_uI, rI_wI]
  refine s_Table_empty (a := 63) (na := 64) (mo := 3) (wd := 8) rfl ?_
  obtain ⟨τ2, e2⟩ : ∃ τ2, τ2 = uI (wI τ1 63 3 (nI 0)) 64 (fun j => if j < 3 * 8 then nI 0 else rI τ1 64 j) := ⟨_, rfl⟩
  rw [← e2]
  have g2 : ∀ a x, rI τ2 a x = if a = 64 then (if x < 24 then nI 0 else rI τ1 64 x) else if a = 63 ∧ x = 3 then nI 0 else rI τ1 a x := fun a x => by rw [e2, rI_uI, rI_wI]
  refine s_Table_empty (a := 65) (na := 66) (mo := 8) (wd := 3) rfl ?_
  obtain ⟨τ3, e3⟩ : ∃ τ3, τ3 = uI (wI τ2 65 3 (nI 0)) 66 (fun j => if j < 8 * 3 then nI 0 else rI τ2 66 j) := ⟨_, rfl⟩
  rw [← e3]
  have g3 : ∀ a x, rI τ3 a x = if a = 66 then (if x < 24 then nI 0 else rI τ2 66 x) else if a = 65 ∧ x = 3 then nI 0 else rI τ2 a x := fun a x => by rw [e3, rI_uI, rI_wI]
  refine s_Table_empty (a := 67) (na := 68) (mo := 7) (wd := 2) rfl ?_
  obtain ⟨τ4, e4⟩ : ∃ τ4, τ4 = uI (wI τ3 67 3 (nI 0)) 68 (fun j => if j < 7 * 2 then nI 0 else rI τ3 68 j) := ⟨_, rfl⟩
  rw [← e4]
  have g4 : ∀ a x, rI τ4 a x = if a = 68 then (if x < 14 then nI 0 else rI τ3 68 x) else if a = 67 ∧ x = 3 then nI 0 else rI τ3 a x := fun a x => by rw [e4, rI_uI, rI_wI]
  refine loop τ4 (fun a j q => ?_) ?_ (fun j hj => ?_) (fun j hj => ?_) (fun j hj => ?_) (fun j hj => ?_) 0 (by omega) τ4 (fun _ _ _ => rfl) rfl (fun f hf => absurd hf (Nat.not_lt_zero f))
  · rw [g4, if_neg (by omega), if_neg (by omega), g3, if_neg (by omega), if_neg (by omega), g2, if_neg (by omega), if_neg (by omega), g1, if_neg (by omega), if_neg (by omega)]
  · rw [e4]; show τ3.2 = σ.2; rw [e3]; show τ2.2 = σ.2; rw [e2]; show τ1.2 = σ.2; rw [e1]; rfl
  · rw [g4, if_neg (by omega), if_neg (by omega), g3, if_neg (by omega), if_neg (by omega), g2, if_neg (by omega), if_neg (by omega), g1, if_pos rfl, if_pos hj]
  · rw [g4, if_neg (by omega), if_neg (by omega), g3, if_neg (by omega), if_neg (by omega), g2, if_pos rfl, if_pos hj]
  · rw [g4, if_neg (by omega), if_neg (by omega), g3, if_pos rfl, if_pos hj]
  · rw [g4, if_pos rfl, if_pos hj]
theorem s_dayRun {b : Tb} {seed : Int32} {last : Nat} (hS0 : skC σ 4 s) (hb0 : tbR σ 31 32 4 b) (hB : obB s b) (hv : VS s) (hl : last < 50) (hP : ∀ τ, eC σ s (last + 1) (fun _ => last) (dRun s b seed (last + 1)) τ → P none τ) : Ret w true (d + 7) 0 0 m_Day_run [.ref 59, .int seed, .int (nI last)] σ P X := by
  have hn := hv.2.2.1
  have hF := hv.2.2.2.1
  have hG := hv.2.2.2.2.1
  have hb1 : ∀ i, i < b.1 → b.2 i 1 < kT s 2 := fun i hi => (hB.2 i hi).2.1
  refine meth_ok k_Day_run q_Day_run rfl fun At hAt => ?_
  have inner : ∀ h, h < 50 → ∀ D, DV s h D → rz D → (∀ τ, eC σ s (h + 1) (fun _ => h) (dHr s b h D) τ → ∀ x4 : Int32, At 39 [.ref 59, .int seed, .int (nI last), .int (nI (h + 1)), .int x4] [] τ 0 0) → ∀ k, k ≤ kT s 2 → ∀ τ, eC σ s (h + 1) (fun _ => h) (fld (la1 s h) (dOb s b h D) k) τ → At 77 [.ref 59, .int seed, .int (nI last), .int (nI h), .int (nI k)] [] τ 0 0 := by
    intro h hh D hd hz nxt
    have dO := dOb_dv (h := h) hv hb1 hd
    refine upto fun k hk ih => ?_
    intro τ hx
    have hS := hx.sk hS0
    have dk := fld_dv (f := la1 s h) (n := kT s 2) (fun D k hk hd => la1_dv (h := h) hv hk hd) dO k hk
    have pk1 : k < kT s 2 → gN (fld (la1 s h) (dOb s b h D) k) 0 k = 1 → ps s k h ≠ none := fun hk2 q => by
      have := (dk.1 k hk2 q).1
      unfold pA at this
      rw [Nat.add_sub_cancel] at this; exact this.2
    have ck : k < kT s 2 → rI τ 72 k = clV s (fld (la1 s h) (dOb s b h D) k) (fun _ => h) k := hx.2.1 k
    refine hAt 5 _ _ _ _ _ _ ?_
    refine s_Table_size (a := 8) (na := 9) (mo := 8) (wd := 7) rfl ?_
    refine Eq.mpr (congrArg (fun xq : Int32 => At 89 [.ref (59), .int (seed), .int (nI last), .int (nI h), .int (nI k)] [.int xq, .int (nI k)] τ 0 0) (show rI τ 8 3 = nI (kT s 2) from hS.2.2.1.1)) ?_
    refine hAt 1 _ _ _ _ _ _ ?_
    refine And.intro (fun hq => ?_) (fun hq => ?_)
    · have c89 : kT s 2 ≤ k := (leN (a := kT s 2) (b := k) rfl rfl (by omega) (by omega)).mp hq
      clear hq
      have e : k = kT s 2 := by omega
      rw [e, la_all hv (dOb_rIn hn hb1 hz)] at hx
      have dL := dLd_dv (h := h) hv hb1 hd
      refine hAt 6 _ _ _ _ _ _ ?_
      refine s_melt hS0 hv hh dL (cap_le hv (h + 1)) hx (fun τ2 hc2 => ?_)
      refine Eq.mpr (congrArg (fun xq : Int32 => At 39 [.ref (59), .int (seed), .int (nI last), .int xq, .int (nI k)] [] τ2 0 0) (show nI h + nI 1 = nI (h + 1) from (adE rfl rfl))) ?_
      exact nxt τ2 hc2 _
    · have c89 : k < kT s 2 := Nat.lt_of_not_le (fun zq => hq ((leN (a := kT s 2) (b := k) rfl rfl (by omega) (by omega)).mpr zq))
      clear hq
      refine hAt 6 _ _ _ _ _ _ ?_
      refine s_Row_get (a := 71) (na := 72) (n := 8) rfl (show k < 8 by omega) ?_
      refine Eq.mpr (congrArg (fun xq : Int32 => At 105 [.ref (59), .int (seed), .int (nI last), .int (nI h), .int (nI k)] [.int xq, .ref (60)] τ 0 0) (show rI τ 72 k = clV s (fld (la1 s h) (dOb s b h D) k) (fun _ => h) k from (ck (by omega)))) ?_
      refine hAt 4 _ _ _ _ _ _ ?_
      refine s_takeK hS0 hv hh dk (cap_le hv (h + 1)) hx c89 (pk1 c89) (fun τ2 hc2 => ?_)
      refine Eq.mpr (congrArg (fun xq : Int32 => At 77 [.ref (59), .int (seed), .int (nI last), .int (nI h), .int xq] [] τ2 0 0) (show nI k + nI 1 = nI (k + 1) from (adE rfl rfl))) ?_
      exact ih c89 τ2 hc2
  have outer : ∀ h, h ≤ last + 1 → ∀ τ, eC σ s h (fun _ => h - 1) (dRun s b seed h) τ → ∀ x4 : Int32, At 39 [.ref 59, .int seed, .int (nI last), .int (nI h), .int x4] [] τ 0 0 ∧ At 39 [.ref 59, .int seed, .int (nI last), .int (nI h), junk] [] τ 0 0 := by
    refine upto fun h hh ih => ?_
    intro τ hx x4
    have hd := dRun_dv (seed := seed) hv hb1 h
    have hz := dRun_rz (b := b) (seed := seed) hv h
    obtain ⟨D, hD⟩ : ∃ D, D = dRun s b seed h := ⟨_, rfl⟩
    have nx2 : dRun s b seed (h + 1) = dHr s b h D := by rw [hD]; rfl
    rw [nx2] at ih
    rw [← hD] at hx hd hz
    have fin : h = last + 1 → P none τ := fun e => by
      refine hP τ ?_
      rw [← e, ← hD]
      exact hx.congrF (fun i _ => by omega)
    refine ⟨?_, ?_⟩
    · skip
      refine hAt 3 _ _ _ _ _ _ ?_
      refine And.intro (fun hq => ?_) (fun hq => ?_)
      · have c41 : last < h := (ltN (a := last) (b := h) rfl rfl (by omega) (by omega)).mp hq
        clear hq
        refine hAt 1 _ _ _ _ _ _ ?_
        exact fin (by omega)
      · have c41 : h ≤ last := Nat.le_of_not_lt (fun zq => hq ((ltN (a := last) (b := h) rfl rfl (by omega) (by omega)).mpr zq))
        clear hq
        refine hAt 3 _ _ _ _ _ _ ?_
        refine And.intro (fun hq => ?_) (fun hq => ?_)
        · have c47 : 50 ≤ h := (leN (a := 50) (b := h) rfl rfl (by omega) (by omega)).mp hq
          clear hq
          exact absurd c47 (by omega)
        · have c47 : h < 50 := Nat.lt_of_not_le (fun zq => hq ((leN (a := 50) (b := h) rfl rfl (by omega) (by omega)).mpr zq))
          clear hq
          refine hAt 16 _ _ _ _ _ _ ?_
          refine s_go hS0 hv (by omega) hd hx (fun τ1 h1 => ?_)
          refine s_come hS0 hv (by omega) (go_cmA hv hd) h1 (fun τ2 h2 => ?_)
          refine s_joinAll hS0 hv (dMv_dv hv hd) h2 (fun τ3 h3 => ?_)
          refine s_spill hS0 hb0 hB.1 (fun i hi => by have := hB.2 i hi; omega) hv (by omega) (dJn_dv hv hd) h3 (fun τ4 h4 => ?_)
          refine s_obey hS0 hb0 hB.1 hB.2 hv (by omega) (fld_dv (f := sp1 s b h) (n := kT s 2) (fun D k hk hd => sp1_dv (h := h) hv hk hd) (dJn_dv hv hd) _ (Nat.le_refl _)) h4 (fun τ5 h5 => ?_)
          exact inner h (by omega) D hd hz (fun τ6 h6 x4 => (ih (by omega) τ6 (h6.congrF (fun i _ => Nat.add_sub_cancel h 1)) x4).1) 0 (by omega) τ5 h5
    · skip
      refine hAt 3 _ _ _ _ _ _ ?_
      refine And.intro (fun hq => ?_) (fun hq => ?_)
      · have c41 : last < h := (ltN (a := last) (b := h) rfl rfl (by omega) (by omega)).mp hq
        clear hq
        refine hAt 1 _ _ _ _ _ _ ?_
        exact fin (by omega)
      · have c41 : h ≤ last := Nat.le_of_not_lt (fun zq => hq ((ltN (a := last) (b := h) rfl rfl (by omega) (by omega)).mpr zq))
        clear hq
        refine hAt 3 _ _ _ _ _ _ ?_
        refine And.intro (fun hq => ?_) (fun hq => ?_)
        · have c47 : 50 ≤ h := (leN (a := 50) (b := h) rfl rfl (by omega) (by omega)).mp hq
          clear hq
          exact absurd c47 (by omega)
        · have c47 : h < 50 := Nat.lt_of_not_le (fun zq => hq ((leN (a := 50) (b := h) rfl rfl (by omega) (by omega)).mpr zq))
          clear hq
          refine hAt 16 _ _ _ _ _ _ ?_
          refine s_go hS0 hv (by omega) hd hx (fun τ1 h1 => ?_)
          refine s_come hS0 hv (by omega) (go_cmA hv hd) h1 (fun τ2 h2 => ?_)
          refine s_joinAll hS0 hv (dMv_dv hv hd) h2 (fun τ3 h3 => ?_)
          refine s_spill hS0 hb0 hB.1 (fun i hi => by have := hB.2 i hi; omega) hv (by omega) (dJn_dv hv hd) h3 (fun τ4 h4 => ?_)
          refine s_obey hS0 hb0 hB.1 hB.2 hv (by omega) (fld_dv (f := sp1 s b h) (n := kT s 2) (fun D k hk hd => sp1_dv (h := h) hv hk hd) (dJn_dv hv hd) _ (Nat.le_refl _)) h4 (fun τ5 h5 => ?_)
          exact inner h (by omega) D hd hz (fun τ6 h6 x4 => (ih (by omega) τ6 (h6.congrF (fun i _ => Nat.add_sub_cancel h 1)) x4).1) 0 (by omega) τ5 h5
  refine hAt 21 _ _ _ _ _ _ ?_
  refine s_Row_setAll (a := 71) (na := 72) (n := 8) rfl ?_
  obtain ⟨τ1, e1⟩ : ∃ τ1, τ1 = uI (wI (wI (wI σ 59 8 seed) 59 9 (nI 0)) 59 10 (nI 0)) 72 (fun j => if j < 8 then -1 else rI (wI (wI (wI σ 59 8 seed) 59 9 (nI 0)) 59 10 (nI 0)) 72 j) := ⟨_, rfl⟩
  rw [← e1]
  have g1 : ∀ a x, rI τ1 a x = if a = 72 then (if x < 8 then -1 else rI (wI (wI (wI σ 59 8 seed) 59 9 (nI 0)) 59 10 (nI 0)) 72 x) else rI (wI (wI (wI σ 59 8 seed) 59 9 (nI 0)) 59 10 (nI 0)) a x := fun a x => by rw [e1, rI_uI]
  refine s_Table_empty (a := 73) (na := 74) (mo := 8) (wd := 8) rfl ?_
  obtain ⟨τ2, e2⟩ : ∃ τ2, τ2 = uI (wI τ1 73 3 (nI 0)) 74 (fun j => if j < 8 * 8 then nI 0 else rI τ1 74 j) := ⟨_, rfl⟩
  rw [← e2]
  have g2 : ∀ a x, rI τ2 a x = if a = 74 then (if x < 64 then nI 0 else rI τ1 74 x) else if a = 73 ∧ x = 3 then nI 0 else rI τ1 a x := fun a x => by rw [e2, rI_uI, rI_wI]
  refine s_wipe (fun τ3 w1 w2 w62 w64 w66 w68 w70 w6 w7 w8 w9 => ?_)
  have m1 : ∀ a x, a ≠ 59 → a ≠ 72 → a ≠ 73 → a ≠ 74 → rI τ2 a x = rI σ a x := fun a x q1 q2 q3 q4 => by
    rw [g2, if_neg q4, if_neg (fun z => q3 z.1), g1, if_neg q2, rI_wI, if_neg (by omega), rI_wI, if_neg (by omega), rI_wI, if_neg (by omega)]
  have m2 : ∀ x, rI τ2 59 x = if x = 10 then nI 0 else if x = 9 then nI 0 else if x = 8 then seed else rI σ 59 x := fun x => by
    rw [g2, if_neg (by omega), if_neg (by omega), g1, if_neg (by omega), rI_wI, rI_wI, rI_wI]
    simp
  have m3 : ∀ k, k < 8 → rI τ2 72 k = -1 := fun k hk => by rw [g2, if_neg (by omega), if_neg (by omega), g1, if_pos rfl, if_pos hk]
  have m4 : ∀ j, j < 64 → rI τ2 74 j = nI 0 := fun j hj => by rw [g2, if_pos rfl, if_pos hj]
  have g0 : ∀ t i, t ≠ 3 → gN (dBg s seed) t i = 0 := fun t i h => if_neg h
  have d0 : ∀ t i, t ≠ 0 → t ≠ 2 → gD (dBg s seed) t i = nI 0 := fun t i h1 h2 => by show (if t = 0 ∧ i = 0 then seed else if t = 2 then -1 else 0) = _; rw [if_neg (by omega), if_neg h2]; rfl
  have d1 : ∀ i, i ≠ 0 → gD (dBg s seed) 0 i = nI 0 := fun i h1 => by show (if 0 = 0 ∧ i = 0 then seed else if 0 = 2 then -1 else 0) = _; rw [if_neg (by omega), if_neg (by omega)]; rfl
  refine (outer 0 (by omega) τ3 ⟨⟨fun a j q => ?_, ?_⟩, fun k hk => ?_, fun k hk ht => ?_, fun k hk ht => ?_, fun f hf => ?_, fun k o hk _ ho => ?_, fun g o hg ho => ?_, fun c o hc ho => ?_, fun f hf => ?_, fun f hf => ?_, fun o i ho hi => ?_, fun f hf => ?_, fun f hf => ?_, ?_, ?_, ?_, ?_, ?_, ?_, ?_⟩ 0).2
  · rw [w1 _ _ (by omega)]; exact m1 a j (by omega) (by omega) (by omega) (by omega)
  · rw [w2, e2]; show τ1.2 = σ.2; rw [e1]; rfl
  · rw [w1 _ _ (by omega), m3 k (by omega)]; unfold clV; rw [show gN (dRun s b seed 0) 0 k = 0 from g0 0 k (by omega)]; rfl
  · rw [show gN (dRun s b seed 0) 0 k = 0 from g0 0 k (by omega)] at ht; cases ht
  · rw [show gN (dRun s b seed 0) 0 k = 0 from g0 0 k (by omega)] at ht; cases ht
  · rw [(w70 f (by omega)).1, m1 _ _ (by omega) (by omega) (by omega) (by omega)]
    show _ = nI (if 3 = 3 then kF s f 3 else 0)
    rw [if_pos rfl]; exact hS0.2.2.2.1.2 f hf 3 (by omega)
  · rw [w1 _ _ (by omega), m4 _ (by omega)]; exact congrArg nI (g0 _ _ (by omega)).symm
  · rw [w64 _ (by omega)]; exact congrArg nI (g0 _ _ (by omega)).symm
  · rw [w62 _ (by omega)]; exact congrArg nI (g0 _ _ (by omega)).symm
  · rw [(w70 f (by omega)).2.1]; exact (d0 _ _ (by omega) (by omega)).symm
  · rw [(w70 f (by omega)).2.2]; rfl
  · rw [w66 _ (by omega)]; exact (d0 _ _ (by omega) (by omega)).symm
  · rw [w68 _ (by omega)]; exact (d0 _ _ (by omega) (by omega)).symm
  · rw [w68 _ (by omega)]; exact (d0 _ _ (by omega) (by omega)).symm
  · rw [w1 _ _ (by omega), m2]; rfl
  · rw [w1 _ _ (by omega), m2]; rfl
  · rw [w1 _ _ (by omega), m2]; rfl
  · rw [w6]; exact (d1 _ (by omega)).symm
  · rw [w7]; exact (d1 _ (by omega)).symm
  · rw [w8]; exact (d1 _ (by omega)).symm
  · rw [w9]; exact (d1 _ (by omega)).symm
end DC9
