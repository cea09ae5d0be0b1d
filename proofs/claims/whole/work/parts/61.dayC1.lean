/-! THE DAY on the component's side: clouds go and come -/
theorem gR_ne {D : Dy} {t a b : Nat} {f : Nat → Nat} (h : ¬ (a = t ∧ b < 8)) : gN (sR D t f) a b = gN D a b := by rw [gN_sR, if_neg h]
theorem gR_eq {D : Dy} {t b : Nat} {f : Nat → Nat} (h : b < 8) : gN (sR D t f) t b = f b := by rw [gN_sR, if_pos ⟨rfl, h⟩]
theorem gN_eq {D : Dy} {t i v : Nat} : gN (sN D t i v) t i = v := by rw [gN_sN, if_pos ⟨rfl, rfl⟩]
theorem sI_rs {f : Nat → Int32} {g : Nat → Nat} : ∀ n, (∀ c, c < n → f c = nI (g c)) → sI f n = nI (sumN g n)
  | 0, _ => rfl
  | n + 1, h => by rw [sI, sumN, sI_rs n (fun c hc => h c (by omega)), h n (by omega), nI_add]
theorem eC.cl {σ τ : Mem} {σ0 : Mem} {s : Sk} {h : Nat} {k : Nat} {hf hg : Nat → Nat} {D E : Dy} (hc : eC σ0 s h hf D σ) (hfr : fC σ0 τ)
    (hE : ∀ t i, (t ≤ 3 ∧ ¬ (t ≤ 2 ∧ i = k)) ∨ (8 ≤ t ∧ t < 84 ∧ t ≠ 8 + k ∧ i < 8) → gN E t i = gN D t i) (h2 : ∀ t i, gD E t i = gD D t i)
    (m : ∀ a j, 59 ≤ a → a ≤ 78 → ¬ ((a = 72 ∨ a = 76 ∨ a = 78) ∧ j = k) → ¬ (a = 74 ∧ k * 8 ≤ j ∧ j < k * 8 + 8) → rI τ a j = rI σ a j) (hg1 : ∀ i, i < kT s 2 → i ≠ k → clV s E hg i = clV s D hf i)
    (v72 : rI τ 72 k = clV s E hg k) (v76 : gN E 0 k = 1 → rI τ 76 k = nI (gN E 1 k)) (v78 : gN E 0 k = 1 → rI τ 78 k = nI (gN E 2 k)) (v74 : gN E 0 k = 1 ∨ h ≤ kC s k 3 → ∀ o, o < 8 → rI τ 74 (k * 8 + o) = nI (gN E (8 + k) o)) (hn : kT s 2 ≤ 8) (hF : kT s 3 ≤ 12) (hk : k < 8) : eC σ0 s h hg E τ := by
  refine ⟨hfr, ?_, ?_, ?_, ?_, ?_, ?_, ?_, ?_, ?_, ?_, ?_, ?_, ?_, ?_, ?_, ?_, ?_, ?_, ?_⟩
  · intro i hi
    by_cases e : i = k
    · rw [e]; exact v72
    · rw [m _ _ (by omega) (by omega) (by omega) (by omega), hc.2.1 i hi, hg1 i hi e]
  · intro i p0 p1
    by_cases e : i = k
    · subst e; exact v76 p1
    · rw [hE 0 i (by omega)] at p1; rw [m _ _ (by omega) (by omega) (by omega) (by omega), hE _ _ (by omega)]; exact hc.own i p0 p1
  · intro i p0 p1
    by_cases e : i = k
    · subst e; exact v78 p1
    · rw [hE 0 i (by omega)] at p1; rw [m _ _ (by omega) (by omega) (by omega) (by omega), hE _ _ (by omega)]; exact hc.min i p0 p1
  · intro f p0
    rw [m _ _ (by omega) (by omega) (by omega) (by omega), hE _ _ (by omega)]; exact hc.thi f p0
  · intro i o p0 p1 p2
    by_cases e : i = k
    · subst e; exact v74 p1 o p2
    · rw [hE 0 i (by omega)] at p1; rw [m _ _ (by omega) (by omega) (by omega) (by omega), hE _ _ (by omega)]; exact hc.par i o p0 p1 p2
  · intro g o p0 p1
    rw [m _ _ (by omega) (by omega) (by omega) (by omega), hE _ _ (by omega)]; exact hc.kep g o p0 p1
  · intro c o p0 p1
    rw [m _ _ (by omega) (by omega) (by omega) (by omega), hE _ _ (by omega)]; exact hc.rai c o p0 p1
  · intro f p0
    rw [m _ _ (by omega) (by omega) (by omega) (by omega), h2]; exact hc.flo f p0
  · intro f p0
    rw [m _ _ (by omega) (by omega) (by omega) (by omega), h2]; exact hc.hai f p0
  · intro o z p0 p1
    rw [m _ _ (by omega) (by omega) (by omega) (by omega), h2]; exact hc.acc o z p0 p1
  · intro f p0
    rw [m _ _ (by omega) (by omega) (by omega) (by omega), h2]; exact hc.pay f p0
  · intro f p0
    rw [m _ _ (by omega) (by omega) (by omega) (by omega), h2]; exact hc.owe f p0
  · skip
    rw [m _ _ (by omega) (by omega) (by omega) (by omega), h2]; exact hc.sed
  · skip
    rw [m _ _ (by omega) (by omega) (by omega) (by omega), h2]; exact hc.gon
  · skip
    rw [m _ _ (by omega) (by omega) (by omega) (by omega), h2]; exact hc.joi
  · skip
    rw [m _ _ (by omega) (by omega) (by omega) (by omega), h2]; exact hc.tak
  · skip
    rw [m _ _ (by omega) (by omega) (by omega) (by omega), h2]; exact hc.fld
  · skip
    rw [m _ _ (by omega) (by omega) (by omega) (by omega), h2]; exact hc.was
  · skip
    rw [m _ _ (by omega) (by omega) (by omega) (by omega), h2]; exact hc.hls
theorem eM.cl {σ τ : Mem} {σ0 : Mem} {s : Sk} {k : Nat} {hf hg : Nat → Nat} {D E : Dy} (hc : eM σ0 s hf D σ) (hfr : fM σ0 τ)
    (hE : ∀ t i, (t ≤ 3 ∧ ¬ (t ≤ 2 ∧ i = k)) ∨ (8 ≤ t ∧ t < 84 ∧ t ≠ 8 + k ∧ i < 8) → gN E t i = gN D t i) (h2 : ∀ t i, gD E t i = gD D t i)
    (m : ∀ a j, ((238 ≤ a ∧ a < 336 ∧ a ≠ 243 ∧ ¬ (253 ≤ a ∧ a < 318)) ∨ (a = 108 ∧ 43 ≤ j ∧ j ≤ 49)) → ¬ (238 ≤ a ∧ a ≤ 242 ∧ j = k) → ¬ (a = 244 + 1 + k ∧ j < 8) → rI τ a j = rI σ a j) (hg1 : ∀ i, i < kT s 2 → i ≠ k → gN E 0 i = 1 → hg i = hf i)
    (v72 : rI τ 238 k = bI (decide (gN E 0 k = 1)) ∧ (gN E 0 k = 1 → ∀ q, ps s k (hg k) = some q → rI τ 239 k = nI q.1 ∧ rI τ 240 k = nI q.2)) (v76 : gN E 0 k = 1 → rI τ 241 k = nI (gN E 1 k)) (v78 : gN E 0 k = 1 → rI τ 242 k = nI (gN E 2 k)) (v74 : gN E 0 k = 1 → ∀ o, o < 8 → rI τ (244 + 1 + k) o = nI (gN E (8 + k) o)) (hn : kT s 2 ≤ 8) (hF : kT s 3 ≤ 12) (hk : k < 8) : eM σ0 s hg E τ := by
  refine ⟨hfr, ?_, ?_, ?_, ?_, ?_, ?_, ?_, ?_, ?_, ?_, ?_, ?_, ?_, ?_, ?_, ?_, ?_, ?_⟩
  · intro i hi
    by_cases e : i = k
    · rw [e]; exact v72
    · rw [m _ _ (by omega) (by omega) (by omega), m _ _ (by omega) (by omega) (by omega), m _ _ (by omega) (by omega) (by omega), hE 0 i (by omega)]
      have z := hc.2.1 i hi
      refine ⟨z.1, fun g1 q g2 => z.2 g1 q ?_⟩
      rw [hg1 i hi e (by rw [hE 0 i (by omega)]; exact g1)] at g2; exact g2
  · intro i p0 p1
    by_cases e : i = k
    · subst e; exact v76 p1
    · rw [hE 0 i (by omega)] at p1; rw [m _ _ (by omega) (by omega) (by omega), hE _ _ (by omega)]; exact hc.own i p0 p1
  · intro i p0 p1
    by_cases e : i = k
    · subst e; exact v78 p1
    · rw [hE 0 i (by omega)] at p1; rw [m _ _ (by omega) (by omega) (by omega), hE _ _ (by omega)]; exact hc.min i p0 p1
  · intro f p0
    rw [m _ _ (by omega) (by omega) (by omega), hE _ _ (by omega)]; exact hc.thi f p0
  · intro i o p0 p1 p2
    by_cases e : i = k
    · subst e; exact v74 p1 o p2
    · rw [hE 0 i (by omega)] at p1; rw [m _ _ (by omega) (by omega) (by omega), hE _ _ (by omega)]; exact hc.par i o p0 p1 p2
  · intro g o p0 p1
    rw [m _ _ (by omega) (by omega) (by omega), hE _ _ (by omega)]; exact hc.kep g o p0 p1
  · intro f p0
    rw [m _ _ (by omega) (by omega) (by omega), h2]; exact hc.flo f p0
  · intro f p0
    rw [m _ _ (by omega) (by omega) (by omega), h2]; exact hc.hai f p0
  · intro o z p0 p1
    rw [m _ _ (by omega) (by omega) (by omega), h2]; exact hc.acc o z p0 p1
  · intro f p0
    rw [m _ _ (by omega) (by omega) (by omega), h2]; exact hc.pay f p0
  · intro f p0
    rw [m _ _ (by omega) (by omega) (by omega), h2]; exact hc.owe f p0
  · skip
    rw [m _ _ (by omega) (by omega) (by omega), h2]; exact hc.sed
  · skip
    rw [m _ _ (by omega) (by omega) (by omega), h2]; exact hc.gon
  · skip
    rw [m _ _ (by omega) (by omega) (by omega), h2]; exact hc.joi
  · skip
    rw [m _ _ (by omega) (by omega) (by omega), h2]; exact hc.tak
  · skip
    rw [m _ _ (by omega) (by omega) (by omega), h2]; exact hc.fld
  · skip
    rw [m _ _ (by omega) (by omega) (by omega), h2]; exact hc.was
  · skip
    rw [m _ _ (by omega) (by omega) (by omega), h2]; exact hc.hls
theorem eC.sk {σ0 σ : Mem} {s : Sk} {h : Nat} {hf : Nat → Nat} {D : Dy} (hc : eC σ0 s h hf D σ) (hS0 : skC σ0 4 s) : skC σ 4 s := hS0.scr (fun a j _ _ => hc.1.1 a j (by omega))
theorem eC.or {σ0 σ : Mem} {s : Sk} {h : Nat} {hf : Nat → Nat} {D : Dy} {b : Tb} (hc : eC σ0 s h hf D σ) (hb0 : tbR σ0 31 32 4 b) : tbR σ 31 32 4 b := hb0.frame (fun j => hc.1.1 _ j (by omega)) (fun j => hc.1.1 _ j (by omega))
theorem eC.cell {σ0 σ : Mem} {s : Sk} {h k : Nat} {hf hg : Nat → Nat} {D : Dy} {v : Int32} (hc : eC σ0 s h hf D σ) (hn : kT s 2 ≤ 8) (h1 : ∀ i, i < kT s 2 → i ≠ k → clV s D hg i = clV s D hf i) (h2 : v = clV s D hg k) : eC σ0 s h hg D (wI σ 72 k v) := by
  have m := eC.mem (τ := wI σ 72 k v) (σ0 := wI σ0 72 k v) (D := D) (h := h) (hf := hf) (s := s) (σ := wI σ 72 k v)
  obtain ⟨c1, c2, c3⟩ := hc
  have g : ∀ a j, a ≠ 72 → rI (wI σ 72 k v) a j = rI σ a j := fun a j ha => by rw [rI_wI, if_neg (fun z => ha z.1)]
  refine ⟨⟨fun a j ha => by rw [g _ _ (by omega)]; exact c1.1 a j ha, c1.2⟩, fun i hi => ?_, ?_⟩
  · rw [rI_wI]
    by_cases e : i = k
    · rw [if_pos ⟨rfl, e⟩, e]; exact h2
    · rw [if_neg (fun z => e z.2), c2 i hi, h1 i hi e]
  · exact c3
theorem eC.h1 {σ0 σ : Mem} {s : Sk} {h e : Nat} {hf : Nat → Nat} {D : Dy} (hc : eC σ0 s h hf D σ) (he : h ≤ e) : eC σ0 s e hf D σ := by
  obtain ⟨c1, c2, c3, c4, c5, c6, c7⟩ := hc
  exact ⟨c1, c2, c3, c4, c5, fun k o h1 h2 => c6 k o h1 (h2.imp id (fun z => by omega)), c7⟩
theorem eC.congrF2 {σ0 σ : Mem} {s : Sk} {h : Nat} {hf hg : Nat → Nat} {D : Dy} (hc : eC σ0 s h hf D σ) (e : ∀ i, i < kT s 2 → clV s D hg i = clV s D hf i) : eC σ0 s h hg D σ := ⟨hc.1, fun k hk => by rw [hc.2.1 k hk, e k hk], hc.2.2⟩
theorem eC.congrF {σ0 σ : Mem} {s : Sk} {h : Nat} {hf hg : Nat → Nat} {D : Dy} (hc : eC σ0 s h hf D σ) (e : ∀ i, i < kT s 2 → hg i = hf i) : eC σ0 s h hg D σ := hc.congrF2 (fun i hi => by unfold clV; rw [e i hi])
section DC1
variable {w : Wd} {d : Nat} {σ0 σ : Mem} {s : Sk} {P : Option AV → Mem → Prop} {X : Nat → Mem → Prop}
theorem s_isTh {k : Nat} {x : Int32} (hk : k < 8) (hx : rI σ 72 k = x) (hP : P (some (.int (bI (decide (¬ x = -1))))) σ) : Ret w true (d + 2) 0 0 m_Day_isThere [.ref 59, .int (nI k)] σ P X := by
  subst hx
  refine meth_ok k_Day_isThere q_Day_isThere rfl fun At hAt => ?_
  refine hAt 6 _ _ _ _ _ _ ?_
  refine s_Row_get (a := 71) (na := 72) (n := 8) rfl (show k < 8 by omega) ?_
  refine And.intro (fun hq => ?_) (fun hq => ?_)
  · have c9 : rI σ 72 k = -1 := hq
    clear hq
    refine hAt 2 _ _ _ _ _ _ ?_
    refine And.intro (rfl) ?_
    rw [decide_eq_false (fun z => z c9)] at hP; exact hP
  · have c9 : ¬ rI σ 72 k = -1 := hq
    clear hq
    refine hAt 3 _ _ _ _ _ _ ?_
    refine And.intro (rfl) ?_
    rw [decide_eq_true c9] at hP; exact hP
theorem tr_m1 {s : Sk} (hv : VS s) {k h : Nat} (hk : k < kT s 2) : tr s k h = -1 ↔ ps s k h = none := by
  have s1 := hv.1
  have s2 := hv.2.1
  unfold tr
  cases e : ps s k h with
  | none => exact ⟨fun _ => rfl, fun _ => rfl⟩
  | some q =>
    have hq := ps_in hv hk h q e
    exact ⟨fun z => absurd z (nI_m1 (by omega)), fun z => by cases z⟩
theorem clV_th {s : Sk} (hv : VS s) {D : Dy} {hf : Nat → Nat} {k : Nat} (hk : k < kT s 2) (hp : gN D 0 k = 1 → ps s k (hf k) ≠ none) : decide (¬ clV s D hf k = -1) = decide (gN D 0 k = 1) := by
  refine decide_eq_decide.mpr ?_
  unfold clV
  by_cases q : gN D 0 k = 1
  · rw [if_pos q, tr_m1 hv hk]; exact ⟨fun _ => q, hp⟩
  · rw [if_neg q]; exact ⟨fun z => absurd rfl z, fun z => absurd z q⟩
theorem s_isThere {h k : Nat} {hf : Nat → Nat} {D : Dy} (hv : VS s) (hc : eC σ0 s h hf D σ) (hk : k < kT s 2) (hp : gN D 0 k = 1 → ps s k (hf k) ≠ none) (hP : P (some (.int (bI (decide (gN D 0 k = 1))))) σ) : Ret w true (d + 2) 0 0 m_Day_isThere [.ref 59, .int (nI k)] σ P X := by
  have hn := hv.2.2.1
  refine s_isTh (by omega) (hc.2.1 k hk) ?_
  rw [clV_th hv hk hp]; exact hP
theorem s_psum {h k : Nat} {hf : Nat → Nat} {D : Dy} (hc : eC σ0 s h hf D σ) (hn : kT s 2 ≤ 8) (hk : k < kT s 2) (hp : gN D 0 k = 1) (hP : P (some (.int (nI (rs D (8 + k))))) σ) : Ret w true (d + 2) 0 0 m_Table_sum [.ref 73, .int (nI k)] σ P X := by
  refine s_Table_sum (a := 73) (na := 74) (mo := 8) (wd := 8) rfl (by omega) ?_
  rw [sI_rs (g := gN D (8 + k)) 8 (fun c hc2 => hc.par k c hk (Or.inl hp) hc2)]
  exact hP
def goF (h k i : Nat) : Nat := if i < k then h else h - 1
theorem s_go {h : Nat} {D : Dy} (hS0 : skC σ0 4 s) (hv : VS s) (hh : h < 50) (hd : DV s h D) (hc : eC σ0 s h (fun _ => h - 1) D σ) (hP : ∀ τ, eC σ0 s h (fun _ => h) (fld (go1 s h) D (kT s 2)) τ → P none τ) : Ret w true (d + 3) 0 0 m_Day_go [.ref 59, .int (nI h)] σ P X := by
  have hn := hv.2.2.1
  have hF := hv.2.2.2.1
  have hd0 : DVx s (goA s h 0) (cap s h (kT s 2)) D := hd.weak (fun k hk => ⟨hk.1, fun z => absurd z (Nat.not_lt_zero k)⟩) (Nat.le_refl _)
  refine meth_ok k_Day_go q_Day_go rfl fun At hAt => ?_
  have loop : ∀ k, k ≤ kT s 2 → ∀ τ, eC σ0 s h (goF h k) (fld (go1 s h) D k) τ → At 2 [.ref 59, .int (nI h), .int (nI k)] [] τ 0 0 := by
    refine upto fun k hk ih => ?_
    intro τ hcc
    have hS := hcc.sk hS0
    have hck : k < kT s 2 → rI τ 72 k = clV s (fld (go1 s h) D k) (goF h k) k := hcc.2.1 k
    have e0 : gN (fld (go1 s h) D k) 0 k = gN D 0 k := fld_0 (fun _ _ _ q => go1_0 q) _ k (Nat.le_refl k)
    have hdk := go_dv (h := h) hn hd0 k hk
    have gk : goF h k k = h - 1 := if_neg (by omega)
    have gs : ∀ i, i ≠ k → goF h (k + 1) i = goF h k i := fun i hi => by unfold goF; by_cases q : i < k <;> simp [q] <;> omega
    have gk1 : goF h (k + 1) k = h := if_pos (by omega)
    obtain ⟨E, hE⟩ : ∃ E, E = fld (go1 s h) D k := ⟨_, rfl⟩
    have nxt : fld (go1 s h) D (k + 1) = go1 s h E k := by rw [hE]; rfl
    rw [nxt] at ih
    rw [← hE] at hcc hck e0 hdk
    refine hAt 5 _ _ _ _ _ _ ?_
    refine s_Table_size (a := 8) (na := 9) (mo := 8) (wd := 7) rfl ?_
    refine Eq.mpr (congrArg (fun xq : Int32 => At 13 [.ref (59), .int (nI h), .int (nI k)] [.int xq, .int (nI k)] τ 0 0) (show rI τ 8 3 = nI (kT s 2) from hS.2.2.1.1)) ?_
    refine hAt 1 _ _ _ _ _ _ ?_
    refine And.intro (fun hq => ?_) (fun hq => ?_)
    · have c13 : kT s 2 ≤ k := (leN (a := kT s 2) (b := k) rfl rfl (by omega) (by omega)).mp hq
      clear hq
      refine hAt 1 _ _ _ _ _ _ ?_
      have e : k = kT s 2 := by omega
      rw [← e] at hP
      rw [hE] at hcc
      exact hP τ (hcc.congrF (fun i hi => by unfold goF; rw [if_pos (by omega)]))
    · have c13 : k < kT s 2 := Nat.lt_of_not_le (fun zq => hq ((leN (a := kT s 2) (b := k) rfl rfl (by omega) (by omega)).mpr zq))
      clear hq
      refine hAt 4 _ _ _ _ _ _ ?_
      refine s_isThere hv hcc (by omega) (fun z => by rw [gk]; have := hd.1 k (by omega) (by rw [← e0]; exact z); exact this.1.2) ?_
      refine And.intro (fun hq => ?_) (fun hq => ?_)
      · have c21 : ¬ (gN E 0 k = 1) := of_decide_eq_false (bI_eq hq)
        clear hq
        refine hAt 2 _ _ _ _ _ _ ?_
        refine Eq.mpr (congrArg (fun xq : Int32 => At 2 [.ref (59), .int (nI h), .int xq] [] τ 0 0) (show nI k + nI 1 = nI (k + 1) from (adE rfl rfl))) ?_
        refine ih c13 τ ?_
        rw [go1, if_neg (fun z => c21 z.1)]
        exact hcc.congrF2 (fun i hi => by
          by_cases e : i = k
          · rw [e]; unfold clV; rw [if_neg c21, if_neg c21]
          · unfold clV; rw [gs i e])
      · have c21 : gN E 0 k = 1 := of_decide_eq_true (bI_ne hq)
        clear hq
        refine hAt 9 _ _ _ _ _ _ ?_
        refine s_Table_get (a := 14) (na := 15) (mo := 8) (wd := 50) rfl (show k < 8 by omega) (show h < 50 by omega) ?_
        refine Eq.mpr (congrArg (fun xq : Int32 => At 41 [.ref (59), .int (nI h), .int (nI k)] [.int xq, .int (nI k), .ref (71)] τ 0 0) (show rI τ 15 (k * 50 + h) = tr s k h from (hS.2.2.2.2.2 k (by omega) h hh))) ?_
        refine hAt 5 _ _ _ _ _ _ ?_
        refine s_Row_set (a := 71) (na := 72) (n := 8) rfl (show k < 8 by omega) ?_
        refine s_isTh (x := tr s k h) (by omega) (by rw [rI_wI, if_pos ⟨rfl, rfl⟩]) ?_
        refine And.intro (fun hq => ?_) (fun hq => ?_)
        · have c49 : ¬ tr s k h = -1 := of_decide_eq_true (bI_ne hq)
          clear hq
          refine hAt 2 _ _ _ _ _ _ ?_
          refine Eq.mpr (congrArg (fun xq : Int32 => At 2 [.ref (59), .int (nI h), .int xq] [] (wI τ 72 k (tr s k h)) 0 0) (show nI k + nI 1 = nI (k + 1) from (adE rfl rfl))) ?_
          refine ih c13 _ ?_
          rw [go1, if_neg (fun z => c49 ((tr_m1 hv (by omega)).mpr z.2))]
          exact hcc.cell hn (fun i _ hi => by unfold clV; rw [gs i hi]) (by unfold clV; rw [if_pos c21, gk1])
        · have c49 : ¬ (¬ tr s k h = -1) := of_decide_eq_false (bI_eq hq)
          clear hq
          have hno : ps s k h = none := (tr_m1 hv (by omega)).mp (Classical.not_not.mp c49)
          have htr : tr s k h = -1 := (tr_m1 hv (by omega)).mpr hno
          have hT : kC s k 3 < h := (hdk.1 k (by omega) c21).1.1
          have hcw : eC σ0 s h (goF h (k + 1)) E (wI τ 72 k (tr s k h)) := hcc.cell hn (fun i _ hi => by unfold clV; rw [gs i hi]) (by unfold clV; rw [if_pos c21, gk1])
          refine hAt 3 _ _ _ _ _ _ ?_
          refine Eq.mpr (congrArg (fun xq : Int32 => At 57 [.ref (59), .int (nI h), .int (nI k)] [.int xq, .ref (59)] (wI τ 72 k (tr s k h)) 0 0) (show rI (wI τ 72 k (tr s k h)) 59 9 = gD E 0 1 from (by rw [rI_wI, if_neg (by omega)]; exact hcc.gon))) ?_
          refine hAt 8 _ _ _ _ _ _ ?_
          refine s_psum hcw hn (by omega) c21 ?_
          refine Eq.mpr (congrArg (fun xq : Int32 => At 2 [.ref (59), .int (nI h), .int xq] [] (wI (wI τ 72 k (tr s k h)) 59 9 ((gD E 0 1) + (nI (rs E (8 + k))))) 0 0) (show nI k + nI 1 = nI (k + 1) from (adE rfl rfl))) ?_
          refine ih c13 _ ?_
          rw [go1, if_pos ⟨c21, hno⟩]
          have g1 := hcw.wgon (v := gD E 0 1 + nI (rs E (8 + k))) hn hF
          refine g1.cl (k := k) g1.1 (fun t i q => ?_) (fun t i => ?_) (fun a j _ _ _ _ => rfl) (fun i hi hik => ?_) ?_ (fun z => ?_) (fun z => ?_) (fun z => ?_) hn hF (by omega)
          · rw [gR_ne (by omega), gN_ne (by omega), gN_sD]
          · rw [gD_sR, gD_sN]
          · unfold clV; rw [gR_ne (by omega), gN_ne (by omega), gN_sD]
          · rw [rI_wI, if_neg (by omega), rI_wI, if_pos ⟨rfl, rfl⟩, htr]; unfold clV; rw [gR_ne (by omega), gN_eq]; rfl
          · rw [gR_ne (by omega), gN_eq] at z; cases z
          · rw [gR_ne (by omega), gN_eq] at z; cases z
          · rw [gR_ne (by omega), gN_eq] at z
            rcases z with z | z
            · cases z
            · omega
  refine hAt 2 _ _ _ _ _ _ ?_
  exact loop 0 (by omega) σ (hc.congrF (fun i _ => by unfold goF; rw [if_neg (by omega)]))
end DC1
