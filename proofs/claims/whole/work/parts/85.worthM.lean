/-! WORTH on the model's side: a field asks for one more -/
def wM (n m : Nat) (r g : Nat → Nat → Nat) (lf : Nat → Nat) (σ : Mem) : Prop :=
  (∀ k f, k < n → f < m → rI σ (338 + 1 + k) f = nI (r k f)) ∧ (∀ k f, k < n → f < m → rI σ (347 + 1 + k) f = nI (g k f)) ∧ ∀ k, k < n → rI σ 356 k = nI (lf k)
def sM (m : Nat) (sn : Nat → Bool) (σ : Mem) : Prop := ∀ f, f < m → rI σ 357 f = bI (sn f)
def upB (sn : Nat → Bool) (a : Nat) : Nat → Bool := fun f => if f = a then true else sn f
def unS (sn : Nat → Bool) (m : Nat) : Nat := sumN (fun f => if sn f = true then 0 else 1) m
theorem unS_mono {a b : Nat → Bool} {m : Nat} (h : ∀ f, f < m → a f = true → b f = true) : unS b m ≤ unS a m := sumN_mono m (fun f hf => by
  by_cases q : a f = true
  · rw [if_pos q, if_pos (h f hf q)]; exact Nat.le_refl _
  · rw [if_neg q]; split <;> omega)
theorem unS_up {sn : Nat → Bool} {a m : Nat} (ha : a < m) (h : sn a = false) : unS (upB sn a) m + 1 = unS sn m := by
  have := sumN_up (f := fun f => if upB sn a f = true then 0 else 1) (g := fun f => if sn f = true then 0 else 1) (a := a) m ha (fun i _ hi => by
    show (if upB sn a i = true then 0 else 1) = _
    rw [show upB sn a i = sn i from if_neg hi])
  simp only [show upB sn a a = true from if_pos rfl, h] at this
  unfold unS
  simp at this
  exact this
theorem unS_0 {sn : Nat → Bool} : ∀ m, unS sn m = 0 → ∀ f, f < m → sn f = true
  | 0, _, f, hf => absurd hf (Nat.not_lt_zero f)
  | m + 1, h, f, hf => by
    unfold unS at h
    rw [sumN] at h
    by_cases e : f = m
    · subst e
      by_cases q : sn f = true
      · exact q
      · rw [if_neg q] at h; omega
    · exact unS_0 m (by unfold unS; omega) f (by omega)
theorem wM.frame {n m : Nat} {r g : Nat → Nat → Nat} {lf : Nat → Nat} {σ τ : Mem} (h : wM n m r g lf σ) (hn : n ≤ 8) (f : ∀ a j, 339 ≤ a → a < 357 → rI τ a j = rI σ a j) : wM n m r g lf τ :=
  ⟨fun k i hk hi => by rw [f _ _ (by omega) (by omega)]; exact h.1 k i hk hi, fun k i hk hi => by rw [f _ _ (by omega) (by omega)]; exact h.2.1 k i hk hi, fun k hk => by rw [f _ _ (by omega) (by omega)]; exact h.2.2 k hk⟩
theorem wM.put {n m : Nat} {r g : Nat → Nat → Nat} {lf : Nat → Nat} {τ : Mem} {a b x : Nat} (hn : n ≤ 8) (h : wM n m r g lf τ) (ha : a < n) : wM n m r (up2 g a b x) lf (wI τ (347 + 1 + a) b (nI x)) :=
  ⟨fun k f hk hf => by rw [rI_wI, if_neg (by omega)]; exact h.1 k f hk hf, fun k f hk hf => by
    rw [rI_wI]
    unfold up2
    by_cases e : k = a ∧ f = b
    · rw [if_pos e, if_pos ⟨by omega, e.2⟩]
    · rw [if_neg e, if_neg (fun z => e ⟨by omega, z.2⟩)]; exact h.2.1 k f hk hf, fun k hk => by rw [rI_wI, if_neg (by omega)]; exact h.2.2 k hk⟩
theorem wM.take {n m : Nat} {r g : Nat → Nat → Nat} {lf : Nat → Nat} {τ : Mem} {a x : Nat} (hn : n ≤ 8) (h : wM n m r g lf τ) : wM n m r g (up1 lf a x) (wI τ 356 a (nI x)) :=
  ⟨fun k f hk hf => by rw [rI_wI, if_neg (by omega)]; exact h.1 k f hk hf, fun k f hk hf => by rw [rI_wI, if_neg (by omega)]; exact h.2.1 k f hk hf, fun k hk => by
    rw [rI_wI]
    unfold up1
    by_cases e : k = a
    · rw [if_pos ⟨rfl, e⟩, if_pos e]
    · rw [if_neg (by omega), if_neg e]; exact h.2.2 k hk⟩
/-- what a field that got one more leaves -/
def gvT (n m q : Nat) (r g : Nat → Nat → Nat) (lf : Nat → Nat) (sn : Nat → Bool) (f0 : Nat) (g' : Nat → Nat → Nat) (lf' : Nat → Nat) : Prop :=
  sn f0 = false ∧ (∀ k f, k < n → f < m → g' k f ≤ r k f) ∧ (∀ k, k < n → sumN (g' k) m + lf' k = sumN (g k) m + lf k) ∧ (∀ f, f < m → sumN (fun k => g' k f) n = sumN (fun k => g k f) n + if f = f0 then 1 else 0) ∧ (∀ k, k < n → lf' k ≤ lf k) ∧ (∀ h, h < m → sn h = true → ∀ k, g' k h = g k h) ∧ (∀ k, g k f0 ≤ g' k f0) ∧ ∀ k, q / 2 ^ k % 2 ≠ 1 → (∀ f, g' k f = g k f) ∧ lf' k = lf k
/-- what is closed of the fields seen -/
def cls (n m q : Nat) (r g : Nat → Nat → Nat) (lf : Nat → Nat) (sn : Nat → Bool) (h k : Nat) : Prop := q / 2 ^ k % 2 = 1 → g k h < r k h → lf k = 0 ∧ ∀ f, f < m → 0 < g k f → sn f = true
theorem cls.mono {n m q : Nat} {r g : Nat → Nat → Nat} {lf : Nat → Nat} {sn sn' : Nat → Bool} {h k : Nat} (c : cls n m q r g lf sn h k) (e : ∀ f, f < m → sn f = true → sn' f = true) : cls n m q r g lf sn' h k := fun b z => ⟨(c b z).1, fun f hf y => e f hf ((c b z).2 f hf y)⟩
def gvF (n m q : Nat) (r g : Nat → Nat → Nat) (lf : Nat → Nat) (sn : Nat → Bool) (f0 : Nat) (sn' : Nat → Bool) : Prop :=
  (∀ f, f < m → sn f = true → sn' f = true) ∧ sn' f0 = true ∧ ∀ h, h < m → sn' h = true → sn h = false → ∀ k, k < n → cls n m q r g lf sn' h k
section WM
variable {w : Wd} {s : Sk} {X : Nat → Mem → Prop}
theorem s_gives {q : Nat} {r : Nat → Nat → Nat} {σ0 : Mem} (hS0 : skM σ0 s) (hv : VS s) (hq : q < 2 ^ 31) (hb : ∀ k f, k < kT s 2 → f < kT s 3 → r k f ≤ 4950) : ∀ u {d : Nat} {σ : Mem} {g : Nat → Nat → Nat} {lf : Nat → Nat} {sn : Nat → Bool} {f0 : Nat} {P : Option AV → Mem → Prop}, (∀ a j, a < 338 → rI σ a j = rI σ0 a j) → unS sn (kT s 3) ≤ u → f0 < kT s 3 → wM (kT s 2) (kT s 3) r g lf σ → sM (kT s 3) sn σ → (∀ k f, k < kT s 2 → f < kT s 3 → g k f ≤ r k f) → (∀ k, k < kT s 2 → lf k ≤ 999) →
    (∀ τ g' lf' sn', (∀ a j, ¬ (347 ≤ a ∧ a ≤ 357) → rI τ a j = rI σ a j) → τ.2 = σ.2 → wM (kT s 2) (kT s 3) r g' lf' τ → sM (kT s 3) sn' τ → gvT (kT s 2) (kT s 3) q r g lf sn f0 g' lf' → P (some (.int (nI 1))) τ) →
    (∀ τ sn', (∀ a j, a ≠ 357 → rI τ a j = rI σ a j) → τ.2 = σ.2 → sM (kT s 3) sn' τ → gvF (kT s 2) (kT s 3) q r g lf sn f0 sn' → P (some (.int (nI 0))) τ) → Ret w true (d + u + 1) 0 0 m_Mo_gives [.ref 108, .int (nI f0), .int (nI q)] σ P X := by
  have hn := hv.2.2.1
  have hF := hv.2.2.2.1
  intro u
  induction u with
  | zero =>
    intro d σ g lf sn f0 P t0 hu hf0 hw hs hr hl hT hFF
    have h1 := unS_0 (sn := sn) (kT s 3) (by omega) f0 hf0
    have e1 : rI σ 357 f0 = bI true := by rw [hs f0 hf0, h1]
    refine meth_ok k_Mo_gives q_Mo_gives rfl fun At hAt => ?_
    refine hAt 4 _ _ _ _ _ _ ?_
    refine And.intro (aOKx (n := 12) (j := f0) rfl (by decide) rfl rfl (by omega) (by omega)) ?_
    refine Eq.mpr (congrArg (fun xq : Int32 => At 6 [.ref (108), .int (nI f0), .int (nI q), junk, junk] [.int xq] σ 0 0) (show rI σ 357 (nI f0).toNatClampNeg = bI true from (ldE rfl (by omega) e1))) ?_
    refine hAt 1 _ _ _ _ _ _ ?_
    refine And.intro (fun hq => absurd hq (by decide)) (fun _ => ?_)
    refine hAt 2 _ _ _ _ _ _ ?_
    refine And.intro (rfl) ?_
    exact hFF σ sn (fun _ _ _ => rfl) rfl hs ⟨fun _ _ z => z, h1, fun h _ z y => by rw [z] at y; cases y⟩
  | succ u IH =>
    intro d σ g lf sn f0 P t0 hu hf0 hw hs hr hl hT hFF
    refine meth_ok k_Mo_gives q_Mo_gives rfl fun At hAt => ?_
    have outer : sn f0 = false → ∀ k, k ≤ kT s 2 → ∀ τ sn' z4, (∀ a j, a ≠ 357 → rI τ a j = rI σ a j) → τ.2 = σ.2 → sM (kT s 3) sn' τ → (∀ f, f < kT s 3 → sn f = true → sn' f = true) → sn' f0 = true → (∀ h, h < kT s 3 → h ≠ f0 → sn' h = true → sn h = false → ∀ k, k < kT s 2 → cls (kT s 2) (kT s 3) q r g lf sn' h k) → (∀ j, j < k → cls (kT s 2) (kT s 3) q r g lf sn' f0 j) → At 20 [.ref 108, .int (nI f0), .int (nI q), .int (nI k), z4] [] τ 0 0 := by
      intro hsn
      refine upto fun k hk ih => ?_
      intro τ sn' z4 t1 t2 hs' m1 m2 c1 c2
      have hS : skM τ s := hS0.scr2 hv (fun a j h1 _ => by rw [t1 a j (by omega)]; exact t0 a j (by omega))
      have hw' := hw.frame (τ := τ) hn (fun a j h1 h2 => t1 a j (by omega))
      have bit : k < kT s 2 → (nI q >>> (nI k &&& 31)) &&& nI 1 = nI (q / 2 ^ k % 2) := fun h => by rw [bit_s _ k (by omega), u32_nI (by omega)]
      have hm2 : q / 2 ^ k % 2 < 2 := Nat.mod_lt _ (by decide)
      have b1 := fun h => hr k f0 h hf0
      have b2 := fun h => hb k f0 h hf0
      have b3 := hl k
      have next : k < kT s 2 → cls (kT s 2) (kT s 3) q r g lf sn' f0 k → ∀ z4, At 20 [.ref 108, .int (nI f0), .int (nI q), .int (nI (k + 1)), z4] [] τ 0 0 := fun hk2 z z4 => ih hk2 τ sn' z4 t1 t2 hs' m1 m2 c1 (fun j hj => by
        by_cases e : j = k
        · subst e; exact z
        · exact c2 j (by omega))
      have inner : k < kT s 2 → q / 2 ^ k % 2 = 1 → g k f0 < r k f0 → lf k = 0 → ∀ i, i ≤ kT s 3 → ∀ τ sn', (∀ a j, a ≠ 357 → rI τ a j = rI σ a j) → τ.2 = σ.2 → sM (kT s 3) sn' τ → (∀ f, f < kT s 3 → sn f = true → sn' f = true) → sn' f0 = true → (∀ h, h < kT s 3 → h ≠ f0 → sn' h = true → sn h = false → ∀ k, k < kT s 2 → cls (kT s 2) (kT s 3) q r g lf sn' h k) → (∀ j, j < k → cls (kT s 2) (kT s 3) q r g lf sn' f0 j) → (∀ f, f < i → 0 < g k f → sn' f = true) → At 96 [.ref 108, .int (nI f0), .int (nI q), .int (nI k), .int (nI i)] [] τ 0 0 := by
        intro hk2 hbit hgr hlf
        refine upto fun i hi ih2 => ?_
        intro τ sn' t1 t2 hs' m1 m2 c1 c2 c3
        have hS : skM τ s := hS0.scr2 hv (fun a j h1 _ => by rw [t1 a j (by omega)]; exact t0 a j (by omega))
        have hw' := hw.frame (τ := τ) hn (fun a j h1 h2 => t1 a j (by omega))
        have gi := fun h => hr k i hk2 h
        have ri := fun h => hb k i hk2 h
        have go : i < kT s 3 → ∀ τ2 sn2, (∀ a j, a ≠ 357 → rI τ2 a j = rI τ a j) → τ2.2 = τ.2 → sM (kT s 3) sn2 τ2 → (∀ f, f < kT s 3 → sn' f = true → sn2 f = true) → (∀ h, h < kT s 3 → h ≠ f0 → sn2 h = true → sn h = false → ∀ k, k < kT s 2 → cls (kT s 2) (kT s 3) q r g lf sn2 h k) → (0 < g k i → sn2 i = true) → At 96 [.ref 108, .int (nI f0), .int (nI q), .int (nI k), .int (nI (i + 1))] [] τ2 0 0 := fun hi2 τ2 sn2 g1 g2 hs2 e1 e2 e3 =>
          ih2 hi2 τ2 sn2 (fun a j h => (g1 a j h).trans (t1 a j h)) (g2.trans t2) hs2 (fun f hf z => e1 f hf (m1 f hf z)) (e1 f0 hf0 m2) e2 (fun j hj => (c2 j hj).mono e1) (fun f hf z => by
            by_cases e : f = i
            · subst e; exact e3 z
            · exact e1 f (by omega) (c3 f (by omega) z))
        have no : i < kT s 3 → 0 < g k i → ∀ τ2 sn2, (∀ a j, a ≠ 357 → rI τ2 a j = rI τ a j) → τ2.2 = τ.2 → sM (kT s 3) sn2 τ2 → gvF (kT s 2) (kT s 3) q r g lf sn' i sn2 → At 132 [.ref 108, .int (nI f0), .int (nI q), .int (nI k), .int (nI i)] [.int (nI 0)] τ2 0 0 := by
          intro hi2 hgi τ2 sn2 g1 g2 hs2 hg2
          refine hAt 1 _ _ _ _ _ _ ?_
          refine And.intro (fun hq => absurd hq (by decide)) (fun _ => ?_)
          refine hAt 3 _ _ _ _ _ _ ?_
          refine Eq.mpr (congrArg (fun xq : Int32 => At 96 [.ref (108), .int (nI f0), .int (nI q), .int (nI k), .int xq] [] τ2 0 0) (show nI i + nI 1 = nI (i + 1) from (adE rfl rfl))) ?_
          exact go hi2 τ2 sn2 g1 g2 hs2 hg2.1 (fun h hh hne z1 z2 k hk => by
            by_cases e : sn' h = true
            · exact (c1 h hh hne e z2 k hk).mono hg2.1
            · exact hg2.2.2 h hh z1 (by cases x : sn' h; rfl; exact absurd x e) k hk) (fun _ => hg2.2.1)
        have yes : i < kT s 3 → 0 < g k i → i ≠ f0 → ∀ τ2 g' lf' sn2, (∀ a j, ¬ (347 ≤ a ∧ a ≤ 357) → rI τ2 a j = rI τ a j) → τ2.2 = τ.2 → wM (kT s 2) (kT s 3) r g' lf' τ2 → sM (kT s 3) sn2 τ2 → gvT (kT s 2) (kT s 3) q r g lf sn' i g' lf' → At 132 [.ref 108, .int (nI f0), .int (nI q), .int (nI k), .int (nI i)] [.int (nI 1)] τ2 0 0 := by
          intro hi2 hgi hif τ2 g' lf' sn2 g1 g2 hw2 hs2 hg2
          obtain ⟨y1, y2, y3, y4, y5, y6, y7, y8⟩ := hg2
          have e1 : g' k f0 = g k f0 := y6 f0 hf0 m2 k
          have e2 := y7 k
          have e3 := y2 k i hk2 hi2
          have e4 := ri hi2
          have e5 := b2 hk2
          have d1 := hw2.2.1 k i hk2 hi2
          have d2 := hw2.2.1 k f0 hk2 hf0
          refine hAt 1 _ _ _ _ _ _ ?_
          refine And.intro (fun _ => ?_) (fun hq => absurd hq (by decide))
          refine hAt 4 _ _ _ _ _ _ ?_
          refine And.intro (mx_r (q := 347) (n := 8) (k := 12) rfl rfl (show k < 8 by omega)) (And.intro (Or.inl rfl) ?_)
          refine Eq.mpr (congrArg (fun xq : Nat => At 144 [.ref (108), .int (nI f0), .int (nI q), .int (nI k), .int (nI i)] [.ref xq] τ2 0 0) (rwE rfl (by omega))) ?_
          refine hAt 3 _ _ _ _ _ _ ?_
          refine And.intro (mx_e (q := 347) (n := 8) (k := 12) (j := k) (i := i) rfl (by omega) (by omega) rfl) ?_
          refine Eq.mpr (congrArg (fun xq : Int32 => At 148 [.ref (108), .int (nI f0), .int (nI q), .int (nI k), .int (nI i)] [.int xq, .int (nI i), .ref (347 + 1 + k)] τ2 0 0) (show rI τ2 (347 + 1 + k) (nI i).toNatClampNeg = nI (g' k i) from (ldE rfl (by omega) d1))) ?_
          refine hAt 3 _ _ _ _ _ _ ?_
          refine And.intro (mx_e (q := 347) (n := 8) (k := 12) (j := k) (i := i) rfl (by omega) (by omega) rfl) ?_
          refine Eq.mpr (congrArg (fun xq : Mem => At 151 [.ref (108), .int (nI f0), .int (nI q), .int (nI k), .int (nI i)] [] xq 0 0) (wrE (σ := τ2) (q := 347 + 1 + k) (p := rfl) (hj := by omega) (h := (sbE rfl rfl (by omega))))) ?_
          refine hAt 4 _ _ _ _ _ _ ?_
          refine And.intro (mx_r (q := 347) (n := 8) (k := 12) rfl rfl (show k < 8 by omega)) (And.intro (Or.inl rfl) ?_)
          refine Eq.mpr (congrArg (fun xq : Nat => At 157 [.ref (108), .int (nI f0), .int (nI q), .int (nI k), .int (nI i)] [.ref xq] (wI τ2 (347 + 1 + k) i (nI ((g' k i) - 1))) 0 0) (rwE rfl (by omega))) ?_
          refine hAt 3 _ _ _ _ _ _ ?_
          refine And.intro (mx_e (q := 347) (n := 8) (k := 12) (j := k) (i := f0) rfl (by omega) (by omega) rfl) ?_
          refine Eq.mpr (congrArg (fun xq : Int32 => At 160 [.ref (108), .int (nI f0), .int (nI q), .int (nI k), .int (nI i)] [.int xq, .int (nI f0), .ref (347 + 1 + k)] (wI τ2 (347 + 1 + k) i (nI ((g' k i) - 1))) 0 0) (show rI (wI τ2 (347 + 1 + k) i (nI ((g' k i) - 1))) (347 + 1 + k) (nI f0).toNatClampNeg = nI (g' k f0) from (ldE rfl (by omega) (by rw [rI_wI, if_neg (by omega)]; exact d2)))) ?_
          refine hAt 3 _ _ _ _ _ _ ?_
          refine And.intro (mx_e (q := 347) (n := 8) (k := 12) (j := k) (i := f0) rfl (by omega) (by omega) rfl) ?_
          refine Eq.mpr (congrArg (fun xq : Mem => At 163 [.ref (108), .int (nI f0), .int (nI q), .int (nI k), .int (nI i)] [] xq 0 0) (wrE (σ := (wI τ2 (347 + 1 + k) i (nI ((g' k i) - 1)))) (q := 347 + 1 + k) (p := rfl) (hj := by omega) (h := (adE rfl rfl)))) ?_
          refine hAt 2 _ _ _ _ _ _ ?_
          refine And.intro (rfl) ?_
          have g3 : up2 g' k i (g' k i - 1) k f0 = g' k f0 := if_neg (fun z => hif z.2.symm)
          refine hT _ (up2 (up2 g' k i (g' k i - 1)) k f0 (g' k f0 + 1)) lf' sn2 (fun a j h => ?_) (g2.trans t2) ((hw2.put hn hk2).put hn hk2) (fun f hf => ?_) ⟨hsn, fun k2 f hk3 hf => ?_, fun k2 hk3 => ?_, fun f hf => ?_, y5, fun h hh z k2 => ?_, fun k2 => ?_, fun k2 hk3 => ?_⟩
          · rw [rI_wI, if_neg (by omega), rI_wI, if_neg (by omega), g1 a j h]; exact t1 a j (by omega)
          · rw [rI_wI, if_neg (by omega), rI_wI, if_neg (by omega)]; exact hs2 f hf
          · unfold up2
            by_cases e : k2 = k ∧ f = f0
            · rw [if_pos e, e.1, e.2]; omega
            · rw [if_neg e]
              by_cases e6 : k2 = k ∧ f = i
              · rw [if_pos e6, e6.1, e6.2]; omega
              · rw [if_neg e6]; exact y2 k2 f hk3 hf
          · have r1 := up2_row (G := g') (a := k) (b := i) (x := g' k i - 1) (m := kT s 3) hi2 k2
            have r2 := up2_row (G := up2 g' k i (g' k i - 1)) (a := k) (b := f0) (x := g' k f0 + 1) (m := kT s 3) hf0 k2
            rw [g3] at r2
            have := y3 k2 hk3
            by_cases e : k2 = k
            · rw [if_pos e, if_pos e] at r1 r2; omega
            · rw [if_neg e, if_neg e] at r1 r2; omega
          · have r1 := up2_col (G := g') (a := k) (b := i) (x := g' k i - 1) (n := kT s 2) hk2 f
            have r2 := up2_col (G := up2 g' k i (g' k i - 1)) (a := k) (b := f0) (x := g' k f0 + 1) (n := kT s 2) hk2 f
            rw [g3] at r2
            have := y4 f hf
            by_cases e : f = f0
            · have e6 : ¬ f = i := fun z => hif (z.symm.trans e)
              rw [if_neg e6, if_neg e6] at r1; rw [if_neg e6] at this; rw [if_pos e, if_pos e] at r2; rw [if_pos e]; omega
            · rw [if_neg e, if_neg e] at r2
              rw [if_neg e]
              by_cases e6 : f = i
              · rw [if_pos e6, if_pos e6] at r1; rw [if_pos e6] at this; omega
              · rw [if_neg e6, if_neg e6] at r1; rw [if_neg e6] at this; omega
          · have n1 : ¬ h = f0 := fun x => by rw [x, hsn] at z; cases z
            have n2 : ¬ h = i := fun x => by rw [x] at z; rw [m1 i hi2 z] at y1; cases y1
            unfold up2
            rw [if_neg (fun x => n1 x.2), if_neg (fun x => n2 x.2)]
            exact y6 h hh (m1 h hh z) k2
          · have := y6 f0 hf0 m2 k2
            unfold up2
            by_cases e : k2 = k
            · rw [if_pos ⟨e, rfl⟩, e]; omega
            · rw [if_neg (fun x => e x.1), if_neg (fun x => e x.1)]; omega
          · have := y8 k2 hk3
            have e : ¬ k2 = k := fun z => hk3 (by rw [z]; exact hbit)
            refine ⟨fun f => ?_, this.2⟩
            unfold up2
            rw [if_neg (fun x => e x.1), if_neg (fun x => e x.1)]; exact this.1 f
        refine hAt 5 _ _ _ _ _ _ ?_
        refine And.intro (aOKx (n := 11) (j := 3) rfl (by decide) rfl rfl (by omega) (by omega)) ?_
        refine Eq.mpr (congrArg (fun xq : Int32 => At 104 [.ref (108), .int (nI f0), .int (nI q), .int (nI k), .int (nI i)] [.int xq, .int (nI i)] τ 0 0) (show rI τ 111 (nI 3).toNatClampNeg = nI (kT s 3) from (ldE rfl (by omega) (hS.1 3 (by omega))))) ?_
        refine hAt 1 _ _ _ _ _ _ ?_
        refine And.intro (fun hq => ?_) (fun hq => ?_)
        · have c104 : kT s 3 ≤ i := (leN (a := kT s 3) (b := i) rfl rfl (by omega) (by omega)).mp hq
          clear hq
          refine hAt 2 _ _ _ _ _ _ ?_
          refine Eq.mpr (congrArg (fun xq : Int32 => At 20 [.ref (108), .int (nI f0), .int (nI q), .int xq, .int (nI i)] [] τ 0 0) (show nI k + nI 1 = nI (k + 1) from (adE rfl rfl))) ?_
          have e : i = kT s 3 := by omega
          subst e
          exact ih hk2 τ sn' _ t1 t2 hs' m1 m2 c1 (fun j hj => by
            by_cases e : j = k
            · subst e; exact (fun _ _ => ⟨hlf, c3⟩)
            · exact c2 j (by omega))
        · have c104 : i < kT s 3 := Nat.lt_of_not_le (fun zq => hq ((leN (a := kT s 3) (b := i) rfl rfl (by omega) (by omega)).mpr zq))
          clear hq
          have gi := gi c104
          have ri := ri c104
          refine hAt 4 _ _ _ _ _ _ ?_
          refine And.intro (mx_r (q := 347) (n := 8) (k := 12) rfl rfl (show k < 8 by omega)) (And.intro (Or.inl rfl) ?_)
          refine Eq.mpr (congrArg (fun xq : Nat => At 113 [.ref (108), .int (nI f0), .int (nI q), .int (nI k), .int (nI i)] [.ref xq] τ 0 0) (rwE rfl (by omega))) ?_
          refine hAt 2 _ _ _ _ _ _ ?_
          refine And.intro (mx_e (q := 347) (n := 8) (k := 12) (j := k) (i := i) rfl (by omega) (by omega) rfl) ?_
          refine Eq.mpr (congrArg (fun xq : Int32 => At 116 [.ref (108), .int (nI f0), .int (nI q), .int (nI k), .int (nI i)] [.int xq] τ 0 0) (show rI τ (347 + 1 + k) (nI i).toNatClampNeg = nI (g k i) from (ldE rfl (by omega) (hw'.2.1 k i hk2 (by omega))))) ?_
          refine hAt 1 _ _ _ _ _ _ ?_
          refine And.intro (fun hq => ?_) (fun hq => ?_)
          · have c116 : g k i = 0 := (eqN (a := g k i) (b := 0) rfl rfl (by omega) (by omega)).mp hq
            clear hq
            refine hAt 2 _ _ _ _ _ _ ?_
            refine Eq.mpr (congrArg (fun xq : Int32 => At 96 [.ref (108), .int (nI f0), .int (nI q), .int (nI k), .int xq] [] τ 0 0) (show nI i + nI 1 = nI (i + 1) from (adE rfl rfl))) ?_
            exact go c104 τ sn' (fun _ _ _ => rfl) rfl hs' (fun _ _ z => z) c1 (fun z => by omega)
          · have c116 : ¬ g k i = 0 := fun zq => hq ((eqN (a := g k i) (b := 0) rfl rfl (by omega) (by omega)).mpr zq)
            clear hq
            refine hAt 3 _ _ _ _ _ _ ?_
            refine And.intro (fun hq => ?_) (fun hq => ?_)
            · have c122 : i = f0 := (eqN (a := i) (b := f0) rfl rfl (by omega) (by omega)).mp hq
              clear hq
              refine hAt 2 _ _ _ _ _ _ ?_
              refine Eq.mpr (congrArg (fun xq : Int32 => At 96 [.ref (108), .int (nI f0), .int (nI q), .int (nI k), .int xq] [] τ 0 0) (show nI i + nI 1 = nI (i + 1) from (adE rfl rfl))) ?_
              exact go c104 τ sn' (fun _ _ _ => rfl) rfl hs' (fun _ _ z => z) c1 (fun _ => by rw [c122]; exact m2)
            · have c122 : ¬ i = f0 := fun zq => hq ((eqN (a := i) (b := f0) rfl rfl (by omega) (by omega)).mpr zq)
              clear hq
              refine hAt 3 _ _ _ _ _ _ ?_
              refine hAt 1 _ _ _ _ _ _ ?_
              have un : unS sn' (kT s 3) ≤ u := by
                have h1 := unS_up (sn := sn) hf0 hsn
                have h2 : unS sn' (kT s 3) ≤ unS (upB sn f0) (kT s 3) := unS_mono (fun f hf z => by
                  unfold upB at z
                  by_cases e : f = f0
                  · rw [e]; exact m2
                  · rw [if_neg e] at z; exact m1 f hf z)
                omega
              exact IH (d := d) (fun a j h => (t1 a j (by omega)).trans (t0 a j h)) un c104 hw' hs' hr hl (yes c104 (by omega) c122) (no c104 (by omega))
      refine hAt 5 _ _ _ _ _ _ ?_
      refine And.intro (aOKx (n := 11) (j := 2) rfl (by decide) rfl rfl (by omega) (by omega)) ?_
      refine Eq.mpr (congrArg (fun xq : Int32 => At 27 [.ref (108), .int (nI f0), .int (nI q), .int (nI k), z4] [.int xq, .int (nI k)] τ 0 0) (show rI τ 111 (nI 2).toNatClampNeg = nI (kT s 2) from (ldE rfl (by omega) (hS.1 2 (by omega))))) ?_
      refine hAt 1 _ _ _ _ _ _ ?_
      refine And.intro (fun hq => ?_) (fun hq => ?_)
      · have c27 : kT s 2 ≤ k := (leN (a := kT s 2) (b := k) rfl rfl (by omega) (by omega)).mp hq
        clear hq
        refine hAt 2 _ _ _ _ _ _ ?_
        refine And.intro (rfl) ?_
        have e : k = kT s 2 := by omega
        subst e
        exact hFF τ sn' t1 t2 hs' ⟨m1, m2, fun h hh z1 z2 k hk => by
          by_cases e : h = f0
          · rw [e]; exact c2 k hk
          · exact c1 h hh e z1 z2 k hk⟩
      · have c27 : k < kT s 2 := Nat.lt_of_not_le (fun zq => hq ((leN (a := kT s 2) (b := k) rfl rfl (by omega) (by omega)).mpr zq))
        clear hq
        have b1 := b1 c27
        have b2 := b2 c27
        have b3 := b3 c27
        refine hAt 6 _ _ _ _ _ _ ?_
        refine And.intro (fun hq => ?_) (fun hq => ?_)
        · have c35 : q / 2 ^ k % 2 = 0 := (eqN (a := q / 2 ^ k % 2) (b := 0) (bit (by omega)) rfl (by omega) (by omega)).mp hq
          clear hq
          refine hAt 2 _ _ _ _ _ _ ?_
          refine Eq.mpr (congrArg (fun xq : Int32 => At 20 [.ref (108), .int (nI f0), .int (nI q), .int xq, z4] [] τ 0 0) (show nI k + nI 1 = nI (k + 1) from (adE rfl rfl))) ?_
          exact next c27 (fun z => by omega) _
        · have c35 : ¬ q / 2 ^ k % 2 = 0 := fun zq => hq ((eqN (a := q / 2 ^ k % 2) (b := 0) (bit (by omega)) rfl (by omega) (by omega)).mpr zq)
          clear hq
          refine hAt 4 _ _ _ _ _ _ ?_
          refine And.intro (mx_r (q := 347) (n := 8) (k := 12) rfl rfl (show k < 8 by omega)) (And.intro (Or.inl rfl) ?_)
          refine Eq.mpr (congrArg (fun xq : Nat => At 44 [.ref (108), .int (nI f0), .int (nI q), .int (nI k), z4] [.ref xq] τ 0 0) (rwE rfl (by omega))) ?_
          refine hAt 2 _ _ _ _ _ _ ?_
          refine And.intro (mx_e (q := 347) (n := 8) (k := 12) (j := k) (i := f0) rfl (by omega) (by omega) rfl) ?_
          refine Eq.mpr (congrArg (fun xq : Int32 => At 46 [.ref (108), .int (nI f0), .int (nI q), .int (nI k), z4] [.int xq] τ 0 0) (show rI τ (347 + 1 + k) (nI f0).toNatClampNeg = nI (g k f0) from (ldE rfl (by omega) (hw'.2.1 k f0 (by omega) hf0)))) ?_
          refine hAt 4 _ _ _ _ _ _ ?_
          refine And.intro (mx_r (q := 338) (n := 8) (k := 12) rfl rfl (show k < 8 by omega)) (And.intro (Or.inl rfl) ?_)
          refine Eq.mpr (congrArg (fun xq : Nat => At 52 [.ref (108), .int (nI f0), .int (nI q), .int (nI k), z4] [.ref xq, .int (nI (g k f0))] τ 0 0) (rwE rfl (by omega))) ?_
          refine hAt 2 _ _ _ _ _ _ ?_
          refine And.intro (mx_e (q := 338) (n := 8) (k := 12) (j := k) (i := f0) rfl (by omega) (by omega) rfl) ?_
          refine Eq.mpr (congrArg (fun xq : Int32 => At 54 [.ref (108), .int (nI f0), .int (nI q), .int (nI k), z4] [.int xq, .int (nI (g k f0))] τ 0 0) (show rI τ (338 + 1 + k) (nI f0).toNatClampNeg = nI (r k f0) from (ldE rfl (by omega) (hw'.1 k f0 (by omega) hf0)))) ?_
          refine hAt 1 _ _ _ _ _ _ ?_
          refine And.intro (fun hq => ?_) (fun hq => ?_)
          · have c54 : ¬ g k f0 = r k f0 := fun zq => hq ((eqN (a := g k f0) (b := r k f0) rfl rfl (by omega) (by omega)).mpr zq)
            clear hq
            refine hAt 4 _ _ _ _ _ _ ?_
            refine And.intro (aOKx (n := 8) (j := k) rfl (by decide) rfl rfl (by omega) (by omega)) ?_
            refine Eq.mpr (congrArg (fun xq : Int32 => At 66 [.ref (108), .int (nI f0), .int (nI q), .int (nI k), z4] [.int xq] τ 0 0) (show rI τ 356 (nI k).toNatClampNeg = nI (lf k) from (ldE rfl (by omega) (hw'.2.2 k (by omega))))) ?_
            refine hAt 1 _ _ _ _ _ _ ?_
            refine And.intro (fun hq => ?_) (fun hq => ?_)
            · have c66 : lf k ≤ 0 := (leN (a := lf k) (b := 0) rfl rfl (by omega) (by omega)).mp hq
              clear hq
              refine hAt 2 _ _ _ _ _ _ ?_
              exact inner c27 (by omega) (by omega) (by omega) 0 (Nat.zero_le _) τ sn' t1 t2 hs' m1 m2 c1 c2 (fun f hf => absurd hf (Nat.not_lt_zero f))
            · have c66 : 0 < lf k := Nat.lt_of_not_le (fun zq => hq ((leN (a := lf k) (b := 0) rfl rfl (by omega) (by omega)).mpr zq))
              clear hq
              refine hAt 5 _ _ _ _ _ _ ?_
              refine And.intro (aOKx (n := 8) (j := k) rfl (by decide) rfl rfl (by omega) (by omega)) ?_
              refine Eq.mpr (congrArg (fun xq : Int32 => At 76 [.ref (108), .int (nI f0), .int (nI q), .int (nI k), z4] [.int xq, .int (nI k), .ref (356)] τ 0 0) (show rI τ 356 (nI k).toNatClampNeg = nI (lf k) from (ldE rfl (by omega) (hw'.2.2 k (by omega))))) ?_
              refine hAt 3 _ _ _ _ _ _ ?_
              refine And.intro (aOKx (n := 8) (j := k) rfl (by decide) rfl rfl (by omega) (by omega)) ?_
              refine Eq.mpr (congrArg (fun xq : Mem => At 79 [.ref (108), .int (nI f0), .int (nI q), .int (nI k), z4] [] xq 0 0) (wrE (σ := τ) (q := 356) (p := rfl) (hj := by omega) (h := (sbE rfl rfl (by omega))))) ?_
              refine hAt 4 _ _ _ _ _ _ ?_
              refine And.intro (mx_r (q := 347) (n := 8) (k := 12) rfl rfl (show k < 8 by omega)) (And.intro (Or.inl rfl) ?_)
              refine Eq.mpr (congrArg (fun xq : Nat => At 85 [.ref (108), .int (nI f0), .int (nI q), .int (nI k), z4] [.ref xq] (wI τ 356 k (nI ((lf k) - 1))) 0 0) (rwE rfl (by omega))) ?_
              refine hAt 3 _ _ _ _ _ _ ?_
              refine And.intro (mx_e (q := 347) (n := 8) (k := 12) (j := k) (i := f0) rfl (by omega) (by omega) rfl) ?_
              refine Eq.mpr (congrArg (fun xq : Int32 => At 88 [.ref (108), .int (nI f0), .int (nI q), .int (nI k), z4] [.int xq, .int (nI f0), .ref (347 + 1 + k)] (wI τ 356 k (nI ((lf k) - 1))) 0 0) (show rI (wI τ 356 k (nI ((lf k) - 1))) (347 + 1 + k) (nI f0).toNatClampNeg = nI (g k f0) from (ldE rfl (by omega) (by rw [rI_wI, if_neg (by omega)]; exact (hw'.2.1 k f0 (by omega) hf0))))) ?_
              refine hAt 3 _ _ _ _ _ _ ?_
              refine And.intro (mx_e (q := 347) (n := 8) (k := 12) (j := k) (i := f0) rfl (by omega) (by omega) rfl) ?_
              refine Eq.mpr (congrArg (fun xq : Mem => At 91 [.ref (108), .int (nI f0), .int (nI q), .int (nI k), z4] [] xq 0 0) (wrE (σ := (wI τ 356 k (nI ((lf k) - 1)))) (q := 347 + 1 + k) (p := rfl) (hj := by omega) (h := (adE rfl rfl)))) ?_
              refine hAt 2 _ _ _ _ _ _ ?_
              refine And.intro (rfl) ?_
              refine hT _ (up2 g k f0 (g k f0 + 1)) (up1 lf k (lf k - 1)) sn' (fun a j h => ?_) t2 ((hw'.take hn).put hn c27) (fun f hf => ?_) ⟨hsn, fun k2 f hk3 hf => ?_, fun k2 hk3 => ?_, fun f hf => ?_, fun k2 _ => ?_, fun h hh z k2 => ?_, fun k2 => ?_, fun k2 hk3 => ?_⟩
              · rw [rI_wI, if_neg (by omega), rI_wI, if_neg (by omega)]; exact t1 a j (by omega)
              · rw [rI_wI, if_neg (by omega), rI_wI, if_neg (by omega)]; exact hs' f hf
              · unfold up2
                by_cases e : k2 = k ∧ f = f0
                · rw [if_pos e, e.1, e.2]; omega
                · rw [if_neg e]; exact hr k2 f hk3 hf
              · have r1 := up2_row (G := g) (a := k) (b := f0) (x := g k f0 + 1) (m := kT s 3) hf0 k2
                unfold up1
                by_cases e : k2 = k
                · rw [if_pos e, if_pos e] at r1; rw [if_pos e, e]; rw [e] at r1; omega
                · rw [if_neg e, if_neg e] at r1; rw [if_neg e]; omega
              · have r1 := up2_col (G := g) (a := k) (b := f0) (x := g k f0 + 1) (n := kT s 2) c27 f
                by_cases e : f = f0
                · rw [if_pos e, if_pos e] at r1; rw [if_pos e]; omega
                · rw [if_neg e, if_neg e] at r1; rw [if_neg e]; omega
              · unfold up1
                by_cases e : k2 = k
                · rw [if_pos e, e]; omega
                · rw [if_neg e]; exact Nat.le_refl _
              · have n1 : ¬ h = f0 := fun x => by rw [x, hsn] at z; cases z
                unfold up2
                rw [if_neg (fun x => n1 x.2)]
              · unfold up2
                by_cases e : k2 = k
                · rw [if_pos ⟨e, rfl⟩, e]; omega
                · rw [if_neg (fun x => e x.1)]; exact Nat.le_refl _
              · have e : ¬ k2 = k := fun z => hk3 (by rw [z]; omega)
                unfold up2 up1
                exact ⟨fun f => if_neg (fun x => e x.1), if_neg e⟩
          · have c54 : g k f0 = r k f0 := (eqN (a := g k f0) (b := r k f0) rfl rfl (by omega) (by omega)).mp hq
            clear hq
            refine hAt 3 _ _ _ _ _ _ ?_
            refine Eq.mpr (congrArg (fun xq : Int32 => At 20 [.ref (108), .int (nI f0), .int (nI q), .int xq, z4] [] τ 0 0) (show nI k + nI 1 = nI (k + 1) from (adE rfl rfl))) ?_
            exact next c27 (fun _ z => by omega) _
    refine hAt 4 _ _ _ _ _ _ ?_
    refine And.intro (aOKx (n := 12) (j := f0) rfl (by decide) rfl rfl (by omega) (by omega)) ?_
    refine Eq.mpr (congrArg (fun xq : Int32 => At 6 [.ref (108), .int (nI f0), .int (nI q), junk, junk] [.int xq] σ 0 0) (show rI σ 357 (nI f0).toNatClampNeg = bI (sn f0) from (ldE rfl (by omega) (hs f0 hf0)))) ?_
    refine hAt 1 _ _ _ _ _ _ ?_
    refine And.intro (fun hq => ?_) (fun hq => ?_)
    · have c6 : sn f0 = false := bI_eq hq
      clear hq
      refine hAt 5 _ _ _ _ _ _ ?_
      refine And.intro (aOKx (n := 12) (j := f0) rfl (by decide) rfl rfl (by omega) (by omega)) ?_
      refine Eq.mpr (congrArg (fun xq : Mem => At 18 [.ref (108), .int (nI f0), .int (nI q), junk, junk] [] xq 0 0) (wrB (σ := σ) (q := 357) (p := rfl) (hj := by omega) (b := true))) ?_
      refine hAt 2 _ _ _ _ _ _ ?_
      refine outer c6 0 (Nat.zero_le _) _ (upB sn f0) _ (fun a j h => ?_) rfl (fun f hf => ?_) (fun f hf z => ?_) (if_pos rfl) (fun h hh hne z1 z2 => ?_) (fun j hj => absurd hj (Nat.not_lt_zero j))
      · rw [rI_wI, if_neg (by omega)]
      · rw [rI_wI]
        unfold upB
        by_cases e : f = f0
        · rw [if_pos ⟨rfl, e⟩, if_pos e]
        · rw [if_neg (by omega), if_neg e]; exact hs f hf
      · unfold upB
        by_cases e : f = f0
        · rw [if_pos e]
        · rw [if_neg e]; exact z
      · unfold upB at z1
        rw [if_neg hne] at z1
        rw [z1] at z2; cases z2
    · have c6 : sn f0 = true := bI_ne hq
      clear hq
      refine hAt 2 _ _ _ _ _ _ ?_
      refine And.intro (rfl) ?_
      exact hFF σ sn (fun _ _ _ => rfl) rfl hs ⟨fun _ _ z => z, c6, fun h _ z y => by rw [z] at y; cases y⟩
end WM
