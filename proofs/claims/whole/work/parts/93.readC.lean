/-! READING A NUMBER, A WORD on the component's side -/
theorem wI_wI (σ : Mem) (a k : Nat) (x y : Int32) : wI (wI σ a k x) a k y = wI σ a k y := by
  refine Prod.ext (funext fun b => funext fun j => ?_) rfl
  show (if b = a ∧ j = k then y else if b = a ∧ j = k then x else σ.1 b j) = if b = a ∧ j = k then y else σ.1 b j
  by_cases h : b = a ∧ j = k
  · rw [if_pos h, if_pos h]
  · rw [if_neg h, if_neg h, if_neg h]
theorem wI_self {σ : Mem} {a k : Nat} {x : Int32} (h : rI σ a k = x) : wI σ a k x = σ := by
  refine Prod.ext (funext fun b => funext fun j => ?_) rfl
  show (if b = a ∧ j = k then x else σ.1 b j) = σ.1 b j
  by_cases e : b = a ∧ j = k
  · rw [if_pos e, ← h, e.1, e.2]; rfl
  · rw [if_neg e]
theorem chE {t : Nat} (h : t < 100) : (UInt32.ofNat t).toNat = t := by
  rw [UInt32.toNat_ofNat']; exact Nat.mod_eq_of_lt (by omega)
theorem vp_ch {x : Int32} {j a t : Nat} (p : x = nI j) (e : a = t) (h1 : j < (ow_ch t).length) (h2 : (ow_ch t).length < 2 ^ 31) : vp_in x (ow_ch a).length := by subst p; subst e; exact vp_in_nI h1 h2
theorem ch_g {x : Int32} {j a t : Nat} (p : x = nI j) (e : a = t) (h : j < 2 ^ 31) : nI ((ow_ch a).getD x.toNatClampNeg 0) = nI ((ow_ch t).getD j 0) := by subst e; rw [clE p h]
/-- the reader has these bytes -/
def rdB (b : By) (n : Nat) (σ : Mem) : Prop := rI σ 16 2 = nI n ∧ ∀ j, j < n → rI σ 2 j = nI (b j)
def plI (s : Ps) : Int32 := if s.2.1 = 0 then -1 else nI s.2.2
/-- .. and stands there -/
def rdC (b : By) (n : Nat) (s : Ps) (σ : Mem) : Prop := rdB b n σ ∧ (∃ a, a ≤ n ∧ rI σ 16 3 = nI a ∧ (s.2.1 = 0 → a = s.1)) ∧ (s.2.1 ≤ 4 ∧ rI σ 16 4 = nI s.2.1) ∧ rI σ 16 5 = plI s
theorem fr16 {σ τ : Mem} (h : ∀ a j, a ≠ 16 → rI τ a j = rI σ a j) (k : Nat) (x : Int32) : ∀ a j, a ≠ 16 → rI (wI τ 16 k x) a j = rI σ a j := fun a j q => by rw [rI_wI, if_neg (by omega)]; exact h a j q
theorem nm_1 {b : By} {n : Nat} {s : Ps} {lo : Nat} {hi : Int} (h0 : s.2.1 = 0) (h : nE b n s.1 = bS b n s.1) : nmS b n s lo hi = (nE b n s.1, 1, bS b n s.1) := by unfold nmS; rw [if_neg (by simpa using h0), if_pos h]
theorem nm_2 {b : By} {n : Nat} {s : Ps} {lo : Nat} {hi : Int} (h0 : s.2.1 = 0) (h : ¬ nE b n s.1 = bS b n s.1) (h2 : nV b n s.1 < lo ∨ hi < (nV b n s.1 : Int)) : nmS b n s lo hi = (nE b n s.1, 2, bS b n s.1) := by unfold nmS; rw [if_neg (by simpa using h0), if_neg h, if_pos h2]
theorem nm_0 {b : By} {n : Nat} {s : Ps} {lo : Nat} {hi : Int} (h0 : s.2.1 = 0) (h : ¬ nE b n s.1 = bS b n s.1) (h2 : ¬ (nV b n s.1 < lo ∨ hi < (nV b n s.1 : Int))) : nmS b n s lo hi = (nE b n s.1, 0, s.2.2) := by unfold nmS; rw [if_neg (by simpa using h0), if_neg h, if_neg h2]
theorem nmX_0 {b : By} {n : Nat} {s s' : Ps} {lo : Nat} {hi : Int} (h : nmS b n s lo hi = s') : nmX b n s lo hi = if s'.2.1 = 0 then nV b n s.1 else lo := by unfold nmX; rw [h]
section RDC
variable {w : Wd} {d : Nat} {σ : Mem} {b : By} {n : Nat} {P : Option AV → Mem → Prop} {X : Nat → Mem → Prop}
theorem s_skipBlanks {i : Nat} (hn : n ≤ 600) (hb : ∀ j, j < n → b j < 256) (hB : rdB b n σ) (h3 : rI σ 16 3 = nI i) (hi : i ≤ n) (hP : P none (wI σ 16 3 (nI (bS b n i)))) : Ret w true (d + 2) 0 0 m_SkyReader_skipBlanks [.ref 16] σ P X := by
  refine meth_ok k_SkyReader_skipBlanks q_SkyReader_skipBlanks rfl fun At hAt => ?_
  have loop : ∀ i, i ≤ n → P none (wI σ 16 3 (nI (bS b n i))) → At 0 [.ref 16] [] (wI σ 16 3 (nI i)) 0 0 := by
    refine upto fun i hi ih => ?_
    intro hp
    refine hAt 2 _ _ _ _ _ _ ?_
    refine Eq.mpr (congrArg (fun xq : Int32 => At 4 [.ref (16)] [.int xq] (wI σ 16 3 (nI i)) 0 0) (show rI (wI σ 16 3 (nI i)) 16 3 = nI i from (by rw [rI_wI, if_pos ⟨rfl, rfl⟩]))) ?_
    refine hAt 2 _ _ _ _ _ _ ?_
    refine Eq.mpr (congrArg (fun xq : Int32 => At 8 [.ref (16)] [.int xq, .int (nI i)] (wI σ 16 3 (nI i)) 0 0) (show rI (wI σ 16 3 (nI i)) 16 2 = nI n from (by rw [rI_wI, if_neg (by omega)]; exact hB.1))) ?_
    refine hAt 1 _ _ _ _ _ _ ?_
    refine And.intro (fun hq => ?_) (fun hq => ?_)
    · have c8 : n ≤ i := (leN (a := n) (b := i) rfl rfl (by omega) (by omega)).mp hq
      clear hq
      refine hAt 1 _ _ _ _ _ _ ?_
      rw [bS, pE_e (fun z => by omega)] at hp
      exact hp
    · have c8 : i < n := Nat.lt_of_not_le (fun zq => hq ((leN (a := n) (b := i) rfl rfl (by omega) (by omega)).mpr zq))
      clear hq
      have hb1 := hb i c8
      refine hAt 4 _ _ _ _ _ _ ?_
      refine Eq.mpr (congrArg (fun xq : Int32 => At 19 [.ref (16)] [.int xq, .ref (1)] (wI σ 16 3 (nI i)) 0 0) (show rI (wI σ 16 3 (nI i)) 16 3 = nI i from (by rw [rI_wI, if_pos ⟨rfl, rfl⟩]))) ?_
      refine hAt 1 _ _ _ _ _ _ ?_
      refine s_Row_get (a := 1) (na := 2) (n := 600) rfl (show i < 600 by omega) ?_
      refine Eq.mpr (congrArg (fun xq : Int32 => At 22 [.ref (16)] [.int xq] (wI σ 16 3 (nI i)) 0 0) (show rI (wI σ 16 3 (nI i)) 2 i = nI (b i) from (by rw [rI_wI, if_neg (by omega)]; exact (hB.2 i (by omega))))) ?_
      refine hAt 2 _ _ _ _ _ _ ?_
      refine And.intro (fun hq => ?_) (fun hq => ?_)
      · have c24 : ¬ b i = 32 := fun zq => hq ((eqN (a := b i) (b := 32) rfl rfl (by omega) (by omega)).mpr zq)
        clear hq
        refine hAt 1 _ _ _ _ _ _ ?_
        rw [bS, pE_e (fun z => c24 (of_decide_eq_true z.2))] at hp
        exact hp
      · have c24 : b i = 32 := (eqN (a := b i) (b := 32) rfl rfl (by omega) (by omega)).mp hq
        clear hq
        refine hAt 3 _ _ _ _ _ _ ?_
        refine Eq.mpr (congrArg (fun xq : Int32 => At 32 [.ref (16)] [.int xq, .ref (16)] (wI σ 16 3 (nI i)) 0 0) (show rI (wI σ 16 3 (nI i)) 16 3 = nI i from (by rw [rI_wI, if_pos ⟨rfl, rfl⟩]))) ?_
        refine hAt 3 _ _ _ _ _ _ ?_
        refine Eq.mpr (congrArg (fun xq : Mem => At 37 [.ref (16)] [] xq 0 0) (congrArg (fun z => wI (wI σ 16 3 (nI i)) 16 3 z) (adE rfl rfl))) ?_
        refine hAt 1 _ _ _ _ _ _ ?_
        have z := ih c8 (by rw [bS, pE_s c8 (decide_eq_true c24)] at hp; exact hp)
        rw [← wI_wI σ 16 3 (nI i) (nI (i + 1))] at z
        exact z
  have z := loop i hi hP
  rw [wI_self h3] at z
  exact z
theorem s_fail0 {k : Nat} {x : Int32} (h : rI σ 16 4 = nI 0) (hP : P none (wI (wI σ 16 4 (nI k)) 16 5 x)) : Ret w true (d + 1) 0 0 m_SkyReader_fail [.ref 16, .int (nI k), .int x] σ P X := by
  refine meth_ok k_SkyReader_fail q_SkyReader_fail rfl fun At hAt => ?_
  refine hAt 2 _ _ _ _ _ _ ?_
  refine Eq.mpr (congrArg (fun xq : Int32 => At 4 [.ref (16), .int (nI k), .int (x)] [.int xq] σ 0 0) (show rI σ 16 4 = nI 0 from h)) ?_
  refine hAt 1 _ _ _ _ _ _ ?_
  refine And.intro (fun hq => absurd hq (by decide)) (fun _ => ?_)
  refine hAt 7 _ _ _ _ _ _ ?_
  exact hP
theorem s_fail1 {k f : Nat} {x : Int32} (h : rI σ 16 4 = nI f) (hf : f ≠ 0 ∧ f ≤ 4) (hP : P none σ) : Ret w true (d + 1) 0 0 m_SkyReader_fail [.ref 16, .int (nI k), .int x] σ P X := by
  refine meth_ok k_SkyReader_fail q_SkyReader_fail rfl fun At hAt => ?_
  refine hAt 2 _ _ _ _ _ _ ?_
  refine Eq.mpr (congrArg (fun xq : Int32 => At 4 [.ref (16), .int (nI k), .int (x)] [.int xq] σ 0 0) (show rI σ 16 4 = nI f from h)) ?_
  refine hAt 1 _ _ _ _ _ _ ?_
  refine And.intro (fun hq => ?_) (fun hq => ?_)
  · have c4 : ¬ f = 0 := fun zq => hq ((eqN (a := f) (b := 0) rfl rfl (by omega) (by omega)).mpr zq)
    clear hq
    refine hAt 1 _ _ _ _ _ _ ?_
    exact hP
  · have c4 : f = 0 := (eqN (a := f) (b := 0) rfl rfl (by omega) (by omega)).mp hq
    clear hq
    exact absurd c4 (by omega)
theorem s_readNumber {s : Ps} {lo : Nat} {hi : Int} (hn : n ≤ 600) (hb : ∀ j, j < n → b j < 256) (hR : rdC b n s σ) (hlo : lo ≤ 1000) (hhi : -10 ≤ hi ∧ hi ≤ 1000) (hP : ∀ τ, (∀ a j, a ≠ 16 → rI τ a j = rI σ a j) → τ.2 = σ.2 → rdC b n (nmS b n s lo hi) τ → (s.2.1 = 0 → rI τ 16 6 = nI (bS b n s.1)) → P (some (.int (nI (nmX b n s lo hi)))) τ) : Ret w true (d + 3) 0 0 m_SkyReader_readNumber [.ref 16, .int (nI lo), .int (iZ hi)] σ P X := by
  obtain ⟨hB, ⟨a, ha, h3, h3'⟩, ⟨h4, h4'⟩, h5⟩ := hR
  refine meth_ok k_SkyReader_readNumber q_SkyReader_readNumber rfl fun At hAt => ?_
  by_cases h0 : s.2.1 = 0
  · obtain rfl : a = s.1 := h3' h0
    have b1 := pE_ge isBl b n s.1
    have b2 := pE_le isBl b n s.1 ha
    have fin : ∀ τ, (∀ a j, a ≠ 16 → rI τ a j = rI σ a j) → τ.2 = σ.2 → rI τ 16 2 = nI n → rI τ 16 3 = nI (nE b n s.1) → rI τ 16 4 = nI (nmS b n s lo hi).2.1 → rI τ 16 5 = plI (nmS b n s lo hi) → rI τ 16 6 = nI (bS b n s.1) → P (some (.int (nI (nmX b n s lo hi)))) τ := by
      intro τ t1 t2 t3 t4 t5 t6 t7
      have e1 : nE b n s.1 ≤ n := pE_le isDg b n _ b2
      have e2 : (nmS b n s lo hi).1 = nE b n s.1 ∧ (nmS b n s lo hi).2.1 ≤ 4 := by
        by_cases g1 : nE b n s.1 = bS b n s.1
        · rw [nm_1 h0 g1]; exact ⟨rfl, show 1 ≤ 4 by decide⟩
        · by_cases g2 : nV b n s.1 < lo ∨ hi < (nV b n s.1 : Int)
          · rw [nm_2 h0 g1 g2]; exact ⟨rfl, show 2 ≤ 4 by decide⟩
          · rw [nm_0 h0 g1 g2]; exact ⟨rfl, show 0 ≤ 4 by decide⟩
      exact hP τ t1 t2 ⟨⟨t3, fun j hj => (t1 2 j (by omega)).trans (hB.2 j hj)⟩, ⟨_, e1, t4, fun _ => e2.1.symm⟩, ⟨e2.2, t5⟩, t6⟩ (fun _ => t7)
    obtain ⟨i0, ei⟩ : ∃ i0, i0 = bS b n s.1 := ⟨_, rfl⟩
    obtain ⟨ρ, eρ⟩ : ∃ ρ, ρ = wI (wI σ 16 3 (nI i0)) 16 6 (nI i0) := ⟨_, rfl⟩
    have r1 : ∀ a j, a ≠ 16 → rI ρ a j = rI σ a j := by rw [eρ]; exact fr16 (fr16 (fun _ _ _ => rfl) _ _) _ _
    have r2 : ρ.2 = σ.2 := by rw [eρ]; rfl
    have r3 : rI ρ 16 2 = nI n := by rw [eρ]; exact hB.1
    have r4 : rI ρ 16 4 = nI 0 := by rw [eρ]; exact h4'.trans (congrArg nI h0)
    have r5 : rI ρ 16 5 = -1 := by rw [eρ]; exact h5.trans (if_pos h0)
    have r6 : rI ρ 16 6 = nI i0 := by rw [eρ]; rfl
    have hB2 : ∀ j, j < n → rI ρ 2 j = nI (b j) := fun j hj => (r1 2 j (by omega)).trans (hB.2 j hj)
    have hi0 : i0 ≤ n := by rw [ei]; exact b2
    have loop : ∀ k, k ≤ n - i0 → nE b n s.1 = pE isDg b n (i0 + k) → At 23 [.ref 16, .int (nI lo), .int (iZ hi), .int (nI (pV b i0 k))] [] (wI ρ 16 3 (nI (i0 + k))) 0 0 := by
      refine upto fun k hk ih => ?_
      intro hE
      have hv := pV_le b i0 k
      have out : ¬ (i0 + k < n ∧ isDg (b (i0 + k)) = true) → nE b n s.1 = i0 + k ∧ nV b n s.1 = pV b i0 k := fun q => by
        have e : nE b n s.1 = i0 + k := by rw [hE, pE_e q]
        refine ⟨e, ?_⟩
        unfold nV
        rw [e, ← ei, Nat.add_sub_cancel_left]
      have fin1 : i0 + k = i0 → nE b n s.1 = i0 + k → P (some (.int (nI lo))) (wI (wI (wI ρ 16 3 (nI (i0 + k))) 16 4 (nI 1)) 16 5 (nI (i0 + k))) := fun q e => by
        have g := nm_1 (b := b) (n := n) (lo := lo) (hi := hi) h0 (by omega)
        have z := fin (wI (wI (wI ρ 16 3 (nI (i0 + k))) 16 4 (nI 1)) 16 5 (nI (i0 + k))) (fr16 (fr16 (fr16 r1 _ _) _ _) _ _) r2 r3 (by rw [e]; rfl) (by rw [g]; rfl) (by rw [g, ← ei]; exact congrArg nI q) (by rw [← ei]; exact r6)
        rw [nmX_0 g] at z
        exact z
      have fin2 : ¬ i0 + k = i0 → nE b n s.1 = i0 + k ∧ nV b n s.1 = pV b i0 k → pV b i0 k < lo ∨ hi < (pV b i0 k : Int) → P (some (.int (nI lo))) (wI (wI (wI ρ 16 3 (nI (i0 + k))) 16 4 (nI 2)) 16 5 (nI i0)) := fun q e o => by
        have g := nm_2 (b := b) (n := n) (lo := lo) (hi := hi) h0 (by omega) (by rw [e.2]; exact o)
        have z := fin (wI (wI (wI ρ 16 3 (nI (i0 + k))) 16 4 (nI 2)) 16 5 (nI i0)) (fr16 (fr16 (fr16 r1 _ _) _ _) _ _) r2 r3 (by rw [e.1]; rfl) (by rw [g]; rfl) (by rw [g, ← ei]; rfl) (by rw [← ei]; exact r6)
        rw [nmX_0 g] at z
        exact z
      have fin3 : ¬ i0 + k = i0 → nE b n s.1 = i0 + k ∧ nV b n s.1 = pV b i0 k → ¬ (pV b i0 k < lo ∨ hi < (pV b i0 k : Int)) → P (some (.int (nI (pV b i0 k)))) (wI ρ 16 3 (nI (i0 + k))) := fun q e o => by
        have g := nm_0 (b := b) (n := n) (lo := lo) (hi := hi) h0 (by omega) (by rw [e.2]; exact o)
        have z := fin (wI ρ 16 3 (nI (i0 + k))) (fr16 r1 _ _) r2 r3 (by rw [e.1]; rfl) (by rw [g]; exact r4) (by rw [g]; exact r5) (by rw [← ei]; exact r6)
        rw [nmX_0 g, e.2] at z
        exact z
      refine hAt 2 _ _ _ _ _ _ ?_
      refine Eq.mpr (congrArg (fun xq : Int32 => At 27 [.ref (16), .int (nI lo), .int (iZ hi), .int (nI (pV b i0 k))] [.int xq] (wI ρ 16 3 (nI (i0 + k))) 0 0) (show rI (wI ρ 16 3 (nI (i0 + k))) 16 3 = nI (i0 + k) from (by rw [rI_wI, if_pos ⟨rfl, rfl⟩]))) ?_
      refine hAt 2 _ _ _ _ _ _ ?_
      refine Eq.mpr (congrArg (fun xq : Int32 => At 31 [.ref (16), .int (nI lo), .int (iZ hi), .int (nI (pV b i0 k))] [.int xq, .int (nI (i0 + k))] (wI ρ 16 3 (nI (i0 + k))) 0 0) (show rI (wI ρ 16 3 (nI (i0 + k))) 16 2 = nI n from (by rw [rI_wI, if_neg (by omega)]; exact r3))) ?_
      refine hAt 1 _ _ _ _ _ _ ?_
      refine And.intro (fun hq => ?_) (fun hq => ?_)
      · have c31 : n ≤ i0 + k := (leN (a := n) (b := i0 + k) rfl rfl (by omega) (by omega)).mp hq
        clear hq
        have o := out (fun z => by omega)
        refine hAt 2 _ _ _ _ _ _ ?_
        refine Eq.mpr (congrArg (fun xq : Int32 => At 108 [.ref (16), .int (nI lo), .int (iZ hi), .int (nI (pV b i0 k))] [.int xq] (wI ρ 16 3 (nI (i0 + k))) 0 0) (show rI (wI ρ 16 3 (nI (i0 + k))) 16 3 = nI (i0 + k) from (by rw [rI_wI, if_pos ⟨rfl, rfl⟩]))) ?_
        refine hAt 2 _ _ _ _ _ _ ?_
        refine Eq.mpr (congrArg (fun xq : Int32 => At 112 [.ref (16), .int (nI lo), .int (iZ hi), .int (nI (pV b i0 k))] [.int xq, .int (nI (i0 + k))] (wI ρ 16 3 (nI (i0 + k))) 0 0) (show rI (wI ρ 16 3 (nI (i0 + k))) 16 6 = nI i0 from (by rw [rI_wI, if_neg (by omega)]; exact r6))) ?_
        refine hAt 1 _ _ _ _ _ _ ?_
        refine And.intro (fun hq => ?_) (fun hq => ?_)
        · have c112 : ¬ i0 + k = i0 := fun zq => hq ((eqN (a := i0 + k) (b := i0) rfl rfl (by omega) (by omega)).mpr zq)
          clear hq
          refine hAt 3 _ _ _ _ _ _ ?_
          refine And.intro (fun hq => ?_) (fun hq => ?_)
          · have c129 : pV b i0 k < lo := (ltN (a := pV b i0 k) (b := lo) rfl rfl (by omega) (by omega)).mp hq
            clear hq
            refine hAt 4 _ _ _ _ _ _ ?_
            refine Eq.mpr (congrArg (fun xq : Int32 => At 143 [.ref (16), .int (nI lo), .int (iZ hi), .int (nI (pV b i0 k))] [.int xq, .int (nI 2), .ref (16)] (wI ρ 16 3 (nI (i0 + k))) 0 0) (show rI (wI ρ 16 3 (nI (i0 + k))) 16 6 = nI i0 from (by rw [rI_wI, if_neg (by omega)]; exact r6))) ?_
            refine hAt 3 _ _ _ _ _ _ ?_
            refine s_fail0 (by rw [rI_wI, if_neg (by omega)]; exact r4) ?_
            refine Eq.mpr (congrArg (fun xq : Int32 => At 150 [.ref (16), .int (nI lo), .int (iZ hi), .int (nI (pV b i0 k))] [.int xq] (wI (wI (wI ρ 16 3 (nI (i0 + k))) 16 4 (nI 2)) 16 5 (nI i0)) 0 0) (show rI (wI (wI (wI ρ 16 3 (nI (i0 + k))) 16 4 (nI 2)) 16 5 (nI i0)) 16 4 = nI 2 from (by rw [rI_wI, if_neg (by omega), rI_wI, if_pos ⟨rfl, rfl⟩]))) ?_
            refine hAt 1 _ _ _ _ _ _ ?_
            refine And.intro (fun _ => ?_) (fun hq => absurd hq (by decide))
            refine hAt 2 _ _ _ _ _ _ ?_
            exact fin2 (by omega) o (Or.inl (by omega))
          · have c129 : lo ≤ pV b i0 k := Nat.le_of_not_lt (fun zq => hq ((ltN (a := pV b i0 k) (b := lo) rfl rfl (by omega) (by omega)).mpr zq))
            clear hq
            refine hAt 3 _ _ _ _ _ _ ?_
            refine And.intro (fun hq => ?_) (fun hq => ?_)
            · have c134 : ((pV b i0 k : Nat) : Int) ≤ hi := (leZ (a := ((pV b i0 k : Nat) : Int)) (b := hi) (ntZ rfl) rfl (by omega) (by omega) (by omega) (by omega)).mp hq
              clear hq
              refine hAt 2 _ _ _ _ _ _ ?_
              refine Eq.mpr (congrArg (fun xq : Int32 => At 150 [.ref (16), .int (nI lo), .int (iZ hi), .int (nI (pV b i0 k))] [.int xq] (wI ρ 16 3 (nI (i0 + k))) 0 0) (show rI (wI ρ 16 3 (nI (i0 + k))) 16 4 = nI 0 from (by rw [rI_wI, if_neg (by omega)]; exact r4))) ?_
              refine hAt 1 _ _ _ _ _ _ ?_
              refine And.intro (fun hq => absurd hq (by decide)) (fun _ => ?_)
              refine hAt 3 _ _ _ _ _ _ ?_
              exact fin3 (by omega) o (by omega)
            · have c134 : (hi : Int) < ((pV b i0 k : Nat) : Int) := Int.not_le.mp (fun zq => hq ((leZ (a := ((pV b i0 k : Nat) : Int)) (b := hi) (ntZ rfl) rfl (by omega) (by omega) (by omega) (by omega)).mpr zq))
              clear hq
              refine hAt 4 _ _ _ _ _ _ ?_
              refine Eq.mpr (congrArg (fun xq : Int32 => At 143 [.ref (16), .int (nI lo), .int (iZ hi), .int (nI (pV b i0 k))] [.int xq, .int (nI 2), .ref (16)] (wI ρ 16 3 (nI (i0 + k))) 0 0) (show rI (wI ρ 16 3 (nI (i0 + k))) 16 6 = nI i0 from (by rw [rI_wI, if_neg (by omega)]; exact r6))) ?_
              refine hAt 3 _ _ _ _ _ _ ?_
              refine s_fail0 (by rw [rI_wI, if_neg (by omega)]; exact r4) ?_
              refine Eq.mpr (congrArg (fun xq : Int32 => At 150 [.ref (16), .int (nI lo), .int (iZ hi), .int (nI (pV b i0 k))] [.int xq] (wI (wI (wI ρ 16 3 (nI (i0 + k))) 16 4 (nI 2)) 16 5 (nI i0)) 0 0) (show rI (wI (wI (wI ρ 16 3 (nI (i0 + k))) 16 4 (nI 2)) 16 5 (nI i0)) 16 4 = nI 2 from (by rw [rI_wI, if_neg (by omega), rI_wI, if_pos ⟨rfl, rfl⟩]))) ?_
              refine hAt 1 _ _ _ _ _ _ ?_
              refine And.intro (fun _ => ?_) (fun hq => absurd hq (by decide))
              refine hAt 2 _ _ _ _ _ _ ?_
              exact fin2 (by omega) o (Or.inr (by omega))
        · have c112 : i0 + k = i0 := (eqN (a := i0 + k) (b := i0) rfl rfl (by omega) (by omega)).mp hq
          clear hq
          refine hAt 4 _ _ _ _ _ _ ?_
          refine Eq.mpr (congrArg (fun xq : Int32 => At 121 [.ref (16), .int (nI lo), .int (iZ hi), .int (nI (pV b i0 k))] [.int xq, .int (nI 1), .ref (16)] (wI ρ 16 3 (nI (i0 + k))) 0 0) (show rI (wI ρ 16 3 (nI (i0 + k))) 16 3 = nI (i0 + k) from (by rw [rI_wI, if_pos ⟨rfl, rfl⟩]))) ?_
          refine hAt 4 _ _ _ _ _ _ ?_
          refine s_fail0 (by rw [rI_wI, if_neg (by omega)]; exact r4) ?_
          refine Eq.mpr (congrArg (fun xq : Int32 => At 150 [.ref (16), .int (nI lo), .int (iZ hi), .int (nI (pV b i0 k))] [.int xq] (wI (wI (wI ρ 16 3 (nI (i0 + k))) 16 4 (nI 1)) 16 5 (nI (i0 + k))) 0 0) (show rI (wI (wI (wI ρ 16 3 (nI (i0 + k))) 16 4 (nI 1)) 16 5 (nI (i0 + k))) 16 4 = nI 1 from (by rw [rI_wI, if_neg (by omega), rI_wI, if_pos ⟨rfl, rfl⟩]))) ?_
          refine hAt 1 _ _ _ _ _ _ ?_
          refine And.intro (fun _ => ?_) (fun hq => absurd hq (by decide))
          refine hAt 2 _ _ _ _ _ _ ?_
          exact fin1 (by omega) o.1
      · have c31 : i0 + k < n := Nat.lt_of_not_le (fun zq => hq ((leN (a := n) (b := i0 + k) rfl rfl (by omega) (by omega)).mpr zq))
        clear hq
        have hb1 := hb (i0 + k) c31
        refine hAt 4 _ _ _ _ _ _ ?_
        refine Eq.mpr (congrArg (fun xq : Int32 => At 42 [.ref (16), .int (nI lo), .int (iZ hi), .int (nI (pV b i0 k))] [.int xq, .ref (1)] (wI ρ 16 3 (nI (i0 + k))) 0 0) (show rI (wI ρ 16 3 (nI (i0 + k))) 16 3 = nI (i0 + k) from (by rw [rI_wI, if_pos ⟨rfl, rfl⟩]))) ?_
        refine hAt 1 _ _ _ _ _ _ ?_
        refine s_Row_get (a := 1) (na := 2) (n := 600) rfl (show i0 + k < 600 by omega) ?_
        refine Eq.mpr (congrArg (fun xq : Int32 => At 45 [.ref (16), .int (nI lo), .int (iZ hi), .int (nI (pV b i0 k))] [.int xq] (wI ρ 16 3 (nI (i0 + k))) 0 0) (show rI (wI ρ 16 3 (nI (i0 + k))) 2 (i0 + k) = nI (b (i0 + k)) from (by rw [rI_wI, if_neg (by omega)]; exact (hB2 (i0 + k) (by omega))))) ?_
        refine hAt 2 _ _ _ _ _ _ ?_
        refine And.intro (fun hq => ?_) (fun hq => ?_)
        · have c47 : b (i0 + k) < 48 := (ltN (a := b (i0 + k)) (b := 48) rfl rfl (by omega) (by omega)).mp hq
          clear hq
          have o := out (fun z => by have := of_decide_eq_true z.2; omega)
          refine hAt 2 _ _ _ _ _ _ ?_
          refine Eq.mpr (congrArg (fun xq : Int32 => At 108 [.ref (16), .int (nI lo), .int (iZ hi), .int (nI (pV b i0 k))] [.int xq] (wI ρ 16 3 (nI (i0 + k))) 0 0) (show rI (wI ρ 16 3 (nI (i0 + k))) 16 3 = nI (i0 + k) from (by rw [rI_wI, if_pos ⟨rfl, rfl⟩]))) ?_
          refine hAt 2 _ _ _ _ _ _ ?_
          refine Eq.mpr (congrArg (fun xq : Int32 => At 112 [.ref (16), .int (nI lo), .int (iZ hi), .int (nI (pV b i0 k))] [.int xq, .int (nI (i0 + k))] (wI ρ 16 3 (nI (i0 + k))) 0 0) (show rI (wI ρ 16 3 (nI (i0 + k))) 16 6 = nI i0 from (by rw [rI_wI, if_neg (by omega)]; exact r6))) ?_
          refine hAt 1 _ _ _ _ _ _ ?_
          refine And.intro (fun hq => ?_) (fun hq => ?_)
          · have c112 : ¬ i0 + k = i0 := fun zq => hq ((eqN (a := i0 + k) (b := i0) rfl rfl (by omega) (by omega)).mpr zq)
            clear hq
            refine hAt 3 _ _ _ _ _ _ ?_
            refine And.intro (fun hq => ?_) (fun hq => ?_)
            · have c129 : pV b i0 k < lo := (ltN (a := pV b i0 k) (b := lo) rfl rfl (by omega) (by omega)).mp hq
              clear hq
              refine hAt 4 _ _ _ _ _ _ ?_
              refine Eq.mpr (congrArg (fun xq : Int32 => At 143 [.ref (16), .int (nI lo), .int (iZ hi), .int (nI (pV b i0 k))] [.int xq, .int (nI 2), .ref (16)] (wI ρ 16 3 (nI (i0 + k))) 0 0) (show rI (wI ρ 16 3 (nI (i0 + k))) 16 6 = nI i0 from (by rw [rI_wI, if_neg (by omega)]; exact r6))) ?_
              refine hAt 3 _ _ _ _ _ _ ?_
              refine s_fail0 (by rw [rI_wI, if_neg (by omega)]; exact r4) ?_
              refine Eq.mpr (congrArg (fun xq : Int32 => At 150 [.ref (16), .int (nI lo), .int (iZ hi), .int (nI (pV b i0 k))] [.int xq] (wI (wI (wI ρ 16 3 (nI (i0 + k))) 16 4 (nI 2)) 16 5 (nI i0)) 0 0) (show rI (wI (wI (wI ρ 16 3 (nI (i0 + k))) 16 4 (nI 2)) 16 5 (nI i0)) 16 4 = nI 2 from (by rw [rI_wI, if_neg (by omega), rI_wI, if_pos ⟨rfl, rfl⟩]))) ?_
              refine hAt 1 _ _ _ _ _ _ ?_
              refine And.intro (fun _ => ?_) (fun hq => absurd hq (by decide))
              refine hAt 2 _ _ _ _ _ _ ?_
              exact fin2 (by omega) o (Or.inl (by omega))
            · have c129 : lo ≤ pV b i0 k := Nat.le_of_not_lt (fun zq => hq ((ltN (a := pV b i0 k) (b := lo) rfl rfl (by omega) (by omega)).mpr zq))
              clear hq
              refine hAt 3 _ _ _ _ _ _ ?_
              refine And.intro (fun hq => ?_) (fun hq => ?_)
              · have c134 : ((pV b i0 k : Nat) : Int) ≤ hi := (leZ (a := ((pV b i0 k : Nat) : Int)) (b := hi) (ntZ rfl) rfl (by omega) (by omega) (by omega) (by omega)).mp hq
                clear hq
                refine hAt 2 _ _ _ _ _ _ ?_
                refine Eq.mpr (congrArg (fun xq : Int32 => At 150 [.ref (16), .int (nI lo), .int (iZ hi), .int (nI (pV b i0 k))] [.int xq] (wI ρ 16 3 (nI (i0 + k))) 0 0) (show rI (wI ρ 16 3 (nI (i0 + k))) 16 4 = nI 0 from (by rw [rI_wI, if_neg (by omega)]; exact r4))) ?_
                refine hAt 1 _ _ _ _ _ _ ?_
                refine And.intro (fun hq => absurd hq (by decide)) (fun _ => ?_)
                refine hAt 3 _ _ _ _ _ _ ?_
                exact fin3 (by omega) o (by omega)
              · have c134 : (hi : Int) < ((pV b i0 k : Nat) : Int) := Int.not_le.mp (fun zq => hq ((leZ (a := ((pV b i0 k : Nat) : Int)) (b := hi) (ntZ rfl) rfl (by omega) (by omega) (by omega) (by omega)).mpr zq))
                clear hq
                refine hAt 4 _ _ _ _ _ _ ?_
                refine Eq.mpr (congrArg (fun xq : Int32 => At 143 [.ref (16), .int (nI lo), .int (iZ hi), .int (nI (pV b i0 k))] [.int xq, .int (nI 2), .ref (16)] (wI ρ 16 3 (nI (i0 + k))) 0 0) (show rI (wI ρ 16 3 (nI (i0 + k))) 16 6 = nI i0 from (by rw [rI_wI, if_neg (by omega)]; exact r6))) ?_
                refine hAt 3 _ _ _ _ _ _ ?_
                refine s_fail0 (by rw [rI_wI, if_neg (by omega)]; exact r4) ?_
                refine Eq.mpr (congrArg (fun xq : Int32 => At 150 [.ref (16), .int (nI lo), .int (iZ hi), .int (nI (pV b i0 k))] [.int xq] (wI (wI (wI ρ 16 3 (nI (i0 + k))) 16 4 (nI 2)) 16 5 (nI i0)) 0 0) (show rI (wI (wI (wI ρ 16 3 (nI (i0 + k))) 16 4 (nI 2)) 16 5 (nI i0)) 16 4 = nI 2 from (by rw [rI_wI, if_neg (by omega), rI_wI, if_pos ⟨rfl, rfl⟩]))) ?_
                refine hAt 1 _ _ _ _ _ _ ?_
                refine And.intro (fun _ => ?_) (fun hq => absurd hq (by decide))
                refine hAt 2 _ _ _ _ _ _ ?_
                exact fin2 (by omega) o (Or.inr (by omega))
          · have c112 : i0 + k = i0 := (eqN (a := i0 + k) (b := i0) rfl rfl (by omega) (by omega)).mp hq
            clear hq
            refine hAt 4 _ _ _ _ _ _ ?_
            refine Eq.mpr (congrArg (fun xq : Int32 => At 121 [.ref (16), .int (nI lo), .int (iZ hi), .int (nI (pV b i0 k))] [.int xq, .int (nI 1), .ref (16)] (wI ρ 16 3 (nI (i0 + k))) 0 0) (show rI (wI ρ 16 3 (nI (i0 + k))) 16 3 = nI (i0 + k) from (by rw [rI_wI, if_pos ⟨rfl, rfl⟩]))) ?_
            refine hAt 4 _ _ _ _ _ _ ?_
            refine s_fail0 (by rw [rI_wI, if_neg (by omega)]; exact r4) ?_
            refine Eq.mpr (congrArg (fun xq : Int32 => At 150 [.ref (16), .int (nI lo), .int (iZ hi), .int (nI (pV b i0 k))] [.int xq] (wI (wI (wI ρ 16 3 (nI (i0 + k))) 16 4 (nI 1)) 16 5 (nI (i0 + k))) 0 0) (show rI (wI (wI (wI ρ 16 3 (nI (i0 + k))) 16 4 (nI 1)) 16 5 (nI (i0 + k))) 16 4 = nI 1 from (by rw [rI_wI, if_neg (by omega), rI_wI, if_pos ⟨rfl, rfl⟩]))) ?_
            refine hAt 1 _ _ _ _ _ _ ?_
            refine And.intro (fun _ => ?_) (fun hq => absurd hq (by decide))
            refine hAt 2 _ _ _ _ _ _ ?_
            exact fin1 (by omega) o.1
        · have c47 : 48 ≤ b (i0 + k) := Nat.le_of_not_lt (fun zq => hq ((ltN (a := b (i0 + k)) (b := 48) rfl rfl (by omega) (by omega)).mpr zq))
          clear hq
          refine hAt 4 _ _ _ _ _ _ ?_
          refine Eq.mpr (congrArg (fun xq : Int32 => At 58 [.ref (16), .int (nI lo), .int (iZ hi), .int (nI (pV b i0 k))] [.int xq, .ref (1)] (wI ρ 16 3 (nI (i0 + k))) 0 0) (show rI (wI ρ 16 3 (nI (i0 + k))) 16 3 = nI (i0 + k) from (by rw [rI_wI, if_pos ⟨rfl, rfl⟩]))) ?_
          refine hAt 1 _ _ _ _ _ _ ?_
          refine s_Row_get (a := 1) (na := 2) (n := 600) rfl (show i0 + k < 600 by omega) ?_
          refine Eq.mpr (congrArg (fun xq : Int32 => At 61 [.ref (16), .int (nI lo), .int (iZ hi), .int (nI (pV b i0 k))] [.int xq] (wI ρ 16 3 (nI (i0 + k))) 0 0) (show rI (wI ρ 16 3 (nI (i0 + k))) 2 (i0 + k) = nI (b (i0 + k)) from (by rw [rI_wI, if_neg (by omega)]; exact (hB2 (i0 + k) (by omega))))) ?_
          refine hAt 2 _ _ _ _ _ _ ?_
          refine And.intro (fun hq => ?_) (fun hq => ?_)
          · have c63 : 57 < b (i0 + k) := (ltN (a := 57) (b := b (i0 + k)) rfl rfl (by omega) (by omega)).mp hq
            clear hq
            have o := out (fun z => by have := of_decide_eq_true z.2; omega)
            refine hAt 2 _ _ _ _ _ _ ?_
            refine Eq.mpr (congrArg (fun xq : Int32 => At 108 [.ref (16), .int (nI lo), .int (iZ hi), .int (nI (pV b i0 k))] [.int xq] (wI ρ 16 3 (nI (i0 + k))) 0 0) (show rI (wI ρ 16 3 (nI (i0 + k))) 16 3 = nI (i0 + k) from (by rw [rI_wI, if_pos ⟨rfl, rfl⟩]))) ?_
            refine hAt 2 _ _ _ _ _ _ ?_
            refine Eq.mpr (congrArg (fun xq : Int32 => At 112 [.ref (16), .int (nI lo), .int (iZ hi), .int (nI (pV b i0 k))] [.int xq, .int (nI (i0 + k))] (wI ρ 16 3 (nI (i0 + k))) 0 0) (show rI (wI ρ 16 3 (nI (i0 + k))) 16 6 = nI i0 from (by rw [rI_wI, if_neg (by omega)]; exact r6))) ?_
            refine hAt 1 _ _ _ _ _ _ ?_
            refine And.intro (fun hq => ?_) (fun hq => ?_)
            · have c112 : ¬ i0 + k = i0 := fun zq => hq ((eqN (a := i0 + k) (b := i0) rfl rfl (by omega) (by omega)).mpr zq)
              clear hq
              refine hAt 3 _ _ _ _ _ _ ?_
              refine And.intro (fun hq => ?_) (fun hq => ?_)
              · have c129 : pV b i0 k < lo := (ltN (a := pV b i0 k) (b := lo) rfl rfl (by omega) (by omega)).mp hq
                clear hq
                refine hAt 4 _ _ _ _ _ _ ?_
                refine Eq.mpr (congrArg (fun xq : Int32 => At 143 [.ref (16), .int (nI lo), .int (iZ hi), .int (nI (pV b i0 k))] [.int xq, .int (nI 2), .ref (16)] (wI ρ 16 3 (nI (i0 + k))) 0 0) (show rI (wI ρ 16 3 (nI (i0 + k))) 16 6 = nI i0 from (by rw [rI_wI, if_neg (by omega)]; exact r6))) ?_
                refine hAt 3 _ _ _ _ _ _ ?_
                refine s_fail0 (by rw [rI_wI, if_neg (by omega)]; exact r4) ?_
                refine Eq.mpr (congrArg (fun xq : Int32 => At 150 [.ref (16), .int (nI lo), .int (iZ hi), .int (nI (pV b i0 k))] [.int xq] (wI (wI (wI ρ 16 3 (nI (i0 + k))) 16 4 (nI 2)) 16 5 (nI i0)) 0 0) (show rI (wI (wI (wI ρ 16 3 (nI (i0 + k))) 16 4 (nI 2)) 16 5 (nI i0)) 16 4 = nI 2 from (by rw [rI_wI, if_neg (by omega), rI_wI, if_pos ⟨rfl, rfl⟩]))) ?_
                refine hAt 1 _ _ _ _ _ _ ?_
                refine And.intro (fun _ => ?_) (fun hq => absurd hq (by decide))
                refine hAt 2 _ _ _ _ _ _ ?_
                exact fin2 (by omega) o (Or.inl (by omega))
              · have c129 : lo ≤ pV b i0 k := Nat.le_of_not_lt (fun zq => hq ((ltN (a := pV b i0 k) (b := lo) rfl rfl (by omega) (by omega)).mpr zq))
                clear hq
                refine hAt 3 _ _ _ _ _ _ ?_
                refine And.intro (fun hq => ?_) (fun hq => ?_)
                · have c134 : ((pV b i0 k : Nat) : Int) ≤ hi := (leZ (a := ((pV b i0 k : Nat) : Int)) (b := hi) (ntZ rfl) rfl (by omega) (by omega) (by omega) (by omega)).mp hq
                  clear hq
                  refine hAt 2 _ _ _ _ _ _ ?_
                  refine Eq.mpr (congrArg (fun xq : Int32 => At 150 [.ref (16), .int (nI lo), .int (iZ hi), .int (nI (pV b i0 k))] [.int xq] (wI ρ 16 3 (nI (i0 + k))) 0 0) (show rI (wI ρ 16 3 (nI (i0 + k))) 16 4 = nI 0 from (by rw [rI_wI, if_neg (by omega)]; exact r4))) ?_
                  refine hAt 1 _ _ _ _ _ _ ?_
                  refine And.intro (fun hq => absurd hq (by decide)) (fun _ => ?_)
                  refine hAt 3 _ _ _ _ _ _ ?_
                  exact fin3 (by omega) o (by omega)
                · have c134 : (hi : Int) < ((pV b i0 k : Nat) : Int) := Int.not_le.mp (fun zq => hq ((leZ (a := ((pV b i0 k : Nat) : Int)) (b := hi) (ntZ rfl) rfl (by omega) (by omega) (by omega) (by omega)).mpr zq))
                  clear hq
                  refine hAt 4 _ _ _ _ _ _ ?_
                  refine Eq.mpr (congrArg (fun xq : Int32 => At 143 [.ref (16), .int (nI lo), .int (iZ hi), .int (nI (pV b i0 k))] [.int xq, .int (nI 2), .ref (16)] (wI ρ 16 3 (nI (i0 + k))) 0 0) (show rI (wI ρ 16 3 (nI (i0 + k))) 16 6 = nI i0 from (by rw [rI_wI, if_neg (by omega)]; exact r6))) ?_
                  refine hAt 3 _ _ _ _ _ _ ?_
                  refine s_fail0 (by rw [rI_wI, if_neg (by omega)]; exact r4) ?_
                  refine Eq.mpr (congrArg (fun xq : Int32 => At 150 [.ref (16), .int (nI lo), .int (iZ hi), .int (nI (pV b i0 k))] [.int xq] (wI (wI (wI ρ 16 3 (nI (i0 + k))) 16 4 (nI 2)) 16 5 (nI i0)) 0 0) (show rI (wI (wI (wI ρ 16 3 (nI (i0 + k))) 16 4 (nI 2)) 16 5 (nI i0)) 16 4 = nI 2 from (by rw [rI_wI, if_neg (by omega), rI_wI, if_pos ⟨rfl, rfl⟩]))) ?_
                  refine hAt 1 _ _ _ _ _ _ ?_
                  refine And.intro (fun _ => ?_) (fun hq => absurd hq (by decide))
                  refine hAt 2 _ _ _ _ _ _ ?_
                  exact fin2 (by omega) o (Or.inr (by omega))
            · have c112 : i0 + k = i0 := (eqN (a := i0 + k) (b := i0) rfl rfl (by omega) (by omega)).mp hq
              clear hq
              refine hAt 4 _ _ _ _ _ _ ?_
              refine Eq.mpr (congrArg (fun xq : Int32 => At 121 [.ref (16), .int (nI lo), .int (iZ hi), .int (nI (pV b i0 k))] [.int xq, .int (nI 1), .ref (16)] (wI ρ 16 3 (nI (i0 + k))) 0 0) (show rI (wI ρ 16 3 (nI (i0 + k))) 16 3 = nI (i0 + k) from (by rw [rI_wI, if_pos ⟨rfl, rfl⟩]))) ?_
              refine hAt 4 _ _ _ _ _ _ ?_
              refine s_fail0 (by rw [rI_wI, if_neg (by omega)]; exact r4) ?_
              refine Eq.mpr (congrArg (fun xq : Int32 => At 150 [.ref (16), .int (nI lo), .int (iZ hi), .int (nI (pV b i0 k))] [.int xq] (wI (wI (wI ρ 16 3 (nI (i0 + k))) 16 4 (nI 1)) 16 5 (nI (i0 + k))) 0 0) (show rI (wI (wI (wI ρ 16 3 (nI (i0 + k))) 16 4 (nI 1)) 16 5 (nI (i0 + k))) 16 4 = nI 1 from (by rw [rI_wI, if_neg (by omega), rI_wI, if_pos ⟨rfl, rfl⟩]))) ?_
              refine hAt 1 _ _ _ _ _ _ ?_
              refine And.intro (fun _ => ?_) (fun hq => absurd hq (by decide))
              refine hAt 2 _ _ _ _ _ _ ?_
              exact fin1 (by omega) o.1
          · have c63 : b (i0 + k) ≤ 57 := Nat.le_of_not_lt (fun zq => hq ((ltN (a := 57) (b := b (i0 + k)) rfl rfl (by omega) (by omega)).mpr zq))
            clear hq
            refine hAt 7 _ _ _ _ _ _ ?_
            refine Eq.mpr (congrArg (fun xq : Int32 => At 78 [.ref (16), .int (nI lo), .int (iZ hi), .int (nI (pV b i0 k))] [.int xq, .ref (1), .int (nI 10 * (nI (pV b i0 k)))] (wI ρ 16 3 (nI (i0 + k))) 0 0) (show rI (wI ρ 16 3 (nI (i0 + k))) 16 3 = nI (i0 + k) from (by rw [rI_wI, if_pos ⟨rfl, rfl⟩]))) ?_
            refine hAt 1 _ _ _ _ _ _ ?_
            refine s_Row_get (a := 1) (na := 2) (n := 600) rfl (show i0 + k < 600 by omega) ?_
            refine Eq.mpr (congrArg (fun xq : Int32 => At 81 [.ref (16), .int (nI lo), .int (iZ hi), .int (nI (pV b i0 k))] [.int xq, .int (nI 10 * (nI (pV b i0 k)))] (wI ρ 16 3 (nI (i0 + k))) 0 0) (show rI (wI ρ 16 3 (nI (i0 + k))) 2 (i0 + k) = nI (b (i0 + k)) from (by rw [rI_wI, if_neg (by omega)]; exact (hB2 (i0 + k) (by omega))))) ?_
            refine hAt 9 _ _ _ _ _ _ ?_
            refine Eq.mpr (congrArg (fun xq : Int32 => At 96 [.ref (16), .int (nI lo), .int (iZ hi), .int ((if (nI 100000) < (((nI 10 * (nI (pV b i0 k))) + (nI (b (i0 + k)))) - nI 48) then (nI 100000) else (((nI 10 * (nI (pV b i0 k))) + (nI (b (i0 + k)))) - nI 48)))] [.int xq, .ref (16)] (wI ρ 16 3 (nI (i0 + k))) 0 0) (show rI (wI ρ 16 3 (nI (i0 + k))) 16 3 = nI (i0 + k) from (by rw [rI_wI, if_pos ⟨rfl, rfl⟩]))) ?_
            refine hAt 3 _ _ _ _ _ _ ?_
            refine Eq.mpr (congrArg (fun xq : Mem => At 101 [.ref (16), .int (nI lo), .int (iZ hi), .int ((if (nI 100000) < (((nI 10 * (nI (pV b i0 k))) + (nI (b (i0 + k)))) - nI 48) then (nI 100000) else (((nI 10 * (nI (pV b i0 k))) + (nI (b (i0 + k)))) - nI 48)))] [] xq 0 0) (congrArg (fun z => wI (wI ρ 16 3 (nI (i0 + k))) 16 3 z) (adE rfl rfl))) ?_
            refine hAt 1 _ _ _ _ _ _ ?_
            refine Eq.mpr (congrArg (fun xq : Int32 => At 23 [.ref (16), .int (nI lo), .int (iZ hi), .int xq] [] (wI (wI ρ 16 3 (nI (i0 + k))) 16 3 (nI (i0 + k + 1))) 0 0) (show (if (nI 100000) < (((nI 10 * (nI (pV b i0 k))) + (nI (b (i0 + k)))) - nI 48) then (nI 100000) else (((nI 10 * (nI (pV b i0 k))) + (nI (b (i0 + k)))) - nI 48)) = nI (min ((10 * (pV b i0 k) + (b (i0 + k))) - 48) 100000) from (minE (sbE (adE (mlE rfl rfl) rfl) rfl (by omega)) rfl (by omega) (by omega)))) ?_
            have z := ih (by omega) (by rw [hE, pE_s c31 (decide_eq_true ⟨c47, c63⟩)]; rfl)
            rw [← wI_wI ρ 16 3 (nI (i0 + k)) (nI (i0 + (k + 1))), show pV b i0 (k + 1) = min (10 * pV b i0 k + b (i0 + k) - 48) 100000 by rw [pV, Nat.add_sub_assoc c47]] at z
            exact z
    refine hAt 2 _ _ _ _ _ _ ?_
    refine Eq.mpr (congrArg (fun xq : Int32 => At 4 [.ref (16), .int (nI lo), .int (iZ hi), junk] [.int xq] σ 0 0) (show rI σ 16 4 = nI 0 from (h4'.trans (congrArg nI h0)))) ?_
    refine hAt 1 _ _ _ _ _ _ ?_
    refine And.intro (fun _ => ?_) (fun hq => absurd hq (by decide))
    refine hAt 5 _ _ _ _ _ _ ?_
    refine s_skipBlanks hn hb hB h3 ha ?_
    rw [← ei]
    refine Eq.mpr (congrArg (fun xq : Int32 => At 18 [.ref (16), .int (nI lo), .int (iZ hi), junk] [.int xq, .ref (16)] (wI σ 16 3 (nI i0)) 0 0) (show rI (wI σ 16 3 (nI i0)) 16 3 = nI i0 from (by rw [rI_wI, if_pos ⟨rfl, rfl⟩]))) ?_
    refine hAt 3 _ _ _ _ _ _ ?_
    have z := loop 0 (Nat.zero_le _) (by rw [Nat.add_zero, ei]; rfl)
    rw [Nat.add_zero, wI_self (by rw [eρ]; rfl), eρ] at z
    exact z
  · have e := nmS_f (b := b) (n := n) (lo := lo) (hi := hi) h0
    have z := hP σ (fun _ _ _ => rfl) rfl (by rw [e]; exact ⟨hB, ⟨a, ha, h3, h3'⟩, ⟨h4, h4'⟩, h5⟩) (fun q => absurd q h0)
    rw [nmX_0 e, if_neg h0] at z
    refine hAt 2 _ _ _ _ _ _ ?_
    refine Eq.mpr (congrArg (fun xq : Int32 => At 4 [.ref (16), .int (nI lo), .int (iZ hi), junk] [.int xq] σ 0 0) (show rI σ 16 4 = nI s.2.1 from h4')) ?_
    refine hAt 1 _ _ _ _ _ _ ?_
    refine And.intro (fun hq => ?_) (fun hq => ?_)
    · have c4 : s.2.1 = 0 := (eqN (a := s.2.1) (b := 0) rfl rfl (by omega) (by omega)).mp hq
      clear hq
      exact absurd c4 (by omega)
    · have c4 : ¬ s.2.1 = 0 := fun zq => hq ((eqN (a := s.2.1) (b := 0) rfl rfl (by omega) (by omega)).mpr zq)
      clear hq
      refine hAt 2 _ _ _ _ _ _ ?_
      exact z
end RDC
