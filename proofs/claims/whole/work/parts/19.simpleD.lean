/-! FRAMES OF CALLS; what a call of each side promises -/
theorem frC.rfl (σ : Mem) : frC σ σ := ⟨fun _ _ _ _ => Eq.refl _, fun _ => Eq.refl _, Nat.le_refl _⟩
theorem frM.rfl (σ : Mem) : frM σ σ := ⟨fun _ _ _ => Eq.refl _, fun _ _ _ => Eq.refl _, Nat.le_refl _⟩
theorem frC.trans {σ σ' τ : Mem} (h : frC σ σ') (g : frC σ' τ) : frC σ τ := ⟨fun a h1 h2 j => (g.1 a h1 h2 j).trans (h.1 a h1 h2 j), fun j => (g.2.1 j).trans (h.2.1 j), Nat.le_trans h.2.2 g.2.2⟩
theorem frM.trans {σ σ' τ : Mem} (h : frM σ σ') (g : frM σ' τ) : frM σ τ := ⟨fun a h1 j => (g.1 a h1 j).trans (h.1 a h1 j), fun a h1 j => (g.2.1 a h1 j).trans (h.2.1 a h1 j), Nat.le_trans h.2.2 g.2.2⟩
theorem frC.nX (σ : Mem) (n : Nat) : frC σ (nX σ n) := ⟨fun _ _ _ _ => Eq.refl _, fun _ => Eq.refl _, Nat.le_add_right _ _⟩
theorem frC.wI {σ σ' : Mem} {a k : Nat} {x : Int32} (h : frC σ σ') (ha : a < 108) : frC σ (wI σ' a k x) :=
  ⟨fun b h1 h2 j => by rw [rI_wI, if_neg (by omega)]; exact h.1 b h1 h2 j, h.2.1, h.2.2⟩
theorem frM.wI {σ σ' : Mem} {a k : Nat} {x : Int32} (h : frM σ σ') (ha : 108 ≤ a) : frM σ (wI σ' a k x) :=
  ⟨fun b h1 j => by rw [rI_wI, if_neg (by omega)]; exact h.1 b h1 j, h.2.1, h.2.2⟩
theorem frC.uI {σ σ' : Mem} {a : Nat} {f : Nat → Int32} (h : frC σ σ') (ha : a < 108) : frC σ (uI σ' a f) :=
  ⟨fun b h1 h2 j => by rw [rI_uI, if_neg (by omega)]; exact h.1 b h1 h2 j, h.2.1, h.2.2⟩
theorem frM.uI {σ σ' : Mem} {a : Nat} {f : Nat → Int32} (h : frM σ σ') (ha : 108 ≤ a) : frM σ (uI σ' a f) :=
  ⟨fun b h1 j => by rw [rI_uI, if_neg (by omega)]; exact h.1 b h1 j, h.2.1, h.2.2⟩
theorem IC.nX {A : St} {σ : Mem} (h : IC A σ) (n : Nat) : IC A (nX σ n) := ⟨Nat.le_trans h.1 (Nat.le_add_right _ _), h.2⟩
/-- the component's promise: t = 0: it returns v; t = E + 1: it throws class E -/
def CC (w : Wd) (d m : Nat) (as : List AV) (A : St) (t : Nat) (v : AV) (A' : St) : Prop :=
  ∀ (σ : Mem) (P : Option AV → Mem → Prop) (X : Nat → Mem → Prop), IC A σ → (t = 0 → ∀ σ', frC σ σ' → IC A' σ' → P (some v) σ') → (∀ E, t = E + 1 → ∀ σ', frC σ σ' → IC A' σ' → X E σ') → Ret w true d 1 6 m (.ref 0 :: as) σ P X
/-- the model's: it writes c as thrown; where c = 0 it returns v -/
def MC (w : Wd) (d KC KS m : Nat) (as : List AV) (A : St) (c : Nat) (v : AV) (A' : St) : Prop :=
  ∀ (σ : Mem) (P : Option AV → Mem → Prop) (X : Nat → Mem → Prop), IM A σ → (∀ σ' (u : Int32), frM σ σ' → IM A' σ' → rI σ' 108 0 = nI c → (c = 0 → Value.int u = v) → P (some (.int u)) σ') → Ret w true d KC KS m (.ref 108 :: as) σ P X
/-- the same, of a method that returns a long -/
def ML (w : Wd) (d KC KS m : Nat) (as : List AV) (A : St) (c : Nat) (v : AV) (A' : St) : Prop :=
  ∀ (σ : Mem) (P : Option AV → Mem → Prop) (X : Nat → Mem → Prop), IM A σ → (∀ σ' (u : Int64), frM σ σ' → IM A' σ' → rI σ' 108 0 = nI c → (c = 0 → Value.long u = v) → P (some (.long u)) σ') → Ret w true d KC KS m (.ref 108 :: as) σ P X
/-- of a sum's two sides the rows grow by one -/
def addR (t : Tb) (r : Nat → Nat) : Tb := (t.1 + 1, fun k i => if k = t.1 then r i else t.2 k i)
theorem tbR.push {σ σ' : Mem} {o a wd : Nat} {t : Tb} {r : Nat → Nat} (h : tbR σ o a wd t) (h1 : rI σ' o 3 = nI (t.1 + 1)) (h2 : ∀ i, i < wd → rI σ' a (t.1 * wd + i) = nI (r i))
    (h3 : ∀ j, j < t.1 * wd → rI σ' a j = rI σ a j) : tbR σ' o a wd (addR t r) := by
  refine ⟨h1, fun k hk i hi => ?_⟩
  show rI σ' a (k * wd + i) = nI (if k = t.1 then r i else t.2 k i)
  by_cases e : k = t.1
  · rw [if_pos e, e]; exact h2 i hi
  · have hk' : k < t.1 := by
      have : k < t.1 + 1 := hk
      omega
    rw [if_neg e, h3 _ (tix hk' hi)]
    exact h.2 k hk' i hi
def sBk (A : St) (b : Bk) : St := (A.1, A.2.1, A.2.2.1, A.2.2.2.1, b, A.2.2.2.2.2)
theorem IC.setBk {A : St} {σ σ' : Mem} {b : Bk} (h : IC A σ) (hf : ∀ a j, a < 31 ∨ 37 ≤ a → rI σ' a j = rI σ a j) (hn : mN σ ≤ mN σ') (hb : bkC σ' 31 b) : IC (sBk A b) σ' := by
  obtain ⟨h1, h2, h3, h4, h5, h6, h7, h8⟩ := h
  obtain ⟨k1, k2, k3, k4, k5, k6⟩ := h5
  refine ⟨Nat.le_trans h1 hn, by rw [hf _ _ (by omega)]; exact h2, fun j hj => by rw [hf _ _ (by omega)]; exact h3 j hj, by rw [hf _ _ (by omega)]; exact h4, ?_, hb, by rw [hf _ _ (by omega)]; exact h7, fun i hi => ?_⟩
  · exact ⟨fun i hi => by rw [hf _ _ (by omega)]; exact k1 i hi, k2.frame (fun j => hf _ _ (by omega)) (fun j => hf _ _ (by omega)), k3.frame (fun j => hf _ _ (by omega)) (fun j => hf _ _ (by omega)), k4.frame (fun j => hf _ _ (by omega)) (fun j => hf _ _ (by omega)),
      k5.frame (fun j => hf _ _ (by omega)) (fun j => hf _ _ (by omega)), fun k hk h hh => by rw [hf _ _ (by omega)]; exact k6 k hk h hh⟩
  · obtain ⟨k1, k2, k3⟩ := h8 i hi
    exact ⟨k1.frame (fun j => hf _ _ (by omega)) (fun j => hf _ _ (by omega)), k2.frame (fun j => hf _ _ (by omega)) (fun j => hf _ _ (by omega)), k3.frame (fun j => hf _ _ (by omega)) (fun j => hf _ _ (by omega))⟩
/-- an int as a truth -/
def bI (b : Bool) : Int32 := if b = true then nI 1 else nI 0
section SD
variable {w : Wd} {d : Nat} {σ : Mem} {A : St} {P : Option AV → Mem → Prop} {X : Nat → Mem → Prop}
theorem s_isHour {x : Int32} (hP : P (some (.int (bI (decide (¬ x < nI 0 ∧ ¬ nI 50 ≤ x))))) σ) : Ret w true (d + 1) 0 0 m_OC_isHour [.int x] σ P X := by
  refine meth_ok k_OC_isHour q_OC_isHour rfl fun At hAt => hAt 50 _ _ _ _ _ _ ?_
  refine And.intro (fun q => And.intro rfl ?_) (fun q => And.intro (fun q2 => And.intro rfl ?_) (fun q2 => And.intro rfl ?_))
  · rw [decide_eq_false (fun z => z.1 q)] at hP; exact hP
  · rw [decide_eq_false (fun z => z.2 q2)] at hP; exact hP
  · rw [decide_eq_true ⟨q, q2⟩] at hP; exact hP
theorem s_isOwner {x : Int32} (hP : P (some (.int (bI (decide (¬ x < nI 0 ∧ ¬ nI 8 ≤ x))))) σ) : Ret w true (d + 1) 0 0 m_OC_isOwner [.int x] σ P X := by
  refine meth_ok k_OC_isOwner q_OC_isOwner rfl fun At hAt => hAt 50 _ _ _ _ _ _ ?_
  refine And.intro (fun q => And.intro rfl ?_) (fun q => And.intro (fun q2 => And.intro rfl ?_) (fun q2 => And.intro rfl ?_))
  · rw [decide_eq_false (fun z => z.1 q)] at hP; exact hP
  · rw [decide_eq_false (fun z => z.2 q2)] at hP; exact hP
  · rw [decide_eq_true ⟨q, q2⟩] at hP; exact hP
theorem s_isFarmer {x : Int32} (hP : P (some (.int (bI (decide (¬ x < nI 0 ∧ ¬ nI 7 ≤ x))))) σ) : Ret w true (d + 1) 0 0 m_OC_isFarmer [.int x] σ P X := by
  refine meth_ok k_OC_isFarmer q_OC_isFarmer rfl fun At hAt => hAt 50 _ _ _ _ _ _ ?_
  refine And.intro (fun q => And.intro rfl ?_) (fun q => And.intro (fun q2 => And.intro rfl ?_) (fun q2 => And.intro rfl ?_))
  · rw [decide_eq_false (fun z => z.1 q)] at hP; exact hP
  · rw [decide_eq_false (fun z => z.2 q2)] at hP; exact hP
  · rw [decide_eq_true ⟨q, q2⟩] at hP; exact hP
theorem s_isWater {x : Int32} (hP : P (some (.int (bI (decide (¬ x < nI 0 ∧ ¬ nI 9999 < x))))) σ) : Ret w true (d + 1) 0 0 m_OC_isWater [.int x] σ P X := by
  refine meth_ok k_OC_isWater q_OC_isWater rfl fun At hAt => hAt 50 _ _ _ _ _ _ ?_
  refine And.intro (fun q => And.intro rfl ?_) (fun q => And.intro (fun q2 => And.intro rfl ?_) (fun q2 => And.intro rfl ?_))
  · rw [decide_eq_false (fun z => z.1 q)] at hP; exact hP
  · rw [decide_eq_false (fun z => z.2 q2)] at hP; exact hP
  · rw [decide_eq_true ⟨q, q2⟩] at hP; exact hP
theorem s_isEither {x : Int32} (hP : P (some (.int (bI (decide (x = nI 0 ∨ x = nI 1))))) σ) : Ret w true (d + 1) 0 0 m_OC_isEither [.int x] σ P X := by
  refine meth_ok k_OC_isEither q_OC_isEither rfl fun At hAt => hAt 50 _ _ _ _ _ _ ?_
  refine And.intro (fun q => And.intro rfl ?_) (fun q => And.intro (fun q2 => And.intro rfl ?_) (fun q2 => And.intro rfl ?_))
  · rw [decide_eq_true (Or.inl q)] at hP; exact hP
  · rw [decide_eq_false (fun z => z.elim q q2)] at hP; exact hP
  · rw [decide_eq_true (Or.inr q2)] at hP; exact hP
/-- need, on a truth -/
theorem s_need {b : Bool} {KC KS : Nat} (h1 : b = true → P none σ) (h2 : b = false → 1 ≤ KC ∧ 6 ≤ KS ∧ ow_n0 ≤ mN σ ∧ ∀ n, X 0 (nX σ n)) : Ret w true (d + 6) KC KS m_OC_need [.int (bI b)] σ P X := by
  cases b with
  | true => exact s_need_ok (by decide) (h1 rfl)
  | false => exact s_need_bad rfl (h2 rfl).1 (h2 rfl).2.1 (h2 rfl).2.2.1 (h2 rfl).2.2.2
theorem CC_fault : CC w (d + 1) m_OC_fault [] A 0 (.int (aPl A)) A := by
  intro σ P X hI hP _
  refine meth_ok k_OC_fault q_OC_fault rfl fun At hAt => hAt 50 _ _ _ _ _ _ ?_
  have := hP rfl σ (frC.rfl σ) hI
  rw [← hI.2.2.2.1] at this
  exact this
end SD
