/-! WORTH, told once for both sides: what fields can get of clouds -/
def onS (R : Nat → Bool) (b : Nat → Nat) (m : Nat) : Nat := sumN (fun f => if R f = true then b f else 0) m
def cutV (n m : Nat) (r : Nat → Nat → Nat) (Q : Nat → Nat) (R C : Nat → Bool) : Nat := sumN (fun k => if C k = true then Q k else onS R (r k) m) n
/-- g takes b f to field f -/
def flo (n m : Nat) (r : Nat → Nat → Nat) (Q : Nat → Nat) (g : Nat → Nat → Nat) (b : Nat → Nat) : Prop :=
  (∀ k f, k < n → f < m → g k f ≤ r k f) ∧ (∀ k, k < n → sumN (g k) m ≤ Q k) ∧ ∀ f, f < m → b f = sumN (fun k => g k f) n
def fea (n m : Nat) (r : Nat → Nat → Nat) (Q : Nat → Nat) (b : Nat → Nat) : Prop := ∃ g, flo n m r Q g b
/-- no more for the fields of R, that clouds of C alone could serve more -/
def cert (n m : Nat) (r : Nat → Nat → Nat) (Q : Nat → Nat) (g : Nat → Nat → Nat) (R C : Nat → Bool) : Prop :=
  (∀ k, k < n → C k = true → sumN (g k) m = Q k ∧ ∀ f, f < m → 0 < g k f → R f = true) ∧ (∀ k, k < n → C k ≠ true → ∀ f, f < m → R f = true → g k f = r k f)
/-- as served, the dearest first, up to key c -/
def isG (n m : Nat) (r : Nat → Nat → Nat) (Q th ky : Nat → Nat) (c : Nat) (a : Nat → Nat) : Prop :=
  fea n m r Q a ∧ (∀ f, f < m → c ≤ ky f → a f = 0) ∧ ∀ f, f < m → ky f < c → a f ≤ th f ∧ (a f = th f ∨ ∃ R C, R f = true ∧ (∀ g, g < m → R g = true → ky g ≤ ky f) ∧ onS R a m = cutV n m r Q R C)
noncomputable def woV (n m : Nat) (r : Nat → Nat → Nat) (Q th ky p : Nat → Nat) : Nat := sumN (fun f => p f * Classical.epsilon (isG n m r Q th ky 108) f) m
theorem sumN_swap (g : Nat → Nat → Nat) (n : Nat) : ∀ m, sumN (fun f => sumN (fun k => g k f) n) m = sumN (fun k => sumN (g k) m) n
  | 0 => (sumN_zero n (fun _ _ => rfl)).symm
  | m + 1 => by rw [sumN, sumN_swap g n m, ← sumN_add]; rfl
theorem onS_congr {R : Nat → Bool} {a b : Nat → Nat} {m : Nat} (h : ∀ f, f < m → R f = true → a f = b f) : onS R a m = onS R b m := sumN_congr m (fun f hf => by
  by_cases q : R f = true
  · rw [if_pos q, if_pos q]; exact h f hf q
  · rw [if_neg q, if_neg q])
theorem onS_mono {R : Nat → Bool} {a b : Nat → Nat} {m : Nat} (h : ∀ f, f < m → R f = true → a f ≤ b f) : onS R a m ≤ onS R b m := sumN_mono m (fun f hf => by
  by_cases q : R f = true
  · rw [if_pos q, if_pos q]; exact h f hf q
  · rw [if_neg q, if_neg q]; exact Nat.le_refl _)
section FLW
variable {n m : Nat} {r : Nat → Nat → Nat} {Q th ky : Nat → Nat}
theorem flo_on {g : Nat → Nat → Nat} {b : Nat → Nat} (h : flo n m r Q g b) (R : Nat → Bool) : onS R b m = sumN (fun k => onS R (g k) m) n := by
  unfold onS
  rw [← sumN_swap (fun k f => if R f = true then g k f else 0) n m]
  exact sumN_congr m (fun f hf => by
    by_cases q : R f = true
    · rw [if_pos q, h.2.2 f hf]; exact sumN_congr n (fun k _ => (if_pos q).symm)
    · rw [if_neg q]; exact (sumN_zero n (fun k _ => if_neg q)).symm)
theorem fea_cut {b : Nat → Nat} (h : fea n m r Q b) (R C : Nat → Bool) : onS R b m ≤ cutV n m r Q R C := by
  obtain ⟨g, h⟩ := h
  rw [flo_on h]
  refine sumN_mono n (fun k hk => ?_)
  by_cases q : C k = true
  · rw [if_pos q]
    exact Nat.le_trans (sumN_mono m (fun f _ => by split; exact Nat.le_refl _; exact Nat.zero_le _)) (h.2.1 k hk)
  · rw [if_neg q]; exact onS_mono (fun f hf _ => h.1 k f hk hf)
theorem cert_cut {g : Nat → Nat → Nat} {b : Nat → Nat} (h : flo n m r Q g b) {R C : Nat → Bool} (hc : cert n m r Q g R C) : onS R b m = cutV n m r Q R C := by
  rw [flo_on h]
  refine sumN_congr n (fun k hk => ?_)
  by_cases q : C k = true
  · rw [if_pos q, ← (hc.1 k hk q).1]
    refine sumN_congr m (fun f hf => ?_)
    by_cases z : R f = true
    · rw [if_pos z]
    · rw [if_neg z]
      by_cases y : 0 < g k f
      · exact absurd ((hc.1 k hk q).2 f hf y) z
      · omega
  · rw [if_neg q]; exact onS_congr (fun f hf z => hc.2 k hk q f hf z)
theorem isG_half {c : Nat} {a b : Nat → Nat} (hi : ∀ f g, f < m → g < m → ky f = ky g → f = g) (ha : isG n m r Q th ky c a) (hb : isG n m r Q th ky c b) {f : Nat} (hf : f < m) (hk : ky f < c) (he : ∀ g, g < m → ky g < ky f → a g = b g) : b f ≤ a f := by
  rcases (ha.2.2 f hf hk).2 with e | ⟨R, C, e1, e2, e3⟩
  · rw [e]; exact (hb.2.2 f hf hk).1
  · have h1 := fea_cut hb.1 R C
    rw [← e3] at h1
    have h2 := sumN_up (f := fun f => if R f = true then b f else 0) (g := fun f => if R f = true then a f else 0) (a := f) m hf (fun i hi2 hne => by
      show (if R i = true then b i else 0) = if R i = true then a i else 0
      by_cases q : R i = true
      · rw [if_pos q, if_pos q]
        have := e2 i hi2 q
        have h3 : ky i ≠ ky f := fun z => hne (hi i f hi2 hf z)
        exact (he i hi2 (by omega)).symm
      · rw [if_neg q, if_neg q])
    simp only [e1, if_true] at h2
    unfold onS at h1
    omega
theorem isG_uni {c : Nat} {a b : Nat → Nat} (hi : ∀ f g, f < m → g < m → ky f = ky g → f = g) (ha : isG n m r Q th ky c a) (hb : isG n m r Q th ky c b) : ∀ N f, f < m → ky f < N → a f = b f
  | 0, _, _, h => absurd h (Nat.not_lt_zero _)
  | N + 1, f, hf, h => by
    by_cases q : ky f < c
    · have h1 := isG_half hi ha hb hf q (fun g hg hl => isG_uni hi ha hb N g hg (by omega))
      have h2 := isG_half hi hb ha hf q (fun g hg hl => (isG_uni hi ha hb N g hg (by omega)).symm)
      omega
    · rw [ha.2.1 f hf (by omega), hb.2.1 f hf (by omega)]
theorem woV_eq {p a : Nat → Nat} (hi : ∀ f g, f < m → g < m → ky f = ky g → f = g) (ha : isG n m r Q th ky 108 a) : sumN (fun f => p f * a f) m = woV n m r Q th ky p := by
  have he : isG n m r Q th ky 108 (Classical.epsilon (isG n m r Q th ky 108)) := Classical.epsilon_spec ⟨a, ha⟩
  exact sumN_congr m (fun f hf => by rw [isG_uni hi ha he (ky f + 1) f hf (by omega)])
/-! one field after the other -/
theorem isG_0 : isG n m r Q th ky 0 (fun _ => 0) :=
  ⟨⟨fun _ _ => 0, fun _ _ _ _ => Nat.zero_le _, fun _ _ => by rw [sumN_zero m (fun _ _ => rfl)]; exact Nat.zero_le _, fun _ _ => (sumN_zero n (fun _ _ => rfl)).symm⟩, fun _ _ _ => rfl, fun _ _ h => absurd h (Nat.not_lt_zero _)⟩
theorem isG_skip {c : Nat} {a : Nat → Nat} (h : isG n m r Q th ky c a) (hn : ∀ f, f < m → ky f ≠ c) : isG n m r Q th ky (c + 1) a :=
  ⟨h.1, fun f hf q => h.2.1 f hf (by omega), fun f hf q => h.2.2 f hf (by have := hn f hf; omega)⟩
theorem isG_serve {c f0 : Nat} {a b : Nat → Nat} {g : Nat → Nat → Nat} (h : isG n m r Q th ky c a) (h0 : f0 < m) (hi : ∀ f g, f < m → g < m → ky f = ky g → f = g) (hk : ky f0 = c) (hg : flo n m r Q g b) (hb : ∀ f, f < m → f ≠ f0 → b f = a f) (ht : b f0 ≤ th f0)
    (he : b f0 = th f0 ∨ ∃ R C, R f0 = true ∧ (∀ f, f < m → R f = true → f = f0 ∨ 0 < b f) ∧ cert n m r Q g R C) : isG n m r Q th ky (c + 1) b := by
  refine ⟨⟨g, hg⟩, fun f hf q => ?_, fun f hf q => ?_⟩
  · have hne : f ≠ f0 := fun z => by subst z; omega
    rw [hb f hf hne]; exact h.2.1 f hf (by omega)
  · by_cases e : f = f0
    · subst e
      refine ⟨ht, ?_⟩
      rcases he with e1 | ⟨R, C, e1, e2, e3⟩
      · exact Or.inl e1
      · refine Or.inr ⟨R, C, e1, fun i hi2 z => ?_, cert_cut hg e3⟩
        rcases e2 i hi2 z with y | y
        · rw [y]; exact Nat.le_refl _
        · by_cases x : i = f
          · rw [x]; exact Nat.le_refl _
          · rw [hb i hi2 x] at y
            by_cases u : c ≤ ky i
            · rw [h.2.1 i hi2 u] at y; omega
            · omega
    · have hne : ky f ≠ c := fun z => e (hi f f0 hf h0 (z.trans hk.symm))
      rw [hb f hf e]
      refine ⟨(h.2.2 f hf (by omega)).1, ?_⟩
      rcases (h.2.2 f hf (by omega)).2 with e1 | ⟨R, C, e1, e2, e3⟩
      · exact Or.inl e1
      · refine Or.inr ⟨R, C, e1, e2, ?_⟩
        rw [← e3]
        exact onS_congr (fun i hi2 z => hb i hi2 (fun y => by have := e2 i hi2 z; rw [y, hk] at this; omega))
theorem isG_cut {c c' : Nat} {a : Nat → Nat} (h : isG n m r Q th ky c a) (hc : c' ≤ c) : isG n m r Q th ky c' (fun f => if ky f < c' then a f else 0) := by
  obtain ⟨⟨g, g1, g2, g3⟩, h2, h3⟩ := h
  refine ⟨⟨fun k f => if ky f < c' then g k f else 0, fun k f hk hf => ?_, fun k hk => ?_, fun f hf => ?_⟩, fun f hf q => if_neg (by omega), fun f hf q => ?_⟩
  · show (if ky f < c' then g k f else 0) ≤ _
    split
    · exact g1 k f hk hf
    · exact Nat.zero_le _
  · exact Nat.le_trans (sumN_mono m (fun f _ => by
      show (if ky f < c' then g k f else 0) ≤ g k f
      split
      · exact Nat.le_refl _
      · exact Nat.zero_le _)) (g2 k hk)
  · show (if ky f < c' then a f else 0) = sumN (fun k => if ky f < c' then g k f else 0) n
    by_cases q : ky f < c'
    · rw [if_pos q, g3 f hf]; exact sumN_congr n (fun k _ => (if_pos q).symm)
    · rw [if_neg q]; exact (sumN_zero n (fun k _ => if_neg q)).symm
  · show (if ky f < c' then a f else 0) ≤ th f ∧ ((if ky f < c' then a f else 0) = th f ∨ _)
    rw [if_pos q]
    have z := h3 f hf (by omega)
    refine ⟨z.1, ?_⟩
    rcases z.2 with e | ⟨R, C, e1, e2, e3⟩
    · exact Or.inl e
    · refine Or.inr ⟨R, C, e1, e2, ?_⟩
      rw [← e3]
      exact onS_congr (fun i hi2 y => by
        show (if ky i < c' then a i else 0) = a i
        have := e2 i hi2 y
        rw [if_pos (by omega)])
/-! none is better -/
theorem b_un (p q : Bool) (x : Nat) : (if (p || q) = true then x else 0) + (if (p && q) = true then x else 0) = (if p = true then x else 0) + (if q = true then x else 0) := by cases p <;> cases q <;> simp
theorem b_an (p q : Bool) (x : Nat) : (if (p && q) = true then x else 0) ≤ (if q = true then x else 0) := by cases p <;> cases q <;> simp
theorem b_am (p q : Bool) (x : Nat) : (if (p && q) = true then x else 0) ≤ (if p = true then x else 0) := by cases p <;> cases q <;> simp
theorem b_cut (p q : Bool) {z u i x y : Nat} (h : u + i = x + y) (h1 : i ≤ y) (h2 : i ≤ x) : (if (p || q) = true then z else u) + (if (p && q) = true then z else i) ≤ (if p = true then z else x) + (if q = true then z else y) := by cases p <;> cases q <;> simp <;> omega
theorem b_sp (p q : Bool) (x : Nat) (h : q = true → p = true) : (if p = true then x else 0) = (if q = true then x else 0) + (if (p && !q) = true then x else 0) := by revert h; cases p <;> cases q <;> simp
theorem cut_union {R1 C1 R2 C2 : Nat → Bool} : cutV n m r Q (fun f => R1 f || R2 f) (fun k => C1 k || C2 k) + cutV n m r Q (fun f => R1 f && R2 f) (fun k => C1 k && C2 k) ≤ cutV n m r Q R1 C1 + cutV n m r Q R2 C2 := by
  unfold cutV
  rw [← sumN_add, ← sumN_add]
  refine sumN_mono n (fun k _ => ?_)
  have e : ∀ b : Nat → Nat, onS (fun f => R1 f || R2 f) b m + onS (fun f => R1 f && R2 f) b m = onS R1 b m + onS R2 b m := fun b => by
    unfold onS
    rw [← sumN_add, ← sumN_add]
    exact sumN_congr m (fun f _ => b_un (R1 f) (R2 f) (b f))
  exact b_cut (C1 k) (C2 k) (e (r k)) (sumN_mono m (fun f _ => b_an (R1 f) (R2 f) (r k f))) (sumN_mono m (fun f _ => b_am (R1 f) (R2 f) (r k f)))
theorem on_union {R1 R2 : Nat → Bool} (b : Nat → Nat) : onS (fun f => R1 f || R2 f) b m + onS (fun f => R1 f && R2 f) b m = onS R1 b m + onS R2 b m := by
  unfold onS
  rw [← sumN_add, ← sumN_add]
  exact sumN_congr m (fun f _ => b_un (R1 f) (R2 f) (b f))
theorem tight_union {a : Nat → Nat} {R1 C1 R2 C2 : Nat → Bool} (ha : fea n m r Q a) (h1 : onS R1 a m = cutV n m r Q R1 C1) (h2 : onS R2 a m = cutV n m r Q R2 C2) : onS (fun f => R1 f || R2 f) a m = cutV n m r Q (fun f => R1 f || R2 f) (fun k => C1 k || C2 k) := by
  have a1 := cut_union (n := n) (m := m) (r := r) (Q := Q) (R1 := R1) (R2 := R2) (C1 := C1) (C2 := C2)
  have a2 := on_union (m := m) (R1 := R1) (R2 := R2) a
  have a3 := fea_cut ha (fun f => R1 f && R2 f) (fun k => C1 k && C2 k)
  have a4 := fea_cut ha (fun f => R1 f || R2 f) (fun k => C1 k || C2 k)
  omega
theorem on_none (b : Nat → Nat) : onS (fun _ => false) b m = 0 := sumN_zero m (fun _ _ => if_neg Bool.false_ne_true)
theorem cut_none : cutV n m r Q (fun _ => false) (fun _ => false) = 0 := sumN_zero n (fun k _ => (if_neg Bool.false_ne_true).trans (on_none (r k)))
theorem isG_pre {c : Nat} {a b : Nat → Nat} (ha : isG n m r Q th ky c a) {F : Nat → Bool} (hc : ∀ f, f < m → F f = true → ky f < c) (hb : fea n m r Q b) (ht : ∀ f, f < m → b f ≤ th f) (hF : ∀ f g, f < m → g < m → F f = true → ky g ≤ ky f → F g = true) : onS F b m ≤ onS F a m := by
  have un : ∀ t, t ≤ m → ∃ U C : Nat → Bool, (∀ f, f < t → F f = true → a f < th f → U f = true) ∧ (∀ g, g < m → U g = true → F g = true) ∧ onS U a m = cutV n m r Q U C := by
    intro t
    induction t with
    | zero =>
      intro _
      refine ⟨fun _ => false, fun _ => false, fun f h => absurd h (Nat.not_lt_zero f), fun _ _ h => absurd h Bool.false_ne_true, ?_⟩
      rw [on_none, cut_none]
    | succ t ih =>
      intro h
      obtain ⟨U, C, u1, u2, u3⟩ := ih (by omega)
      by_cases q : F t = true ∧ a t < th t
      · rcases (ha.2.2 t (by omega) (hc t (by omega) q.1)).2 with e | ⟨R, D, e1, e2, e3⟩
        · omega
        · refine ⟨fun f => U f || R f, fun k => C k || D k, fun f hf f1 f2 => ?_, fun g hg z => ?_, tight_union ha.1 u3 e3⟩
          · by_cases e : f = t
            · subst e; simp [e1]
            · simp [u1 f (by omega) f1 f2]
          · have : U g = true ∨ R g = true := by simpa using z
            rcases this with y | y
            · exact u2 g hg y
            · exact hF t g (by omega) hg q.1 (e2 g hg y)
      · refine ⟨U, C, fun f hf f1 f2 => ?_, u2, u3⟩
        by_cases e : f = t
        · subst e; exact absurd ⟨f1, f2⟩ q
        · exact u1 f (by omega) f1 f2
  obtain ⟨U, C, u1, u2, u3⟩ := un m (Nat.le_refl _)
  have sp : ∀ x : Nat → Nat, onS F x m = onS U x m + onS (fun f => F f && !U f) x m := fun x => by
    unfold onS
    rw [← sumN_add]
    exact sumN_congr m (fun f hf => b_sp (F f) (U f) (x f) (u2 f hf))
  rw [sp, sp]
  have h1 := fea_cut hb U C
  have h2 : onS (fun f => F f && !U f) b m ≤ onS (fun f => F f && !U f) a m := onS_mono (fun f hf z => by
    have z2 : F f = true ∧ U f = false := by simpa using z
    have h3 := (ha.2.2 f hf (hc f hf z2.1)).1
    have h4 := ht f hf
    by_cases y : a f < th f
    · rw [u1 f hf z2.1 y] at z2; exact absurd z2.2 (by decide)
    · omega)
  omega
theorem abel {p x : Nat → Nat} (hp : ∀ f, f < m → p f ≤ 9) : sumN (fun f => p f * x f) m = sumN (fun j => onS (fun f => decide (j < p f)) x m) 9 := by
  unfold onS
  rw [← sumN_swap (fun j f => if decide (j < p f) = true then x f else 0) 9 m]
  refine sumN_congr m (fun f hf => ?_)
  have aux : ∀ v y N, sumN (fun j => if decide (j < v) = true then y else 0) N = min v N * y := by
    intro v y N
    induction N with
    | zero => rw [Nat.min_zero, Nat.zero_mul]; rfl
    | succ N ih =>
      rw [sumN, ih]
      by_cases q : N < v
      · rw [if_pos (decide_eq_true q), Nat.min_eq_right (by omega), Nat.min_eq_right (by omega), Nat.succ_mul]
      · rw [if_neg (by rw [decide_eq_true_eq]; exact q), Nat.min_eq_left (by omega), Nat.min_eq_left (by omega), Nat.add_zero]
  rw [aux, Nat.min_eq_left (hp f hf)]
theorem isG_opt {a b p : Nat → Nat} (hc : ∀ f, f < m → 0 < p f → ky f < 108) (hp : ∀ f, f < m → p f ≤ 9) (ho : ∀ f g, f < m → g < m → ky g ≤ ky f → p f ≤ p g) (ha : isG n m r Q th ky 108 a) (hb : fea n m r Q b) (ht : ∀ f, f < m → b f ≤ th f) : sumN (fun f => p f * b f) m ≤ sumN (fun f => p f * a f) m := by
  rw [abel hp, abel hp]
  refine sumN_mono 9 (fun j _ => isG_pre ha (fun f hf z => hc f hf (Nat.lt_of_le_of_lt (Nat.zero_le _) (of_decide_eq_true z))) hb ht (fun f g hf hg z y => ?_))
  have := ho f g hf hg y
  have h2 : j < p f := of_decide_eq_true z
  exact decide_eq_true (by omega)
theorem woV_mono {Q' p : Nat → Nat} (hi : ∀ f g, f < m → g < m → ky f = ky g → f = g) (hc : ∀ f, f < m → 0 < p f → ky f < 108) (hp : ∀ f, f < m → p f ≤ 9) (ho : ∀ f g, f < m → g < m → ky g ≤ ky f → p f ≤ p g) (hQ : ∀ k, k < n → Q k ≤ Q' k) (h1 : ∃ a, isG n m r Q th ky 108 a) (h2 : ∃ a, isG n m r Q' th ky 108 a) : woV n m r Q th ky p ≤ woV n m r Q' th ky p := by
  obtain ⟨a, ha⟩ := h1
  obtain ⟨b, hb⟩ := h2
  rw [← woV_eq hi ha, ← woV_eq hi hb]
  obtain ⟨g, g1, g2, g3⟩ := ha.1
  exact isG_opt hc hp ho hb ⟨g, g1, fun k hk => Nat.le_trans (g2 k hk) (hQ k hk), g3⟩ (fun f hf => by
    by_cases q : ky f < 108
    · exact (ha.2.2 f hf q).1
    · rw [ha.2.1 f hf (by omega)]; exact Nat.zero_le _)
end FLW
