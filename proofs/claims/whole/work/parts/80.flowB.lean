/-! WORTH: the search and the way back -/
def up2 (G : Nat → Nat → Nat) (a b x : Nat) : Nat → Nat → Nat := fun k f => if k = a ∧ f = b then x else G k f
def upO (c : Nat → Option Nat) (a : Nat) (x : Option Nat) : Nat → Option Nat := fun k => if k = a then x else c k
def up1 (c : Nat → Nat) (a x : Nat) : Nat → Nat := fun k => if k = a then x else c k
theorem up2_row {G : Nat → Nat → Nat} {a b x m : Nat} (hb : b < m) (k : Nat) : sumN (up2 G a b x k) m + (if k = a then G a b else 0) = sumN (G k) m + (if k = a then x else 0) := by
  by_cases e : k = a
  · subst e
    rw [if_pos rfl, if_pos rfl]
    have := sumN_up (f := up2 G k b x k) (g := G k) (a := b) m hb (fun i _ hi => if_neg (fun z => hi z.2))
    rw [show up2 G k b x k b = x from if_pos ⟨rfl, rfl⟩] at this
    exact this
  · rw [if_neg e, if_neg e, Nat.add_zero, Nat.add_zero]
    exact sumN_congr m (fun i _ => if_neg (fun z => e z.1))
theorem up2_col {G : Nat → Nat → Nat} {a b x n : Nat} (ha : a < n) (f : Nat) : sumN (fun k => up2 G a b x k f) n + (if f = b then G a b else 0) = sumN (fun k => G k f) n + (if f = b then x else 0) := by
  by_cases e : f = b
  · subst e
    rw [if_pos rfl, if_pos rfl]
    have := sumN_up (f := fun k => up2 G a f x k f) (g := fun k => G k f) (a := a) n ha (fun i _ hi => if_neg (fun z => hi z.1))
    simp only [show up2 G a f x a f = x from if_pos ⟨rfl, rfl⟩] at this
    exact this
  · rw [if_neg e, if_neg e, Nat.add_zero, Nat.add_zero]
    exact sumN_congr n (fun i _ => if_neg (fun z => e z.2))
/-- how many are set -/
def cnO (c : Nat → Option Nat) (n : Nat) : Nat := sumN (fun k => if c k = none then 0 else 1) n
theorem cnO_le (c : Nat → Option Nat) : ∀ n, cnO c n ≤ n
  | 0 => Nat.le_refl _
  | n + 1 => by
    have := cnO_le c n
    unfold cnO at this ⊢
    rw [sumN]; split <;> omega
theorem cnO_up {c : Nat → Option Nat} {a x n : Nat} (ha : a < n) (h : c a = none) : cnO (upO c a (some x)) n = cnO c n + 1 := by
  have := sumN_up (f := fun k => if upO c a (some x) k = none then 0 else 1) (g := fun k => if c k = none then 0 else 1) (a := a) n ha (fun i _ hi => by
    show (if upO c a (some x) i = none then 0 else 1) = _
    rw [show upO c a (some x) i = c i from if_neg hi])
  simp only [show upO c a (some x) a = some x from if_pos rfl, h] at this
  unfold cnO
  simp at this
  exact this
theorem cnO_2 {c : Nat → Option Nat} {a b : Nat} (hab : a ≠ b) (h1 : c a = none) (h2 : c b = none) : ∀ n, cnO c n + (if a < n then 1 else 0) + (if b < n then 1 else 0) ≤ n
  | 0 => by rw [if_neg (by omega), if_neg (by omega)]; exact Nat.le_refl _
  | n + 1 => by
    have := cnO_2 hab h1 h2 n
    unfold cnO at this ⊢
    rw [sumN]
    by_cases e1 : n = a
    · subst e1
      rw [if_pos h1]
      rw [if_neg (Nat.lt_irrefl n)] at this
      rw [if_pos (by omega)]
      by_cases q : b < n
      · rw [if_pos q] at this; rw [if_pos (by omega)]; omega
      · rw [if_neg q] at this; rw [if_neg (by omega)]; omega
    · by_cases e2 : n = b
      · subst e2
        rw [if_pos h2]
        rw [if_neg (Nat.lt_irrefl n)] at this
        rw [if_pos (show n < n + 1 by omega)]
        by_cases q : a < n
        · rw [if_pos q] at this; rw [if_pos (by omega)]; omega
        · rw [if_neg q] at this; rw [if_neg (by omega)]; omega
      · have x1 : (if a < n + 1 then 1 else 0) = if a < n then 1 else 0 := by
          by_cases q : a < n
          · rw [if_pos q, if_pos (by omega)]
          · rw [if_neg q, if_neg (by omega)]
        have x2 : (if b < n + 1 then 1 else 0) = if b < n then 1 else 0 := by
          by_cases q : b < n
          · rw [if_pos q, if_pos (by omega)]
          · rw [if_neg q, if_neg (by omega)]
        rw [x1, x2]; split <;> omega
/-- the queue of fields -/
def QI (m f0 : Nat) (fb : Nat → Option Nat) (qu : Nat → Nat) (q : Nat) : Prop :=
  f0 < m ∧ qu 0 = f0 ∧ fb f0 = none ∧ (∀ i, i < q → qu i < m ∧ (qu i = f0 ∨ fb (qu i) ≠ none)) ∧ (∀ f, f < m → fb f ≠ none → ∃ i, i < q ∧ qu i = f) ∧ q = cnO fb m + 1
theorem QI_push {m f0 k f q : Nat} {fb : Nat → Option Nat} {qu : Nat → Nat} (h : QI m f0 fb qu q) (hf : f < m) (hn : f ≠ f0) (h0 : fb f = none) : q < m ∧ QI m f0 (upO fb f (some k)) (up1 qu q f) (q + 1) := by
  obtain ⟨a1, a2, a3, a4, a5, a6⟩ := h
  have c2 := cnO_2 hn h0 a3 m
  rw [if_pos hf, if_pos a1] at c2
  have hq : q < m := by omega
  refine ⟨hq, a1, ?_, ?_, fun i hi => ?_, fun x hx hz => ?_, ?_⟩
  · show (if 0 = q then f else qu 0) = f0; rw [if_neg (by omega)]; exact a2
  · show (if f0 = f then some k else fb f0) = none; rw [if_neg (fun z => hn z.symm)]; exact a3
  · by_cases e : i = q
    · subst e
      rw [show up1 qu i f i = f from if_pos rfl]
      exact ⟨hf, Or.inr (by rw [show upO fb f (some k) f = some k from if_pos rfl]; exact fun z => by cases z)⟩
    · rw [show up1 qu q f i = qu i from if_neg e]
      refine ⟨(a4 i (by omega)).1, ?_⟩
      rcases (a4 i (by omega)).2 with z | z
      · exact Or.inl z
      · refine Or.inr ?_
        unfold upO
        by_cases y : qu i = f
        · rw [if_pos y]; exact fun z => by cases z
        · rw [if_neg y]; exact z
  · by_cases e : x = f
    · exact ⟨q, by omega, by rw [e]; exact if_pos rfl⟩
    · rw [show upO fb f (some k) x = fb x from if_neg e] at hz
      obtain ⟨i, i1, i2⟩ := a5 x hx hz
      exact ⟨i, by omega, by rw [show up1 qu q f i = qu i from if_neg (by omega)]; exact i2⟩
  · rw [cnO_up hf h0]; omega
/-- the search, as far as it has come -/
def BI4 (n m : Nat) (r g : Nat → Nat → Nat) (f0 : Nat) (cf fb : Nat → Option Nat) : Prop := ∀ k f, k < n → cf k = some f → f < m ∧ g k f < r k f ∧ (f = f0 ∨ fb f ≠ none)
def BI5 (n m : Nat) (g : Nat → Nat → Nat) (cf fb : Nat → Option Nat) : Prop := ∀ f k, f < m → fb f = some k → k < n ∧ cf k ≠ none ∧ 0 < g k f
def BI6 (n : Nat) (cf fb : Nat → Option Nat) (rk : Nat → Nat) : Prop := (∀ k f i, k < n → cf k = some f → fb f = some i → rk i < rk k) ∧ ∀ k, k < n → cf k ≠ none → rk k < cnO cf n
def BI7 (n m : Nat) (g : Nat → Nat → Nat) (lf : Nat → Nat) (f0 : Nat) (cf fb : Nat → Option Nat) : Prop := ∀ k, k < n → cf k ≠ none → lf k = 0 ∧ ∀ f, f < m → 0 < g k f → f = f0 ∨ fb f ≠ none
/-- a way from a cloud to the field -/
def pathP (n m : Nat) (r g : Nat → Nat → Nat) (f0 : Nat) (cf fb : Nat → Option Nat) (rk : Nat → Nat) (L : Nat) (pt c : Nat → Nat) : Prop :=
  (∀ i, i ≤ L → pt i < n ∧ c i < m ∧ cf (pt i) = some (c i) ∧ g (pt i) (c i) < r (pt i) (c i)) ∧ (∀ i, i < L → c i ≠ f0 ∧ fb (c i) = some (pt (i + 1)) ∧ 0 < g (pt (i + 1)) (c i) ∧ rk (pt (i + 1)) < rk (pt i)) ∧ c L = f0
theorem path_ex {n m f0 : Nat} {r g : Nat → Nat → Nat} {cf fb : Nat → Option Nat} {rk : Nat → Nat} (h4 : BI4 n m r g f0 cf fb) (h5 : BI5 n m g cf fb) (h6 : BI6 n cf fb rk) : ∀ N k, k < n → cf k ≠ none → rk k < N → ∃ L pt c, L ≤ rk k ∧ pt 0 = k ∧ pathP n m r g f0 cf fb rk L pt c
  | 0, _, _, _, h => absurd h (Nat.not_lt_zero _)
  | N + 1, k, hk, hc, h => by
    cases e : cf k with
    | none => exact absurd e hc
    | some f =>
      obtain ⟨b1, b2, b3⟩ := h4 k f hk e
      by_cases q : f = f0
      · subst q
        exact ⟨0, fun _ => k, fun _ => f, Nat.zero_le _, rfl, fun i _ => ⟨hk, b1, e, b2⟩, fun i hi => absurd hi (Nat.not_lt_zero i), rfl⟩
      · cases e2 : fb f with
        | none => exact absurd e2 (b3.resolve_left q)
        | some j =>
          obtain ⟨d1, d2, d3⟩ := h5 f j b1 e2
          have d4 := h6.1 k f j hk e e2
          obtain ⟨L, pt, c, p0, p1, p2, p3, p4⟩ := path_ex h4 h5 h6 N j d1 d2 (by omega)
          refine ⟨L + 1, fun i => if i = 0 then k else pt (i - 1), fun i => if i = 0 then f else c (i - 1), by omega, if_pos rfl, fun i hi => ?_, fun i hi => ?_, ?_⟩
          · show (if i = 0 then k else pt (i - 1)) < n ∧ _
            by_cases z : i = 0
            · simp only [if_pos z]; exact ⟨hk, b1, e, b2⟩
            · simp only [if_neg z]; exact p2 (i - 1) (by omega)
          · by_cases z : i = 0
            · subst z
              simp only [if_pos, if_neg (show ¬ (0 + 1 = 0) by omega), Nat.zero_add, Nat.sub_self, p1]
              exact ⟨q, e2, d3, d4⟩
            · simp only [if_neg z, if_neg (show ¬ (i + 1 = 0) by omega), show i + 1 - 1 = (i - 1) + 1 by omega]
              exact p3 (i - 1) (by omega)
          · show (if L + 1 = 0 then f else c (L + 1 - 1)) = f0
            rw [if_neg (by omega), Nat.add_sub_cancel]; exact p4
/-- a cloud is found that has none left: its fields come into the queue -/
theorem BI_step {n m f0 k f q : Nat} {r g : Nat → Nat → Nat} {rk : Nat → Nat} {cf fb fb' : Nat → Option Nat} {qu qu' : Nat → Nat} {q' : Nat} (hq : QI m f0 fb qu q) (hq' : QI m f0 fb' qu' q') (h4 : BI4 n m r g f0 cf fb) (h5 : BI5 n m g cf fb) (h6 : BI6 n cf fb rk) (hk : k < n) (hn : cf k = none) (hf : f < m) (hfq : f = f0 ∨ fb f ≠ none) (hg : g k f < r k f)
    (e1 : ∀ i, i < m → fb i ≠ none → fb' i = fb i) (e2 : ∀ i, i < m → fb i = none → fb' i ≠ none → fb' i = some k ∧ 0 < g k i) :
    BI4 n m r g f0 (upO cf k (some f)) fb' ∧ BI5 n m g (upO cf k (some f)) fb' ∧ BI6 n (upO cf k (some f)) fb' (up1 rk k (cnO cf n)) := by
  have un : ∀ i, upO cf k (some f) i ≠ none → i ≠ k → cf i ≠ none := fun i z y => by rw [show upO cf k (some f) i = cf i from if_neg y] at z; exact z
  have nu : ∀ i, cf i ≠ none → upO cf k (some f) i ≠ none := fun i z => by
    unfold upO
    by_cases y : i = k
    · rw [if_pos y]; exact fun z => by cases z
    · rw [if_neg y]; exact z
  refine ⟨fun j x hj hx => ?_, fun x j hx hj => ?_, fun j x i hj hx hi => ?_, fun j hj hx => ?_⟩
  · have fx : ∀ x, x < m → (x = f0 ∨ fb x ≠ none) → x = f0 ∨ fb' x ≠ none := fun x hx z => z.elim Or.inl (fun y => Or.inr (by rw [e1 x hx y]; exact y))
    by_cases y : j = k
    · subst y
      rw [show upO cf j (some f) j = some f from if_pos rfl] at hx
      cases hx
      exact ⟨hf, hg, fx f hf hfq⟩
    · rw [show upO cf k (some f) j = cf j from if_neg y] at hx
      have z := h4 j x hj hx
      exact ⟨z.1, z.2.1, fx x z.1 z.2.2⟩
  · by_cases z : fb x = none
    · have y := e2 x hx z (by rw [hj]; exact fun z => by cases z)
      rw [hj] at y
      cases y.1
      exact ⟨hk, (by rw [show upO cf k (some f) k = some f from if_pos rfl]; exact (fun z => by cases z)), y.2⟩
    · rw [e1 x hx z] at hj
      have y := h5 x j hx hj
      exact ⟨y.1, nu j y.2.1, y.2.2⟩
  · have hx2 : x < m ∧ (x = f0 ∨ fb x ≠ none) := by
      by_cases y : j = k
      · subst y
        rw [show upO cf j (some f) j = some f from if_pos rfl] at hx
        cases hx
        exact ⟨hf, hfq⟩
      · rw [show upO cf k (some f) j = cf j from if_neg y] at hx
        have z := h4 j x hj hx
        exact ⟨z.1, z.2.2⟩
    rcases hx2.2 with z | z
    · rw [z, hq'.2.2.1] at hi; cases hi
    · rw [e1 x hx2.1 z] at hi
      have y := h5 x i hx2.1 hi
      have ik : i ≠ k := fun u => y.2.1 (by rw [u]; exact hn)
      rw [show up1 rk k (cnO cf n) i = rk i from if_neg ik]
      by_cases jk : j = k
      · rw [show up1 rk k (cnO cf n) j = cnO cf n from if_pos jk]; exact h6.2 i y.1 y.2.1
      · rw [show upO cf k (some f) j = cf j from if_neg jk] at hx
        rw [show up1 rk k (cnO cf n) j = rk j from if_neg jk]
        exact h6.1 j x i hj hx hi
  · rw [cnO_up hk hn]
    by_cases y : j = k
    · rw [show up1 rk k (cnO cf n) j = cnO cf n from if_pos y]; omega
    · rw [show up1 rk k (cnO cf n) j = rk j from if_neg y]
      have := h6.2 j hj (un j hx y); omega
theorem cert_of {n m f0 q : Nat} {r g : Nat → Nat → Nat} {lf Q : Nat → Nat} {cf fb : Nat → Option Nat} {qu : Nat → Nat} (hq : QI m f0 fb qu q) (hr : ∀ k f, k < n → f < m → g k f ≤ r k f) (hs : ∀ k, k < n → sumN (g k) m + lf k = Q k) (h7 : BI7 n m g lf f0 cf fb) (h8 : ∀ i, i < q → ∀ k, k < n → g k (qu i) < r k (qu i) → cf k ≠ none) (h5 : BI5 n m g cf fb) : ∃ R C, R f0 = true ∧ (∀ f, f < m → R f = true → f = f0 ∨ ∃ k, k < n ∧ 0 < g k f) ∧ cert n m r Q g R C := by
  refine ⟨fun f => decide (f = f0 ∨ fb f ≠ none), fun k => decide (cf k ≠ none), decide_eq_true (Or.inl rfl), fun f hf z => ?_, fun k hk z => ?_, fun k hk z f hf y => ?_⟩
  · rcases of_decide_eq_true z with y | y
    · exact Or.inl y
    · refine Or.inr ?_
      cases e : fb f with
      | none => exact absurd e y
      | some k => have := h5 f k hf e; exact ⟨k, this.1, this.2.2⟩
  · have y := h7 k hk (of_decide_eq_true z)
    have := hs k hk
    exact ⟨by omega, fun f hf x => decide_eq_true (y.2 f hf x)⟩
  · have z2 : ¬ cf k ≠ none := fun u => z (decide_eq_true u)
    have : ∃ i, i < q ∧ qu i = f := by
      rcases of_decide_eq_true y with x | x
      · exact ⟨0, by have := hq.2.2.2.2.2; omega, by rw [x]; exact hq.2.1⟩
      · exact hq.2.2.2.2.1 f hf x
    obtain ⟨i, i1, i2⟩ := this
    have h1 := hr k f hk hf
    by_cases u : g k f < r k f
    · exact absurd (h8 i i1 k hk (by rw [i2]; exact u)) z2
    · omega
theorem cnO_1 {c : Nat → Option Nat} {a : Nat} (h1 : c a = none) : ∀ n, cnO c n + (if a < n then 1 else 0) ≤ n
  | 0 => by rw [if_neg (by omega)]; exact Nat.le_refl _
  | n + 1 => by
    have := cnO_1 h1 n
    unfold cnO at this ⊢
    rw [sumN]
    by_cases e1 : n = a
    · subst e1
      rw [if_pos h1]
      rw [if_neg (Nat.lt_irrefl n)] at this
      rw [if_pos (by omega)]; omega
    · have x1 : (if a < n + 1 then 1 else 0) = if a < n then 1 else 0 := by
        by_cases q : a < n
        · rw [if_pos q, if_pos (by omega)]
        · rw [if_neg q, if_neg (by omega)]
      rw [x1]; split <;> omega
theorem QI_le {m f0 q : Nat} {fb : Nat → Option Nat} {qu : Nat → Nat} (h : QI m f0 fb qu q) : q ≤ m := by
  have := cnO_1 h.2.2.1 m
  rw [if_pos h.1] at this
  rw [h.2.2.2.2.2]; exact this
