/-! THE DAY, told once for both sides -/
/-- whole numbers by tag and place (0 there, 1 owner, 2 minute, 3 thirst, 4 fell by orders, 8 + k parts, 16 + g kept, 20 + c rain); sums by tag and place (0: seed, gone, joins, taken, flood, waste, hails; 1 flood on, 2 hail on, 3 to 5 accounts, 6 pays, 7 is owed) -/
abbrev Dy : Type := (Nat → Nat → Nat) × (Nat → Nat → Int32)
def gN (D : Dy) (t i : Nat) : Nat := D.1 t i
def gD (D : Dy) (t i : Nat) : Int32 := D.2 t i
def sN (D : Dy) (t i v : Nat) : Dy := (fun a b => if a = t ∧ b = i then v else D.1 a b, D.2)
def sD (D : Dy) (t i : Nat) (v : Int32) : Dy := (D.1, fun a b => if a = t ∧ b = i then v else D.2 a b)
def sR (D : Dy) (t : Nat) (f : Nat → Nat) : Dy := (fun a b => if a = t ∧ b < 8 then f b else D.1 a b, D.2)
def addD (D : Dy) (e : Nat → Nat → Int32) : Dy := (D.1, fun a b => D.2 a b + e a b)
theorem gN_sN (D : Dy) (t i v a b : Nat) : gN (sN D t i v) a b = if a = t ∧ b = i then v else gN D a b := rfl
theorem gN_sR (D : Dy) (t : Nat) (f : Nat → Nat) (a b : Nat) : gN (sR D t f) a b = if a = t ∧ b < 8 then f b else gN D a b := rfl
theorem gN_sD (D : Dy) (t i : Nat) (v : Int32) (a b : Nat) : gN (sD D t i v) a b = gN D a b := rfl
theorem gN_addD (D : Dy) (e : Nat → Nat → Int32) (a b : Nat) : gN (addD D e) a b = gN D a b := rfl
theorem gD_sN (D : Dy) (t i v a b : Nat) : gD (sN D t i v) a b = gD D a b := rfl
theorem gD_sR (D : Dy) (t : Nat) (f : Nat → Nat) (a b : Nat) : gD (sR D t f) a b = gD D a b := rfl
theorem gD_sD (D : Dy) (t i : Nat) (v : Int32) (a b : Nat) : gD (sD D t i v) a b = if a = t ∧ b = i then v else gD D a b := rfl
theorem gD_addD (D : Dy) (e : Nat → Nat → Int32) (a b : Nat) : gD (addD D e) a b = gD D a b + e a b := rfl
theorem Dy.ext {D E : Dy} (h1 : ∀ a b, gN D a b = gN E a b) (h2 : ∀ a b, gD D a b = gD E a b) : D = E := Prod.ext (funext fun a => funext fun b => h1 a b) (funext fun a => funext fun b => h2 a b)
/-- the sum of a row -/
def rs (D : Dy) (t : Nat) : Nat := sumN (gN D t) 8
theorem rs_congr {D E : Dy} {t : Nat} (h : ∀ o, o < 8 → gN D t o = gN E t o) : rs D t = rs E t := sumN_congr 8 h
/-! clouds go and come -/
def go1 (s : Sk) (h : Nat) (D : Dy) (k : Nat) : Dy := if gN D 0 k = 1 ∧ ps s k h = none then sR (sN (sD D 0 1 (gD D 0 1 + nI (rs D (8 + k)))) 0 k 0) (8 + k) (fun _ => 0) else D
def cm1 (s : Sk) (h : Nat) (D : Dy) (k : Nat) : Dy := if kC s k 3 = h then sN (sN (sR (sN D 0 k 1) (8 + k) (fun o => if o = kC s k 5 then kC s k 4 else 0)) 1 k (kC s k 5)) 2 k (kC s k 6) else D
def mv1 (s : Sk) (h : Nat) (D : Dy) (k : Nat) : Dy := if gN D 0 k = 1 then go1 s h D k else cm1 s h D k
/-- one after the other -/
def fld (f : Dy → Nat → Dy) (D : Dy) : Nat → Dy
  | 0 => D
  | k + 1 => f (fld f D k) k
/-! joins -/
def ltr (s : Sk) (D : Dy) (k j : Nat) : Bool := if kT s 5 = 0 then decide (gN D 2 k < gN D 2 j) else decide (rs D (8 + j) < rs D (8 + k))
def jn0 (D : Dy) (k : Nat) : Dy := sD (sR (sN D 0 k 0) (8 + k) (fun _ => 0)) 0 2 (gD D 0 2 + nI 1)
def jnO (s : Sk) (D : Dy) (j k : Nat) : Nat := if ltr s D k j = true then gN D 1 k else gN D 1 j
def jnM (s : Sk) (D : Dy) (j k : Nat) : Nat := if ltr s D k j = true then gN D 2 k else gN D 2 j
def djn (s : Sk) (D : Dy) (j k : Nat) : Dy := if kT s 5 = 2 then sR (jn0 D k) (8 + j) (fun o => gN D (8 + j) o + gN D (8 + k) o)
  else sR (sN (sN (jn0 D k) 1 j (jnO s D j k)) 2 j (jnM s D j k)) (8 + j) (fun o => if o = jnO s D j k then rs D (8 + j) + rs D (8 + k) else 0)
def besP (s : Sk) (D : Dy) (h k j : Nat) : Bool := decide (gN D 0 j = 1 ∧ kC s j 2 = kC s k 2 ∧ ps s j h = ps s k h)
/-- the first of the first n that stands beside k -/
def bes (s : Sk) (D : Dy) (h k : Nat) : Nat → Option Nat
  | 0 => none
  | j + 1 => match bes s D h k j with
    | some i => some i
    | none => if besP s D h k j = true then some j else none
def jnB (s : Sk) (D : Dy) (k : Nat) : Option Nat → Dy
  | none => D
  | some j => djn s D j k
def ja1 (s : Sk) (h : Nat) (D : Dy) (k : Nat) : Dy := if gN D 0 k = 1 then jnB s D k (bes s D h k k) else D
/-! what falls of a cloud -/
def flB (p : Nat → Nat) (all n o : Nat) : Nat := n * p o / all
def flM (p : Nat → Nat) (all n : Nat) : Nat → Nat
  | 0 => 0
  | o + 1 => flM p all n o + if flB p all n o < p o then 1 else 0
def flR (p : Nat → Nat) (all n : Nat) : Nat := n - sumN (flB p all n) 8
def flL (p : Nat → Nat) (all n o : Nat) : Nat := flB p all n o + if flB p all n o < p o ∧ flM p all n o < flR p all n then 1 else 0
def cix (s : Sk) (k h : Nat) : Nat := match ps s k h with
  | none => 0
  | some q => 8 * q.2 + q.1
def flS (D : Dy) (k n o : Nat) : Nat := flL (gN D (8 + k)) (rs D (8 + k)) n o
def dfl (D : Dy) (k c n : Nat) : Dy := if n = 0 then D else sR (sR D (8 + k) (fun o => gN D (8 + k) o - flS D k n o)) (20 + c) (fun o => gN D (20 + c) o + flS D k n o)
def gnB (b : Tb) (h k : Nat) : Nat → Bool
  | 0 => false
  | i + 1 => gnB b h k i || decide (b.2 i 0 = h ∧ b.2 i 1 = k ∧ b.2 i 2 = 2)
def sp1 (s : Sk) (b : Tb) (h : Nat) (D : Dy) (k : Nat) : Dy := if gN D 0 k = 1 ∧ gnB b h k b.1 = false then dfl D k (cix s k h) (rs D (8 + k) - kT s 7) else D
/-! orders -/
def sdN (x : Int32) : Int32 := x * nI 1103515245 + nI 12345
def drN (x : Int32) : Nat := x.toBitVec.toNat / 2 ^ 16 % 8
def obS (b : Tb) (D : Dy) (i : Nat) : Dy := if b.2 i 2 = 1 then sD D 0 0 (sdN (gD D 0 0)) else D
def obW (s : Sk) (b : Tb) (D : Dy) (i : Nat) : Nat := if b.2 i 2 = 0 then b.2 i 3 else if b.2 i 2 = 1 then (if drN (sdN (gD D 0 0)) < b.2 i 3 then kT s 6 else 0) else 0
def obF (s : Sk) (b : Tb) (D : Dy) (i : Nat) : Nat := min (obW s b D i) (min (kT s 6 - gN D 4 (b.2 i 1)) (rs D (8 + b.2 i 1)))
def ob1 (s : Sk) (b : Tb) (h : Nat) (D : Dy) (i : Nat) : Dy := if b.2 i 0 = h ∧ gN D 0 (b.2 i 1) = 1 then sN (dfl (obS b D i) (b.2 i 1) (cix s (b.2 i 1) h) (obF s b D i)) 4 (b.2 i 1) (gN D 4 (b.2 i 1) + obF s b D i) else D
/-! what fell lands -/
def fdA (s : Sk) (x y : Nat) : Nat → Option Nat
  | 0 => none
  | f + 1 => match fdA s x y f with
    | some i => some i
    | none => if kF s f 0 = x ∧ kF s f 1 = y then some f else none
def icA (s : Sk) (x y : Nat) : Nat → Option Nat
  | 0 => none
  | f + 1 => match icA s x y f with
    | some i => some i
    | none => if kI s f 0 = x ∧ kI s f 1 = y then some f else none
def icK (s : Sk) (h : Nat) : Option Nat → Option Nat
  | none => none
  | some g => if h < kI s g 2 then some g else none
/-- the glacier that still keeps -/
def icH (s : Sk) (h x y : Nat) : Option Nat := icK s h (icA s x y (kT s 4))
def thp (th : Nat) (r : Nat → Nat) : Nat → Nat
  | 0 => th
  | o + 1 => thp th r o - min (r o) (thp th r o)
def one (t i : Nat) (x : Int32) : Nat → Nat → Int32 := fun a b => if a = t ∧ b = i then x else 0
def sk1 (s : Sk) (f o n m : Nat) : Nat → Nat → Int32 := fun a b => one 1 f (nI m) a b + (one 3 o (nI n * nI (kF s f 5)) a b + (one 4 o (nI m * nI (kT s 9)) a b + (one 6 (kF s f 2) (nI n * nI (kF s f 5)) a b + (one 7 (kF s f 2) (nI m * nI (kT s 9)) a b + (one 0 3 (nI n) a b + one 0 4 (nI m) a b)))))
def skD (s : Sk) (f th : Nat) (r : Nat → Nat) : Nat → Nat → Nat → Int32
  | 0 => fun _ _ => 0
  | o + 1 => fun a b => skD s f th r o a b + sk1 s f o (min (r o) (thp th r o)) (r o - min (r o) (thp th r o)) a b
def hlB (s : Sk) (D : Dy) (f t : Nat) : Bool := decide (kT s 8 < rs D t) && decide (gD D 2 f = -1)
def moR (D : Dy) (t : Nat) : Nat := moI (fun o => nI (gN D t o)) 8
def hl1 (s : Sk) (f h m : Nat) : Nat → Nat → Int32 := fun a b => one 2 f (nI (h + 1)) a b + (one 5 m (nI (kF s f 4)) a b + (one 7 (kF s f 2) (nI (kF s f 4)) a b + one 0 6 (nI 1) a b))
def hlD (s : Sk) (h : Nat) (can : Bool) (D : Dy) (f t : Nat) : Nat → Nat → Int32 := if (can && hlB s D f t) = true then hl1 s f h (moR D t) else fun _ _ => 0
def ldF (s : Sk) (h : Nat) (can : Bool) (D : Dy) (f t : Nat) : Dy := addD (sN D 3 f (thp (gN D 3 f) (gN D t) 8)) (fun a b => hlD s h can D f t a b + skD s f (gN D 3 f) (gN D t) 8 a b)
def ldB (s : Sk) (h : Nat) (can : Bool) (D : Dy) (t : Nat) : Option Nat → Option Nat → Dy
  | some g, _ => sR D (16 + g) (fun o => gN D (16 + g) o + gN D t o)
  | none, none => sD D 0 5 (gD D 0 5 + nI (rs D t))
  | none, some f => ldF s h can D f t
def dld (s : Sk) (h : Nat) (can : Bool) (x y t : Nat) (D : Dy) : Dy := if rs D t = 0 then D else sR (ldB s h can D t (icH s h x y) (fdA s x y (kT s 3))) t (fun _ => 0)
def ml1 (s : Sk) (h : Nat) (D : Dy) (g : Nat) : Dy := if kI s g 2 = h then dld s h false (kI s g 0) (kI s g 1 + 1) (16 + g) D else D
/-- the cell of a number -/
def ld1 (s : Sk) (h : Nat) (D : Dy) (c : Nat) : Dy := dld s h true (c % 8) (c / 8) (20 + c) D
/-! the hours -/
def dMv (s : Sk) (h : Nat) (D : Dy) : Dy := fld (cm1 s h) (fld (go1 s h) D (kT s 2)) (kT s 2)
def dJn (s : Sk) (h : Nat) (D : Dy) : Dy := fld (ja1 s h) (dMv s h D) (kT s 2)
def dSp (s : Sk) (b : Tb) (h : Nat) (D : Dy) : Dy := sR (fld (sp1 s b h) (dJn s h D) (kT s 2)) 4 (fun _ => 0)
def dOb (s : Sk) (b : Tb) (h : Nat) (D : Dy) : Dy := fld (ob1 s b h) (dSp s b h D) b.1
def dLd (s : Sk) (b : Tb) (h : Nat) (D : Dy) : Dy := fld (ld1 s h) (dOb s b h D) 64
def dHr (s : Sk) (b : Tb) (h : Nat) (D : Dy) : Dy := fld (ml1 s h) (dLd s b h D) (kT s 4)
def dBg (s : Sk) (seed : Int32) : Dy := (fun t i => if t = 3 then kF s i 3 else 0, fun t i => if t = 0 ∧ i = 0 then seed else if t = 2 then -1 else 0)
def dRun (s : Sk) (b : Tb) (seed : Int32) : Nat → Dy
  | 0 => dBg s seed
  | h + 1 => dHr s b h (dRun s b seed h)
/-! sums of rows -/
theorem rs_sR {D : Dy} {t : Nat} {f : Nat → Nat} {a : Nat} : rs (sR D t f) a = if a = t then sumN f 8 else rs D a := by
  by_cases e : a = t
  · rw [if_pos e]; exact sumN_congr 8 (fun o ho => by rw [gN_sR, if_pos ⟨e, ho⟩])
  · rw [if_neg e]; exact sumN_congr 8 (fun o ho => by rw [gN_sR, if_neg (fun z => e z.1)])
theorem sumN_0 (n : Nat) : sumN (fun _ => 0) n = 0 := sumN_zero n (fun _ _ => rfl)
theorem rs_sN {D : Dy} {t i v a : Nat} (h : a ≠ t) : rs (sN D t i v) a = rs D a := sumN_congr 8 (fun o _ => by rw [gN_sN, if_neg (fun z => h z.1)])
theorem rs_sD {D : Dy} {t i : Nat} {v : Int32} {a : Nat} : rs (sD D t i v) a = rs D a := rfl
theorem rs_addD {D : Dy} {e : Nat → Nat → Int32} {a : Nat} : rs (addD D e) a = rs D a := rfl
theorem sumN_add (f g : Nat → Nat) : ∀ n, sumN (fun i => f i + g i) n = sumN f n + sumN g n
  | 0 => rfl
  | n + 1 => by rw [sumN, sumN, sumN, sumN_add f g n]; omega
theorem sumN_mono {f g : Nat → Nat} : ∀ n, (∀ i, i < n → f i ≤ g i) → sumN f n ≤ sumN g n
  | 0, _ => Nat.le_refl _
  | n + 1, h => by
    rw [sumN, sumN]
    have := sumN_mono n (fun i hi => h i (by omega)); have := h n (by omega); omega
theorem sumN_one {v x : Nat} : ∀ n, sumN (fun o => if o = x then v else 0) n = if x < n then v else 0
  | 0 => by rw [if_neg (by omega)]; rfl
  | n + 1 => by
    rw [sumN, sumN_one n]
    by_cases e : n = x
    · rw [if_neg (by omega), if_pos e, if_pos (by omega)]; omega
    · by_cases h : x < n
      · rw [if_pos h, if_neg e, if_pos (by omega), Nat.add_zero]
      · rw [if_neg h, if_neg e, if_neg (by omega)]
/-- two rows of many change -/
theorem sumN_up {f g : Nat → Nat} {a : Nat} : ∀ n, a < n → (∀ i, i < n → i ≠ a → f i = g i) → sumN f n + g a = sumN g n + f a
  | 0, h, _ => absurd h (Nat.not_lt_zero a)
  | n + 1, h, hf => by
    rw [sumN, sumN]
    by_cases e : a = n
    · subst e
      rw [sumN_congr a (fun i hi => hf i (by omega) (by omega))]; omega
    · have := sumN_up n (by omega) (fun i hi => hf i (by omega))
      have := hf n (by omega) (fun z => e z.symm)
      omega
/-- all the water: parts, kept, rain -/
def wat8 (D : Dy) : Nat := sumN (fun t => rs D (8 + t)) 76
theorem wat8_1 {D E : Dy} {t : Nat} (h1 : 8 ≤ t) (h2 : t < 84) (h : ∀ a, a ≠ t → 8 ≤ a → a < 84 → rs E a = rs D a) : wat8 E + rs D t = wat8 D + rs E t := by
  have := sumN_up (f := fun t => rs E (8 + t)) (g := fun t => rs D (8 + t)) (a := t - 8) 76 (by omega) (fun i hi hne => h _ (by omega) (by omega) (by omega))
  simp only [show 8 + (t - 8) = t by omega] at this
  exact this
theorem wat8_0 {D E : Dy} (h : ∀ a, 8 ≤ a → a < 84 → rs E a = rs D a) : wat8 E = wat8 D := sumN_congr 76 (fun i hi => h _ (by omega) (by omega))
theorem wat8_2 {D E : Dy} {t u : Nat} (h1 : 8 ≤ t) (h2 : t < 84) (g1 : 8 ≤ u) (g2 : u < 84) (hne : t ≠ u) (h : ∀ a, a ≠ t → a ≠ u → 8 ≤ a → a < 84 → rs E a = rs D a) : wat8 E + (rs D t + rs D u) = wat8 D + (rs E t + rs E u) := by
  obtain ⟨M, hM⟩ : ∃ M : Dy, M = sR D t (fun o => gN E t o) := ⟨_, rfl⟩
  have m1 : rs M t = rs E t := by rw [hM, rs_sR, if_pos rfl]; rfl
  have m2 : ∀ a, a ≠ t → rs M a = rs D a := fun a ha => by rw [hM, rs_sR, if_neg ha]
  have e1 := wat8_1 (D := D) (E := M) h1 h2 (fun a ha _ _ => m2 a ha)
  have e2 := wat8_1 (D := M) (E := E) g1 g2 (fun a ha q1 q2 => by
    by_cases e : a = t
    · subst e; exact m1.symm
    · rw [m2 a e]; exact h a e ha q1 q2)
  rw [m1] at e1
  rw [m2 u (fun z => hne z.symm)] at e2
  omega
theorem rs_wat {D : Dy} {t : Nat} (h1 : 8 ≤ t) (h2 : t < 84) : rs D t ≤ wat8 D := by
  have := sumN_mem (f := fun t => rs D (8 + t)) 76 (t - 8) (by omega)
  simp only [show 8 + (t - 8) = t by omega] at this
  exact this
theorem gN_rs {D : Dy} {t o : Nat} (ho : o < 8) : gN D t o ≤ rs D t := sumN_mem (f := gN D t) 8 o ho
