/-! THE DAY: in what order cells take their rain doesn't matter -/
theorem moI_congr {f g : Nat → Int32} : ∀ n, (∀ i, i < n → f i = g i) → moI f n = moI g n
  | 0, _ => rfl
  | 1, _ => by rw [moI, moI, moI, moI]; simp
  | n + 2, h => by
    have ih := moI_congr (n + 1) (fun i hi => h i (by omega))
    have hl := moI_lt g n
    show (if f (moI f (n + 1)) < f (n + 1) then n + 1 else moI f (n + 1)) = (if g (moI g (n + 1)) < g (n + 1) then n + 1 else moI g (n + 1))
    rw [ih, h (n + 1) (by omega), h (moI g (n + 1)) (by omega)]
theorem thp_congr {th : Nat} {r q : Nat → Nat} : ∀ o, (∀ i, i < o → r i = q i) → thp th r o = thp th q o
  | 0, _ => rfl
  | o + 1, h => by rw [thp, thp, thp_congr o (fun i hi => h i (by omega)), h o (by omega)]
theorem skD_congr {s : Sk} {f th : Nat} {r q : Nat → Nat} : ∀ o, (∀ i, i < o → r i = q i) → ∀ a b, skD s f th r o a b = skD s f th q o a b
  | 0, _, _, _ => rfl
  | o + 1, h, a, b => by
    show skD s f th r o a b + sk1 s f o _ _ a b = skD s f th q o a b + sk1 s f o _ _ a b
    rw [skD_congr o (fun i hi => h i (by omega)) a b, thp_congr o (fun i hi => h i (by omega)), h o (by omega)]
theorem one_ne {t i a b : Nat} {x : Int32} (h : ¬ (a = t ∧ b = i)) : one t i x a b = 0 := if_neg h
theorem zz : (0 : Int32) + 0 = 0 := rfl
theorem sk1_2 {s : Sk} {f o n m b : Nat} : sk1 s f o n m 2 b = 0 := by
  unfold sk1
  rw [one_ne (by omega), one_ne (by omega), one_ne (by omega), one_ne (by omega), one_ne (by omega), one_ne (by omega), one_ne (by omega)]; rfl
theorem skD_2 {s : Sk} {f th : Nat} {r : Nat → Nat} {b : Nat} : ∀ o, skD s f th r o 2 b = 0
  | 0 => rfl
  | o + 1 => by
    show skD s f th r o 2 b + sk1 s f o _ _ 2 b = 0
    rw [skD_2 o, sk1_2]; rfl
/-- what a cell's rain adds to the sums -/
def ldX (s : Sk) (h : Nat) (can : Bool) (D : Dy) (t : Nat) : Option Nat → Option Nat → Nat → Nat → Int32
  | some _, _ => fun _ _ => 0
  | none, none => one 0 5 (nI (rs D t))
  | none, some f => fun a b => hlD s h can D f t a b + skD s f (gN D 3 f) (gN D t) 8 a b
def ldN (D : Dy) (t : Nat) : Option Nat → Option Nat → Nat → Nat → Nat
  | some g, _ => fun a b => if a = 16 + g ∧ b < 8 then gN D (16 + g) b + gN D t b else gN D a b
  | none, none => gN D
  | none, some f => fun a b => if a = 3 ∧ b = f then thp (gN D 3 f) (gN D t) 8 else gN D a b
theorem gN_ldB {s : Sk} {h : Nat} {can : Bool} {D : Dy} {t : Nat} {G F : Option Nat} {a b : Nat} : gN (ldB s h can D t G F) a b = ldN D t G F a b := by
  cases G with
  | some g => rfl
  | none => cases F with
    | none => rfl
    | some f => rfl
theorem gD_ldB {s : Sk} {h : Nat} {can : Bool} {D : Dy} {t : Nat} {G F : Option Nat} {a b : Nat} : gD (ldB s h can D t G F) a b = gD D a b + ldX s h can D t G F a b := by
  cases G with
  | some g => show gD D a b = gD D a b + 0; rw [Int32.add_zero]
  | none => cases F with
    | none =>
      show (if a = 0 ∧ b = 5 then gD D 0 5 + nI (rs D t) else gD D a b) = gD D a b + (if a = 0 ∧ b = 5 then nI (rs D t) else 0)
      by_cases q : a = 0 ∧ b = 5
      · rw [if_pos q, if_pos q, q.1, q.2]
      · rw [if_neg q, if_neg q, Int32.add_zero]
    | some f => rfl
section LDC
variable {s : Sk} {h : Nat}
def cG (s : Sk) (h c : Nat) : Option Nat := icH s h (c % 8) (c / 8)
def cF (s : Sk) (c : Nat) : Option Nat := fdA s (c % 8) (c / 8) (kT s 3)
theorem gN_ld1 {D : Dy} {c a b : Nat} : gN (ld1 s h D c) a b = if rs D (20 + c) = 0 then gN D a b else if a = 20 + c ∧ b < 8 then 0 else ldN D (20 + c) (cG s h c) (cF s c) a b := by
  unfold ld1 dld
  by_cases q : rs D (20 + c) = 0
  · rw [if_pos q, if_pos q]
  · rw [if_neg q, if_neg q, gN_sR, gN_ldB]; rfl
theorem gD_ld1 {D : Dy} {c a b : Nat} : gD (ld1 s h D c) a b = gD D a b + if rs D (20 + c) = 0 then 0 else ldX s h true D (20 + c) (cG s h c) (cF s c) a b := by
  unfold ld1 dld
  by_cases q : rs D (20 + c) = 0
  · rw [if_pos q, if_pos q, Int32.add_zero]
  · rw [if_neg q, if_neg q, gD_sR, gD_ldB]; rfl
theorem ld1_hi {D : Dy} {c a b : Nat} (h1 : a ≠ 20 + c) (h2 : a ≠ 3) (h3 : ∀ g, cG s h c = some g → a ≠ 16 + g) : gN (ld1 s h D c) a b = gN D a b := by
  rw [gN_ld1]
  by_cases q : rs D (20 + c) = 0
  · rw [if_pos q]
  · rw [if_neg q, if_neg (fun z => h1 z.1)]
    unfold ldN
    cases e : cG s h c with
    | some g => show (if a = 16 + g ∧ b < 8 then _ else gN D a b) = _; rw [if_neg (fun z => h3 g e z.1)]
    | none => cases cF s c with
      | none => rfl
      | some f => show (if a = 3 ∧ b = f then _ else gN D a b) = _; rw [if_neg (fun z => h2 z.1)]
theorem cG_b (hv : VS s) {c g : Nat} (e : cG s h c = some g) : g < 3 ∧ kI s g 0 = c % 8 ∧ kI s g 1 = c / 8 := by
  have hG := hv.2.2.2.2.1
  have := icA_some _ (icH_some e).1
  exact ⟨by omega, this.2⟩
theorem ld1_rs (hv : VS s) {D : Dy} {c e : Nat} (hc : e ≠ c) : rs (ld1 s h D c) (20 + e) = rs D (20 + e) :=
  sumN_congr 8 (fun o _ => ld1_hi (by omega) (by omega) (fun g q => by have := cG_b hv q; omega))
theorem ld1_own {D : Dy} {c : Nat} : rs (ld1 s h D c) (20 + c) = 0 := by
  by_cases q : rs D (20 + c) = 0
  · have : ld1 s h D c = D := by unfold ld1 dld; rw [if_pos q]
    rw [this]; exact q
  · exact sumN_zero 8 (fun o ho => by rw [gN_ld1, if_neg q, if_pos ⟨rfl, ho⟩])
theorem ld1_id {D : Dy} {c : Nat} (q : rs D (20 + c) = 0) : ld1 s h D c = D := by unfold ld1 dld; rw [if_pos q]
theorem ld1_there {D : Dy} {c k : Nat} : gN (ld1 s h D c) 0 k = gN D 0 k := ld1_hi (by omega) (by omega) (fun g _ => by omega)
/-- other cells' fields -/
theorem cF_ne {c e f g : Nat} (hc : e ≠ c) (h1 : cF s c = some f) (h2 : cF s e = some g) : f ≠ g := by
  have a1 := fdA_some _ h1
  have a2 := fdA_some _ h2
  intro z
  subst z
  omega
theorem cG_ne {c e f g : Nat} (hc : e ≠ c) (h1 : cG s h c = some f) (h2 : cG s h e = some g) : f ≠ g := by
  have a1 := icA_some _ (icH_some h1).1
  have a2 := icA_some _ (icH_some h2).1
  intro z
  subst z
  omega
theorem ldX_2 {D : Dy} {c f : Nat} (hf : ∀ g, cF s c = some g → f ≠ g) : ldX s h true D (20 + c) (cG s h c) (cF s c) 2 f = 0 := by
  unfold ldX
  cases cG s h c with
  | some g => rfl
  | none => cases e : cF s c with
    | none => exact one_ne (by omega)
    | some g =>
      show hlD s h true D g (20 + c) 2 f + skD s g _ _ 8 2 f = 0
      rw [skD_2, Int32.add_zero]
      unfold hlD
      by_cases q : (true && hlB s D g (20 + c)) = true
      · rw [if_pos q]
        have := hf g e
        unfold hl1
        rw [one_ne (by omega), one_ne (by omega), one_ne (by omega), one_ne (by omega)]; rfl
      · rw [if_neg q]
theorem ld1_3 {D : Dy} {c f : Nat} (hf : ∀ g, cF s c = some g → f ≠ g) : gN (ld1 s h D c) 3 f = gN D 3 f := by
  rw [gN_ld1]
  by_cases q : rs D (20 + c) = 0
  · rw [if_pos q]
  · rw [if_neg q, if_neg (by omega)]
    unfold ldN
    cases e : cG s h c with
    | some g => show (if 3 = 16 + g ∧ f < 8 then _ else gN D 3 f) = _; rw [if_neg (by omega)]
    | none => cases e2 : cF s c with
      | none => rfl
      | some g => show (if 3 = 3 ∧ f = g then _ else gN D 3 f) = _; rw [if_neg (fun z => hf g e2 z.2)]
theorem ld1_2 {D : Dy} {c f : Nat} (hf : ∀ g, cF s c = some g → f ≠ g) : gD (ld1 s h D c) 2 f = gD D 2 f := by
  rw [gD_ld1, ldX_2 hf]
  by_cases q : rs D (20 + c) = 0
  · rw [if_pos q, Int32.add_zero]
  · rw [if_neg q, Int32.add_zero]
theorem ldX_ne (hv : VS s) {D : Dy} {c e : Nat} (hc : e ≠ c) (a b : Nat) : ldX s h true (ld1 s h D c) (20 + e) (cG s h e) (cF s e) a b = ldX s h true D (20 + e) (cG s h e) (cF s e) a b := by
  have hr := ld1_rs (h := h) hv (D := D) hc
  have row : ∀ o, gN (ld1 s h D c) (20 + e) o = gN D (20 + e) o := fun o => ld1_hi (by omega) (by omega) (fun g q => by have := cG_b hv q; omega)
  unfold ldX
  cases cG s h e with
  | some g => rfl
  | none => cases e2 : cF s e with
    | none => show one 0 5 _ a b = one 0 5 _ a b; rw [hr]
    | some f =>
      have hne : ∀ g, cF s c = some g → f ≠ g := fun g q z => cF_ne hc q e2 z.symm
      show hlD s h true (ld1 s h D c) f (20 + e) a b + skD s f _ _ 8 a b = hlD s h true D f (20 + e) a b + skD s f _ _ 8 a b
      have e3 : hlD s h true (ld1 s h D c) f (20 + e) a b = hlD s h true D f (20 + e) a b := by
        unfold hlD hlB moR
        rw [hr, ld1_2 hne, show (fun o => nI (gN (ld1 s h D c) (20 + e) o)) = (fun o => nI (gN D (20 + e) o)) from funext fun o => by rw [row]]
      rw [e3, ld1_3 hne, show gN (ld1 s h D c) (20 + e) = gN D (20 + e) from funext row]
theorem ld1_comm (hv : VS s) {D : Dy} {c e : Nat} (hc : e ≠ c) : ld1 s h (ld1 s h D c) e = ld1 s h (ld1 s h D e) c := by
  have r1 := ld1_rs (h := h) hv (D := D) hc
  have r2 := ld1_rs (h := h) hv (D := D) (fun z => hc z.symm)
  refine Dy.ext (fun a b => ?_) (fun a b => ?_)
  · have row1 : ∀ o, gN (ld1 s h D c) (20 + e) o = gN D (20 + e) o := fun o => ld1_hi (by omega) (by omega) (fun g q => by have := cG_b hv q; omega)
    have row2 : ∀ o, gN (ld1 s h D e) (20 + c) o = gN D (20 + c) o := fun o => ld1_hi (by omega) (by omega) (fun g q => by have := cG_b hv q; omega)
    rw [gN_ld1 (c := e), gN_ld1 (c := c) (D := ld1 s h D e), r1, r2]
    by_cases q1 : rs D (20 + e) = 0
    · rw [if_pos q1, ld1_id q1]
      rw [gN_ld1]
    · by_cases q2 : rs D (20 + c) = 0
      · rw [if_neg q1, if_pos q2, ld1_id q2, gN_ld1, if_neg q1]
      · rw [if_neg q1, if_neg q2]
        have A : ∀ a b, gN (ld1 s h D c) a b = if a = 20 + c ∧ b < 8 then 0 else ldN D (20 + c) (cG s h c) (cF s c) a b := fun a b => by rw [gN_ld1, if_neg q2]
        have B : ∀ a b, gN (ld1 s h D e) a b = if a = 20 + e ∧ b < 8 then 0 else ldN D (20 + e) (cG s h e) (cF s e) a b := fun a b => by rw [gN_ld1, if_neg q1]
        have gA : ldN (ld1 s h D c) (20 + e) (cG s h e) (cF s e) a b = match cG s h e, cF s e with
            | some g, _ => if a = 16 + g ∧ b < 8 then gN (ld1 s h D c) (16 + g) b + gN D (20 + e) b else gN (ld1 s h D c) a b
            | none, none => gN (ld1 s h D c) a b
            | none, some f => if a = 3 ∧ b = f then thp (gN D 3 f) (gN D (20 + e)) 8 else gN (ld1 s h D c) a b := by
          unfold ldN
          cases cG s h e with
          | some g => simp only [row1]
          | none => cases e2 : cF s e with
            | none => rfl
            | some f => simp only [ld1_3 (fun g q z => cF_ne hc q e2 z.symm), show gN (ld1 s h D c) (20 + e) = gN D (20 + e) from funext row1]
        have gB : ldN (ld1 s h D e) (20 + c) (cG s h c) (cF s c) a b = match cG s h c, cF s c with
            | some g, _ => if a = 16 + g ∧ b < 8 then gN (ld1 s h D e) (16 + g) b + gN D (20 + c) b else gN (ld1 s h D e) a b
            | none, none => gN (ld1 s h D e) a b
            | none, some f => if a = 3 ∧ b = f then thp (gN D 3 f) (gN D (20 + c)) 8 else gN (ld1 s h D e) a b := by
          unfold ldN
          cases cG s h c with
          | some g => simp only [row2]
          | none => cases e2 : cF s c with
            | none => rfl
            | some f => simp only [ld1_3 (fun g q z => cF_ne (fun y => hc y.symm) q e2 z.symm), show gN (ld1 s h D e) (20 + c) = gN D (20 + c) from funext row2]
        rw [gA, gB]
        simp only [A, B]
        unfold ldN
        cases e1 : cG s h e with
        | some g1 =>
          have b1 := cG_b hv e1
          cases e2 : cG s h c with
          | some g2 =>
            have b2 := cG_b hv e2
            have hg := cG_ne (fun z => hc z.symm) e1 e2
            simp only
            repeat' split
            all_goals first | rfl | omega
          | none => cases e3 : cF s c with
            | none => simp only; repeat' split
                      all_goals first | rfl | omega
            | some f => simp only; repeat' split
                        all_goals first | rfl | omega
        | none => cases e4 : cF s e with
          | none =>
            cases e2 : cG s h c with
            | some g2 =>
              have b2 := cG_b hv e2
              simp only
              repeat' split
              all_goals first | rfl | omega
            | none => cases e3 : cF s c with
              | none => simp only; repeat' split
                        all_goals first | rfl | omega
              | some f => simp only; repeat' split
                          all_goals first | rfl | omega
          | some f1 =>
            cases e2 : cG s h c with
            | some g2 =>
              have b2 := cG_b hv e2
              simp only
              repeat' split
              all_goals first | rfl | omega
            | none => cases e3 : cF s c with
              | none => simp only; repeat' split
                        all_goals first | rfl | omega
              | some f2 =>
                have hf := cF_ne (fun z => hc z.symm) e4 e3
                simp only
                repeat' split
                all_goals first | rfl | omega
  · rw [gD_ld1, gD_ld1, gD_ld1, gD_ld1, r1, r2, ldX_ne hv hc, ldX_ne hv (fun z => hc z.symm), Int32.add_assoc, Int32.add_assoc, Int32.add_comm (if rs D (20 + c) = 0 then _ else _)]
/-! the cells of some clouds, one after the other -/
def la1 (s : Sk) (h : Nat) (D : Dy) (k : Nat) : Dy := if gN D 0 k = 1 then ld1 s h D (cix s k h) else D
def pk (s : Sk) (h : Nat) (D : Dy) : Nat → Nat → Bool
  | 0, _ => false
  | k + 1, c => pk s h D k c || decide (gN D 0 k = 1 ∧ cix s k h = c)
def fS (s : Sk) (h : Nat) (p : Nat → Bool) (D : Dy) : Nat → Dy
  | 0 => D
  | c + 1 => if p c = true then ld1 s h (fS s h p D c) c else fS s h p D c
theorem fS_congr {p q : Nat → Bool} {D : Dy} : ∀ m, (∀ c, c < m → p c = q c) → fS s h p D m = fS s h q D m
  | 0, _ => rfl
  | m + 1, e => by rw [fS, fS, fS_congr m (fun c hc => e c (by omega)), e m (by omega)]
theorem fS_past (hv : VS s) {p : Nat → Bool} {D : Dy} {c : Nat} : ∀ m, m ≤ c → ld1 s h (fS s h p D m) c = fS s h p (ld1 s h D c) m
  | 0, _ => rfl
  | m + 1, hm => by
    rw [fS, fS]
    by_cases q : p m = true
    · rw [if_pos q, if_pos q, ← fS_past hv m (by omega), ld1_comm hv (by omega)]
    · rw [if_neg q, if_neg q]; exact fS_past hv m (by omega)
theorem fS_ins (hv : VS s) {p : Nat → Bool} {D : Dy} {c : Nat} (hp : p c = false) : ∀ m, c < m → ld1 s h (fS s h p D m) c = fS s h (fun e => p e || decide (c = e)) D m
  | 0, hc => absurd hc (Nat.not_lt_zero c)
  | m + 1, hc => by
    rw [fS, fS]
    by_cases e : c = m
    · subst e
      rw [if_neg (by rw [hp]; decide), if_pos (by rw [decide_eq_true rfl, Bool.or_true])]
      rw [fS_congr (p := fun e => p e || decide (c = e)) (q := p) c (fun i hi => by show (p i || decide (c = i)) = p i; rw [decide_eq_false (show ¬ c = i by omega), Bool.or_false])]
    · rw [decide_eq_false e, Bool.or_false]
      by_cases q : p m = true
      · rw [if_pos q, if_pos q, ld1_comm hv e, fS_ins hv hp m (by omega)]
      · rw [if_neg q, if_neg q]; exact fS_ins hv hp m (by omega)
theorem fS_rs (hv : VS s) {p : Nat → Bool} {D : Dy} {c : Nat} : ∀ m, rs (fS s h p D m) (20 + c) = if c < m ∧ p c = true then 0 else rs D (20 + c)
  | 0 => by rw [if_neg (by omega)]; rfl
  | m + 1 => by
    rw [fS]
    by_cases q : p m = true
    · rw [if_pos q]
      by_cases e : c = m
      · subst e; rw [ld1_own, if_pos ⟨by omega, q⟩]
      · rw [ld1_rs hv e, fS_rs hv m]
        by_cases r : c < m ∧ p c = true
        · rw [if_pos r, if_pos ⟨by omega, r.2⟩]
        · rw [if_neg r, if_neg (fun z => r ⟨by omega, z.2⟩)]
    · rw [if_neg q, fS_rs hv m]
      by_cases r : c < m ∧ p c = true
      · rw [if_pos r, if_pos ⟨by omega, r.2⟩]
      · rw [if_neg r, if_neg (fun z => r ⟨by
          have : c ≠ m := fun y => q (by rw [← y]; exact z.2)
          omega, z.2⟩)]
theorem fS_0 {p : Nat → Bool} {D : Dy} {k : Nat} : ∀ m, gN (fS s h p D m) 0 k = gN D 0 k
  | 0 => rfl
  | m + 1 => by
    rw [fS]
    by_cases q : p m = true
    · rw [if_pos q, ld1_there, fS_0 m]
    · rw [if_neg q, fS_0 m]
theorem la_eq (hv : VS s) {D : Dy} : ∀ k, k ≤ kT s 2 → fld (la1 s h) D k = fS s h (pk s h D k) D 64
  | 0, _ => by
    have aux : ∀ m, fS s h (pk s h D 0) D m = D := by
      intro m
      induction m with
      | zero => rfl
      | succ m ih => rw [fS, if_neg (by show ¬ false = true; decide), ih]
    rw [aux]; rfl
  | k + 1, hk => by
    rw [fld, la_eq hv k (by omega), la1, fS_0]
    by_cases t : gN D 0 k = 1
    · rw [if_pos t]
      have hc := cix_lt (h := h) hv (show k < kT s 2 by omega)
      cases e : pk s h D k (cix s k h) with
      | true =>
        rw [ld1_id (by rw [fS_rs hv, if_pos ⟨hc, e⟩])]
        refine fS_congr 64 (fun c _ => ?_)
        rw [pk]
        by_cases z : cix s k h = c
        · rw [← z, e]; rfl
        · rw [decide_eq_false (fun y => z y.2), Bool.or_false]
      | false =>
        rw [fS_ins hv e 64 hc]
        refine fS_congr 64 (fun c _ => ?_)
        rw [pk]
        congr 1
        exact decide_eq_decide.mpr ⟨fun z => ⟨t, z⟩, fun z => z.2⟩
    · rw [if_neg t]
      refine fS_congr 64 (fun c _ => ?_)
      rw [pk, decide_eq_false (fun z => t z.1), Bool.or_false]
/-- rain lies where clouds are -/
def rIn (s : Sk) (h : Nat) (D : Dy) : Prop := ∀ c, c < 64 → rs D (20 + c) ≠ 0 → ∃ k, k < kT s 2 ∧ gN D 0 k = 1 ∧ cix s k h = c
theorem pk_mem {D : Dy} {c : Nat} : ∀ n k, k < n → gN D 0 k = 1 → cix s k h = c → pk s h D n c = true
  | 0, k, hk, _, _ => absurd hk (Nat.not_lt_zero k)
  | n + 1, k, hk, h1, h2 => by
    rw [pk, Bool.or_eq_true]
    by_cases e : k = n
    · subst e; exact Or.inr (decide_eq_true ⟨h1, h2⟩)
    · exact Or.inl (pk_mem n k (by omega) h1 h2)
theorem la_all (hv : VS s) {D : Dy} (hr : rIn s h D) : fld (la1 s h) D (kT s 2) = fld (ld1 s h) D 64 := by
  rw [la_eq hv _ (Nat.le_refl _)]
  have aux : ∀ m, m ≤ 64 → fS s h (pk s h D (kT s 2)) D m = fld (ld1 s h) D m ∧ ∀ c, m ≤ c → rs (fld (ld1 s h) D m) (20 + c) = rs D (20 + c) := by
    intro m
    induction m with
    | zero => exact fun _ => ⟨rfl, fun _ _ => rfl⟩
    | succ m ih =>
      intro hm
      obtain ⟨i1, i2⟩ := ih (by omega)
      refine ⟨?_, fun c hc => by rw [fld, ld1_rs hv (by omega)]; exact i2 c (by omega)⟩
      rw [fS, fld, i1]
      by_cases q : pk s h D (kT s 2) m = true
      · rw [if_pos q]
      · rw [if_neg q, ld1_id]
        rw [i2 m (Nat.le_refl m)]
        exact Classical.byContradiction fun z => by
          obtain ⟨k, h1, h2, h3⟩ := hr m (by omega) z
          exact q (pk_mem _ k h1 h2 h3)
  exact (aux 64 (Nat.le_refl _)).1
theorem ld_dry (hv : VS s) {D : Dy} {c : Nat} : ∀ m, c < m → rs (fld (ld1 s h) D m) (20 + c) = 0
  | 0, hc => absurd hc (Nat.not_lt_zero c)
  | m + 1, hc => by
    rw [fld]
    by_cases e : c = m
    · subst e; exact ld1_own
    · rw [ld1_rs hv e]; exact ld_dry hv m (by omega)
end LDC
