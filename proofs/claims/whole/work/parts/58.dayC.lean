/-! THE DAY: joins, what falls, orders, what lands keep what holds -/
theorem bes_some {s : Sk} {D : Dy} {h k : Nat} : ∀ n j, bes s D h k n = some j → j < n ∧ gN D 0 j = 1 ∧ kC s j 2 = kC s k 2 ∧ ps s j h = ps s k h ∧ ∀ i, i < j → besP s D h k i = false
  | 0, j, e => by cases e
  | n + 1, j, e => by
    rw [bes] at e
    cases e2 : bes s D h k n with
    | some i =>
      rw [e2] at e
      cases e
      have := bes_some n j e2
      exact ⟨by omega, this.2⟩
    | none =>
      rw [e2] at e
      simp only at e
      by_cases q : besP s D h k n = true
      · rw [if_pos q] at e
        cases e
        have q2 := of_decide_eq_true q
        refine ⟨by omega, q2.1, q2.2.1, q2.2.2, ?_⟩
        have aux : ∀ m, bes s D h k m = none → ∀ i, i < m → besP s D h k i = false := by
          intro m
          induction m with
          | zero => exact fun _ i hi => absurd hi (Nat.not_lt_zero i)
          | succ m ih =>
            intro e3 i hi
            rw [bes] at e3
            cases e4 : bes s D h k m with
            | some z => rw [e4] at e3; cases e3
            | none =>
              rw [e4] at e3
              simp only at e3
              by_cases e5 : i = m
              · subst e5
                cases e6 : besP s D h k i with
                | false => rfl
                | true => rw [if_pos e6] at e3; cases e3
              · exact ih e4 i (by omega)
        exact aux n e2
      · rw [if_neg q] at e; cases e
section DVC
variable {s : Sk} {h : Nat}
theorem gN_jn0 {D : Dy} {k a b : Nat} : gN (jn0 D k) a b = if a = 8 + k ∧ b < 8 then 0 else if a = 0 ∧ b = k then 0 else gN D a b := by unfold jn0; rw [gN_sD, gN_sR, gN_sN]
/-- what a join leaves, read -/
theorem gN_djn {D : Dy} {j k a b : Nat} : gN (djn s D j k) a b = if a = 8 + j ∧ b < 8 then (if kT s 5 = 2 then gN D (8 + j) b + gN D (8 + k) b else if b = jnO s D j k then rs D (8 + j) + rs D (8 + k) else 0) else if kT s 5 ≠ 2 ∧ a = 2 ∧ b = j then jnM s D j k else if kT s 5 ≠ 2 ∧ a = 1 ∧ b = j then jnO s D j k else if a = 8 + k ∧ b < 8 then 0 else if a = 0 ∧ b = k then 0 else gN D a b := by
  unfold djn
  by_cases q : kT s 5 = 2
  · rw [if_pos q, gN_sR, gN_jn0, if_pos q]; simp only [ne_eq, q, not_true_eq_false, false_and, if_false]
  · rw [if_neg q, gN_sR, gN_sN, gN_sN, gN_jn0, if_neg q]
    simp only [ne_eq, q, not_false_eq_true, true_and]
theorem djn_dv {D : Dy} {A : Nat → Prop} {c j k : Nat} (hv : VS s) (hk : k < kT s 2) (hj : j < k) (tj : gN D 0 j = 1) (tk : gN D 0 k = 1) (hd : DVx s A c D) : DVx s A c (djn s D j k) := by
  have hn := hv.2.2.1
  have oj := (hd.1 j (by omega) tj).2
  have ok := (hd.1 k hk tk).2
  have hO : jnO s D j k ≤ 7 := by unfold jnO; by_cases q : ltr s D k j = true <;> simp only [q] <;> simp <;> omega
  have hM : jnM s D j k ≤ 1000 := by unfold jnM; by_cases q : ltr s D k j = true <;> simp only [q] <;> simp <;> omega
  refine ⟨fun i hi ht => ?_, fun i hi ht o ho => ?_, ?_, fun f hf => ?_⟩
  · rw [gN_djn, if_neg (by omega), if_neg (by omega), if_neg (by omega), if_neg (by omega)] at ht
    by_cases e : i = k
    · rw [if_pos ⟨rfl, e⟩] at ht; cases ht
    · rw [if_neg (fun z => e z.2)] at ht
      have := hd.1 i hi ht
      refine ⟨this.1, ?_, ?_⟩
      · rw [gN_djn, if_neg (by omega), if_neg (by omega)]
        by_cases q : kT s 5 ≠ 2 ∧ 1 = 1 ∧ i = j
        · rw [if_pos q]; exact hO
        · rw [if_neg q, if_neg (by omega), if_neg (by omega)]; exact this.2.1
      · rw [gN_djn, if_neg (by omega)]
        by_cases q : kT s 5 ≠ 2 ∧ 2 = 2 ∧ i = j
        · rw [if_pos q]; exact hM
        · rw [if_neg q, if_neg (by omega), if_neg (by omega), if_neg (by omega)]; exact this.2.2
  · rw [gN_djn, if_neg (by omega), if_neg (by omega), if_neg (by omega), if_neg (by omega)] at ht
    by_cases e : i = k
    · rw [gN_djn, if_neg (by omega), if_neg (by omega), if_neg (by omega), if_pos (by omega)]
    · rw [if_neg (fun z => e z.2)] at ht
      have : i ≠ j := fun z => ht (by rw [z]; exact tj)
      rw [gN_djn, if_neg (by omega), if_neg (by omega), if_neg (by omega), if_neg (by omega), if_neg (by omega)]
      exact hd.2.1 i hi ht o ho
  · have e1 : rs (djn s D j k) (8 + j) = rs D (8 + j) + rs D (8 + k) := by
      by_cases q : kT s 5 = 2
      · have : rs (djn s D j k) (8 + j) = sumN (fun o => gN D (8 + j) o + gN D (8 + k) o) 8 := sumN_congr 8 (fun o ho => by rw [gN_djn, if_pos ⟨rfl, ho⟩, if_pos q])
        rw [this, sumN_add]; rfl
      · have : rs (djn s D j k) (8 + j) = sumN (fun o => if o = jnO s D j k then rs D (8 + j) + rs D (8 + k) else 0) 8 := sumN_congr 8 (fun o ho => by rw [gN_djn, if_pos ⟨rfl, ho⟩, if_neg q])
        rw [this, sumN_one, if_pos (by omega)]
    have e2 : rs (djn s D j k) (8 + k) = 0 := sumN_zero 8 (fun o ho => by rw [gN_djn, if_neg (by omega), if_neg (by omega), if_neg (by omega), if_pos ⟨rfl, ho⟩])
    have e3 : ∀ a, a ≠ 8 + j → a ≠ 8 + k → 8 ≤ a → rs (djn s D j k) a = rs D a := fun a h1 h2 h3 => sumN_congr 8 (fun o ho => by rw [gN_djn, if_neg (by omega), if_neg (by omega), if_neg (by omega), if_neg (by omega), if_neg (by omega)])
    have := wat8_2 (D := D) (E := djn s D j k) (t := 8 + j) (u := 8 + k) (by omega) (by omega) (by omega) (by omega) (by omega) (fun a h1 h2 h3 _ => e3 a h1 h2 h3)
    have := hd.2.2.1
    omega
  · rw [gN_djn, if_neg (by omega), if_neg (by omega), if_neg (by omega), if_neg (by omega), if_neg (by omega)]; exact hd.2.2.2 f hf
theorem ja1_dv {D : Dy} {A : Nat → Prop} {c k : Nat} (hv : VS s) (hk : k < kT s 2) (hd : DVx s A c D) : DVx s A c (ja1 s h D k) := by
  unfold ja1
  by_cases q : gN D 0 k = 1
  · rw [if_pos q]
    cases e : bes s D h k k with
    | none => exact hd
    | some j =>
      have := bes_some k j e
      exact djn_dv hv hk this.1 this.2.1 q hd
  · rw [if_neg q]; exact hd
theorem fld_dv {f : Dy → Nat → Dy} {A : Nat → Prop} {c n : Nat} (hf : ∀ D k, k < n → DVx s A c D → DVx s A c (f D k)) {D : Dy} (hd : DVx s A c D) : ∀ k, k ≤ n → DVx s A c (fld f D k)
  | 0, _ => hd
  | k + 1, hk => hf _ k (by omega) (fld_dv hf hd k (by omega))
/-! what falls of a cloud of several -/
theorem flB_le {p : Nat → Nat} {all n o : Nat} (h : n ≤ all) : flB p all n o ≤ p o := by
  unfold flB
  by_cases q : all = 0
  · rw [q, Nat.div_zero]; exact Nat.zero_le _
  · exact (Nat.div_le_iff_le_mul_add_pred (by omega)).mpr (by
      have := Nat.mul_le_mul_right (p o) h; omega)
theorem flB_lt {p : Nat → Nat} {all n o : Nat} (h : n ≤ all) (h0 : 0 < all) (hm : n * p o % all ≠ 0) : flB p all n o < p o := by
  have h1 := flB_le (p := p) (o := o) h
  refine Nat.lt_of_le_of_ne h1 (fun e => hm ?_)
  have h2 := Nat.div_add_mod (n * p o) all
  have e2 : n * p o / all = p o := e
  rw [e2] at h2
  have h3 := Nat.mul_le_mul_right (p o) h
  omega
theorem sumN_mul (x : Nat) (p : Nat → Nat) : ∀ m, x * sumN p m = sumN (fun o => x * p o) m
  | 0 => rfl
  | m + 1 => by rw [sumN, sumN, Nat.mul_add, sumN_mul x p m]
/-- no more is left over than there are owners who have some -/
theorem flR_le {p : Nat → Nat} {all n : Nat} (ha : all = sumN p 8) (h : n ≤ all) (h0 : 0 < all) : sumN (flB p all n) 8 ≤ n ∧ flR p all n ≤ flM p all n 8 := by
  have key : ∀ m, sumN (fun o => n * p o) m = all * sumN (flB p all n) m + sumN (fun o => n * p o % all) m := by
    intro m
    induction m with
    | zero => rfl
    | succ m ih =>
      rw [sumN, sumN, sumN, ih, Nat.mul_add]
      have := Nat.div_add_mod (n * p m) all
      have e : flB p all n m = n * p m / all := rfl
      rw [e]; omega
  have hM : ∀ m, sumN (fun o => n * p o % all) m ≤ all * flM p all n m := by
    intro m
    induction m with
    | zero => exact Nat.zero_le _
    | succ m ih =>
      rw [sumN, flM, Nat.mul_add]
      by_cases q : n * p m % all = 0
      · have := Nat.zero_le (all * (if flB p all n m < p m then 1 else 0)); omega
      · rw [if_pos (flB_lt h h0 q)]
        have := Nat.mod_lt (n * p m) h0; omega
  have e8 : sumN (fun o => n * p o) 8 = all * n := by rw [← sumN_mul, ← ha, Nat.mul_comm]
  have k8 := key 8
  rw [e8] at k8
  have m8 := hM 8
  have h1 : sumN (flB p all n) 8 ≤ n := Nat.le_of_mul_le_mul_left (show all * sumN (flB p all n) 8 ≤ all * n by omega) h0
  refine ⟨h1, ?_⟩
  unfold flR
  refine Nat.le_of_mul_le_mul_left (show all * (n - sumN (flB p all n) 8) ≤ all * flM p all n 8 from ?_) h0
  rw [Nat.mul_sub]; omega
theorem flL_le {p : Nat → Nat} {all n o : Nat} (h : n ≤ all) : flL p all n o ≤ p o := by
  have := flB_le (p := p) (o := o) h
  unfold flL
  by_cases q : flB p all n o < p o ∧ flM p all n o < flR p all n
  · rw [if_pos q]; omega
  · rw [if_neg q]; omega
theorem flL_sum {p : Nat → Nat} {all n : Nat} (ha : all = sumN p 8) (h : n ≤ all) (h0 : 0 < all) : sumN (flL p all n) 8 = n := by
  have ⟨h1, h2⟩ := flR_le ha h h0
  have key : ∀ m, sumN (flL p all n) m = sumN (flB p all n) m + min (flM p all n m) (flR p all n) := by
    intro m
    induction m with
    | zero => show 0 = 0 + min 0 _; rw [Nat.zero_min]
    | succ m ih =>
      rw [sumN, sumN, ih, flM, flL]
      by_cases q : flB p all n m < p m
      · rw [if_pos q]
        by_cases q2 : flM p all n m < flR p all n
        · rw [if_pos ⟨q, q2⟩]; omega
        · rw [if_neg (fun z => q2 z.2)]; omega
      · rw [if_neg q, if_neg (fun z => q z.1)]; omega
  rw [key 8, Nat.min_eq_right h2]
  unfold flR; omega
theorem gN_dfl {D : Dy} {k c n a b : Nat} (hn : n ≠ 0) : gN (dfl D k c n) a b = if a = 20 + c ∧ b < 8 then gN D (20 + c) b + flS D k n b else if a = 8 + k ∧ b < 8 then gN D (8 + k) b - flS D k n b else gN D a b := by
  rw [dfl, if_neg hn, gN_sR, gN_sR]
theorem gD_dfl {D : Dy} {k c n a b : Nat} : gD (dfl D k c n) a b = gD D a b := by
  unfold dfl
  by_cases q : n = 0
  · rw [if_pos q]
  · rw [if_neg q, gD_sR, gD_sR]
theorem dfl_dv {D : Dy} {A : Nat → Prop} {e k c n : Nat} (hv : VS s) (hk : k < kT s 2) (tk : gN D 0 k = 1) (hc : c < 64) (hn : n ≤ rs D (8 + k)) (hd : DVx s A e D) : DVx s A e (dfl D k c n) := by
  have h8 := hv.2.2.1
  by_cases q : n = 0
  · rw [dfl, if_pos q]; exact hd
  have fs : sumN (flS D k n) 8 = n := flL_sum rfl hn (by omega)
  have e1 : rs (dfl D k c n) (8 + k) + n = rs D (8 + k) := by
    have a1 : sumN (fun o => (gN D (8 + k) o - flS D k n o) + flS D k n o) 8 = rs D (8 + k) := sumN_congr 8 (fun o _ => by
      have : flS D k n o ≤ gN D (8 + k) o := flL_le hn
      omega)
    rw [sumN_add, fs] at a1
    rw [← a1]; congr 1
    exact sumN_congr 8 (fun o ho => by rw [gN_dfl q, if_neg (by omega), if_pos ⟨rfl, ho⟩])
  have e2 : rs (dfl D k c n) (20 + c) = rs D (20 + c) + n := by
    have a1 := sumN_add (gN D (20 + c)) (flS D k n) 8
    rw [fs] at a1
    rw [show rs D (20 + c) = sumN (gN D (20 + c)) 8 from rfl, ← a1]
    exact sumN_congr 8 (fun o ho => by rw [gN_dfl q, if_pos ⟨rfl, ho⟩])
  have e3 : ∀ a, a ≠ 8 + k → a ≠ 20 + c → rs (dfl D k c n) a = rs D a := fun a h1 h2 => sumN_congr 8 (fun o ho => by rw [gN_dfl q, if_neg (by omega), if_neg (by omega)])
  refine hd.keep (fun i => ?_) (fun i => ?_) (fun i => ?_) (fun f _ => ?_) (fun i hi ht o ho => ?_) ?_
  · rw [gN_dfl q, if_neg (by omega), if_neg (by omega)]
  · rw [gN_dfl q, if_neg (by omega), if_neg (by omega)]
  · rw [gN_dfl q, if_neg (by omega), if_neg (by omega)]
  · rw [gN_dfl q, if_neg (by omega), if_neg (by omega)]; exact Nat.le_refl _
  · have : i ≠ k := fun z => ht (by rw [z]; exact tk)
    rw [gN_dfl q, if_neg (by omega), if_neg (by omega)]
  · have := wat8_2 (D := D) (E := dfl D k c n) (t := 8 + k) (u := 20 + c) (by omega) (by omega) (by omega) (by omega) (by omega) (fun a h1 h2 _ _ => e3 a h1 h2)
    omega
theorem cix_lt {s : Sk} (hv : VS s) {k h : Nat} (hk : k < kT s 2) : cix s k h < 64 := by
  have s1 := hv.1
  have s2 := hv.2.1
  unfold cix
  cases e : ps s k h with
  | none => show 0 < 64; omega
  | some q => have := ps_in hv hk h q e; show 8 * q.2 + q.1 < 64; omega
theorem sp1_dv {D : Dy} {b : Tb} {A : Nat → Prop} {c k : Nat} (hv : VS s) (hk : k < kT s 2) (hd : DVx s A c D) : DVx s A c (sp1 s b h D k) := by
  unfold sp1
  by_cases q : gN D 0 k = 1 ∧ gnB b h k b.1 = false
  · rw [if_pos q]; exact dfl_dv hv hk q.1 (cix_lt hv hk) (Nat.sub_le _ _) hd
  · rw [if_neg q]; exact hd
theorem DVx.sN4 {D : Dy} {A : Nat → Prop} {c i v : Nat} (hd : DVx s A c D) : DVx s A c (sN D 4 i v) :=
  hd.keep (fun _ => by rw [gN_sN, if_neg (by omega)]) (fun _ => by rw [gN_sN, if_neg (by omega)]) (fun _ => by rw [gN_sN, if_neg (by omega)]) (fun _ _ => by rw [gN_sN, if_neg (by omega)]; exact Nat.le_refl _) (fun _ _ _ _ _ => by rw [gN_sN, if_neg (by omega)]) (Nat.le_of_eq (wat8_0 (fun a h8 _ => rs_sN (by omega))))
theorem DVx.sR4 {D : Dy} {A : Nat → Prop} {c : Nat} {f : Nat → Nat} (hd : DVx s A c D) : DVx s A c (sR D 4 f) :=
  hd.keep (fun _ => by rw [gN_sR, if_neg (by omega)]) (fun _ => by rw [gN_sR, if_neg (by omega)]) (fun _ => by rw [gN_sR, if_neg (by omega)]) (fun _ _ => by rw [gN_sR, if_neg (by omega)]; exact Nat.le_refl _) (fun _ _ _ _ _ => by rw [gN_sR, if_neg (by omega)]) (Nat.le_of_eq (wat8_0 (fun a h8 _ => by rw [rs_sR, if_neg (by omega)])))
theorem DVx.sD {D : Dy} {A : Nat → Prop} {c t i : Nat} {v : Int32} (hd : DVx s A c D) : DVx s A c (sD D t i v) := ⟨hd.1, hd.2.1, hd.2.2⟩
theorem ob1_dv {D : Dy} {b : Tb} {A : Nat → Prop} {c i : Nat} (hv : VS s) (hk : b.2 i 1 < kT s 2) (hd : DVx s A c D) : DVx s A c (ob1 s b h D i) := by
  unfold ob1
  by_cases q : b.2 i 0 = h ∧ gN D 0 (b.2 i 1) = 1
  · rw [if_pos q]
    refine DVx.sN4 (dfl_dv hv hk ?_ (cix_lt hv hk) ?_ ?_)
    · unfold obS; by_cases r : b.2 i 2 = 1
      · rw [if_pos r]; exact q.2
      · rw [if_neg r]; exact q.2
    · have e : rs (obS b D i) (8 + b.2 i 1) = rs D (8 + b.2 i 1) := by
        unfold obS; by_cases r : b.2 i 2 = 1
        · rw [if_pos r, rs_sD]
        · rw [if_neg r]
      rw [e]; unfold obF; omega
    · unfold obS; by_cases r : b.2 i 2 = 1
      · rw [if_pos r]; exact hd.sD
      · rw [if_neg r]; exact hd
  · rw [if_neg q]; exact hd
/-! what lands -/
theorem thp_le (th : Nat) (r : Nat → Nat) : ∀ o, thp th r o ≤ th
  | 0 => Nat.le_refl _
  | o + 1 => by rw [thp]; have := thp_le th r o; omega
theorem icH_some {h x y g : Nat} (e : icH s h x y = some g) : icA s x y (kT s 4) = some g ∧ h < kI s g 2 := by
  unfold icH at e
  cases e2 : icA s x y (kT s 4) with
  | none => rw [e2] at e; cases e
  | some z =>
    rw [e2] at e
    unfold icK at e
    by_cases q : h < kI s z 2
    · simp only [if_pos q] at e; cases e; exact ⟨rfl, q⟩
    · simp only [if_neg q] at e; cases e
theorem icA_some {x y g : Nat} : ∀ n, icA s x y n = some g → g < n ∧ kI s g 0 = x ∧ kI s g 1 = y
  | 0, e => by cases e
  | n + 1, e => by
    rw [icA] at e
    cases e2 : icA s x y n with
    | some z => rw [e2] at e; cases e; have := icA_some n e2; exact ⟨by omega, this.2⟩
    | none =>
      rw [e2] at e
      simp only at e
      by_cases q : kI s n 0 = x ∧ kI s n 1 = y
      · rw [if_pos q] at e; cases e; exact ⟨by omega, q⟩
      · rw [if_neg q] at e; cases e
theorem fdA_some {x y g : Nat} : ∀ n, fdA s x y n = some g → g < n ∧ kF s g 0 = x ∧ kF s g 1 = y
  | 0, e => by cases e
  | n + 1, e => by
    rw [fdA] at e
    cases e2 : fdA s x y n with
    | some z => rw [e2] at e; cases e; have := fdA_some n e2; exact ⟨by omega, this.2⟩
    | none =>
      rw [e2] at e
      simp only at e
      by_cases q : kF s n 0 = x ∧ kF s n 1 = y
      · rw [if_pos q] at e; cases e; exact ⟨by omega, q⟩
      · rw [if_neg q] at e; cases e
theorem DVx.zero {D : Dy} {A : Nat → Prop} {c t : Nat} (hd : DVx s A c D) (h1 : 16 ≤ t) (h2 : t < 84) (hn : kT s 2 ≤ 8) : DVx s A c (sR D t (fun _ => 0)) := by
  refine hd.keep (fun _ => by rw [gN_sR, if_neg (by omega)]) (fun _ => by rw [gN_sR, if_neg (by omega)]) (fun _ => by rw [gN_sR, if_neg (by omega)]) (fun _ _ => by rw [gN_sR, if_neg (by omega)]; exact Nat.le_refl _) (fun _ _ _ _ _ => by rw [gN_sR, if_neg (by omega)]) ?_
  have := wat8_1 (D := D) (E := sR D t (fun _ => 0)) (t := t) (by omega) h2 (fun a ha _ _ => by rw [rs_sR, if_neg ha])
  rw [rs_sR, if_pos rfl, sumN_0] at this
  omega
theorem dld_dv {D : Dy} {A : Nat → Prop} {c x y t : Nat} {can : Bool} (hv : VS s) (h1 : 16 ≤ t) (h2 : t < 84) (hg : ∀ g, icH s h x y = some g → t ≠ 16 + g) (hd : DVx s A c D) : DVx s A c (dld s h can x y t D) := by
  have hn := hv.2.2.1
  have hG := hv.2.2.2.2.1
  unfold dld
  by_cases q : rs D t = 0
  · rw [if_pos q]; exact hd
  rw [if_neg q]
  cases e : icH s h x y with
  | some g =>
    have hgl := icA_some _ (icH_some e).1
    have hne := hg g e
    refine hd.keep (fun _ => ?_) (fun _ => ?_) (fun _ => ?_) (fun _ _ => ?_) (fun _ _ _ _ _ => ?_) ?_
    · rw [gN_sR, if_neg (by omega)]; show gN (sR D (16 + g) _) _ _ = _; rw [gN_sR, if_neg (by omega)]
    · rw [gN_sR, if_neg (by omega)]; show gN (sR D (16 + g) _) _ _ = _; rw [gN_sR, if_neg (by omega)]
    · rw [gN_sR, if_neg (by omega)]; show gN (sR D (16 + g) _) _ _ = _; rw [gN_sR, if_neg (by omega)]
    · rw [gN_sR, if_neg (by omega)]; show gN (sR D (16 + g) _) _ _ ≤ _; rw [gN_sR, if_neg (by omega)]; exact Nat.le_refl _
    · rw [gN_sR, if_neg (by omega)]; show gN (sR D (16 + g) _) _ _ = _; rw [gN_sR, if_neg (by omega)]
    · have er : ∀ a, rs (sR (ldB s h can D t (some g) (fdA s x y (kT s 3))) t (fun _ => 0)) a = if a = t then 0 else if a = 16 + g then rs D (16 + g) + rs D t else rs D a := fun a => by
        rw [rs_sR, sumN_0]
        by_cases e1 : a = t
        · rw [if_pos e1, if_pos e1]
        · rw [if_neg e1, if_neg e1]
          show rs (sR D (16 + g) _) a = _
          rw [rs_sR, sumN_add]; rfl
      have := wat8_2 (D := D) (E := sR (ldB s h can D t (some g) (fdA s x y (kT s 3))) t (fun _ => 0)) (t := t) (u := 16 + g) (by omega) h2 (by omega) (by omega) hne (fun a e1 e2 _ _ => by rw [er, if_neg e1, if_neg e2])
      rw [er, if_pos rfl, er, if_neg (fun z => hne z.symm), if_pos rfl] at this
      omega
  | none =>
    cases e2 : fdA s x y (kT s 3) with
    | none => exact DVx.zero (DVx.sD hd) h1 h2 hn
    | some f =>
      refine DVx.zero ?_ h1 h2 hn
      refine hd.keep (fun _ => ?_) (fun _ => ?_) (fun _ => ?_) (fun z _ => ?_) (fun _ _ _ _ _ => ?_) ?_
      · show gN (ldF s h can D f t) _ _ = _; unfold ldF; rw [gN_addD, gN_sN, if_neg (by omega)]
      · show gN (ldF s h can D f t) _ _ = _; unfold ldF; rw [gN_addD, gN_sN, if_neg (by omega)]
      · show gN (ldF s h can D f t) _ _ = _; unfold ldF; rw [gN_addD, gN_sN, if_neg (by omega)]
      · show gN (ldF s h can D f t) _ _ ≤ _; unfold ldF; rw [gN_addD, gN_sN]
        by_cases e3 : z = f
        · rw [if_pos ⟨rfl, e3⟩, e3]; exact thp_le _ _ _
        · rw [if_neg (fun z => e3 z.2)]; exact Nat.le_refl _
      · show gN (ldF s h can D f t) _ _ = _; unfold ldF; rw [gN_addD, gN_sN, if_neg (by omega)]
      · refine Nat.le_of_eq (wat8_0 (fun a h8 _ => ?_))
        show rs (ldF s h can D f t) a = _; unfold ldF; rw [rs_addD, rs_sN (by omega)]
theorem ld1_dv {D : Dy} {A : Nat → Prop} {c k : Nat} (hv : VS s) (hk : k < 64) (hd : DVx s A c D) : DVx s A c (ld1 s h D k) := by
  have hG := hv.2.2.2.2.1
  exact dld_dv hv (by omega) (by omega) (fun g e => by have := icA_some _ (icH_some e).1; omega) hd
theorem ml1_dv {D : Dy} {A : Nat → Prop} {c g : Nat} (hv : VS s) (hk : g < kT s 4) (hd : DVx s A c D) : DVx s A c (ml1 s h D g) := by
  have hG := hv.2.2.2.2.1
  unfold ml1
  by_cases q : kI s g 2 = h
  · rw [if_pos q]
    exact dld_dv hv (by omega) (by omega) (fun g' e => by
      have := icA_some _ (icH_some e).1
      intro z
      have e2 : g' = g := by omega
      rw [e2] at this; omega) hd
  · rw [if_neg q]; exact hd
end DVC
