/-! SHARE, the call, on the model's side -/
section SHM
variable {w : Wd} {d : Nat} {A : St} {v : AV}
theorem MC_share_bad1 {x y : Int32} (hv : VA A) (hx : x < nI 0 ∨ nI (kT (aSk A) 2) ≤ x) : ML w (d + 16) 0 0 m_Mo_share [.int x, .int y] A 1 v A := by
  intro σ P X hI hP
  have hI' : IM A (wI σ 108 0 (nI 0)) := hI.thr hv
  have hn : kT (aSk A) 2 ≤ 8 := hv.2.2.1.2.2.1
  refine meth_ok k_Mo_share q_Mo_share rfl fun At hAt => ?_
  refine hAt 8 _ _ _ _ _ _ ?_
  refine s_isCloud hI' ?_
  rw [decide_eq_false (in_bad (by omega) hx)]
  refine And.intro (fun hq => absurd hq (by decide)) (fun _ => ?_)
  refine hAt 5 _ _ _ _ _ _ ?_
  refine s_bad1 (by decide) rfl (by omega) (by omega) ?_
  refine And.intro (fun _ => ?_) (fun hq => absurd hq (by decide))
  refine hAt 2 _ _ _ _ _ _ ?_
  exact hP _ _ (((frM.rfl σ).wI (by omega)).wI (by omega)) (hI'.thr hv) rfl (fun q => by omega)
theorem MC_share_bad2 {y : Int32} {j : Nat} (hv : VA A) (hj : j < kT (aSk A) 2) (hx : ¬ (y = nI 0 ∨ y = nI 1)) : ML w (d + 16) 0 0 m_Mo_share [.int (nI j), .int y] A 2 v A := by
  intro σ P X hI hP
  have hI' : IM A (wI σ 108 0 (nI 0)) := hI.thr hv
  have hn : kT (aSk A) 2 ≤ 8 := hv.2.2.1.2.2.1
  refine meth_ok k_Mo_share q_Mo_share rfl fun At hAt => ?_
  refine hAt 8 _ _ _ _ _ _ ?_
  refine s_isCloud hI' ?_
  rw [decide_eq_true (in_ok hj (by omega))]
  refine And.intro (fun _ => ?_) (fun hq => absurd hq (by decide))
  refine hAt 4 _ _ _ _ _ _ ?_
  refine s_bad0 rfl rfl ?_
  refine And.intro (fun hq => absurd hq (by decide)) (fun _ => ?_)
  refine hAt 6 _ _ _ _ _ _ ?_
  refine s_in ?_
  refine And.intro (fun hq => ?_) (fun hq => ?_)
  · have c33 : ¬ y < nI 0 ∧ ¬ nI 1 < y := of_decide_eq_true (bI_ne hq)
    clear hq
    exact absurd (in_01 c33) hx
  · have c33 : ¬ (¬ y < nI 0 ∧ ¬ nI 1 < y) := of_decide_eq_false (bI_eq hq)
    clear hq
    refine hAt 5 _ _ _ _ _ _ ?_
    refine s_bad1 (by decide) rfl (by omega) (by omega) ?_
    refine And.intro (fun hq => absurd hq (by decide)) (fun _ => ?_)
    refine hAt 2 _ _ _ _ _ _ ?_
    exact hP _ _ (((frM.rfl σ).wI (by omega)).wI (by omega)) (hI'.thr hv) rfl (fun q => by omega)
theorem MC_share_ok {j i : Nat} (hv : VA A) (hj : j < kT (aSk A) 2) (hi : i < 2) : ML w (d + 16) 0 0 m_Mo_share [.int (nI j), .int (nI i)] A 0 (.long (shA A j i)) A := by
  intro σ P X hI hP
  have hI' : IM A (wI σ 108 0 (nI 0)) := hI.thr hv
  have hn : kT (aSk A) 2 ≤ 8 := hv.2.2.1.2.2.1
  have hvs := hv.2.2.1
  have fin : ∀ τ x, (∀ a j, ¬ (336 ≤ a ∧ a ≤ 357) → rI τ a j = rI (wI σ 108 0 (nI 0)) a j) → τ.2 = (wI σ 108 0 (nI 0)).2 → x = shA A j i → P (some (.long x)) τ := fun τ x h1 h2 h3 => by
    obtain ⟨f1, f2, f3⟩ := woM_im hI' hv h1 h2
    exact hP τ _ (((frM.rfl σ).wI (a := 108) (k := 0) (x := nI 0) (by omega)).trans f1) f2 f3 (fun _ => by rw [h3])
  refine meth_ok k_Mo_share q_Mo_share rfl fun At hAt => ?_
  obtain ⟨n, en⟩ : ∃ n, n = kT (aSk A) 2 := ⟨_, rfl⟩
  have euc : n ≤ 6 → ∀ τ U, (∀ a j, ¬ (336 ≤ a ∧ a ≤ 357) → rI τ a j = rI (wI σ 108 0 (nI 0)) a j) → τ.2 = (wI σ 108 0 (nI 0)).2 → U = shU (aSk A) n j (2 ^ n) → U < 2 ^ 62 → ∀ N b a z12 z13, b < N → a < 2 ^ 62 → b < 2 ^ 62 → Nat.gcd b a = Nat.gcd (fcN n) U → At 159 [.ref 108, .int (nI j), .int (nI i), .int (nI n), .long (lN U), junk, .long (lN (fcN n)), junk, .long (lN a), junk, .long (lN b), junk, z12, z13] [] τ 0 0 := by
    intro hn6 τ U t1 t2 eU hU N
    have hF := fc_le n hn6
    have hF0 := fc_pos n
    induction N with
    | zero => exact fun b a _ _ h => absurd h (Nat.not_lt_zero b)
    | succ N ih =>
      intro b a z12 z13 hb ha hb2 hg
      have hG0 : 0 < Nat.gcd (fcN n) U := Nat.gcd_pos_of_pos_left _ hF0
      have hGF : Nat.gcd (fcN n) U ≤ fcN n := Nat.gcd_le_left _ hF0
      have nb : ¬ b = 0 → ¬ lN b = 0 := fun q z => q (l_inj (a := b) (b := 0) (by omega) (by decide) z)
      have na : b = 0 → a = Nat.gcd (fcN n) U := fun q => by rw [q, Nat.gcd_zero_left] at hg; exact hg
      have nz : b = 0 → ¬ lN a = 0 := fun q z => by have := l_inj (a := a) (b := 0) (by omega) (by decide) z; have := na q; omega
      refine hAt 4 _ _ _ _ _ _ ?_
      refine And.intro (fun hq => ?_) (fun hq => ?_)
      · have c163 : lg_cmp (lN b) (lN 0) = nI 0 := hq
        clear hq
        have e0 := l_inj (by omega) (by decide) (lcmp0.mp c163)
        refine hAt 2 _ _ _ _ _ _ ?_
        refine And.intro (fun hq => ?_) (fun hq => ?_)
        · have c185 : ¬ i = 0 := fun zq => hq ((eqN (a := i) (b := 0) rfl rfl (by omega) (by omega)).mpr zq)
          clear hq
          refine hAt 4 _ _ _ _ _ _ ?_
          refine And.intro ((nz e0)) ?_
          refine fin τ _ t1 t2 ?_
          rw [na e0, l_div (by omega) (by omega), shA, if_neg (by omega), if_neg (by omega), ← en, ← eU]
        · have c185 : i = 0 := (eqN (a := i) (b := 0) rfl rfl (by omega) (by omega)).mp hq
          clear hq
          refine hAt 5 _ _ _ _ _ _ ?_
          refine And.intro ((nz e0)) ?_
          refine fin τ _ t1 t2 ?_
          rw [na e0, l_div (by omega) (by omega), shA, if_neg (by omega), if_pos (by omega), ← en, ← eU]
      · have c163 : ¬ lg_cmp (lN b) (lN 0) = nI 0 := hq
        clear hq
        have e1 : ¬ b = 0 := fun z => c163 (lcmp0.mpr (by rw [z]))
        refine hAt 9 _ _ _ _ _ _ ?_
        refine And.intro ((nb e1)) ?_
        have hr : a % b < b := Nat.mod_lt _ (by omega)
        have z := ih (a % b) b (.long (lN (a % b))) junk (by omega) hb2 (by omega) (by rw [← Nat.gcd_rec]; exact hg)
        rw [← l_mod (by omega) (by omega)] at z
        exact z
  have loop : n ≤ 6 → ∀ q, q ≤ 2 ^ n → ∀ τ, (∀ a j, ¬ (336 ≤ a ∧ a ≤ 357) → rI τ a j = rI (wI σ 108 0 (nI 0)) a j) → τ.2 = (wI σ 108 0 (nI 0)).2 → (∀ k f, k < n → f < kT (aSk A) 3 → rI τ (338 + 1 + k) f = nI (rmS (aSk A) k f)) → shU (aSk A) n j q ≤ q * 5542732800 → ∀ z9 z10 z11 z12 z13, At 83 [.ref 108, .int (nI j), .int (nI i), .int (nI n), .long (lN (shU (aSk A) n j q)), junk, .long (lN (fcN n)), junk, .int (nI q), z9, z10, z11, z12, z13] [] τ 0 0 := by
    intro hn6
    have h64 : 2 ^ n ≤ 2 ^ 6 := Nat.pow_le_pow_right (by decide) hn6
    have hj5 : 2 ^ j ≤ 2 ^ 6 := Nat.pow_le_pow_right (by decide) (by omega)
    have hF := fc_le n hn6
    refine upto fun q hq ih => ?_
    intro τ t1 t2 t3 t4 z9 z10 z11 z12 z13
    have hS : skM τ (aSk A) := hI'.sk.scr2 hvs (fun a j h1 h2 => t1 a j (by omega))
    have bit : (nI q >>> (nI j &&& 31)) &&& nI 1 = nI (q / 2 ^ j % 2) := by rw [bit_s _ j (by omega), u32_nI (by omega)]
    have hm2 : q / 2 ^ j % 2 < 2 := Nat.mod_lt _ (by decide)
    have hor : q < 2 ^ n → q ||| 2 ^ j < 2 ^ n := fun h => or_lt h (by omega)
    have on1 : q < 2 ^ n → q / 2 ^ j % 2 = 0 → onN q + 1 ≤ n := fun h e => onN_z (by omega) (by omega) h e
    refine hAt 5 _ _ _ _ _ _ ?_
    refine And.intro (fun hq => ?_) (fun hq => ?_)
    · have c88 : 2 ^ n ≤ q := (leN (a := 2 ^ n) (b := q) (shl_s _ (by omega)) rfl (by omega) (by omega)).mp hq
      clear hq
      have e : q = 2 ^ n := by omega
      subst e
      refine hAt 4 _ _ _ _ _ _ ?_
      exact euc hn6 τ _ t1 t2 rfl (by omega) 1024 (fcN n) _ _ _ (by omega) (by omega) (by omega) rfl
    · have c88 : q < 2 ^ n := Nat.lt_of_not_le (fun zq => hq ((leN (a := 2 ^ n) (b := q) (shl_s _ (by omega)) rfl (by omega) (by omega)).mpr zq))
      clear hq
      have hor := hor c88
      have on1 := on1 c88
      refine hAt 6 _ _ _ _ _ _ ?_
      refine And.intro (fun hq => ?_) (fun hq => ?_)
      · have c97 : ¬ q / 2 ^ j % 2 = 0 := fun zq => hq ((eqN (a := q / 2 ^ j % 2) (b := 0) bit rfl (by omega) (by omega)).mpr zq)
        clear hq
        refine hAt 2 _ _ _ _ _ _ ?_
        refine Eq.mpr (congrArg (fun xq : Int32 => At 83 [.ref (108), .int (nI j), .int (nI i), .int (nI n), .long (lN (shU (aSk A) n j q)), junk, .long (lN (fcN n)), junk, .int xq, z9, z10, z11, z12, z13] [] τ 0 0) (show nI q + nI 1 = nI (q + 1) from (adE rfl rfl))) ?_
        have z := ih c88 τ t1 t2 t3 (by rw [shU, if_neg c97, Nat.add_zero, Nat.succ_mul]; exact Nat.le_trans t4 (Nat.le_add_right _ _)) z9 z10 z11 z12 z13
        rw [shU, if_neg c97, Nat.add_zero] at z
        exact z
      · have c97 : q / 2 ^ j % 2 = 0 := (eqN (a := q / 2 ^ j % 2) (b := 0) bit rfl (by omega) (by omega)).mp hq
        clear hq
        have on1 := on1 c97
        refine hAt 10 _ _ _ _ _ _ ?_
        refine s_ones (by omega) ?_
        refine s_factorial (by omega) ?_
        refine s_ones (by omega) ?_
        refine Eq.mpr (congrArg (fun xq : Int32 => At 119 [.ref (108), .int (nI j), .int (nI i), .int (nI n), .long (lN (shU (aSk A) n j q)), junk, .long (lN (fcN n)), junk, .int (nI q), z9, z10, z11, z12, z13] [.int xq, .long (lN (fcN (onN q))), .long (lN (shU (aSk A) n j q))] τ 0 0) (show (nI n - nI 1) - (nI (onN q)) = nI ((n - 1) - (onN q)) from (sbE (sbE rfl rfl (by omega)) rfl (by omega)))) ?_
        refine hAt 8 _ _ _ _ _ _ ?_
        refine s_factorial (by omega) ?_
        refine Eq.mpr (congrArg (fun xq : Int32 => At 130 [.ref (108), .int (nI j), .int (nI i), .int (nI n), .long (lN (shU (aSk A) n j q)), junk, .long (lN (fcN n)), junk, .int (nI q), z9, z10, z11, z12, z13] [.int xq, .ref (108), .long ((lN (fcN (onN q))) * (lN (fcN ((n - 1) - (onN q))))), .long (lN (shU (aSk A) n j q))] τ 0 0) (show (nI q) ||| ((nI 1) <<< ((nI j) &&& 31)) = nI (q ||| 2 ^ j) from (by rw [shl_s _ (by omega)]; exact bv_or2))) ?_
        refine hAt 11 _ _ _ _ _ _ ?_
        refine s_worthOf hS hvs (by omega) (fun k f h1 h2 => t3 k f (by omega) h2) (fun τ2 u1 u2 ex1 => ?_)
        refine s_worthOf (hS.scr2 hvs (fun a j h1 h2 => u1 a j (by omega))) hvs (by omega) (fun k f h1 h2 => (u1 _ _ (by omega)).trans (t3 k f (by omega) h2)) (fun τ3 w1 w2 ex0 => ?_)
        have mono := woS_mono hvs ex0 ex1
        have wle := woS_le hvs ex1
        refine Eq.mpr (congrArg (fun xq : Int32 => At 83 [.ref (108), .int (nI j), .int (nI i), .int (nI n), .long ((lN (shU (aSk A) n j q)) + (((lN (fcN (onN q))) * (lN (fcN ((n - 1) - (onN q))))) * (((nI (woS (aSk A) (q ||| 2 ^ j))) - (nI (woS (aSk A) q))).toInt64))), junk, .long (lN (fcN n)), junk, .int xq, z9, z10, z11, z12, z13] [] τ3 0 0) (show nI q + nI 1 = nI (q + 1) from (adE rfl rfl))) ?_
        have f1 := fc_le (onN q) (by omega)
        have f2 := fc_le (n - 1 - onN q) (by omega)
        have z := ih c88 τ3 (fun a j u => (w1 a j (by omega)).trans ((u1 a j (by omega)).trans (t1 a j u))) (w2.trans (u2.trans t2)) (fun k f h1 h2 => (w1 _ _ (by omega)).trans ((u1 _ _ (by omega)).trans (t3 k f h1 h2))) (by
          rw [shU, if_pos c97, Nat.succ_mul]
          exact Nat.add_le_add t4 (Nat.le_trans (Nat.mul_le_mul (Nat.mul_le_mul f1 f2) (Nat.le_trans (Nat.sub_le _ _) wle)) (by decide))) z9 z10 z11 z12 z13
        rw [shU, if_pos c97, ← l_add, ← l_mul, ← l_mul, ← l_of (a := woS (aSk A) (q ||| 2 ^ j) - woS (aSk A) q) (by omega), ← show nI (woS (aSk A) (q ||| 2 ^ j)) - nI (woS (aSk A) q) = nI (woS (aSk A) (q ||| 2 ^ j) - woS (aSk A) q) from sbE rfl rfl mono] at z
        exact z
  rw [← en] at hj hn
  refine hAt 8 _ _ _ _ _ _ ?_
  refine s_isCloud hI' ?_
  rw [← en, decide_eq_true (in_ok hj (by omega))]
  refine And.intro (fun _ => ?_) (fun hq => absurd hq (by decide))
  refine hAt 4 _ _ _ _ _ _ ?_
  refine s_bad0 rfl rfl ?_
  refine And.intro (fun hq => absurd hq (by decide)) (fun _ => ?_)
  refine hAt 6 _ _ _ _ _ _ ?_
  refine s_in ?_
  rw [decide_eq_true ⟨nI_nlt (Nat.zero_le _) (by omega), nI_nlt (by omega) (by omega)⟩]
  refine And.intro (fun _ => ?_) (fun hq => absurd hq (by decide))
  refine hAt 4 _ _ _ _ _ _ ?_
  refine s_bad0 rfl rfl ?_
  refine And.intro (fun _ => ?_) (fun hq => absurd hq (by decide))
  refine hAt 4 _ _ _ _ _ _ ?_
  refine And.intro (aOKx (n := 11) (j := 2) rfl (by decide) rfl rfl (by omega) (by omega)) ?_
  refine Eq.mpr (congrArg (fun xq : Int32 => At 56 [.ref (108), .int (nI j), .int (nI i), junk, junk, junk, junk, junk, junk, junk, junk, junk, junk, junk] [.int xq] (wI σ 108 0 (nI 0)) 0 0) (show rI (wI σ 108 0 (nI 0)) 111 (nI 2).toNatClampNeg = nI n from (ldE rfl (by omega) (by rw [rI_wI, if_neg (by omega)]; exact ((hI.sk.1 2 (by omega)).trans (congrArg nI en.symm)))))) ?_
  refine hAt 4 _ _ _ _ _ _ ?_
  refine And.intro (fun hq => ?_) (fun hq => ?_)
  · have c60 : n ≤ 6 := (leN (a := n) (b := 6) rfl rfl (by omega) (by omega)).mp hq
    clear hq
    refine hAt 9 _ _ _ _ _ _ ?_
    refine s_laysCan hI'.sk hvs (fun τ t1 t2 t3 => ?_)
    refine s_factorial (by omega) ?_
    exact loop c60 0 (Nat.zero_le _) τ (fun a j u => t1 a j (by omega) (by omega) (by omega)) t2 (fun k f h1 h2 => t3 k f (by omega) h2) (Nat.zero_le _) _ _ _ _ _
  · have c60 : 6 < n := Nat.lt_of_not_le (fun zq => hq ((leN (a := n) (b := 6) rfl rfl (by omega) (by omega)).mpr zq))
    clear hq
    refine hAt 2 _ _ _ _ _ _ ?_
    exact fin _ _ (fun _ _ _ => rfl) rfl (by rw [shA, if_pos (by omega)])
end SHM
