/-! THE DAY on the component's side: what falls -/
theorem tr_cix {s : Sk} {k h : Nat} (hp : ps s k h ≠ none) : tr s k h = nI (cix s k h) := by
  unfold tr cix
  cases e : ps s k h with
  | none => exact absurd e hp
  | some q => rfl
theorem flM_mono {p : Nat → Nat} {all n t : Nat} : ∀ m, flM p all n t ≤ flM p all n (t + m)
  | 0 => Nat.le_refl _
  | m + 1 => by
    have := flM_mono (p := p) (all := all) (n := n) (t := t) m
    show _ ≤ flM p all n (t + m) + _
    omega
theorem sumN_pre (f : Nat → Nat) {a : Nat} : ∀ n, a ≤ n → sumN f a ≤ sumN f n
  | 0, h => by have : a = 0 := by omega
               subst this; exact Nat.le_refl _
  | n + 1, h => by
    by_cases e : a = n + 1
    · subst e; exact Nat.le_refl _
    · have := sumN_pre f (a := a) n (by omega); rw [sumN]; omega
/-- a cloud of which some has fallen -/
def flE (D : Dy) (k c : Nat) (g : Nat → Nat) : Dy := sR (sR D (8 + k) (fun o => gN D (8 + k) o - g o)) (20 + c) (fun o => gN D (20 + c) o + g o)
theorem gN_flE {D : Dy} {k c a b : Nat} {g : Nat → Nat} : gN (flE D k c g) a b = if a = 20 + c ∧ b < 8 then gN D (20 + c) b + g b else if a = 8 + k ∧ b < 8 then gN D (8 + k) b - g b else gN D a b := by unfold flE; rw [gN_sR, gN_sR]
theorem flE_congr {D : Dy} {k c : Nat} {g q : Nat → Nat} (h : ∀ o, o < 8 → g o = q o) : flE D k c g = flE D k c q := by
  refine Dy.ext (fun a b => ?_) (fun _ _ => rfl)
  rw [gN_flE, gN_flE]
  by_cases e : b < 8
  · rw [h b e]
  · rw [if_neg (by omega), if_neg (by omega), if_neg (by omega), if_neg (by omega)]
theorem flE_step {D : Dy} {k c i m : Nat} {g q : Nat → Nat} (hk : 8 + k ≠ 20 + c) (hi : i < 8) (h1 : q i = g i + m) (h2 : ∀ o, o < 8 → o ≠ i → q o = g o) : sN (sN (flE D k c g) (8 + k) i (gN (flE D k c g) (8 + k) i - m)) (20 + c) i (gN (flE D k c g) (20 + c) i + m) = flE D k c q := by
  refine Dy.ext (fun a b => ?_) (fun _ _ => rfl)
  have hk' : ¬ (20 + c = 8 + k) := fun z => hk z.symm
  simp only [gN_sN, gN_flE]
  by_cases eb : b = i
  · subst eb
    by_cases e2 : a = 20 + c
    · subst e2
      simp [hi, h1, hk']
      try omega
    · by_cases e3 : a = 8 + k
      · subst e3
        simp [hi, h1, hk]
        try omega
      · simp [e2, e3]
  · by_cases e8 : b < 8
    · have h3 := h2 b e8 eb
      simp [eb, h3]
    · simp [eb, e8]
theorem flE_0 {D : Dy} {k c : Nat} {g : Nat → Nat} (h : ∀ o, o < 8 → g o = 0) : flE D k c g = D := by
  refine Dy.ext (fun a b => ?_) (fun _ _ => rfl)
  rw [gN_flE]
  by_cases e : a = 20 + c ∧ b < 8
  · rw [if_pos e, h b e.2, e.1]; rfl
  · rw [if_neg e]
    by_cases e2 : a = 8 + k ∧ b < 8
    · rw [if_pos e2, h b e2.2, e2.1]; rfl
    · rw [if_neg e2]
theorem flE_dfl {D : Dy} {k c n : Nat} (hn : n ≠ 0) : dfl D k c n = flE D k c (flS D k n) := by rw [dfl, if_neg hn]; rfl
section DC4
variable {w : Wd} {d : Nat} {σ0 σ : Mem} {s : Sk} {P : Option AV → Mem → Prop} {X : Nat → Mem → Prop}
theorem s_dropFrom {D : Dy} {h e k o m : Nat} (hv : VS s) (hc : eC σ0 s e (fun _ => h) D σ) (hk : k < kT s 2) (tk : gN D 0 k = 1) (pk : ps s k h ≠ none) (ho : o < 8) (hm : m ≤ gN D (8 + k) o) (hP : ∀ τ, eC σ0 s e (fun _ => h) (sN (sN D (8 + k) o (gN D (8 + k) o - m)) (20 + cix s k h) o (gN D (20 + cix s k h) o + m)) τ → (∀ j, rI τ 80 j = rI σ 80 j) → P none τ) : Ret w true (d + 2) 0 0 m_Day_dropFrom [.ref 59, .int (nI k), .int (nI o), .int (nI m)] σ P X := by
  have hn := hv.2.2.1
  have hF := hv.2.2.2.1
  have cx := cix_lt (h := h) hv hk
  have rp := hc.par k o hk (Or.inl tk) ho
  have rr := hc.rai (cix s k h) o cx ho
  have rc : rI σ 72 k = nI (cix s k h) := by rw [hc.2.1 k hk]; unfold clV; rw [if_pos tk, tr_cix pk]
  have e1 : rI σ 74 (k * 8 + o) + -nI m = nI (gN D (8 + k) o - m) := by rw [rp, ← nI_sub hm, Int32.sub_eq_add_neg]
  refine meth_ok k_Day_dropFrom q_Day_dropFrom rfl fun At hAt => ?_
  refine hAt 14 _ _ _ _ _ _ ?_
  refine s_Table_add (a := 73) (na := 74) (mo := 8) (wd := 8) rfl (show k < 8 by omega) (show o < 8 by omega) ?_
  refine s_Row_get (a := 71) (na := 72) (n := 8) rfl (show k < 8 by omega) ?_
  refine Eq.mpr (congrArg (fun xq : Int32 => At 26 [.ref (59), .int (nI k), .int (nI o), .int (nI m)] [.int xq, .ref (61)] (wI σ 74 (k * 8 + o) (rI σ 74 (k * 8 + o) + (-(nI m)))) 0 0) (show rI (wI σ 74 (k * 8 + o) (rI σ 74 (k * 8 + o) + (-(nI m)))) 72 k = nI (cix s k h) from (by rw [rI_wI, if_neg (by omega)]; exact rc))) ?_
  refine hAt 3 _ _ _ _ _ _ ?_
  refine s_Table_add (a := 61) (na := 62) (mo := 64) (wd := 8) rfl (show cix s k h < 64 by omega) (show o < 8 by omega) ?_
  refine Eq.mpr (congrArg (fun xq : Mem => At 31 [.ref (59), .int (nI k), .int (nI o), .int (nI m)] [] xq 0 0) (congrArg (fun z => wI (wI σ 74 (k * 8 + o) (rI σ 74 (k * 8 + o) + (-(nI m)))) 62 ((cix s k h) * 8 + o) z) (show rI (wI σ 74 (k * 8 + o) (rI σ 74 (k * 8 + o) + (-(nI m)))) 62 ((cix s k h) * 8 + o) + nI m = nI (gN D (20 + cix s k h) o + m) from (adE (by rw [rI_wI, if_neg (by omega)]; exact rr) rfl)))) ?_
  refine hAt 1 _ _ _ _ _ _ ?_
  have z := hP _ ((hc.wpar (v := gN D (8 + k) o - m) hk ho hn hF).wrai (v := gN D (20 + cix s k h) o + m) cx ho hn hF) (fun j => by rw [rI_wI, if_neg (by omega), rI_wI, if_neg (by omega)])
  rw [← e1] at z
  exact z
theorem s_letFall {D : Dy} {h e k n : Nat} {A : Nat → Prop} {cc : Nat} (hv : VS s) (hd : DVx s A cc D) (hcc : cc ≤ 7992) (hc : eC σ0 s e (fun _ => h) D σ) (hk : k < kT s 2) (tk : gN D 0 k = 1) (pk : ps s k h ≠ none) (hnl : n ≤ rs D (8 + k)) (hP : ∀ τ, eC σ0 s e (fun _ => h) (dfl D k (cix s k h) n) τ → (∀ j, rI τ 80 j = rI σ 80 j) → P none τ) : Ret w true (d + 3) 0 0 m_Day_letFall [.ref 59, .int (nI k), .int (nI n)] σ P X := by
  have hn := hv.2.2.1
  have rk : rs D (8 + k) ≤ 7992 := Nat.le_trans (hd.rs_le (by omega) (by omega)) hcc
  have gk : ∀ o, o < 8 → gN D (8 + k) o ≤ 7992 := fun o ho => Nat.le_trans (gN_rs ho) rk
  have cx := cix_lt (h := h) hv hk
  refine meth_ok k_Day_letFall q_Day_letFall rfl fun At hAt => ?_
  have tE : ∀ g i, gN (flE D k (cix s k h) g) 0 i = gN D 0 i := fun g i => by rw [gN_flE, if_neg (by omega), if_neg (by omega)]
  have l2 : n ≠ 0 → ∀ t, t ≤ 8 → ∀ τ z6, (∀ j, rI τ 80 j = rI σ 80 j) → eC σ0 s e (fun _ => h) (flE D k (cix s k h) (fun o => if o < t then flS D k n o else flB (gN D (8 + k)) (rs D (8 + k)) n o)) τ → At 72 [.ref 59, .int (nI k), .int (nI n), .int (nI (rs D (8 + k))), .int (nI (flR (gN D (8 + k)) (rs D (8 + k)) n - min (flM (gN D (8 + k)) (rs D (8 + k)) n t) (flR (gN D (8 + k)) (rs D (8 + k)) n))), .int (nI t), z6] [] τ 0 0 := by
    intro hn0
    have h0 : 0 < rs D (8 + k) := by omega
    have ⟨b1, b2⟩ := flR_le (p := gN D (8 + k)) (all := rs D (8 + k)) rfl hnl h0
    have bR : flR (gN D (8 + k)) (rs D (8 + k)) n ≤ n := Nat.sub_le _ _
    refine upto fun t ht ih => ?_
    intro τ z6 h80 hcx
    have stop : flR (gN D (8 + k)) (rs D (8 + k)) n ≤ flM (gN D (8 + k)) (rs D (8 + k)) n t → P none τ := fun q => by
      refine hP τ ?_ h80
      rw [flE_dfl hn0, flE_congr (g := flS D k n) (q := fun o => if o < t then flS D k n o else flB (gN D (8 + k)) (rs D (8 + k)) n o) (fun o ho => ?_)]
      · exact hcx
      · show flS D k n o = if o < t then flS D k n o else flB (gN D (8 + k)) (rs D (8 + k)) n o
        by_cases q2 : o < t
        · rw [if_pos q2]
        · rw [if_neg q2]
          have := flM_mono (p := gN D (8 + k)) (all := rs D (8 + k)) (n := n) (t := t) (o - t)
          rw [show t + (o - t) = o by omega] at this
          unfold flS flL
          rw [if_neg (fun z => by have := z.2; omega), Nat.add_zero]
    have fB : flB (gN D (8 + k)) (rs D (8 + k)) n t ≤ gN D (8 + k) t := flB_le hnl
    have gt8 : t < 8 → gN D (8 + k) t ≤ 7992 := gk t
    have eM1 : flM (gN D (8 + k)) (rs D (8 + k)) n (t + 1) = flM (gN D (8 + k)) (rs D (8 + k)) n t + if flB (gN D (8 + k)) (rs D (8 + k)) n t < gN D (8 + k) t then 1 else 0 := rfl
    have rp : t < 8 → rI τ 74 (k * 8 + t) = nI (gN D (8 + k) t - flB (gN D (8 + k)) (rs D (8 + k)) n t) := fun q => by
      rw [hcx.par k t hk (Or.inl (by rw [tE]; exact tk)) q, gN_flE, if_neg (by omega), if_pos ⟨rfl, q⟩, if_neg (by omega)]
    refine hAt 3 _ _ _ _ _ _ ?_
    refine And.intro (fun hq => ?_) (fun hq => ?_)
    · have c76 : 64 ≤ t := (leN (a := 64) (b := t) rfl rfl (by omega) (by omega)).mp hq
      clear hq
      exact absurd c76 (by omega)
    · have c76 : t < 64 := Nat.lt_of_not_le (fun zq => hq ((leN (a := 64) (b := t) rfl rfl (by omega) (by omega)).mpr zq))
      clear hq
      refine hAt 2 _ _ _ _ _ _ ?_
      refine And.intro (fun hq => ?_) (fun hq => ?_)
      · have c81 : flR (gN D (8 + k)) (rs D (8 + k)) n - min (flM (gN D (8 + k)) (rs D (8 + k)) n t) (flR (gN D (8 + k)) (rs D (8 + k)) n) ≤ 0 := (leN (a := flR (gN D (8 + k)) (rs D (8 + k)) n - min (flM (gN D (8 + k)) (rs D (8 + k)) n t) (flR (gN D (8 + k)) (rs D (8 + k)) n)) (b := 0) rfl rfl (by omega) (by omega)).mp hq
        clear hq
        refine hAt 1 _ _ _ _ _ _ ?_
        exact stop (by omega)
      · have c81 : 0 < flR (gN D (8 + k)) (rs D (8 + k)) n - min (flM (gN D (8 + k)) (rs D (8 + k)) n t) (flR (gN D (8 + k)) (rs D (8 + k)) n) := Nat.lt_of_not_le (fun zq => hq ((leN (a := flR (gN D (8 + k)) (rs D (8 + k)) n - min (flM (gN D (8 + k)) (rs D (8 + k)) n t) (flR (gN D (8 + k)) (rs D (8 + k)) n)) (b := 0) rfl rfl (by omega) (by omega)).mpr zq))
        clear hq
        have t8 : t < 8 := by
          have : t ≠ 8 := fun z => by subst z; omega
          omega
        have gt := gt8 t8
        refine hAt 8 _ _ _ _ _ _ ?_
        refine And.intro (by decide) ?_
        refine Eq.mpr (congrArg (fun xq : Int32 => At 98 [.ref (59), .int (nI k), .int (nI n), .int (nI (rs D (8 + k))), .int (nI (flR (gN D (8 + k)) (rs D (8 + k)) n - min (flM (gN D (8 + k)) (rs D (8 + k)) n t) (flR (gN D (8 + k)) (rs D (8 + k)) n))), .int (nI t), .int (nI t - nI t / nI 8 * nI 8)] [.int xq, .int (nI k), .ref (73)] τ 0 0) (show nI t - nI t / nI 8 * nI 8 = nI t from (by rw [rmE rfl rfl (by omega) (by omega), Nat.mod_eq_of_lt (by omega)]))) ?_
        refine hAt 1 _ _ _ _ _ _ ?_
        refine s_Table_get (a := 73) (na := 74) (mo := 8) (wd := 8) rfl (show k < 8 by omega) (show t < 8 by omega) ?_
        refine Eq.mpr (congrArg (fun xq : Int32 => At 101 [.ref (59), .int (nI k), .int (nI n), .int (nI (rs D (8 + k))), .int (nI (flR (gN D (8 + k)) (rs D (8 + k)) n - min (flM (gN D (8 + k)) (rs D (8 + k)) n t) (flR (gN D (8 + k)) (rs D (8 + k)) n))), .int (nI t), .int (nI t - nI t / nI 8 * nI 8)] [.int xq] τ 0 0) (show rI τ 74 (k * 8 + t) = nI (gN D (8 + k) t - flB (gN D (8 + k)) (rs D (8 + k)) n t) from (rp (by omega)))) ?_
        refine hAt 1 _ _ _ _ _ _ ?_
        refine And.intro (fun hq => ?_) (fun hq => ?_)
        · have c101 : gN D (8 + k) t - flB (gN D (8 + k)) (rs D (8 + k)) n t ≤ 0 := (leN (a := gN D (8 + k) t - flB (gN D (8 + k)) (rs D (8 + k)) n t) (b := 0) rfl rfl (by omega) (by omega)).mp hq
          clear hq
          refine hAt 2 _ _ _ _ _ _ ?_
          refine Eq.mpr (congrArg (fun xq : Int32 => At 72 [.ref (59), .int (nI k), .int (nI n), .int (nI (rs D (8 + k))), .int (nI (flR (gN D (8 + k)) (rs D (8 + k)) n - min (flM (gN D (8 + k)) (rs D (8 + k)) n t) (flR (gN D (8 + k)) (rs D (8 + k)) n))), .int xq, .int (nI t - nI t / nI 8 * nI 8)] [] τ 0 0) (show nI t + nI 1 = nI (t + 1) from (adE rfl rfl))) ?_
          refine Eq.mpr (congrArg (fun xq : Int32 => At 72 [.ref (59), .int (nI k), .int (nI n), .int (nI (rs D (8 + k))), .int (nI (flR (gN D (8 + k)) (rs D (8 + k)) n - min (flM (gN D (8 + k)) (rs D (8 + k)) n t) (flR (gN D (8 + k)) (rs D (8 + k)) n))), .int (nI (t + 1)), .int xq] [] τ 0 0) (show nI t - nI t / nI 8 * nI 8 = nI t from (by rw [rmE rfl rfl (by omega) (by omega), Nat.mod_eq_of_lt (by omega)]))) ?_
          have q := ih t8 τ (.int (nI t)) h80 ?_
          · rw [eM1, if_neg (by omega), Nat.add_zero] at q; exact q
          · rw [flE_congr (q := fun o => if o < t then flS D k n o else flB (gN D (8 + k)) (rs D (8 + k)) n o) (fun o ho => ?_)]
            · exact hcx
            · show (if o < t + 1 then flS D k n o else flB (gN D (8 + k)) (rs D (8 + k)) n o) = if o < t then flS D k n o else flB (gN D (8 + k)) (rs D (8 + k)) n o
              by_cases q2 : o = t
              · subst q2
                rw [if_pos (by omega), if_neg (by omega)]
                unfold flS flL
                rw [if_neg (fun z => by have := z.1; omega), Nat.add_zero]
              · by_cases q3 : o < t
                · rw [if_pos (by omega), if_pos q3]
                · rw [if_neg (by omega), if_neg q3]
        · have c101 : 0 < gN D (8 + k) t - flB (gN D (8 + k)) (rs D (8 + k)) n t := Nat.lt_of_not_le (fun zq => hq ((leN (a := gN D (8 + k) t - flB (gN D (8 + k)) (rs D (8 + k)) n t) (b := 0) rfl rfl (by omega) (by omega)).mpr zq))
          clear hq
          refine hAt 4 _ _ _ _ _ _ ?_
          refine Eq.mpr (congrArg (fun xq : Int32 => At 109 [.ref (59), .int (nI k), .int (nI n), .int (nI (rs D (8 + k))), .int (nI (flR (gN D (8 + k)) (rs D (8 + k)) n - min (flM (gN D (8 + k)) (rs D (8 + k)) n t) (flR (gN D (8 + k)) (rs D (8 + k)) n))), .int (nI t), .int (nI t - nI t / nI 8 * nI 8)] [.int (nI 1), .int xq, .int (nI k), .ref (59)] τ 0 0) (show nI t - nI t / nI 8 * nI 8 = nI t from (by rw [rmE rfl rfl (by omega) (by omega), Nat.mod_eq_of_lt (by omega)]))) ?_
          refine hAt 4 _ _ _ _ _ _ ?_
          refine s_dropFrom hv hcx hk (by rw [tE]; exact tk) pk (by omega) (by rw [gN_flE, if_neg (by omega), if_pos ⟨rfl, by omega⟩, if_neg (by omega)]; omega) (fun τ2 hc2 g80 => ?_)
          refine Eq.mpr (congrArg (fun xq : Int32 => At 72 [.ref (59), .int (nI k), .int (nI n), .int (nI (rs D (8 + k))), .int xq, .int (nI t + nI 1), .int (nI t - nI t / nI 8 * nI 8)] [] τ2 0 0) (show (nI (flR (gN D (8 + k)) (rs D (8 + k)) n - min (flM (gN D (8 + k)) (rs D (8 + k)) n t) (flR (gN D (8 + k)) (rs D (8 + k)) n))) - nI 1 = nI ((flR (gN D (8 + k)) (rs D (8 + k)) n - min (flM (gN D (8 + k)) (rs D (8 + k)) n t) (flR (gN D (8 + k)) (rs D (8 + k)) n)) - 1) from (sbE rfl rfl (by omega)))) ?_
          refine Eq.mpr (congrArg (fun xq : Int32 => At 72 [.ref (59), .int (nI k), .int (nI n), .int (nI (rs D (8 + k))), .int (nI ((flR (gN D (8 + k)) (rs D (8 + k)) n - min (flM (gN D (8 + k)) (rs D (8 + k)) n t) (flR (gN D (8 + k)) (rs D (8 + k)) n)) - 1)), .int xq, .int (nI t - nI t / nI 8 * nI 8)] [] τ2 0 0) (show nI t + nI 1 = nI (t + 1) from (adE rfl rfl))) ?_
          refine Eq.mpr (congrArg (fun xq : Int32 => At 72 [.ref (59), .int (nI k), .int (nI n), .int (nI (rs D (8 + k))), .int (nI ((flR (gN D (8 + k)) (rs D (8 + k)) n - min (flM (gN D (8 + k)) (rs D (8 + k)) n t) (flR (gN D (8 + k)) (rs D (8 + k)) n)) - 1)), .int (nI (t + 1)), .int xq] [] τ2 0 0) (show nI t - nI t / nI 8 * nI 8 = nI t from (by rw [rmE rfl rfl (by omega) (by omega), Nat.mod_eq_of_lt (by omega)]))) ?_
          have fL : flS D k n t = flB (gN D (8 + k)) (rs D (8 + k)) n t + 1 := by unfold flS flL; rw [if_pos ⟨by omega, by omega⟩]
          have q := ih t8 τ2 (.int (nI t)) (fun j => (g80 j).trans (h80 j)) ?_
          · rw [eM1, if_pos (by omega), show flR (gN D (8 + k)) (rs D (8 + k)) n - min (flM (gN D (8 + k)) (rs D (8 + k)) n t + 1) (flR (gN D (8 + k)) (rs D (8 + k)) n) = flR (gN D (8 + k)) (rs D (8 + k)) n - min (flM (gN D (8 + k)) (rs D (8 + k)) n t) (flR (gN D (8 + k)) (rs D (8 + k)) n) - 1 by omega] at q; exact q
          · rw [flE_step (q := fun o => if o < t + 1 then flS D k n o else flB (gN D (8 + k)) (rs D (8 + k)) n o) (by omega) t8 (by
              show (if t < t + 1 then flS D k n t else _) = (if t < t then _ else flB (gN D (8 + k)) (rs D (8 + k)) n t) + 1
              rw [if_pos (by omega), if_neg (by omega), fL]) (fun o ho q => by
              show (if o < t + 1 then flS D k n o else flB (gN D (8 + k)) (rs D (8 + k)) n o) = if o < t then flS D k n o else flB (gN D (8 + k)) (rs D (8 + k)) n o
              by_cases q3 : o < t
              · rw [if_pos (by omega), if_pos q3]
              · rw [if_neg (by omega), if_neg q3])] at hc2
            exact hc2
  have l1 : n ≠ 0 → ∀ i, i ≤ 8 → ∀ τ z6, (∀ j, rI τ 80 j = rI σ 80 j) → eC σ0 s e (fun _ => h) (flE D k (cix s k h) (fun o => if o < i then flB (gN D (8 + k)) (rs D (8 + k)) n o else 0)) τ → At 24 [.ref 59, .int (nI k), .int (nI n), .int (nI (rs D (8 + k))), .int (nI (n - sumN (flB (gN D (8 + k)) (rs D (8 + k)) n) i)), .int (nI i), z6] [] τ 0 0 := by
    intro hn0
    have h0 : 0 < rs D (8 + k) := by omega
    have ⟨b1, b2⟩ := flR_le (p := gN D (8 + k)) (all := rs D (8 + k)) rfl hnl h0
    refine upto fun i hi ih => ?_
    intro τ z6 h80 hcx
    have fB : flB (gN D (8 + k)) (rs D (8 + k)) n i ≤ gN D (8 + k) i := flB_le hnl
    have hpre : i < 8 → sumN (flB (gN D (8 + k)) (rs D (8 + k)) n) i + flB (gN D (8 + k)) (rs D (8 + k)) n i ≤ n := fun q => by
      have := sumN_pre (flB (gN D (8 + k)) (rs D (8 + k)) n) (a := i + 1) 8 (by omega)
      rw [sumN] at this; omega
    have hml : i < 8 → n * gN D (8 + k) i ≤ 7992 * 7992 := fun q => Nat.mul_le_mul (by omega) (gk i q)
    have rp : i < 8 → rI τ 74 (k * 8 + i) = nI (gN D (8 + k) i) := fun q => by
      rw [hcx.par k i hk (Or.inl (by rw [tE]; exact tk)) q, gN_flE, if_neg (by omega), if_pos ⟨rfl, q⟩, if_neg (by omega), Nat.sub_zero]
    refine hAt 3 _ _ _ _ _ _ ?_
    refine And.intro (fun hq => ?_) (fun hq => ?_)
    · have c28 : 8 ≤ i := (leN (a := 8) (b := i) rfl rfl (by omega) (by omega)).mp hq
      clear hq
      have e8 : i = 8 := by omega
      refine hAt 2 _ _ _ _ _ _ ?_
      have q := l2 hn0 0 (by omega) τ z6 h80 ?_
      · rw [show flM (gN D (8 + k)) (rs D (8 + k)) n 0 = 0 from rfl, Nat.zero_min, Nat.sub_zero] at q
        rw [e8]; exact q
      · rw [flE_congr (q := fun o => if o < i then flB (gN D (8 + k)) (rs D (8 + k)) n o else 0) (fun o ho => ?_)]
        · exact hcx
        · show (if o < 0 then _ else flB (gN D (8 + k)) (rs D (8 + k)) n o) = if o < i then flB (gN D (8 + k)) (rs D (8 + k)) n o else 0
          rw [if_neg (by omega), if_pos (by omega)]
    · have c28 : i < 8 := Nat.lt_of_not_le (fun zq => hq ((leN (a := 8) (b := i) rfl rfl (by omega) (by omega)).mpr zq))
      clear hq
      have hml := hml c28
      have hpre := hpre c28
      have gki := gk i c28
      refine hAt 6 _ _ _ _ _ _ ?_
      refine s_Table_get (a := 73) (na := 74) (mo := 8) (wd := 8) rfl (show k < 8 by omega) (show i < 8 by omega) ?_
      refine Eq.mpr (congrArg (fun xq : Int32 => At 42 [.ref (59), .int (nI k), .int (nI n), .int (nI (rs D (8 + k))), .int (nI (n - sumN (flB (gN D (8 + k)) (rs D (8 + k)) n) i)), .int (nI i), z6] [.int xq, .int (nI n)] τ 0 0) (show rI τ 74 (k * 8 + i) = nI (gN D (8 + k) i) from (rp (by omega)))) ?_
      refine hAt 8 _ _ _ _ _ _ ?_
      refine And.intro (nI_z (c := rs D (8 + k)) (by omega) (by omega)) ?_
      refine Eq.mpr (congrArg (fun xq : Int32 => At 53 [.ref (59), .int (nI k), .int (nI n), .int (nI (rs D (8 + k))), .int (nI (n - sumN (flB (gN D (8 + k)) (rs D (8 + k)) n) i)), .int (nI i), .int ((nI n * (nI (gN D (8 + k) i))) / (nI (rs D (8 + k))))] [.int xq, .int (nI i), .int (nI k), .ref (59)] τ 0 0) (show (nI n * (nI (gN D (8 + k) i))) / (nI (rs D (8 + k))) = nI (flB (gN D (8 + k)) (rs D (8 + k)) n i) from (show (nI n * (nI (gN D (8 + k) i))) / (nI (rs D (8 + k))) = nI (n * gN D (8 + k) i / rs D (8 + k)) from dvE (a := n * gN D (8 + k) i) (mlE rfl rfl) rfl (by omega) (by omega)))) ?_
      refine hAt 7 _ _ _ _ _ _ ?_
      refine s_dropFrom hv hcx hk (by rw [tE]; exact tk) pk (by omega) (by rw [gN_flE, if_neg (by omega), if_pos ⟨rfl, by omega⟩, if_neg (by omega)]; omega) (fun τ2 hc2 g80 => ?_)
      refine Eq.mpr (congrArg (fun xq : Int32 => At 24 [.ref (59), .int (nI k), .int (nI n), .int (nI (rs D (8 + k))), .int xq, .int (nI i + nI 1), .int ((nI n * (nI (gN D (8 + k) i))) / (nI (rs D (8 + k))))] [] τ2 0 0) (show (nI (n - sumN (flB (gN D (8 + k)) (rs D (8 + k)) n) i)) - ((nI n * (nI (gN D (8 + k) i))) / (nI (rs D (8 + k)))) = nI ((n - sumN (flB (gN D (8 + k)) (rs D (8 + k)) n) i) - (flB (gN D (8 + k)) (rs D (8 + k)) n i)) from (sbE rfl (show (nI n * (nI (gN D (8 + k) i))) / (nI (rs D (8 + k))) = nI (n * gN D (8 + k) i / rs D (8 + k)) from dvE (a := n * gN D (8 + k) i) (mlE rfl rfl) rfl (by omega) (by omega)) (by omega)))) ?_
      refine Eq.mpr (congrArg (fun xq : Int32 => At 24 [.ref (59), .int (nI k), .int (nI n), .int (nI (rs D (8 + k))), .int (nI ((n - sumN (flB (gN D (8 + k)) (rs D (8 + k)) n) i) - (flB (gN D (8 + k)) (rs D (8 + k)) n i))), .int xq, .int ((nI n * (nI (gN D (8 + k) i))) / (nI (rs D (8 + k))))] [] τ2 0 0) (show nI i + nI 1 = nI (i + 1) from (adE rfl rfl))) ?_
      refine Eq.mpr (congrArg (fun xq : Int32 => At 24 [.ref (59), .int (nI k), .int (nI n), .int (nI (rs D (8 + k))), .int (nI ((n - sumN (flB (gN D (8 + k)) (rs D (8 + k)) n) i) - (flB (gN D (8 + k)) (rs D (8 + k)) n i))), .int (nI (i + 1)), .int xq] [] τ2 0 0) (show (nI n * (nI (gN D (8 + k) i))) / (nI (rs D (8 + k))) = nI (flB (gN D (8 + k)) (rs D (8 + k)) n i) from (show (nI n * (nI (gN D (8 + k) i))) / (nI (rs D (8 + k))) = nI (n * gN D (8 + k) i / rs D (8 + k)) from dvE (a := n * gN D (8 + k) i) (mlE rfl rfl) rfl (by omega) (by omega)))) ?_
      have q := ih c28 τ2 (.int (nI (flB (gN D (8 + k)) (rs D (8 + k)) n i))) (fun j => (g80 j).trans (h80 j)) ?_
      · rw [show n - sumN (flB (gN D (8 + k)) (rs D (8 + k)) n) (i + 1) = n - sumN (flB (gN D (8 + k)) (rs D (8 + k)) n) i - flB (gN D (8 + k)) (rs D (8 + k)) n i by rw [sumN]; omega] at q; exact q
      · rw [flE_step (q := fun o => if o < i + 1 then flB (gN D (8 + k)) (rs D (8 + k)) n o else 0) (by omega) c28 (by
          show (if i < i + 1 then flB (gN D (8 + k)) (rs D (8 + k)) n i else _) = (if i < i then _ else 0) + flB (gN D (8 + k)) (rs D (8 + k)) n i
          rw [if_pos (by omega), if_neg (by omega), Nat.zero_add]) (fun o ho q => by
          show (if o < i + 1 then flB (gN D (8 + k)) (rs D (8 + k)) n o else 0) = if o < i then flB (gN D (8 + k)) (rs D (8 + k)) n o else 0
          by_cases q3 : o < i
          · rw [if_pos (by omega), if_pos q3]
          · rw [if_neg (by omega), if_neg q3])] at hc2
        exact hc2
  refine hAt 7 _ _ _ _ _ _ ?_
  refine s_psum hc hn hk tk ?_
  refine And.intro (fun hq => ?_) (fun hq => ?_)
  · have c10 : n ≤ 0 := (leN (a := n) (b := 0) rfl rfl (by omega) (by omega)).mp hq
    clear hq
    refine hAt 1 _ _ _ _ _ _ ?_
    exact hP σ (by rw [dfl, if_pos (by omega)]; exact hc) (fun _ => rfl)
  · have c10 : 0 < n := Nat.lt_of_not_le (fun zq => hq ((leN (a := n) (b := 0) rfl rfl (by omega) (by omega)).mpr zq))
    clear hq
    refine hAt 2 _ _ _ _ _ _ ?_
    refine And.intro (fun hq => ?_) (fun hq => ?_)
    · have c14 : 0 < rs D (8 + k) := (ltN (a := 0) (b := rs D (8 + k)) rfl rfl (by omega) (by omega)).mp hq
      clear hq
      refine hAt 4 _ _ _ _ _ _ ?_
      have q := l1 (by omega) 0 (by omega) σ junk (fun _ => rfl) (by rw [flE_0 (fun o _ => by show (if o < 0 then _ else 0) = 0; rw [if_neg (by omega)])]; exact hc)
      rw [sumN, Nat.sub_zero] at q
      exact q
    · have c14 : rs D (8 + k) ≤ 0 := Nat.le_of_not_lt (fun zq => hq ((ltN (a := 0) (b := rs D (8 + k)) rfl rfl (by omega) (by omega)).mpr zq))
      clear hq
      exact absurd c14 (by omega)
theorem s_hasGuns {b : Tb} {h k : Nat} (hb : tbR σ 31 32 4 b) (hB : b.1 ≤ 30) (hbb : ∀ i, i < b.1 → b.2 i 0 < 50 ∧ b.2 i 1 < 8 ∧ b.2 i 2 ≤ 2) (hh : h < 50) (hk : k < 8) (hP : P (some (.int (bI (gnB b h k b.1)))) σ) : Ret w true (d + 2) 0 0 m_Book_hasGuns [.ref 30, .int (nI h), .int (nI k)] σ P X := by
  refine meth_ok k_Book_hasGuns q_Book_hasGuns rfl fun At hAt => ?_
  have hit : ∀ i, i < b.1 → b.2 i 0 = h → b.2 i 1 = k → b.2 i 2 = 2 → gnB b h k b.1 = true := by
    intro i hi g0 g1 g2
    have aux : ∀ m, i < m → gnB b h k m = true := by
      intro m
      induction m with
      | zero => exact fun z => absurd z (Nat.not_lt_zero i)
      | succ m ih =>
        intro z
        rw [gnB, Bool.or_eq_true]
        by_cases e : i = m
        · subst e; exact Or.inr (decide_eq_true ⟨g0, g1, g2⟩)
        · exact Or.inl (ih (by omega))
    exact aux _ hi
  have loop : ∀ i, i ≤ b.1 → gnB b h k i = false → ∀ z4, At 2 [.ref 30, .int (nI h), .int (nI k), .int (nI i), z4] [] σ 0 0 := by
    refine upto fun i hi ih => ?_
    intro hno z4
    have nxt : ¬ (b.2 i 0 = h ∧ b.2 i 1 = k ∧ b.2 i 2 = 2) → gnB b h k (i + 1) = false := fun q => by rw [gnB, hno, decide_eq_false q]; rfl
    refine hAt 4 _ _ _ _ _ _ ?_
    refine s_Table_size (a := 31) (na := 32) (mo := 30) (wd := 4) rfl ?_
    refine Eq.mpr (congrArg (fun xq : Int32 => At 10 [.ref (30), .int (nI h), .int (nI k), .int (nI i), z4] [.int xq, .int (nI i)] σ 0 0) (show rI σ 31 3 = nI b.1 from hb.1)) ?_
    refine hAt 1 _ _ _ _ _ _ ?_
    refine And.intro (fun hq => ?_) (fun hq => ?_)
    · have c10 : b.1 ≤ i := (leN (a := b.1) (b := i) rfl rfl (by omega) (by omega)).mp hq
      clear hq
      refine hAt 2 _ _ _ _ _ _ ?_
      refine And.intro (rfl) ?_
      have e : i = b.1 := by omega
      rw [e] at hno
      rw [hno] at hP
      exact hP
    · have c10 : i < b.1 := Nat.lt_of_not_le (fun zq => hq ((leN (a := b.1) (b := i) rfl rfl (by omega) (by omega)).mpr zq))
      clear hq
      have bi := hbb i c10
      refine hAt 5 _ _ _ _ _ _ ?_
      refine s_Table_get (a := 31) (na := 32) (mo := 30) (wd := 4) rfl (show i < 30 by omega) (show 0 < 4 by omega) ?_
      refine Eq.mpr (congrArg (fun xq : Int32 => At 22 [.ref (30), .int (nI h), .int (nI k), .int (nI i), z4] [.int xq] σ 0 0) (show rI σ 32 (i * 4 + 0) = nI (b.2 i 0) from (hb.2 i (by omega) 0 (by omega)))) ?_
      refine hAt 2 _ _ _ _ _ _ ?_
      refine And.intro (fun hq => ?_) (fun hq => ?_)
      · have c23 : ¬ b.2 i 0 = h := fun zq => hq ((eqN (a := b.2 i 0) (b := h) rfl rfl (by omega) (by omega)).mpr zq)
        clear hq
        refine hAt 4 _ _ _ _ _ _ ?_
        refine And.intro (fun _ => ?_) (fun hq => absurd hq (by decide))
        refine hAt 2 _ _ _ _ _ _ ?_
        refine Eq.mpr (congrArg (fun xq : Int32 => At 2 [.ref (30), .int (nI h), .int (nI k), .int xq, .int (nI 0)] [] σ 0 0) (show nI i + nI 1 = nI (i + 1) from (adE rfl rfl))) ?_
        exact ih c10 (nxt (fun z => c23 z.1)) _
      · have c23 : b.2 i 0 = h := (eqN (a := b.2 i 0) (b := h) rfl rfl (by omega) (by omega)).mp hq
        clear hq
        refine hAt 5 _ _ _ _ _ _ ?_
        refine s_Table_get (a := 31) (na := 32) (mo := 30) (wd := 4) rfl (show i < 30 by omega) (show 1 < 4 by omega) ?_
        refine Eq.mpr (congrArg (fun xq : Int32 => At 35 [.ref (30), .int (nI h), .int (nI k), .int (nI i), z4] [.int xq] σ 0 0) (show rI σ 32 (i * 4 + 1) = nI (b.2 i 1) from (hb.2 i (by omega) 1 (by omega)))) ?_
        refine hAt 2 _ _ _ _ _ _ ?_
        refine And.intro (fun hq => ?_) (fun hq => ?_)
        · have c36 : ¬ b.2 i 1 = k := fun zq => hq ((eqN (a := b.2 i 1) (b := k) rfl rfl (by omega) (by omega)).mpr zq)
          clear hq
          refine hAt 4 _ _ _ _ _ _ ?_
          refine And.intro (fun _ => ?_) (fun hq => absurd hq (by decide))
          refine hAt 2 _ _ _ _ _ _ ?_
          refine Eq.mpr (congrArg (fun xq : Int32 => At 2 [.ref (30), .int (nI h), .int (nI k), .int xq, .int (nI 0)] [] σ 0 0) (show nI i + nI 1 = nI (i + 1) from (adE rfl rfl))) ?_
          exact ih c10 (nxt (fun z => c36 z.2.1)) _
        · have c36 : b.2 i 1 = k := (eqN (a := b.2 i 1) (b := k) rfl rfl (by omega) (by omega)).mp hq
          clear hq
          refine hAt 5 _ _ _ _ _ _ ?_
          refine And.intro (fun hq => absurd hq (by decide)) (fun _ => ?_)
          refine hAt 5 _ _ _ _ _ _ ?_
          refine s_Table_get (a := 31) (na := 32) (mo := 30) (wd := 4) rfl (show i < 30 by omega) (show 2 < 4 by omega) ?_
          refine Eq.mpr (congrArg (fun xq : Int32 => At 60 [.ref (30), .int (nI h), .int (nI k), .int (nI i), .int (nI 1)] [.int xq] σ 0 0) (show rI σ 32 (i * 4 + 2) = nI (b.2 i 2) from (hb.2 i (by omega) 2 (by omega)))) ?_
          refine hAt 2 _ _ _ _ _ _ ?_
          refine And.intro (fun hq => ?_) (fun hq => ?_)
          · have c61 : ¬ b.2 i 2 = 2 := fun zq => hq ((eqN (a := b.2 i 2) (b := 2) rfl rfl (by omega) (by omega)).mpr zq)
            clear hq
            refine hAt 2 _ _ _ _ _ _ ?_
            refine Eq.mpr (congrArg (fun xq : Int32 => At 2 [.ref (30), .int (nI h), .int (nI k), .int xq, .int (nI 1)] [] σ 0 0) (show nI i + nI 1 = nI (i + 1) from (adE rfl rfl))) ?_
            exact ih c10 (nxt (fun z => c61 z.2.2)) _
          · have c61 : b.2 i 2 = 2 := (eqN (a := b.2 i 2) (b := 2) rfl rfl (by omega) (by omega)).mp hq
            clear hq
            refine hAt 2 _ _ _ _ _ _ ?_
            refine And.intro (rfl) ?_
            rw [hit i c10 c23 c36 c61] at hP
            exact hP
  refine hAt 2 _ _ _ _ _ _ ?_
  exact loop 0 (by omega) rfl _
theorem s_spill {D : Dy} {b : Tb} {h : Nat} (hS0 : skC σ0 4 s) (hb0 : tbR σ0 31 32 4 b) (hB : b.1 ≤ 30) (hbb : ∀ i, i < b.1 → b.2 i 0 < 50 ∧ b.2 i 1 < 8 ∧ b.2 i 2 ≤ 2) (hv : VS s) (hh : h < 50) (hd : DV s (h + 1) D) (hc : eC σ0 s (h + 1) (fun _ => h) D σ) (hP : ∀ τ, eC σ0 s (h + 1) (fun _ => h) (fld (sp1 s b h) D (kT s 2)) τ → P none τ) : Ret w true (d + 4) 0 0 m_Day_spill [.ref 59, .int (nI h)] σ P X := by
  have hn := hv.2.2.1
  have hv' := hv
  obtain ⟨-, -, -, -, -, -, s6, s7, -⟩ := hv'
  refine meth_ok k_Day_spill q_Day_spill rfl fun At hAt => ?_
  have loop : ∀ k, k ≤ kT s 2 → ∀ τ z3, eC σ0 s (h + 1) (fun _ => h) (fld (sp1 s b h) D k) τ → At 2 [.ref 59, .int (nI h), .int (nI k), z3] [] τ 0 0 := by
    refine upto fun k hk ih => ?_
    intro τ z3 hcc
    have hS := hcc.sk hS0
    have hdk := fld_dv (f := sp1 s b h) (n := kT s 2) (fun D k hk hd => sp1_dv (h := h) hv hk hd) hd k hk
    have pk1 : ∀ i, i < kT s 2 → gN (fld (sp1 s b h) D k) 0 i = 1 → ps s i h ≠ none := fun i hi q => by
      have := (hdk.1 i hi q).1
      unfold pA at this
      rw [Nat.add_sub_cancel] at this; exact this.2
    obtain ⟨E, hE⟩ : ∃ E, E = fld (sp1 s b h) D k := ⟨_, rfl⟩
    have nxt : fld (sp1 s b h) D (k + 1) = sp1 s b h E k := by rw [hE]; rfl
    rw [nxt] at ih
    rw [← hE] at hcc hdk pk1
    have rk : k < kT s 2 → rs E (8 + k) ≤ 7992 := fun _ => Nat.le_trans (hdk.rs_le (by omega) (by omega)) (cap_le hv (h + 1))
    refine hAt 5 _ _ _ _ _ _ ?_
    refine s_Table_size (a := 8) (na := 9) (mo := 8) (wd := 7) rfl ?_
    refine Eq.mpr (congrArg (fun xq : Int32 => At 13 [.ref (59), .int (nI h), .int (nI k), z3] [.int xq, .int (nI k)] τ 0 0) (show rI τ 8 3 = nI (kT s 2) from hS.2.2.1.1)) ?_
    refine hAt 1 _ _ _ _ _ _ ?_
    refine And.intro (fun hq => ?_) (fun hq => ?_)
    · have c13 : kT s 2 ≤ k := (leN (a := kT s 2) (b := k) rfl rfl (by omega) (by omega)).mp hq
      clear hq
      refine hAt 1 _ _ _ _ _ _ ?_
      have e : k = kT s 2 := by omega
      rw [← e] at hP
      rw [hE] at hcc
      exact hP τ hcc
    · have c13 : k < kT s 2 := Nat.lt_of_not_le (fun zq => hq ((leN (a := kT s 2) (b := k) rfl rfl (by omega) (by omega)).mpr zq))
      clear hq
      have rk := rk c13
      refine hAt 4 _ _ _ _ _ _ ?_
      refine s_isThere hv hcc (by omega) (pk1 k (by omega)) ?_
      refine And.intro (fun hq => ?_) (fun hq => ?_)
      · have c21 : ¬ (gN E 0 k = 1) := of_decide_eq_false (bI_eq hq)
        clear hq
        refine hAt 2 _ _ _ _ _ _ ?_
        refine Eq.mpr (congrArg (fun xq : Int32 => At 2 [.ref (59), .int (nI h), .int xq, z3] [] τ 0 0) (show nI k + nI 1 = nI (k + 1) from (adE rfl rfl))) ?_
        refine ih c13 τ _ ?_
        rw [sp1, if_neg (fun z => c21 z.1)]; exact hcc
      · have c21 : gN E 0 k = 1 := of_decide_eq_true (bI_ne hq)
        clear hq
        refine hAt 12 _ _ _ _ _ _ ?_
        refine s_psum hcc hn (by omega) c21 ?_
        refine s_Sky_fact hS (by omega) ?_
        refine And.intro (fun hq => ?_) (fun hq => ?_)
        · have c44 : ((rs E (8 + k) : Nat) : Int) - ((kT s 7 : Nat) : Int) ≤ 0 := (leZ (a := ((rs E (8 + k) : Nat) : Int) - ((kT s 7 : Nat) : Int)) (b := 0) (sbZ (ntZ rfl) (ntZ rfl)) (ntZ rfl) (by omega) (by omega) (by omega) (by omega)).mp hq
          clear hq
          refine hAt 2 _ _ _ _ _ _ ?_
          refine Eq.mpr (congrArg (fun xq : Int32 => At 2 [.ref (59), .int (nI h), .int xq, .int ((nI (rs E (8 + k))) - (nI (kT s 7)))] [] τ 0 0) (show nI k + nI 1 = nI (k + 1) from (adE rfl rfl))) ?_
          refine Eq.mpr (congrArg (fun xq : Int32 => At 2 [.ref (59), .int (nI h), .int (nI (k + 1)), .int xq] [] τ 0 0) (show (nI (rs E (8 + k))) - (nI (kT s 7)) = iZ (((rs E (8 + k) : Nat) : Int) - ((kT s 7 : Nat) : Int)) from (sbZ (ntZ rfl) (ntZ rfl)))) ?_
          refine ih c13 τ _ ?_
          unfold sp1
          by_cases q : gN E 0 k = 1 ∧ gnB b h k b.1 = false
          · rw [if_pos q, dfl, if_pos (by omega)]; exact hcc
          · rw [if_neg q]; exact hcc
        · have c44 : (0 : Int) < ((rs E (8 + k) : Nat) : Int) - ((kT s 7 : Nat) : Int) := Int.not_le.mp (fun zq => hq ((leZ (a := ((rs E (8 + k) : Nat) : Int) - ((kT s 7 : Nat) : Int)) (b := 0) (sbZ (ntZ rfl) (ntZ rfl)) (ntZ rfl) (by omega) (by omega) (by omega) (by omega)).mpr zq))
          clear hq
          refine hAt 6 _ _ _ _ _ _ ?_
          refine s_hasGuns (hcc.or hb0) hB hbb hh (by omega) ?_
          refine And.intro (fun hq => ?_) (fun hq => ?_)
          · have c56 : gnB b h k b.1 = true := bI_ne hq
            clear hq
            refine hAt 2 _ _ _ _ _ _ ?_
            refine Eq.mpr (congrArg (fun xq : Int32 => At 2 [.ref (59), .int (nI h), .int xq, .int (nI (rs E (8 + k)) - nI (kT s 7))] [] τ 0 0) (show nI k + nI 1 = nI (k + 1) from (adE rfl rfl))) ?_
            refine Eq.mpr (congrArg (fun xq : Int32 => At 2 [.ref (59), .int (nI h), .int (nI (k + 1)), .int xq] [] τ 0 0) (show nI (rs E (8 + k)) - nI (kT s 7) = nI (rs E (8 + k) - kT s 7) from (sbE rfl rfl (by omega)))) ?_
            refine ih c13 τ _ ?_
            rw [sp1, if_neg (fun z => by rw [c56] at z; cases z.2)]; exact hcc
          · have c56 : gnB b h k b.1 = false := bI_eq hq
            clear hq
            refine hAt 3 _ _ _ _ _ _ ?_
            refine Eq.mpr (congrArg (fun xq : Int32 => At 62 [.ref (59), .int (nI h), .int (nI k), .int (nI (rs E (8 + k)) - nI (kT s 7))] [.int xq, .int (nI k), .ref (59)] τ 0 0) (show nI (rs E (8 + k)) - nI (kT s 7) = nI (rs E (8 + k) - kT s 7) from (sbE rfl rfl (by omega)))) ?_
            refine hAt 3 _ _ _ _ _ _ ?_
            refine s_letFall hv hdk (cap_le hv (h + 1)) hcc (by omega) c21 (pk1 k (by omega) c21) (Nat.sub_le _ _) (fun τ2 hc2 _ => ?_)
            refine Eq.mpr (congrArg (fun xq : Int32 => At 2 [.ref (59), .int (nI h), .int xq, .int (nI (rs E (8 + k)) - nI (kT s 7))] [] τ2 0 0) (show nI k + nI 1 = nI (k + 1) from (adE rfl rfl))) ?_
            refine Eq.mpr (congrArg (fun xq : Int32 => At 2 [.ref (59), .int (nI h), .int (nI (k + 1)), .int xq] [] τ2 0 0) (show nI (rs E (8 + k)) - nI (kT s 7) = nI (rs E (8 + k) - kT s 7) from (sbE rfl rfl (by omega)))) ?_
            refine ih c13 τ2 _ ?_
            rw [sp1, if_pos ⟨c21, c56⟩]; exact hc2
  refine hAt 2 _ _ _ _ _ _ ?_
  exact loop 0 (by omega) σ _ hc
end DC4
