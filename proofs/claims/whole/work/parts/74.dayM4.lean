/-! THE DAY on the model's side: what falls -/
theorem i64_of {a : Nat} (h : a < 2 ^ 31) : (nI a).toInt64.toInt = (a : Int) := by
  rw [Int32.toInt_toInt64, nI_toInt h]
theorem fl_z {n p all : Nat} (h1 : n ≤ 7992) (h2 : p ≤ 7992) (h3 : all ≤ 7992) : (((nI n).toInt64 * (nI p).toInt64) / (nI all).toInt64).toInt32 = nI (n * p / all) := by
  have hm : n * p ≤ 7992 * 7992 := Nat.mul_le_mul h1 h2
  have hd : n * p / all ≤ n * p := Nat.div_le_self _ _
  apply Int32.toInt_inj.mp
  rw [Int64.toInt_toInt32, Int64.toInt_div, Int64.toInt_mul, i64_of (by omega), i64_of (by omega), i64_of (by omega), nI_toInt (by omega)]
  have b : ∀ q m : Nat, (m = 2 ^ 32 ∨ m = 2 ^ 64) → q ≤ 7992 * 7992 → ((q : Int)).bmod m = (q : Int) := by
    intro q m hm hq
    rcases hm with rfl | rfl <;> exact Int.bmod_eq_of_le (by omega) (by omega)
  rw [← Int.natCast_mul, b _ _ (Or.inr rfl) hm, ← Int.ofNat_tdiv, b _ _ (Or.inr rfl) (by omega), b _ _ (Or.inl rfl) (by omega)]
theorem i64_nz {a : Nat} (h : a < 2 ^ 31) (h0 : 0 < a) : (nI a).toInt64 ≠ 0 := fun z => by
  have := i64_of h
  rw [z] at this
  have e : (0 : Int64).toInt = 0 := rfl
  omega
/-- what lies under the clouds -/
def hpM (s : Sk) (D : Dy) (σ : Mem) : Prop := ∀ x y o, x < kT s 0 → y < kT s 1 → o < 8 → rI σ (253 + 1 + (kT s 0 * y + x)) o = nI (gN D (20 + (8 * y + x)) o)
theorem row_inj {W x y x' y' : Nat} (h : x < W) (h' : x' < W) (e : W * y + x = W * y' + x') : x = x' ∧ y = y' := by
  have a1 : (W * y + x) / W = y := by rw [Nat.mul_add_div (by omega), Nat.div_eq_of_lt h, Nat.add_zero]
  have a2 : (W * y' + x') / W = y' := by rw [Nat.mul_add_div (by omega), Nat.div_eq_of_lt h', Nat.add_zero]
  rw [e, a2] at a1
  subst a1
  exact ⟨by omega, rfl⟩
theorem row_lt {W H x y : Nat} (hW : W ≤ 8) (hH : H ≤ 8) (hx : x < W) (hy : y < H) : W * y + x < 64 := by
  have h1 : W * y ≤ 8 * 7 := Nat.mul_le_mul hW (by omega)
  omega
theorem hpM.keep {s : Sk} {D E : Dy} {σ τ : Mem} (hv : VS s) (hp : hpM s D σ) (h1 : ∀ a x, 254 ≤ a → a < 318 → rI τ a x = rI σ a x) (h2 : ∀ c o, c < 64 → o < 8 → gN E (20 + c) o = gN D (20 + c) o) : hpM s E τ := by
  intro x y o hx hy ho
  have := row_lt (x := x) (y := y) hv.1.2 hv.2.1.2 hx hy
  have := hv.1
  have := hv.2.1
  rw [h1 _ _ (by omega) (by omega), h2 _ _ (by omega) ho]
  exact hp x y o hx hy ho
theorem hpM.step {s : Sk} {D : Dy} {σ : Mem} {u v o m : Nat} (hv : VS s) (hp : hpM s D σ) (hu : u < kT s 0) (hw : v < kT s 1) : hpM s (sN D (20 + (8 * v + u)) o m) (wI σ (253 + 1 + (kT s 0 * v + u)) o (nI m)) := by
  intro x y i hx hy hi
  have := hv.1
  have := hv.2.1
  rw [rI_wI, gN_sN]
  by_cases e : 253 + 1 + (kT s 0 * y + x) = 253 + 1 + (kT s 0 * v + u) ∧ i = o
  · have := row_inj hx hu (show kT s 0 * y + x = kT s 0 * v + u by omega)
    rw [if_pos e, if_pos ⟨by omega, e.2⟩]
  · rw [if_neg e, if_neg (fun z => e ⟨by
      have e1 : y = v := by omega
      have e2 : x = u := by omega
      rw [e1, e2], z.2⟩)]
    exact hp x y i hx hy hi
theorem eM.low {σ0 σ : Mem} {s : Sk} {hf : Nat → Nat} {D E : Dy} (hc : eM σ0 s hf D σ) (h0 : ∀ t i, t < 20 → t ≠ 4 → gN E t i = gN D t i) (h2 : ∀ t i, gD E t i = gD D t i) (hn : kT s 2 ≤ 8) : eM σ0 s hf E σ := by
  refine ⟨hc.1, fun k hk => ?_, fun k hk t => ?_, fun k hk t => ?_, fun f hf => ?_, fun k o hk t ho => ?_, fun g o hg ho => ?_, fun f hf => ?_, fun f hf => ?_, fun o i ho hi => ?_, fun f hf => ?_, fun f hf => ?_, ?_, ?_, ?_, ?_, ?_, ?_, ?_⟩
  · rw [h0 _ _ (by omega) (by omega)]; exact hc.2.1 k hk
  · rw [h0 _ _ (by omega) (by omega)] at t ⊢; exact hc.own k hk t
  · rw [h0 _ _ (by omega) (by omega)] at t ⊢; exact hc.min k hk t
  · rw [h0 _ _ (by omega) (by omega)]; exact hc.thi f hf
  · rw [h0 _ _ (by omega) (by omega)] at t ⊢; exact hc.par k o hk t ho
  · rw [h0 _ _ (by omega) (by omega)]; exact hc.kep g o hg ho
  · rw [h2]; exact hc.flo f hf
  · rw [h2]; exact hc.hai f hf
  · rw [h2]; exact hc.acc o i ho hi
  · rw [h2]; exact hc.pay f hf
  · rw [h2]; exact hc.owe f hf
  · rw [h2]; exact hc.sed
  · rw [h2]; exact hc.gon
  · rw [h2]; exact hc.joi
  · rw [h2]; exact hc.tak
  · rw [h2]; exact hc.fld
  · rw [h2]; exact hc.was
  · rw [h2]; exact hc.hls
theorem cix_of {s : Sk} {k h : Nat} {q : Nat × Nat} (e : ps s k h = some q) : cix s k h = 8 * q.2 + q.1 := by unfold cix; rw [e]
section DM4
variable {w : Wd} {d : Nat} {σ0 σ : Mem} {s : Sk} {P : Option AV → Mem → Prop} {X : Nat → Mem → Prop}
theorem s_McellN {x y : Nat} (hS : skM σ s) (hv : VS s) (hx : x < 8) (hy : y < 8) (hP : P (some (.int (nI (kT s 0 * y + x)))) σ) : Ret w true (d + 1) 0 0 m_Mo_cell [.ref 108, .int (nI x), .int (nI y)] σ P X := by
  have s1 := hv.1
  refine meth_ok k_Mo_cell q_Mo_cell rfl fun At hAt => ?_
  refine hAt 4 _ _ _ _ _ _ ?_
  refine And.intro (aOKx (n := 11) (j := 0) rfl (by decide) rfl rfl (by omega) (by omega)) ?_
  refine Eq.mpr (congrArg (fun xq : Int32 => At 6 [.ref (108), .int (nI x), .int (nI y)] [.int xq] σ 0 0) (show rI σ 111 (nI 0).toNatClampNeg = nI (kT s 0) from (ldE rfl (by omega) (hS.1 0 (by omega))))) ?_
  refine hAt 5 _ _ _ _ _ _ ?_
  refine retE (adE (mlE rfl rfl) rfl) ?_
  exact hP
theorem s_falls_0 {D : Dy} {h k : Nat} {x : Int32} (hv : VS s) (hc : eM σ0 s (fun _ => h) D σ) (hk : k < kT s 2) (tk : gN D 0 k = 1) (hx : x ≤ nI 0) (hP : P none σ) : Ret w true (d + 2) 1 8 m_Mo_falls [.ref 108, .int (nI k), .int x] σ P X := by
  have hn := hv.2.2.1
  refine meth_ok k_Mo_falls q_Mo_falls rfl fun At hAt => ?_
  refine hAt 4 _ _ _ _ _ _ ?_
  refine And.intro (mx_r (q := 244) (n := 8) (k := 8) rfl rfl (show k < 8 by omega)) (And.intro (Or.inl rfl) ?_)
  refine Eq.mpr (congrArg (fun xq : Nat => At 6 [.ref (108), .int (nI k), .int (x), junk, junk, junk, junk] [.ref xq] σ 0 0) (rwE rfl (by omega))) ?_
  refine hAt 6 _ _ _ _ _ _ ?_
  refine s_Mpsum hc hn hk tk ?_
  refine And.intro (fun hq => ?_) (fun hq => ?_)
  · have c14 : nI 0 < x := hq
    clear hq
    exact absurd (Int32.lt_of_le_of_lt hx c14) (Int32.lt_irrefl)
  · have c14 : ¬ nI 0 < x := hq
    clear hq
    refine hAt 1 _ _ _ _ _ _ ?_
    exact hP
theorem s_falls {D : Dy} {h k n : Nat} {q : Nat × Nat} {A : Nat → Prop} {cc : Nat} (hv : VS s) (hd : DVx s A cc D) (hcc : cc ≤ 7992) (hS0 : skM σ0 s) (hN0 : ow_n0 ≤ mN σ0) (hc : eM σ0 s (fun _ => h) D σ) (hp : hpM s D σ) (hk : k < kT s 2) (tk : gN D 0 k = 1) (pk : ps s k h = some q) (hnl : n ≤ rs D (8 + k)) (hP : ∀ τ, eM σ0 s (fun _ => h) (dfl D k (cix s k h) n) τ → hpM s (dfl D k (cix s k h) n) τ → (∀ j, rI τ 243 j = rI σ 243 j) → P none τ) : Ret w true (d + 2) 1 8 m_Mo_falls [.ref 108, .int (nI k), .int (nI n)] σ P X := by
  have hn := hv.2.2.1
  have hF := hv.2.2.2.1
  have hL : ow_n0 ≤ mN σ := Nat.le_trans hN0 hc.1.2.2
  have hLL : 368 ≤ mN σ := hL
  have rk : rs D (8 + k) ≤ 7992 := Nat.le_trans (hd.rs_le (by omega) (by omega)) hcc
  have gk : ∀ o, o < 8 → gN D (8 + k) o ≤ 7992 := fun o ho => Nat.le_trans (gN_rs ho) rk
  have cx := cix_lt (h := h) hv hk
  have ec := cix_of pk
  have bq := ps_in hv hk _ q pk
  have s1 := hv.1
  have s2 := hv.2.1
  have bcl := row_lt (x := q.1) (y := q.2) s1.2 s2.2 bq.1 bq.2
  have tE : ∀ g i, gN (flE D k (cix s k h) g) 0 i = gN D 0 i := fun g i => by rw [gN_flE, if_neg (by omega), if_neg (by omega)]
  by_cases hn0 : n = 0
  · subst hn0
    exact s_falls_0 hv hc hk tk (Int32.le_refl _) (hP σ hc hp (fun _ => rfl))
  refine meth_ok k_Mo_falls q_Mo_falls rfl fun At hAt => ?_
  have h0 : 0 < rs D (8 + k) := by omega
  have ⟨b1, b2⟩ := flR_le (p := gN D (8 + k)) (all := rs D (8 + k)) rfl hnl h0
  have bR : flR (gN D (8 + k)) (rs D (8 + k)) n ≤ n := Nat.sub_le _ _
  have nz := i64_nz (a := rs D (8 + k)) (by omega) h0
  have nx : ∀ τ : Mem, τ.2 = (nD σ 8).2 → mN σ < mN τ ∧ mD τ (mN σ) = 8 + 1 := fun τ e => ⟨by
    have : mN τ = mN σ + 1 := congrArg (fun z => z.2.2.1) e
    omega, (congrArg (fun z => z.2.1 (mN σ)) e).trans (if_pos rfl)⟩
  have l3 : ∀ o, o ≤ 8 → ∀ τ, eM σ0 s (fun _ => h) (flE D k (cix s k h) (fun i => if i < o then flS D k n i else 0)) τ → hpM s (flE D k (cix s k h) (fun i => if i < o then flS D k n i else 0)) τ → (∀ j, rI τ 243 j = rI σ 243 j) → τ.2 = (nD σ 8).2 → (∀ i, i < 8 → rI τ (mN σ) i = nI (flS D k n i)) → At 127 [.ref 108, .int (nI k), .int (nI n), .int (nI (rs D (8 + k))), .int (nI 0), .ref (mN σ), .int (nI o)] [] τ 1 8 := by
    refine upto fun o ho ih => ?_
    intro τ hx hq h43 t2 ha
    have ⟨hM, hD⟩ := nx τ t2
    have hS := hx.sk hS0 hv
    have fL : flS D k n o ≤ gN D (8 + k) o := flL_le hnl
    have gko := gk o
    have tk' : gN (flE D k (cix s k h) (fun i => if i < o then flS D k n i else 0)) 0 k = 1 := by rw [tE]; exact tk
    have xy := (hx.2.1 k hk).2 tk' q pk
    have rp : o < 8 → rI τ (244 + 1 + k) o = nI (gN D (8 + k) o) := fun z => by
      rw [hx.par k o hk tk' z, gN_flE, if_neg (by omega), if_pos ⟨rfl, z⟩, if_neg (by omega), Nat.sub_zero]
    have rr : o < 8 → rI τ (253 + 1 + (kT s 0 * q.2 + q.1)) o = nI (gN D (20 + cix s k h) o) := fun z => by
      rw [hq q.1 q.2 o bq.1 bq.2 z, ← ec, gN_flE, if_pos ⟨rfl, z⟩, if_neg (by omega), Nat.add_zero]
    have gr : o < 8 → gN D (20 + cix s k h) o ≤ 7992 := fun z => Nat.le_trans (gN_rs z) (Nat.le_trans (hd.rs_le (by omega) (by omega)) hcc)
    refine hAt 3 _ _ _ _ _ _ ?_
    refine And.intro (fun hq => ?_) (fun hq => ?_)
    · have c131 : 8 ≤ o := (leN (a := 8) (b := o) rfl rfl (by omega) (by omega)).mp hq
      clear hq
      refine hAt 1 _ _ _ _ _ _ ?_
      have e : o = 8 := by omega
      subst e
      have e2 : dfl D k (cix s k h) n = flE D k (cix s k h) (fun i => if i < 8 then flS D k n i else 0) := by rw [flE_dfl hn0]; exact flE_congr (fun i hi => by rw [if_pos hi])
      exact hP τ (by rw [e2]; exact hx) (by rw [e2]; exact hq) h43
    · have c131 : o < 8 := Nat.lt_of_not_le (fun zq => hq ((leN (a := 8) (b := o) rfl rfl (by omega) (by omega)).mpr zq))
      clear hq
      have gko := gko c131
      have gr := gr c131
      refine hAt 4 _ _ _ _ _ _ ?_
      refine And.intro (mx_r (q := 244) (n := 8) (k := 8) rfl rfl (show k < 8 by omega)) (And.intro (Or.inl rfl) ?_)
      refine Eq.mpr (congrArg (fun xq : Nat => At 140 [.ref (108), .int (nI k), .int (nI n), .int (nI (rs D (8 + k))), .int (nI 0), .ref (mN σ), .int (nI o)] [.ref xq] τ 1 8) (rwE rfl (by omega))) ?_
      refine hAt 3 _ _ _ _ _ _ ?_
      refine And.intro (mx_e (q := 244) (n := 8) (k := 8) (j := k) (i := o) rfl (by omega) (by omega) rfl) ?_
      refine Eq.mpr (congrArg (fun xq : Int32 => At 144 [.ref (108), .int (nI k), .int (nI n), .int (nI (rs D (8 + k))), .int (nI 0), .ref (mN σ), .int (nI o)] [.int xq, .int (nI o), .ref (244 + 1 + k)] τ 1 8) (show rI τ (244 + 1 + k) (nI o).toNatClampNeg = nI (gN D (8 + k) o) from (ldE rfl (by omega) (rp (by omega))))) ?_
      refine hAt 3 _ _ _ _ _ _ ?_
      refine And.intro (aOK_d hL hM hD (show o < 8 by omega) (by omega)) ?_
      refine Eq.mpr (congrArg (fun xq : Int32 => At 149 [.ref (108), .int (nI k), .int (nI n), .int (nI (rs D (8 + k))), .int (nI 0), .ref (mN σ), .int (nI o)] [.int xq, .int (nI (gN D (8 + k) o)), .int (nI o), .ref (244 + 1 + k)] τ 1 8) (show rI τ (mN σ) (nI o).toNatClampNeg = nI (flS D k n o) from (ldE rfl (by omega) (ha o (by omega))))) ?_
      refine hAt 2 _ _ _ _ _ _ ?_
      refine And.intro (mx_e (q := 244) (n := 8) (k := 8) (j := k) (i := o) rfl (by omega) (by omega) rfl) ?_
      refine Eq.mpr (congrArg (fun xq : Mem => At 151 [.ref (108), .int (nI k), .int (nI n), .int (nI (rs D (8 + k))), .int (nI 0), .ref (mN σ), .int (nI o)] [] xq 1 8) (wrE (σ := τ) (q := 244 + 1 + k) (p := rfl) (hj := by omega) (h := (sbE rfl rfl (by omega))))) ?_
      refine hAt 7 _ _ _ _ _ _ ?_
      refine And.intro (aOKx (n := 8) (j := k) rfl (by decide) rfl rfl (by omega) (by omega)) ?_
      refine Eq.mpr (congrArg (fun xq : Int32 => At 162 [.ref (108), .int (nI k), .int (nI n), .int (nI (rs D (8 + k))), .int (nI 0), .ref (mN σ), .int (nI o)] [.int xq, .ref (108), .ref (253)] (wI τ (244 + 1 + k) o (nI ((gN D (8 + k) o) - (flS D k n o)))) 1 8) (show rI (wI τ (244 + 1 + k) o (nI ((gN D (8 + k) o) - (flS D k n o)))) 239 (nI k).toNatClampNeg = nI q.1 from (ldE rfl (by omega) (by rw [rI_wI, if_neg (by omega)]; exact xy.1)))) ?_
      refine hAt 4 _ _ _ _ _ _ ?_
      refine And.intro (aOKx (n := 8) (j := k) rfl (by decide) rfl rfl (by omega) (by omega)) ?_
      refine Eq.mpr (congrArg (fun xq : Int32 => At 168 [.ref (108), .int (nI k), .int (nI n), .int (nI (rs D (8 + k))), .int (nI 0), .ref (mN σ), .int (nI o)] [.int xq, .int (nI q.1), .ref (108), .ref (253)] (wI τ (244 + 1 + k) o (nI ((gN D (8 + k) o) - (flS D k n o)))) 1 8) (show rI (wI τ (244 + 1 + k) o (nI ((gN D (8 + k) o) - (flS D k n o)))) 240 (nI k).toNatClampNeg = nI q.2 from (ldE rfl (by omega) (by rw [rI_wI, if_neg (by omega)]; exact xy.2)))) ?_
      refine hAt 2 _ _ _ _ _ _ ?_
      refine s_McellN (hS.scr2 hv (fun a j u1 u2 => by rw [rI_wI, if_neg (by omega)])) hv (by omega) (by omega) ?_
      refine And.intro (mx_r (q := 253) (n := 64) (k := 8) rfl rfl (show kT s 0 * q.2 + q.1 < 64 by omega)) (And.intro (Or.inl rfl) ?_)
      refine Eq.mpr (congrArg (fun xq : Nat => At 172 [.ref (108), .int (nI k), .int (nI n), .int (nI (rs D (8 + k))), .int (nI 0), .ref (mN σ), .int (nI o)] [.ref xq] (wI τ (244 + 1 + k) o (nI ((gN D (8 + k) o) - (flS D k n o)))) 1 8) (rwE rfl (by omega))) ?_
      refine hAt 3 _ _ _ _ _ _ ?_
      refine And.intro (mx_e (q := 253) (n := 64) (k := 8) (j := (kT s 0 * q.2 + q.1)) (i := o) rfl (by omega) (by omega) rfl) ?_
      refine Eq.mpr (congrArg (fun xq : Int32 => At 176 [.ref (108), .int (nI k), .int (nI n), .int (nI (rs D (8 + k))), .int (nI 0), .ref (mN σ), .int (nI o)] [.int xq, .int (nI o), .ref (253 + 1 + (kT s 0 * q.2 + q.1))] (wI τ (244 + 1 + k) o (nI ((gN D (8 + k) o) - (flS D k n o)))) 1 8) (show rI (wI τ (244 + 1 + k) o (nI ((gN D (8 + k) o) - (flS D k n o)))) (253 + 1 + (kT s 0 * q.2 + q.1)) (nI o).toNatClampNeg = nI (gN D (20 + cix s k h) o) from (ldE rfl (by omega) (by rw [rI_wI, if_neg (by omega)]; exact (rr (by omega)))))) ?_
      refine hAt 3 _ _ _ _ _ _ ?_
      refine And.intro (aOK_d hL hM hD (show o < 8 by omega) (by omega)) ?_
      refine Eq.mpr (congrArg (fun xq : Int32 => At 181 [.ref (108), .int (nI k), .int (nI n), .int (nI (rs D (8 + k))), .int (nI 0), .ref (mN σ), .int (nI o)] [.int xq, .int (nI (gN D (20 + cix s k h) o)), .int (nI o), .ref (253 + 1 + (kT s 0 * q.2 + q.1))] (wI τ (244 + 1 + k) o (nI ((gN D (8 + k) o) - (flS D k n o)))) 1 8) (show rI (wI τ (244 + 1 + k) o (nI ((gN D (8 + k) o) - (flS D k n o)))) (mN σ) (nI o).toNatClampNeg = nI (flS D k n o) from (ldE rfl (by omega) (by rw [rI_wI, if_neg (by omega)]; exact (ha o (by omega)))))) ?_
      refine hAt 2 _ _ _ _ _ _ ?_
      refine And.intro (mx_e (q := 253) (n := 64) (k := 8) (j := (kT s 0 * q.2 + q.1)) (i := o) rfl (by omega) (by omega) rfl) ?_
      refine Eq.mpr (congrArg (fun xq : Mem => At 183 [.ref (108), .int (nI k), .int (nI n), .int (nI (rs D (8 + k))), .int (nI 0), .ref (mN σ), .int (nI o)] [] xq 1 8) (wrE (σ := (wI τ (244 + 1 + k) o (nI ((gN D (8 + k) o) - (flS D k n o))))) (q := 253 + 1 + (kT s 0 * q.2 + q.1)) (p := rfl) (hj := by omega) (h := (adE rfl rfl)))) ?_
      refine hAt 2 _ _ _ _ _ _ ?_
      refine Eq.mpr (congrArg (fun xq : Int32 => At 127 [.ref (108), .int (nI k), .int (nI n), .int (nI (rs D (8 + k))), .int (nI 0), .ref (mN σ), .int xq] [] (wI (wI τ (244 + 1 + k) o (nI ((gN D (8 + k) o) - (flS D k n o)))) (253 + 1 + (kT s 0 * q.2 + q.1)) o (nI (gN D (20 + cix s k h) o + (flS D k n o)))) 1 8) (show nI o + nI 1 = nI (o + 1) from (adE rfl rfl))) ?_
      have st := flE_step (D := D) (k := k) (c := cix s k h) (i := o) (m := flS D k n o) (g := fun i => if i < o then flS D k n i else 0) (q := fun i => if i < o + 1 then flS D k n i else 0) (by omega) c131 (by
        show (if o < o + 1 then flS D k n o else _) = (if o < o then _ else 0) + flS D k n o
        rw [if_pos (by omega), if_neg (by omega), Nat.zero_add]) (fun i hi z => by
        show (if i < o + 1 then flS D k n i else 0) = if i < o then flS D k n i else 0
        by_cases z3 : i < o
        · rw [if_pos (by omega), if_pos z3]
        · rw [if_neg (by omega), if_neg z3])
      have v1 : gN (flE D k (cix s k h) (fun i => if i < o then flS D k n i else 0)) (8 + k) o = gN D (8 + k) o := by rw [gN_flE, if_neg (by omega), if_pos ⟨rfl, c131⟩, if_neg (by omega), Nat.sub_zero]
      have v2 : gN (flE D k (cix s k h) (fun i => if i < o then flS D k n i else 0)) (20 + cix s k h) o = gN D (20 + cix s k h) o := by rw [gN_flE, if_pos ⟨rfl, c131⟩, if_neg (by omega), Nat.add_zero]
      rw [v1, v2] at st
      have hx1 := hx.wpar (v := gN D (8 + k) o - flS D k n o) hk c131 hn hF
      have hq1 : hpM s (sN (flE D k (cix s k h) (fun i => if i < o then flS D k n i else 0)) (8 + k) o (gN D (8 + k) o - flS D k n o)) (wI τ (244 + 1 + k) o (nI (gN D (8 + k) o - flS D k n o))) := hq.keep hv (fun a x u1 u2 => by rw [rI_wI, if_neg (by omega)]) (fun c i _ _ => by rw [gN_ne (by omega)])
      refine ih c131 _ ?_ ?_ (fun j => ?_) t2 (fun i hi => ?_)
      · rw [← st]
        refine (hx1.mem (τ := wI (wI τ (244 + 1 + k) o (nI (gN D (8 + k) o - flS D k n o))) (253 + 1 + (kT s 0 * q.2 + q.1)) o (nI (gN D (20 + cix s k h) o + flS D k n o))) ⟨fun a x u1 u2 => ?_, fun a u x => hx1.1.2.1 a u x, hx1.1.2.2⟩ (fun a x u => ?_) hn hF).low (fun t i u1 u2 => ?_) (fun _ _ => rfl) hn
        · rw [rI_wI, if_neg (by omega)]; exact hx1.1.1 a x u1 u2
        · rw [rI_wI, if_neg (by omega)]
        · rw [gN_ne (by omega)]
      · rw [← st]
        have z := hq1.step (o := o) (m := gN D (20 + cix s k h) o + flS D k n o) hv bq.1 bq.2
        rw [← ec] at z
        exact z
      · rw [rI_wI, if_neg (by omega), rI_wI, if_neg (by omega)]; exact h43 j
      · rw [rI_wI, if_neg (by omega), rI_wI, if_neg (by omega)]; exact ha i hi
  have enter : ∀ τ, (∀ a x, a < 368 → rI τ a x = rI σ a x) → τ.2 = (nD σ 8).2 → (∀ i, i < 8 → rI τ (mN σ) i = nI (flS D k n i)) → At 127 [.ref 108, .int (nI k), .int (nI n), .int (nI (rs D (8 + k))), .int (nI 0), .ref (mN σ), .int (nI 0)] [] τ 1 8 := by
    intro τ t1 t2 ha
    have e0 : flE D k (cix s k h) (fun i => if i < 0 then flS D k n i else 0) = D := flE_0 (fun o _ => if_neg (Nat.not_lt_zero o))
    refine l3 0 (by omega) τ ?_ ?_ (fun j => t1 243 j (by omega)) t2 ha
    · rw [e0]
      refine hc.mem ⟨fun a x u1 u2 => ?_, fun a u x => ?_, ?_⟩ (fun a x u => t1 a x (by omega)) hn hF
      · rw [t1 a x u1]; exact hc.1.1 a x u1 u2
      · rw [show rL τ a x = rL σ a x from congrArg (fun z => z.1 a x) t2]; exact hc.1.2.1 a u x
      · have := (nx τ t2).1; have := hc.1.2.2; omega
    · rw [e0]
      exact hp.keep hv (fun a x u1 u2 => t1 a x (by omega)) (fun _ _ _ _ => rfl)
  have l2 : ∀ t, t ≤ 8 → ∀ τ o, (t < 8 → o = t) → o < 8 → (∀ a x, a < 368 → rI τ a x = rI σ a x) → τ.2 = (nD σ 8).2 → (∀ i, i < 8 → rI τ (mN σ) i = nI (if i < t then flS D k n i else flB (gN D (8 + k)) (rs D (8 + k)) n i)) → At 75 [.ref 108, .int (nI k), .int (nI n), .int (nI (rs D (8 + k))), .int (nI (flR (gN D (8 + k)) (rs D (8 + k)) n - min (flM (gN D (8 + k)) (rs D (8 + k)) n t) (flR (gN D (8 + k)) (rs D (8 + k)) n))), .ref (mN σ), .int (nI o)] [] τ 1 8 := by
    refine upto fun t ht ih => ?_
    intro τ o hot ho t1 t2 ha
    have ⟨hM, hD⟩ := nx τ t2
    have fB : flB (gN D (8 + k)) (rs D (8 + k)) n o ≤ gN D (8 + k) o := flB_le hnl
    have gko := gk o ho
    have eM1 : flM (gN D (8 + k)) (rs D (8 + k)) n (t + 1) = flM (gN D (8 + k)) (rs D (8 + k)) n t + if flB (gN D (8 + k)) (rs D (8 + k)) n t < gN D (8 + k) t then 1 else 0 := rfl
    have rp : rI τ (244 + 1 + k) o = nI (gN D (8 + k) o) := by rw [t1 _ _ (by omega)]; exact hc.par k o hk tk ho
    have ra : t < 8 → rI τ (mN σ) o = nI (flB (gN D (8 + k)) (rs D (8 + k)) n o) := fun z => by rw [ha o ho, if_neg (by have := hot z; omega)]
    refine hAt 2 _ _ _ _ _ _ ?_
    refine And.intro (fun hq => ?_) (fun hq => ?_)
    · have c77 : flR (gN D (8 + k)) (rs D (8 + k)) n - min (flM (gN D (8 + k)) (rs D (8 + k)) n t) (flR (gN D (8 + k)) (rs D (8 + k)) n) ≤ 0 := (leN (a := flR (gN D (8 + k)) (rs D (8 + k)) n - min (flM (gN D (8 + k)) (rs D (8 + k)) n t) (flR (gN D (8 + k)) (rs D (8 + k)) n)) (b := 0) rfl rfl (by omega) (by omega)).mp hq
      clear hq
      refine hAt 2 _ _ _ _ _ _ ?_
      have e : flR (gN D (8 + k)) (rs D (8 + k)) n - min (flM (gN D (8 + k)) (rs D (8 + k)) n t) (flR (gN D (8 + k)) (rs D (8 + k)) n) = 0 := by omega
      rw [e]
      refine enter τ t1 t2 (fun i hi => ?_)
      rw [ha i hi]
      by_cases z2 : i < t
      · rw [if_pos z2]
      · rw [if_neg z2]
        have := flM_mono (p := gN D (8 + k)) (all := rs D (8 + k)) (n := n) (t := t) (i - t)
        rw [show t + (i - t) = i by omega] at this
        unfold flS flL
        rw [if_neg (fun z => by have := z.2; omega), Nat.add_zero]
    · have c77 : 0 < flR (gN D (8 + k)) (rs D (8 + k)) n - min (flM (gN D (8 + k)) (rs D (8 + k)) n t) (flR (gN D (8 + k)) (rs D (8 + k)) n) := Nat.lt_of_not_le (fun zq => hq ((leN (a := flR (gN D (8 + k)) (rs D (8 + k)) n - min (flM (gN D (8 + k)) (rs D (8 + k)) n t) (flR (gN D (8 + k)) (rs D (8 + k)) n)) (b := 0) rfl rfl (by omega) (by omega)).mpr zq))
      clear hq
      have t8 : t < 8 := by
        have : t ≠ 8 := fun z => by subst z; omega
        omega
      have eo := hot t8
      refine hAt 3 _ _ _ _ _ _ ?_
      refine And.intro (aOK_d hL hM hD (show o < 8 by omega) (by omega)) ?_
      refine Eq.mpr (congrArg (fun xq : Int32 => At 85 [.ref (108), .int (nI k), .int (nI n), .int (nI (rs D (8 + k))), .int (nI (flR (gN D (8 + k)) (rs D (8 + k)) n - min (flM (gN D (8 + k)) (rs D (8 + k)) n t) (flR (gN D (8 + k)) (rs D (8 + k)) n))), .ref (mN σ), .int (nI o)] [.int xq] τ 1 8) (show rI τ (mN σ) (nI o).toNatClampNeg = nI (flB (gN D (8 + k)) (rs D (8 + k)) n o) from (ldE rfl (by omega) (ra t8)))) ?_
      refine hAt 4 _ _ _ _ _ _ ?_
      refine And.intro (mx_r (q := 244) (n := 8) (k := 8) rfl rfl (show k < 8 by omega)) (And.intro (Or.inl rfl) ?_)
      refine Eq.mpr (congrArg (fun xq : Nat => At 91 [.ref (108), .int (nI k), .int (nI n), .int (nI (rs D (8 + k))), .int (nI (flR (gN D (8 + k)) (rs D (8 + k)) n - min (flM (gN D (8 + k)) (rs D (8 + k)) n t) (flR (gN D (8 + k)) (rs D (8 + k)) n))), .ref (mN σ), .int (nI o)] [.ref xq, .int (nI (flB (gN D (8 + k)) (rs D (8 + k)) n o))] τ 1 8) (rwE rfl (by omega))) ?_
      refine hAt 2 _ _ _ _ _ _ ?_
      refine And.intro (mx_e (q := 244) (n := 8) (k := 8) (j := k) (i := o) rfl (by omega) (by omega) rfl) ?_
      refine Eq.mpr (congrArg (fun xq : Int32 => At 94 [.ref (108), .int (nI k), .int (nI n), .int (nI (rs D (8 + k))), .int (nI (flR (gN D (8 + k)) (rs D (8 + k)) n - min (flM (gN D (8 + k)) (rs D (8 + k)) n t) (flR (gN D (8 + k)) (rs D (8 + k)) n))), .ref (mN σ), .int (nI o)] [.int xq, .int (nI (flB (gN D (8 + k)) (rs D (8 + k)) n o))] τ 1 8) (show rI τ (244 + 1 + k) (nI o).toNatClampNeg = nI (gN D (8 + k) o) from (ldE rfl (by omega) rp))) ?_
      refine hAt 1 _ _ _ _ _ _ ?_
      refine And.intro (fun hq => ?_) (fun hq => ?_)
      · have c94 : ¬ flB (gN D (8 + k)) (rs D (8 + k)) n o = gN D (8 + k) o := fun zq => hq ((eqN (a := flB (gN D (8 + k)) (rs D (8 + k)) n o) (b := gN D (8 + k) o) rfl rfl (by omega) (by omega)).mpr zq)
        clear hq
        refine hAt 4 _ _ _ _ _ _ ?_
        refine And.intro (aOK_d hL hM hD (show o < 8 by omega) (by omega)) ?_
        refine Eq.mpr (congrArg (fun xq : Int32 => At 106 [.ref (108), .int (nI k), .int (nI n), .int (nI (rs D (8 + k))), .int (nI (flR (gN D (8 + k)) (rs D (8 + k)) n - min (flM (gN D (8 + k)) (rs D (8 + k)) n t) (flR (gN D (8 + k)) (rs D (8 + k)) n))), .ref (mN σ), .int (nI o)] [.int xq, .int (nI o), .ref (mN σ)] τ 1 8) (show rI τ (mN σ) (nI o).toNatClampNeg = nI (flB (gN D (8 + k)) (rs D (8 + k)) n o) from (ldE rfl (by omega) (ra t8)))) ?_
        refine hAt 3 _ _ _ _ _ _ ?_
        refine And.intro (aOK_d hL hM hD (show o < 8 by omega) (by omega)) ?_
        refine Eq.mpr (congrArg (fun xq : Mem => At 109 [.ref (108), .int (nI k), .int (nI n), .int (nI (rs D (8 + k))), .int (nI (flR (gN D (8 + k)) (rs D (8 + k)) n - min (flM (gN D (8 + k)) (rs D (8 + k)) n t) (flR (gN D (8 + k)) (rs D (8 + k)) n))), .ref (mN σ), .int (nI o)] [] xq 1 8) (wrE (σ := τ) (q := mN σ) (p := rfl) (hj := by omega) (h := (adE rfl rfl)))) ?_
        refine hAt 8 _ _ _ _ _ _ ?_
        refine And.intro (by decide) ?_
        refine Eq.mpr (congrArg (fun xq : Int32 => At 75 [.ref (108), .int (nI k), .int (nI n), .int (nI (rs D (8 + k))), .int xq, .ref (mN σ), .int ((nI o + nI 1) - (nI o + nI 1) / (nI 8) * (nI 8))] [] (wI τ (mN σ) o (nI (flB (gN D (8 + k)) (rs D (8 + k)) n o + 1))) 1 8) (show (nI (flR (gN D (8 + k)) (rs D (8 + k)) n - min (flM (gN D (8 + k)) (rs D (8 + k)) n t) (flR (gN D (8 + k)) (rs D (8 + k)) n))) - nI 1 = nI ((flR (gN D (8 + k)) (rs D (8 + k)) n - min (flM (gN D (8 + k)) (rs D (8 + k)) n t) (flR (gN D (8 + k)) (rs D (8 + k)) n)) - 1) from (sbE rfl rfl (by omega)))) ?_
        refine Eq.mpr (congrArg (fun xq : Int32 => At 75 [.ref (108), .int (nI k), .int (nI n), .int (nI (rs D (8 + k))), .int (nI ((flR (gN D (8 + k)) (rs D (8 + k)) n - min (flM (gN D (8 + k)) (rs D (8 + k)) n t) (flR (gN D (8 + k)) (rs D (8 + k)) n)) - 1)), .ref (mN σ), .int xq] [] (wI τ (mN σ) o (nI (flB (gN D (8 + k)) (rs D (8 + k)) n o + 1))) 1 8) (show (nI o + nI 1) - (nI o + nI 1) / (nI 8) * (nI 8) = nI ((o + 1) % 8) from (rmE (adE rfl rfl) rfl (by omega) (by omega)))) ?_
        subst eo
        have fL : flS D k n o = flB (gN D (8 + k)) (rs D (8 + k)) n o + 1 := by unfold flS flL; rw [if_pos ⟨by omega, by omega⟩]
        have z := ih t8 (wI τ (mN σ) o (nI (flB (gN D (8 + k)) (rs D (8 + k)) n o + 1))) ((o + 1) % 8) (fun _ => by omega) (by omega) (fun a x u => ?_) t2 (fun i hi => ?_)
        · rw [eM1, if_pos (by omega), show flR (gN D (8 + k)) (rs D (8 + k)) n - min (flM (gN D (8 + k)) (rs D (8 + k)) n o + 1) (flR (gN D (8 + k)) (rs D (8 + k)) n) = flR (gN D (8 + k)) (rs D (8 + k)) n - min (flM (gN D (8 + k)) (rs D (8 + k)) n o) (flR (gN D (8 + k)) (rs D (8 + k)) n) - 1 by omega] at z; exact z
        · rw [rI_wI, if_neg (by omega)]; exact t1 a x u
        · rw [rI_wI]
          by_cases z2 : i = o
          · subst z2
            rw [if_pos ⟨rfl, rfl⟩, if_pos (by omega), fL]
          · rw [if_neg (by omega), ha i hi]
            by_cases z3 : i < o
            · rw [if_pos z3, if_pos (by omega)]
            · rw [if_neg z3, if_neg (by omega)]
      · have c94 : flB (gN D (8 + k)) (rs D (8 + k)) n o = gN D (8 + k) o := (eqN (a := flB (gN D (8 + k)) (rs D (8 + k)) n o) (b := gN D (8 + k) o) rfl rfl (by omega) (by omega)).mp hq
        clear hq
        refine hAt 8 _ _ _ _ _ _ ?_
        refine And.intro (by decide) ?_
        refine Eq.mpr (congrArg (fun xq : Int32 => At 75 [.ref (108), .int (nI k), .int (nI n), .int (nI (rs D (8 + k))), .int (nI (flR (gN D (8 + k)) (rs D (8 + k)) n - min (flM (gN D (8 + k)) (rs D (8 + k)) n t) (flR (gN D (8 + k)) (rs D (8 + k)) n))), .ref (mN σ), .int xq] [] τ 1 8) (show (nI o + nI 1) - (nI o + nI 1) / (nI 8) * (nI 8) = nI ((o + 1) % 8) from (rmE (adE rfl rfl) rfl (by omega) (by omega)))) ?_
        have z := ih t8 τ ((o + 1) % 8) (fun _ => by omega) (by omega) t1 t2 (fun i hi => ?_)
        · rw [eM1, ← eo, if_neg (by omega), Nat.add_zero, eo] at z; rw [eo]; exact z
        · rw [ha i hi]
          by_cases z2 : i = t
          · subst z2
            rw [if_neg (by omega), if_pos (by omega)]
            unfold flS flL
            rw [if_neg (fun z => by have := z.1; rw [eo] at c94; omega), Nat.add_zero]
          · by_cases z3 : i < t
            · rw [if_pos z3, if_pos (by omega)]
            · rw [if_neg z3, if_neg (by omega)]
  have l1 : ∀ i, i ≤ 8 → ∀ τ, (∀ a x, a < 368 → rI τ a x = rI σ a x) → τ.2 = (nD σ 8).2 → (∀ o, o < i → rI τ (mN σ) o = nI (flB (gN D (8 + k)) (rs D (8 + k)) n o)) → At 27 [.ref 108, .int (nI k), .int (nI n), .int (nI (rs D (8 + k))), .int (nI (n - sumN (flB (gN D (8 + k)) (rs D (8 + k)) n) i)), .ref (mN σ), .int (nI i)] [] τ 1 8 := by
    refine upto fun i hi ih => ?_
    intro τ t1 t2 ha
    have ⟨hM, hD⟩ := nx τ t2
    have hpre : i < 8 → sumN (flB (gN D (8 + k)) (rs D (8 + k)) n) i + flB (gN D (8 + k)) (rs D (8 + k)) n i ≤ n := fun q => by
      have := sumN_pre (flB (gN D (8 + k)) (rs D (8 + k)) n) (a := i + 1) 8 (by omega)
      rw [sumN] at this; omega
    have rp : i < 8 → rI τ (244 + 1 + k) i = nI (gN D (8 + k) i) := fun z => by rw [t1 _ _ (by omega)]; exact hc.par k i hk tk z
    have gki := gk i
    refine hAt 3 _ _ _ _ _ _ ?_
    refine And.intro (fun hq => ?_) (fun hq => ?_)
    · have c31 : 8 ≤ i := (leN (a := 8) (b := i) rfl rfl (by omega) (by omega)).mp hq
      clear hq
      refine hAt 2 _ _ _ _ _ _ ?_
      have e : i = 8 := by omega
      subst e
      have z := l2 0 (by omega) τ 0 (fun _ => rfl) (by omega) t1 t2 (fun o ho => by rw [if_neg (by omega)]; exact ha o ho)
      rw [show flM (gN D (8 + k)) (rs D (8 + k)) n 0 = 0 from rfl, Nat.zero_min, Nat.sub_zero] at z
      exact z
    · have c31 : i < 8 := Nat.lt_of_not_le (fun zq => hq ((leN (a := 8) (b := i) rfl rfl (by omega) (by omega)).mpr zq))
      clear hq
      have hpre := hpre c31
      have gki := gki c31
      refine hAt 8 _ _ _ _ _ _ ?_
      refine And.intro (mx_r (q := 244) (n := 8) (k := 8) rfl rfl (show k < 8 by omega)) (And.intro (Or.inl rfl) ?_)
      refine Eq.mpr (congrArg (fun xq : Nat => At 46 [.ref (108), .int (nI k), .int (nI n), .int (nI (rs D (8 + k))), .int (nI (n - sumN (flB (gN D (8 + k)) (rs D (8 + k)) n) i)), .ref (mN σ), .int (nI i)] [.ref xq, .long ((nI n).toInt64), .int (nI i), .ref (mN σ)] τ 1 8) (rwE rfl (by omega))) ?_
      refine hAt 2 _ _ _ _ _ _ ?_
      refine And.intro (mx_e (q := 244) (n := 8) (k := 8) (j := k) (i := i) rfl (by omega) (by omega) rfl) ?_
      refine Eq.mpr (congrArg (fun xq : Int32 => At 49 [.ref (108), .int (nI k), .int (nI n), .int (nI (rs D (8 + k))), .int (nI (n - sumN (flB (gN D (8 + k)) (rs D (8 + k)) n) i)), .ref (mN σ), .int (nI i)] [.int xq, .long ((nI n).toInt64), .int (nI i), .ref (mN σ)] τ 1 8) (show rI τ (244 + 1 + k) (nI i).toNatClampNeg = nI (gN D (8 + k) i) from (ldE rfl (by omega) (rp (by omega))))) ?_
      refine hAt 7 _ _ _ _ _ _ ?_
      refine And.intro (nz) ?_
      refine And.intro (aOK_d hL hM hD (show i < 8 by omega) (by omega)) ?_
      refine Eq.mpr (congrArg (fun xq : Mem => At 56 [.ref (108), .int (nI k), .int (nI n), .int (nI (rs D (8 + k))), .int (nI (n - sumN (flB (gN D (8 + k)) (rs D (8 + k)) n) i)), .ref (mN σ), .int (nI i)] [] xq 1 8) (wrE (σ := τ) (q := mN σ) (p := rfl) (hj := by omega) (h := (fl_z (by omega) (by omega) (by omega))))) ?_
      refine hAt 4 _ _ _ _ _ _ ?_
      refine And.intro (aOK_d hL hM hD (show i < 8 by omega) (by omega)) ?_
      refine Eq.mpr (congrArg (fun xq : Int32 => At 63 [.ref (108), .int (nI k), .int (nI n), .int (nI (rs D (8 + k))), .int (nI (n - sumN (flB (gN D (8 + k)) (rs D (8 + k)) n) i)), .ref (mN σ), .int (nI i)] [.int xq, .int (nI (n - sumN (flB (gN D (8 + k)) (rs D (8 + k)) n) i))] (wI τ (mN σ) i (nI (flB (gN D (8 + k)) (rs D (8 + k)) n i))) 1 8) (show rI (wI τ (mN σ) i (nI (flB (gN D (8 + k)) (rs D (8 + k)) n i))) (mN σ) (nI i).toNatClampNeg = nI (flB (gN D (8 + k)) (rs D (8 + k)) n i) from (ldE rfl (by omega) (by rw [rI_wI, if_pos ⟨rfl, rfl⟩])))) ?_
      refine hAt 4 _ _ _ _ _ _ ?_
      refine Eq.mpr (congrArg (fun xq : Int32 => At 27 [.ref (108), .int (nI k), .int (nI n), .int (nI (rs D (8 + k))), .int xq, .ref (mN σ), .int (nI i + nI 1)] [] (wI τ (mN σ) i (nI (flB (gN D (8 + k)) (rs D (8 + k)) n i))) 1 8) (show (nI (n - sumN (flB (gN D (8 + k)) (rs D (8 + k)) n) i)) - (nI (flB (gN D (8 + k)) (rs D (8 + k)) n i)) = nI ((n - sumN (flB (gN D (8 + k)) (rs D (8 + k)) n) i) - (flB (gN D (8 + k)) (rs D (8 + k)) n i)) from (sbE rfl rfl (by omega)))) ?_
      refine Eq.mpr (congrArg (fun xq : Int32 => At 27 [.ref (108), .int (nI k), .int (nI n), .int (nI (rs D (8 + k))), .int (nI ((n - sumN (flB (gN D (8 + k)) (rs D (8 + k)) n) i) - (flB (gN D (8 + k)) (rs D (8 + k)) n i))), .ref (mN σ), .int xq] [] (wI τ (mN σ) i (nI (flB (gN D (8 + k)) (rs D (8 + k)) n i))) 1 8) (show nI i + nI 1 = nI (i + 1) from (adE rfl rfl))) ?_
      have z := ih c31 (wI τ (mN σ) i (nI (flB (gN D (8 + k)) (rs D (8 + k)) n i))) (fun a x u => ?_) t2 (fun o ho => ?_)
      · rw [show n - sumN (flB (gN D (8 + k)) (rs D (8 + k)) n) (i + 1) = n - sumN (flB (gN D (8 + k)) (rs D (8 + k)) n) i - flB (gN D (8 + k)) (rs D (8 + k)) n i by rw [sumN]; omega] at z; exact z
      · rw [rI_wI, if_neg (by omega)]; exact t1 a x u
      · rw [rI_wI]
        by_cases e : o = i
        · subst e; rw [if_pos ⟨rfl, rfl⟩]
        · rw [if_neg (by omega)]; exact ha o (by omega)
  refine hAt 4 _ _ _ _ _ _ ?_
  refine And.intro (mx_r (q := 244) (n := 8) (k := 8) rfl rfl (show k < 8 by omega)) (And.intro (Or.inl rfl) ?_)
  refine Eq.mpr (congrArg (fun xq : Nat => At 6 [.ref (108), .int (nI k), .int (nI n), junk, junk, junk, junk] [.ref xq] σ 0 0) (rwE rfl (by omega))) ?_
  refine hAt 6 _ _ _ _ _ _ ?_
  refine s_Mpsum hc hn hk tk ?_
  refine And.intro (fun hq => ?_) (fun hq => ?_)
  · have c14 : 0 < n := (ltN (a := 0) (b := n) rfl rfl (by omega) (by omega)).mp hq
    clear hq
    refine hAt 1 _ _ _ _ _ _ ?_
    refine hAt 4 _ _ _ _ _ _ ?_
    refine And.intro (by decide) (And.intro (by decide) (And.intro hL (And.intro (by omega) (And.intro (by decide) ?_))))
    refine l1 0 (by omega) (nD σ 8) (fun a x u => ?_) rfl (fun o ho => absurd ho (Nat.not_lt_zero o))
    exact if_neg (fun z : a = mN σ => by omega)
  · have c14 : n ≤ 0 := Nat.le_of_not_lt (fun zq => hq ((ltN (a := 0) (b := n) rfl rfl (by omega) (by omega)).mpr zq))
    clear hq
    exact absurd c14 (by omega)
end DM4
