/-! THE LAW, case by case: behind one pair of calls both sides hold the next state, and the walk is back at the loop's head -/
theorem lcmp_self (x : Int64) : lg_cmp x x = nI 0 := lcmp0.mpr rfl
theorem s_thrown {w : Wd} {d : Nat} {σ : Mem} {P : Option AV → Mem → Prop} {X : Nat → Mem → Prop} (hP : P (some (.int (rI σ 108 0))) σ) : Ret w true (d + 1) 0 0 m_Mo_thrown [.ref 108] σ P X :=
  meth_ok k_Mo_thrown q_Mo_thrown rfl fun At hAt => hAt 50 _ _ _ _ _ _ hP
theorem IM.wL {A : St} {σ : Mem} {a k : Nat} {z : Int64} (h : IM A σ) : IM A (wL σ a k z) := h
theorem IC.wL {A : St} {σ : Mem} {a k : Nat} {z : Int64} (h : IC A σ) : IC A (wL σ a k z) := h
theorem rL_wL0 (σ : Mem) (z : Int64) : rL (wL σ 367 0 z) 367 0 = z := by
  show (if 367 = 367 ∧ 0 = 0 then z else σ.2.1 367 0) = z
  exact if_pos ⟨rfl, rfl⟩
def LwAt (w : Wd) (L : Nat) (xs : Nat → Int32) (At : At_t) : Prop := ∀ n pc ls st σ u v, wp true k_Lv At (fun r _ => r = some (.int (nI 1))) (fun _ _ _ _ _ _ => False) (fun a kc ks as σ k kx => Ret w true 50 kc ks a as σ k kx) (L + 1) xs 601024 7293034 n (seek k_Lv pc) ls st σ u v → At pc ls st σ u v
def LwWr (w : Wd) (At : At_t) : Prop := ∀ {a i pc u v : Nat} {hh : List (Nat × Nat × Nat × Nat)} {as ls : List AV} {σ : Mem}, wrC a i pc as.length hh → u + 1 ≤ 601024 → v + 6 ≤ 7293034 → RetH w 50 1 6 a hh as σ (fun r σ' => At (pc + 3) ls (psh r []) σ' (u + 1) (v + 6)) → At pc ls as.reverse σ u v
def lsL (i : Nat) (x5 x6 : AV) : List AV := [.float 0, .ref 0, .ref 108, .ref 367, .int (nI i), x5, x6, junk]
theorem hpL {i L : Nat} (hi : i + 6 ≤ L) (hL : L ≤ 3072) {k : Nat} (hk : k ≤ 5) : vp_in (nI i + nI k) (L + 1 - 1) := by
  rw [nI_add]; exact vp_in_nI (by omega) (by omega)
set_option maxRecDepth 20000
section LWC
variable {w : Wd} {L : Nat} {xs : Nat → Int32} {At : At_t} {A : St} {σ : Mem} {u v i : Nat} {x5 x6 : AV}
def LwN (At : At_t) (i u v : Nat) : Prop := ∀ y5 y6 σ' A' u' v', IC A' σ' → IM A' σ' → VA A' → u' ≤ u + 434 → v' ≤ v + 3470 → At 23 [.float 0, .ref 0, .ref 108, .ref 367, .int (nI i + nI 6), y5, y6, junk] [] σ' u' v'
theorem L_feed (hAt : LwAt w L xs At) (hC : IC A σ) (hM : IM A σ) (hv : VA A) (hi : i + 6 ≤ L) (hL : L ≤ 3072) (hu : u + 434 ≤ 601024) (hs : v + 3470 ≤ 7293034) (hN : LwN At i u v) : At 176 [.float 0, .ref 0, .ref 108, .ref 367, .int (nI i), x5, x6, junk] [] σ u v := by
  obtain ⟨y, A', hCC, hMM, hA⟩ := E_feed (w := w) hv (xs (Int32.toNatClampNeg (nI i + nI 1))) (xs (Int32.toNatClampNeg (nI i + nI 2))) (xs (Int32.toNatClampNeg (nI i + nI 3))) (xs (Int32.toNatClampNeg (nI i + nI 4))) (xs (Int32.toNatClampNeg (nI i + nI 5)))
  refine hAt 80 _ _ _ _ _ _ ?_
  refine And.intro (hpL hi hL (k := 1) (by decide)) ?_
  refine And.intro (hpL hi hL (k := 2) (by decide)) ?_
  refine And.intro (hpL hi hL (k := 3) (by decide)) ?_
  refine And.intro (hpL hi hL (k := 4) (by decide)) ?_
  refine And.intro (hpL hi hL (k := 5) (by decide)) ?_
  refine callG 1 6 (by omega) (by omega) (hCC σ _ _ hC (fun _ σ1 f1 i1 => ?_) (fun E e => absurd e (by omega)))
  refine And.intro (hpL hi hL (k := 1) (by decide)) ?_
  refine And.intro (hpL hi hL (k := 2) (by decide)) ?_
  refine And.intro (hpL hi hL (k := 3) (by decide)) ?_
  refine And.intro (hpL hi hL (k := 4) (by decide)) ?_
  refine And.intro (hpL hi hL (k := 5) (by decide)) ?_
  refine callG 0 0 (by omega) (by omega) (hMM σ1 _ _ (hM.frame f1 hv) (fun σ2 u2 f i2 th eq => ?_))
  have e2 : u2 = y := Value.int.inj (eq rfl)
  refine And.intro (fun _ => hN _ _ σ2 A' _ _ (i1.frame f hA) i2 hA (by omega) (by omega)) (fun q => absurd e2.symm q)
theorem L_sky (hAt : LwAt w L xs At) (hWr : LwWr w At) (hC : IC A σ) (hM : IM A σ) (hv : VA A) (hi : i + 6 ≤ L) (hL : L ≤ 3072) (hu : u + 434 ≤ 601024) (hs : v + 3470 ≤ 7293034) (hN : LwN At i u v) : At 249 [.float 0, .ref 0, .ref 108, .ref 367, .int (nI i), x5, x6, junk] [] σ u v := by
  obtain ⟨t, c, y, A', hT, hCC, hMM, hA⟩ := D_sky (w := w) hv (xs (Int32.toNatClampNeg (nI i + nI 1)))
  have key : ∀ (cc : Nat) (σ1 : Mem), cc = c → IC A' σ1 → IM A σ1 → (c = 0 → rL σ1 367 0 = y.toInt64) → At 260 [.float 0, .ref 0, .ref 108, .ref 367, .int (nI i), x5, x6, junk] [.int (nI cc)] σ1 (u + 1) (v + 6) := by
    intro cc σ1 ec hC1 hM1 h0
    have hc2 : c ≤ 2 := by unfold T1 at hT; omega
    refine hAt 80 _ _ _ _ _ _ ?_
    refine And.intro (hpL hi hL (k := 1) (by decide)) ?_
    refine callG 0 0 (by omega) (by omega) (hMM σ1 _ _ hM1 (fun σ2 u2 f i2 th eq => ?_))
    refine callG 0 0 (by omega) (by omega) (s_thrown ?_)
    rw [th]
    refine And.intro (fun _ => ?_) (fun q => absurd (by rw [ec]) q)
    have fin : ∀ y5 y6 u' v', u' ≤ u + 434 → v' ≤ v + 3470 → At 23 [.float 0, .ref 0, .ref 108, .ref 367, .int (nI i + nI 6), y5, y6, junk] [] σ2 u' v' := fun y5 y6 u' v' q1 q2 => hN y5 y6 σ2 A' u' v' (hC1.frame f hA) i2 hA q1 q2
    refine And.intro (fun _ => fin _ _ _ _ (by omega) (by omega)) (fun q => ?_)
    have e0 : c = 0 := by rw [ec] at q; exact (nI_eq (by omega) (by decide)).mp q
    refine And.intro ⟨rfl, rfl, vp_in_nI (n := 0) (N := 1) (by decide) (by decide)⟩ ?_
    refine And.intro (fun _ => fin _ _ _ _ (by omega) (by omega)) (fun q2 => absurd ?_ q2)
    rw [show Int32.toNatClampNeg (nI 0) = 0 from by decide, f.2.1 367 (by decide), h0 e0]
    rw [show u2 = y from Value.int.inj (eq e0)]
    exact lcmp_self _
  refine hAt 7 _ _ _ _ _ _ ?_
  refine And.intro (hpL hi hL (k := 1) (by decide)) ?_
  show At 257 [.float 0, .ref 0, .ref 108, .ref 367, .int (nI i), x5, x6, junk] (List.reverse [.ref 0, .int (xs (Int32.toNatClampNeg (nI i + nI 1))), .ref 367]) σ u v
  refine hWr wr_sky (by omega) (by omega) (W_sky (by unfold T1 at hT; omega) hCC hC (fun e σ' f i2 => key 0 _ (by unfold T1 at hT; omega) i2.wL (hM.frame f hv).wL (fun _ => rL_wL0 _ _)) (fun c' hc σ' f i2 => key c' _ (by unfold T1 at hT; omega) i2 (hM.frame f hv) (fun q => by unfold T1 at hT; omega)))
theorem L_fault (hAt : LwAt w L xs At) (hC : IC A σ) (hM : IM A σ) (hv : VA A) (hi : i + 6 ≤ L) (hL : L ≤ 3072) (hu : u + 434 ≤ 601024) (hs : v + 3470 ≤ 7293034) (hN : LwN At i u v) : At 305 [.float 0, .ref 0, .ref 108, .ref 367, .int (nI i), x5, x6, junk] [] σ u v := by
  obtain ⟨y, A', hCC, hMM, hA⟩ := E_fault (w := w) hv 
  refine hAt 80 _ _ _ _ _ _ ?_
  refine callG 1 6 (by omega) (by omega) (hCC σ _ _ hC (fun _ σ1 f1 i1 => ?_) (fun E e => absurd e (by omega)))
  refine callG 0 0 (by omega) (by omega) (hMM σ1 _ _ (hM.frame f1 hv) (fun σ2 u2 f i2 th eq => ?_))
  have e2 : u2 = y := Value.int.inj (eq rfl)
  refine And.intro (fun _ => hN _ _ σ2 A' _ _ (i1.frame f hA) i2 hA (by omega) (by omega)) (fun q => absurd e2.symm q)
theorem L_told (hAt : LwAt w L xs At) (hWr : LwWr w At) (hC : IC A σ) (hM : IM A σ) (hv : VA A) (hi : i + 6 ≤ L) (hL : L ≤ 3072) (hu : u + 434 ≤ 601024) (hs : v + 3470 ≤ 7293034) (hN : LwN At i u v) : At 318 [.float 0, .ref 0, .ref 108, .ref 367, .int (nI i), x5, x6, junk] [] σ u v := by
  obtain ⟨t, c, y, A', hT, hCC, hMM, hA⟩ := D_told (w := w) hv (xs (Int32.toNatClampNeg (nI i + nI 1)))
  have key : ∀ (cc : Nat) (σ1 : Mem), cc = c → IC A' σ1 → IM A σ1 → (c = 0 → rL σ1 367 0 = y.toInt64) → At 329 [.float 0, .ref 0, .ref 108, .ref 367, .int (nI i), x5, x6, junk] [.int (nI cc)] σ1 (u + 1) (v + 6) := by
    intro cc σ1 ec hC1 hM1 h0
    have hc2 : c ≤ 2 := by unfold T1 at hT; omega
    refine hAt 80 _ _ _ _ _ _ ?_
    refine And.intro (hpL hi hL (k := 1) (by decide)) ?_
    refine callG 0 0 (by omega) (by omega) (hMM σ1 _ _ hM1 (fun σ2 u2 f i2 th eq => ?_))
    refine callG 0 0 (by omega) (by omega) (s_thrown ?_)
    rw [th]
    refine And.intro (fun _ => ?_) (fun q => absurd (by rw [ec]) q)
    have fin : ∀ y5 y6 u' v', u' ≤ u + 434 → v' ≤ v + 3470 → At 23 [.float 0, .ref 0, .ref 108, .ref 367, .int (nI i + nI 6), y5, y6, junk] [] σ2 u' v' := fun y5 y6 u' v' q1 q2 => hN y5 y6 σ2 A' u' v' (hC1.frame f hA) i2 hA q1 q2
    refine And.intro (fun _ => fin _ _ _ _ (by omega) (by omega)) (fun q => ?_)
    have e0 : c = 0 := by rw [ec] at q; exact (nI_eq (by omega) (by decide)).mp q
    refine And.intro ⟨rfl, rfl, vp_in_nI (n := 0) (N := 1) (by decide) (by decide)⟩ ?_
    refine And.intro (fun _ => fin _ _ _ _ (by omega) (by omega)) (fun q2 => absurd ?_ q2)
    rw [show Int32.toNatClampNeg (nI 0) = 0 from by decide, f.2.1 367 (by decide), h0 e0]
    rw [show u2 = y from Value.int.inj (eq e0)]
    exact lcmp_self _
  refine hAt 7 _ _ _ _ _ _ ?_
  refine And.intro (hpL hi hL (k := 1) (by decide)) ?_
  show At 326 [.float 0, .ref 0, .ref 108, .ref 367, .int (nI i), x5, x6, junk] (List.reverse [.ref 0, .int (xs (Int32.toNatClampNeg (nI i + nI 1))), .ref 367]) σ u v
  refine hWr wr_told (by omega) (by omega) (W_told (by unfold T1 at hT; omega) hCC hC (fun e σ' f i2 => key 0 _ (by unfold T1 at hT; omega) i2.wL (hM.frame f hv).wL (fun _ => rL_wL0 _ _)) (fun c' hc σ' f i2 => key c' _ (by unfold T1 at hT; omega) i2 (hM.frame f hv) (fun q => by unfold T1 at hT; omega)))
theorem L_owner (hAt : LwAt w L xs At) (hWr : LwWr w At) (hC : IC A σ) (hM : IM A σ) (hv : VA A) (hi : i + 6 ≤ L) (hL : L ≤ 3072) (hu : u + 434 ≤ 601024) (hs : v + 3470 ≤ 7293034) (hN : LwN At i u v) : At 374 [.float 0, .ref 0, .ref 108, .ref 367, .int (nI i), x5, x6, junk] [] σ u v := by
  obtain ⟨t, c, y, A', hT, hCC, hMM, hA⟩ := D_owner (w := w) hv (xs (Int32.toNatClampNeg (nI i + nI 1)))
  have key : ∀ (cc : Nat) (σ1 : Mem), cc = c → IC A' σ1 → IM A σ1 → (c = 0 → rL σ1 367 0 = y.toInt64) → At 385 [.float 0, .ref 0, .ref 108, .ref 367, .int (nI i), x5, x6, junk] [.int (nI cc)] σ1 (u + 1) (v + 6) := by
    intro cc σ1 ec hC1 hM1 h0
    have hc2 : c ≤ 2 := by unfold T1 at hT; omega
    refine hAt 80 _ _ _ _ _ _ ?_
    refine And.intro (hpL hi hL (k := 1) (by decide)) ?_
    refine callG 0 0 (by omega) (by omega) (hMM σ1 _ _ hM1 (fun σ2 u2 f i2 th eq => ?_))
    refine callG 0 0 (by omega) (by omega) (s_thrown ?_)
    rw [th]
    refine And.intro (fun _ => ?_) (fun q => absurd (by rw [ec]) q)
    have fin : ∀ y5 y6 u' v', u' ≤ u + 434 → v' ≤ v + 3470 → At 23 [.float 0, .ref 0, .ref 108, .ref 367, .int (nI i + nI 6), y5, y6, junk] [] σ2 u' v' := fun y5 y6 u' v' q1 q2 => hN y5 y6 σ2 A' u' v' (hC1.frame f hA) i2 hA q1 q2
    refine And.intro (fun _ => fin _ _ _ _ (by omega) (by omega)) (fun q => ?_)
    have e0 : c = 0 := by rw [ec] at q; exact (nI_eq (by omega) (by decide)).mp q
    refine And.intro ⟨rfl, rfl, vp_in_nI (n := 0) (N := 1) (by decide) (by decide)⟩ ?_
    refine And.intro (fun _ => fin _ _ _ _ (by omega) (by omega)) (fun q2 => absurd ?_ q2)
    rw [show Int32.toNatClampNeg (nI 0) = 0 from by decide, f.2.1 367 (by decide), h0 e0]
    rw [show u2 = y from Value.int.inj (eq e0)]
    exact lcmp_self _
  refine hAt 7 _ _ _ _ _ _ ?_
  refine And.intro (hpL hi hL (k := 1) (by decide)) ?_
  show At 382 [.float 0, .ref 0, .ref 108, .ref 367, .int (nI i), x5, x6, junk] (List.reverse [.ref 0, .int (xs (Int32.toNatClampNeg (nI i + nI 1))), .ref 367]) σ u v
  refine hWr wr_owner (by omega) (by omega) (W_owner (by unfold T1 at hT; omega) hCC hC (fun e σ' f i2 => key 0 _ (by unfold T1 at hT; omega) i2.wL (hM.frame f hv).wL (fun _ => rL_wL0 _ _)) (fun c' hc σ' f i2 => key c' _ (by unfold T1 at hT; omega) i2 (hM.frame f hv) (fun q => by unfold T1 at hT; omega)))
theorem L_path (hAt : LwAt w L xs At) (hWr : LwWr w At) (hC : IC A σ) (hM : IM A σ) (hv : VA A) (hi : i + 6 ≤ L) (hL : L ≤ 3072) (hu : u + 434 ≤ 601024) (hs : v + 3470 ≤ 7293034) (hN : LwN At i u v) : At 430 [.float 0, .ref 0, .ref 108, .ref 367, .int (nI i), x5, x6, junk] [] σ u v := by
  obtain ⟨t, c, y, A', hT, hCC, hMM, hA⟩ := D_path (w := w) hv (xs (Int32.toNatClampNeg (nI i + nI 1))) (xs (Int32.toNatClampNeg (nI i + nI 2)))
  have key : ∀ (cc : Nat) (σ1 : Mem), cc = c → IC A' σ1 → IM A σ1 → (c = 0 → rL σ1 367 0 = y.toInt64) → At 447 [.float 0, .ref 0, .ref 108, .ref 367, .int (nI i), x5, x6, junk] [.int (nI cc)] σ1 (u + 1) (v + 6) := by
    intro cc σ1 ec hC1 hM1 h0
    have hc2 : c ≤ 2 := by unfold T2 at hT; omega
    refine hAt 80 _ _ _ _ _ _ ?_
    refine And.intro (hpL hi hL (k := 1) (by decide)) ?_
    refine And.intro (hpL hi hL (k := 2) (by decide)) ?_
    refine callG 0 0 (by omega) (by omega) (hMM σ1 _ _ hM1 (fun σ2 u2 f i2 th eq => ?_))
    refine callG 0 0 (by omega) (by omega) (s_thrown ?_)
    rw [th]
    refine And.intro (fun _ => ?_) (fun q => absurd (by rw [ec]) q)
    have fin : ∀ y5 y6 u' v', u' ≤ u + 434 → v' ≤ v + 3470 → At 23 [.float 0, .ref 0, .ref 108, .ref 367, .int (nI i + nI 6), y5, y6, junk] [] σ2 u' v' := fun y5 y6 u' v' q1 q2 => hN y5 y6 σ2 A' u' v' (hC1.frame f hA) i2 hA q1 q2
    refine And.intro (fun _ => fin _ _ _ _ (by omega) (by omega)) (fun q => ?_)
    have e0 : c = 0 := by rw [ec] at q; exact (nI_eq (by omega) (by decide)).mp q
    refine And.intro ⟨rfl, rfl, vp_in_nI (n := 0) (N := 1) (by decide) (by decide)⟩ ?_
    refine And.intro (fun _ => fin _ _ _ _ (by omega) (by omega)) (fun q2 => absurd ?_ q2)
    rw [show Int32.toNatClampNeg (nI 0) = 0 from by decide, f.2.1 367 (by decide), h0 e0]
    rw [show u2 = y from Value.int.inj (eq e0)]
    exact lcmp_self _
  refine hAt 12 _ _ _ _ _ _ ?_
  refine And.intro (hpL hi hL (k := 1) (by decide)) ?_
  refine And.intro (hpL hi hL (k := 2) (by decide)) ?_
  show At 444 [.float 0, .ref 0, .ref 108, .ref 367, .int (nI i), x5, x6, junk] (List.reverse [.ref 0, .int (xs (Int32.toNatClampNeg (nI i + nI 1))), .int (xs (Int32.toNatClampNeg (nI i + nI 2))), .ref 367]) σ u v
  refine hWr wr_path (by omega) (by omega) (W_path (by unfold T2 at hT; omega) hCC hC (fun e σ' f i2 => key 0 _ (by unfold T2 at hT; omega) i2.wL (hM.frame f hv).wL (fun _ => rL_wL0 _ _)) (fun c' hc σ' f i2 => key c' _ (by unfold T2 at hT; omega) i2 (hM.frame f hv) (fun q => by unfold T2 at hT; omega)))
theorem L_field (hAt : LwAt w L xs At) (hWr : LwWr w At) (hC : IC A σ) (hM : IM A σ) (hv : VA A) (hi : i + 6 ≤ L) (hL : L ≤ 3072) (hu : u + 434 ≤ 601024) (hs : v + 3470 ≤ 7293034) (hN : LwN At i u v) : At 498 [.float 0, .ref 0, .ref 108, .ref 367, .int (nI i), x5, x6, junk] [] σ u v := by
  obtain ⟨t, c, y, A', hT, hCC, hMM, hA⟩ := D_field (w := w) hv (xs (Int32.toNatClampNeg (nI i + nI 1))) (xs (Int32.toNatClampNeg (nI i + nI 2)))
  have key : ∀ (cc : Nat) (σ1 : Mem), cc = c → IC A' σ1 → IM A σ1 → (c = 0 → rL σ1 367 0 = y.toInt64) → At 515 [.float 0, .ref 0, .ref 108, .ref 367, .int (nI i), x5, x6, junk] [.int (nI cc)] σ1 (u + 1) (v + 6) := by
    intro cc σ1 ec hC1 hM1 h0
    have hc2 : c ≤ 2 := by unfold T2 at hT; omega
    refine hAt 80 _ _ _ _ _ _ ?_
    refine And.intro (hpL hi hL (k := 1) (by decide)) ?_
    refine And.intro (hpL hi hL (k := 2) (by decide)) ?_
    refine callG 0 0 (by omega) (by omega) (hMM σ1 _ _ hM1 (fun σ2 u2 f i2 th eq => ?_))
    refine callG 0 0 (by omega) (by omega) (s_thrown ?_)
    rw [th]
    refine And.intro (fun _ => ?_) (fun q => absurd (by rw [ec]) q)
    have fin : ∀ y5 y6 u' v', u' ≤ u + 434 → v' ≤ v + 3470 → At 23 [.float 0, .ref 0, .ref 108, .ref 367, .int (nI i + nI 6), y5, y6, junk] [] σ2 u' v' := fun y5 y6 u' v' q1 q2 => hN y5 y6 σ2 A' u' v' (hC1.frame f hA) i2 hA q1 q2
    refine And.intro (fun _ => fin _ _ _ _ (by omega) (by omega)) (fun q => ?_)
    have e0 : c = 0 := by rw [ec] at q; exact (nI_eq (by omega) (by decide)).mp q
    refine And.intro ⟨rfl, rfl, vp_in_nI (n := 0) (N := 1) (by decide) (by decide)⟩ ?_
    refine And.intro (fun _ => fin _ _ _ _ (by omega) (by omega)) (fun q2 => absurd ?_ q2)
    rw [show Int32.toNatClampNeg (nI 0) = 0 from by decide, f.2.1 367 (by decide), h0 e0]
    rw [show u2 = y from Value.int.inj (eq e0)]
    exact lcmp_self _
  refine hAt 12 _ _ _ _ _ _ ?_
  refine And.intro (hpL hi hL (k := 1) (by decide)) ?_
  refine And.intro (hpL hi hL (k := 2) (by decide)) ?_
  show At 512 [.float 0, .ref 0, .ref 108, .ref 367, .int (nI i), x5, x6, junk] (List.reverse [.ref 0, .int (xs (Int32.toNatClampNeg (nI i + nI 1))), .int (xs (Int32.toNatClampNeg (nI i + nI 2))), .ref 367]) σ u v
  refine hWr wr_field (by omega) (by omega) (W_field (by unfold T2 at hT; omega) hCC hC (fun e σ' f i2 => key 0 _ (by unfold T2 at hT; omega) i2.wL (hM.frame f hv).wL (fun _ => rL_wL0 _ _)) (fun c' hc σ' f i2 => key c' _ (by unfold T2 at hT; omega) i2 (hM.frame f hv) (fun q => by unfold T2 at hT; omega)))
theorem L_order (hAt : LwAt w L xs At) (hWr : LwWr w At) (hC : IC A σ) (hM : IM A σ) (hv : VA A) (hi : i + 6 ≤ L) (hL : L ≤ 3072) (hu : u + 434 ≤ 601024) (hs : v + 3470 ≤ 7293034) (hN : LwN At i u v) : At 566 [.float 0, .ref 0, .ref 108, .ref 367, .int (nI i), x5, x6, junk] [] σ u v := by
  obtain ⟨t, c, y, A', hT, hCC, hMM, hA⟩ := D_order (w := w) hv (xs (Int32.toNatClampNeg (nI i + nI 1))) (xs (Int32.toNatClampNeg (nI i + nI 2))) (xs (Int32.toNatClampNeg (nI i + nI 3))) (xs (Int32.toNatClampNeg (nI i + nI 4)))
  have key : ∀ (cc : Nat) (σ1 : Mem), cc = c → IC A' σ1 → IM A σ1 → (c = 0 → rL σ1 367 0 = y.toInt64) → At 595 [.float 0, .ref 0, .ref 108, .ref 367, .int (nI i), x5, x6, junk] [.int (nI cc)] σ1 (u + 1) (v + 6) := by
    intro cc σ1 ec hC1 hM1 h0
    have hc2 : c ≤ 2 := by unfold T2 at hT; omega
    refine hAt 80 _ _ _ _ _ _ ?_
    refine And.intro (hpL hi hL (k := 1) (by decide)) ?_
    refine And.intro (hpL hi hL (k := 2) (by decide)) ?_
    refine And.intro (hpL hi hL (k := 3) (by decide)) ?_
    refine And.intro (hpL hi hL (k := 4) (by decide)) ?_
    refine callG 0 0 (by omega) (by omega) (hMM σ1 _ _ hM1 (fun σ2 u2 f i2 th eq => ?_))
    refine callG 0 0 (by omega) (by omega) (s_thrown ?_)
    rw [th]
    refine And.intro (fun _ => ?_) (fun q => absurd (by rw [ec]) q)
    have fin : ∀ y5 y6 u' v', u' ≤ u + 434 → v' ≤ v + 3470 → At 23 [.float 0, .ref 0, .ref 108, .ref 367, .int (nI i + nI 6), y5, y6, junk] [] σ2 u' v' := fun y5 y6 u' v' q1 q2 => hN y5 y6 σ2 A' u' v' (hC1.frame f hA) i2 hA q1 q2
    refine And.intro (fun _ => fin _ _ _ _ (by omega) (by omega)) (fun q => ?_)
    have e0 : c = 0 := by rw [ec] at q; exact (nI_eq (by omega) (by decide)).mp q
    refine And.intro ⟨rfl, rfl, vp_in_nI (n := 0) (N := 1) (by decide) (by decide)⟩ ?_
    refine And.intro (fun _ => fin _ _ _ _ (by omega) (by omega)) (fun q2 => absurd ?_ q2)
    rw [show Int32.toNatClampNeg (nI 0) = 0 from by decide, f.2.1 367 (by decide), h0 e0]
    rw [show u2 = y from Value.int.inj (eq e0)]
    exact lcmp_self _
  refine hAt 22 _ _ _ _ _ _ ?_
  refine And.intro (hpL hi hL (k := 1) (by decide)) ?_
  refine And.intro (hpL hi hL (k := 2) (by decide)) ?_
  refine And.intro (hpL hi hL (k := 3) (by decide)) ?_
  refine And.intro (hpL hi hL (k := 4) (by decide)) ?_
  show At 592 [.float 0, .ref 0, .ref 108, .ref 367, .int (nI i), x5, x6, junk] (List.reverse [.ref 0, .int (xs (Int32.toNatClampNeg (nI i + nI 1))), .int (xs (Int32.toNatClampNeg (nI i + nI 2))), .int (xs (Int32.toNatClampNeg (nI i + nI 3))), .int (xs (Int32.toNatClampNeg (nI i + nI 4))), .ref 367]) σ u v
  refine hWr wr_order (by omega) (by omega) (W_order (by unfold T2 at hT; omega) hCC hC (fun e σ' f i2 => key 0 _ (by unfold T2 at hT; omega) i2.wL (hM.frame f hv).wL (fun _ => rL_wL0 _ _)) (fun c' hc σ' f i2 => key c' _ (by unfold T2 at hT; omega) i2 (hM.frame f hv) (fun q => by unfold T2 at hT; omega)))
theorem L_clear (hAt : LwAt w L xs At) (hC : IC A σ) (hM : IM A σ) (hv : VA A) (hi : i + 6 ≤ L) (hL : L ≤ 3072) (hu : u + 434 ≤ 601024) (hs : v + 3470 ≤ 7293034) (hN : LwN At i u v) : At 658 [.float 0, .ref 0, .ref 108, .ref 367, .int (nI i), x5, x6, junk] [] σ u v := by
  obtain ⟨y, A', hCC, hMM, hA⟩ := E_clear (w := w) hv 
  refine hAt 80 _ _ _ _ _ _ ?_
  refine callG 1 6 (by omega) (by omega) (hCC σ _ _ hC (fun _ σ1 f1 i1 => ?_) (fun E e => absurd e (by omega)))
  refine callG 0 0 (by omega) (by omega) (hMM σ1 _ _ (hM.frame f1 hv) (fun σ2 u2 f i2 th eq => ?_))
  have e2 : u2 = y := Value.int.inj (eq rfl)
  refine And.intro (fun _ => hN _ _ σ2 A' _ _ (i1.frame f hA) i2 hA (by omega) (by omega)) (fun q => absurd e2.symm q)
theorem L_day (hAt : LwAt w L xs At) (hWr : LwWr w At) (hC : IC A σ) (hM : IM A σ) (hv : VA A) (hi : i + 6 ≤ L) (hL : L ≤ 3072) (hu : u + 434 ≤ 601024) (hs : v + 3470 ≤ 7293034) (hN : LwN At i u v) : At 671 [.float 0, .ref 0, .ref 108, .ref 367, .int (nI i), x5, x6, junk] [] σ u v := by
  obtain ⟨t, c, y, A', hT, hCC, hMM, hA⟩ := D_day (w := w) hv (xs (Int32.toNatClampNeg (nI i + nI 1))) (xs (Int32.toNatClampNeg (nI i + nI 2)))
  have key : ∀ (cc : Nat) (σ1 : Mem), cc = c → IC A' σ1 → IM A σ1 → (c = 0 → rL σ1 367 0 = y.toInt64) → At 688 [.float 0, .ref 0, .ref 108, .ref 367, .int (nI i), x5, x6, junk] [.int (nI cc)] σ1 (u + 1) (v + 6) := by
    intro cc σ1 ec hC1 hM1 h0
    have hc2 : c ≤ 2 := by unfold T1 at hT; omega
    refine hAt 80 _ _ _ _ _ _ ?_
    refine And.intro (hpL hi hL (k := 1) (by decide)) ?_
    refine And.intro (hpL hi hL (k := 2) (by decide)) ?_
    refine callG 433 3464 (by omega) (by omega) (hMM σ1 _ _ hM1 (fun σ2 u2 f i2 th eq => ?_))
    refine callG 0 0 (by omega) (by omega) (s_thrown ?_)
    rw [th]
    refine And.intro (fun _ => ?_) (fun q => absurd (by rw [ec]) q)
    have fin : ∀ y5 y6 u' v', u' ≤ u + 434 → v' ≤ v + 3470 → At 23 [.float 0, .ref 0, .ref 108, .ref 367, .int (nI i + nI 6), y5, y6, junk] [] σ2 u' v' := fun y5 y6 u' v' q1 q2 => hN y5 y6 σ2 A' u' v' (hC1.frame f hA) i2 hA q1 q2
    refine And.intro (fun _ => fin _ _ _ _ (by omega) (by omega)) (fun q => ?_)
    have e0 : c = 0 := by rw [ec] at q; exact (nI_eq (by omega) (by decide)).mp q
    refine And.intro ⟨rfl, rfl, vp_in_nI (n := 0) (N := 1) (by decide) (by decide)⟩ ?_
    refine And.intro (fun _ => fin _ _ _ _ (by omega) (by omega)) (fun q2 => absurd ?_ q2)
    rw [show Int32.toNatClampNeg (nI 0) = 0 from by decide, f.2.1 367 (by decide), h0 e0]
    rw [show u2 = y from Value.int.inj (eq e0)]
    exact lcmp_self _
  refine hAt 12 _ _ _ _ _ _ ?_
  refine And.intro (hpL hi hL (k := 1) (by decide)) ?_
  refine And.intro (hpL hi hL (k := 2) (by decide)) ?_
  show At 685 [.float 0, .ref 0, .ref 108, .ref 367, .int (nI i), x5, x6, junk] (List.reverse [.ref 0, .int (xs (Int32.toNatClampNeg (nI i + nI 1))), .int (xs (Int32.toNatClampNeg (nI i + nI 2))), .ref 367]) σ u v
  refine hWr wr_day (by omega) (by omega) (W_day (by unfold T1 at hT; omega) hCC hC (fun e σ' f i2 => key 0 _ (by unfold T1 at hT; omega) i2.wL (hM.frame f hv).wL (fun _ => rL_wL0 _ _)) (fun c' hc σ' f i2 => key c' _ (by unfold T1 at hT; omega) i2 (hM.frame f hv) (fun q => by unfold T1 at hT; omega)))
theorem L_cloud (hAt : LwAt w L xs At) (hWr : LwWr w At) (hC : IC A σ) (hM : IM A σ) (hv : VA A) (hi : i + 6 ≤ L) (hL : L ≤ 3072) (hu : u + 434 ≤ 601024) (hs : v + 3470 ≤ 7293034) (hN : LwN At i u v) : At 739 [.float 0, .ref 0, .ref 108, .ref 367, .int (nI i), x5, x6, junk] [] σ u v := by
  obtain ⟨t, c, y, A', hT, hCC, hMM, hA⟩ := D_cloud (w := w) hv (xs (Int32.toNatClampNeg (nI i + nI 1))) (xs (Int32.toNatClampNeg (nI i + nI 2))) (xs (Int32.toNatClampNeg (nI i + nI 3))) (xs (Int32.toNatClampNeg (nI i + nI 4)))
  have key : ∀ (cc : Nat) (σ1 : Mem), cc = c → IC A' σ1 → IM A σ1 → (c = 0 → rL σ1 367 0 = y.toInt64) → At 768 [.float 0, .ref 0, .ref 108, .ref 367, .int (nI i), x5, x6, junk] [.int (nI cc)] σ1 (u + 1) (v + 6) := by
    intro cc σ1 ec hC1 hM1 h0
    have hc2 : c ≤ 2 := by unfold T2 at hT; omega
    refine hAt 80 _ _ _ _ _ _ ?_
    refine And.intro (hpL hi hL (k := 1) (by decide)) ?_
    refine And.intro (hpL hi hL (k := 2) (by decide)) ?_
    refine And.intro (hpL hi hL (k := 3) (by decide)) ?_
    refine And.intro (hpL hi hL (k := 4) (by decide)) ?_
    refine callG 433 3464 (by omega) (by omega) (hMM σ1 _ _ hM1 (fun σ2 u2 f i2 th eq => ?_))
    refine callG 0 0 (by omega) (by omega) (s_thrown ?_)
    rw [th]
    refine And.intro (fun _ => ?_) (fun q => absurd (by rw [ec]) q)
    have fin : ∀ y5 y6 u' v', u' ≤ u + 434 → v' ≤ v + 3470 → At 23 [.float 0, .ref 0, .ref 108, .ref 367, .int (nI i + nI 6), y5, y6, junk] [] σ2 u' v' := fun y5 y6 u' v' q1 q2 => hN y5 y6 σ2 A' u' v' (hC1.frame f hA) i2 hA q1 q2
    refine And.intro (fun _ => fin _ _ _ _ (by omega) (by omega)) (fun q => ?_)
    have e0 : c = 0 := by rw [ec] at q; exact (nI_eq (by omega) (by decide)).mp q
    refine And.intro ⟨rfl, rfl, vp_in_nI (n := 0) (N := 1) (by decide) (by decide)⟩ ?_
    refine And.intro (fun _ => fin _ _ _ _ (by omega) (by omega)) (fun q2 => absurd ?_ q2)
    rw [show Int32.toNatClampNeg (nI 0) = 0 from by decide, f.2.1 367 (by decide), h0 e0]
    rw [show u2 = y from Value.int.inj (eq e0)]
    exact lcmp_self _
  refine hAt 22 _ _ _ _ _ _ ?_
  refine And.intro (hpL hi hL (k := 1) (by decide)) ?_
  refine And.intro (hpL hi hL (k := 2) (by decide)) ?_
  refine And.intro (hpL hi hL (k := 3) (by decide)) ?_
  refine And.intro (hpL hi hL (k := 4) (by decide)) ?_
  show At 765 [.float 0, .ref 0, .ref 108, .ref 367, .int (nI i), x5, x6, junk] (List.reverse [.ref 0, .int (xs (Int32.toNatClampNeg (nI i + nI 1))), .int (xs (Int32.toNatClampNeg (nI i + nI 2))), .int (xs (Int32.toNatClampNeg (nI i + nI 3))), .int (xs (Int32.toNatClampNeg (nI i + nI 4))), .ref 367]) σ u v
  refine hWr wr_cloud (by omega) (by omega) (W_cloud (by unfold T2 at hT; omega) hCC hC (fun e σ' f i2 => key 0 _ (by unfold T2 at hT; omega) i2.wL (hM.frame f hv).wL (fun _ => rL_wL0 _ _)) (fun c' hc σ' f i2 => key c' _ (by unfold T2 at hT; omega) i2 (hM.frame f hv) (fun q => by unfold T2 at hT; omega)))
theorem L_part (hAt : LwAt w L xs At) (hWr : LwWr w At) (hC : IC A σ) (hM : IM A σ) (hv : VA A) (hi : i + 6 ≤ L) (hL : L ≤ 3072) (hu : u + 434 ≤ 601024) (hs : v + 3470 ≤ 7293034) (hN : LwN At i u v) : At 831 [.float 0, .ref 0, .ref 108, .ref 367, .int (nI i), x5, x6, junk] [] σ u v := by
  obtain ⟨t, c, y, A', hT, hCC, hMM, hA⟩ := D_part (w := w) hv (xs (Int32.toNatClampNeg (nI i + nI 1))) (xs (Int32.toNatClampNeg (nI i + nI 2))) (xs (Int32.toNatClampNeg (nI i + nI 3))) (xs (Int32.toNatClampNeg (nI i + nI 4)))
  have key : ∀ (cc : Nat) (σ1 : Mem), cc = c → IC A' σ1 → IM A σ1 → (c = 0 → rL σ1 367 0 = y.toInt64) → At 860 [.float 0, .ref 0, .ref 108, .ref 367, .int (nI i), x5, x6, junk] [.int (nI cc)] σ1 (u + 1) (v + 6) := by
    intro cc σ1 ec hC1 hM1 h0
    have hc2 : c ≤ 2 := by unfold T2 at hT; omega
    refine hAt 80 _ _ _ _ _ _ ?_
    refine And.intro (hpL hi hL (k := 1) (by decide)) ?_
    refine And.intro (hpL hi hL (k := 2) (by decide)) ?_
    refine And.intro (hpL hi hL (k := 3) (by decide)) ?_
    refine And.intro (hpL hi hL (k := 4) (by decide)) ?_
    refine callG 433 3464 (by omega) (by omega) (hMM σ1 _ _ hM1 (fun σ2 u2 f i2 th eq => ?_))
    refine callG 0 0 (by omega) (by omega) (s_thrown ?_)
    rw [th]
    refine And.intro (fun _ => ?_) (fun q => absurd (by rw [ec]) q)
    have fin : ∀ y5 y6 u' v', u' ≤ u + 434 → v' ≤ v + 3470 → At 23 [.float 0, .ref 0, .ref 108, .ref 367, .int (nI i + nI 6), y5, y6, junk] [] σ2 u' v' := fun y5 y6 u' v' q1 q2 => hN y5 y6 σ2 A' u' v' (hC1.frame f hA) i2 hA q1 q2
    refine And.intro (fun _ => fin _ _ _ _ (by omega) (by omega)) (fun q => ?_)
    have e0 : c = 0 := by rw [ec] at q; exact (nI_eq (by omega) (by decide)).mp q
    refine And.intro ⟨rfl, rfl, vp_in_nI (n := 0) (N := 1) (by decide) (by decide)⟩ ?_
    refine And.intro (fun _ => fin _ _ _ _ (by omega) (by omega)) (fun q2 => absurd ?_ q2)
    rw [show Int32.toNatClampNeg (nI 0) = 0 from by decide, f.2.1 367 (by decide), h0 e0]
    rw [show u2 = y from Value.int.inj (eq e0)]
    exact lcmp_self _
  refine hAt 22 _ _ _ _ _ _ ?_
  refine And.intro (hpL hi hL (k := 1) (by decide)) ?_
  refine And.intro (hpL hi hL (k := 2) (by decide)) ?_
  refine And.intro (hpL hi hL (k := 3) (by decide)) ?_
  refine And.intro (hpL hi hL (k := 4) (by decide)) ?_
  show At 857 [.float 0, .ref 0, .ref 108, .ref 367, .int (nI i), x5, x6, junk] (List.reverse [.ref 0, .int (xs (Int32.toNatClampNeg (nI i + nI 1))), .int (xs (Int32.toNatClampNeg (nI i + nI 2))), .int (xs (Int32.toNatClampNeg (nI i + nI 3))), .int (xs (Int32.toNatClampNeg (nI i + nI 4))), .ref 367]) σ u v
  refine hWr wr_part (by omega) (by omega) (W_part (by unfold T2 at hT; omega) hCC hC (fun e σ' f i2 => key 0 _ (by unfold T2 at hT; omega) i2.wL (hM.frame f hv).wL (fun _ => rL_wL0 _ _)) (fun c' hc σ' f i2 => key c' _ (by unfold T2 at hT; omega) i2 (hM.frame f hv) (fun q => by unfold T2 at hT; omega)))
theorem L_account (hAt : LwAt w L xs At) (hWr : LwWr w At) (hC : IC A σ) (hM : IM A σ) (hv : VA A) (hi : i + 6 ≤ L) (hL : L ≤ 3072) (hu : u + 434 ≤ 601024) (hs : v + 3470 ≤ 7293034) (hN : LwN At i u v) : At 923 [.float 0, .ref 0, .ref 108, .ref 367, .int (nI i), x5, x6, junk] [] σ u v := by
  obtain ⟨t, c, y, A', hT, hCC, hMM, hA⟩ := D_account (w := w) hv (xs (Int32.toNatClampNeg (nI i + nI 1))) (xs (Int32.toNatClampNeg (nI i + nI 2))) (xs (Int32.toNatClampNeg (nI i + nI 3)))
  have key : ∀ (cc : Nat) (σ1 : Mem), cc = c → IC A' σ1 → IM A σ1 → (c = 0 → rL σ1 367 0 = y.toInt64) → At 946 [.float 0, .ref 0, .ref 108, .ref 367, .int (nI i), x5, x6, junk] [.int (nI cc)] σ1 (u + 1) (v + 6) := by
    intro cc σ1 ec hC1 hM1 h0
    have hc2 : c ≤ 2 := by unfold T1 at hT; omega
    refine hAt 80 _ _ _ _ _ _ ?_
    refine And.intro (hpL hi hL (k := 1) (by decide)) ?_
    refine And.intro (hpL hi hL (k := 2) (by decide)) ?_
    refine And.intro (hpL hi hL (k := 3) (by decide)) ?_
    refine callG 433 3464 (by omega) (by omega) (hMM σ1 _ _ hM1 (fun σ2 u2 f i2 th eq => ?_))
    refine callG 0 0 (by omega) (by omega) (s_thrown ?_)
    rw [th]
    refine And.intro (fun _ => ?_) (fun q => absurd (by rw [ec]) q)
    have fin : ∀ y5 y6 u' v', u' ≤ u + 434 → v' ≤ v + 3470 → At 23 [.float 0, .ref 0, .ref 108, .ref 367, .int (nI i + nI 6), y5, y6, junk] [] σ2 u' v' := fun y5 y6 u' v' q1 q2 => hN y5 y6 σ2 A' u' v' (hC1.frame f hA) i2 hA q1 q2
    refine And.intro (fun _ => fin _ _ _ _ (by omega) (by omega)) (fun q => ?_)
    have e0 : c = 0 := by rw [ec] at q; exact (nI_eq (by omega) (by decide)).mp q
    refine And.intro ⟨rfl, rfl, vp_in_nI (n := 0) (N := 1) (by decide) (by decide)⟩ ?_
    refine And.intro (fun _ => fin _ _ _ _ (by omega) (by omega)) (fun q2 => absurd ?_ q2)
    rw [show Int32.toNatClampNeg (nI 0) = 0 from by decide, f.2.1 367 (by decide), h0 e0]
    rw [show u2 = y from Value.int.inj (eq e0)]
    exact lcmp_self _
  refine hAt 17 _ _ _ _ _ _ ?_
  refine And.intro (hpL hi hL (k := 1) (by decide)) ?_
  refine And.intro (hpL hi hL (k := 2) (by decide)) ?_
  refine And.intro (hpL hi hL (k := 3) (by decide)) ?_
  show At 943 [.float 0, .ref 0, .ref 108, .ref 367, .int (nI i), x5, x6, junk] (List.reverse [.ref 0, .int (xs (Int32.toNatClampNeg (nI i + nI 1))), .int (xs (Int32.toNatClampNeg (nI i + nI 2))), .int (xs (Int32.toNatClampNeg (nI i + nI 3))), .ref 367]) σ u v
  refine hWr wr_account (by omega) (by omega) (W_account (by unfold T1 at hT; omega) hCC hC (fun e σ' f i2 => key 0 _ (by unfold T1 at hT; omega) i2.wL (hM.frame f hv).wL (fun _ => rL_wL0 _ _)) (fun c' hc σ' f i2 => key c' _ (by unfold T1 at hT; omega) i2 (hM.frame f hv) (fun q => by unfold T1 at hT; omega)))
theorem L_farmer (hAt : LwAt w L xs At) (hWr : LwWr w At) (hC : IC A σ) (hM : IM A σ) (hv : VA A) (hi : i + 6 ≤ L) (hL : L ≤ 3072) (hu : u + 434 ≤ 601024) (hs : v + 3470 ≤ 7293034) (hN : LwN At i u v) : At 1003 [.float 0, .ref 0, .ref 108, .ref 367, .int (nI i), x5, x6, junk] [] σ u v := by
  obtain ⟨t, c, y, A', hT, hCC, hMM, hA⟩ := D_farmer (w := w) hv (xs (Int32.toNatClampNeg (nI i + nI 1))) (xs (Int32.toNatClampNeg (nI i + nI 2))) (xs (Int32.toNatClampNeg (nI i + nI 3)))
  have key : ∀ (cc : Nat) (σ1 : Mem), cc = c → IC A' σ1 → IM A σ1 → (c = 0 → rL σ1 367 0 = y.toInt64) → At 1026 [.float 0, .ref 0, .ref 108, .ref 367, .int (nI i), x5, x6, junk] [.int (nI cc)] σ1 (u + 1) (v + 6) := by
    intro cc σ1 ec hC1 hM1 h0
    have hc2 : c ≤ 2 := by unfold T1 at hT; omega
    refine hAt 80 _ _ _ _ _ _ ?_
    refine And.intro (hpL hi hL (k := 1) (by decide)) ?_
    refine And.intro (hpL hi hL (k := 2) (by decide)) ?_
    refine And.intro (hpL hi hL (k := 3) (by decide)) ?_
    refine callG 433 3464 (by omega) (by omega) (hMM σ1 _ _ hM1 (fun σ2 u2 f i2 th eq => ?_))
    refine callG 0 0 (by omega) (by omega) (s_thrown ?_)
    rw [th]
    refine And.intro (fun _ => ?_) (fun q => absurd (by rw [ec]) q)
    have fin : ∀ y5 y6 u' v', u' ≤ u + 434 → v' ≤ v + 3470 → At 23 [.float 0, .ref 0, .ref 108, .ref 367, .int (nI i + nI 6), y5, y6, junk] [] σ2 u' v' := fun y5 y6 u' v' q1 q2 => hN y5 y6 σ2 A' u' v' (hC1.frame f hA) i2 hA q1 q2
    refine And.intro (fun _ => fin _ _ _ _ (by omega) (by omega)) (fun q => ?_)
    have e0 : c = 0 := by rw [ec] at q; exact (nI_eq (by omega) (by decide)).mp q
    refine And.intro ⟨rfl, rfl, vp_in_nI (n := 0) (N := 1) (by decide) (by decide)⟩ ?_
    refine And.intro (fun _ => fin _ _ _ _ (by omega) (by omega)) (fun q2 => absurd ?_ q2)
    rw [show Int32.toNatClampNeg (nI 0) = 0 from by decide, f.2.1 367 (by decide), h0 e0]
    rw [show u2 = y from Value.int.inj (eq e0)]
    exact lcmp_self _
  refine hAt 17 _ _ _ _ _ _ ?_
  refine And.intro (hpL hi hL (k := 1) (by decide)) ?_
  refine And.intro (hpL hi hL (k := 2) (by decide)) ?_
  refine And.intro (hpL hi hL (k := 3) (by decide)) ?_
  show At 1023 [.float 0, .ref 0, .ref 108, .ref 367, .int (nI i), x5, x6, junk] (List.reverse [.ref 0, .int (xs (Int32.toNatClampNeg (nI i + nI 1))), .int (xs (Int32.toNatClampNeg (nI i + nI 2))), .int (xs (Int32.toNatClampNeg (nI i + nI 3))), .ref 367]) σ u v
  refine hWr wr_farmer (by omega) (by omega) (W_farmer (by unfold T1 at hT; omega) hCC hC (fun e σ' f i2 => key 0 _ (by unfold T1 at hT; omega) i2.wL (hM.frame f hv).wL (fun _ => rL_wL0 _ _)) (fun c' hc σ' f i2 => key c' _ (by unfold T1 at hT; omega) i2 (hM.frame f hv) (fun q => by unfold T1 at hT; omega)))
theorem L_after (hAt : LwAt w L xs At) (hWr : LwWr w At) (hC : IC A σ) (hM : IM A σ) (hv : VA A) (hi : i + 6 ≤ L) (hL : L ≤ 3072) (hu : u + 434 ≤ 601024) (hs : v + 3470 ≤ 7293034) (hN : LwN At i u v) : At 1083 [.float 0, .ref 0, .ref 108, .ref 367, .int (nI i), x5, x6, junk] [] σ u v := by
  obtain ⟨t, c, y, A', hT, hCC, hMM, hA⟩ := D_after (w := w) hv (xs (Int32.toNatClampNeg (nI i + nI 1))) (xs (Int32.toNatClampNeg (nI i + nI 2))) (xs (Int32.toNatClampNeg (nI i + nI 3)))
  have key : ∀ (cc : Nat) (σ1 : Mem), cc = c → IC A' σ1 → IM A σ1 → (c = 0 → rL σ1 367 0 = y.toInt64) → At 1106 [.float 0, .ref 0, .ref 108, .ref 367, .int (nI i), x5, x6, junk] [.int (nI cc)] σ1 (u + 1) (v + 6) := by
    intro cc σ1 ec hC1 hM1 h0
    have hc2 : c ≤ 2 := by unfold T2 at hT; omega
    refine hAt 80 _ _ _ _ _ _ ?_
    refine And.intro (hpL hi hL (k := 1) (by decide)) ?_
    refine And.intro (hpL hi hL (k := 2) (by decide)) ?_
    refine And.intro (hpL hi hL (k := 3) (by decide)) ?_
    refine callG 433 3464 (by omega) (by omega) (hMM σ1 _ _ hM1 (fun σ2 u2 f i2 th eq => ?_))
    refine callG 0 0 (by omega) (by omega) (s_thrown ?_)
    rw [th]
    refine And.intro (fun _ => ?_) (fun q => absurd (by rw [ec]) q)
    have fin : ∀ y5 y6 u' v', u' ≤ u + 434 → v' ≤ v + 3470 → At 23 [.float 0, .ref 0, .ref 108, .ref 367, .int (nI i + nI 6), y5, y6, junk] [] σ2 u' v' := fun y5 y6 u' v' q1 q2 => hN y5 y6 σ2 A' u' v' (hC1.frame f hA) i2 hA q1 q2
    refine And.intro (fun _ => fin _ _ _ _ (by omega) (by omega)) (fun q => ?_)
    have e0 : c = 0 := by rw [ec] at q; exact (nI_eq (by omega) (by decide)).mp q
    refine And.intro ⟨rfl, rfl, vp_in_nI (n := 0) (N := 1) (by decide) (by decide)⟩ ?_
    refine And.intro (fun _ => fin _ _ _ _ (by omega) (by omega)) (fun q2 => absurd ?_ q2)
    rw [show Int32.toNatClampNeg (nI 0) = 0 from by decide, f.2.1 367 (by decide), h0 e0]
    rw [show u2 = y from Value.int.inj (eq e0)]
    exact lcmp_self _
  refine hAt 17 _ _ _ _ _ _ ?_
  refine And.intro (hpL hi hL (k := 1) (by decide)) ?_
  refine And.intro (hpL hi hL (k := 2) (by decide)) ?_
  refine And.intro (hpL hi hL (k := 3) (by decide)) ?_
  show At 1103 [.float 0, .ref 0, .ref 108, .ref 367, .int (nI i), x5, x6, junk] (List.reverse [.ref 0, .int (xs (Int32.toNatClampNeg (nI i + nI 1))), .int (xs (Int32.toNatClampNeg (nI i + nI 2))), .int (xs (Int32.toNatClampNeg (nI i + nI 3))), .ref 367]) σ u v
  refine hWr wr_after (by omega) (by omega) (W_after (by unfold T2 at hT; omega) hCC hC (fun e σ' f i2 => key 0 _ (by unfold T2 at hT; omega) i2.wL (hM.frame f hv).wL (fun _ => rL_wL0 _ _)) (fun c' hc σ' f i2 => key c' _ (by unfold T2 at hT; omega) i2 (hM.frame f hv) (fun q => by unfold T2 at hT; omega)))
theorem L_worth (hAt : LwAt w L xs At) (hWr : LwWr w At) (hC : IC A σ) (hM : IM A σ) (hv : VA A) (hi : i + 6 ≤ L) (hL : L ≤ 3072) (hu : u + 434 ≤ 601024) (hs : v + 3470 ≤ 7293034) (hN : LwN At i u v) : At 1163 [.float 0, .ref 0, .ref 108, .ref 367, .int (nI i), x5, x6, junk] [] σ u v := by
  obtain ⟨t, c, y, A', hT, hCC, hMM, hA⟩ := D_worth (w := w) hv (xs (Int32.toNatClampNeg (nI i + nI 1)))
  have key : ∀ (cc : Nat) (σ1 : Mem), cc = c → IC A' σ1 → IM A σ1 → (c = 0 → rL σ1 367 0 = y.toInt64) → At 1174 [.float 0, .ref 0, .ref 108, .ref 367, .int (nI i), x5, x6, junk] [.int (nI cc)] σ1 (u + 1) (v + 6) := by
    intro cc σ1 ec hC1 hM1 h0
    have hc2 : c ≤ 2 := by unfold T1 at hT; omega
    refine hAt 80 _ _ _ _ _ _ ?_
    refine And.intro (hpL hi hL (k := 1) (by decide)) ?_
    refine callG 0 0 (by omega) (by omega) (hMM σ1 _ _ hM1 (fun σ2 u2 f i2 th eq => ?_))
    refine callG 0 0 (by omega) (by omega) (s_thrown ?_)
    rw [th]
    refine And.intro (fun _ => ?_) (fun q => absurd (by rw [ec]) q)
    have fin : ∀ y5 y6 u' v', u' ≤ u + 434 → v' ≤ v + 3470 → At 23 [.float 0, .ref 0, .ref 108, .ref 367, .int (nI i + nI 6), y5, y6, junk] [] σ2 u' v' := fun y5 y6 u' v' q1 q2 => hN y5 y6 σ2 A' u' v' (hC1.frame f hA) i2 hA q1 q2
    refine And.intro (fun _ => fin _ _ _ _ (by omega) (by omega)) (fun q => ?_)
    have e0 : c = 0 := by rw [ec] at q; exact (nI_eq (by omega) (by decide)).mp q
    refine And.intro ⟨rfl, rfl, vp_in_nI (n := 0) (N := 1) (by decide) (by decide)⟩ ?_
    refine And.intro (fun _ => fin _ _ _ _ (by omega) (by omega)) (fun q2 => absurd ?_ q2)
    rw [show Int32.toNatClampNeg (nI 0) = 0 from by decide, f.2.1 367 (by decide), h0 e0]
    rw [show u2 = y from Value.int.inj (eq e0)]
    exact lcmp_self _
  refine hAt 7 _ _ _ _ _ _ ?_
  refine And.intro (hpL hi hL (k := 1) (by decide)) ?_
  show At 1171 [.float 0, .ref 0, .ref 108, .ref 367, .int (nI i), x5, x6, junk] (List.reverse [.ref 0, .int (xs (Int32.toNatClampNeg (nI i + nI 1))), .ref 367]) σ u v
  refine hWr wr_worth (by omega) (by omega) (W_worth (by unfold T1 at hT; omega) hCC hC (fun e σ' f i2 => key 0 _ (by unfold T1 at hT; omega) i2.wL (hM.frame f hv).wL (fun _ => rL_wL0 _ _)) (fun c' hc σ' f i2 => key c' _ (by unfold T1 at hT; omega) i2 (hM.frame f hv) (fun q => by unfold T1 at hT; omega)))
theorem L_share (hAt : LwAt w L xs At) (hWr : LwWr w At) (hC : IC A σ) (hM : IM A σ) (hv : VA A) (hi : i + 6 ≤ L) (hL : L ≤ 3072) (hu : u + 434 ≤ 601024) (hs : v + 3470 ≤ 7293034) (hN : LwN At i u v) : At 1219 [.float 0, .ref 0, .ref 108, .ref 367, .int (nI i), x5, x6, junk] [] σ u v := by
  obtain ⟨t, c, y, A', hT, hCC, hMM, hA⟩ := D_share (w := w) hv (xs (Int32.toNatClampNeg (nI i + nI 1))) (xs (Int32.toNatClampNeg (nI i + nI 2)))
  have key : ∀ (cc : Nat) (σ1 : Mem), cc = c → IC A' σ1 → IM A σ1 → (c = 0 → rL σ1 367 0 = y) → At 1236 [.float 0, .ref 0, .ref 108, .ref 367, .int (nI i), x5, x6, junk] [.int (nI cc)] σ1 (u + 1) (v + 6) := by
    intro cc σ1 ec hC1 hM1 h0
    have hc2 : c ≤ 2 := by unfold T2 at hT; omega
    refine hAt 80 _ _ _ _ _ _ ?_
    refine And.intro (hpL hi hL (k := 1) (by decide)) ?_
    refine And.intro (hpL hi hL (k := 2) (by decide)) ?_
    refine callG 0 0 (by omega) (by omega) (hMM σ1 _ _ hM1 (fun σ2 u2 f i2 th eq => ?_))
    refine callG 0 0 (by omega) (by omega) (s_thrown ?_)
    rw [th]
    refine And.intro (fun _ => ?_) (fun q => absurd (by rw [ec]) q)
    have fin : ∀ y5 y6 u' v', u' ≤ u + 434 → v' ≤ v + 3470 → At 23 [.float 0, .ref 0, .ref 108, .ref 367, .int (nI i + nI 6), y5, y6, junk] [] σ2 u' v' := fun y5 y6 u' v' q1 q2 => hN y5 y6 σ2 A' u' v' (hC1.frame f hA) i2 hA q1 q2
    refine And.intro (fun _ => fin _ _ _ _ (by omega) (by omega)) (fun q => ?_)
    have e0 : c = 0 := by rw [ec] at q; exact (nI_eq (by omega) (by decide)).mp q
    refine And.intro ⟨rfl, rfl, vp_in_nI (n := 0) (N := 1) (by decide) (by decide)⟩ ?_
    refine And.intro (fun _ => fin _ _ _ _ (by omega) (by omega)) (fun q2 => absurd ?_ q2)
    rw [show Int32.toNatClampNeg (nI 0) = 0 from by decide, f.2.1 367 (by decide), h0 e0]
    rw [show u2 = y from Value.long.inj (eq e0)]
    exact lcmp_self _
  refine hAt 12 _ _ _ _ _ _ ?_
  refine And.intro (hpL hi hL (k := 1) (by decide)) ?_
  refine And.intro (hpL hi hL (k := 2) (by decide)) ?_
  show At 1233 [.float 0, .ref 0, .ref 108, .ref 367, .int (nI i), x5, x6, junk] (List.reverse [.ref 0, .int (xs (Int32.toNatClampNeg (nI i + nI 1))), .int (xs (Int32.toNatClampNeg (nI i + nI 2))), .ref 367]) σ u v
  refine hWr wr_share (by omega) (by omega) (W_share (by unfold T2 at hT; omega) hCC hC (fun e σ' f i2 => key 0 _ (by unfold T2 at hT; omega) i2.wL (hM.frame f hv).wL (fun _ => rL_wL0 _ _)) (fun c' hc σ' f i2 => key c' _ (by unfold T2 at hT; omega) i2 (hM.frame f hv) (fun q => by unfold T2 at hT; omega)))
theorem L_bid (hAt : LwAt w L xs At) (hWr : LwWr w At) (hC : IC A σ) (hM : IM A σ) (hv : VA A) (hi : i + 6 ≤ L) (hL : L ≤ 3072) (hu : u + 434 ≤ 601024) (hs : v + 3470 ≤ 7293034) (hN : LwN At i u v) : At 1286 [.float 0, .ref 0, .ref 108, .ref 367, .int (nI i), x5, x6, junk] [] σ u v := by
  obtain ⟨t, c, y, A', hT, hCC, hMM, hA⟩ := D_bid (w := w) hv (xs (Int32.toNatClampNeg (nI i + nI 1))) (xs (Int32.toNatClampNeg (nI i + nI 2))) (xs (Int32.toNatClampNeg (nI i + nI 3)))
  have key : ∀ (cc : Nat) (σ1 : Mem), cc = c → IC A' σ1 → IM A σ1 → (c = 0 → rL σ1 367 0 = y.toInt64) → At 1309 [.float 0, .ref 0, .ref 108, .ref 367, .int (nI i), x5, x6, junk] [.int (nI cc)] σ1 (u + 1) (v + 6) := by
    intro cc σ1 ec hC1 hM1 h0
    have hc2 : c ≤ 2 := by unfold T1 at hT; omega
    refine hAt 80 _ _ _ _ _ _ ?_
    refine And.intro (hpL hi hL (k := 1) (by decide)) ?_
    refine And.intro (hpL hi hL (k := 2) (by decide)) ?_
    refine And.intro (hpL hi hL (k := 3) (by decide)) ?_
    refine callG 0 0 (by omega) (by omega) (hMM σ1 _ _ hM1 (fun σ2 u2 f i2 th eq => ?_))
    refine callG 0 0 (by omega) (by omega) (s_thrown ?_)
    rw [th]
    refine And.intro (fun _ => ?_) (fun q => absurd (by rw [ec]) q)
    have fin : ∀ y5 y6 u' v', u' ≤ u + 434 → v' ≤ v + 3470 → At 23 [.float 0, .ref 0, .ref 108, .ref 367, .int (nI i + nI 6), y5, y6, junk] [] σ2 u' v' := fun y5 y6 u' v' q1 q2 => hN y5 y6 σ2 A' u' v' (hC1.frame f hA) i2 hA q1 q2
    refine And.intro (fun _ => fin _ _ _ _ (by omega) (by omega)) (fun q => ?_)
    have e0 : c = 0 := by rw [ec] at q; exact (nI_eq (by omega) (by decide)).mp q
    refine And.intro ⟨rfl, rfl, vp_in_nI (n := 0) (N := 1) (by decide) (by decide)⟩ ?_
    refine And.intro (fun _ => fin _ _ _ _ (by omega) (by omega)) (fun q2 => absurd ?_ q2)
    rw [show Int32.toNatClampNeg (nI 0) = 0 from by decide, f.2.1 367 (by decide), h0 e0]
    rw [show u2 = y from Value.int.inj (eq e0)]
    exact lcmp_self _
  refine hAt 17 _ _ _ _ _ _ ?_
  refine And.intro (hpL hi hL (k := 1) (by decide)) ?_
  refine And.intro (hpL hi hL (k := 2) (by decide)) ?_
  refine And.intro (hpL hi hL (k := 3) (by decide)) ?_
  show At 1306 [.float 0, .ref 0, .ref 108, .ref 367, .int (nI i), x5, x6, junk] (List.reverse [.ref 0, .int (xs (Int32.toNatClampNeg (nI i + nI 1))), .int (xs (Int32.toNatClampNeg (nI i + nI 2))), .int (xs (Int32.toNatClampNeg (nI i + nI 3))), .ref 367]) σ u v
  refine hWr wr_bid (by omega) (by omega) (W_bid (by unfold T1 at hT; omega) hCC hC (fun e σ' f i2 => key 0 _ (by unfold T1 at hT; omega) i2.wL (hM.frame f hv).wL (fun _ => rL_wL0 _ _)) (fun c' hc σ' f i2 => key c' _ (by unfold T1 at hT; omega) i2 (hM.frame f hv) (fun q => by unfold T1 at hT; omega)))
theorem L_forget (hAt : LwAt w L xs At) (hC : IC A σ) (hM : IM A σ) (hv : VA A) (hi : i + 6 ≤ L) (hL : L ≤ 3072) (hu : u + 434 ≤ 601024) (hs : v + 3470 ≤ 7293034) (hN : LwN At i u v) : At 1366 [.float 0, .ref 0, .ref 108, .ref 367, .int (nI i), x5, x6, junk] [] σ u v := by
  obtain ⟨y, A', hCC, hMM, hA⟩ := E_forget (w := w) hv 
  refine hAt 80 _ _ _ _ _ _ ?_
  refine callG 1 6 (by omega) (by omega) (hCC σ _ _ hC (fun _ σ1 f1 i1 => ?_) (fun E e => absurd e (by omega)))
  refine callG 0 0 (by omega) (by omega) (hMM σ1 _ _ (hM.frame f1 hv) (fun σ2 u2 f i2 th eq => ?_))
  have e2 : u2 = y := Value.int.inj (eq rfl)
  refine And.intro (fun _ => hN _ _ σ2 A' _ _ (i1.frame f hA) i2 hA (by omega) (by omega)) (fun q => absurd e2.symm q)
theorem L_gets (hAt : LwAt w L xs At) (hWr : LwWr w At) (hC : IC A σ) (hM : IM A σ) (hv : VA A) (hi : i + 6 ≤ L) (hL : L ≤ 3072) (hu : u + 434 ≤ 601024) (hs : v + 3470 ≤ 7293034) (hN : LwN At i u v) : At 1379 [.float 0, .ref 0, .ref 108, .ref 367, .int (nI i), x5, x6, junk] [] σ u v := by
  obtain ⟨t, c, y, A', hT, hCC, hMM, hA⟩ := D_gets (w := w) hv (xs (Int32.toNatClampNeg (nI i + nI 1))) (xs (Int32.toNatClampNeg (nI i + nI 2)))
  have key : ∀ (cc : Nat) (σ1 : Mem), cc = c → IC A' σ1 → IM A σ1 → (c = 0 → rL σ1 367 0 = y.toInt64) → At 1396 [.float 0, .ref 0, .ref 108, .ref 367, .int (nI i), x5, x6, junk] [.int (nI cc)] σ1 (u + 1) (v + 6) := by
    intro cc σ1 ec hC1 hM1 h0
    have hc2 : c ≤ 2 := by unfold T2 at hT; omega
    refine hAt 80 _ _ _ _ _ _ ?_
    refine And.intro (hpL hi hL (k := 1) (by decide)) ?_
    refine And.intro (hpL hi hL (k := 2) (by decide)) ?_
    refine callG 0 0 (by omega) (by omega) (hMM σ1 _ _ hM1 (fun σ2 u2 f i2 th eq => ?_))
    refine callG 0 0 (by omega) (by omega) (s_thrown ?_)
    rw [th]
    refine And.intro (fun _ => ?_) (fun q => absurd (by rw [ec]) q)
    have fin : ∀ y5 y6 u' v', u' ≤ u + 434 → v' ≤ v + 3470 → At 23 [.float 0, .ref 0, .ref 108, .ref 367, .int (nI i + nI 6), y5, y6, junk] [] σ2 u' v' := fun y5 y6 u' v' q1 q2 => hN y5 y6 σ2 A' u' v' (hC1.frame f hA) i2 hA q1 q2
    refine And.intro (fun _ => fin _ _ _ _ (by omega) (by omega)) (fun q => ?_)
    have e0 : c = 0 := by rw [ec] at q; exact (nI_eq (by omega) (by decide)).mp q
    refine And.intro ⟨rfl, rfl, vp_in_nI (n := 0) (N := 1) (by decide) (by decide)⟩ ?_
    refine And.intro (fun _ => fin _ _ _ _ (by omega) (by omega)) (fun q2 => absurd ?_ q2)
    rw [show Int32.toNatClampNeg (nI 0) = 0 from by decide, f.2.1 367 (by decide), h0 e0]
    rw [show u2 = y from Value.int.inj (eq e0)]
    exact lcmp_self _
  refine hAt 12 _ _ _ _ _ _ ?_
  refine And.intro (hpL hi hL (k := 1) (by decide)) ?_
  refine And.intro (hpL hi hL (k := 2) (by decide)) ?_
  show At 1393 [.float 0, .ref 0, .ref 108, .ref 367, .int (nI i), x5, x6, junk] (List.reverse [.ref 0, .int (xs (Int32.toNatClampNeg (nI i + nI 1))), .int (xs (Int32.toNatClampNeg (nI i + nI 2))), .ref 367]) σ u v
  refine hWr wr_gets (by omega) (by omega) (W_gets (by unfold T2 at hT; omega) hCC hC (fun e σ' f i2 => key 0 _ (by unfold T2 at hT; omega) i2.wL (hM.frame f hv).wL (fun _ => rL_wL0 _ _)) (fun c' hc σ' f i2 => key c' _ (by unfold T2 at hT; omega) i2 (hM.frame f hv) (fun q => by unfold T2 at hT; omega)))
theorem L_settled (hAt : LwAt w L xs At) (hWr : LwWr w At) (hC : IC A σ) (hM : IM A σ) (hv : VA A) (hi : i + 6 ≤ L) (hL : L ≤ 3072) (hu : u + 434 ≤ 601024) (hs : v + 3470 ≤ 7293034) (hN : LwN At i u v) : At 1447 [.float 0, .ref 0, .ref 108, .ref 367, .int (nI i), x5, x6, junk] [] σ u v := by
  obtain ⟨t, c, y, A', hT, hCC, hMM, hA⟩ := D_settled (w := w) hv (xs (Int32.toNatClampNeg (nI i + nI 1))) (xs (Int32.toNatClampNeg (nI i + nI 2)))
  have key : ∀ (cc : Nat) (σ1 : Mem), cc = c → IC A' σ1 → IM A σ1 → (c = 0 → rL σ1 367 0 = y.toInt64) → At 1464 [.float 0, .ref 0, .ref 108, .ref 367, .int (nI i), x5, x6, junk] [.int (nI cc)] σ1 (u + 1) (v + 6) := by
    intro cc σ1 ec hC1 hM1 h0
    have hc2 : c ≤ 2 := by unfold T1 at hT; omega
    refine hAt 80 _ _ _ _ _ _ ?_
    refine And.intro (hpL hi hL (k := 1) (by decide)) ?_
    refine And.intro (hpL hi hL (k := 2) (by decide)) ?_
    refine callG 0 0 (by omega) (by omega) (hMM σ1 _ _ hM1 (fun σ2 u2 f i2 th eq => ?_))
    refine callG 0 0 (by omega) (by omega) (s_thrown ?_)
    rw [th]
    refine And.intro (fun _ => ?_) (fun q => absurd (by rw [ec]) q)
    have fin : ∀ y5 y6 u' v', u' ≤ u + 434 → v' ≤ v + 3470 → At 23 [.float 0, .ref 0, .ref 108, .ref 367, .int (nI i + nI 6), y5, y6, junk] [] σ2 u' v' := fun y5 y6 u' v' q1 q2 => hN y5 y6 σ2 A' u' v' (hC1.frame f hA) i2 hA q1 q2
    refine And.intro (fun _ => fin _ _ _ _ (by omega) (by omega)) (fun q => ?_)
    have e0 : c = 0 := by rw [ec] at q; exact (nI_eq (by omega) (by decide)).mp q
    refine And.intro ⟨rfl, rfl, vp_in_nI (n := 0) (N := 1) (by decide) (by decide)⟩ ?_
    refine And.intro (fun _ => fin _ _ _ _ (by omega) (by omega)) (fun q2 => absurd ?_ q2)
    rw [show Int32.toNatClampNeg (nI 0) = 0 from by decide, f.2.1 367 (by decide), h0 e0]
    rw [show u2 = y from Value.int.inj (eq e0)]
    exact lcmp_self _
  refine hAt 12 _ _ _ _ _ _ ?_
  refine And.intro (hpL hi hL (k := 1) (by decide)) ?_
  refine And.intro (hpL hi hL (k := 2) (by decide)) ?_
  show At 1461 [.float 0, .ref 0, .ref 108, .ref 367, .int (nI i), x5, x6, junk] (List.reverse [.ref 0, .int (xs (Int32.toNatClampNeg (nI i + nI 1))), .int (xs (Int32.toNatClampNeg (nI i + nI 2))), .ref 367]) σ u v
  refine hWr wr_settled (by omega) (by omega) (W_settled (by unfold T1 at hT; omega) hCC hC (fun e σ' f i2 => key 0 _ (by unfold T1 at hT; omega) i2.wL (hM.frame f hv).wL (fun _ => rL_wL0 _ _)) (fun c' hc σ' f i2 => key c' _ (by unfold T1 at hT; omega) i2 (hM.frame f hv) (fun q => by unfold T1 at hT; omega)))
theorem L_drought (hAt : LwAt w L xs At) (hWr : LwWr w At) (hC : IC A σ) (hM : IM A σ) (hv : VA A) (hi : i + 6 ≤ L) (hL : L ≤ 3072) (hu : u + 434 ≤ 601024) (hs : v + 3470 ≤ 7293034) (hN : LwN At i u v) : At 1515 [.float 0, .ref 0, .ref 108, .ref 367, .int (nI i), x5, x6, junk] [] σ u v := by
  obtain ⟨t, c, y, A', hT, hCC, hMM, hA⟩ := D_drought (w := w) hv (xs (Int32.toNatClampNeg (nI i + nI 1))) (xs (Int32.toNatClampNeg (nI i + nI 2)))
  have key : ∀ (cc : Nat) (σ1 : Mem), cc = c → IC A' σ1 → IM A σ1 → (c = 0 → rL σ1 367 0 = y.toInt64) → At 1532 [.float 0, .ref 0, .ref 108, .ref 367, .int (nI i), x5, x6, junk] [.int (nI cc)] σ1 (u + 1) (v + 6) := by
    intro cc σ1 ec hC1 hM1 h0
    have hc2 : c ≤ 2 := by unfold T2 at hT; omega
    refine hAt 80 _ _ _ _ _ _ ?_
    refine And.intro (hpL hi hL (k := 1) (by decide)) ?_
    refine And.intro (hpL hi hL (k := 2) (by decide)) ?_
    refine callG 1 12 (by omega) (by omega) (hMM σ1 _ _ hM1 (fun σ2 u2 f i2 th eq => ?_))
    refine callG 0 0 (by omega) (by omega) (s_thrown ?_)
    rw [th]
    refine And.intro (fun _ => ?_) (fun q => absurd (by rw [ec]) q)
    have fin : ∀ y5 y6 u' v', u' ≤ u + 434 → v' ≤ v + 3470 → At 23 [.float 0, .ref 0, .ref 108, .ref 367, .int (nI i + nI 6), y5, y6, junk] [] σ2 u' v' := fun y5 y6 u' v' q1 q2 => hN y5 y6 σ2 A' u' v' (hC1.frame f hA) i2 hA q1 q2
    refine And.intro (fun _ => fin _ _ _ _ (by omega) (by omega)) (fun q => ?_)
    have e0 : c = 0 := by rw [ec] at q; exact (nI_eq (by omega) (by decide)).mp q
    refine And.intro ⟨rfl, rfl, vp_in_nI (n := 0) (N := 1) (by decide) (by decide)⟩ ?_
    refine And.intro (fun _ => fin _ _ _ _ (by omega) (by omega)) (fun q2 => absurd ?_ q2)
    rw [show Int32.toNatClampNeg (nI 0) = 0 from by decide, f.2.1 367 (by decide), h0 e0]
    rw [show u2 = y from Value.int.inj (eq e0)]
    exact lcmp_self _
  refine hAt 12 _ _ _ _ _ _ ?_
  refine And.intro (hpL hi hL (k := 1) (by decide)) ?_
  refine And.intro (hpL hi hL (k := 2) (by decide)) ?_
  show At 1529 [.float 0, .ref 0, .ref 108, .ref 367, .int (nI i), x5, x6, junk] (List.reverse [.ref 0, .int (xs (Int32.toNatClampNeg (nI i + nI 1))), .int (xs (Int32.toNatClampNeg (nI i + nI 2))), .ref 367]) σ u v
  refine hWr wr_drought (by omega) (by omega) (W_drought (by unfold T2 at hT; omega) hCC hC (fun e σ' f i2 => key 0 _ (by unfold T2 at hT; omega) i2.wL (hM.frame f hv).wL (fun _ => rL_wL0 _ _)) (fun c' hc σ' f i2 => key c' _ (by unfold T2 at hT; omega) i2 (hM.frame f hv) (fun q => by unfold T2 at hT; omega)))
theorem L_gauge (hAt : LwAt w L xs At) (hWr : LwWr w At) (hC : IC A σ) (hM : IM A σ) (hv : VA A) (hi : i + 6 ≤ L) (hL : L ≤ 3072) (hu : u + 434 ≤ 601024) (hs : v + 3470 ≤ 7293034) (hN : LwN At i u v) : At 1583 [.float 0, .ref 0, .ref 108, .ref 367, .int (nI i), x5, x6, junk] [] σ u v := by
  obtain ⟨t, c, y, A', hT, hCC, hMM, hA⟩ := D_gauge (w := w) hv (xs (Int32.toNatClampNeg (nI i + nI 1))) (xs (Int32.toNatClampNeg (nI i + nI 2))) (xs (Int32.toNatClampNeg (nI i + nI 3)))
  have key : ∀ (cc : Nat) (σ1 : Mem), cc = c → IC A' σ1 → IM A σ1 → (c = 0 → rL σ1 367 0 = y.toInt64) → At 1606 [.float 0, .ref 0, .ref 108, .ref 367, .int (nI i), x5, x6, junk] [.int (nI cc)] σ1 (u + 1) (v + 6) := by
    intro cc σ1 ec hC1 hM1 h0
    have hc2 : c ≤ 2 := by unfold T1 at hT; omega
    refine hAt 80 _ _ _ _ _ _ ?_
    refine And.intro (hpL hi hL (k := 1) (by decide)) ?_
    refine And.intro (hpL hi hL (k := 2) (by decide)) ?_
    refine And.intro (hpL hi hL (k := 3) (by decide)) ?_
    refine callG 0 0 (by omega) (by omega) (hMM σ1 _ _ hM1 (fun σ2 u2 f i2 th eq => ?_))
    refine callG 0 0 (by omega) (by omega) (s_thrown ?_)
    rw [th]
    refine And.intro (fun _ => ?_) (fun q => absurd (by rw [ec]) q)
    have fin : ∀ y5 y6 u' v', u' ≤ u + 434 → v' ≤ v + 3470 → At 23 [.float 0, .ref 0, .ref 108, .ref 367, .int (nI i + nI 6), y5, y6, junk] [] σ2 u' v' := fun y5 y6 u' v' q1 q2 => hN y5 y6 σ2 A' u' v' (hC1.frame f hA) i2 hA q1 q2
    refine And.intro (fun _ => fin _ _ _ _ (by omega) (by omega)) (fun q => ?_)
    have e0 : c = 0 := by rw [ec] at q; exact (nI_eq (by omega) (by decide)).mp q
    refine And.intro ⟨rfl, rfl, vp_in_nI (n := 0) (N := 1) (by decide) (by decide)⟩ ?_
    refine And.intro (fun _ => fin _ _ _ _ (by omega) (by omega)) (fun q2 => absurd ?_ q2)
    rw [show Int32.toNatClampNeg (nI 0) = 0 from by decide, f.2.1 367 (by decide), h0 e0]
    rw [show u2 = y from Value.int.inj (eq e0)]
    exact lcmp_self _
  refine hAt 17 _ _ _ _ _ _ ?_
  refine And.intro (hpL hi hL (k := 1) (by decide)) ?_
  refine And.intro (hpL hi hL (k := 2) (by decide)) ?_
  refine And.intro (hpL hi hL (k := 3) (by decide)) ?_
  show At 1603 [.float 0, .ref 0, .ref 108, .ref 367, .int (nI i), x5, x6, junk] (List.reverse [.ref 0, .int (xs (Int32.toNatClampNeg (nI i + nI 1))), .int (xs (Int32.toNatClampNeg (nI i + nI 2))), .int (xs (Int32.toNatClampNeg (nI i + nI 3))), .ref 367]) σ u v
  refine hWr wr_gauge (by omega) (by omega) (W_gauge (by unfold T1 at hT; omega) hCC hC (fun e σ' f i2 => key 0 _ (by unfold T1 at hT; omega) i2.wL (hM.frame f hv).wL (fun _ => rL_wL0 _ _)) (fun c' hc σ' f i2 => key c' _ (by unfold T1 at hT; omega) i2 (hM.frame f hv) (fun q => by unfold T1 at hT; omega)))
theorem L_away (hAt : LwAt w L xs At) (hC : IC A σ) (hM : IM A σ) (hv : VA A) (hi : i + 6 ≤ L) (hL : L ≤ 3072) (hu : u + 434 ≤ 601024) (hs : v + 3470 ≤ 7293034) (hN : LwN At i u v) : At 1663 [.float 0, .ref 0, .ref 108, .ref 367, .int (nI i), x5, x6, junk] [] σ u v := by
  obtain ⟨y, A', hCC, hMM, hA⟩ := E_away (w := w) hv 
  refine hAt 80 _ _ _ _ _ _ ?_
  refine callG 1 6 (by omega) (by omega) (hCC σ _ _ hC (fun _ σ1 f1 i1 => ?_) (fun E e => absurd e (by omega)))
  refine callG 0 0 (by omega) (by omega) (hMM σ1 _ _ (hM.frame f1 hv) (fun σ2 u2 f i2 th eq => ?_))
  have e2 : u2 = y := Value.int.inj (eq rfl)
  refine And.intro (fun _ => hN _ _ σ2 A' _ _ (i1.frame f hA) i2 hA (by omega) (by omega)) (fun q => absurd e2.symm q)
theorem L_explain (hAt : LwAt w L xs At) (hWr : LwWr w At) (hC : IC A σ) (hM : IM A σ) (hv : VA A) (hi : i + 6 ≤ L) (hL : L ≤ 3072) (hu : u + 434 ≤ 601024) (hs : v + 3470 ≤ 7293034) (hN : LwN At i u v) : At 1676 [.float 0, .ref 0, .ref 108, .ref 367, .int (nI i), x5, x6, junk] [] σ u v := by
  obtain ⟨t, c, y, A', hT, hCC, hMM, hA⟩ := D_explain (w := w) hv (xs (Int32.toNatClampNeg (nI i + nI 1)))
  have key : ∀ (cc : Nat) (σ1 : Mem), cc = c → IC A' σ1 → IM A σ1 → (c = 0 → rL σ1 367 0 = y.toInt64) → At 1687 [.float 0, .ref 0, .ref 108, .ref 367, .int (nI i), x5, x6, junk] [.int (nI cc)] σ1 (u + 1) (v + 6) := by
    intro cc σ1 ec hC1 hM1 h0
    have hc2 : c ≤ 2 := by unfold T1 at hT; omega
    refine hAt 80 _ _ _ _ _ _ ?_
    refine And.intro (hpL hi hL (k := 1) (by decide)) ?_
    refine callG 0 0 (by omega) (by omega) (hMM σ1 _ _ hM1 (fun σ2 u2 f i2 th eq => ?_))
    refine callG 0 0 (by omega) (by omega) (s_thrown ?_)
    rw [th]
    refine And.intro (fun _ => ?_) (fun q => absurd (by rw [ec]) q)
    have fin : ∀ y5 y6 u' v', u' ≤ u + 434 → v' ≤ v + 3470 → At 23 [.float 0, .ref 0, .ref 108, .ref 367, .int (nI i + nI 6), y5, y6, junk] [] σ2 u' v' := fun y5 y6 u' v' q1 q2 => hN y5 y6 σ2 A' u' v' (hC1.frame f hA) i2 hA q1 q2
    refine And.intro (fun _ => fin _ _ _ _ (by omega) (by omega)) (fun q => ?_)
    have e0 : c = 0 := by rw [ec] at q; exact (nI_eq (by omega) (by decide)).mp q
    refine And.intro ⟨rfl, rfl, vp_in_nI (n := 0) (N := 1) (by decide) (by decide)⟩ ?_
    refine And.intro (fun _ => fin _ _ _ _ (by omega) (by omega)) (fun q2 => absurd ?_ q2)
    rw [show Int32.toNatClampNeg (nI 0) = 0 from by decide, f.2.1 367 (by decide), h0 e0]
    rw [show u2 = y from Value.int.inj (eq e0)]
    exact lcmp_self _
  refine hAt 7 _ _ _ _ _ _ ?_
  refine And.intro (hpL hi hL (k := 1) (by decide)) ?_
  show At 1684 [.float 0, .ref 0, .ref 108, .ref 367, .int (nI i), x5, x6, junk] (List.reverse [.ref 0, .int (xs (Int32.toNatClampNeg (nI i + nI 1))), .ref 367]) σ u v
  refine hWr wr_explain (by omega) (by omega) (W_explain (by unfold T1 at hT; omega) hCC hC (fun e σ' f i2 => key 0 _ (by unfold T1 at hT; omega) i2.wL (hM.frame f hv).wL (fun _ => rL_wL0 _ _)) (fun c' hc σ' f i2 => key c' _ (by unfold T1 at hT; omega) i2 (hM.frame f hv) (fun q => by unfold T1 at hT; omega)))
theorem L_doubt (hAt : LwAt w L xs At) (hWr : LwWr w At) (hC : IC A σ) (hM : IM A σ) (hv : VA A) (hi : i + 6 ≤ L) (hL : L ≤ 3072) (hu : u + 434 ≤ 601024) (hs : v + 3470 ≤ 7293034) (hN : LwN At i u v) : At 1732 [.float 0, .ref 0, .ref 108, .ref 367, .int (nI i), x5, x6, junk] [] σ u v := by
  obtain ⟨t, c, y, A', hT, hCC, hMM, hA⟩ := D_doubt (w := w) hv (xs (Int32.toNatClampNeg (nI i + nI 1))) (xs (Int32.toNatClampNeg (nI i + nI 2)))
  have key : ∀ (cc : Nat) (σ1 : Mem), cc = c → IC A' σ1 → IM A σ1 → (c = 0 → rL σ1 367 0 = y) → At 1749 [.float 0, .ref 0, .ref 108, .ref 367, .int (nI i), x5, x6, junk] [.int (nI cc)] σ1 (u + 1) (v + 6) := by
    intro cc σ1 ec hC1 hM1 h0
    have hc2 : c ≤ 2 := by unfold T2 at hT; omega
    refine hAt 80 _ _ _ _ _ _ ?_
    refine And.intro (hpL hi hL (k := 1) (by decide)) ?_
    refine And.intro (hpL hi hL (k := 2) (by decide)) ?_
    refine callG 0 0 (by omega) (by omega) (hMM σ1 _ _ hM1 (fun σ2 u2 f i2 th eq => ?_))
    refine callG 0 0 (by omega) (by omega) (s_thrown ?_)
    rw [th]
    refine And.intro (fun _ => ?_) (fun q => absurd (by rw [ec]) q)
    have fin : ∀ y5 y6 u' v', u' ≤ u + 434 → v' ≤ v + 3470 → At 23 [.float 0, .ref 0, .ref 108, .ref 367, .int (nI i + nI 6), y5, y6, junk] [] σ2 u' v' := fun y5 y6 u' v' q1 q2 => hN y5 y6 σ2 A' u' v' (hC1.frame f hA) i2 hA q1 q2
    refine And.intro (fun _ => fin _ _ _ _ (by omega) (by omega)) (fun q => ?_)
    have e0 : c = 0 := by rw [ec] at q; exact (nI_eq (by omega) (by decide)).mp q
    refine And.intro ⟨rfl, rfl, vp_in_nI (n := 0) (N := 1) (by decide) (by decide)⟩ ?_
    refine And.intro (fun _ => fin _ _ _ _ (by omega) (by omega)) (fun q2 => absurd ?_ q2)
    rw [show Int32.toNatClampNeg (nI 0) = 0 from by decide, f.2.1 367 (by decide), h0 e0]
    rw [show u2 = y from Value.long.inj (eq e0)]
    exact lcmp_self _
  refine hAt 12 _ _ _ _ _ _ ?_
  refine And.intro (hpL hi hL (k := 1) (by decide)) ?_
  refine And.intro (hpL hi hL (k := 2) (by decide)) ?_
  show At 1746 [.float 0, .ref 0, .ref 108, .ref 367, .int (nI i), x5, x6, junk] (List.reverse [.ref 0, .int (xs (Int32.toNatClampNeg (nI i + nI 1))), .int (xs (Int32.toNatClampNeg (nI i + nI 2))), .ref 367]) σ u v
  refine hWr wr_doubt (by omega) (by omega) (W_doubt (by unfold T2 at hT; omega) hCC hC (fun e σ' f i2 => key 0 _ (by unfold T2 at hT; omega) i2.wL (hM.frame f hv).wL (fun _ => rL_wL0 _ _)) (fun c' hc σ' f i2 => key c' _ (by unfold T2 at hT; omega) i2 (hM.frame f hv) (fun q => by unfold T2 at hT; omega)))
theorem L_worst (hAt : LwAt w L xs At) (hWr : LwWr w At) (hC : IC A σ) (hM : IM A σ) (hv : VA A) (hi : i + 6 ≤ L) (hL : L ≤ 3072) (hu : u + 434 ≤ 601024) (hs : v + 3470 ≤ 7293034) (hN : LwN At i u v) : At 1799 [.float 0, .ref 0, .ref 108, .ref 367, .int (nI i), x5, x6, junk] [] σ u v := by
  obtain ⟨t, c, y, A', hT, hCC, hMM, hA⟩ := D_worst (w := w) hv (xs (Int32.toNatClampNeg (nI i + nI 1))) (xs (Int32.toNatClampNeg (nI i + nI 2)))
  have key : ∀ (cc : Nat) (σ1 : Mem), cc = c → IC A' σ1 → IM A σ1 → (c = 0 → rL σ1 367 0 = y.toInt64) → At 1816 [.float 0, .ref 0, .ref 108, .ref 367, .int (nI i), x5, x6, junk] [.int (nI cc)] σ1 (u + 1) (v + 6) := by
    intro cc σ1 ec hC1 hM1 h0
    have hc2 : c ≤ 2 := by unfold T2 at hT; omega
    refine hAt 80 _ _ _ _ _ _ ?_
    refine And.intro (hpL hi hL (k := 1) (by decide)) ?_
    refine And.intro (hpL hi hL (k := 2) (by decide)) ?_
    refine callG 0 0 (by omega) (by omega) (hMM σ1 _ _ hM1 (fun σ2 u2 f i2 th eq => ?_))
    refine callG 0 0 (by omega) (by omega) (s_thrown ?_)
    rw [th]
    refine And.intro (fun _ => ?_) (fun q => absurd (by rw [ec]) q)
    have fin : ∀ y5 y6 u' v', u' ≤ u + 434 → v' ≤ v + 3470 → At 23 [.float 0, .ref 0, .ref 108, .ref 367, .int (nI i + nI 6), y5, y6, junk] [] σ2 u' v' := fun y5 y6 u' v' q1 q2 => hN y5 y6 σ2 A' u' v' (hC1.frame f hA) i2 hA q1 q2
    refine And.intro (fun _ => fin _ _ _ _ (by omega) (by omega)) (fun q => ?_)
    have e0 : c = 0 := by rw [ec] at q; exact (nI_eq (by omega) (by decide)).mp q
    refine And.intro ⟨rfl, rfl, vp_in_nI (n := 0) (N := 1) (by decide) (by decide)⟩ ?_
    refine And.intro (fun _ => fin _ _ _ _ (by omega) (by omega)) (fun q2 => absurd ?_ q2)
    rw [show Int32.toNatClampNeg (nI 0) = 0 from by decide, f.2.1 367 (by decide), h0 e0]
    rw [show u2 = y from Value.int.inj (eq e0)]
    exact lcmp_self _
  refine hAt 12 _ _ _ _ _ _ ?_
  refine And.intro (hpL hi hL (k := 1) (by decide)) ?_
  refine And.intro (hpL hi hL (k := 2) (by decide)) ?_
  show At 1813 [.float 0, .ref 0, .ref 108, .ref 367, .int (nI i), x5, x6, junk] (List.reverse [.ref 0, .int (xs (Int32.toNatClampNeg (nI i + nI 1))), .int (xs (Int32.toNatClampNeg (nI i + nI 2))), .ref 367]) σ u v
  refine hWr wr_worst (by omega) (by omega) (W_worst (by unfold T2 at hT; omega) hCC hC (fun e σ' f i2 => key 0 _ (by unfold T2 at hT; omega) i2.wL (hM.frame f hv).wL (fun _ => rL_wL0 _ _)) (fun c' hc σ' f i2 => key c' _ (by unfold T2 at hT; omega) i2 (hM.frame f hv) (fun q => by unfold T2 at hT; omega)))
theorem L_image (hAt : LwAt w L xs At) (hC : IC A σ) (hM : IM A σ) (hv : VA A) (hi : i + 6 ≤ L) (hL : L ≤ 3072) (hu : u + 434 ≤ 601024) (hs : v + 3470 ≤ 7293034) (hN : LwN At i u v) : At 1867 [.float 0, .ref 0, .ref 108, .ref 367, .int (nI i), x5, x6, junk] [] σ u v := by
  obtain ⟨y, A', hCC, hMM, hA⟩ := E_image (w := w) hv 
  refine hAt 80 _ _ _ _ _ _ ?_
  refine callG 1 6 (by omega) (by omega) (hCC σ _ _ hC (fun _ σ1 f1 i1 => ?_) (fun E e => absurd e (by omega)))
  refine callG 0 0 (by omega) (by omega) (hMM σ1 _ _ (hM.frame f1 hv) (fun σ2 u2 f i2 th eq => ?_))
  have e2 : u2 = y := Value.int.inj (eq rfl)
  refine And.intro (fun _ => hN _ _ σ2 A' _ _ (i1.frame f hA) i2 hA (by omega) (by omega)) (fun q => absurd e2.symm q)
theorem L_restore (hAt : LwAt w L xs At) (hC : IC A σ) (hM : IM A σ) (hv : VA A) (hi : i + 6 ≤ L) (hL : L ≤ 3072) (hu : u + 434 ≤ 601024) (hs : v + 3470 ≤ 7293034) (hN : LwN At i u v) : At 1880 [.float 0, .ref 0, .ref 108, .ref 367, .int (nI i), x5, x6, junk] [] σ u v := by
  obtain ⟨y, A', hCC, hMM, hA⟩ := E_restore (w := w) hv 
  refine hAt 80 _ _ _ _ _ _ ?_
  refine callG 1 6 (by omega) (by omega) (hCC σ _ _ hC (fun _ σ1 f1 i1 => ?_) (fun E e => absurd e (by omega)))
  refine callG 0 0 (by omega) (by omega) (hMM σ1 _ _ (hM.frame f1 hv) (fun σ2 u2 f i2 th eq => ?_))
  have e2 : u2 = y := Value.int.inj (eq rfl)
  refine And.intro (fun _ => hN _ _ σ2 A' _ _ (i1.frame f hA) i2 hA (by omega) (by omega)) (fun q => absurd e2.symm q)
theorem L_count (hAt : LwAt w L xs At) (hC : IC A σ) (hM : IM A σ) (hv : VA A) (hi : i + 6 ≤ L) (hL : L ≤ 3072) (hu : u + 434 ≤ 601024) (hs : v + 3470 ≤ 7293034) (hN : LwN At i u v) : At 1893 [.float 0, .ref 0, .ref 108, .ref 367, .int (nI i), x5, x6, junk] [] σ u v := by
  obtain ⟨y, A', hCC, hMM, hA⟩ := E_count (w := w) hv (xs (Int32.toNatClampNeg (nI i + nI 1)))
  refine hAt 80 _ _ _ _ _ _ ?_
  refine And.intro (hpL hi hL (k := 1) (by decide)) ?_
  refine callG 1 6 (by omega) (by omega) (hCC σ _ _ hC (fun _ σ1 f1 i1 => ?_) (fun E e => absurd e (by omega)))
  refine And.intro (hpL hi hL (k := 1) (by decide)) ?_
  refine callG 0 0 (by omega) (by omega) (hMM σ1 _ _ (hM.frame f1 hv) (fun σ2 u2 f i2 th eq => ?_))
  have e2 : u2 = y := Value.int.inj (eq rfl)
  refine And.intro (fun _ => hN _ _ σ2 A' _ _ (i1.frame f hA) i2 hA (by omega) (by omega)) (fun q => absurd e2.symm q)
end LWC
