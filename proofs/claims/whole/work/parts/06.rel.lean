/-! THE MACHINE BEHIND THE PURE ONE: how a heap holds a memory; what a method's contract is -/
/-- class ids and slots, array class ids (0 int[], 1 boolean[], 2 long[], 3 int[][], 4 boolean[][], 5 Book[]), where new cells begin, the heap below, old cells by tag, the launch, the script -/
abbrev Wd : Type := va_G × (Nat → ClassId) × Nat × Heap × (Nat → Nat) × Launch × Nat × (Nat → Int32)
def wG (w : Wd) : va_G := w.1
def wA (w : Wd) : Nat → ClassId := w.2.1
def wN (w : Wd) : Nat := w.2.2.1
def wH (w : Wd) : Heap := w.2.2.2.1
def wS (w : Wd) : Nat → Nat := w.2.2.2.2.1
def wLa (w : Wd) : Launch := w.2.2.2.2.2.1
def wL1 (w : Wd) : Nat := w.2.2.2.2.2.2.1
def wXs (w : Wd) : Nat → Int32 := w.2.2.2.2.2.2.2
def fre (w : Wd) : Addr → Prop := fun q => wN w ≤ q
def cv (w : Wd) (x : AV) : Value := match x with
  | .ref a => .ref (wN w + a)
  | .float t => .ref (wS w t.toNat)
  | v => v
def rV (w : Wd) (r : Nat) : Value := match r with
  | 0 => .null
  | q + 1 => .ref (wN w + q)
def fV (w : Wd) (b : Bool) (σ : Mem) (ci a k : Nat) : Value := match ow_fc ci k with
  | 0 => .int (rI σ a k)
  | 1 => .long (rL σ a k)
  | 2 => cond (asd b σ a k) (rV w (rS a k)) .null
  | _ => cond (asd b σ a k) (.int (nI (iSn a k))) (.int 0)
def cOK (w : Wd) (b : Bool) (σ : Mem) (a : Nat) (H : Heap) : Prop :=
  (kind σ a < 12 → t_OB (wN w + a) ((wG w).1 (kind σ a)) (ow_N (kind σ a)) ((wG w).2 (kind σ a)) H (fV w b σ (kind σ a) a)) ∧
  (kind σ a = 12 → H[wN w + a]? = some (arrV (wA w 0) (aLen σ a) (fun j => .int (rI σ a j)))) ∧
  (kind σ a = 13 → H[wN w + a]? = some (arrV (wA w 1) (aLen σ a) (fun j => .int (rI σ a j)))) ∧
  (kind σ a = 14 → H[wN w + a]? = some (arrV (wA w 2) (aLen σ a) (fun j => .long (rL σ a j)))) ∧
  (kind σ a = 15 → H[wN w + a]? = some (arrV (wA w 3) (aLen σ a) (fun j => .ref (wN w + (a + 1 + j))))) ∧
  (kind σ a = 16 → H[wN w + a]? = some (arrV (wA w 4) (aLen σ a) (fun j => .ref (wN w + (a + 1 + j))))) ∧
  (kind σ a = 17 → H[wN w + a]? = some (arrV (wA w 5) (aLen σ a) (fun j => cond (asd b σ a j) (rV w (rS a j)) .null)))
def RelH (w : Wd) (b : Bool) (σ : Mem) (H : Heap) : Prop :=
  H.size = wN w + mN σ ∧ (∀ q, q < wN w → H[q]? = (wH w)[q]?) ∧ (b = true → ow_n0 ≤ mN σ) ∧ (∀ p ∈ mA σ, p.1 < mN σ) ∧ (b = false → mN σ ≤ ow_n0) ∧ ∀ a, a < mN σ → cOK w b σ a H
abbrev ow_tys (w : Wd) : List (ClassId × FieldType) := [(wA w 0, .int), (wA w 1, .boolean), (wA w 2, .long), (wA w 3, .array .int), (wA w 4, .array .boolean), (wA w 5, .object "OwnedClouds$Book")]
/-- arrays of arrays can be made -/
def ow_AO (t : FieldType) (U : State) : Prop := (Cond.arrayOver (.array t)).before #[] U = true
theorem ow_AO.moved {t : FieldType} {u U : State} (hvm : u.vm.Alike U.vm) (h : ow_AO t u) : ow_AO t U := by
  obtain ⟨comp, cA, kA, g1, g2, g3, g4, g5⟩ := arrayOverA_spec h
  obtain ⟨kB, gB, eB⟩ := hvm.2.2 _ _ g3
  have e2 : (U.vm.classes.findIdx? fun (z : Class) => match z.kind with | .array component _ => component == comp | _ => false) = some cA := by
    have h1 := va_idx_bare U.vm comp
    have h2 := va_idx_bare u.vm comp
    first
      | (rw [hvm.bare_eq] at h2; exact h1.symm.trans (h2.trans g2))
      | (rw [← hvm.bare_eq] at h2; exact h1.symm.trans (h2.trans g2))
  have e4 : kB.kind = .array comp (.array t) := by rw [eB]; exact g4
  have e1 : U.vm.findClass (FieldType.array t).toString = some comp := by rw [hvm.findClass]; exact g1
  have e5 : U.vm.findClass ("[" ++ (FieldType.array t).toString) = some cA := by rw [hvm.findClass]; exact g5
  unfold ow_AO Cond.before Cond.holds
  simp only [Cond.value]
  rw [e1, Option.bind_some]
  refine (congrArg (fun o : Option Nat => (o.bind (fun c => (U.vm.classes[c]?).map fun (k : Class) => match k.kind with | .array _ ty => decide (ty = FieldType.array t) && decide (U.vm.findClass ("[" ++ (FieldType.array t).toString) = some c) | _ => false) == some true)) e2).trans ?_
  simp [gB, e4, e5]
/-- the old cells that are read: texts, statics -/
def KS (w : Wd) (U : State) : Prop := vk_S 15 ow_sl ow_sb (fun i => wS w (i + 1)) (fun i => wS w (100 + i)) (fre w) U (wH w) ∧ va_Z "java/lang/String" "COMPACT_STRINGS" "Z" (.int 1) (fre w) U (wH w) ∧ va_Zq "jdk/internal/util/Preconditions" "SIOOBE_FORMATTER" "Ljava/util/function/BiFunction;" (fre w) U (wH w) ∧
  vx_Zq Bundle.tN "UNASSIGNED_STACK" Bundle.steD (fre w) U (wH w) ∧ vx_Zq Bundle.tN "SUPPRESSED_SENTINEL" Bundle.listD (fre w) U (wH w) ∧ ∀ z ∈ ow_strs, vk_R (ow_on z.1) z.2.1 (ow_tx z.2.2) (wS w z.2.2) U
theorem KS.moved {w : Wd} {s U : State} (h : KS w s) (hW : s.WarmedH U.vm) : KS w U :=
  ⟨h.1.moved hW.alike, h.2.1.moved hW.alike, h.2.2.1.moved hW.alike, h.2.2.2.1.moved hW.alike, h.2.2.2.2.1.moved hW.alike, fun z hz => (h.2.2.2.2.2 z hz).warm hW⟩
theorem KS.same {w : Wd} {s U : State} (h : KS w s) (hv : s.vm = U.vm) : KS w U := by
  have ha : s.vm.Alike U.vm := by rw [hv]; exact Vm.Alike.refl _
  exact ⟨h.1.moved ha, h.2.1.moved ha, h.2.2.1.moved ha, h.2.2.2.1.moved ha, h.2.2.2.2.1.moved ha, fun z hz => (h.2.2.2.2.2 z hz).same hv.symm⟩
def ow_ex (k : Nat) : String := match k with
  | 0 => "java/lang/IllegalArgumentException"
  | 1 => "java/util/NoSuchElementException"
  | _ => "java/lang/IndexOutOfBoundsException"
def ow_dcl : List MethodName := [Bundle.initS "java/lang/RuntimeException", Bundle.initS "java/lang/Exception", Bundle.initS Bundle.tN]
/-- what throwing and catching needs -/
def KX (w : Wd) (U : State) : Prop := (wLa w).stackTraces = false ∧ (∀ k, k < 3 → va_Nw (.castable (ow_ex k) (ow_ex k)) U) ∧ (∀ y ∈ ow_dcl, va_Nw (.declares y) U) ∧ va_Nc (ow_ex 0) (ow_ex 1) U ∧ va_Nc (ow_ex 0) (ow_ex 2) U
theorem KX.moved {w : Wd} {s U : State} (h : KX w s) (hW : s.WarmedH U.vm) : KX w U :=
  ⟨h.1, fun k hk => va_Nw.warmC hW (h.2.1 k hk), fun y hy => va_Nw.warmD hW (h.2.2.1 y hy), h.2.2.2.1.moved hW.alike, h.2.2.2.2.moved hW.alike⟩
theorem KX.same {w : Wd} {s U : State} (h : KX w s) (hv : s.vm = U.vm) : KX w U := by
  have ha : s.vm.Alike U.vm := by rw [hv]; exact Vm.Alike.refl _
  exact ⟨h.1, fun k hk => va_Nw.same rfl hv (h.2.1 k hk), fun y hy => va_Nw.same rfl hv (h.2.2.1 y hy), h.2.2.2.1.moved ha, h.2.2.2.2.moved ha⟩
/-- what of the tables doesn't ride in the words -/
def KF (w : Wd) (U : State) : Prop :=
  va_K (wG w) ow_cl (ow_tys w) U ∧ (∀ o, o < 14 → ∀ p ∈ ow_f1 o, va_Nw (ow_nwF o p) U) ∧ (∀ o, o < 14 → ∀ p ∈ ow_g1 o, va_Nw (ow_nwM o p) U) ∧ ow_AO .int U ∧ ow_AO .boolean U ∧ va_AO "OwnedClouds$Book" U ∧ KS w U ∧ KX w U
def Rm (d kc ks : Nat) : Room := { frames := d, cells := kc, slots := ks, locals := 40 * d }
def Pcw (w : Wd) (b : Bool) (σ : Mem) (as : List AV) : Array Value → State → Prop := fun v U => v = (as.map (cv w)).toArray ∧ RelH w b σ U.heap ∧ KF w U
def Qcw (w : Wd) (b : Bool) (P : Option AV → Mem → Prop) : Array Value → State → Outcome → State → Prop := fun _ _ o t => ∃ r σ', o = .returned (r.map (cv w)) ∧ RelH w b σ' t.heap ∧ P r σ'
def XCw (w : Wd) (b : Bool) (X : Nat → Mem → Prop) : String → State → State → Prop := fun E _ t => ∃ k σ', k < 3 ∧ E = ow_ex k ∧ RelH w b σ' t.heap ∧ X k σ'
def wsT (m : Nat) : List Cond := Cond.code (ow_y m) (ow_b m) (ow_x m) (ow_r m) :: ow_T
/-- method m, called on these values over this memory, comes back as P says, or throws as X says: at most kc new cells of ks slots, d frames deep -/
def Ret (w : Wd) (b : Bool) (d kc ks m : Nat) (as : List AV) (σ : Mem) (P : Option AV → Mem → Prop) (X : Nat → Mem → Prop) : Prop :=
  vx_Met (wLa w) (ow_y m) (wsT m) (Rm d kc ks) (Pcw w b σ as) (Qcw w b P) (XCw w b X) kc ks (fre w)
theorem Ret.mono {w : Wd} {b : Bool} {d kc ks m : Nat} {as : List AV} {σ : Mem} {P P' : Option AV → Mem → Prop} {X X' : Nat → Mem → Prop} (h : Ret w b d kc ks m as σ P X) (hP : ∀ r σ', P r σ' → P' r σ') (hX : ∀ k σ', X k σ' → X' k σ') : Ret w b d kc ks m as σ P' X' := by
  intro p e ha hc hk s m args below hf happ hpre hK
  obtain ⟨n, o, h1, h2, h3, h4⟩ := h p e ha hc hk s m args below hf happ hpre hK
  refine ⟨n, o, h1, h2, h3, ?_⟩
  rcases h4 with ⟨⟨r, σ', e1, e2, e3⟩, h5⟩ | ⟨q, e0, E, ce, L, ⟨k, σ', k1, k2, k3, k4⟩, h6⟩
  · exact Or.inl ⟨⟨r, σ', e1, e2, hP r σ' e3⟩, h5⟩
  · exact Or.inr ⟨q, e0, E, ce, L, ⟨k, σ', k1, k2, k3, hX k σ' k4⟩, h6⟩
/-! the heap's laws -/
theorem updV_self (f : Nat → Value) (k : Nat) (x : Value) : updV f k x k = x := by simp [updV]
theorem updV_ne (f : Nat → Value) {k j : Nat} (x : Value) (h : j ≠ k) : updV f k x j = f j := by simp [updV, h]
theorem lv_lt' {σ : Mem} {b : Bool} {a : Nat} {w : Wd} {H : Heap} (hR : RelH w b σ H) (h : lvB b σ a = true) : a < mN σ := by
  unfold lvB at h
  cases hb : b with
  | false => simp [hb, Nat.blt] at h; omega
  | true =>
    have := hR.2.2.1 hb
    by_cases h1 : Nat.blt a ow_n0 = true
    · simp [Nat.blt] at h1; omega
    · simp [hb, h1, Nat.blt] at h; omega
theorem KF.moved {w : Wd} {s U : State} (h : KF w s) (hW : s.WarmedH U.vm) : KF w U :=
  ⟨h.1.moved hW.alike, fun o ho p hp => va_Nw.warmF hW (h.2.1 o ho p hp), fun o ho p hp => va_Nw.warmM hW (h.2.2.1 o ho p hp), h.2.2.2.1.moved hW.alike, h.2.2.2.2.1.moved hW.alike, h.2.2.2.2.2.1.moved hW.alike, h.2.2.2.2.2.2.1.moved hW, h.2.2.2.2.2.2.2.moved hW⟩
theorem KF.same {w : Wd} {s U : State} (h : KF w s) (hv : s.vm = U.vm) : KF w U :=
  ⟨h.1.moved (by rw [hv]; exact Vm.Alike.refl _), fun o ho p hp => va_Nw.same rfl hv (h.2.1 o ho p hp), fun o ho p hp => va_Nw.same rfl hv (h.2.2.1 o ho p hp), h.2.2.2.1.moved (by rw [hv]; exact Vm.Alike.refl _), h.2.2.2.2.1.moved (by rw [hv]; exact Vm.Alike.refl _), h.2.2.2.2.2.1.moved (by rw [hv]; exact Vm.Alike.refl _), h.2.2.2.2.2.2.1.same hv, h.2.2.2.2.2.2.2.same hv⟩
theorem Pcw.blind {w : Wd} {b : Bool} {σ : Mem} {as : List AV} : FrameBlind (Pcw w b σ as) := fun _ _ _ _ h => ⟨h.1, h.2.1, h.2.2.same rfl⟩
