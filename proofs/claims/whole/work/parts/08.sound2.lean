/-! SOUNDNESS, second part: writes, arrays, new cells -/
theorem vp_lt {i : Int32} {n : Nat} (h : vp_in i n) : i.toNatClampNeg < n := Nat.not_le.mp fun q => h (Or.inr q)
theorem cOK_12 {w : Wd} {b : Bool} {σ : Mem} {a : Nat} {H : Heap} (hk : kind σ a = 12) (h : H[wN w + a]? = some (arrV (wA w 0) (aLen σ a) (fun j => .int (rI σ a j)))) : cOK w b σ a H := by
  unfold cOK; rw [hk]; exact ⟨fun q => absurd q (by decide), fun _ => h, fun q => absurd q (by decide), fun q => absurd q (by decide), fun q => absurd q (by decide), fun q => absurd q (by decide), fun q => absurd q (by decide)⟩
theorem cOK_13 {w : Wd} {b : Bool} {σ : Mem} {a : Nat} {H : Heap} (hk : kind σ a = 13) (h : H[wN w + a]? = some (arrV (wA w 1) (aLen σ a) (fun j => .int (rI σ a j)))) : cOK w b σ a H := by
  unfold cOK; rw [hk]; exact ⟨fun q => absurd q (by decide), fun q => absurd q (by decide), fun _ => h, fun q => absurd q (by decide), fun q => absurd q (by decide), fun q => absurd q (by decide), fun q => absurd q (by decide)⟩
theorem cOK_14 {w : Wd} {b : Bool} {σ : Mem} {a : Nat} {H : Heap} (hk : kind σ a = 14) (h : H[wN w + a]? = some (arrV (wA w 2) (aLen σ a) (fun j => .long (rL σ a j)))) : cOK w b σ a H := by
  unfold cOK; rw [hk]; exact ⟨fun q => absurd q (by decide), fun q => absurd q (by decide), fun q => absurd q (by decide), fun _ => h, fun q => absurd q (by decide), fun q => absurd q (by decide), fun q => absurd q (by decide)⟩
theorem cOK_15 {w : Wd} {b : Bool} {σ : Mem} {a : Nat} {H : Heap} (hk : kind σ a = 15) (h : H[wN w + a]? = some (arrV (wA w 3) (aLen σ a) (fun j => .ref (wN w + (a + 1 + j))))) : cOK w b σ a H := by
  unfold cOK; rw [hk]; exact ⟨fun q => absurd q (by decide), fun q => absurd q (by decide), fun q => absurd q (by decide), fun q => absurd q (by decide), fun _ => h, fun q => absurd q (by decide), fun q => absurd q (by decide)⟩
theorem cOK_16 {w : Wd} {b : Bool} {σ : Mem} {a : Nat} {H : Heap} (hk : kind σ a = 16) (h : H[wN w + a]? = some (arrV (wA w 4) (aLen σ a) (fun j => .ref (wN w + (a + 1 + j))))) : cOK w b σ a H := by
  unfold cOK; rw [hk]; exact ⟨fun q => absurd q (by decide), fun q => absurd q (by decide), fun q => absurd q (by decide), fun q => absurd q (by decide), fun q => absurd q (by decide), fun _ => h, fun q => absurd q (by decide)⟩
theorem cOK_17 {w : Wd} {b : Bool} {σ : Mem} {a : Nat} {H : Heap} (hk : kind σ a = 17) (h : H[wN w + a]? = some (arrV (wA w 5) (aLen σ a) (fun j => cond (asd b σ a j) (rV w (rS a j)) .null))) : cOK w b σ a H := by
  unfold cOK; rw [hk]; exact ⟨fun q => absurd q (by decide), fun q => absurd q (by decide), fun q => absurd q (by decide), fun q => absurd q (by decide), fun q => absurd q (by decide), fun q => absurd q (by decide), fun _ => h⟩
theorem cOK_ob {w : Wd} {b : Bool} {σ : Mem} {a : Nat} {H : Heap} (hk : kind σ a < 12) (h : t_OB (wN w + a) ((wG w).1 (kind σ a)) (ow_N (kind σ a)) ((wG w).2 (kind σ a)) H (fV w b σ (kind σ a) a)) : cOK w b σ a H := by
  unfold cOK; exact ⟨fun _ => h, fun q => absurd q (by omega), fun q => absurd q (by omega), fun q => absurd q (by omega), fun q => absurd q (by omega), fun q => absurd q (by omega), fun q => absurd q (by omega)⟩
theorem nbq (x y : Nat) : Nat.beq x y = decide (x = y) := by
  cases h : Nat.beq x y with
  | true => simp [Nat.eq_of_beq_eq_true h]
  | false => simp [Nat.ne_of_beq_eq_false h]
theorem memb_cons (q : Nat × Nat) (l : List (Nat × Nat)) (a k : Nat) : memb (q :: l) a k = (decide (q.1 = a ∧ q.2 = k) || memb l a k) := by
  have e : (Nat.beq q.1 a && Nat.beq q.2 k) = decide (q.1 = a ∧ q.2 = k) := by
    rw [nbq, nbq]
    by_cases h1 : q.1 = a <;> by_cases h2 : q.2 = k <;> simp [h1, h2]
  simp only [memb, e]
  by_cases h : q.1 = a ∧ q.2 = k <;> simp [h]
theorem memb_lt {l : List (Nat × Nat)} {n a k : Nat} (h : ∀ p ∈ l, p.1 < n) (ha : n ≤ a) : memb l a k = false := by
  induction l with
  | nil => rfl
  | cons q l ih =>
    rw [memb_cons, ih (fun p hp => h p (List.mem_cons_of_mem _ hp))]
    have := h q List.mem_cons_self
    have hne : ¬ (q.1 = a ∧ q.2 = k) := fun e => by omega
    simp [hne]
theorem asd_sA (σ : Mem) (a k c j : Nat) : asd false (sA σ a k) c j = (decide (a = c ∧ k = j) || asd false σ c j) := by
  unfold asd
  show memb ((a, k) :: mA σ) c j = _
  rw [memb_cons]; rfl
section SND2
variable {w : Wd} {b : Bool} {p : Program} {l : Launch} {e : Env} {R : Room} {s : State} {m : MethodId} {args : Array Value} {below : List Frame} {meth : Method} {c : Code} {Q : State → Prop} {own nL KC KS : Nat} {bytes : ByteArray}
variable {pc u v : Nat} {ls st : List AV} {σ : Mem}
/-- an object's field is set: the heap behind it -/
theorem s_ob_put {H H' : Heap} (hR : RelH w b σ H) {q ci k : Nat} {x : Value} {σ' : Mem} {cell : Cell} (hlt : q < mN σ) (h0 : q < ow_n0) (hkd : kS q = ci) (hci : ci < 12) (hk : k < ow_N ci) (q2 : cell.cls = (wG w).1 ci) (q3 : cell.vm = .none) (q4 : ∀ k, k < ow_N ci → cell.slots[(wG w).2 ci k]? = some (fV w b σ ci q k))
    (hap : ∀ x y, x < ow_N ci → y < ow_N ci → x ≠ y → (wG w).2 ci x ≠ (wG w).2 ci y) (e1 : H'[wN w + q]? = some (cell.setSlot ((wG w).2 ci k) x)) (z : H'.size = H.size) (o : ∀ y, y ≠ wN w + q → H'[y]? = H[y]?)
    (hn : mN σ' = mN σ) (hd : ∀ a, mD σ' a = mD σ a) (hi : ∀ a, a ≠ q → ∀ j, rI σ' a j = rI σ a j) (hL : ∀ a, a ≠ q → ∀ j, rL σ' a j = rL σ a j) (ha : ∀ a, a ≠ q → ∀ j, asd b σ' a j = asd b σ a j) (hA : ∀ p ∈ mA σ', p.1 < mN σ)
    (hx : ∀ j, fV w b σ' ci q j = if j = k then x else fV w b σ ci q j) : RelH w b σ' H' := by
  have hks : kind σ' q = ci := by rw [kind_s h0]; exact hkd
  refine hR.upd hlt z o hn hd hi hL ha hA (cOK_ob (by rw [hks]; exact hci) ?_)
  rw [hks]
  refine t_OB.to (V := updV (fV w b σ ci q) k x) ⟨_, e1, q2, q3, t_set q4 hap hk x⟩ (fun j _ => ?_)
  rw [hx j]
  unfold updV
  by_cases h : j = k <;> simp [h]
theorem s_put (C : Cx w p s m args meth c own bytes nL) {q ci k i : Nat} {x : AV} {σ' : Mem} {ty : FieldType} (ho : oOK b σ q ci = true) (hci : ci < 12) (hk : k < ow_N ci) (hlk : (i, ci, k) ∈ ow_f0 own) (hown : own < 14) (hfin : (ow_F ci k).2.2.2 = false)
    (hty : ow_ty ci k = ty) (hnar : narrow ty (cv w x) = cv w x) (hfit : fits ty (cv w x) = true)
    (hn : mN σ' = mN σ) (hD : ∀ a, mD σ' a = mD σ a) (hi : ∀ a, a ≠ q → ∀ j, rI σ' a j = rI σ a j) (hL : ∀ a, a ≠ q → ∀ j, rL σ' a j = rL σ a j) (ha : mA σ' = mA σ) (hx : ∀ j, fV w b σ' ci q j = if j = k then cv w x else fV w b σ ci q j)
    (hd : decode bytes pc = .ok (.putfield i, 3)) (kk : AtM w b p l e R s m args below meth c Q nL KC KS (pc + 3) ls st σ' u v) : AtM w b p l e R s m args below meth c Q nL KC KS pc ls (x :: .ref q :: st) σ u v := by
  intro hu hv H lsM locs hR hLR hf
  obtain ⟨hx', hb, hml, hfo, hts, hKF, -⟩ := C
  obtain ⟨o1, o2, o3⟩ := oOK_spec ho
  obtain ⟨cell, q1, q2, q3, q4⟩ := s_cell hR ho hci
  obtain ⟨hS, hfc, kC, hkC, hkind⟩ := hKF.1.1 ci _ (ow_clk ci hci)
  obtain ⟨cf, kf, fi, f, hi', hsl⟩ := hS k hk
  have hst := (u_facts hfc hkC (u_lays hts (ow_in ci hci) hk) hi').1
  have hap := va_apart (own := ow_on own) hts (ow_in ci hci) (ow_ty ci) (ow_tyk ci hci) (ow_nm ci hci) hKF.1 (ow_clk ci hci)
  have hlay := hts _ (ow_in ci hci _ (u_in_lay hk))
  unfold u_lay at hlay
  rw [if_neg (by rw [hfin]; decide)] at hlay
  have h6 := u_store hfc hkC hkind hlay hi' ((ow_tyk ci hci k hk).trans (congrArg some hty)) hnar hfit
  refine W.putK hx' hb (f := f) ⟨hfo, hts _ (ow_fl0 own hown _ hlk), ⟨_, _, _, hi'⟩, hst⟩ (by rw [q2]; exact h6) q1 q3 (by rw [hsl]; exact k2_hasslot (q4 k hk)) rfl rfl hd fun H' e1 e2 e3 => ?_
  rw [hsl] at e1 ⊢
  refine kk hu hv H' lsM _ (s_ob_put hR (lv_lt' hR o1) o2 o3 hci hk q2 q3 q4 hap e1 e2 e3 hn hD hi hL (fun a _ j => by unfold asd; rw [ha]) (by rw [ha]; exact hR.2.2.2.1) hx) hLR ?_
  intro z hz
  rcases List.mem_append.mp hz with h | h
  · exact hf z h
  · rw [List.mem_singleton] at h; rw [h]; exact Nat.le_add_right _ _
theorem s_putF (C : Cx w p s m args meth c own bytes nL) (hin : meth.name = "<init>") {q ci k i : Nat} {x : AV} {ty : FieldType} (ho : oOK false σ q ci = true) (hci : ci < 12) (hk : k < ow_N ci) (hlk : (i, ci, k) ∈ ow_f0 own) (hown : own < 14) (hoc : ow_on own = ow_on ci) (hfin : (ow_F ci k).2.2.2 = true)
    (hty : ow_ty ci k = ty) (hnar : narrow ty (cv w x) = cv w x) (hfit : fits ty (cv w x) = true) (hx : ∀ j, fV w false (sA σ q k) ci q j = if j = k then cv w x else fV w false σ ci q j)
    (hd : decode bytes pc = .ok (.putfield i, 3)) (kk : AtM w false p l e R s m args below meth c Q nL KC KS (pc + 3) ls st (sA σ q k) u v) : AtM w false p l e R s m args below meth c Q nL KC KS pc ls (x :: .ref q :: st) σ u v := by
  intro hu hv H lsM locs hR hLR hf
  obtain ⟨hx', hb, hml, hfo, hts, hKF, -⟩ := C
  obtain ⟨o1, o2, o3⟩ := oOK_spec ho
  obtain ⟨cell, q1, q2, q3, q4⟩ := s_cell hR ho hci
  obtain ⟨hS, hfc, kC, hkC, hkind⟩ := hKF.1.1 ci _ (ow_clk ci hci)
  obtain ⟨cf, kf, fi, f, hi', hsl⟩ := hS k hk
  have hst := (u_facts hfc hkC (u_lays hts (ow_in ci hci) hk) hi').1
  have hap := va_apart (own := ow_on own) hts (ow_in ci hci) (ow_ty ci) (ow_tyk ci hci) (ow_nm ci hci) hKF.1 (ow_clk ci hci)
  have hlay := hts _ (ow_in ci hci _ (u_in_lay hk))
  unfold u_lay at hlay
  rw [if_pos hfin] at hlay
  have hcf : m.cls = cf := by
    obtain ⟨_, _, c', _, _, _, -, -, hf', -, -, -, hown2, -⟩ := Cond.laysFinal_spec hlay
    have e1 : c' = cf := by have := hi'.symm.trans hf'; simp at this; exact this.1.symm
    rw [ow_dc ci hci k hk, ← hoc] at hown2
    rw [← e1]; exact Option.some.inj (hfo.symm.trans hown2)
  have h6 := u_fits hfc hkC hkind (Or.inr hlay) hi' ((ow_tyk ci hci k hk).trans (congrArg some hty)) hnar hfit
  refine W.putFinK hx' hb hfo (hts _ (ow_fl0 own hown _ hlk)) hi' hst hcf hin (by rw [q2]; exact h6) q1 q3 (by rw [hsl]; exact k2_hasslot (q4 k hk)) rfl rfl hd fun H' e1 e2 e3 => ?_
  rw [hsl] at e1 ⊢
  refine kk hu hv H' lsM _ (s_ob_put hR (lv_lt' hR o1) o2 o3 hci hk q2 q3 q4 hap e1 e2 e3 rfl (fun _ => rfl) (fun _ _ _ => rfl) (fun _ _ _ => rfl) (fun a ha j => ?_) ?_ hx) hLR ?_
  · rw [asd_sA]
    have : ¬ (q = a ∧ k = j) := fun h => ha h.1.symm
    simp [this]
  · intro z hz
    rcases List.mem_cons.mp hz with h | h
    · rw [h]; exact lv_lt' hR o1
    · exact hR.2.2.2.1 z h
  · intro z hz
    rcases List.mem_append.mp hz with h | h
    · exact hf z h
    · rw [List.mem_singleton] at h; rw [h]; exact Nat.le_add_right _ _
/-! arrays -/
theorem s_iald (C : Cx w p s m args meth c own bytes nL) {q : Nat} {i : Int32} (h : aOK b σ q 12 i) (hd : decode bytes pc = .ok (.iaload, 1)) (kk : AtM w b p l e R s m args below meth c Q nL KC KS (pc + 1) ls (.int (rI σ q i.toNatClampNeg) :: st) σ u v) : AtM w b p l e R s m args below meth c Q nL KC KS pc ls (.int i :: .ref q :: st) σ u v := by
  intro hu hv H lsM locs hR hLR hf
  obtain ⟨h1, h2, h3⟩ := h
  have hc := (hR.2.2.2.2.2 q (lv_lt' hR h1)).2.1 h2
  exact W.iald (v := .int (rI σ q i.toNatClampNeg)) C.1 C.2.1 hc ((C.2.2.2.2.2.1.1.2 0 _ rfl).1 _ _) (fun q => by cases q) (by rw [arrV_size]; exact h3) (by rw [arrV_read _ _ (vp_lt h3)]) rfl rfl hd (kk hu hv H lsM locs hR hLR hf)
theorem s_zald (C : Cx w p s m args meth c own bytes nL) {q : Nat} {i : Int32} (h : aOK b σ q 13 i) (hd : decode bytes pc = .ok (.baload, 1)) (kk : AtM w b p l e R s m args below meth c Q nL KC KS (pc + 1) ls (.int (rI σ q i.toNatClampNeg) :: st) σ u v) : AtM w b p l e R s m args below meth c Q nL KC KS pc ls (.int i :: .ref q :: st) σ u v := by
  intro hu hv H lsM locs hR hLR hf
  obtain ⟨h1, h2, h3⟩ := h
  have hc := (hR.2.2.2.2.2 q (lv_lt' hR h1)).2.2.1 h2
  exact W.zald (v := .int (rI σ q i.toNatClampNeg)) C.1 C.2.1 hc ((C.2.2.2.2.2.1.1.2 1 _ rfl).1 _ _) (fun q => by cases q) (by rw [arrV_size]; exact h3) (by rw [arrV_read _ _ (vp_lt h3)]) rfl rfl hd (kk hu hv H lsM locs hR hLR hf)
theorem s_lald (C : Cx w p s m args meth c own bytes nL) {q : Nat} {i : Int32} (h : aOK b σ q 14 i) (hd : decode bytes pc = .ok (.laload, 1)) (kk : AtM w b p l e R s m args below meth c Q nL KC KS (pc + 1) ls (.long (rL σ q i.toNatClampNeg) :: st) σ u v) : AtM w b p l e R s m args below meth c Q nL KC KS pc ls (.int i :: .ref q :: st) σ u v := by
  intro hu hv H lsM locs hR hLR hf
  obtain ⟨h1, h2, h3⟩ := h
  have hc := (hR.2.2.2.2.2 q (lv_lt' hR h1)).2.2.2.1 h2
  exact W.lald (v := .long (rL σ q i.toNatClampNeg)) C.1 C.2.1 hc ((C.2.2.2.2.2.1.1.2 2 _ rfl).1 _ _) (fun q => by cases q) (by rw [arrV_size]; exact h3) (by rw [arrV_read _ _ (vp_lt h3)]) rfl rfl hd (kk hu hv H lsM locs hR hLR hf)
theorem s_aald15 (C : Cx w p s m args meth c own bytes nL) {q : Nat} {i : Int32} (h : aOK b σ q 15 i) (hd : decode bytes pc = .ok (.aaload, 1)) (kk : AtM w b p l e R s m args below meth c Q nL KC KS (pc + 1) ls (.ref (q + 1 + i.toNatClampNeg) :: st) σ u v) : AtM w b p l e R s m args below meth c Q nL KC KS pc ls (.int i :: .ref q :: st) σ u v := by
  intro hu hv H lsM locs hR hLR hf
  obtain ⟨h1, h2, h3⟩ := h
  have hc := (hR.2.2.2.2.2 q (lv_lt' hR h1)).2.2.2.2.1 h2
  exact W.aald (v := .ref (wN w + (q + 1 + i.toNatClampNeg))) (ty := .array .int) C.1 C.2.1 hc ((C.2.2.2.2.2.1.1.2 3 _ rfl).1 _ _) rfl (fun q => by cases q) (by rw [arrV_size]; exact h3) (by rw [arrV_read _ _ (vp_lt h3)]) rfl rfl hd (kk hu hv H lsM locs hR hLR hf)
theorem s_aald16 (C : Cx w p s m args meth c own bytes nL) {q : Nat} {i : Int32} (h : aOK b σ q 16 i) (hd : decode bytes pc = .ok (.aaload, 1)) (kk : AtM w b p l e R s m args below meth c Q nL KC KS (pc + 1) ls (.ref (q + 1 + i.toNatClampNeg) :: st) σ u v) : AtM w b p l e R s m args below meth c Q nL KC KS pc ls (.int i :: .ref q :: st) σ u v := by
  intro hu hv H lsM locs hR hLR hf
  obtain ⟨h1, h2, h3⟩ := h
  have hc := (hR.2.2.2.2.2 q (lv_lt' hR h1)).2.2.2.2.2.1 h2
  exact W.aald (v := .ref (wN w + (q + 1 + i.toNatClampNeg))) (ty := .array .boolean) C.1 C.2.1 hc ((C.2.2.2.2.2.1.1.2 4 _ rfl).1 _ _) rfl (fun q => by cases q) (by rw [arrV_size]; exact h3) (by rw [arrV_read _ _ (vp_lt h3)]) rfl rfl hd (kk hu hv H lsM locs hR hLR hf)
theorem s_aald17 (C : Cx w p s m args meth c own bytes nL) {q x : Nat} {i : Int32} (h : aOK b σ q 17 i) (ha : asd b σ q i.toNatClampNeg = true) (hx : rS q i.toNatClampNeg = x + 1) (hd : decode bytes pc = .ok (.aaload, 1)) (kk : AtM w b p l e R s m args below meth c Q nL KC KS (pc + 1) ls (.ref x :: st) σ u v) : AtM w b p l e R s m args below meth c Q nL KC KS pc ls (.int i :: .ref q :: st) σ u v := by
  intro hu hv H lsM locs hR hLR hf
  obtain ⟨h1, h2, h3⟩ := h
  have hc := (hR.2.2.2.2.2 q (lv_lt' hR h1)).2.2.2.2.2.2 h2
  exact W.aald (v := .ref (wN w + x)) (ty := .object "OwnedClouds$Book") C.1 C.2.1 hc ((C.2.2.2.2.2.1.1.2 5 _ rfl).1 _ _) rfl (fun q => by cases q) (by rw [arrV_size]; exact h3) (by rw [arrV_read _ _ (vp_lt h3), ha, hx]; rfl) rfl rfl hd (kk hu hv H lsM locs hR hLR hf)
theorem locs_app {locs : List Loc} {a i : Nat} (hf : ∀ q ∈ locs, fre w q.base) (ha : wN w ≤ a) : ∀ q ∈ locs ++ [⟨a, i⟩], fre w q.base := by
  intro z hz
  rcases List.mem_append.mp hz with h | h
  · exact hf z h
  · rw [List.mem_singleton] at h; rw [h]; exact ha
theorem s_iast (C : Cx w p s m args meth c own bytes nL) {q : Nat} {i x : Int32} (h : aOK b σ q 12 i) (hd : decode bytes pc = .ok (.iastore, 1)) (kk : AtM w b p l e R s m args below meth c Q nL KC KS (pc + 1) ls st (wI σ q i.toNatClampNeg x) u v) : AtM w b p l e R s m args below meth c Q nL KC KS pc ls (.int x :: .int i :: .ref q :: st) σ u v := by
  intro hu hv H lsM locs hR hLR hf
  obtain ⟨h1, h2, h3⟩ := h
  have hlt := lv_lt' hR h1
  have hc := (hR.2.2.2.2.2 q hlt).2.1 h2
  refine W.iast C.1 C.2.1 hc ((C.2.2.2.2.2.1.1.2 0 _ rfl).1 _ _) (fun q => by cases q) (by rw [arrV_size]; exact h3) rfl rfl hd fun H1 e z oq => ?_
  refine kk hu hv H1 lsM _ (hR.upd hlt z oq rfl (fun _ => rfl) (fun a ha j => by rw [rI_wI]; simp [ha]) (fun _ _ _ => rfl) (fun _ _ _ => rfl) hR.2.2.2.1 (cOK_12 h2 ?_)) hLR (locs_app hf (Nat.le_add_right _ _))
  rw [e, arrV_store]
  refine congrArg (fun f => some (arrV (wA w 0) (aLen σ q) f)) (funext fun j => ?_)
  rw [rI_wI]
  unfold updV
  by_cases hj : j = i.toNatClampNeg <;> simp [hj]
theorem s_zast (C : Cx w p s m args meth c own bytes nL) {q : Nat} {i x : Int32} (h : aOK b σ q 13 i) (hd : decode bytes pc = .ok (.bastore, 1)) (kk : AtM w b p l e R s m args below meth c Q nL KC KS (pc + 1) ls st (wI σ q i.toNatClampNeg (vp_nar .boolean x)) u v) : AtM w b p l e R s m args below meth c Q nL KC KS pc ls (.int x :: .int i :: .ref q :: st) σ u v := by
  intro hu hv H lsM locs hR hLR hf
  obtain ⟨h1, h2, h3⟩ := h
  have hlt := lv_lt' hR h1
  have hc := (hR.2.2.2.2.2 q hlt).2.2.1 h2
  refine W.zast C.1 C.2.1 hc ((C.2.2.2.2.2.1.1.2 1 _ rfl).1 _ _) (fun q => by cases q) (by rw [arrV_size]; exact h3) rfl rfl hd fun H1 e z oq => ?_
  refine kk hu hv H1 lsM _ (hR.upd hlt z oq rfl (fun _ => rfl) (fun a ha j => by rw [rI_wI]; simp [ha]) (fun _ _ _ => rfl) (fun _ _ _ => rfl) hR.2.2.2.1 (cOK_13 h2 ?_)) hLR (locs_app hf (Nat.le_add_right _ _))
  rw [e, arrV_store]
  refine congrArg (fun f => some (arrV (wA w 1) (aLen σ q) f)) (funext fun j => ?_)
  rw [rI_wI]
  unfold updV
  by_cases hj : j = i.toNatClampNeg
  · simp [hj, vp_nar, narrow]
  · simp [hj]
theorem s_last (C : Cx w p s m args meth c own bytes nL) {q : Nat} {i : Int32} {x : Int64} (h : aOK b σ q 14 i) (hd : decode bytes pc = .ok (.lastore, 1)) (kk : AtM w b p l e R s m args below meth c Q nL KC KS (pc + 1) ls st (wL σ q i.toNatClampNeg x) u v) : AtM w b p l e R s m args below meth c Q nL KC KS pc ls (.long x :: .int i :: .ref q :: st) σ u v := by
  intro hu hv H lsM locs hR hLR hf
  obtain ⟨h1, h2, h3⟩ := h
  have hlt := lv_lt' hR h1
  have hc := (hR.2.2.2.2.2 q hlt).2.2.2.1 h2
  refine W.last C.1 C.2.1 hc ((C.2.2.2.2.2.1.1.2 2 _ rfl).1 _ _) (fun q => by cases q) (by rw [arrV_size]; exact h3) rfl rfl hd fun H1 e z oq => ?_
  refine kk hu hv H1 lsM _ (hR.upd hlt z oq rfl (fun _ => rfl) (fun _ _ _ => rfl) (fun a ha j => by rw [rL_wL]; simp [ha]) (fun _ _ _ => rfl) hR.2.2.2.1 (cOK_14 h2 ?_)) hLR (locs_app hf (Nat.le_add_right _ _))
  rw [e, arrV_store]
  refine congrArg (fun f => some (arrV (wA w 2) (aLen σ q) f)) (funext fun j => ?_)
  rw [rL_wL]
  unfold updV
  by_cases hj : j = i.toNatClampNeg <;> simp [hj]
theorem s_alen (C : Cx w p s m args meth c own bytes nL) {q : Nat} (h : (lvB b σ q && Nat.ble 12 (kind σ q) && Nat.ble (kind σ q) 17) = true) (hd : decode bytes pc = .ok (.arraylength, 1)) (kk : AtM w b p l e R s m args below meth c Q nL KC KS (pc + 1) ls (.int (nI (aLen σ q)) :: st) σ u v) : AtM w b p l e R s m args below meth c Q nL KC KS pc ls (.ref q :: st) σ u v := by
  intro hu hv H lsM locs hR hLR hf
  simp only [Bool.and_eq_true, Nat.ble_eq] at h
  obtain ⟨⟨h1, h2⟩, h3⟩ := h
  obtain ⟨-, c2, c3, c4, c5, c6, c7⟩ := hR.2.2.2.2.2 q (lv_lt' hR h1)
  have hk : kind σ q = 12 ∨ kind σ q = 13 ∨ kind σ q = 14 ∨ kind σ q = 15 ∨ kind σ q = 16 ∨ kind σ q = 17 := by omega
  have kk := kk hu hv H lsM locs hR hLR hf
  rcases hk with hk | hk | hk | hk | hk | hk
  · exact W.alen C.1 C.2.1 (c2 hk) ((C.2.2.2.2.2.1.1.2 0 _ rfl).1 _ _) (by rw [arrV_size]; rfl) rfl rfl hd kk
  · exact W.alen C.1 C.2.1 (c3 hk) ((C.2.2.2.2.2.1.1.2 1 _ rfl).1 _ _) (by rw [arrV_size]; rfl) rfl rfl hd kk
  · exact W.alen C.1 C.2.1 (c4 hk) ((C.2.2.2.2.2.1.1.2 2 _ rfl).1 _ _) (by rw [arrV_size]; rfl) rfl rfl hd kk
  · exact W.alen C.1 C.2.1 (c5 hk) ((C.2.2.2.2.2.1.1.2 3 _ rfl).1 _ _) (by rw [arrV_size]; rfl) rfl rfl hd kk
  · exact W.alen C.1 C.2.1 (c6 hk) ((C.2.2.2.2.2.1.1.2 4 _ rfl).1 _ _) (by rw [arrV_size]; rfl) rfl rfl hd kk
  · exact W.alen C.1 C.2.1 (c7 hk) ((C.2.2.2.2.2.1.1.2 5 _ rfl).1 _ _) (by rw [arrV_size]; rfl) rfl rfl hd kk
/-! new cells -/
theorem RelH.grow {H H' : Heap} {σ' : Mem} {n : Nat} (h : RelH w b σ H) (hz : H'.size = H.size + n) (ho : ∀ z, z < H.size → H'[z]? = H[z]?) (hn : mN σ' = mN σ + n) (hd : ∀ a, a < mN σ → mD σ' a = mD σ a) (hi : ∀ a, a < mN σ → ∀ j, rI σ' a j = rI σ a j) (hL : ∀ a, a < mN σ → ∀ j, rL σ' a j = rL σ a j)
    (hA : mA σ' = mA σ) (hb0 : b = false → mN σ' ≤ ow_n0) (hc : ∀ a, mN σ ≤ a → a < mN σ + n → cOK w b σ' a H') : RelH w b σ' H' := by
  refine ⟨by rw [hz, hn, h.1]; omega, fun z hz' => (ho z (by rw [h.1]; omega)).trans (h.2.1 z hz'), fun q => by have := h.2.2.1 q; omega, fun z hz' => by rw [hA] at hz'; have := h.2.2.2.1 z hz'; omega, hb0, fun a ha => ?_⟩
  by_cases e : a < mN σ
  · have hk : kind σ' a = kind σ a := by unfold kind; rw [hd a e]
    have hl : aLen σ' a = aLen σ a := by unfold aLen; rw [hd a e]
    exact (h.2.2.2.2.2 a e).frame (ho _ (by rw [h.1]; omega)) hk hl (hi a e) (hL a e) (fun j => by unfold asd; rw [hA])
  · exact hc a (by omega) (by omega)
end SND2
