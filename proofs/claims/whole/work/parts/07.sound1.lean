/-! SOUNDNESS, first half: locals, the heap's laws, one row an instruction -/
def LR (w : Wd) (nL : Nat) (ls : List AV) (lsM : Array Slot) : Prop := lsM.size = nL ∧ lv_wf lsM ∧ ∀ i, ¬ gt ls i = junk → lsM[i]? = some (.val (cv w (gt ls i)))
theorem cv_cat (w : Wd) (x : AV) : (cv w x).category = x.category := by cases x <;> rfl
theorem gt_pt : ∀ (ls : List AV) (i : Nat) (v : AV) (j : Nat), ¬ gt (pt ls i v) j = junk → (j = i ∧ gt (pt ls i v) j = v) ∨ (j ≠ i ∧ gt (pt ls i v) j = gt ls j ∧ (j + 1 = i → (gt ls j).category = 1))
  | [], i, v, j, h => by simp [pt, gt] at h
  | x :: t, 0, v, 0, h => Or.inl ⟨rfl, rfl⟩
  | x :: t, 0, v, j + 1, h => Or.inr ⟨by omega, rfl, by omega⟩
  | x :: t, 1, v, 0, h => by
    refine Or.inr ⟨by omega, ?_, fun _ => ?_⟩
    · show klL x = x
      have h' : ¬ klL x = junk := h
      cases x <;> first | rfl | exact absurd rfl h'
    · show x.category = 1
      have h' : ¬ klL x = junk := h
      cases x <;> first | rfl | exact absurd rfl h'
  | x :: t, 1, v, j + 1, h => by
    have h' : ¬ gt (pt t 0 v) j = junk := h
    rcases gt_pt t 0 v j h' with ⟨e1, e2⟩ | ⟨e1, e2, e3⟩
    · exact Or.inl ⟨by omega, e2⟩
    · exact Or.inr ⟨by omega, e2, by omega⟩
  | x :: t, n + 2, v, 0, h => Or.inr ⟨by omega, rfl, by omega⟩
  | x :: t, n + 2, v, j + 1, h => by
    have h' : ¬ gt (pt t (n + 1) v) j = junk := h
    rcases gt_pt t (n + 1) v j h' with ⟨e1, e2⟩ | ⟨e1, e2, e3⟩
    · exact Or.inl ⟨by omega, e2⟩
    · exact Or.inr ⟨by omega, e2, fun q => e3 (by omega)⟩
/-- the known locals as a list -/
def LRl (w : Wd) (nL : Nat) (ls : List AV) : List (Nat × Value) := (List.range nL).filterMap fun i => if gt ls i = junk then none else some (i, cv w (gt ls i))
theorem LRl_mem {w : Wd} {nL : Nat} {ls : List AV} {q : Nat × Value} : q ∈ LRl w nL ls ↔ q.1 < nL ∧ ¬ gt ls q.1 = junk ∧ q.2 = cv w (gt ls q.1) := by
  unfold LRl
  rw [List.mem_filterMap]
  constructor
  · rintro ⟨i, hi, h⟩
    have hi := List.mem_range.mp hi
    by_cases g : gt ls i = junk
    · simp [g] at h
    · simp only [g, if_false, Option.some.injEq] at h
      subst h
      exact ⟨hi, g, rfl⟩
  · rintro ⟨h1, h2, h3⟩
    refine ⟨q.1, List.mem_range.mpr h1, ?_⟩
    simp only [h2, if_false, ← h3]
theorem LR.has {w : Wd} {nL : Nat} {ls : List AV} {lsM : Array Slot} (h : LR w nL ls lsM) : lv_has lsM nL (LRl w nL ls) :=
  ⟨h.1, h.2.1, fun q hq => by obtain ⟨-, h2, h3⟩ := LRl_mem.mp hq; rw [h3]; exact h.2.2 _ h2⟩
theorem LR.lt {w : Wd} {nL : Nat} {ls : List AV} {lsM : Array Slot} (h : LR w nL ls lsM) {i : Nat} (hi : ¬ gt ls i = junk) : i < nL := by
  have := lv_lt (h.2.2 i hi); rw [h.1] at this; exact this
theorem LR.set1 {w : Wd} {nL : Nat} {ls : List AV} {lsM lsM' : Array Slot} {i : Nat} {x : AV} (h : LR w nL ls lsM) (h' : lv_has lsM' nL ((i, cv w x) :: (LRl w nL ls).filter (fun q => !(q.1 == i) && !(q.1 + 1 == i && q.2.category == 2)))) : LR w nL (pt ls i x) lsM' := by
  refine ⟨h'.1, h'.2.1, fun j hj => ?_⟩
  rcases gt_pt ls i x j hj with ⟨e1, e2⟩ | ⟨e1, e2, e3⟩
  · rw [e2, e1]; exact h'.2.2 (i, cv w x) List.mem_cons_self
  · rw [e2] at hj ⊢
    refine h'.2.2 (j, cv w (gt ls j)) (List.mem_cons_of_mem _ (List.mem_filter.mpr ⟨LRl_mem.mpr ⟨h.lt hj, hj, rfl⟩, ?_⟩))
    by_cases q : j + 1 = i
    · simp [e1, q, cv_cat, e3 q]
    · simp [e1, q]
theorem LR.set2 {w : Wd} {nL : Nat} {ls : List AV} {lsM lsM' : Array Slot} {i : Nat} {x : AV} (h : LR w nL ls lsM) (h' : lv_has lsM' nL ((i, cv w x) :: (LRl w nL ls).filter (fun q => !(q.1 == i) && (!(q.1 == i + 1) && !(q.1 + 1 == i && q.2.category == 2))))) : LR w nL (pt2 ls i x) lsM' := by
  refine ⟨h'.1, h'.2.1, fun j hj => ?_⟩
  rcases gt_pt (pt ls (i + 1) junk) i x j hj with ⟨e1, e2⟩ | ⟨e1, e2, e3⟩
  · show lsM'[j]? = some (.val (cv w (gt (pt (pt ls (i + 1) junk) i x) j)))
    rw [e2, e1]; exact h'.2.2 (i, cv w x) List.mem_cons_self
  · have hj' : ¬ gt (pt ls (i + 1) junk) j = junk := by rw [← e2]; exact hj
    rcases gt_pt ls (i + 1) junk j hj' with ⟨f1, f2⟩ | ⟨f1, f2, f3⟩
    · exact absurd f2 hj'
    · show lsM'[j]? = some (.val (cv w (gt (pt (pt ls (i + 1) junk) i x) j)))
      rw [e2, f2]
      rw [f2] at hj' e3
      refine h'.2.2 (j, cv w (gt ls j)) (List.mem_cons_of_mem _ (List.mem_filter.mpr ⟨LRl_mem.mpr ⟨h.lt hj', hj', rfl⟩, ?_⟩))
      by_cases q : j + 1 = i
      · simp [e1, f1, q, cv_cat, e3 q]
      · simp [e1, f1, q]
/-! the heap -/
theorem cOK.frame {w : Wd} {b : Bool} {σ σ' : Mem} {a : Nat} {H H' : Heap} (h : cOK w b σ a H) (hH : H'[wN w + a]? = H[wN w + a]?) (hk : kind σ' a = kind σ a) (hl : aLen σ' a = aLen σ a) (hi : ∀ j, rI σ' a j = rI σ a j) (hL : ∀ j, rL σ' a j = rL σ a j) (ha : ∀ j, asd b σ' a j = asd b σ a j) : cOK w b σ' a H' := by
  unfold cOK at h ⊢
  rw [hk, hl, hH]
  have e1 : fV w b σ' (kind σ a) a = fV w b σ (kind σ a) a := by funext k; unfold fV; rw [hi, hL, ha]
  rw [e1]
  simp only [hi, hL, ha]
  exact ⟨fun q => (h.1 q).kept hH, h.2⟩
theorem RelH.upd {w : Wd} {b : Bool} {σ σ' : Mem} {q : Nat} {H H' : Heap} (h : RelH w b σ H) (hq : q < mN σ) (hz : H'.size = H.size) (ho : ∀ z, z ≠ wN w + q → H'[z]? = H[z]?) (hn : mN σ' = mN σ) (hd : ∀ a, mD σ' a = mD σ a)
    (hi : ∀ a, a ≠ q → ∀ j, rI σ' a j = rI σ a j) (hL : ∀ a, a ≠ q → ∀ j, rL σ' a j = rL σ a j) (ha : ∀ a, a ≠ q → ∀ j, asd b σ' a j = asd b σ a j) (hA : ∀ p ∈ mA σ', p.1 < mN σ) (hc : cOK w b σ' q H') : RelH w b σ' H' := by
  refine ⟨by rw [hz, hn]; exact h.1, fun z hz' => (ho z (by omega)).trans (h.2.1 z hz'), by rw [hn]; exact h.2.2.1, by rw [hn]; exact hA, by rw [hn]; exact h.2.2.2.2.1, fun a ha' => ?_⟩
  rw [hn] at ha'
  by_cases e : a = q
  · rw [e]; exact hc
  · have hk : kind σ' a = kind σ a := by unfold kind; rw [hd]
    have hl : aLen σ' a = aLen σ a := by unfold aLen; rw [hd]
    exact (h.2.2.2.2.2 a ha').frame (ho _ (by omega)) hk hl (hi a e) (hL a e) (ha a e)
theorem rI_wI (σ : Mem) (a k : Nat) (x : Int32) (c j : Nat) : rI (wI σ a k x) c j = if c = a ∧ j = k then x else rI σ c j := rfl
theorem rL_wI (σ : Mem) (a k : Nat) (x : Int32) (c j : Nat) : rL (wI σ a k x) c j = rL σ c j := rfl
theorem rL_wL (σ : Mem) (a k : Nat) (x : Int64) (c j : Nat) : rL (wL σ a k x) c j = if c = a ∧ j = k then x else rL σ c j := rfl
theorem rI_wL (σ : Mem) (a k : Nat) (x : Int64) (c j : Nat) : rI (wL σ a k x) c j = rI σ c j := rfl
theorem oOK_spec {b : Bool} {σ : Mem} {a ci : Nat} (h : oOK b σ a ci = true) : lvB b σ a = true ∧ a < ow_n0 ∧ kS a = ci := by
  unfold oOK at h
  simp only [Bool.and_eq_true] at h
  exact ⟨h.1.1, by have := h.1.2; simp [Nat.blt] at this; omega, Nat.eq_of_beq_eq_true h.2⟩
theorem kind_s {σ : Mem} {a : Nat} (h : a < ow_n0) : kind σ a = kS a := by
  unfold kind
  have : Nat.blt a ow_n0 = true := by simp [Nat.blt]; omega
  rw [this]; rfl
section SND
variable {w : Wd} {b : Bool} {p : Program} {l : Launch} {e : Env} {R : Room} {s : State} {m : MethodId} {args : Array Value} {below : List Frame} {meth : Method} {c : Code} {Q : State → Prop} {own nL KC KS : Nat} {bytes : ByteArray}
def Cx (w : Wd) (p : Program) (s : State) (m : MethodId) (args : Array Value) (meth : Method) (c : Code) (own : Nat) (bytes : ByteArray) (nL : Nat) : Prop :=
  p.tables.exec = Jvm.exec ∧ c.code = bytes ∧ c.maxLocals = nL ∧ s.vm.findClass (ow_on own) = some m.cls ∧ (∀ z ∈ ow_T, z.before args s = true) ∧ KF w s ∧ meth.locks = false
def AtM (w : Wd) (b : Bool) (p : Program) (l : Launch) (e : Env) (R : Room) (s : State) (m : MethodId) (args : Array Value) (below : List Frame) (meth : Method) (c : Code) (Q : State → Prop) (nL KC KS : Nat) : At_t := fun pc ls st σ u v =>
  u ≤ KC → v ≤ KS → ∀ (H : Heap) (lsM : Array Slot) (locs : List Loc), RelH w b σ H → LR w nL ls lsM → (∀ q ∈ locs, fre w q.base) → W p l e R s m args below meth c H locs u v Q (F0 m pc lsM (st.map (cv w)))
variable {pc u v : Nat} {ls st : List AV} {σ : Mem}
theorem s_aload_n (C : Cx w p s m args meth c own bytes nL) {k : Fin 4} {x : Nat} (hd : decode bytes pc = .ok (.aload_n k, 1)) {z : AV} (hz : z = .ref x ∨ ∃ t, z = .float t) (hl : gt ls k = z) (kk : AtM w b p l e R s m args below meth c Q nL KC KS (pc + 1) ls (z :: st) σ u v) : AtM w b p l e R s m args below meth c Q nL KC KS pc ls st σ u v := by
  intro hu hv H lsM locs hR hL hf
  have h1 := hL.2.2 k (by rw [hl]; rcases hz with rfl | ⟨t, rfl⟩ <;> exact fun q => by cases q)
  rw [hl] at h1
  rcases hz with rfl | ⟨t, rfl⟩ <;> exact lv_aload_n C.1 C.2.1 hd rfl h1 (kk hu hv H lsM locs hR hL hf)
theorem s_aload (C : Cx w p s m args meth c own bytes nL) {k x : Nat} (hd : decode bytes pc = .ok (.aload k, 2)) {z : AV} (hz : z = .ref x ∨ ∃ t, z = .float t) (hl : gt ls k = z) (kk : AtM w b p l e R s m args below meth c Q nL KC KS (pc + 2) ls (z :: st) σ u v) : AtM w b p l e R s m args below meth c Q nL KC KS pc ls st σ u v := by
  intro hu hv H lsM locs hR hL hf
  have h1 := hL.2.2 k (by rw [hl]; rcases hz with rfl | ⟨t, rfl⟩ <;> exact fun q => by cases q)
  rw [hl] at h1
  rcases hz with rfl | ⟨t, rfl⟩ <;> exact lv_aload C.1 C.2.1 hd h1 (kk hu hv H lsM locs hR hL hf)
theorem s_iload_n (C : Cx w p s m args meth c own bytes nL) {k : Fin 4} {x : Int32} (hd : decode bytes pc = .ok (.iload_n k, 1)) (hl : gt ls k = .int x) (kk : AtM w b p l e R s m args below meth c Q nL KC KS (pc + 1) ls (.int x :: st) σ u v) : AtM w b p l e R s m args below meth c Q nL KC KS pc ls st σ u v := by
  intro hu hv H lsM locs hR hL hf
  have h1 := hL.2.2 k (by rw [hl]; exact fun q => by cases q)
  rw [hl] at h1
  exact lv_iload_n C.1 C.2.1 hd rfl h1 (kk hu hv H lsM locs hR hL hf)
theorem s_iload (C : Cx w p s m args meth c own bytes nL) {k : Nat} {x : Int32} (hd : decode bytes pc = .ok (.iload k, 2)) (hl : gt ls k = .int x) (kk : AtM w b p l e R s m args below meth c Q nL KC KS (pc + 2) ls (.int x :: st) σ u v) : AtM w b p l e R s m args below meth c Q nL KC KS pc ls st σ u v := by
  intro hu hv H lsM locs hR hL hf
  have h1 := hL.2.2 k (by rw [hl]; exact fun q => by cases q)
  rw [hl] at h1
  exact lv_iload C.1 C.2.1 hd h1 (kk hu hv H lsM locs hR hL hf)
theorem s_lload_n (C : Cx w p s m args meth c own bytes nL) {k : Fin 4} {x : Int64} (hd : decode bytes pc = .ok (.lload_n k, 1)) (hl : gt ls k = .long x) (kk : AtM w b p l e R s m args below meth c Q nL KC KS (pc + 1) ls (.long x :: st) σ u v) : AtM w b p l e R s m args below meth c Q nL KC KS pc ls st σ u v := by
  intro hu hv H lsM locs hR hL hf
  have h1 := hL.2.2 k (by rw [hl]; exact fun q => by cases q)
  rw [hl] at h1
  exact lv_lload_n C.1 C.2.1 hd rfl h1 (kk hu hv H lsM locs hR hL hf)
theorem s_lload (C : Cx w p s m args meth c own bytes nL) {k : Nat} {x : Int64} (hd : decode bytes pc = .ok (.lload k, 2)) (hl : gt ls k = .long x) (kk : AtM w b p l e R s m args below meth c Q nL KC KS (pc + 2) ls (.long x :: st) σ u v) : AtM w b p l e R s m args below meth c Q nL KC KS pc ls st σ u v := by
  intro hu hv H lsM locs hR hL hf
  have h1 := hL.2.2 k (by rw [hl]; exact fun q => by cases q)
  rw [hl] at h1
  exact lv_lload C.1 C.2.1 hd h1 (kk hu hv H lsM locs hR hL hf)
theorem s_istore_n (C : Cx w p s m args meth c own bytes nL) {k : Fin 4} {x : Int32} (hk : (k : Nat) < nL) (hd : decode bytes pc = .ok (.istore_n k, 1)) (kk : AtM w b p l e R s m args below meth c Q nL KC KS (pc + 1) (pt ls k (.int x)) st σ u v) : AtM w b p l e R s m args below meth c Q nL KC KS pc ls (.int x :: st) σ u v := by
  intro hu hv H lsM locs hR hL hf
  exact lv_istore_n C.1 C.2.1 hd rfl hL.has hk rfl fun ls' h' => kk hu hv H ls' locs hR (hL.set1 (x := .int x) h') hf
theorem s_istore (C : Cx w p s m args meth c own bytes nL) {k : Nat} {x : Int32} (hk : k < nL) (hd : decode bytes pc = .ok (.istore k, 2)) (kk : AtM w b p l e R s m args below meth c Q nL KC KS (pc + 2) (pt ls k (.int x)) st σ u v) : AtM w b p l e R s m args below meth c Q nL KC KS pc ls (.int x :: st) σ u v := by
  intro hu hv H lsM locs hR hL hf
  exact lv_istore C.1 C.2.1 hd hL.has hk rfl fun ls' h' => kk hu hv H ls' locs hR (hL.set1 (x := .int x) h') hf
theorem s_lstore_n (C : Cx w p s m args meth c own bytes nL) {k : Fin 4} {x : Int64} (hk : (k : Nat) + 1 < nL) (hd : decode bytes pc = .ok (.lstore_n k, 1)) (kk : AtM w b p l e R s m args below meth c Q nL KC KS (pc + 1) (pt2 ls k (.long x)) st σ u v) : AtM w b p l e R s m args below meth c Q nL KC KS pc ls (.long x :: st) σ u v := by
  intro hu hv H lsM locs hR hL hf
  exact lv_lstore_n C.1 C.2.1 hd rfl hL.has hk rfl fun ls' h' => kk hu hv H ls' locs hR (hL.set2 (x := .long x) h') hf
theorem s_lstore (C : Cx w p s m args meth c own bytes nL) {k : Nat} {x : Int64} (hk : k + 1 < nL) (hd : decode bytes pc = .ok (.lstore k, 2)) (kk : AtM w b p l e R s m args below meth c Q nL KC KS (pc + 2) (pt2 ls k (.long x)) st σ u v) : AtM w b p l e R s m args below meth c Q nL KC KS pc ls (.long x :: st) σ u v := by
  intro hu hv H lsM locs hR hL hf
  exact lv_lstore C.1 C.2.1 hd hL.has hk rfl fun ls' h' => kk hu hv H ls' locs hR (hL.set2 (x := .long x) h') hf
theorem s_astore_n (C : Cx w p s m args meth c own bytes nL) {k : Fin 4} {z : AV} {x : Nat} (hz : z = .ref x ∨ ∃ t, z = .float t) (hk : (k : Nat) < nL) (hd : decode bytes pc = .ok (.astore_n k, 1)) (kk : AtM w b p l e R s m args below meth c Q nL KC KS (pc + 1) (pt ls k z) st σ u v) : AtM w b p l e R s m args below meth c Q nL KC KS pc ls (z :: st) σ u v := by
  intro hu hv H lsM locs hR hL hf
  rcases hz with rfl | ⟨t, rfl⟩
  · exact lv_astore_n C.1 C.2.1 hd rfl hL.has hk rfl fun ls' h' => kk hu hv H ls' locs hR (hL.set1 (x := .ref x) h') hf
  · exact lv_astore_n C.1 C.2.1 hd rfl hL.has hk rfl fun ls' h' => kk hu hv H ls' locs hR (hL.set1 (x := .float t) h') hf
theorem s_astore (C : Cx w p s m args meth c own bytes nL) {k : Nat} {z : AV} {x : Nat} (hz : z = .ref x ∨ ∃ t, z = .float t) (hk : k < nL) (hd : decode bytes pc = .ok (.astore k, 2)) (kk : AtM w b p l e R s m args below meth c Q nL KC KS (pc + 2) (pt ls k z) st σ u v) : AtM w b p l e R s m args below meth c Q nL KC KS pc ls (z :: st) σ u v := by
  intro hu hv H lsM locs hR hL hf
  rcases hz with rfl | ⟨t, rfl⟩
  · exact lv_astore C.1 C.2.1 hd hL.has hk rfl fun ls' h' => kk hu hv H ls' locs hR (hL.set1 (x := .ref x) h') hf
  · exact lv_astore C.1 C.2.1 hd hL.has hk rfl fun ls' h' => kk hu hv H ls' locs hR (hL.set1 (x := .float t) h') hf
theorem s_iinc (C : Cx w p s m args meth c own bytes nL) {k : Nat} {n : Int} {x y : Int32} (hd : decode bytes pc = .ok (.iinc k n, 3)) (hl : gt ls k = .int x) (hy : x + Int32.ofInt n = y) (kk : AtM w b p l e R s m args below meth c Q nL KC KS (pc + 3) (pt ls k (.int y)) st σ u v) : AtM w b p l e R s m args below meth c Q nL KC KS pc ls st σ u v := by
  intro hu hv H lsM locs hR hL hf
  have hj : ¬ gt ls k = junk := by rw [hl]; exact fun q => by cases q
  have hm : (k, Value.int x) ∈ LRl w nL ls := LRl_mem.mpr ⟨hL.lt hj, hj, by rw [hl]; rfl⟩
  obtain ⟨n', hn'⟩ := List.getElem?_of_mem hm
  exact lv_iinc C.1 C.2.1 hd hL.has hn' hy (hL.lt hj) rfl fun ls' h' => kk hu hv H ls' locs hR (hL.set1 (x := .int y) h') hf
/-! fields -/
theorem s_cell {H : Heap} (hR : RelH w b σ H) {q ci : Nat} (ho : oOK b σ q ci = true) (hci : ci < 12) : t_OB (wN w + q) ((wG w).1 ci) (ow_N ci) ((wG w).2 ci) H (fV w b σ ci q) := by
  obtain ⟨h1, h2, h3⟩ := oOK_spec ho
  have hk := kind_s (σ := σ) h2
  have := (hR.2.2.2.2.2 q (lv_lt' hR h1)).1 (by rw [hk, h3]; exact hci)
  rw [hk, h3] at this
  exact this
theorem s_getfield (C : Cx w p s m args meth c own bytes nL) {q ci k i : Nat} {x : AV} (ho : oOK b σ q ci = true) (hci : ci < 12) (hk : k < ow_N ci) (hlk : (i, ci, k) ∈ ow_f0 own ∨ (own < 14 ∧ (i, ci, k) ∈ ow_f1 own)) (hown : own < 14) (hx : cv w x = fV w b σ ci q k)
    (hd : decode bytes pc = .ok (.getfield i, 3)) (kk : AtM w b p l e R s m args below meth c Q nL KC KS (pc + 3) ls (x :: st) σ u v) : AtM w b p l e R s m args below meth c Q nL KC KS pc ls (.ref q :: st) σ u v := by
  intro hu hv H lsM locs hR hL hf
  obtain ⟨hx', hb, hml, hfo, hts, hKF, -⟩ := C
  obtain ⟨cell, q1, q2, q3, q4⟩ := s_cell hR ho hci
  obtain ⟨hS, hfc, kC, hkC, hkind⟩ := hKF.1.1 ci _ (ow_clk ci hci)
  obtain ⟨cf, kf, fi, f, hi, hsl⟩ := hS k hk
  have hst := (u_facts hfc hkC (u_lays hts (ow_in ci hci) hk) hi).1
  have hkk := kk hu hv H lsM locs hR hL hf
  rcases hlk with hlk | ⟨-, hlk⟩
  · exact W.getf hx' hb hfo (hts _ (ow_fl0 own hown _ hlk)) hi hst q1 (by rw [q3]; exact fun h => by cases h) (v := cv w x) (by rw [hsl, q4 k hk, hx]) rfl rfl hd hkk
  · exact va_Wgetf hx' hb hfo (va_Nw.use rfl (hKF.2.1 own hown _ hlk)) hi hst q1 (by rw [q3]; exact fun h => by cases h) (v := cv w x) (by rw [hsl, q4 k hk, hx]) rfl rfl hd hkk
end SND
