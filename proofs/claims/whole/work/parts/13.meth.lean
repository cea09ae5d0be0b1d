/-! A METHOD'S CONTRACT out of wp -/
def lay : List AV → Nat → List AV
  | _, 0 => []
  | [], n + 1 => junk :: lay [] n
  | .long x :: t, 1 => [.long x]
  | .long x :: t, n + 2 => .long x :: junk :: lay t n
  | x :: t, n + 1 => x :: lay t n
def lyB : List AV → Bool
  | [] => true
  | .double _ :: _ => false
  | _ :: t => lyB t
theorem gt_lay_nil : ∀ (n i : Nat), gt (lay [] n) i = junk
  | 0, i => rfl
  | n + 1, 0 => rfl
  | n + 1, i + 1 => gt_lay_nil n i
theorem lay_spec (w : Wd) : ∀ (as : List AV) (n i k : Nat), lyB as = true → ¬ gt (lay as n) i = junk → (k + i, cv w (gt (lay as n) i)) ∈ lv_args k (as.map (cv w))
  | as, 0, i, k, _, h => by simp [lay, gt] at h
  | [], n + 1, i, k, _, h => absurd (gt_lay_nil (n + 1) i) h
  | .long x :: t, 1, 0, k, _, h => List.mem_cons_self
  | .long x :: t, 1, i + 1, k, _, h => by simp [lay, gt] at h
  | .long x :: t, n + 2, 0, k, _, h => List.mem_cons_self
  | .long x :: t, n + 2, 1, k, _, h => absurd rfl h
  | .long x :: t, n + 2, i + 2, k, hB, h => by
    have := lay_spec w t n i (k + 2) hB h
    refine List.mem_cons_of_mem _ ?_
    show (k + (i + 2), cv w (gt (lay t n) i)) ∈ lv_args (k + 2) (t.map (cv w))
    rw [show k + (i + 2) = k + 2 + i by omega]; exact this
  | .int x :: t, n + 1, 0, k, _, h => List.mem_cons_self
  | .int x :: t, n + 1, i + 1, k, hB, h => by
    have := lay_spec w t n i (k + 1) hB h
    refine List.mem_cons_of_mem _ ?_
    show (k + (i + 1), cv w (gt (lay t n) i)) ∈ lv_args (k + 1) (t.map (cv w))
    rw [show k + (i + 1) = k + 1 + i by omega]; exact this
  | .float x :: t, n + 1, 0, k, _, h => List.mem_cons_self
  | .float x :: t, n + 1, i + 1, k, hB, h => by
    have := lay_spec w t n i (k + 1) hB h
    refine List.mem_cons_of_mem _ ?_
    show (k + (i + 1), cv w (gt (lay t n) i)) ∈ lv_args (k + 1) (t.map (cv w))
    rw [show k + (i + 1) = k + 1 + i by omega]; exact this
  | .null :: t, n + 1, 0, k, _, h => List.mem_cons_self
  | .null :: t, n + 1, i + 1, k, hB, h => by
    have := lay_spec w t n i (k + 1) hB h
    refine List.mem_cons_of_mem _ ?_
    show (k + (i + 1), cv w (gt (lay t n) i)) ∈ lv_args (k + 1) (t.map (cv w))
    rw [show k + (i + 1) = k + 1 + i by omega]; exact this
  | .ref x :: t, n + 1, 0, k, _, h => List.mem_cons_self
  | .ref x :: t, n + 1, i + 1, k, hB, h => by
    have := lay_spec w t n i (k + 1) hB h
    refine List.mem_cons_of_mem _ ?_
    show (k + (i + 1), cv w (gt (lay t n) i)) ∈ lv_args (k + 1) (t.map (cv w))
    rw [show k + (i + 1) = k + 1 + i by omega]; exact this
  | .retAddr x :: t, n + 1, 0, k, _, h => List.mem_cons_self
  | .retAddr x :: t, n + 1, i + 1, k, hB, h => by
    have := lay_spec w t n i (k + 1) hB h
    refine List.mem_cons_of_mem _ ?_
    show (k + (i + 1), cv w (gt (lay t n) i)) ∈ lv_args (k + 1) (t.map (cv w))
    rw [show k + (i + 1) = k + 1 + i by omega]; exact this
theorem lg_len (w : Wd) : ∀ as : List AV, (lg_sl (as.map (cv w))).length = stS as
  | [] => rfl
  | x :: t => by
    have ih := lg_len w t
    unfold lg_sl at ih ⊢
    rw [List.map_cons, List.flatMap_cons, List.length_append, ih, cv_cat]
    cases x <;> simp [Value.category, stS] <;> omega
abbrev Hx_t : Type := Nat → Nat → List AV → Mem → Nat → Nat → Prop
noncomputable abbrev wpL (w : Wd) (b : Bool) (d : Nat) (code : List El) (At : At_t) (P : Option AV → Mem → Prop) (Hx : Hx_t) (L : Nat) (xs : Nat → Int32) (KC KS : Nat) (n : Nat) : Kt :=
  wp b code At P Hx (fun a kc ks as σ k kx => Ret w b d kc ks a as σ k kx) L xs KC KS n
noncomputable abbrev wpX (w : Wd) (b : Bool) (d : Nat) (code : List El) (At : At_t) (P : Option AV → Mem → Prop) (Hx : Hx_t) (KC KS : Nat) (n : Nat) : Kt := wpL w b d code At P Hx 0 (fun _ => 0) KC KS n
section MTH
variable {w : Wd} {b : Bool} {p : Program} {l : Launch} {e : Env} {R : Room} {s : State} {m : MethodId} {args : Array Value} {below : List Frame} {meth : Method} {c : Code} {Q : State → Prop} {own nL KC KS d : Nat} {bytes : ByteArray} {nm : String} {ret : Option FieldType}
variable {L : Nat} {xs : Nat → Int32} {code : List El} {At : At_t} {Rt : Option AV → Mem → Prop} {Hx : Hx_t} {Cl : Cl_t}
/-- a stretch of any length -/
theorem snd_wp (C : Cx w p s m args meth c own bytes nL) (hown : own < 14) (hw : wLa w = l) (hnm : meth.name = nm) (hRf : d + 1 ≤ R.frames) (hRl : 40 * (d + 1) ≤ R.locals) (hRc : R.cells = KC) (hRs : R.slots = KS) (hRt : RtM w b p l e R s m args below meth c Q nL KC KS bytes ret Rt)
    (hAt : ∀ pc ls st σ u v, At pc ls st σ u v → AtM w b p l e R s m args below meth c Q nL KC KS pc ls st σ u v) (hHx : ∀ pc E ls σ u v, Hx pc E ls σ u v → AtX w b p l e R s m args below meth c Q nL KC KS pc E ls σ u v)
    (hSld : ∀ {pc ls st σ u v t} {i : Int32}, t.toNat = 0 → decode bytes pc = .ok (.iaload, 1) → vp_in i (L - 1) → AtM w b p l e R s m args below meth c Q nL KC KS (pc + 1) ls (.int (xs i.toNatClampNeg) :: st) σ u v → AtM w b p l e R s m args below meth c Q nL KC KS pc ls (.int i :: .float t :: st) σ u v)
    (hSln : ∀ {pc ls st σ u v t}, t.toNat = 0 → 0 < L → decode bytes pc = .ok (.arraylength, 1) → AtM w b p l e R s m args below meth c Q nL KC KS (pc + 1) ls (.int (nI (L - 1)) :: st) σ u v → AtM w b p l e R s m args below meth c Q nL KC KS pc ls (.float t :: st) σ u v)
    (hok : okB own nm nL ret bytes code = true)
    (hsp : ∀ {K : Kt}, (∀ cur ls st σ u v, sfx code cur → K cur ls st σ u v → AtM w b p l e R s m args below meth c Q nL KC KS (pcO cur) ls st σ u v) → ∀ {el : El} {tl : List El}, sfx code (el :: tl) → spB el = true → decode bytes el.1 = .ok (el.2.2.2.1, el.2.1) → ∀ {ls st σ u v}, stp b code At Rt Hx (fun a kc ks as σ k kx => Ret w b d kc ks a as σ k kx) L xs KC KS K (el :: tl) ls st σ u v → AtM w b p l e R s m args below meth c Q nL KC KS el.1 ls st σ u v) :
    ∀ (n : Nat) (cur : List El) (ls st : List AV) (σ : Mem) (u v : Nat), sfx code cur → wpL w b d code At Rt Hx L xs KC KS n cur ls st σ u v → AtM w b p l e R s m args below meth c Q nL KC KS (pcO cur) ls st σ u v := by
  have hok2 := hok
  unfold okB at hok2
  rw [Bool.and_eq_true, List.all_eq_true] at hok2
  obtain ⟨hall, hch⟩ := hok2
  intro n
  induction n with
  | zero =>
    intro cur ls st σ u v _ h
    cases cur with
    | nil => exact h.elim
    | cons e tl => exact hAt _ _ _ _ _ _ h
  | succ n ih =>
    intro cur ls st σ u v hs h
    cases cur with
    | nil => exact h.elim
    | cons el tl =>
      have h : stp b code At Rt Hx (fun a kc ks as σ k kx => Ret w b d kc ks a as σ k kx) L xs KC KS (wpL w b d code At Rt Hx L xs KC KS n) (el :: tl) ls st σ u v := h
      have he := hall el hs.mem
      rw [Bool.and_eq_true] at he
      have hd := of_decide_eq_true he.1
      cases hb : spB el with
      | true => exact hsp ih hs hb hd h
      | false =>
        have hl : lkB own nm nL ret el = true := by have := he.2; rw [hb] at this; exact this
        exact snd_step C hown hw hnm hRf hRl hRc hRs hRt hAt hHx (fun _ _ _ _ _ _ _ z => z) ih hSld hSln hs hch hd hl hb h
end MTH
/-- the special instructions of a method, over the machine -/
def SpOK (w : Wd) (b : Bool) (d mm : Nat) (code : List El) (P : Option AV → Mem → Prop) (X : Nat → Mem → Prop) (KC KS : Nat) : Prop :=
  ∀ (p : Program) (e : Env) (s : State) (m : MethodId) (args : Array Value) (below : List Frame) (meth : Method) (c : Code) (At : At_t), Cx w p s m args meth c (ow_o mm) (ow_b mm) (ow_x mm) → (∀ x ∈ c.exceptionTable.toList, False) → (∀ q, q < wN w → s.heap[q]? = (wH w)[q]?) →
    ∀ {K : Kt}, (∀ cur ls st σ u v, sfx code cur → K cur ls st σ u v → AtM w b p (wLa w) e (Rm (d + 1) KC KS) s m args below meth c (vx_MQ below (Qcw w b P) (XCw w b X) args s KC KS (fre w)) (ow_x mm) KC KS (pcO cur) ls st σ u v) →
    (∀ pc ls st σ u v, At pc ls st σ u v → AtM w b p (wLa w) e (Rm (d + 1) KC KS) s m args below meth c (vx_MQ below (Qcw w b P) (XCw w b X) args s KC KS (fre w)) (ow_x mm) KC KS pc ls st σ u v) →
    ∀ {el : El} {tl : List El}, sfx code (el :: tl) → spB el = true → decode (ow_b mm) el.1 = .ok (el.2.2.2.1, el.2.1) → ∀ {ls st σ u v}, stp b code At P (fun _ E _ σ _ _ => X E σ) (fun a kc ks as σ k kx => Ret w b d kc ks a as σ k kx) 0 (fun _ => 0) KC KS K (el :: tl) ls st σ u v →
      AtM w b p (wLa w) e (Rm (d + 1) KC KS) s m args below meth c (vx_MQ below (Qcw w b P) (XCw w b X) args s KC KS (fre w)) (ow_x mm) KC KS el.1 ls st σ u v
theorem meth_gen {w : Wd} {b : Bool} {d KC KS mm : Nat} {code : List El} {as : List AV} {σ : Mem} {P : Option AV → Mem → Prop} {X : Nat → Mem → Prop} (hB : mtB mm code = true) (hly : (lyB as && Nat.ble (stS as) (ow_x mm)) = true) (hsp : SpOK w b d mm code P X KC KS)
    (h : ∀ At : At_t, (∀ n pc ls st σ u v, wpX w b d code At P (fun _ E _ σ _ _ => X E σ) KC KS n (seek code pc) ls st σ u v → At pc ls st σ u v) → At 0 (lay as (ow_x mm)) [] σ 0 0) : Ret w b (d + 1) KC KS mm as σ P X := by
  unfold mtB at hB
  simp only [Bool.and_eq_true, decide_eq_true_eq] at hB
  obtain ⟨⟨⟨⟨⟨h1, h2⟩, h3⟩, h4⟩, h5⟩, h6⟩ := hB
  have h2 : ow_o mm < 14 := by simp [Nat.blt] at h2; omega
  rw [Bool.and_eq_true] at hly
  refine vx_ofW (cc := ow_b mm) (maxL := ow_x mm) (ret := ow_r mm) (ws' := ow_T) h4 rfl ?_
  intro p e s m args below meth c s₁ B hml hout hPc
  obtain ⟨rfl, hR, hKF⟩ := hPc
  have hts : ∀ z ∈ ow_T, z.before ((as.map (cv w)).toArray) s = true := fun z hz => atoms_spec (ws := wsT mm) B.pre z (List.mem_cons_of_mem _ hz)
  have hown : s.vm.findClass (ow_on (ow_o mm)) = some m.cls := by rw [← h3]; exact findClass_of_methodNamed B.named
  have hlocks := B.notSynchronized
  have hr := B.returns
  have C : Cx w p s m ((as.map (cv w)).toArray) meth c (ow_o mm) (ow_b mm) (ow_x mm) := ⟨B.exec, B.bytes, hml, hown, hts, hKF, hlocks⟩
  have hnm : meth.name = (ow_y mm).name := (name_of_methodNamed B.named B.method).1
  have hRt : RtM w b p (wLa w) e (Rm (d + 1) KC KS) s m ((as.map (cv w)).toArray) below meth c (vx_MQ below (Qcw w b P) (XCw w b X) ((as.map (cv w)).toArray) s KC KS (fre w)) (ow_x mm) KC KS (ow_b mm) (ow_r mm) P := by
    refine ⟨fun h0 => ?_, fun h0 => ?_, fun h0 => ?_, fun h0 => ?_, fun h0 => ?_⟩
    · intro pc ls σ u v hd hP hu hv H lsM locs hR hL hf
      exact W.widen hu hv (vx_ret (W.vret C.1 C.2.1 (hr.trans h0) (fun t ht _ => ⟨none, σ, rfl, by rw [ht]; exact hR, hP⟩) hf hd hlocks))
    · intro pc ls x σ u v hd hP hu hv H lsM locs hR hL hf
      exact W.widen hu hv (vx_ret (W.iret C.1 C.2.1 (hr.trans h0) (fun t ht _ => ⟨some (.int x), σ, rfl, by rw [ht]; exact hR, hP⟩) hf hd hlocks))
    · intro pc ls x σ u v hd hn hP hu hv H lsM locs hR hL hf
      exact W.widen hu hv (vx_ret (W.zret C.1 C.2.1 (hr.trans h0) hn (fun t ht _ => ⟨some (.int x), σ, rfl, by rw [ht]; exact hR, hP⟩) hf hd hlocks))
    · intro pc ls x σ u v hd hP hu hv H lsM locs hR hL hf
      exact W.widen hu hv (vx_ret (W.lret C.1 C.2.1 (hr.trans h0) (fun t ht _ => ⟨some (.long x), σ, rfl, by rw [ht]; exact hR, hP⟩) hf hd hlocks))
    · obtain ⟨cn, h0⟩ := h0
      intro pc ls z σ u v hd hz hP hu hv H lsM locs hR hL hf
      have hz2 : ∃ a, cv w z = .ref a := by rcases hz with ⟨x, rfl⟩ | ⟨t, rfl⟩ <;> exact ⟨_, rfl⟩
      exact W.widen hu hv (vx_ret (W.aret C.1 C.2.1 (hr.trans h0) (Or.inl ⟨cn, rfl⟩) (Or.inr hz2) (fun t ht _ => ⟨some z, σ, rfl, by rw [ht]; exact hR, hP⟩) hf hd hlocks))
  have hHx : ∀ pc E ls σ u v, X E σ → AtX w b p (wLa w) e (Rm (d + 1) KC KS) s m ((as.map (cv w)).toArray) below meth c (vx_MQ below (Qcw w b P) (XCw w b X) ((as.map (cv w)).toArray) s KC KS (fre w)) (ow_x mm) KC KS pc E ls σ u v := by
    intro pc E ls σ u v hX hu hv H lsM locs rest q ce hR hL hf hce hcv hcl hE
    exact vx_out (E := ow_ex E) (fun x hx => (hout x hx).elim) hlocks hce hcv hcl (fun t ht _ => ⟨E, σ, hE, rfl, by rw [ht]; exact hR, hX⟩) hf hu hv
  have hl0 : LR w (ow_x mm) (lay as (ow_x mm)) ((lg_sl (as.map (cv w)) ++ List.replicate (ow_x mm - (lg_sl (as.map (cv w))).length) Slot.unset).toArray) := by
    have hle : (lg_sl (as.map (cv w))).length ≤ ow_x mm := by rw [lg_len]; exact Nat.le_of_ble_eq_true hly.2
    obtain ⟨g1, g2, g3⟩ := lv_entry (as.map (cv w)) hle
    refine ⟨g1, g2, fun i hi => ?_⟩
    have := g3 _ (lay_spec w as (ow_x mm) i 0 hly.1 hi)
    rw [Nat.zero_add] at this
    exact this
  have key := h (AtM w b p (wLa w) e (Rm (d + 1) KC KS) s m ((as.map (cv w)).toArray) below meth c (vx_MQ below (Qcw w b P) (XCw w b X) ((as.map (cv w)).toArray) s KC KS (fre w)) (ow_x mm) KC KS) ?_ (Nat.zero_le _) (Nat.zero_le _) s.heap _ [] hR hl0 (fun q hq => by cases hq)
  · rw [lg_entry_eq]
    exact key
  · intro n pc ls st σ u v hw
    have hseek : ∀ cur st' ls' σ' u' v', sfx code cur → wpX w b d code _ P (fun _ E _ σ _ _ => X E σ) KC KS n cur ls' st' σ' u' v' → _ := fun cur st' ls' σ' u' v' hs hh =>
      snd_wp (Hx := fun _ E _ σ _ _ => X E σ) C h2 rfl hnm (Nat.le_refl _) (Nat.le_refl _) rfl rfl hRt (fun _ _ _ _ _ _ z => z) hHx (fun _ _ (z : vp_in _ (0 - 1)) _ => absurd (vp_lt z) (Nat.not_lt_zero _)) (fun _ z => absurd z (Nat.lt_irrefl 0)) h5 (fun {K} hK {el tl} hs hb hd {ls st σ u v} hst => hsp p e s m _ below meth c _ C hout hR.2.1 hK (fun _ _ _ _ _ _ z => z) hs hb hd hst) n cur ls' st' σ' u' v' hs hh
    have hfin := hseek (seek code pc) st ls σ u v seek_sfx hw
    cases hq : seek code pc with
    | nil =>
      rw [hq] at hw
      cases n with
      | zero => exact hw.elim
      | succ n => exact hw.elim
    | cons f tl => rw [hq] at hfin; rw [← seek_hd hq]; exact hfin
theorem sp_none {w : Wd} {b : Bool} {d mm : Nat} {code : List El} {P : Option AV → Mem → Prop} {X : Nat → Mem → Prop} {KC KS : Nat} (h : plB code = true) : SpOK w b d mm code P X KC KS := by
  intro p e s m args below meth c At C hout _ K hK hAt el tl hs hb
  have := List.all_eq_true.mp h el hs.mem
  rw [hb] at this; cases this
theorem meth_ok {w : Wd} {b : Bool} {d KC KS mm : Nat} (code : List El) {as : List AV} {σ : Mem} {P : Option AV → Mem → Prop} {X : Nat → Mem → Prop} (hB : (mtB mm code && plB code) = true) (hly : (lyB as && Nat.ble (stS as) (ow_x mm)) = true)
    (h : ∀ At : At_t, (∀ n pc ls st σ u v, wpX w b d code At P (fun _ E _ σ _ _ => X E σ) KC KS n (seek code pc) ls st σ u v → At pc ls st σ u v) → At 0 (lay as (ow_x mm)) [] σ 0 0) : Ret w b (d + 1) KC KS mm as σ P X := by
  rw [Bool.and_eq_true] at hB
  exact meth_gen hB.1 hly (sp_none hB.2) h
