/-! SOUNDNESS: one instruction, any stretch -/
section SND6
variable {w : Wd} {b : Bool} {p : Program} {l : Launch} {e : Env} {R : Room} {s : State} {m : MethodId} {args : Array Value} {below : List Frame} {meth : Method} {c : Code} {Q : State → Prop} {own nL KC KS d : Nat} {bytes : ByteArray} {nm : String} {ret : Option FieldType}
variable {code : List El} {At : At_t} {Rt : Option AV → Mem → Prop} {Hx : Nat → Nat → List AV → Mem → Nat → Nat → Prop} {Cl : Cl_t}
/-- where a method ends -/
def RtM (w : Wd) (b : Bool) (p : Program) (l : Launch) (e : Env) (R : Room) (s : State) (m : MethodId) (args : Array Value) (below : List Frame) (meth : Method) (c : Code) (Q : State → Prop) (nL KC KS : Nat) (bytes : ByteArray) (ret : Option FieldType) (Rt : Option AV → Mem → Prop) : Prop :=
  (ret = none → ∀ {pc ls σ u v}, decode bytes pc = .ok (.return_, 1) → Rt none σ → AtM w b p l e R s m args below meth c Q nL KC KS pc ls [] σ u v) ∧
  (ret = some .int → ∀ {pc ls x σ u v}, decode bytes pc = .ok (.ireturn, 1) → Rt (some (.int x)) σ → AtM w b p l e R s m args below meth c Q nL KC KS pc ls [.int x] σ u v) ∧
  (ret = some .boolean → ∀ {pc ls x σ u v}, decode bytes pc = .ok (.ireturn, 1) → narrow .boolean (.int x) = .int x → Rt (some (.int x)) σ → AtM w b p l e R s m args below meth c Q nL KC KS pc ls [.int x] σ u v) ∧
  (ret = some .long → ∀ {pc ls x σ u v}, decode bytes pc = .ok (.lreturn, 1) → Rt (some (.long x)) σ → AtM w b p l e R s m args below meth c Q nL KC KS pc ls [.long x] σ u v) ∧
  ((∃ n, ret = some (.object n)) → ∀ {pc ls z σ u v}, decode bytes pc = .ok (.areturn, 1) → ((∃ x, z = .ref x) ∨ ∃ t, z = .float t) → Rt (some z) σ → AtM w b p l e R s m args below meth c Q nL KC KS pc ls [z] σ u v)
theorem swT_spec {x : Int32} {N : Nat → Prop} : ∀ {i : Nat} {ts : List Nat}, swT x N i ts → ∀ k t, ts[k]? = some t → x = nI (i + k) → N t
  | _, t0 :: ts, h, 0, t, ht, hx => by cases ht; exact h.1 hx
  | i, t0 :: ts, h, k + 1, t, ht, hx => swT_spec h.2 k t ht (by rw [hx]; congr 1; omega)
theorem swL_spec {x : Int32} {N : Nat → Prop} {P : Prop} {d : Int} : ∀ {ts : List Nat}, swL x N ts → swN x ts P → oddB ts = true → (∀ q ∈ pairs ts, 0 ≤ q.1 ∧ q.1 < 1000) →
    (∃ t, N t ∧ ∃ i, x = nI i ∧ Op.lookupswitch.offset ((pairs ts).map fun q => (q.1, (q.2 : Int))) d x.toInt = (t : Int)) ∨ (P ∧ Op.lookupswitch.offset ((pairs ts).map fun q => (q.1, (q.2 : Int))) d x.toInt = d)
  | [], _, h, _, _ => Or.inr ⟨h, rfl⟩
  | [_], _, _, h, _ => by cases h
  | i :: t :: ts, h1, h2, h3, h4 => by
    have hi := h4 ((i : Int), t) List.mem_cons_self
    have hx : (nI i).toInt = (i : Int) := nI_toInt (by have := hi.2; omega)
    by_cases e : x = nI i
    · refine Or.inl ⟨t, h1.1 e, i, e, ?_⟩
      subst e
      simp only [pairs, List.map_cons, Op.lookupswitch.offset, hx]
      simp
    · have hne : ¬ x.toInt = (i : Int) := fun q => e (Int32.toInt_inj.mp (by rw [hx]; exact q))
      have hstep : Op.lookupswitch.offset ((pairs (i :: t :: ts)).map fun q => (q.1, (q.2 : Int))) d x.toInt = Op.lookupswitch.offset ((pairs ts).map fun q => (q.1, (q.2 : Int))) d x.toInt := by
        simp only [pairs, List.map_cons, Op.lookupswitch.offset]
        simp [hne, Ne.symm hne]
      rw [hstep]
      exact swL_spec (ts := ts) h1.2 (h2 e) h3 (fun q hq => h4 q (List.mem_cons_of_mem _ hq))

theorem ldA_sp {ls : List AV} {i : Nat} {k : AV → Prop} (h : ldA ls i k) : ∃ z, ((∃ x, z = Value.ref x) ∨ ∃ t, z = Value.float t) ∧ gt ls i = z ∧ k z := by
  unfold ldA at h
  cases hg : gt ls i <;> rw [hg] at h <;> first | exact ⟨_, Or.inl ⟨_, rfl⟩, rfl, h⟩ | exact ⟨_, Or.inr ⟨_, rfl⟩, rfl, h⟩ | exact h.elim
theorem ldI_sp {ls : List AV} {i : Nat} {k : Int32 → Prop} (h : ldI ls i k) : ∃ x, gt ls i = .int x ∧ k x := by
  unfold ldI at h
  cases hg : gt ls i <;> rw [hg] at h <;> first | exact ⟨_, rfl, h⟩ | exact h.elim
theorem ldL_sp {ls : List AV} {i : Nat} {k : Int64 → Prop} (h : ldL ls i k) : ∃ x, gt ls i = .long x ∧ k x := by
  unfold ldL at h
  cases hg : gt ls i <;> rw [hg] at h <;> first | exact ⟨_, rfl, h⟩ | exact h.elim
theorem unI_sp {st : List AV} {k : Int32 → List AV → Prop} (h : unI st k) : ∃ x r, st = .int x :: r ∧ k x r := by
  unfold unI at h
  split at h <;> first | exact ⟨_, _, rfl, h⟩ | exact h.elim
theorem unL_sp {st : List AV} {k : Int64 → List AV → Prop} (h : unL st k) : ∃ x r, st = .long x :: r ∧ k x r := by
  unfold unL at h
  split at h <;> first | exact ⟨_, _, rfl, h⟩ | exact h.elim
theorem unR_sp {st : List AV} {k : Nat → List AV → Prop} (h : unR st k) : ∃ x r, st = .ref x :: r ∧ k x r := by
  unfold unR at h
  split at h <;> first | exact ⟨_, _, rfl, h⟩ | exact h.elim
theorem bin_sp {st : List AV} {k : Int32 → Int32 → List AV → Prop} (h : bin st k) : ∃ x y r, st = .int y :: .int x :: r ∧ k x y r := by
  unfold bin at h
  split at h <;> first | exact ⟨_, _, _, rfl, h⟩ | exact h.elim
theorem binL_sp {st : List AV} {k : Int64 → Int64 → List AV → Prop} (h : binL st k) : ∃ x y r, st = .long y :: .long x :: r ∧ k x y r := by
  unfold binL at h
  split at h <;> first | exact ⟨_, _, _, rfl, h⟩ | exact h.elim
theorem s_ldcS (C : Cx w p s m args meth c own bytes nL) {pc i t u v : Nat} {ls st : List AV} {σ : Mem} (hm : (own, i, t) ∈ ow_strs) (ht : t < 1000) (hd : decode bytes pc = .ok (.ldc i, 2)) (kk : AtM w b p l e R s m args below meth c Q nL KC KS (pc + 2) ls (.float (UInt32.ofNat t) :: st) σ u v) : AtM w b p l e R s m args below meth c Q nL KC KS pc ls st σ u v := by
  intro hu hv H lsM locs hR hLR hf
  have ht' : (UInt32.ofNat t).toNat = t := by
    first | exact UInt32.toNat_ofNat_of_lt' (by omega) | exact UInt32.toNat_ofNat_of_lt (by omega) | (simp [UInt32.toNat_ofNat']; omega)
  have hz := C.2.2.2.2.2.1.2.2.2.2.2.2.2.2.2.2.2 _ hm
  have := kk hu hv H lsM locs hR hLR hf
  refine va_ldcS C.1 C.2.1 C.2.2.2.1 hz hd ?_
  have e1 : cv w (.float (UInt32.ofNat t)) = .ref (wS w t) := by show Value.ref (wS w (UInt32.ofNat t).toNat) = _; rw [ht']
  rw [List.map_cons, e1] at this
  exact this
theorem s_slen (C : Cx w p s m args meth c own bytes nL) : True := trivial
set_option maxHeartbeats 4000000 in
theorem snd_step (C : Cx w p s m args meth c own bytes nL) (hown : own < 14) (hw : wLa w = l) (hnm : meth.name = nm) (hRf : R.frames = d + 1) (hRl : R.locals = 40 * (d + 1)) (hRc : R.cells = KC) (hRs : R.slots = KS) (hRt : RtM w b p l e R s m args below meth c Q nL KC KS bytes ret Rt)
    (hAt : ∀ pc ls st σ u v, At pc ls st σ u v → AtM w b p l e R s m args below meth c Q nL KC KS pc ls st σ u v) (hHx : ∀ pc E ls σ u v, Hx pc E ls σ u v → AtX w b p l e R s m args below meth c Q nL KC KS pc E ls σ u v)
    (hCl : ∀ a kc ks as σ k kx, Cl a kc ks as σ k kx → Ret w b d kc ks a as σ k kx) {K : Kt} (hK : ∀ cur ls st σ u v, sfx code cur → K cur ls st σ u v → AtM w b p l e R s m args below meth c Q nL KC KS (pcO cur) ls st σ u v)
    (hSld : ∀ {pc ls st σ u v t} {i : Int32}, decode bytes pc = .ok (.iaload, 1) → vp_in i (wL1 w) → AtM w b p l e R s m args below meth c Q nL KC KS (pc + 1) ls (.int (wXs w i.toNatClampNeg) :: st) σ u v → AtM w b p l e R s m args below meth c Q nL KC KS pc ls (.int i :: .float t :: st) σ u v)
    (hSln : ∀ {pc ls st σ u v t}, decode bytes pc = .ok (.arraylength, 1) → AtM w b p l e R s m args below meth c Q nL KC KS (pc + 1) ls (.int (nI (wL1 w)) :: st) σ u v → AtM w b p l e R s m args below meth c Q nL KC KS pc ls (.float t :: st) σ u v)
    {el : El} {tl : List El} (hs : sfx code (el :: tl)) (hch : chB code = true) (hd : decode bytes el.1 = .ok (el.2.2.2.1, el.2.1)) (hlk : lkB own nm nL ret el = true) (hsp : spB el = false) {ls st : List AV} {σ : Mem} {u v : Nat}
    (h : stp b code At Rt Hx Cl (wL1 w) (wXs w) KC KS K (el :: tl) ls st σ u v) : AtM w b p l e R s m args below meth c Q nL KC KS el.1 ls st σ u v := by
  obtain ⟨pc, len, ct, ins, a, bb, cc, ts⟩ := el
  have hN : ∀ ls st σ u v, nx At K tl ls st σ u v → AtM w b p l e R s m args below meth c Q nL KC KS (pc + len) ls st σ u v := by
    intro ls st σ u v h
    cases htl : tl with
    | nil => rw [htl] at h; exact h.elim
    | cons f tl' =>
      obtain ⟨pre, hp⟩ := hs
      have h1 : pc + len = f.1 := by
        have := chB_sfx (pre := pre) (by rw [← hp]; exact hch)
        rw [htl] at this
        simp only [chB, Bool.and_eq_true] at this
        exact Nat.eq_of_beq_eq_true this.1
      rw [htl] at h
      rw [h1]
      unfold nx at h
      cases hf : f.2.2.1 with
      | true => simp only [hf] at h; exact hAt _ _ _ _ _ _ h
      | false => simp only [hf] at h; exact hK (f :: tl') ls st σ u v (by rw [← htl]; exact sfx.tl ⟨pre, hp⟩) h
  have hJ : ∀ t ls st σ u v, nx At K (seek code t) ls st σ u v → AtM w b p l e R s m args below meth c Q nL KC KS t ls st σ u v := by
    intro t ls st σ u v h
    cases htl : seek code t with
    | nil => rw [htl] at h; exact h.elim
    | cons f tl' =>
      have h1 := seek_hd htl
      rw [htl] at h
      rw [← h1]
      unfold nx at h
      cases hf : f.2.2.1 with
      | true => simp only [hf] at h; exact hAt _ _ _ _ _ _ h
      | false => simp only [hf] at h; exact hK (f :: tl') ls st σ u v (by rw [← htl]; exact seek_sfx) h
  have hRf1 : d + 1 ≤ R.frames := by omega
  have hRl1 : 40 * (d + 1) ≤ R.locals := by omega
  dsimp only at hd
  dsimp only
  cases ins
  case aload_n k =>
    obtain ⟨rfl, rfl⟩ := of_decide_eq_true hlk
    have h : ldA ls k (fun z => nx At K tl ls (z :: st) σ u v) := h
    obtain ⟨z, hz, hg, hk⟩ := ldA_sp h
    rcases hz with ⟨x, hz⟩ | ⟨t, hz⟩
    · exact s_aload_n (x := x) C hd (Or.inl hz) hg (hN _ _ _ _ _ hk)
    · exact s_aload_n (x := 0) C hd (Or.inr ⟨t, hz⟩) hg (hN _ _ _ _ _ hk)
  case aload k =>
    obtain ⟨rfl, rfl⟩ := of_decide_eq_true hlk
    have h : ldA ls a (fun z => nx At K tl ls (z :: st) σ u v) := h
    obtain ⟨z, hz, hg, hk⟩ := ldA_sp h
    rcases hz with ⟨x, hz⟩ | ⟨t, hz⟩
    · exact s_aload (x := x) C hd (Or.inl hz) hg (hN _ _ _ _ _ hk)
    · exact s_aload (x := 0) C hd (Or.inr ⟨t, hz⟩) hg (hN _ _ _ _ _ hk)
  case iload_n k =>
    obtain ⟨rfl, rfl⟩ := of_decide_eq_true hlk
    obtain ⟨x, hg, hk⟩ := ldI_sp h
    exact s_iload_n C hd hg (hN _ _ _ _ _ hk)
  case iload k =>
    obtain ⟨rfl, rfl⟩ := of_decide_eq_true hlk
    obtain ⟨x, hg, hk⟩ := ldI_sp h
    exact s_iload C hd hg (hN _ _ _ _ _ hk)
  case lload_n k =>
    obtain ⟨rfl, rfl⟩ := of_decide_eq_true hlk
    obtain ⟨x, hg, hk⟩ := ldL_sp h
    exact s_lload_n C hd hg (hN _ _ _ _ _ hk)
  case lload k =>
    obtain ⟨rfl, rfl⟩ := of_decide_eq_true hlk
    obtain ⟨x, hg, hk⟩ := ldL_sp h
    exact s_lload C hd hg (hN _ _ _ _ _ hk)
  case istore_n k =>
    obtain ⟨rfl, rfl, hk'⟩ := of_decide_eq_true hlk
    obtain ⟨x, r, rfl, hk⟩ := unI_sp h
    exact s_istore_n C hk' hd (hN _ _ _ _ _ hk)
  case istore k =>
    obtain ⟨rfl, rfl, hk'⟩ := of_decide_eq_true hlk
    obtain ⟨x, r, rfl, hk⟩ := unI_sp h
    exact s_istore C hk' hd (hN _ _ _ _ _ hk)
  case lstore_n k =>
    obtain ⟨rfl, rfl, hk'⟩ := of_decide_eq_true hlk
    obtain ⟨x, r, rfl, hk⟩ := unL_sp h
    exact s_lstore_n C hk' hd (hN _ _ _ _ _ hk)
  case lstore k =>
    obtain ⟨rfl, rfl, hk'⟩ := of_decide_eq_true hlk
    obtain ⟨x, r, rfl, hk⟩ := unL_sp h
    exact s_lstore C hk' hd (hN _ _ _ _ _ hk)
  case astore_n k =>
    obtain ⟨rfl, rfl, hk'⟩ := of_decide_eq_true hlk
    match st, h with
    | .ref x :: r, h => exact s_astore_n (x := x) C (Or.inl rfl) hk' hd (hN _ _ _ _ _ h)
    | .float x :: r, h => exact s_astore_n (x := 0) C (Or.inr ⟨x, rfl⟩) hk' hd (hN _ _ _ _ _ h)
  case astore k =>
    obtain ⟨rfl, rfl, hk'⟩ := of_decide_eq_true hlk
    match st, h with
    | .ref x :: r, h => exact s_astore (x := x) C (Or.inl rfl) hk' hd (hN _ _ _ _ _ h)
    | .float x :: r, h => exact s_astore (x := 0) C (Or.inr ⟨x, rfl⟩) hk' hd (hN _ _ _ _ _ h)
  case iconst n =>
    obtain ⟨rfl, h1 | h1⟩ := of_decide_eq_true hlk
    · obtain ⟨rfl, rfl⟩ := h1
      exact fun hu hv H lsM locs hR hL hf => lv_iconst C.1 C.2.1 hd (Int32_ofInt_nat a) (hN _ _ _ _ _ h hu hv H lsM locs hR hL hf)
    · obtain ⟨h1, rfl⟩ := h1
      obtain ⟨cc', rfl⟩ : ∃ z, cc = z + 1 := ⟨cc - 1, by omega⟩
      exact fun hu hv H lsM locs hR hL hf => lv_iconst (v := -1) C.1 C.2.1 hd (by decide) (hN _ _ _ _ _ h hu hv H lsM locs hR hL hf)
  case bipush n =>
    obtain ⟨rfl, rfl, h1⟩ := of_decide_eq_true hlk
    have e1 : (Int8.ofInt (a : Int)).toInt32 = nI a := by
      have : ∀ z : Nat, z ≤ 127 → (Int8.ofInt (z : Int)).toInt32 = nI z := by decide +kernel
      exact this a h1
    exact fun hu hv H lsM locs hR hL hf => lv_bipush C.1 C.2.1 hd e1 (hN _ _ _ _ _ h hu hv H lsM locs hR hL hf)
  case sipush n =>
    obtain ⟨rfl, rfl, h1⟩ := of_decide_eq_true hlk
    have e1 : (Int16.ofInt (a : Int)).toInt32 = nI a := by
      apply Int32.toInt_inj.mp
      rw [Int16.toInt_toInt32, nI_toInt (by omega), Int16.toInt_ofInt]
      have hs16 : Int16.size = 65536 := rfl
      rw [Int.bmod_eq_of_le] <;> omega
    exact fun hu hv H lsM locs hR hL hf => lv_sipush C.1 C.2.1 hd e1 (hN _ _ _ _ _ h hu hv H lsM locs hR hL hf)
  case lconst n =>
    obtain ⟨rfl, rfl⟩ := of_decide_eq_true hlk
    exact fun hu hv H lsM locs hR hL hf => lv_lconst C.1 C.2.1 hd rfl (hN _ _ _ _ _ h hu hv H lsM locs hR hL hf)
  case ldc i =>
    obtain ⟨rfl, -, h1 | h1⟩ := of_decide_eq_true hlk
    · obtain ⟨rfl, h1⟩ := h1
      exact fun hu hv H lsM locs hR hL hf => lv_ldc C.1 C.2.1 C.2.2.2.1 (C.2.2.2.2.1 _ (ow_al.get ow_cst_al h1)) hd (hN _ _ _ _ _ h hu hv H lsM locs hR hL hf)
    · obtain ⟨h1, h2, h3⟩ := h1
      obtain ⟨cc', rfl⟩ : ∃ z, cc = z + 1 := ⟨cc - 1, by omega⟩
      exact s_ldcS C h2 h3 hd (hN _ _ _ _ _ h)
  case ldc_w i =>
    obtain ⟨rfl, h1⟩ := of_decide_eq_true hlk
    exact fun hu hv H lsM locs hR hL hf => lv_ldcw C.1 C.2.1 C.2.2.2.1 (C.2.2.2.2.1 _ (ow_al.get ow_cst_al h1)) hd (hN _ _ _ _ _ h hu hv H lsM locs hR hL hf)
  case ldc2_w i =>
    obtain ⟨rfl, h1 | h1⟩ := of_decide_eq_true hlk
    · obtain ⟨rfl, h1⟩ := h1
      have h2 := ow_al.get ow_cstl_al h1
      have e1 : Int64.ofInt (a : Int) = lN a := by first | rfl | exact Int64.ofInt_eq_ofNat | simp [lN, Int64.ofInt_eq_ofNat]
      rw [e1] at h2
      exact fun hu hv H lsM locs hR hL hf => lv_ldc2 C.1 C.2.1 C.2.2.2.1 (C.2.2.2.2.1 _ h2) hd (hN _ _ _ _ _ h hu hv H lsM locs hR hL hf)
    · obtain ⟨h0, h1⟩ := h1
      obtain ⟨cc', rfl⟩ : ∃ z, cc = z + 1 := ⟨cc - 1, by omega⟩
      have h2 := ow_al.get ow_cstl_al h1
      have e1 : Int64.ofInt (- (a : Int)) = - lN a := by
        rw [Int64.ofInt_neg]
        first | rfl | simp [lN, Int64.ofInt_eq_ofNat]
      rw [e1] at h2
      exact fun hu hv H lsM locs hR hL hf => lv_ldc2 C.1 C.2.1 C.2.2.2.1 (C.2.2.2.2.1 _ h2) hd (hN _ _ _ _ _ h hu hv H lsM locs hR hL hf)
  case iinc k n =>
    obtain ⟨rfl, rfl, h1⟩ := of_decide_eq_true hlk
    obtain ⟨x, hg, hk⟩ := ldI_sp h
    rcases h1 with ⟨rfl, rfl⟩ | ⟨h1, rfl⟩
    · exact s_iinc (y := x + nI bb) C hd hg (by rw [Int32_ofInt_nat]) (hN _ _ _ _ _ hk)
    · obtain ⟨cc', rfl⟩ : ∃ z, cc = z + 1 := ⟨cc - 1, by omega⟩
      exact s_iinc (y := x - nI bb) C hd hg (by rw [Int32.ofInt_neg, Int32_ofInt_nat, Int32.sub_eq_add_neg]) (hN _ _ _ _ _ hk)
  case iadd =>
    obtain rfl := of_decide_eq_true hlk
    obtain ⟨x, y, r, rfl, hk⟩ := bin_sp h
    exact fun hu hv H lsM locs hR hL hf => lv_iadd C.1 C.2.1 hd  (hN _ _ _ _ _ hk hu hv H lsM locs hR hL hf)
  case isub =>
    obtain rfl := of_decide_eq_true hlk
    obtain ⟨x, y, r, rfl, hk⟩ := bin_sp h
    exact fun hu hv H lsM locs hR hL hf => lv_isub C.1 C.2.1 hd  (hN _ _ _ _ _ hk hu hv H lsM locs hR hL hf)
  case imul =>
    obtain rfl := of_decide_eq_true hlk
    obtain ⟨x, y, r, rfl, hk⟩ := bin_sp h
    exact fun hu hv H lsM locs hR hL hf => lv_imul C.1 C.2.1 hd  (hN _ _ _ _ _ hk hu hv H lsM locs hR hL hf)
  case iand =>
    obtain rfl := of_decide_eq_true hlk
    obtain ⟨x, y, r, rfl, hk⟩ := bin_sp h
    exact fun hu hv H lsM locs hR hL hf => lv_iand C.1 C.2.1 hd  (hN _ _ _ _ _ hk hu hv H lsM locs hR hL hf)
  case ior =>
    obtain rfl := of_decide_eq_true hlk
    obtain ⟨x, y, r, rfl, hk⟩ := bin_sp h
    exact fun hu hv H lsM locs hR hL hf => lv_ior C.1 C.2.1 hd  (hN _ _ _ _ _ hk hu hv H lsM locs hR hL hf)
  case ishl =>
    obtain rfl := of_decide_eq_true hlk
    obtain ⟨x, y, r, rfl, hk⟩ := bin_sp h
    exact fun hu hv H lsM locs hR hL hf => lv_ishl C.1 C.2.1 hd  (hN _ _ _ _ _ hk hu hv H lsM locs hR hL hf)
  case ishr =>
    obtain rfl := of_decide_eq_true hlk
    obtain ⟨x, y, r, rfl, hk⟩ := bin_sp h
    exact fun hu hv H lsM locs hR hL hf => lv_ishr C.1 C.2.1 hd  (hN _ _ _ _ _ hk hu hv H lsM locs hR hL hf)
  case iushr =>
    obtain rfl := of_decide_eq_true hlk
    obtain ⟨x, y, r, rfl, hk⟩ := bin_sp h
    exact fun hu hv H lsM locs hR hL hf => lv_iushr C.1 C.2.1 hd rfl (hN _ _ _ _ _ hk hu hv H lsM locs hR hL hf)
  case idiv =>
    obtain rfl := of_decide_eq_true hlk
    obtain ⟨x, y, r, rfl, hne, hk⟩ := bin_sp h
    exact fun hu hv H lsM locs hR hL hf => lv_idiv C.1 C.2.1 hd hne (hN _ _ _ _ _ hk hu hv H lsM locs hR hL hf)
  case irem =>
    obtain rfl := of_decide_eq_true hlk
    obtain ⟨x, y, r, rfl, hne, hk⟩ := bin_sp h
    exact fun hu hv H lsM locs hR hL hf => lv_irem C.1 C.2.1 hd hne (hN _ _ _ _ _ hk hu hv H lsM locs hR hL hf)
  case ladd =>
    obtain rfl := of_decide_eq_true hlk
    obtain ⟨x, y, r, rfl, hk⟩ := binL_sp h
    exact fun hu hv H lsM locs hR hL hf => lv_ladd C.1 C.2.1 hd (hN _ _ _ _ _ hk hu hv H lsM locs hR hL hf)
  case lsub =>
    obtain rfl := of_decide_eq_true hlk
    obtain ⟨x, y, r, rfl, hk⟩ := binL_sp h
    exact fun hu hv H lsM locs hR hL hf => lv_lsub C.1 C.2.1 hd (hN _ _ _ _ _ hk hu hv H lsM locs hR hL hf)
  case lmul =>
    obtain rfl := of_decide_eq_true hlk
    obtain ⟨x, y, r, rfl, hk⟩ := binL_sp h
    exact fun hu hv H lsM locs hR hL hf => lv_lmul C.1 C.2.1 hd (hN _ _ _ _ _ hk hu hv H lsM locs hR hL hf)
  case land =>
    obtain rfl := of_decide_eq_true hlk
    obtain ⟨x, y, r, rfl, hk⟩ := binL_sp h
    exact fun hu hv H lsM locs hR hL hf => lv_land C.1 C.2.1 hd (hN _ _ _ _ _ hk hu hv H lsM locs hR hL hf)
  case lor =>
    obtain rfl := of_decide_eq_true hlk
    obtain ⟨x, y, r, rfl, hk⟩ := binL_sp h
    exact fun hu hv H lsM locs hR hL hf => lv_lor C.1 C.2.1 hd (hN _ _ _ _ _ hk hu hv H lsM locs hR hL hf)
  case lcmp =>
    obtain rfl := of_decide_eq_true hlk
    obtain ⟨x, y, r, rfl, hk⟩ := binL_sp h
    exact fun hu hv H lsM locs hR hL hf => W.lcmp C.1 C.2.1 hd (hN _ _ _ _ _ hk hu hv H lsM locs hR hL hf)
  case ldiv =>
    obtain rfl := of_decide_eq_true hlk
    obtain ⟨x, y, r, rfl, hne, hk⟩ := binL_sp h
    exact fun hu hv H lsM locs hR hL hf => lv_ldiv C.1 C.2.1 hd hne (hN _ _ _ _ _ hk hu hv H lsM locs hR hL hf)
  case lrem =>
    obtain rfl := of_decide_eq_true hlk
    obtain ⟨x, y, r, rfl, hne, hk⟩ := binL_sp h
    exact fun hu hv H lsM locs hR hL hf => lv_lrem C.1 C.2.1 hd hne (hN _ _ _ _ _ hk hu hv H lsM locs hR hL hf)
  case ineg =>
    obtain rfl := of_decide_eq_true hlk
    obtain ⟨x, r, rfl, hk⟩ := unI_sp h
    exact fun hu hv H lsM locs hR hL hf => lv_ineg C.1 C.2.1 hd (hN _ _ _ _ _ hk hu hv H lsM locs hR hL hf)
  case i2l =>
    obtain rfl := of_decide_eq_true hlk
    obtain ⟨x, r, rfl, hk⟩ := unI_sp h
    exact fun hu hv H lsM locs hR hL hf => lv_i2l C.1 C.2.1 hd rfl (hN _ _ _ _ _ hk hu hv H lsM locs hR hL hf)
  case l2i =>
    obtain rfl := of_decide_eq_true hlk
    obtain ⟨x, r, rfl, hk⟩ := unL_sp h
    exact fun hu hv H lsM locs hR hL hf => lv_l2i C.1 C.2.1 hd rfl (hN _ _ _ _ _ hk hu hv H lsM locs hR hL hf)
  case lshl =>
    obtain rfl := of_decide_eq_true hlk
    match st, h with
    | .int y :: .long x :: r, h => exact fun hu hv H lsM locs hR hL hf => lv_lshl C.1 C.2.1 hd rfl (hN _ _ _ _ _ h hu hv H lsM locs hR hL hf)
  case lushr =>
    obtain rfl := of_decide_eq_true hlk
    match st, h with
    | .int y :: .long x :: r, h => exact fun hu hv H lsM locs hR hL hf => lv_lushr C.1 C.2.1 hd rfl (hN _ _ _ _ _ h hu hv H lsM locs hR hL hf)
  case dup =>
    obtain rfl := of_decide_eq_true hlk
    match st, h with
    | .ref x :: r, h => exact fun hu hv H lsM locs hR hL hf => lv_dup C.1 C.2.1 hd rfl (hN _ _ _ _ _ h hu hv H lsM locs hR hL hf)
    | .int x :: r, h => exact fun hu hv H lsM locs hR hL hf => lv_dup C.1 C.2.1 hd rfl (hN _ _ _ _ _ h hu hv H lsM locs hR hL hf)
  case dup2 =>
    obtain rfl := of_decide_eq_true hlk
    match st, h with
    | .long x :: r, h => exact fun hu hv H lsM locs hR hL hf => lv_dup2_2 C.1 C.2.1 hd rfl (hN _ _ _ _ _ h hu hv H lsM locs hR hL hf)
    | .int y :: .ref x :: r, h => exact fun hu hv H lsM locs hR hL hf => lv_dup2_11 C.1 C.2.1 hd rfl rfl (hN _ _ _ _ _ h hu hv H lsM locs hR hL hf)
  case pop =>
    obtain rfl := of_decide_eq_true hlk
    match st, h with
    | .int x :: r, h => exact fun hu hv H lsM locs hR hL hf => lv_pop C.1 C.2.1 hd rfl (hN _ _ _ _ _ h hu hv H lsM locs hR hL hf)
  case goto off =>
    obtain ⟨rfl, h1⟩ := of_decide_eq_true hlk
    exact fun hu hv H lsM locs hR hL hf => lv_goto C.1 C.2.1 hd h1 (hJ _ _ _ _ _ _ h hu hv H lsM locs hR hL hf)
  case ifnonnull off =>
    obtain ⟨rfl, h1⟩ := of_decide_eq_true hlk
    obtain ⟨x, r, rfl, hk⟩ := unR_sp h
    exact fun hu hv H lsM locs hR hL hf => lv_ifnonnull C.1 C.2.1 hd h1 (hJ _ _ _ _ _ _ hk hu hv H lsM locs hR hL hf)
  case ifnull off =>
    obtain ⟨rfl, h1⟩ := of_decide_eq_true hlk
    obtain ⟨x, r, rfl, hk⟩ := unR_sp h
    exact fun hu hv H lsM locs hR hL hf => lv_ifnull C.1 C.2.1 hd (hN _ _ _ _ _ hk hu hv H lsM locs hR hL hf)
  case if_icmp cnd off =>
    obtain ⟨rfl, h1⟩ := of_decide_eq_true hlk
    obtain ⟨x, y, r, rfl, hk⟩ := bin_sp h
    intro hu hv H lsM locs hR hL hf
    cases cnd
    case eq => exact lv_icmp_eq C.1 C.2.1 hd h1 (fun z => hJ _ _ _ _ _ _ (hk.1 z) hu hv H lsM locs hR hL hf) (fun z => hN _ _ _ _ _ (hk.2 z) hu hv H lsM locs hR hL hf)
    case ne => exact lv_icmp_ne C.1 C.2.1 hd h1 (fun z => hJ _ _ _ _ _ _ (hk.1 z) hu hv H lsM locs hR hL hf) (fun z => hN _ _ _ _ _ (hk.2 z) hu hv H lsM locs hR hL hf)
    case lt => exact lv_icmp_lt C.1 C.2.1 hd h1 (fun z => hJ _ _ _ _ _ _ (hk.1 z) hu hv H lsM locs hR hL hf) (fun z => hN _ _ _ _ _ (hk.2 z) hu hv H lsM locs hR hL hf)
    case ge => exact lv_icmp_ge C.1 C.2.1 hd h1 (fun z => hJ _ _ _ _ _ _ (hk.1 z) hu hv H lsM locs hR hL hf) (fun z => hN _ _ _ _ _ (hk.2 z) hu hv H lsM locs hR hL hf)
    case gt => exact lv_icmp_gt C.1 C.2.1 hd h1 (fun z => hJ _ _ _ _ _ _ (hk.1 z) hu hv H lsM locs hR hL hf) (fun z => hN _ _ _ _ _ (hk.2 z) hu hv H lsM locs hR hL hf)
    case le => exact lv_icmp_le C.1 C.2.1 hd h1 (fun z => hJ _ _ _ _ _ _ (hk.1 z) hu hv H lsM locs hR hL hf) (fun z => hN _ _ _ _ _ (hk.2 z) hu hv H lsM locs hR hL hf)
  case ifCond cnd off =>
    obtain ⟨rfl, h1⟩ := of_decide_eq_true hlk
    obtain ⟨x, r, rfl, hk⟩ := unI_sp h
    rw [nI_0] at hk
    intro hu hv H lsM locs hR hL hf
    cases cnd
    case eq => exact lv_if_eq C.1 C.2.1 hd h1 (fun z => hJ _ _ _ _ _ _ (hk.1 z) hu hv H lsM locs hR hL hf) (fun z => hN _ _ _ _ _ (hk.2 z) hu hv H lsM locs hR hL hf)
    case ne => exact lv_if_ne C.1 C.2.1 hd h1 (fun z => hJ _ _ _ _ _ _ (hk.1 z) hu hv H lsM locs hR hL hf) (fun z => hN _ _ _ _ _ (hk.2 z) hu hv H lsM locs hR hL hf)
    case lt => exact lv_if_lt C.1 C.2.1 hd h1 (fun z => hJ _ _ _ _ _ _ (hk.1 z) hu hv H lsM locs hR hL hf) (fun z => hN _ _ _ _ _ (hk.2 z) hu hv H lsM locs hR hL hf)
    case ge => exact lv_if_ge C.1 C.2.1 hd h1 (fun z => hJ _ _ _ _ _ _ (hk.1 z) hu hv H lsM locs hR hL hf) (fun z => hN _ _ _ _ _ (hk.2 z) hu hv H lsM locs hR hL hf)
    case gt => exact lv_if_gt C.1 C.2.1 hd h1 (fun z => hJ _ _ _ _ _ _ (hk.1 z) hu hv H lsM locs hR hL hf) (fun z => hN _ _ _ _ _ (hk.2 z) hu hv H lsM locs hR hL hf)
    case le => exact lv_if_le C.1 C.2.1 hd h1 (fun z => hJ _ _ _ _ _ _ (hk.1 z) hu hv H lsM locs hR hL hf) (fun z => hN _ _ _ _ _ (hk.2 z) hu hv H lsM locs hR hL hf)
  case tableswitch dd lo hi offs =>
    obtain ⟨h1, rfl, h2, h3, h4⟩ := of_decide_eq_true hlk
    obtain ⟨x, r, rfl, hk1, hk2⟩ := unI_sp h
    intro hu hv H lsM locs hR hL hf
    by_cases hlo : x < nI bb ∨ nI (bb + ts.length) ≤ x
    · refine lv_tableOut C.1 C.2.1 hd ?_ h1 (hJ _ _ _ _ _ _ (hk2 hlo) hu hv H lsM locs hR hL hf)
      rcases hlo with hlo | hlo
      · rw [Int32.lt_iff_toInt_lt, nI_toInt (by omega)] at hlo; exact Or.inl hlo
      · rw [Int32.le_iff_toInt_le, nI_toInt (by omega)] at hlo; exact Or.inr (by omega)
    · have g1 : ¬ x.toInt < (bb : Int) := fun z => hlo (Or.inl (by rw [Int32.lt_iff_toInt_lt, nI_toInt (by omega)]; exact z))
      have g2 : ¬ ((bb + ts.length : Nat) : Int) ≤ x.toInt := fun z => hlo (Or.inr (by rw [Int32.le_iff_toInt_le, nI_toInt (by omega)]; exact z))
      obtain ⟨k, hk⟩ : ∃ k : Nat, x.toInt = (bb : Int) + k := ⟨(x.toInt - bb).toNat, by omega⟩
      have hkl : k < ts.length := by omega
      have hx : x = nI (bb + k) := Int32.toInt_inj.mp (by rw [nI_toInt (by omega), hk]; omega)
      obtain ⟨t, ht⟩ : ∃ t, ts[k]? = some t := ⟨ts[k], List.getElem?_eq_getElem hkl⟩
      have ho : ∃ o, offs[k]? = some o ∧ (pc : Int) + o = (t : Int) := by
        have e1 : (offs.toList.map (fun o => (pc : Int) + o))[k]? = some (t : Int) := by rw [h4, List.getElem?_map, ht]; rfl
        rw [List.getElem?_map, Array.getElem?_toList] at e1
        cases hz : offs[k]? with
        | none => rw [hz] at e1; cases e1
        | some o => rw [hz] at e1; exact ⟨o, rfl, Option.some.inj e1⟩
      obtain ⟨off, ho1, ho2⟩ := ho
      exact lv_tableIn C.1 C.2.1 hd g1 (by omega) (by rw [show (x.toInt - (bb : Int)).toNat = k by omega]; exact ho1) ho2 (hJ _ _ _ _ _ _ (swT_spec hk1 k t ht hx) hu hv H lsM locs hR hL hf)
  case lookupswitch dd ps =>
    obtain ⟨h1, h2, h3, h4, h5⟩ := of_decide_eq_true hlk
    obtain ⟨x, r, rfl, hk1, hk2⟩ := unI_sp h
    intro hu hv H lsM locs hR hL hf
    have hoff : ∀ (l : List (Int × Int)) (dd : Int) (z : Int), (pc : Int) + Op.lookupswitch.offset l dd z = Op.lookupswitch.offset (l.map fun q => (q.1, (pc : Int) + q.2)) ((pc : Int) + dd) z := by
      intro l dd z
      induction l with
      | nil => rfl
      | cons q l ih =>
        simp only [List.map_cons, Op.lookupswitch.offset]
        split <;> first | rfl | exact ih
    rcases swL_spec (d := (pc : Int) + dd) hk1 hk2 h4 h3 with ⟨t, hNt, i, hx, ho⟩ | ⟨hP, ho⟩
    · refine lv_lookup C.1 C.2.1 hd h5 rfl ?_ (hJ _ _ _ _ _ _ hNt hu hv H lsM locs hR hL hf)
      rw [hoff, h2, ho]
    · refine lv_lookup C.1 C.2.1 hd h5 rfl ?_ (hJ _ _ _ _ _ _ hP hu hv H lsM locs hR hL hf)
      rw [hoff, h2, ho, h1]
  all_goals sorry
end SND6
