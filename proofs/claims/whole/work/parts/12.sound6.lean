/-! SOUNDNESS: one instruction, any stretch -/
section SND6
variable {w : Wd} {b : Bool} {p : Program} {l : Launch} {e : Env} {R : Room} {s : State} {m : MethodId} {args : Array Value} {below : List Frame} {meth : Method} {c : Code} {Q : State → Prop} {own nL KC KS d : Nat} {bytes : ByteArray} {nm : String} {ret : Option FieldType}
variable {L : Nat} {xs : Nat → Int32} {code : List El} {At : At_t} {Rt : Option AV → Mem → Prop} {Hx : Nat → Nat → List AV → Mem → Nat → Nat → Prop} {Cl : Cl_t}
/-- where a method ends -/
def RtM (w : Wd) (b : Bool) (p : Program) (l : Launch) (e : Env) (R : Room) (s : State) (m : MethodId) (args : Array Value) (below : List Frame) (meth : Method) (c : Code) (Q : State → Prop) (nL KC KS : Nat) (bytes : ByteArray) (ret : Option FieldType) (Rt : Option AV → Mem → Prop) : Prop :=
  (ret = none → ∀ {pc ls σ u v}, decode bytes pc = .ok (.return_, 1) → Rt none σ → AtM w b p l e R s m args below meth c Q nL KC KS pc ls [] σ u v) ∧
  (ret = some .int → ∀ {pc ls x σ u v}, decode bytes pc = .ok (.ireturn, 1) → Rt (some (.int x)) σ → AtM w b p l e R s m args below meth c Q nL KC KS pc ls [.int x] σ u v) ∧
  (ret = some .boolean → ∀ {pc ls x σ u v}, decode bytes pc = .ok (.ireturn, 1) → narrow .boolean (.int x) = .int x → Rt (some (.int x)) σ → AtM w b p l e R s m args below meth c Q nL KC KS pc ls [.int x] σ u v) ∧
  (ret = some .long → ∀ {pc ls x σ u v}, decode bytes pc = .ok (.lreturn, 1) → Rt (some (.long x)) σ → AtM w b p l e R s m args below meth c Q nL KC KS pc ls [.long x] σ u v) ∧
  ((∃ n, ret = some (.object n)) → ∀ {pc ls z σ u v}, decode bytes pc = .ok (.areturn, 1) → ((∃ x, z = .ref x) ∨ ∃ t, z = .float t) → Rt (some z) σ → AtM w b p l e R s m args below meth c Q nL KC KS pc ls [z] σ u v)
theorem swT_spec {x : Int32} {N : Nat → Prop} : ∀ {i : Nat} {ts : List Nat}, swT x N i ts → ∀ k t, ts[k]? = some t → x = nI (i + k) → N t
  | _, t0 :: ts, h, 0, t, ht, hx => by cases ht; exact h.1 hx
  | i, t0 :: ts, h, k + 1, t, ht, hx => swT_spec h.2 k t ht (by rw [hx]; congr 1; omega)
theorem swL_spec {x : Int32} {N : Nat → Prop} {P : Prop} {d : Int} : ∀ {ts : List Nat}, swL x N ts → swN x ts P → oddB ts = true → (∀ q ∈ pairs ts, 0 ≤ q.1 ∧ q.1 < 1000) →
    (∃ t, N t ∧ ∃ i, x = nI i ∧ Op.lookupswitch.offset ((pairs ts).map fun q => (q.1, (q.2 : Int))) d x.toInt = (t : Int)) ∨ (P ∧ Op.lookupswitch.offset ((pairs ts).map fun q => (q.1, (q.2 : Int))) d x.toInt = d)
  | [], _, h, _, _ => Or.inr ⟨h, rfl⟩
  | [_], _, _, h, _ => by cases h
  | i :: t :: ts, h1, h2, h3, h4 => by
    have hi := h4 ((i : Int), t) List.mem_cons_self
    have hx : (nI i).toInt = (i : Int) := nI_toInt (by have := hi.2; omega)
    by_cases e : x = nI i
    · refine Or.inl ⟨t, h1.1 e, i, e, ?_⟩
      subst e
      simp only [pairs, List.map_cons, Op.lookupswitch.offset, hx]
      simp
    · have hne : ¬ x.toInt = (i : Int) := fun q => e (Int32.toInt_inj.mp (by rw [hx]; exact q))
      have hstep : Op.lookupswitch.offset ((pairs (i :: t :: ts)).map fun q => (q.1, (q.2 : Int))) d x.toInt = Op.lookupswitch.offset ((pairs ts).map fun q => (q.1, (q.2 : Int))) d x.toInt := by
        simp only [pairs, List.map_cons, Op.lookupswitch.offset]
        simp [hne, Ne.symm hne]
      rw [hstep]
      exact swL_spec (ts := ts) h1.2 (h2 e) h3 (fun q hq => h4 q (List.mem_cons_of_mem _ hq))

theorem ldA_sp {ls : List AV} {i : Nat} {k : AV → Prop} (h : ldA ls i k) : ∃ z, ((∃ x, z = Value.ref x) ∨ ∃ t, z = Value.float t) ∧ gt ls i = z ∧ k z := by
  unfold ldA at h
  cases hg : gt ls i <;> rw [hg] at h <;> first | exact ⟨_, Or.inl ⟨_, rfl⟩, rfl, h⟩ | exact ⟨_, Or.inr ⟨_, rfl⟩, rfl, h⟩ | exact h.elim
theorem ldI_sp {ls : List AV} {i : Nat} {k : Int32 → Prop} (h : ldI ls i k) : ∃ x, gt ls i = .int x ∧ k x := by
  unfold ldI at h
  cases hg : gt ls i <;> rw [hg] at h <;> first | exact ⟨_, rfl, h⟩ | exact h.elim
theorem ldL_sp {ls : List AV} {i : Nat} {k : Int64 → Prop} (h : ldL ls i k) : ∃ x, gt ls i = .long x ∧ k x := by
  unfold ldL at h
  cases hg : gt ls i <;> rw [hg] at h <;> first | exact ⟨_, rfl, h⟩ | exact h.elim
theorem unI_sp {st : List AV} {k : Int32 → List AV → Prop} (h : unI st k) : ∃ x r, st = .int x :: r ∧ k x r := by
  unfold unI at h
  split at h <;> first | exact ⟨_, _, rfl, h⟩ | exact h.elim
theorem unL_sp {st : List AV} {k : Int64 → List AV → Prop} (h : unL st k) : ∃ x r, st = .long x :: r ∧ k x r := by
  unfold unL at h
  split at h <;> first | exact ⟨_, _, rfl, h⟩ | exact h.elim
theorem unR_sp {st : List AV} {k : Nat → List AV → Prop} (h : unR st k) : ∃ x r, st = .ref x :: r ∧ k x r := by
  unfold unR at h
  split at h <;> first | exact ⟨_, _, rfl, h⟩ | exact h.elim
theorem bin_sp {st : List AV} {k : Int32 → Int32 → List AV → Prop} (h : bin st k) : ∃ x y r, st = .int y :: .int x :: r ∧ k x y r := by
  unfold bin at h
  split at h <;> first | exact ⟨_, _, _, rfl, h⟩ | exact h.elim
theorem binL_sp {st : List AV} {k : Int64 → Int64 → List AV → Prop} (h : binL st k) : ∃ x y r, st = .long y :: .long x :: r ∧ k x y r := by
  unfold binL at h
  split at h <;> first | exact ⟨_, _, _, rfl, h⟩ | exact h.elim
theorem s_ldcS (C : Cx w p s m args meth c own bytes nL) {pc i t u v : Nat} {ls st : List AV} {σ : Mem} (hm : (own, i, t) ∈ ow_strs) (ht : t < 1000) (hd : decode bytes pc = .ok (.ldc i, 2)) (kk : AtM w b p l e R s m args below meth c Q nL KC KS (pc + 2) ls (.float (UInt32.ofNat t) :: st) σ u v) : AtM w b p l e R s m args below meth c Q nL KC KS pc ls st σ u v := by
  intro hu hv H lsM locs hR hLR hf
  have ht' : (UInt32.ofNat t).toNat = t := by
    first | exact UInt32.toNat_ofNat_of_lt' (by omega) | exact UInt32.toNat_ofNat_of_lt (by omega) | (simp [UInt32.toNat_ofNat']; omega)
  have hz := C.2.2.2.2.2.1.2.2.2.2.2.2.1.2.2.2.2.2 _ hm
  have := kk hu hv H lsM locs hR hLR hf
  refine va_ldcS C.1 C.2.1 C.2.2.2.1 hz hd ?_
  have e1 : cv w (.float (UInt32.ofNat t)) = .ref (wS w t) := by show Value.ref (wS w (UInt32.ofNat t).toNat) = _; rw [ht']
  rw [List.map_cons, e1] at this
  exact this
theorem s_slen (C : Cx w p s m args meth c own bytes nL) : True := trivial
set_option maxHeartbeats 4000000 in
theorem snd_step (C : Cx w p s m args meth c own bytes nL) (hown : own < 14) (hw : wLa w = l) (hnm : meth.name = nm) (hRf : d + 1 ≤ R.frames) (hRl : 40 * (d + 1) ≤ R.locals) (hRc : R.cells = KC) (hRs : R.slots = KS) (hRt : RtM w b p l e R s m args below meth c Q nL KC KS bytes ret Rt)
    (hAt : ∀ pc ls st σ u v, At pc ls st σ u v → AtM w b p l e R s m args below meth c Q nL KC KS pc ls st σ u v) (hHx : ∀ pc E ls σ u v, Hx pc E ls σ u v → AtX w b p l e R s m args below meth c Q nL KC KS pc E ls σ u v)
    (hCl : ∀ a kc ks as σ k kx, Cl a kc ks as σ k kx → Ret w b d kc ks a as σ k kx) {K : Kt} (hK : ∀ cur ls st σ u v, sfx code cur → K cur ls st σ u v → AtM w b p l e R s m args below meth c Q nL KC KS (pcO cur) ls st σ u v)
    (hSld : ∀ {pc ls st σ u v t} {i : Int32}, t.toNat = 0 → decode bytes pc = .ok (.iaload, 1) → vp_in i (L - 1) → AtM w b p l e R s m args below meth c Q nL KC KS (pc + 1) ls (.int (xs i.toNatClampNeg) :: st) σ u v → AtM w b p l e R s m args below meth c Q nL KC KS pc ls (.int i :: .float t :: st) σ u v)
    (hSln : ∀ {pc ls st σ u v t}, t.toNat = 0 → 0 < L → decode bytes pc = .ok (.arraylength, 1) → AtM w b p l e R s m args below meth c Q nL KC KS (pc + 1) ls (.int (nI (L - 1)) :: st) σ u v → AtM w b p l e R s m args below meth c Q nL KC KS pc ls (.float t :: st) σ u v)
    {el : El} {tl : List El} (hs : sfx code (el :: tl)) (hch : chB code = true) (hd : decode bytes el.1 = .ok (el.2.2.2.1, el.2.1)) (hlk : lkB own nm nL ret el = true) (hsp : spB el = false) {ls st : List AV} {σ : Mem} {u v : Nat}
    (h : stp b code At Rt Hx Cl L xs KC KS K (el :: tl) ls st σ u v) : AtM w b p l e R s m args below meth c Q nL KC KS el.1 ls st σ u v := by
  obtain ⟨pc, len, ct, ins, a, bb, cc, ts⟩ := el
  have hN : ∀ ls st σ u v, nx At K tl ls st σ u v → AtM w b p l e R s m args below meth c Q nL KC KS (pc + len) ls st σ u v := by
    intro ls st σ u v h
    cases htl : tl with
    | nil => rw [htl] at h; exact h.elim
    | cons f tl' =>
      obtain ⟨pre, hp⟩ := hs
      have h1 : pc + len = f.1 := by
        have := chB_sfx (pre := pre) (by rw [← hp]; exact hch)
        rw [htl] at this
        simp only [chB, Bool.and_eq_true] at this
        exact Nat.eq_of_beq_eq_true this.1
      rw [htl] at h
      rw [h1]
      unfold nx at h
      cases hf : f.2.2.1 with
      | true => simp only [hf] at h; exact hAt _ _ _ _ _ _ h
      | false => simp only [hf] at h; exact hK (f :: tl') ls st σ u v (by rw [← htl]; exact sfx.tl ⟨pre, hp⟩) h
  have hJ : ∀ t ls st σ u v, nx At K (seek code t) ls st σ u v → AtM w b p l e R s m args below meth c Q nL KC KS t ls st σ u v := by
    intro t ls st σ u v h
    cases htl : seek code t with
    | nil => rw [htl] at h; exact h.elim
    | cons f tl' =>
      have h1 := seek_hd htl
      rw [htl] at h
      rw [← h1]
      unfold nx at h
      cases hf : f.2.2.1 with
      | true => simp only [hf] at h; exact hAt _ _ _ _ _ _ h
      | false => simp only [hf] at h; exact hK (f :: tl') ls st σ u v (by rw [← htl]; exact seek_sfx) h
  have hRf1 : d + 1 ≤ R.frames := by omega
  have hRl1 : 40 * (d + 1) ≤ R.locals := by omega
  dsimp only at hd
  dsimp only
  cases ins
  case aload_n k =>
    obtain ⟨rfl, rfl⟩ := of_decide_eq_true hlk
    have h : ldA ls k (fun z => nx At K tl ls (z :: st) σ u v) := h
    obtain ⟨z, hz, hg, hk⟩ := ldA_sp h
    rcases hz with ⟨x, hz⟩ | ⟨t, hz⟩
    · exact s_aload_n (x := x) C hd (Or.inl hz) hg (hN _ _ _ _ _ hk)
    · exact s_aload_n (x := 0) C hd (Or.inr ⟨t, hz⟩) hg (hN _ _ _ _ _ hk)
  case aload k =>
    obtain ⟨rfl, rfl⟩ := of_decide_eq_true hlk
    have h : ldA ls a (fun z => nx At K tl ls (z :: st) σ u v) := h
    obtain ⟨z, hz, hg, hk⟩ := ldA_sp h
    rcases hz with ⟨x, hz⟩ | ⟨t, hz⟩
    · exact s_aload (x := x) C hd (Or.inl hz) hg (hN _ _ _ _ _ hk)
    · exact s_aload (x := 0) C hd (Or.inr ⟨t, hz⟩) hg (hN _ _ _ _ _ hk)
  case iload_n k =>
    obtain ⟨rfl, rfl⟩ := of_decide_eq_true hlk
    obtain ⟨x, hg, hk⟩ := ldI_sp h
    exact s_iload_n C hd hg (hN _ _ _ _ _ hk)
  case iload k =>
    obtain ⟨rfl, rfl⟩ := of_decide_eq_true hlk
    obtain ⟨x, hg, hk⟩ := ldI_sp h
    exact s_iload C hd hg (hN _ _ _ _ _ hk)
  case lload_n k =>
    obtain ⟨rfl, rfl⟩ := of_decide_eq_true hlk
    obtain ⟨x, hg, hk⟩ := ldL_sp h
    exact s_lload_n C hd hg (hN _ _ _ _ _ hk)
  case lload k =>
    obtain ⟨rfl, rfl⟩ := of_decide_eq_true hlk
    obtain ⟨x, hg, hk⟩ := ldL_sp h
    exact s_lload C hd hg (hN _ _ _ _ _ hk)
  case istore_n k =>
    obtain ⟨rfl, rfl, hk'⟩ := of_decide_eq_true hlk
    obtain ⟨x, r, rfl, hk⟩ := unI_sp h
    exact s_istore_n C hk' hd (hN _ _ _ _ _ hk)
  case istore k =>
    obtain ⟨rfl, rfl, hk'⟩ := of_decide_eq_true hlk
    obtain ⟨x, r, rfl, hk⟩ := unI_sp h
    exact s_istore C hk' hd (hN _ _ _ _ _ hk)
  case lstore_n k =>
    obtain ⟨rfl, rfl, hk'⟩ := of_decide_eq_true hlk
    obtain ⟨x, r, rfl, hk⟩ := unL_sp h
    exact s_lstore_n C hk' hd (hN _ _ _ _ _ hk)
  case lstore k =>
    obtain ⟨rfl, rfl, hk'⟩ := of_decide_eq_true hlk
    obtain ⟨x, r, rfl, hk⟩ := unL_sp h
    exact s_lstore C hk' hd (hN _ _ _ _ _ hk)
  case astore_n k =>
    obtain ⟨rfl, rfl, hk'⟩ := of_decide_eq_true hlk
    match st, h with
    | .ref x :: r, h => exact s_astore_n (x := x) C (Or.inl rfl) hk' hd (hN _ _ _ _ _ h)
    | .float x :: r, h => exact s_astore_n (x := 0) C (Or.inr ⟨x, rfl⟩) hk' hd (hN _ _ _ _ _ h)
  case astore k =>
    obtain ⟨rfl, rfl, hk'⟩ := of_decide_eq_true hlk
    match st, h with
    | .ref x :: r, h => exact s_astore (x := x) C (Or.inl rfl) hk' hd (hN _ _ _ _ _ h)
    | .float x :: r, h => exact s_astore (x := 0) C (Or.inr ⟨x, rfl⟩) hk' hd (hN _ _ _ _ _ h)
  case iconst n =>
    obtain ⟨rfl, h1 | h1⟩ := of_decide_eq_true hlk
    · obtain ⟨rfl, rfl⟩ := h1
      exact fun hu hv H lsM locs hR hL hf => lv_iconst C.1 C.2.1 hd (Int32_ofInt_nat a) (hN _ _ _ _ _ h hu hv H lsM locs hR hL hf)
    · obtain ⟨h1, rfl⟩ := h1
      obtain ⟨cc', rfl⟩ : ∃ z, cc = z + 1 := ⟨cc - 1, by omega⟩
      exact fun hu hv H lsM locs hR hL hf => lv_iconst (v := -1) C.1 C.2.1 hd (by decide) (hN _ _ _ _ _ h hu hv H lsM locs hR hL hf)
  case bipush n =>
    obtain ⟨rfl, rfl, h1⟩ := of_decide_eq_true hlk
    have e1 : (Int8.ofInt (a : Int)).toInt32 = nI a := by
      have : ∀ z : Nat, z ≤ 127 → (Int8.ofInt (z : Int)).toInt32 = nI z := by decide +kernel
      exact this a h1
    exact fun hu hv H lsM locs hR hL hf => lv_bipush C.1 C.2.1 hd e1 (hN _ _ _ _ _ h hu hv H lsM locs hR hL hf)
  case sipush n =>
    obtain ⟨rfl, rfl, h1⟩ := of_decide_eq_true hlk
    have e1 : (Int16.ofInt (a : Int)).toInt32 = nI a := by
      apply Int32.toInt_inj.mp
      rw [Int16.toInt_toInt32, nI_toInt (by omega), Int16.toInt_ofInt]
      have hs16 : Int16.size = 65536 := rfl
      rw [Int.bmod_eq_of_le] <;> omega
    exact fun hu hv H lsM locs hR hL hf => lv_sipush C.1 C.2.1 hd e1 (hN _ _ _ _ _ h hu hv H lsM locs hR hL hf)
  case lconst n =>
    obtain ⟨rfl, rfl⟩ := of_decide_eq_true hlk
    exact fun hu hv H lsM locs hR hL hf => lv_lconst C.1 C.2.1 hd rfl (hN _ _ _ _ _ h hu hv H lsM locs hR hL hf)
  case ldc i =>
    obtain ⟨rfl, -, h1 | h1⟩ := of_decide_eq_true hlk
    · obtain ⟨rfl, h1⟩ := h1
      exact fun hu hv H lsM locs hR hL hf => lv_ldc C.1 C.2.1 C.2.2.2.1 (C.2.2.2.2.1 _ (ow_al.get ow_cst_al h1)) hd (hN _ _ _ _ _ h hu hv H lsM locs hR hL hf)
    · obtain ⟨h1, h2, h3⟩ := h1
      obtain ⟨cc', rfl⟩ : ∃ z, cc = z + 1 := ⟨cc - 1, by omega⟩
      exact s_ldcS C h2 h3 hd (hN _ _ _ _ _ h)
  case ldc_w i =>
    obtain ⟨rfl, rfl, h1⟩ := of_decide_eq_true hlk
    exact fun hu hv H lsM locs hR hL hf => lv_ldcw C.1 C.2.1 C.2.2.2.1 (C.2.2.2.2.1 _ (ow_al.get ow_cst_al h1)) hd (hN _ _ _ _ _ h hu hv H lsM locs hR hL hf)
  case ldc2_w i =>
    obtain ⟨rfl, h1 | h1⟩ := of_decide_eq_true hlk
    · obtain ⟨rfl, h1⟩ := h1
      have h2 := ow_al.get ow_cstl_al h1
      have e1 : Int64.ofInt (a : Int) = lN a := by first | rfl | exact Int64.ofInt_eq_ofNat | simp [lN, Int64.ofInt_eq_ofNat]
      rw [e1] at h2
      exact fun hu hv H lsM locs hR hL hf => lv_ldc2 C.1 C.2.1 C.2.2.2.1 (C.2.2.2.2.1 _ h2) hd (hN _ _ _ _ _ h hu hv H lsM locs hR hL hf)
    · obtain ⟨h0, h1⟩ := h1
      obtain ⟨cc', rfl⟩ : ∃ z, cc = z + 1 := ⟨cc - 1, by omega⟩
      have h2 := ow_al.get ow_cstl_al h1
      have e1 : Int64.ofInt (- (a : Int)) = - lN a := by
        rw [Int64.ofInt_neg]
        first | rfl | simp [lN, Int64.ofInt_eq_ofNat]
      rw [e1] at h2
      exact fun hu hv H lsM locs hR hL hf => lv_ldc2 C.1 C.2.1 C.2.2.2.1 (C.2.2.2.2.1 _ h2) hd (hN _ _ _ _ _ h hu hv H lsM locs hR hL hf)
  case iinc k n =>
    obtain ⟨rfl, rfl, h1⟩ := of_decide_eq_true hlk
    obtain ⟨x, hg, hk⟩ := ldI_sp h
    rcases h1 with ⟨rfl, rfl⟩ | ⟨h1, rfl⟩
    · exact s_iinc (y := x + nI bb) C hd hg (by rw [Int32_ofInt_nat]) (hN _ _ _ _ _ hk)
    · obtain ⟨cc', rfl⟩ : ∃ z, cc = z + 1 := ⟨cc - 1, by omega⟩
      exact s_iinc (y := x - nI bb) C hd hg (by rw [Int32.ofInt_neg, Int32_ofInt_nat, Int32.sub_eq_add_neg]) (hN _ _ _ _ _ hk)
  case iadd =>
    obtain rfl := of_decide_eq_true hlk
    obtain ⟨x, y, r, rfl, hk⟩ := bin_sp h
    exact fun hu hv H lsM locs hR hL hf => lv_iadd C.1 C.2.1 hd  (hN _ _ _ _ _ hk hu hv H lsM locs hR hL hf)
  case isub =>
    obtain rfl := of_decide_eq_true hlk
    obtain ⟨x, y, r, rfl, hk⟩ := bin_sp h
    exact fun hu hv H lsM locs hR hL hf => lv_isub C.1 C.2.1 hd  (hN _ _ _ _ _ hk hu hv H lsM locs hR hL hf)
  case imul =>
    obtain rfl := of_decide_eq_true hlk
    obtain ⟨x, y, r, rfl, hk⟩ := bin_sp h
    exact fun hu hv H lsM locs hR hL hf => lv_imul C.1 C.2.1 hd  (hN _ _ _ _ _ hk hu hv H lsM locs hR hL hf)
  case iand =>
    obtain rfl := of_decide_eq_true hlk
    obtain ⟨x, y, r, rfl, hk⟩ := bin_sp h
    exact fun hu hv H lsM locs hR hL hf => lv_iand C.1 C.2.1 hd  (hN _ _ _ _ _ hk hu hv H lsM locs hR hL hf)
  case ior =>
    obtain rfl := of_decide_eq_true hlk
    obtain ⟨x, y, r, rfl, hk⟩ := bin_sp h
    exact fun hu hv H lsM locs hR hL hf => lv_ior C.1 C.2.1 hd  (hN _ _ _ _ _ hk hu hv H lsM locs hR hL hf)
  case ishl =>
    obtain rfl := of_decide_eq_true hlk
    obtain ⟨x, y, r, rfl, hk⟩ := bin_sp h
    exact fun hu hv H lsM locs hR hL hf => lv_ishl C.1 C.2.1 hd  (hN _ _ _ _ _ hk hu hv H lsM locs hR hL hf)
  case ishr =>
    obtain rfl := of_decide_eq_true hlk
    obtain ⟨x, y, r, rfl, hk⟩ := bin_sp h
    exact fun hu hv H lsM locs hR hL hf => lv_ishr C.1 C.2.1 hd  (hN _ _ _ _ _ hk hu hv H lsM locs hR hL hf)
  case iushr =>
    obtain rfl := of_decide_eq_true hlk
    obtain ⟨x, y, r, rfl, hk⟩ := bin_sp h
    exact fun hu hv H lsM locs hR hL hf => lv_iushr C.1 C.2.1 hd rfl (hN _ _ _ _ _ hk hu hv H lsM locs hR hL hf)
  case idiv =>
    obtain rfl := of_decide_eq_true hlk
    obtain ⟨x, y, r, rfl, hne, hk⟩ := bin_sp h
    exact fun hu hv H lsM locs hR hL hf => lv_idiv C.1 C.2.1 hd hne (hN _ _ _ _ _ hk hu hv H lsM locs hR hL hf)
  case irem =>
    obtain rfl := of_decide_eq_true hlk
    obtain ⟨x, y, r, rfl, hne, hk⟩ := bin_sp h
    exact fun hu hv H lsM locs hR hL hf => lv_irem C.1 C.2.1 hd hne (hN _ _ _ _ _ hk hu hv H lsM locs hR hL hf)
  case ladd =>
    obtain rfl := of_decide_eq_true hlk
    obtain ⟨x, y, r, rfl, hk⟩ := binL_sp h
    exact fun hu hv H lsM locs hR hL hf => lv_ladd C.1 C.2.1 hd (hN _ _ _ _ _ hk hu hv H lsM locs hR hL hf)
  case lsub =>
    obtain rfl := of_decide_eq_true hlk
    obtain ⟨x, y, r, rfl, hk⟩ := binL_sp h
    exact fun hu hv H lsM locs hR hL hf => lv_lsub C.1 C.2.1 hd (hN _ _ _ _ _ hk hu hv H lsM locs hR hL hf)
  case lmul =>
    obtain rfl := of_decide_eq_true hlk
    obtain ⟨x, y, r, rfl, hk⟩ := binL_sp h
    exact fun hu hv H lsM locs hR hL hf => lv_lmul C.1 C.2.1 hd (hN _ _ _ _ _ hk hu hv H lsM locs hR hL hf)
  case land =>
    obtain rfl := of_decide_eq_true hlk
    obtain ⟨x, y, r, rfl, hk⟩ := binL_sp h
    exact fun hu hv H lsM locs hR hL hf => lv_land C.1 C.2.1 hd (hN _ _ _ _ _ hk hu hv H lsM locs hR hL hf)
  case lor =>
    obtain rfl := of_decide_eq_true hlk
    obtain ⟨x, y, r, rfl, hk⟩ := binL_sp h
    exact fun hu hv H lsM locs hR hL hf => lv_lor C.1 C.2.1 hd (hN _ _ _ _ _ hk hu hv H lsM locs hR hL hf)
  case lcmp =>
    obtain rfl := of_decide_eq_true hlk
    obtain ⟨x, y, r, rfl, hk⟩ := binL_sp h
    exact fun hu hv H lsM locs hR hL hf => W.lcmp C.1 C.2.1 hd (hN _ _ _ _ _ hk hu hv H lsM locs hR hL hf)
  case ldiv =>
    obtain rfl := of_decide_eq_true hlk
    obtain ⟨x, y, r, rfl, hne, hk⟩ := binL_sp h
    exact fun hu hv H lsM locs hR hL hf => lv_ldiv C.1 C.2.1 hd hne (hN _ _ _ _ _ hk hu hv H lsM locs hR hL hf)
  case lrem =>
    obtain rfl := of_decide_eq_true hlk
    obtain ⟨x, y, r, rfl, hne, hk⟩ := binL_sp h
    exact fun hu hv H lsM locs hR hL hf => lv_lrem C.1 C.2.1 hd hne (hN _ _ _ _ _ hk hu hv H lsM locs hR hL hf)
  case ineg =>
    obtain rfl := of_decide_eq_true hlk
    obtain ⟨x, r, rfl, hk⟩ := unI_sp h
    exact fun hu hv H lsM locs hR hL hf => lv_ineg C.1 C.2.1 hd (hN _ _ _ _ _ hk hu hv H lsM locs hR hL hf)
  case i2l =>
    obtain rfl := of_decide_eq_true hlk
    obtain ⟨x, r, rfl, hk⟩ := unI_sp h
    exact fun hu hv H lsM locs hR hL hf => lv_i2l C.1 C.2.1 hd rfl (hN _ _ _ _ _ hk hu hv H lsM locs hR hL hf)
  case l2i =>
    obtain rfl := of_decide_eq_true hlk
    obtain ⟨x, r, rfl, hk⟩ := unL_sp h
    exact fun hu hv H lsM locs hR hL hf => lv_l2i C.1 C.2.1 hd rfl (hN _ _ _ _ _ hk hu hv H lsM locs hR hL hf)
  case lshl =>
    obtain rfl := of_decide_eq_true hlk
    match st, h with
    | .int y :: .long x :: r, h => exact fun hu hv H lsM locs hR hL hf => lv_lshl C.1 C.2.1 hd rfl (hN _ _ _ _ _ h hu hv H lsM locs hR hL hf)
  case lushr =>
    obtain rfl := of_decide_eq_true hlk
    match st, h with
    | .int y :: .long x :: r, h => exact fun hu hv H lsM locs hR hL hf => lv_lushr C.1 C.2.1 hd rfl (hN _ _ _ _ _ h hu hv H lsM locs hR hL hf)
  case dup =>
    obtain rfl := of_decide_eq_true hlk
    match st, h with
    | .ref x :: r, h => exact fun hu hv H lsM locs hR hL hf => lv_dup C.1 C.2.1 hd rfl (hN _ _ _ _ _ h hu hv H lsM locs hR hL hf)
    | .int x :: r, h => exact fun hu hv H lsM locs hR hL hf => lv_dup C.1 C.2.1 hd rfl (hN _ _ _ _ _ h hu hv H lsM locs hR hL hf)
  case dup2 =>
    obtain rfl := of_decide_eq_true hlk
    match st, h with
    | .long x :: r, h => exact fun hu hv H lsM locs hR hL hf => lv_dup2_2 C.1 C.2.1 hd rfl (hN _ _ _ _ _ h hu hv H lsM locs hR hL hf)
    | .int y :: .ref x :: r, h => exact fun hu hv H lsM locs hR hL hf => lv_dup2_11 C.1 C.2.1 hd rfl rfl (hN _ _ _ _ _ h hu hv H lsM locs hR hL hf)
  case pop =>
    obtain rfl := of_decide_eq_true hlk
    match st, h with
    | .int x :: r, h => exact fun hu hv H lsM locs hR hL hf => lv_pop C.1 C.2.1 hd rfl (hN _ _ _ _ _ h hu hv H lsM locs hR hL hf)
  case goto off =>
    obtain ⟨rfl, h1⟩ := of_decide_eq_true hlk
    exact fun hu hv H lsM locs hR hL hf => lv_goto C.1 C.2.1 hd h1 (hJ _ _ _ _ _ _ h hu hv H lsM locs hR hL hf)
  case ifnonnull off =>
    obtain ⟨rfl, h1⟩ := of_decide_eq_true hlk
    obtain ⟨x, r, rfl, hk⟩ := unR_sp h
    exact fun hu hv H lsM locs hR hL hf => lv_ifnonnull C.1 C.2.1 hd h1 (hJ _ _ _ _ _ _ hk hu hv H lsM locs hR hL hf)
  case ifnull off =>
    obtain ⟨rfl, h1⟩ := of_decide_eq_true hlk
    obtain ⟨x, r, rfl, hk⟩ := unR_sp h
    exact fun hu hv H lsM locs hR hL hf => lv_ifnull C.1 C.2.1 hd (hN _ _ _ _ _ hk hu hv H lsM locs hR hL hf)
  case if_icmp cnd off =>
    obtain ⟨rfl, h1⟩ := of_decide_eq_true hlk
    obtain ⟨x, y, r, rfl, hk⟩ := bin_sp h
    intro hu hv H lsM locs hR hL hf
    cases cnd
    case eq => exact lv_icmp_eq C.1 C.2.1 hd h1 (fun z => hJ _ _ _ _ _ _ (hk.1 z) hu hv H lsM locs hR hL hf) (fun z => hN _ _ _ _ _ (hk.2 z) hu hv H lsM locs hR hL hf)
    case ne => exact lv_icmp_ne C.1 C.2.1 hd h1 (fun z => hJ _ _ _ _ _ _ (hk.1 z) hu hv H lsM locs hR hL hf) (fun z => hN _ _ _ _ _ (hk.2 z) hu hv H lsM locs hR hL hf)
    case lt => exact lv_icmp_lt C.1 C.2.1 hd h1 (fun z => hJ _ _ _ _ _ _ (hk.1 z) hu hv H lsM locs hR hL hf) (fun z => hN _ _ _ _ _ (hk.2 z) hu hv H lsM locs hR hL hf)
    case ge => exact lv_icmp_ge C.1 C.2.1 hd h1 (fun z => hJ _ _ _ _ _ _ (hk.1 z) hu hv H lsM locs hR hL hf) (fun z => hN _ _ _ _ _ (hk.2 z) hu hv H lsM locs hR hL hf)
    case gt => exact lv_icmp_gt C.1 C.2.1 hd h1 (fun z => hJ _ _ _ _ _ _ (hk.1 z) hu hv H lsM locs hR hL hf) (fun z => hN _ _ _ _ _ (hk.2 z) hu hv H lsM locs hR hL hf)
    case le => exact lv_icmp_le C.1 C.2.1 hd h1 (fun z => hJ _ _ _ _ _ _ (hk.1 z) hu hv H lsM locs hR hL hf) (fun z => hN _ _ _ _ _ (hk.2 z) hu hv H lsM locs hR hL hf)
  case ifCond cnd off =>
    obtain ⟨rfl, h1⟩ := of_decide_eq_true hlk
    obtain ⟨x, r, rfl, hk⟩ := unI_sp h
    rw [nI_0] at hk
    intro hu hv H lsM locs hR hL hf
    cases cnd
    case eq => exact lv_if_eq C.1 C.2.1 hd h1 (fun z => hJ _ _ _ _ _ _ (hk.1 z) hu hv H lsM locs hR hL hf) (fun z => hN _ _ _ _ _ (hk.2 z) hu hv H lsM locs hR hL hf)
    case ne => exact lv_if_ne C.1 C.2.1 hd h1 (fun z => hJ _ _ _ _ _ _ (hk.1 z) hu hv H lsM locs hR hL hf) (fun z => hN _ _ _ _ _ (hk.2 z) hu hv H lsM locs hR hL hf)
    case lt => exact lv_if_lt C.1 C.2.1 hd h1 (fun z => hJ _ _ _ _ _ _ (hk.1 z) hu hv H lsM locs hR hL hf) (fun z => hN _ _ _ _ _ (hk.2 z) hu hv H lsM locs hR hL hf)
    case ge => exact lv_if_ge C.1 C.2.1 hd h1 (fun z => hJ _ _ _ _ _ _ (hk.1 z) hu hv H lsM locs hR hL hf) (fun z => hN _ _ _ _ _ (hk.2 z) hu hv H lsM locs hR hL hf)
    case gt => exact lv_if_gt C.1 C.2.1 hd h1 (fun z => hJ _ _ _ _ _ _ (hk.1 z) hu hv H lsM locs hR hL hf) (fun z => hN _ _ _ _ _ (hk.2 z) hu hv H lsM locs hR hL hf)
    case le => exact lv_if_le C.1 C.2.1 hd h1 (fun z => hJ _ _ _ _ _ _ (hk.1 z) hu hv H lsM locs hR hL hf) (fun z => hN _ _ _ _ _ (hk.2 z) hu hv H lsM locs hR hL hf)
  case tableswitch dd lo hi offs =>
    obtain ⟨h1, rfl, h2, h3, h4⟩ := of_decide_eq_true hlk
    obtain ⟨x, r, rfl, hk1, hk2⟩ := unI_sp h
    intro hu hv H lsM locs hR hL hf
    by_cases hlo : x < nI bb ∨ nI (bb + ts.length) ≤ x
    · refine lv_tableOut C.1 C.2.1 hd ?_ h1 (hJ _ _ _ _ _ _ (hk2 hlo) hu hv H lsM locs hR hL hf)
      rcases hlo with hlo | hlo
      · rw [Int32.lt_iff_toInt_lt, nI_toInt (by omega)] at hlo; exact Or.inl hlo
      · rw [Int32.le_iff_toInt_le, nI_toInt (by omega)] at hlo; exact Or.inr (by omega)
    · have g1 : ¬ x.toInt < (bb : Int) := fun z => hlo (Or.inl (by rw [Int32.lt_iff_toInt_lt, nI_toInt (by omega)]; exact z))
      have g2 : ¬ ((bb + ts.length : Nat) : Int) ≤ x.toInt := fun z => hlo (Or.inr (by rw [Int32.le_iff_toInt_le, nI_toInt (by omega)]; exact z))
      obtain ⟨k, hk⟩ : ∃ k : Nat, x.toInt = (bb : Int) + k := ⟨(x.toInt - bb).toNat, by omega⟩
      have hkl : k < ts.length := by omega
      have hx : x = nI (bb + k) := Int32.toInt_inj.mp (by rw [nI_toInt (by omega), hk]; omega)
      obtain ⟨t, ht⟩ : ∃ t, ts[k]? = some t := ⟨ts[k], List.getElem?_eq_getElem hkl⟩
      have ho : ∃ o, offs[k]? = some o ∧ (pc : Int) + o = (t : Int) := by
        have e1 : (offs.toList.map (fun o => (pc : Int) + o))[k]? = some (t : Int) := by rw [h4, List.getElem?_map, ht]; rfl
        rw [List.getElem?_map, Array.getElem?_toList] at e1
        cases hz : offs[k]? with
        | none => rw [hz] at e1; cases e1
        | some o => rw [hz] at e1; exact ⟨o, rfl, Option.some.inj e1⟩
      obtain ⟨off, ho1, ho2⟩ := ho
      exact lv_tableIn C.1 C.2.1 hd g1 (by omega) (by rw [show (x.toInt - (bb : Int)).toNat = k by omega]; exact ho1) ho2 (hJ _ _ _ _ _ _ (swT_spec hk1 k t ht hx) hu hv H lsM locs hR hL hf)
  case lookupswitch dd ps =>
    obtain ⟨h1, h2, h3, h4, h5⟩ := of_decide_eq_true hlk
    obtain ⟨x, r, rfl, hk1, hk2⟩ := unI_sp h
    intro hu hv H lsM locs hR hL hf
    have hoff : ∀ (l : List (Int × Int)) (dd : Int) (z : Int), (pc : Int) + Op.lookupswitch.offset l dd z = Op.lookupswitch.offset (l.map fun q => (q.1, (pc : Int) + q.2)) ((pc : Int) + dd) z := by
      intro l dd z
      induction l with
      | nil => rfl
      | cons q l ih =>
        simp only [List.map_cons, Op.lookupswitch.offset]
        split <;> first | rfl | exact ih
    rcases swL_spec (d := (pc : Int) + dd) hk1 hk2 h4 h3 with ⟨t, hNt, i, hx, ho⟩ | ⟨hP, ho⟩
    · refine lv_lookup C.1 C.2.1 hd h5 rfl ?_ (hJ _ _ _ _ _ _ hNt hu hv H lsM locs hR hL hf)
      rw [hoff, h2, ho]
    · refine lv_lookup C.1 C.2.1 hd h5 rfl ?_ (hJ _ _ _ _ _ _ hP hu hv H lsM locs hR hL hf)
      rw [hoff, h2, ho, h1]
  case getfield i =>
    obtain ⟨rfl, h1, h2, h3, rfl, h4⟩ := of_decide_eq_true hlk
    obtain ⟨q, r, rfl, hk⟩ := unR_sp h
    obtain ⟨ho, hk⟩ := cond_tt hk
    have h4' : (i, a, bb) ∈ ow_f0 own ∨ (own < 14 ∧ (i, a, bb) ∈ ow_f1 own) := h4.imp id (fun z => ⟨h1, z⟩)
    rcases ow_fck a h2 bb h3 with ⟨g, -⟩ | ⟨g, -⟩ | ⟨g, -⟩ | ⟨g, -⟩
    · rw [g] at hk
      exact s_getfield C ho h2 h3 h4' h1 (by unfold fV; rw [g]; rfl) hd (hN _ _ _ _ _ hk)
    · rw [g] at hk
      exact s_getfield C ho h2 h3 h4' h1 (by unfold fV; rw [g]; rfl) hd (hN _ _ _ _ _ hk)
    · rw [g] at hk
      obtain ⟨hasd, hk⟩ := cond_tt hk
      cases hr : rS q bb with
      | zero => rw [hr] at hk; exact hk.elim
      | succ x =>
        rw [hr] at hk
        exact s_getfield C ho h2 h3 h4' h1 (by unfold fV; rw [g, hasd, hr]; rfl) hd (hN _ _ _ _ _ hk)
    · rw [g] at hk
      obtain ⟨hasd, hk⟩ := cond_tt hk
      exact s_getfield C ho h2 h3 h4' h1 (by unfold fV; rw [g, hasd]; rfl) hd (hN _ _ _ _ _ hk)
  case putfield i =>
    obtain ⟨rfl, h1, h2, h3, rfl, h4, h5⟩ := of_decide_eq_true hlk
    match st, h with
    | x :: .ref q :: r, h =>
      obtain ⟨ho, hk⟩ := cond_tt h
      rcases ow_fck a h2 bb h3 with ⟨g, g1, g2⟩ | ⟨g, g1, g2⟩ | ⟨g, g1, g2⟩ | ⟨g, g1, g2⟩
      · rw [g] at hk
        match x, hk with
        | .int y, hk =>
          have hfv : ∀ j, fV w b (wI σ q bb y) a q j = if j = bb then cv w (.int y) else fV w b σ a q j := by
            intro j
            by_cases hj : j = bb
            · subst hj; unfold fV; rw [g, if_pos rfl]; show Value.int (if q = q ∧ j = j then y else _) = _; simp [cv]
            · rw [if_neg hj]; unfold fV; rw [rI_wI]; simp only [hj, and_false, if_false]; rfl
          rcases g1 with g1 | g1
          · exact s_put (σ' := wI σ q bb y) C ho h2 h3 h4 h1 g2 g1 rfl rfl rfl (fun _ => rfl) (fun z hz j => by rw [rI_wI]; simp [hz]) (fun _ _ _ => rfl) rfl hfv hd (hN _ _ _ _ _ hk)
          · exfalso
            have : ∀ ci, ci < 12 → ∀ k, k < ow_N ci → ow_ty ci k ≠ .boolean := by decide +kernel
            exact this a h2 bb h3 g1
      · rw [g] at hk
        match x, hk with
        | .long y, hk =>
          have hfv : ∀ j, fV w b (wL σ q bb y) a q j = if j = bb then cv w (.long y) else fV w b σ a q j := by
            intro j
            by_cases hj : j = bb
            · subst hj; unfold fV; rw [g, if_pos rfl]; show Value.long (if q = q ∧ j = j then y else _) = _; simp [cv]
            · rw [if_neg hj]; unfold fV; rw [rL_wL]; simp only [hj, and_false, if_false]; rfl
          exact s_put (σ' := wL σ q bb y) C ho h2 h3 h4 h1 g2 g1 rfl rfl rfl (fun _ => rfl) (fun _ _ _ => rfl) (fun z hz j => by rw [rL_wL]; simp [hz]) rfl hfv hd (hN _ _ _ _ _ hk)
      · rw [g] at hk h5
        obtain ⟨h6, h7⟩ := h5 (by omega)
        match x, hk with
        | .ref y, hk =>
          cases b with
          | true => exact hk.elim
          | false =>
            obtain ⟨hr, hk⟩ := cond_tt (show cond (Nat.beq (rS q bb) (y + 1)) (nx At K tl ls r (sA σ q bb) u v) False from hk)
            have hr := Nat.eq_of_beq_eq_true hr
            have hfv : ∀ j, fV w false (sA σ q bb) a q j = if j = bb then cv w (.ref y) else fV w false σ a q j := by
              intro j
              by_cases hj : j = bb
              · subst hj; unfold fV; rw [g, if_pos rfl, asd_sA, hr]; simp [cv, rV]
              · have e9 : asd false (sA σ q bb) q j = asd false σ q j := by
                  rw [asd_sA]; have : ¬ bb = j := fun z => hj z.symm
                  simp [this]
                rw [if_neg hj]; unfold fV; rw [e9]; rfl
            refine s_putF C (hnm.trans h6) ho h2 h3 h4 h1 h7 g2 rfl ?_ ?_ hfv hd (hN _ _ _ _ _ hk)
            · revert g1; cases ow_ty a bb <;> intro g1 <;> first | rfl | cases g1
            · revert g1; cases ow_ty a bb <;> intro g1 <;> first | rfl | cases g1
      · rw [g] at hk h5
        obtain ⟨h6, h7⟩ := h5 (by omega)
        match x, hk with
        | .int y, hk =>
          cases b with
          | true => exact hk.elim
          | false =>
            obtain ⟨hy, hk⟩ := hk
            have hfv : ∀ j, fV w false (sA σ q bb) a q j = if j = bb then cv w (.int y) else fV w false σ a q j := by
              intro j
              by_cases hj : j = bb
              · subst hj; unfold fV; rw [g, if_pos rfl, asd_sA, hy]; simp [cv]
              · have e9 : asd false (sA σ q bb) q j = asd false σ q j := by
                  rw [asd_sA]; have : ¬ bb = j := fun z => hj z.symm
                  simp [this]
                rw [if_neg hj]; unfold fV; rw [e9]; rfl
            exact s_putF C (hnm.trans h6) ho h2 h3 h4 h1 h7 g2 g1 rfl rfl hfv hd (hN _ _ _ _ _ hk)
  case iaload =>
    obtain rfl := of_decide_eq_true hlk
    match st, h with
    | .int i :: .ref q :: r, h => exact s_iald C h.1 hd (hN _ _ _ _ _ h.2)
    | .int i :: .float t :: r, h =>
      obtain ⟨h0, h⟩ := cond_tt h
      exact hSld (Nat.eq_of_beq_eq_true h0) hd h.1 (hN _ _ _ _ _ h.2)
  case baload =>
    obtain rfl := of_decide_eq_true hlk
    match st, h with
    | .int i :: .ref q :: r, h => exact s_zald C h.1 hd (hN _ _ _ _ _ h.2)
  case laload =>
    obtain rfl := of_decide_eq_true hlk
    match st, h with
    | .int i :: .ref q :: r, h => exact s_lald C h.1 hd (hN _ _ _ _ _ h.2)
  case aaload =>
    obtain rfl := of_decide_eq_true hlk
    match st, h with
    | .int i :: .ref q :: r, h =>
      cases hb17 : Nat.beq (kS q) 17 with
      | true =>
        have h : aOK b σ q 17 i ∧ cond (asd b σ q i.toNatClampNeg) (rMat (rS q i.toNatClampNeg) fun x => nx At K tl ls (.ref x :: r) σ u v) False := by
          have h' : cond (Nat.beq (kS q) 17) (aOK b σ q 17 i ∧ cond (asd b σ q i.toNatClampNeg) (rMat (rS q i.toNatClampNeg) fun x => nx At K tl ls (.ref x :: r) σ u v) False) (aOK b σ q (kS q) i ∧ (kS q = 15 ∨ kS q = 16) ∧ nx At K tl ls (.ref (q + 1 + i.toNatClampNeg) :: r) σ u v) := h
          rw [hb17] at h'; exact h'
        obtain ⟨h1, h2⟩ := h
        obtain ⟨h3, h4⟩ := cond_tt h2
        cases hr : rS q i.toNatClampNeg with
        | zero => rw [hr] at h4; exact h4.elim
        | succ x => rw [hr] at h4; exact s_aald17 C h1 h3 hr hd (hN _ _ _ _ _ h4)
      | false =>
        have h' : cond (Nat.beq (kS q) 17) (aOK b σ q 17 i ∧ cond (asd b σ q i.toNatClampNeg) (rMat (rS q i.toNatClampNeg) fun x => nx At K tl ls (.ref x :: r) σ u v) False) (aOK b σ q (kS q) i ∧ (kS q = 15 ∨ kS q = 16) ∧ nx At K tl ls (.ref (q + 1 + i.toNatClampNeg) :: r) σ u v) := h
        rw [hb17] at h'
        obtain ⟨h1, h2 | h2, h3⟩ := h'
        · rw [h2] at h1; exact s_aald15 C h1 hd (hN _ _ _ _ _ h3)
        · rw [h2] at h1; exact s_aald16 C h1 hd (hN _ _ _ _ _ h3)
  case iastore =>
    obtain rfl := of_decide_eq_true hlk
    match st, h with
    | .int x :: .int i :: .ref q :: r, h => exact s_iast C h.1 hd (hN _ _ _ _ _ h.2)
  case bastore =>
    obtain rfl := of_decide_eq_true hlk
    match st, h with
    | .int x :: .int i :: .ref q :: r, h => exact s_zast C h.1 hd (hN _ _ _ _ _ h.2)
  case lastore =>
    obtain rfl := of_decide_eq_true hlk
    match st, h with
    | .long x :: .int i :: .ref q :: r, h => exact s_last C h.1 hd (hN _ _ _ _ _ h.2)
  case aastore =>
    obtain rfl := of_decide_eq_true hlk
    match st, h with
    | .ref x :: .int i :: .ref q :: r, h =>
      cases b with
      | true => exact h.elim
      | false => obtain ⟨h1, h2, h3, h4⟩ := h; exact s_aast C h1 h2 h3 hd (hN _ _ _ _ _ h4)
  case arraylength =>
    obtain rfl := of_decide_eq_true hlk
    match st, h with
    | .ref q :: r, h => obtain ⟨h1, h2⟩ := cond_tt h; exact s_alen C h1 hd (hN _ _ _ _ _ h2)
    | .float q :: r, h =>
      obtain ⟨h0, h⟩ := cond_tt h
      exact hSln (Nat.eq_of_beq_eq_true h0) h.1 hd (hN _ _ _ _ _ h.2)
  case new i =>
    obtain ⟨rfl, h1, rfl, h2, rfl, h3⟩ := of_decide_eq_true hlk
    cases b with
    | true => exact h.elim
    | false =>
      obtain ⟨g, h4, h5, h6⟩ := cond_tt (show cond (Nat.blt (mN σ) ow_n0 && Nat.beq (kS (mN σ)) a) (u + 1 ≤ KC ∧ v + ow_N a ≤ KS ∧ nx At K tl ls (.ref (mN σ) :: st) (nS σ 1) (u + 1) (v + ow_N a)) False from h)
      simp only [Bool.and_eq_true] at g
      have g1 : mN σ < ow_n0 := by have := g.1; simp [Nat.blt] at this; omega
      exact s_new C h2 h3 h1 g1 (Nat.eq_of_beq_eq_true g.2) hRc hRs h4 h5 hd (hN _ _ _ _ _ h6)
  case newarray t =>
    obtain ⟨rfl, h1⟩ := of_decide_eq_true hlk
    obtain ⟨x, r, rfl, hk⟩ := unI_sp h
    cases b with
    | true =>
      obtain ⟨g, h2, h3, h4, h5, h6, h7⟩ := cond_tt (show cond (Nat.beq a 12) (¬ x < 0 ∧ x.toNatClampNeg ≤ 1000 ∧ ow_n0 ≤ mN σ ∧ u + 1 ≤ KC ∧ v + x.toNatClampNeg ≤ KS ∧ nx At K tl ls (.ref (mN σ) :: r) (nD σ x.toNatClampNeg) (u + 1) (v + x.toNatClampNeg)) False from hk)
      have g := Nat.eq_of_beq_eq_true g
      rcases h1 with ⟨-, rfl⟩ | ⟨e1, -⟩ | ⟨e1, -⟩
      · exact s_newarrD C h2 h3 h4 hRc hRs h5 h6 hd (hN _ _ _ _ _ h7)
      · omega
      · omega
    | false =>
      obtain ⟨g, h2, h3, h4, h5, h6⟩ := cond_tt (show cond (Nat.blt (mN σ) ow_n0 && Nat.beq (kS (mN σ)) a) (¬ x < 0 ∧ x.toNatClampNeg = lS (mN σ) ∧ u + 1 ≤ KC ∧ v + lS (mN σ) ≤ KS ∧ nx At K tl ls (.ref (mN σ) :: r) (nS σ 1) (u + 1) (v + lS (mN σ))) False from hk)
      simp only [Bool.and_eq_true] at g
      have g1 : mN σ < ow_n0 := by have := g.1; simp [Nat.blt] at this; omega
      have g2 := Nat.eq_of_beq_eq_true g.2
      have g3 : lS (mN σ) ≤ 1000 := (show ∀ a, a < ow_n0 → lS a ≤ 1000 by decide +kernel) _ g1
      rcases h1 with ⟨e1, rfl⟩ | ⟨e1, rfl⟩ | ⟨e1, rfl⟩
      · exact s_newarrI C h2 h3 g1 (g2.trans e1) g3 hRc hRs h4 h5 hd (hN _ _ _ _ _ h6)
      · exact s_newarrZ C h2 h3 g1 (g2.trans e1) g3 hRc hRs h4 h5 hd (hN _ _ _ _ _ h6)
      · exact s_newarrJ C h2 h3 g1 (g2.trans e1) g3 hRc hRs h4 h5 hd (hN _ _ _ _ _ h6)
  case multianewarray i k2 =>
    obtain ⟨rfl, rfl, h1⟩ := of_decide_eq_true hlk
    match st, h with
    | .int k :: .int n :: r, h =>
      cases b with
      | true => exact h.elim
      | false =>
        obtain ⟨h2, h3, h4, h5, h6, h7, h8, h9, h10, h11⟩ := h
        have g3 : lS (mN σ) ≤ 1000 := (show ∀ a, a < ow_n0 → lS a ≤ 1000 by decide +kernel) _ (by omega)
        rcases h1 with ⟨e1, e2⟩ | ⟨e1, e2⟩
        · exact s_multi (ty := .int) C (Or.inl ⟨rfl, rfl, rfl, rfl, rfl⟩) (C.2.2.2.2.1 _ (ow_al.get ow_maI_al e2)) C.2.2.2.2.2.1.2.2.2.1 (C.2.2.2.2.1 _ ow_acI) h3 h2 h4 h5 (h6.trans e1) (by rw [e1] at h7; exact h7) h8 g3 hRc hRs h9 h10 hd (hN _ _ _ _ _ h11)
        · exact s_multi (ty := .boolean) C (Or.inr ⟨rfl, rfl, rfl, rfl, rfl⟩) (C.2.2.2.2.1 _ (ow_al.get ow_maZ_al e2)) C.2.2.2.2.2.1.2.2.2.2.1 (C.2.2.2.2.1 _ ow_acZ) h3 h2 h4 h5 (h6.trans e1) (by rw [e1] at h7; exact h7) h8 g3 hRc hRs h9 h10 hd (hN _ _ _ _ _ h11)
  case anewarray i =>
    obtain ⟨rfl, h0, h1⟩ := of_decide_eq_true hlk
    obtain ⟨x, r, rfl, hk⟩ := unI_sp h
    cases b with
    | true => exact hk.elim
    | false =>
      obtain ⟨g, h2, h3, h4, h5, h6⟩ := cond_tt (show cond (Nat.blt (mN σ) ow_n0 && Nat.beq (kS (mN σ)) 17) (¬ x < 0 ∧ x.toNatClampNeg = lS (mN σ) ∧ u + 1 ≤ KC ∧ v + lS (mN σ) ≤ KS ∧ nx At K tl ls (.ref (mN σ) :: r) (nS σ 1) (u + 1) (v + lS (mN σ))) False from hk)
      simp only [Bool.and_eq_true] at g
      have g1 : mN σ < ow_n0 := by have := g.1; simp [Nat.blt] at this; omega
      have g3 : lS (mN σ) ≤ 1000 := (show ∀ a, a < ow_n0 → lS a ≤ 1000 by decide +kernel) _ g1
      exact s_anew C h1 h0 h2 h3 g1 (Nat.eq_of_beq_eq_true g.2) g3 hRc hRs h4 h5 hd (hN _ _ _ _ _ h6)
  case invokespecial i =>
    obtain ⟨rfl, h1, ⟨rfl, h2⟩ | ⟨rfl, h2, h3, h4, h5, h6, h7⟩⟩ := of_decide_eq_true hlk
    · obtain ⟨q, r, rfl, hk⟩ := unR_sp h
      obtain ⟨hst, hk⟩ := cond_tt hk
      exact s_objInit C h2 (by omega) (by omega) hRc hRs (Nat.le_of_ble_eq_true hst) hd (hN _ _ _ _ _ hk)
    · obtain ⟨as, r, rfl, hl, hk⟩ := popN_spec _ _ _ _ h
      obtain ⟨hst, hk⟩ := cond_tt hk
      rw [List.append_nil] at hk
      match as, hl, hk with
      | .ref q :: as, hl, hk =>
        obtain ⟨kc, ks, hu1, hv1, hk⟩ := hk
        have e1 : (Value.ref q :: as).reverse ++ r = as.reverse ++ .ref q :: r := by simp
        rw [e1]
        exact s_special C hw h2 h3 h4 h5 (by simp at hl; omega) hRf1 hRl1 hRc hRs h7 h1 (Nat.le_of_ble_eq_true hst) hd (hCl _ _ _ _ _ _ _ hk) hu1 hv1 (fun _ _ z => hN _ _ _ _ _ z) (fun _ _ z => hHx _ _ _ _ _ _ z)
  case invokestatic i =>
    obtain ⟨rfl, h1, ⟨rfl, h2⟩ | ⟨rfl, h2⟩ | ⟨h0, h2, h3, h4, h5⟩⟩ := of_decide_eq_true hlk
    · obtain ⟨x, y, r, rfl, hk⟩ := bin_sp h
      obtain ⟨hst, hk⟩ := cond_tt hk
      have hst := Nat.le_of_ble_eq_true hst
      have hts := C.2.2.2.2.1
      exact fun hu hv H lsM locs hR hL hf => va_mmin C.1 C.2.1 (C.2.2.1.trans hL.1.symm) C.2.2.2.1 (hts _ (ow_al.get ow_mmin_al h2)) (hts _ ow_mmin_st) (hts _ ow_math) (hts _ ow_mmin_c) (by omega) (by rw [stS_cat]; omega) (by omega) (by omega) hd (hN _ _ _ _ _ hk hu hv H lsM locs hR hL hf)
    · obtain ⟨x, y, r, rfl, hk⟩ := bin_sp h
      obtain ⟨hst, hk⟩ := cond_tt hk
      have hst := Nat.le_of_ble_eq_true hst
      have hts := C.2.2.2.2.1
      exact fun hu hv H lsM locs hR hL hf => va_mmax C.1 C.2.1 (C.2.2.1.trans hL.1.symm) C.2.2.2.1 (hts _ (ow_al.get ow_mmax_al h2)) (hts _ ow_mmax_st) (hts _ ow_math) (hts _ ow_mmax_c) (by omega) (by rw [stS_cat]; omega) (by omega) (by omega) hd (hN _ _ _ _ _ hk hu hv H lsM locs hR hL hf)
    · rcases (show cc = 0 ∨ cc = 1 by omega) with rfl | rfl
      · obtain ⟨as, r, rfl, hl, hk⟩ := popN_spec _ _ _ _ h
        obtain ⟨hst, hk⟩ := cond_tt hk
        rw [List.append_nil] at hk
        exact fun hu hv => s_static (kc := 0) (ks := 0) C hw h2 h3 (by omega) hRf1 hRl1 hRc hRs h5 h1 (Nat.le_of_ble_eq_true hst) hd (hCl _ _ _ _ _ _ _ hk) hu hv (fun _ _ z => hN _ _ _ _ _ z) (fun _ _ z => hHx _ _ _ _ _ _ z) hu hv
      · obtain ⟨as, r, rfl, hl, hk⟩ := popN_spec _ _ _ _ h
        obtain ⟨hst, kc, ks, hu1, hv1, hk⟩ := cond_tt hk
        rw [List.append_nil] at hk
        exact s_static C hw h2 h3 (by omega) hRf1 hRl1 hRc hRs h5 h1 (Nat.le_of_ble_eq_true hst) hd (hCl _ _ _ _ _ _ _ hk) hu1 hv1 (fun _ _ z => hN _ _ _ _ _ z) (fun _ _ z => hHx _ _ _ _ _ _ z)
  case invokevirtual i =>
    have hlk : (decide (len = 3 ∧ own < 14 ∧ cc ≤ 1 ∧ cmB a = true ∧ a ∈ ow_imm ∧ a ∈ ow_sem ∧ bb = ow_np a + 1 ∧ ((i, a) ∈ ow_g0 own ∨ (i, a) ∈ ow_g1 own)) && tsB a ts) = true := hlk
    rw [Bool.and_eq_true] at hlk
    obtain ⟨hlk, hlk2⟩ := hlk
    obtain ⟨rfl, h1, h0, h2, h3, h4, h5, h6⟩ := of_decide_eq_true hlk
    obtain ⟨nst, ci, rfl, g1, g2⟩ := tsB_sp hlk2
    · rcases (show cc = 0 ∨ cc = 1 by omega) with rfl | rfl
      · obtain ⟨as, r, rfl, hl, hk⟩ := popN_spec _ _ _ _ h
        obtain ⟨hst, hk⟩ := cond_tt hk
        rw [List.append_nil] at hk
        match as, hl, hk with
        | .ref q :: as, hl, hk =>
          obtain ⟨ho, hk⟩ := cond_tt hk
          have e1 : (Value.ref q :: as).reverse ++ r = as.reverse ++ .ref q :: r := by simp
          rw [e1]
          exact fun hu hv => s_virtual (kc := 0) (ks := 0) C hw h2 h3 h4 ho g1 g2 (by simp at hl; omega) hRf1 hRl1 hRc hRs h6 h1 (Nat.le_of_ble_eq_true hst) hd (hCl _ _ _ _ _ _ _ hk) hu hv (fun _ _ z => hN _ _ _ _ _ z) (fun _ _ z => hHx _ _ _ _ _ _ z) hu hv
      · obtain ⟨as, r, rfl, hl, hk⟩ := popN_spec _ _ _ _ h
        obtain ⟨hst, hk⟩ := cond_tt hk
        rw [List.append_nil] at hk
        match as, hl, hk with
        | .ref q :: as, hl, hk =>
          obtain ⟨ho, kc, ks, hu1, hv1, hk⟩ := cond_tt hk
          have e1 : (Value.ref q :: as).reverse ++ r = as.reverse ++ .ref q :: r := by simp
          rw [e1]
          exact s_virtual C hw h2 h3 h4 ho g1 g2 (by simp at hl; omega) hRf1 hRl1 hRc hRs h6 h1 (Nat.le_of_ble_eq_true hst) hd (hCl _ _ _ _ _ _ _ hk) hu1 hv1 (fun _ _ z => hN _ _ _ _ _ z) (fun _ _ z => hHx _ _ _ _ _ _ z)
  case return_ =>
    obtain ⟨rfl, h1⟩ := of_decide_eq_true hlk
    match st, h with
    | [], h => exact hRt.1 h1 hd h
  case ireturn =>
    obtain ⟨rfl, ⟨rfl, h1⟩ | ⟨rfl, h1⟩⟩ := of_decide_eq_true hlk
    · match st, h with
      | [.int x], h => exact hRt.2.1 h1 hd h
    · match st, h with
      | [.int x], h => exact hRt.2.2.1 h1 hd h.1 h.2
  case lreturn =>
    obtain ⟨rfl, h1⟩ := of_decide_eq_true hlk
    match st, h with
    | [.long x], h => exact hRt.2.2.2.1 h1 hd h
  case areturn =>
    have hlk : (decide (len = 1) && rtB ret) = true := hlk
    rw [Bool.and_eq_true] at hlk
    obtain ⟨hlk, hlk2⟩ := hlk
    obtain rfl := of_decide_eq_true hlk
    have h1 := rtB_sp hlk2
    match st, h with
    | [.ref x], h => exact hRt.2.2.2.2 h1 hd (Or.inl ⟨x, rfl⟩) h
    | [.float x], h => exact hRt.2.2.2.2 h1 hd (Or.inr ⟨x, rfl⟩) h
  all_goals first | exact False.elim h | (cases hsp)
end SND6
