/-! TEXTS: String.length and String.charAt, walked in the JDK's own code; nothing changes -/
def Pj (w : Wd) (b : Bool) (σ : Mem) (vs : List Value) : Array Value → State → Prop := fun v U => v = vs.toArray ∧ RelH w b σ U.heap ∧ KF w U
def Qj (w : Wd) (b : Bool) (σ : Mem) (r : Option Value) : Array Value → State → Outcome → State → Prop := fun _ _ o t => o = .returned r ∧ RelH w b σ t.heap
def JM (w : Wd) (b : Bool) (σ : Mem) (d : Nat) (y : MethodName) (bytes : ByteArray) (n : Nat) (ret : Option FieldType) (vs : List Value) (r : Option Value) : Prop :=
  vx_Met (wLa w) y (Cond.code y bytes n ret :: ow_T) (Rm d 0 0) (Pj w b σ vs) (Qj w b σ r) (fun _ _ _ => False) 0 0 (fre w)
theorem Pj.blind {w : Wd} {b : Bool} {σ : Mem} {vs : List Value} : FrameBlind (Pj w b σ vs) := fun _ _ _ _ h => ⟨h.1, h.2.1, h.2.2.same rfl⟩
section JMS
variable {w : Wd} {b : Bool} {p : Program} {e : Env} {R : Room} {s : State} {m : MethodId} {args : Array Value} {below : List Frame} {meth : Method} {c : Code} {Q : State → Prop} {σ : Mem} {H : Heap} {locs : List Loc}
/-- old cells stay -/
theorem j_S (h0 : RelH w b σ s.heap) (hR : RelH w b σ H) (hf : ∀ q ∈ locs, fre w q.base) : va_S (fre w) s.heap H locs := ⟨by rw [h0.1, hR.1]; exact Nat.le_refl _, fun q _ h2 => by rw [hR.2.1 q (Nat.not_le.mp h2), h0.2.1 q (Nat.not_le.mp h2)], hf⟩
theorem j_kept (h0 : RelH w b σ s.heap) : ∀ a : Nat, a < (wH w).size → ¬ fre w a → s.heap[a]? = (wH w)[a]? := fun a _ ha => h0.2.1 a (Nat.not_le.mp ha)
theorem j_callB {own : String} {y : MethodName} {bytes : ByteArray} {nL i n d : Nat} {ret : Option FieldType} (hts : ∀ z ∈ ow_T, z.before args s = true) (hcode : Cond.code y bytes nL ret ∈ ow_T) (hini : Cond.initialized y.cls ∈ ow_T) (hlink : Cond.methodLink own i y ∈ ow_T)
    (hd : y.cls ≠ "java/lang/invoke/MethodHandle" ∧ y.cls ≠ "java/lang/invoke/VarHandle" ∧ (parseMethodDescriptor y.desc).map (fun d => d.parameters.length) = some n) (hR : d + 1 ≤ R.frames ∧ 8 + (nL + 11) + 40 * d ≤ R.locals) : CallB R s args own i y bytes nL ret (Cond.code y bytes nL ret :: ow_T) (Rm d 0 0) 0 0 n :=
  callB_of (ws' := ow_T) n hts (fun z hz => (List.mem_cons.mp hz).elim (fun q => by rw [q]; exact ow_good hcode (fun _ q => q)) (fun q => ow_good q (fun _ q => q))) rfl rfl rfl (hts _ hini) (hts _ hlink) hd hR
theorem j_run {pc : Nat} {lsM : Array Slot} {st0 rest : List Value} {r : Option Value} {as : Array Value} {u v : Nat} (hr : vx_Run p (wLa w) e R s m args below meth c H locs u v 0 0 (F0 m pc lsM st0) rest (Qj w b σ r as) (fun _ _ _ => False) (fre w)) (hf : ∀ q ∈ locs, fre w q.base)
    (kk : ∀ H' locs', RelH w b σ H' → (∀ q ∈ locs', fre w q.base) → W p (wLa w) e R s m args below meth c H' locs' u v Q (F0 m (pc + 3) lsM (r.toList ++ rest))) : W p (wLa w) e R s m args below meth c H locs u v Q (F0 m pc lsM st0) := by
  intro T hT X0
  rcases hr T hT X0 with ⟨vr, st₀, t, T', L, h0, X', hL, e1, e2, ⟨hv', hR'⟩, stp⟩ | ⟨q, st₀, t, T', L, E, ce, h0, X', hL, e1, e2, hF, _⟩
  · obtain rfl := Outcome.returned.inj hv'
    obtain ⟨t2, a1, b1⟩ := kk T'.heap (locs ++ L) (by rw [e1]; exact hR') (fun z hz => (List.mem_append.mp hz).elim (hf z) (hL z)) T' rfl X'
    exact ⟨t2, stp t2 a1, b1⟩
  · exact hF.elim
/-- a static call -/
theorem j_static {own : String} {y : MethodName} {bytes cc : ByteArray} {nL nL0 i d pc nv : Nat} {ret : Option FieldType} {vs rest : List Value} {r : Option Value} {lsM : Array Slot} (hx : p.tables.exec = Jvm.exec) (hb : c.code = cc) (hml : c.maxLocals = nL0) (hown : s.vm.findClass own = some m.cls) (hts : ∀ z ∈ ow_T, z.before args s = true) (hKF : KF w s)
    (hM : JM w b σ d y bytes nL ret vs r) (hcode : Cond.code y bytes nL ret ∈ ow_T) (hini : Cond.initialized y.cls ∈ ow_T) (hlink : Cond.methodLink own i y ∈ ow_T) (hst : Cond.static y ∈ ow_T)
    (hd : y.cls ≠ "java/lang/invoke/MethodHandle" ∧ y.cls ≠ "java/lang/invoke/VarHandle" ∧ (parseMethodDescriptor y.desc).map (fun d => d.parameters.length) = some nv) (hnv : vs.length = nv) (hRm : d + 1 ≤ R.frames ∧ 8 + (nL + 11) + 40 * d ≤ R.locals)
    (hR : RelH w b σ H) (hf : ∀ q ∈ locs, fre w q.base) (hsz : lsM.size = nL0) (hcat : (rest.map fun v => v.category).sum ≤ 8) {u v : Nat} (hu : u ≤ R.cells) (hv : v ≤ R.slots) (hdec : decode cc pc = .ok (.invokestatic i, 3))
    (kk : ∀ H' locs', RelH w b σ H' → (∀ q ∈ locs', fre w q.base) → W p (wLa w) e R s m args below meth c H' locs' u v Q (F0 m (pc + 3) lsM (r.toList ++ rest))) : W p (wLa w) e R s m args below meth c H locs u v Q (F0 m pc lsM (vs.reverse ++ rest)) :=
  j_run (rest := rest) (vx_runS (g := F0 m pc lsM (vs.reverse ++ rest)) (rest := rest) ⟨hx, hb, hml, hown, hts⟩ hM ⟨j_callB (n := nv) hts hcode hini hlink hd hRm, hts _ hst⟩ ⟨Pj.blind, fun U hU hW => ⟨rfl, by rw [hU]; exact hR, hKF.moved hW⟩⟩ rfl hnv hsz rfl (by show 2 * 0 + _ ≤ 8; omega) hdec ⟨hu, hv⟩) hf kk
/-- a call on a text -/
theorem j_virtual {own : String} {y : MethodName} {bytes cc : ByteArray} {nL nL0 i d pc t nv : Nat} {ret : Option FieldType} {vs rest : List Value} {r : Option Value} {lsM : Array Slot} (hx : p.tables.exec = Jvm.exec) (hb : c.code = cc) (hml : c.maxLocals = nL0) (hown : s.vm.findClass own = some m.cls) (hts : ∀ z ∈ ow_T, z.before args s = true) (hKF : KF w s)
    (hkp : ∀ q, q < wN w → s.heap[q]? = (wH w)[q]?) (hS : va_S (fre w) s.heap H locs) (ht : t < 15) (hM : JM w b σ d y bytes nL ret (.ref (wS w (t + 1)) :: vs) r) (hcode : Cond.code y bytes nL ret ∈ ow_T) (hini : Cond.initialized y.cls ∈ ow_T) (hlink : Cond.methodLink own i y ∈ ow_T) (hin : Cond.instanceMethod y ∈ ow_T) (hse : Cond.selects "java/lang/String" y y ∈ ow_T)
    (hd : y.cls ≠ "java/lang/invoke/MethodHandle" ∧ y.cls ≠ "java/lang/invoke/VarHandle" ∧ (parseMethodDescriptor y.desc).map (fun d => d.parameters.length) = some nv) (hnv : vs.length = nv) (hRm : d + 1 ≤ R.frames ∧ 8 + (nL + 11) + 40 * d ≤ R.locals)
    (hR : RelH w b σ H) (hf : ∀ q ∈ locs, fre w q.base) (hsz : lsM.size = nL0) (hcat : (rest.map fun v => v.category).sum ≤ 8) {u v : Nat} (hu : u ≤ R.cells) (hv : v ≤ R.slots) (hdec : decode cc pc = .ok (.invokevirtual i, 3))
    (kk : ∀ H' locs', RelH w b σ H' → (∀ q ∈ locs', fre w q.base) → W p (wLa w) e R s m args below meth c H' locs' u v Q (F0 m (pc + 3) lsM (r.toList ++ rest))) : W p (wLa w) e R s m args below meth c H locs u v Q (F0 m pc lsM (vs.reverse ++ .ref (wS w (t + 1)) :: rest)) := by
  have hK := hKF.2.2.2.2.2.2.1.1.kept (fun a _ ha => hkp a (Nat.not_le.mp ha))
  exact j_run (rest := rest) (vx_runV (C := "java/lang/String") (b := wS w (t + 1)) (As := vs) (g := F0 m pc lsM (vs.reverse ++ .ref (wS w (t + 1)) :: rest)) (rest := rest) ⟨hx, hb, hml, hown, hts⟩ hM ⟨j_callB (n := nv) hts hcode hini hlink hd hRm, hts _ hin, hts _ hse⟩
    ⟨Pj.blind, vk_recv (i := t) hK ht hS, fun U hU hW => ⟨rfl, by rw [hU]; exact hR, hKF.moved hW⟩⟩ rfl hnv hsz rfl (by show 2 * 0 + _ ≤ 8; omega) hdec ⟨hu, hv⟩) hf kk
/-- a contract out of a walk -/
theorem JM.of {d : Nat} {y : MethodName} {bytes : ByteArray} {n : Nat} {ret : Option FieldType} {vs : List Value} {r : Option Value} (hy : plainName y.cls = true) (hl : (lg_sl vs).length ≤ n)
    (body : ∀ (p : Program) (e : Env) (s : State) (m : MethodId) (args : Array Value) (below : List Frame) (meth : Method) (c : Code) (ls : Array Slot), p.tables.exec = Jvm.exec → c.code = bytes → c.maxLocals = n → meth.sig.returnType = ret → s.vm.findClass y.cls = some m.cls → (∀ z ∈ ow_T, z.before args s = true) → KF w s → meth.locks = false → RelH w b σ s.heap → lv_has ls n (lv_args 0 vs) →
      W p (wLa w) e (Rm d 0 0) s m args below meth c s.heap [] 0 0 (vx_MQ below (Qj w b σ r) (fun _ _ _ => False) args s 0 0 (fre w)) (F0 m 0 ls [])) : JM w b σ d y bytes n ret vs r := by
  refine vx_ofW (cc := bytes) (maxL := n) (ret := ret) (ws' := ow_T) hy rfl ?_
  intro p e s m args below meth c s₁ B hml hout hPc
  obtain ⟨rfl, hR, hKF⟩ := hPc
  rw [lg_entry_eq]
  exact body p e s m _ below meth c _ B.exec B.bytes hml B.returns (findClass_of_methodNamed B.named) (fun z hz => atoms_spec (ws := Cond.code y bytes n ret :: ow_T) B.pre z (List.mem_cons_of_mem _ hz)) hKF B.notSynchronized hR (lv_entry vs hl)
end JMS
def jy_coder : MethodName := ⟨"java/lang/String", "coder", "()B"⟩
def jy_length : MethodName := ⟨"java/lang/String", "length", "()I"⟩
def jy_isLatin1 : MethodName := ⟨"java/lang/String", "isLatin1", "()Z"⟩
def jy_charAt : MethodName := ⟨"java/lang/String", "charAt", "(I)C"⟩
def jy_checkIndex : MethodName := ⟨"java/lang/String", "checkIndex", "(II)V"⟩
def jy_charAt1 : MethodName := ⟨"java/lang/StringLatin1", "charAt", "([BI)C"⟩
def jy_preIndex : MethodName := ⟨"jdk/internal/util/Preconditions", "checkIndex", "(IILjava/util/function/BiFunction;)I"⟩
section JMC
variable {w : Wd} {b : Bool} {σ : Mem} {d : Nat}
theorem jm_coder {t : Nat} (ht : t < 15) : JM w b σ (d + 1) jy_coder prog_23_method_152_code 1 (some .byte) [.ref (wS w (t + 1))] (some (.int 0)) := by
  refine JM.of (by decide +kernel) (Nat.le_of_ble_eq_true rfl) ?_
  intro p e s m args below meth c ls hx hb hml hr hown hts hKF hlocks h0 hl
  have hS : va_S (fre w) s.heap s.heap [] := j_S h0 h0 (fun q hq => by cases hq)
  have hK := hKF.2.2.2.2.2.2.1
  refine va_gets hx hb (hK.2.1.kept (j_kept h0)) hS hown (hts (.fieldLink "java/lang/String" 38 "java/lang/String" "COMPACT_STRINGS" "Z") (ow_t 580 (by decide +kernel) rfl)) (fun _ h => h) (by decide +kernel) ?_
  refine lv_if_eq hx hb (off := 10) (tgt := 13) (by decide +kernel) (by decide) (fun q => absurd q (by decide)) (fun _ => ?_)
  refine lv_aload_n hx hb (k := 0) (i := 0) (x := wS w (t + 1)) (by decide +kernel) rfl (lv_at hl 0 rfl) ?_
  refine vk_getf hx hb ((hK.1.kept (j_kept h0)).1 t ht).2.1 hS hown (hts (.fieldLink "java/lang/String" 15 "java/lang/String" "coder" "B") (ow_t 1873 (by decide +kernel) rfl)) (fun _ h => h) (by decide +kernel) ?_
  refine lv_goto hx hb (off := 4) (tgt := 14) (by decide +kernel) (by decide) ?_
  exact vx_ret (W.zret hx hb hr (by decide) (fun t ht _ => ⟨rfl, by rw [ht]; exact h0⟩) hS.2.2 (by decide +kernel) hlocks)
theorem jm_isLatin1 {t : Nat} (ht : t < 15) : JM w b σ (d + 1) jy_isLatin1 prog_23_method_154_code 1 (some .boolean) [.ref (wS w (t + 1))] (some (.int 1)) := by
  refine JM.of (by decide +kernel) (Nat.le_of_ble_eq_true rfl) ?_
  intro p e s m args below meth c ls hx hb hml hr hown hts hKF hlocks h0 hl
  have hS : va_S (fre w) s.heap s.heap [] := j_S h0 h0 (fun q hq => by cases hq)
  have hK := hKF.2.2.2.2.2.2.1
  refine va_gets hx hb (hK.2.1.kept (j_kept h0)) hS hown (hts (.fieldLink "java/lang/String" 38 "java/lang/String" "COMPACT_STRINGS" "Z") (ow_t 580 (by decide +kernel) rfl)) (fun _ h => h) (by decide +kernel) ?_
  refine lv_if_eq hx hb (off := 14) (tgt := 17) (by decide +kernel) (by decide) (fun q => absurd q (by decide)) (fun _ => ?_)
  refine lv_aload_n hx hb (k := 0) (i := 0) (x := wS w (t + 1)) (by decide +kernel) rfl (lv_at hl 0 rfl) ?_
  refine vk_getf hx hb ((hK.1.kept (j_kept h0)).1 t ht).2.1 hS hown (hts (.fieldLink "java/lang/String" 15 "java/lang/String" "coder" "B") (ow_t 1873 (by decide +kernel) rfl)) (fun _ h => h) (by decide +kernel) ?_
  refine lv_if_ne hx hb (off := 7) (tgt := 17) (by decide +kernel) (by decide) (fun q => absurd rfl q) (fun _ => ?_)
  refine lv_iconst hx hb (n := 1) (v := 1) (by decide +kernel) (by decide) ?_
  refine lv_goto hx hb (off := 4) (tgt := 18) (by decide +kernel) (by decide) ?_
  exact vx_ret (W.zret hx hb hr (by decide) (fun t ht _ => ⟨rfl, by rw [ht]; exact h0⟩) hS.2.2 (by decide +kernel) hlocks)
theorem jm_length {t : Nat} (ht : t < 15) : JM w b σ (d + 2) jy_length prog_23_method_54_code 1 (some .int) [.ref (wS w (t + 1))] (some (.int (nI (ow_sl.getD t 0)))) := by
  refine JM.of (by decide +kernel) (Nat.le_of_ble_eq_true rfl) ?_
  intro p e s m args below meth c ls hx hb hml hr hown hts hKF hlocks h0 hl
  have hS : va_S (fre w) s.heap s.heap [] := j_S h0 h0 (fun q hq => by cases hq)
  have hK := hKF.2.2.2.2.2.2.1
  have hsz : ls.size = 1 := hl.1
  refine lv_aload_n hx hb (k := 0) (i := 0) (x := wS w (t + 1)) (by decide +kernel) rfl (lv_at hl 0 rfl) ?_
  refine vk_getf hx hb ((hK.1.kept (j_kept h0)).1 t ht).2.2.1 hS hown (hts (.fieldLink "java/lang/String" 9 "java/lang/String" "value" "[B") (ow_t 1872 (by decide +kernel) rfl)) (fun _ h => h) (by decide +kernel) ?_
  refine va_tlen hx hb ((hK.1.kept (j_kept h0)).1 t ht).2.2.2 hS (v := nI (ow_sl.getD t 0)) rfl (by decide +kernel) ?_
  refine lv_aload_n hx hb (k := 0) (i := 0) (x := wS w (t + 1)) (by decide +kernel) rfl (lv_at hl 0 rfl) ?_
  refine j_virtual (d := d + 1) (i := 335) (nv := 0) (vs := []) (rest := [.int (nI (ow_sl.getD t 0))]) hx hb hml hown hts hKF h0.2.1 hS ht (jm_coder (d := d) ht) (ow_t 579 (by decide +kernel) rfl) (ow_t 17 (by decide +kernel) rfl) (ow_t 576 (by decide +kernel) rfl) (ow_t 577 (by decide +kernel) rfl) (ow_t 578 (by decide +kernel) rfl) ⟨by decide, by decide, by decide +kernel⟩ rfl ⟨Nat.le_refl _, by show 8 + (1 + 11) + 40 * (d + 1) ≤ 40 * (d + 2); omega⟩ h0 hS.2.2 hsz (Nat.le_of_ble_eq_true rfl) (Nat.zero_le _) (Nat.zero_le _) (by decide +kernel) (fun H' locs' hR' hf' => ?_)
  refine lv_ishr hx hb (by decide +kernel) ?_
  have e : nI (ow_sl.getD t 0) >>> ((0 : Int32) &&& 31) = nI (ow_sl.getD t 0) := (show ∀ t, t < 15 → nI (ow_sl.getD t 0) >>> ((0 : Int32) &&& 31) = nI (ow_sl.getD t 0) by decide) t ht
  rw [e]
  exact vx_ret (W.iret hx hb hr (fun t ht _ => ⟨rfl, by rw [ht]; exact hR'⟩) hf' (by decide +kernel) hlocks)
theorem jm_preIndex {i n : Nat} {z : Value} (hi : i < n) (hn : n < 2 ^ 31) (hz : z.category = 1) : JM w b σ (d + 1) jy_preIndex prog_30_method_11_code 3 (some .int) [.int (nI i), .int (nI n), z] (some (.int (nI i))) := by
  have hll : (lg_sl [.int (nI i), .int (nI n), z]).length ≤ 3 := by
    have : (lg_sl [z]).length = 1 := by cases z <;> first | rfl | cases hz
    cases z <;> first | exact Nat.le_refl _ | cases hz
  refine JM.of (by decide +kernel) hll ?_
  intro p e s m args below meth c ls hx hb hml hr hown hts hKF hlocks h0 hl
  have hS : va_S (fre w) s.heap s.heap [] := j_S h0 h0 (fun q hq => by cases hq)
  refine lv_iload_n hx hb (k := 0) (i := 0) (x := nI i) (by decide +kernel) rfl (lv_at hl 0 rfl) ?_
  refine lv_if_lt hx hb (off := 8) (tgt := 9) (by decide +kernel) (by decide) (fun q => absurd q (nI_pos (by omega))) (fun _ => ?_)
  refine lv_iload_n hx hb (k := 0) (i := 0) (x := nI i) (by decide +kernel) rfl (lv_at hl 0 rfl) ?_
  refine lv_iload_n hx hb (k := 1) (i := 1) (x := nI n) (by decide +kernel) rfl (lv_at hl 1 rfl) ?_
  refine lv_icmp_lt hx hb (off := 10) (tgt := 16) (by decide +kernel) (by decide) (fun _ => ?_) (fun q => absurd (nI_lt hi hn) q)
  refine lv_iload_n hx hb (k := 0) (i := 0) (x := nI i) (by decide +kernel) rfl (lv_at hl 0 rfl) ?_
  exact vx_ret (W.iret hx hb hr (fun t ht _ => ⟨rfl, by rw [ht]; exact h0⟩) hS.2.2 (by decide +kernel) hlocks)
theorem jm_checkIndex {i n : Nat} (hi : i < n) (hn : n < 2 ^ 31) : JM w b σ (d + 2) jy_checkIndex prog_23_method_155_code 2 none [.int (nI i), .int (nI n)] none := by
  refine JM.of (by decide +kernel) (Nat.le_of_ble_eq_true rfl) ?_
  intro p e s m args below meth c ls hx hb hml hr hown hts hKF hlocks h0 hl
  have hS : va_S (fre w) s.heap s.heap [] := j_S h0 h0 (fun q hq => by cases hq)
  have hK := hKF.2.2.2.2.2.2.1
  have hsz : ls.size = 2 := hl.1
  refine lv_iload_n hx hb (k := 0) (i := 0) (x := nI i) (by decide +kernel) rfl (lv_at hl 0 rfl) ?_
  refine lv_iload_n hx hb (k := 1) (i := 1) (x := nI n) (by decide +kernel) rfl (lv_at hl 1 rfl) ?_
  have rest : ∀ z : Value, z.category = 1 → va_Z "jdk/internal/util/Preconditions" "SIOOBE_FORMATTER" "Ljava/util/function/BiFunction;" z (fre w) s s.heap → W p (wLa w) e (Rm (d + 2) 0 0) s m args below meth c s.heap [] 0 0 (vx_MQ below (Qj w b σ none) (fun _ _ _ => False) args s 0 0 (fre w)) (F0 m (0 + 1 + 1) ls [.int (nI n), .int (nI i)]) := by
    intro z hz hZ
    refine va_gets hx hb hZ hS hown (hts (.fieldLink "java/lang/String" 1053 "jdk/internal/util/Preconditions" "SIOOBE_FORMATTER" "Ljava/util/function/BiFunction;") (ow_t 596 (by decide +kernel) rfl)) (fun _ h => h) (by decide +kernel) ?_
    refine j_static (d := d + 1) (i := 1059) (nv := 3) (vs := [.int (nI i), .int (nI n), z]) (rest := []) hx hb hml hown hts hKF (jm_preIndex (d := d) hi hn hz) (ow_t 600 (by decide +kernel) rfl) (ow_t 19 (by decide +kernel) rfl) (ow_t 598 (by decide +kernel) rfl) (ow_t 599 (by decide +kernel) rfl) ⟨by decide, by decide, by decide +kernel⟩ rfl ⟨Nat.le_refl _, by show 8 + (3 + 11) + 40 * (d + 1) ≤ 40 * (d + 2); omega⟩ h0 hS.2.2 hsz (Nat.le_of_ble_eq_true rfl) (Nat.zero_le _) (Nat.zero_le _) (by decide +kernel) (fun H' locs' hR' hf' => ?_)
    refine lv_pop hx hb (by decide +kernel) rfl ?_
    exact vx_ret (W.vret hx hb hr (fun t ht _ => ⟨rfl, by rw [ht]; exact hR'⟩) hf' (by decide +kernel) hlocks)
  rcases hK.2.2.1.kept (j_kept h0) with hZ | ⟨q, hZ⟩
  · exact rest .null rfl hZ
  · exact rest (.ref q) rfl hZ
theorem jm_charAt1 {t k : Nat} (ht : t < 15) (hk : k < ow_sl.getD t 0) (hn : ow_sl.getD t 0 < 2 ^ 31) {x : Int32} (hx1 : ((((ow_sb.getD t []).getD k 0) &&& 255).toUInt32 % 65536).toInt32 = x) : JM w b σ (d + 3) jy_charAt1 prog_24_method_2_code 2 (some .char) [.ref (wS w (100 + t)), .int (nI k)] (some (.int x)) := by
  refine JM.of (by decide +kernel) (Nat.le_of_ble_eq_true rfl) ?_
  intro p e s m args below meth c ls hx hb hml hr hown hts hKF hlocks h0 hl
  have hS : va_S (fre w) s.heap s.heap [] := j_S h0 h0 (fun q hq => by cases hq)
  have hK := hKF.2.2.2.2.2.2.1
  have hT := ((hK.1.kept (j_kept h0)).1 t ht).2.2.2
  have hsz : ls.size = 2 := hl.1
  refine lv_iload_n hx hb (k := 1) (i := 1) (x := nI k) (by decide +kernel) rfl (lv_at hl 1 rfl) ?_
  refine lv_aload_n hx hb (k := 0) (i := 0) (x := wS w (100 + t)) (by decide +kernel) rfl (lv_at hl 0 rfl) ?_
  refine va_tlen hx hb hT hS (v := nI (ow_sl.getD t 0)) rfl (by decide +kernel) ?_
  refine j_static (d := d + 2) (i := 9) (nv := 2) (vs := [.int (nI k), .int (nI (ow_sl.getD t 0))]) (rest := []) hx hb hml hown hts hKF (jm_checkIndex (d := d) hk hn) (ow_t 595 (by decide +kernel) rfl) (ow_t 17 (by decide +kernel) rfl) (ow_t 593 (by decide +kernel) rfl) (ow_t 594 (by decide +kernel) rfl) ⟨by decide, by decide, by decide +kernel⟩ rfl ⟨Nat.le_refl _, by show 8 + (2 + 11) + 40 * (d + 2) ≤ 40 * (d + 3); omega⟩ h0 hS.2.2 hsz (Nat.le_of_ble_eq_true rfl) (Nat.zero_le _) (Nat.zero_le _) (by decide +kernel) (fun H' locs' hR' hf' => ?_)
  have hS' : va_S (fre w) s.heap H' locs' := j_S h0 hR' hf'
  refine lv_aload_n hx hb (k := 0) (i := 0) (x := wS w (100 + t)) (by decide +kernel) rfl (lv_at hl 0 rfl) ?_
  refine lv_iload_n hx hb (k := 1) (i := 1) (x := nI k) (by decide +kernel) rfl (lv_at hl 1 rfl) ?_
  refine va_tb hx hb hT hS' (vp_in_nI hk hn) (v := .int ((ow_sb.getD t []).getD k 0)) (by rw [nI_cl (by omega)]) (by decide +kernel) ?_
  refine lv_sipush hx hb (n := 255) (v := 255) (by decide +kernel) (by decide) ?_
  refine lv_iand hx hb (by decide +kernel) ?_
  refine lv_i2c hx hb (by decide +kernel) hx1 ?_
  exact vx_ret (W.zret hx hb hr (by rw [← hx1]; exact pk_nc _) (fun t ht _ => ⟨rfl, by rw [ht]; exact hR'⟩) hf' (by decide +kernel) hlocks)
theorem jm_charAt {t k : Nat} (ht : t < 15) (hk : k < ow_sl.getD t 0) (hn : ow_sl.getD t 0 < 2 ^ 31) {x : Int32} (hx1 : ((((ow_sb.getD t []).getD k 0) &&& 255).toUInt32 % 65536).toInt32 = x) : JM w b σ (d + 4) jy_charAt prog_23_method_56_code 2 (some .char) [.ref (wS w (t + 1)), .int (nI k)] (some (.int x)) := by
  refine JM.of (by decide +kernel) (Nat.le_of_ble_eq_true rfl) ?_
  intro p e s m args below meth c ls hx hb hml hr hown hts hKF hlocks h0 hl
  have hS : va_S (fre w) s.heap s.heap [] := j_S h0 h0 (fun q hq => by cases hq)
  have hK := hKF.2.2.2.2.2.2.1
  have hsz : ls.size = 2 := hl.1
  refine lv_aload_n hx hb (k := 0) (i := 0) (x := wS w (t + 1)) (by decide +kernel) rfl (lv_at hl 0 rfl) ?_
  refine j_virtual (d := d + 1) (i := 492) (nv := 0) (vs := []) (rest := []) hx hb hml hown hts hKF h0.2.1 hS ht (jm_isLatin1 (d := d) ht) (ow_t 589 (by decide +kernel) rfl) (ow_t 17 (by decide +kernel) rfl) (ow_t 586 (by decide +kernel) rfl) (ow_t 587 (by decide +kernel) rfl) (ow_t 588 (by decide +kernel) rfl) ⟨by decide, by decide, by decide +kernel⟩ rfl ⟨by show d + 1 + 1 ≤ d + 4; omega, by show 8 + (1 + 11) + 40 * (d + 1) ≤ 40 * (d + 4); omega⟩ h0 hS.2.2 hsz (Nat.le_of_ble_eq_true rfl) (Nat.zero_le _) (Nat.zero_le _) (by decide +kernel) (fun H' locs' hR' hf' => ?_)
  have hS' : va_S (fre w) s.heap H' locs' := j_S h0 hR' hf'
  refine lv_if_eq hx hb (off := 12) (tgt := 16) (by decide +kernel) (by decide) (fun q => absurd q (by decide)) (fun _ => ?_)
  refine lv_aload_n hx hb (k := 0) (i := 0) (x := wS w (t + 1)) (by decide +kernel) rfl (lv_at hl 0 rfl) ?_
  refine vk_getf hx hb ((hK.1.kept (j_kept h0)).1 t ht).2.2.1 hS' hown (hts (.fieldLink "java/lang/String" 9 "java/lang/String" "value" "[B") (ow_t 1872 (by decide +kernel) rfl)) (fun _ h => h) (by decide +kernel) ?_
  refine lv_iload_n hx hb (k := 1) (i := 1) (x := nI k) (by decide +kernel) rfl (lv_at hl 1 rfl) ?_
  refine j_static (d := d + 3) (i := 495) (nv := 2) (vs := [.ref (wS w (100 + t)), .int (nI k)]) (rest := []) hx hb hml hown hts hKF (jm_charAt1 (d := d) ht hk hn hx1) (ow_t 592 (by decide +kernel) rfl) (ow_t 18 (by decide +kernel) rfl) (ow_t 590 (by decide +kernel) rfl) (ow_t 591 (by decide +kernel) rfl) ⟨by decide, by decide, by decide +kernel⟩ rfl ⟨Nat.le_refl _, by show 8 + (2 + 11) + 40 * (d + 3) ≤ 40 * (d + 4); omega⟩ hR' hf' hsz (Nat.le_of_ble_eq_true rfl) (Nat.zero_le _) (Nat.zero_le _) (by decide +kernel) (fun H2 locs2 hR2 hf2 => ?_)
  exact vx_ret (W.zret hx hb hr (by rw [← hx1]; exact pk_nc _) (fun t ht _ => ⟨rfl, by rw [ht]; exact hR2⟩) hf2 (by decide +kernel) hlocks)
end JMC
theorem tagB {t n : Nat} {uc : UInt32} (hu : uc.toNat = t) (h1 : 1 ≤ t) (h2 : t ≤ 15) (hn : Nat.ble n 8 = true) : (Nat.ble n 8 && (Nat.ble 1 uc.toNat && Nat.ble uc.toNat 15)) = true := by
  rw [hu, hn, Nat.ble_eq.mpr h1, Nat.ble_eq.mpr h2]; rfl
theorem str_len : ∀ t, t < 15 → ow_sl.getD t 0 = (ow_ch (t + 1)).length ∧ ow_sl.getD t 0 ≤ 50 := by decide
theorem str_ch : ∀ t, t < 15 → ∀ k, k < 50 → ((((ow_sb.getD t []).getD k 0) &&& 255).toUInt32 % 65536).toInt32 = nI ((ow_ch (t + 1)).getD k 0) := by decide +kernel
def jB (el : El) : Bool := match el with
  | (_, len, _, ins, _, _, c, _) => match ins with
    | .invokevirtual i => decide (len = 3) && (decide (c = 2 ∧ i = 172) || decide (c = 3 ∧ i = 176))
    | _ => false
theorem sp_isSpelt {w : Wd} {d : Nat} {P : Option AV → Mem → Prop} {X : Nat → Mem → Prop} {KC KS : Nat} : SpOK w true (d + 4) m_SkyReader_isSpelt k_SkyReader_isSpelt P X KC KS := by
  intro p e s m args below meth c At C hout hheap K hK hAt el tl hsx hb hd ls st σ u v h
  have hl := List.all_eq_true.mp (show k_SkyReader_isSpelt.all (fun el => !spB el || jB el) = true by decide +kernel) el hsx.mem
  rw [hb] at hl
  obtain ⟨pc, len, ct, ins, a, bb, cc, ts⟩ := el
  have hl : jB (pc, len, ct, ins, a, bb, cc, ts) = true := hl
  have hch : chB k_SkyReader_isSpelt = true := by decide +kernel
  have hN : ∀ ls st σ u v, nx At K tl ls st σ u v → AtM w true p (wLa w) e (Rm (d + 4 + 1) KC KS) s m args below meth c (vx_MQ below (Qcw w true P) (XCw w true X) args s KC KS (fre w)) (ow_x m_SkyReader_isSpelt) KC KS (pc + len) ls st σ u v := by
    intro ls st σ u v h
    cases htl : tl with
    | nil => rw [htl] at h; exact h.elim
    | cons f tl' =>
      obtain ⟨pre, hp⟩ := hsx
      have h1 : pc + len = f.1 := by
        have := chB_sfx (pre := pre) (by rw [← hp]; exact hch)
        rw [htl] at this
        simp only [chB, Bool.and_eq_true] at this
        exact Nat.eq_of_beq_eq_true this.1
      rw [htl] at h
      rw [h1]
      unfold nx at h
      cases hf : f.2.2.1 with
      | true => simp only [hf] at h; exact hAt _ _ _ _ _ _ h
      | false => simp only [hf] at h; exact hK (f :: tl') ls st σ u v (by rw [← htl]; exact sfx.tl ⟨pre, hp⟩) h
  cases ins
  case invokevirtual i hl0 =>
    have hj : (decide (len = 3) && (decide (cc = 2 ∧ i = 172) || decide (cc = 3 ∧ i = 176))) = true := hl
    have hj1 : len = 3 := of_decide_eq_true ((Bool.and_eq_true _ _).mp hj).1
    have hj2 : (cc = 2 ∧ i = 172) ∨ (cc = 3 ∧ i = 176) := ((Bool.or_eq_true _ _).mp ((Bool.and_eq_true _ _).mp hj).2).imp of_decide_eq_true of_decide_eq_true
    clear hl hj hl0
    subst hj1
    obtain ⟨hx', hbb, hml, hown, hts, hKF, hlocks⟩ := C
    have cat8 : ∀ r : List AV, Nat.ble (stS r) 8 = true → ((r.map (cv w)).map fun v => v.category).sum ≤ 8 := fun r hr => by rw [stS_cat]; exact Nat.le_of_ble_eq_true hr
    rcases hj2 with ⟨rfl, rfl⟩ | ⟨rfl, rfl⟩
    · obtain ⟨tg, r, rfl, h⟩ : ∃ tg r, st = Value.float tg :: r ∧ cond (Nat.ble (stS r) 8 && (Nat.ble 1 tg.toNat && Nat.ble tg.toNat 15)) (nx At K tl ls (.int (nI (ow_ch tg.toNat).length) :: r) σ u v) False := by
        cases st with
        | nil => exact False.elim h
        | cons x r =>
          cases x with
          | float tg => exact ⟨tg, r, rfl, h⟩
          | _ => exact False.elim h
      · obtain ⟨h1, h2⟩ := cond_tt h
        simp only [Bool.and_eq_true] at h1
        obtain ⟨h8, g1, g2⟩ := h1
        have g1 := Nat.le_of_ble_eq_true g1
        have g2 := Nat.le_of_ble_eq_true g2
        obtain ⟨z, hz⟩ : ∃ z, tg.toNat = z + 1 := ⟨tg.toNat - 1, by omega⟩
        intro hu hv H lsM locs hR hL hf T hT Xs
        have hgr : s.heap.size ≤ H.size := by rw [← hT]; exact Xs.heapGrown
        have hS : va_S (fre w) s.heap H locs := ⟨hgr, fun q h1 h2 => by rw [hR.2.1 q (Nat.not_le.mp h2), hheap q (Nat.not_le.mp h2)], hf⟩
        have e1 : cv w (.float tg) = .ref (wS w (z + 1)) := by show Value.ref (wS w tg.toNat) = _; rw [hz]
        rw [List.map_cons, e1]
        have hlen := str_len z (by omega)
        rw [hz, ← hlen.1] at h2
        refine j_virtual (d := d + 4) (i := 172) (nv := 0) (own := "OwnedClouds$SkyReader") (vs := []) (rest := r.map (cv w)) hx' hbb hml hown hts hKF hheap hS (t := z) (by omega) (jm_length (d := d + 2) (t := z) (by omega)) (ow_t 575 (by decide +kernel) rfl) (ow_t 17 (by decide +kernel) rfl) (ow_t 572 (by decide +kernel) rfl) (ow_t 573 (by decide +kernel) rfl) (ow_t 574 (by decide +kernel) rfl) ⟨by decide, by decide, by decide +kernel⟩ rfl ⟨by show d + 4 + 1 ≤ d + 4 + 1; omega, by show 8 + (1 + 11) + 40 * (d + 4) ≤ 40 * (d + 4 + 1); omega⟩ hR hf hL.1 (cat8 r h8) hu hv hd (fun H' locs' hR' hf' => ?_) T hT Xs
        exact hN _ _ _ _ _ h2 hu hv H' lsM locs' hR' hL hf'
    · obtain ⟨iv, tg, r, rfl, h⟩ : ∃ iv tg r, st = Value.int iv :: Value.float tg :: r ∧ cond (Nat.ble (stS r) 8 && (Nat.ble 1 tg.toNat && Nat.ble tg.toNat 15)) (vp_in iv (ow_ch tg.toNat).length ∧ nx At K tl ls (.int (nI ((ow_ch tg.toNat).getD iv.toNatClampNeg 0)) :: r) σ u v) False := by
        cases st with
        | nil => exact False.elim h
        | cons x r =>
          cases x with
          | int iv =>
            cases r with
            | nil => exact False.elim h
            | cons y r =>
              cases y with
              | float tg => exact ⟨iv, tg, r, rfl, h⟩
              | _ => exact False.elim h
          | _ => exact False.elim h
      · obtain ⟨h1, h3, h2⟩ := cond_tt h
        simp only [Bool.and_eq_true] at h1
        obtain ⟨h8, g1, g2⟩ := h1
        have g1 := Nat.le_of_ble_eq_true g1
        have g2 := Nat.le_of_ble_eq_true g2
        obtain ⟨z, hz⟩ : ∃ z, tg.toNat = z + 1 := ⟨tg.toNat - 1, by omega⟩
        intro hu hv H lsM locs hR hL hf T hT Xs
        have hgr : s.heap.size ≤ H.size := by rw [← hT]; exact Xs.heapGrown
        have hS : va_S (fre w) s.heap H locs := ⟨hgr, fun q h1 h2 => by rw [hR.2.1 q (Nat.not_le.mp h2), hheap q (Nat.not_le.mp h2)], hf⟩
        have e1 : cv w (.float tg) = .ref (wS w (z + 1)) := by show Value.ref (wS w tg.toNat) = _; rw [hz]
        rw [List.map_cons, List.map_cons, e1]
        have hlen := str_len z (by omega)
        rw [hz] at h2 h3
        obtain ⟨k, hk⟩ : ∃ k, k = iv.toNatClampNeg := ⟨_, rfl⟩
        have hkl : k < ow_sl.getD z 0 := by rw [hk, hlen.1]; exact vp_lt h3
        have ek : iv = nI k := by
          obtain ⟨j, hj, e⟩ := nI_of (fun q => h3 (Or.inl q))
          rw [hk, e, nI_clamp hj]
        rw [← hk] at h2
        rw [ek]
        refine j_virtual (d := d + 4) (i := 176) (nv := 1) (own := "OwnedClouds$SkyReader") (vs := [.int (nI k)]) (rest := r.map (cv w)) hx' hbb hml hown hts hKF hheap hS (t := z) (by omega) (jm_charAt (d := d) (t := z) (k := k) (by omega) hkl (by omega) (str_ch z (by omega) k (by omega))) (ow_t 585 (by decide +kernel) rfl) (ow_t 17 (by decide +kernel) rfl) (ow_t 582 (by decide +kernel) rfl) (ow_t 583 (by decide +kernel) rfl) (ow_t 584 (by decide +kernel) rfl) ⟨by decide, by decide, by decide +kernel⟩ rfl ⟨by show d + 4 + 1 ≤ d + 4 + 1; omega, by show 8 + (2 + 11) + 40 * (d + 4) ≤ 40 * (d + 4 + 1); omega⟩ hR hf hL.1 (cat8 r h8) hu hv hd (fun H' locs' hR' hf' => ?_) T hT Xs
        exact hN _ _ _ _ _ h2 hu hv H' lsM locs' hR' hL hf'
  all_goals cases hl
