/-! METHODS WITH HANDLERS: the law's wrappers -/
def wsH (m : Nat) (hh : List (Nat × Nat × Nat × Nat)) : List Cond := Cond.codeWith (ow_y m) (ow_b m) (ow_x m) (ow_r m) hh :: ow_T
def RetH (w : Wd) (d kc ks m : Nat) (hh : List (Nat × Nat × Nat × Nat)) (as : List AV) (σ : Mem) (P : Option AV → Mem → Prop) : Prop :=
  vx_Met (wLa w) (ow_y m) (wsH m hh) (Rm d kc ks) (Pcw w true σ as) (Qcw w true P) (XCw w true (fun _ _ => False)) kc ks (fre w)
def mtH (mm : Nat) (code : List El) : Bool := Nat.beq (ow_o mm) 12 && decide ((ow_y mm).cls = ow_on (ow_o mm)) && plainName (ow_y mm).cls && okB (ow_o mm) (ow_y mm).name (ow_x mm) (ow_r mm) (ow_b mm) code && Nat.beq (pcO code) 0 && plB code
/-- which class a handler catches -/
def ctc (c E : Nat) : Prop := (c = 13 ∧ E = 0) ∨ (c = 21 ∧ E = 1) ∨ (c = 30 ∧ E = 2)
theorem ow_ck13 : Cond.classLink (ow_on 12) 13 (ow_ex 0) ∈ ow_T := (ow_t2 217 (by decide +kernel) rfl)
theorem ow_ck21 : Cond.classLink (ow_on 12) 21 (ow_ex 1) ∈ ow_T := (ow_t4 47 (by decide +kernel) rfl)
theorem ow_ck30 : Cond.classLink (ow_on 12) 30 (ow_ex 2) ∈ ow_T := (ow_t4 89 (by decide +kernel) rfl)
theorem ow_ck {c E : Nat} (h : ctc c E) : Cond.classLink (ow_on 12) c (ow_ex E) ∈ ow_T := by
  rcases h with ⟨rfl, rfl⟩ | ⟨rfl, rfl⟩ | ⟨rfl, rfl⟩
  · exact ow_ck13
  · exact ow_ck21
  · exact ow_ck30
/-- a handler begins by storing the exception away -/
def stB (bytes : ByteArray) (h k len : Nat) : Prop := (∃ j : Fin 4, (j : Nat) = k ∧ len = 1 ∧ decode bytes h = .ok (.astore_n j, 1)) ∨ (len = 2 ∧ decode bytes h = .ok (.astore k, 2))
theorem LR.setj {w : Wd} {nL : Nat} {ls : List AV} {lsM lsM' : Array Slot} {i : Nat} {y : Value} (h : LR w nL ls lsM) (h' : lv_has lsM' nL ((i, y) :: (LRl w nL ls).filter (fun q => !(q.1 == i) && !(q.1 + 1 == i && q.2.category == 2)))) : LR w nL (pt ls i junk) lsM' := by
  refine ⟨h'.1, h'.2.1, fun j hj => ?_⟩
  rcases gt_pt ls i junk j hj with ⟨e1, e2⟩ | ⟨e1, e2, e3⟩
  · exact absurd e2 hj
  · rw [e2] at hj ⊢
    refine h'.2.2 (j, cv w (gt ls j)) (List.mem_cons_of_mem _ (List.mem_filter.mpr ⟨LRl_mem.mpr ⟨h.lt hj, hj, rfl⟩, ?_⟩))
    by_cases q : j + 1 = i
    · simp [e1, q, cv_cat, e3 q]
    · simp [e1, q]
section WRP
variable {w : Wd} {p : Program} {l : Launch} {e : Env} {R : Room} {s : State} {m : MethodId} {args : Array Value} {below : List Frame} {meth : Method} {c : Code} {Q : State → Prop} {nL KC KS : Nat} {bytes : ByteArray}
theorem x_catch (C : Cx w p s m args meth c 12 bytes nL) {pre suf : List ExceptionTableEntry} {x : ExceptionTableEntry} {pc E u v k len : Nat} {ls : List AV} {σ : Mem} (hsplit : c.exceptionTable.toList = pre ++ x :: suf)
    (hpass : ∀ z ∈ pre, z.catchType ≠ 0 ∧ ∃ E', ctc z.catchType E' ∧ va_Nc (ow_ex E) (ow_ex E') s) (hx : covers x pc = true) (hc : ctc x.catchType E) (hk : k < nL) (hst : stB bytes x.handlerPc k len)
    (kk : AtM w true p l e R s m args below meth c Q nL KC KS (x.handlerPc + len) (pt ls k junk) [] σ u v) : AtX w true p l e R s m args below meth c Q nL KC KS pc E ls σ u v := by
  intro hu hv H lsM locs rest q ce hR hL hf hce hcv hcl hE
  have hts := C.2.2.2.2.1
  have hX := C.2.2.2.2.2.1.2.2.2.2.2.2.2
  refine vx_catch (E := ow_ex E) (name := ow_ex E) C.2.2.2.1 pre x suf hsplit (fun z hz => ?_) hx (by rcases hc with ⟨h, -⟩ | ⟨h, -⟩ | ⟨h, -⟩ <;> rw [h] <;> decide) (hts _ (ow_ck hc)) ((hX.2.1 E hE).use rfl) hce hcv hcl ?_
  · obtain ⟨h0, E', h1, h2⟩ := hpass z hz
    exact Or.inr ⟨h0, _, hts _ (ow_ck h1), h2⟩
  · rcases hst with ⟨j, hj, h1, h2⟩ | ⟨h1, h2⟩
    · subst hj; subst h1
      exact lv_astore_n C.1 C.2.1 h2 rfl hL.has hk rfl fun ls' h' => kk hu hv H ls' locs hR (hL.setj h') hf
    · subst h1
      exact lv_astore C.1 C.2.1 h2 hL.has hk rfl fun ls' h' => kk hu hv H ls' locs hR (hL.setj h') hf
end WRP
theorem cov_t {e1 h1 c1 pc : Nat} (h : pc < e1) : covers ⟨0, e1, h1, c1⟩ pc = true := by
  unfold covers; simp; omega
theorem methH {w : Wd} {d KC KS mm : Nat} {hh : List (Nat × Nat × Nat × Nat)} (code : List El) {as : List AV} {σ : Mem} {P : Option AV → Mem → Prop} (hB : mtH mm code = true) (hly : (lyB as && Nat.ble (stS as) (ow_x mm)) = true)
    (h : ∀ (At : At_t) (Hx : Nat → Nat → List AV → Mem → Nat → Nat → Prop), (∀ n pc ls st σ u v, wpX w true d code At P Hx KC KS n (seek code pc) ls st σ u v → At pc ls st σ u v) →
      (∀ pc E ls σ u v e1 h1 c1 rest k len, hh = (0, e1, h1, c1) :: rest → pc < e1 → ctc c1 E → stB (ow_b mm) h1 k len → k < ow_x mm → At (h1 + len) (pt ls k junk) [] σ u v → Hx pc E ls σ u v) →
      (∀ pc ls σ u v e1 h1 c1 e2 h2 k len, hh = [(0, e1, h1, c1), (0, e2, h2, 13)] → pc < e2 → (c1 = 21 ∨ c1 = 30) → stB (ow_b mm) h2 k len → k < ow_x mm → At (h2 + len) (pt ls k junk) [] σ u v → Hx pc 0 ls σ u v) →
      At 0 (lay as (ow_x mm)) [] σ 0 0) : RetH w (d + 1) KC KS mm hh as σ P := by
  unfold mtH at hB
  simp only [Bool.and_eq_true, decide_eq_true_eq] at hB
  obtain ⟨⟨⟨⟨⟨h2, h3⟩, h4⟩, h5⟩, h6⟩, h7⟩ := hB
  have h2 : ow_o mm = 12 := Nat.eq_of_beq_eq_true h2
  rw [Bool.and_eq_true] at hly
  refine vx_ofWH (cc := ow_b mm) (maxL := ow_x mm) (ret := ow_r mm) (ws' := ow_T) (hh := hh) h4 rfl ?_
  intro p e s m args below meth c s₁ B hml hPc
  obtain ⟨rfl, hR, hKF⟩ := hPc
  have htab := vx_table (x := ow_y mm) B (atoms_spec (ws := wsH mm hh) B.pre _ List.mem_cons_self)
  have hts : ∀ z ∈ ow_T, z.before ((as.map (cv w)).toArray) s = true := fun z hz => atoms_spec (ws := wsH mm hh) B.pre z (List.mem_cons_of_mem _ hz)
  have hown : s.vm.findClass (ow_on (ow_o mm)) = some m.cls := by rw [← h3]; exact findClass_of_methodNamed B.named
  have hlocks := B.notSynchronized
  have hr := B.returns
  have C : Cx w p s m ((as.map (cv w)).toArray) meth c (ow_o mm) (ow_b mm) (ow_x mm) := ⟨B.exec, B.bytes, hml, hown, hts, hKF, hlocks⟩
  have hnm : meth.name = (ow_y mm).name := (name_of_methodNamed B.named B.method).1
  have hRt : RtM w true p (wLa w) e (Rm (d + 1) KC KS) s m ((as.map (cv w)).toArray) below meth c (vx_MQ below (Qcw w true P) (XCw w true (fun _ _ => False)) ((as.map (cv w)).toArray) s KC KS (fre w)) (ow_x mm) KC KS (ow_b mm) (ow_r mm) P := by
    refine ⟨fun h0 => ?_, fun h0 => ?_, fun h0 => ?_, fun h0 => ?_, fun h0 => ?_⟩
    · intro pc ls σ u v hd hP hu hv H lsM locs hR hL hf
      exact W.widen hu hv (vx_ret (W.vret C.1 C.2.1 (hr.trans h0) (fun t ht _ => ⟨none, σ, rfl, by rw [ht]; exact hR, hP⟩) hf hd hlocks))
    · intro pc ls x σ u v hd hP hu hv H lsM locs hR hL hf
      exact W.widen hu hv (vx_ret (W.iret C.1 C.2.1 (hr.trans h0) (fun t ht _ => ⟨some (.int x), σ, rfl, by rw [ht]; exact hR, hP⟩) hf hd hlocks))
    · intro pc ls x σ u v hd hn hP hu hv H lsM locs hR hL hf
      exact W.widen hu hv (vx_ret (W.zret C.1 C.2.1 (hr.trans h0) hn (fun t ht _ => ⟨some (.int x), σ, rfl, by rw [ht]; exact hR, hP⟩) hf hd hlocks))
    · intro pc ls x σ u v hd hP hu hv H lsM locs hR hL hf
      exact W.widen hu hv (vx_ret (W.lret C.1 C.2.1 (hr.trans h0) (fun t ht _ => ⟨some (.long x), σ, rfl, by rw [ht]; exact hR, hP⟩) hf hd hlocks))
    · obtain ⟨cn, h0⟩ := h0
      intro pc ls z σ u v hd hz hP hu hv H lsM locs hR hL hf
      have hz2 : ∃ a, cv w z = .ref a := by rcases hz with ⟨x, rfl⟩ | ⟨t, rfl⟩ <;> exact ⟨_, rfl⟩
      exact W.widen hu hv (vx_ret (W.aret C.1 C.2.1 (hr.trans h0) (Or.inl ⟨cn, rfl⟩) (Or.inr hz2) (fun t ht _ => ⟨some z, σ, rfl, by rw [ht]; exact hR, hP⟩) hf hd hlocks))
  have hl0 : LR w (ow_x mm) (lay as (ow_x mm)) ((lg_sl (as.map (cv w)) ++ List.replicate (ow_x mm - (lg_sl (as.map (cv w))).length) Slot.unset).toArray) := by
    have hle : (lg_sl (as.map (cv w))).length ≤ ow_x mm := by rw [lg_len]; exact Nat.le_of_ble_eq_true hly.2
    obtain ⟨g1, g2, g3⟩ := lv_entry (as.map (cv w)) hle
    refine ⟨g1, g2, fun i hi => ?_⟩
    have := g3 _ (lay_spec w as (ow_x mm) i 0 hly.1 hi)
    rw [Nat.zero_add] at this
    exact this
  have C12 : Cx w p s m ((as.map (cv w)).toArray) meth c 12 (ow_b mm) (ow_x mm) := by rw [← h2]; exact C
  have key := h (AtM w true p (wLa w) e (Rm (d + 1) KC KS) s m ((as.map (cv w)).toArray) below meth c (vx_MQ below (Qcw w true P) (XCw w true (fun _ _ => False)) ((as.map (cv w)).toArray) s KC KS (fre w)) (ow_x mm) KC KS)
    (AtX w true p (wLa w) e (Rm (d + 1) KC KS) s m ((as.map (cv w)).toArray) below meth c (vx_MQ below (Qcw w true P) (XCw w true (fun _ _ => False)) ((as.map (cv w)).toArray) s KC KS (fre w)) (ow_x mm) KC KS) ?_ ?_ ?_ (Nat.zero_le _) (Nat.zero_le _) s.heap _ [] hR hl0 (fun q hq => by cases hq)
  · rw [lg_entry_eq]
    exact key
  · intro n pc ls st σ u v hw
    have hseek : ∀ cur st' ls' σ' u' v', sfx code cur → wpX w true d code _ P _ KC KS n cur ls' st' σ' u' v' → _ := fun cur st' ls' σ' u' v' hs hh' =>
      snd_wp C (by rw [h2]; decide) rfl hnm (Nat.le_refl _) (Nat.le_refl _) rfl rfl hRt (fun _ _ _ _ _ _ z => z) (fun _ _ _ _ _ _ z => z) (fun _ _ (z : vp_in _ (0 - 1)) _ => absurd (vp_lt z) (Nat.not_lt_zero _)) (fun _ z => absurd z (Nat.lt_irrefl 0)) h5 (fun {K} hK {el tl} hs hb hd {ls st σ u v} hst => by
        have := List.all_eq_true.mp h7 el hs.mem
        rw [hb] at this; cases this) n cur ls' st' σ' u' v' hs hh'
    have hfin := hseek (seek code pc) st ls σ u v seek_sfx hw
    cases hq : seek code pc with
    | nil =>
      rw [hq] at hw
      cases n with
      | zero => exact hw.elim
      | succ n => exact hw.elim
    | cons f tl => rw [hq] at hfin; rw [← seek_hd hq]; exact hfin
  · intro pc E ls σ u v e1 h1 c1 rest k len e hpc hc hst hk kk
    subst e
    exact x_catch C12 (pre := []) (x := ⟨0, e1, h1, c1⟩) (suf := tableOf rest) htab (fun z hz => by cases hz) (cov_t hpc) hc hk hst kk
  · intro pc ls σ u v e1 h1 c1 e2 h2 k len e hpc hc hst hk kk
    subst e
    have hX := hKF.2.2.2.2.2.2.2
    refine x_catch C12 (pre := [⟨0, e1, h1, c1⟩]) (x := ⟨0, e2, h2, 13⟩) (suf := []) htab (fun z hz => ?_) (cov_t hpc) (Or.inl ⟨rfl, rfl⟩) hk hst kk
    cases List.mem_singleton.mp hz
    rcases hc with rfl | rfl
    · exact ⟨(show (21 : Nat) ≠ 0 by decide), 1, Or.inr (Or.inl ⟨rfl, rfl⟩), hX.2.2.2.1⟩
    · exact ⟨(show (30 : Nat) ≠ 0 by decide), 2, Or.inr (Or.inr ⟨rfl, rfl⟩), hX.2.2.2.2⟩
