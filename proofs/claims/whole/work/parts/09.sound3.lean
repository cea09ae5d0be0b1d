/-! SOUNDNESS, third part: new cells, calls, switches -/
theorem ow_mem12 : ∀ ci, ci < 12 → ci ∈ [0, 1, 2, 3, 4, 5, 6, 7, 8, 9, 10, 11] := by decide
theorem ow_mem14 : ∀ ci, ci < 14 → ci ∈ [0, 1, 2, 3, 4, 5, 6, 7, 8, 9, 10, 11, 12, 13] := by decide
section SND3
variable {w : Wd} {b : Bool} {p : Program} {l : Launch} {e : Env} {R : Room} {s : State} {m : MethodId} {args : Array Value} {below : List Frame} {meth : Method} {c : Code} {Q : State → Prop} {own nL KC KS : Nat} {bytes : ByteArray}
variable {pc u v : Nat} {ls st : List AV} {σ : Mem}
theorem rI_nS {σ : Mem} {n a : Nat} (h : a < mN σ) (j : Nat) : rI (nS σ n) a j = rI σ a j := by
  show (if mN σ ≤ a then 0 else σ.1 a j) = _
  rw [if_neg (by omega)]; rfl
theorem rI_nS0 {σ : Mem} {n a : Nat} (h : mN σ ≤ a) (j : Nat) : rI (nS σ n) a j = 0 := by
  show (if mN σ ≤ a then 0 else σ.1 a j) = _
  rw [if_pos h]
theorem rL_nS {σ : Mem} {n a : Nat} (h : a < mN σ) (j : Nat) : rL (nS σ n) a j = rL σ a j := by
  show (if mN σ ≤ a then 0 else σ.2.1 a j) = _
  rw [if_neg (by omega)]; rfl
theorem rL_nS0 {σ : Mem} {n a : Nat} (h : mN σ ≤ a) (j : Nat) : rL (nS σ n) a j = 0 := by
  show (if mN σ ≤ a then 0 else σ.2.1 a j) = _
  rw [if_pos h]
theorem s_new (C : Cx w p s m args meth c own bytes nL) {ci i : Nat} (hci : ci < 12) (hlk : (i, ci) ∈ ow_h own) (hown : own < 14) (hn0 : mN σ < ow_n0) (hk : kS (mN σ) = ci) (hRc : R.cells = KC) (hRs : R.slots = KS) (hu1 : u + 1 ≤ KC) (hv1 : v + ow_N ci ≤ KS)
    (hd : decode bytes pc = .ok (.new i, 3)) (kk : AtM w false p l e R s m args below meth c Q nL KC KS (pc + 3) ls (.ref (mN σ) :: st) (nS σ 1) (u + 1) (v + ow_N ci)) : AtM w false p l e R s m args below meth c Q nL KC KS pc ls st σ u v := by
  intro hu hv H lsM locs hR hLR hf
  obtain ⟨hx', hb, hml, hfo, hts, hKF, -⟩ := C
  have hKn := hKF.1.1 ci _ (ow_clk ci hci)
  refine W.newcK hx' hb hfo (hts _ (ow_kl own hown _ hlk)) (hts _ (ow_al.get ow_ins (ow_mem12 ci hci))) (hts _ (ow_al.get ow_ini (ow_mem14 ci (by omega)))) rfl hd (by rw [hRc]; exact hu1) (by rw [hRs]; exact hv1) hKn.2.1 hR.1 fun H1 kC hkC e1 z1 o1 => ?_
  have hkd : kind (nS σ 1) (mN σ) = ci := by rw [kind_s hn0]; exact hk
  refine kk hu1 hv1 H1 lsM locs (hR.grow (n := 1) (by rw [z1, hR.1]) (fun z hz => o1 z (by rw [← hR.1]; exact hz)) rfl (fun _ _ => rfl) (fun a ha j => rI_nS ha j) (fun a ha j => rL_nS ha j) rfl (fun _ => hn0) fun a h1 h2 => ?_) hLR hf
  have ha : a = mN σ := by omega
  subst ha
  refine cOK_ob (by rw [hkd]; exact hci) ?_
  rw [hkd]
  refine (u_born (ow_ty ci) hts (ow_in ci hci) hKn hkC e1 (ow_tyk ci hci)).to (fun j hj => ?_)
  have hasd : asd false (nS σ 1) (mN σ) j = false := memb_lt hR.2.2.2.1 (Nat.le_refl _)
  unfold fV
  rcases ow_fck ci hci j hj with ⟨h, h', -⟩ | ⟨h, h', -⟩ | ⟨h, h', -⟩ | ⟨h, h', -⟩
  · rw [h, rI_nS0 (Nat.le_refl _)]; rcases h' with h' | h' <;> rw [h'] <;> rfl
  · rw [h, rL_nS0 (Nat.le_refl _), h']; rfl
  · rw [h, hasd]
    revert h'
    cases ow_ty ci j <;> intro h' <;> first | rfl | cases h'
  · rw [h, hasd, h']; rfl
theorem s_newarrI (C : Cx w p s m args meth c own bytes nL) {x : Int32} (h0 : ¬ x < 0) (hx : x.toNatClampNeg = lS (mN σ)) (hn0 : mN σ < ow_n0) (hk : kS (mN σ) = 12) (hL : lS (mN σ) ≤ 1000) (hRc : R.cells = KC) (hRs : R.slots = KS) (hu1 : u + 1 ≤ KC) (hv1 : v + lS (mN σ) ≤ KS)
    (hd : decode bytes pc = .ok (.newarray .int, 2)) (kk : AtM w false p l e R s m args below meth c Q nL KC KS (pc + 2) ls (.ref (mN σ) :: st) (nS σ 1) (u + 1) (v + lS (mN σ))) : AtM w false p l e R s m args below meth c Q nL KC KS pc ls (.int x :: st) σ u v := by
  intro hu hv H lsM locs hR hLR hf
  obtain ⟨hx', hb, hml, hfo, hts, hKF, -⟩ := C
  refine va_newaK (atype := .int) hx' hb (hts _ ow_acI) rfl hd rfl h0 hx (by show lS (mN σ) * 4 ≤ 536870912; omega) (by rw [hRc]; exact hu1) (by rw [hRs]; exact hv1) hR.1 fun H1 cA e1 z1 o1 hAr hNm => ?_
  have hcA : cA = wA w 0 := Option.some.inj (hNm.symm.trans (hKF.1.2 0 _ rfl).2)
  refine kk hu1 hv1 H1 lsM locs (hR.grow (n := 1) (by rw [z1, hR.1]) (fun z hz => o1 z (by rw [← hR.1]; exact hz)) rfl (fun _ _ => rfl) (fun a ha j => rI_nS ha j) (fun a ha j => rL_nS ha j) rfl (fun _ => hn0) fun a h1 h2 => ?_) hLR hf
  have ha : a = mN σ := by omega
  subst ha
  refine cOK_12 (by rw [kind_s hn0]; exact hk) ?_
  rw [e1, hcA]
  have hl : aLen (nS σ 1) (mN σ) = lS (mN σ) := by unfold aLen; rw [show Nat.blt (mN σ) ow_n0 = true by simp [Nat.blt]; omega]; rfl
  rw [hl]
  refine congrArg (fun f => some (arrV (wA w 0) (lS (mN σ)) f)) (funext fun j => ?_)
  rw [rI_nS0 (Nat.le_refl _)]; rfl
theorem s_newarrZ (C : Cx w p s m args meth c own bytes nL) {x : Int32} (h0 : ¬ x < 0) (hx : x.toNatClampNeg = lS (mN σ)) (hn0 : mN σ < ow_n0) (hk : kS (mN σ) = 13) (hL : lS (mN σ) ≤ 1000) (hRc : R.cells = KC) (hRs : R.slots = KS) (hu1 : u + 1 ≤ KC) (hv1 : v + lS (mN σ) ≤ KS)
    (hd : decode bytes pc = .ok (.newarray .boolean, 2)) (kk : AtM w false p l e R s m args below meth c Q nL KC KS (pc + 2) ls (.ref (mN σ) :: st) (nS σ 1) (u + 1) (v + lS (mN σ))) : AtM w false p l e R s m args below meth c Q nL KC KS pc ls (.int x :: st) σ u v := by
  intro hu hv H lsM locs hR hLR hf
  obtain ⟨hx', hb, hml, hfo, hts, hKF, -⟩ := C
  refine va_newaK (atype := .boolean) hx' hb (hts _ ow_acZ) rfl hd rfl h0 hx (by show lS (mN σ) * 1 ≤ 536870912; omega) (by rw [hRc]; exact hu1) (by rw [hRs]; exact hv1) hR.1 fun H1 cA e1 z1 o1 hAr hNm => ?_
  have hcA : cA = wA w 1 := Option.some.inj (hNm.symm.trans (hKF.1.2 1 _ rfl).2)
  refine kk hu1 hv1 H1 lsM locs (hR.grow (n := 1) (by rw [z1, hR.1]) (fun z hz => o1 z (by rw [← hR.1]; exact hz)) rfl (fun _ _ => rfl) (fun a ha j => rI_nS ha j) (fun a ha j => rL_nS ha j) rfl (fun _ => hn0) fun a h1 h2 => ?_) hLR hf
  have ha : a = mN σ := by omega
  subst ha
  refine cOK_13 (by rw [kind_s hn0]; exact hk) ?_
  rw [e1, hcA]
  have hl : aLen (nS σ 1) (mN σ) = lS (mN σ) := by unfold aLen; rw [show Nat.blt (mN σ) ow_n0 = true by simp [Nat.blt]; omega]; rfl
  rw [hl]
  refine congrArg (fun f => some (arrV (wA w 1) (lS (mN σ)) f)) (funext fun j => ?_)
  rw [rI_nS0 (Nat.le_refl _)]; rfl
theorem s_newarrJ (C : Cx w p s m args meth c own bytes nL) {x : Int32} (h0 : ¬ x < 0) (hx : x.toNatClampNeg = lS (mN σ)) (hn0 : mN σ < ow_n0) (hk : kS (mN σ) = 14) (hL : lS (mN σ) ≤ 1000) (hRc : R.cells = KC) (hRs : R.slots = KS) (hu1 : u + 1 ≤ KC) (hv1 : v + lS (mN σ) ≤ KS)
    (hd : decode bytes pc = .ok (.newarray .long, 2)) (kk : AtM w false p l e R s m args below meth c Q nL KC KS (pc + 2) ls (.ref (mN σ) :: st) (nS σ 1) (u + 1) (v + lS (mN σ))) : AtM w false p l e R s m args below meth c Q nL KC KS pc ls (.int x :: st) σ u v := by
  intro hu hv H lsM locs hR hLR hf
  obtain ⟨hx', hb, hml, hfo, hts, hKF, -⟩ := C
  refine va_newaK (atype := .long) hx' hb (hts _ ow_acJ) rfl hd rfl h0 hx (by show lS (mN σ) * 8 ≤ 536870912; omega) (by rw [hRc]; exact hu1) (by rw [hRs]; exact hv1) hR.1 fun H1 cA e1 z1 o1 hAr hNm => ?_
  have hcA : cA = wA w 2 := Option.some.inj (hNm.symm.trans (hKF.1.2 2 _ rfl).2)
  refine kk hu1 hv1 H1 lsM locs (hR.grow (n := 1) (by rw [z1, hR.1]) (fun z hz => o1 z (by rw [← hR.1]; exact hz)) rfl (fun _ _ => rfl) (fun a ha j => rI_nS ha j) (fun a ha j => rL_nS ha j) rfl (fun _ => hn0) fun a h1 h2 => ?_) hLR hf
  have ha : a = mN σ := by omega
  subst ha
  refine cOK_14 (by rw [kind_s hn0]; exact hk) ?_
  rw [e1, hcA]
  have hl : aLen (nS σ 1) (mN σ) = lS (mN σ) := by unfold aLen; rw [show Nat.blt (mN σ) ow_n0 = true by simp [Nat.blt]; omega]; rfl
  rw [hl]
  refine congrArg (fun f => some (arrV (wA w 2) (lS (mN σ)) f)) (funext fun j => ?_)
  rw [rL_nS0 (Nat.le_refl _)]; rfl
theorem s_newarrD (C : Cx w p s m args meth c own bytes nL) {x : Int32} (h0 : ¬ x < 0) (hL : x.toNatClampNeg ≤ 1000) (hn0 : ow_n0 ≤ mN σ) (hRc : R.cells = KC) (hRs : R.slots = KS) (hu1 : u + 1 ≤ KC) (hv1 : v + x.toNatClampNeg ≤ KS)
    (hd : decode bytes pc = .ok (.newarray .int, 2)) (kk : AtM w true p l e R s m args below meth c Q nL KC KS (pc + 2) ls (.ref (mN σ) :: st) (nD σ x.toNatClampNeg) (u + 1) (v + x.toNatClampNeg)) : AtM w true p l e R s m args below meth c Q nL KC KS pc ls (.int x :: st) σ u v := by
  intro hu hv H lsM locs hR hLR hf
  obtain ⟨hx', hb, hml, hfo, hts, hKF, -⟩ := C
  refine va_newaK (atype := .int) hx' hb (hts _ ow_acI) rfl hd rfl h0 rfl (by show x.toNatClampNeg * 4 ≤ 536870912; omega) (by rw [hRc]; exact hu1) (by rw [hRs]; exact hv1) hR.1 fun H1 cA e1 z1 o1 hAr hNm => ?_
  have hcA : cA = wA w 0 := Option.some.inj (hNm.symm.trans (hKF.1.2 0 _ rfl).2)
  have hD : ∀ a, mD (nD σ x.toNatClampNeg) a = if a = mN σ then x.toNatClampNeg + 1 else mD σ a := fun _ => rfl
  have hI : ∀ a j, rI (nD σ x.toNatClampNeg) a j = if a = mN σ then 0 else rI σ a j := fun _ _ => rfl
  refine kk hu1 hv1 H1 lsM locs (hR.grow (n := 1) (by rw [z1, hR.1]) (fun z hz => o1 z (by rw [← hR.1]; exact hz)) rfl (fun a ha => by rw [hD, if_neg (by omega)]) (fun a ha j => by rw [hI, if_neg (by omega)]) (fun a ha j => rfl) rfl (fun h => by cases h) fun a h1 h2 => ?_) hLR hf
  have ha : a = mN σ := by omega
  subst ha
  have hbl : Nat.blt (mN σ) ow_n0 = false := by rw [Bool.eq_false_iff]; simp [Nat.blt]; omega
  refine cOK_12 (by unfold kind; rw [hbl, hD, if_pos rfl]; rfl) ?_
  rw [e1, hcA]
  have hl : aLen (nD σ x.toNatClampNeg) (mN σ) = x.toNatClampNeg := by unfold aLen; rw [hbl, hD, if_pos rfl]; rfl
  rw [hl]
  refine congrArg (fun f => some (arrV (wA w 0) x.toNatClampNeg f)) (funext fun j => ?_)
  rw [hI, if_pos rfl]; rfl
/-! calls -/
theorem map_psh (w : Wd) (r : Option AV) (t : List AV) : (r.map (cv w)).toList ++ t.map (cv w) = (psh r t).map (cv w) := by cases r <;> rfl
theorem stS_cat (w : Wd) : ∀ st : List AV, ((st.map (cv w)).map fun v => v.category).sum = stS st
  | [] => rfl
  | x :: t => by
    have ih := stS_cat w t
    simp only [List.map_cons, List.sum_cons, cv_cat]
    rw [ih]
    cases x <;> simp [stS, Value.category] <;> omega
/-- where an exception goes -/
def AtX (w : Wd) (b : Bool) (p : Program) (l : Launch) (e : Env) (R : Room) (s : State) (m : MethodId) (args : Array Value) (below : List Frame) (meth : Method) (c : Code) (Q : State → Prop) (nL KC KS : Nat) : Nat → Nat → List AV → Mem → Nat → Nat → Prop := fun pc E ls σ u v =>
  u ≤ KC → v ≤ KS → ∀ (H : Heap) (lsM : Array Slot) (locs : List Loc) (rest : List Value) (q : Addr) (ce : Cell), RelH w b σ H → LR w nL ls lsM → (∀ q ∈ locs, fre w q.base) → H[q]? = some ce → ce.vm = .none → s.vm.findClass (ow_ex E) = some ce.cls → E < 3 → vx_W p l e R s m args below meth c H locs u v Q (F0 m pc lsM rest) q
theorem s_run {kc ks : Nat} {st0 : List Value} {rest : List AV} {as : Array Value} {P : Option AV → Mem → Prop} {X : Nat → Mem → Prop} {H : Heap} {lsM : Array Slot} {locs : List Loc} (hr : vx_Run p l e R s m args below meth c H locs u v kc ks (F0 m pc lsM st0) (rest.map (cv w)) (Qcw w b P as) (XCw w b X) (fre w))
    (hLR : LR w nL ls lsM) (hf : ∀ q ∈ locs, fre w q.base) (hu : u + kc ≤ KC) (hv : v + ks ≤ KS) (kk : ∀ r σ', P r σ' → AtM w b p l e R s m args below meth c Q nL KC KS (pc + 3) ls (psh r rest) σ' (u + kc) (v + ks)) (kx : ∀ E σ', X E σ' → AtX w b p l e R s m args below meth c Q nL KC KS pc E ls σ' (u + kc) (v + ks)) :
    W p l e R s m args below meth c H locs u v Q (F0 m pc lsM st0) := by
  intro T hT X0
  rcases hr T hT X0 with ⟨vr, st₀, t, T', L, h0, X', hL, e1, e2, ⟨r, σ', hv', hR', hP⟩, stp⟩ | ⟨q, st₀, t, T', L, E, ce, h0, X', hL, e1, e2, ⟨k, σ', hk3, hE, hR', hXk⟩, hce, hcv, hcl, stp⟩
  · have hv2 : vr = r.map (cv w) := Outcome.returned.inj hv'
    subst hv2
    obtain ⟨t2, a1, b1⟩ := kk r σ' hP hu hv T'.heap lsM (locs ++ L) (by rw [e1]; exact hR') hLR (fun z hz => (List.mem_append.mp hz).elim (hf z) (hL z)) T' rfl X'
    rw [← map_psh] at a1
    exact ⟨t2, stp t2 a1, b1⟩
  · obtain ⟨t2, a1, b1⟩ := kx k σ' hXk hu hv T'.heap lsM (locs ++ L) (rest.map (cv w)) q ce (by rw [e1]; exact hR') hLR (fun z hz => (List.mem_append.mp hz).elim (hf z) (hL z)) (by rw [e1]; exact hce) hcv (by rw [← hE]; exact hcl) hk3 T' rfl X'
    exact ⟨t2, stp.trans a1, b1⟩
theorem ow_good {Ts : List Cond} {z : Cond} (hm : z ∈ ow_T) (hT : ∀ y ∈ ow_T, y ∈ Ts) : z ∈ Ts ∧ ((z.onTables && z.keeps) = true ∨ ∃ ty, z = .arrayClass ty) := ⟨hT z hm, good_of_word (List.mem_filter.mp hm).2⟩
theorem s_callB {n d kc ks a i : Nat} (C : Cx w p s m args meth c own bytes nL) (h : cmB a = true) (hn : n = ow_np a) (hRf : d + 1 ≤ R.frames) (hRl : 40 * (d + 1) ≤ R.locals) (hlk : (i, a) ∈ ow_g0 own) (hown : own < 14) :
    CallB R s args (ow_on own) i (ow_y a) (ow_b a) (ow_x a) (ow_r a) (wsT a) (Rm d kc ks) kc ks n := by
  unfold cmB at h
  simp only [Bool.and_eq_true, decide_eq_true_eq, Nat.ble_eq] at h
  obtain ⟨⟨⟨⟨⟨h1, h2⟩, h3⟩, h4⟩, h5⟩, h6⟩ := h
  have h4 : ow_o a < 14 := by simp [Nat.blt] at h4; omega
  have hG : GoodIn ow_T (wsT a) := fun z hz => (List.mem_cons.mp hz).elim (fun q => by rw [q]; exact ow_good (ow_code a h1) (fun _ q => q)) (fun q => ow_good q (fun _ q => q))
  subst hn
  refine callB_of (ws' := ow_T) (ow_np a) C.2.2.2.2.1 hG rfl rfl rfl ?_ (C.2.2.2.2.1 _ (ow_ml0 own hown _ hlk)) ⟨h6.1, h6.2, h5⟩ ⟨hRf, by show 8 + (ow_x a + 11) + 40 * d ≤ R.locals; omega⟩
  rw [h3]; exact C.2.2.2.2.1 _ (ow_al.get ow_ini (ow_mem14 _ h4))
theorem s_callN {n d kc ks a i : Nat} (C : Cx w p s m args meth c own bytes nL) (h : cmB a = true) (hn : n = ow_np a) (hRf : d + 1 ≤ R.frames) (hRl : 40 * (d + 1) ≤ R.locals) (hlk : (i, a) ∈ ow_g1 own) (hown : own < 14) :
    va_CN R s args (ow_on own) i (ow_y a) "OwnedClouds" (ow_b a) (ow_x a) (ow_r a) (wsT a) (Rm d kc ks) kc ks n := by
  unfold cmB at h
  simp only [Bool.and_eq_true, decide_eq_true_eq, Nat.ble_eq] at h
  obtain ⟨⟨⟨⟨⟨h1, h2⟩, h3⟩, h4⟩, h5⟩, h6⟩ := h
  have h4 : ow_o a < 14 := by simp [Nat.blt] at h4; omega
  have hG : GoodIn ow_T (wsT a) := fun z hz => (List.mem_cons.mp hz).elim (fun q => by rw [q]; exact ow_good (ow_code a h1) (fun _ q => q)) (fun q => ow_good q (fun _ q => q))
  subst hn
  refine va_cnB (ws' := ow_T) (ow_np a) C.2.2.2.2.1 hG rfl rfl rfl (C.2.2.2.2.2.1.2.2.1 own hown _ hlk) ?_ ⟨h6.1, h6.2, h5⟩ ⟨hRf, by show 8 + (ow_x a + 11) + 40 * d ≤ R.locals; omega⟩
  rw [h3]; exact C.2.2.2.2.1 _ (ow_al.get ow_ini (ow_mem14 _ h4))
theorem s_PreS {H : Heap} {as : List AV} (C : Cx w p s m args meth c own bytes nL) (hR : RelH w b σ H) : PreS s H (Pcw w b σ as) (as.map (cv w)) :=
  ⟨Pcw.blind, fun U hU hW => ⟨rfl, by rw [hU]; exact hR, C.2.2.2.2.2.1.moved hW⟩⟩
theorem s_PreV {H : Heap} {q ci : Nat} {as : List AV} {Cn : String} (C : Cx w p s m args meth c own bytes nL) (hR : RelH w b σ H) (ho : oOK b σ q ci = true) (hci : ci < 12) (hCn : Cn = ow_on ci) : PreV s H Cn (wN w + q) (Pcw w b σ (.ref q :: as)) (as.map (cv w)) := by
  refine ⟨Pcw.blind, ?_, fun U hU hW => ⟨rfl, by rw [hU]; exact hR, C.2.2.2.2.2.1.moved hW⟩⟩
  obtain ⟨cell, q1, q2, q3, -⟩ := s_cell hR ho hci
  exact ⟨cell, q1, by rw [q3]; rfl, by rw [hCn, q2]; exact (C.2.2.2.2.2.1.1.1 ci _ (ow_clk ci hci)).2.1⟩
theorem s_static {d kc ks a i : Nat} {as rest : List AV} {P : Option AV → Mem → Prop} {X : Nat → Mem → Prop} (C : Cx w p s m args meth c own bytes nL) (hw : wLa w = l) (h : cmB a = true) (hs : a ∈ ow_sm) (hn : as.length = ow_np a) (hRf : d + 1 ≤ R.frames) (hRl : 40 * (d + 1) ≤ R.locals) (hRc : R.cells = KC) (hRs : R.slots = KS) (hlk : (i, a) ∈ ow_g0 own ∨ (i, a) ∈ ow_g1 own) (hown : own < 14) (hst : stS rest ≤ 8)
    (hd : decode bytes pc = .ok (.invokestatic i, 3)) (hM : Ret w b d kc ks a as σ P X) (hu1 : u + kc ≤ KC) (hv1 : v + ks ≤ KS) (kk : ∀ r σ', P r σ' → AtM w b p l e R s m args below meth c Q nL KC KS (pc + 3) ls (psh r rest) σ' (u + kc) (v + ks)) (kx : ∀ E σ', X E σ' → AtX w b p l e R s m args below meth c Q nL KC KS pc E ls σ' (u + kc) (v + ks)) :
    AtM w b p l e R s m args below meth c Q nL KC KS pc ls (as.reverse ++ rest) σ u v := by
  subst hw
  intro hu hv H lsM locs hR hLR hf
  have hsz : lsM.size = nL := hLR.1
  have hrm : 2 * (F0 m pc lsM ((as.reverse ++ rest).map (cv w))).monitorRoom + ((rest.map (cv w)).map fun v => v.category).sum ≤ 8 := by rw [stS_cat]; show 2 * 0 + stS rest ≤ 8; omega
  rcases hlk with hlk | hlk
  · refine s_run (rest := rest) (vx_runS (g := F0 m pc lsM ((as.reverse ++ rest).map (cv w))) (rest := rest.map (cv w)) ⟨C.1, C.2.1, C.2.2.1, C.2.2.2.1, C.2.2.2.2.1⟩ hM ⟨s_callB (n := as.length) C h hn hRf hRl hlk hown, C.2.2.2.2.1 _ (ow_al.get ow_st_al hs)⟩ (s_PreS C hR) rfl (by simp) hsz (by simp [List.map_reverse]) hrm hd ⟨by rw [hRc]; exact hu1, by rw [hRs]; exact hv1⟩) hLR hf hu1 hv1 kk kx
  · refine s_run (rest := rest) (vx_runSN (g := F0 m pc lsM ((as.reverse ++ rest).map (cv w))) (rest := rest.map (cv w)) ⟨C.1, C.2.1, C.2.2.1, C.2.2.2.1, C.2.2.2.2.1⟩ hM ⟨s_callN (n := as.length) C h hn hRf hRl hlk hown, C.2.2.2.2.1 _ (ow_al.get ow_st_al hs), trivial⟩ (s_PreS C hR) rfl (by simp) hsz (by simp [List.map_reverse]) hrm hd ⟨by rw [hRc]; exact hu1, by rw [hRs]; exact hv1⟩) hLR hf hu1 hv1 kk kx
theorem s_virtual {d kc ks a i q ci : Nat} {as rest : List AV} {P : Option AV → Mem → Prop} {X : Nat → Mem → Prop} (C : Cx w p s m args meth c own bytes nL) (hw : wLa w = l) (h : cmB a = true) (hs : a ∈ ow_imm) (hse : a ∈ ow_sem) (ho : oOK b σ q ci = true) (hci : ci < 12) (hcn : (ow_y a).cls = ow_on ci) (hn : as.length = ow_np a) (hRf : d + 1 ≤ R.frames) (hRl : 40 * (d + 1) ≤ R.locals) (hRc : R.cells = KC) (hRs : R.slots = KS) (hlk : (i, a) ∈ ow_g0 own ∨ (i, a) ∈ ow_g1 own) (hown : own < 14) (hst : stS rest ≤ 8)
    (hd : decode bytes pc = .ok (.invokevirtual i, 3)) (hM : Ret w b d kc ks a (.ref q :: as) σ P X) (hu1 : u + kc ≤ KC) (hv1 : v + ks ≤ KS) (kk : ∀ r σ', P r σ' → AtM w b p l e R s m args below meth c Q nL KC KS (pc + 3) ls (psh r rest) σ' (u + kc) (v + ks)) (kx : ∀ E σ', X E σ' → AtX w b p l e R s m args below meth c Q nL KC KS pc E ls σ' (u + kc) (v + ks)) :
    AtM w b p l e R s m args below meth c Q nL KC KS pc ls (as.reverse ++ .ref q :: rest) σ u v := by
  subst hw
  intro hu hv H lsM locs hR hLR hf
  have hsz : lsM.size = nL := hLR.1
  have hrm : 2 * (F0 m pc lsM ((as.reverse ++ .ref q :: rest).map (cv w))).monitorRoom + ((rest.map (cv w)).map fun v => v.category).sum ≤ 8 := by rw [stS_cat]; show 2 * 0 + stS rest ≤ 8; omega
  have hsel := C.2.2.2.2.1 _ (ow_al.get ow_se_al hse)
  rcases hlk with hlk | hlk
  · refine s_run (rest := rest) (vx_runV (C := (ow_y a).cls) (As := as.map (cv w)) (g := F0 m pc lsM ((as.reverse ++ .ref q :: rest).map (cv w))) (rest := rest.map (cv w)) ⟨C.1, C.2.1, C.2.2.1, C.2.2.2.1, C.2.2.2.2.1⟩ hM ⟨s_callB (n := as.length) C h hn hRf hRl hlk hown, C.2.2.2.2.1 _ (ow_al.get ow_im_al hs), hsel⟩ (s_PreV C hR ho hci hcn) rfl (by simp) hsz (by simp [List.map_reverse]; rfl) hrm hd ⟨by rw [hRc]; exact hu1, by rw [hRs]; exact hv1⟩) hLR hf hu1 hv1 kk kx
  · refine s_run (rest := rest) (vx_runVN (C := (ow_y a).cls) (As := as.map (cv w)) (g := F0 m pc lsM ((as.reverse ++ .ref q :: rest).map (cv w))) (rest := rest.map (cv w)) ⟨C.1, C.2.1, C.2.2.1, C.2.2.2.1, C.2.2.2.2.1⟩ hM ⟨s_callN (n := as.length) C h hn hRf hRl hlk hown, C.2.2.2.2.1 _ (ow_al.get ow_im_al hs), hsel⟩ (s_PreV C hR ho hci hcn) rfl (by simp) hsz (by simp [List.map_reverse]; rfl) hrm hd ⟨by rw [hRc]; exact hu1, by rw [hRs]; exact hv1⟩) hLR hf hu1 hv1 kk kx
theorem s_special {d kc ks a i q : Nat} {as rest : List AV} {P : Option AV → Mem → Prop} {X : Nat → Mem → Prop} (C : Cx w p s m args meth c own bytes nL) (hw : wLa w = l) (h : cmB a = true) (hs : a ∈ ow_imm) (hi : (ow_y a).name = "<init>") (hrt : ow_r a = none) (hn : as.length = ow_np a) (hRf : d + 1 ≤ R.frames) (hRl : 40 * (d + 1) ≤ R.locals) (hRc : R.cells = KC) (hRs : R.slots = KS) (hlk : (i, a) ∈ ow_g0 own) (hown : own < 14) (hst : stS rest ≤ 8)
    (hd : decode bytes pc = .ok (.invokespecial i, 3)) (hM : Ret w b d kc ks a (.ref q :: as) σ P X) (hu1 : u + kc ≤ KC) (hv1 : v + ks ≤ KS) (kk : ∀ r σ', P r σ' → AtM w b p l e R s m args below meth c Q nL KC KS (pc + 3) ls (psh r rest) σ' (u + kc) (v + ks)) (kx : ∀ E σ', X E σ' → AtX w b p l e R s m args below meth c Q nL KC KS pc E ls σ' (u + kc) (v + ks)) :
    AtM w b p l e R s m args below meth c Q nL KC KS pc ls (as.reverse ++ .ref q :: rest) σ u v := by
  subst hw
  intro hu hv H lsM locs hR hLR hf
  have hsz : lsM.size = nL := hLR.1
  have hrm : 2 * (F0 m pc lsM ((as.reverse ++ .ref q :: rest).map (cv w))).monitorRoom + ((rest.map (cv w)).map fun v => v.category).sum ≤ 8 := by rw [stS_cat]; show 2 * 0 + stS rest ≤ 8; omega
  have hcb := s_callB (n := as.length) (kc := kc) (ks := ks) (d := d) (R := R) C h hn hRf hRl hlk hown
  rw [hrt] at hcb
  refine s_run (rest := rest) (vx_runI (As := as.map (cv w)) (b := wN w + q) (g := F0 m pc lsM ((as.reverse ++ .ref q :: rest).map (cv w))) (rest := rest.map (cv w)) ⟨C.1, C.2.1, C.2.2.1, C.2.2.2.1, C.2.2.2.2.1⟩ hM ⟨hcb, hi, C.2.2.2.2.1 _ (ow_al.get ow_im_al hs)⟩ (s_PreS (as := .ref q :: as) C hR) rfl (by simp) hsz (by simp [List.map_reverse]; rfl) hrm hd ⟨by rw [hRc]; exact hu1, by rw [hRs]; exact hv1⟩) hLR hf hu1 hv1 kk kx
theorem s_objInit (C : Cx w p s m args meth c own bytes nL) {q i : Nat} (hlk : (own, i) ∈ ow_oi) (hRf : 1 ≤ R.frames) (hRl : 40 ≤ R.locals) (hRc : R.cells = KC) (hRs : R.slots = KS) (hst : stS st ≤ 8) (hd : decode bytes pc = .ok (.invokespecial i, 3)) (kk : AtM w b p l e R s m args below meth c Q nL KC KS (pc + 3) ls st σ u v) : AtM w b p l e R s m args below meth c Q nL KC KS pc ls (.ref q :: st) σ u v := by
  intro hu hv H lsM locs hR hLR hf
  have hts := C.2.2.2.2.1
  exact W.objInit C.1 C.2.1 C.2.2.2.1 (hts _ (ow_al.get ow_oi_al hlk)) (hts _ ow_oi_im) (hts _ ow_oi_c) rfl (by rw [C.2.2.1]; exact hLR.1) rfl hd hRf (by rw [stS_cat]; show 2 * 0 + stS st + 12 ≤ R.locals; omega) (kk hu hv H lsM locs hR hLR hf)
end SND3
