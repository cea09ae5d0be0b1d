/-! A THROW OF A CLASS WHOSE CONSTRUCTOR NAMES ITS SUPER'S BY ANOTHER PLACE (NoSuchElementException) -/
/-- the words of the constructors from E up: E's own by ix, with the code rx; the others' as ever -/
def ox_ch (E Y : String) (r : List String) (ix : Nat) (rx : ByteArray) : List Cond := Bundle.passSAtoms E Y ix rx ++ Bundle.chainSAtoms Y r
theorem ox_chain {args : Array Value} {s : State} {pl : Platform} (hpl : pl.magicAccessors = ({} : Platform).magicAccessors) {top : MethodId} (htop : s.methodNamed? (Bundle.initS Bundle.tN) = some top) {ix : Nat} {rx : ByteArray} {E Y : String} {r : List String}
    (x0 : decode rx 0 = .ok (.aload_n 0, 1)) (x1 : decode rx 1 = .ok (.aload_n 1, 1)) (x2 : decode rx 2 = .ok (.invokespecial ix, 3)) (x5 : decode rx 5 = .ok (.return_, 1)) (hE : Bundle.fit E = true) (hY : Bundle.fit Y = true) (hr : ∀ n ∈ r, Bundle.fit n = true) (h : ∀ w ∈ ox_ch E Y r ix rx, w.before args s = true) :
    ∃ (P1 : PassC) (Ps : List PassC), Ps.length = r.length + 1 ∧ (∀ P ∈ P1 :: Ps, P.LinksS pl s) ∧ s.methodNamed? (Bundle.initS E) = some P1.m ∧ P1.sup = firstOf top (Ps.map (·.toPassT)) ∧ PassesOn top (Ps.map (·.toPassT)) := by
  obtain ⟨P, L, hm, hs⟩ := PassC.ofS_atoms (args := args) (s := s) hpl (X := E) (Y := Y) (Bundle.fit_spec hE).1 (Bundle.fit_spec hY).2 x0 x1 x2 x5 (fun w hw => h w (List.mem_append.mpr (Or.inl hw)))
  obtain ⟨P', Ps, g1, g2, g3, g4, g5, g6⟩ := Bundle.chainS (args := args) hpl htop r Y hY hr (fun w hw => h w (List.mem_append.mpr (Or.inr hw)))
  refine ⟨P, P' :: Ps, by rw [List.length_cons, g1], fun Q hQ => ?_, hm, Option.some.inj (hs.symm.trans g4), g5, g6⟩
  rcases List.mem_cons.mp hQ with e | hQ
  · rw [e]; exact L
  · rcases List.mem_cons.mp hQ with e | hQ
    · rw [e]; exact g2
    · exact g3 Q hQ
/-- the words beside the constructors' -/
def ox_rest (own : String) (ic : Nat) (E : String) : List Cond :=
  [.methodLink own ic (Bundle.initS E), .instantiable E 6, .selects E Bundle.tFill0 Bundle.tFill0, .selects E Bundle.tFill Bundle.tFill, .lays E Bundle.tN "cause" "Ljava/lang/Throwable;", .lays E Bundle.tN "stackTrace" Bundle.steD, .lays E Bundle.tN "suppressedExceptions" Bundle.listD, .lays E Bundle.tN "detailMessage" "Ljava/lang/String;",
   .isRef (.static Bundle.tN "UNASSIGNED_STACK" Bundle.steD), .isRef (.static Bundle.tN "SUPPRESSED_SENTINEL" Bundle.listD), .fieldLink Bundle.tN 198 Bundle.tN "backtrace" "Ljava/lang/Object;", .lays Bundle.tN Bundle.tN "backtrace" "Ljava/lang/Object;", .lays E Bundle.tN "backtrace" "Ljava/lang/Object;"]
def ox_all (own : String) (ic : Nat) (E Y : String) (r : List String) (ix : Nat) (rx : ByteArray) : List Cond := Bundle.throwableAtoms ++ (Bundle.throwableSAtoms ++ (ox_ch E Y r ix rx ++ ox_rest own ic E))
section OXA
variable {p : Program} {l : Launch} {e : Env} {R : Room} {s : State} {m₀ : MethodId} {args : Array Value} {below : List Frame} {meth : Method} {c : Code} {W : State} {locs : List Loc} {cells slots : Nat}
set_option maxHeartbeats 1000000 in
theorem ox_ctor (X : Stand p l e R s m₀ args below meth c W locs cells slots) (hexec : p.tables.exec = Jvm.exec) (htr : e.platform.stackTraces = false) {own E Y : String} {r : List String} {ic ix : Nat} {rx : ByteArray}
    (x0 : decode rx 0 = .ok (.aload_n 0, 1)) (x1 : decode rx 1 = .ok (.aload_n 1, 1)) (x2 : decode rx 2 = .ok (.invokespecial ix, 3)) (x5 : decode rx 5 = .ok (.return_, 1))
    (hown : s.vm.findClass own = some m₀.cls) (hE : Bundle.fit E = true) (hY : Bundle.fit Y = true) (hr : ∀ n ∈ r, Bundle.fit n = true) (h : ∀ a ∈ ox_all own ic E Y r ix rx, a.before args s = true) (hlocs : locs = [])
    {a : Addr} {cX : ClassId} {kX : Class} (hfoundX : s.vm.findClass E = some cX) (hkX : s.vm.classes[cX]? = some kX) (hcell : W.heap[a]? = some (freshCell cX kX)) (hnew : s.heap.size ≤ a) {msg : Value} (hmsg : msg.isRef = true)
    {g : JFrame} (hg : g.method = m₀) (hsize : g.locals.size = c.maxLocals) (hlocked : g.locked = none) (hentered : g.entered = []) {rest : List Value} (hstack : g.stack = msg :: .ref a :: .ref a :: rest)
    (hd6 : decode c.code g.pc = .ok (.invokespecial ic, 3)) (hd9 : decode c.code (g.pc + 3) = .ok (.athrow, 1)) (hout : ∀ x ∈ c.exceptionTable.toList, covers x (g.pc + 3) = false)
    (hRframes : r.length + 4 < R.frames) (hRlocals : 2 * g.monitorRoom + ((Value.ref a :: rest).map fun v => v.category).sum + (13 * (r.length + 2) + 42) ≤ R.locals) (hlocks : meth.locks = false) :
    ∃ U : State, Steps p.tables e below (W.setTop g) U ∧ U.status = .running ∧ Ended U below (.threw a) ∧ s.WarmedH U.vm ∧ s.sameButNew ({ U with vm := s.vm } : State) [] cells slots ∧ ∃ ce, U.heap[a]? = some ce ∧ s.vm.findClass E = some ce.cls ∧ ce.vm = .none := by
  subst hlocs
  have hpf := X.admits.platform
  have hpl : e.platform.magicAccessors = ({} : Platform).magicAccessors := by rw [hpf]
  have at1 : ∀ x, x ∈ ox_rest own ic E → x.holds args s none s [] = true := fun x hx => h x (List.mem_append.mpr (Or.inr (List.mem_append.mpr (Or.inr (List.mem_append.mpr (Or.inr hx))))))
  have atC : ∀ x, x ∈ ox_ch E Y r ix rx → x.before args s = true := fun x hx => h x (List.mem_append.mpr (Or.inr (List.mem_append.mpr (Or.inr (List.mem_append.mpr (Or.inl hx))))))
  obtain ⟨T, Z0, L, -, Ti⟩ := ThrowableC.of_atoms (args := args) (by rw [hpf]) (by rw [hpf]) hpl (fun x hx => h x (List.mem_append.mpr (Or.inl hx)))
  obtain ⟨Z, M, LZ, LM, hnZ⟩ := Init0T.ofS_atoms (args := args) hpl L Ti (fun x hx => h x (List.mem_append.mpr (Or.inr (List.mem_append.mpr (Or.inl hx)))))
  obtain ⟨P1, Ps, hlen, hLP, hP1m, hl1, hl2⟩ := ox_chain (args := args) hpl hnZ x0 x1 x2 x5 hE hY hr atC
  have hfound : s.vm.findClass E = some P1.m.cls := findClass_of_methodNamed hP1m
  cases Option.some.inj (hfoundX.symm.trans hfound)
  obtain ⟨c1, kX', hc1, hk, hord, -, -, hn6⟩ := Cond.instantiable_spec (at1 (.instantiable E 6) (by simp [ox_rest]))
  cases Option.some.inj (hc1.symm.trans hfound)
  cases Option.some.inj (hkX.symm.trans hk)
  have sel0 : selectMethod e.platform s.vm P1.m.cls T.fill0 = .method T.fill0 := by
    obtain ⟨c2, r2, m2, q1, q2, q3, q4, -⟩ := Cond.selects_spec (at1 (.selects E Bundle.tFill0 Bundle.tFill0) (by simp [ox_rest]))
    cases Option.some.inj (q1.symm.trans hfound)
    cases Option.some.inj (q2.symm.trans (State.methodFound?_of_named Ti.fill0 (by decide)))
    cases Option.some.inj (q3.symm.trans Ti.fill0)
    rw [Launch.admits_selectMethod X.admits]; exact q4
  have selF : selectMethod e.platform s.vm P1.m.cls T.fill = .method T.fill := by
    obtain ⟨c2, r2, m2, q1, q2, q3, q4, -⟩ := Cond.selects_spec (at1 (.selects E Bundle.tFill Bundle.tFill) (by simp [ox_rest]))
    cases Option.some.inj (q1.symm.trans hfound)
    cases Option.some.inj (q2.symm.trans (State.methodFound?_of_named Ti.fill (by decide)))
    cases Option.some.inj (q3.symm.trans Ti.fill)
    rw [Launch.admits_selectMethod X.admits]; exact q4
  obtain ⟨cS0, hcS0, hiss⟩ := Ti.statics
  obtain ⟨u0, hu0⟩ := Cond.staticRefV Ti.unassigned L.unassignedStatic L.statics hcS0 hiss (at1 (.isRef (.static Bundle.tN "UNASSIGNED_STACK" Bundle.steD)) (by simp [ox_rest]))
  obtain ⟨sen, hsen⟩ := Cond.staticRefV Ti.sentinel L.sentinelStatic L.statics hcS0 hiss (at1 (.isRef (.static Bundle.tN "SUPPRESSED_SENTINEL" Bundle.listD)) (by simp [ox_rest]))
  obtain ⟨ciB, iB, fB, hkB, hgB, haB, hsB, -, hnB, htB, hffB⟩ := Cond.ownField (t := .object "java/lang/Object") Ti.found L.cls (by decide +kernel) (at1 (.fieldLink Bundle.tN 198 Bundle.tN "backtrace" "Ljava/lang/Object;") (by simp [ox_rest])) (at1 (.lays Bundle.tN Bundle.tN "backtrace" "Ljava/lang/Object;") (by simp [ox_rest])) e.platform hpl
  obtain ⟨cS, hcS, heS, -, hkeep⟩ := X.same.2.2.2.2.2 T.aS cS0 hcS0
  have hcS : W.heap[T.aS]? = some cS := hcS
  have knS : cS.vm ≠ .unknown := fun z => by
    rw [heS] at z
    rw [show cS0.vm = .unknown from z] at hiss
    cases hiss
  have neS : T.aS ≠ a := Nat.ne_of_lt (Nat.lt_of_lt_of_le (Array.getElem?_eq_some_iff.mp hcS0).1 hnew)
  obtain ⟨iM, hffM⟩ := Ti.msg
  obtain ⟨tC, dC, hdC, nC⟩ := Cond.laysAt hfound hk Ti.cause (at1 (.lays E Bundle.tN "cause" "Ljava/lang/Throwable;") (by simp [ox_rest]))
  obtain ⟨tS, dS, hdS, nS⟩ := Cond.laysAt hfound hk Ti.stack (at1 (.lays E Bundle.tN "stackTrace" Bundle.steD) (by simp [ox_rest]))
  obtain ⟨tP, dP, hdP, nP⟩ := Cond.laysAt hfound hk Ti.supp (at1 (.lays E Bundle.tN "suppressedExceptions" Bundle.listD) (by simp [ox_rest]))
  obtain ⟨tM, dM, hdM, nM⟩ := Cond.laysAt hfound hk hffM (at1 (.lays E Bundle.tN "detailMessage" "Ljava/lang/String;") (by simp [ox_rest]))
  obtain ⟨tB, dB, hdB, nB⟩ := Cond.laysAt hfound hk hffB (at1 (.lays E Bundle.tN "backtrace" "Ljava/lang/Object;") (by simp [ox_rest]))
  have aC := Cond.laysApart hdB hdC nB nC (by rw [hnB, Ti.causeName]; decide)
  have aS := Cond.laysApart hdB hdS nB nS (by rw [hnB, Ti.stackName]; decide)
  have aP := Cond.laysApart hdB hdP nB nP (by rw [hnB, Ti.suppName]; decide)
  have hskip : SkipFacts T e.platform s (fun u => u) u0 ((preparedCellV T.toThrowableT (freshCell P1.m.cls kX) a u0 sen).withEntry W.cur) := by
    refine ⟨{ ci198 := ciB, i198 := iB, fBack := fB }, ⟨hkB, hgB, haB, hsB⟩, ?_, fun _ _ => rfl⟩
    have := fresh_default (c := P1.m.cls) tB
    rw [htB] at this
    simpa [preparedCellV, Cell.setSlot, Cell.withEntry, Array.getElem?_setIfInBounds, aC, aS, aP, aC.symm, aS.symm, aP.symm, defaultValue] using this
  obtain ⟨tm, mC, cC, kC, vm₁, hnC, -, -, -, -, -, -, -, hW₁, st1⟩ := Steps.initColdS (tb := p.tables) (e := e) (below := below) (s := s) (U := W) X.here hexec X.warmed hpl hown (t := Bundle.initS E) rfl rfl (Bundle.fit_spec hE).2
    (at1 (.methodLink own ic (Bundle.initS E)) (by simp [ox_rest])) (atC (.instanceMethod (Bundle.initS E)) (by simp [ox_ch, Bundle.passSAtoms])) (bytes := rx) (maxL := 2) (atC (.code (Bundle.initS E) rx 2 none) (by simp [ox_ch, Bundle.passSAtoms]))
    (f := g) hg (a := a) (msg := msg) (rest := .ref a :: rest) hstack hd6
  cases Option.some.inj (hnC.symm.trans hP1m)
  have X₁ := X.noted hW₁
  obtain ⟨vm₂, X₂, st2⟩ := X₁.ctorMessageOffV hexec (g := { g with stack := .ref a :: rest }) hg hsize T L Z LZ M LM (P1 :: Ps) hLP ⟨hl1, hl2⟩ (u0 := u0) (sen := sen) (self := a) hmsg (cell := freshCell P1.m.cls kX) (cellS := cS)
    hcell (fun _ => by simp) (by simp) rfl rfl sel0 selF hcS neS knS (by rw [hkeep _ (fun hm => nomatch hm)]; exact hu0) (by rw [hkeep _ (fun hm => nomatch hm)]; exact hsen)
    (Takes.of_laid hk hord tC (by rw [Ti.causeType]; rfl)) (Takes.of_laid hk hord tS (by rw [Ti.stackType]; exact fits_refV_array _ u0)) (Takes.of_laid hk hord tP (by rw [Ti.suppType]; exact fits_refV_object _ sen))
    (Takes.of_laid hk hord tM (by rw [Ti.msgType]; exact fits_refV_object _ ⟨msg, hmsg⟩)) Ti.objLocals hskip htr [] hd6
    (by simp only [List.length_cons, hlen]; omega) (by simp only [List.length_cons, hlen]; exact hRlocals)
  obtain ⟨hwalk, hrun, hended, hWU, hsame⟩ := X₂.athrowLeaves hexec (g := { g with stack := .ref a :: rest, pc := g.pc + 3 }) hg hlocked hentered hout (a := a) (rest := rest) rfl hd9
  have hlt : a < ((W.setVm vm₁).setVm vm₂).heap.size := (Array.getElem?_eq_some_iff.mp hcell).1
  refine ⟨_, st1 _ (fun acts => ?_), hrun, hended, hWU, hsame.weaken (fun y hy hlt' => ?_) (Nat.le_refl _) (Nat.le_refl _), _, heapAt_setCell_self (s := (W.setVm vm₁).setVm vm₂) (plainBareV T.toThrowableT (freshCell P1.m.cls kX) a u0 sen msg) hlt, hfound, rfl⟩
  · rw [doInvoke_state]
    exact st2 _ hwalk
  · exfalso
    rcases List.mem_append.mp hy with h1 | h1
    · cases h1
    · have hb : y.base = a := by
        simp only [List.mem_cons, List.not_mem_nil, or_false] at h1
        rcases h1 with rfl | rfl | rfl | rfl | rfl <;> rfl
      rw [hb] at hlt'
      exact Nat.not_lt.mpr hnew hlt'
end OXA
section OXB
variable {p : Program} {l : Launch} {e : Env} {R : Room} {s : State} {m : MethodId} {args : Array Value} {below : List Frame} {meth : Method} {c : Code} {H : Heap} {locs : List Loc} {cells slots : Nat}
variable {ls : Array Slot} {rest : List Value} {Qc : Array Value → State → Outcome → State → Prop} {XC : String → State → State → Prop} {free : Addr → Prop}
/-- 'throw new E("text")', the text by a wide index -/
theorem ox_throw {cc : ByteArray} {pc : Nat} (hexec : p.tables.exec = Jvm.exec) (hb : c.code = cc) (hl : l.stackTraces = false) {own E Y text : String} {r : List String} {ik is ic ix mc ms sa : Nat} {rx : ByteArray} {A : Nat → Prop}
    (x0 : decode rx 0 = .ok (.aload_n 0, 1)) (x1 : decode rx 1 = .ok (.aload_n 1, 1)) (x2 : decode rx 2 = .ok (.invokespecial ix, 3)) (x5 : decode rx 5 = .ok (.return_, 1))
    (hown : s.vm.findClass own = some m.cls) (hE : Bundle.fit E = true) (hY : Bundle.fit Y = true) (hr : ∀ n ∈ r, Bundle.fit n = true)
    (hk : (Cond.classLink own ik E).before args s = true) (hini : (Cond.initialized E).before args s = true) (hstr : vk_R own is text sa s) (hat : ∀ w ∈ (ox_all own ic E Y r ix rx).filter vx_no, w.before args s = true)
    (hgood : ∀ w ∈ Cond.classLink own ik E :: Cond.initialized E :: (ox_all own ic E Y r ix rx).filter vx_no, vx_ot w = true)
    (hU : vx_Zq Bundle.tN "UNASSIGNED_STACK" Bundle.steD A s s.heap) (hN : vx_Zq Bundle.tN "SUPPRESSED_SENTINEL" Bundle.listD A s s.heap) (hS : va_S A s.heap H locs) (hsize : ls.size = c.maxLocals)
    (d0 : decode cc pc = .ok (.new ik, 3)) (d3 : decode cc (pc + 3) = .ok (.dup, 1)) (d4 : decode cc (pc + 4) = .ok (.ldc_w is, 3)) (d7 : decode cc (pc + 7) = .ok (.invokespecial ic, 3)) (d10 : decode cc (pc + 10) = .ok (.athrow, 1))
    (hout : ∀ x ∈ c.exceptionTable.toList, covers x (pc + 10) = false)
    (hRframes : r.length + 4 < R.frames) (hRlocals : (rest.map fun v => v.category).sum + (13 * (r.length + 2) + 43) ≤ R.locals) (hRcells : cells + 1 ≤ R.cells) (hRslots : slots + 6 ≤ R.slots) (hlocks : meth.locks = false)
    (hx : ∀ t : State, s.vm.Alike t.vm → H.size ≤ t.heap.size → (∀ q : Nat, q < H.size → t.heap[q]? = H[q]?) → XC E s t)
    (hf : ∀ z ∈ locs, free z.base) (hc : cells + 1 ≤ mc) (hs : slots + 6 ≤ ms) :
    W p l e R s m args below meth c H locs cells slots (vx_MQ below Qc XC args s mc ms free) (F0 m pc ls rest) := by
  intro T hT X
  have htr : e.platform.stackTraces = false := (show e.platform.stackTraces = l.stackTraces by rw [X.admits.platform]).trans hl
  have Y0 := vx_rebase X (R' := { frames := R.frames, locals := R.locals, cells := 1, slots := 6 }) (Nat.le_refl _) (Nat.le_refl _) hRcells hRslots
  obtain ⟨s', hA⟩ : ∃ z, z = (T.setVm s.vm).setFrames (.invoking m args :: below) := ⟨_, rfl⟩
  rw [← hA] at Y0
  have hvm : s'.vm = s.vm := by rw [hA]; rfl
  have hhp : s'.heap = H := by rw [hA]; exact hT
  have hW0 : s.WarmedH s'.vm := by rw [hvm]; exact State.WarmedH.refl s
  have hU' : vx_Zq Bundle.tN "UNASSIGNED_STACK" Bundle.steD A s' s'.heap := by rw [hhp]; exact vx_Zq.moved hW0.alike (hU.kept hS.2.1)
  have hN' : vx_Zq Bundle.tN "SUPPRESSED_SENTINEL" Bundle.listD A s' s'.heap := by rw [hhp]; exact vx_Zq.moved hW0.alike (hN.kept hS.2.1)
  have h : ∀ w ∈ ox_all own ic E Y r ix rx, w.before args s' = true := vx_own (fun w hw => vx_ot_at hW0 hvm.symm (hgood w (List.mem_cons_of_mem _ (List.mem_cons_of_mem _ hw))) (hat w hw)) (vx_isRefq hU'.1) (vx_isRefq hN'.1) hU'.2.word hN'.2.word
  have hk' : (Cond.classLink own ik E).before args s' = true := vx_ot_at hW0 hvm.symm (hgood _ List.mem_cons_self) hk
  have hini' : (Cond.initialized E).before args s' = true := vx_ot_at hW0 hvm.symm (hgood _ (List.mem_cons_of_mem _ List.mem_cons_self)) hini
  have hown' : s'.vm.findClass own = some m.cls := by rw [hvm]; exact hown
  have hins : (Cond.instantiable E 6).before args s' = true := h _ (List.mem_append.mpr (Or.inr (List.mem_append.mpr (Or.inr (List.mem_append.mpr (Or.inr (by simp [ox_rest])))))))
  obtain ⟨vm₁, cX, kX, hfX, hkX, -, -, X₁, st1⟩ := Y0.newCold hexec (own := own) (C := E) (index := ik) (n := 6) hown' hk' hins hini' (g := F0 m pc ls rest) rfl (by rw [hb]; exact d0) (Nat.le_refl _) (Nat.le_refl _)
  generalize hT1 : (T.setVm vm₁).pushCell { cls := cX, slots := kX.instanceTypes.map defaultValue, vm := .none } = T1 at X₁ st1
  have hcellA : T1.heap[T.heap.size]? = some (freshCell cX kX) := by rw [← hT1]; exact State.heap_pushCell_size _ _
  have d3' : decode c.code (pc + 3) = .ok (.dup, 1) := by rw [hb]; exact d3
  have d4' : decode c.code (pc + 4) = .ok (.ldc_w is, 3) := by rw [hb]; exact d4
  have hstr' : vk_R own is text sa s' := vk_R.warm hW0 hstr
  have hcat : (Value.ref T.heap.size).category = 1 := rfl
  obtain ⟨U, hsteps, hrun, hend, hW, hsame, ce, hce, hcl0, hvm0⟩ := ox_ctor X₁ hexec htr (own := own) (E := E) (Y := Y) (r := r) (ic := ic) x0 x1 x2 x5 hown' hE hY hr h rfl hfX hkX hcellA (by rw [hhp, hT]; exact Nat.le_refl _) (msg := .ref sa) rfl
    (g := { method := m, pc := pc + 7, locals := ls, stack := .ref sa :: .ref T.heap.size :: .ref T.heap.size :: rest, locked := none }) rfl hsize rfl rfl (rest := rest) rfl
    (by rw [hb]; exact d7) (by rw [hb]; exact d10) hout hRframes (by simp only [List.map_cons, List.sum_cons, hcat]; omega) hlocks
  obtain ⟨f1, f2⟩ := vx_frame hsame
  rw [hhp] at f1 f2
  have hWs : s.WarmedH U.vm := State.WarmedH.trans hW0 hW
  rw [hvm] at hcl0
  have hall : s.sameButNew ({ U with vm := s.vm } : State) locs mc ms := by
    subst hA
    obtain ⟨e1, e2⟩ := hsame
    rw [State.setFrames_setFrames] at e1
    have h2 : (T.setVm s.vm).sameButNew ({ U with vm := s.vm } : State) [] (0 + 1) (0 + 6) := ⟨e1, e2⟩
    have h3 := X.same.trans h2
    rw [List.append_nil] at h3
    exact h3.mono hc hs
  refine ⟨U, ?_, .threw T.heap.size, hrun, hend, Or.inr ⟨T.heap.size, rfl, E, ce, locs, hx U hWs.alike f1 (fun q hq => f2 q hq (fun z hz => nomatch hz)), hce, hvm0, hcl0, hWs, hall, hf⟩⟩
  refine st1 _ ?_
  show Steps p.tables e below (T1.setTop { method := m, pc := pc + 3, locals := ls, stack := .ref T.heap.size :: rest, locked := none }) _
  jvm_step X₁.here [X₁.here.top, hexec, d3', Value.category]
  exact X₁.ldcStringW hexec (own := own) (text := text) (index := is) (a := sa) hown' hstr'.1 hstr'.2
    (g := { method := m, pc := pc + 4, locals := ls, stack := .ref T.heap.size :: .ref T.heap.size :: rest, locked := none }) rfl d4' _ hsteps
end OXB
def ox_rx : ByteArray := ⟨#[0x2a, 0x2b, 0xb7, 0x00, 0x0d, 0xb1]⟩
def ox_L : List Cond := (ox_all "OwnedClouds" 300 (ow_ex 1) "java/lang/RuntimeException" ["java/lang/Exception"] 13 ox_rx).filter vx_no
theorem ox_words {w : Wd} {s : State} {args : Array Value} (hts : ∀ z ∈ ow_T, z.before args s = true) (hKX : KX w s) (h : ox_L.all (fun z => decide (z ∈ tables_1 ∧ goodWord z = true) || decide (z ∈ k2_sels lw_privs ∧ goodWord z = true) || decide (z ∈ ow_dcl.map Cond.declares)) = true) : ∀ z ∈ ox_L, z.before args s = true := by
  intro z hz
  have := List.all_eq_true.mp h z hz
  simp only [Bool.or_eq_true, decide_eq_true_eq] at this
  rcases this with (h1 | h1) | h1
  · exact hts z (List.mem_filter.mpr ⟨List.mem_append.mpr (Or.inr h1.1), h1.2⟩)
  · exact hts z (List.mem_filter.mpr ⟨List.mem_append.mpr (Or.inl h1.1), h1.2⟩)
  · obtain ⟨y, hy, rfl⟩ := List.mem_map.mp h1
    exact va_Nw.use rfl (hKX.2.2.1 y hy)
theorem ox_L1 : ox_L.all (fun z => decide (z ∈ tables_1 ∧ goodWord z = true) || decide (z ∈ k2_sels lw_privs ∧ goodWord z = true) || decide (z ∈ ow_dcl.map Cond.declares)) = true := by decide +kernel
theorem ox_L2 : (Cond.classLink "OwnedClouds" 296 (ow_ex 1) :: Cond.initialized (ow_ex 1) :: ox_L).all vx_ot = true := by decide +kernel
theorem sp_needCloud {w : Wd} {d : Nat} {P : Option AV → Mem → Prop} {X : Nat → Mem → Prop} {KC KS : Nat} : SpOK w true (d + 5) m_OC_needCloud k_OC_needCloud P X KC KS := by
  intro p e s m args below meth c At C hout hheap K hK hAt el tl hsx hb hd ls st σ u v h
  have hl := List.all_eq_true.mp (show k_OC_needCloud.all (fun el => !spB el || thB 18 1 el) = true by decide +kernel) el hsx.mem
  rw [hb] at hl
  obtain ⟨pc, len, ct, ins, a, bb, cc, ts⟩ := el
  have hl : thB 18 1 (pc, len, ct, ins, a, bb, cc, ts) = true := hl
  cases ins
  case new i0 =>
    obtain ⟨rfl, rfl, hc1⟩ := of_decide_eq_true hl
    obtain ⟨cc', rfl⟩ : ∃ z, cc = z + 1 := ⟨cc - 1, by omega⟩
    obtain ⟨hst, hu1, hv1, hn0, hX⟩ := cond_tt (show cond (Nat.ble (stS st) 8) (u + 1 ≤ KC ∧ v + 6 ≤ KS ∧ ow_n0 ≤ mN σ ∧ ∀ n, X 1 (nX σ n)) False from h)
    have hst := Nat.le_of_ble_eq_true hst
    intro hu hv H lsM locs hR hL hf T hT Xs
    obtain ⟨hx', hbb, hml, hown, hts, hKF, hlocks⟩ := C
    have hKS := hKF.2.2.2.2.2.2.1
    have hKX := hKF.2.2.2.2.2.2.2
    have hkp : ∀ a : Nat, a < (wH w).size → ¬ fre w a → s.heap[a]? = (wH w)[a]? := fun a _ ha => hheap a (Nat.not_le.mp ha)
    have hgr : s.heap.size ≤ H.size := by rw [← hT]; exact Xs.heapGrown
    have hS : va_S (fre w) s.heap H locs := ⟨hgr, fun q h1 h2 => by rw [hR.2.1 q (Nat.not_le.mp h2), hheap q (Nat.not_le.mp h2)], hf⟩
    have d0 : decode (ow_b m_OC_needCloud) 18 = .ok (.new 296, 3) := by decide +kernel
    have d3 : decode (ow_b m_OC_needCloud) (18 + 3) = .ok (.dup, 1) := by decide +kernel
    have d4 : decode (ow_b m_OC_needCloud) (18 + 4) = .ok (.ldc_w 298, 3) := by decide +kernel
    have d7 : decode (ow_b m_OC_needCloud) (18 + 7) = .ok (.invokespecial 300, 3) := by decide +kernel
    have d10 : decode (ow_b m_OC_needCloud) (18 + 10) = .ok (.athrow, 1) := by decide +kernel
    refine ox_throw (rest := st.map (cv w)) (own := "OwnedClouds") (E := ow_ex 1) (Y := "java/lang/RuntimeException") (r := ["java/lang/Exception"]) (ik := 296) (is := 298) (ic := 300) (ix := 13) (rx := ox_rx) (A := fre w) (sa := wS w 10) (text := ow_tx 10) hx' hbb hKX.1 (by decide +kernel) (by decide +kernel) (by decide +kernel) (by decide +kernel) hown (by decide +kernel) (by decide +kernel) (by decide +kernel) (hts _ th_kl1) (hts _ th_in1) (hKS.2.2.2.2.2 (10, 298, 10) (by decide)) (ox_words hts hKX ox_L1) (fun z hz => List.all_eq_true.mp ox_L2 z hz)
      (hKS.2.2.2.1.kept hkp) (hKS.2.2.2.2.1.kept hkp) hS (by rw [hml]; exact hL.1) d0 d3 d4 d7 d10 (fun x hx => (hout x hx).elim) (by show 1 + 4 < d + 5 + 1; omega) (by rw [stS_cat]; show stS st + (13 * (1 + 2) + 43) ≤ 40 * (d + 5 + 1); omega) hu1 hv1 hlocks ?_ hf hu1 hv1 T hT Xs
    intro t _ hsz hold
    refine ⟨1, nX σ (t.heap.size - H.size), by decide, rfl, hR.growX (by omega) hold, hX _⟩
  case ldc_w i0 =>
    obtain ⟨cc', rfl⟩ : ∃ z, cc = z + 1 := ⟨cc - 1, by have := Nat.le_of_ble_eq_true hl; omega⟩
    exact h.elim
  case invokespecial i0 =>
    have : cc = 8 := Nat.eq_of_beq_eq_true hl
    subst this
    exact h.elim
  case athrow => exact h.elim
  all_goals cases hl
