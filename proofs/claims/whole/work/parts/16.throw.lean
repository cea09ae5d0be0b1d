/-! METHODS THAT THROW -/
theorem RelH.growX {w : Wd} {σ : Mem} {H H' : Heap} {n : Nat} (h : RelH w true σ H) (hz : H'.size = H.size + n) (ho : ∀ z, z < H.size → H'[z]? = H[z]?) : RelH w true (nX σ n) H' := by
  have hn := h.2.2.1 rfl
  refine h.grow hz ho rfl (fun a ha => ?_) (fun _ _ _ => rfl) (fun _ _ _ => rfl) rfl (fun q => by cases q) fun a h1 h2 => ?_
  · show (if mN σ ≤ a then 0 else σ.2.2.1 a) = _
    rw [if_neg (by omega)]; rfl
  · have hk : kind (nX σ n) a = 18 := by
      unfold kind
      rw [show Nat.blt a ow_n0 = false by rw [Bool.eq_false_iff]; simp [Nat.blt]; omega]
      show (match (if mN σ ≤ a then 0 else σ.2.2.1 a) with | 0 => 18 | _ + 1 => 12) = 18
      rw [if_pos h1]
    unfold cOK
    rw [hk]
    exact ⟨fun q => absurd q (by decide), fun q => absurd q (by decide), fun q => absurd q (by decide), fun q => absurd q (by decide), fun q => absurd q (by decide), fun q => absurd q (by decide), fun q => absurd q (by decide)⟩
def ow_nms : List String := ["java/lang/RuntimeException", "java/lang/Exception"]
def thB (pc0 E : Nat) (el : El) : Bool := match el with
  | (pc, _, _, ins, a, _, c, _) => match ins with
    | .new _ => decide (pc = pc0 ∧ a = E ∧ 1 ≤ c)
    | .ldc _ => false
    | .ldc_w _ => Nat.ble 1 c
    | .invokespecial _ => Nat.beq c 8
    | .athrow => true
    | _ => false
/-- the words of a throw -/
def thW (ic E : Nat) : List Cond := vx_atS "OwnedClouds" ic (ow_ex E) ow_nms
theorem th_words {w : Wd} {s : State} {args : Array Value} {ic E : Nat} (hts : ∀ z ∈ ow_T, z.before args s = true) (hKX : KX w s) (hE : E < 3) (h : (thW ic E).all (fun z => decide (z ∈ tables_1 ∧ goodWord z = true) || decide (z ∈ k2_sels lw_privs ∧ goodWord z = true) || decide (z = .castable (ow_ex E) (ow_ex E)) || decide (z ∈ ow_dcl.map Cond.declares)) = true) : ∀ z ∈ thW ic E, z.before args s = true := by
  intro z hz
  have := List.all_eq_true.mp h z hz
  simp only [Bool.or_eq_true, decide_eq_true_eq] at this
  rcases this with ((h1 | h1) | h1) | h1
  · exact hts z (List.mem_filter.mpr ⟨List.mem_append.mpr (Or.inr h1.1), h1.2⟩)
  · exact hts z (List.mem_filter.mpr ⟨List.mem_append.mpr (Or.inl h1.1), h1.2⟩)
  · rw [h1]; exact va_Nw.use rfl (hKX.2.1 E hE)
  · obtain ⟨y, hy, rfl⟩ := List.mem_map.mp h1
    exact va_Nw.use rfl (hKX.2.2.1 y hy)
section THR
variable {w : Wd} {d mm : Nat} {code : List El} {P : Option AV → Mem → Prop} {X : Nat → Mem → Prop} {KC KS : Nat}
theorem sp_throwW (E pc0 ik is tag ic : Nat) (hE : E < 3) (hmm : ow_o mm = 10) (hs : (10, is, tag) ∈ ow_strs) (hlk : Cond.classLink "OwnedClouds" ik (ow_ex E) ∈ ow_T) (hini : Cond.initialized (ow_ex E) ∈ ow_T)
    (hat : (thW ic E).all (fun z => decide (z ∈ tables_1 ∧ goodWord z = true) || decide (z ∈ k2_sels lw_privs ∧ goodWord z = true) || decide (z = .castable (ow_ex E) (ow_ex E)) || decide (z ∈ ow_dcl.map Cond.declares)) = true) (hgd : (Cond.classLink "OwnedClouds" ik (ow_ex E) :: Cond.initialized (ow_ex E) :: thW ic E).all vx_ot = true) (hfit : (Bundle.fit (ow_ex E) && ow_nms.all Bundle.fit) = true)
    (hdec : (decide (decode (ow_b mm) pc0 = .ok (.new ik, 3)) && decide (decode (ow_b mm) (pc0 + 3) = .ok (.dup, 1)) && decide (decode (ow_b mm) (pc0 + 4) = .ok (.ldc_w is, 3)) && decide (decode (ow_b mm) (pc0 + 7) = .ok (.invokespecial ic, 3)) && decide (decode (ow_b mm) (pc0 + 10) = .ok (.athrow, 1))) = true)
    (hel : code.all (fun el => !spB el || thB pc0 E el) = true) : SpOK w true (d + 5) mm code P X KC KS := by
  intro p e s m args below meth c At C hout hheap K hK hAt el tl hsx hb hd ls st σ u v h
  have hl := List.all_eq_true.mp hel el hsx.mem
  rw [hb] at hl
  obtain ⟨pc, len, ct, ins, a, bb, cc, ts⟩ := el
  have hl : thB pc0 E (pc, len, ct, ins, a, bb, cc, ts) = true := hl
  cases ins
  case new i0 =>
    obtain ⟨rfl, rfl, hc1⟩ := of_decide_eq_true hl
    obtain ⟨cc', rfl⟩ : ∃ z, cc = z + 1 := ⟨cc - 1, by omega⟩
    obtain ⟨hst, hu1, hv1, hn0, hX⟩ := cond_tt (show cond (Nat.ble (stS st) 8) (u + 1 ≤ KC ∧ v + 6 ≤ KS ∧ ow_n0 ≤ mN σ ∧ ∀ n, X a (nX σ n)) False from h)
    have hst := Nat.le_of_ble_eq_true hst
    simp only [Bool.and_eq_true, decide_eq_true_eq] at hdec
    obtain ⟨⟨⟨⟨d0, d3⟩, d4⟩, d7⟩, d10⟩ := hdec
    intro hu hv H lsM locs hR hL hf T hT Xs
    obtain ⟨hx', hbb, hml, hown, hts, hKF, hlocks⟩ := C
    rw [hmm] at hown
    rw [Bool.and_eq_true] at hfit
    have hKS := hKF.2.2.2.2.2.2.1
    have hKX := hKF.2.2.2.2.2.2.2
    have hkp : ∀ a : Nat, a < (wH w).size → ¬ fre w a → s.heap[a]? = (wH w)[a]? := fun a _ ha => hheap a (Nat.not_le.mp ha)
    have hgr : s.heap.size ≤ H.size := by rw [← hT]; exact Xs.heapGrown
    have hS : va_S (fre w) s.heap H locs := ⟨hgr, fun q h1 h2 => by rw [hR.2.1 q (Nat.not_le.mp h2), hheap q (Nat.not_le.mp h2)], hf⟩
    refine vx_throwSW (rest := st.map (cv w)) (names := ow_nms) (A := fre w) (sa := wS w tag) (text := ow_tx tag) hx' hbb hKX.1 hown hfit.1 (fun n hn => List.all_eq_true.mp hfit.2 n hn) (hts _ hlk) (hts _ hini) (hKS.2.2.2.2.2 (10, is, tag) hs) (th_words hts hKX hE hat) (fun z hz => List.all_eq_true.mp hgd z hz)
      (hKS.2.2.2.1.kept hkp) (hKS.2.2.2.2.1.kept hkp) hS (by rw [hml]; exact hL.1) d0 d3 d4 d7 d10 (fun x hx => (hout x hx).elim) (by show 2 + 3 < d + 5 + 1; omega) (by rw [stS_cat]; show stS st + (13 * (2 + 1) + 43) ≤ 40 * (d + 5 + 1); omega) hu1 hv1 hlocks ?_ hf hu1 hv1 T hT Xs
    intro t _ hsz hold
    refine ⟨a, nX σ (t.heap.size - H.size), hE, rfl, hR.growX (by omega) hold, hX _⟩
  case ldc_w i0 =>
    obtain ⟨cc', rfl⟩ : ∃ z, cc = z + 1 := ⟨cc - 1, by have := Nat.le_of_ble_eq_true hl; omega⟩
    exact h.elim
  case invokespecial i0 =>
    have : cc = 8 := Nat.eq_of_beq_eq_true hl
    subst this
    exact h.elim
  case athrow => exact h.elim
  all_goals cases hl
theorem sp_throwS (E pc0 ik is tag ic : Nat) (hE : E < 3) (hmm : ow_o mm = 10) (hs : (10, is, tag) ∈ ow_strs) (hlk : Cond.classLink "OwnedClouds" ik (ow_ex E) ∈ ow_T) (hini : Cond.initialized (ow_ex E) ∈ ow_T)
    (hat : (thW ic E).all (fun z => decide (z ∈ tables_1 ∧ goodWord z = true) || decide (z ∈ k2_sels lw_privs ∧ goodWord z = true) || decide (z = .castable (ow_ex E) (ow_ex E)) || decide (z ∈ ow_dcl.map Cond.declares)) = true) (hgd : (Cond.classLink "OwnedClouds" ik (ow_ex E) :: Cond.initialized (ow_ex E) :: thW ic E).all vx_ot = true) (hfit : (Bundle.fit (ow_ex E) && ow_nms.all Bundle.fit) = true)
    (hdec : (decide (decode (ow_b mm) pc0 = .ok (.new ik, 3)) && decide (decode (ow_b mm) (pc0 + 3) = .ok (.dup, 1)) && decide (decode (ow_b mm) (pc0 + 4) = .ok (.ldc is, 2)) && decide (decode (ow_b mm) (pc0 + 6) = .ok (.invokespecial ic, 3)) && decide (decode (ow_b mm) (pc0 + 9) = .ok (.athrow, 1))) = true)
    (hel : code.all (fun el => !spB el || thB pc0 E el) = true) : SpOK w true (d + 5) mm code P X KC KS := by
  intro p e s m args below meth c At C hout hheap K hK hAt el tl hsx hb hd ls st σ u v h
  have hl := List.all_eq_true.mp hel el hsx.mem
  rw [hb] at hl
  obtain ⟨pc, len, ct, ins, a, bb, cc, ts⟩ := el
  have hl : thB pc0 E (pc, len, ct, ins, a, bb, cc, ts) = true := hl
  cases ins
  case new i0 =>
    obtain ⟨rfl, rfl, hc1⟩ := of_decide_eq_true hl
    obtain ⟨cc', rfl⟩ : ∃ z, cc = z + 1 := ⟨cc - 1, by omega⟩
    obtain ⟨hst, hu1, hv1, hn0, hX⟩ := cond_tt (show cond (Nat.ble (stS st) 8) (u + 1 ≤ KC ∧ v + 6 ≤ KS ∧ ow_n0 ≤ mN σ ∧ ∀ n, X a (nX σ n)) False from h)
    have hst := Nat.le_of_ble_eq_true hst
    simp only [Bool.and_eq_true, decide_eq_true_eq] at hdec
    obtain ⟨⟨⟨⟨d0, d3⟩, d4⟩, d7⟩, d10⟩ := hdec
    intro hu hv H lsM locs hR hL hf T hT Xs
    obtain ⟨hx', hbb, hml, hown, hts, hKF, hlocks⟩ := C
    rw [hmm] at hown
    rw [Bool.and_eq_true] at hfit
    have hKS := hKF.2.2.2.2.2.2.1
    have hKX := hKF.2.2.2.2.2.2.2
    have hkp : ∀ a : Nat, a < (wH w).size → ¬ fre w a → s.heap[a]? = (wH w)[a]? := fun a _ ha => hheap a (Nat.not_le.mp ha)
    have hgr : s.heap.size ≤ H.size := by rw [← hT]; exact Xs.heapGrown
    have hS : va_S (fre w) s.heap H locs := ⟨hgr, fun q h1 h2 => by rw [hR.2.1 q (Nat.not_le.mp h2), hheap q (Nat.not_le.mp h2)], hf⟩
    refine vx_throwS (rest := st.map (cv w)) (names := ow_nms) (A := fre w) (sa := wS w tag) (text := ow_tx tag) hx' hbb hKX.1 hown hfit.1 (fun n hn => List.all_eq_true.mp hfit.2 n hn) (hts _ hlk) (hts _ hini) (hKS.2.2.2.2.2 (10, is, tag) hs) (th_words hts hKX hE hat) (fun z hz => List.all_eq_true.mp hgd z hz)
      (hKS.2.2.2.1.kept hkp) (hKS.2.2.2.2.1.kept hkp) hS (by rw [hml]; exact hL.1) d0 d3 d4 d7 d10 (fun x hx => (hout x hx).elim) (by show 2 + 3 < d + 5 + 1; omega) (by rw [stS_cat]; show stS st + (13 * (2 + 1) + 43) ≤ 40 * (d + 5 + 1); omega) hu1 hv1 hlocks ?_ hf hu1 hv1 T hT Xs
    intro t _ hsz hold
    refine ⟨a, nX σ (t.heap.size - H.size), hE, rfl, hR.growX (by omega) hold, hX _⟩
  case ldc_w i0 =>
    obtain ⟨cc', rfl⟩ : ∃ z, cc = z + 1 := ⟨cc - 1, by have := Nat.le_of_ble_eq_true hl; omega⟩
    exact h.elim
  case invokespecial i0 =>
    have : cc = 8 := Nat.eq_of_beq_eq_true hl
    subst this
    exact h.elim
  case athrow => exact h.elim
  all_goals cases hl
end THR

/-! the four that throw -/
theorem th_kl0 : Cond.classLink "OwnedClouds" 291 (ow_ex 0) ∈ ow_T := ow_t 465 (by decide +kernel) rfl
theorem th_kl1 : Cond.classLink "OwnedClouds" 296 (ow_ex 1) ∈ ow_T := ow_t 776 (by decide +kernel) rfl
theorem th_kl2 : Cond.classLink "OwnedClouds" 231 (ow_ex 2) ∈ ow_T := ow_t 818 (by decide +kernel) rfl
theorem th_in0 : Cond.initialized (ow_ex 0) ∈ ow_T := ow_t 16 (by decide +kernel) rfl
theorem th_in1 : Cond.initialized (ow_ex 1) ∈ ow_T := ow_t 22 (by decide +kernel) rfl
theorem th_in2 : Cond.initialized (ow_ex 2) ∈ ow_T := ow_t 23 (by decide +kernel) rfl
theorem sp_need {w : Wd} {d : Nat} {P : Option AV → Mem → Prop} {X : Nat → Mem → Prop} {KC KS : Nat} : SpOK w true (d + 5) m_OC_need k_OC_need P X KC KS := sp_throwW 0 4 291 293 1 295 (by decide) rfl (by decide) th_kl0 th_in0 (by decide +kernel) (by decide +kernel) (by decide +kernel) (by decide +kernel) (by decide +kernel)
theorem sp_needField {w : Wd} {d : Nat} {P : Option AV → Mem → Prop} {X : Nat → Mem → Prop} {KC KS : Nat} : SpOK w true (d + 5) m_OC_needField k_OC_needField P X KC KS := sp_throwW 2 18 231 301 11 235 (by decide) rfl (by decide) th_kl2 th_in2 (by decide +kernel) (by decide +kernel) (by decide +kernel) (by decide +kernel) (by decide +kernel)
theorem sp_gets {w : Wd} {d : Nat} {P : Option AV → Mem → Prop} {X : Nat → Mem → Prop} {KC KS : Nat} : SpOK w true (d + 5) m_OC_gets k_OC_gets P X KC KS := sp_throwS 2 18 231 233 9 235 (by decide) rfl (by decide) th_kl2 th_in2 (by decide +kernel) (by decide +kernel) (by decide +kernel) (by decide +kernel) (by decide +kernel)
