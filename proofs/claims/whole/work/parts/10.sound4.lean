/-! SOUNDNESS, fourth part: arrays of arrays, arrays of references (constructors alone) -/
theorem arrV_congr {cI : ClassId} {N : Nat} {f g : Nat → Value} (h : ∀ j, j < N → f j = g j) : arrV cI N f = arrV cI N g := by
  unfold arrV
  congr 1
  exact Array.ext (by simp) (fun j h1 h2 => by simp; exact h j (by simpa using h1))
theorem ow_outer (c : ClassId) (N h0 : Nat) : ∀ i : Nat, Jvm.Free.Multi.outerC c N h0 i = arrV c N (fun j => if j < i then .ref (h0 + 1 + j) else .null)
  | 0 => by
    show ({ cls := c, slots := Array.replicate N .null, vm := .none } : Cell) = _
    rw [arrV_new]
    exact arrV_congr fun j _ => by simp
  | i + 1 => by
    show (Jvm.Free.Multi.outerC c N h0 i).setSlot i (.ref (h0 + 1 + i)) = _
    rw [ow_outer c N h0 i, arrV_store]
    refine arrV_congr fun j _ => ?_
    unfold updV
    by_cases e : j = i
    · simp [e]
    · simp only [e, if_false]
      by_cases h : j < i
      · rw [if_pos h, if_pos (by omega)]
      · rw [if_neg h, if_neg (by omega)]
theorem rowsB_at {q kd k : Nat} : ∀ {n : Nat}, rowsB q kd k n = true → ∀ j, j < n → kS (q + 1 + j) = kd ∧ lS (q + 1 + j) = k
  | n + 1, h, j, hj => by
    simp only [rowsB, Bool.and_eq_true] at h
    by_cases e : j = n
    · subst e; exact ⟨Nat.eq_of_beq_eq_true h.1.1, Nat.eq_of_beq_eq_true h.1.2⟩
    · exact rowsB_at h.2 j (by omega)
section SND4
variable {w : Wd} {b : Bool} {p : Program} {l : Launch} {e : Env} {R : Room} {s : State} {m : MethodId} {args : Array Value} {below : List Frame} {meth : Method} {c : Code} {Q : State → Prop} {own nL KC KS : Nat} {bytes : ByteArray}
variable {pc u v : Nat} {ls st : List AV} {σ : Mem}
theorem s_multi (C : Cx w p s m args meth c own bytes nL) {ty : FieldType} {i kd0 kd1 t0 t1 : Nat} {k n : Int32} (hty : (ty = .int ∧ kd0 = 15 ∧ kd1 = 12 ∧ t0 = 3 ∧ t1 = 0) ∨ (ty = .boolean ∧ kd0 = 16 ∧ kd1 = 13 ∧ t0 = 4 ∧ t1 = 1)) (hclink : (Cond.classLink (ow_on own) i ("[" ++ (FieldType.array ty).toString)).before args s = true) (hover : ow_AO ty s) (harr : (Cond.arrayClass ty).before args s = true)
    (hn : ¬ n < 0) (hk : ¬ k < 0) (hN : n.toNatClampNeg = lS (mN σ)) (hn0 : mN σ + lS (mN σ) < ow_n0) (hkd : kS (mN σ) = kd0) (hrow : rowsB (mN σ) kd1 k.toNatClampNeg (lS (mN σ)) = true) (hk1 : k.toNatClampNeg ≤ 1000) (hl1 : lS (mN σ) ≤ 1000) (hRc : R.cells = KC) (hRs : R.slots = KS) (hu1 : u + (1 + lS (mN σ)) ≤ KC) (hv1 : v + (lS (mN σ) + lS (mN σ) * k.toNatClampNeg) ≤ KS)
    (hd : decode bytes pc = .ok (.multianewarray i 2, 4)) (kk : AtM w false p l e R s m args below meth c Q nL KC KS (pc + 4) ls (.ref (mN σ) :: st) (nS σ (1 + lS (mN σ))) (u + 1 + lS (mN σ)) (v + lS (mN σ) + lS (mN σ) * k.toNatClampNeg)) : AtM w false p l e R s m args below meth c Q nL KC KS pc ls (.int k :: .int n :: st) σ u v := by
  intro hu hv H lsM locs hR hLR hf T hT Xs
  obtain ⟨hx', hb, hml, hfo, hts, hKF, -⟩ := C
  have hdv : defaultValue ty = .int 0 := by rcases hty with ⟨h, -⟩ | ⟨h, -⟩ <;> rw [h] <;> rfl
  obtain ⟨vm₁, cA, comp, -, fA, fC, -, -, X', step⟩ := Xs.multianewarray2F hx' hfo hclink hover harr (g := F0 m pc lsM (.int k :: .int n :: st.map (cv w))) rfl (by rw [hb]; exact hd) rfl hn hk (by omega) (by rcases hty with ⟨h, -⟩ | ⟨h, -⟩ <;> rw [h] <;> simp [componentBytes] <;> omega) (by omega) (by rcases hty with ⟨h, -⟩ | ⟨h, -⟩ <;> rw [h] <;> rfl) (by rw [hdv]; rfl) (by rw [hRc, hN]; exact hu1) (by rw [hRs, hN]; exact hv1)
  rw [hN, hdv] at X' step
  generalize hF : Jvm.Free.Multi.fill (T.setVm vm₁) cA comp (lS (mN σ)) k.toNatClampNeg (.int 0) (lS (mN σ)) = F at X' step
  have hTh : (T.setVm vm₁).heap = H := hT
  obtain ⟨f1, f2, -, -⟩ := Jvm.Free.Multi.fill_facts (T.setVm vm₁) cA comp (lS (mN σ)) k.toNatClampNeg (.int 0) (lS (mN σ))
  rw [hF, hTh] at f1 f2
  have hold : ∀ x : Nat, x < H.size → F.heap[x]? = H[x]? := fun x hx => by
    have := Jvm.Free.Multi.fill_old (T.setVm vm₁) cA comp (lS (mN σ)) k.toNatClampNeg (.int 0) (a := x) (by rw [hTh]; exact hx) (lS (mN σ))
    rw [hF, hTh] at this
    exact this
  have hinn : ∀ j : Nat, j < lS (mN σ) → F.heap[H.size + 1 + j]? = some (arrV comp k.toNatClampNeg (fun _ => .int 0)) := fun j hj => by
    have := Jvm.Free.Multi.fill_inner (T.setVm vm₁) cA comp (lS (mN σ)) k.toNatClampNeg (.int 0) (lS (mN σ)) j hj
    rw [hF, hTh] at this
    rw [← arrV_new]; exact this
  have hcA : cA = wA w t0 := by
    rcases hty with ⟨h, -, -, h3, -⟩ | ⟨h, -, -, h3, -⟩
    · subst h; subst h3; exact Option.some.inj (fA.symm.trans (hKF.1.2 3 _ rfl).2)
    · subst h; subst h3; exact Option.some.inj (fA.symm.trans (hKF.1.2 4 _ rfl).2)
  have hcI : comp = wA w t1 := by
    rcases hty with ⟨h, -, -, -, h3⟩ | ⟨h, -, -, -, h3⟩
    · subst h; subst h3; exact Option.some.inj (fC.symm.trans (hKF.1.2 0 _ rfl).2)
    · subst h; subst h3; exact Option.some.inj (fC.symm.trans (hKF.1.2 1 _ rfl).2)
  have hbl : ∀ a, a < ow_n0 → ∀ τ : Mem, aLen τ a = lS a := fun a ha τ => by unfold aLen; rw [show Nat.blt a ow_n0 = true by simp [Nat.blt]; omega]; rfl
  have hR' : RelH w false (nS σ (1 + lS (mN σ))) F.heap := by
    refine hR.grow (n := 1 + lS (mN σ)) (by rw [f1]; omega) hold rfl (fun _ _ => rfl) (fun a ha j => rI_nS ha j) (fun a ha j => rL_nS ha j) rfl (fun _ => by show mN σ + (1 + lS (mN σ)) ≤ ow_n0; omega) fun a h1 h2 => ?_
    by_cases ha : a = mN σ
    · subst ha
      have hc : F.heap[wN w + mN σ]? = some (arrV (wA w t0) (aLen (nS σ (1 + lS (mN σ))) (mN σ)) (fun j => .ref (wN w + (mN σ + 1 + j)))) := by
        rw [← hR.1, f2, ow_outer, hbl _ (by omega), hcA]
        exact congrArg some (arrV_congr fun j hj => by
          show (if j < lS (mN σ) then Value.ref (H.size + 1 + j) else Value.null) = Value.ref (wN w + (mN σ + 1 + j))
          have e9 : H.size + 1 + j = wN w + (mN σ + 1 + j) := by rw [hR.1]; omega
          rw [if_pos hj, e9])
      rcases hty with ⟨-, h1, -, h3, -⟩ | ⟨-, h1, -, h3, -⟩
      · subst h3; exact cOK_15 (by rw [kind_s (by omega), hkd, h1]) hc
      · subst h3; exact cOK_16 (by rw [kind_s (by omega), hkd, h1]) hc
    · obtain ⟨j, rfl⟩ : ∃ j, a = mN σ + 1 + j := ⟨a - mN σ - 1, by omega⟩
      obtain ⟨r1, r2⟩ := rowsB_at hrow j (by omega)
      have hc : F.heap[wN w + (mN σ + 1 + j)]? = some (arrV (wA w t1) (aLen (nS σ (1 + lS (mN σ))) (mN σ + 1 + j)) (fun j' => .int (rI (nS σ (1 + lS (mN σ))) (mN σ + 1 + j) j'))) := by
        rw [hbl _ (by omega), r2, ← hcI, show wN w + (mN σ + 1 + j) = H.size + 1 + j by rw [hR.1]; omega, hinn j (by omega)]
        exact congrArg some (arrV_congr fun j' _ => by rw [rI_nS0 (by omega)])
      rcases hty with ⟨-, -, h2, -, h3⟩ | ⟨-, -, h2, -, h3⟩
      · subst h3; exact cOK_12 (by rw [kind_s (by omega), r1, h2]) hc
      · subst h3; exact cOK_13 (by rw [kind_s (by omega), r1, h2]) hc
  have hs : T.heap.size = wN w + mN σ := by rw [hT]; exact hR.1
  rw [hs] at step
  obtain ⟨t, a1, b1⟩ := kk (by omega) (by omega) F.heap lsM locs hR' hLR hf F rfl X'
  exact ⟨t, step t a1, b1⟩
theorem s_anew (C : Cx w p s m args meth c own bytes nL) {i : Nat} {x : Int32} (hlk : (i, 0) ∈ ow_h own) (hown : own < 14) (h0 : ¬ x < 0) (hx : x.toNatClampNeg = lS (mN σ)) (hn0 : mN σ < ow_n0) (hk : kS (mN σ) = 17) (hL : lS (mN σ) ≤ 1000) (hRc : R.cells = KC) (hRs : R.slots = KS) (hu1 : u + 1 ≤ KC) (hv1 : v + lS (mN σ) ≤ KS)
    (hd : decode bytes pc = .ok (.anewarray i, 3)) (kk : AtM w false p l e R s m args below meth c Q nL KC KS (pc + 3) ls (.ref (mN σ) :: st) (nS σ 1) (u + 1) (v + lS (mN σ))) : AtM w false p l e R s m args below meth c Q nL KC KS pc ls (.int x :: st) σ u v := by
  intro hu hv H lsM locs hR hLR hf
  obtain ⟨hx', hb, hml, hfo, hts, hKF, -⟩ := C
  refine W.anew hx' hb hfo (hts _ (ow_kl own hown _ hlk)) (va_AO.use hKF.2.2.2.2.2.1) rfl hd rfl h0 (by rw [hx]; omega) (by rw [hRc]; exact hu1) (by rw [hRs, hx]; exact hv1) fun cA kA comp h1 h2 h3 h4 => ?_
  rw [hx]
  have hcA : cA = wA w 5 := by
    obtain ⟨kA', comp', g1, g2, g3, g4⟩ := (hKF.1.2 5 _ rfl).2
    exact Option.some.inj (h1.symm.trans g4)
  have hs : H.size = wN w + mN σ := hR.1
  rw [hs]
  refine kk hu1 hv1 _ lsM locs (hR.grow (n := 1) (by simp) (fun z hz => by rw [Array.getElem?_push, if_neg (by omega)]) rfl (fun _ _ => rfl) (fun a ha j => rI_nS ha j) (fun a ha j => rL_nS ha j) rfl (fun _ => hn0) fun a h1 h2 => ?_) hLR hf
  have ha : a = mN σ := by omega
  subst ha
  refine cOK_17 (by rw [kind_s hn0]; exact hk) ?_
  have hl : aLen (nS σ 1) (mN σ) = lS (mN σ) := by unfold aLen; rw [show Nat.blt (mN σ) ow_n0 = true by simp [Nat.blt]; omega]; rfl
  rw [hl, Array.getElem?_push, if_pos (by omega), arrV_new, hcA]
  refine congrArg some (arrV_congr fun j _ => ?_)
  have hasd : asd false (nS σ 1) (mN σ) j = false := memb_lt hR.2.2.2.1 (Nat.le_refl _)
  rw [hasd]; rfl
theorem s_aast (C : Cx w p s m args meth c own bytes nL) {q x : Nat} {i : Int32} (h : aOK false σ q 17 i) (ho : oOK false σ x 0 = true) (hx : rS q i.toNatClampNeg = x + 1) (hd : decode bytes pc = .ok (.aastore, 1)) (kk : AtM w false p l e R s m args below meth c Q nL KC KS (pc + 1) ls st (sA σ q i.toNatClampNeg) u v) : AtM w false p l e R s m args below meth c Q nL KC KS pc ls (.ref x :: .int i :: .ref q :: st) σ u v := by
  intro hu hv H lsM locs hR hLR hf
  obtain ⟨h1, h2, h3⟩ := h
  have hlt := lv_lt' hR h1
  have hc := (hR.2.2.2.2.2 q hlt).2.2.2.2.2.2 h2
  obtain ⟨cellV, g1, g2, g3, -⟩ := s_cell hR ho (by omega)
  have hcls := (C.2.2.2.2.2.1.1.1 0 _ (ow_clk 0 (by omega))).2
  obtain ⟨kA, comp, k1, k2, k3, -⟩ := (C.2.2.2.2.2.1.1.2 5 _ rfl).2
  have hcomp : comp = (wG w).1 0 := Option.some.inj (k3.symm.trans hcls.1)
  subst hcomp
  obtain ⟨kC, hkC, -⟩ := hcls.2
  refine W.aast C.1 C.2.1 hc (fun q h => by cases h) (fun h => by cases h) k1 k2 rfl hkC ⟨fun z => h3 (Or.inl z), by show _ < (arrV _ _ _).slots.size; rw [arrV_size]; exact vp_lt h3⟩ g1 (fun q h => by rw [g3] at h; cases h) (by rw [g2]; exact hkC) (by rw [g2]; exact va_assign hcls) rfl rfl hd fun H1 e z oq => ?_
  refine kk hu hv H1 lsM _ (hR.upd hlt z oq rfl (fun _ => rfl) (fun _ _ _ => rfl) (fun _ _ _ => rfl) (fun a ha j => ?_) ?_ (cOK_17 h2 ?_)) hLR (locs_app hf (Nat.le_add_right _ _))
  · rw [asd_sA]
    have : ¬ (q = a ∧ i.toNatClampNeg = j) := fun h => ha h.1.symm
    simp [this]
  · intro y hy
    rcases List.mem_cons.mp hy with h | h
    · rw [h]; exact hlt
    · exact hR.2.2.2.1 y h
  · rw [e, arrV_store]
    refine congrArg some (arrV_congr fun j _ => ?_)
    rw [asd_sA]
    unfold updV
    by_cases hj : j = i.toNatClampNeg
    · subst hj; simp [hx, rV, cv]
    · have : ¬ (i.toNatClampNeg = j) := fun h => hj h.symm
      simp [hj, this]
end SND4
