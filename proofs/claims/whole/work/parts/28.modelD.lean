/-! THE MODEL'S bid, order, gauge -/
/-- the first k places of a row are written -/
def wRow (σ : Mem) (a : Nat) (r : Nat → Nat) : Nat → Mem
  | 0 => σ
  | k + 1 => wI (wRow σ a r k) a k (nI (r k))
theorem rI_wRow (σ : Mem) (a : Nat) (r : Nat → Nat) (b j : Nat) : ∀ k, rI (wRow σ a r k) b j = if b = a ∧ j < k then nI (r j) else rI σ b j
  | 0 => by simp [wRow]
  | k + 1 => by
    rw [wRow, rI_wI, rI_wRow σ a r b j k]
    by_cases h : b = a
    · by_cases h2 : j = k
      · subst h2; simp [h]
      · rw [if_neg (fun z => h2 z.2)]
        by_cases h3 : j < k
        · rw [if_pos ⟨h, h3⟩, if_pos ⟨h, by omega⟩]
        · rw [if_neg (fun z => h3 z.2), if_neg (by omega)]
    · rw [if_neg (fun z => h z.1), if_neg (fun z => h z.1), if_neg (fun z => h z.1)]
theorem wRow_2 (σ : Mem) (a : Nat) (r : Nat → Nat) : ∀ k, (wRow σ a r k).2 = σ.2
  | 0 => rfl
  | k + 1 => wRow_2 σ a r k
theorem frM.wRow {σ σ' : Mem} {a : Nat} {r : Nat → Nat} (h : frM σ σ') (ha : 108 ≤ a) : ∀ k, frM σ (wRow σ' a r k)
  | 0 => h
  | k + 1 => (frM.wRow h ha k).wI ha
theorem rwR.pushW {σ : Mem} {f a wd : Nat} {t : Tb} {r : Nat → Nat} (h : rwR σ f a wd t) (ha : 108 ≤ a) : rwR (wI (wRow σ (a + 1 + t.1) r wd) 108 f (nI (t.1 + 1))) f a wd (addR t r) := by
  refine h.push ?_ (fun i hi => ?_) (fun k i hk => ?_)
  · rw [rI_wI, if_pos ⟨rfl, rfl⟩]
  · rw [rI_wI, if_neg (by omega), rI_wRow, if_pos ⟨rfl, hi⟩]
  · rw [rI_wI, if_neg (by omega), rI_wRow, if_neg (by omega)]
theorem IM.pB {A : St} {σ : Mem} (r : Nat → Nat) (h : IM A σ) (hv : VA A) (hf : (aBk A).2.1.1 < 8) : IM (sBk A ((aBk A).1, addR (aBk A).2.1 r, (aBk A).2.2)) (wI (wRow σ (215 + 1 + (aBk A).2.1.1) r 3) 108 20 (nI ((aBk A).2.1.1 + 1))) := by
  have hb := h.bk
  have h1 := hv.2.2.2.1.1
  have h2 := hv.2.2.2.1.2.2.1
  have hN : mN σ ≤ mN (wI (wRow σ (215 + 1 + (aBk A).2.1.1) r 3) 108 20 (nI ((aBk A).2.1.1 + 1))) := Nat.le_of_eq (congrArg (fun z => z.2.2.1) (wRow_2 σ (215 + 1 + (aBk A).2.1.1) r 3)).symm
  refine h.setBk hv (fun a j t t1 t2 => ?_) hN ⟨hb.1.frame ?_ (fun k i hk => ?_), hb.2.1.pushW (by omega), hb.2.2.frame ?_ (fun k i hk => ?_)⟩
  all_goals rw [rI_wI, if_neg (by omega), rI_wRow, if_neg (by omega)]
theorem IM.pO {A : St} {σ : Mem} (r : Nat → Nat) (h : IM A σ) (hv : VA A) (hf : (aBk A).1.1 < 30) : IM (sBk A (addR (aBk A).1 r, (aBk A).2)) (wI (wRow σ (184 + 1 + (aBk A).1.1) r 4) 108 19 (nI ((aBk A).1.1 + 1))) := by
  have hb := h.bk
  have h1 := hv.2.2.2.1.2.1
  have h2 := hv.2.2.2.1.2.2.1
  have hN : mN σ ≤ mN (wI (wRow σ (184 + 1 + (aBk A).1.1) r 4) 108 19 (nI ((aBk A).1.1 + 1))) := Nat.le_of_eq (congrArg (fun z => z.2.2.1) (wRow_2 σ (184 + 1 + (aBk A).1.1) r 4)).symm
  refine h.setBk hv (fun a j t t1 t2 => ?_) hN ⟨hb.1.pushW (by omega), hb.2.1.frame ?_ (fun k i hk => ?_), hb.2.2.frame ?_ (fun k i hk => ?_)⟩
  all_goals rw [rI_wI, if_neg (by omega), rI_wRow, if_neg (by omega)]
theorem IM.pG {A : St} {σ : Mem} (r : Nat → Nat) (h : IM A σ) (hv : VA A) (hf : (aBk A).2.2.1 < 9) : IM (sBk A ((aBk A).1, (aBk A).2.1, addR (aBk A).2.2 r)) (wI (wRow σ (224 + 1 + (aBk A).2.2.1) r 3) 108 21 (nI ((aBk A).2.2.1 + 1))) := by
  have hb := h.bk
  have h1 := hv.2.2.2.1.1
  have h2 := hv.2.2.2.1.2.1
  have hN : mN σ ≤ mN (wI (wRow σ (224 + 1 + (aBk A).2.2.1) r 3) 108 21 (nI ((aBk A).2.2.1 + 1))) := Nat.le_of_eq (congrArg (fun z => z.2.2.1) (wRow_2 σ (224 + 1 + (aBk A).2.2.1) r 3)).symm
  refine h.setBk hv (fun a j t t1 t2 => ?_) hN ⟨hb.1.frame ?_ (fun k i hk => ?_), hb.2.1.frame ?_ (fun k i hk => ?_), hb.2.2.pushW (by omega)⟩
  all_goals rw [rI_wI, if_neg (by omega), rI_wRow, if_neg (by omega)]
section MDD
variable {w : Wd} {d : Nat} {A : St} {v : AV}
theorem okB_in1 {f : Int32} (h : ¬ f < nI 0 ∧ ¬ nI 7 ≤ f) : ¬ f < nI 0 ∧ ¬ nI 6 < f := by
  rcases rng f (n := 7) (by omega) with ⟨j, hj, rfl⟩ | q
  · exact ⟨h.1, nI_nlt (by omega) (by omega)⟩
  · exact absurd q (fun z => z.elim h.1 h.2)
theorem okB_in2 {f : Int32} (h : ¬ f < nI 0 ∧ ¬ nI 6 < f) : ¬ f < nI 0 ∧ ¬ nI 7 ≤ f := ⟨h.1, fun q => in_bad' (n := 6) (by omega) (Or.inr q) h⟩
theorem MC_bid_bad {f m p : Int32} (hv : VA A) (hx : ¬ okB3 f m p) : MC w (d + 3) 0 0 m_Mo_bid [.int f, .int m, .int p] A 1 v A := by
  intro σ P X hI hP
  have hI' : IM A (wI σ 108 0 (nI 0)) := hI.thr hv
  have fin := hP _ (nI 0) (((frM.rfl σ).wI (a := 108) (k := 0) (x := nI 0) (by omega)).wI (a := 108) (k := 0) (x := nI 1) (by omega)) (hI'.thr hv) rfl (fun q => by omega)
  refine meth_ok k_Mo_bid q_Mo_bid rfl fun At hAt => hAt 150 _ _ _ _ _ _ ?_
  refine s_in ?_
  refine And.intro (fun _ => s_bad1 (by decide) rfl (by omega) (by omega) (And.intro (fun q => absurd q (by decide)) (fun _ => fin))) (fun q0 => ?_)
  refine s_in ?_
  refine And.intro (fun _ => s_bad1 (by decide) rfl (by omega) (by omega) (And.intro (fun q => absurd q (by decide)) (fun _ => fin))) (fun q1 => ?_)
  refine s_in ?_
  refine And.intro (fun q2 => ?_) (fun _ => s_bad1 (by decide) rfl (by omega) (by omega) (And.intro (fun q => absurd q (by decide)) (fun _ => fin)))
  have z0 := okB_in2 (of_decide_eq_true (bI_ne q0))
  have z1 := of_decide_eq_true (bI_ne q1)
  have z2 := of_decide_eq_true (bI_ne q2)
  exact absurd ⟨z0.1, z0.2, z1.1, z1.2, z2.1, z2.2⟩ hx
theorem MC_bid_full {f m p : Int32} (hv : VA A) (hx : okB3 f m p) (hf : ¬ (aBk A).2.1.1 < 8) : MC w (d + 3) 0 0 m_Mo_bid [.int f, .int m, .int p] A 0 (.int (-1)) A := by
  intro σ P X hI hP
  have hI' : IM A (wI σ 108 0 (nI 0)) := hI.thr hv
  have hc := hv.2.2.2.1.2.1
  refine meth_ok k_Mo_bid q_Mo_bid rfl fun At hAt => hAt 150 _ _ _ _ _ _ ?_
  refine s_in ?_
  rw [decide_eq_true (okB_in1 ⟨hx.1, hx.2.1⟩)]
  refine And.intro (fun q => absurd q (by decide)) (fun _ => s_in ?_)
  rw [decide_eq_true ⟨hx.2.2.1, hx.2.2.2.1⟩]
  refine And.intro (fun q => absurd q (by decide)) (fun _ => s_in ?_)
  rw [decide_eq_true ⟨hx.2.2.2.2.1, hx.2.2.2.2.2⟩]
  refine And.intro (fun _ => ?_) (fun q => absurd q (by decide))
  refine s_bad0 rfl rfl ?_
  refine And.intro (fun _ => ?_) (fun q => absurd rfl q)
  refine And.intro (fun q => absurd (show rI (wI σ 108 0 (nI 0)) 108 20 = nI 8 by rw [hI'.bk.2.1.1, show (aBk A).2.1.1 = 8 by omega]) q) (fun _ => ?_)
  exact hP _ _ ((frM.rfl σ).wI (by omega)) hI' rfl (fun _ => rfl)
theorem MC_bid_ok {f m p : Nat} (hv : VA A) (hx : okB3 (nI f) (nI m) (nI p)) (hf : (aBk A).2.1.1 < 8) : MC w (d + 3) 0 0 m_Mo_bid [.int (nI f), .int (nI m), .int (nI p)] A 0 (.int (nI ((aBk A).2.1.1 + 1)))
    (sBk A ((aBk A).1, addR (aBk A).2.1 (fun i => if i = 0 then f else if i = 1 then m else p), (aBk A).2.2)) := by
  intro σ P X hI hP
  have hI' : IM A (wI σ 108 0 (nI 0)) := hI.thr hv
  have hb := hI'.bk
  have hc := hv.2.2.2.1.2.1
  have en := hb.2.1.1
  have fin : P (some (.int (rI (wI (wRow (wI σ 108 0 (nI 0)) (215 + 1 + (aBk A).2.1.1) (fun i => if i = 0 then f else if i = 1 then m else p) 3) 108 20 (rI (wRow (wI σ 108 0 (nI 0)) (215 + 1 + (aBk A).2.1.1) (fun i => if i = 0 then f else if i = 1 then m else p) 3) 108 20 + nI 1)) 108 20))) (wI (wRow (wI σ 108 0 (nI 0)) (215 + 1 + (aBk A).2.1.1) (fun i => if i = 0 then f else if i = 1 then m else p) 3) 108 20 (rI (wRow (wI σ 108 0 (nI 0)) (215 + 1 + (aBk A).2.1.1) (fun i => if i = 0 then f else if i = 1 then m else p) 3) 108 20 + nI 1)) := by
    have e : rI (wRow (wI σ 108 0 (nI 0)) (215 + 1 + (aBk A).2.1.1) (fun i => if i = 0 then f else if i = 1 then m else p) 3) 108 20 = nI (aBk A).2.1.1 := by rw [rI_wRow, if_neg (by omega)]; exact en
    rw [e, nI_add]
    refine hP _ _ ((((frM.rfl σ).wI (by omega)).wRow (by omega) 3).wI (by omega)) (hI'.pB _ hv hf) ?_ (fun _ => congrArg Value.int (by rw [rI_wI, if_pos ⟨rfl, rfl⟩]))
    rw [rI_wI, if_neg (by omega), rI_wRow, if_neg (by omega)]; rfl
  refine meth_ok k_Mo_bid q_Mo_bid rfl fun At hAt => hAt 150 _ _ _ _ _ _ ?_
  refine s_in ?_
  rw [decide_eq_true (okB_in1 ⟨hx.1, hx.2.1⟩)]
  refine And.intro (fun q => absurd q (by decide)) (fun _ => s_in ?_)
  rw [decide_eq_true ⟨hx.2.2.1, hx.2.2.2.1⟩]
  refine And.intro (fun q => absurd q (by decide)) (fun _ => s_in ?_)
  rw [decide_eq_true ⟨hx.2.2.2.2.1, hx.2.2.2.2.2⟩]
  refine And.intro (fun _ => ?_) (fun q => absurd q (by decide))
  refine s_bad0 rfl rfl ?_
  refine And.intro (fun _ => ?_) (fun q => absurd rfl q)
  refine And.intro (fun _ => ?_) (fun q => absurd (show rI (wI σ 108 0 (nI 0)) 108 20 = nI 8 from q) (by rw [en]; exact nI_ne (by omega) (by omega) (by omega)))
  refine And.intro (mx_r (q := 215) (n := 8) (k := 3) rfl en hf) (And.intro (Or.inl rfl) ?_)
  rw [en, nI_cl (by omega)]
  refine And.intro (mx_e (q := 215) (n := 8) (k := 3) rfl hf (by omega) rfl) ?_
  have e1 : rI (wI (wI σ 108 0 (nI 0)) (215 + 1 + (aBk A).2.1.1) (nI 0).toNatClampNeg (nI f)) 108 20 = nI (aBk A).2.1.1 := by rw [rI_wI, if_neg (by omega)]; exact en
  refine And.intro (mx_r (q := 215) (n := 8) (k := 3) rfl e1 hf) (And.intro (Or.inl rfl) ?_)
  rw [e1, nI_cl (by omega)]
  refine And.intro (mx_e (q := 215) (n := 8) (k := 3) (i := 1) rfl hf (by omega) rfl) ?_
  have e2 : rI (wI (wI (wI σ 108 0 (nI 0)) (215 + 1 + (aBk A).2.1.1) (nI 0).toNatClampNeg (nI f)) (215 + 1 + (aBk A).2.1.1) (nI 1).toNatClampNeg (nI m)) 108 20 = nI (aBk A).2.1.1 := by rw [rI_wI, if_neg (by omega)]; exact e1
  refine And.intro (mx_r (q := 215) (n := 8) (k := 3) rfl e2 hf) (And.intro (Or.inl rfl) ?_)
  rw [e2, nI_cl (by omega)]
  refine And.intro (mx_e (q := 215) (n := 8) (k := 3) (i := 2) rfl hf (by omega) rfl) ?_
  exact fin
end MDD
