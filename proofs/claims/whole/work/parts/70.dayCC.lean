/-! DAY, CLOUD, PART, ACCOUNT, FARMER, AFTER on the component's side -/
def skyW (s : Sk) (D : Dy) : Nat → Nat
  | 0 => 0
  | k + 1 => skyW s D k + if gN D 0 k = 1 then rs D (8 + k) else 0
def dTot (s : Sk) (D : Dy) (w : Nat) : Int32 := if w = 0 then nI (skyW s D (kT s 2)) else if w = 1 then gD D 0 1 else if w = 2 then gD D 0 3 else if w = 3 then gD D 0 4 else if w = 4 then gD D 0 5 else if w = 5 then nI (sumN (fun g => rs D (16 + g)) (kT s 4)) else if w = 6 then gD D 0 2 else gD D 0 6
def dE (A : St) (seed : Int32) (h : Nat) : Dy := dRun (aSk A) (aBk A).1 seed (h + 1)
def dyA (A : St) (seed : Int32) (w : Nat) : Int32 := dTot (aSk A) (dE A seed 49) w
def clA (A : St) (seed : Int32) (k h w : Nat) : Int32 := if gN (dE A seed h) 0 k = 1 then (if w = 0 then nI (rs (dE A seed h) (8 + k)) else if w = 1 then nI (moR (dE A seed h) (8 + k)) else pth (aSk A) k h) else -1
def ptA (A : St) (seed : Int32) (k h o : Nat) : Int32 := if gN (dE A seed h) 0 k = 1 then nI (gN (dE A seed h) (8 + k) o) else nI 0
def acA (A : St) (seed : Int32) (o i : Nat) : Int32 := gD (dE A seed 49) (3 + i) o
def fmA (A : St) (seed : Int32) (f i : Nat) : Int32 := gD (dE A seed 49) (6 + i) f
def afA (A : St) (seed : Int32) (f i : Nat) : Int32 := if i = 0 then nI (gN (dE A seed 49) 3 f) else gD (dE A seed 49) i f
section DCT
variable {w : Wd} {d : Nat} {σ0 σ : Mem} {s : Sk} {P : Option AV → Mem → Prop} {X : Nat → Mem → Prop}
theorem s_inTheSky {D : Dy} {e : Nat} {hf : Nat → Nat} (hS0 : skC σ0 4 s) (hv : VS s) (hc : eC σ0 s e hf D σ) (pk : ∀ k, k < kT s 2 → gN D 0 k = 1 → ps s k (hf k) ≠ none) (hP : P (some (.int (nI (skyW s D (kT s 2))))) σ) : Ret w true (d + 3) 0 0 m_Day_inTheSky [.ref 59] σ P X := by
  have hn := hv.2.2.1
  have hS := hc.sk hS0
  refine meth_ok k_Day_inTheSky q_Day_inTheSky rfl fun At hAt => ?_
  have loop : ∀ k, k ≤ kT s 2 → At 4 [.ref 59, .int (nI (skyW s D k)), .int (nI k)] [] σ 0 0 := by
    refine upto fun k hk ih => ?_
    refine hAt 5 _ _ _ _ _ _ ?_
    refine s_Table_size (a := 8) (na := 9) (mo := 8) (wd := 7) rfl ?_
    refine Eq.mpr (congrArg (fun xq : Int32 => At 15 [.ref (59), .int (nI (skyW s D k)), .int (nI k)] [.int xq, .int (nI k)] σ 0 0) (show rI σ 8 3 = nI (kT s 2) from hS.2.2.1.1)) ?_
    refine hAt 1 _ _ _ _ _ _ ?_
    refine And.intro (fun hq => ?_) (fun hq => ?_)
    · have c15 : kT s 2 ≤ k := (leN (a := kT s 2) (b := k) rfl rfl (by omega) (by omega)).mp hq
      clear hq
      refine hAt 2 _ _ _ _ _ _ ?_
      have e : k = kT s 2 := by omega
      subst e
      exact hP
    · have c15 : k < kT s 2 := Nat.lt_of_not_le (fun zq => hq ((leN (a := kT s 2) (b := k) rfl rfl (by omega) (by omega)).mpr zq))
      clear hq
      refine hAt 4 _ _ _ _ _ _ ?_
      refine s_isThere hv hc (by omega) (pk k (by omega)) ?_
      refine And.intro (fun hq => ?_) (fun hq => ?_)
      · have c23 : ¬ (gN D 0 k = 1) := of_decide_eq_false (bI_eq hq)
        clear hq
        refine hAt 2 _ _ _ _ _ _ ?_
        refine Eq.mpr (congrArg (fun xq : Int32 => At 4 [.ref (59), .int (nI (skyW s D k)), .int xq] [] σ 0 0) (show nI k + nI 1 = nI (k + 1) from (adE rfl rfl))) ?_
        have q := ih c15
        rw [skyW, if_neg c23, Nat.add_zero] at q
        exact q
      · have c23 : gN D 0 k = 1 := of_decide_eq_true (bI_ne hq)
        clear hq
        refine hAt 9 _ _ _ _ _ _ ?_
        refine s_psum hc hn (by omega) c23 ?_
        refine Eq.mpr (congrArg (fun xq : Int32 => At 4 [.ref (59), .int xq, .int (nI k + nI 1)] [] σ 0 0) (show (nI (skyW s D k)) + (nI (rs D (8 + k))) = nI (skyW s D k + (rs D (8 + k))) from (adE rfl rfl))) ?_
        refine Eq.mpr (congrArg (fun xq : Int32 => At 4 [.ref (59), .int (nI (skyW s D k + (rs D (8 + k)))), .int xq] [] σ 0 0) (show nI k + nI 1 = nI (k + 1) from (adE rfl rfl))) ?_
        have q := ih c15
        rw [skyW, if_pos c23] at q
        exact q
  refine hAt 4 _ _ _ _ _ _ ?_
  exact loop 0 (by omega)
theorem s_keptBy {D : Dy} {e : Nat} {hf : Nat → Nat} (hS0 : skC σ0 4 s) (hv : VS s) (hc : eC σ0 s e hf D σ) (hP : P (some (.int (nI (sumN (fun g => rs D (16 + g)) (kT s 4))))) σ) : Ret w true (d + 3) 0 0 m_Ground_keptByGlaciers [.ref 60] σ P X := by
  have hG := hv.2.2.2.2.1
  have hS := hc.sk hS0
  refine meth_ok k_Ground_keptByGlaciers q_Ground_keptByGlaciers rfl fun At hAt => ?_
  have loop : ∀ g, g ≤ kT s 4 → At 4 [.ref 60, .int (nI (sumN (fun g => rs D (16 + g)) g)), .int (nI g)] [] σ 0 0 := by
    refine upto fun g hg ih => ?_
    refine hAt 5 _ _ _ _ _ _ ?_
    refine s_Table_size (a := 12) (na := 13) (mo := 3) (wd := 3) rfl ?_
    refine Eq.mpr (congrArg (fun xq : Int32 => At 15 [.ref (60), .int (nI (sumN (fun g => rs D (16 + g)) g)), .int (nI g)] [.int xq, .int (nI g)] σ 0 0) (show rI σ 12 3 = nI (kT s 4) from hS.p.2.2.2.2.1)) ?_
    refine hAt 1 _ _ _ _ _ _ ?_
    refine And.intro (fun hq => ?_) (fun hq => ?_)
    · have c15 : kT s 4 ≤ g := (leN (a := kT s 4) (b := g) rfl rfl (by omega) (by omega)).mp hq
      clear hq
      refine hAt 2 _ _ _ _ _ _ ?_
      have e : g = kT s 4 := by omega
      subst e
      exact hP
    · have c15 : g < kT s 4 := Nat.lt_of_not_le (fun zq => hq ((leN (a := kT s 4) (b := g) rfl rfl (by omega) (by omega)).mpr zq))
      clear hq
      refine hAt 9 _ _ _ _ _ _ ?_
      refine s_Table_sum (a := 63) (na := 64) (mo := 3) (wd := 8) rfl (by omega) ?_
      rw [sI_rs (g := gN D (16 + g)) 8 (fun o ho => hc.kep g o (by omega) ho)]
      refine Eq.mpr (congrArg (fun xq : Int32 => At 4 [.ref (60), .int xq, .int (nI g + nI 1)] [] σ 0 0) (show (nI (sumN (fun g => rs D (16 + g)) g)) + (nI (rs D (16 + g))) = nI ((sumN (fun g => rs D (16 + g)) g) + (rs D (16 + g))) from (adE rfl rfl))) ?_
      refine Eq.mpr (congrArg (fun xq : Int32 => At 4 [.ref (60), .int (nI ((sumN (fun g => rs D (16 + g)) g) + (rs D (16 + g)))), .int xq] [] σ 0 0) (show nI g + nI 1 = nI (g + 1) from (adE rfl rfl))) ?_
      exact ih c15
  refine hAt 4 _ _ _ _ _ _ ?_
  exact loop 0 (by omega)
theorem s_total {D : Dy} {e v : Nat} {hf : Nat → Nat} (hS0 : skC σ0 4 s) (hv : VS s) (hc : eC σ0 s e hf D σ) (pk : ∀ k, k < kT s 2 → gN D 0 k = 1 → ps s k (hf k) ≠ none) (hw : v < 8) (hP : P (some (.int (dTot s D v))) σ) : Ret w true (d + 4) 0 0 m_Day_total [.ref 59, .int (nI v)] σ P X := by
  refine meth_ok k_Day_total q_Day_total rfl fun At hAt => ?_
  refine hAt 2 _ _ _ _ _ _ ?_
  refine And.intro (And.intro (fun hq => ?_) (And.intro (fun hq => ?_) (And.intro (fun hq => ?_) (And.intro (fun hq => ?_) (And.intro (fun hq => ?_) (And.intro (fun hq => ?_) (And.intro (fun hq => ?_) (trivial)))))))) (fun hq => ?_)
  · have c1 : v = 0 := (eqN rfl rfl (by omega) (by omega)).mp hq
    clear hq
    refine hAt 3 _ _ _ _ _ _ ?_
    refine s_inTheSky hS0 hv hc pk ?_
    subst c1
    exact hP
  · have c1 : v = 1 := (eqN rfl rfl (by omega) (by omega)).mp hq
    clear hq
    refine hAt 2 _ _ _ _ _ _ ?_
    refine Eq.mpr (congrArg (fun xq : Int32 => At 53 [.ref (59), .int (nI v)] [.int xq] σ 0 0) (show rI σ 59 9 = gD D 0 1 from hc.gon)) ?_
    refine hAt 1 _ _ _ _ _ _ ?_
    subst c1
    exact hP
  · have c1 : v = 2 := (eqN rfl rfl (by omega) (by omega)).mp hq
    clear hq
    refine hAt 3 _ _ _ _ _ _ ?_
    refine Eq.mpr (congrArg (fun xq : Int32 => At 61 [.ref (59), .int (nI v)] [.int xq] σ 0 0) (show rI σ 60 6 = gD D 0 3 from hc.tak)) ?_
    refine hAt 1 _ _ _ _ _ _ ?_
    subst c1
    exact hP
  · have c1 : v = 3 := (eqN rfl rfl (by omega) (by omega)).mp hq
    clear hq
    refine hAt 3 _ _ _ _ _ _ ?_
    refine Eq.mpr (congrArg (fun xq : Int32 => At 69 [.ref (59), .int (nI v)] [.int xq] σ 0 0) (show rI σ 60 7 = gD D 0 4 from hc.fld)) ?_
    refine hAt 1 _ _ _ _ _ _ ?_
    subst c1
    exact hP
  · have c1 : v = 4 := (eqN rfl rfl (by omega) (by omega)).mp hq
    clear hq
    refine hAt 3 _ _ _ _ _ _ ?_
    refine Eq.mpr (congrArg (fun xq : Int32 => At 77 [.ref (59), .int (nI v)] [.int xq] σ 0 0) (show rI σ 60 8 = gD D 0 5 from hc.was)) ?_
    refine hAt 1 _ _ _ _ _ _ ?_
    subst c1
    exact hP
  · have c1 : v = 5 := (eqN rfl rfl (by omega) (by omega)).mp hq
    clear hq
    refine hAt 4 _ _ _ _ _ _ ?_
    refine s_keptBy hS0 hv hc ?_
    subst c1
    exact hP
  · have c1 : v = 6 := (eqN rfl rfl (by omega) (by omega)).mp hq
    clear hq
    refine hAt 2 _ _ _ _ _ _ ?_
    refine Eq.mpr (congrArg (fun xq : Int32 => At 90 [.ref (59), .int (nI v)] [.int xq] σ 0 0) (show rI σ 59 10 = gD D 0 2 from hc.joi)) ?_
    refine hAt 1 _ _ _ _ _ _ ?_
    subst c1
    exact hP
  · have c1 : v < 0 ∨ 7 ≤ v := hq.imp (fun z => (ltN rfl rfl (by omega) (by omega)).mp z) (fun z => (leN rfl rfl (by omega) (by omega)).mp z)
    clear hq
    refine hAt 3 _ _ _ _ _ _ ?_
    refine Eq.mpr (congrArg (fun xq : Int32 => At 98 [.ref (59), .int (nI v)] [.int xq] σ 0 0) (show rI σ 60 9 = gD D 0 6 from hc.hls)) ?_
    refine hAt 1 _ _ _ _ _ _ ?_
    have e : v = 7 := by omega
    subst e
    exact hP
end DCT
section DCA
variable {w : Wd} {d : Nat} {A : St} {v : AV}
theorem obA (hv : VA A) : obB (aSk A) (aBk A).1 := ⟨hv.2.2.2.1.1, fun i hi => by have := hv.2.2.2.1.2.2.2.1 i hi; exact ⟨this.1, this.2.1, this.2.2.1, this.2.2.2.1⟩⟩
theorem fC.ic {σ τ : Mem} (hI : IC A σ) (hv : VA A) (h : fC σ τ) : frC σ τ ∧ IC A τ := by
  have hN : mN τ = mN σ := congrArg (fun z => z.2.2.1) h.2
  exact ⟨⟨fun a h1 h2 i => h.1 a i (by omega), fun i => congrArg (fun z => z.1 367 i) h.2, by omega⟩, hI.scr (fun a i t => h.1 a i (by omega)) (by omega) hv.2.2.2.2.1⟩
theorem dE_pk (hv : VA A) {seed : Int32} {h k : Nat} (hk : k < kT (aSk A) 2) (ht : gN (dE A seed h) 0 k = 1) : ps (aSk A) k h ≠ none := by
  have := ((dRun_dv (seed := seed) hv.2.2.1 (fun i hi => ((obA hv).2 i hi).2.1) (h + 1)).1 k hk ht).1
  unfold pA at this
  rw [Nat.add_sub_cancel] at this; exact this.2
theorem CC_day_bad {seed x : Int32} (hx : x < nI 0 ∨ nI 8 ≤ x) : CC w (d + 8) m_OC_day [.int seed, .int x] A 1 v A := by
  intro σ P X hI _ hX
  refine meth_ok k_OC_day q_OC_day rfl fun At hAt => ?_
  refine hAt 2 _ _ _ _ _ _ ?_
  refine And.intro (fun hq => ?_) (fun hq => ?_)
  · have c1 : x < nI 0 := hq
    clear hq
    refine hAt 2 _ _ _ _ _ _ ?_
    exact callG 1 6 (by omega) (by omega) (s_need_bad rfl (by omega) (by omega) hI.n (fun n => hX 0 rfl _ (frC.nX σ n) (hI.nX n)))
  · have c1 : ¬ x < nI 0 := hq
    clear hq
    refine hAt 3 _ _ _ _ _ _ ?_
    refine And.intro (fun hq => ?_) (fun hq => ?_)
    · have c7 : nI 7 < x := hq
      clear hq
      refine hAt 2 _ _ _ _ _ _ ?_
      exact callG 1 6 (by omega) (by omega) (s_need_bad rfl (by omega) (by omega) hI.n (fun n => hX 0 rfl _ (frC.nX σ n) (hI.nX n)))
    · have c7 : ¬ nI 7 < x := hq
      clear hq
      exact absurd ⟨c1, c7⟩ (in_bad' (n := 7) (by omega) hx)
theorem CC_day_ok {seed : Int32} {i : Nat} (hv : VA A) (hi : i < 8) : CC w (d + 8) m_OC_day [.int seed, .int (nI i)] A 0 (.int (dyA A seed i)) A := by
  intro σ P X hI hP _
  have hn : kT (aSk A) 2 ≤ 8 := hv.2.2.1.2.2.1
  have hFF : kT (aSk A) 3 ≤ 12 := hv.2.2.1.2.2.2.1
  refine meth_ok k_OC_day q_OC_day rfl fun At hAt => ?_
  refine hAt 2 _ _ _ _ _ _ ?_
  refine And.intro (fun hq => ?_) (fun hq => ?_)
  · have c1 : i < 0 := (ltN (a := i) (b := 0) rfl rfl (by omega) (by omega)).mp hq
    clear hq
    exact absurd c1 (by omega)
  · have c1 : 0 ≤ i := Nat.le_of_not_lt (fun zq => hq ((ltN (a := i) (b := 0) rfl rfl (by omega) (by omega)).mpr zq))
    clear hq
    refine hAt 3 _ _ _ _ _ _ ?_
    refine And.intro (fun hq => ?_) (fun hq => ?_)
    · have c7 : 7 < i := (ltN (a := 7) (b := i) rfl rfl (by omega) (by omega)).mp hq
      clear hq
      exact absurd c7 (by omega)
    · have c7 : i ≤ 7 := Nat.le_of_not_lt (fun zq => hq ((ltN (a := 7) (b := i) rfl rfl (by omega) (by omega)).mpr zq))
      clear hq
      refine hAt 13 _ _ _ _ _ _ ?_
      refine callG 0 0 (by omega) (by omega) (s_need_ok (by decide) ?_)
      refine s_dayRun hI.sk hI.bk.1 (obA hv) hv.2.2.1 (by omega) (fun τ hc => ?_)
      have hc : eC σ (aSk A) (49 + 1) (fun _ => 49) (dE A seed 49) τ := hc
      obtain ⟨f1, f2⟩ := hc.1.ic hI hv
      refine s_total hI.sk hv.2.2.1 hc (fun k hk ht => dE_pk hv hk ht) hi ?_
      exact hP rfl τ f1 f2
theorem CC_account_bad {seed x y : Int32} (hx : ¬ ((¬ x < nI 0 ∧ ¬ nI 8 ≤ x) ∧ (¬ y < nI 0 ∧ ¬ nI 2 < y))) : CC w (d + 8) m_OC_account [.int seed, .int x, .int y] A 1 v A := by
  intro σ P X hI _ hX
  refine meth_ok k_OC_account q_OC_account rfl fun At hAt => ?_
  refine hAt 3 _ _ _ _ _ _ ?_
  refine s_isOwner ?_
  refine And.intro (fun hq => ?_) (fun hq => ?_)
  · have c4 : ¬ (¬ x < nI 0 ∧ ¬ nI 8 ≤ x) := of_decide_eq_false (bI_eq hq)
    clear hq
    refine hAt 2 _ _ _ _ _ _ ?_
    exact callG 1 6 (by omega) (by omega) (s_need_bad rfl (by omega) (by omega) hI.n (fun n => hX 0 rfl _ (frC.nX σ n) (hI.nX n)))
  · have c4 : ¬ x < nI 0 ∧ ¬ nI 8 ≤ x := of_decide_eq_true (bI_ne hq)
    clear hq
    refine hAt 2 _ _ _ _ _ _ ?_
    refine And.intro (fun hq => ?_) (fun hq => ?_)
    · have c8 : y < nI 0 := hq
      clear hq
      refine hAt 2 _ _ _ _ _ _ ?_
      exact callG 1 6 (by omega) (by omega) (s_need_bad rfl (by omega) (by omega) hI.n (fun n => hX 0 rfl _ (frC.nX σ n) (hI.nX n)))
    · have c8 : ¬ y < nI 0 := hq
      clear hq
      refine hAt 3 _ _ _ _ _ _ ?_
      refine And.intro (fun hq => ?_) (fun hq => ?_)
      · have c13 : nI 2 < y := hq
        clear hq
        refine hAt 2 _ _ _ _ _ _ ?_
        exact callG 1 6 (by omega) (by omega) (s_need_bad rfl (by omega) (by omega) hI.n (fun n => hX 0 rfl _ (frC.nX σ n) (hI.nX n)))
      · have c13 : ¬ nI 2 < y := hq
        clear hq
        exact absurd ⟨c4, c8, c13⟩ hx
theorem CC_account_ok {seed : Int32} {o i : Nat} (hv : VA A) (ho : o < 8) (hi : i < 3) : CC w (d + 8) m_OC_account [.int seed, .int (nI o), .int (nI i)] A 0 (.int (acA A seed o i)) A := by
  intro σ P X hI hP _
  have hn : kT (aSk A) 2 ≤ 8 := hv.2.2.1.2.2.1
  have hFF : kT (aSk A) 3 ≤ 12 := hv.2.2.1.2.2.2.1
  refine meth_ok k_OC_account q_OC_account rfl fun At hAt => ?_
  refine hAt 3 _ _ _ _ _ _ ?_
  refine s_isOwner ?_
  rw [decide_eq_true ⟨nI_nlt (Nat.zero_le _) (by omega), nI_ge (by omega) (by omega)⟩]
  refine And.intro (fun hq => absurd hq (by decide)) (fun _ => ?_)
  refine hAt 2 _ _ _ _ _ _ ?_
  refine And.intro (fun hq => ?_) (fun hq => ?_)
  · have c8 : i < 0 := (ltN (a := i) (b := 0) rfl rfl (by omega) (by omega)).mp hq
    clear hq
    exact absurd c8 (by omega)
  · have c8 : 0 ≤ i := Nat.le_of_not_lt (fun zq => hq ((ltN (a := i) (b := 0) rfl rfl (by omega) (by omega)).mpr zq))
    clear hq
    refine hAt 3 _ _ _ _ _ _ ?_
    refine And.intro (fun hq => ?_) (fun hq => ?_)
    · have c13 : 2 < i := (ltN (a := 2) (b := i) rfl rfl (by omega) (by omega)).mp hq
      clear hq
      exact absurd c13 (by omega)
    · have c13 : i ≤ 2 := Nat.le_of_not_lt (fun zq => hq ((ltN (a := 2) (b := i) rfl rfl (by omega) (by omega)).mpr zq))
      clear hq
      refine hAt 15 _ _ _ _ _ _ ?_
      refine callG 0 0 (by omega) (by omega) (s_need_ok (by decide) ?_)
      refine s_dayRun hI.sk hI.bk.1 (obA hv) hv.2.2.1 (by omega) (fun τ hc => ?_)
      have hc : eC σ (aSk A) (49 + 1) (fun _ => 49) (dE A seed 49) τ := hc
      obtain ⟨f1, f2⟩ := hc.1.ic hI hv
      refine s_Table_get (a := 65) (na := 66) (mo := 8) (wd := 3) rfl (show o < 8 by omega) (show i < 3 by omega) ?_
      refine Eq.mpr (congrArg (fun xq : Int32 => At 49 [.ref (0), .int (seed), .int (nI o), .int (nI i)] [.int xq] τ 0 0) (show rI τ 66 (o * 3 + i) = acA A seed o i from (hc.acc o i (by omega) (by omega)))) ?_
      refine hAt 1 _ _ _ _ _ _ ?_
      exact hP rfl τ f1 f2
theorem CC_farmer_bad {seed x y : Int32} (hx : ¬ ((¬ x < nI 0 ∧ ¬ nI 7 ≤ x) ∧ (y = nI 0 ∨ y = nI 1))) : CC w (d + 8) m_OC_farmer [.int seed, .int x, .int y] A 1 v A := by
  intro σ P X hI _ hX
  refine meth_ok k_OC_farmer q_OC_farmer rfl fun At hAt => ?_
  refine hAt 3 _ _ _ _ _ _ ?_
  refine s_isFarmer ?_
  refine And.intro (fun hq => ?_) (fun hq => ?_)
  · have c4 : ¬ (¬ x < nI 0 ∧ ¬ nI 7 ≤ x) := of_decide_eq_false (bI_eq hq)
    clear hq
    refine hAt 2 _ _ _ _ _ _ ?_
    exact callG 1 6 (by omega) (by omega) (s_need_bad rfl (by omega) (by omega) hI.n (fun n => hX 0 rfl _ (frC.nX σ n) (hI.nX n)))
  · have c4 : ¬ x < nI 0 ∧ ¬ nI 7 ≤ x := of_decide_eq_true (bI_ne hq)
    clear hq
    refine hAt 3 _ _ _ _ _ _ ?_
    refine s_isEither ?_
    refine And.intro (fun hq => ?_) (fun hq => ?_)
    · have c11 : ¬ (y = nI 0 ∨ y = nI 1) := of_decide_eq_false (bI_eq hq)
      clear hq
      refine hAt 2 _ _ _ _ _ _ ?_
      exact callG 1 6 (by omega) (by omega) (s_need_bad rfl (by omega) (by omega) hI.n (fun n => hX 0 rfl _ (frC.nX σ n) (hI.nX n)))
    · have c11 : y = nI 0 ∨ y = nI 1 := of_decide_eq_true (bI_ne hq)
      clear hq
      exact absurd ⟨c4, c11⟩ hx
theorem CC_farmer_ok {seed : Int32} {f i : Nat} (hv : VA A) (ho : f < 7) (hi : i < 2) : CC w (d + 8) m_OC_farmer [.int seed, .int (nI f), .int (nI i)] A 0 (.int (fmA A seed f i)) A := by
  intro σ P X hI hP _
  have hn : kT (aSk A) 2 ≤ 8 := hv.2.2.1.2.2.1
  have hFF : kT (aSk A) 3 ≤ 12 := hv.2.2.1.2.2.2.1
  refine meth_ok k_OC_farmer q_OC_farmer rfl fun At hAt => ?_
  refine hAt 3 _ _ _ _ _ _ ?_
  refine s_isFarmer ?_
  rw [decide_eq_true ⟨nI_nlt (Nat.zero_le _) (by omega), nI_ge (by omega) (by omega)⟩]
  refine And.intro (fun hq => absurd hq (by decide)) (fun _ => ?_)
  refine hAt 3 _ _ _ _ _ _ ?_
  refine s_isEither ?_
  rw [decide_eq_true (lt2 (by omega))]
  refine And.intro (fun hq => absurd hq (by decide)) (fun _ => ?_)
  refine hAt 16 _ _ _ _ _ _ ?_
  refine callG 0 0 (by omega) (by omega) (s_need_ok (by decide) ?_)
  refine s_dayRun hI.sk hI.bk.1 (obA hv) hv.2.2.1 (by omega) (fun τ hc => ?_)
  have hc : eC σ (aSk A) (49 + 1) (fun _ => 49) (dE A seed 49) τ := hc
  obtain ⟨f1, f2⟩ := hc.1.ic hI hv
  refine s_Table_get (a := 67) (na := 68) (mo := 7) (wd := 2) rfl (show f < 7 by omega) (show i < 2 by omega) ?_
  have fin := hP rfl τ f1 f2
  have e : rI τ 68 (f * 2 + i) = fmA A seed f i := by
    have : i = 0 ∨ i = 1 := by omega
    rcases this with rfl | rfl
    · exact hc.pay f ho
    · exact hc.owe f ho
  rw [← e] at fin
  exact fin
theorem CC_after_bad1 {seed x y : Int32} (hx : x < nI 0 ∨ nI (kT (aSk A) 3) ≤ x) : CC w (d + 8) m_OC_after [.int seed, .int x, .int y] A 3 v A := by
  intro σ P X hI _ hX
  refine meth_ok k_OC_after q_OC_after rfl fun At hAt => ?_
  refine hAt 3 _ _ _ _ _ _ ?_
  exact callG 1 6 (by omega) (by omega) (s_needField_bad hI hx (by omega) (by omega) (fun n => hX 2 rfl _ (frC.nX σ n) (hI.nX n)))
theorem CC_after_bad2 {seed y : Int32} {j : Nat} (hv : VA A) (hj : j < kT (aSk A) 3) (hx : y < nI 0 ∨ nI 3 ≤ y) : CC w (d + 8) m_OC_after [.int seed, .int (nI j), .int y] A 1 v A := by
  intro σ P X hI _ hX
  refine meth_ok k_OC_after q_OC_after rfl fun At hAt => ?_
  refine hAt 5 _ _ _ _ _ _ ?_
  refine callG 0 0 (by omega) (by omega) (s_needField_ok hI hv hj ?_)
  refine And.intro (fun hq => ?_) (fun hq => ?_)
  · have c6 : y < nI 0 := hq
    clear hq
    refine hAt 2 _ _ _ _ _ _ ?_
    exact callG 1 6 (by omega) (by omega) (s_need_bad rfl (by omega) (by omega) hI.n (fun n => hX 0 rfl _ (frC.nX σ n) (hI.nX n)))
  · have c6 : ¬ y < nI 0 := hq
    clear hq
    refine hAt 3 _ _ _ _ _ _ ?_
    refine And.intro (fun hq => ?_) (fun hq => ?_)
    · have c11 : nI 2 < y := hq
      clear hq
      refine hAt 2 _ _ _ _ _ _ ?_
      exact callG 1 6 (by omega) (by omega) (s_need_bad rfl (by omega) (by omega) hI.n (fun n => hX 0 rfl _ (frC.nX σ n) (hI.nX n)))
    · have c11 : ¬ nI 2 < y := hq
      clear hq
      exact absurd ⟨c6, c11⟩ (in_bad' (n := 2) (by omega) hx)
theorem CC_after_ok {seed : Int32} {j i : Nat} (hv : VA A) (hj : j < kT (aSk A) 3) (hi : i < 3) : CC w (d + 8) m_OC_after [.int seed, .int (nI j), .int (nI i)] A 0 (.int (afA A seed j i)) A := by
  intro σ P X hI hP _
  have hn : kT (aSk A) 2 ≤ 8 := hv.2.2.1.2.2.1
  have hFF : kT (aSk A) 3 ≤ 12 := hv.2.2.1.2.2.2.1
  refine meth_ok k_OC_after q_OC_after rfl fun At hAt => ?_
  refine hAt 5 _ _ _ _ _ _ ?_
  refine callG 0 0 (by omega) (by omega) (s_needField_ok hI hv hj ?_)
  refine And.intro (fun hq => ?_) (fun hq => ?_)
  · have c6 : i < 0 := (ltN (a := i) (b := 0) rfl rfl (by omega) (by omega)).mp hq
    clear hq
    exact absurd c6 (by omega)
  · have c6 : 0 ≤ i := Nat.le_of_not_lt (fun zq => hq ((ltN (a := i) (b := 0) rfl rfl (by omega) (by omega)).mpr zq))
    clear hq
    refine hAt 3 _ _ _ _ _ _ ?_
    refine And.intro (fun hq => ?_) (fun hq => ?_)
    · have c11 : 2 < i := (ltN (a := 2) (b := i) rfl rfl (by omega) (by omega)).mp hq
      clear hq
      exact absurd c11 (by omega)
    · have c11 : i ≤ 2 := Nat.le_of_not_lt (fun zq => hq ((ltN (a := 2) (b := i) rfl rfl (by omega) (by omega)).mpr zq))
      clear hq
      refine hAt 16 _ _ _ _ _ _ ?_
      refine callG 0 0 (by omega) (by omega) (s_need_ok (by decide) ?_)
      refine s_dayRun hI.sk hI.bk.1 (obA hv) hv.2.2.1 (by omega) (fun τ hc => ?_)
      have hc : eC σ (aSk A) (49 + 1) (fun _ => 49) (dE A seed 49) τ := hc
      obtain ⟨f1, f2⟩ := hc.1.ic hI hv
      refine s_Table_get (a := 69) (na := 70) (mo := 12) (wd := 3) rfl (show j < 12 by omega) (show i < 3 by omega) ?_
      have fin := hP rfl τ f1 f2
      have e : rI τ 70 (j * 3 + i) = afA A seed j i := by
        have : i = 0 ∨ i = 1 ∨ i = 2 := by omega
        rcases this with rfl | rfl | rfl
        · exact hc.thi j hj
        · exact hc.flo j hj
        · exact hc.hai j hj
      rw [← e] at fin
      exact fin
theorem CC_part_bad1 {seed x y z : Int32} (hx : x < nI 0 ∨ nI (kT (aSk A) 2) ≤ x) : CC w (d + 8) m_OC_part [.int seed, .int x, .int y, .int z] A 2 v A := by
  intro σ P X hI _ hX
  refine meth_ok k_OC_part q_OC_part rfl fun At hAt => ?_
  refine hAt 3 _ _ _ _ _ _ ?_
  exact callG 1 6 (by omega) (by omega) (s_needCloud_bad hI hx (by omega) (by omega) (fun n => hX 1 rfl _ (frC.nX σ n) (hI.nX n)))
theorem CC_part_bad2 {seed y z : Int32} {j : Nat} (hv : VA A) (hj : j < kT (aSk A) 2) (hx : ¬ ((¬ y < nI 0 ∧ ¬ nI 50 ≤ y) ∧ (¬ z < nI 0 ∧ ¬ nI 8 ≤ z))) : CC w (d + 8) m_OC_part [.int seed, .int (nI j), .int y, .int z] A 1 v A := by
  intro σ P X hI _ hX
  refine meth_ok k_OC_part q_OC_part rfl fun At hAt => ?_
  refine hAt 6 _ _ _ _ _ _ ?_
  refine callG 0 0 (by omega) (by omega) (s_needCloud_ok hI hv hj ?_)
  refine s_isHour ?_
  refine And.intro (fun hq => ?_) (fun hq => ?_)
  · have c9 : ¬ (¬ y < nI 0 ∧ ¬ nI 50 ≤ y) := of_decide_eq_false (bI_eq hq)
    clear hq
    refine hAt 2 _ _ _ _ _ _ ?_
    exact callG 1 6 (by omega) (by omega) (s_need_bad rfl (by omega) (by omega) hI.n (fun n => hX 0 rfl _ (frC.nX σ n) (hI.nX n)))
  · have c9 : ¬ y < nI 0 ∧ ¬ nI 50 ≤ y := of_decide_eq_true (bI_ne hq)
    clear hq
    refine hAt 3 _ _ _ _ _ _ ?_
    refine s_isOwner ?_
    refine And.intro (fun hq => ?_) (fun hq => ?_)
    · have c17 : ¬ (¬ z < nI 0 ∧ ¬ nI 8 ≤ z) := of_decide_eq_false (bI_eq hq)
      clear hq
      refine hAt 2 _ _ _ _ _ _ ?_
      exact callG 1 6 (by omega) (by omega) (s_need_bad rfl (by omega) (by omega) hI.n (fun n => hX 0 rfl _ (frC.nX σ n) (hI.nX n)))
    · have c17 : ¬ z < nI 0 ∧ ¬ nI 8 ≤ z := of_decide_eq_true (bI_ne hq)
      clear hq
      exact absurd ⟨c9, c17⟩ hx
theorem CC_part_ok {seed : Int32} {j h o : Nat} (hv : VA A) (hj : j < kT (aSk A) 2) (hh : h < 50) (ho : o < 8) : CC w (d + 8) m_OC_part [.int seed, .int (nI j), .int (nI h), .int (nI o)] A 0 (.int (ptA A seed j h o)) A := by
  intro σ P X hI hP _
  have hn : kT (aSk A) 2 ≤ 8 := hv.2.2.1.2.2.1
  have hFF : kT (aSk A) 3 ≤ 12 := hv.2.2.1.2.2.2.1
  refine meth_ok k_OC_part q_OC_part rfl fun At hAt => ?_
  refine hAt 6 _ _ _ _ _ _ ?_
  refine callG 0 0 (by omega) (by omega) (s_needCloud_ok hI hv hj ?_)
  refine s_isHour ?_
  rw [decide_eq_true ⟨nI_nlt (Nat.zero_le _) (by omega), nI_ge (by omega) (by omega)⟩]
  refine And.intro (fun hq => absurd hq (by decide)) (fun _ => ?_)
  refine hAt 3 _ _ _ _ _ _ ?_
  refine s_isOwner ?_
  rw [decide_eq_true ⟨nI_nlt (Nat.zero_le _) (by omega), nI_ge (by omega) (by omega)⟩]
  refine And.intro (fun hq => absurd hq (by decide)) (fun _ => ?_)
  refine hAt 13 _ _ _ _ _ _ ?_
  refine callG 0 0 (by omega) (by omega) (s_need_ok (by decide) ?_)
  refine s_dayRun hI.sk hI.bk.1 (obA hv) hv.2.2.1 (by omega) (fun τ hc => ?_)
  have hc : eC σ (aSk A) (h + 1) (fun _ => h) (dE A seed h) τ := hc
  obtain ⟨f1, f2⟩ := hc.1.ic hI hv
  refine s_isThere hv.2.2.1 hc hj (fun z => dE_pk hv hj z) ?_
  refine And.intro (fun hq => ?_) (fun hq => ?_)
  · have c45 : ¬ (gN (dE A seed h) 0 j = 1) := of_decide_eq_false (bI_eq hq)
    clear hq
    refine hAt 2 _ _ _ _ _ _ ?_
    have fin := hP rfl τ f1 f2
    rw [ptA, if_neg c45] at fin
    exact fin
  · have c45 : gN (dE A seed h) 0 j = 1 := of_decide_eq_true (bI_ne hq)
    clear hq
    have cth := c45
    refine hAt 6 _ _ _ _ _ _ ?_
    refine s_Table_get (a := 73) (na := 74) (mo := 8) (wd := 8) rfl (show j < 8 by omega) (show o < 8 by omega) ?_
    refine Eq.mpr (congrArg (fun xq : Int32 => At 61 [.ref (0), .int (seed), .int (nI j), .int (nI h), .int (nI o)] [.int xq] τ 0 0) (show rI τ 74 (j * 8 + o) = nI (gN (dE A seed h) (8 + j) o) from (hc.par j o hj (Or.inl cth) (by omega)))) ?_
    refine hAt 2 _ _ _ _ _ _ ?_
    have fin := hP rfl τ f1 f2
    rw [ptA, if_pos cth] at fin
    exact fin
theorem CC_cloud_bad1 {seed x y z : Int32} (hx : x < nI 0 ∨ nI (kT (aSk A) 2) ≤ x) : CC w (d + 8) m_OC_cloud [.int seed, .int x, .int y, .int z] A 2 v A := by
  intro σ P X hI _ hX
  refine meth_ok k_OC_cloud q_OC_cloud rfl fun At hAt => ?_
  refine hAt 3 _ _ _ _ _ _ ?_
  exact callG 1 6 (by omega) (by omega) (s_needCloud_bad hI hx (by omega) (by omega) (fun n => hX 1 rfl _ (frC.nX σ n) (hI.nX n)))
theorem CC_cloud_bad2 {seed y z : Int32} {j : Nat} (hv : VA A) (hj : j < kT (aSk A) 2) (hx : ¬ ((¬ y < nI 0 ∧ ¬ nI 50 ≤ y) ∧ (¬ z < nI 0 ∧ ¬ nI 2 < z))) : CC w (d + 8) m_OC_cloud [.int seed, .int (nI j), .int y, .int z] A 1 v A := by
  intro σ P X hI _ hX
  refine meth_ok k_OC_cloud q_OC_cloud rfl fun At hAt => ?_
  refine hAt 6 _ _ _ _ _ _ ?_
  refine callG 0 0 (by omega) (by omega) (s_needCloud_ok hI hv hj ?_)
  refine s_isHour ?_
  refine And.intro (fun hq => ?_) (fun hq => ?_)
  · have c9 : ¬ (¬ y < nI 0 ∧ ¬ nI 50 ≤ y) := of_decide_eq_false (bI_eq hq)
    clear hq
    refine hAt 2 _ _ _ _ _ _ ?_
    exact callG 1 6 (by omega) (by omega) (s_need_bad rfl (by omega) (by omega) hI.n (fun n => hX 0 rfl _ (frC.nX σ n) (hI.nX n)))
  · have c9 : ¬ y < nI 0 ∧ ¬ nI 50 ≤ y := of_decide_eq_true (bI_ne hq)
    clear hq
    refine hAt 2 _ _ _ _ _ _ ?_
    refine And.intro (fun hq => ?_) (fun hq => ?_)
    · have c14 : z < nI 0 := hq
      clear hq
      refine hAt 2 _ _ _ _ _ _ ?_
      exact callG 1 6 (by omega) (by omega) (s_need_bad rfl (by omega) (by omega) hI.n (fun n => hX 0 rfl _ (frC.nX σ n) (hI.nX n)))
    · have c14 : ¬ z < nI 0 := hq
      clear hq
      refine hAt 3 _ _ _ _ _ _ ?_
      refine And.intro (fun hq => ?_) (fun hq => ?_)
      · have c20 : nI 2 < z := hq
        clear hq
        refine hAt 2 _ _ _ _ _ _ ?_
        exact callG 1 6 (by omega) (by omega) (s_need_bad rfl (by omega) (by omega) hI.n (fun n => hX 0 rfl _ (frC.nX σ n) (hI.nX n)))
      · have c20 : ¬ nI 2 < z := hq
        clear hq
        exact absurd ⟨c9, c14, c20⟩ hx
theorem CC_cloud_ok {seed : Int32} {j h i : Nat} (hv : VA A) (hj : j < kT (aSk A) 2) (hh : h < 50) (hi : i < 3) : CC w (d + 8) m_OC_cloud [.int seed, .int (nI j), .int (nI h), .int (nI i)] A 0 (.int (clA A seed j h i)) A := by
  intro σ P X hI hP _
  have hn : kT (aSk A) 2 ≤ 8 := hv.2.2.1.2.2.1
  have hFF : kT (aSk A) 3 ≤ 12 := hv.2.2.1.2.2.2.1
  have fin0 : ∀ τ x, frC σ τ → IC A τ → x = clA A seed j h i → P (some (.int x)) τ := fun τ x h1 h2 h3 => by rw [h3]; exact hP rfl τ h1 h2
  refine meth_ok k_OC_cloud q_OC_cloud rfl fun At hAt => ?_
  refine hAt 6 _ _ _ _ _ _ ?_
  refine callG 0 0 (by omega) (by omega) (s_needCloud_ok hI hv hj ?_)
  refine s_isHour ?_
  rw [decide_eq_true ⟨nI_nlt (Nat.zero_le _) (by omega), nI_ge (by omega) (by omega)⟩]
  refine And.intro (fun hq => absurd hq (by decide)) (fun _ => ?_)
  refine hAt 2 _ _ _ _ _ _ ?_
  refine And.intro (fun hq => ?_) (fun hq => ?_)
  · have c14 : i < 0 := (ltN (a := i) (b := 0) rfl rfl (by omega) (by omega)).mp hq
    clear hq
    exact absurd c14 (by omega)
  · have c14 : 0 ≤ i := Nat.le_of_not_lt (fun zq => hq ((ltN (a := i) (b := 0) rfl rfl (by omega) (by omega)).mpr zq))
    clear hq
    refine hAt 3 _ _ _ _ _ _ ?_
    refine And.intro (fun hq => ?_) (fun hq => ?_)
    · have c20 : 2 < i := (ltN (a := 2) (b := i) rfl rfl (by omega) (by omega)).mp hq
      clear hq
      exact absurd c20 (by omega)
    · have c20 : i ≤ 2 := Nat.le_of_not_lt (fun zq => hq ((ltN (a := 2) (b := i) rfl rfl (by omega) (by omega)).mpr zq))
      clear hq
      refine hAt 13 _ _ _ _ _ _ ?_
      refine callG 0 0 (by omega) (by omega) (s_need_ok (by decide) ?_)
      refine s_dayRun hI.sk hI.bk.1 (obA hv) hv.2.2.1 (by omega) (fun τ hc => ?_)
      have hc : eC σ (aSk A) (h + 1) (fun _ => h) (dE A seed h) τ := hc
      obtain ⟨f1, f2⟩ := hc.1.ic hI hv
      refine s_isThere hv.2.2.1 hc hj (fun z => dE_pk hv hj z) ?_
      refine And.intro (fun hq => ?_) (fun hq => ?_)
      · have c48 : gN (dE A seed h) 0 j = 1 := of_decide_eq_true (bI_ne hq)
        clear hq
        refine hAt 2 _ _ _ _ _ _ ?_
        refine And.intro (And.intro (fun hq => ?_) (And.intro (fun hq => ?_) (trivial))) (fun hq0 hq1 => ?_)
        · have c55 : i = 0 := (eqN (a := i) (b := 0) rfl rfl (by omega) (by omega)).mp hq
          clear hq
          refine hAt 6 _ _ _ _ _ _ ?_
          refine s_psum hc hn hj c48 ?_
          exact fin0 τ _ f1 f2 (by rw [clA, if_pos c48, if_pos c55])
        · have c55 : i = 1 := (eqN (a := i) (b := 1) rfl rfl (by omega) (by omega)).mp hq
          clear hq
          refine hAt 6 _ _ _ _ _ _ ?_
          refine s_Table_mostIn (a := 73) (na := 74) (mo := 8) (wd := 8) rfl (by omega) ?_
          rw [show moI (fun o => rI τ 74 (j * 8 + o)) 8 = moR (dE A seed h) (8 + j) from moI_congr 8 (fun o ho => hc.par j o hj (Or.inl c48) ho)]
          exact fin0 τ _ f1 f2 (by rw [clA, if_pos c48, if_neg (by omega), if_pos c55])
        · have c55 : ¬ i = 0 ∧ ¬ i = 1 := ⟨fun zq => hq0 ((eqN (a := i) (b := 0) rfl rfl (by omega) (by omega)).mpr zq), fun zq => hq1 ((eqN (a := i) (b := 1) rfl rfl (by omega) (by omega)).mpr zq)⟩
          refine hAt 7 _ _ _ _ _ _ ?_
          refine s_Row_get (a := 71) (na := 72) (n := 8) rfl (show j < 8 by omega) ?_
          refine s_placeOf hv.2.2.1 hj (x := rI τ 72 j) (by rw [hc.2.1 j hj]; unfold clV; rw [if_pos c48]) ?_
          exact fin0 τ _ f1 f2 (by rw [clA, if_pos c48, if_neg c55.1, if_neg c55.2])
      · have c48 : ¬ (gN (dE A seed h) 0 j = 1) := of_decide_eq_false (bI_eq hq)
        clear hq
        refine hAt 2 _ _ _ _ _ _ ?_
        exact fin0 τ _ f1 f2 (by rw [clA, if_neg c48])
end DCA
