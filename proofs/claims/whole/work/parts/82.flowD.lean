/-! WORTH on the component's side: the way back, a field served -/
theorem wC.put {n m : Nat} {r g : Nat → Nat → Nat} {lf : Nat → Nat} {τ : Mem} {a b x : Nat} (hm : m ≤ 12) (h : wC n m r g lf τ) (hb : b < m) : wC n m r (up2 g a b x) lf (wI τ 85 (a * 12 + b) (nI x)) :=
  ⟨fun k f hk hf => by rw [rI_wI, if_neg (by omega)]; exact h.1 k f hk hf, fun k f hk hf => by
    rw [rI_wI]
    unfold up2
    by_cases e : k = a ∧ f = b
    · rw [if_pos e, if_pos ⟨rfl, by rw [e.1, e.2]⟩]
    · rw [if_neg e, if_neg (fun z => e (by have := z.2; omega))]; exact h.2.1 k f hk hf, fun k hk => by rw [rI_wI, if_neg (by omega)]; exact h.2.2 k hk⟩
theorem pt_rk {n m f0 L : Nat} {r g : Nat → Nat → Nat} {cf fb : Nat → Option Nat} {rk pt c : Nat → Nat} (h : pathP n m r g f0 cf fb rk L pt c) {i : Nat} : ∀ j, i < j → j ≤ L → rk (pt j) < rk (pt i)
  | 0, h1, _ => absurd h1 (Nat.not_lt_zero i)
  | j + 1, h1, h2 => by
    have e := (h.2.1 j (by omega)).2.2.2
    by_cases q : i = j
    · subst q; exact e
    · have := pt_rk (i := i) h j (by omega) (by omega); omega
section WD
variable {w : Wd} {d : Nat} {σ : Mem} {s : Sk} {P : Option AV → Mem → Prop} {X : Nat → Mem → Prop}
theorem s_lead {n m k0 f0 most L : Nat} {r g : Nat → Nat → Nat} {lf : Nat → Nat} {cf fb : Nat → Option Nat} {rk pt c : Nat → Nat} (hn : n ≤ 8) (hm : m ≤ 12) (hw : wC n m r g lf σ) (hcf : ∀ k, k < n → rI σ 91 k = oI (cf k)) (hfb : ∀ f, f < m → rI σ 93 f = oI (fb f)) (hp : pathP n m r g f0 cf fb rk L pt c) (h60 : BI6 n cf fb rk) (hp0 : pt 0 = k0) (hL : L ≤ 7) (hl0 : 0 < lf k0) (hl9 : lf k0 ≤ 999) (hm1 : 1 ≤ most) (hm2 : most ≤ 99)
    (hb : ∀ k f, k < n → f < m → r k f ≤ 4950) (hr : ∀ k f, k < n → f < m → g k f ≤ r k f)
    (hP : ∀ τ v g' lf', (∀ a j, a ≠ 85 → a ≠ 87 → rI τ a j = rI σ a j) → τ.2 = σ.2 → 1 ≤ v → v ≤ most → wC n m r g' lf' τ → (∀ k f, k < n → f < m → g' k f ≤ r k f) → (∀ k, k < n → sumN (g' k) m + lf' k = sumN (g k) m + lf k) → (∀ f, f < m → sumN (fun k => g' k f) n = sumN (fun k => g k f) n + if f = f0 then v else 0) → (∀ k, k < n → lf' k ≤ lf k) → P (some (.int (nI v))) τ) : Ret w true (d + 2) 0 0 m_Worth_lead [.ref 81, .int (nI k0), .int (nI f0), .int (nI most)] σ P X := by
  have hk0 : k0 < n := by rw [← hp0]; exact (hp.1 0 (Nat.zero_le _)).1
  have h91 : ∀ i, i ≤ L → rI σ 91 (pt i) = nI (c i) := fun i hi => by
    have z := hp.1 i hi
    rw [hcf _ z.1, z.2.2.1]; rfl
  have h93 : ∀ i, i < L → rI σ 93 (c i) = nI (pt (i + 1)) := fun i hi => by
    rw [hfb _ (hp.1 i (by omega)).2.1, (hp.2.1 i hi).2.1]; rfl
  have hf0 : f0 < m := by rw [← hp.2.2]; exact (hp.1 L (Nat.le_refl _)).2.1
  have hlast : ∀ i, i ≤ L → c i = f0 → i = L := fun i hi e => by
    by_cases q : i < L
    · exact absurd e (hp.2.1 i q).1
    · omega
  have hne : ∀ i j, i < j → j ≤ L → pt i ≠ pt j := fun i j h1 h2 e => by have := pt_rk hp j h1 h2; rw [e] at this; omega
  refine meth_ok k_Worth_lead q_Worth_lead rfl fun At hAt => ?_
  have two : ∀ v, 1 ≤ v → v ≤ most → v ≤ lf k0 → (∀ j, j < L → v ≤ r (pt j) (c j) - g (pt j) (c j) ∧ v ≤ g (pt (j + 1)) (c j)) → v ≤ r (pt L) (c L) - g (pt L) (c L) → ∀ i, i ≤ L → ∀ τ G z7, (∀ a j, a ≠ 85 → a ≠ 87 → rI τ a j = rI σ a j) → τ.2 = σ.2 → wC n m r G (up1 lf k0 (lf k0 - v)) τ → (∀ k f, k < n → f < m → G k f ≤ r k f) → (∀ j f, i < j → j ≤ L → G (pt j) f = g (pt j) f) → G (pt i) (c i) = g (pt i) (c i) → (∀ k, k < n → sumN (G k) m + (if k = pt i then v else 0) = sumN (g k) m + (if k = k0 then v else 0)) → (∀ f, f < m → sumN (fun k => G k f) n = sumN (fun k => g k f) n) → At 129 [.ref 81, .int (nI k0), .int (nI f0), .int (nI most), .int (nI v), .int (nI (pt i)), .int (nI i), z7] [] τ 0 0 := by
    intro v v1 v2 v3 v4 v5
    refine upto fun i hi ih => ?_
    intro τ G z7 t1 t2 hw2 hG i2 i3 i4 i5
    have z0 := hp.1 i hi
    have vb : v ≤ r (pt i) (c i) - g (pt i) (c i) := by
      by_cases q : i < L
      · exact (v4 i q).1
      · have e : i = L := by omega
        rw [e]; exact v5
    have hnx : i < L → pt (i + 1) < n ∧ pt (i + 1) ≠ pt i ∧ v ≤ g (pt (i + 1)) (c i) ∧ G (pt (i + 1)) (c i) = g (pt (i + 1)) (c i) ∧ rI τ 93 (c i) = nI (pt (i + 1)) := fun q => ⟨(hp.1 (i + 1) (by omega)).1, fun z => hne i (i + 1) (by omega) (by omega) z.symm, (v4 i q).2, i2 (i + 1) _ (by omega) (by omega), by rw [t1 _ _ (by omega) (by omega)]; exact h93 i q⟩
    have hii : i = L ∨ i < L := by omega
    have nxt : i < L → c (i + 1) ≠ c i := fun q e => by
      have a1 := (hp.1 (i + 1) (by omega)).2.2.1
      have a2 := (hp.2.1 i q).2.1
      rw [e] at a1
      have := h60.1 _ _ _ (hp.1 (i + 1) (by omega)).1 a1 a2
      omega
    have e91 : rI τ 91 (pt i) = nI (c i) := by rw [t1 _ _ (by omega) (by omega)]; exact h91 i hi
    have hfi : c i = f0 → i = L := hlast i hi
    have hLf : i = L → c i = f0 := fun e => by rw [e]; exact hp.2.2
    have i2' : i < L → ∀ j f, i + 1 < j → j ≤ L → pt j ≠ pt i ∧ pt j ≠ pt (i + 1) ∧ G (pt j) f = g (pt j) f := fun _ j f h1 h2 => ⟨fun z => hne i j (by omega) h2 z.symm, fun z => hne (i + 1) j h1 h2 z.symm, i2 j f (by omega) h2⟩
    have i3' : i < L → G (pt (i + 1)) (c (i + 1)) = g (pt (i + 1)) (c (i + 1)) := fun q => i2 (i + 1) _ (by omega) (by omega)
    obtain ⟨kk, hkk⟩ : ∃ x, x = pt i := ⟨_, rfl⟩
    obtain ⟨cc, hcc⟩ : ∃ x, x = c i := ⟨_, rfl⟩
    obtain ⟨kn, hkn⟩ : ∃ x, x = pt (i + 1) := ⟨_, rfl⟩
    rw [← hkk, ← hcc] at z0 vb e91 i3 hnx
    rw [← hkk] at i4 ⊢
    rw [← hcc] at hfi hLf nxt
    rw [← hkn] at hnx i3'
    have gbb := hb kk cc z0.1 z0.2.1
    have fG := hG kk cc z0.1 z0.2.1
    have rg := hw2.2.1 kk cc z0.1 z0.2.1
    have i5c := i5 cc z0.2.1
    refine hAt 3 _ _ _ _ _ _ ?_
    refine And.intro (fun hq => ?_) (fun hq => ?_)
    · have c133 : 8 ≤ i := (leN (a := 8) (b := i) rfl rfl (by omega) (by omega)).mp hq
      clear hq
      exact absurd c133 (by omega)
    · have c133 : i < 8 := Nat.lt_of_not_le (fun zq => hq ((leN (a := 8) (b := i) rfl rfl (by omega) (by omega)).mpr zq))
      clear hq
      refine hAt 4 _ _ _ _ _ _ ?_
      refine s_Row_get (a := 90) (na := 91) (n := 8) rfl (show kk < 8 by omega) ?_
      refine Eq.mpr (congrArg (fun xq : Int32 => At 145 [.ref (81), .int (nI k0), .int (nI f0), .int (nI most), .int (nI v), .int (nI kk), .int (nI i), z7] [.int xq] τ 0 0) (show rI τ 91 kk = nI cc from e91)) ?_
      refine hAt 7 _ _ _ _ _ _ ?_
      refine s_Table_add (a := 84) (na := 85) (mo := 8) (wd := 12) rfl (show kk < 8 by omega) (show cc < 12 by omega) ?_
      refine Eq.mpr (congrArg (fun xq : Mem => At 160 [.ref (81), .int (nI k0), .int (nI f0), .int (nI most), .int (nI v), .int (nI kk), .int (nI i), .int (nI cc)] [] xq 0 0) (congrArg (fun z => wI τ 85 (kk * 12 + cc) z) (show rI τ 85 (kk * 12 + cc) + nI v = nI (G kk cc + v) from (adE rg rfl)))) ?_
      refine hAt 3 _ _ _ _ _ _ ?_
      refine And.intro (fun hq => ?_) (fun hq => ?_)
      · have c163 : ¬ cc = f0 := fun zq => hq ((eqN (a := cc) (b := f0) rfl rfl (by omega) (by omega)).mpr zq)
        clear hq
        have hiL : i < L := by
          rcases hii with q | q
          · exact absurd (hLf q) c163
          · exact q
        have hk1 := (hnx hiL).1
        have hk2 := (hnx hiL).2.1
        have hk3 := (hnx hiL).2.2.1
        have hk4 := (hnx hiL).2.2.2.1
        refine hAt 4 _ _ _ _ _ _ ?_
        refine s_Row_get (a := 92) (na := 93) (n := 12) rfl (show cc < 12 by omega) ?_
        refine Eq.mpr (congrArg (fun xq : Int32 => At 178 [.ref (81), .int (nI k0), .int (nI f0), .int (nI most), .int (nI v), .int (nI kk), .int (nI i), .int (nI cc)] [.int xq] (wI τ 85 (kk * 12 + cc) (nI (G kk cc + v))) 0 0) (show rI (wI τ 85 (kk * 12 + cc) (nI (G kk cc + v))) 93 cc = nI kn from (by rw [rI_wI, if_neg (by omega)]; exact (hnx hiL).2.2.2.2))) ?_
        refine hAt 8 _ _ _ _ _ _ ?_
        refine s_Table_add (a := 84) (na := 85) (mo := 8) (wd := 12) rfl (show kn < 8 by omega) (show cc < 12 by omega) ?_
        refine Eq.mpr (congrArg (fun xq : Mem => At 194 [.ref (81), .int (nI k0), .int (nI f0), .int (nI most), .int (nI v), .int (nI kn), .int (nI i), .int (nI cc)] [] xq 0 0) (congrArg (fun z => wI (wI τ 85 (kk * 12 + cc) (nI (G kk cc + v))) 85 (kn * 12 + cc) z) (show rI (wI τ 85 (kk * 12 + cc) (nI (G kk cc + v))) 85 (kn * 12 + cc) + (-(nI v)) = nI ((G kn cc) - v) from (adN (by rw [rI_wI, if_neg (by omega)]; exact (hw2.2.1 kn cc (by omega) (by omega))) (by omega))))) ?_
        refine hAt 2 _ _ _ _ _ _ ?_
        refine Eq.mpr (congrArg (fun xq : Int32 => At 129 [.ref (81), .int (nI k0), .int (nI f0), .int (nI most), .int (nI v), .int (nI kn), .int xq, .int (nI cc)] [] (wI (wI τ 85 (kk * 12 + cc) (nI (G kk cc + v))) 85 (kn * 12 + cc) (nI ((G kn cc) - v))) 0 0) (show nI i + nI 1 = nI (i + 1) from (adE rfl rfl))) ?_
        have g1 : up2 G kk cc (G kk cc + v) kn cc = G kn cc := if_neg (fun z => hk2 z.1)
        have q := ih hiL (wI (wI τ 85 (kk * 12 + cc) (nI (G kk cc + v))) 85 (kn * 12 + cc) (nI (G kn cc - v))) (up2 (up2 G kk cc (G kk cc + v)) kn cc (G kn cc - v)) (.int (nI cc)) (fun a j u1 u2 => ?_) t2 ((hw2.put hm z0.2.1).put hm z0.2.1) (fun k f hk hf => ?_) (fun j f h1 h2 => ?_) ?_ (fun k hk => ?_) (fun f hf => ?_)
        · rw [← hkn] at q; exact q
        · rw [rI_wI, if_neg (by omega), rI_wI, if_neg (by omega)]; exact t1 a j u1 u2
        · unfold up2
          by_cases e2 : k = kn ∧ f = cc
          · rw [if_pos e2, e2.1, e2.2]; have := hG kn cc hk1 z0.2.1; omega
          · rw [if_neg e2]
            by_cases e : k = kk ∧ f = cc
            · rw [if_pos e, e.1, e.2]; omega
            · rw [if_neg e]; exact hG k f hk hf
        · have z := i2' hiL j f h1 h2
          unfold up2
          rw [if_neg (fun y => z.2.1 (y.1.trans hkn)), if_neg (fun y => z.1 (y.1.trans hkk))]; exact z.2.2
        · rw [← hkn]
          have z := nxt hiL
          unfold up2
          rw [if_neg (fun y => z y.2), if_neg (fun y => z y.2)]; exact i3' hiL
        · rw [← hkn]
          have r1 := up2_row (G := G) (a := kk) (b := cc) (x := G kk cc + v) (m := m) z0.2.1 k
          have r2 := up2_row (G := up2 G kk cc (G kk cc + v)) (a := kn) (b := cc) (x := G kn cc - v) (m := m) z0.2.1 k
          rw [g1] at r2
          have r0 := i4 k hk
          by_cases e1 : k = kk
          · have e2 : ¬ k = kn := fun z => hk2 (z.symm.trans e1)
            rw [if_pos e1, if_pos e1] at r1; rw [if_pos e1] at r0; rw [if_neg e2, if_neg e2] at r2; rw [if_neg e2]; omega
          · rw [if_neg e1, if_neg e1] at r1; rw [if_neg e1] at r0
            by_cases e2 : k = kn
            · rw [if_pos e2, if_pos e2] at r2; rw [if_pos e2]; omega
            · rw [if_neg e2, if_neg e2] at r2; rw [if_neg e2]; omega
        · have r1 := up2_col (G := G) (a := kk) (b := cc) (x := G kk cc + v) (n := n) z0.1 f
          have r2 := up2_col (G := up2 G kk cc (G kk cc + v)) (a := kn) (b := cc) (x := G kn cc - v) (n := n) hk1 f
          rw [g1] at r2
          have r0 := i5 f hf
          by_cases e1 : f = cc
          · rw [if_pos e1, if_pos e1] at r1 r2; omega
          · rw [if_neg e1, if_neg e1] at r1 r2; omega
      · have c163 : cc = f0 := (eqN (a := cc) (b := f0) rfl rfl (by omega) (by omega)).mp hq
        clear hq
        refine hAt 3 _ _ _ _ _ _ ?_
        have hiL := hfi c163
        refine hP _ v (up2 G kk cc (G kk cc + v)) (up1 lf k0 (lf k0 - v)) (fun a j u1 u2 => ?_) t2 v1 v2 (hw2.put hm z0.2.1) (fun k f hk hf => ?_) (fun k hk => ?_) (fun f hf => ?_) (fun k hk => ?_)
        · rw [rI_wI, if_neg (by omega)]; exact t1 a j u1 u2
        · unfold up2
          by_cases e : k = kk ∧ f = cc
          · rw [if_pos e, e.1, e.2]; omega
          · rw [if_neg e]; exact hG k f hk hf
        · have r1 := up2_row (G := G) (a := kk) (b := cc) (x := G kk cc + v) (m := m) z0.2.1 k
          have r0 := i4 k hk
          by_cases e1 : k = kk
          · rw [if_pos e1, if_pos e1] at r1; rw [if_pos e1] at r0
            unfold up1
            by_cases e2 : k = k0
            · rw [if_pos e2] at r0 ⊢; rw [e2] at r1 r0 ⊢; omega
            · rw [if_neg e2] at r0 ⊢; omega
          · rw [if_neg e1, if_neg e1] at r1; rw [if_neg e1] at r0
            unfold up1
            by_cases e2 : k = k0
            · rw [if_pos e2] at r0 ⊢; rw [e2] at r1 r0 ⊢; omega
            · rw [if_neg e2] at r0 ⊢; omega
        · have r1 := up2_col (G := G) (a := kk) (b := cc) (x := G kk cc + v) (n := n) z0.1 f
          have r0 := i5 f hf
          by_cases e1 : f = cc
          · rw [if_pos e1, if_pos e1] at r1; rw [if_pos (e1.trans c163)]; omega
          · rw [if_neg e1, if_neg e1] at r1; rw [if_neg (fun z => e1 (z.trans c163.symm))]; omega
        · unfold up1
          by_cases e2 : k = k0
          · rw [if_pos e2, e2]; omega
          · rw [if_neg e2]; exact Nat.le_refl _
  have at112 : ∀ v, 1 ≤ v → v ≤ most → v ≤ lf k0 → (∀ j, j < L → v ≤ r (pt j) (c j) - g (pt j) (c j) ∧ v ≤ g (pt (j + 1)) (c j)) → v ≤ r (pt L) (c L) - g (pt L) (c L) → ∀ z5 z6 z7, At 112 [.ref 81, .int (nI k0), .int (nI f0), .int (nI most), .int (nI v), .int z5, .int z6, .int z7] [] σ 0 0 := by
    intro v v1 v2 v3 v4 v5 z5 z6 z7
    have e87 := hw.2.2 k0 hk0
    refine hAt 6 _ _ _ _ _ _ ?_
    refine s_Row_add (a := 86) (na := 87) (n := 8) rfl (show k0 < 8 by omega) ?_
    refine Eq.mpr (congrArg (fun xq : Mem => At 123 [.ref (81), .int (nI k0), .int (nI f0), .int (nI most), .int (nI v), .int (z5), .int (z6), .int (z7)] [] xq 0 0) (congrArg (fun z => wI σ 87 k0 z) (show rI σ 87 k0 + (-(nI v)) = nI ((lf k0) - v) from (adN e87 (by omega))))) ?_
    refine hAt 4 _ _ _ _ _ _ ?_
    have q := two v v1 v2 v3 v4 v5 0 (Nat.zero_le _) (wI σ 87 k0 (nI (lf k0 - v))) g (.int z7) (fun a j u1 u2 => ?_) rfl ⟨fun k f hk hf => ?_, fun k f hk hf => ?_, fun k hk => ?_⟩ hr (fun _ _ _ _ => rfl) rfl (fun k hk => ?_) (fun _ _ => rfl)
    · rw [hp0] at q; exact q
    · rw [rI_wI, if_neg (by omega)]
    · rw [rI_wI, if_neg (by omega)]; exact hw.1 k f hk hf
    · rw [rI_wI, if_neg (by omega)]; exact hw.2.1 k f hk hf
    · rw [rI_wI]
      unfold up1
      by_cases e : k = k0
      · rw [if_pos ⟨rfl, e⟩, if_pos e]
      · rw [if_neg (by omega), if_neg e]; exact hw.2.2 k hk
    · rw [hp0]
  have one : ∀ i, i ≤ L → ∀ v z7, 1 ≤ v → v ≤ most → v ≤ lf k0 → (∀ j, j < i → v ≤ r (pt j) (c j) - g (pt j) (c j) ∧ v ≤ g (pt (j + 1)) (c j)) → At 20 [.ref 81, .int (nI k0), .int (nI f0), .int (nI most), .int (nI v), .int (nI (pt i)), .int (nI i), z7] [] σ 0 0 := by
    refine upto fun i hi ih => ?_
    intro v z7 v1 v2 v3 v4
    have z0 := hp.1 i hi
    have hnx : i < L → pt (i + 1) < n ∧ 0 < g (pt (i + 1)) (c i) ∧ rI σ 93 (c i) = nI (pt (i + 1)) := fun q => ⟨(hp.1 (i + 1) (by omega)).1, (hp.2.1 i q).2.2.1, h93 i q⟩
    have hii : i = L ∨ i < L := by omega
    have e91 : rI σ 91 (pt i) = nI (c i) := h91 i hi
    have hfi : c i = f0 → i = L := hlast i hi
    have hLf : i = L → c i = f0 := fun e => by rw [e]; exact hp.2.2
    obtain ⟨kk, hkk⟩ : ∃ x, x = pt i := ⟨_, rfl⟩
    obtain ⟨cc, hcc⟩ : ∃ x, x = c i := ⟨_, rfl⟩
    obtain ⟨kn, hkn⟩ : ∃ x, x = pt (i + 1) := ⟨_, rfl⟩
    rw [← hkk, ← hcc] at z0 e91
    rw [← hkk]
    rw [← hcc] at hfi hLf hnx
    rw [← hkn] at hnx
    have gbb := hb kk cc z0.1 z0.2.1
    have gbr := hr kk cc z0.1 z0.2.1
    have v4n : ∀ x, x ≤ v → x ≤ r kk cc - g kk cc → x ≤ g kn cc → ∀ j, j < i + 1 → x ≤ r (pt j) (c j) - g (pt j) (c j) ∧ x ≤ g (pt (j + 1)) (c j) := fun x x1 x2 x3 j hj => by
      by_cases e : j = i
      · subst e; rw [← hkk, ← hcc, ← hkn]; exact ⟨x2, x3⟩
      · have := v4 j (by omega); omega
    refine hAt 3 _ _ _ _ _ _ ?_
    refine And.intro (fun hq => ?_) (fun hq => ?_)
    · have c24 : 8 ≤ i := (leN (a := 8) (b := i) rfl rfl (by omega) (by omega)).mp hq
      clear hq
      exact absurd c24 (by omega)
    · have c24 : i < 8 := Nat.lt_of_not_le (fun zq => hq ((leN (a := 8) (b := i) rfl rfl (by omega) (by omega)).mpr zq))
      clear hq
      refine hAt 4 _ _ _ _ _ _ ?_
      refine s_Row_get (a := 90) (na := 91) (n := 8) rfl (show kk < 8 by omega) ?_
      refine Eq.mpr (congrArg (fun xq : Int32 => At 36 [.ref (81), .int (nI k0), .int (nI f0), .int (nI most), .int (nI v), .int (nI kk), .int (nI i), z7] [.int xq] σ 0 0) (show rI σ 91 kk = nI cc from e91)) ?_
      refine hAt 7 _ _ _ _ _ _ ?_
      refine s_Table_get (a := 82) (na := 83) (mo := 8) (wd := 12) rfl (show kk < 8 by omega) (show cc < 12 by omega) ?_
      refine Eq.mpr (congrArg (fun xq : Int32 => At 51 [.ref (81), .int (nI k0), .int (nI f0), .int (nI most), .int (nI v), .int (nI kk), .int (nI i), .int (nI cc)] [.int xq, .int (nI v)] σ 0 0) (show rI σ 83 (kk * 12 + cc) = nI (r kk cc) from (hw.1 kk cc z0.1 z0.2.1))) ?_
      refine hAt 5 _ _ _ _ _ _ ?_
      refine s_Table_get (a := 84) (na := 85) (mo := 8) (wd := 12) rfl (show kk < 8 by omega) (show cc < 12 by omega) ?_
      refine Eq.mpr (congrArg (fun xq : Int32 => At 62 [.ref (81), .int (nI k0), .int (nI f0), .int (nI most), .int (nI v), .int (nI kk), .int (nI i), .int (nI cc)] [.int xq, .int (nI (r kk cc)), .int (nI v)] σ 0 0) (show rI σ 85 (kk * 12 + cc) = nI (g kk cc) from (hw.2.1 kk cc (by omega) z0.2.1))) ?_
      refine hAt 6 _ _ _ _ _ _ ?_
      refine And.intro (fun hq => ?_) (fun hq => ?_)
      · have c71 : ¬ cc = f0 := fun zq => hq ((eqN (a := cc) (b := f0) rfl rfl (by omega) (by omega)).mpr zq)
        clear hq
        have hiL : i < L := by
          rcases hii with q | q
          · exact absurd (hLf q) c71
          · exact q
        have hk1 := (hnx hiL).1
        have hk2 := (hnx hiL).2.1
        have gbn := hr kn cc hk1 z0.2.1
        have gbm := hb kn cc hk1 z0.2.1
        refine hAt 4 _ _ _ _ _ _ ?_
        refine s_Row_get (a := 92) (na := 93) (n := 12) rfl (show cc < 12 by omega) ?_
        refine Eq.mpr (congrArg (fun xq : Int32 => At 86 [.ref (81), .int (nI k0), .int (nI f0), .int (nI most), .int ((if ((nI (r kk cc)) - (nI (g kk cc))) < (nI v) then ((nI (r kk cc)) - (nI (g kk cc))) else (nI v))), .int (nI kk), .int (nI i), .int (nI cc)] [.int xq] σ 0 0) (show rI σ 93 cc = nI kn from (hnx hiL).2.2)) ?_
        refine hAt 7 _ _ _ _ _ _ ?_
        refine s_Table_get (a := 84) (na := 85) (mo := 8) (wd := 12) rfl (show kn < 8 by omega) (show cc < 12 by omega) ?_
        refine Eq.mpr (congrArg (fun xq : Int32 => At 101 [.ref (81), .int (nI k0), .int (nI f0), .int (nI most), .int ((if ((nI (r kk cc)) - (nI (g kk cc))) < (nI v) then ((nI (r kk cc)) - (nI (g kk cc))) else (nI v))), .int (nI kn), .int (nI i), .int (nI cc)] [.int xq, .int ((if ((nI (r kk cc)) - (nI (g kk cc))) < (nI v) then ((nI (r kk cc)) - (nI (g kk cc))) else (nI v)))] σ 0 0) (show rI σ 85 (kn * 12 + cc) = nI (g kn cc) from (hw.2.1 kn cc (by omega) z0.2.1))) ?_
        refine hAt 4 _ _ _ _ _ _ ?_
        refine Eq.mpr (congrArg (fun xq : Int32 => At 20 [.ref (81), .int (nI k0), .int (nI f0), .int (nI most), .int xq, .int (nI kn), .int (nI i + nI 1), .int (nI cc)] [] σ 0 0) (show (if (nI (g kn cc)) < (if ((nI (r kk cc)) - (nI (g kk cc))) < (nI v) then ((nI (r kk cc)) - (nI (g kk cc))) else (nI v)) then (nI (g kn cc)) else (if ((nI (r kk cc)) - (nI (g kk cc))) < (nI v) then ((nI (r kk cc)) - (nI (g kk cc))) else (nI v))) = nI (min (min v ((r kk cc) - (g kk cc))) (g kn cc)) from (minE (minE rfl (sbE rfl rfl (by omega)) (by omega) (by omega)) rfl (by omega) (by omega)))) ?_
        refine Eq.mpr (congrArg (fun xq : Int32 => At 20 [.ref (81), .int (nI k0), .int (nI f0), .int (nI most), .int (nI (min (min v ((r kk cc) - (g kk cc))) (g kn cc))), .int (nI kn), .int xq, .int (nI cc)] [] σ 0 0) (show nI i + nI 1 = nI (i + 1) from (adE rfl rfl))) ?_
        have q := ih hiL (min (min v (r kk cc - g kk cc)) (g kn cc)) (.int (nI cc)) (by omega) (by omega) (by omega) (v4n _ (by omega) (by omega) (by omega))
        rw [← hkn] at q
        exact q
      · have c71 : cc = f0 := (eqN (a := cc) (b := f0) rfl rfl (by omega) (by omega)).mp hq
        clear hq
        refine hAt 1 _ _ _ _ _ _ ?_
        refine Eq.mpr (congrArg (fun xq : Int32 => At 112 [.ref (81), .int (nI k0), .int (nI f0), .int (nI most), .int xq, .int (nI kk), .int (nI i), .int (nI cc)] [] σ 0 0) (show (if ((nI (r kk cc)) - (nI (g kk cc))) < (nI v) then ((nI (r kk cc)) - (nI (g kk cc))) else (nI v)) = nI (min v ((r kk cc) - (g kk cc))) from (minE rfl (sbE rfl rfl (by omega)) (by omega) (by omega)))) ?_
        have hiL := hfi c71
        exact at112 _ (by omega) (by omega) (by omega) (fun j hj => by have := v4 j (by omega); omega) (by rw [← hiL, ← hkk, ← hcc]; omega) _ _ _
  refine hAt 5 _ _ _ _ _ _ ?_
  refine s_Row_get (a := 86) (na := 87) (n := 8) rfl (show k0 < 8 by omega) ?_
  refine Eq.mpr (congrArg (fun xq : Int32 => At 9 [.ref (81), .int (nI k0), .int (nI f0), .int (nI most), junk, junk, junk, junk] [.int xq, .int (nI most)] σ 0 0) (show rI σ 87 k0 = nI (lf k0) from (hw.2.2 k0 hk0))) ?_
  refine hAt 6 _ _ _ _ _ _ ?_
  refine Eq.mpr (congrArg (fun xq : Int32 => At 20 [.ref (81), .int (nI k0), .int (nI f0), .int (nI most), .int xq, .int (nI k0), .int (nI 0), junk] [] σ 0 0) (show (if (nI (lf k0)) < (nI most) then (nI (lf k0)) else (nI most)) = nI (min most (lf k0)) from (minE rfl rfl (by omega) (by omega)))) ?_
  have q := one 0 (Nat.zero_le _) (min most (lf k0)) junk (by omega) (by omega) (by omega) (fun j hj => absurd hj (Nat.not_lt_zero j))
  rw [hp0] at q
  exact q
theorem s_quench {r g : Nat → Nat → Nat} {lf Q b : Nat → Nat} {f0 : Nat} (hS : skC σ 4 s) (hv : VS s) (hw : wC (kT s 2) (kT s 3) r g lf σ) (hb : ∀ k f, k < kT s 2 → f < kT s 3 → r k f ≤ 4950) (hr : ∀ k f, k < kT s 2 → f < kT s 3 → g k f ≤ r k f) (hQ : ∀ k, k < kT s 2 → Q k ≤ 999) (hsum : ∀ k, k < kT s 2 → sumN (g k) (kT s 3) + lf k = Q k) (hf0 : f0 < kT s 3) (hcol : ∀ f, f < kT s 3 → sumN (fun k => g k f) (kT s 2) = b f) (hb0 : b f0 = 0)
    (hP : ∀ τ g' lf' x, (∀ a j, a ≠ 85 → a ≠ 87 → a ≠ 91 → a ≠ 93 → a ≠ 95 → rI τ a j = rI σ a j) → τ.2 = σ.2 → wC (kT s 2) (kT s 3) r g' lf' τ → (∀ k f, k < kT s 2 → f < kT s 3 → g' k f ≤ r k f) → (∀ k, k < kT s 2 → sumN (g' k) (kT s 3) + lf' k = Q k) → (∀ f, f < kT s 3 → sumN (fun k => g' k f) (kT s 2) = up1 b f0 x f) → x ≤ kF s f0 3 → (x = kF s f0 3 ∨ ∃ R C, R f0 = true ∧ (∀ f, f < kT s 3 → R f = true → f = f0 ∨ ∃ k, k < kT s 2 ∧ 0 < g' k f) ∧ cert (kT s 2) (kT s 3) r Q g' R C) → P (some (.int (nI x))) τ) : Ret w true (d + 4) 0 0 m_Worth_quench [.ref 81, .int (nI f0)] σ P X := by
  have hn := hv.2.2.1
  have hF := hv.2.2.2.1
  have bF := hv.2.2.2.2.2.2.2.2.2.2.2.2.2.1 f0 hf0
  refine meth_ok k_Worth_quench q_Worth_quench rfl fun At hAt => ?_
  obtain ⟨T, hT⟩ : ∃ T, T = kF s f0 3 := ⟨_, rfl⟩
  rw [← hT] at hP bF
  have loop : ∀ st, st ≤ T → ∀ τ g lf got z5, (∀ a j, a ≠ 85 → a ≠ 87 → a ≠ 91 → a ≠ 93 → a ≠ 95 → rI τ a j = rI σ a j) → τ.2 = σ.2 → wC (kT s 2) (kT s 3) r g lf τ → (∀ k f, k < kT s 2 → f < kT s 3 → g k f ≤ r k f) → (∀ k, k < kT s 2 → sumN (g k) (kT s 3) + lf k = Q k) → (∀ f, f < kT s 3 → sumN (fun k => g k f) (kT s 2) = up1 b f0 got f) → st ≤ got → got ≤ T → At 18 [.ref 81, .int (nI f0), .int (nI T), .int (nI got), .int (nI st), z5] [] τ 0 0 := by
    refine upto fun st hst ih => ?_
    intro τ g lf got z5 t1 t2 hw hr hsum hcol h1 h2
    have hS := hS.frame9 (τ := τ) (fun a j h => t1 a j (by omega) (by omega) (by omega) (by omega) (by omega))
    have hl : ∀ k, k < kT s 2 → lf k ≤ 999 := fun k hk => by have := hsum k hk; have := hQ k hk; omega
    have nof : ∀ τ2, (∀ a j, a ≠ 91 → a ≠ 93 → a ≠ 95 → rI τ2 a j = rI τ a j) → τ2.2 = τ.2 → (∃ R C, R f0 = true ∧ (∀ f, f < kT s 3 → R f = true → f = f0 ∨ ∃ k, k < kT s 2 ∧ 0 < g k f) ∧ cert (kT s 2) (kT s 3) r Q g R C) → At 34 [.ref 81, .int (nI f0), .int (nI T), .int (nI got), .int (nI st), z5] [.int (-1)] τ2 0 0 := by
      intro τ2 g1 g2 hc
      refine hAt 4 _ _ _ _ _ _ ?_
      refine And.intro (fun hq => absurd hq (by decide)) (fun _ => ?_)
      refine hAt 2 _ _ _ _ _ _ ?_
      exact hP τ2 g lf got (fun a j u1 u2 u3 u4 u5 => (g1 a j u3 u4 u5).trans (t1 a j u1 u2 u3 u4 u5)) (g2.trans t2) (hw.frame (fun a j u => g1 a j (by omega) (by omega) (by omega))) hr hsum hcol h2 (Or.inr hc)
    have yes : got < T → st < T → ∀ τ2 cf fb rk k, (∀ a j, a ≠ 91 → a ≠ 93 → a ≠ 95 → rI τ2 a j = rI τ a j) → τ2.2 = τ.2 → (∀ k, k < kT s 2 → rI τ2 91 k = oI (cf k)) → (∀ f, f < kT s 3 → rI τ2 93 f = oI (fb f)) → BI4 (kT s 2) (kT s 3) r g f0 cf fb → BI5 (kT s 2) (kT s 3) g cf fb → BI6 (kT s 2) cf fb rk → k < kT s 2 → cf k ≠ none → 0 < lf k → At 34 [.ref 81, .int (nI f0), .int (nI T), .int (nI got), .int (nI st), z5] [.int (nI k)] τ2 0 0 := by
      intro hgT hsT τ2 cf fb rk k g1 g2 m1 m2 h4 h5 h6 hk hck hlk
      obtain ⟨L, pt, c, p1, p2, p3⟩ := path_ex h4 h5 h6 (rk k + 1) k hk hck (by omega)
      have hL : L ≤ 7 := by have := h6.2 k hk hck; have := cnO_le cf (kT s 2); omega
      refine hAt 4 _ _ _ _ _ _ ?_
      refine And.intro (fun hq => ?_) (fun hq => ?_)
      · have c39 : ¬ (k : Int) = -1 := fun zq => hq ((eqZ (a := (k : Int)) (b := -1) (ntZ rfl) m1Z (by omega) (by omega) (by omega) (by omega)).mpr zq)
        clear hq
        refine hAt 7 _ _ _ _ _ _ ?_
        refine Eq.mpr (congrArg (fun xq : Int32 => At 52 [.ref (81), .int (nI f0), .int (nI T), .int (nI got), .int (nI st), .int (nI k)] [.int xq, .int (nI f0), .int (nI k), .ref (81), .int (nI got)] τ2 0 0) (show nI T - nI got = nI (T - got) from (sbE rfl rfl (by omega)))) ?_
        refine hAt 5 _ _ _ _ _ _ ?_
        refine s_lead hn hF (hw.frame (fun a j u => g1 a j (by omega) (by omega) (by omega))) m1 m2 p3 h6 p2 hL hlk (hl k hk) (by omega) (by omega) hb hr (fun τ3 v g' lf' w1 w2 w3 w4 w5 w6 w7 w8 w9 => ?_)
        refine Eq.mpr (congrArg (fun xq : Int32 => At 18 [.ref (81), .int (nI f0), .int (nI T), .int xq, .int (nI st + nI 1), .int (nI k)] [] τ3 0 0) (show nI got + nI v = nI (got + v) from (adE rfl rfl))) ?_
        refine Eq.mpr (congrArg (fun xq : Int32 => At 18 [.ref (81), .int (nI f0), .int (nI T), .int (nI (got + v)), .int xq, .int (nI k)] [] τ3 0 0) (show nI st + nI 1 = nI (st + 1) from (adE rfl rfl))) ?_
        refine ih hsT τ3 g' lf' (got + v) _ (fun a j u1 u2 u3 u4 u5 => (w1 a j u1 u2).trans ((g1 a j u3 u4 u5).trans (t1 a j u1 u2 u3 u4 u5))) (w2.trans (g2.trans t2)) w5 w6 (fun k hk => (w7 k hk).trans (hsum k hk)) (fun f hf => ?_) (by omega) (by omega)
        rw [w8 f hf, hcol f hf]
        unfold up1
        by_cases e : f = f0
        · rw [if_pos e, if_pos e, if_pos e]
        · rw [if_neg e, if_neg e, if_neg e, Nat.add_zero]
      · have c39 : (k : Int) = -1 := (eqZ (a := (k : Int)) (b := -1) (ntZ rfl) m1Z (by omega) (by omega) (by omega) (by omega)).mp hq
        clear hq
        exact absurd c39 (by omega)
    refine hAt 3 _ _ _ _ _ _ ?_
    refine And.intro (fun hq => ?_) (fun hq => ?_)
    · have c21 : T ≤ st := (leN (a := T) (b := st) rfl rfl (by omega) (by omega)).mp hq
      clear hq
      refine hAt 2 _ _ _ _ _ _ ?_
      exact hP τ g lf got t1 t2 hw hr hsum hcol h2 (Or.inl (by omega))
    · have c21 : st < T := Nat.lt_of_not_le (fun zq => hq ((leN (a := T) (b := st) rfl rfl (by omega) (by omega)).mpr zq))
      clear hq
      refine hAt 3 _ _ _ _ _ _ ?_
      refine And.intro (fun hq => ?_) (fun hq => ?_)
      · have c26 : T ≤ got := (leN (a := T) (b := got) rfl rfl (by omega) (by omega)).mp hq
        clear hq
        refine hAt 2 _ _ _ _ _ _ ?_
        exact hP τ g lf got t1 t2 hw hr hsum hcol h2 (Or.inl (by omega))
      · have c26 : got < T := Nat.lt_of_not_le (fun zq => hq ((leN (a := T) (b := got) rfl rfl (by omega) (by omega)).mpr zq))
        clear hq
        refine hAt 2 _ _ _ _ _ _ ?_
        refine hAt 1 _ _ _ _ _ _ ?_
        exact s_findWater hS hv hw hb hr hl hsum hf0 nof (yes c26 c21)
  refine hAt 6 _ _ _ _ _ _ ?_
  refine s_Table_get (a := 10) (na := 11) (mo := 12) (wd := 6) rfl (show f0 < 12 by omega) (show 3 < 6 by omega) ?_
  refine Eq.mpr (congrArg (fun xq : Int32 => At 12 [.ref (81), .int (nI f0), junk, junk, junk, junk] [.int xq] σ 0 0) (show rI σ 11 (f0 * 6 + 3) = nI T from (by rw [hT]; exact hS.2.2.2.1.2 f0 hf0 3 (by omega)))) ?_
  refine hAt 5 _ _ _ _ _ _ ?_
  exact loop 0 (Nat.zero_le _) σ g lf 0 _ (fun _ _ _ _ _ _ _ => rfl) rfl hw hr hsum (fun f hf => by
    rw [hcol f hf]; unfold up1
    by_cases e : f = f0
    · rw [if_pos e, e, hb0]
    · rw [if_neg e]) (Nat.le_refl _) (Nat.zero_le _)
end WD
