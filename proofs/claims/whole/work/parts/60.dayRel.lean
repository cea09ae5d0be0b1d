/-! THE DAY: how both sides hold it; by program (wip/sx/p60.py) -/
def fC (σ0 σ : Mem) : Prop := (∀ a j, ¬ (59 ≤ a ∧ a ≤ 80) → rI σ a j = rI σ0 a j) ∧ σ.2 = σ0.2
theorem gN_ne {D : Dy} {t i v a b : Nat} (h : ¬ (a = t ∧ b = i)) : gN (sN D t i v) a b = gN D a b := by rw [gN_sN, if_neg h]
def clV (s : Sk) (D : Dy) (hf : Nat → Nat) (k : Nat) : Int32 := if gN D 0 k = 1 then tr s k (hf k) else -1
def eC (σ0 : Mem) (s : Sk) (h : Nat) (hf : Nat → Nat) (D : Dy) (σ : Mem) : Prop :=
  fC σ0 σ ∧
  (∀ k, k < kT s 2 → rI σ 72 k = clV s D hf k) ∧ (∀ k, k < kT s 2 → gN D 0 k = 1 → rI σ 76 k = nI (gN D 1 k)) ∧
  (∀ k, k < kT s 2 → gN D 0 k = 1 → rI σ 78 k = nI (gN D 2 k)) ∧
  (∀ f, f < kT s 3 → rI σ 70 (f * 3 + 0) = nI (gN D 3 f)) ∧
  (∀ k o, k < kT s 2 → (gN D 0 k = 1 ∨ h ≤ kC s k 3) → o < 8 → rI σ 74 (k * 8 + o) = nI (gN D (8 + k) o)) ∧
  (∀ g o, g < 3 → o < 8 → rI σ 64 (g * 8 + o) = nI (gN D (16 + g) o)) ∧
  (∀ c o, c < 64 → o < 8 → rI σ 62 (c * 8 + o) = nI (gN D (20 + c) o)) ∧
  (∀ f, f < kT s 3 → rI σ 70 (f * 3 + 1) = gD D 1 f) ∧
  (∀ f, f < kT s 3 → rI σ 70 (f * 3 + 2) = gD D 2 f) ∧
  (∀ o i, o < 8 → i < 3 → rI σ 66 (o * 3 + i) = gD D (3 + i) o) ∧
  (∀ f, f < 7 → rI σ 68 (f * 2 + 0) = gD D 6 f) ∧
  (∀ f, f < 7 → rI σ 68 (f * 2 + 1) = gD D 7 f) ∧
  (rI σ 59 8 = gD D 0 0) ∧
  (rI σ 59 9 = gD D 0 1) ∧
  (rI σ 59 10 = gD D 0 2) ∧
  (rI σ 60 6 = gD D 0 3) ∧
  (rI σ 60 7 = gD D 0 4) ∧
  (rI σ 60 8 = gD D 0 5) ∧
  (rI σ 60 9 = gD D 0 6)
theorem eC.own {σ : Mem} {σ0 : Mem} {s : Sk} {h : Nat} {hf : Nat → Nat} {D : Dy} (hc : eC σ0 s h hf D σ) : (∀ k, k < kT s 2 → gN D 0 k = 1 → rI σ 76 k = nI (gN D 1 k)) := hc.2.2.1
theorem eC.min {σ : Mem} {σ0 : Mem} {s : Sk} {h : Nat} {hf : Nat → Nat} {D : Dy} (hc : eC σ0 s h hf D σ) : (∀ k, k < kT s 2 → gN D 0 k = 1 → rI σ 78 k = nI (gN D 2 k)) := hc.2.2.2.1
theorem eC.thi {σ : Mem} {σ0 : Mem} {s : Sk} {h : Nat} {hf : Nat → Nat} {D : Dy} (hc : eC σ0 s h hf D σ) : (∀ f, f < kT s 3 → rI σ 70 (f * 3 + 0) = nI (gN D 3 f)) := hc.2.2.2.2.1
theorem eC.par {σ : Mem} {σ0 : Mem} {s : Sk} {h : Nat} {hf : Nat → Nat} {D : Dy} (hc : eC σ0 s h hf D σ) : (∀ k o, k < kT s 2 → (gN D 0 k = 1 ∨ h ≤ kC s k 3) → o < 8 → rI σ 74 (k * 8 + o) = nI (gN D (8 + k) o)) := hc.2.2.2.2.2.1
theorem eC.kep {σ : Mem} {σ0 : Mem} {s : Sk} {h : Nat} {hf : Nat → Nat} {D : Dy} (hc : eC σ0 s h hf D σ) : (∀ g o, g < 3 → o < 8 → rI σ 64 (g * 8 + o) = nI (gN D (16 + g) o)) := hc.2.2.2.2.2.2.1
theorem eC.rai {σ : Mem} {σ0 : Mem} {s : Sk} {h : Nat} {hf : Nat → Nat} {D : Dy} (hc : eC σ0 s h hf D σ) : (∀ c o, c < 64 → o < 8 → rI σ 62 (c * 8 + o) = nI (gN D (20 + c) o)) := hc.2.2.2.2.2.2.2.1
theorem eC.flo {σ : Mem} {σ0 : Mem} {s : Sk} {h : Nat} {hf : Nat → Nat} {D : Dy} (hc : eC σ0 s h hf D σ) : (∀ f, f < kT s 3 → rI σ 70 (f * 3 + 1) = gD D 1 f) := hc.2.2.2.2.2.2.2.2.1
theorem eC.hai {σ : Mem} {σ0 : Mem} {s : Sk} {h : Nat} {hf : Nat → Nat} {D : Dy} (hc : eC σ0 s h hf D σ) : (∀ f, f < kT s 3 → rI σ 70 (f * 3 + 2) = gD D 2 f) := hc.2.2.2.2.2.2.2.2.2.1
theorem eC.acc {σ : Mem} {σ0 : Mem} {s : Sk} {h : Nat} {hf : Nat → Nat} {D : Dy} (hc : eC σ0 s h hf D σ) : (∀ o i, o < 8 → i < 3 → rI σ 66 (o * 3 + i) = gD D (3 + i) o) := hc.2.2.2.2.2.2.2.2.2.2.1
theorem eC.pay {σ : Mem} {σ0 : Mem} {s : Sk} {h : Nat} {hf : Nat → Nat} {D : Dy} (hc : eC σ0 s h hf D σ) : (∀ f, f < 7 → rI σ 68 (f * 2 + 0) = gD D 6 f) := hc.2.2.2.2.2.2.2.2.2.2.2.1
theorem eC.owe {σ : Mem} {σ0 : Mem} {s : Sk} {h : Nat} {hf : Nat → Nat} {D : Dy} (hc : eC σ0 s h hf D σ) : (∀ f, f < 7 → rI σ 68 (f * 2 + 1) = gD D 7 f) := hc.2.2.2.2.2.2.2.2.2.2.2.2.1
theorem eC.sed {σ : Mem} {σ0 : Mem} {s : Sk} {h : Nat} {hf : Nat → Nat} {D : Dy} (hc : eC σ0 s h hf D σ) : (rI σ 59 8 = gD D 0 0) := hc.2.2.2.2.2.2.2.2.2.2.2.2.2.1
theorem eC.gon {σ : Mem} {σ0 : Mem} {s : Sk} {h : Nat} {hf : Nat → Nat} {D : Dy} (hc : eC σ0 s h hf D σ) : (rI σ 59 9 = gD D 0 1) := hc.2.2.2.2.2.2.2.2.2.2.2.2.2.2.1
theorem eC.joi {σ : Mem} {σ0 : Mem} {s : Sk} {h : Nat} {hf : Nat → Nat} {D : Dy} (hc : eC σ0 s h hf D σ) : (rI σ 59 10 = gD D 0 2) := hc.2.2.2.2.2.2.2.2.2.2.2.2.2.2.2.1
theorem eC.tak {σ : Mem} {σ0 : Mem} {s : Sk} {h : Nat} {hf : Nat → Nat} {D : Dy} (hc : eC σ0 s h hf D σ) : (rI σ 60 6 = gD D 0 3) := hc.2.2.2.2.2.2.2.2.2.2.2.2.2.2.2.2.1
theorem eC.fld {σ : Mem} {σ0 : Mem} {s : Sk} {h : Nat} {hf : Nat → Nat} {D : Dy} (hc : eC σ0 s h hf D σ) : (rI σ 60 7 = gD D 0 4) := hc.2.2.2.2.2.2.2.2.2.2.2.2.2.2.2.2.2.1
theorem eC.was {σ : Mem} {σ0 : Mem} {s : Sk} {h : Nat} {hf : Nat → Nat} {D : Dy} (hc : eC σ0 s h hf D σ) : (rI σ 60 8 = gD D 0 5) := hc.2.2.2.2.2.2.2.2.2.2.2.2.2.2.2.2.2.2.1
theorem eC.hls {σ : Mem} {σ0 : Mem} {s : Sk} {h : Nat} {hf : Nat → Nat} {D : Dy} (hc : eC σ0 s h hf D σ) : (rI σ 60 9 = gD D 0 6) := hc.2.2.2.2.2.2.2.2.2.2.2.2.2.2.2.2.2.2.2
theorem eC.wown {σ : Mem} {σ0 : Mem} {s : Sk} {h : Nat} {hf : Nat → Nat} {D : Dy} {kq : Nat} {v : Nat} (hc : eC σ0 s h hf D σ) (hkq : kq < kT s 2) (hn : kT s 2 ≤ 8) (hF : kT s 3 ≤ 12) : eC σ0 s h hf (sN D 1 kq v) (wI σ 76 kq (nI v)) := by
  refine ⟨?_, ?_, ?_, ?_, ?_, ?_, ?_, ?_, ?_, ?_, ?_, ?_, ?_, ?_, ?_, ?_, ?_, ?_, ?_, ?_⟩
  · exact ⟨fun a j ha => by rw [rI_wI, if_neg (by omega)]; exact hc.1.1 a j ha, hc.1.2⟩
  · intro k hk; rw [rI_wI, if_neg (by omega), hc.2.1 k hk]; unfold clV; rw [gN_ne (by omega)]
  · intro k p0 p1; rw [gN_ne (by omega)] at p1; rw [rI_wI, gN_sN]
    by_cases e : k = kq
    · subst e; rw [if_pos ⟨rfl, rfl⟩, if_pos ⟨rfl, rfl⟩]
    · rw [if_neg (by omega), if_neg (by omega)]; exact hc.own k p0 p1
  · intro k p0 p1; rw [gN_ne (by omega)] at p1; rw [rI_wI, if_neg (by omega), gN_sN, if_neg (by omega)]; exact hc.min k p0 p1
  · intro f p0; rw [rI_wI, if_neg (by omega), gN_sN, if_neg (by omega)]; exact hc.thi f p0
  · intro k o p0 p1 p2; rw [gN_ne (by omega)] at p1; rw [rI_wI, if_neg (by omega), gN_sN, if_neg (by omega)]; exact hc.par k o p0 p1 p2
  · intro g o p0 p1; rw [rI_wI, if_neg (by omega), gN_sN, if_neg (by omega)]; exact hc.kep g o p0 p1
  · intro c o p0 p1; rw [rI_wI, if_neg (by omega), gN_sN, if_neg (by omega)]; exact hc.rai c o p0 p1
  · intro f p0; rw [rI_wI, if_neg (by omega), gD_sN]; exact hc.flo f p0
  · intro f p0; rw [rI_wI, if_neg (by omega), gD_sN]; exact hc.hai f p0
  · intro o i p0 p1; rw [rI_wI, if_neg (by omega), gD_sN]; exact hc.acc o i p0 p1
  · intro f p0; rw [rI_wI, if_neg (by omega), gD_sN]; exact hc.pay f p0
  · intro f p0; rw [rI_wI, if_neg (by omega), gD_sN]; exact hc.owe f p0
  · rw [rI_wI, if_neg (by omega), gD_sN]; exact hc.sed
  · rw [rI_wI, if_neg (by omega), gD_sN]; exact hc.gon
  · rw [rI_wI, if_neg (by omega), gD_sN]; exact hc.joi
  · rw [rI_wI, if_neg (by omega), gD_sN]; exact hc.tak
  · rw [rI_wI, if_neg (by omega), gD_sN]; exact hc.fld
  · rw [rI_wI, if_neg (by omega), gD_sN]; exact hc.was
  · rw [rI_wI, if_neg (by omega), gD_sN]; exact hc.hls
theorem eC.wmin {σ : Mem} {σ0 : Mem} {s : Sk} {h : Nat} {hf : Nat → Nat} {D : Dy} {kq : Nat} {v : Nat} (hc : eC σ0 s h hf D σ) (hkq : kq < kT s 2) (hn : kT s 2 ≤ 8) (hF : kT s 3 ≤ 12) : eC σ0 s h hf (sN D 2 kq v) (wI σ 78 kq (nI v)) := by
  refine ⟨?_, ?_, ?_, ?_, ?_, ?_, ?_, ?_, ?_, ?_, ?_, ?_, ?_, ?_, ?_, ?_, ?_, ?_, ?_, ?_⟩
  · exact ⟨fun a j ha => by rw [rI_wI, if_neg (by omega)]; exact hc.1.1 a j ha, hc.1.2⟩
  · intro k hk; rw [rI_wI, if_neg (by omega), hc.2.1 k hk]; unfold clV; rw [gN_ne (by omega)]
  · intro k p0 p1; rw [gN_ne (by omega)] at p1; rw [rI_wI, if_neg (by omega), gN_sN, if_neg (by omega)]; exact hc.own k p0 p1
  · intro k p0 p1; rw [gN_ne (by omega)] at p1; rw [rI_wI, gN_sN]
    by_cases e : k = kq
    · subst e; rw [if_pos ⟨rfl, rfl⟩, if_pos ⟨rfl, rfl⟩]
    · rw [if_neg (by omega), if_neg (by omega)]; exact hc.min k p0 p1
  · intro f p0; rw [rI_wI, if_neg (by omega), gN_sN, if_neg (by omega)]; exact hc.thi f p0
  · intro k o p0 p1 p2; rw [gN_ne (by omega)] at p1; rw [rI_wI, if_neg (by omega), gN_sN, if_neg (by omega)]; exact hc.par k o p0 p1 p2
  · intro g o p0 p1; rw [rI_wI, if_neg (by omega), gN_sN, if_neg (by omega)]; exact hc.kep g o p0 p1
  · intro c o p0 p1; rw [rI_wI, if_neg (by omega), gN_sN, if_neg (by omega)]; exact hc.rai c o p0 p1
  · intro f p0; rw [rI_wI, if_neg (by omega), gD_sN]; exact hc.flo f p0
  · intro f p0; rw [rI_wI, if_neg (by omega), gD_sN]; exact hc.hai f p0
  · intro o i p0 p1; rw [rI_wI, if_neg (by omega), gD_sN]; exact hc.acc o i p0 p1
  · intro f p0; rw [rI_wI, if_neg (by omega), gD_sN]; exact hc.pay f p0
  · intro f p0; rw [rI_wI, if_neg (by omega), gD_sN]; exact hc.owe f p0
  · rw [rI_wI, if_neg (by omega), gD_sN]; exact hc.sed
  · rw [rI_wI, if_neg (by omega), gD_sN]; exact hc.gon
  · rw [rI_wI, if_neg (by omega), gD_sN]; exact hc.joi
  · rw [rI_wI, if_neg (by omega), gD_sN]; exact hc.tak
  · rw [rI_wI, if_neg (by omega), gD_sN]; exact hc.fld
  · rw [rI_wI, if_neg (by omega), gD_sN]; exact hc.was
  · rw [rI_wI, if_neg (by omega), gD_sN]; exact hc.hls
theorem eC.wthi {σ : Mem} {σ0 : Mem} {s : Sk} {h : Nat} {hf : Nat → Nat} {D : Dy} {fq : Nat} {v : Nat} (hc : eC σ0 s h hf D σ) (hfq : fq < kT s 3) (hn : kT s 2 ≤ 8) (hF : kT s 3 ≤ 12) : eC σ0 s h hf (sN D 3 fq v) (wI σ 70 (fq * 3 + 0) (nI v)) := by
  refine ⟨?_, ?_, ?_, ?_, ?_, ?_, ?_, ?_, ?_, ?_, ?_, ?_, ?_, ?_, ?_, ?_, ?_, ?_, ?_, ?_⟩
  · exact ⟨fun a j ha => by rw [rI_wI, if_neg (by omega)]; exact hc.1.1 a j ha, hc.1.2⟩
  · intro k hk; rw [rI_wI, if_neg (by omega), hc.2.1 k hk]; unfold clV; rw [gN_ne (by omega)]
  · intro k p0 p1; rw [gN_ne (by omega)] at p1; rw [rI_wI, if_neg (by omega), gN_sN, if_neg (by omega)]; exact hc.own k p0 p1
  · intro k p0 p1; rw [gN_ne (by omega)] at p1; rw [rI_wI, if_neg (by omega), gN_sN, if_neg (by omega)]; exact hc.min k p0 p1
  · intro f p0; rw [rI_wI, gN_sN]
    by_cases e : f = fq
    · subst e; rw [if_pos ⟨rfl, rfl⟩, if_pos ⟨rfl, rfl⟩]
    · rw [if_neg (by omega), if_neg (by omega)]; exact hc.thi f p0
  · intro k o p0 p1 p2; rw [gN_ne (by omega)] at p1; rw [rI_wI, if_neg (by omega), gN_sN, if_neg (by omega)]; exact hc.par k o p0 p1 p2
  · intro g o p0 p1; rw [rI_wI, if_neg (by omega), gN_sN, if_neg (by omega)]; exact hc.kep g o p0 p1
  · intro c o p0 p1; rw [rI_wI, if_neg (by omega), gN_sN, if_neg (by omega)]; exact hc.rai c o p0 p1
  · intro f p0; rw [rI_wI, if_neg (by omega), gD_sN]; exact hc.flo f p0
  · intro f p0; rw [rI_wI, if_neg (by omega), gD_sN]; exact hc.hai f p0
  · intro o i p0 p1; rw [rI_wI, if_neg (by omega), gD_sN]; exact hc.acc o i p0 p1
  · intro f p0; rw [rI_wI, if_neg (by omega), gD_sN]; exact hc.pay f p0
  · intro f p0; rw [rI_wI, if_neg (by omega), gD_sN]; exact hc.owe f p0
  · rw [rI_wI, if_neg (by omega), gD_sN]; exact hc.sed
  · rw [rI_wI, if_neg (by omega), gD_sN]; exact hc.gon
  · rw [rI_wI, if_neg (by omega), gD_sN]; exact hc.joi
  · rw [rI_wI, if_neg (by omega), gD_sN]; exact hc.tak
  · rw [rI_wI, if_neg (by omega), gD_sN]; exact hc.fld
  · rw [rI_wI, if_neg (by omega), gD_sN]; exact hc.was
  · rw [rI_wI, if_neg (by omega), gD_sN]; exact hc.hls
theorem eC.wpar {σ : Mem} {σ0 : Mem} {s : Sk} {h : Nat} {hf : Nat → Nat} {D : Dy} {kq oq : Nat} {v : Nat} (hc : eC σ0 s h hf D σ) (hkq : kq < kT s 2) (hoq : oq < 8) (hn : kT s 2 ≤ 8) (hF : kT s 3 ≤ 12) : eC σ0 s h hf (sN D (8 + kq) oq v) (wI σ 74 (kq * 8 + oq) (nI v)) := by
  refine ⟨?_, ?_, ?_, ?_, ?_, ?_, ?_, ?_, ?_, ?_, ?_, ?_, ?_, ?_, ?_, ?_, ?_, ?_, ?_, ?_⟩
  · exact ⟨fun a j ha => by rw [rI_wI, if_neg (by omega)]; exact hc.1.1 a j ha, hc.1.2⟩
  · intro k hk; rw [rI_wI, if_neg (by omega), hc.2.1 k hk]; unfold clV; rw [gN_ne (by omega)]
  · intro k p0 p1; rw [gN_ne (by omega)] at p1; rw [rI_wI, if_neg (by omega), gN_sN, if_neg (by omega)]; exact hc.own k p0 p1
  · intro k p0 p1; rw [gN_ne (by omega)] at p1; rw [rI_wI, if_neg (by omega), gN_sN, if_neg (by omega)]; exact hc.min k p0 p1
  · intro f p0; rw [rI_wI, if_neg (by omega), gN_sN, if_neg (by omega)]; exact hc.thi f p0
  · intro k o p0 p1 p2; rw [gN_ne (by omega)] at p1; rw [rI_wI, gN_sN]
    by_cases e : k = kq ∧ o = oq
    · obtain ⟨rfl, rfl⟩ := e; rw [if_pos ⟨rfl, rfl⟩, if_pos ⟨rfl, rfl⟩]
    · rw [if_neg (by omega), if_neg (by omega)]; exact hc.par k o p0 p1 p2
  · intro g o p0 p1; rw [rI_wI, if_neg (by omega), gN_sN, if_neg (by omega)]; exact hc.kep g o p0 p1
  · intro c o p0 p1; rw [rI_wI, if_neg (by omega), gN_sN, if_neg (by omega)]; exact hc.rai c o p0 p1
  · intro f p0; rw [rI_wI, if_neg (by omega), gD_sN]; exact hc.flo f p0
  · intro f p0; rw [rI_wI, if_neg (by omega), gD_sN]; exact hc.hai f p0
  · intro o i p0 p1; rw [rI_wI, if_neg (by omega), gD_sN]; exact hc.acc o i p0 p1
  · intro f p0; rw [rI_wI, if_neg (by omega), gD_sN]; exact hc.pay f p0
  · intro f p0; rw [rI_wI, if_neg (by omega), gD_sN]; exact hc.owe f p0
  · rw [rI_wI, if_neg (by omega), gD_sN]; exact hc.sed
  · rw [rI_wI, if_neg (by omega), gD_sN]; exact hc.gon
  · rw [rI_wI, if_neg (by omega), gD_sN]; exact hc.joi
  · rw [rI_wI, if_neg (by omega), gD_sN]; exact hc.tak
  · rw [rI_wI, if_neg (by omega), gD_sN]; exact hc.fld
  · rw [rI_wI, if_neg (by omega), gD_sN]; exact hc.was
  · rw [rI_wI, if_neg (by omega), gD_sN]; exact hc.hls
theorem eC.wkep {σ : Mem} {σ0 : Mem} {s : Sk} {h : Nat} {hf : Nat → Nat} {D : Dy} {gq oq : Nat} {v : Nat} (hc : eC σ0 s h hf D σ) (hgq : gq < 3) (hoq : oq < 8) (hn : kT s 2 ≤ 8) (hF : kT s 3 ≤ 12) : eC σ0 s h hf (sN D (16 + gq) oq v) (wI σ 64 (gq * 8 + oq) (nI v)) := by
  refine ⟨?_, ?_, ?_, ?_, ?_, ?_, ?_, ?_, ?_, ?_, ?_, ?_, ?_, ?_, ?_, ?_, ?_, ?_, ?_, ?_⟩
  · exact ⟨fun a j ha => by rw [rI_wI, if_neg (by omega)]; exact hc.1.1 a j ha, hc.1.2⟩
  · intro k hk; rw [rI_wI, if_neg (by omega), hc.2.1 k hk]; unfold clV; rw [gN_ne (by omega)]
  · intro k p0 p1; rw [gN_ne (by omega)] at p1; rw [rI_wI, if_neg (by omega), gN_sN, if_neg (by omega)]; exact hc.own k p0 p1
  · intro k p0 p1; rw [gN_ne (by omega)] at p1; rw [rI_wI, if_neg (by omega), gN_sN, if_neg (by omega)]; exact hc.min k p0 p1
  · intro f p0; rw [rI_wI, if_neg (by omega), gN_sN, if_neg (by omega)]; exact hc.thi f p0
  · intro k o p0 p1 p2; rw [gN_ne (by omega)] at p1; rw [rI_wI, if_neg (by omega), gN_sN, if_neg (by omega)]; exact hc.par k o p0 p1 p2
  · intro g o p0 p1; rw [rI_wI, gN_sN]
    by_cases e : g = gq ∧ o = oq
    · obtain ⟨rfl, rfl⟩ := e; rw [if_pos ⟨rfl, rfl⟩, if_pos ⟨rfl, rfl⟩]
    · rw [if_neg (by omega), if_neg (by omega)]; exact hc.kep g o p0 p1
  · intro c o p0 p1; rw [rI_wI, if_neg (by omega), gN_sN, if_neg (by omega)]; exact hc.rai c o p0 p1
  · intro f p0; rw [rI_wI, if_neg (by omega), gD_sN]; exact hc.flo f p0
  · intro f p0; rw [rI_wI, if_neg (by omega), gD_sN]; exact hc.hai f p0
  · intro o i p0 p1; rw [rI_wI, if_neg (by omega), gD_sN]; exact hc.acc o i p0 p1
  · intro f p0; rw [rI_wI, if_neg (by omega), gD_sN]; exact hc.pay f p0
  · intro f p0; rw [rI_wI, if_neg (by omega), gD_sN]; exact hc.owe f p0
  · rw [rI_wI, if_neg (by omega), gD_sN]; exact hc.sed
  · rw [rI_wI, if_neg (by omega), gD_sN]; exact hc.gon
  · rw [rI_wI, if_neg (by omega), gD_sN]; exact hc.joi
  · rw [rI_wI, if_neg (by omega), gD_sN]; exact hc.tak
  · rw [rI_wI, if_neg (by omega), gD_sN]; exact hc.fld
  · rw [rI_wI, if_neg (by omega), gD_sN]; exact hc.was
  · rw [rI_wI, if_neg (by omega), gD_sN]; exact hc.hls
theorem eC.wrai {σ : Mem} {σ0 : Mem} {s : Sk} {h : Nat} {hf : Nat → Nat} {D : Dy} {cq oq : Nat} {v : Nat} (hc : eC σ0 s h hf D σ) (hcq : cq < 64) (hoq : oq < 8) (hn : kT s 2 ≤ 8) (hF : kT s 3 ≤ 12) : eC σ0 s h hf (sN D (20 + cq) oq v) (wI σ 62 (cq * 8 + oq) (nI v)) := by
  refine ⟨?_, ?_, ?_, ?_, ?_, ?_, ?_, ?_, ?_, ?_, ?_, ?_, ?_, ?_, ?_, ?_, ?_, ?_, ?_, ?_⟩
  · exact ⟨fun a j ha => by rw [rI_wI, if_neg (by omega)]; exact hc.1.1 a j ha, hc.1.2⟩
  · intro k hk; rw [rI_wI, if_neg (by omega), hc.2.1 k hk]; unfold clV; rw [gN_ne (by omega)]
  · intro k p0 p1; rw [gN_ne (by omega)] at p1; rw [rI_wI, if_neg (by omega), gN_sN, if_neg (by omega)]; exact hc.own k p0 p1
  · intro k p0 p1; rw [gN_ne (by omega)] at p1; rw [rI_wI, if_neg (by omega), gN_sN, if_neg (by omega)]; exact hc.min k p0 p1
  · intro f p0; rw [rI_wI, if_neg (by omega), gN_sN, if_neg (by omega)]; exact hc.thi f p0
  · intro k o p0 p1 p2; rw [gN_ne (by omega)] at p1; rw [rI_wI, if_neg (by omega), gN_sN, if_neg (by omega)]; exact hc.par k o p0 p1 p2
  · intro g o p0 p1; rw [rI_wI, if_neg (by omega), gN_sN, if_neg (by omega)]; exact hc.kep g o p0 p1
  · intro c o p0 p1; rw [rI_wI, gN_sN]
    by_cases e : c = cq ∧ o = oq
    · obtain ⟨rfl, rfl⟩ := e; rw [if_pos ⟨rfl, rfl⟩, if_pos ⟨rfl, rfl⟩]
    · rw [if_neg (by omega), if_neg (by omega)]; exact hc.rai c o p0 p1
  · intro f p0; rw [rI_wI, if_neg (by omega), gD_sN]; exact hc.flo f p0
  · intro f p0; rw [rI_wI, if_neg (by omega), gD_sN]; exact hc.hai f p0
  · intro o i p0 p1; rw [rI_wI, if_neg (by omega), gD_sN]; exact hc.acc o i p0 p1
  · intro f p0; rw [rI_wI, if_neg (by omega), gD_sN]; exact hc.pay f p0
  · intro f p0; rw [rI_wI, if_neg (by omega), gD_sN]; exact hc.owe f p0
  · rw [rI_wI, if_neg (by omega), gD_sN]; exact hc.sed
  · rw [rI_wI, if_neg (by omega), gD_sN]; exact hc.gon
  · rw [rI_wI, if_neg (by omega), gD_sN]; exact hc.joi
  · rw [rI_wI, if_neg (by omega), gD_sN]; exact hc.tak
  · rw [rI_wI, if_neg (by omega), gD_sN]; exact hc.fld
  · rw [rI_wI, if_neg (by omega), gD_sN]; exact hc.was
  · rw [rI_wI, if_neg (by omega), gD_sN]; exact hc.hls
theorem eC.wflo {σ : Mem} {σ0 : Mem} {s : Sk} {h : Nat} {hf : Nat → Nat} {D : Dy} {fq : Nat} {v : Int32} (hc : eC σ0 s h hf D σ) (hfq : fq < kT s 3) (hn : kT s 2 ≤ 8) (hF : kT s 3 ≤ 12) : eC σ0 s h hf (sD D 1 fq v) (wI σ 70 (fq * 3 + 1) v) := by
  refine ⟨?_, ?_, ?_, ?_, ?_, ?_, ?_, ?_, ?_, ?_, ?_, ?_, ?_, ?_, ?_, ?_, ?_, ?_, ?_, ?_⟩
  · exact ⟨fun a j ha => by rw [rI_wI, if_neg (by omega)]; exact hc.1.1 a j ha, hc.1.2⟩
  · intro k hk; rw [rI_wI, if_neg (by omega), hc.2.1 k hk]; unfold clV; rw [gN_sD]
  · intro k p0 p1; rw [gN_sD] at p1; rw [rI_wI, if_neg (by omega), gN_sD]; exact hc.own k p0 p1
  · intro k p0 p1; rw [gN_sD] at p1; rw [rI_wI, if_neg (by omega), gN_sD]; exact hc.min k p0 p1
  · intro f p0; rw [rI_wI, if_neg (by omega), gN_sD]; exact hc.thi f p0
  · intro k o p0 p1 p2; rw [gN_sD] at p1; rw [rI_wI, if_neg (by omega), gN_sD]; exact hc.par k o p0 p1 p2
  · intro g o p0 p1; rw [rI_wI, if_neg (by omega), gN_sD]; exact hc.kep g o p0 p1
  · intro c o p0 p1; rw [rI_wI, if_neg (by omega), gN_sD]; exact hc.rai c o p0 p1
  · intro f p0; rw [rI_wI, gD_sD]
    by_cases e : f = fq
    · subst e; rw [if_pos ⟨rfl, rfl⟩, if_pos ⟨rfl, rfl⟩]
    · rw [if_neg (by omega), if_neg (by omega)]; exact hc.flo f p0
  · intro f p0; rw [rI_wI, if_neg (by omega), gD_sD, if_neg (by omega)]; exact hc.hai f p0
  · intro o i p0 p1; rw [rI_wI, if_neg (by omega), gD_sD, if_neg (by omega)]; exact hc.acc o i p0 p1
  · intro f p0; rw [rI_wI, if_neg (by omega), gD_sD, if_neg (by omega)]; exact hc.pay f p0
  · intro f p0; rw [rI_wI, if_neg (by omega), gD_sD, if_neg (by omega)]; exact hc.owe f p0
  · rw [rI_wI, if_neg (by omega), gD_sD, if_neg (by omega)]; exact hc.sed
  · rw [rI_wI, if_neg (by omega), gD_sD, if_neg (by omega)]; exact hc.gon
  · rw [rI_wI, if_neg (by omega), gD_sD, if_neg (by omega)]; exact hc.joi
  · rw [rI_wI, if_neg (by omega), gD_sD, if_neg (by omega)]; exact hc.tak
  · rw [rI_wI, if_neg (by omega), gD_sD, if_neg (by omega)]; exact hc.fld
  · rw [rI_wI, if_neg (by omega), gD_sD, if_neg (by omega)]; exact hc.was
  · rw [rI_wI, if_neg (by omega), gD_sD, if_neg (by omega)]; exact hc.hls
theorem eC.whai {σ : Mem} {σ0 : Mem} {s : Sk} {h : Nat} {hf : Nat → Nat} {D : Dy} {fq : Nat} {v : Int32} (hc : eC σ0 s h hf D σ) (hfq : fq < kT s 3) (hn : kT s 2 ≤ 8) (hF : kT s 3 ≤ 12) : eC σ0 s h hf (sD D 2 fq v) (wI σ 70 (fq * 3 + 2) v) := by
  refine ⟨?_, ?_, ?_, ?_, ?_, ?_, ?_, ?_, ?_, ?_, ?_, ?_, ?_, ?_, ?_, ?_, ?_, ?_, ?_, ?_⟩
  · exact ⟨fun a j ha => by rw [rI_wI, if_neg (by omega)]; exact hc.1.1 a j ha, hc.1.2⟩
  · intro k hk; rw [rI_wI, if_neg (by omega), hc.2.1 k hk]; unfold clV; rw [gN_sD]
  · intro k p0 p1; rw [gN_sD] at p1; rw [rI_wI, if_neg (by omega), gN_sD]; exact hc.own k p0 p1
  · intro k p0 p1; rw [gN_sD] at p1; rw [rI_wI, if_neg (by omega), gN_sD]; exact hc.min k p0 p1
  · intro f p0; rw [rI_wI, if_neg (by omega), gN_sD]; exact hc.thi f p0
  · intro k o p0 p1 p2; rw [gN_sD] at p1; rw [rI_wI, if_neg (by omega), gN_sD]; exact hc.par k o p0 p1 p2
  · intro g o p0 p1; rw [rI_wI, if_neg (by omega), gN_sD]; exact hc.kep g o p0 p1
  · intro c o p0 p1; rw [rI_wI, if_neg (by omega), gN_sD]; exact hc.rai c o p0 p1
  · intro f p0; rw [rI_wI, if_neg (by omega), gD_sD, if_neg (by omega)]; exact hc.flo f p0
  · intro f p0; rw [rI_wI, gD_sD]
    by_cases e : f = fq
    · subst e; rw [if_pos ⟨rfl, rfl⟩, if_pos ⟨rfl, rfl⟩]
    · rw [if_neg (by omega), if_neg (by omega)]; exact hc.hai f p0
  · intro o i p0 p1; rw [rI_wI, if_neg (by omega), gD_sD, if_neg (by omega)]; exact hc.acc o i p0 p1
  · intro f p0; rw [rI_wI, if_neg (by omega), gD_sD, if_neg (by omega)]; exact hc.pay f p0
  · intro f p0; rw [rI_wI, if_neg (by omega), gD_sD, if_neg (by omega)]; exact hc.owe f p0
  · rw [rI_wI, if_neg (by omega), gD_sD, if_neg (by omega)]; exact hc.sed
  · rw [rI_wI, if_neg (by omega), gD_sD, if_neg (by omega)]; exact hc.gon
  · rw [rI_wI, if_neg (by omega), gD_sD, if_neg (by omega)]; exact hc.joi
  · rw [rI_wI, if_neg (by omega), gD_sD, if_neg (by omega)]; exact hc.tak
  · rw [rI_wI, if_neg (by omega), gD_sD, if_neg (by omega)]; exact hc.fld
  · rw [rI_wI, if_neg (by omega), gD_sD, if_neg (by omega)]; exact hc.was
  · rw [rI_wI, if_neg (by omega), gD_sD, if_neg (by omega)]; exact hc.hls
theorem eC.wacc {σ : Mem} {σ0 : Mem} {s : Sk} {h : Nat} {hf : Nat → Nat} {D : Dy} {oq iq : Nat} {v : Int32} (hc : eC σ0 s h hf D σ) (hoq : oq < 8) (hiq : iq < 3) (hn : kT s 2 ≤ 8) (hF : kT s 3 ≤ 12) : eC σ0 s h hf (sD D (3 + iq) oq v) (wI σ 66 (oq * 3 + iq) v) := by
  refine ⟨?_, ?_, ?_, ?_, ?_, ?_, ?_, ?_, ?_, ?_, ?_, ?_, ?_, ?_, ?_, ?_, ?_, ?_, ?_, ?_⟩
  · exact ⟨fun a j ha => by rw [rI_wI, if_neg (by omega)]; exact hc.1.1 a j ha, hc.1.2⟩
  · intro k hk; rw [rI_wI, if_neg (by omega), hc.2.1 k hk]; unfold clV; rw [gN_sD]
  · intro k p0 p1; rw [gN_sD] at p1; rw [rI_wI, if_neg (by omega), gN_sD]; exact hc.own k p0 p1
  · intro k p0 p1; rw [gN_sD] at p1; rw [rI_wI, if_neg (by omega), gN_sD]; exact hc.min k p0 p1
  · intro f p0; rw [rI_wI, if_neg (by omega), gN_sD]; exact hc.thi f p0
  · intro k o p0 p1 p2; rw [gN_sD] at p1; rw [rI_wI, if_neg (by omega), gN_sD]; exact hc.par k o p0 p1 p2
  · intro g o p0 p1; rw [rI_wI, if_neg (by omega), gN_sD]; exact hc.kep g o p0 p1
  · intro c o p0 p1; rw [rI_wI, if_neg (by omega), gN_sD]; exact hc.rai c o p0 p1
  · intro f p0; rw [rI_wI, if_neg (by omega), gD_sD, if_neg (by omega)]; exact hc.flo f p0
  · intro f p0; rw [rI_wI, if_neg (by omega), gD_sD, if_neg (by omega)]; exact hc.hai f p0
  · intro o i p0 p1; rw [rI_wI, gD_sD]
    by_cases e : o = oq ∧ i = iq
    · obtain ⟨rfl, rfl⟩ := e; rw [if_pos ⟨rfl, rfl⟩, if_pos ⟨rfl, rfl⟩]
    · rw [if_neg (by omega), if_neg (by omega)]; exact hc.acc o i p0 p1
  · intro f p0; rw [rI_wI, if_neg (by omega), gD_sD, if_neg (by omega)]; exact hc.pay f p0
  · intro f p0; rw [rI_wI, if_neg (by omega), gD_sD, if_neg (by omega)]; exact hc.owe f p0
  · rw [rI_wI, if_neg (by omega), gD_sD, if_neg (by omega)]; exact hc.sed
  · rw [rI_wI, if_neg (by omega), gD_sD, if_neg (by omega)]; exact hc.gon
  · rw [rI_wI, if_neg (by omega), gD_sD, if_neg (by omega)]; exact hc.joi
  · rw [rI_wI, if_neg (by omega), gD_sD, if_neg (by omega)]; exact hc.tak
  · rw [rI_wI, if_neg (by omega), gD_sD, if_neg (by omega)]; exact hc.fld
  · rw [rI_wI, if_neg (by omega), gD_sD, if_neg (by omega)]; exact hc.was
  · rw [rI_wI, if_neg (by omega), gD_sD, if_neg (by omega)]; exact hc.hls
theorem eC.wpay {σ : Mem} {σ0 : Mem} {s : Sk} {h : Nat} {hf : Nat → Nat} {D : Dy} {fq : Nat} {v : Int32} (hc : eC σ0 s h hf D σ) (hfq : fq < 7) (hn : kT s 2 ≤ 8) (hF : kT s 3 ≤ 12) : eC σ0 s h hf (sD D 6 fq v) (wI σ 68 (fq * 2 + 0) v) := by
  refine ⟨?_, ?_, ?_, ?_, ?_, ?_, ?_, ?_, ?_, ?_, ?_, ?_, ?_, ?_, ?_, ?_, ?_, ?_, ?_, ?_⟩
  · exact ⟨fun a j ha => by rw [rI_wI, if_neg (by omega)]; exact hc.1.1 a j ha, hc.1.2⟩
  · intro k hk; rw [rI_wI, if_neg (by omega), hc.2.1 k hk]; unfold clV; rw [gN_sD]
  · intro k p0 p1; rw [gN_sD] at p1; rw [rI_wI, if_neg (by omega), gN_sD]; exact hc.own k p0 p1
  · intro k p0 p1; rw [gN_sD] at p1; rw [rI_wI, if_neg (by omega), gN_sD]; exact hc.min k p0 p1
  · intro f p0; rw [rI_wI, if_neg (by omega), gN_sD]; exact hc.thi f p0
  · intro k o p0 p1 p2; rw [gN_sD] at p1; rw [rI_wI, if_neg (by omega), gN_sD]; exact hc.par k o p0 p1 p2
  · intro g o p0 p1; rw [rI_wI, if_neg (by omega), gN_sD]; exact hc.kep g o p0 p1
  · intro c o p0 p1; rw [rI_wI, if_neg (by omega), gN_sD]; exact hc.rai c o p0 p1
  · intro f p0; rw [rI_wI, if_neg (by omega), gD_sD, if_neg (by omega)]; exact hc.flo f p0
  · intro f p0; rw [rI_wI, if_neg (by omega), gD_sD, if_neg (by omega)]; exact hc.hai f p0
  · intro o i p0 p1; rw [rI_wI, if_neg (by omega), gD_sD, if_neg (by omega)]; exact hc.acc o i p0 p1
  · intro f p0; rw [rI_wI, gD_sD]
    by_cases e : f = fq
    · subst e; rw [if_pos ⟨rfl, rfl⟩, if_pos ⟨rfl, rfl⟩]
    · rw [if_neg (by omega), if_neg (by omega)]; exact hc.pay f p0
  · intro f p0; rw [rI_wI, if_neg (by omega), gD_sD, if_neg (by omega)]; exact hc.owe f p0
  · rw [rI_wI, if_neg (by omega), gD_sD, if_neg (by omega)]; exact hc.sed
  · rw [rI_wI, if_neg (by omega), gD_sD, if_neg (by omega)]; exact hc.gon
  · rw [rI_wI, if_neg (by omega), gD_sD, if_neg (by omega)]; exact hc.joi
  · rw [rI_wI, if_neg (by omega), gD_sD, if_neg (by omega)]; exact hc.tak
  · rw [rI_wI, if_neg (by omega), gD_sD, if_neg (by omega)]; exact hc.fld
  · rw [rI_wI, if_neg (by omega), gD_sD, if_neg (by omega)]; exact hc.was
  · rw [rI_wI, if_neg (by omega), gD_sD, if_neg (by omega)]; exact hc.hls
theorem eC.wowe {σ : Mem} {σ0 : Mem} {s : Sk} {h : Nat} {hf : Nat → Nat} {D : Dy} {fq : Nat} {v : Int32} (hc : eC σ0 s h hf D σ) (hfq : fq < 7) (hn : kT s 2 ≤ 8) (hF : kT s 3 ≤ 12) : eC σ0 s h hf (sD D 7 fq v) (wI σ 68 (fq * 2 + 1) v) := by
  refine ⟨?_, ?_, ?_, ?_, ?_, ?_, ?_, ?_, ?_, ?_, ?_, ?_, ?_, ?_, ?_, ?_, ?_, ?_, ?_, ?_⟩
  · exact ⟨fun a j ha => by rw [rI_wI, if_neg (by omega)]; exact hc.1.1 a j ha, hc.1.2⟩
  · intro k hk; rw [rI_wI, if_neg (by omega), hc.2.1 k hk]; unfold clV; rw [gN_sD]
  · intro k p0 p1; rw [gN_sD] at p1; rw [rI_wI, if_neg (by omega), gN_sD]; exact hc.own k p0 p1
  · intro k p0 p1; rw [gN_sD] at p1; rw [rI_wI, if_neg (by omega), gN_sD]; exact hc.min k p0 p1
  · intro f p0; rw [rI_wI, if_neg (by omega), gN_sD]; exact hc.thi f p0
  · intro k o p0 p1 p2; rw [gN_sD] at p1; rw [rI_wI, if_neg (by omega), gN_sD]; exact hc.par k o p0 p1 p2
  · intro g o p0 p1; rw [rI_wI, if_neg (by omega), gN_sD]; exact hc.kep g o p0 p1
  · intro c o p0 p1; rw [rI_wI, if_neg (by omega), gN_sD]; exact hc.rai c o p0 p1
  · intro f p0; rw [rI_wI, if_neg (by omega), gD_sD, if_neg (by omega)]; exact hc.flo f p0
  · intro f p0; rw [rI_wI, if_neg (by omega), gD_sD, if_neg (by omega)]; exact hc.hai f p0
  · intro o i p0 p1; rw [rI_wI, if_neg (by omega), gD_sD, if_neg (by omega)]; exact hc.acc o i p0 p1
  · intro f p0; rw [rI_wI, if_neg (by omega), gD_sD, if_neg (by omega)]; exact hc.pay f p0
  · intro f p0; rw [rI_wI, gD_sD]
    by_cases e : f = fq
    · subst e; rw [if_pos ⟨rfl, rfl⟩, if_pos ⟨rfl, rfl⟩]
    · rw [if_neg (by omega), if_neg (by omega)]; exact hc.owe f p0
  · rw [rI_wI, if_neg (by omega), gD_sD, if_neg (by omega)]; exact hc.sed
  · rw [rI_wI, if_neg (by omega), gD_sD, if_neg (by omega)]; exact hc.gon
  · rw [rI_wI, if_neg (by omega), gD_sD, if_neg (by omega)]; exact hc.joi
  · rw [rI_wI, if_neg (by omega), gD_sD, if_neg (by omega)]; exact hc.tak
  · rw [rI_wI, if_neg (by omega), gD_sD, if_neg (by omega)]; exact hc.fld
  · rw [rI_wI, if_neg (by omega), gD_sD, if_neg (by omega)]; exact hc.was
  · rw [rI_wI, if_neg (by omega), gD_sD, if_neg (by omega)]; exact hc.hls
theorem eC.wsed {σ : Mem} {σ0 : Mem} {s : Sk} {h : Nat} {hf : Nat → Nat} {D : Dy} {v : Int32} (hc : eC σ0 s h hf D σ)  (hn : kT s 2 ≤ 8) (hF : kT s 3 ≤ 12) : eC σ0 s h hf (sD D 0 0 v) (wI σ 59 8 v) := by
  refine ⟨?_, ?_, ?_, ?_, ?_, ?_, ?_, ?_, ?_, ?_, ?_, ?_, ?_, ?_, ?_, ?_, ?_, ?_, ?_, ?_⟩
  · exact ⟨fun a j ha => by rw [rI_wI, if_neg (by omega)]; exact hc.1.1 a j ha, hc.1.2⟩
  · intro k hk; rw [rI_wI, if_neg (by omega), hc.2.1 k hk]; unfold clV; rw [gN_sD]
  · intro k p0 p1; rw [gN_sD] at p1; rw [rI_wI, if_neg (by omega), gN_sD]; exact hc.own k p0 p1
  · intro k p0 p1; rw [gN_sD] at p1; rw [rI_wI, if_neg (by omega), gN_sD]; exact hc.min k p0 p1
  · intro f p0; rw [rI_wI, if_neg (by omega), gN_sD]; exact hc.thi f p0
  · intro k o p0 p1 p2; rw [gN_sD] at p1; rw [rI_wI, if_neg (by omega), gN_sD]; exact hc.par k o p0 p1 p2
  · intro g o p0 p1; rw [rI_wI, if_neg (by omega), gN_sD]; exact hc.kep g o p0 p1
  · intro c o p0 p1; rw [rI_wI, if_neg (by omega), gN_sD]; exact hc.rai c o p0 p1
  · intro f p0; rw [rI_wI, if_neg (by omega), gD_sD, if_neg (by omega)]; exact hc.flo f p0
  · intro f p0; rw [rI_wI, if_neg (by omega), gD_sD, if_neg (by omega)]; exact hc.hai f p0
  · intro o i p0 p1; rw [rI_wI, if_neg (by omega), gD_sD, if_neg (by omega)]; exact hc.acc o i p0 p1
  · intro f p0; rw [rI_wI, if_neg (by omega), gD_sD, if_neg (by omega)]; exact hc.pay f p0
  · intro f p0; rw [rI_wI, if_neg (by omega), gD_sD, if_neg (by omega)]; exact hc.owe f p0
  · rw [rI_wI, if_pos ⟨rfl, rfl⟩, gD_sD, if_pos ⟨rfl, rfl⟩]
  · rw [rI_wI, if_neg (by omega), gD_sD, if_neg (by omega)]; exact hc.gon
  · rw [rI_wI, if_neg (by omega), gD_sD, if_neg (by omega)]; exact hc.joi
  · rw [rI_wI, if_neg (by omega), gD_sD, if_neg (by omega)]; exact hc.tak
  · rw [rI_wI, if_neg (by omega), gD_sD, if_neg (by omega)]; exact hc.fld
  · rw [rI_wI, if_neg (by omega), gD_sD, if_neg (by omega)]; exact hc.was
  · rw [rI_wI, if_neg (by omega), gD_sD, if_neg (by omega)]; exact hc.hls
theorem eC.wgon {σ : Mem} {σ0 : Mem} {s : Sk} {h : Nat} {hf : Nat → Nat} {D : Dy} {v : Int32} (hc : eC σ0 s h hf D σ)  (hn : kT s 2 ≤ 8) (hF : kT s 3 ≤ 12) : eC σ0 s h hf (sD D 0 1 v) (wI σ 59 9 v) := by
  refine ⟨?_, ?_, ?_, ?_, ?_, ?_, ?_, ?_, ?_, ?_, ?_, ?_, ?_, ?_, ?_, ?_, ?_, ?_, ?_, ?_⟩
  · exact ⟨fun a j ha => by rw [rI_wI, if_neg (by omega)]; exact hc.1.1 a j ha, hc.1.2⟩
  · intro k hk; rw [rI_wI, if_neg (by omega), hc.2.1 k hk]; unfold clV; rw [gN_sD]
  · intro k p0 p1; rw [gN_sD] at p1; rw [rI_wI, if_neg (by omega), gN_sD]; exact hc.own k p0 p1
  · intro k p0 p1; rw [gN_sD] at p1; rw [rI_wI, if_neg (by omega), gN_sD]; exact hc.min k p0 p1
  · intro f p0; rw [rI_wI, if_neg (by omega), gN_sD]; exact hc.thi f p0
  · intro k o p0 p1 p2; rw [gN_sD] at p1; rw [rI_wI, if_neg (by omega), gN_sD]; exact hc.par k o p0 p1 p2
  · intro g o p0 p1; rw [rI_wI, if_neg (by omega), gN_sD]; exact hc.kep g o p0 p1
  · intro c o p0 p1; rw [rI_wI, if_neg (by omega), gN_sD]; exact hc.rai c o p0 p1
  · intro f p0; rw [rI_wI, if_neg (by omega), gD_sD, if_neg (by omega)]; exact hc.flo f p0
  · intro f p0; rw [rI_wI, if_neg (by omega), gD_sD, if_neg (by omega)]; exact hc.hai f p0
  · intro o i p0 p1; rw [rI_wI, if_neg (by omega), gD_sD, if_neg (by omega)]; exact hc.acc o i p0 p1
  · intro f p0; rw [rI_wI, if_neg (by omega), gD_sD, if_neg (by omega)]; exact hc.pay f p0
  · intro f p0; rw [rI_wI, if_neg (by omega), gD_sD, if_neg (by omega)]; exact hc.owe f p0
  · rw [rI_wI, if_neg (by omega), gD_sD, if_neg (by omega)]; exact hc.sed
  · rw [rI_wI, if_pos ⟨rfl, rfl⟩, gD_sD, if_pos ⟨rfl, rfl⟩]
  · rw [rI_wI, if_neg (by omega), gD_sD, if_neg (by omega)]; exact hc.joi
  · rw [rI_wI, if_neg (by omega), gD_sD, if_neg (by omega)]; exact hc.tak
  · rw [rI_wI, if_neg (by omega), gD_sD, if_neg (by omega)]; exact hc.fld
  · rw [rI_wI, if_neg (by omega), gD_sD, if_neg (by omega)]; exact hc.was
  · rw [rI_wI, if_neg (by omega), gD_sD, if_neg (by omega)]; exact hc.hls
theorem eC.wjoi {σ : Mem} {σ0 : Mem} {s : Sk} {h : Nat} {hf : Nat → Nat} {D : Dy} {v : Int32} (hc : eC σ0 s h hf D σ)  (hn : kT s 2 ≤ 8) (hF : kT s 3 ≤ 12) : eC σ0 s h hf (sD D 0 2 v) (wI σ 59 10 v) := by
  refine ⟨?_, ?_, ?_, ?_, ?_, ?_, ?_, ?_, ?_, ?_, ?_, ?_, ?_, ?_, ?_, ?_, ?_, ?_, ?_, ?_⟩
  · exact ⟨fun a j ha => by rw [rI_wI, if_neg (by omega)]; exact hc.1.1 a j ha, hc.1.2⟩
  · intro k hk; rw [rI_wI, if_neg (by omega), hc.2.1 k hk]; unfold clV; rw [gN_sD]
  · intro k p0 p1; rw [gN_sD] at p1; rw [rI_wI, if_neg (by omega), gN_sD]; exact hc.own k p0 p1
  · intro k p0 p1; rw [gN_sD] at p1; rw [rI_wI, if_neg (by omega), gN_sD]; exact hc.min k p0 p1
  · intro f p0; rw [rI_wI, if_neg (by omega), gN_sD]; exact hc.thi f p0
  · intro k o p0 p1 p2; rw [gN_sD] at p1; rw [rI_wI, if_neg (by omega), gN_sD]; exact hc.par k o p0 p1 p2
  · intro g o p0 p1; rw [rI_wI, if_neg (by omega), gN_sD]; exact hc.kep g o p0 p1
  · intro c o p0 p1; rw [rI_wI, if_neg (by omega), gN_sD]; exact hc.rai c o p0 p1
  · intro f p0; rw [rI_wI, if_neg (by omega), gD_sD, if_neg (by omega)]; exact hc.flo f p0
  · intro f p0; rw [rI_wI, if_neg (by omega), gD_sD, if_neg (by omega)]; exact hc.hai f p0
  · intro o i p0 p1; rw [rI_wI, if_neg (by omega), gD_sD, if_neg (by omega)]; exact hc.acc o i p0 p1
  · intro f p0; rw [rI_wI, if_neg (by omega), gD_sD, if_neg (by omega)]; exact hc.pay f p0
  · intro f p0; rw [rI_wI, if_neg (by omega), gD_sD, if_neg (by omega)]; exact hc.owe f p0
  · rw [rI_wI, if_neg (by omega), gD_sD, if_neg (by omega)]; exact hc.sed
  · rw [rI_wI, if_neg (by omega), gD_sD, if_neg (by omega)]; exact hc.gon
  · rw [rI_wI, if_pos ⟨rfl, rfl⟩, gD_sD, if_pos ⟨rfl, rfl⟩]
  · rw [rI_wI, if_neg (by omega), gD_sD, if_neg (by omega)]; exact hc.tak
  · rw [rI_wI, if_neg (by omega), gD_sD, if_neg (by omega)]; exact hc.fld
  · rw [rI_wI, if_neg (by omega), gD_sD, if_neg (by omega)]; exact hc.was
  · rw [rI_wI, if_neg (by omega), gD_sD, if_neg (by omega)]; exact hc.hls
theorem eC.wtak {σ : Mem} {σ0 : Mem} {s : Sk} {h : Nat} {hf : Nat → Nat} {D : Dy} {v : Int32} (hc : eC σ0 s h hf D σ)  (hn : kT s 2 ≤ 8) (hF : kT s 3 ≤ 12) : eC σ0 s h hf (sD D 0 3 v) (wI σ 60 6 v) := by
  refine ⟨?_, ?_, ?_, ?_, ?_, ?_, ?_, ?_, ?_, ?_, ?_, ?_, ?_, ?_, ?_, ?_, ?_, ?_, ?_, ?_⟩
  · exact ⟨fun a j ha => by rw [rI_wI, if_neg (by omega)]; exact hc.1.1 a j ha, hc.1.2⟩
  · intro k hk; rw [rI_wI, if_neg (by omega), hc.2.1 k hk]; unfold clV; rw [gN_sD]
  · intro k p0 p1; rw [gN_sD] at p1; rw [rI_wI, if_neg (by omega), gN_sD]; exact hc.own k p0 p1
  · intro k p0 p1; rw [gN_sD] at p1; rw [rI_wI, if_neg (by omega), gN_sD]; exact hc.min k p0 p1
  · intro f p0; rw [rI_wI, if_neg (by omega), gN_sD]; exact hc.thi f p0
  · intro k o p0 p1 p2; rw [gN_sD] at p1; rw [rI_wI, if_neg (by omega), gN_sD]; exact hc.par k o p0 p1 p2
  · intro g o p0 p1; rw [rI_wI, if_neg (by omega), gN_sD]; exact hc.kep g o p0 p1
  · intro c o p0 p1; rw [rI_wI, if_neg (by omega), gN_sD]; exact hc.rai c o p0 p1
  · intro f p0; rw [rI_wI, if_neg (by omega), gD_sD, if_neg (by omega)]; exact hc.flo f p0
  · intro f p0; rw [rI_wI, if_neg (by omega), gD_sD, if_neg (by omega)]; exact hc.hai f p0
  · intro o i p0 p1; rw [rI_wI, if_neg (by omega), gD_sD, if_neg (by omega)]; exact hc.acc o i p0 p1
  · intro f p0; rw [rI_wI, if_neg (by omega), gD_sD, if_neg (by omega)]; exact hc.pay f p0
  · intro f p0; rw [rI_wI, if_neg (by omega), gD_sD, if_neg (by omega)]; exact hc.owe f p0
  · rw [rI_wI, if_neg (by omega), gD_sD, if_neg (by omega)]; exact hc.sed
  · rw [rI_wI, if_neg (by omega), gD_sD, if_neg (by omega)]; exact hc.gon
  · rw [rI_wI, if_neg (by omega), gD_sD, if_neg (by omega)]; exact hc.joi
  · rw [rI_wI, if_pos ⟨rfl, rfl⟩, gD_sD, if_pos ⟨rfl, rfl⟩]
  · rw [rI_wI, if_neg (by omega), gD_sD, if_neg (by omega)]; exact hc.fld
  · rw [rI_wI, if_neg (by omega), gD_sD, if_neg (by omega)]; exact hc.was
  · rw [rI_wI, if_neg (by omega), gD_sD, if_neg (by omega)]; exact hc.hls
theorem eC.wfld {σ : Mem} {σ0 : Mem} {s : Sk} {h : Nat} {hf : Nat → Nat} {D : Dy} {v : Int32} (hc : eC σ0 s h hf D σ)  (hn : kT s 2 ≤ 8) (hF : kT s 3 ≤ 12) : eC σ0 s h hf (sD D 0 4 v) (wI σ 60 7 v) := by
  refine ⟨?_, ?_, ?_, ?_, ?_, ?_, ?_, ?_, ?_, ?_, ?_, ?_, ?_, ?_, ?_, ?_, ?_, ?_, ?_, ?_⟩
  · exact ⟨fun a j ha => by rw [rI_wI, if_neg (by omega)]; exact hc.1.1 a j ha, hc.1.2⟩
  · intro k hk; rw [rI_wI, if_neg (by omega), hc.2.1 k hk]; unfold clV; rw [gN_sD]
  · intro k p0 p1; rw [gN_sD] at p1; rw [rI_wI, if_neg (by omega), gN_sD]; exact hc.own k p0 p1
  · intro k p0 p1; rw [gN_sD] at p1; rw [rI_wI, if_neg (by omega), gN_sD]; exact hc.min k p0 p1
  · intro f p0; rw [rI_wI, if_neg (by omega), gN_sD]; exact hc.thi f p0
  · intro k o p0 p1 p2; rw [gN_sD] at p1; rw [rI_wI, if_neg (by omega), gN_sD]; exact hc.par k o p0 p1 p2
  · intro g o p0 p1; rw [rI_wI, if_neg (by omega), gN_sD]; exact hc.kep g o p0 p1
  · intro c o p0 p1; rw [rI_wI, if_neg (by omega), gN_sD]; exact hc.rai c o p0 p1
  · intro f p0; rw [rI_wI, if_neg (by omega), gD_sD, if_neg (by omega)]; exact hc.flo f p0
  · intro f p0; rw [rI_wI, if_neg (by omega), gD_sD, if_neg (by omega)]; exact hc.hai f p0
  · intro o i p0 p1; rw [rI_wI, if_neg (by omega), gD_sD, if_neg (by omega)]; exact hc.acc o i p0 p1
  · intro f p0; rw [rI_wI, if_neg (by omega), gD_sD, if_neg (by omega)]; exact hc.pay f p0
  · intro f p0; rw [rI_wI, if_neg (by omega), gD_sD, if_neg (by omega)]; exact hc.owe f p0
  · rw [rI_wI, if_neg (by omega), gD_sD, if_neg (by omega)]; exact hc.sed
  · rw [rI_wI, if_neg (by omega), gD_sD, if_neg (by omega)]; exact hc.gon
  · rw [rI_wI, if_neg (by omega), gD_sD, if_neg (by omega)]; exact hc.joi
  · rw [rI_wI, if_neg (by omega), gD_sD, if_neg (by omega)]; exact hc.tak
  · rw [rI_wI, if_pos ⟨rfl, rfl⟩, gD_sD, if_pos ⟨rfl, rfl⟩]
  · rw [rI_wI, if_neg (by omega), gD_sD, if_neg (by omega)]; exact hc.was
  · rw [rI_wI, if_neg (by omega), gD_sD, if_neg (by omega)]; exact hc.hls
theorem eC.wwas {σ : Mem} {σ0 : Mem} {s : Sk} {h : Nat} {hf : Nat → Nat} {D : Dy} {v : Int32} (hc : eC σ0 s h hf D σ)  (hn : kT s 2 ≤ 8) (hF : kT s 3 ≤ 12) : eC σ0 s h hf (sD D 0 5 v) (wI σ 60 8 v) := by
  refine ⟨?_, ?_, ?_, ?_, ?_, ?_, ?_, ?_, ?_, ?_, ?_, ?_, ?_, ?_, ?_, ?_, ?_, ?_, ?_, ?_⟩
  · exact ⟨fun a j ha => by rw [rI_wI, if_neg (by omega)]; exact hc.1.1 a j ha, hc.1.2⟩
  · intro k hk; rw [rI_wI, if_neg (by omega), hc.2.1 k hk]; unfold clV; rw [gN_sD]
  · intro k p0 p1; rw [gN_sD] at p1; rw [rI_wI, if_neg (by omega), gN_sD]; exact hc.own k p0 p1
  · intro k p0 p1; rw [gN_sD] at p1; rw [rI_wI, if_neg (by omega), gN_sD]; exact hc.min k p0 p1
  · intro f p0; rw [rI_wI, if_neg (by omega), gN_sD]; exact hc.thi f p0
  · intro k o p0 p1 p2; rw [gN_sD] at p1; rw [rI_wI, if_neg (by omega), gN_sD]; exact hc.par k o p0 p1 p2
  · intro g o p0 p1; rw [rI_wI, if_neg (by omega), gN_sD]; exact hc.kep g o p0 p1
  · intro c o p0 p1; rw [rI_wI, if_neg (by omega), gN_sD]; exact hc.rai c o p0 p1
  · intro f p0; rw [rI_wI, if_neg (by omega), gD_sD, if_neg (by omega)]; exact hc.flo f p0
  · intro f p0; rw [rI_wI, if_neg (by omega), gD_sD, if_neg (by omega)]; exact hc.hai f p0
  · intro o i p0 p1; rw [rI_wI, if_neg (by omega), gD_sD, if_neg (by omega)]; exact hc.acc o i p0 p1
  · intro f p0; rw [rI_wI, if_neg (by omega), gD_sD, if_neg (by omega)]; exact hc.pay f p0
  · intro f p0; rw [rI_wI, if_neg (by omega), gD_sD, if_neg (by omega)]; exact hc.owe f p0
  · rw [rI_wI, if_neg (by omega), gD_sD, if_neg (by omega)]; exact hc.sed
  · rw [rI_wI, if_neg (by omega), gD_sD, if_neg (by omega)]; exact hc.gon
  · rw [rI_wI, if_neg (by omega), gD_sD, if_neg (by omega)]; exact hc.joi
  · rw [rI_wI, if_neg (by omega), gD_sD, if_neg (by omega)]; exact hc.tak
  · rw [rI_wI, if_neg (by omega), gD_sD, if_neg (by omega)]; exact hc.fld
  · rw [rI_wI, if_pos ⟨rfl, rfl⟩, gD_sD, if_pos ⟨rfl, rfl⟩]
  · rw [rI_wI, if_neg (by omega), gD_sD, if_neg (by omega)]; exact hc.hls
theorem eC.whls {σ : Mem} {σ0 : Mem} {s : Sk} {h : Nat} {hf : Nat → Nat} {D : Dy} {v : Int32} (hc : eC σ0 s h hf D σ)  (hn : kT s 2 ≤ 8) (hF : kT s 3 ≤ 12) : eC σ0 s h hf (sD D 0 6 v) (wI σ 60 9 v) := by
  refine ⟨?_, ?_, ?_, ?_, ?_, ?_, ?_, ?_, ?_, ?_, ?_, ?_, ?_, ?_, ?_, ?_, ?_, ?_, ?_, ?_⟩
  · exact ⟨fun a j ha => by rw [rI_wI, if_neg (by omega)]; exact hc.1.1 a j ha, hc.1.2⟩
  · intro k hk; rw [rI_wI, if_neg (by omega), hc.2.1 k hk]; unfold clV; rw [gN_sD]
  · intro k p0 p1; rw [gN_sD] at p1; rw [rI_wI, if_neg (by omega), gN_sD]; exact hc.own k p0 p1
  · intro k p0 p1; rw [gN_sD] at p1; rw [rI_wI, if_neg (by omega), gN_sD]; exact hc.min k p0 p1
  · intro f p0; rw [rI_wI, if_neg (by omega), gN_sD]; exact hc.thi f p0
  · intro k o p0 p1 p2; rw [gN_sD] at p1; rw [rI_wI, if_neg (by omega), gN_sD]; exact hc.par k o p0 p1 p2
  · intro g o p0 p1; rw [rI_wI, if_neg (by omega), gN_sD]; exact hc.kep g o p0 p1
  · intro c o p0 p1; rw [rI_wI, if_neg (by omega), gN_sD]; exact hc.rai c o p0 p1
  · intro f p0; rw [rI_wI, if_neg (by omega), gD_sD, if_neg (by omega)]; exact hc.flo f p0
  · intro f p0; rw [rI_wI, if_neg (by omega), gD_sD, if_neg (by omega)]; exact hc.hai f p0
  · intro o i p0 p1; rw [rI_wI, if_neg (by omega), gD_sD, if_neg (by omega)]; exact hc.acc o i p0 p1
  · intro f p0; rw [rI_wI, if_neg (by omega), gD_sD, if_neg (by omega)]; exact hc.pay f p0
  · intro f p0; rw [rI_wI, if_neg (by omega), gD_sD, if_neg (by omega)]; exact hc.owe f p0
  · rw [rI_wI, if_neg (by omega), gD_sD, if_neg (by omega)]; exact hc.sed
  · rw [rI_wI, if_neg (by omega), gD_sD, if_neg (by omega)]; exact hc.gon
  · rw [rI_wI, if_neg (by omega), gD_sD, if_neg (by omega)]; exact hc.joi
  · rw [rI_wI, if_neg (by omega), gD_sD, if_neg (by omega)]; exact hc.tak
  · rw [rI_wI, if_neg (by omega), gD_sD, if_neg (by omega)]; exact hc.fld
  · rw [rI_wI, if_neg (by omega), gD_sD, if_neg (by omega)]; exact hc.was
  · rw [rI_wI, if_pos ⟨rfl, rfl⟩, gD_sD, if_pos ⟨rfl, rfl⟩]
def fM (σ0 σ : Mem) : Prop := (∀ a j, a < 368 → ¬ ((238 ≤ a ∧ a < 336) ∨ (a = 108 ∧ 43 ≤ j ∧ j ≤ 49)) → rI σ a j = rI σ0 a j) ∧ (∀ a, a < 368 → ∀ j, rL σ a j = rL σ0 a j) ∧ mN σ0 ≤ mN σ
def atM (s : Sk) (hf : Nat → Nat) (D : Dy) (σ : Mem) : Prop := ∀ k, k < kT s 2 → rI σ 238 k = bI (decide (gN D 0 k = 1)) ∧ (gN D 0 k = 1 → ∀ q, ps s k (hf k) = some q → rI σ 239 k = nI q.1 ∧ rI σ 240 k = nI q.2)
def eM (σ0 : Mem) (s : Sk) (hf : Nat → Nat) (D : Dy) (σ : Mem) : Prop :=
  fM σ0 σ ∧
  atM s hf D σ ∧ (∀ k, k < kT s 2 → gN D 0 k = 1 → rI σ 241 k = nI (gN D 1 k)) ∧
  (∀ k, k < kT s 2 → gN D 0 k = 1 → rI σ 242 k = nI (gN D 2 k)) ∧
  (∀ f, f < kT s 3 → rI σ 331 f = nI (gN D 3 f)) ∧
  (∀ k o, k < kT s 2 → gN D 0 k = 1 → o < 8 → rI σ (244 + 1 + k) o = nI (gN D (8 + k) o)) ∧
  (∀ g o, g < 3 → o < 8 → rI σ (318 + 1 + g) o = nI (gN D (16 + g) o)) ∧
  (∀ f, f < kT s 3 → rI σ 332 f = gD D 1 f) ∧
  (∀ f, f < kT s 3 → rI σ 333 f = gD D 2 f) ∧
  (∀ o i, o < 8 → i < 3 → rI σ (322 + 1 + o) i = gD D (3 + i) o) ∧
  (∀ f, f < 7 → rI σ 334 f = gD D 6 f) ∧
  (∀ f, f < 7 → rI σ 335 f = gD D 7 f) ∧
  (rI σ 108 49 = gD D 0 0) ∧
  (rI σ 108 43 = gD D 0 1) ∧
  (rI σ 108 47 = gD D 0 2) ∧
  (rI σ 108 44 = gD D 0 3) ∧
  (rI σ 108 45 = gD D 0 4) ∧
  (rI σ 108 46 = gD D 0 5) ∧
  (rI σ 108 48 = gD D 0 6)
theorem eM.own {σ : Mem} {σ0 : Mem} {s : Sk} {hf : Nat → Nat} {D : Dy} (hc : eM σ0 s hf D σ) : (∀ k, k < kT s 2 → gN D 0 k = 1 → rI σ 241 k = nI (gN D 1 k)) := hc.2.2.1
theorem eM.min {σ : Mem} {σ0 : Mem} {s : Sk} {hf : Nat → Nat} {D : Dy} (hc : eM σ0 s hf D σ) : (∀ k, k < kT s 2 → gN D 0 k = 1 → rI σ 242 k = nI (gN D 2 k)) := hc.2.2.2.1
theorem eM.thi {σ : Mem} {σ0 : Mem} {s : Sk} {hf : Nat → Nat} {D : Dy} (hc : eM σ0 s hf D σ) : (∀ f, f < kT s 3 → rI σ 331 f = nI (gN D 3 f)) := hc.2.2.2.2.1
theorem eM.par {σ : Mem} {σ0 : Mem} {s : Sk} {hf : Nat → Nat} {D : Dy} (hc : eM σ0 s hf D σ) : (∀ k o, k < kT s 2 → gN D 0 k = 1 → o < 8 → rI σ (244 + 1 + k) o = nI (gN D (8 + k) o)) := hc.2.2.2.2.2.1
theorem eM.kep {σ : Mem} {σ0 : Mem} {s : Sk} {hf : Nat → Nat} {D : Dy} (hc : eM σ0 s hf D σ) : (∀ g o, g < 3 → o < 8 → rI σ (318 + 1 + g) o = nI (gN D (16 + g) o)) := hc.2.2.2.2.2.2.1
theorem eM.flo {σ : Mem} {σ0 : Mem} {s : Sk} {hf : Nat → Nat} {D : Dy} (hc : eM σ0 s hf D σ) : (∀ f, f < kT s 3 → rI σ 332 f = gD D 1 f) := hc.2.2.2.2.2.2.2.1
theorem eM.hai {σ : Mem} {σ0 : Mem} {s : Sk} {hf : Nat → Nat} {D : Dy} (hc : eM σ0 s hf D σ) : (∀ f, f < kT s 3 → rI σ 333 f = gD D 2 f) := hc.2.2.2.2.2.2.2.2.1
theorem eM.acc {σ : Mem} {σ0 : Mem} {s : Sk} {hf : Nat → Nat} {D : Dy} (hc : eM σ0 s hf D σ) : (∀ o i, o < 8 → i < 3 → rI σ (322 + 1 + o) i = gD D (3 + i) o) := hc.2.2.2.2.2.2.2.2.2.1
theorem eM.pay {σ : Mem} {σ0 : Mem} {s : Sk} {hf : Nat → Nat} {D : Dy} (hc : eM σ0 s hf D σ) : (∀ f, f < 7 → rI σ 334 f = gD D 6 f) := hc.2.2.2.2.2.2.2.2.2.2.1
theorem eM.owe {σ : Mem} {σ0 : Mem} {s : Sk} {hf : Nat → Nat} {D : Dy} (hc : eM σ0 s hf D σ) : (∀ f, f < 7 → rI σ 335 f = gD D 7 f) := hc.2.2.2.2.2.2.2.2.2.2.2.1
theorem eM.sed {σ : Mem} {σ0 : Mem} {s : Sk} {hf : Nat → Nat} {D : Dy} (hc : eM σ0 s hf D σ) : (rI σ 108 49 = gD D 0 0) := hc.2.2.2.2.2.2.2.2.2.2.2.2.1
theorem eM.gon {σ : Mem} {σ0 : Mem} {s : Sk} {hf : Nat → Nat} {D : Dy} (hc : eM σ0 s hf D σ) : (rI σ 108 43 = gD D 0 1) := hc.2.2.2.2.2.2.2.2.2.2.2.2.2.1
theorem eM.joi {σ : Mem} {σ0 : Mem} {s : Sk} {hf : Nat → Nat} {D : Dy} (hc : eM σ0 s hf D σ) : (rI σ 108 47 = gD D 0 2) := hc.2.2.2.2.2.2.2.2.2.2.2.2.2.2.1
theorem eM.tak {σ : Mem} {σ0 : Mem} {s : Sk} {hf : Nat → Nat} {D : Dy} (hc : eM σ0 s hf D σ) : (rI σ 108 44 = gD D 0 3) := hc.2.2.2.2.2.2.2.2.2.2.2.2.2.2.2.1
theorem eM.fld {σ : Mem} {σ0 : Mem} {s : Sk} {hf : Nat → Nat} {D : Dy} (hc : eM σ0 s hf D σ) : (rI σ 108 45 = gD D 0 4) := hc.2.2.2.2.2.2.2.2.2.2.2.2.2.2.2.2.1
theorem eM.was {σ : Mem} {σ0 : Mem} {s : Sk} {hf : Nat → Nat} {D : Dy} (hc : eM σ0 s hf D σ) : (rI σ 108 46 = gD D 0 5) := hc.2.2.2.2.2.2.2.2.2.2.2.2.2.2.2.2.2.1
theorem eM.hls {σ : Mem} {σ0 : Mem} {s : Sk} {hf : Nat → Nat} {D : Dy} (hc : eM σ0 s hf D σ) : (rI σ 108 48 = gD D 0 6) := hc.2.2.2.2.2.2.2.2.2.2.2.2.2.2.2.2.2.2
theorem eM.wown {σ : Mem} {σ0 : Mem} {s : Sk} {hf : Nat → Nat} {D : Dy} {kq : Nat} {v : Nat} (hc : eM σ0 s hf D σ) (hkq : kq < kT s 2) (hn : kT s 2 ≤ 8) (hF : kT s 3 ≤ 12) : eM σ0 s hf (sN D 1 kq v) (wI σ 241 kq (nI v)) := by
  refine ⟨?_, ?_, ?_, ?_, ?_, ?_, ?_, ?_, ?_, ?_, ?_, ?_, ?_, ?_, ?_, ?_, ?_, ?_, ?_⟩
  · exact ⟨fun a j h3 ha => by rw [rI_wI, if_neg (by omega)]; exact hc.1.1 a j h3 ha, hc.1.2⟩
  · intro k hk; rw [rI_wI, if_neg (by omega), rI_wI, if_neg (by omega), rI_wI, if_neg (by omega), gN_ne (by omega)]; exact hc.2.1 k hk
  · intro k p0 p1; rw [gN_ne (by omega)] at p1; rw [rI_wI, gN_sN]
    by_cases e : k = kq
    · subst e; rw [if_pos ⟨rfl, rfl⟩, if_pos ⟨rfl, rfl⟩]
    · rw [if_neg (by omega), if_neg (by omega)]; exact hc.own k p0 p1
  · intro k p0 p1; rw [gN_ne (by omega)] at p1; rw [rI_wI, if_neg (by omega), gN_sN, if_neg (by omega)]; exact hc.min k p0 p1
  · intro f p0; rw [rI_wI, if_neg (by omega), gN_sN, if_neg (by omega)]; exact hc.thi f p0
  · intro k o p0 p1 p2; rw [gN_ne (by omega)] at p1; rw [rI_wI, if_neg (by omega), gN_sN, if_neg (by omega)]; exact hc.par k o p0 p1 p2
  · intro g o p0 p1; rw [rI_wI, if_neg (by omega), gN_sN, if_neg (by omega)]; exact hc.kep g o p0 p1
  · intro f p0; rw [rI_wI, if_neg (by omega), gD_sN]; exact hc.flo f p0
  · intro f p0; rw [rI_wI, if_neg (by omega), gD_sN]; exact hc.hai f p0
  · intro o i p0 p1; rw [rI_wI, if_neg (by omega), gD_sN]; exact hc.acc o i p0 p1
  · intro f p0; rw [rI_wI, if_neg (by omega), gD_sN]; exact hc.pay f p0
  · intro f p0; rw [rI_wI, if_neg (by omega), gD_sN]; exact hc.owe f p0
  · rw [rI_wI, if_neg (by omega), gD_sN]; exact hc.sed
  · rw [rI_wI, if_neg (by omega), gD_sN]; exact hc.gon
  · rw [rI_wI, if_neg (by omega), gD_sN]; exact hc.joi
  · rw [rI_wI, if_neg (by omega), gD_sN]; exact hc.tak
  · rw [rI_wI, if_neg (by omega), gD_sN]; exact hc.fld
  · rw [rI_wI, if_neg (by omega), gD_sN]; exact hc.was
  · rw [rI_wI, if_neg (by omega), gD_sN]; exact hc.hls
theorem eM.wmin {σ : Mem} {σ0 : Mem} {s : Sk} {hf : Nat → Nat} {D : Dy} {kq : Nat} {v : Nat} (hc : eM σ0 s hf D σ) (hkq : kq < kT s 2) (hn : kT s 2 ≤ 8) (hF : kT s 3 ≤ 12) : eM σ0 s hf (sN D 2 kq v) (wI σ 242 kq (nI v)) := by
  refine ⟨?_, ?_, ?_, ?_, ?_, ?_, ?_, ?_, ?_, ?_, ?_, ?_, ?_, ?_, ?_, ?_, ?_, ?_, ?_⟩
  · exact ⟨fun a j h3 ha => by rw [rI_wI, if_neg (by omega)]; exact hc.1.1 a j h3 ha, hc.1.2⟩
  · intro k hk; rw [rI_wI, if_neg (by omega), rI_wI, if_neg (by omega), rI_wI, if_neg (by omega), gN_ne (by omega)]; exact hc.2.1 k hk
  · intro k p0 p1; rw [gN_ne (by omega)] at p1; rw [rI_wI, if_neg (by omega), gN_sN, if_neg (by omega)]; exact hc.own k p0 p1
  · intro k p0 p1; rw [gN_ne (by omega)] at p1; rw [rI_wI, gN_sN]
    by_cases e : k = kq
    · subst e; rw [if_pos ⟨rfl, rfl⟩, if_pos ⟨rfl, rfl⟩]
    · rw [if_neg (by omega), if_neg (by omega)]; exact hc.min k p0 p1
  · intro f p0; rw [rI_wI, if_neg (by omega), gN_sN, if_neg (by omega)]; exact hc.thi f p0
  · intro k o p0 p1 p2; rw [gN_ne (by omega)] at p1; rw [rI_wI, if_neg (by omega), gN_sN, if_neg (by omega)]; exact hc.par k o p0 p1 p2
  · intro g o p0 p1; rw [rI_wI, if_neg (by omega), gN_sN, if_neg (by omega)]; exact hc.kep g o p0 p1
  · intro f p0; rw [rI_wI, if_neg (by omega), gD_sN]; exact hc.flo f p0
  · intro f p0; rw [rI_wI, if_neg (by omega), gD_sN]; exact hc.hai f p0
  · intro o i p0 p1; rw [rI_wI, if_neg (by omega), gD_sN]; exact hc.acc o i p0 p1
  · intro f p0; rw [rI_wI, if_neg (by omega), gD_sN]; exact hc.pay f p0
  · intro f p0; rw [rI_wI, if_neg (by omega), gD_sN]; exact hc.owe f p0
  · rw [rI_wI, if_neg (by omega), gD_sN]; exact hc.sed
  · rw [rI_wI, if_neg (by omega), gD_sN]; exact hc.gon
  · rw [rI_wI, if_neg (by omega), gD_sN]; exact hc.joi
  · rw [rI_wI, if_neg (by omega), gD_sN]; exact hc.tak
  · rw [rI_wI, if_neg (by omega), gD_sN]; exact hc.fld
  · rw [rI_wI, if_neg (by omega), gD_sN]; exact hc.was
  · rw [rI_wI, if_neg (by omega), gD_sN]; exact hc.hls
theorem eM.wthi {σ : Mem} {σ0 : Mem} {s : Sk} {hf : Nat → Nat} {D : Dy} {fq : Nat} {v : Nat} (hc : eM σ0 s hf D σ) (hfq : fq < kT s 3) (hn : kT s 2 ≤ 8) (hF : kT s 3 ≤ 12) : eM σ0 s hf (sN D 3 fq v) (wI σ 331 fq (nI v)) := by
  refine ⟨?_, ?_, ?_, ?_, ?_, ?_, ?_, ?_, ?_, ?_, ?_, ?_, ?_, ?_, ?_, ?_, ?_, ?_, ?_⟩
  · exact ⟨fun a j h3 ha => by rw [rI_wI, if_neg (by omega)]; exact hc.1.1 a j h3 ha, hc.1.2⟩
  · intro k hk; rw [rI_wI, if_neg (by omega), rI_wI, if_neg (by omega), rI_wI, if_neg (by omega), gN_ne (by omega)]; exact hc.2.1 k hk
  · intro k p0 p1; rw [gN_ne (by omega)] at p1; rw [rI_wI, if_neg (by omega), gN_sN, if_neg (by omega)]; exact hc.own k p0 p1
  · intro k p0 p1; rw [gN_ne (by omega)] at p1; rw [rI_wI, if_neg (by omega), gN_sN, if_neg (by omega)]; exact hc.min k p0 p1
  · intro f p0; rw [rI_wI, gN_sN]
    by_cases e : f = fq
    · subst e; rw [if_pos ⟨rfl, rfl⟩, if_pos ⟨rfl, rfl⟩]
    · rw [if_neg (by omega), if_neg (by omega)]; exact hc.thi f p0
  · intro k o p0 p1 p2; rw [gN_ne (by omega)] at p1; rw [rI_wI, if_neg (by omega), gN_sN, if_neg (by omega)]; exact hc.par k o p0 p1 p2
  · intro g o p0 p1; rw [rI_wI, if_neg (by omega), gN_sN, if_neg (by omega)]; exact hc.kep g o p0 p1
  · intro f p0; rw [rI_wI, if_neg (by omega), gD_sN]; exact hc.flo f p0
  · intro f p0; rw [rI_wI, if_neg (by omega), gD_sN]; exact hc.hai f p0
  · intro o i p0 p1; rw [rI_wI, if_neg (by omega), gD_sN]; exact hc.acc o i p0 p1
  · intro f p0; rw [rI_wI, if_neg (by omega), gD_sN]; exact hc.pay f p0
  · intro f p0; rw [rI_wI, if_neg (by omega), gD_sN]; exact hc.owe f p0
  · rw [rI_wI, if_neg (by omega), gD_sN]; exact hc.sed
  · rw [rI_wI, if_neg (by omega), gD_sN]; exact hc.gon
  · rw [rI_wI, if_neg (by omega), gD_sN]; exact hc.joi
  · rw [rI_wI, if_neg (by omega), gD_sN]; exact hc.tak
  · rw [rI_wI, if_neg (by omega), gD_sN]; exact hc.fld
  · rw [rI_wI, if_neg (by omega), gD_sN]; exact hc.was
  · rw [rI_wI, if_neg (by omega), gD_sN]; exact hc.hls
theorem eM.wpar {σ : Mem} {σ0 : Mem} {s : Sk} {hf : Nat → Nat} {D : Dy} {kq oq : Nat} {v : Nat} (hc : eM σ0 s hf D σ) (hkq : kq < kT s 2) (hoq : oq < 8) (hn : kT s 2 ≤ 8) (hF : kT s 3 ≤ 12) : eM σ0 s hf (sN D (8 + kq) oq v) (wI σ (244 + 1 + kq) oq (nI v)) := by
  refine ⟨?_, ?_, ?_, ?_, ?_, ?_, ?_, ?_, ?_, ?_, ?_, ?_, ?_, ?_, ?_, ?_, ?_, ?_, ?_⟩
  · exact ⟨fun a j h3 ha => by rw [rI_wI, if_neg (by omega)]; exact hc.1.1 a j h3 ha, hc.1.2⟩
  · intro k hk; rw [rI_wI, if_neg (by omega), rI_wI, if_neg (by omega), rI_wI, if_neg (by omega), gN_ne (by omega)]; exact hc.2.1 k hk
  · intro k p0 p1; rw [gN_ne (by omega)] at p1; rw [rI_wI, if_neg (by omega), gN_sN, if_neg (by omega)]; exact hc.own k p0 p1
  · intro k p0 p1; rw [gN_ne (by omega)] at p1; rw [rI_wI, if_neg (by omega), gN_sN, if_neg (by omega)]; exact hc.min k p0 p1
  · intro f p0; rw [rI_wI, if_neg (by omega), gN_sN, if_neg (by omega)]; exact hc.thi f p0
  · intro k o p0 p1 p2; rw [gN_ne (by omega)] at p1; rw [rI_wI, gN_sN]
    by_cases e : k = kq ∧ o = oq
    · obtain ⟨rfl, rfl⟩ := e; rw [if_pos ⟨rfl, rfl⟩, if_pos ⟨rfl, rfl⟩]
    · rw [if_neg (by omega), if_neg (by omega)]; exact hc.par k o p0 p1 p2
  · intro g o p0 p1; rw [rI_wI, if_neg (by omega), gN_sN, if_neg (by omega)]; exact hc.kep g o p0 p1
  · intro f p0; rw [rI_wI, if_neg (by omega), gD_sN]; exact hc.flo f p0
  · intro f p0; rw [rI_wI, if_neg (by omega), gD_sN]; exact hc.hai f p0
  · intro o i p0 p1; rw [rI_wI, if_neg (by omega), gD_sN]; exact hc.acc o i p0 p1
  · intro f p0; rw [rI_wI, if_neg (by omega), gD_sN]; exact hc.pay f p0
  · intro f p0; rw [rI_wI, if_neg (by omega), gD_sN]; exact hc.owe f p0
  · rw [rI_wI, if_neg (by omega), gD_sN]; exact hc.sed
  · rw [rI_wI, if_neg (by omega), gD_sN]; exact hc.gon
  · rw [rI_wI, if_neg (by omega), gD_sN]; exact hc.joi
  · rw [rI_wI, if_neg (by omega), gD_sN]; exact hc.tak
  · rw [rI_wI, if_neg (by omega), gD_sN]; exact hc.fld
  · rw [rI_wI, if_neg (by omega), gD_sN]; exact hc.was
  · rw [rI_wI, if_neg (by omega), gD_sN]; exact hc.hls
theorem eM.wkep {σ : Mem} {σ0 : Mem} {s : Sk} {hf : Nat → Nat} {D : Dy} {gq oq : Nat} {v : Nat} (hc : eM σ0 s hf D σ) (hgq : gq < 3) (hoq : oq < 8) (hn : kT s 2 ≤ 8) (hF : kT s 3 ≤ 12) : eM σ0 s hf (sN D (16 + gq) oq v) (wI σ (318 + 1 + gq) oq (nI v)) := by
  refine ⟨?_, ?_, ?_, ?_, ?_, ?_, ?_, ?_, ?_, ?_, ?_, ?_, ?_, ?_, ?_, ?_, ?_, ?_, ?_⟩
  · exact ⟨fun a j h3 ha => by rw [rI_wI, if_neg (by omega)]; exact hc.1.1 a j h3 ha, hc.1.2⟩
  · intro k hk; rw [rI_wI, if_neg (by omega), rI_wI, if_neg (by omega), rI_wI, if_neg (by omega), gN_ne (by omega)]; exact hc.2.1 k hk
  · intro k p0 p1; rw [gN_ne (by omega)] at p1; rw [rI_wI, if_neg (by omega), gN_sN, if_neg (by omega)]; exact hc.own k p0 p1
  · intro k p0 p1; rw [gN_ne (by omega)] at p1; rw [rI_wI, if_neg (by omega), gN_sN, if_neg (by omega)]; exact hc.min k p0 p1
  · intro f p0; rw [rI_wI, if_neg (by omega), gN_sN, if_neg (by omega)]; exact hc.thi f p0
  · intro k o p0 p1 p2; rw [gN_ne (by omega)] at p1; rw [rI_wI, if_neg (by omega), gN_sN, if_neg (by omega)]; exact hc.par k o p0 p1 p2
  · intro g o p0 p1; rw [rI_wI, gN_sN]
    by_cases e : g = gq ∧ o = oq
    · obtain ⟨rfl, rfl⟩ := e; rw [if_pos ⟨rfl, rfl⟩, if_pos ⟨rfl, rfl⟩]
    · rw [if_neg (by omega), if_neg (by omega)]; exact hc.kep g o p0 p1
  · intro f p0; rw [rI_wI, if_neg (by omega), gD_sN]; exact hc.flo f p0
  · intro f p0; rw [rI_wI, if_neg (by omega), gD_sN]; exact hc.hai f p0
  · intro o i p0 p1; rw [rI_wI, if_neg (by omega), gD_sN]; exact hc.acc o i p0 p1
  · intro f p0; rw [rI_wI, if_neg (by omega), gD_sN]; exact hc.pay f p0
  · intro f p0; rw [rI_wI, if_neg (by omega), gD_sN]; exact hc.owe f p0
  · rw [rI_wI, if_neg (by omega), gD_sN]; exact hc.sed
  · rw [rI_wI, if_neg (by omega), gD_sN]; exact hc.gon
  · rw [rI_wI, if_neg (by omega), gD_sN]; exact hc.joi
  · rw [rI_wI, if_neg (by omega), gD_sN]; exact hc.tak
  · rw [rI_wI, if_neg (by omega), gD_sN]; exact hc.fld
  · rw [rI_wI, if_neg (by omega), gD_sN]; exact hc.was
  · rw [rI_wI, if_neg (by omega), gD_sN]; exact hc.hls
theorem eM.wflo {σ : Mem} {σ0 : Mem} {s : Sk} {hf : Nat → Nat} {D : Dy} {fq : Nat} {v : Int32} (hc : eM σ0 s hf D σ) (hfq : fq < kT s 3) (hn : kT s 2 ≤ 8) (hF : kT s 3 ≤ 12) : eM σ0 s hf (sD D 1 fq v) (wI σ 332 fq v) := by
  refine ⟨?_, ?_, ?_, ?_, ?_, ?_, ?_, ?_, ?_, ?_, ?_, ?_, ?_, ?_, ?_, ?_, ?_, ?_, ?_⟩
  · exact ⟨fun a j h3 ha => by rw [rI_wI, if_neg (by omega)]; exact hc.1.1 a j h3 ha, hc.1.2⟩
  · intro k hk; rw [rI_wI, if_neg (by omega), rI_wI, if_neg (by omega), rI_wI, if_neg (by omega), gN_sD]; exact hc.2.1 k hk
  · intro k p0 p1; rw [gN_sD] at p1; rw [rI_wI, if_neg (by omega), gN_sD]; exact hc.own k p0 p1
  · intro k p0 p1; rw [gN_sD] at p1; rw [rI_wI, if_neg (by omega), gN_sD]; exact hc.min k p0 p1
  · intro f p0; rw [rI_wI, if_neg (by omega), gN_sD]; exact hc.thi f p0
  · intro k o p0 p1 p2; rw [gN_sD] at p1; rw [rI_wI, if_neg (by omega), gN_sD]; exact hc.par k o p0 p1 p2
  · intro g o p0 p1; rw [rI_wI, if_neg (by omega), gN_sD]; exact hc.kep g o p0 p1
  · intro f p0; rw [rI_wI, gD_sD]
    by_cases e : f = fq
    · subst e; rw [if_pos ⟨rfl, rfl⟩, if_pos ⟨rfl, rfl⟩]
    · rw [if_neg (by omega), if_neg (by omega)]; exact hc.flo f p0
  · intro f p0; rw [rI_wI, if_neg (by omega), gD_sD, if_neg (by omega)]; exact hc.hai f p0
  · intro o i p0 p1; rw [rI_wI, if_neg (by omega), gD_sD, if_neg (by omega)]; exact hc.acc o i p0 p1
  · intro f p0; rw [rI_wI, if_neg (by omega), gD_sD, if_neg (by omega)]; exact hc.pay f p0
  · intro f p0; rw [rI_wI, if_neg (by omega), gD_sD, if_neg (by omega)]; exact hc.owe f p0
  · rw [rI_wI, if_neg (by omega), gD_sD, if_neg (by omega)]; exact hc.sed
  · rw [rI_wI, if_neg (by omega), gD_sD, if_neg (by omega)]; exact hc.gon
  · rw [rI_wI, if_neg (by omega), gD_sD, if_neg (by omega)]; exact hc.joi
  · rw [rI_wI, if_neg (by omega), gD_sD, if_neg (by omega)]; exact hc.tak
  · rw [rI_wI, if_neg (by omega), gD_sD, if_neg (by omega)]; exact hc.fld
  · rw [rI_wI, if_neg (by omega), gD_sD, if_neg (by omega)]; exact hc.was
  · rw [rI_wI, if_neg (by omega), gD_sD, if_neg (by omega)]; exact hc.hls
theorem eM.whai {σ : Mem} {σ0 : Mem} {s : Sk} {hf : Nat → Nat} {D : Dy} {fq : Nat} {v : Int32} (hc : eM σ0 s hf D σ) (hfq : fq < kT s 3) (hn : kT s 2 ≤ 8) (hF : kT s 3 ≤ 12) : eM σ0 s hf (sD D 2 fq v) (wI σ 333 fq v) := by
  refine ⟨?_, ?_, ?_, ?_, ?_, ?_, ?_, ?_, ?_, ?_, ?_, ?_, ?_, ?_, ?_, ?_, ?_, ?_, ?_⟩
  · exact ⟨fun a j h3 ha => by rw [rI_wI, if_neg (by omega)]; exact hc.1.1 a j h3 ha, hc.1.2⟩
  · intro k hk; rw [rI_wI, if_neg (by omega), rI_wI, if_neg (by omega), rI_wI, if_neg (by omega), gN_sD]; exact hc.2.1 k hk
  · intro k p0 p1; rw [gN_sD] at p1; rw [rI_wI, if_neg (by omega), gN_sD]; exact hc.own k p0 p1
  · intro k p0 p1; rw [gN_sD] at p1; rw [rI_wI, if_neg (by omega), gN_sD]; exact hc.min k p0 p1
  · intro f p0; rw [rI_wI, if_neg (by omega), gN_sD]; exact hc.thi f p0
  · intro k o p0 p1 p2; rw [gN_sD] at p1; rw [rI_wI, if_neg (by omega), gN_sD]; exact hc.par k o p0 p1 p2
  · intro g o p0 p1; rw [rI_wI, if_neg (by omega), gN_sD]; exact hc.kep g o p0 p1
  · intro f p0; rw [rI_wI, if_neg (by omega), gD_sD, if_neg (by omega)]; exact hc.flo f p0
  · intro f p0; rw [rI_wI, gD_sD]
    by_cases e : f = fq
    · subst e; rw [if_pos ⟨rfl, rfl⟩, if_pos ⟨rfl, rfl⟩]
    · rw [if_neg (by omega), if_neg (by omega)]; exact hc.hai f p0
  · intro o i p0 p1; rw [rI_wI, if_neg (by omega), gD_sD, if_neg (by omega)]; exact hc.acc o i p0 p1
  · intro f p0; rw [rI_wI, if_neg (by omega), gD_sD, if_neg (by omega)]; exact hc.pay f p0
  · intro f p0; rw [rI_wI, if_neg (by omega), gD_sD, if_neg (by omega)]; exact hc.owe f p0
  · rw [rI_wI, if_neg (by omega), gD_sD, if_neg (by omega)]; exact hc.sed
  · rw [rI_wI, if_neg (by omega), gD_sD, if_neg (by omega)]; exact hc.gon
  · rw [rI_wI, if_neg (by omega), gD_sD, if_neg (by omega)]; exact hc.joi
  · rw [rI_wI, if_neg (by omega), gD_sD, if_neg (by omega)]; exact hc.tak
  · rw [rI_wI, if_neg (by omega), gD_sD, if_neg (by omega)]; exact hc.fld
  · rw [rI_wI, if_neg (by omega), gD_sD, if_neg (by omega)]; exact hc.was
  · rw [rI_wI, if_neg (by omega), gD_sD, if_neg (by omega)]; exact hc.hls
theorem eM.wacc {σ : Mem} {σ0 : Mem} {s : Sk} {hf : Nat → Nat} {D : Dy} {oq iq : Nat} {v : Int32} (hc : eM σ0 s hf D σ) (hoq : oq < 8) (hiq : iq < 3) (hn : kT s 2 ≤ 8) (hF : kT s 3 ≤ 12) : eM σ0 s hf (sD D (3 + iq) oq v) (wI σ (322 + 1 + oq) iq v) := by
  refine ⟨?_, ?_, ?_, ?_, ?_, ?_, ?_, ?_, ?_, ?_, ?_, ?_, ?_, ?_, ?_, ?_, ?_, ?_, ?_⟩
  · exact ⟨fun a j h3 ha => by rw [rI_wI, if_neg (by omega)]; exact hc.1.1 a j h3 ha, hc.1.2⟩
  · intro k hk; rw [rI_wI, if_neg (by omega), rI_wI, if_neg (by omega), rI_wI, if_neg (by omega), gN_sD]; exact hc.2.1 k hk
  · intro k p0 p1; rw [gN_sD] at p1; rw [rI_wI, if_neg (by omega), gN_sD]; exact hc.own k p0 p1
  · intro k p0 p1; rw [gN_sD] at p1; rw [rI_wI, if_neg (by omega), gN_sD]; exact hc.min k p0 p1
  · intro f p0; rw [rI_wI, if_neg (by omega), gN_sD]; exact hc.thi f p0
  · intro k o p0 p1 p2; rw [gN_sD] at p1; rw [rI_wI, if_neg (by omega), gN_sD]; exact hc.par k o p0 p1 p2
  · intro g o p0 p1; rw [rI_wI, if_neg (by omega), gN_sD]; exact hc.kep g o p0 p1
  · intro f p0; rw [rI_wI, if_neg (by omega), gD_sD, if_neg (by omega)]; exact hc.flo f p0
  · intro f p0; rw [rI_wI, if_neg (by omega), gD_sD, if_neg (by omega)]; exact hc.hai f p0
  · intro o i p0 p1; rw [rI_wI, gD_sD]
    by_cases e : o = oq ∧ i = iq
    · obtain ⟨rfl, rfl⟩ := e; rw [if_pos ⟨rfl, rfl⟩, if_pos ⟨rfl, rfl⟩]
    · rw [if_neg (by omega), if_neg (by omega)]; exact hc.acc o i p0 p1
  · intro f p0; rw [rI_wI, if_neg (by omega), gD_sD, if_neg (by omega)]; exact hc.pay f p0
  · intro f p0; rw [rI_wI, if_neg (by omega), gD_sD, if_neg (by omega)]; exact hc.owe f p0
  · rw [rI_wI, if_neg (by omega), gD_sD, if_neg (by omega)]; exact hc.sed
  · rw [rI_wI, if_neg (by omega), gD_sD, if_neg (by omega)]; exact hc.gon
  · rw [rI_wI, if_neg (by omega), gD_sD, if_neg (by omega)]; exact hc.joi
  · rw [rI_wI, if_neg (by omega), gD_sD, if_neg (by omega)]; exact hc.tak
  · rw [rI_wI, if_neg (by omega), gD_sD, if_neg (by omega)]; exact hc.fld
  · rw [rI_wI, if_neg (by omega), gD_sD, if_neg (by omega)]; exact hc.was
  · rw [rI_wI, if_neg (by omega), gD_sD, if_neg (by omega)]; exact hc.hls
theorem eM.wpay {σ : Mem} {σ0 : Mem} {s : Sk} {hf : Nat → Nat} {D : Dy} {fq : Nat} {v : Int32} (hc : eM σ0 s hf D σ) (hfq : fq < 7) (hn : kT s 2 ≤ 8) (hF : kT s 3 ≤ 12) : eM σ0 s hf (sD D 6 fq v) (wI σ 334 fq v) := by
  refine ⟨?_, ?_, ?_, ?_, ?_, ?_, ?_, ?_, ?_, ?_, ?_, ?_, ?_, ?_, ?_, ?_, ?_, ?_, ?_⟩
  · exact ⟨fun a j h3 ha => by rw [rI_wI, if_neg (by omega)]; exact hc.1.1 a j h3 ha, hc.1.2⟩
  · intro k hk; rw [rI_wI, if_neg (by omega), rI_wI, if_neg (by omega), rI_wI, if_neg (by omega), gN_sD]; exact hc.2.1 k hk
  · intro k p0 p1; rw [gN_sD] at p1; rw [rI_wI, if_neg (by omega), gN_sD]; exact hc.own k p0 p1
  · intro k p0 p1; rw [gN_sD] at p1; rw [rI_wI, if_neg (by omega), gN_sD]; exact hc.min k p0 p1
  · intro f p0; rw [rI_wI, if_neg (by omega), gN_sD]; exact hc.thi f p0
  · intro k o p0 p1 p2; rw [gN_sD] at p1; rw [rI_wI, if_neg (by omega), gN_sD]; exact hc.par k o p0 p1 p2
  · intro g o p0 p1; rw [rI_wI, if_neg (by omega), gN_sD]; exact hc.kep g o p0 p1
  · intro f p0; rw [rI_wI, if_neg (by omega), gD_sD, if_neg (by omega)]; exact hc.flo f p0
  · intro f p0; rw [rI_wI, if_neg (by omega), gD_sD, if_neg (by omega)]; exact hc.hai f p0
  · intro o i p0 p1; rw [rI_wI, if_neg (by omega), gD_sD, if_neg (by omega)]; exact hc.acc o i p0 p1
  · intro f p0; rw [rI_wI, gD_sD]
    by_cases e : f = fq
    · subst e; rw [if_pos ⟨rfl, rfl⟩, if_pos ⟨rfl, rfl⟩]
    · rw [if_neg (by omega), if_neg (by omega)]; exact hc.pay f p0
  · intro f p0; rw [rI_wI, if_neg (by omega), gD_sD, if_neg (by omega)]; exact hc.owe f p0
  · rw [rI_wI, if_neg (by omega), gD_sD, if_neg (by omega)]; exact hc.sed
  · rw [rI_wI, if_neg (by omega), gD_sD, if_neg (by omega)]; exact hc.gon
  · rw [rI_wI, if_neg (by omega), gD_sD, if_neg (by omega)]; exact hc.joi
  · rw [rI_wI, if_neg (by omega), gD_sD, if_neg (by omega)]; exact hc.tak
  · rw [rI_wI, if_neg (by omega), gD_sD, if_neg (by omega)]; exact hc.fld
  · rw [rI_wI, if_neg (by omega), gD_sD, if_neg (by omega)]; exact hc.was
  · rw [rI_wI, if_neg (by omega), gD_sD, if_neg (by omega)]; exact hc.hls
theorem eM.wowe {σ : Mem} {σ0 : Mem} {s : Sk} {hf : Nat → Nat} {D : Dy} {fq : Nat} {v : Int32} (hc : eM σ0 s hf D σ) (hfq : fq < 7) (hn : kT s 2 ≤ 8) (hF : kT s 3 ≤ 12) : eM σ0 s hf (sD D 7 fq v) (wI σ 335 fq v) := by
  refine ⟨?_, ?_, ?_, ?_, ?_, ?_, ?_, ?_, ?_, ?_, ?_, ?_, ?_, ?_, ?_, ?_, ?_, ?_, ?_⟩
  · exact ⟨fun a j h3 ha => by rw [rI_wI, if_neg (by omega)]; exact hc.1.1 a j h3 ha, hc.1.2⟩
  · intro k hk; rw [rI_wI, if_neg (by omega), rI_wI, if_neg (by omega), rI_wI, if_neg (by omega), gN_sD]; exact hc.2.1 k hk
  · intro k p0 p1; rw [gN_sD] at p1; rw [rI_wI, if_neg (by omega), gN_sD]; exact hc.own k p0 p1
  · intro k p0 p1; rw [gN_sD] at p1; rw [rI_wI, if_neg (by omega), gN_sD]; exact hc.min k p0 p1
  · intro f p0; rw [rI_wI, if_neg (by omega), gN_sD]; exact hc.thi f p0
  · intro k o p0 p1 p2; rw [gN_sD] at p1; rw [rI_wI, if_neg (by omega), gN_sD]; exact hc.par k o p0 p1 p2
  · intro g o p0 p1; rw [rI_wI, if_neg (by omega), gN_sD]; exact hc.kep g o p0 p1
  · intro f p0; rw [rI_wI, if_neg (by omega), gD_sD, if_neg (by omega)]; exact hc.flo f p0
  · intro f p0; rw [rI_wI, if_neg (by omega), gD_sD, if_neg (by omega)]; exact hc.hai f p0
  · intro o i p0 p1; rw [rI_wI, if_neg (by omega), gD_sD, if_neg (by omega)]; exact hc.acc o i p0 p1
  · intro f p0; rw [rI_wI, if_neg (by omega), gD_sD, if_neg (by omega)]; exact hc.pay f p0
  · intro f p0; rw [rI_wI, gD_sD]
    by_cases e : f = fq
    · subst e; rw [if_pos ⟨rfl, rfl⟩, if_pos ⟨rfl, rfl⟩]
    · rw [if_neg (by omega), if_neg (by omega)]; exact hc.owe f p0
  · rw [rI_wI, if_neg (by omega), gD_sD, if_neg (by omega)]; exact hc.sed
  · rw [rI_wI, if_neg (by omega), gD_sD, if_neg (by omega)]; exact hc.gon
  · rw [rI_wI, if_neg (by omega), gD_sD, if_neg (by omega)]; exact hc.joi
  · rw [rI_wI, if_neg (by omega), gD_sD, if_neg (by omega)]; exact hc.tak
  · rw [rI_wI, if_neg (by omega), gD_sD, if_neg (by omega)]; exact hc.fld
  · rw [rI_wI, if_neg (by omega), gD_sD, if_neg (by omega)]; exact hc.was
  · rw [rI_wI, if_neg (by omega), gD_sD, if_neg (by omega)]; exact hc.hls
theorem eM.wsed {σ : Mem} {σ0 : Mem} {s : Sk} {hf : Nat → Nat} {D : Dy} {v : Int32} (hc : eM σ0 s hf D σ)  (hn : kT s 2 ≤ 8) (hF : kT s 3 ≤ 12) : eM σ0 s hf (sD D 0 0 v) (wI σ 108 49 v) := by
  refine ⟨?_, ?_, ?_, ?_, ?_, ?_, ?_, ?_, ?_, ?_, ?_, ?_, ?_, ?_, ?_, ?_, ?_, ?_, ?_⟩
  · exact ⟨fun a j h3 ha => by rw [rI_wI, if_neg (by omega)]; exact hc.1.1 a j h3 ha, hc.1.2⟩
  · intro k hk; rw [rI_wI, if_neg (by omega), rI_wI, if_neg (by omega), rI_wI, if_neg (by omega), gN_sD]; exact hc.2.1 k hk
  · intro k p0 p1; rw [gN_sD] at p1; rw [rI_wI, if_neg (by omega), gN_sD]; exact hc.own k p0 p1
  · intro k p0 p1; rw [gN_sD] at p1; rw [rI_wI, if_neg (by omega), gN_sD]; exact hc.min k p0 p1
  · intro f p0; rw [rI_wI, if_neg (by omega), gN_sD]; exact hc.thi f p0
  · intro k o p0 p1 p2; rw [gN_sD] at p1; rw [rI_wI, if_neg (by omega), gN_sD]; exact hc.par k o p0 p1 p2
  · intro g o p0 p1; rw [rI_wI, if_neg (by omega), gN_sD]; exact hc.kep g o p0 p1
  · intro f p0; rw [rI_wI, if_neg (by omega), gD_sD, if_neg (by omega)]; exact hc.flo f p0
  · intro f p0; rw [rI_wI, if_neg (by omega), gD_sD, if_neg (by omega)]; exact hc.hai f p0
  · intro o i p0 p1; rw [rI_wI, if_neg (by omega), gD_sD, if_neg (by omega)]; exact hc.acc o i p0 p1
  · intro f p0; rw [rI_wI, if_neg (by omega), gD_sD, if_neg (by omega)]; exact hc.pay f p0
  · intro f p0; rw [rI_wI, if_neg (by omega), gD_sD, if_neg (by omega)]; exact hc.owe f p0
  · rw [rI_wI, if_pos ⟨rfl, rfl⟩, gD_sD, if_pos ⟨rfl, rfl⟩]
  · rw [rI_wI, if_neg (by omega), gD_sD, if_neg (by omega)]; exact hc.gon
  · rw [rI_wI, if_neg (by omega), gD_sD, if_neg (by omega)]; exact hc.joi
  · rw [rI_wI, if_neg (by omega), gD_sD, if_neg (by omega)]; exact hc.tak
  · rw [rI_wI, if_neg (by omega), gD_sD, if_neg (by omega)]; exact hc.fld
  · rw [rI_wI, if_neg (by omega), gD_sD, if_neg (by omega)]; exact hc.was
  · rw [rI_wI, if_neg (by omega), gD_sD, if_neg (by omega)]; exact hc.hls
theorem eM.wgon {σ : Mem} {σ0 : Mem} {s : Sk} {hf : Nat → Nat} {D : Dy} {v : Int32} (hc : eM σ0 s hf D σ)  (hn : kT s 2 ≤ 8) (hF : kT s 3 ≤ 12) : eM σ0 s hf (sD D 0 1 v) (wI σ 108 43 v) := by
  refine ⟨?_, ?_, ?_, ?_, ?_, ?_, ?_, ?_, ?_, ?_, ?_, ?_, ?_, ?_, ?_, ?_, ?_, ?_, ?_⟩
  · exact ⟨fun a j h3 ha => by rw [rI_wI, if_neg (by omega)]; exact hc.1.1 a j h3 ha, hc.1.2⟩
  · intro k hk; rw [rI_wI, if_neg (by omega), rI_wI, if_neg (by omega), rI_wI, if_neg (by omega), gN_sD]; exact hc.2.1 k hk
  · intro k p0 p1; rw [gN_sD] at p1; rw [rI_wI, if_neg (by omega), gN_sD]; exact hc.own k p0 p1
  · intro k p0 p1; rw [gN_sD] at p1; rw [rI_wI, if_neg (by omega), gN_sD]; exact hc.min k p0 p1
  · intro f p0; rw [rI_wI, if_neg (by omega), gN_sD]; exact hc.thi f p0
  · intro k o p0 p1 p2; rw [gN_sD] at p1; rw [rI_wI, if_neg (by omega), gN_sD]; exact hc.par k o p0 p1 p2
  · intro g o p0 p1; rw [rI_wI, if_neg (by omega), gN_sD]; exact hc.kep g o p0 p1
  · intro f p0; rw [rI_wI, if_neg (by omega), gD_sD, if_neg (by omega)]; exact hc.flo f p0
  · intro f p0; rw [rI_wI, if_neg (by omega), gD_sD, if_neg (by omega)]; exact hc.hai f p0
  · intro o i p0 p1; rw [rI_wI, if_neg (by omega), gD_sD, if_neg (by omega)]; exact hc.acc o i p0 p1
  · intro f p0; rw [rI_wI, if_neg (by omega), gD_sD, if_neg (by omega)]; exact hc.pay f p0
  · intro f p0; rw [rI_wI, if_neg (by omega), gD_sD, if_neg (by omega)]; exact hc.owe f p0
  · rw [rI_wI, if_neg (by omega), gD_sD, if_neg (by omega)]; exact hc.sed
  · rw [rI_wI, if_pos ⟨rfl, rfl⟩, gD_sD, if_pos ⟨rfl, rfl⟩]
  · rw [rI_wI, if_neg (by omega), gD_sD, if_neg (by omega)]; exact hc.joi
  · rw [rI_wI, if_neg (by omega), gD_sD, if_neg (by omega)]; exact hc.tak
  · rw [rI_wI, if_neg (by omega), gD_sD, if_neg (by omega)]; exact hc.fld
  · rw [rI_wI, if_neg (by omega), gD_sD, if_neg (by omega)]; exact hc.was
  · rw [rI_wI, if_neg (by omega), gD_sD, if_neg (by omega)]; exact hc.hls
theorem eM.wjoi {σ : Mem} {σ0 : Mem} {s : Sk} {hf : Nat → Nat} {D : Dy} {v : Int32} (hc : eM σ0 s hf D σ)  (hn : kT s 2 ≤ 8) (hF : kT s 3 ≤ 12) : eM σ0 s hf (sD D 0 2 v) (wI σ 108 47 v) := by
  refine ⟨?_, ?_, ?_, ?_, ?_, ?_, ?_, ?_, ?_, ?_, ?_, ?_, ?_, ?_, ?_, ?_, ?_, ?_, ?_⟩
  · exact ⟨fun a j h3 ha => by rw [rI_wI, if_neg (by omega)]; exact hc.1.1 a j h3 ha, hc.1.2⟩
  · intro k hk; rw [rI_wI, if_neg (by omega), rI_wI, if_neg (by omega), rI_wI, if_neg (by omega), gN_sD]; exact hc.2.1 k hk
  · intro k p0 p1; rw [gN_sD] at p1; rw [rI_wI, if_neg (by omega), gN_sD]; exact hc.own k p0 p1
  · intro k p0 p1; rw [gN_sD] at p1; rw [rI_wI, if_neg (by omega), gN_sD]; exact hc.min k p0 p1
  · intro f p0; rw [rI_wI, if_neg (by omega), gN_sD]; exact hc.thi f p0
  · intro k o p0 p1 p2; rw [gN_sD] at p1; rw [rI_wI, if_neg (by omega), gN_sD]; exact hc.par k o p0 p1 p2
  · intro g o p0 p1; rw [rI_wI, if_neg (by omega), gN_sD]; exact hc.kep g o p0 p1
  · intro f p0; rw [rI_wI, if_neg (by omega), gD_sD, if_neg (by omega)]; exact hc.flo f p0
  · intro f p0; rw [rI_wI, if_neg (by omega), gD_sD, if_neg (by omega)]; exact hc.hai f p0
  · intro o i p0 p1; rw [rI_wI, if_neg (by omega), gD_sD, if_neg (by omega)]; exact hc.acc o i p0 p1
  · intro f p0; rw [rI_wI, if_neg (by omega), gD_sD, if_neg (by omega)]; exact hc.pay f p0
  · intro f p0; rw [rI_wI, if_neg (by omega), gD_sD, if_neg (by omega)]; exact hc.owe f p0
  · rw [rI_wI, if_neg (by omega), gD_sD, if_neg (by omega)]; exact hc.sed
  · rw [rI_wI, if_neg (by omega), gD_sD, if_neg (by omega)]; exact hc.gon
  · rw [rI_wI, if_pos ⟨rfl, rfl⟩, gD_sD, if_pos ⟨rfl, rfl⟩]
  · rw [rI_wI, if_neg (by omega), gD_sD, if_neg (by omega)]; exact hc.tak
  · rw [rI_wI, if_neg (by omega), gD_sD, if_neg (by omega)]; exact hc.fld
  · rw [rI_wI, if_neg (by omega), gD_sD, if_neg (by omega)]; exact hc.was
  · rw [rI_wI, if_neg (by omega), gD_sD, if_neg (by omega)]; exact hc.hls
theorem eM.wtak {σ : Mem} {σ0 : Mem} {s : Sk} {hf : Nat → Nat} {D : Dy} {v : Int32} (hc : eM σ0 s hf D σ)  (hn : kT s 2 ≤ 8) (hF : kT s 3 ≤ 12) : eM σ0 s hf (sD D 0 3 v) (wI σ 108 44 v) := by
  refine ⟨?_, ?_, ?_, ?_, ?_, ?_, ?_, ?_, ?_, ?_, ?_, ?_, ?_, ?_, ?_, ?_, ?_, ?_, ?_⟩
  · exact ⟨fun a j h3 ha => by rw [rI_wI, if_neg (by omega)]; exact hc.1.1 a j h3 ha, hc.1.2⟩
  · intro k hk; rw [rI_wI, if_neg (by omega), rI_wI, if_neg (by omega), rI_wI, if_neg (by omega), gN_sD]; exact hc.2.1 k hk
  · intro k p0 p1; rw [gN_sD] at p1; rw [rI_wI, if_neg (by omega), gN_sD]; exact hc.own k p0 p1
  · intro k p0 p1; rw [gN_sD] at p1; rw [rI_wI, if_neg (by omega), gN_sD]; exact hc.min k p0 p1
  · intro f p0; rw [rI_wI, if_neg (by omega), gN_sD]; exact hc.thi f p0
  · intro k o p0 p1 p2; rw [gN_sD] at p1; rw [rI_wI, if_neg (by omega), gN_sD]; exact hc.par k o p0 p1 p2
  · intro g o p0 p1; rw [rI_wI, if_neg (by omega), gN_sD]; exact hc.kep g o p0 p1
  · intro f p0; rw [rI_wI, if_neg (by omega), gD_sD, if_neg (by omega)]; exact hc.flo f p0
  · intro f p0; rw [rI_wI, if_neg (by omega), gD_sD, if_neg (by omega)]; exact hc.hai f p0
  · intro o i p0 p1; rw [rI_wI, if_neg (by omega), gD_sD, if_neg (by omega)]; exact hc.acc o i p0 p1
  · intro f p0; rw [rI_wI, if_neg (by omega), gD_sD, if_neg (by omega)]; exact hc.pay f p0
  · intro f p0; rw [rI_wI, if_neg (by omega), gD_sD, if_neg (by omega)]; exact hc.owe f p0
  · rw [rI_wI, if_neg (by omega), gD_sD, if_neg (by omega)]; exact hc.sed
  · rw [rI_wI, if_neg (by omega), gD_sD, if_neg (by omega)]; exact hc.gon
  · rw [rI_wI, if_neg (by omega), gD_sD, if_neg (by omega)]; exact hc.joi
  · rw [rI_wI, if_pos ⟨rfl, rfl⟩, gD_sD, if_pos ⟨rfl, rfl⟩]
  · rw [rI_wI, if_neg (by omega), gD_sD, if_neg (by omega)]; exact hc.fld
  · rw [rI_wI, if_neg (by omega), gD_sD, if_neg (by omega)]; exact hc.was
  · rw [rI_wI, if_neg (by omega), gD_sD, if_neg (by omega)]; exact hc.hls
theorem eM.wfld {σ : Mem} {σ0 : Mem} {s : Sk} {hf : Nat → Nat} {D : Dy} {v : Int32} (hc : eM σ0 s hf D σ)  (hn : kT s 2 ≤ 8) (hF : kT s 3 ≤ 12) : eM σ0 s hf (sD D 0 4 v) (wI σ 108 45 v) := by
  refine ⟨?_, ?_, ?_, ?_, ?_, ?_, ?_, ?_, ?_, ?_, ?_, ?_, ?_, ?_, ?_, ?_, ?_, ?_, ?_⟩
  · exact ⟨fun a j h3 ha => by rw [rI_wI, if_neg (by omega)]; exact hc.1.1 a j h3 ha, hc.1.2⟩
  · intro k hk; rw [rI_wI, if_neg (by omega), rI_wI, if_neg (by omega), rI_wI, if_neg (by omega), gN_sD]; exact hc.2.1 k hk
  · intro k p0 p1; rw [gN_sD] at p1; rw [rI_wI, if_neg (by omega), gN_sD]; exact hc.own k p0 p1
  · intro k p0 p1; rw [gN_sD] at p1; rw [rI_wI, if_neg (by omega), gN_sD]; exact hc.min k p0 p1
  · intro f p0; rw [rI_wI, if_neg (by omega), gN_sD]; exact hc.thi f p0
  · intro k o p0 p1 p2; rw [gN_sD] at p1; rw [rI_wI, if_neg (by omega), gN_sD]; exact hc.par k o p0 p1 p2
  · intro g o p0 p1; rw [rI_wI, if_neg (by omega), gN_sD]; exact hc.kep g o p0 p1
  · intro f p0; rw [rI_wI, if_neg (by omega), gD_sD, if_neg (by omega)]; exact hc.flo f p0
  · intro f p0; rw [rI_wI, if_neg (by omega), gD_sD, if_neg (by omega)]; exact hc.hai f p0
  · intro o i p0 p1; rw [rI_wI, if_neg (by omega), gD_sD, if_neg (by omega)]; exact hc.acc o i p0 p1
  · intro f p0; rw [rI_wI, if_neg (by omega), gD_sD, if_neg (by omega)]; exact hc.pay f p0
  · intro f p0; rw [rI_wI, if_neg (by omega), gD_sD, if_neg (by omega)]; exact hc.owe f p0
  · rw [rI_wI, if_neg (by omega), gD_sD, if_neg (by omega)]; exact hc.sed
  · rw [rI_wI, if_neg (by omega), gD_sD, if_neg (by omega)]; exact hc.gon
  · rw [rI_wI, if_neg (by omega), gD_sD, if_neg (by omega)]; exact hc.joi
  · rw [rI_wI, if_neg (by omega), gD_sD, if_neg (by omega)]; exact hc.tak
  · rw [rI_wI, if_pos ⟨rfl, rfl⟩, gD_sD, if_pos ⟨rfl, rfl⟩]
  · rw [rI_wI, if_neg (by omega), gD_sD, if_neg (by omega)]; exact hc.was
  · rw [rI_wI, if_neg (by omega), gD_sD, if_neg (by omega)]; exact hc.hls
theorem eM.wwas {σ : Mem} {σ0 : Mem} {s : Sk} {hf : Nat → Nat} {D : Dy} {v : Int32} (hc : eM σ0 s hf D σ)  (hn : kT s 2 ≤ 8) (hF : kT s 3 ≤ 12) : eM σ0 s hf (sD D 0 5 v) (wI σ 108 46 v) := by
  refine ⟨?_, ?_, ?_, ?_, ?_, ?_, ?_, ?_, ?_, ?_, ?_, ?_, ?_, ?_, ?_, ?_, ?_, ?_, ?_⟩
  · exact ⟨fun a j h3 ha => by rw [rI_wI, if_neg (by omega)]; exact hc.1.1 a j h3 ha, hc.1.2⟩
  · intro k hk; rw [rI_wI, if_neg (by omega), rI_wI, if_neg (by omega), rI_wI, if_neg (by omega), gN_sD]; exact hc.2.1 k hk
  · intro k p0 p1; rw [gN_sD] at p1; rw [rI_wI, if_neg (by omega), gN_sD]; exact hc.own k p0 p1
  · intro k p0 p1; rw [gN_sD] at p1; rw [rI_wI, if_neg (by omega), gN_sD]; exact hc.min k p0 p1
  · intro f p0; rw [rI_wI, if_neg (by omega), gN_sD]; exact hc.thi f p0
  · intro k o p0 p1 p2; rw [gN_sD] at p1; rw [rI_wI, if_neg (by omega), gN_sD]; exact hc.par k o p0 p1 p2
  · intro g o p0 p1; rw [rI_wI, if_neg (by omega), gN_sD]; exact hc.kep g o p0 p1
  · intro f p0; rw [rI_wI, if_neg (by omega), gD_sD, if_neg (by omega)]; exact hc.flo f p0
  · intro f p0; rw [rI_wI, if_neg (by omega), gD_sD, if_neg (by omega)]; exact hc.hai f p0
  · intro o i p0 p1; rw [rI_wI, if_neg (by omega), gD_sD, if_neg (by omega)]; exact hc.acc o i p0 p1
  · intro f p0; rw [rI_wI, if_neg (by omega), gD_sD, if_neg (by omega)]; exact hc.pay f p0
  · intro f p0; rw [rI_wI, if_neg (by omega), gD_sD, if_neg (by omega)]; exact hc.owe f p0
  · rw [rI_wI, if_neg (by omega), gD_sD, if_neg (by omega)]; exact hc.sed
  · rw [rI_wI, if_neg (by omega), gD_sD, if_neg (by omega)]; exact hc.gon
  · rw [rI_wI, if_neg (by omega), gD_sD, if_neg (by omega)]; exact hc.joi
  · rw [rI_wI, if_neg (by omega), gD_sD, if_neg (by omega)]; exact hc.tak
  · rw [rI_wI, if_neg (by omega), gD_sD, if_neg (by omega)]; exact hc.fld
  · rw [rI_wI, if_pos ⟨rfl, rfl⟩, gD_sD, if_pos ⟨rfl, rfl⟩]
  · rw [rI_wI, if_neg (by omega), gD_sD, if_neg (by omega)]; exact hc.hls
theorem eM.whls {σ : Mem} {σ0 : Mem} {s : Sk} {hf : Nat → Nat} {D : Dy} {v : Int32} (hc : eM σ0 s hf D σ)  (hn : kT s 2 ≤ 8) (hF : kT s 3 ≤ 12) : eM σ0 s hf (sD D 0 6 v) (wI σ 108 48 v) := by
  refine ⟨?_, ?_, ?_, ?_, ?_, ?_, ?_, ?_, ?_, ?_, ?_, ?_, ?_, ?_, ?_, ?_, ?_, ?_, ?_⟩
  · exact ⟨fun a j h3 ha => by rw [rI_wI, if_neg (by omega)]; exact hc.1.1 a j h3 ha, hc.1.2⟩
  · intro k hk; rw [rI_wI, if_neg (by omega), rI_wI, if_neg (by omega), rI_wI, if_neg (by omega), gN_sD]; exact hc.2.1 k hk
  · intro k p0 p1; rw [gN_sD] at p1; rw [rI_wI, if_neg (by omega), gN_sD]; exact hc.own k p0 p1
  · intro k p0 p1; rw [gN_sD] at p1; rw [rI_wI, if_neg (by omega), gN_sD]; exact hc.min k p0 p1
  · intro f p0; rw [rI_wI, if_neg (by omega), gN_sD]; exact hc.thi f p0
  · intro k o p0 p1 p2; rw [gN_sD] at p1; rw [rI_wI, if_neg (by omega), gN_sD]; exact hc.par k o p0 p1 p2
  · intro g o p0 p1; rw [rI_wI, if_neg (by omega), gN_sD]; exact hc.kep g o p0 p1
  · intro f p0; rw [rI_wI, if_neg (by omega), gD_sD, if_neg (by omega)]; exact hc.flo f p0
  · intro f p0; rw [rI_wI, if_neg (by omega), gD_sD, if_neg (by omega)]; exact hc.hai f p0
  · intro o i p0 p1; rw [rI_wI, if_neg (by omega), gD_sD, if_neg (by omega)]; exact hc.acc o i p0 p1
  · intro f p0; rw [rI_wI, if_neg (by omega), gD_sD, if_neg (by omega)]; exact hc.pay f p0
  · intro f p0; rw [rI_wI, if_neg (by omega), gD_sD, if_neg (by omega)]; exact hc.owe f p0
  · rw [rI_wI, if_neg (by omega), gD_sD, if_neg (by omega)]; exact hc.sed
  · rw [rI_wI, if_neg (by omega), gD_sD, if_neg (by omega)]; exact hc.gon
  · rw [rI_wI, if_neg (by omega), gD_sD, if_neg (by omega)]; exact hc.joi
  · rw [rI_wI, if_neg (by omega), gD_sD, if_neg (by omega)]; exact hc.tak
  · rw [rI_wI, if_neg (by omega), gD_sD, if_neg (by omega)]; exact hc.fld
  · rw [rI_wI, if_neg (by omega), gD_sD, if_neg (by omega)]; exact hc.was
  · rw [rI_wI, if_pos ⟨rfl, rfl⟩, gD_sD, if_pos ⟨rfl, rfl⟩]
theorem eC.congr {σ : Mem} {σ0 : Mem} {s : Sk} {h : Nat} {hf : Nat → Nat} {D E : Dy} (hc : eC σ0 s h hf D σ) (h0 : ∀ k, k < kT s 2 → gN E 0 k = gN D 0 k) (h1 : ∀ t i, (1 ≤ t ∧ t ≤ 3) ∨ (8 ≤ t ∧ t < 84 ∧ i < 8) → gN E t i = gN D t i) (h2 : ∀ t i, gD E t i = gD D t i) (hn : kT s 2 ≤ 8) : eC σ0 s h hf E σ := by
  refine ⟨hc.1, ?_, ?_, ?_, ?_, ?_, ?_, ?_, ?_, ?_, ?_, ?_, ?_, ?_, ?_, ?_, ?_, ?_, ?_, ?_⟩
  · intro k hk; rw [hc.2.1 k hk]; unfold clV; rw [h0 k hk]
  · intro k p0 p1; rw [h0 k p0] at p1; rw [h1 _ _ (by omega)]; exact hc.own k p0 p1
  · intro k p0 p1; rw [h0 k p0] at p1; rw [h1 _ _ (by omega)]; exact hc.min k p0 p1
  · intro f p0; rw [h1 _ _ (by omega)]; exact hc.thi f p0
  · intro k o p0 p1 p2; rw [h0 k p0] at p1; rw [h1 _ _ (by omega)]; exact hc.par k o p0 p1 p2
  · intro g o p0 p1; rw [h1 _ _ (by omega)]; exact hc.kep g o p0 p1
  · intro c o p0 p1; rw [h1 _ _ (by omega)]; exact hc.rai c o p0 p1
  · intro f p0; rw [h2]; exact hc.flo f p0
  · intro f p0; rw [h2]; exact hc.hai f p0
  · intro o i p0 p1; rw [h2]; exact hc.acc o i p0 p1
  · intro f p0; rw [h2]; exact hc.pay f p0
  · intro f p0; rw [h2]; exact hc.owe f p0
  · rw [h2]; exact hc.sed
  · rw [h2]; exact hc.gon
  · rw [h2]; exact hc.joi
  · rw [h2]; exact hc.tak
  · rw [h2]; exact hc.fld
  · rw [h2]; exact hc.was
  · rw [h2]; exact hc.hls
theorem eC.mem {σ τ : Mem} {σ0 : Mem} {s : Sk} {h : Nat} {hf : Nat → Nat} {D : Dy} (hc : eC σ0 s h hf D σ) (hf0 : fC σ0 τ) (h1 : ∀ a j, (59 ≤ a ∧ a ≤ 78) → rI τ a j = rI σ a j) (hn : kT s 2 ≤ 8) (hF : kT s 3 ≤ 12) : eC σ0 s h hf D τ := by
  refine ⟨hf0, ?_, ?_, ?_, ?_, ?_, ?_, ?_, ?_, ?_, ?_, ?_, ?_, ?_, ?_, ?_, ?_, ?_, ?_, ?_⟩
  · intro k hk; rw [h1 _ _ (by omega)]; exact hc.2.1 k hk
  · intro k p0 p1; rw [h1 _ _ (by omega)]; exact hc.own k p0 p1
  · intro k p0 p1; rw [h1 _ _ (by omega)]; exact hc.min k p0 p1
  · intro f p0; rw [h1 _ _ (by omega)]; exact hc.thi f p0
  · intro k o p0 p1 p2; rw [h1 _ _ (by omega)]; exact hc.par k o p0 p1 p2
  · intro g o p0 p1; rw [h1 _ _ (by omega)]; exact hc.kep g o p0 p1
  · intro c o p0 p1; rw [h1 _ _ (by omega)]; exact hc.rai c o p0 p1
  · intro f p0; rw [h1 _ _ (by omega)]; exact hc.flo f p0
  · intro f p0; rw [h1 _ _ (by omega)]; exact hc.hai f p0
  · intro o i p0 p1; rw [h1 _ _ (by omega)]; exact hc.acc o i p0 p1
  · intro f p0; rw [h1 _ _ (by omega)]; exact hc.pay f p0
  · intro f p0; rw [h1 _ _ (by omega)]; exact hc.owe f p0
  · rw [h1 _ _ (by omega)]; exact hc.sed
  · rw [h1 _ _ (by omega)]; exact hc.gon
  · rw [h1 _ _ (by omega)]; exact hc.joi
  · rw [h1 _ _ (by omega)]; exact hc.tak
  · rw [h1 _ _ (by omega)]; exact hc.fld
  · rw [h1 _ _ (by omega)]; exact hc.was
  · rw [h1 _ _ (by omega)]; exact hc.hls
theorem eM.congr {σ : Mem} {σ0 : Mem} {s : Sk} {hf : Nat → Nat} {D E : Dy} (hc : eM σ0 s hf D σ) (h0 : ∀ k, k < kT s 2 → gN E 0 k = gN D 0 k) (h1 : ∀ t i, (1 ≤ t ∧ t ≤ 3) ∨ (8 ≤ t ∧ t < 84 ∧ i < 8) → gN E t i = gN D t i) (h2 : ∀ t i, gD E t i = gD D t i) (hn : kT s 2 ≤ 8) : eM σ0 s hf E σ := by
  refine ⟨hc.1, ?_, ?_, ?_, ?_, ?_, ?_, ?_, ?_, ?_, ?_, ?_, ?_, ?_, ?_, ?_, ?_, ?_, ?_⟩
  · intro k hk; rw [h0 k hk]; exact hc.2.1 k hk
  · intro k p0 p1; rw [h0 k p0] at p1; rw [h1 _ _ (by omega)]; exact hc.own k p0 p1
  · intro k p0 p1; rw [h0 k p0] at p1; rw [h1 _ _ (by omega)]; exact hc.min k p0 p1
  · intro f p0; rw [h1 _ _ (by omega)]; exact hc.thi f p0
  · intro k o p0 p1 p2; rw [h0 k p0] at p1; rw [h1 _ _ (by omega)]; exact hc.par k o p0 p1 p2
  · intro g o p0 p1; rw [h1 _ _ (by omega)]; exact hc.kep g o p0 p1
  · intro f p0; rw [h2]; exact hc.flo f p0
  · intro f p0; rw [h2]; exact hc.hai f p0
  · intro o i p0 p1; rw [h2]; exact hc.acc o i p0 p1
  · intro f p0; rw [h2]; exact hc.pay f p0
  · intro f p0; rw [h2]; exact hc.owe f p0
  · rw [h2]; exact hc.sed
  · rw [h2]; exact hc.gon
  · rw [h2]; exact hc.joi
  · rw [h2]; exact hc.tak
  · rw [h2]; exact hc.fld
  · rw [h2]; exact hc.was
  · rw [h2]; exact hc.hls
theorem eM.mem {σ τ : Mem} {σ0 : Mem} {s : Sk} {hf : Nat → Nat} {D : Dy} (hc : eM σ0 s hf D σ) (hf0 : fM σ0 τ) (h1 : ∀ a j, ((238 ≤ a ∧ a < 336 ∧ a ≠ 243 ∧ ¬ (253 ≤ a ∧ a < 318)) ∨ (a = 108 ∧ 43 ≤ j ∧ j ≤ 49)) → rI τ a j = rI σ a j) (hn : kT s 2 ≤ 8) (hF : kT s 3 ≤ 12) : eM σ0 s hf D τ := by
  refine ⟨hf0, ?_, ?_, ?_, ?_, ?_, ?_, ?_, ?_, ?_, ?_, ?_, ?_, ?_, ?_, ?_, ?_, ?_, ?_⟩
  · intro k hk; rw [h1 _ _ (by omega), h1 _ _ (by omega), h1 _ _ (by omega)]; exact hc.2.1 k hk
  · intro k p0 p1; rw [h1 _ _ (by omega)]; exact hc.own k p0 p1
  · intro k p0 p1; rw [h1 _ _ (by omega)]; exact hc.min k p0 p1
  · intro f p0; rw [h1 _ _ (by omega)]; exact hc.thi f p0
  · intro k o p0 p1 p2; rw [h1 _ _ (by omega)]; exact hc.par k o p0 p1 p2
  · intro g o p0 p1; rw [h1 _ _ (by omega)]; exact hc.kep g o p0 p1
  · intro f p0; rw [h1 _ _ (by omega)]; exact hc.flo f p0
  · intro f p0; rw [h1 _ _ (by omega)]; exact hc.hai f p0
  · intro o i p0 p1; rw [h1 _ _ (by omega)]; exact hc.acc o i p0 p1
  · intro f p0; rw [h1 _ _ (by omega)]; exact hc.pay f p0
  · intro f p0; rw [h1 _ _ (by omega)]; exact hc.owe f p0
  · rw [h1 _ _ (by omega)]; exact hc.sed
  · rw [h1 _ _ (by omega)]; exact hc.gon
  · rw [h1 _ _ (by omega)]; exact hc.joi
  · rw [h1 _ _ (by omega)]; exact hc.tak
  · rw [h1 _ _ (by omega)]; exact hc.fld
  · rw [h1 _ _ (by omega)]; exact hc.was
  · rw [h1 _ _ (by omega)]; exact hc.hls
