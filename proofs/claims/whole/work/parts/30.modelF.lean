/-! THE MODEL'S IMAGES -/
def bkAd (q : Nat) : Nat := if q < 3 then 108 else if q < 123 then 184 + 1 + (q - 3) / 4 else if q < 147 then 215 + 1 + (q - 123) / 3 else 224 + 1 + (q - 147) / 3
def bkJ (q : Nat) : Nat := if q < 3 then 19 + q else if q < 123 then (q - 3) % 4 else if q < 147 then (q - 123) % 3 else (q - 147) % 3
theorem bkAJ {p q : Nat} (hp : p < 174) (hq : q < 174) (h1 : bkAd p = bkAd q) (h2 : bkJ p = bkJ q) : p = q := by
  unfold bkAd at h1
  unfold bkJ at h2
  by_cases a1 : p < 3
  · rw [if_pos a1] at h1 h2
    by_cases b1 : q < 3
    · rw [if_pos b1] at h2; omega
    · rw [if_neg b1] at h1
      by_cases b2 : q < 123
      · rw [if_pos b2] at h1; omega
      · rw [if_neg b2] at h1
        by_cases b3 : q < 147
        · rw [if_pos b3] at h1; omega
        · rw [if_neg b3] at h1; omega
  · rw [if_neg a1] at h1 h2
    by_cases a2 : p < 123
    · rw [if_pos a2] at h1 h2
      by_cases b1 : q < 3
      · rw [if_pos b1] at h1; omega
      · rw [if_neg b1] at h1 h2
        by_cases b2 : q < 123
        · rw [if_pos b2] at h1 h2; omega
        · rw [if_neg b2] at h1
          by_cases b3 : q < 147
          · rw [if_pos b3] at h1; omega
          · rw [if_neg b3] at h1; omega
    · rw [if_neg a2] at h1 h2
      by_cases a3 : p < 147
      · rw [if_pos a3] at h1 h2
        by_cases b1 : q < 3
        · rw [if_pos b1] at h1; omega
        · rw [if_neg b1] at h1 h2
          by_cases b2 : q < 123
          · rw [if_pos b2] at h1; omega
          · rw [if_neg b2] at h1 h2
            by_cases b3 : q < 147
            · rw [if_pos b3] at h1 h2; omega
            · rw [if_neg b3] at h1; omega
      · rw [if_neg a3] at h1 h2
        by_cases b1 : q < 3
        · rw [if_pos b1] at h1; omega
        · rw [if_neg b1] at h1 h2
          by_cases b2 : q < 123
          · rw [if_pos b2] at h1; omega
          · rw [if_neg b2] at h1 h2
            by_cases b3 : q < 147
            · rw [if_pos b3] at h1; omega
            · rw [if_neg b3] at h1 h2; omega
theorem bkAd_r {q : Nat} (hq : q < 174) : (bkAd q = 108 ∧ 19 ≤ bkJ q ∧ bkJ q < 22) ∨ (185 ≤ bkAd q ∧ bkAd q < 234) := by
  unfold bkAd bkJ
  by_cases b1 : q < 3
  · rw [if_pos b1, if_pos b1]; omega
  · rw [if_neg b1, if_neg b1]
    by_cases b2 : q < 123
    · rw [if_pos b2]; omega
    · rw [if_neg b2]
      by_cases b3 : q < 147
      · rw [if_pos b3]; omega
      · rw [if_neg b3]; omega
def bkv (σ : Mem) (q : Nat) : Int32 := rI σ (bkAd q) (bkJ q)
def kM (b : Bool) (t p : Nat) (τ : Mem) (v : Int32) : Mem := wI (if b = true then τ else wI τ t p v) 108 23 (nI (p + 1))
def kV (b : Bool) (t p : Nat) (τ : Mem) (v : Int32) : Int32 := if b = true then rI τ t p else v
/-- the first p numbers of the book went out to t (b false) or came in from there -/
def kp (b : Bool) (t p : Nat) (σ τ : Mem) : Prop :=
  (∀ a j, a ≠ t → ¬ (a = 108 ∧ 19 ≤ j ∧ j < 24) → ¬ (185 ≤ a ∧ a < 234) → rI τ a j = rI σ a j) ∧ rI τ 108 22 = rI σ 108 22 ∧ rI τ 108 23 = nI p ∧
  (∀ q, q < 174 → bkv τ q = if b = true ∧ q < p then rI σ t q else bkv σ q) ∧ (∀ q, rI τ t q = if b = false ∧ q < p then bkv σ q else rI σ t q) ∧ τ.2 = σ.2
theorem kp.step {b : Bool} {t p : Nat} {σ τ : Mem} (h : kp b t p σ τ) (hp : p < 174) (ht : 235 ≤ t) : kp b t (p + 1) σ (wI (kM b t p τ (bkv τ p)) (bkAd p) (bkJ p) (kV b t p τ (bkv τ p))) := by
  obtain ⟨h1, h2, h3, h4, h5, h6⟩ := h
  have hr := bkAd_r hp
  have e2 : (wI (kM b t p τ (bkv τ p)) (bkAd p) (bkJ p) (kV b t p τ (bkv τ p))).2 = τ.2 := by unfold kM; cases b <;> rfl
  have rd : ∀ a j, rI (wI (kM b t p τ (bkv τ p)) (bkAd p) (bkJ p) (kV b t p τ (bkv τ p))) a j = if a = bkAd p ∧ j = bkJ p then kV b t p τ (bkv τ p) else if a = 108 ∧ j = 23 then nI (p + 1) else if b = false ∧ a = t ∧ j = p then bkv τ p else rI τ a j := by
    intro a j
    rw [rI_wI]
    unfold kM
    rw [rI_wI]
    cases b with
    | true => simp
    | false => simp [rI_wI]
  have hbp := h4 p hp
  refine ⟨fun a j q1 q2 q3 => ?_, ?_, ?_, fun q hq => ?_, fun q => ?_, e2.trans h6⟩
  · rw [rd, if_neg (by omega), if_neg (by omega), if_neg (fun z => q1 z.2.1)]; exact h1 a j q1 q2 q3
  · rw [rd, if_neg (by omega), if_neg (by omega), if_neg (by omega)]; exact h2
  · rw [rd, if_neg (by omega), if_pos ⟨rfl, rfl⟩]
  · have hrq := bkAd_r hq
    show rI (wI (kM b t p τ (bkv τ p)) (bkAd p) (bkJ p) (kV b t p τ (bkv τ p))) (bkAd q) (bkJ q) = _
    rw [rd]
    by_cases e : q = p
    · subst e
      rw [if_pos ⟨rfl, rfl⟩]
      unfold kV
      cases b with
      | true =>
        rw [if_pos rfl, if_pos ⟨rfl, by omega⟩, h5, if_neg (fun z => by cases z.1)]
      | false =>
        rw [if_neg (by decide), if_neg (fun z => by cases z.1), hbp, if_neg (fun z => by cases z.1)]
    · rw [if_neg (fun z => e (bkAJ hq hp z.1 z.2)), if_neg (by omega), if_neg (by omega)]
      have := h4 q hq
      unfold bkv at this ⊢
      rw [this]
      by_cases z : b = true ∧ q < p
      · rw [if_pos z, if_pos ⟨z.1, by omega⟩]
      · rw [if_neg z, if_neg (fun y => z ⟨y.1, by omega⟩)]
  · rw [rd, if_neg (by omega), if_neg (by omega), h5]
    by_cases e : q = p
    · subst e
      cases b with
      | true => rw [if_neg (fun z => by cases z.1), if_neg (fun z => by cases z.1), if_neg (fun z => by cases z.1)]
      | false => rw [if_pos ⟨rfl, rfl, rfl⟩, if_pos ⟨rfl, by omega⟩, hbp, if_neg (fun z => by cases z.1)]
    · rw [if_neg (fun z => e z.2.2)]
      by_cases z : b = false ∧ q < p
      · rw [if_pos z, if_pos ⟨z.1, by omega⟩]
      · rw [if_neg z, if_neg (fun y => z ⟨y.1, by omega⟩)]
section MF
variable {w : Wd} {d : Nat} {A : St} {v : AV}
theorem s_keeps {b : Bool} {i p : Nat} {σ : Mem} {x : Int32} {P : Option AV → Mem → Prop} {X : Nat → Mem → Prop} (hi : i < 3) (hs : rI σ 108 23 = nI p) (hp : p < 240) (hP : P (some (.int (kV b (234 + 1 + i) p σ x))) (kM b (234 + 1 + i) p σ x)) :
    Ret w true (d + 1) 0 0 m_Mo_keeps [.ref 108, .ref (234 + 1 + i), .int x, .int (bI b)] σ P X := by
  have hk : kS (234 + 1 + i) = 12 ∧ lS (234 + 1 + i) = 240 := (mxB_s (q := 234) (n := 3) (k := 240) rfl).2.2.2.2.2 i hi
  have hlt : 234 + 1 + i < ow_n0 := by have := (mxB_s (q := 234) (n := 3) (k := 240) rfl).1; omega
  refine meth_ok k_Mo_keeps q_Mo_keeps rfl fun At hAt => hAt 50 _ _ _ _ _ _ ?_
  cases b with
  | true =>
    refine And.intro (fun _ => ?_) (fun q => absurd q (by decide))
    have e : rI (wI σ 108 23 (rI σ 108 23 + nI 1)) 108 23 - nI 1 = nI p := by rw [rI_wI, if_pos ⟨rfl, rfl⟩, hs, nI_add, nI_pr]
    refine And.intro (by rw [e]; exact aOK_t hlt hk.1 hk.2 hp (by omega)) ?_
    rw [e, nI_cl (by omega), hs, nI_add, rI_wI, if_neg (by omega)]
    exact hP
  | false =>
    refine And.intro (fun q => absurd rfl q) (fun _ => ?_)
    refine And.intro (by rw [hs]; exact aOK_t hlt hk.1 hk.2 hp (by omega)) ?_
    rw [hs, nI_cl (by omega)]
    have e0 : rI (wI σ (234 + 1 + i) p x) 108 23 = nI p := by rw [rI_wI, if_neg (by omega)]; exact hs
    have e : rI (wI (wI σ (234 + 1 + i) p x) 108 23 (rI (wI σ (234 + 1 + i) p x) 108 23 + nI 1)) 108 23 - nI 1 = nI p := by rw [rI_wI, if_pos ⟨rfl, rfl⟩, e0, nI_add, nI_pr]
    refine And.intro (by rw [e]; exact aOK_t hlt hk.1 hk.2 hp (by omega)) ?_
    rw [e, nI_cl (by omega), e0, nI_add, rI_wI, if_neg (by omega), rI_wI, if_pos ⟨rfl, rfl⟩]
    exact hP
end MF
