/-! SHARE: long numbers -/
theorem l_add (a b : Nat) : lN a + lN b = lN (a + b) := (Int64.ofNat_add a b).symm
theorem l_mul (a b : Nat) : lN a * lN b = lN (a * b) := (Int64.ofNat_mul a b).symm
theorem l_int {a : Nat} (h : a < 2 ^ 63) : (lN a).toInt = (a : Int) := Int64.toInt_ofNat_of_lt h
theorem l_of {a : Nat} (h : a < 2 ^ 31) : (nI a).toInt64 = lN a := by
  apply Int64.toInt_inj.mp
  rw [i64_of h, l_int (by omega)]
theorem l_div {a b : Nat} (ha : a < 2 ^ 63) (hb : b < 2 ^ 63) : lN a / lN b = lN (a / b) := by
  have h : a / b < 2 ^ 63 := Nat.lt_of_le_of_lt (Nat.div_le_self _ _) ha
  apply Int64.toInt_inj.mp
  rw [Int64.toInt_div, l_int ha, l_int hb, l_int h, ← Int.ofNat_tdiv]
  obtain ⟨c, hc⟩ : ∃ c, c = a / b := ⟨_, rfl⟩
  rw [← hc] at h ⊢
  exact Int.bmod_eq_of_le (by omega) (by omega)
theorem l_sub {a b : Nat} (h : b ≤ a) : lN a - lN b = lN (a - b) := (Int64.ofNat_sub a b h).symm
theorem l_mod {a b : Nat} (ha : a < 2 ^ 63) (hb : b < 2 ^ 63) : lN a - lN a / lN b * lN b = lN (a % b) := by
  rw [l_div ha hb, l_mul, l_sub (Nat.div_mul_le_self a b)]
  have := Nat.div_add_mod a b
  rw [Nat.mul_comm] at this
  congr 1
  omega
theorem l_inj {a b : Nat} (ha : a < 2 ^ 63) (hb : b < 2 ^ 63) (h : lN a = lN b) : a = b := by
  have := congrArg Int64.toInt h
  rw [l_int ha, l_int hb] at this
  omega
def fcN : Nat → Nat
  | 0 => 1
  | n + 1 => (n + 1) * fcN n
def onN (q : Nat) : Nat := sumN (fun i => q / 2 ^ i % 2) 8
/-- above -/
noncomputable def shU (s : Sk) (n k : Nat) : Nat → Nat
  | 0 => 0
  | q + 1 => shU s n k q + if q / 2 ^ k % 2 = 0 then fcN (onN q) * fcN (n - 1 - onN q) * (woS s (q ||| 2 ^ k) - woS s q) else 0
theorem woS_le {s : Sk} (hv : VS s) {q : Nat} (h : ∃ a, isW s q 108 a) : woS s q ≤ 10692 := by
  obtain ⟨a, ha⟩ := h
  unfold woS
  rw [← woV_eq (kyS_inj hv) ha]
  have bF := hv.2.2.2.2.2.2.2.2.2.2.2.2.2.1
  have hF := hv.2.2.2.1
  have aux : ∀ m, m ≤ kT s 3 → sumN (fun f => prS s f * a f) m ≤ 891 * m := by
    intro m
    induction m with
    | zero => exact fun _ => Nat.le_refl _
    | succ m ih =>
      intro h
      rw [sumN]
      have b := bF m (by omega)
      have a1 : a m ≤ 99 := by
        by_cases q : kyS s m < 108
        · exact Nat.le_trans (ha.2.2 m (by omega) q).1 b.2.2.2.1
        · rw [ha.2.1 m (by omega) (by omega)]; omega
      have := Nat.mul_le_mul (show prS s m ≤ 9 from b.2.2.2.2.2) a1
      have := ih (by omega)
      omega
  have := aux _ (Nat.le_refl _)
  omega
theorem bit_t (q i : Nat) : q / 2 ^ i % 2 = 1 ↔ q.testBit i = true := by rw [Nat.testBit_eq_decide_div_mod_eq, decide_eq_true_eq]
theorem woS_mono {s : Sk} (hv : VS s) {q k : Nat} (h1 : ∃ a, isW s q 108 a) (h2 : ∃ a, isW s (q ||| 2 ^ k) 108 a) : woS s q ≤ woS s (q ||| 2 ^ k) := by
  have bF := hv.2.2.2.2.2.2.2.2.2.2.2.2.2.1
  refine woV_mono (kyS_inj hv) (fun f hf z => ?_) (fun f hf => (bF f hf).2.2.2.2.2) (fun f g hf hg z => ?_) (fun i hi => ?_) h1 h2
  · have := bF f hf
    have := hv.2.2.2.1
    unfold prS at z; unfold kyS; omega
  · have := bF f hf
    have := bF g hg
    have := hv.2.2.2.1
    unfold kyS at z; unfold prS; omega
  · unfold QS
    by_cases e : q / 2 ^ i % 2 = 1
    · rw [if_pos e, if_pos ((bit_t _ _).mpr (by rw [Nat.testBit_or, (bit_t _ _).mp e, Bool.true_or]))]; exact Nat.le_refl _
    · rw [if_neg e]; exact Nat.zero_le _
