/-! SOUNDNESS: the whole -/
def sfx (code cur : List El) : Prop := ∃ pre, code = pre ++ cur
theorem sfx.tl {code tl : List El} {e : El} (h : sfx code (e :: tl)) : sfx code tl := by
  obtain ⟨pre, h⟩ := h; exact ⟨pre ++ [e], by rw [h]; simp⟩
theorem sfx.mem {code tl : List El} {e : El} (h : sfx code (e :: tl)) : e ∈ code := by
  obtain ⟨pre, h⟩ := h; rw [h]; simp
theorem chB_sfx : ∀ {pre cur : List El}, chB (pre ++ cur) = true → chB cur = true
  | [], _, h => h
  | _ :: pre, _, h => chB_sfx (pre := pre) (by simp only [List.cons_append, chB, Bool.and_eq_true] at h; exact h.2)
theorem seek_sfx {code : List El} {t : Nat} : sfx code (seek code t) := by
  induction code with
  | nil => exact ⟨[], rfl⟩
  | cons e tl ih =>
    unfold seek
    cases h : Nat.beq e.1 t with
    | true => exact ⟨[], rfl⟩
    | false => obtain ⟨pre, hp⟩ := ih; exact ⟨e :: pre, by show e :: tl = e :: (pre ++ seek tl t); rw [← hp]⟩
theorem seek_hd {code : List El} {t : Nat} {e : El} {tl : List El} (h : seek code t = e :: tl) : e.1 = t := by
  induction code with
  | nil => simp [seek] at h
  | cons f l ih =>
    unfold seek at h
    cases hb : Nat.beq f.1 t with
    | true => rw [hb] at h; cases h; exact Nat.eq_of_beq_eq_true hb
    | false => rw [hb] at h; exact ih h
theorem Int32_ofInt_nat (n : Nat) : Int32.ofInt (n : Int) = nI n := by first | rfl | exact Int32.ofInt_eq_ofNat | simp [nI, Int32.ofInt_eq_ofNat]
theorem popN_spec : ∀ (n : Nat) (st acc : List AV) (k : List AV → List AV → Prop), popN n st acc k → ∃ as r, st = as.reverse ++ r ∧ as.length = n ∧ k (as ++ acc) r
  | 0, st, acc, k, h => ⟨[], st, rfl, rfl, h⟩
  | n + 1, x :: st, acc, k, h => by
    obtain ⟨as, r, h1, h2, h3⟩ := popN_spec n st (x :: acc) k h
    exact ⟨as ++ [x], r, by rw [h1]; simp, by simp [h2], by simpa using h3⟩
  | _ + 1, [], _, _, h => h.elim
theorem cond_tt {c : Bool} {P : Prop} (h : cond c P False) : c = true ∧ P := by cases c with | true => exact ⟨rfl, h⟩ | false => exact h.elim
