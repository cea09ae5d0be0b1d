/-! THE COMPONENT'S bid, gauge, image, restore -/
section SH
variable {w : Wd} {d : Nat} {A : St} {v : AV}
/-- what bid takes -/
def okB3 (f m p : Int32) : Prop := ¬ f < nI 0 ∧ ¬ nI 7 ≤ f ∧ ¬ m < nI 1 ∧ ¬ nI 999 < m ∧ ¬ p < nI 0 ∧ ¬ nI 99 < p
theorem bI_ne {b : Bool} (h : ¬ bI b = nI 0) : b = true := by cases b with | true => rfl | false => exact absurd rfl h
theorem bI_eq {b : Bool} (h : bI b = nI 0) : b = false := by cases b with | false => rfl | true => exact absurd h (by decide)
theorem CC_bid_bad {f m p : Int32} (hx : ¬ okB3 f m p) : CC w (d + 7) m_OC_bid [.int f, .int m, .int p] A 1 v A := by
  intro σ P X hI _ hX
  have hX' := fun n => hX 0 rfl _ (frC.nX σ n) (hI.nX n)
  have go : ∃ kc ks, 0 + kc ≤ 1 ∧ 0 + ks ≤ 6 ∧ Ret w true (d + 6) kc ks m_OC_need [.int (nI 0)] σ (fun _ _ => False) X := callG 1 6 (by omega) (by omega) (s_need_bad rfl (by omega) (by omega) hI.n hX')
  have go' : ∀ Q : Option AV → Mem → Prop, ∃ kc ks, 0 + kc ≤ 1 ∧ 0 + ks ≤ 6 ∧ Ret w true (d + 6) kc ks m_OC_need [.int (nI 0)] σ Q X := fun Q => callG 1 6 (by omega) (by omega) (s_need_bad rfl (by omega) (by omega) hI.n hX')
  refine meth_ok k_OC_bid q_OC_bid rfl fun At hAt => hAt 50 _ _ _ _ _ _ ?_
  refine s_isFarmer ?_
  refine And.intro (fun q => callG 1 6 (by omega) (by omega) (s_need_bad rfl (by omega) (by omega) hI.n hX')) (fun q0 => ?_)
  refine And.intro (fun q => callG 1 6 (by omega) (by omega) (s_need_bad rfl (by omega) (by omega) hI.n hX')) (fun q1 => ?_)
  refine And.intro (fun q => callG 1 6 (by omega) (by omega) (s_need_bad rfl (by omega) (by omega) hI.n hX')) (fun q2 => ?_)
  refine And.intro (fun q => callG 1 6 (by omega) (by omega) (s_need_bad rfl (by omega) (by omega) hI.n hX')) (fun q3 => ?_)
  refine And.intro (fun q => callG 1 6 (by omega) (by omega) (s_need_bad rfl (by omega) (by omega) hI.n hX')) (fun q4 => ?_)
  have z := of_decide_eq_true (bI_ne q0)
  exact absurd ⟨z.1, z.2, q1, q2, q3, q4⟩ hx
theorem CC_bid_full {f m p : Int32} (hv : VA A) (hx : okB3 f m p) (hf : ¬ (aBk A).2.1.1 < 8) : CC w (d + 7) m_OC_bid [.int f, .int m, .int p] A 0 (.int (-1)) A := by
  intro σ P X hI hP _
  obtain ⟨b1, b2, b3⟩ := hI.bk
  have := hv.2.2.2.1.2.1
  refine meth_ok k_OC_bid q_OC_bid rfl fun At hAt => hAt 50 _ _ _ _ _ _ ?_
  refine s_isFarmer ?_
  rw [decide_eq_true ⟨hx.1, hx.2.1⟩]
  refine And.intro (fun q => absurd q (by decide)) (fun _ => And.intro (fun q => absurd q hx.2.2.1) (fun _ => And.intro (fun q => absurd q hx.2.2.2.1) (fun _ => And.intro (fun q => absurd q hx.2.2.2.2.1) (fun _ => And.intro (fun q => absurd q hx.2.2.2.2.2) (fun _ => ?_)))))
  refine callG 0 0 (by omega) (by omega) (s_need_ok (by decide) ?_)
  refine meth_ok k_Book_takeBid q_Book_takeBid rfl fun At hAt => hAt 50 _ _ _ _ _ _ ?_
  refine s_Table_openF (a := 33) (na := 34) (mo := 8) (wd := 3) rfl b2.1 (by omega) (by omega) ?_
  exact And.intro (fun q => absurd rfl q) (fun _ => hP rfl σ (frC.rfl σ) hI)
theorem CC_bid_ok {f m p : Nat} (hx : okB3 (nI f) (nI m) (nI p)) (hf : (aBk A).2.1.1 < 8) : CC w (d + 7) m_OC_bid [.int (nI f), .int (nI m), .int (nI p)] A 0 (.int (nI ((aBk A).2.1.1 + 1)))
    (sBk A ((aBk A).1, addR (aBk A).2.1 (fun i => if i = 0 then f else if i = 1 then m else p), (aBk A).2.2)) := by
  intro σ P X hI hP _
  obtain ⟨b1, b2, b3⟩ := hI.bk
  have hP' : ∀ σ' x, frC σ σ' → IC _ σ' → x = nI ((aBk A).2.1.1 + 1) → P (some (.int x)) σ' := fun σ' x h1 h2 h3 => by rw [h3]; exact hP rfl σ' h1 h2
  refine meth_ok k_OC_bid q_OC_bid rfl fun At hAt => hAt 50 _ _ _ _ _ _ ?_
  refine s_isFarmer ?_
  rw [decide_eq_true ⟨hx.1, hx.2.1⟩]
  refine And.intro (fun q => absurd q (by decide)) (fun _ => And.intro (fun q => absurd q hx.2.2.1) (fun _ => And.intro (fun q => absurd q hx.2.2.2.1) (fun _ => And.intro (fun q => absurd q hx.2.2.2.2.1) (fun _ => And.intro (fun q => absurd q hx.2.2.2.2.2) (fun _ => ?_)))))
  refine callG 0 0 (by omega) (by omega) (s_need_ok (by decide) ?_)
  refine meth_ok k_Book_takeBid q_Book_takeBid rfl fun At hAt => hAt 50 _ _ _ _ _ _ ?_
  refine s_Table_open (a := 33) (na := 34) (mo := 8) (wd := 3) rfl b2.1 hf ?_
  refine And.intro (fun _ => ?_) (fun q => absurd q (nI_m1 (by omega)))
  refine s_Table_set (a := 33) (na := 34) (mo := 8) (wd := 3) rfl hf (show 0 < 3 by omega) ?_
  refine s_Table_set (a := 33) (na := 34) (mo := 8) (wd := 3) rfl hf (show 1 < 3 by omega) ?_
  refine s_Table_set (a := 33) (na := 34) (mo := 8) (wd := 3) rfl hf (show 2 < 3 by omega) ?_
  refine s_Table_size (a := 33) (na := 34) (mo := 8) (wd := 3) rfl ?_
  refine hP' _ _ ?_ ?_ ?_
  · exact (((frC.rfl σ).wI (by omega)).wI (by omega)).wI (by omega) |>.wI (by omega)
  · refine hI.setBk (fun a j ha => ?_) (Nat.le_refl _) ⟨b1.frame (fun j => ?_) (fun j => ?_), b2.push ?_ (fun i hi => ?_) (fun j hj => ?_), b3.frame (fun j => ?_) (fun j => ?_)⟩
    · simp only [rI_wI]
      rw [if_neg (by omega), if_neg (by omega), if_neg (by omega), if_neg (by omega)]
    · simp [rI_wI]
    · simp [rI_wI]
    · simp [rI_wI]
    · have : i = 0 ∨ i = 1 ∨ i = 2 := by omega
      rcases this with rfl | rfl | rfl <;> simp [rI_wI]
    · simp only [rI_wI]
      rw [if_neg (by omega), if_neg (by omega), if_neg (by omega), if_neg (by omega)]
    all_goals simp [rI_wI]
  · simp [rI_wI]
/-- what gauge takes -/
def okG (s : Sk) (x y n : Int32) : Prop := ¬ x < nI 0 ∧ ¬ nI (kT s 0) ≤ x ∧ ¬ y < nI 0 ∧ ¬ nI (kT s 1) ≤ y ∧ ¬ n < nI 0 ∧ ¬ nI 9999 < n
theorem CC_gauge_bad {x y n : Int32} (hx : ¬ okG (aSk A) x y n) : CC w (d + 7) m_OC_gauge [.int x, .int y, .int n] A 1 v A := by
  intro σ P X hI _ hX
  have hX' := fun n => hX 0 rfl _ (frC.nX σ n) (hI.nX n)
  refine meth_ok k_OC_gauge q_OC_gauge rfl fun At hAt => hAt 50 _ _ _ _ _ _ ?_
  refine And.intro (fun q => callG 1 6 (by omega) (by omega) (s_need_bad rfl (by omega) (by omega) hI.n hX')) (fun q0 => ?_)
  refine s_Sky_fact (i := 0) hI.sk (by omega) ?_
  refine And.intro (fun q => callG 1 6 (by omega) (by omega) (s_need_bad rfl (by omega) (by omega) hI.n hX')) (fun q1 => ?_)
  refine And.intro (fun q => callG 1 6 (by omega) (by omega) (s_need_bad rfl (by omega) (by omega) hI.n hX')) (fun q2 => ?_)
  refine s_Sky_fact (i := 1) hI.sk (by omega) ?_
  refine And.intro (fun q => callG 1 6 (by omega) (by omega) (s_need_bad rfl (by omega) (by omega) hI.n hX')) (fun q3 => ?_)
  refine s_isWater ?_
  refine And.intro (fun q => callG 1 6 (by omega) (by omega) (s_need_bad rfl (by omega) (by omega) hI.n hX')) (fun q4 => ?_)
  have z := of_decide_eq_true (bI_ne q4)
  exact absurd ⟨q0, q1, q2, q3, z.1, z.2⟩ hx
/-- is there a gauge already -/
def hasG (t : Tb) (x y : Nat) : Prop := ∃ k, k < t.1 ∧ t.2 k 0 = x ∧ t.2 k 1 = y
theorem hasG_at {σ : Mem} {o a wd : Nat} {t : Tb} {x y : Nat} (h : tbR σ o a wd t) (hw : 2 ≤ wd) (ht : t.1 < 2 ^ 31) (hb : ∀ k, k < t.1 → t.2 k 0 < 2 ^ 31 ∧ t.2 k 1 < 2 ^ 31) (hx : x < 2 ^ 31) (hy : y < 2 ^ 31) :
    (hasG t x y → ¬ fsF (atXY σ a wd (nI x) (nI y)) 0 t.1 = -1) ∧ (¬ hasG t x y → fsF (atXY σ a wd (nI x) (nI y)) 0 t.1 = -1) := by
  have hp : ∀ k, k < t.1 → (atXY σ a wd (nI x) (nI y) k = true ↔ t.2 k 0 = x ∧ t.2 k 1 = y) := fun k hk => by
    unfold atXY
    rw [decide_eq_true_eq, h.2 k hk 0 (by omega), h.2 k hk 1 (by omega), nI_eq (hb k hk).1 hx, nI_eq (hb k hk).2 hy]
  rcases fsF_spec (atXY σ a wd (nI x) (nI y)) t.1 0 with ⟨e, g⟩ | ⟨i, h1, h2, h3, h4, h5⟩
  · refine ⟨fun ⟨k, k1, k2⟩ => ?_, fun _ => e⟩
    have := (hp k k1).mpr k2
    rw [g k (by omega) (by omega)] at this
    cases this
  · refine ⟨fun _ => by rw [h4]; exact nI_m1 (by omega), fun z => absurd ⟨i, by omega, (hp i (by omega)).mp h3⟩ z⟩
theorem CC_gauge_no {x y n : Nat} (hv : VA A) (hx : okG (aSk A) (nI x) (nI y) (nI n)) (hxy : x < 2 ^ 31 ∧ y < 2 ^ 31) (hf : hasG (aBk A).2.2 x y ∨ ¬ (aBk A).2.2.1 < 9) : CC w (d + 7) m_OC_gauge [.int (nI x), .int (nI y), .int (nI n)] A 0 (.int (-1)) A := by
  intro σ P X hI hP _
  obtain ⟨b1, b2, b3⟩ := hI.bk
  have hm := hv.2.2.2.1.2.2.1
  have hb := hv.2.2.2.1.2.2.2.2.2.1
  have hS := hv.2.2.1
  have s1 := hS.1
  have s2 := hS.2.1
  refine meth_ok k_OC_gauge q_OC_gauge rfl fun At hAt => hAt 50 _ _ _ _ _ _ ?_
  refine And.intro (fun q => absurd q hx.1) (fun _ => s_Sky_fact (i := 0) hI.sk (by omega) (And.intro (fun q => absurd q hx.2.1) (fun _ => And.intro (fun q => absurd q hx.2.2.1) (fun _ => s_Sky_fact (i := 1) hI.sk (by omega) (And.intro (fun q => absurd q hx.2.2.2.1) (fun _ => s_isWater ?_))))))
  rw [decide_eq_true hx.2.2.2.2]
  refine And.intro (fun q => absurd q (by decide)) (fun _ => ?_)
  refine callG 0 0 (by omega) (by omega) (s_need_ok (by decide) ?_)
  refine meth_ok k_Book_setGauge q_Book_setGauge rfl fun At hAt => hAt 50 _ _ _ _ _ _ ?_
  refine s_Table_isFull (a := 35) (na := 36) (mo := 9) (wd := 3) rfl b3.1 (by omega) ?_
  by_cases e : (aBk A).2.2.1 < 9
  · rw [if_pos e]
    refine And.intro (fun q => absurd rfl q) (fun _ => ?_)
    refine s_Table_rowAt (a := 35) (na := 36) (mo := 9) (wd := 3) rfl (by omega) b3.1 hm ?_
    have hg := (hasG_at b3 (by omega) (by omega) (fun k hk => by have := hb k hk; omega) hxy.1 hxy.2).1 (hf.resolve_right (fun z => z e))
    exact And.intro (fun q => absurd q hg) (fun _ => hP rfl σ (frC.rfl σ) hI)
  · rw [if_neg e]
    exact And.intro (fun _ => hP rfl σ (frC.rfl σ) hI) (fun q => absurd q (by decide))
theorem CC_gauge_ok {x y n : Nat} (hv : VA A) (hx : okG (aSk A) (nI x) (nI y) (nI n)) (hxy : x < 2 ^ 31 ∧ y < 2 ^ 31) (hf : ¬ hasG (aBk A).2.2 x y) (he : (aBk A).2.2.1 < 9) :
    CC w (d + 7) m_OC_gauge [.int (nI x), .int (nI y), .int (nI n)] A 0 (.int (nI ((aBk A).2.2.1 + 1))) (sBk A ((aBk A).1, (aBk A).2.1, addR (aBk A).2.2 (fun i => if i = 0 then x else if i = 1 then y else n))) := by
  intro σ P X hI hP _
  obtain ⟨b1, b2, b3⟩ := hI.bk
  have hm := hv.2.2.2.1.2.2.1
  have hb := hv.2.2.2.1.2.2.2.2.2.1
  have hS := hv.2.2.1
  have s1 := hS.1
  have s2 := hS.2.1
  have hP' : ∀ σ' x, frC σ σ' → IC _ σ' → x = nI ((aBk A).2.2.1 + 1) → P (some (.int x)) σ' := fun σ' x h1 h2 h3 => by rw [h3]; exact hP rfl σ' h1 h2
  refine meth_ok k_OC_gauge q_OC_gauge rfl fun At hAt => hAt 50 _ _ _ _ _ _ ?_
  refine And.intro (fun q => absurd q hx.1) (fun _ => s_Sky_fact (i := 0) hI.sk (by omega) (And.intro (fun q => absurd q hx.2.1) (fun _ => And.intro (fun q => absurd q hx.2.2.1) (fun _ => s_Sky_fact (i := 1) hI.sk (by omega) (And.intro (fun q => absurd q hx.2.2.2.1) (fun _ => s_isWater ?_))))))
  rw [decide_eq_true hx.2.2.2.2]
  refine And.intro (fun q => absurd q (by decide)) (fun _ => ?_)
  refine callG 0 0 (by omega) (by omega) (s_need_ok (by decide) ?_)
  refine meth_ok k_Book_setGauge q_Book_setGauge rfl fun At hAt => hAt 50 _ _ _ _ _ _ ?_
  refine s_Table_isFull (a := 35) (na := 36) (mo := 9) (wd := 3) rfl b3.1 (by omega) ?_
  rw [if_pos he]
  refine And.intro (fun q => absurd rfl q) (fun _ => ?_)
  refine s_Table_rowAt (a := 35) (na := 36) (mo := 9) (wd := 3) rfl (by omega) b3.1 hm ?_
  have hg := (hasG_at b3 (by omega) (by omega) (fun k hk => by have := hb k hk; omega) hxy.1 hxy.2).2 hf
  refine And.intro (fun _ => ?_) (fun q => absurd hg q)
  refine s_Table_open (a := 35) (na := 36) (mo := 9) (wd := 3) rfl b3.1 he ?_
  refine s_Table_set (a := 35) (na := 36) (mo := 9) (wd := 3) rfl he (show 0 < 3 by omega) ?_
  refine s_Table_set (a := 35) (na := 36) (mo := 9) (wd := 3) rfl he (show 1 < 3 by omega) ?_
  refine s_Table_set (a := 35) (na := 36) (mo := 9) (wd := 3) rfl he (show 2 < 3 by omega) ?_
  refine s_Table_size (a := 35) (na := 36) (mo := 9) (wd := 3) rfl ?_
  refine hP' _ _ ?_ ?_ ?_
  · exact (((frC.rfl σ).wI (by omega)).wI (by omega)).wI (by omega) |>.wI (by omega)
  · refine hI.setBk (fun a j ha => ?_) (Nat.le_refl _) ⟨b1.frame (fun j => ?_) (fun j => ?_), b2.frame (fun j => ?_) (fun j => ?_), b3.push ?_ (fun i hi => ?_) (fun j hj => ?_)⟩
    · simp only [rI_wI]
      rw [if_neg (by omega), if_neg (by omega), if_neg (by omega), if_neg (by omega)]
    · simp [rI_wI]
    · simp [rI_wI]
    · simp [rI_wI]
    · simp [rI_wI]
    · simp [rI_wI]
    · have : i = 0 ∨ i = 1 ∨ i = 2 := by omega
      rcases this with rfl | rfl | rfl <;> simp [rI_wI]
    · simp only [rI_wI]
      rw [if_neg (by omega), if_neg (by omega), if_neg (by omega), if_neg (by omega)]
  · simp [rI_wI]
end SH
