/-! THE LAW'S WRAPPERS, each: what it returns and writes out of what the component's method does; and how the law calls them -/
section WRS
variable {w : Wd} {D t : Nat} {σ : Mem} {A A' : St} {P : Option AV → Mem → Prop}
def hh_sky : List (Nat × Nat × Nat × Nat) := [(0, 9, 12, 13)]
theorem cw_sky : Cond.codeWith (ow_y m_La_sky) (ow_b m_La_sky) (ow_x m_La_sky) (ow_r m_La_sky) hh_sky ∈ ow_T := (ow_t2 216 (by decide +kernel) rfl)
theorem qw_sky : mtH m_La_sky k_La_sky = true := by decide +kernel
theorem st_sky0 : stB (ow_b m_La_sky) 12 3 1 := Or.inl ⟨3, rfl, rfl, by decide +kernel⟩
theorem W_sky {x0 : Int32} {y : Int32} (ht : t = 0 ∨ t = 1) (hC : CC w D m_OC_sky [.int x0] A t (.int y) A') (hI : IC A σ)
    (h0 : t = 0 → ∀ σ', frC σ σ' → IC A' σ' → P (some (.int (nI 0))) (wL σ' 367 0 y.toInt64))
    (hE : ∀ c, (t = 1 ∧ c = 1) → ∀ σ', frC σ σ' → IC A' σ' → P (some (.int (nI c))) σ') : RetH w (D + 1) 1 6 m_La_sky hh_sky [.ref 0, .int x0, .ref 367] σ P := by
  refine methH k_La_sky qw_sky rfl fun At Hx hAt hX1 hX2 => hAt 30 _ _ _ _ _ _ ?_
  refine callG 1 6 (by decide) (by decide) (hC σ _ _ hI (fun e σ' f i => ?_) (fun E e σ' f i => ?_))
  · refine And.intro ⟨rfl, rfl, vp_in_nI (n := 0) (N := 1) (by decide) (by decide)⟩ ?_
    rw [show Int32.toNatClampNeg (nI 0) = 0 from by decide]
    exact h0 e σ' f i
  · rcases ht with q | q
    · omega
    · have hq : E = 0 := by omega
      subst hq
      exact hX1 _ _ _ _ _ _ 9 12 13 _ 3 1 rfl (by decide) (Or.inl ⟨rfl, rfl⟩) st_sky0 (by decide) (hAt 30 _ _ _ _ _ _ (hE 1 ⟨e, rfl⟩ σ' f i))
def hh_told : List (Nat × Nat × Nat × Nat) := [(0, 9, 12, 13)]
theorem cw_told : Cond.codeWith (ow_y m_La_told) (ow_b m_La_told) (ow_x m_La_told) (ow_r m_La_told) hh_told ∈ ow_T := (ow_t4 35 (by decide +kernel) rfl)
theorem qw_told : mtH m_La_told k_La_told = true := by decide +kernel
theorem st_told0 : stB (ow_b m_La_told) 12 3 1 := Or.inl ⟨3, rfl, rfl, by decide +kernel⟩
theorem W_told {x0 : Int32} {y : Int32} (ht : t = 0 ∨ t = 1) (hC : CC w D m_OC_told [.int x0] A t (.int y) A') (hI : IC A σ)
    (h0 : t = 0 → ∀ σ', frC σ σ' → IC A' σ' → P (some (.int (nI 0))) (wL σ' 367 0 y.toInt64))
    (hE : ∀ c, (t = 1 ∧ c = 1) → ∀ σ', frC σ σ' → IC A' σ' → P (some (.int (nI c))) σ') : RetH w (D + 1) 1 6 m_La_told hh_told [.ref 0, .int x0, .ref 367] σ P := by
  refine methH k_La_told qw_told rfl fun At Hx hAt hX1 hX2 => hAt 30 _ _ _ _ _ _ ?_
  refine callG 1 6 (by decide) (by decide) (hC σ _ _ hI (fun e σ' f i => ?_) (fun E e σ' f i => ?_))
  · refine And.intro ⟨rfl, rfl, vp_in_nI (n := 0) (N := 1) (by decide) (by decide)⟩ ?_
    rw [show Int32.toNatClampNeg (nI 0) = 0 from by decide]
    exact h0 e σ' f i
  · rcases ht with q | q
    · omega
    · have hq : E = 0 := by omega
      subst hq
      exact hX1 _ _ _ _ _ _ 9 12 13 _ 3 1 rfl (by decide) (Or.inl ⟨rfl, rfl⟩) st_told0 (by decide) (hAt 30 _ _ _ _ _ _ (hE 1 ⟨e, rfl⟩ σ' f i))
def hh_owner : List (Nat × Nat × Nat × Nat) := [(0, 9, 12, 21)]
theorem cw_owner : Cond.codeWith (ow_y m_La_owner) (ow_b m_La_owner) (ow_x m_La_owner) (ow_r m_La_owner) hh_owner ∈ ow_T := (ow_t4 46 (by decide +kernel) rfl)
theorem qw_owner : mtH m_La_owner k_La_owner = true := by decide +kernel
theorem st_owner0 : stB (ow_b m_La_owner) 12 3 1 := Or.inl ⟨3, rfl, rfl, by decide +kernel⟩
theorem W_owner {x0 : Int32} {y : Int32} (ht : t = 0 ∨ t = 2) (hC : CC w D m_OC_owner [.int x0] A t (.int y) A') (hI : IC A σ)
    (h0 : t = 0 → ∀ σ', frC σ σ' → IC A' σ' → P (some (.int (nI 0))) (wL σ' 367 0 y.toInt64))
    (hE : ∀ c, (t = 2 ∧ c = 1) → ∀ σ', frC σ σ' → IC A' σ' → P (some (.int (nI c))) σ') : RetH w (D + 1) 1 6 m_La_owner hh_owner [.ref 0, .int x0, .ref 367] σ P := by
  refine methH k_La_owner qw_owner rfl fun At Hx hAt hX1 hX2 => hAt 30 _ _ _ _ _ _ ?_
  refine callG 1 6 (by decide) (by decide) (hC σ _ _ hI (fun e σ' f i => ?_) (fun E e σ' f i => ?_))
  · refine And.intro ⟨rfl, rfl, vp_in_nI (n := 0) (N := 1) (by decide) (by decide)⟩ ?_
    rw [show Int32.toNatClampNeg (nI 0) = 0 from by decide]
    exact h0 e σ' f i
  · rcases ht with q | q
    · omega
    · have hq : E = 1 := by omega
      subst hq
      exact hX1 _ _ _ _ _ _ 9 12 21 _ 3 1 rfl (by decide) (Or.inr (Or.inl ⟨rfl, rfl⟩)) st_owner0 (by decide) (hAt 30 _ _ _ _ _ _ (hE 1 ⟨e, rfl⟩ σ' f i))
def hh_path : List (Nat × Nat × Nat × Nat) := [(0, 10, 13, 21), (0, 10, 17, 13)]
theorem cw_path : Cond.codeWith (ow_y m_La_path) (ow_b m_La_path) (ow_x m_La_path) (ow_r m_La_path) hh_path ∈ ow_T := (ow_t4 75 (by decide +kernel) rfl)
theorem qw_path : mtH m_La_path k_La_path = true := by decide +kernel
theorem st_path0 : stB (ow_b m_La_path) 13 4 2 := Or.inr ⟨rfl, by decide +kernel⟩
theorem st_path1 : stB (ow_b m_La_path) 17 4 2 := Or.inr ⟨rfl, by decide +kernel⟩
theorem W_path {x0 x1 : Int32} {y : Int32} (ht : t = 0 ∨ t = 2 ∨ t = 1) (hC : CC w D m_OC_path [.int x0, .int x1] A t (.int y) A') (hI : IC A σ)
    (h0 : t = 0 → ∀ σ', frC σ σ' → IC A' σ' → P (some (.int (nI 0))) (wL σ' 367 0 y.toInt64))
    (hE : ∀ c, (t = 2 ∧ c = 1) ∨ (t = 1 ∧ c = 2) → ∀ σ', frC σ σ' → IC A' σ' → P (some (.int (nI c))) σ') : RetH w (D + 1) 1 6 m_La_path hh_path [.ref 0, .int x0, .int x1, .ref 367] σ P := by
  refine methH k_La_path qw_path rfl fun At Hx hAt hX1 hX2 => hAt 30 _ _ _ _ _ _ ?_
  refine callG 1 6 (by decide) (by decide) (hC σ _ _ hI (fun e σ' f i => ?_) (fun E e σ' f i => ?_))
  · refine And.intro ⟨rfl, rfl, vp_in_nI (n := 0) (N := 1) (by decide) (by decide)⟩ ?_
    rw [show Int32.toNatClampNeg (nI 0) = 0 from by decide]
    exact h0 e σ' f i
  · rcases ht with q | q | q
    · omega
    · have hq : E = 1 := by omega
      subst hq
      exact hX1 _ _ _ _ _ _ 10 13 21 _ 4 2 rfl (by decide) (Or.inr (Or.inl ⟨rfl, rfl⟩)) st_path0 (by decide) (hAt 30 _ _ _ _ _ _ (hE 1 (Or.inl ⟨e, rfl⟩) σ' f i))
    · have hq : E = 0 := by omega
      subst hq
      exact hX2 _ _ _ _ _ 10 13 21 10 17 4 2 rfl (by decide) (Or.inl rfl) st_path1 (by decide) (hAt 30 _ _ _ _ _ _ (hE 2 (Or.inr ⟨e, rfl⟩) σ' f i))
def hh_field : List (Nat × Nat × Nat × Nat) := [(0, 10, 13, 30), (0, 10, 17, 13)]
theorem cw_field : Cond.codeWith (ow_y m_La_field) (ow_b m_La_field) (ow_x m_La_field) (ow_r m_La_field) hh_field ∈ ow_T := (ow_t4 88 (by decide +kernel) rfl)
theorem qw_field : mtH m_La_field k_La_field = true := by decide +kernel
theorem st_field0 : stB (ow_b m_La_field) 13 4 2 := Or.inr ⟨rfl, by decide +kernel⟩
theorem st_field1 : stB (ow_b m_La_field) 17 4 2 := Or.inr ⟨rfl, by decide +kernel⟩
theorem W_field {x0 x1 : Int32} {y : Int32} (ht : t = 0 ∨ t = 3 ∨ t = 1) (hC : CC w D m_OC_field [.int x0, .int x1] A t (.int y) A') (hI : IC A σ)
    (h0 : t = 0 → ∀ σ', frC σ σ' → IC A' σ' → P (some (.int (nI 0))) (wL σ' 367 0 y.toInt64))
    (hE : ∀ c, (t = 3 ∧ c = 1) ∨ (t = 1 ∧ c = 2) → ∀ σ', frC σ σ' → IC A' σ' → P (some (.int (nI c))) σ') : RetH w (D + 1) 1 6 m_La_field hh_field [.ref 0, .int x0, .int x1, .ref 367] σ P := by
  refine methH k_La_field qw_field rfl fun At Hx hAt hX1 hX2 => hAt 30 _ _ _ _ _ _ ?_
  refine callG 1 6 (by decide) (by decide) (hC σ _ _ hI (fun e σ' f i => ?_) (fun E e σ' f i => ?_))
  · refine And.intro ⟨rfl, rfl, vp_in_nI (n := 0) (N := 1) (by decide) (by decide)⟩ ?_
    rw [show Int32.toNatClampNeg (nI 0) = 0 from by decide]
    exact h0 e σ' f i
  · rcases ht with q | q | q
    · omega
    · have hq : E = 2 := by omega
      subst hq
      exact hX1 _ _ _ _ _ _ 10 13 30 _ 4 2 rfl (by decide) (Or.inr (Or.inr ⟨rfl, rfl⟩)) st_field0 (by decide) (hAt 30 _ _ _ _ _ _ (hE 1 (Or.inl ⟨e, rfl⟩) σ' f i))
    · have hq : E = 0 := by omega
      subst hq
      exact hX2 _ _ _ _ _ 10 13 30 10 17 4 2 rfl (by decide) (Or.inr rfl) st_field1 (by decide) (hAt 30 _ _ _ _ _ _ (hE 2 (Or.inr ⟨e, rfl⟩) σ' f i))
def hh_order : List (Nat × Nat × Nat × Nat) := [(0, 14, 17, 21), (0, 14, 21, 13)]
theorem cw_order : Cond.codeWith (ow_y m_La_order) (ow_b m_La_order) (ow_x m_La_order) (ow_r m_La_order) hh_order ∈ ow_T := (ow_t4 116 (by decide +kernel) rfl)
theorem qw_order : mtH m_La_order k_La_order = true := by decide +kernel
theorem st_order0 : stB (ow_b m_La_order) 17 6 2 := Or.inr ⟨rfl, by decide +kernel⟩
theorem st_order1 : stB (ow_b m_La_order) 21 6 2 := Or.inr ⟨rfl, by decide +kernel⟩
theorem W_order {x0 x1 x2 x3 : Int32} {y : Int32} (ht : t = 0 ∨ t = 2 ∨ t = 1) (hC : CC w D m_OC_order [.int x0, .int x1, .int x2, .int x3] A t (.int y) A') (hI : IC A σ)
    (h0 : t = 0 → ∀ σ', frC σ σ' → IC A' σ' → P (some (.int (nI 0))) (wL σ' 367 0 y.toInt64))
    (hE : ∀ c, (t = 2 ∧ c = 1) ∨ (t = 1 ∧ c = 2) → ∀ σ', frC σ σ' → IC A' σ' → P (some (.int (nI c))) σ') : RetH w (D + 1) 1 6 m_La_order hh_order [.ref 0, .int x0, .int x1, .int x2, .int x3, .ref 367] σ P := by
  refine methH k_La_order qw_order rfl fun At Hx hAt hX1 hX2 => hAt 30 _ _ _ _ _ _ ?_
  refine callG 1 6 (by decide) (by decide) (hC σ _ _ hI (fun e σ' f i => ?_) (fun E e σ' f i => ?_))
  · refine And.intro ⟨rfl, rfl, vp_in_nI (n := 0) (N := 1) (by decide) (by decide)⟩ ?_
    rw [show Int32.toNatClampNeg (nI 0) = 0 from by decide]
    exact h0 e σ' f i
  · rcases ht with q | q | q
    · omega
    · have hq : E = 1 := by omega
      subst hq
      exact hX1 _ _ _ _ _ _ 14 17 21 _ 6 2 rfl (by decide) (Or.inr (Or.inl ⟨rfl, rfl⟩)) st_order0 (by decide) (hAt 30 _ _ _ _ _ _ (hE 1 (Or.inl ⟨e, rfl⟩) σ' f i))
    · have hq : E = 0 := by omega
      subst hq
      exact hX2 _ _ _ _ _ 14 17 21 14 21 6 2 rfl (by decide) (Or.inl rfl) st_order1 (by decide) (hAt 30 _ _ _ _ _ _ (hE 2 (Or.inr ⟨e, rfl⟩) σ' f i))
def hh_day : List (Nat × Nat × Nat × Nat) := [(0, 10, 13, 13)]
theorem cw_day : Cond.codeWith (ow_y m_La_day) (ow_b m_La_day) (ow_x m_La_day) (ow_r m_La_day) hh_day ∈ ow_T := (ow_t4 133 (by decide +kernel) rfl)
theorem qw_day : mtH m_La_day k_La_day = true := by decide +kernel
theorem st_day0 : stB (ow_b m_La_day) 13 4 2 := Or.inr ⟨rfl, by decide +kernel⟩
theorem W_day {x0 x1 : Int32} {y : Int32} (ht : t = 0 ∨ t = 1) (hC : CC w D m_OC_day [.int x0, .int x1] A t (.int y) A') (hI : IC A σ)
    (h0 : t = 0 → ∀ σ', frC σ σ' → IC A' σ' → P (some (.int (nI 0))) (wL σ' 367 0 y.toInt64))
    (hE : ∀ c, (t = 1 ∧ c = 1) → ∀ σ', frC σ σ' → IC A' σ' → P (some (.int (nI c))) σ') : RetH w (D + 1) 1 6 m_La_day hh_day [.ref 0, .int x0, .int x1, .ref 367] σ P := by
  refine methH k_La_day qw_day rfl fun At Hx hAt hX1 hX2 => hAt 30 _ _ _ _ _ _ ?_
  refine callG 1 6 (by decide) (by decide) (hC σ _ _ hI (fun e σ' f i => ?_) (fun E e σ' f i => ?_))
  · refine And.intro ⟨rfl, rfl, vp_in_nI (n := 0) (N := 1) (by decide) (by decide)⟩ ?_
    rw [show Int32.toNatClampNeg (nI 0) = 0 from by decide]
    exact h0 e σ' f i
  · rcases ht with q | q
    · omega
    · have hq : E = 0 := by omega
      subst hq
      exact hX1 _ _ _ _ _ _ 10 13 13 _ 4 2 rfl (by decide) (Or.inl ⟨rfl, rfl⟩) st_day0 (by decide) (hAt 30 _ _ _ _ _ _ (hE 1 ⟨e, rfl⟩ σ' f i))
def hh_cloud : List (Nat × Nat × Nat × Nat) := [(0, 14, 17, 21), (0, 14, 21, 13)]
theorem cw_cloud : Cond.codeWith (ow_y m_La_cloud) (ow_b m_La_cloud) (ow_x m_La_cloud) (ow_r m_La_cloud) hh_cloud ∈ ow_T := (ow_t5 61 (by decide +kernel) rfl)
theorem qw_cloud : mtH m_La_cloud k_La_cloud = true := by decide +kernel
theorem st_cloud0 : stB (ow_b m_La_cloud) 17 6 2 := Or.inr ⟨rfl, by decide +kernel⟩
theorem st_cloud1 : stB (ow_b m_La_cloud) 21 6 2 := Or.inr ⟨rfl, by decide +kernel⟩
theorem W_cloud {x0 x1 x2 x3 : Int32} {y : Int32} (ht : t = 0 ∨ t = 2 ∨ t = 1) (hC : CC w D m_OC_cloud [.int x0, .int x1, .int x2, .int x3] A t (.int y) A') (hI : IC A σ)
    (h0 : t = 0 → ∀ σ', frC σ σ' → IC A' σ' → P (some (.int (nI 0))) (wL σ' 367 0 y.toInt64))
    (hE : ∀ c, (t = 2 ∧ c = 1) ∨ (t = 1 ∧ c = 2) → ∀ σ', frC σ σ' → IC A' σ' → P (some (.int (nI c))) σ') : RetH w (D + 1) 1 6 m_La_cloud hh_cloud [.ref 0, .int x0, .int x1, .int x2, .int x3, .ref 367] σ P := by
  refine methH k_La_cloud qw_cloud rfl fun At Hx hAt hX1 hX2 => hAt 30 _ _ _ _ _ _ ?_
  refine callG 1 6 (by decide) (by decide) (hC σ _ _ hI (fun e σ' f i => ?_) (fun E e σ' f i => ?_))
  · refine And.intro ⟨rfl, rfl, vp_in_nI (n := 0) (N := 1) (by decide) (by decide)⟩ ?_
    rw [show Int32.toNatClampNeg (nI 0) = 0 from by decide]
    exact h0 e σ' f i
  · rcases ht with q | q | q
    · omega
    · have hq : E = 1 := by omega
      subst hq
      exact hX1 _ _ _ _ _ _ 14 17 21 _ 6 2 rfl (by decide) (Or.inr (Or.inl ⟨rfl, rfl⟩)) st_cloud0 (by decide) (hAt 30 _ _ _ _ _ _ (hE 1 (Or.inl ⟨e, rfl⟩) σ' f i))
    · have hq : E = 0 := by omega
      subst hq
      exact hX2 _ _ _ _ _ 14 17 21 14 21 6 2 rfl (by decide) (Or.inl rfl) st_cloud1 (by decide) (hAt 30 _ _ _ _ _ _ (hE 2 (Or.inr ⟨e, rfl⟩) σ' f i))
def hh_part : List (Nat × Nat × Nat × Nat) := [(0, 14, 17, 21), (0, 14, 21, 13)]
theorem cw_part : Cond.codeWith (ow_y m_La_part) (ow_b m_La_part) (ow_x m_La_part) (ow_r m_La_part) hh_part ∈ ow_T := (ow_t5 72 (by decide +kernel) rfl)
theorem qw_part : mtH m_La_part k_La_part = true := by decide +kernel
theorem st_part0 : stB (ow_b m_La_part) 17 6 2 := Or.inr ⟨rfl, by decide +kernel⟩
theorem st_part1 : stB (ow_b m_La_part) 21 6 2 := Or.inr ⟨rfl, by decide +kernel⟩
theorem W_part {x0 x1 x2 x3 : Int32} {y : Int32} (ht : t = 0 ∨ t = 2 ∨ t = 1) (hC : CC w D m_OC_part [.int x0, .int x1, .int x2, .int x3] A t (.int y) A') (hI : IC A σ)
    (h0 : t = 0 → ∀ σ', frC σ σ' → IC A' σ' → P (some (.int (nI 0))) (wL σ' 367 0 y.toInt64))
    (hE : ∀ c, (t = 2 ∧ c = 1) ∨ (t = 1 ∧ c = 2) → ∀ σ', frC σ σ' → IC A' σ' → P (some (.int (nI c))) σ') : RetH w (D + 1) 1 6 m_La_part hh_part [.ref 0, .int x0, .int x1, .int x2, .int x3, .ref 367] σ P := by
  refine methH k_La_part qw_part rfl fun At Hx hAt hX1 hX2 => hAt 30 _ _ _ _ _ _ ?_
  refine callG 1 6 (by decide) (by decide) (hC σ _ _ hI (fun e σ' f i => ?_) (fun E e σ' f i => ?_))
  · refine And.intro ⟨rfl, rfl, vp_in_nI (n := 0) (N := 1) (by decide) (by decide)⟩ ?_
    rw [show Int32.toNatClampNeg (nI 0) = 0 from by decide]
    exact h0 e σ' f i
  · rcases ht with q | q | q
    · omega
    · have hq : E = 1 := by omega
      subst hq
      exact hX1 _ _ _ _ _ _ 14 17 21 _ 6 2 rfl (by decide) (Or.inr (Or.inl ⟨rfl, rfl⟩)) st_part0 (by decide) (hAt 30 _ _ _ _ _ _ (hE 1 (Or.inl ⟨e, rfl⟩) σ' f i))
    · have hq : E = 0 := by omega
      subst hq
      exact hX2 _ _ _ _ _ 14 17 21 14 21 6 2 rfl (by decide) (Or.inl rfl) st_part1 (by decide) (hAt 30 _ _ _ _ _ _ (hE 2 (Or.inr ⟨e, rfl⟩) σ' f i))
def hh_account : List (Nat × Nat × Nat × Nat) := [(0, 12, 15, 13)]
theorem cw_account : Cond.codeWith (ow_y m_La_account) (ow_b m_La_account) (ow_x m_La_account) (ow_r m_La_account) hh_account ∈ ow_T := (ow_t5 82 (by decide +kernel) rfl)
theorem qw_account : mtH m_La_account k_La_account = true := by decide +kernel
theorem st_account0 : stB (ow_b m_La_account) 15 5 2 := Or.inr ⟨rfl, by decide +kernel⟩
theorem W_account {x0 x1 x2 : Int32} {y : Int32} (ht : t = 0 ∨ t = 1) (hC : CC w D m_OC_account [.int x0, .int x1, .int x2] A t (.int y) A') (hI : IC A σ)
    (h0 : t = 0 → ∀ σ', frC σ σ' → IC A' σ' → P (some (.int (nI 0))) (wL σ' 367 0 y.toInt64))
    (hE : ∀ c, (t = 1 ∧ c = 1) → ∀ σ', frC σ σ' → IC A' σ' → P (some (.int (nI c))) σ') : RetH w (D + 1) 1 6 m_La_account hh_account [.ref 0, .int x0, .int x1, .int x2, .ref 367] σ P := by
  refine methH k_La_account qw_account rfl fun At Hx hAt hX1 hX2 => hAt 30 _ _ _ _ _ _ ?_
  refine callG 1 6 (by decide) (by decide) (hC σ _ _ hI (fun e σ' f i => ?_) (fun E e σ' f i => ?_))
  · refine And.intro ⟨rfl, rfl, vp_in_nI (n := 0) (N := 1) (by decide) (by decide)⟩ ?_
    rw [show Int32.toNatClampNeg (nI 0) = 0 from by decide]
    exact h0 e σ' f i
  · rcases ht with q | q
    · omega
    · have hq : E = 0 := by omega
      subst hq
      exact hX1 _ _ _ _ _ _ 12 15 13 _ 5 2 rfl (by decide) (Or.inl ⟨rfl, rfl⟩) st_account0 (by decide) (hAt 30 _ _ _ _ _ _ (hE 1 ⟨e, rfl⟩ σ' f i))
def hh_farmer : List (Nat × Nat × Nat × Nat) := [(0, 12, 15, 13)]
theorem cw_farmer : Cond.codeWith (ow_y m_La_farmer) (ow_b m_La_farmer) (ow_x m_La_farmer) (ow_r m_La_farmer) hh_farmer ∈ ow_T := (ow_t5 89 (by decide +kernel) rfl)
theorem qw_farmer : mtH m_La_farmer k_La_farmer = true := by decide +kernel
theorem st_farmer0 : stB (ow_b m_La_farmer) 15 5 2 := Or.inr ⟨rfl, by decide +kernel⟩
theorem W_farmer {x0 x1 x2 : Int32} {y : Int32} (ht : t = 0 ∨ t = 1) (hC : CC w D m_OC_farmer [.int x0, .int x1, .int x2] A t (.int y) A') (hI : IC A σ)
    (h0 : t = 0 → ∀ σ', frC σ σ' → IC A' σ' → P (some (.int (nI 0))) (wL σ' 367 0 y.toInt64))
    (hE : ∀ c, (t = 1 ∧ c = 1) → ∀ σ', frC σ σ' → IC A' σ' → P (some (.int (nI c))) σ') : RetH w (D + 1) 1 6 m_La_farmer hh_farmer [.ref 0, .int x0, .int x1, .int x2, .ref 367] σ P := by
  refine methH k_La_farmer qw_farmer rfl fun At Hx hAt hX1 hX2 => hAt 30 _ _ _ _ _ _ ?_
  refine callG 1 6 (by decide) (by decide) (hC σ _ _ hI (fun e σ' f i => ?_) (fun E e σ' f i => ?_))
  · refine And.intro ⟨rfl, rfl, vp_in_nI (n := 0) (N := 1) (by decide) (by decide)⟩ ?_
    rw [show Int32.toNatClampNeg (nI 0) = 0 from by decide]
    exact h0 e σ' f i
  · rcases ht with q | q
    · omega
    · have hq : E = 0 := by omega
      subst hq
      exact hX1 _ _ _ _ _ _ 12 15 13 _ 5 2 rfl (by decide) (Or.inl ⟨rfl, rfl⟩) st_farmer0 (by decide) (hAt 30 _ _ _ _ _ _ (hE 1 ⟨e, rfl⟩ σ' f i))
def hh_after : List (Nat × Nat × Nat × Nat) := [(0, 12, 15, 30), (0, 12, 19, 13)]
theorem cw_after : Cond.codeWith (ow_y m_La_after) (ow_b m_La_after) (ow_x m_La_after) (ow_r m_La_after) hh_after ∈ ow_T := (ow_t5 102 (by decide +kernel) rfl)
theorem qw_after : mtH m_La_after k_La_after = true := by decide +kernel
theorem st_after0 : stB (ow_b m_La_after) 15 5 2 := Or.inr ⟨rfl, by decide +kernel⟩
theorem st_after1 : stB (ow_b m_La_after) 19 5 2 := Or.inr ⟨rfl, by decide +kernel⟩
theorem W_after {x0 x1 x2 : Int32} {y : Int32} (ht : t = 0 ∨ t = 3 ∨ t = 1) (hC : CC w D m_OC_after [.int x0, .int x1, .int x2] A t (.int y) A') (hI : IC A σ)
    (h0 : t = 0 → ∀ σ', frC σ σ' → IC A' σ' → P (some (.int (nI 0))) (wL σ' 367 0 y.toInt64))
    (hE : ∀ c, (t = 3 ∧ c = 1) ∨ (t = 1 ∧ c = 2) → ∀ σ', frC σ σ' → IC A' σ' → P (some (.int (nI c))) σ') : RetH w (D + 1) 1 6 m_La_after hh_after [.ref 0, .int x0, .int x1, .int x2, .ref 367] σ P := by
  refine methH k_La_after qw_after rfl fun At Hx hAt hX1 hX2 => hAt 30 _ _ _ _ _ _ ?_
  refine callG 1 6 (by decide) (by decide) (hC σ _ _ hI (fun e σ' f i => ?_) (fun E e σ' f i => ?_))
  · refine And.intro ⟨rfl, rfl, vp_in_nI (n := 0) (N := 1) (by decide) (by decide)⟩ ?_
    rw [show Int32.toNatClampNeg (nI 0) = 0 from by decide]
    exact h0 e σ' f i
  · rcases ht with q | q | q
    · omega
    · have hq : E = 2 := by omega
      subst hq
      exact hX1 _ _ _ _ _ _ 12 15 30 _ 5 2 rfl (by decide) (Or.inr (Or.inr ⟨rfl, rfl⟩)) st_after0 (by decide) (hAt 30 _ _ _ _ _ _ (hE 1 (Or.inl ⟨e, rfl⟩) σ' f i))
    · have hq : E = 0 := by omega
      subst hq
      exact hX2 _ _ _ _ _ 12 15 30 12 19 5 2 rfl (by decide) (Or.inr rfl) st_after1 (by decide) (hAt 30 _ _ _ _ _ _ (hE 2 (Or.inr ⟨e, rfl⟩) σ' f i))
def hh_worth : List (Nat × Nat × Nat × Nat) := [(0, 9, 12, 13)]
theorem cw_worth : Cond.codeWith (ow_y m_La_worth) (ow_b m_La_worth) (ow_x m_La_worth) (ow_r m_La_worth) hh_worth ∈ ow_T := (ow_t5 109 (by decide +kernel) rfl)
theorem qw_worth : mtH m_La_worth k_La_worth = true := by decide +kernel
theorem st_worth0 : stB (ow_b m_La_worth) 12 3 1 := Or.inl ⟨3, rfl, rfl, by decide +kernel⟩
theorem W_worth {x0 : Int32} {y : Int32} (ht : t = 0 ∨ t = 1) (hC : CC w D m_OC_worth [.int x0] A t (.int y) A') (hI : IC A σ)
    (h0 : t = 0 → ∀ σ', frC σ σ' → IC A' σ' → P (some (.int (nI 0))) (wL σ' 367 0 y.toInt64))
    (hE : ∀ c, (t = 1 ∧ c = 1) → ∀ σ', frC σ σ' → IC A' σ' → P (some (.int (nI c))) σ') : RetH w (D + 1) 1 6 m_La_worth hh_worth [.ref 0, .int x0, .ref 367] σ P := by
  refine methH k_La_worth qw_worth rfl fun At Hx hAt hX1 hX2 => hAt 30 _ _ _ _ _ _ ?_
  refine callG 1 6 (by decide) (by decide) (hC σ _ _ hI (fun e σ' f i => ?_) (fun E e σ' f i => ?_))
  · refine And.intro ⟨rfl, rfl, vp_in_nI (n := 0) (N := 1) (by decide) (by decide)⟩ ?_
    rw [show Int32.toNatClampNeg (nI 0) = 0 from by decide]
    exact h0 e σ' f i
  · rcases ht with q | q
    · omega
    · have hq : E = 0 := by omega
      subst hq
      exact hX1 _ _ _ _ _ _ 9 12 13 _ 3 1 rfl (by decide) (Or.inl ⟨rfl, rfl⟩) st_worth0 (by decide) (hAt 30 _ _ _ _ _ _ (hE 1 ⟨e, rfl⟩ σ' f i))
def hh_share : List (Nat × Nat × Nat × Nat) := [(0, 9, 12, 21), (0, 9, 16, 13)]
theorem cw_share : Cond.codeWith (ow_y m_La_share) (ow_b m_La_share) (ow_x m_La_share) (ow_r m_La_share) hh_share ∈ ow_T := (ow_t5 160 (by decide +kernel) rfl)
theorem qw_share : mtH m_La_share k_La_share = true := by decide +kernel
theorem st_share0 : stB (ow_b m_La_share) 12 4 2 := Or.inr ⟨rfl, by decide +kernel⟩
theorem st_share1 : stB (ow_b m_La_share) 16 4 2 := Or.inr ⟨rfl, by decide +kernel⟩
theorem W_share {x0 x1 : Int32} {y : Int64} (ht : t = 0 ∨ t = 2 ∨ t = 1) (hC : CC w D m_OC_share [.int x0, .int x1] A t (.long y) A') (hI : IC A σ)
    (h0 : t = 0 → ∀ σ', frC σ σ' → IC A' σ' → P (some (.int (nI 0))) (wL σ' 367 0 y))
    (hE : ∀ c, (t = 2 ∧ c = 1) ∨ (t = 1 ∧ c = 2) → ∀ σ', frC σ σ' → IC A' σ' → P (some (.int (nI c))) σ') : RetH w (D + 1) 1 6 m_La_share hh_share [.ref 0, .int x0, .int x1, .ref 367] σ P := by
  refine methH k_La_share qw_share rfl fun At Hx hAt hX1 hX2 => hAt 30 _ _ _ _ _ _ ?_
  refine callG 1 6 (by decide) (by decide) (hC σ _ _ hI (fun e σ' f i => ?_) (fun E e σ' f i => ?_))
  · refine And.intro ⟨rfl, rfl, vp_in_nI (n := 0) (N := 1) (by decide) (by decide)⟩ ?_
    rw [show Int32.toNatClampNeg (nI 0) = 0 from by decide]
    exact h0 e σ' f i
  · rcases ht with q | q | q
    · omega
    · have hq : E = 1 := by omega
      subst hq
      exact hX1 _ _ _ _ _ _ 9 12 21 _ 4 2 rfl (by decide) (Or.inr (Or.inl ⟨rfl, rfl⟩)) st_share0 (by decide) (hAt 30 _ _ _ _ _ _ (hE 1 (Or.inl ⟨e, rfl⟩) σ' f i))
    · have hq : E = 0 := by omega
      subst hq
      exact hX2 _ _ _ _ _ 9 12 21 9 16 4 2 rfl (by decide) (Or.inl rfl) st_share1 (by decide) (hAt 30 _ _ _ _ _ _ (hE 2 (Or.inr ⟨e, rfl⟩) σ' f i))
def hh_bid : List (Nat × Nat × Nat × Nat) := [(0, 12, 15, 13)]
theorem cw_bid : Cond.codeWith (ow_y m_La_bid) (ow_b m_La_bid) (ow_x m_La_bid) (ow_r m_La_bid) hh_bid ∈ ow_T := (ow_t5 194 (by decide +kernel) rfl)
theorem qw_bid : mtH m_La_bid k_La_bid = true := by decide +kernel
theorem st_bid0 : stB (ow_b m_La_bid) 15 5 2 := Or.inr ⟨rfl, by decide +kernel⟩
theorem W_bid {x0 x1 x2 : Int32} {y : Int32} (ht : t = 0 ∨ t = 1) (hC : CC w D m_OC_bid [.int x0, .int x1, .int x2] A t (.int y) A') (hI : IC A σ)
    (h0 : t = 0 → ∀ σ', frC σ σ' → IC A' σ' → P (some (.int (nI 0))) (wL σ' 367 0 y.toInt64))
    (hE : ∀ c, (t = 1 ∧ c = 1) → ∀ σ', frC σ σ' → IC A' σ' → P (some (.int (nI c))) σ') : RetH w (D + 1) 1 6 m_La_bid hh_bid [.ref 0, .int x0, .int x1, .int x2, .ref 367] σ P := by
  refine methH k_La_bid qw_bid rfl fun At Hx hAt hX1 hX2 => hAt 30 _ _ _ _ _ _ ?_
  refine callG 1 6 (by decide) (by decide) (hC σ _ _ hI (fun e σ' f i => ?_) (fun E e σ' f i => ?_))
  · refine And.intro ⟨rfl, rfl, vp_in_nI (n := 0) (N := 1) (by decide) (by decide)⟩ ?_
    rw [show Int32.toNatClampNeg (nI 0) = 0 from by decide]
    exact h0 e σ' f i
  · rcases ht with q | q
    · omega
    · have hq : E = 0 := by omega
      subst hq
      exact hX1 _ _ _ _ _ _ 12 15 13 _ 5 2 rfl (by decide) (Or.inl ⟨rfl, rfl⟩) st_bid0 (by decide) (hAt 30 _ _ _ _ _ _ (hE 1 ⟨e, rfl⟩ σ' f i))
def hh_gets : List (Nat × Nat × Nat × Nat) := [(0, 10, 13, 30), (0, 10, 17, 13)]
theorem cw_gets : Cond.codeWith (ow_y m_La_gets) (ow_b m_La_gets) (ow_x m_La_gets) (ow_r m_La_gets) hh_gets ∈ ow_T := (ow_t5 205 (by decide +kernel) rfl)
theorem qw_gets : mtH m_La_gets k_La_gets = true := by decide +kernel
theorem st_gets0 : stB (ow_b m_La_gets) 13 4 2 := Or.inr ⟨rfl, by decide +kernel⟩
theorem st_gets1 : stB (ow_b m_La_gets) 17 4 2 := Or.inr ⟨rfl, by decide +kernel⟩
theorem W_gets {x0 x1 : Int32} {y : Int32} (ht : t = 0 ∨ t = 3 ∨ t = 1) (hC : CC w D m_OC_gets [.int x0, .int x1] A t (.int y) A') (hI : IC A σ)
    (h0 : t = 0 → ∀ σ', frC σ σ' → IC A' σ' → P (some (.int (nI 0))) (wL σ' 367 0 y.toInt64))
    (hE : ∀ c, (t = 3 ∧ c = 1) ∨ (t = 1 ∧ c = 2) → ∀ σ', frC σ σ' → IC A' σ' → P (some (.int (nI c))) σ') : RetH w (D + 1) 1 6 m_La_gets hh_gets [.ref 0, .int x0, .int x1, .ref 367] σ P := by
  refine methH k_La_gets qw_gets rfl fun At Hx hAt hX1 hX2 => hAt 30 _ _ _ _ _ _ ?_
  refine callG 1 6 (by decide) (by decide) (hC σ _ _ hI (fun e σ' f i => ?_) (fun E e σ' f i => ?_))
  · refine And.intro ⟨rfl, rfl, vp_in_nI (n := 0) (N := 1) (by decide) (by decide)⟩ ?_
    rw [show Int32.toNatClampNeg (nI 0) = 0 from by decide]
    exact h0 e σ' f i
  · rcases ht with q | q | q
    · omega
    · have hq : E = 2 := by omega
      subst hq
      exact hX1 _ _ _ _ _ _ 10 13 30 _ 4 2 rfl (by decide) (Or.inr (Or.inr ⟨rfl, rfl⟩)) st_gets0 (by decide) (hAt 30 _ _ _ _ _ _ (hE 1 (Or.inl ⟨e, rfl⟩) σ' f i))
    · have hq : E = 0 := by omega
      subst hq
      exact hX2 _ _ _ _ _ 10 13 30 10 17 4 2 rfl (by decide) (Or.inr rfl) st_gets1 (by decide) (hAt 30 _ _ _ _ _ _ (hE 2 (Or.inr ⟨e, rfl⟩) σ' f i))
def hh_settled : List (Nat × Nat × Nat × Nat) := [(0, 10, 13, 13)]
theorem cw_settled : Cond.codeWith (ow_y m_La_settled) (ow_b m_La_settled) (ow_x m_La_settled) (ow_r m_La_settled) hh_settled ∈ ow_T := (ow_t5 233 (by decide +kernel) rfl)
theorem qw_settled : mtH m_La_settled k_La_settled = true := by decide +kernel
theorem st_settled0 : stB (ow_b m_La_settled) 13 4 2 := Or.inr ⟨rfl, by decide +kernel⟩
theorem W_settled {x0 x1 : Int32} {y : Int32} (ht : t = 0 ∨ t = 1) (hC : CC w D m_OC_settled [.int x0, .int x1] A t (.int y) A') (hI : IC A σ)
    (h0 : t = 0 → ∀ σ', frC σ σ' → IC A' σ' → P (some (.int (nI 0))) (wL σ' 367 0 y.toInt64))
    (hE : ∀ c, (t = 1 ∧ c = 1) → ∀ σ', frC σ σ' → IC A' σ' → P (some (.int (nI c))) σ') : RetH w (D + 1) 1 6 m_La_settled hh_settled [.ref 0, .int x0, .int x1, .ref 367] σ P := by
  refine methH k_La_settled qw_settled rfl fun At Hx hAt hX1 hX2 => hAt 30 _ _ _ _ _ _ ?_
  refine callG 1 6 (by decide) (by decide) (hC σ _ _ hI (fun e σ' f i => ?_) (fun E e σ' f i => ?_))
  · refine And.intro ⟨rfl, rfl, vp_in_nI (n := 0) (N := 1) (by decide) (by decide)⟩ ?_
    rw [show Int32.toNatClampNeg (nI 0) = 0 from by decide]
    exact h0 e σ' f i
  · rcases ht with q | q
    · omega
    · have hq : E = 0 := by omega
      subst hq
      exact hX1 _ _ _ _ _ _ 10 13 13 _ 4 2 rfl (by decide) (Or.inl ⟨rfl, rfl⟩) st_settled0 (by decide) (hAt 30 _ _ _ _ _ _ (hE 1 ⟨e, rfl⟩ σ' f i))
def hh_drought : List (Nat × Nat × Nat × Nat) := [(0, 10, 13, 30), (0, 10, 17, 13)]
theorem cw_drought : Cond.codeWith (ow_y m_La_drought) (ow_b m_La_drought) (ow_x m_La_drought) (ow_r m_La_drought) hh_drought ∈ ow_T := (ow_t6 8 (by decide +kernel) rfl)
theorem qw_drought : mtH m_La_drought k_La_drought = true := by decide +kernel
theorem st_drought0 : stB (ow_b m_La_drought) 13 4 2 := Or.inr ⟨rfl, by decide +kernel⟩
theorem st_drought1 : stB (ow_b m_La_drought) 17 4 2 := Or.inr ⟨rfl, by decide +kernel⟩
theorem W_drought {x0 x1 : Int32} {y : Int32} (ht : t = 0 ∨ t = 3 ∨ t = 1) (hC : CC w D m_OC_drought [.int x0, .int x1] A t (.int y) A') (hI : IC A σ)
    (h0 : t = 0 → ∀ σ', frC σ σ' → IC A' σ' → P (some (.int (nI 0))) (wL σ' 367 0 y.toInt64))
    (hE : ∀ c, (t = 3 ∧ c = 1) ∨ (t = 1 ∧ c = 2) → ∀ σ', frC σ σ' → IC A' σ' → P (some (.int (nI c))) σ') : RetH w (D + 1) 1 6 m_La_drought hh_drought [.ref 0, .int x0, .int x1, .ref 367] σ P := by
  refine methH k_La_drought qw_drought rfl fun At Hx hAt hX1 hX2 => hAt 30 _ _ _ _ _ _ ?_
  refine callG 1 6 (by decide) (by decide) (hC σ _ _ hI (fun e σ' f i => ?_) (fun E e σ' f i => ?_))
  · refine And.intro ⟨rfl, rfl, vp_in_nI (n := 0) (N := 1) (by decide) (by decide)⟩ ?_
    rw [show Int32.toNatClampNeg (nI 0) = 0 from by decide]
    exact h0 e σ' f i
  · rcases ht with q | q | q
    · omega
    · have hq : E = 2 := by omega
      subst hq
      exact hX1 _ _ _ _ _ _ 10 13 30 _ 4 2 rfl (by decide) (Or.inr (Or.inr ⟨rfl, rfl⟩)) st_drought0 (by decide) (hAt 30 _ _ _ _ _ _ (hE 1 (Or.inl ⟨e, rfl⟩) σ' f i))
    · have hq : E = 0 := by omega
      subst hq
      exact hX2 _ _ _ _ _ 10 13 30 10 17 4 2 rfl (by decide) (Or.inr rfl) st_drought1 (by decide) (hAt 30 _ _ _ _ _ _ (hE 2 (Or.inr ⟨e, rfl⟩) σ' f i))
def hh_gauge : List (Nat × Nat × Nat × Nat) := [(0, 12, 15, 13)]
theorem cw_gauge : Cond.codeWith (ow_y m_La_gauge) (ow_b m_La_gauge) (ow_x m_La_gauge) (ow_r m_La_gauge) hh_gauge ∈ ow_T := (ow_t6 28 (by decide +kernel) rfl)
theorem qw_gauge : mtH m_La_gauge k_La_gauge = true := by decide +kernel
theorem st_gauge0 : stB (ow_b m_La_gauge) 15 5 2 := Or.inr ⟨rfl, by decide +kernel⟩
theorem W_gauge {x0 x1 x2 : Int32} {y : Int32} (ht : t = 0 ∨ t = 1) (hC : CC w D m_OC_gauge [.int x0, .int x1, .int x2] A t (.int y) A') (hI : IC A σ)
    (h0 : t = 0 → ∀ σ', frC σ σ' → IC A' σ' → P (some (.int (nI 0))) (wL σ' 367 0 y.toInt64))
    (hE : ∀ c, (t = 1 ∧ c = 1) → ∀ σ', frC σ σ' → IC A' σ' → P (some (.int (nI c))) σ') : RetH w (D + 1) 1 6 m_La_gauge hh_gauge [.ref 0, .int x0, .int x1, .int x2, .ref 367] σ P := by
  refine methH k_La_gauge qw_gauge rfl fun At Hx hAt hX1 hX2 => hAt 30 _ _ _ _ _ _ ?_
  refine callG 1 6 (by decide) (by decide) (hC σ _ _ hI (fun e σ' f i => ?_) (fun E e σ' f i => ?_))
  · refine And.intro ⟨rfl, rfl, vp_in_nI (n := 0) (N := 1) (by decide) (by decide)⟩ ?_
    rw [show Int32.toNatClampNeg (nI 0) = 0 from by decide]
    exact h0 e σ' f i
  · rcases ht with q | q
    · omega
    · have hq : E = 0 := by omega
      subst hq
      exact hX1 _ _ _ _ _ _ 12 15 13 _ 5 2 rfl (by decide) (Or.inl ⟨rfl, rfl⟩) st_gauge0 (by decide) (hAt 30 _ _ _ _ _ _ (hE 1 ⟨e, rfl⟩ σ' f i))
def hh_explain : List (Nat × Nat × Nat × Nat) := [(0, 9, 12, 13)]
theorem cw_explain : Cond.codeWith (ow_y m_La_explain) (ow_b m_La_explain) (ow_x m_La_explain) (ow_r m_La_explain) hh_explain ∈ ow_T := (ow_t6 41 (by decide +kernel) rfl)
theorem qw_explain : mtH m_La_explain k_La_explain = true := by decide +kernel
theorem st_explain0 : stB (ow_b m_La_explain) 12 3 1 := Or.inl ⟨3, rfl, rfl, by decide +kernel⟩
theorem W_explain {x0 : Int32} {y : Int32} (ht : t = 0 ∨ t = 1) (hC : CC w D m_OC_explain [.int x0] A t (.int y) A') (hI : IC A σ)
    (h0 : t = 0 → ∀ σ', frC σ σ' → IC A' σ' → P (some (.int (nI 0))) (wL σ' 367 0 y.toInt64))
    (hE : ∀ c, (t = 1 ∧ c = 1) → ∀ σ', frC σ σ' → IC A' σ' → P (some (.int (nI c))) σ') : RetH w (D + 1) 1 6 m_La_explain hh_explain [.ref 0, .int x0, .ref 367] σ P := by
  refine methH k_La_explain qw_explain rfl fun At Hx hAt hX1 hX2 => hAt 30 _ _ _ _ _ _ ?_
  refine callG 1 6 (by decide) (by decide) (hC σ _ _ hI (fun e σ' f i => ?_) (fun E e σ' f i => ?_))
  · refine And.intro ⟨rfl, rfl, vp_in_nI (n := 0) (N := 1) (by decide) (by decide)⟩ ?_
    rw [show Int32.toNatClampNeg (nI 0) = 0 from by decide]
    exact h0 e σ' f i
  · rcases ht with q | q
    · omega
    · have hq : E = 0 := by omega
      subst hq
      exact hX1 _ _ _ _ _ _ 9 12 13 _ 3 1 rfl (by decide) (Or.inl ⟨rfl, rfl⟩) st_explain0 (by decide) (hAt 30 _ _ _ _ _ _ (hE 1 ⟨e, rfl⟩ σ' f i))
def hh_doubt : List (Nat × Nat × Nat × Nat) := [(0, 9, 12, 21), (0, 9, 16, 13)]
theorem cw_doubt : Cond.codeWith (ow_y m_La_doubt) (ow_b m_La_doubt) (ow_x m_La_doubt) (ow_r m_La_doubt) hh_doubt ∈ ow_T := (ow_t6 89 (by decide +kernel) rfl)
theorem qw_doubt : mtH m_La_doubt k_La_doubt = true := by decide +kernel
theorem st_doubt0 : stB (ow_b m_La_doubt) 12 4 2 := Or.inr ⟨rfl, by decide +kernel⟩
theorem st_doubt1 : stB (ow_b m_La_doubt) 16 4 2 := Or.inr ⟨rfl, by decide +kernel⟩
theorem W_doubt {x0 x1 : Int32} {y : Int64} (ht : t = 0 ∨ t = 2 ∨ t = 1) (hC : CC w D m_OC_doubt [.int x0, .int x1] A t (.long y) A') (hI : IC A σ)
    (h0 : t = 0 → ∀ σ', frC σ σ' → IC A' σ' → P (some (.int (nI 0))) (wL σ' 367 0 y))
    (hE : ∀ c, (t = 2 ∧ c = 1) ∨ (t = 1 ∧ c = 2) → ∀ σ', frC σ σ' → IC A' σ' → P (some (.int (nI c))) σ') : RetH w (D + 1) 1 6 m_La_doubt hh_doubt [.ref 0, .int x0, .int x1, .ref 367] σ P := by
  refine methH k_La_doubt qw_doubt rfl fun At Hx hAt hX1 hX2 => hAt 30 _ _ _ _ _ _ ?_
  refine callG 1 6 (by decide) (by decide) (hC σ _ _ hI (fun e σ' f i => ?_) (fun E e σ' f i => ?_))
  · refine And.intro ⟨rfl, rfl, vp_in_nI (n := 0) (N := 1) (by decide) (by decide)⟩ ?_
    rw [show Int32.toNatClampNeg (nI 0) = 0 from by decide]
    exact h0 e σ' f i
  · rcases ht with q | q | q
    · omega
    · have hq : E = 1 := by omega
      subst hq
      exact hX1 _ _ _ _ _ _ 9 12 21 _ 4 2 rfl (by decide) (Or.inr (Or.inl ⟨rfl, rfl⟩)) st_doubt0 (by decide) (hAt 30 _ _ _ _ _ _ (hE 1 (Or.inl ⟨e, rfl⟩) σ' f i))
    · have hq : E = 0 := by omega
      subst hq
      exact hX2 _ _ _ _ _ 9 12 21 9 16 4 2 rfl (by decide) (Or.inl rfl) st_doubt1 (by decide) (hAt 30 _ _ _ _ _ _ (hE 2 (Or.inr ⟨e, rfl⟩) σ' f i))
def hh_worst : List (Nat × Nat × Nat × Nat) := [(0, 10, 13, 21), (0, 10, 17, 13)]
theorem cw_worst : Cond.codeWith (ow_y m_La_worst) (ow_b m_La_worst) (ow_x m_La_worst) (ow_r m_La_worst) hh_worst ∈ ow_T := (ow_t6 112 (by decide +kernel) rfl)
theorem qw_worst : mtH m_La_worst k_La_worst = true := by decide +kernel
theorem st_worst0 : stB (ow_b m_La_worst) 13 4 2 := Or.inr ⟨rfl, by decide +kernel⟩
theorem st_worst1 : stB (ow_b m_La_worst) 17 4 2 := Or.inr ⟨rfl, by decide +kernel⟩
theorem W_worst {x0 x1 : Int32} {y : Int32} (ht : t = 0 ∨ t = 2 ∨ t = 1) (hC : CC w D m_OC_worst [.int x0, .int x1] A t (.int y) A') (hI : IC A σ)
    (h0 : t = 0 → ∀ σ', frC σ σ' → IC A' σ' → P (some (.int (nI 0))) (wL σ' 367 0 y.toInt64))
    (hE : ∀ c, (t = 2 ∧ c = 1) ∨ (t = 1 ∧ c = 2) → ∀ σ', frC σ σ' → IC A' σ' → P (some (.int (nI c))) σ') : RetH w (D + 1) 1 6 m_La_worst hh_worst [.ref 0, .int x0, .int x1, .ref 367] σ P := by
  refine methH k_La_worst qw_worst rfl fun At Hx hAt hX1 hX2 => hAt 30 _ _ _ _ _ _ ?_
  refine callG 1 6 (by decide) (by decide) (hC σ _ _ hI (fun e σ' f i => ?_) (fun E e σ' f i => ?_))
  · refine And.intro ⟨rfl, rfl, vp_in_nI (n := 0) (N := 1) (by decide) (by decide)⟩ ?_
    rw [show Int32.toNatClampNeg (nI 0) = 0 from by decide]
    exact h0 e σ' f i
  · rcases ht with q | q | q
    · omega
    · have hq : E = 1 := by omega
      subst hq
      exact hX1 _ _ _ _ _ _ 10 13 21 _ 4 2 rfl (by decide) (Or.inr (Or.inl ⟨rfl, rfl⟩)) st_worst0 (by decide) (hAt 30 _ _ _ _ _ _ (hE 1 (Or.inl ⟨e, rfl⟩) σ' f i))
    · have hq : E = 0 := by omega
      subst hq
      exact hX2 _ _ _ _ _ 10 13 21 10 17 4 2 rfl (by decide) (Or.inl rfl) st_worst1 (by decide) (hAt 30 _ _ _ _ _ _ (hE 2 (Or.inr ⟨e, rfl⟩) σ' f i))
end WRS
section WRC
variable {w : Wd} {p : Program} {l : Launch} {e : Env} {R : Room} {s : State} {m : MethodId} {args : Array Value} {below : List Frame} {meth : Method} {c : Code} {Q : State → Prop} {nL KC KS : Nat} {bytes : ByteArray}
theorem x_wrap {d kc ks a i pc u v : Nat} {hh : List (Nat × Nat × Nat × Nat)} {as rest ls : List AV} {σ : Mem} {P : Option AV → Mem → Prop} (C : Cx w p s m args meth c 12 bytes nL) (hw : wLa w = l) (hcw : Cond.codeWith (ow_y a) (ow_b a) (ow_x a) (ow_r a) hh ∈ ow_T) (hlk : (i, a) ∈ ow_g0_12) (hs : a ∈ ow_sm) (ho : ow_o a = 12) (hx : ow_x a ≤ 21)
    (hd9 : (ow_y a).cls = ow_on 12 ∧ (parseMethodDescriptor (ow_y a).desc).map (fun d => d.parameters.length) = some as.length ∧ (ow_y a).cls ≠ "java/lang/invoke/MethodHandle" ∧ (ow_y a).cls ≠ "java/lang/invoke/VarHandle") (hRf : d + 1 ≤ R.frames) (hRl : 40 * (d + 1) ≤ R.locals) (hRc : R.cells = KC) (hRs : R.slots = KS) (hst : stS rest ≤ 8)
    (hd : decode bytes pc = .ok (.invokestatic i, 3)) (hM : RetH w d kc ks a hh as σ P) (hu1 : u + kc ≤ KC) (hv1 : v + ks ≤ KS) (kk : ∀ r σ', P r σ' → AtM w true p l e R s m args below meth c Q nL KC KS (pc + 3) ls (psh r rest) σ' (u + kc) (v + ks)) :
    AtM w true p l e R s m args below meth c Q nL KC KS pc ls (as.reverse ++ rest) σ u v := by
  subst hw
  intro hu hv H lsM locs hR hLR hf
  have hsz : lsM.size = nL := hLR.1
  have hrm : 2 * (F0 m pc lsM ((as.reverse ++ rest).map (cv w))).monitorRoom + ((rest.map (cv w)).map fun v => v.category).sum ≤ 8 := by rw [stS_cat]; show 2 * 0 + stS rest ≤ 8; omega
  have hini : Cond.initialized (ow_y a).cls ∈ ow_T := by rw [hd9.1]; exact ow_al.get ow_ini (ow_mem14 12 (by decide))
  have hG : GoodIn ow_T (va_wsS (ow_on 12) i (ow_y a) (wsH a hh)) := fun z hz => by
    unfold va_wsS wsH at hz
    refine ow_good (?_ : z ∈ ow_T) (fun _ q => q)
    rcases List.mem_append.mp hz with hz | hz
    · rcases List.mem_cons.mp hz with rfl | hz
      · exact ow_ml0 12 (by decide) (i, a) hlk
      · rcases List.mem_cons.mp hz with rfl | hz
        · exact ow_al.get ow_st_al hs
        · rcases List.mem_cons.mp hz with rfl | hz
          · exact hini
          · cases hz
    · rcases List.mem_cons.mp hz with rfl | hz
      · exact hcw
      · exact hz
  have cw : vx_CSW R s args (ow_on 12) i (ow_y a) (ow_b a) (ow_x a) (ow_r a) hh (wsH a hh) (Rm d kc ks) kc ks as.length :=
    vx_cwSW (ws' := ow_T) as.length C.2.2.2.2.1 hG rfl rfl rfl ⟨hd9.2.2.1, hd9.2.2.2, hd9.2.1⟩ ⟨hRf, by show 8 + (ow_x a + 11) + 40 * d ≤ R.locals; omega⟩
  exact s_run (rest := rest) (vx_runSX (g := F0 m pc lsM ((as.reverse ++ rest).map (cv w))) (rest := rest.map (cv w)) (As := as.map (cv w)) ⟨C.1, C.2.1, C.2.2.1, C.2.2.2.1, C.2.2.2.2.1⟩ hM cw (s_PreS C hR) rfl (by simp) hsz (by simp [List.map_reverse]) hrm hd ⟨by rw [hRc]; exact hu1, by rw [hRs]; exact hv1⟩) hLR hf hu1 hv1 kk (fun _ _ h => h.elim)
end WRC
