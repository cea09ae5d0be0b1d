/-! THE LAW: its loop, its start -/
theorem i32_sub6 {L : Nat} (hL : L ≤ 3072) : (nI L - nI 6).toInt = (L : Int) - 6 := by
  rw [Int32.toInt_sub, nI_toInt (by omega), nI_toInt (by decide)]
  have h : ∀ n : Int, -6 ≤ n → n ≤ 3072 → n.bmod (2 ^ 32) = n := fun n h1 h2 => by
    rw [Int.bmod_def]; omega
  exact h _ (by omega) (by omega)
def k_A0 : St := (0, fun _ => 0, -1, k0, emB, 0, fun _ => emB)
theorem VA_0 : VA k_A0 := ⟨Nat.zero_le _, fun j h => absurd h (Nat.not_lt_zero j), VS0, VB_em, Nat.zero_le _, fun i h => absurd h (Nat.not_lt_zero i)⟩
set_option maxRecDepth 8000
theorem J_f : ∀ i, i < 10 → J_1 5 i = nI (kT k0 i) := by decide +kernel
theorem J_t : ∀ i, i < 11 → J_1 111 i = nI (kT k0 i) := by decide +kernel
theorem J_z : ∀ z ∈ [(0, 1), (0, 7), (6, 3), (8, 3), (10, 3), (12, 3), (31, 3), (33, 3), (35, 3), (108, 1), (108, 19), (108, 20), (108, 21), (108, 22)], J_1 z.1 z.2 = nI 0 := by decide +kernel
theorem J_m : J_1 0 4 = -1 ∧ J_1 108 3 = -1 := by decide +kernel
theorem IC_0 {g : Nat → Nat → Int64} {D : Nat → Nat} : IC k_A0 (J_1, g, D, 368, l_1) := by
  have z : ∀ a k, (a, k) ∈ [(0, 1), (0, 7), (6, 3), (8, 3), (10, 3), (12, 3), (31, 3), (33, 3), (35, 3), (108, 1), (108, 19), (108, 20), (108, 21), (108, 22)] → J_1 a k = nI 0 := fun a k h => J_z (a, k) h
  refine ⟨Nat.le_refl 368, z 0 1 (by decide), fun j h => absurd h (Nat.not_lt_zero j), J_m.1, ⟨fun i hi => J_f i (by omega), ⟨z 6 3 (by decide), fun k h => absurd h (Nat.not_lt_zero k)⟩, ⟨z 8 3 (by decide), fun k h => absurd h (Nat.not_lt_zero k)⟩, ⟨z 10 3 (by decide), fun k h => absurd h (Nat.not_lt_zero k)⟩, ⟨z 12 3 (by decide), fun k h => absurd h (Nat.not_lt_zero k)⟩, fun k h => absurd h (Nat.not_lt_zero k)⟩,
    ⟨⟨z 31 3 (by decide), fun k h => absurd h (Nat.not_lt_zero k)⟩, ⟨z 33 3 (by decide), fun k h => absurd h (Nat.not_lt_zero k)⟩, ⟨z 35 3 (by decide), fun k h => absurd h (Nat.not_lt_zero k)⟩⟩, z 0 7 (by decide), fun i h => absurd h (Nat.not_lt_zero i)⟩
theorem IM_0 {g : Nat → Nat → Int64} {D : Nat → Nat} : IM k_A0 (J_1, g, D, 368, l_1) := by
  have z : ∀ a k, (a, k) ∈ [(0, 1), (0, 7), (6, 3), (8, 3), (10, 3), (12, 3), (31, 3), (33, 3), (35, 3), (108, 1), (108, 19), (108, 20), (108, 21), (108, 22)] → J_1 a k = nI 0 := fun a k h => J_z (a, k) h
  refine ⟨Nat.le_refl 368, z 108 1 (by decide), fun j h => absurd h (Nat.not_lt_zero j), J_m.2, ⟨fun i hi => J_t i hi, fun k h => absurd h (Nat.not_lt_zero k), fun k h => absurd h (Nat.not_lt_zero k), fun k h => absurd h (Nat.not_lt_zero k), fun k h => absurd h (Nat.not_lt_zero k)⟩,
    ⟨⟨z 108 19 (by decide), fun k h => absurd h (Nat.not_lt_zero k)⟩, ⟨z 108 20 (by decide), fun k h => absurd h (Nat.not_lt_zero k)⟩, ⟨z 108 21 (by decide), fun k h => absurd h (Nat.not_lt_zero k)⟩⟩, z 108 22 (by decide), fun i h => absurd h (Nat.not_lt_zero i)⟩
section LWL
variable {w : Wd} {L : Nat} {xs : Nat → Int32} {At : At_t}
theorem lw_exit (hAt : LwAt w L xs At) (hL : L ≤ 3072) {i : Nat} (hi : L < i + 6) (hi2 : i ≤ 4000) {σ : Mem} {u v : Nat} {x5 x6 : AV} : At 23 [.float 0, .ref 0, .ref 108, .ref 367, .int (nI i), x5, x6, junk] [] σ u v := by
  refine hAt 12 _ _ _ _ _ _ (And.intro (Nat.succ_pos _) ?_)
  refine And.intro (fun _ => And.intro (by decide) rfl) (fun q => absurd ?_ q)
  show nI L - nI 6 < nI i
  rw [Int32.lt_iff_toInt_lt, i32_sub6 hL, nI_toInt (by omega)]
  omega
theorem lw_loop (hAt : LwAt w L xs At) (hWr : LwWr w At) (hL : L ≤ 3072) : ∀ (n i : Nat) (A : St) (σ : Mem) (u v : Nat) (x5 x6 : AV), L < i + 6 * n + 6 → i ≤ 3078 → u + 434 * n ≤ 601024 → v + 3470 * n ≤ 7293034 → IC A σ → IM A σ → VA A →
    At 23 [.float 0, .ref 0, .ref 108, .ref 367, .int (nI i), x5, x6, junk] [] σ u v := by
  intro n
  induction n with
  | zero => intro i A σ u v x5 x6 h1 h2 h3 h4 hC hM hv; exact lw_exit hAt hL (by omega) (by omega)
  | succ n ih =>
    intro i A σ u v x5 x6 h1 h2 h3 h4 hC hM hv
    by_cases hi : i + 6 ≤ L
    · have hN : LwN At i u v := fun y5 y6 σ' A' u' v' hC' hM' hv' q1 q2 => by
        rw [nI_add]
        exact ih (i + 6) A' σ' u' v' y5 y6 (by omega) (by omega) (by omega) (by omega) hC' hM' hv'
      refine hAt 12 _ _ _ _ _ _ (And.intro (Nat.succ_pos _) ?_)
      refine And.intro (fun q => absurd q ?_) (fun _ => ?_)
      · show ¬ nI L - nI 6 < nI i
        rw [Int32.lt_iff_toInt_lt, i32_sub6 hL, nI_toInt (by omega)]
        omega
      · refine And.intro (vp_in_nI (n := i) (N := L) (by omega) (by omega)) ?_
        refine And.intro ?_ (fun _ => ?_)
        · exact And.intro (fun _ => L_feed hAt hC hM hv hi hL (by omega) (by omega) hN) (And.intro (fun _ => L_sky hAt hWr hC hM hv hi hL (by omega) (by omega) hN) (And.intro (fun _ => L_fault hAt hC hM hv hi hL (by omega) (by omega) hN) (And.intro (fun _ => L_told hAt hWr hC hM hv hi hL (by omega) (by omega) hN) (And.intro (fun _ => L_owner hAt hWr hC hM hv hi hL (by omega) (by omega) hN) (And.intro (fun _ => L_path hAt hWr hC hM hv hi hL (by omega) (by omega) hN) (And.intro (fun _ => L_field hAt hWr hC hM hv hi hL (by omega) (by omega) hN) (And.intro (fun _ => L_order hAt hWr hC hM hv hi hL (by omega) (by omega) hN) (And.intro (fun _ => L_clear hAt hC hM hv hi hL (by omega) (by omega) hN) (And.intro (fun _ => L_day hAt hWr hC hM hv hi hL (by omega) (by omega) hN) (And.intro (fun _ => L_cloud hAt hWr hC hM hv hi hL (by omega) (by omega) hN) (And.intro (fun _ => L_part hAt hWr hC hM hv hi hL (by omega) (by omega) hN) (And.intro (fun _ => L_account hAt hWr hC hM hv hi hL (by omega) (by omega) hN) (And.intro (fun _ => L_farmer hAt hWr hC hM hv hi hL (by omega) (by omega) hN) (And.intro (fun _ => L_after hAt hWr hC hM hv hi hL (by omega) (by omega) hN) (And.intro (fun _ => L_worth hAt hWr hC hM hv hi hL (by omega) (by omega) hN) (And.intro (fun _ => L_share hAt hWr hC hM hv hi hL (by omega) (by omega) hN) (And.intro (fun _ => L_bid hAt hWr hC hM hv hi hL (by omega) (by omega) hN) (And.intro (fun _ => L_forget hAt hC hM hv hi hL (by omega) (by omega) hN) (And.intro (fun _ => L_gets hAt hWr hC hM hv hi hL (by omega) (by omega) hN) (And.intro (fun _ => L_settled hAt hWr hC hM hv hi hL (by omega) (by omega) hN) (And.intro (fun _ => L_drought hAt hWr hC hM hv hi hL (by omega) (by omega) hN) (And.intro (fun _ => L_gauge hAt hWr hC hM hv hi hL (by omega) (by omega) hN) (And.intro (fun _ => L_away hAt hC hM hv hi hL (by omega) (by omega) hN) (And.intro (fun _ => L_explain hAt hWr hC hM hv hi hL (by omega) (by omega) hN) (And.intro (fun _ => L_doubt hAt hWr hC hM hv hi hL (by omega) (by omega) hN) (And.intro (fun _ => L_worst hAt hWr hC hM hv hi hL (by omega) (by omega) hN) (And.intro (fun _ => L_image hAt hC hM hv hi hL (by omega) (by omega) hN) (And.intro (fun _ => L_restore hAt hC hM hv hi hL (by omega) (by omega) hN) (And.intro (fun _ => L_count hAt hC hM hv hi hL (by omega) (by omega) hN) (True.intro))))))))))))))))))))))))))))))
        · refine hAt 5 1918 [.float 0, .ref 0, .ref 108, .ref 367, .int (nI i), x5, x6, junk] [] _ _ _ ?_
          exact hN _ _ σ A _ _ hC hM hv (by omega) (by omega)
    · exact lw_exit hAt hL (by omega) (by omega)
end LWL
theorem whole_start {p : Program} {e : Env} {s : State} {m : MethodId} {below : List Frame} {meth : Method} {c : Code} (l : Launch) (hflags : l.flags = flags0) {b L : Nat} {xs : Nat → Int32} (hL : L ≤ 3072) (C0 : lw_At p s m meth c b L xs) : W p l e room_1 s m #[Value.ref b] below meth c s.heap [] 0 0 (lw_Z below #[Value.ref b] s) (entryFrame m ([Value.ref b] : List Value).toArray 8) := by
  obtain ⟨w, hw, rfl⟩ := lw_world C0 l hflags
  have hR0 : RelH w false (fun _ _ => 0, fun _ _ => 0, fun _ => 0, 0, []) s.heap := ⟨(by rw [hw.1]; rfl), (fun q hq => by rw [hw.2.1]), (fun h => by cases h), (fun p hp => by cases hp), fun _ => Nat.zero_le _, fun a ha => absurd ha (Nat.not_lt_zero a)⟩
  have hK : ∀ g D, AtL w false p e s m below meth c b 23 [.float 0, .ref 0, .ref 108, .ref 367, .int (nI 0), junk, junk, junk] [] (J_1, g, D, 368, l_1) 368 6975 := fun g D hu hv H lsM locs hR hLR hf =>
    lw_loop (lw_snd C0 hw true) (lw_wr C0 hw) hL 512 0 k_A0 (J_1, g, D, 368, l_1) 368 6975 junk junk (by omega) (by omega) (by omega) (by omega) IC_0 IM_0 VA_0 hu hv H lsM locs (sw_ok hR rfl l_1_full) hLR hf
  have hcv : ([Value.float 0].map (cv w)) = [Value.ref b] := by show [Value.ref (wS w 0)] = _; rw [hw.2.2.1]
  have hl0 : LR w 8 [.float 0, junk, junk, junk, junk, junk, junk, junk] ((lg_sl ([Value.ref b]) ++ List.replicate (8 - (lg_sl ([Value.ref b])).length) Slot.unset).toArray) := by
    rw [← hcv]
    have hle : (lg_sl ([Value.float 0].map (cv w))).length ≤ 8 := by rw [lg_len]; decide
    obtain ⟨g1, g2, g3⟩ := lv_entry ([Value.float 0].map (cv w)) hle
    refine ⟨g1, g2, fun i hi => ?_⟩
    have := g3 _ (lay_spec w [.float 0] 8 i 0 rfl hi)
    rw [Nat.zero_add] at this
    exact this
  have key := lw_entry (lw_snd C0 hw false) hK (Nat.zero_le _) (Nat.zero_le _) s.heap _ [] hR0 hl0 (fun q hq => by cases hq)
  rw [lg_entry_eq]
  exact key
