/-! THE LAW'S WALK: its list over the machine, in both modes; the switch; the constructors; the loop -/
set_option maxRecDepth 8000
def finB (l : List (Nat × Nat)) (a : Nat) (f : Nat → Nat) : Nat → Bool
  | 0 => true
  | k + 1 => finB l a f k && (Nat.ble (f k) 1 || memb l a k)
def allB (l : List (Nat × Nat)) (a : Nat) : Nat → Bool
  | 0 => true
  | k + 1 => allB l a k && memb l a k
def fullB (l : List (Nat × Nat)) : Nat → Bool
  | 0 => true
  | a + 1 => fullB l a && cond (Nat.blt (kS a) 12) (finB l a (ow_fc (kS a)) (ow_N (kS a))) (cond (Nat.beq (kS a) 17) (allB l a (lS a)) true)
theorem finB_s {l : List (Nat × Nat)} {a : Nat} {f : Nat → Nat} : ∀ {n : Nat}, finB l a f n = true → ∀ k, k < n → 2 ≤ f k → memb l a k = true
  | n + 1, h, k, hk, h2 => by
    unfold finB at h
    rw [Bool.and_eq_true, Bool.or_eq_true] at h
    by_cases e : k = n
    · subst e
      rcases h.2 with q | q
      · have := Nat.le_of_ble_eq_true q; omega
      · exact q
    · exact finB_s h.1 k (by omega) h2
theorem allB_s {l : List (Nat × Nat)} {a : Nat} : ∀ {n : Nat}, allB l a n = true → ∀ k, k < n → memb l a k = true
  | n + 1, h, k, hk => by
    unfold allB at h
    rw [Bool.and_eq_true] at h
    by_cases e : k = n
    · subst e; exact h.2
    · exact allB_s h.1 k (by omega)
theorem fullB_s {l : List (Nat × Nat)} : ∀ {n : Nat}, fullB l n = true → ∀ a, a < n → (kS a < 12 → ∀ k, k < ow_N (kS a) → 2 ≤ ow_fc (kS a) k → memb l a k = true) ∧ (kS a = 17 → ∀ k, k < lS a → memb l a k = true)
  | n + 1, h, a, ha => by
    unfold fullB at h
    rw [Bool.and_eq_true] at h
    by_cases e : a = n
    · subst e
      refine ⟨fun h1 => ?_, fun h1 => ?_⟩
      · have q := h.2
        rw [show Nat.blt (kS a) 12 = true from blt_t h1] at q
        exact finB_s q
      · have q := h.2
        rw [h1] at q
        exact allB_s q
    · exact fullB_s h.1 a (by omega)
theorem sw_ok {w : Wd} {σ : Mem} {H : Heap} (h : RelH w false σ H) (hn : mN σ = ow_n0) (hf : fullB (mA σ) ow_n0 = true) : RelH w true σ H := by
  refine ⟨h.1, h.2.1, fun _ => by omega, h.2.2.2.1, (fun q => by cases q), fun a ha => ?_⟩
  obtain ⟨f1, f2⟩ := fullB_s hf a (by omega)
  obtain ⟨c1, c2, c3, c4, c5, c6, c7⟩ := h.2.2.2.2.2 a ha
  have hk : kind σ a = kS a := kind_s (by omega)
  refine ⟨fun q => (c1 q).to (fun k hk2 => ?_), c2, c3, c4, c5, c6, fun q => ?_⟩
  · rw [hk] at q hk2 ⊢
    by_cases e : 2 ≤ ow_fc (kS a) k
    · have hm := f1 q k hk2 e
      unfold fV
      rw [show asd false σ a k = true from hm, show asd true σ a k = true from rfl]
    · unfold fV
      have : ow_fc (kS a) k = 0 ∨ ow_fc (kS a) k = 1 := by omega
      rcases this with e | e <;> rw [e] <;> rfl
  · rw [c7 q]
    refine congrArg some (arrV_congr (fun j hj => ?_))
    rw [aLen_s (by omega)] at hj
    rw [hk] at q
    rw [show asd false σ a j = true from f2 q j hj, show asd true σ a j = true from rfl]
def s6B (e : El) : Bool := match e.2.2.2.1 with
  | .invokestatic _ => Nat.beq e.2.2.2.2.2.2.1 6
  | _ => false
theorem stp_s6 {b : Bool} {code tl : List El} {At : At_t} {Rt : Option AV → Mem → Prop} {Hx : Nat → Nat → List AV → Mem → Nat → Nat → Prop} {Cl : Cl_t} {L KC KS : Nat} {xs : Nat → Int32} {K : Kt} {el : El} {ls st : List AV} {σ : Mem} {u v : Nat} (h : s6B el = true) (hs : stp b code At Rt Hx Cl L xs KC KS K (el :: tl) ls st σ u v) : False := by
  obtain ⟨pc, len, cut, ins, a, bb, c, ts⟩ := el
  cases ins
  case invokestatic i =>
    have h : Nat.beq c 6 = true := h
    have := Nat.eq_of_beq_eq_true h
    subst this
    exact hs
  all_goals cases h
theorem k_Lw_s6 : k_Lv.all (fun e => !spB e || s6B e) = true := by decide +kernel
section LWM
variable {w : Wd} {p : Program} {e : Env} {s : State} {m : MethodId} {below : List Frame} {meth : Method} {c : Code} {bb L : Nat} {xs : Nat → Int32}
abbrev AtL (w : Wd) (b : Bool) (p : Program) (e : Env) (s : State) (m : MethodId) (below : List Frame) (meth : Method) (c : Code) (bb : Nat) : At_t := AtM w b p (wLa w) e room_1 s m #[Value.ref bb] below meth c (lw_Z below #[Value.ref bb] s) 8 601024 7293034
/-- the world fits the law's start -/
def WOK (w : Wd) (s : State) (bb : Nat) : Prop := wN w = s.heap.size ∧ wH w = s.heap ∧ wS w 0 = bb ∧ KF w s
theorem lw_Cx (C0 : lw_At p s m meth c bb L xs) (hw : WOK w s bb) : Cx w p s m #[Value.ref bb] meth c 12 code 8 :=
  ⟨C0.1, C0.2.1, C0.2.2.2.1, C0.2.2.2.2.1, fun z hz => C0.2.2.2.2.2.1 z (List.mem_filter.mp hz).1, hw.2.2.2, C0.2.2.2.2.2.2.2.2.1⟩
theorem lw_rt (C0 : lw_At p s m meth c bb L xs) (hw : WOK w s bb) (b : Bool) : RtM w b p (wLa w) e room_1 s m #[Value.ref bb] below meth c (lw_Z below #[Value.ref bb] s) 8 601024 7293034 code (some .boolean) (fun r _ => r = some (.int (nI 1))) := by
  refine ⟨fun h0 => ?_, fun h0 => ?_, fun h0 => ?_, fun h0 => ?_, fun h0 => ?_⟩
  · cases h0
  · cases h0
  · intro pc ls x σ u v hd hn hP hu hv H lsM locs hR hL hf
    have hx : x = nI 1 := by
      have h1 : some (Value.int x) = some (Value.int (nI 1)) := hP
      injection h1 with h1; injection h1
    subst hx
    exact va_forget (fun q hq => by have := hf q hq; unfold fre at this; rw [hw.1] at this; exact this) (W.widen hu hv (lw_ret C0.1 C0.2.1 C0.2.2.1 C0.2.2.2.2.2.2.2.2.1 hd))
  · cases h0
  · obtain ⟨n, h0⟩ := h0; cases h0
theorem lw_VS {b : Bool} {σ : Mem} {H : Heap} {locs : List Loc} (hw : WOK w s bb) (hR : RelH w b σ H) (hf : ∀ q ∈ locs, fre w q.base) : va_S (fre w) s.heap H locs :=
  ⟨by have := hR.1; have := hw.1; omega, fun q hq _ => by rw [hR.2.1 q (by rw [hw.1]; exact hq), hw.2.1], hf⟩
theorem lw_snd (C0 : lw_At p s m meth c bb L xs) (hw : WOK w s bb) (b : Bool) (n pc : Nat) (ls st : List AV) (σ : Mem) (u v : Nat)
    (h : wp b k_Lv (AtL w b p e s m below meth c bb) (fun r _ => r = some (.int (nI 1))) (fun _ _ _ _ _ _ => False) (fun a kc ks as σ k kx => Ret w b 50 kc ks a as σ k kx) (L + 1) xs 601024 7293034 n (seek k_Lv pc) ls st σ u v) : AtL w b p e s m below meth c bb pc ls st σ u v := by
  have hX := C0.2.2.2.2.2.2.1
  have hbl := C0.2.2.2.2.2.2.2.1
  have hna : ¬ fre w bb := fun q => by unfold fre at q; rw [hw.1] at q; omega
  have hfin := snd_wp (R := room_1) (lw_Cx C0 hw) (by decide) rfl rfl (by decide) (by decide) rfl rfl (lw_rt (e := e) (below := below) C0 hw b) (fun _ _ _ _ _ _ z => z) (fun _ _ _ _ _ _ z => z.elim)
    (fun {pc ls st σ u v t i} ht hd hin kk => by
      intro hu hv H lsM locs hR hL hf
      have := va_sld (rest := st.map (cv w)) C0.1 C0.2.1 hX hbl hna (lw_VS hw hR hf) hin hd (kk hu hv H lsM locs hR hL hf)
      have e : cv w (.float t) = .ref bb := by show Value.ref (wS w t.toNat) = _; rw [ht, hw.2.2.1]
      show W _ _ _ _ _ _ _ _ _ _ _ _ _ _ _ (F0 m pc lsM (.int i :: cv w (.float t) :: st.map (cv w)))
      rw [e]; exact this)
    (fun {pc ls st σ u v t} ht h0 hd kk => by
      intro hu hv H lsM locs hR hL hf
      have := va_slen (rest := st.map (cv w)) C0.1 C0.2.1 hX hbl hna (lw_VS hw hR hf) hd (kk hu hv H lsM locs hR hL hf)
      have e : cv w (.float t) = .ref bb := by show Value.ref (wS w t.toNat) = _; rw [ht, hw.2.2.1]
      show W _ _ _ _ _ _ _ _ _ _ _ _ _ _ _ (F0 m pc lsM (cv w (.float t) :: st.map (cv w)))
      rw [e]; exact this)
    (q_Lw' meth.name) (fun {K} hK {el tl} hs hb hd {ls st σ u v} hst => by
      have := List.all_eq_true.mp k_Lw_s6 el hs.mem
      rw [hb] at this
      exact (stp_s6 this hst).elim) n (seek k_Lv pc) ls st σ u v seek_sfx h
  cases hq : seek k_Lv pc with
  | nil =>
    rw [hq] at h
    cases n with
    | zero => exact h.elim
    | succ n => exact h.elim
  | cons f tl => rw [hq] at hfin; rw [← seek_hd hq]; exact hfin
theorem lw_wr (C0 : lw_At p s m meth c bb L xs) (hw : WOK w s bb) : LwWr w (AtL w true p e s m below meth c bb) := by
  intro a i pc u v hh as ls σ hwr hu hv hM
  obtain ⟨h1, h2, h3, h4, h5, h6, h7⟩ := hwr
  have := x_wrap (R := room_1) (e := e) (below := below) (Q := lw_Z below #[Value.ref bb] s) (ls := ls) (u := u) (v := v) (rest := []) (lw_Cx C0 hw) rfl h1 h2 h3 h4 h5 h6 (by decide) (by decide) rfl rfl (by decide) h7 hM hu hv (fun r σ' h => h)
  rw [List.append_nil] at this
  exact this
end LWM
section LWE
variable {w : Wd} {L : Nat} {xs : Nat → Int32} {At : At_t}
def J_1 : Nat → Nat → Int32 := (Jt (Jt (Jw (Jw (Jw (Jw (Js (Js (Jw (fun _ _ => 0) 0 1 (nI 0)) 5) 19) 16 5 (-1)) 0 4 (-1)) 0 7 (nI 0)) 108 3 (-1)) 110) 111)
def l_1 : List (Nat × Nat) := l_Mo ((0, 11) :: (105, 2) :: (106, 0) :: (105, 1) :: (105, 0) :: (0, 10) :: (98, 4) :: (103, 0) :: (98, 3) :: (101, 0) :: (98, 2) :: (99, 0) :: (98, 1) :: (98, 0) :: (0, 9) :: (81, 8) :: (96, 0) :: (81, 7) :: (94, 0) :: (81, 6) :: (92, 0) :: (81, 5) :: (90, 0) :: (81, 4) :: (88, 0) :: (81, 3) :: (86, 0) :: (81, 2) :: (84, 2) :: (84, 1) :: (84, 0) :: (81, 1) :: (82, 2) :: (82, 1) :: (82, 0) :: (81, 0) :: (0, 8) :: (59, 7) :: (79, 0) :: (59, 6) :: (77, 0) :: (59, 5) :: (75, 0) :: (59, 4) :: (73, 2) :: (73, 1) :: (73, 0) :: (59, 3) :: (71, 0) :: (59, 2) :: (60, 5) :: (69, 2) :: (69, 1) :: (69, 0) :: (60, 4) :: (67, 2) :: (67, 1) :: (67, 0) :: (60, 3) :: (65, 2) :: (65, 1) :: (65, 0) :: (60, 2) :: (63, 2) :: (63, 1) :: (63, 0) :: (60, 1) :: (61, 2) :: (61, 1) :: (61, 0) :: (60, 0) :: (59, 1) :: (59, 0) :: (37, 2) :: (52, 2) :: (57, 2) :: (57, 1) :: (57, 0) :: (52, 1) :: (55, 2) :: (55, 1) :: (55, 0) :: (52, 0) :: (53, 2) :: (53, 1) :: (53, 0) :: (37, 1) :: (45, 2) :: (50, 2) :: (50, 1) :: (50, 0) :: (45, 1) :: (48, 2) :: (48, 1) :: (48, 0) :: (45, 0) :: (46, 2) :: (46, 1) :: (46, 0) :: (37, 0) :: (38, 2) :: (43, 2) :: (43, 1) :: (43, 0) :: (38, 1) :: (41, 2) :: (41, 1) :: (41, 0) :: (38, 0) :: (39, 2) :: (39, 1) :: (39, 0) :: (0, 6) :: (0, 5) :: (30, 2) :: (35, 2) :: (35, 1) :: (35, 0) :: (30, 1) :: (33, 2) :: (33, 1) :: (33, 0) :: (30, 0) :: (31, 2) :: (31, 1) :: (31, 0) :: (0, 3) :: (16, 1) :: (17, 5) :: (28, 2) :: (28, 1) :: (28, 0) :: (17, 4) :: (26, 2) :: (26, 1) :: (26, 0) :: (17, 3) :: (24, 2) :: (24, 1) :: (24, 0) :: (17, 2) :: (22, 2) :: (22, 1) :: (22, 0) :: (17, 1) :: (20, 2) :: (20, 1) :: (20, 0) :: (17, 0) :: (18, 0) :: (16, 0) :: (0, 2) :: (3, 5) :: (14, 2) :: (14, 1) :: (14, 0) :: (3, 4) :: (12, 2) :: (12, 1) :: (12, 0) :: (3, 3) :: (10, 2) :: (10, 1) :: (10, 0) :: (3, 2) :: (8, 2) :: (8, 1) :: (8, 0) :: (3, 1) :: (6, 2) :: (6, 1) :: (6, 0) :: (3, 0) :: (4, 0) :: (0, 0) :: (1, 0) :: [])
theorem l_1_full : fullB l_1 ow_n0 = true := by decide +kernel
theorem lw_entry (hAt : ∀ n pc ls st σ u v, wp false k_Lv At (fun r _ => r = some (.int (nI 1))) (fun _ _ _ _ _ _ => False) (fun a kc ks as σ k kx => Ret w false 50 kc ks a as σ k kx) (L + 1) xs 601024 7293034 n (seek k_Lv pc) ls st σ u v → At pc ls st σ u v)
    (hK : ∀ g D, At 23 [.float 0, .ref 0, .ref 108, .ref 367, .int (nI 0), junk, junk, junk] [] (J_1, g, D, 368, l_1) 368 6975) : At 0 [.float 0, junk, junk, junk, junk, junk, junk, junk] [] (fun _ _ => 0, fun _ _ => 0, fun _ => 0, 0, []) 0 0 := by
  refine hAt 80 _ _ _ _ _ _ ?_
  refine And.intro (by decide) (And.intro (by decide) ?_)
  refine callG 107 3716 (by decide) (by decide) (i_OC_0 (d := 45) (J := fun _ _ => 0) (l := []) (fun _ _ _ => rfl) fun g1 => ?_)
  refine And.intro (by decide) (And.intro (by decide) ?_)
  refine callG 258 3185 (by decide) (by decide) (i_Mo (d := 48) (J := (Jw (Jw (Jw (Js (Js (Jw (fun _ _ => 0) 0 1 (nI 0)) 5) 19) 16 5 (-1)) 0 4 (-1)) 0 7 (nI 0))) (l := (0, 11) :: (105, 2) :: (106, 0) :: (105, 1) :: (105, 0) :: (0, 10) :: (98, 4) :: (103, 0) :: (98, 3) :: (101, 0) :: (98, 2) :: (99, 0) :: (98, 1) :: (98, 0) :: (0, 9) :: (81, 8) :: (96, 0) :: (81, 7) :: (94, 0) :: (81, 6) :: (92, 0) :: (81, 5) :: (90, 0) :: (81, 4) :: (88, 0) :: (81, 3) :: (86, 0) :: (81, 2) :: (84, 2) :: (84, 1) :: (84, 0) :: (81, 1) :: (82, 2) :: (82, 1) :: (82, 0) :: (81, 0) :: (0, 8) :: (59, 7) :: (79, 0) :: (59, 6) :: (77, 0) :: (59, 5) :: (75, 0) :: (59, 4) :: (73, 2) :: (73, 1) :: (73, 0) :: (59, 3) :: (71, 0) :: (59, 2) :: (60, 5) :: (69, 2) :: (69, 1) :: (69, 0) :: (60, 4) :: (67, 2) :: (67, 1) :: (67, 0) :: (60, 3) :: (65, 2) :: (65, 1) :: (65, 0) :: (60, 2) :: (63, 2) :: (63, 1) :: (63, 0) :: (60, 1) :: (61, 2) :: (61, 1) :: (61, 0) :: (60, 0) :: (59, 1) :: (59, 0) :: (37, 2) :: (52, 2) :: (57, 2) :: (57, 1) :: (57, 0) :: (52, 1) :: (55, 2) :: (55, 1) :: (55, 0) :: (52, 0) :: (53, 2) :: (53, 1) :: (53, 0) :: (37, 1) :: (45, 2) :: (50, 2) :: (50, 1) :: (50, 0) :: (45, 1) :: (48, 2) :: (48, 1) :: (48, 0) :: (45, 0) :: (46, 2) :: (46, 1) :: (46, 0) :: (37, 0) :: (38, 2) :: (43, 2) :: (43, 1) :: (43, 0) :: (38, 1) :: (41, 2) :: (41, 1) :: (41, 0) :: (38, 0) :: (39, 2) :: (39, 1) :: (39, 0) :: (0, 6) :: (0, 5) :: (30, 2) :: (35, 2) :: (35, 1) :: (35, 0) :: (30, 1) :: (33, 2) :: (33, 1) :: (33, 0) :: (30, 0) :: (31, 2) :: (31, 1) :: (31, 0) :: (0, 3) :: (16, 1) :: (17, 5) :: (28, 2) :: (28, 1) :: (28, 0) :: (17, 4) :: (26, 2) :: (26, 1) :: (26, 0) :: (17, 3) :: (24, 2) :: (24, 1) :: (24, 0) :: (17, 2) :: (22, 2) :: (22, 1) :: (22, 0) :: (17, 1) :: (20, 2) :: (20, 1) :: (20, 0) :: (17, 0) :: (18, 0) :: (16, 0) :: (0, 2) :: (3, 5) :: (14, 2) :: (14, 1) :: (14, 0) :: (3, 4) :: (12, 2) :: (12, 1) :: (12, 0) :: (3, 3) :: (10, 2) :: (10, 1) :: (10, 0) :: (3, 2) :: (8, 2) :: (8, 1) :: (8, 0) :: (3, 1) :: (6, 2) :: (6, 1) :: (6, 0) :: (3, 0) :: (4, 0) :: (0, 0) :: (1, 0) :: []) (Jw_z (by decide) (Jw_z (by decide) (Jw_z (by decide) (Js_z (by decide) (Js_z (by decide) (Jw_z (by decide) (fun _ _ _ => rfl))))))) fun g2 => ?_)
  refine And.intro (by decide) (And.intro (show Int32.toNatClampNeg (nI 1) = 1 by decide) (And.intro (show 367 + 1 ≤ 601024 by decide) (And.intro (show 6974 + 1 ≤ 7293034 by decide) ?_)))
  have hz : ∀ b j, 367 ≤ b → J_1 b j = 0 := by
    unfold J_1 Jt
    exact (Jw_z (by decide) (Jw_z (by decide) (Jw_z (by decide) (Jw_z (by decide) (Jw_z (by decide) (Jw_z (by decide) (Jw_z (by decide) (Jw_z (by decide) (Jw_z (by decide) (Jw_z (by decide) (Jw_z (by decide) (Jw_z (by decide) (Jw_z (by decide) (Jw_z (by decide) (Jw_z (by decide) (Jw_z (by decide) (Jw_z (by decide) (Jw_z (by decide) (Jw_z (by decide) (Jw_z (by decide) (Jw_z (by decide) (Jw_z (by decide) (Jw_z (by decide) (Jw_z (by decide) (Jw_z (by decide) (Jw_z (by decide) (Js_z (by decide) (Js_z (by decide) (Jw_z (by decide) (fun _ _ _ => rfl))))))))))))))))))))))))))))))
  rw [nS_zz (J := J_1) (N := 367) (l := l_1) ?q1 ?q2 ?q3 hz]
  case q1 => rfl
  case q2 => rfl
  case q3 => rfl
  exact hK _ _
end LWE
