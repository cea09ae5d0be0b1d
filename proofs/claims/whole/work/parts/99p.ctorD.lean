/-! CONSTRUCTORS (mode false): the model -/
def Jt (J : Nat → Nat → Int32) (c : Nat) : Nat → Nat → Int32 := (Jw (Jw (Jw (Jw (Jw (Jw (Jw (Jw (Jw (Jw (Jw J c 0 (nI 6)) c 1 (nI 5)) c 2 (nI 0)) c 3 (nI 0)) c 4 (nI 0)) c 5 (nI 0)) c 6 (nI 20)) c 7 (nI 999)) c 8 (nI 50)) c 9 (nI 1)) c 10 (nI 0))
set_option maxRecDepth 8000
section CTP
variable {w : Wd} {d : Nat} {P : Option AV → Mem → Prop} {X : Nat → Mem → Prop} {J : Nat → Nat → Int32} {g : Nat → Nat → Int64} {D : Nat → Nat} {l : List (Nat × Nat)}

theorem i_tells (hm : memb l 108 9 = true) (hP : P none (Jt J 110, g, D, 367, l)) : Ret w false (d + 1) 0 0 m_Mo_tellsNothing [.ref 108] (J, g, D, 367, l) P X := by
  refine meth_ok k_Mo_tellsNothing q_Mo_tellsNothing rfl fun At hAt => hAt 80 _ _ _ _ _ _ ?_
  refine hAt 80 2 [.ref 108, .int (nI 0)] [] (J, g, D, 367, l) 0 0 ?_
  refine And.intro (fun q => absurd q (by decide)) (fun _ => ?_)
  refine cond_t hm ?_
  refine And.intro (fun q => absurd (by decide) q) (fun _ => ?_)
  refine And.intro (by rw [show (nI 0) = nI 0 from by decide]; exact aOK_f (by decide) (by decide) rfl rfl (show 0 < 11 by decide) (by decide)) ?_
  rw [show Int32.toNatClampNeg (nI 0) = 0 from by decide]
  refine hAt 80 2 [.ref 108, .int ((nI 0) + nI 1)] [] ((Jw J 110 0 (nI 6)), g, D, 367, l) 0 0 ?_
  refine And.intro (fun q => absurd q (by decide)) (fun _ => ?_)
  refine cond_t hm ?_
  refine And.intro (fun _ => ?_) (fun q => absurd q (by decide))
  refine And.intro (fun q => absurd (by decide) q) (fun _ => ?_)
  refine And.intro (by rw [show ((nI 0) + nI 1) = nI 1 from by decide]; exact aOK_f (by decide) (by decide) rfl rfl (show 1 < 11 by decide) (by decide)) ?_
  rw [show Int32.toNatClampNeg ((nI 0) + nI 1) = 1 from by decide]
  refine hAt 80 2 [.ref 108, .int (((nI 0) + nI 1) + nI 1)] [] ((Jw (Jw J 110 0 (nI 6)) 110 1 (nI 5)), g, D, 367, l) 0 0 ?_
  refine And.intro (fun q => absurd q (by decide)) (fun _ => ?_)
  refine cond_t hm ?_
  refine And.intro (fun _ => ?_) (fun q => absurd q (by decide))
  refine And.intro (fun _ => ?_) (fun q => absurd q (by decide))
  refine And.intro (fun _ => ?_) (fun q => absurd q (by decide))
  refine And.intro (fun _ => ?_) (fun q => absurd q (by decide))
  refine And.intro (fun _ => ?_) (fun q => absurd q (by decide))
  refine And.intro (fun _ => ?_) (fun q => absurd q (by decide))
  refine And.intro (by rw [show (((nI 0) + nI 1) + nI 1) = nI 2 from by decide]; exact aOK_f (by decide) (by decide) rfl rfl (show 2 < 11 by decide) (by decide)) ?_
  rw [show Int32.toNatClampNeg (((nI 0) + nI 1) + nI 1) = 2 from by decide]
  refine hAt 80 2 [.ref 108, .int ((((nI 0) + nI 1) + nI 1) + nI 1)] [] ((Jw (Jw (Jw J 110 0 (nI 6)) 110 1 (nI 5)) 110 2 (nI 0)), g, D, 367, l) 0 0 ?_
  refine And.intro (fun q => absurd q (by decide)) (fun _ => ?_)
  refine cond_t hm ?_
  refine And.intro (fun _ => ?_) (fun q => absurd q (by decide))
  refine And.intro (fun _ => ?_) (fun q => absurd q (by decide))
  refine And.intro (fun _ => ?_) (fun q => absurd q (by decide))
  refine And.intro (fun _ => ?_) (fun q => absurd q (by decide))
  refine And.intro (fun _ => ?_) (fun q => absurd q (by decide))
  refine And.intro (fun _ => ?_) (fun q => absurd q (by decide))
  refine And.intro (by rw [show ((((nI 0) + nI 1) + nI 1) + nI 1) = nI 3 from by decide]; exact aOK_f (by decide) (by decide) rfl rfl (show 3 < 11 by decide) (by decide)) ?_
  rw [show Int32.toNatClampNeg ((((nI 0) + nI 1) + nI 1) + nI 1) = 3 from by decide]
  refine hAt 80 2 [.ref 108, .int (((((nI 0) + nI 1) + nI 1) + nI 1) + nI 1)] [] ((Jw (Jw (Jw (Jw J 110 0 (nI 6)) 110 1 (nI 5)) 110 2 (nI 0)) 110 3 (nI 0)), g, D, 367, l) 0 0 ?_
  refine And.intro (fun q => absurd q (by decide)) (fun _ => ?_)
  refine cond_t hm ?_
  refine And.intro (fun _ => ?_) (fun q => absurd q (by decide))
  refine And.intro (fun _ => ?_) (fun q => absurd q (by decide))
  refine And.intro (fun _ => ?_) (fun q => absurd q (by decide))
  refine And.intro (fun _ => ?_) (fun q => absurd q (by decide))
  refine And.intro (fun _ => ?_) (fun q => absurd q (by decide))
  refine And.intro (fun _ => ?_) (fun q => absurd q (by decide))
  refine And.intro (by rw [show (((((nI 0) + nI 1) + nI 1) + nI 1) + nI 1) = nI 4 from by decide]; exact aOK_f (by decide) (by decide) rfl rfl (show 4 < 11 by decide) (by decide)) ?_
  rw [show Int32.toNatClampNeg (((((nI 0) + nI 1) + nI 1) + nI 1) + nI 1) = 4 from by decide]
  refine hAt 80 2 [.ref 108, .int ((((((nI 0) + nI 1) + nI 1) + nI 1) + nI 1) + nI 1)] [] ((Jw (Jw (Jw (Jw (Jw J 110 0 (nI 6)) 110 1 (nI 5)) 110 2 (nI 0)) 110 3 (nI 0)) 110 4 (nI 0)), g, D, 367, l) 0 0 ?_
  refine And.intro (fun q => absurd q (by decide)) (fun _ => ?_)
  refine cond_t hm ?_
  refine And.intro (fun _ => ?_) (fun q => absurd q (by decide))
  refine And.intro (fun _ => ?_) (fun q => absurd q (by decide))
  refine And.intro (fun _ => ?_) (fun q => absurd q (by decide))
  refine And.intro (fun _ => ?_) (fun q => absurd q (by decide))
  refine And.intro (fun _ => ?_) (fun q => absurd q (by decide))
  refine And.intro (fun _ => ?_) (fun q => absurd q (by decide))
  refine And.intro (by rw [show ((((((nI 0) + nI 1) + nI 1) + nI 1) + nI 1) + nI 1) = nI 5 from by decide]; exact aOK_f (by decide) (by decide) rfl rfl (show 5 < 11 by decide) (by decide)) ?_
  rw [show Int32.toNatClampNeg ((((((nI 0) + nI 1) + nI 1) + nI 1) + nI 1) + nI 1) = 5 from by decide]
  refine hAt 80 2 [.ref 108, .int (((((((nI 0) + nI 1) + nI 1) + nI 1) + nI 1) + nI 1) + nI 1)] [] ((Jw (Jw (Jw (Jw (Jw (Jw J 110 0 (nI 6)) 110 1 (nI 5)) 110 2 (nI 0)) 110 3 (nI 0)) 110 4 (nI 0)) 110 5 (nI 0)), g, D, 367, l) 0 0 ?_
  refine And.intro (fun q => absurd q (by decide)) (fun _ => ?_)
  refine cond_t hm ?_
  refine And.intro (fun _ => ?_) (fun q => absurd q (by decide))
  refine And.intro (fun _ => ?_) (fun q => absurd q (by decide))
  refine And.intro (fun q => absurd (by decide) q) (fun _ => ?_)
  refine And.intro (by rw [show (((((((nI 0) + nI 1) + nI 1) + nI 1) + nI 1) + nI 1) + nI 1) = nI 6 from by decide]; exact aOK_f (by decide) (by decide) rfl rfl (show 6 < 11 by decide) (by decide)) ?_
  rw [show Int32.toNatClampNeg (((((((nI 0) + nI 1) + nI 1) + nI 1) + nI 1) + nI 1) + nI 1) = 6 from by decide]
  refine hAt 80 2 [.ref 108, .int ((((((((nI 0) + nI 1) + nI 1) + nI 1) + nI 1) + nI 1) + nI 1) + nI 1)] [] ((Jw (Jw (Jw (Jw (Jw (Jw (Jw J 110 0 (nI 6)) 110 1 (nI 5)) 110 2 (nI 0)) 110 3 (nI 0)) 110 4 (nI 0)) 110 5 (nI 0)) 110 6 (nI 20)), g, D, 367, l) 0 0 ?_
  refine And.intro (fun q => absurd q (by decide)) (fun _ => ?_)
  refine cond_t hm ?_
  refine And.intro (fun _ => ?_) (fun q => absurd q (by decide))
  refine And.intro (fun _ => ?_) (fun q => absurd q (by decide))
  refine And.intro (fun _ => ?_) (fun q => absurd q (by decide))
  refine And.intro (fun q => absurd (by decide) q) (fun _ => ?_)
  refine And.intro (by rw [show ((((((((nI 0) + nI 1) + nI 1) + nI 1) + nI 1) + nI 1) + nI 1) + nI 1) = nI 7 from by decide]; exact aOK_f (by decide) (by decide) rfl rfl (show 7 < 11 by decide) (by decide)) ?_
  rw [show Int32.toNatClampNeg ((((((((nI 0) + nI 1) + nI 1) + nI 1) + nI 1) + nI 1) + nI 1) + nI 1) = 7 from by decide]
  refine hAt 80 2 [.ref 108, .int (((((((((nI 0) + nI 1) + nI 1) + nI 1) + nI 1) + nI 1) + nI 1) + nI 1) + nI 1)] [] ((Jw (Jw (Jw (Jw (Jw (Jw (Jw (Jw J 110 0 (nI 6)) 110 1 (nI 5)) 110 2 (nI 0)) 110 3 (nI 0)) 110 4 (nI 0)) 110 5 (nI 0)) 110 6 (nI 20)) 110 7 (nI 999)), g, D, 367, l) 0 0 ?_
  refine And.intro (fun q => absurd q (by decide)) (fun _ => ?_)
  refine cond_t hm ?_
  refine And.intro (fun _ => ?_) (fun q => absurd q (by decide))
  refine And.intro (fun _ => ?_) (fun q => absurd q (by decide))
  refine And.intro (fun _ => ?_) (fun q => absurd q (by decide))
  refine And.intro (fun _ => ?_) (fun q => absurd q (by decide))
  refine And.intro (fun q => absurd (by decide) q) (fun _ => ?_)
  refine And.intro (by rw [show (((((((((nI 0) + nI 1) + nI 1) + nI 1) + nI 1) + nI 1) + nI 1) + nI 1) + nI 1) = nI 8 from by decide]; exact aOK_f (by decide) (by decide) rfl rfl (show 8 < 11 by decide) (by decide)) ?_
  rw [show Int32.toNatClampNeg (((((((((nI 0) + nI 1) + nI 1) + nI 1) + nI 1) + nI 1) + nI 1) + nI 1) + nI 1) = 8 from by decide]
  refine hAt 80 2 [.ref 108, .int ((((((((((nI 0) + nI 1) + nI 1) + nI 1) + nI 1) + nI 1) + nI 1) + nI 1) + nI 1) + nI 1)] [] ((Jw (Jw (Jw (Jw (Jw (Jw (Jw (Jw (Jw J 110 0 (nI 6)) 110 1 (nI 5)) 110 2 (nI 0)) 110 3 (nI 0)) 110 4 (nI 0)) 110 5 (nI 0)) 110 6 (nI 20)) 110 7 (nI 999)) 110 8 (nI 50)), g, D, 367, l) 0 0 ?_
  refine And.intro (fun q => absurd q (by decide)) (fun _ => ?_)
  refine cond_t hm ?_
  refine And.intro (fun _ => ?_) (fun q => absurd q (by decide))
  refine And.intro (fun _ => ?_) (fun q => absurd q (by decide))
  refine And.intro (fun _ => ?_) (fun q => absurd q (by decide))
  refine And.intro (fun _ => ?_) (fun q => absurd q (by decide))
  refine And.intro (fun _ => ?_) (fun q => absurd q (by decide))
  refine And.intro (fun q => absurd (by decide) q) (fun _ => ?_)
  refine And.intro (by rw [show ((((((((((nI 0) + nI 1) + nI 1) + nI 1) + nI 1) + nI 1) + nI 1) + nI 1) + nI 1) + nI 1) = nI 9 from by decide]; exact aOK_f (by decide) (by decide) rfl rfl (show 9 < 11 by decide) (by decide)) ?_
  rw [show Int32.toNatClampNeg ((((((((((nI 0) + nI 1) + nI 1) + nI 1) + nI 1) + nI 1) + nI 1) + nI 1) + nI 1) + nI 1) = 9 from by decide]
  refine hAt 80 2 [.ref 108, .int (((((((((((nI 0) + nI 1) + nI 1) + nI 1) + nI 1) + nI 1) + nI 1) + nI 1) + nI 1) + nI 1) + nI 1)] [] ((Jw (Jw (Jw (Jw (Jw (Jw (Jw (Jw (Jw (Jw J 110 0 (nI 6)) 110 1 (nI 5)) 110 2 (nI 0)) 110 3 (nI 0)) 110 4 (nI 0)) 110 5 (nI 0)) 110 6 (nI 20)) 110 7 (nI 999)) 110 8 (nI 50)) 110 9 (nI 1)), g, D, 367, l) 0 0 ?_
  refine And.intro (fun q => absurd q (by decide)) (fun _ => ?_)
  refine cond_t hm ?_
  refine And.intro (fun _ => ?_) (fun q => absurd q (by decide))
  refine And.intro (fun _ => ?_) (fun q => absurd q (by decide))
  refine And.intro (fun _ => ?_) (fun q => absurd q (by decide))
  refine And.intro (fun _ => ?_) (fun q => absurd q (by decide))
  refine And.intro (fun _ => ?_) (fun q => absurd q (by decide))
  refine And.intro (fun _ => ?_) (fun q => absurd q (by decide))
  refine And.intro (by rw [show (((((((((((nI 0) + nI 1) + nI 1) + nI 1) + nI 1) + nI 1) + nI 1) + nI 1) + nI 1) + nI 1) + nI 1) = nI 10 from by decide]; exact aOK_f (by decide) (by decide) rfl rfl (show 10 < 11 by decide) (by decide)) ?_
  rw [show Int32.toNatClampNeg (((((((((((nI 0) + nI 1) + nI 1) + nI 1) + nI 1) + nI 1) + nI 1) + nI 1) + nI 1) + nI 1) + nI 1) = 10 from by decide]
  refine hAt 80 2 [.ref 108, .int ((((((((((((nI 0) + nI 1) + nI 1) + nI 1) + nI 1) + nI 1) + nI 1) + nI 1) + nI 1) + nI 1) + nI 1) + nI 1)] [] ((Jw (Jw (Jw (Jw (Jw (Jw (Jw (Jw (Jw (Jw (Jw J 110 0 (nI 6)) 110 1 (nI 5)) 110 2 (nI 0)) 110 3 (nI 0)) 110 4 (nI 0)) 110 5 (nI 0)) 110 6 (nI 20)) 110 7 (nI 999)) 110 8 (nI 50)) 110 9 (nI 1)) 110 10 (nI 0)), g, D, 367, l) 0 0 ?_
  exact And.intro (fun _ => hP) (fun q => absurd (by decide) q)
def l_Mo (l : List (Nat × Nat)) : List (Nat × Nat) := (108, 58) :: (108, 57) :: (108, 56) :: (108, 55) :: (108, 54) :: (108, 53) :: (108, 52) :: (108, 51) :: (108, 50) :: (108, 42) :: (108, 41) :: (108, 40) :: (108, 39) :: (108, 38) :: (108, 37) :: (108, 36) :: (108, 35) :: (108, 34) :: (108, 33) :: (108, 32) :: (108, 31) :: (108, 30) :: (108, 29) :: (108, 28) :: (108, 27) :: (108, 26) :: (108, 25) :: (108, 24) :: (108, 18) :: (108, 17) :: (108, 16) :: (108, 15) :: (108, 14) :: (108, 13) :: (108, 12) :: (108, 11) :: (108, 10) :: (108, 9) :: (108, 8) :: l
theorem i_Mo (hZ : ∀ b j, 108 ≤ b → J b j = 0) (hP : ∀ g', P none (Jt (Jt (Jw J 108 3 (-1)) 110) 111, g', D, 367, l_Mo l)) : Ret w false (d + 2) 258 3185 m_Mo_init [.ref 108] (nS (J, g, D, 108, l) 1) P X := by
  rw [nS_z hZ]
  have hz : ∀ N, 109 ≤ N → ∀ b j, N ≤ b → (Jw J 108 3 (-1)) b j = 0 := fun N hN => Jw_z (by omega) (fun b j h => hZ b j (by omega))
  refine meth_ok k_Mo_init q_Mo_init rfl fun At hAt => ?_
  have h39 : ∀ g, At 387 [.ref 108, junk] [] ((Jw J 108 3 (-1)), g, D, 367, (108, 58) :: (108, 57) :: (108, 56) :: (108, 55) :: (108, 54) :: (108, 53) :: (108, 52) :: (108, 51) :: (108, 50) :: (108, 42) :: (108, 41) :: (108, 40) :: (108, 39) :: (108, 38) :: (108, 37) :: (108, 36) :: (108, 35) :: (108, 34) :: (108, 33) :: (108, 32) :: (108, 31) :: (108, 30) :: (108, 29) :: (108, 28) :: (108, 27) :: (108, 26) :: (108, 25) :: (108, 24) :: (108, 18) :: (108, 17) :: (108, 16) :: (108, 15) :: (108, 14) :: (108, 13) :: (108, 12) :: (108, 11) :: (108, 10) :: (108, 9) :: (108, 8) :: l) 258 3185 := by
    intro g
    refine hAt 80 _ _ _ _ _ _ (i_tells rfl ?_)
    refine hAt 80 393 [.ref 108, .int (nI 0)] [] ((Jt (Jw J 108 3 (-1)) 110), g, D, 367, (108, 58) :: (108, 57) :: (108, 56) :: (108, 55) :: (108, 54) :: (108, 53) :: (108, 52) :: (108, 51) :: (108, 50) :: (108, 42) :: (108, 41) :: (108, 40) :: (108, 39) :: (108, 38) :: (108, 37) :: (108, 36) :: (108, 35) :: (108, 34) :: (108, 33) :: (108, 32) :: (108, 31) :: (108, 30) :: (108, 29) :: (108, 28) :: (108, 27) :: (108, 26) :: (108, 25) :: (108, 24) :: (108, 18) :: (108, 17) :: (108, 16) :: (108, 15) :: (108, 14) :: (108, 13) :: (108, 12) :: (108, 11) :: (108, 10) :: (108, 9) :: (108, 8) :: l) 258 3185 ?_
    refine And.intro (fun q => absurd q (by decide)) (fun _ => ?_)
    refine And.intro (by rw [show (nI 0) = nI 0 from by decide]; exact aOK_f (by decide) (by decide) rfl rfl (show 0 < 11 by decide) (by decide)) ?_
    refine And.intro (by rw [show (nI 0) = nI 0 from by decide]; exact aOK_f (by decide) (by decide) rfl rfl (show 0 < 11 by decide) (by decide)) ?_
    rw [show Int32.toNatClampNeg (nI 0) = 0 from by decide]
    rw [show rI ((Jt (Jw J 108 3 (-1)) 110), g, D, 367, (108, 58) :: (108, 57) :: (108, 56) :: (108, 55) :: (108, 54) :: (108, 53) :: (108, 52) :: (108, 51) :: (108, 50) :: (108, 42) :: (108, 41) :: (108, 40) :: (108, 39) :: (108, 38) :: (108, 37) :: (108, 36) :: (108, 35) :: (108, 34) :: (108, 33) :: (108, 32) :: (108, 31) :: (108, 30) :: (108, 29) :: (108, 28) :: (108, 27) :: (108, 26) :: (108, 25) :: (108, 24) :: (108, 18) :: (108, 17) :: (108, 16) :: (108, 15) :: (108, 14) :: (108, 13) :: (108, 12) :: (108, 11) :: (108, 10) :: (108, 9) :: (108, 8) :: l) 110 0 = nI 6 from rfl]
    refine hAt 80 393 [.ref 108, .int ((nI 0) + nI 1)] [] ((Jw (Jt (Jw J 108 3 (-1)) 110) 111 0 (nI 6)), g, D, 367, (108, 58) :: (108, 57) :: (108, 56) :: (108, 55) :: (108, 54) :: (108, 53) :: (108, 52) :: (108, 51) :: (108, 50) :: (108, 42) :: (108, 41) :: (108, 40) :: (108, 39) :: (108, 38) :: (108, 37) :: (108, 36) :: (108, 35) :: (108, 34) :: (108, 33) :: (108, 32) :: (108, 31) :: (108, 30) :: (108, 29) :: (108, 28) :: (108, 27) :: (108, 26) :: (108, 25) :: (108, 24) :: (108, 18) :: (108, 17) :: (108, 16) :: (108, 15) :: (108, 14) :: (108, 13) :: (108, 12) :: (108, 11) :: (108, 10) :: (108, 9) :: (108, 8) :: l) 258 3185 ?_
    refine And.intro (fun q => absurd q (by decide)) (fun _ => ?_)
    refine And.intro (by rw [show ((nI 0) + nI 1) = nI 1 from by decide]; exact aOK_f (by decide) (by decide) rfl rfl (show 1 < 11 by decide) (by decide)) ?_
    refine And.intro (by rw [show ((nI 0) + nI 1) = nI 1 from by decide]; exact aOK_f (by decide) (by decide) rfl rfl (show 1 < 11 by decide) (by decide)) ?_
    rw [show Int32.toNatClampNeg ((nI 0) + nI 1) = 1 from by decide]
    rw [show rI ((Jw (Jt (Jw J 108 3 (-1)) 110) 111 0 (nI 6)), g, D, 367, (108, 58) :: (108, 57) :: (108, 56) :: (108, 55) :: (108, 54) :: (108, 53) :: (108, 52) :: (108, 51) :: (108, 50) :: (108, 42) :: (108, 41) :: (108, 40) :: (108, 39) :: (108, 38) :: (108, 37) :: (108, 36) :: (108, 35) :: (108, 34) :: (108, 33) :: (108, 32) :: (108, 31) :: (108, 30) :: (108, 29) :: (108, 28) :: (108, 27) :: (108, 26) :: (108, 25) :: (108, 24) :: (108, 18) :: (108, 17) :: (108, 16) :: (108, 15) :: (108, 14) :: (108, 13) :: (108, 12) :: (108, 11) :: (108, 10) :: (108, 9) :: (108, 8) :: l) 110 1 = nI 5 from rfl]
    refine hAt 80 393 [.ref 108, .int (((nI 0) + nI 1) + nI 1)] [] ((Jw (Jw (Jt (Jw J 108 3 (-1)) 110) 111 0 (nI 6)) 111 1 (nI 5)), g, D, 367, (108, 58) :: (108, 57) :: (108, 56) :: (108, 55) :: (108, 54) :: (108, 53) :: (108, 52) :: (108, 51) :: (108, 50) :: (108, 42) :: (108, 41) :: (108, 40) :: (108, 39) :: (108, 38) :: (108, 37) :: (108, 36) :: (108, 35) :: (108, 34) :: (108, 33) :: (108, 32) :: (108, 31) :: (108, 30) :: (108, 29) :: (108, 28) :: (108, 27) :: (108, 26) :: (108, 25) :: (108, 24) :: (108, 18) :: (108, 17) :: (108, 16) :: (108, 15) :: (108, 14) :: (108, 13) :: (108, 12) :: (108, 11) :: (108, 10) :: (108, 9) :: (108, 8) :: l) 258 3185 ?_
    refine And.intro (fun q => absurd q (by decide)) (fun _ => ?_)
    refine And.intro (by rw [show (((nI 0) + nI 1) + nI 1) = nI 2 from by decide]; exact aOK_f (by decide) (by decide) rfl rfl (show 2 < 11 by decide) (by decide)) ?_
    refine And.intro (by rw [show (((nI 0) + nI 1) + nI 1) = nI 2 from by decide]; exact aOK_f (by decide) (by decide) rfl rfl (show 2 < 11 by decide) (by decide)) ?_
    rw [show Int32.toNatClampNeg (((nI 0) + nI 1) + nI 1) = 2 from by decide]
    rw [show rI ((Jw (Jw (Jt (Jw J 108 3 (-1)) 110) 111 0 (nI 6)) 111 1 (nI 5)), g, D, 367, (108, 58) :: (108, 57) :: (108, 56) :: (108, 55) :: (108, 54) :: (108, 53) :: (108, 52) :: (108, 51) :: (108, 50) :: (108, 42) :: (108, 41) :: (108, 40) :: (108, 39) :: (108, 38) :: (108, 37) :: (108, 36) :: (108, 35) :: (108, 34) :: (108, 33) :: (108, 32) :: (108, 31) :: (108, 30) :: (108, 29) :: (108, 28) :: (108, 27) :: (108, 26) :: (108, 25) :: (108, 24) :: (108, 18) :: (108, 17) :: (108, 16) :: (108, 15) :: (108, 14) :: (108, 13) :: (108, 12) :: (108, 11) :: (108, 10) :: (108, 9) :: (108, 8) :: l) 110 2 = nI 0 from rfl]
    refine hAt 80 393 [.ref 108, .int ((((nI 0) + nI 1) + nI 1) + nI 1)] [] ((Jw (Jw (Jw (Jt (Jw J 108 3 (-1)) 110) 111 0 (nI 6)) 111 1 (nI 5)) 111 2 (nI 0)), g, D, 367, (108, 58) :: (108, 57) :: (108, 56) :: (108, 55) :: (108, 54) :: (108, 53) :: (108, 52) :: (108, 51) :: (108, 50) :: (108, 42) :: (108, 41) :: (108, 40) :: (108, 39) :: (108, 38) :: (108, 37) :: (108, 36) :: (108, 35) :: (108, 34) :: (108, 33) :: (108, 32) :: (108, 31) :: (108, 30) :: (108, 29) :: (108, 28) :: (108, 27) :: (108, 26) :: (108, 25) :: (108, 24) :: (108, 18) :: (108, 17) :: (108, 16) :: (108, 15) :: (108, 14) :: (108, 13) :: (108, 12) :: (108, 11) :: (108, 10) :: (108, 9) :: (108, 8) :: l) 258 3185 ?_
    refine And.intro (fun q => absurd q (by decide)) (fun _ => ?_)
    refine And.intro (by rw [show ((((nI 0) + nI 1) + nI 1) + nI 1) = nI 3 from by decide]; exact aOK_f (by decide) (by decide) rfl rfl (show 3 < 11 by decide) (by decide)) ?_
    refine And.intro (by rw [show ((((nI 0) + nI 1) + nI 1) + nI 1) = nI 3 from by decide]; exact aOK_f (by decide) (by decide) rfl rfl (show 3 < 11 by decide) (by decide)) ?_
    rw [show Int32.toNatClampNeg ((((nI 0) + nI 1) + nI 1) + nI 1) = 3 from by decide]
    rw [show rI ((Jw (Jw (Jw (Jt (Jw J 108 3 (-1)) 110) 111 0 (nI 6)) 111 1 (nI 5)) 111 2 (nI 0)), g, D, 367, (108, 58) :: (108, 57) :: (108, 56) :: (108, 55) :: (108, 54) :: (108, 53) :: (108, 52) :: (108, 51) :: (108, 50) :: (108, 42) :: (108, 41) :: (108, 40) :: (108, 39) :: (108, 38) :: (108, 37) :: (108, 36) :: (108, 35) :: (108, 34) :: (108, 33) :: (108, 32) :: (108, 31) :: (108, 30) :: (108, 29) :: (108, 28) :: (108, 27) :: (108, 26) :: (108, 25) :: (108, 24) :: (108, 18) :: (108, 17) :: (108, 16) :: (108, 15) :: (108, 14) :: (108, 13) :: (108, 12) :: (108, 11) :: (108, 10) :: (108, 9) :: (108, 8) :: l) 110 3 = nI 0 from rfl]
    refine hAt 80 393 [.ref 108, .int (((((nI 0) + nI 1) + nI 1) + nI 1) + nI 1)] [] ((Jw (Jw (Jw (Jw (Jt (Jw J 108 3 (-1)) 110) 111 0 (nI 6)) 111 1 (nI 5)) 111 2 (nI 0)) 111 3 (nI 0)), g, D, 367, (108, 58) :: (108, 57) :: (108, 56) :: (108, 55) :: (108, 54) :: (108, 53) :: (108, 52) :: (108, 51) :: (108, 50) :: (108, 42) :: (108, 41) :: (108, 40) :: (108, 39) :: (108, 38) :: (108, 37) :: (108, 36) :: (108, 35) :: (108, 34) :: (108, 33) :: (108, 32) :: (108, 31) :: (108, 30) :: (108, 29) :: (108, 28) :: (108, 27) :: (108, 26) :: (108, 25) :: (108, 24) :: (108, 18) :: (108, 17) :: (108, 16) :: (108, 15) :: (108, 14) :: (108, 13) :: (108, 12) :: (108, 11) :: (108, 10) :: (108, 9) :: (108, 8) :: l) 258 3185 ?_
    refine And.intro (fun q => absurd q (by decide)) (fun _ => ?_)
    refine And.intro (by rw [show (((((nI 0) + nI 1) + nI 1) + nI 1) + nI 1) = nI 4 from by decide]; exact aOK_f (by decide) (by decide) rfl rfl (show 4 < 11 by decide) (by decide)) ?_
    refine And.intro (by rw [show (((((nI 0) + nI 1) + nI 1) + nI 1) + nI 1) = nI 4 from by decide]; exact aOK_f (by decide) (by decide) rfl rfl (show 4 < 11 by decide) (by decide)) ?_
    rw [show Int32.toNatClampNeg (((((nI 0) + nI 1) + nI 1) + nI 1) + nI 1) = 4 from by decide]
    rw [show rI ((Jw (Jw (Jw (Jw (Jt (Jw J 108 3 (-1)) 110) 111 0 (nI 6)) 111 1 (nI 5)) 111 2 (nI 0)) 111 3 (nI 0)), g, D, 367, (108, 58) :: (108, 57) :: (108, 56) :: (108, 55) :: (108, 54) :: (108, 53) :: (108, 52) :: (108, 51) :: (108, 50) :: (108, 42) :: (108, 41) :: (108, 40) :: (108, 39) :: (108, 38) :: (108, 37) :: (108, 36) :: (108, 35) :: (108, 34) :: (108, 33) :: (108, 32) :: (108, 31) :: (108, 30) :: (108, 29) :: (108, 28) :: (108, 27) :: (108, 26) :: (108, 25) :: (108, 24) :: (108, 18) :: (108, 17) :: (108, 16) :: (108, 15) :: (108, 14) :: (108, 13) :: (108, 12) :: (108, 11) :: (108, 10) :: (108, 9) :: (108, 8) :: l) 110 4 = nI 0 from rfl]
    refine hAt 80 393 [.ref 108, .int ((((((nI 0) + nI 1) + nI 1) + nI 1) + nI 1) + nI 1)] [] ((Jw (Jw (Jw (Jw (Jw (Jt (Jw J 108 3 (-1)) 110) 111 0 (nI 6)) 111 1 (nI 5)) 111 2 (nI 0)) 111 3 (nI 0)) 111 4 (nI 0)), g, D, 367, (108, 58) :: (108, 57) :: (108, 56) :: (108, 55) :: (108, 54) :: (108, 53) :: (108, 52) :: (108, 51) :: (108, 50) :: (108, 42) :: (108, 41) :: (108, 40) :: (108, 39) :: (108, 38) :: (108, 37) :: (108, 36) :: (108, 35) :: (108, 34) :: (108, 33) :: (108, 32) :: (108, 31) :: (108, 30) :: (108, 29) :: (108, 28) :: (108, 27) :: (108, 26) :: (108, 25) :: (108, 24) :: (108, 18) :: (108, 17) :: (108, 16) :: (108, 15) :: (108, 14) :: (108, 13) :: (108, 12) :: (108, 11) :: (108, 10) :: (108, 9) :: (108, 8) :: l) 258 3185 ?_
    refine And.intro (fun q => absurd q (by decide)) (fun _ => ?_)
    refine And.intro (by rw [show ((((((nI 0) + nI 1) + nI 1) + nI 1) + nI 1) + nI 1) = nI 5 from by decide]; exact aOK_f (by decide) (by decide) rfl rfl (show 5 < 11 by decide) (by decide)) ?_
    refine And.intro (by rw [show ((((((nI 0) + nI 1) + nI 1) + nI 1) + nI 1) + nI 1) = nI 5 from by decide]; exact aOK_f (by decide) (by decide) rfl rfl (show 5 < 11 by decide) (by decide)) ?_
    rw [show Int32.toNatClampNeg ((((((nI 0) + nI 1) + nI 1) + nI 1) + nI 1) + nI 1) = 5 from by decide]
    rw [show rI ((Jw (Jw (Jw (Jw (Jw (Jt (Jw J 108 3 (-1)) 110) 111 0 (nI 6)) 111 1 (nI 5)) 111 2 (nI 0)) 111 3 (nI 0)) 111 4 (nI 0)), g, D, 367, (108, 58) :: (108, 57) :: (108, 56) :: (108, 55) :: (108, 54) :: (108, 53) :: (108, 52) :: (108, 51) :: (108, 50) :: (108, 42) :: (108, 41) :: (108, 40) :: (108, 39) :: (108, 38) :: (108, 37) :: (108, 36) :: (108, 35) :: (108, 34) :: (108, 33) :: (108, 32) :: (108, 31) :: (108, 30) :: (108, 29) :: (108, 28) :: (108, 27) :: (108, 26) :: (108, 25) :: (108, 24) :: (108, 18) :: (108, 17) :: (108, 16) :: (108, 15) :: (108, 14) :: (108, 13) :: (108, 12) :: (108, 11) :: (108, 10) :: (108, 9) :: (108, 8) :: l) 110 5 = nI 0 from rfl]
    refine hAt 80 393 [.ref 108, .int (((((((nI 0) + nI 1) + nI 1) + nI 1) + nI 1) + nI 1) + nI 1)] [] ((Jw (Jw (Jw (Jw (Jw (Jw (Jt (Jw J 108 3 (-1)) 110) 111 0 (nI 6)) 111 1 (nI 5)) 111 2 (nI 0)) 111 3 (nI 0)) 111 4 (nI 0)) 111 5 (nI 0)), g, D, 367, (108, 58) :: (108, 57) :: (108, 56) :: (108, 55) :: (108, 54) :: (108, 53) :: (108, 52) :: (108, 51) :: (108, 50) :: (108, 42) :: (108, 41) :: (108, 40) :: (108, 39) :: (108, 38) :: (108, 37) :: (108, 36) :: (108, 35) :: (108, 34) :: (108, 33) :: (108, 32) :: (108, 31) :: (108, 30) :: (108, 29) :: (108, 28) :: (108, 27) :: (108, 26) :: (108, 25) :: (108, 24) :: (108, 18) :: (108, 17) :: (108, 16) :: (108, 15) :: (108, 14) :: (108, 13) :: (108, 12) :: (108, 11) :: (108, 10) :: (108, 9) :: (108, 8) :: l) 258 3185 ?_
    refine And.intro (fun q => absurd q (by decide)) (fun _ => ?_)
    refine And.intro (by rw [show (((((((nI 0) + nI 1) + nI 1) + nI 1) + nI 1) + nI 1) + nI 1) = nI 6 from by decide]; exact aOK_f (by decide) (by decide) rfl rfl (show 6 < 11 by decide) (by decide)) ?_
    refine And.intro (by rw [show (((((((nI 0) + nI 1) + nI 1) + nI 1) + nI 1) + nI 1) + nI 1) = nI 6 from by decide]; exact aOK_f (by decide) (by decide) rfl rfl (show 6 < 11 by decide) (by decide)) ?_
    rw [show Int32.toNatClampNeg (((((((nI 0) + nI 1) + nI 1) + nI 1) + nI 1) + nI 1) + nI 1) = 6 from by decide]
    rw [show rI ((Jw (Jw (Jw (Jw (Jw (Jw (Jt (Jw J 108 3 (-1)) 110) 111 0 (nI 6)) 111 1 (nI 5)) 111 2 (nI 0)) 111 3 (nI 0)) 111 4 (nI 0)) 111 5 (nI 0)), g, D, 367, (108, 58) :: (108, 57) :: (108, 56) :: (108, 55) :: (108, 54) :: (108, 53) :: (108, 52) :: (108, 51) :: (108, 50) :: (108, 42) :: (108, 41) :: (108, 40) :: (108, 39) :: (108, 38) :: (108, 37) :: (108, 36) :: (108, 35) :: (108, 34) :: (108, 33) :: (108, 32) :: (108, 31) :: (108, 30) :: (108, 29) :: (108, 28) :: (108, 27) :: (108, 26) :: (108, 25) :: (108, 24) :: (108, 18) :: (108, 17) :: (108, 16) :: (108, 15) :: (108, 14) :: (108, 13) :: (108, 12) :: (108, 11) :: (108, 10) :: (108, 9) :: (108, 8) :: l) 110 6 = nI 20 from rfl]
    refine hAt 80 393 [.ref 108, .int ((((((((nI 0) + nI 1) + nI 1) + nI 1) + nI 1) + nI 1) + nI 1) + nI 1)] [] ((Jw (Jw (Jw (Jw (Jw (Jw (Jw (Jt (Jw J 108 3 (-1)) 110) 111 0 (nI 6)) 111 1 (nI 5)) 111 2 (nI 0)) 111 3 (nI 0)) 111 4 (nI 0)) 111 5 (nI 0)) 111 6 (nI 20)), g, D, 367, (108, 58) :: (108, 57) :: (108, 56) :: (108, 55) :: (108, 54) :: (108, 53) :: (108, 52) :: (108, 51) :: (108, 50) :: (108, 42) :: (108, 41) :: (108, 40) :: (108, 39) :: (108, 38) :: (108, 37) :: (108, 36) :: (108, 35) :: (108, 34) :: (108, 33) :: (108, 32) :: (108, 31) :: (108, 30) :: (108, 29) :: (108, 28) :: (108, 27) :: (108, 26) :: (108, 25) :: (108, 24) :: (108, 18) :: (108, 17) :: (108, 16) :: (108, 15) :: (108, 14) :: (108, 13) :: (108, 12) :: (108, 11) :: (108, 10) :: (108, 9) :: (108, 8) :: l) 258 3185 ?_
    refine And.intro (fun q => absurd q (by decide)) (fun _ => ?_)
    refine And.intro (by rw [show ((((((((nI 0) + nI 1) + nI 1) + nI 1) + nI 1) + nI 1) + nI 1) + nI 1) = nI 7 from by decide]; exact aOK_f (by decide) (by decide) rfl rfl (show 7 < 11 by decide) (by decide)) ?_
    refine And.intro (by rw [show ((((((((nI 0) + nI 1) + nI 1) + nI 1) + nI 1) + nI 1) + nI 1) + nI 1) = nI 7 from by decide]; exact aOK_f (by decide) (by decide) rfl rfl (show 7 < 11 by decide) (by decide)) ?_
    rw [show Int32.toNatClampNeg ((((((((nI 0) + nI 1) + nI 1) + nI 1) + nI 1) + nI 1) + nI 1) + nI 1) = 7 from by decide]
    rw [show rI ((Jw (Jw (Jw (Jw (Jw (Jw (Jw (Jt (Jw J 108 3 (-1)) 110) 111 0 (nI 6)) 111 1 (nI 5)) 111 2 (nI 0)) 111 3 (nI 0)) 111 4 (nI 0)) 111 5 (nI 0)) 111 6 (nI 20)), g, D, 367, (108, 58) :: (108, 57) :: (108, 56) :: (108, 55) :: (108, 54) :: (108, 53) :: (108, 52) :: (108, 51) :: (108, 50) :: (108, 42) :: (108, 41) :: (108, 40) :: (108, 39) :: (108, 38) :: (108, 37) :: (108, 36) :: (108, 35) :: (108, 34) :: (108, 33) :: (108, 32) :: (108, 31) :: (108, 30) :: (108, 29) :: (108, 28) :: (108, 27) :: (108, 26) :: (108, 25) :: (108, 24) :: (108, 18) :: (108, 17) :: (108, 16) :: (108, 15) :: (108, 14) :: (108, 13) :: (108, 12) :: (108, 11) :: (108, 10) :: (108, 9) :: (108, 8) :: l) 110 7 = nI 999 from rfl]
    refine hAt 80 393 [.ref 108, .int (((((((((nI 0) + nI 1) + nI 1) + nI 1) + nI 1) + nI 1) + nI 1) + nI 1) + nI 1)] [] ((Jw (Jw (Jw (Jw (Jw (Jw (Jw (Jw (Jt (Jw J 108 3 (-1)) 110) 111 0 (nI 6)) 111 1 (nI 5)) 111 2 (nI 0)) 111 3 (nI 0)) 111 4 (nI 0)) 111 5 (nI 0)) 111 6 (nI 20)) 111 7 (nI 999)), g, D, 367, (108, 58) :: (108, 57) :: (108, 56) :: (108, 55) :: (108, 54) :: (108, 53) :: (108, 52) :: (108, 51) :: (108, 50) :: (108, 42) :: (108, 41) :: (108, 40) :: (108, 39) :: (108, 38) :: (108, 37) :: (108, 36) :: (108, 35) :: (108, 34) :: (108, 33) :: (108, 32) :: (108, 31) :: (108, 30) :: (108, 29) :: (108, 28) :: (108, 27) :: (108, 26) :: (108, 25) :: (108, 24) :: (108, 18) :: (108, 17) :: (108, 16) :: (108, 15) :: (108, 14) :: (108, 13) :: (108, 12) :: (108, 11) :: (108, 10) :: (108, 9) :: (108, 8) :: l) 258 3185 ?_
    refine And.intro (fun q => absurd q (by decide)) (fun _ => ?_)
    refine And.intro (by rw [show (((((((((nI 0) + nI 1) + nI 1) + nI 1) + nI 1) + nI 1) + nI 1) + nI 1) + nI 1) = nI 8 from by decide]; exact aOK_f (by decide) (by decide) rfl rfl (show 8 < 11 by decide) (by decide)) ?_
    refine And.intro (by rw [show (((((((((nI 0) + nI 1) + nI 1) + nI 1) + nI 1) + nI 1) + nI 1) + nI 1) + nI 1) = nI 8 from by decide]; exact aOK_f (by decide) (by decide) rfl rfl (show 8 < 11 by decide) (by decide)) ?_
    rw [show Int32.toNatClampNeg (((((((((nI 0) + nI 1) + nI 1) + nI 1) + nI 1) + nI 1) + nI 1) + nI 1) + nI 1) = 8 from by decide]
    rw [show rI ((Jw (Jw (Jw (Jw (Jw (Jw (Jw (Jw (Jt (Jw J 108 3 (-1)) 110) 111 0 (nI 6)) 111 1 (nI 5)) 111 2 (nI 0)) 111 3 (nI 0)) 111 4 (nI 0)) 111 5 (nI 0)) 111 6 (nI 20)) 111 7 (nI 999)), g, D, 367, (108, 58) :: (108, 57) :: (108, 56) :: (108, 55) :: (108, 54) :: (108, 53) :: (108, 52) :: (108, 51) :: (108, 50) :: (108, 42) :: (108, 41) :: (108, 40) :: (108, 39) :: (108, 38) :: (108, 37) :: (108, 36) :: (108, 35) :: (108, 34) :: (108, 33) :: (108, 32) :: (108, 31) :: (108, 30) :: (108, 29) :: (108, 28) :: (108, 27) :: (108, 26) :: (108, 25) :: (108, 24) :: (108, 18) :: (108, 17) :: (108, 16) :: (108, 15) :: (108, 14) :: (108, 13) :: (108, 12) :: (108, 11) :: (108, 10) :: (108, 9) :: (108, 8) :: l) 110 8 = nI 50 from rfl]
    refine hAt 80 393 [.ref 108, .int ((((((((((nI 0) + nI 1) + nI 1) + nI 1) + nI 1) + nI 1) + nI 1) + nI 1) + nI 1) + nI 1)] [] ((Jw (Jw (Jw (Jw (Jw (Jw (Jw (Jw (Jw (Jt (Jw J 108 3 (-1)) 110) 111 0 (nI 6)) 111 1 (nI 5)) 111 2 (nI 0)) 111 3 (nI 0)) 111 4 (nI 0)) 111 5 (nI 0)) 111 6 (nI 20)) 111 7 (nI 999)) 111 8 (nI 50)), g, D, 367, (108, 58) :: (108, 57) :: (108, 56) :: (108, 55) :: (108, 54) :: (108, 53) :: (108, 52) :: (108, 51) :: (108, 50) :: (108, 42) :: (108, 41) :: (108, 40) :: (108, 39) :: (108, 38) :: (108, 37) :: (108, 36) :: (108, 35) :: (108, 34) :: (108, 33) :: (108, 32) :: (108, 31) :: (108, 30) :: (108, 29) :: (108, 28) :: (108, 27) :: (108, 26) :: (108, 25) :: (108, 24) :: (108, 18) :: (108, 17) :: (108, 16) :: (108, 15) :: (108, 14) :: (108, 13) :: (108, 12) :: (108, 11) :: (108, 10) :: (108, 9) :: (108, 8) :: l) 258 3185 ?_
    refine And.intro (fun q => absurd q (by decide)) (fun _ => ?_)
    refine And.intro (by rw [show ((((((((((nI 0) + nI 1) + nI 1) + nI 1) + nI 1) + nI 1) + nI 1) + nI 1) + nI 1) + nI 1) = nI 9 from by decide]; exact aOK_f (by decide) (by decide) rfl rfl (show 9 < 11 by decide) (by decide)) ?_
    refine And.intro (by rw [show ((((((((((nI 0) + nI 1) + nI 1) + nI 1) + nI 1) + nI 1) + nI 1) + nI 1) + nI 1) + nI 1) = nI 9 from by decide]; exact aOK_f (by decide) (by decide) rfl rfl (show 9 < 11 by decide) (by decide)) ?_
    rw [show Int32.toNatClampNeg ((((((((((nI 0) + nI 1) + nI 1) + nI 1) + nI 1) + nI 1) + nI 1) + nI 1) + nI 1) + nI 1) = 9 from by decide]
    rw [show rI ((Jw (Jw (Jw (Jw (Jw (Jw (Jw (Jw (Jw (Jt (Jw J 108 3 (-1)) 110) 111 0 (nI 6)) 111 1 (nI 5)) 111 2 (nI 0)) 111 3 (nI 0)) 111 4 (nI 0)) 111 5 (nI 0)) 111 6 (nI 20)) 111 7 (nI 999)) 111 8 (nI 50)), g, D, 367, (108, 58) :: (108, 57) :: (108, 56) :: (108, 55) :: (108, 54) :: (108, 53) :: (108, 52) :: (108, 51) :: (108, 50) :: (108, 42) :: (108, 41) :: (108, 40) :: (108, 39) :: (108, 38) :: (108, 37) :: (108, 36) :: (108, 35) :: (108, 34) :: (108, 33) :: (108, 32) :: (108, 31) :: (108, 30) :: (108, 29) :: (108, 28) :: (108, 27) :: (108, 26) :: (108, 25) :: (108, 24) :: (108, 18) :: (108, 17) :: (108, 16) :: (108, 15) :: (108, 14) :: (108, 13) :: (108, 12) :: (108, 11) :: (108, 10) :: (108, 9) :: (108, 8) :: l) 110 9 = nI 1 from rfl]
    refine hAt 80 393 [.ref 108, .int (((((((((((nI 0) + nI 1) + nI 1) + nI 1) + nI 1) + nI 1) + nI 1) + nI 1) + nI 1) + nI 1) + nI 1)] [] ((Jw (Jw (Jw (Jw (Jw (Jw (Jw (Jw (Jw (Jw (Jt (Jw J 108 3 (-1)) 110) 111 0 (nI 6)) 111 1 (nI 5)) 111 2 (nI 0)) 111 3 (nI 0)) 111 4 (nI 0)) 111 5 (nI 0)) 111 6 (nI 20)) 111 7 (nI 999)) 111 8 (nI 50)) 111 9 (nI 1)), g, D, 367, (108, 58) :: (108, 57) :: (108, 56) :: (108, 55) :: (108, 54) :: (108, 53) :: (108, 52) :: (108, 51) :: (108, 50) :: (108, 42) :: (108, 41) :: (108, 40) :: (108, 39) :: (108, 38) :: (108, 37) :: (108, 36) :: (108, 35) :: (108, 34) :: (108, 33) :: (108, 32) :: (108, 31) :: (108, 30) :: (108, 29) :: (108, 28) :: (108, 27) :: (108, 26) :: (108, 25) :: (108, 24) :: (108, 18) :: (108, 17) :: (108, 16) :: (108, 15) :: (108, 14) :: (108, 13) :: (108, 12) :: (108, 11) :: (108, 10) :: (108, 9) :: (108, 8) :: l) 258 3185 ?_
    refine And.intro (fun q => absurd q (by decide)) (fun _ => ?_)
    refine And.intro (by rw [show (((((((((((nI 0) + nI 1) + nI 1) + nI 1) + nI 1) + nI 1) + nI 1) + nI 1) + nI 1) + nI 1) + nI 1) = nI 10 from by decide]; exact aOK_f (by decide) (by decide) rfl rfl (show 10 < 11 by decide) (by decide)) ?_
    refine And.intro (by rw [show (((((((((((nI 0) + nI 1) + nI 1) + nI 1) + nI 1) + nI 1) + nI 1) + nI 1) + nI 1) + nI 1) + nI 1) = nI 10 from by decide]; exact aOK_f (by decide) (by decide) rfl rfl (show 10 < 11 by decide) (by decide)) ?_
    rw [show Int32.toNatClampNeg (((((((((((nI 0) + nI 1) + nI 1) + nI 1) + nI 1) + nI 1) + nI 1) + nI 1) + nI 1) + nI 1) + nI 1) = 10 from by decide]
    rw [show rI ((Jw (Jw (Jw (Jw (Jw (Jw (Jw (Jw (Jw (Jw (Jt (Jw J 108 3 (-1)) 110) 111 0 (nI 6)) 111 1 (nI 5)) 111 2 (nI 0)) 111 3 (nI 0)) 111 4 (nI 0)) 111 5 (nI 0)) 111 6 (nI 20)) 111 7 (nI 999)) 111 8 (nI 50)) 111 9 (nI 1)), g, D, 367, (108, 58) :: (108, 57) :: (108, 56) :: (108, 55) :: (108, 54) :: (108, 53) :: (108, 52) :: (108, 51) :: (108, 50) :: (108, 42) :: (108, 41) :: (108, 40) :: (108, 39) :: (108, 38) :: (108, 37) :: (108, 36) :: (108, 35) :: (108, 34) :: (108, 33) :: (108, 32) :: (108, 31) :: (108, 30) :: (108, 29) :: (108, 28) :: (108, 27) :: (108, 26) :: (108, 25) :: (108, 24) :: (108, 18) :: (108, 17) :: (108, 16) :: (108, 15) :: (108, 14) :: (108, 13) :: (108, 12) :: (108, 11) :: (108, 10) :: (108, 9) :: (108, 8) :: l) 110 10 = nI 0 from rfl]
    refine hAt 80 393 [.ref 108, .int ((((((((((((nI 0) + nI 1) + nI 1) + nI 1) + nI 1) + nI 1) + nI 1) + nI 1) + nI 1) + nI 1) + nI 1) + nI 1)] [] ((Jw (Jw (Jw (Jw (Jw (Jw (Jw (Jw (Jw (Jw (Jw (Jt (Jw J 108 3 (-1)) 110) 111 0 (nI 6)) 111 1 (nI 5)) 111 2 (nI 0)) 111 3 (nI 0)) 111 4 (nI 0)) 111 5 (nI 0)) 111 6 (nI 20)) 111 7 (nI 999)) 111 8 (nI 50)) 111 9 (nI 1)) 111 10 (nI 0)), g, D, 367, (108, 58) :: (108, 57) :: (108, 56) :: (108, 55) :: (108, 54) :: (108, 53) :: (108, 52) :: (108, 51) :: (108, 50) :: (108, 42) :: (108, 41) :: (108, 40) :: (108, 39) :: (108, 38) :: (108, 37) :: (108, 36) :: (108, 35) :: (108, 34) :: (108, 33) :: (108, 32) :: (108, 31) :: (108, 30) :: (108, 29) :: (108, 28) :: (108, 27) :: (108, 26) :: (108, 25) :: (108, 24) :: (108, 18) :: (108, 17) :: (108, 16) :: (108, 15) :: (108, 14) :: (108, 13) :: (108, 12) :: (108, 11) :: (108, 10) :: (108, 9) :: (108, 8) :: l) 258 3185 ?_
    exact And.intro (fun _ => hP _) (fun q => absurd (by decide) q)
  have h38 : ∀ g, At 379 [.ref 108, junk] [] ((Jw J 108 3 (-1)), g, D, 366, (108, 57) :: (108, 56) :: (108, 55) :: (108, 54) :: (108, 53) :: (108, 52) :: (108, 51) :: (108, 50) :: (108, 42) :: (108, 41) :: (108, 40) :: (108, 39) :: (108, 38) :: (108, 37) :: (108, 36) :: (108, 35) :: (108, 34) :: (108, 33) :: (108, 32) :: (108, 31) :: (108, 30) :: (108, 29) :: (108, 28) :: (108, 27) :: (108, 26) :: (108, 25) :: (108, 24) :: (108, 18) :: (108, 17) :: (108, 16) :: (108, 15) :: (108, 14) :: (108, 13) :: (108, 12) :: (108, 11) :: (108, 10) :: (108, 9) :: (108, 8) :: l) 257 3176 := by
    intro g
    refine hAt 4 _ _ _ _ _ _ ?_
    refine And.intro (by decide) (And.intro (show Int32.toNatClampNeg (nI 9) = 9 by decide) (And.intro (show 257 + 1 ≤ 258 by decide) (And.intro (show 3176 + 9 ≤ 3185 by decide) ?_)))
    rw [nS_z (hz 366 (by decide))]
    exact h39 _
  have h37 : ∀ g, At 367 [.ref 108, junk] [] ((Jw J 108 3 (-1)), g, D, 359, (108, 56) :: (108, 55) :: (108, 54) :: (108, 53) :: (108, 52) :: (108, 51) :: (108, 50) :: (108, 42) :: (108, 41) :: (108, 40) :: (108, 39) :: (108, 38) :: (108, 37) :: (108, 36) :: (108, 35) :: (108, 34) :: (108, 33) :: (108, 32) :: (108, 31) :: (108, 30) :: (108, 29) :: (108, 28) :: (108, 27) :: (108, 26) :: (108, 25) :: (108, 24) :: (108, 18) :: (108, 17) :: (108, 16) :: (108, 15) :: (108, 14) :: (108, 13) :: (108, 12) :: (108, 11) :: (108, 10) :: (108, 9) :: (108, 8) :: l) 250 3116 := by
    intro g
    refine hAt 5 _ _ _ _ _ _ ?_
    refine And.intro (by decide) (And.intro (by decide) (And.intro (show Int32.toNatClampNeg (nI 6) = 6 by decide) (And.intro (show 359 + 6 < ow_n0 by decide) (And.intro rfl (And.intro (show rowsB 359 _ (Int32.toNatClampNeg (nI 9)) 6 = true by decide) (And.intro (by decide) (And.intro (show 250 + (1 + 6) ≤ 258 by decide) (And.intro (show 3116 + (6 + 6 * Int32.toNatClampNeg (nI 9)) ≤ 3185 by decide) ?_))))))))
    rw [nS_z (hz 359 (by decide))]
    exact h38 _
  have h36 : ∀ g, At 359 [.ref 108, junk] [] ((Jw J 108 3 (-1)), g, D, 358, (108, 55) :: (108, 54) :: (108, 53) :: (108, 52) :: (108, 51) :: (108, 50) :: (108, 42) :: (108, 41) :: (108, 40) :: (108, 39) :: (108, 38) :: (108, 37) :: (108, 36) :: (108, 35) :: (108, 34) :: (108, 33) :: (108, 32) :: (108, 31) :: (108, 30) :: (108, 29) :: (108, 28) :: (108, 27) :: (108, 26) :: (108, 25) :: (108, 24) :: (108, 18) :: (108, 17) :: (108, 16) :: (108, 15) :: (108, 14) :: (108, 13) :: (108, 12) :: (108, 11) :: (108, 10) :: (108, 9) :: (108, 8) :: l) 249 3108 := by
    intro g
    refine hAt 4 _ _ _ _ _ _ ?_
    refine And.intro (by decide) (And.intro (show Int32.toNatClampNeg (nI 8) = 8 by decide) (And.intro (show 249 + 1 ≤ 258 by decide) (And.intro (show 3108 + 8 ≤ 3185 by decide) ?_)))
    rw [nS_z (hz 358 (by decide))]
    exact h37 _
  have h35 : ∀ g, At 351 [.ref 108, junk] [] ((Jw J 108 3 (-1)), g, D, 357, (108, 54) :: (108, 53) :: (108, 52) :: (108, 51) :: (108, 50) :: (108, 42) :: (108, 41) :: (108, 40) :: (108, 39) :: (108, 38) :: (108, 37) :: (108, 36) :: (108, 35) :: (108, 34) :: (108, 33) :: (108, 32) :: (108, 31) :: (108, 30) :: (108, 29) :: (108, 28) :: (108, 27) :: (108, 26) :: (108, 25) :: (108, 24) :: (108, 18) :: (108, 17) :: (108, 16) :: (108, 15) :: (108, 14) :: (108, 13) :: (108, 12) :: (108, 11) :: (108, 10) :: (108, 9) :: (108, 8) :: l) 248 3096 := by
    intro g
    refine hAt 4 _ _ _ _ _ _ ?_
    refine And.intro (by decide) (And.intro (show Int32.toNatClampNeg (nI 12) = 12 by decide) (And.intro (show 248 + 1 ≤ 258 by decide) (And.intro (show 3096 + 12 ≤ 3185 by decide) ?_)))
    rw [nS_z (hz 357 (by decide))]
    exact h36 _
  have h34 : ∀ g, At 343 [.ref 108, junk] [] ((Jw J 108 3 (-1)), g, D, 356, (108, 53) :: (108, 52) :: (108, 51) :: (108, 50) :: (108, 42) :: (108, 41) :: (108, 40) :: (108, 39) :: (108, 38) :: (108, 37) :: (108, 36) :: (108, 35) :: (108, 34) :: (108, 33) :: (108, 32) :: (108, 31) :: (108, 30) :: (108, 29) :: (108, 28) :: (108, 27) :: (108, 26) :: (108, 25) :: (108, 24) :: (108, 18) :: (108, 17) :: (108, 16) :: (108, 15) :: (108, 14) :: (108, 13) :: (108, 12) :: (108, 11) :: (108, 10) :: (108, 9) :: (108, 8) :: l) 247 3088 := by
    intro g
    refine hAt 4 _ _ _ _ _ _ ?_
    refine And.intro (by decide) (And.intro (show Int32.toNatClampNeg (nI 8) = 8 by decide) (And.intro (show 247 + 1 ≤ 258 by decide) (And.intro (show 3088 + 8 ≤ 3185 by decide) ?_)))
    rw [nS_z (hz 356 (by decide))]
    exact h35 _
  have h33 : ∀ g, At 331 [.ref 108, junk] [] ((Jw J 108 3 (-1)), g, D, 347, (108, 52) :: (108, 51) :: (108, 50) :: (108, 42) :: (108, 41) :: (108, 40) :: (108, 39) :: (108, 38) :: (108, 37) :: (108, 36) :: (108, 35) :: (108, 34) :: (108, 33) :: (108, 32) :: (108, 31) :: (108, 30) :: (108, 29) :: (108, 28) :: (108, 27) :: (108, 26) :: (108, 25) :: (108, 24) :: (108, 18) :: (108, 17) :: (108, 16) :: (108, 15) :: (108, 14) :: (108, 13) :: (108, 12) :: (108, 11) :: (108, 10) :: (108, 9) :: (108, 8) :: l) 238 2984 := by
    intro g
    refine hAt 5 _ _ _ _ _ _ ?_
    refine And.intro (by decide) (And.intro (by decide) (And.intro (show Int32.toNatClampNeg (nI 8) = 8 by decide) (And.intro (show 347 + 8 < ow_n0 by decide) (And.intro rfl (And.intro (show rowsB 347 _ (Int32.toNatClampNeg (nI 12)) 8 = true by decide) (And.intro (by decide) (And.intro (show 238 + (1 + 8) ≤ 258 by decide) (And.intro (show 2984 + (8 + 8 * Int32.toNatClampNeg (nI 12)) ≤ 3185 by decide) ?_))))))))
    rw [nS_z (hz 347 (by decide))]
    exact h34 _
  have h32 : ∀ g, At 319 [.ref 108, junk] [] ((Jw J 108 3 (-1)), g, D, 338, (108, 51) :: (108, 50) :: (108, 42) :: (108, 41) :: (108, 40) :: (108, 39) :: (108, 38) :: (108, 37) :: (108, 36) :: (108, 35) :: (108, 34) :: (108, 33) :: (108, 32) :: (108, 31) :: (108, 30) :: (108, 29) :: (108, 28) :: (108, 27) :: (108, 26) :: (108, 25) :: (108, 24) :: (108, 18) :: (108, 17) :: (108, 16) :: (108, 15) :: (108, 14) :: (108, 13) :: (108, 12) :: (108, 11) :: (108, 10) :: (108, 9) :: (108, 8) :: l) 229 2880 := by
    intro g
    refine hAt 5 _ _ _ _ _ _ ?_
    refine And.intro (by decide) (And.intro (by decide) (And.intro (show Int32.toNatClampNeg (nI 8) = 8 by decide) (And.intro (show 338 + 8 < ow_n0 by decide) (And.intro rfl (And.intro (show rowsB 338 _ (Int32.toNatClampNeg (nI 12)) 8 = true by decide) (And.intro (by decide) (And.intro (show 229 + (1 + 8) ≤ 258 by decide) (And.intro (show 2880 + (8 + 8 * Int32.toNatClampNeg (nI 12)) ≤ 3185 by decide) ?_))))))))
    rw [nS_z (hz 338 (by decide))]
    exact h33 _
  have h31 : ∀ g, At 311 [.ref 108, junk] [] ((Jw J 108 3 (-1)), g, D, 337, (108, 50) :: (108, 42) :: (108, 41) :: (108, 40) :: (108, 39) :: (108, 38) :: (108, 37) :: (108, 36) :: (108, 35) :: (108, 34) :: (108, 33) :: (108, 32) :: (108, 31) :: (108, 30) :: (108, 29) :: (108, 28) :: (108, 27) :: (108, 26) :: (108, 25) :: (108, 24) :: (108, 18) :: (108, 17) :: (108, 16) :: (108, 15) :: (108, 14) :: (108, 13) :: (108, 12) :: (108, 11) :: (108, 10) :: (108, 9) :: (108, 8) :: l) 228 2830 := by
    intro g
    refine hAt 4 _ _ _ _ _ _ ?_
    refine And.intro (by decide) (And.intro (show Int32.toNatClampNeg (nI 50) = 50 by decide) (And.intro (show 228 + 1 ≤ 258 by decide) (And.intro (show 2830 + 50 ≤ 3185 by decide) ?_)))
    rw [nS_z (hz 337 (by decide))]
    exact h32 _
  have h30 : ∀ g, At 303 [.ref 108, junk] [] ((Jw J 108 3 (-1)), g, D, 336, (108, 42) :: (108, 41) :: (108, 40) :: (108, 39) :: (108, 38) :: (108, 37) :: (108, 36) :: (108, 35) :: (108, 34) :: (108, 33) :: (108, 32) :: (108, 31) :: (108, 30) :: (108, 29) :: (108, 28) :: (108, 27) :: (108, 26) :: (108, 25) :: (108, 24) :: (108, 18) :: (108, 17) :: (108, 16) :: (108, 15) :: (108, 14) :: (108, 13) :: (108, 12) :: (108, 11) :: (108, 10) :: (108, 9) :: (108, 8) :: l) 227 2780 := by
    intro g
    refine hAt 4 _ _ _ _ _ _ ?_
    refine And.intro (by decide) (And.intro (show Int32.toNatClampNeg (nI 50) = 50 by decide) (And.intro (show 227 + 1 ≤ 258 by decide) (And.intro (show 2780 + 50 ≤ 3185 by decide) ?_)))
    rw [nS_z (hz 336 (by decide))]
    exact h31 _
  have h29 : ∀ g, At 295 [.ref 108, junk] [] ((Jw J 108 3 (-1)), g, D, 335, (108, 41) :: (108, 40) :: (108, 39) :: (108, 38) :: (108, 37) :: (108, 36) :: (108, 35) :: (108, 34) :: (108, 33) :: (108, 32) :: (108, 31) :: (108, 30) :: (108, 29) :: (108, 28) :: (108, 27) :: (108, 26) :: (108, 25) :: (108, 24) :: (108, 18) :: (108, 17) :: (108, 16) :: (108, 15) :: (108, 14) :: (108, 13) :: (108, 12) :: (108, 11) :: (108, 10) :: (108, 9) :: (108, 8) :: l) 226 2772 := by
    intro g
    refine hAt 4 _ _ _ _ _ _ ?_
    refine And.intro (by decide) (And.intro (show Int32.toNatClampNeg (nI 8) = 8 by decide) (And.intro (show 226 + 1 ≤ 258 by decide) (And.intro (show 2772 + 8 ≤ 3185 by decide) ?_)))
    rw [nS_z (hz 335 (by decide))]
    exact h30 _
  have h28 : ∀ g, At 287 [.ref 108, junk] [] ((Jw J 108 3 (-1)), g, D, 334, (108, 40) :: (108, 39) :: (108, 38) :: (108, 37) :: (108, 36) :: (108, 35) :: (108, 34) :: (108, 33) :: (108, 32) :: (108, 31) :: (108, 30) :: (108, 29) :: (108, 28) :: (108, 27) :: (108, 26) :: (108, 25) :: (108, 24) :: (108, 18) :: (108, 17) :: (108, 16) :: (108, 15) :: (108, 14) :: (108, 13) :: (108, 12) :: (108, 11) :: (108, 10) :: (108, 9) :: (108, 8) :: l) 225 2764 := by
    intro g
    refine hAt 4 _ _ _ _ _ _ ?_
    refine And.intro (by decide) (And.intro (show Int32.toNatClampNeg (nI 8) = 8 by decide) (And.intro (show 225 + 1 ≤ 258 by decide) (And.intro (show 2764 + 8 ≤ 3185 by decide) ?_)))
    rw [nS_z (hz 334 (by decide))]
    exact h29 _
  have h27 : ∀ g, At 279 [.ref 108, junk] [] ((Jw J 108 3 (-1)), g, D, 333, (108, 39) :: (108, 38) :: (108, 37) :: (108, 36) :: (108, 35) :: (108, 34) :: (108, 33) :: (108, 32) :: (108, 31) :: (108, 30) :: (108, 29) :: (108, 28) :: (108, 27) :: (108, 26) :: (108, 25) :: (108, 24) :: (108, 18) :: (108, 17) :: (108, 16) :: (108, 15) :: (108, 14) :: (108, 13) :: (108, 12) :: (108, 11) :: (108, 10) :: (108, 9) :: (108, 8) :: l) 224 2752 := by
    intro g
    refine hAt 4 _ _ _ _ _ _ ?_
    refine And.intro (by decide) (And.intro (show Int32.toNatClampNeg (nI 12) = 12 by decide) (And.intro (show 224 + 1 ≤ 258 by decide) (And.intro (show 2752 + 12 ≤ 3185 by decide) ?_)))
    rw [nS_z (hz 333 (by decide))]
    exact h28 _
  have h26 : ∀ g, At 271 [.ref 108, junk] [] ((Jw J 108 3 (-1)), g, D, 332, (108, 38) :: (108, 37) :: (108, 36) :: (108, 35) :: (108, 34) :: (108, 33) :: (108, 32) :: (108, 31) :: (108, 30) :: (108, 29) :: (108, 28) :: (108, 27) :: (108, 26) :: (108, 25) :: (108, 24) :: (108, 18) :: (108, 17) :: (108, 16) :: (108, 15) :: (108, 14) :: (108, 13) :: (108, 12) :: (108, 11) :: (108, 10) :: (108, 9) :: (108, 8) :: l) 223 2740 := by
    intro g
    refine hAt 4 _ _ _ _ _ _ ?_
    refine And.intro (by decide) (And.intro (show Int32.toNatClampNeg (nI 12) = 12 by decide) (And.intro (show 223 + 1 ≤ 258 by decide) (And.intro (show 2740 + 12 ≤ 3185 by decide) ?_)))
    rw [nS_z (hz 332 (by decide))]
    exact h27 _
  have h25 : ∀ g, At 263 [.ref 108, junk] [] ((Jw J 108 3 (-1)), g, D, 331, (108, 37) :: (108, 36) :: (108, 35) :: (108, 34) :: (108, 33) :: (108, 32) :: (108, 31) :: (108, 30) :: (108, 29) :: (108, 28) :: (108, 27) :: (108, 26) :: (108, 25) :: (108, 24) :: (108, 18) :: (108, 17) :: (108, 16) :: (108, 15) :: (108, 14) :: (108, 13) :: (108, 12) :: (108, 11) :: (108, 10) :: (108, 9) :: (108, 8) :: l) 222 2728 := by
    intro g
    refine hAt 4 _ _ _ _ _ _ ?_
    refine And.intro (by decide) (And.intro (show Int32.toNatClampNeg (nI 12) = 12 by decide) (And.intro (show 222 + 1 ≤ 258 by decide) (And.intro (show 2728 + 12 ≤ 3185 by decide) ?_)))
    rw [nS_z (hz 331 (by decide))]
    exact h26 _
  have h24 : ∀ g, At 252 [.ref 108, junk] [] ((Jw J 108 3 (-1)), g, D, 322, (108, 36) :: (108, 35) :: (108, 34) :: (108, 33) :: (108, 32) :: (108, 31) :: (108, 30) :: (108, 29) :: (108, 28) :: (108, 27) :: (108, 26) :: (108, 25) :: (108, 24) :: (108, 18) :: (108, 17) :: (108, 16) :: (108, 15) :: (108, 14) :: (108, 13) :: (108, 12) :: (108, 11) :: (108, 10) :: (108, 9) :: (108, 8) :: l) 213 2696 := by
    intro g
    refine hAt 5 _ _ _ _ _ _ ?_
    refine And.intro (by decide) (And.intro (by decide) (And.intro (show Int32.toNatClampNeg (nI 8) = 8 by decide) (And.intro (show 322 + 8 < ow_n0 by decide) (And.intro rfl (And.intro (show rowsB 322 _ (Int32.toNatClampNeg (nI 3)) 8 = true by decide) (And.intro (by decide) (And.intro (show 213 + (1 + 8) ≤ 258 by decide) (And.intro (show 2696 + (8 + 8 * Int32.toNatClampNeg (nI 3)) ≤ 3185 by decide) ?_))))))))
    rw [nS_z (hz 322 (by decide))]
    exact h25 _
  have h23 : ∀ g, At 241 [.ref 108, junk] [] ((Jw J 108 3 (-1)), g, D, 318, (108, 35) :: (108, 34) :: (108, 33) :: (108, 32) :: (108, 31) :: (108, 30) :: (108, 29) :: (108, 28) :: (108, 27) :: (108, 26) :: (108, 25) :: (108, 24) :: (108, 18) :: (108, 17) :: (108, 16) :: (108, 15) :: (108, 14) :: (108, 13) :: (108, 12) :: (108, 11) :: (108, 10) :: (108, 9) :: (108, 8) :: l) 209 2669 := by
    intro g
    refine hAt 5 _ _ _ _ _ _ ?_
    refine And.intro (by decide) (And.intro (by decide) (And.intro (show Int32.toNatClampNeg (nI 3) = 3 by decide) (And.intro (show 318 + 3 < ow_n0 by decide) (And.intro rfl (And.intro (show rowsB 318 _ (Int32.toNatClampNeg (nI 8)) 3 = true by decide) (And.intro (by decide) (And.intro (show 209 + (1 + 3) ≤ 258 by decide) (And.intro (show 2669 + (3 + 3 * Int32.toNatClampNeg (nI 8)) ≤ 3185 by decide) ?_))))))))
    rw [nS_z (hz 318 (by decide))]
    exact h24 _
  have h22 : ∀ g, At 229 [.ref 108, junk] [] ((Jw J 108 3 (-1)), g, D, 253, (108, 34) :: (108, 33) :: (108, 32) :: (108, 31) :: (108, 30) :: (108, 29) :: (108, 28) :: (108, 27) :: (108, 26) :: (108, 25) :: (108, 24) :: (108, 18) :: (108, 17) :: (108, 16) :: (108, 15) :: (108, 14) :: (108, 13) :: (108, 12) :: (108, 11) :: (108, 10) :: (108, 9) :: (108, 8) :: l) 144 2093 := by
    intro g
    refine hAt 5 _ _ _ _ _ _ ?_
    refine And.intro (by decide) (And.intro (by decide) (And.intro (show Int32.toNatClampNeg (nI 64) = 64 by decide) (And.intro (show 253 + 64 < ow_n0 by decide) (And.intro rfl (And.intro (show rowsB 253 _ (Int32.toNatClampNeg (nI 8)) 64 = true by decide) (And.intro (by decide) (And.intro (show 144 + (1 + 64) ≤ 258 by decide) (And.intro (show 2093 + (64 + 64 * Int32.toNatClampNeg (nI 8)) ≤ 3185 by decide) ?_))))))))
    rw [nS_z (hz 253 (by decide))]
    exact h23 _
  have h21 : ∀ g, At 217 [.ref 108, junk] [] ((Jw J 108 3 (-1)), g, D, 244, (108, 33) :: (108, 32) :: (108, 31) :: (108, 30) :: (108, 29) :: (108, 28) :: (108, 27) :: (108, 26) :: (108, 25) :: (108, 24) :: (108, 18) :: (108, 17) :: (108, 16) :: (108, 15) :: (108, 14) :: (108, 13) :: (108, 12) :: (108, 11) :: (108, 10) :: (108, 9) :: (108, 8) :: l) 135 2021 := by
    intro g
    refine hAt 5 _ _ _ _ _ _ ?_
    refine And.intro (by decide) (And.intro (by decide) (And.intro (show Int32.toNatClampNeg (nI 8) = 8 by decide) (And.intro (show 244 + 8 < ow_n0 by decide) (And.intro rfl (And.intro (show rowsB 244 _ (Int32.toNatClampNeg (nI 8)) 8 = true by decide) (And.intro (by decide) (And.intro (show 135 + (1 + 8) ≤ 258 by decide) (And.intro (show 2021 + (8 + 8 * Int32.toNatClampNeg (nI 8)) ≤ 3185 by decide) ?_))))))))
    rw [nS_z (hz 244 (by decide))]
    exact h22 _
  have h20 : ∀ g, At 209 [.ref 108, junk] [] ((Jw J 108 3 (-1)), g, D, 243, (108, 32) :: (108, 31) :: (108, 30) :: (108, 29) :: (108, 28) :: (108, 27) :: (108, 26) :: (108, 25) :: (108, 24) :: (108, 18) :: (108, 17) :: (108, 16) :: (108, 15) :: (108, 14) :: (108, 13) :: (108, 12) :: (108, 11) :: (108, 10) :: (108, 9) :: (108, 8) :: l) 134 2013 := by
    intro g
    refine hAt 4 _ _ _ _ _ _ ?_
    refine And.intro (by decide) (And.intro (show Int32.toNatClampNeg (nI 8) = 8 by decide) (And.intro (show 134 + 1 ≤ 258 by decide) (And.intro (show 2013 + 8 ≤ 3185 by decide) ?_)))
    rw [nS_z (hz 243 (by decide))]
    exact h21 _
  have h19 : ∀ g, At 201 [.ref 108, junk] [] ((Jw J 108 3 (-1)), g, D, 242, (108, 31) :: (108, 30) :: (108, 29) :: (108, 28) :: (108, 27) :: (108, 26) :: (108, 25) :: (108, 24) :: (108, 18) :: (108, 17) :: (108, 16) :: (108, 15) :: (108, 14) :: (108, 13) :: (108, 12) :: (108, 11) :: (108, 10) :: (108, 9) :: (108, 8) :: l) 133 2005 := by
    intro g
    refine hAt 4 _ _ _ _ _ _ ?_
    refine And.intro (by decide) (And.intro (show Int32.toNatClampNeg (nI 8) = 8 by decide) (And.intro (show 133 + 1 ≤ 258 by decide) (And.intro (show 2005 + 8 ≤ 3185 by decide) ?_)))
    rw [nS_z (hz 242 (by decide))]
    exact h20 _
  have h18 : ∀ g, At 193 [.ref 108, junk] [] ((Jw J 108 3 (-1)), g, D, 241, (108, 30) :: (108, 29) :: (108, 28) :: (108, 27) :: (108, 26) :: (108, 25) :: (108, 24) :: (108, 18) :: (108, 17) :: (108, 16) :: (108, 15) :: (108, 14) :: (108, 13) :: (108, 12) :: (108, 11) :: (108, 10) :: (108, 9) :: (108, 8) :: l) 132 1997 := by
    intro g
    refine hAt 4 _ _ _ _ _ _ ?_
    refine And.intro (by decide) (And.intro (show Int32.toNatClampNeg (nI 8) = 8 by decide) (And.intro (show 132 + 1 ≤ 258 by decide) (And.intro (show 1997 + 8 ≤ 3185 by decide) ?_)))
    rw [nS_z (hz 241 (by decide))]
    exact h19 _
  have h17 : ∀ g, At 185 [.ref 108, junk] [] ((Jw J 108 3 (-1)), g, D, 240, (108, 29) :: (108, 28) :: (108, 27) :: (108, 26) :: (108, 25) :: (108, 24) :: (108, 18) :: (108, 17) :: (108, 16) :: (108, 15) :: (108, 14) :: (108, 13) :: (108, 12) :: (108, 11) :: (108, 10) :: (108, 9) :: (108, 8) :: l) 131 1989 := by
    intro g
    refine hAt 4 _ _ _ _ _ _ ?_
    refine And.intro (by decide) (And.intro (show Int32.toNatClampNeg (nI 8) = 8 by decide) (And.intro (show 131 + 1 ≤ 258 by decide) (And.intro (show 1989 + 8 ≤ 3185 by decide) ?_)))
    rw [nS_z (hz 240 (by decide))]
    exact h18 _
  have h16 : ∀ g, At 177 [.ref 108, junk] [] ((Jw J 108 3 (-1)), g, D, 239, (108, 28) :: (108, 27) :: (108, 26) :: (108, 25) :: (108, 24) :: (108, 18) :: (108, 17) :: (108, 16) :: (108, 15) :: (108, 14) :: (108, 13) :: (108, 12) :: (108, 11) :: (108, 10) :: (108, 9) :: (108, 8) :: l) 130 1981 := by
    intro g
    refine hAt 4 _ _ _ _ _ _ ?_
    refine And.intro (by decide) (And.intro (show Int32.toNatClampNeg (nI 8) = 8 by decide) (And.intro (show 130 + 1 ≤ 258 by decide) (And.intro (show 1981 + 8 ≤ 3185 by decide) ?_)))
    rw [nS_z (hz 239 (by decide))]
    exact h17 _
  have h15 : ∀ g, At 169 [.ref 108, junk] [] ((Jw J 108 3 (-1)), g, D, 238, (108, 27) :: (108, 26) :: (108, 25) :: (108, 24) :: (108, 18) :: (108, 17) :: (108, 16) :: (108, 15) :: (108, 14) :: (108, 13) :: (108, 12) :: (108, 11) :: (108, 10) :: (108, 9) :: (108, 8) :: l) 129 1973 := by
    intro g
    refine hAt 4 _ _ _ _ _ _ ?_
    refine And.intro (by decide) (And.intro (show Int32.toNatClampNeg (nI 8) = 8 by decide) (And.intro (show 129 + 1 ≤ 258 by decide) (And.intro (show 1973 + 8 ≤ 3185 by decide) ?_)))
    rw [nS_z (hz 238 (by decide))]
    exact h16 _
  have h14 : ∀ g, At 157 [.ref 108, junk] [] ((Jw J 108 3 (-1)), g, D, 234, (108, 26) :: (108, 25) :: (108, 24) :: (108, 18) :: (108, 17) :: (108, 16) :: (108, 15) :: (108, 14) :: (108, 13) :: (108, 12) :: (108, 11) :: (108, 10) :: (108, 9) :: (108, 8) :: l) 125 1250 := by
    intro g
    refine hAt 5 _ _ _ _ _ _ ?_
    refine And.intro (by decide) (And.intro (by decide) (And.intro (show Int32.toNatClampNeg (nI 3) = 3 by decide) (And.intro (show 234 + 3 < ow_n0 by decide) (And.intro rfl (And.intro (show rowsB 234 _ (Int32.toNatClampNeg (nI 240)) 3 = true by decide) (And.intro (by decide) (And.intro (show 125 + (1 + 3) ≤ 258 by decide) (And.intro (show 1250 + (3 + 3 * Int32.toNatClampNeg (nI 240)) ≤ 3185 by decide) ?_))))))))
    rw [nS_z (hz 234 (by decide))]
    exact h15 _
  have h13 : ∀ g, At 146 [.ref 108, junk] [] ((Jw J 108 3 (-1)), g, D, 224, (108, 25) :: (108, 24) :: (108, 18) :: (108, 17) :: (108, 16) :: (108, 15) :: (108, 14) :: (108, 13) :: (108, 12) :: (108, 11) :: (108, 10) :: (108, 9) :: (108, 8) :: l) 115 1214 := by
    intro g
    refine hAt 5 _ _ _ _ _ _ ?_
    refine And.intro (by decide) (And.intro (by decide) (And.intro (show Int32.toNatClampNeg (nI 9) = 9 by decide) (And.intro (show 224 + 9 < ow_n0 by decide) (And.intro rfl (And.intro (show rowsB 224 _ (Int32.toNatClampNeg (nI 3)) 9 = true by decide) (And.intro (by decide) (And.intro (show 115 + (1 + 9) ≤ 258 by decide) (And.intro (show 1214 + (9 + 9 * Int32.toNatClampNeg (nI 3)) ≤ 3185 by decide) ?_))))))))
    rw [nS_z (hz 224 (by decide))]
    exact h14 _
  have h12 : ∀ g, At 135 [.ref 108, junk] [] ((Jw J 108 3 (-1)), g, D, 215, (108, 24) :: (108, 18) :: (108, 17) :: (108, 16) :: (108, 15) :: (108, 14) :: (108, 13) :: (108, 12) :: (108, 11) :: (108, 10) :: (108, 9) :: (108, 8) :: l) 106 1182 := by
    intro g
    refine hAt 5 _ _ _ _ _ _ ?_
    refine And.intro (by decide) (And.intro (by decide) (And.intro (show Int32.toNatClampNeg (nI 8) = 8 by decide) (And.intro (show 215 + 8 < ow_n0 by decide) (And.intro rfl (And.intro (show rowsB 215 _ (Int32.toNatClampNeg (nI 3)) 8 = true by decide) (And.intro (by decide) (And.intro (show 106 + (1 + 8) ≤ 258 by decide) (And.intro (show 1182 + (8 + 8 * Int32.toNatClampNeg (nI 3)) ≤ 3185 by decide) ?_))))))))
    rw [nS_z (hz 215 (by decide))]
    exact h13 _
  have h11 : ∀ g, At 124 [.ref 108, junk] [] ((Jw J 108 3 (-1)), g, D, 184, (108, 18) :: (108, 17) :: (108, 16) :: (108, 15) :: (108, 14) :: (108, 13) :: (108, 12) :: (108, 11) :: (108, 10) :: (108, 9) :: (108, 8) :: l) 75 1032 := by
    intro g
    refine hAt 5 _ _ _ _ _ _ ?_
    refine And.intro (by decide) (And.intro (by decide) (And.intro (show Int32.toNatClampNeg (nI 30) = 30 by decide) (And.intro (show 184 + 30 < ow_n0 by decide) (And.intro rfl (And.intro (show rowsB 184 _ (Int32.toNatClampNeg (nI 4)) 30 = true by decide) (And.intro (by decide) (And.intro (show 75 + (1 + 30) ≤ 258 by decide) (And.intro (show 1032 + (30 + 30 * Int32.toNatClampNeg (nI 4)) ≤ 3185 by decide) ?_))))))))
    rw [nS_z (hz 184 (by decide))]
    exact h12 _
  have h10 : ∀ g, At 114 [.ref 108, junk] [] ((Jw J 108 3 (-1)), g, D, 180, (108, 17) :: (108, 16) :: (108, 15) :: (108, 14) :: (108, 13) :: (108, 12) :: (108, 11) :: (108, 10) :: (108, 9) :: (108, 8) :: l) 71 1020 := by
    intro g
    refine hAt 5 _ _ _ _ _ _ ?_
    refine And.intro (by decide) (And.intro (by decide) (And.intro (show Int32.toNatClampNeg (nI 3) = 3 by decide) (And.intro (show 180 + 3 < ow_n0 by decide) (And.intro rfl (And.intro (show rowsB 180 _ (Int32.toNatClampNeg (nI 3)) 3 = true by decide) (And.intro (by decide) (And.intro (show 71 + (1 + 3) ≤ 258 by decide) (And.intro (show 1020 + (3 + 3 * Int32.toNatClampNeg (nI 3)) ≤ 3185 by decide) ?_))))))))
    rw [nS_z (hz 180 (by decide))]
    exact h11 _
  have h9 : ∀ g, At 104 [.ref 108, junk] [] ((Jw J 108 3 (-1)), g, D, 176, (108, 16) :: (108, 15) :: (108, 14) :: (108, 13) :: (108, 12) :: (108, 11) :: (108, 10) :: (108, 9) :: (108, 8) :: l) 67 1008 := by
    intro g
    refine hAt 5 _ _ _ _ _ _ ?_
    refine And.intro (by decide) (And.intro (by decide) (And.intro (show Int32.toNatClampNeg (nI 3) = 3 by decide) (And.intro (show 176 + 3 < ow_n0 by decide) (And.intro rfl (And.intro (show rowsB 176 _ (Int32.toNatClampNeg (nI 3)) 3 = true by decide) (And.intro (by decide) (And.intro (show 67 + (1 + 3) ≤ 258 by decide) (And.intro (show 1008 + (3 + 3 * Int32.toNatClampNeg (nI 3)) ≤ 3185 by decide) ?_))))))))
    rw [nS_z (hz 176 (by decide))]
    exact h10 _
  have h8 : ∀ g, At 92 [.ref 108, junk] [] ((Jw J 108 3 (-1)), g, D, 163, (108, 15) :: (108, 14) :: (108, 13) :: (108, 12) :: (108, 11) :: (108, 10) :: (108, 9) :: (108, 8) :: l) 54 924 := by
    intro g
    refine hAt 5 _ _ _ _ _ _ ?_
    refine And.intro (by decide) (And.intro (by decide) (And.intro (show Int32.toNatClampNeg (nI 12) = 12 by decide) (And.intro (show 163 + 12 < ow_n0 by decide) (And.intro rfl (And.intro (show rowsB 163 _ (Int32.toNatClampNeg (nI 6)) 12 = true by decide) (And.intro (by decide) (And.intro (show 54 + (1 + 12) ≤ 258 by decide) (And.intro (show 924 + (12 + 12 * Int32.toNatClampNeg (nI 6)) ≤ 3185 by decide) ?_))))))))
    rw [nS_z (hz 163 (by decide))]
    exact h9 _
  have h7 : ∀ g, At 80 [.ref 108, junk] [] ((Jw J 108 3 (-1)), g, D, 150, (108, 14) :: (108, 13) :: (108, 12) :: (108, 11) :: (108, 10) :: (108, 9) :: (108, 8) :: l) 41 840 := by
    intro g
    refine hAt 5 _ _ _ _ _ _ ?_
    refine And.intro (by decide) (And.intro (by decide) (And.intro (show Int32.toNatClampNeg (nI 12) = 12 by decide) (And.intro (show 150 + 12 < ow_n0 by decide) (And.intro rfl (And.intro (show rowsB 150 _ (Int32.toNatClampNeg (nI 6)) 12 = true by decide) (And.intro (by decide) (And.intro (show 41 + (1 + 12) ≤ 258 by decide) (And.intro (show 840 + (12 + 12 * Int32.toNatClampNeg (nI 6)) ≤ 3185 by decide) ?_))))))))
    rw [nS_z (hz 150 (by decide))]
    exact h8 _
  have h6 : ∀ g, At 68 [.ref 108, junk] [] ((Jw J 108 3 (-1)), g, D, 141, (108, 13) :: (108, 12) :: (108, 11) :: (108, 10) :: (108, 9) :: (108, 8) :: l) 32 776 := by
    intro g
    refine hAt 5 _ _ _ _ _ _ ?_
    refine And.intro (by decide) (And.intro (by decide) (And.intro (show Int32.toNatClampNeg (nI 8) = 8 by decide) (And.intro (show 141 + 8 < ow_n0 by decide) (And.intro rfl (And.intro (show rowsB 141 _ (Int32.toNatClampNeg (nI 7)) 8 = true by decide) (And.intro (by decide) (And.intro (show 32 + (1 + 8) ≤ 258 by decide) (And.intro (show 776 + (8 + 8 * Int32.toNatClampNeg (nI 7)) ≤ 3185 by decide) ?_))))))))
    rw [nS_z (hz 141 (by decide))]
    exact h7 _
  have h5 : ∀ g, At 56 [.ref 108, junk] [] ((Jw J 108 3 (-1)), g, D, 132, (108, 12) :: (108, 11) :: (108, 10) :: (108, 9) :: (108, 8) :: l) 23 712 := by
    intro g
    refine hAt 5 _ _ _ _ _ _ ?_
    refine And.intro (by decide) (And.intro (by decide) (And.intro (show Int32.toNatClampNeg (nI 8) = 8 by decide) (And.intro (show 132 + 8 < ow_n0 by decide) (And.intro rfl (And.intro (show rowsB 132 _ (Int32.toNatClampNeg (nI 7)) 8 = true by decide) (And.intro (by decide) (And.intro (show 23 + (1 + 8) ≤ 258 by decide) (And.intro (show 712 + (8 + 8 * Int32.toNatClampNeg (nI 7)) ≤ 3185 by decide) ?_))))))))
    rw [nS_z (hz 132 (by decide))]
    exact h6 _
  have h4 : ∀ g, At 45 [.ref 108, junk] [] ((Jw J 108 3 (-1)), g, D, 122, (108, 11) :: (108, 10) :: (108, 9) :: (108, 8) :: l) 13 667 := by
    intro g
    refine hAt 5 _ _ _ _ _ _ ?_
    refine And.intro (by decide) (And.intro (by decide) (And.intro (show Int32.toNatClampNeg (nI 9) = 9 by decide) (And.intro (show 122 + 9 < ow_n0 by decide) (And.intro rfl (And.intro (show rowsB 122 _ (Int32.toNatClampNeg (nI 4)) 9 = true by decide) (And.intro (by decide) (And.intro (show 13 + (1 + 9) ≤ 258 by decide) (And.intro (show 667 + (9 + 9 * Int32.toNatClampNeg (nI 4)) ≤ 3185 by decide) ?_))))))))
    rw [nS_z (hz 122 (by decide))]
    exact h5 _
  have h3 : ∀ g, At 34 [.ref 108, junk] [] ((Jw J 108 3 (-1)), g, D, 112, (108, 10) :: (108, 9) :: (108, 8) :: l) 3 622 := by
    intro g
    refine hAt 5 _ _ _ _ _ _ ?_
    refine And.intro (by decide) (And.intro (by decide) (And.intro (show Int32.toNatClampNeg (nI 9) = 9 by decide) (And.intro (show 112 + 9 < ow_n0 by decide) (And.intro rfl (And.intro (show rowsB 112 _ (Int32.toNatClampNeg (nI 4)) 9 = true by decide) (And.intro (by decide) (And.intro (show 3 + (1 + 9) ≤ 258 by decide) (And.intro (show 622 + (9 + 9 * Int32.toNatClampNeg (nI 4)) ≤ 3185 by decide) ?_))))))))
    rw [nS_z (hz 112 (by decide))]
    exact h4 _
  have h2 : ∀ g, At 26 [.ref 108, junk] [] ((Jw J 108 3 (-1)), g, D, 111, (108, 9) :: (108, 8) :: l) 2 611 := by
    intro g
    refine hAt 4 _ _ _ _ _ _ ?_
    refine And.intro (by decide) (And.intro (show Int32.toNatClampNeg (nI 11) = 11 by decide) (And.intro (show 2 + 1 ≤ 258 by decide) (And.intro (show 611 + 11 ≤ 3185 by decide) ?_)))
    rw [nS_z (hz 111 (by decide))]
    exact h3 _
  have h1 : ∀ g, At 18 [.ref 108, junk] [] ((Jw J 108 3 (-1)), g, D, 110, (108, 8) :: l) 1 600 := by
    intro g
    refine hAt 4 _ _ _ _ _ _ ?_
    refine And.intro (by decide) (And.intro (show Int32.toNatClampNeg (nI 11) = 11 by decide) (And.intro (show 1 + 1 ≤ 258 by decide) (And.intro (show 600 + 11 ≤ 3185 by decide) ?_)))
    rw [nS_z (hz 110 (by decide))]
    exact h2 _
  have h0 : ∀ g, At 9 [.ref 108, junk] [] ((Jw J 108 3 (-1)), g, D, 109, l) 0 0 := by
    intro g
    refine hAt 4 _ _ _ _ _ _ ?_
    refine And.intro (by decide) (And.intro (show Int32.toNatClampNeg (nI 600) = 600 by decide) (And.intro (show 0 + 1 ≤ 258 by decide) (And.intro (show 0 + 600 ≤ 3185 by decide) ?_)))
    rw [nS_z (hz 109 (by decide))]
    exact h1 _
  refine hAt 5 _ _ _ _ _ _ ?_
  exact h0 _
end CTP
