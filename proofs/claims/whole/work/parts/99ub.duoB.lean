/-! both sides of a call that throws nothing (the law calls the component itself) -/
def DUv (w : Wd) (mc mm KC KS : Nat) (as : List AV) (A : St) : Prop := ∃ (y : Int32) (A' : St), CC w 50 mc as A 0 (.int y) A' ∧ MC w 50 KC KS mm as A 0 (.int y) A' ∧ VA A'
section DVO
variable {w : Wd} {A : St}
theorem E_fault (hv : VA A) : DUv w m_OC_fault m_Mo_fault 0 0 [] A := ⟨_, A, CC_fault (d := 49), MC_fault (d := 49) hv, hv⟩
theorem E_clear (hv : VA A) : DUv w m_OC_clear m_Mo_clear 0 0 [] A := ⟨_, _, CC_clear (d := 48), MC_clear (d := 49) hv, hv.bk hv.2.2.2.1.e1⟩
theorem E_forget (hv : VA A) : DUv w m_OC_forget m_Mo_forget 0 0 [] A := ⟨_, _, CC_forget (d := 48), MC_forget (d := 49) hv, hv.bk hv.2.2.2.1.e2⟩
theorem E_away (hv : VA A) : DUv w m_OC_away m_Mo_away 0 0 [] A := ⟨_, _, CC_away (d := 48), MC_away (d := 49) hv, hv.bk hv.2.2.2.1.e3⟩
theorem E_count (hv : VA A) (x : Int32) : DUv w m_OC_count m_Mo_count 0 0 [.int x] A := by
  rcases rng x (n := 5) (by decide) with ⟨j, hj, rfl⟩ | h
  · exact ⟨_, A, CC_count_ok (d := 48) hj, MC_count_ok (d := 49) hv hj, hv⟩
  · exact ⟨_, A, CC_count_bad (d := 48) h, MC_count_bad (d := 49) hv h, hv⟩
theorem E_image (hv : VA A) : DUv w m_OC_image m_Mo_image 0 0 [] A := by
  by_cases h : aIn A < 3
  · exact ⟨_, _, CC_image_ok (d := 47) hv h, MC_image_ok (d := 47) hv h, hv.im h⟩
  · have h3 : aIn A = 3 := by have := hv.2.2.2.2.1; omega
    exact ⟨_, A, CC_image_full (d := 47) h3, MC_image_full (d := 47) hv h3, hv⟩
theorem E_restore (hv : VA A) : DUv w m_OC_restore m_Mo_restore 0 0 [] A := by
  by_cases h : 0 < aIn A
  · exact ⟨_, _, CC_restore_ok (d := 47) hv h, MC_restore_ok (d := 47) hv h, hv.re h⟩
  · have h3 : aIn A = 0 := by omega
    exact ⟨_, A, CC_restore_no (d := 47) h3, MC_restore_no (d := 47) hv h3, hv⟩
theorem E_feed (hv : VA A) (a b c e f : Int32) : DUv w m_OC_feed m_Mo_feed 0 0 [.int a, .int b, .int c, .int e, .int f] A := by
  by_cases h : aTc A + 20 ≤ 600
  · exact ⟨_, _, CC_feed_ok (d := 47) (n := fun i => if i = 0 then a else if i = 1 then b else if i = 2 then c else if i = 3 then e else f) hv h, MC_feed_ok (d := 49) (n := fun i => if i = 0 then a else if i = 1 then b else if i = 2 then c else if i = 3 then e else f) hv h, hv.fd h⟩
  · exact ⟨_, A, CC_feed_full (d := 47) hv (by omega), MC_feed_full (d := 49) hv (by omega), hv⟩
end DVO
