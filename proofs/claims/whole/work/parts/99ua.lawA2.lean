/-! the law's list, put together; how its wrappers are called -/
theorem k_Lw_eq : k_Lw = kw_0 ++ (kw_1 ++ (kw_2 ++ (kw_3 ++ (kw_4 ++ (kw_5 ++ (kw_6 ++ (kw_7 ++ (kw_8 ++ (kw_9 ++ (kw_10 ++ (kw_11 ++ (kw_12 ++ (kw_13 ++ (kw_14 ++ (kw_15 ++ (kw_16 ++ (kw_17 ++ (kw_18 ++ (kw_19 ++ (kw_20 ++ (kw_21 ++ (kw_22 ++ (kw_23 ++ (kw_24 ++ (kw_25 ++ (kw_26 ++ (kw_27 ++ (kw_28 ++ (kw_29 ++ (kw_30 ++ (kw_31 ++ (kw_32 ++ (kw_33 ++ (kw_34 ++ (kw_35 ++ (kw_36 ++ (kw_37 ++ (kw_38 ++ (kw_39))))))))))))))))))))))))))))))))))))))) := by decide +kernel
theorem all_ap {l1 l2 : List El} (h1 : l1.all ckE = true) (h2 : l2.all ckE = true) : (l1 ++ l2).all ckE = true := by rw [List.all_append, h1, h2]; rfl
theorem q_Lw : okB 12 "law" 8 (some .boolean) code k_Lw = true := by
  unfold okB
  rw [Bool.and_eq_true]
  refine ⟨?_, by decide +kernel⟩
  show k_Lw.all ckE = true
  rw [k_Lw_eq]
  exact all_ap qw_0 (all_ap qw_1 (all_ap qw_2 (all_ap qw_3 (all_ap qw_4 (all_ap qw_5 (all_ap qw_6 (all_ap qw_7 (all_ap qw_8 (all_ap qw_9 (all_ap qw_10 (all_ap qw_11 (all_ap qw_12 (all_ap qw_13 (all_ap qw_14 (all_ap qw_15 (all_ap qw_16 (all_ap qw_17 (all_ap qw_18 (all_ap qw_19 (all_ap qw_20 (all_ap qw_21 (all_ap qw_22 (all_ap qw_23 (all_ap qw_24 (all_ap qw_25 (all_ap qw_26 (all_ap qw_27 (all_ap qw_28 (all_ap qw_29 (all_ap qw_30 (all_ap qw_31 (all_ap qw_32 (all_ap qw_33 (all_ap qw_34 (all_ap qw_35 (all_ap qw_36 (all_ap qw_37 (all_ap qw_38 (qw_39)))))))))))))))))))))))))))))))))))))))
def npB (e : El) : Bool := match e.2.2.2.1 with
  | .putfield _ => false
  | _ => true
theorem lkB_nm {own nL : Nat} {nm nm' : String} {ret : Option FieldType} {e : El} (h : npB e = true) : lkB own nm nL ret e = lkB own nm' nL ret e := by
  obtain ⟨pc, len, cut, ins, a, bb, c, ts⟩ := e
  cases ins <;> first | rfl | cases h
theorem okB_nm {own nL : Nat} {nm nm' : String} {ret : Option FieldType} {bytes : ByteArray} {l : List El} (h : l.all npB = true) (hok : okB own nm nL ret bytes l = true) : okB own nm' nL ret bytes l = true := by
  unfold okB at hok ⊢
  rw [Bool.and_eq_true, List.all_eq_true] at hok ⊢
  refine ⟨fun e he => ?_, hok.2⟩
  rw [lkB_nm (nm := nm') (nm' := nm) (List.all_eq_true.mp h e he)]
  exact hok.1 e he
theorem q_Lw' (nm : String) : okB 12 nm 8 (some .boolean) code k_Lw = true := okB_nm (by decide +kernel) q_Lw
def wrC (a i pc n : Nat) (hh : List (Nat × Nat × Nat × Nat)) : Prop := Cond.codeWith (ow_y a) (ow_b a) (ow_x a) (ow_r a) hh ∈ ow_T ∧ (i, a) ∈ ow_g0_12 ∧ a ∈ ow_sm ∧ ow_o a = 12 ∧ ow_x a ≤ 21 ∧ ((ow_y a).cls = ow_on 12 ∧ (parseMethodDescriptor (ow_y a).desc).map (fun d => d.parameters.length) = some n ∧ (ow_y a).cls ≠ "java/lang/invoke/MethodHandle" ∧ (ow_y a).cls ≠ "java/lang/invoke/VarHandle") ∧ decode code pc = .ok (.invokestatic i, 3)
theorem wr_sky : wrC m_La_sky 95 257 3 hh_sky := ⟨cw_sky, by decide +kernel, by decide +kernel, by decide +kernel, by decide +kernel, ⟨by decide +kernel, by decide +kernel, by decide +kernel, by decide +kernel⟩, by decide +kernel⟩
theorem wr_told : wrC m_La_told 109 326 3 hh_told := ⟨cw_told, by decide +kernel, by decide +kernel, by decide +kernel, by decide +kernel, ⟨by decide +kernel, by decide +kernel, by decide +kernel, by decide +kernel⟩, by decide +kernel⟩
theorem wr_owner : wrC m_La_owner 112 382 3 hh_owner := ⟨cw_owner, by decide +kernel, by decide +kernel, by decide +kernel, by decide +kernel, ⟨by decide +kernel, by decide +kernel, by decide +kernel, by decide +kernel⟩, by decide +kernel⟩
theorem wr_path : wrC m_La_path 115 444 4 hh_path := ⟨cw_path, by decide +kernel, by decide +kernel, by decide +kernel, by decide +kernel, ⟨by decide +kernel, by decide +kernel, by decide +kernel, by decide +kernel⟩, by decide +kernel⟩
theorem wr_field : wrC m_La_field 119 512 4 hh_field := ⟨cw_field, by decide +kernel, by decide +kernel, by decide +kernel, by decide +kernel, ⟨by decide +kernel, by decide +kernel, by decide +kernel, by decide +kernel⟩, by decide +kernel⟩
theorem wr_order : wrC m_La_order 122 592 6 hh_order := ⟨cw_order, by decide +kernel, by decide +kernel, by decide +kernel, by decide +kernel, ⟨by decide +kernel, by decide +kernel, by decide +kernel, by decide +kernel⟩, by decide +kernel⟩
theorem wr_day : wrC m_La_day 130 685 4 hh_day := ⟨cw_day, by decide +kernel, by decide +kernel, by decide +kernel, by decide +kernel, ⟨by decide +kernel, by decide +kernel, by decide +kernel, by decide +kernel⟩, by decide +kernel⟩
theorem wr_cloud : wrC m_La_cloud 133 765 6 hh_cloud := ⟨cw_cloud, by decide +kernel, by decide +kernel, by decide +kernel, by decide +kernel, ⟨by decide +kernel, by decide +kernel, by decide +kernel, by decide +kernel⟩, by decide +kernel⟩
theorem wr_part : wrC m_La_part 136 857 6 hh_part := ⟨cw_part, by decide +kernel, by decide +kernel, by decide +kernel, by decide +kernel, ⟨by decide +kernel, by decide +kernel, by decide +kernel, by decide +kernel⟩, by decide +kernel⟩
theorem wr_account : wrC m_La_account 139 943 5 hh_account := ⟨cw_account, by decide +kernel, by decide +kernel, by decide +kernel, by decide +kernel, ⟨by decide +kernel, by decide +kernel, by decide +kernel, by decide +kernel⟩, by decide +kernel⟩
theorem wr_farmer : wrC m_La_farmer 143 1023 5 hh_farmer := ⟨cw_farmer, by decide +kernel, by decide +kernel, by decide +kernel, by decide +kernel, ⟨by decide +kernel, by decide +kernel, by decide +kernel, by decide +kernel⟩, by decide +kernel⟩
theorem wr_after : wrC m_La_after 146 1103 5 hh_after := ⟨cw_after, by decide +kernel, by decide +kernel, by decide +kernel, by decide +kernel, ⟨by decide +kernel, by decide +kernel, by decide +kernel, by decide +kernel⟩, by decide +kernel⟩
theorem wr_worth : wrC m_La_worth 149 1171 3 hh_worth := ⟨cw_worth, by decide +kernel, by decide +kernel, by decide +kernel, by decide +kernel, ⟨by decide +kernel, by decide +kernel, by decide +kernel, by decide +kernel⟩, by decide +kernel⟩
theorem wr_share : wrC m_La_share 152 1233 4 hh_share := ⟨cw_share, by decide +kernel, by decide +kernel, by decide +kernel, by decide +kernel, ⟨by decide +kernel, by decide +kernel, by decide +kernel, by decide +kernel⟩, by decide +kernel⟩
theorem wr_bid : wrC m_La_bid 155 1306 5 hh_bid := ⟨cw_bid, by decide +kernel, by decide +kernel, by decide +kernel, by decide +kernel, ⟨by decide +kernel, by decide +kernel, by decide +kernel, by decide +kernel⟩, by decide +kernel⟩
theorem wr_gets : wrC m_La_gets 162 1393 4 hh_gets := ⟨cw_gets, by decide +kernel, by decide +kernel, by decide +kernel, by decide +kernel, ⟨by decide +kernel, by decide +kernel, by decide +kernel, by decide +kernel⟩, by decide +kernel⟩
theorem wr_settled : wrC m_La_settled 165 1461 4 hh_settled := ⟨cw_settled, by decide +kernel, by decide +kernel, by decide +kernel, by decide +kernel, ⟨by decide +kernel, by decide +kernel, by decide +kernel, by decide +kernel⟩, by decide +kernel⟩
theorem wr_drought : wrC m_La_drought 168 1529 4 hh_drought := ⟨cw_drought, by decide +kernel, by decide +kernel, by decide +kernel, by decide +kernel, ⟨by decide +kernel, by decide +kernel, by decide +kernel, by decide +kernel⟩, by decide +kernel⟩
theorem wr_gauge : wrC m_La_gauge 171 1603 5 hh_gauge := ⟨cw_gauge, by decide +kernel, by decide +kernel, by decide +kernel, by decide +kernel, ⟨by decide +kernel, by decide +kernel, by decide +kernel, by decide +kernel⟩, by decide +kernel⟩
theorem wr_explain : wrC m_La_explain 178 1684 3 hh_explain := ⟨cw_explain, by decide +kernel, by decide +kernel, by decide +kernel, by decide +kernel, ⟨by decide +kernel, by decide +kernel, by decide +kernel, by decide +kernel⟩, by decide +kernel⟩
theorem wr_doubt : wrC m_La_doubt 181 1746 4 hh_doubt := ⟨cw_doubt, by decide +kernel, by decide +kernel, by decide +kernel, by decide +kernel, ⟨by decide +kernel, by decide +kernel, by decide +kernel, by decide +kernel⟩, by decide +kernel⟩
theorem wr_worst : wrC m_La_worst 184 1813 4 hh_worst := ⟨cw_worst, by decide +kernel, by decide +kernel, by decide +kernel, by decide +kernel, ⟨by decide +kernel, by decide +kernel, by decide +kernel, by decide +kernel⟩, by decide +kernel⟩
