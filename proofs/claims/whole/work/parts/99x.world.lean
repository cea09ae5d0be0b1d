/-! THE WORLD AT THE LAW'S START -/
set_option maxRecDepth 8000
def F_n : List Cond := flatC (Jvm.Cond.and given_1 narrow_1)
def tm_ (i : Nat) : Term := match i with
  | 0 => .string (ow_on 10) 293
  | 1 => .string (ow_on 7) 119
  | 2 => .string (ow_on 7) 123
  | 3 => .string (ow_on 7) 135
  | 4 => .string (ow_on 7) 125
  | 5 => .string (ow_on 7) 133
  | 6 => .string (ow_on 7) 131
  | 7 => .string (ow_on 7) 127
  | 8 => .string (ow_on 10) 233
  | 9 => .string (ow_on 10) 298
  | 10 => .string (ow_on 10) 301
  | 11 => .string (ow_on 7) 129
  | 12 => .string (ow_on 7) 121
  | 13 => .string (ow_on 7) 115
  | _ => .string (ow_on 7) 117
def iex_ : List Nat := [53, 111, 135, 232, 149, 214, 197, 166, 311, 252, 281, 181, 123, 93, 101]
def ico_ : List Nat := [54, 112, 136, 233, 150, 215, 198, 167, 312, 253, 282, 182, 124, 94, 102]
def iar_ : List Nat := [55, 113, 137, 234, 151, 216, 199, 168, 313, 254, 283, 183, 125, 95, 103]
def ile_ : List Nat := [56, 114, 138, 235, 152, 217, 200, 169, 314, 255, 284, 184, 126, 96, 104]
def iel_ : List (List Nat) := [[57, 58, 59, 60, 61, 62, 63, 64, 65, 66, 67, 68, 69, 70, 71, 72, 73, 74, 75, 76, 77, 78, 79, 80, 81, 82, 83, 84, 85, 86, 87, 88, 89, 90, 91, 92], [115, 116, 117, 118, 119], [139, 140, 141, 142, 143], [236, 237, 238, 239, 240], [153, 154, 155, 156, 157, 158, 159], [218, 219, 220, 221], [201, 202, 203, 204], [170, 171, 172, 173], [315, 316, 317, 318, 319, 320, 321, 322, 323, 324, 325], [256, 257, 258, 259, 260, 261, 262, 263, 264, 265, 266, 267, 268], [285, 286, 287, 288, 289, 290, 291, 292, 293, 294, 295, 296, 297], [185, 186, 187, 188], [127, 128, 129, 130], [97, 98, 99], [105, 106, 107, 108]]
def ine_ : List (List Nat) := [[0, 120, 144, 241, 160, 222, 205, 174, 326, 269, 298, 189, 131, 100, 109], [0, 0, 147, 244, 163, 225, 208, 177, 329, 272, 301, 192, 134, 0, 0], [0, 0, 0, 246, 165, 227, 210, 179, 331, 274, 303, 194, 0, 0, 0], [0, 0, 0, 0, 0, 0, 0, 0, 337, 280, 309, 0, 0, 0, 0], [0, 0, 0, 247, 0, 228, 211, 180, 332, 275, 304, 195, 0, 0, 0], [0, 0, 0, 251, 0, 0, 0, 0, 336, 279, 308, 0, 0, 0, 0], [0, 0, 0, 250, 0, 231, 0, 0, 335, 278, 307, 0, 0, 0, 0], [0, 0, 0, 248, 0, 229, 212, 0, 333, 276, 305, 196, 0, 0, 0], [0, 0, 0, 0, 0, 0, 0, 0, 0, 0, 0, 0, 0, 0, 0], [0, 0, 0, 0, 0, 0, 0, 0, 338, 0, 310, 0, 0, 0, 0], [0, 0, 0, 0, 0, 0, 0, 0, 339, 0, 0, 0, 0, 0, 0], [0, 0, 0, 249, 0, 230, 213, 0, 334, 277, 306, 0, 0, 0, 0], [0, 0, 148, 245, 164, 226, 209, 178, 330, 273, 302, 193, 0, 0, 0], [0, 121, 145, 242, 161, 223, 206, 175, 327, 270, 299, 190, 132, 0, 110], [0, 122, 146, 243, 162, 224, 207, 176, 328, 271, 300, 191, 133, 0, 0]]
theorem x_ex : ∀ i, i < 15 → F_n[iex_.getD i 0]? = some (Cond.exactly (tm_ i) "java/lang/String") := by decide +kernel
theorem x_co : ∀ i, i < 15 → F_n[ico_.getD i 0]? = some (Cond.eq (.field (tm_ i) "java/lang/String" "coder" "B") (.int 0)) := by decide +kernel
theorem x_ar : ∀ i, i < 15 → F_n[iar_.getD i 0]? = some (Cond.arrayOf (.field (tm_ i) "java/lang/String" "value" "[B") .byte) := by decide +kernel
theorem x_le : ∀ i, i < 15 → F_n[ile_.getD i 0]? = some (Cond.eq (.length (.field (tm_ i) "java/lang/String" "value" "[B")) (.int (Int32.ofNat (ow_sl.getD i 0)))) := by decide +kernel
theorem x_el : ∀ i, i < 15 → ∀ j, j < ow_sl.getD i 0 → F_n[(iel_.getD i []).getD j 0]? = some (Cond.eq (.elem (.field (tm_ i) "java/lang/String" "value" "[B") (.int (Int32.ofNat j))) (.int ((ow_sb.getD i []).getD j 0))) := by decide +kernel
theorem x_ne : ∀ i, i < 15 → ∀ j, j < 15 → i ≠ j → (F_n[(ine_.getD i []).getD j 0]? = some (Cond.not (Cond.eq (tm_ i) (tm_ j))) ∨ F_n[(ine_.getD j []).getD i 0]? = some (Cond.not (Cond.eq (tm_ j) (tm_ i)))) := by decide +kernel
section LWK
variable {p : Program} {s : State} {m : MethodId} {meth : Method} {c : Code} {bb L : Nat} {xs : Nat → Int32}
theorem lw_F (C0 : lw_At p s m meth c bb L xs) {w : Cond} {k : Nat} (h : F_n[k]? = some w) : w.before #[Value.ref bb] s = true := flat_of_before _ C0.2.2.2.2.2.2.2.2.2 _ (List.mem_of_getElem? h)
theorem lw_T (C0 : lw_At p s m meth c bb L xs) {w : Cond} (h : w ∈ ow_T) : w.before #[Value.ref bb] s = true := C0.2.2.2.2.2.1 _ (List.mem_filter.mp h).1
theorem lw_W (C0 : lw_At p s m meth c bb L xs) {w : Cond} (h : w ∈ tables_1) : w.before #[Value.ref bb] s = true := C0.2.2.2.2.2.1 _ (List.mem_append.mpr (Or.inr h))
theorem lw_str (C0 : lw_At p s m meth c bb L xs) {A : Nat → Prop} (hA : ∀ a : Nat, a < s.heap.size → ¬ A a) : ∃ adK adV : Nat → Nat, vk_S 15 ow_sl ow_sb adK adV A s s.heap ∧ ∀ i : Nat, i < 15 → (tm_ i).eval #[Value.ref bb] s none [] s = some (.ref (adK i)) :=
  vk_Sof (by decide) (fun i hi => lw_F C0 (x_ex i hi)) (fun i hi => lw_F C0 (x_co i hi)) (fun i hi => lw_F C0 (x_ar i hi)) (fun i hi => lw_F C0 (x_le i hi)) (fun i hi j hj => lw_F C0 (x_el i hi j hj))
    (fun i j hi hj hn => (x_ne i hi j hj hn).elim (fun h => Or.inl (lw_F C0 h)) (fun h => Or.inr (lw_F C0 h))) hA
theorem lw_cls (C0 : lw_At p s m meth c bb L xs) : ∃ (D : va_G), ∀ ci, ci < 12 → u_Kn s (ow_on ci) (ow_F ci) (ow_N ci) (D.1 ci) (D.2 ci) := by
  have h : ∀ ci, ∃ q : ClassId × (Nat → Nat), ci < 12 → u_Kn s (ow_on ci) (ow_F ci) (ow_N ci) q.1 q.2 := by
    intro ci
    by_cases hc : ci < 12
    · obtain ⟨cC, iS, h⟩ := u_known (ws := ow_T) (fun z hz => lw_T C0 hz) (ow_in ci hc) (lw_T C0 (ow_al.get ow_ins (ow_mem12 ci hc)))
      exact ⟨(cC, iS), fun _ => h⟩
    · exact ⟨(0, fun _ => 0), fun q => absurd q hc⟩
  refine ⟨(fun ci => (Classical.choose (h ci)).1, fun ci => (Classical.choose (h ci)).2), fun ci hc => Classical.choose_spec (h ci) hc⟩
theorem lw_arr (C0 : lw_At p s m meth c bb L xs) {ty : FieldType} (h : Cond.arrayClass ty ∈ tables_1) (ho : ∀ C, ty ≠ .object C) : ∃ cA, ArrOfT s cA ty ∧ va_RA s cA ty := by
  obtain ⟨cA, kA, comp, hfind, hk, hkind⟩ := Cond.arrayClass_spec (lw_W C0 h)
  refine ⟨cA, fun N z => ⟨(fun k h => by cases h), kA, hk, comp, hkind⟩, ?_⟩
  cases ty with
  | object C => exact absurd rfl (ho C)
  | _ => exact hfind
theorem lw_arA (C0 : lw_At p s m meth c bb L xs) {t : FieldType} (h : Cond.arrayOver (.array t) ∈ tables_1) : (∃ cA, ArrOfT s cA (.array t) ∧ va_RA s cA (.array t)) ∧ ow_AO t s := by
  have h0 := lw_W C0 h
  obtain ⟨comp, cA, kA, g1, g2, g3, g4, g5⟩ := arrayOverA_spec h0
  exact ⟨⟨cA, fun N z => ⟨(fun k h => by cases h), kA, g3, comp, g4⟩, g5⟩, h0⟩
theorem lw_arO (C0 : lw_At p s m meth c bb L xs) {C : String} (h : Cond.arrayOver (.object C) ∈ tables_1) : (∃ cA, ArrOfT s cA (.object C) ∧ va_RA s cA (.object C)) ∧ va_AO C s := by
  have h0 := lw_W C0 h
  obtain ⟨comp, cA, kA, g1, g2, g3, g4, g5⟩ := Cond.arrayOver_spec h0
  exact ⟨⟨cA, fun N z => ⟨(fun k h => by cases h), kA, g3, comp, g4⟩, kA, comp, g3, g4, g1, g5⟩, h0⟩
theorem m_acI : Cond.arrayClass .int ∈ tables_1 := List.mem_of_getElem? (i := 43) (by decide +kernel)
theorem m_acZ : Cond.arrayClass .boolean ∈ tables_1 := List.mem_of_getElem? (i := 1519) (by decide +kernel)
theorem m_acJ : Cond.arrayClass .long ∈ tables_1 := List.mem_of_getElem? (i := 1853) (by decide +kernel)
theorem m_aoI : Cond.arrayOver (.array .int) ∈ tables_1 := List.mem_of_getElem? (i := 1328) (by decide +kernel)
theorem m_aoZ : Cond.arrayOver (.array .boolean) ∈ tables_1 := List.mem_of_getElem? (i := 1330) (by decide +kernel)
theorem m_aoB : Cond.arrayOver (.object "OwnedClouds$Book") ∈ tables_1 := List.mem_of_getElem? (i := 172) (by decide +kernel)
theorem m_ca0 : Cond.castable (ow_ex 0) (ow_ex 0) ∈ tables_1 := List.mem_of_getElem? (i := 467) (by decide +kernel)
theorem m_ca1 : Cond.castable (ow_ex 1) (ow_ex 1) ∈ tables_1 := List.mem_of_getElem? (i := 778) (by decide +kernel)
theorem m_ca2 : Cond.castable (ow_ex 2) (ow_ex 2) ∈ tables_1 := List.mem_of_getElem? (i := 820) (by decide +kernel)
def isr_ : List Nat := [1170, 506, 785, 827, 557, 558, 559, 560, 561, 562, 563, 564, 565, 566, 567]
theorem m_ls0 : Cond.laysStatic "java/lang/String" "COMPACT_STRINGS" "Z" ∈ tables_1 := List.mem_of_getElem? (i := 581) (by decide +kernel)
theorem m_ls1 : Cond.laysStatic "jdk/internal/util/Preconditions" "SIOOBE_FORMATTER" "Ljava/util/function/BiFunction;" ∈ tables_1 := List.mem_of_getElem? (i := 597) (by decide +kernel)
theorem m_ls2 : Cond.laysStatic Bundle.tN "UNASSIGNED_STACK" Bundle.steD ∈ tables_1 := List.mem_of_getElem? (i := 492) (by decide +kernel)
theorem m_ls3 : Cond.laysStatic Bundle.tN "SUPPRESSED_SENTINEL" Bundle.listD ∈ tables_1 := List.mem_of_getElem? (i := 494) (by decide +kernel)
theorem m_in0 : Cond.initialized "java/lang/String" ∈ tables_1 := List.mem_of_getElem? (i := 17) (by decide +kernel)
theorem m_in1 : Cond.initialized "jdk/internal/util/Preconditions" ∈ tables_1 := List.mem_of_getElem? (i := 19) (by decide +kernel)
theorem m_in2 : Cond.initialized Bundle.tN ∈ tables_1 := List.mem_of_getElem? (i := 13) (by decide +kernel)
theorem m_de0 : Cond.declares (Bundle.initS "java/lang/RuntimeException") ∈ tables_1 := List.mem_of_getElem? (i := 469) (by decide +kernel)
theorem m_de1 : Cond.declares (Bundle.initS "java/lang/Exception") ∈ tables_1 := List.mem_of_getElem? (i := 471) (by decide +kernel)
theorem m_de2 : Cond.declares (Bundle.initS Bundle.tN) ∈ tables_1 := List.mem_of_getElem? (i := 473) (by decide +kernel)
theorem x_us : F_n[4]? = some (Cond.isRef (.static Bundle.tN "UNASSIGNED_STACK" Bundle.steD)) := by decide +kernel
theorem x_ss : F_n[5]? = some (Cond.isRef (.static Bundle.tN "SUPPRESSED_SENTINEL" Bundle.listD)) := by decide +kernel
theorem x_cs : F_n[6]? = some (Cond.eq (.static "java/lang/String" "COMPACT_STRINGS" "Z") (.int 1)) := by decide +kernel
theorem x_fm : F_n[7]? = some (Cond.isRef (.static "jdk/internal/util/Preconditions" "SIOOBE_FORMATTER" "Ljava/util/function/BiFunction;")) := by decide +kernel
theorem x_n1 : F_n[37]? = some (Cond.not (.castable (ow_ex 0) (ow_ex 1))) := by decide +kernel
theorem x_n2 : F_n[51]? = some (Cond.not (.castable (ow_ex 0) (ow_ex 2))) := by decide +kernel
theorem m_tm : ∀ z ∈ ow_strs, ∃ i, i < 15 ∧ z.2.2 = i + 1 ∧ tm_ i = .string (ow_on z.1) z.2.1 := by
  intro z hz
  rcases List.mem_cons.mp hz with rfl | hz
  · exact ⟨8, by decide, rfl, rfl⟩
  rcases List.mem_cons.mp hz with rfl | hz
  · exact ⟨0, by decide, rfl, rfl⟩
  rcases List.mem_cons.mp hz with rfl | hz
  · exact ⟨9, by decide, rfl, rfl⟩
  rcases List.mem_cons.mp hz with rfl | hz
  · exact ⟨10, by decide, rfl, rfl⟩
  rcases List.mem_cons.mp hz with rfl | hz
  · exact ⟨13, by decide, rfl, rfl⟩
  rcases List.mem_cons.mp hz with rfl | hz
  · exact ⟨14, by decide, rfl, rfl⟩
  rcases List.mem_cons.mp hz with rfl | hz
  · exact ⟨1, by decide, rfl, rfl⟩
  rcases List.mem_cons.mp hz with rfl | hz
  · exact ⟨12, by decide, rfl, rfl⟩
  rcases List.mem_cons.mp hz with rfl | hz
  · exact ⟨2, by decide, rfl, rfl⟩
  rcases List.mem_cons.mp hz with rfl | hz
  · exact ⟨4, by decide, rfl, rfl⟩
  rcases List.mem_cons.mp hz with rfl | hz
  · exact ⟨7, by decide, rfl, rfl⟩
  rcases List.mem_cons.mp hz with rfl | hz
  · exact ⟨11, by decide, rfl, rfl⟩
  rcases List.mem_cons.mp hz with rfl | hz
  · exact ⟨6, by decide, rfl, rfl⟩
  rcases List.mem_cons.mp hz with rfl | hz
  · exact ⟨5, by decide, rfl, rfl⟩
  rcases List.mem_cons.mp hz with rfl | hz
  · exact ⟨3, by decide, rfl, rfl⟩
  · cases hz
theorem m_sr : ∀ z ∈ ow_strs, Cond.stringRef (ow_on z.1) z.2.1 (ow_tx z.2.2) ∈ tables_1 := by
  intro z hz
  rcases List.mem_cons.mp hz with rfl | hz
  · exact List.mem_of_getElem? (i := 1170) (by decide +kernel)
  rcases List.mem_cons.mp hz with rfl | hz
  · exact List.mem_of_getElem? (i := 506) (by decide +kernel)
  rcases List.mem_cons.mp hz with rfl | hz
  · exact List.mem_of_getElem? (i := 785) (by decide +kernel)
  rcases List.mem_cons.mp hz with rfl | hz
  · exact List.mem_of_getElem? (i := 827) (by decide +kernel)
  rcases List.mem_cons.mp hz with rfl | hz
  · exact List.mem_of_getElem? (i := 557) (by decide +kernel)
  rcases List.mem_cons.mp hz with rfl | hz
  · exact List.mem_of_getElem? (i := 558) (by decide +kernel)
  rcases List.mem_cons.mp hz with rfl | hz
  · exact List.mem_of_getElem? (i := 559) (by decide +kernel)
  rcases List.mem_cons.mp hz with rfl | hz
  · exact List.mem_of_getElem? (i := 560) (by decide +kernel)
  rcases List.mem_cons.mp hz with rfl | hz
  · exact List.mem_of_getElem? (i := 561) (by decide +kernel)
  rcases List.mem_cons.mp hz with rfl | hz
  · exact List.mem_of_getElem? (i := 562) (by decide +kernel)
  rcases List.mem_cons.mp hz with rfl | hz
  · exact List.mem_of_getElem? (i := 563) (by decide +kernel)
  rcases List.mem_cons.mp hz with rfl | hz
  · exact List.mem_of_getElem? (i := 564) (by decide +kernel)
  rcases List.mem_cons.mp hz with rfl | hz
  · exact List.mem_of_getElem? (i := 565) (by decide +kernel)
  rcases List.mem_cons.mp hz with rfl | hz
  · exact List.mem_of_getElem? (i := 566) (by decide +kernel)
  rcases List.mem_cons.mp hz with rfl | hz
  · exact List.mem_of_getElem? (i := 567) (by decide +kernel)
  · cases hz
theorem lw_world (C0 : lw_At p s m meth c bb L xs) (l : Launch) (hflags : l.flags = flags0) : ∃ w : Wd, WOK w s bb ∧ wLa w = l := by
  obtain ⟨D, hD⟩ := lw_cls C0
  obtain ⟨cI, hI⟩ := lw_arr C0 m_acI (fun C h => by cases h)
  obtain ⟨cZ, hZ⟩ := lw_arr C0 m_acZ (fun C h => by cases h)
  obtain ⟨cJ, hJ⟩ := lw_arr C0 m_acJ (fun C h => by cases h)
  obtain ⟨⟨cII, hII⟩, oI⟩ := lw_arA C0 m_aoI
  obtain ⟨⟨cZZ, hZZ⟩, oZ⟩ := lw_arA C0 m_aoZ
  obtain ⟨⟨cB, hB⟩, oB⟩ := lw_arO C0 m_aoB
  obtain ⟨adK, adV, hS1, hS2⟩ := lw_str C0 (A := fun q => s.heap.size ≤ q) (fun a h q => by omega)
  refine ⟨(D, (fun k => match k with | 0 => cI | 1 => cZ | 2 => cJ | 3 => cII | 4 => cZZ | _ => cB), s.heap.size, s.heap, (fun n => if n = 0 then bb else if n < 100 then adK (n - 1) else adV (n - 100)), l, 0, fun _ => 0), ⟨rfl, rfl, rfl, ?_⟩, rfl⟩
  have eK : ∀ i, i < 15 → (if i + 1 = 0 then bb else if i + 1 < 100 then adK (i + 1 - 1) else adV (i + 1 - 100)) = adK i := fun i hi => by rw [if_neg (by omega), if_pos (by omega)]; rfl
  have eV : ∀ i, i < 15 → (if 100 + i = 0 then bb else if 100 + i < 100 then adK (100 + i - 1) else adV (100 + i - 100)) = adV i := fun i hi => by rw [if_neg (by omega), if_neg (by omega)]; congr 1; omega
  have hA : ∀ a : Nat, a < s.heap.size → ¬ s.heap.size ≤ a := fun a h q => by omega
  refine ⟨⟨fun ci q hq => ?_, fun k q hq => ?_⟩, fun o ho z hz => va_Nw.of rfl (lw_W C0 (ow_fl1 o ho z hz)), fun o ho z hz => va_Nw.of rfl (lw_W C0 (ow_ml1 o ho z hz)), oI, oZ, oB, ?_, ?_⟩
  · by_cases hc : ci < 12
    · rw [ow_clk ci hc] at hq
      cases hq
      exact hD ci hc
    · have : ow_cl[ci]? = none := List.getElem?_eq_none (by show 12 ≤ ci; omega)
      rw [this] at hq; cases hq
  · match k, hq with
    | 0, hq => cases hq; exact hI
    | 1, hq => cases hq; exact hZ
    | 2, hq => cases hq; exact hJ
    | 3, hq => cases hq; exact hII
    | 4, hq => cases hq; exact hZZ
    | 5, hq => cases hq; exact hB
    | k + 6, hq => cases hq
  · refine ⟨⟨fun i hi => ?_, fun i j hi hj e => hS1.2 i j hi hj ?_⟩, ?_, ?_, ?_, ?_, fun z hz => ?_⟩
    · have h := hS1.1 i hi
      show va_O "java/lang/String" (if i + 1 = 0 then bb else if i + 1 < 100 then adK (i + 1 - 1) else adV (i + 1 - 100)) _ s s.heap ∧ va_OF "java/lang/String" "coder" "B" (.int 0) (if i + 1 = 0 then bb else if i + 1 < 100 then adK (i + 1 - 1) else adV (i + 1 - 100)) _ s s.heap ∧ va_OF "java/lang/String" "value" "[B" (.ref (if 100 + i = 0 then bb else if 100 + i < 100 then adK (100 + i - 1) else adV (100 + i - 100))) (if i + 1 = 0 then bb else if i + 1 < 100 then adK (i + 1 - 1) else adV (i + 1 - 100)) _ s s.heap ∧ va_T .byte (if 100 + i = 0 then bb else if 100 + i < 100 then adK (100 + i - 1) else adV (100 + i - 100)) (ow_sl.getD i 0) (fun j => .int ((ow_sb.getD i []).getD j 0)) _ s s.heap
      rw [eK i hi, eV i hi]
      exact h
    · have e : (if i + 1 = 0 then bb else if i + 1 < 100 then adK (i + 1 - 1) else adV (i + 1 - 100)) = (if j + 1 = 0 then bb else if j + 1 < 100 then adK (j + 1 - 1) else adV (j + 1 - 100)) := e
      rw [eK i hi, eK j hj] at e
      exact e
    · exact va_Zof (lw_W C0 m_ls0) (lw_W C0 m_in0) (va_eqi (lw_F C0 x_cs)) hA
    · exact va_Zqof (lw_W C0 m_ls1) (lw_W C0 m_in1) (lw_F C0 x_fm) hA
    · exact vx_Zqof (lw_W C0 m_ls2) (lw_W C0 m_in2) (lw_F C0 x_us) hA
    · exact vx_Zqof (lw_W C0 m_ls3) (lw_W C0 m_in2) (lw_F C0 x_ss) hA
    · have hr := m_sr z hz
      obtain ⟨i, hi, ht, hz2⟩ : ∃ i, i < 15 ∧ z.2.2 = i + 1 ∧ tm_ i = .string (ow_on z.1) z.2.1 := m_tm z hz
      have he := hS2 i hi
      rw [hz2] at he
      refine vk_R.of (lw_W C0 hr) (A := #[Value.ref bb]) ?_
      show _ = some (Value.ref (if z.2.2 = 0 then bb else if z.2.2 < 100 then adK (z.2.2 - 1) else adV (z.2.2 - 100)))
      rw [ht, eK i hi]
      exact he
  · refine ⟨?_, fun k hk => ?_, fun y hy => ?_, va_Nc.of (lw_F C0 x_n1), va_Nc.of (lw_F C0 x_n2)⟩
    · show (!l.flags.contains noTraceFlag) = false
      rw [hflags]; decide +kernel
    · have : k = 0 ∨ k = 1 ∨ k = 2 := by omega
      rcases this with rfl | rfl | rfl
      · exact va_Nw.of rfl (lw_W C0 m_ca0)
      · exact va_Nw.of rfl (lw_W C0 m_ca1)
      · exact va_Nw.of rfl (lw_W C0 m_ca2)
    · rcases List.mem_cons.mp hy with rfl | hy
      · exact va_Nw.of rfl (lw_W C0 m_de0)
      · rcases List.mem_cons.mp hy with rfl | hy
        · exact va_Nw.of rfl (lw_W C0 m_de1)
        · rcases List.mem_cons.mp hy with rfl | hy
          · exact va_Nw.of rfl (lw_W C0 m_de2)
          · cases hy
end LWK
