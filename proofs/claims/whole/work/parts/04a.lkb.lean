/-! what a code list must pass: decoding, links, order -/
def pcO : List El → Nat
  | [] => 0
  | e :: _ => e.1
/-- which methods can be called so -/
def cmB (a : Nat) : Bool := decide (a ∈ ow_cm) && Nat.ble (ow_x a) 21 && decide ((ow_y a).cls = ow_on (ow_o a)) && Nat.blt (ow_o a) 14 && decide ((parseMethodDescriptor (ow_y a).desc).map (fun d => d.parameters.length) = some (ow_np a)) && decide ((ow_y a).cls ≠ "java/lang/invoke/MethodHandle" ∧ (ow_y a).cls ≠ "java/lang/invoke/VarHandle")
/-- what is left to a method's own proof: a throw, a text's length and chars, a call of a method with handlers -/
def spB (e : El) : Bool := match e with
  | (_, _, _, ins, _, _, c, _) => match ins with
    | .new _ => Nat.ble 1 c
    | .invokevirtual _ => Nat.beq c 2 || Nat.beq c 3
    | .invokestatic _ => Nat.beq c 6
    | .invokespecial _ => Nat.beq c 8
    | .athrow => true
    | .ldc_w _ => Nat.ble 1 c
    | _ => false
def pairs : List Nat → List (Int × Nat)
  | i :: t :: ts => ((i : Int), t) :: pairs ts
  | _ => []
def oddB : List Nat → Bool
  | [] => true
  | [_] => false
  | _ :: _ :: ts => oddB ts
def tsB (a : Nat) (ts : List Nat) : Bool := match ts with
  | [_, ci] => decide (ci < 12 ∧ (ow_y a).cls = ow_on ci)
  | _ => false
theorem tsB_sp {a : Nat} {ts : List Nat} (h : tsB a ts = true) : ∃ n ci, ts = [n, ci] ∧ ci < 12 ∧ (ow_y a).cls = ow_on ci := by
  unfold tsB at h
  split at h
  · obtain ⟨h1, h2⟩ := of_decide_eq_true h; exact ⟨_, _, rfl, h1, h2⟩
  · cases h
def rtB (ret : Option FieldType) : Bool := match ret with
  | some (.object _) => true
  | _ => false
theorem rtB_sp {ret : Option FieldType} (h : rtB ret = true) : ∃ n, ret = some (.object n) := by
  unfold rtB at h
  split at h
  · exact ⟨_, rfl⟩
  · cases h
/-- an instruction's words stand as its row says -/
def lkB (own : Nat) (nm : String) (nL : Nat) (ret : Option FieldType) (e : El) : Bool := match e with
  | (pc, len, _, ins, a, bb, c, ts) => match ins with
    | .aload_n k => decide (len = 1 ∧ a = (k : Nat))
    | .iload_n k => decide (len = 1 ∧ a = (k : Nat))
    | .lload_n k => decide (len = 1 ∧ a = (k : Nat))
    | .aload k => decide (len = 2 ∧ a = k)
    | .iload k => decide (len = 2 ∧ a = k)
    | .lload k => decide (len = 2 ∧ a = k)
    | .istore_n k => decide (len = 1 ∧ a = (k : Nat) ∧ a < nL)
    | .astore_n k => decide (len = 1 ∧ a = (k : Nat) ∧ a < nL)
    | .lstore_n k => decide (len = 1 ∧ a = (k : Nat) ∧ a + 1 < nL)
    | .istore k => decide (len = 2 ∧ a = k ∧ a < nL)
    | .astore k => decide (len = 2 ∧ a = k ∧ a < nL)
    | .lstore k => decide (len = 2 ∧ a = k ∧ a + 1 < nL)
    | .iconst n => decide (len = 1 ∧ ((c = 0 ∧ n = (a : Int)) ∨ (1 ≤ c ∧ n = -1)))
    | .bipush n => decide (len = 2 ∧ n = (a : Int) ∧ a ≤ 127)
    | .sipush n => decide (len = 3 ∧ n = (a : Int) ∧ a ≤ 32767)
    | .lconst n => decide (len = 1 ∧ a = (n : Nat))
    | .ldc i => decide (len = 2 ∧ own < 14 ∧ ((c = 0 ∧ (own, i, a) ∈ ow_cst) ∨ (1 ≤ c ∧ (own, i, a) ∈ ow_strs ∧ a < 1000)))
    | .ldc_w i => decide (len = 3 ∧ c = 0 ∧ (own, i, a) ∈ ow_cst)
    | .ldc2_w i => decide (len = 3 ∧ ((c = 0 ∧ (own, i, (a : Int)) ∈ ow_cstl) ∨ (1 ≤ c ∧ (own, i, - (a : Int)) ∈ ow_cstl)))
    | .iinc k n => decide (len = 3 ∧ a = k ∧ ((c = 0 ∧ n = (bb : Int)) ∨ (1 ≤ c ∧ n = - (bb : Int))))
    | .goto off => decide (len = 3 ∧ (pc : Int) + off = (a : Int))
    | .if_icmp _ off => decide (len = 3 ∧ (pc : Int) + off = (a : Int))
    | .ifCond _ off => decide (len = 3 ∧ (pc : Int) + off = (a : Int))
    | .ifnonnull off => decide (len = 3 ∧ (pc : Int) + off = (a : Int))
    | .ifnull off => decide (len = 3 ∧ (pc : Int) + off = (a : Int))
    | .tableswitch d lo hi offs => decide ((pc : Int) + d = (a : Int) ∧ lo = (bb : Int) ∧ hi + 1 = (bb : Int) + (ts.length : Int) ∧ bb + ts.length ≤ 1000 ∧ offs.toList.map (fun o => (pc : Int) + o) = ts.map Int.ofNat)
    | .lookupswitch d ps => decide ((pc : Int) + d = (a : Int) ∧ ps.toList.map (fun q => (q.1, (pc : Int) + q.2)) = (pairs ts).map (fun q => (q.1, (q.2 : Int))) ∧ (∀ q ∈ pairs ts, 0 ≤ q.1 ∧ q.1 < 1000) ∧ oddB ts = true ∧ (ps.toList.zip (ps.toList.drop 1)).all (fun (a, next) => a.1 < next.1) = true)
    | .getfield i => decide (len = 3 ∧ own < 14 ∧ a < 12 ∧ bb < ow_N a ∧ c = ow_fc a bb ∧ ((i, a, bb) ∈ ow_f0 own ∨ (i, a, bb) ∈ ow_f1 own))
    | .putfield i => decide (len = 3 ∧ own < 14 ∧ a < 12 ∧ bb < ow_N a ∧ c = ow_fc a bb ∧ (i, a, bb) ∈ ow_f0 own ∧ (2 ≤ c → nm = "<init>" ∧ ow_on own = ow_on a))
    | .new i => decide (len = 3 ∧ own < 14 ∧ c = 0 ∧ a < 12 ∧ bb = ow_N a ∧ (i, a) ∈ ow_h own)
    | .newarray t => decide (len = 2 ∧ ((a = 12 ∧ t = .int) ∨ (a = 13 ∧ t = .boolean) ∨ (a = 14 ∧ t = .long)))
    | .multianewarray i k => decide (len = 4 ∧ k = 2 ∧ ((a = 15 ∧ (own, i) ∈ ow_maI) ∨ (a = 16 ∧ (own, i) ∈ ow_maZ)))
    | .anewarray i => decide (len = 3 ∧ own < 14 ∧ (i, 0) ∈ ow_h own)
    | .invokespecial i => decide (len = 3 ∧ own < 14 ∧ ((c = 9 ∧ (own, i) ∈ ow_oi) ∨ (c = 1 ∧ cmB a = true ∧ a ∈ ow_imm ∧ (ow_y a).name = "<init>" ∧ ow_r a = none ∧ bb = ow_np a + 1 ∧ (i, a) ∈ ow_g0 own)))
    | .invokestatic i => decide (len = 3 ∧ own < 14 ∧ ((c = 4 ∧ (own, i) ∈ ow_mmin) ∨ (c = 5 ∧ (own, i) ∈ ow_mmax) ∨ (c ≤ 1 ∧ cmB a = true ∧ a ∈ ow_sm ∧ bb = ow_np a ∧ ((i, a) ∈ ow_g0 own ∨ (i, a) ∈ ow_g1 own))))
    | .invokevirtual i => decide (len = 3 ∧ own < 14 ∧ c ≤ 1 ∧ cmB a = true ∧ a ∈ ow_imm ∧ a ∈ ow_sem ∧ bb = ow_np a + 1 ∧ ((i, a) ∈ ow_g0 own ∨ (i, a) ∈ ow_g1 own)) && tsB a ts
    | .return_ => decide (len = 1 ∧ ret = none)
    | .ireturn => decide (len = 1 ∧ ((c = 0 ∧ ret = some .int) ∨ (c = 1 ∧ ret = some .boolean)))
    | .lreturn => decide (len = 1 ∧ ret = some .long)
    | .areturn => decide (len = 1) && rtB ret
    | _ => decide (len = 1)
def chB : List El → Bool
  | [] => true
  | e :: tl => (match tl with | [] => true | f :: _ => Nat.beq (e.1 + e.2.1) f.1) && chB tl
def okB (own : Nat) (nm : String) (nL : Nat) (ret : Option FieldType) (bytes : ByteArray) (code : List El) : Bool :=
  code.all (fun e => decide (decode bytes e.1 = .ok (e.2.2.2.1, e.2.1)) && (spB e || lkB own nm nL ret e)) && chB code
/-- what a method's code list must pass -/
def mtB (mm : Nat) (code : List El) : Bool := decide (mm ∈ ow_cm) && Nat.blt (ow_o mm) 14 && decide ((ow_y mm).cls = ow_on (ow_o mm)) && plainName (ow_y mm).cls && okB (ow_o mm) (ow_y mm).name (ow_x mm) (ow_r mm) (ow_b mm) code && Nat.beq (pcO code) 0
/-- no special instruction -/
def plB (code : List El) : Bool := code.all fun e => !spB e
