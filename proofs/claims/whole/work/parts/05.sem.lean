/-! THE PURE MACHINE: values, a memory of whole numbers over a fixed shape, and 'wp': what must hold before a stretch of code -/
abbrev AV : Type := Value
/-- ints by cell and place, longs, lengths of cells made late (0: none, n + 1: an int array of n), how many cells, final fields that are set -/
abbrev Mem : Type := (Nat → Nat → Int32) × (Nat → Nat → Int64) × (Nat → Nat) × Nat × List (Nat × Nat)
def rI (σ : Mem) (a k : Nat) : Int32 := σ.1 a k
def rL (σ : Mem) (a k : Nat) : Int64 := σ.2.1 a k
def mD (σ : Mem) (a : Nat) : Nat := σ.2.2.1 a
def mN (σ : Mem) : Nat := σ.2.2.2.1
def mA (σ : Mem) : List (Nat × Nat) := σ.2.2.2.2
def wI (σ : Mem) (a k : Nat) (x : Int32) : Mem := (fun b j => if b = a ∧ j = k then x else σ.1 b j, σ.2)
def wL (σ : Mem) (a k : Nat) (x : Int64) : Mem := (σ.1, fun b j => if b = a ∧ j = k then x else σ.2.1 b j, σ.2.2)
/-- n new cells of the shape, all zero -/
def nS (σ : Mem) (n : Nat) : Mem := (fun b j => if mN σ ≤ b then 0 else σ.1 b j, fun b j => if mN σ ≤ b then 0 else σ.2.1 b j, σ.2.2.1, mN σ + n, σ.2.2.2.2)
/-- a late int array -/
def nD (σ : Mem) (n : Nat) : Mem := (fun b j => if b = mN σ then 0 else σ.1 b j, σ.2.1, fun b => if b = mN σ then n + 1 else σ.2.2.1 b, mN σ + 1, σ.2.2.2.2)
/-- n cells of which nothing is known -/
def nX (σ : Mem) (n : Nat) : Mem := (σ.1, σ.2.1, fun b => if mN σ ≤ b then 0 else σ.2.2.1 b, mN σ + n, σ.2.2.2.2)
def sA (σ : Mem) (a k : Nat) : Mem := (σ.1, σ.2.1, σ.2.2.1, σ.2.2.2.1, (a, k) :: σ.2.2.2.2)
def memb : List (Nat × Nat) → Nat → Nat → Bool
  | [], _, _ => false
  | q :: l, a, k => cond (Nat.beq q.1 a && Nat.beq q.2 k) true (memb l a k)
def kind (σ : Mem) (a : Nat) : Nat := cond (Nat.blt a ow_n0) (kS a) (match mD σ a with | 0 => 18 | _ + 1 => 12)
def aLen (σ : Mem) (a : Nat) : Nat := cond (Nat.blt a ow_n0) (lS a) (mD σ a - 1)
/-- the cell is there -/
def lvB (b : Bool) (σ : Mem) (a : Nat) : Bool := cond (b && Nat.blt a ow_n0) true (Nat.blt a (mN σ))
def oOK (b : Bool) (σ : Mem) (a ci : Nat) : Bool := lvB b σ a && Nat.blt a ow_n0 && Nat.beq (kS a) ci
def asd (b : Bool) (σ : Mem) (a k : Nat) : Bool := cond b true (memb (mA σ) a k)
/-- an index into an array of a kind -/
def aOK (b : Bool) (σ : Mem) (a kd : Nat) (i : Int32) : Prop := lvB b σ a = true ∧ kind σ a = kd ∧ vp_in i (aLen σ a)
/-! locals: unknown ones hold .retAddr 0 -/
def junk : AV := .retAddr 0
def gt : List AV → Nat → AV
  | [], _ => junk
  | x :: _, 0 => x
  | _ :: t, n + 1 => gt t n
def klL (x : AV) : AV := match x with
  | .long _ => junk
  | .double _ => junk
  | v => v
/-- a local of one place is set -/
def pt : List AV → Nat → AV → List AV
  | [], _, _ => []
  | _ :: t, 0, v => v :: t
  | x :: t, 1, v => klL x :: pt t 0 v
  | x :: t, n + 2, v => x :: pt t (n + 1) v
/-- a local of two places -/
def pt2 (l : List AV) (i : Nat) (v : AV) : List AV := pt (pt l (i + 1) junk) i v
/-- a reference that isn't null -/
def rMat (r : Nat) (F : Nat → Prop) : Prop := match r with
  | 0 => False
  | w + 1 => F w
def seek : List El → Nat → List El
  | [], _ => []
  | e :: tl, t => cond (Nat.beq e.1 t) (e :: tl) (seek tl t)
def stS : List AV → Nat
  | [] => 0
  | .long _ :: t => stS t + 2
  | .double _ :: t => stS t + 2
  | _ :: t => stS t + 1
def psh (r : Option AV) (t : List AV) : List AV := match r with
  | none => t
  | some x => x :: t
def popN : Nat → List AV → List AV → (List AV → List AV → Prop) → Prop
  | 0, st, acc, k => k acc st
  | n + 1, x :: st, acc, k => popN n st (x :: acc) k
  | _ + 1, [], _, _ => False
abbrev At_t : Type := Nat → List AV → List AV → Mem → Nat → Nat → Prop
abbrev Kt : Type := List El → List AV → List AV → Mem → Nat → Nat → Prop
abbrev Cl_t : Type := Nat → Nat → Nat → List AV → Mem → (Option AV → Mem → Prop) → (Nat → Mem → Prop) → Prop
def nx (At : At_t) (K : Kt) : Kt := fun cur ls st σ u v => match cur with
  | e :: tl => cond e.2.2.1 (At e.1 ls st σ u v) (K (e :: tl) ls st σ u v)
  | [] => False
def ldA (ls : List AV) (i : Nat) (k : AV → Prop) : Prop := match gt ls i with
  | .ref x => k (.ref x)
  | .float t => k (.float t)
  | _ => False
def ldI (ls : List AV) (i : Nat) (k : Int32 → Prop) : Prop := match gt ls i with
  | .int x => k x
  | _ => False
def ldL (ls : List AV) (i : Nat) (k : Int64 → Prop) : Prop := match gt ls i with
  | .long x => k x
  | _ => False
def bin (st : List AV) (k : Int32 → Int32 → List AV → Prop) : Prop := match st with
  | .int y :: .int x :: r => k x y r
  | _ => False
def binL (st : List AV) (k : Int64 → Int64 → List AV → Prop) : Prop := match st with
  | .long y :: .long x :: r => k x y r
  | _ => False
def unI (st : List AV) (k : Int32 → List AV → Prop) : Prop := match st with
  | .int x :: r => k x r
  | _ => False
def unL (st : List AV) (k : Int64 → List AV → Prop) : Prop := match st with
  | .long x :: r => k x r
  | _ => False
def unR (st : List AV) (k : Nat → List AV → Prop) : Prop := match st with
  | .ref q :: r => k q r
  | _ => False
/-- a branch: what holds where it is taken, and where it isn't -/
def brP (c : ClassFile.Cond) (x y : Int32) (t f : Prop) : Prop := match c with
  | .eq => (x = y → t) ∧ (¬ x = y → f)
  | .ne => (¬ x = y → t) ∧ (x = y → f)
  | .lt => (x < y → t) ∧ (¬ x < y → f)
  | .ge => (y ≤ x → t) ∧ (¬ y ≤ x → f)
  | .gt => (y < x → t) ∧ (¬ y < x → f)
  | .le => (x ≤ y → t) ∧ (¬ x ≤ y → f)
def swT (x : Int32) (N : Nat → Prop) : Nat → List Nat → Prop
  | _, [] => True
  | i, t :: ts => (x = nI i → N t) ∧ swT x N (i + 1) ts
def swL (x : Int32) (N : Nat → Prop) : List Nat → Prop
  | i :: t :: ts => (x = nI i → N t) ∧ swL x N ts
  | _ => True
def swN (x : Int32) : List Nat → Prop → Prop
  | i :: _ :: ts, P => ¬ x = nI i → swN x ts P
  | _, P => P
def rowsB (q kd k : Nat) : Nat → Bool
  | 0 => true
  | n + 1 => Nat.beq (kS (q + 1 + n)) kd && Nat.beq (lS (q + 1 + n)) k && rowsB q kd k n
/-- one instruction -/
def stp (b : Bool) (code : List El) (At : At_t) (Rt : Option AV → Mem → Prop) (Hx : Nat → Nat → List AV → Mem → Nat → Nat → Prop) (Cl : Cl_t) (L : Nat) (xs : Nat → Int32) (KC KS : Nat) (K : Kt) : Kt := fun cur ls st σ u v => match cur with
  | [] => False
  | (pc, _, _, ins, a, bb, c, ts) :: tl => match ins with
    | .aload_n _ => ldA ls a fun w => nx At K tl ls (w :: st) σ u v
    | .aload _ => ldA ls a fun w => nx At K tl ls (w :: st) σ u v
    | .iload_n _ => ldI ls a fun w => nx At K tl ls (.int w :: st) σ u v
    | .iload _ => ldI ls a fun w => nx At K tl ls (.int w :: st) σ u v
    | .lload_n _ => ldL ls a fun w => nx At K tl ls (.long w :: st) σ u v
    | .lload _ => ldL ls a fun w => nx At K tl ls (.long w :: st) σ u v
    | .istore_n _ => unI st fun x r => nx At K tl (pt ls a (.int x)) r σ u v
    | .istore _ => unI st fun x r => nx At K tl (pt ls a (.int x)) r σ u v
    | .lstore_n _ => unL st fun x r => nx At K tl (pt2 ls a (.long x)) r σ u v
    | .lstore _ => unL st fun x r => nx At K tl (pt2 ls a (.long x)) r σ u v
    | .astore_n _ => (match st with
      | .ref x :: r => nx At K tl (pt ls a (.ref x)) r σ u v
      | .float x :: r => nx At K tl (pt ls a (.float x)) r σ u v
      | _ => False)
    | .astore _ => (match st with
      | .ref x :: r => nx At K tl (pt ls a (.ref x)) r σ u v
      | .float x :: r => nx At K tl (pt ls a (.float x)) r σ u v
      | _ => False)
    | .iconst _ => (match c with
      | 0 => nx At K tl ls (.int (nI a) :: st) σ u v
      | _ => nx At K tl ls (.int (-1) :: st) σ u v)
    | .bipush _ => nx At K tl ls (.int (nI a) :: st) σ u v
    | .sipush _ => nx At K tl ls (.int (nI a) :: st) σ u v
    | .lconst _ => nx At K tl ls (.long (lN a) :: st) σ u v
    | .ldc _ => (match c with
      | 0 => nx At K tl ls (.int (nI a) :: st) σ u v
      | _ => nx At K tl ls (.float (UInt32.ofNat a) :: st) σ u v)
    | .ldc_w _ => (match c with
      | 0 => nx At K tl ls (.int (nI a) :: st) σ u v
      | _ => False)
    | .ldc2_w _ => (match c with
      | 0 => nx At K tl ls (.long (lN a) :: st) σ u v
      | _ => nx At K tl ls (.long (- lN a) :: st) σ u v)
    | .iinc _ _ => ldI ls a fun x => (match c with
      | 0 => nx At K tl (pt ls a (.int (x + nI bb))) st σ u v
      | _ => nx At K tl (pt ls a (.int (x - nI bb))) st σ u v)
    | .iadd => bin st fun x y r => nx At K tl ls (.int (x + y) :: r) σ u v
    | .isub => bin st fun x y r => nx At K tl ls (.int (x - y) :: r) σ u v
    | .imul => bin st fun x y r => nx At K tl ls (.int (x * y) :: r) σ u v
    | .iand => bin st fun x y r => nx At K tl ls (.int (x &&& y) :: r) σ u v
    | .ior => bin st fun x y r => nx At K tl ls (.int (x ||| y) :: r) σ u v
    | .idiv => bin st fun x y r => (¬ y = 0) ∧ nx At K tl ls (.int (x / y) :: r) σ u v
    | .irem => bin st fun x y r => (¬ y = 0) ∧ nx At K tl ls (.int (x - x / y * y) :: r) σ u v
    | .ishl => bin st fun x y r => nx At K tl ls (.int (x <<< (y &&& 31)) :: r) σ u v
    | .ishr => bin st fun x y r => nx At K tl ls (.int (x >>> (y &&& 31)) :: r) σ u v
    | .iushr => bin st fun x y r => nx At K tl ls (.int ((x.toUInt32 >>> (y.toUInt32 &&& Int32.toUInt32 31)).toInt32) :: r) σ u v
    | .ineg => unI st fun x r => nx At K tl ls (.int (-x) :: r) σ u v
    | .i2l => unI st fun x r => nx At K tl ls (.long x.toInt64 :: r) σ u v
    | .l2i => unL st fun x r => nx At K tl ls (.int x.toInt32 :: r) σ u v
    | .ladd => binL st fun x y r => nx At K tl ls (.long (x + y) :: r) σ u v
    | .lsub => binL st fun x y r => nx At K tl ls (.long (x - y) :: r) σ u v
    | .lmul => binL st fun x y r => nx At K tl ls (.long (x * y) :: r) σ u v
    | .land => binL st fun x y r => nx At K tl ls (.long (x &&& y) :: r) σ u v
    | .lor => binL st fun x y r => nx At K tl ls (.long (x ||| y) :: r) σ u v
    | .ldiv => binL st fun x y r => (¬ y = 0) ∧ nx At K tl ls (.long (x / y) :: r) σ u v
    | .lrem => binL st fun x y r => (¬ y = 0) ∧ nx At K tl ls (.long (x - x / y * y) :: r) σ u v
    | .lcmp => binL st fun x y r => nx At K tl ls (.int (lg_cmp x y) :: r) σ u v
    | .lshl => (match st with
      | .int y :: .long x :: r => nx At K tl ls (.long (x <<< (y.toInt64 &&& 63)) :: r) σ u v
      | _ => False)
    | .lushr => (match st with
      | .int y :: .long x :: r => nx At K tl ls (.long ((x.toUInt64 >>> (y.toInt64.toUInt64 &&& Int64.toUInt64 63)).toInt64) :: r) σ u v
      | _ => False)
    | .dup => (match st with
      | .ref x :: r => nx At K tl ls (.ref x :: .ref x :: r) σ u v
      | .int x :: r => nx At K tl ls (.int x :: .int x :: r) σ u v
      | _ => False)
    | .dup2 => (match st with
      | .long x :: r => nx At K tl ls (.long x :: .long x :: r) σ u v
      | .int y :: .ref x :: r => nx At K tl ls (.int y :: .ref x :: .int y :: .ref x :: r) σ u v
      | _ => False)
    | .pop => (match st with
      | .int _ :: r => nx At K tl ls r σ u v
      | _ => False)
    | .goto _ => nx At K (seek code a) ls st σ u v
    | .if_icmp cc _ => bin st fun x y r => brP cc x y (nx At K (seek code a) ls r σ u v) (nx At K tl ls r σ u v)
    | .ifCond cc _ => unI st fun x r => brP cc x (nI 0) (nx At K (seek code a) ls r σ u v) (nx At K tl ls r σ u v)
    | .ifnonnull _ => unR st fun _ r => nx At K (seek code a) ls r σ u v
    | .ifnull _ => unR st fun _ r => nx At K tl ls r σ u v
    | .tableswitch _ _ _ _ => unI st fun x r => swT x (fun t => nx At K (seek code t) ls r σ u v) bb ts ∧ ((x < nI bb ∨ nI (bb + ts.length) ≤ x) → nx At K (seek code a) ls r σ u v)
    | .lookupswitch _ _ => unI st fun x r => swL x (fun t => nx At K (seek code t) ls r σ u v) ts ∧ swN x ts (nx At K (seek code a) ls r σ u v)
    | .getfield _ => unR st fun q r => cond (oOK b σ q a) (match c with
      | 0 => nx At K tl ls (.int (rI σ q bb) :: r) σ u v
      | 1 => nx At K tl ls (.long (rL σ q bb) :: r) σ u v
      | 2 => cond (asd b σ q bb) (rMat (rS q bb) fun w => nx At K tl ls (.ref w :: r) σ u v) False
      | _ => cond (asd b σ q bb) (nx At K tl ls (.int (nI (iSn q bb)) :: r) σ u v) False) False
    | .putfield _ => (match st with
      | x :: .ref q :: r => cond (oOK b σ q a) (match c with
        | 0 => (match x with
          | .int y => nx At K tl ls r (wI σ q bb y) u v
          | _ => False)
        | 1 => (match x with
          | .long y => nx At K tl ls r (wL σ q bb y) u v
          | _ => False)
        | 2 => (match x with
          | .ref w => cond b False (cond (Nat.beq (rS q bb) (w + 1)) (nx At K tl ls r (sA σ q bb) u v) False)
          | _ => False)
        | _ => (match x with
          | .int y => cond b False (y = nI (iSn q bb) ∧ nx At K tl ls r (sA σ q bb) u v)
          | _ => False)) False
      | _ => False)
    | .iaload => (match st with
      | .int i :: .ref q :: r => aOK b σ q 12 i ∧ nx At K tl ls (.int (rI σ q i.toNatClampNeg) :: r) σ u v
      | .int i :: .float t :: r => cond (Nat.beq t.toNat 0) (vp_in i (L - 1) ∧ nx At K tl ls (.int (xs i.toNatClampNeg) :: r) σ u v) False
      | _ => False)
    | .baload => (match st with
      | .int i :: .ref q :: r => aOK b σ q 13 i ∧ nx At K tl ls (.int (rI σ q i.toNatClampNeg) :: r) σ u v
      | _ => False)
    | .laload => (match st with
      | .int i :: .ref q :: r => aOK b σ q 14 i ∧ nx At K tl ls (.long (rL σ q i.toNatClampNeg) :: r) σ u v
      | _ => False)
    | .aaload => (match st with
      | .int i :: .ref q :: r => cond (Nat.beq (kS q) 17) (aOK b σ q 17 i ∧ cond (asd b σ q i.toNatClampNeg) (rMat (rS q i.toNatClampNeg) fun w => nx At K tl ls (.ref w :: r) σ u v) False) (aOK b σ q (kS q) i ∧ (kS q = 15 ∨ kS q = 16) ∧ nx At K tl ls (.ref (q + 1 + i.toNatClampNeg) :: r) σ u v)
      | _ => False)
    | .iastore => (match st with
      | .int x :: .int i :: .ref q :: r => aOK b σ q 12 i ∧ nx At K tl ls r (wI σ q i.toNatClampNeg x) u v
      | _ => False)
    | .bastore => (match st with
      | .int x :: .int i :: .ref q :: r => aOK b σ q 13 i ∧ nx At K tl ls r (wI σ q i.toNatClampNeg (vp_nar .boolean x)) u v
      | _ => False)
    | .lastore => (match st with
      | .long x :: .int i :: .ref q :: r => aOK b σ q 14 i ∧ nx At K tl ls r (wL σ q i.toNatClampNeg x) u v
      | _ => False)
    | .aastore => (match st with
      | .ref w :: .int i :: .ref q :: r => cond b False (aOK b σ q 17 i ∧ oOK b σ w 0 = true ∧ rS q i.toNatClampNeg = w + 1 ∧ nx At K tl ls r (sA σ q i.toNatClampNeg) u v)
      | _ => False)
    | .arraylength => (match st with
      | .ref q :: r => cond (lvB b σ q && Nat.ble 12 (kind σ q) && Nat.ble (kind σ q) 17) (nx At K tl ls (.int (nI (aLen σ q)) :: r) σ u v) False
      | .float t :: r => cond (Nat.beq t.toNat 0) (0 < L ∧ nx At K tl ls (.int (nI (L - 1)) :: r) σ u v) False
      | _ => False)
    | .new _ => (match c with
      | 0 => cond b False (cond (Nat.blt (mN σ) ow_n0 && Nat.beq (kS (mN σ)) a) (u + 1 ≤ KC ∧ v + bb ≤ KS ∧ nx At K tl ls (.ref (mN σ) :: st) (nS σ 1) (u + 1) (v + bb)) False)
      | _ => cond b (cond (Nat.ble (stS st) 8) (u + 1 ≤ KC ∧ v + 6 ≤ KS ∧ ow_n0 ≤ mN σ ∧ ∀ n, Hx pc a ls (nX σ n) (u + 1) (v + 6)) False) False)
    | .newarray _ => unI st fun x r => cond b (cond (Nat.beq a 12) (¬ x < 0 ∧ x.toNatClampNeg ≤ 1000 ∧ ow_n0 ≤ mN σ ∧ u + 1 ≤ KC ∧ v + x.toNatClampNeg ≤ KS ∧ nx At K tl ls (.ref (mN σ) :: r) (nD σ x.toNatClampNeg) (u + 1) (v + x.toNatClampNeg)) False)
        (cond (Nat.blt (mN σ) ow_n0 && Nat.beq (kS (mN σ)) a) (¬ x < 0 ∧ x.toNatClampNeg = lS (mN σ) ∧ u + 1 ≤ KC ∧ v + lS (mN σ) ≤ KS ∧ nx At K tl ls (.ref (mN σ) :: r) (nS σ 1) (u + 1) (v + lS (mN σ))) False)
    | .multianewarray _ _ => (match st with
      | .int k :: .int n :: r => cond b False (¬ k < 0 ∧ ¬ n < 0 ∧ n.toNatClampNeg = lS (mN σ) ∧ mN σ + lS (mN σ) < ow_n0 ∧ kS (mN σ) = a ∧ rowsB (mN σ) (a - 3) k.toNatClampNeg (lS (mN σ)) = true ∧ k.toNatClampNeg ≤ 1000 ∧ u + (1 + lS (mN σ)) ≤ KC ∧ v + (lS (mN σ) + lS (mN σ) * k.toNatClampNeg) ≤ KS ∧
          nx At K tl ls (.ref (mN σ) :: r) (nS σ (1 + lS (mN σ))) (u + 1 + lS (mN σ)) (v + lS (mN σ) + lS (mN σ) * k.toNatClampNeg))
      | _ => False)
    | .anewarray _ => unI st fun x r => cond b False (cond (Nat.blt (mN σ) ow_n0 && Nat.beq (kS (mN σ)) 17) (¬ x < 0 ∧ x.toNatClampNeg = lS (mN σ) ∧ u + 1 ≤ KC ∧ v + lS (mN σ) ≤ KS ∧ nx At K tl ls (.ref (mN σ) :: r) (nS σ 1) (u + 1) (v + lS (mN σ))) False)
    | .invokespecial _ => (match c with
      | 9 => unR st fun _ r => cond (Nat.ble (stS r) 8) (nx At K tl ls r σ u v) False
      | 8 => False
      | _ => popN bb st [] fun as r => cond (Nat.ble (stS r) 8) (match as with
        | .ref _ :: _ => (∃ kc ks, u + kc ≤ KC ∧ v + ks ≤ KS ∧ Cl a kc ks as σ (fun w σ' => nx At K tl ls (psh w r) σ' (u + kc) (v + ks)) (fun E σ' => Hx pc E ls σ' (u + kc) (v + ks)))
        | _ => False) False)
    | .invokestatic _ => (match c with
      | 0 => popN bb st [] fun as r => cond (Nat.ble (stS r) 8) (Cl a 0 0 as σ (fun w σ' => nx At K tl ls (psh w r) σ' u v) (fun E σ' => Hx pc E ls σ' u v)) False
      | 4 => bin st fun x y r => cond (Nat.ble (stS r) 8) (nx At K tl ls (.int (if y < x then y else x) :: r) σ u v) False
      | 5 => bin st fun x y r => cond (Nat.ble (stS r) 8) (nx At K tl ls (.int (if x < y then y else x) :: r) σ u v) False
      | 6 => False
      | _ => popN bb st [] fun as r => cond (Nat.ble (stS r) 8) (∃ kc ks, u + kc ≤ KC ∧ v + ks ≤ KS ∧ Cl a kc ks as σ (fun w σ' => nx At K tl ls (psh w r) σ' (u + kc) (v + ks)) (fun E σ' => Hx pc E ls σ' (u + kc) (v + ks))) False)
    | .invokevirtual _ => (match c with
      | 0 => popN bb st [] fun as r => cond (Nat.ble (stS r) 8) (match as, ts with
        | .ref q :: _, [_, ci] => cond (oOK b σ q ci) (Cl a 0 0 as σ (fun w σ' => nx At K tl ls (psh w r) σ' u v) (fun E σ' => Hx pc E ls σ' u v)) False
        | _, _ => False) False
      | 2 => (match st with
        | .float t :: r => cond (Nat.ble (stS r) 8 && (Nat.ble 1 t.toNat && Nat.ble t.toNat 15)) (nx At K tl ls (.int (nI (ow_ch t.toNat).length) :: r) σ u v) False
        | _ => False)
      | 3 => (match st with
        | .int i :: .float t :: r => cond (Nat.ble (stS r) 8 && (Nat.ble 1 t.toNat && Nat.ble t.toNat 15)) (vp_in i (ow_ch t.toNat).length ∧ nx At K tl ls (.int (nI ((ow_ch t.toNat).getD i.toNatClampNeg 0)) :: r) σ u v) False
        | _ => False)
      | _ => popN bb st [] fun as r => cond (Nat.ble (stS r) 8) (match as, ts with
        | .ref q :: _, [_, ci] => cond (oOK b σ q ci) (∃ kc ks, u + kc ≤ KC ∧ v + ks ≤ KS ∧ Cl a kc ks as σ (fun w σ' => nx At K tl ls (psh w r) σ' (u + kc) (v + ks)) (fun E σ' => Hx pc E ls σ' (u + kc) (v + ks))) False
        | _, _ => False) False)
    | .return_ => (match st with
      | [] => Rt none σ
      | _ => False)
    | .ireturn => (match st with
      | [.int x] => (match c with
        | 0 => Rt (some (.int x)) σ
        | _ => narrow .boolean (.int x) = .int x ∧ Rt (some (.int x)) σ)
      | _ => False)
    | .lreturn => (match st with
      | [.long x] => Rt (some (.long x)) σ
      | _ => False)
    | .areturn => (match st with
      | [.ref x] => Rt (some (.ref x)) σ
      | [.float x] => Rt (some (.float x)) σ
      | _ => False)
    | _ => False
/-- at most n instructions; a loop's head, or the end of n, is left to At -/
noncomputable def wp (b : Bool) (code : List El) (At : At_t) (Rt : Option AV → Mem → Prop) (Hx : Nat → Nat → List AV → Mem → Nat → Nat → Prop) (Cl : Cl_t) (L : Nat) (xs : Nat → Int32) (KC KS : Nat) (n : Nat) : Kt :=
  Nat.rec (motive := fun _ => Kt) (fun cur ls st σ u v => (match cur with | e :: _ => At e.1 ls st σ u v | [] => False)) (fun _ ih => stp b code At Rt Hx Cl L xs KC KS ih) n
