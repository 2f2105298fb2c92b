/-! ===== a small machine over the tables: cells are numbers, what they hold are functions; calls give all that they change ===== -/
abbrev lp_M : Type := Nat → Nat → Int32
abbrev lp_R : Type := Nat → Nat → Value
/-- how many cells there are; what their reference places hold; what their number places hold -/
abbrev lp_S : Type := Nat × lp_R × lp_M
abbrev lp_O : Type := Option (Int32 × lp_S)
abbrev lp_Q (ρ : Type) : Type := List Value → List Value → lp_S → Option ρ
abbrev lp_K : Type := lp_Q (Int32 × lp_S)
def lp_nth : List Value → Nat → Value
  | [], _ => .long 0
  | v :: _, 0 => v
  | _ :: r, n + 1 => lp_nth r n
def lp_set : List Value → Nat → Value → List Value
  | [], _, _ => []
  | _ :: r, 0, v => v :: r
  | u :: r, n + 1, v => u :: lp_set r n v
def lp_u {α : Type} (g : Nat → Nat → α) (k : Nat) (f : Nat → α) : Nat → Nat → α := fun k' => if k' = k then f else g k'
def lp_w (g : lp_M) (k j : Nat) (v : Int32) : lp_M := lp_u g k (upd (g k) j v)
def lp_wR (g : lp_R) (k j : Nat) (v : Value) : lp_R := lp_u g k (fun j' => if j' = j then v else g k j')
abbrev lp_oob (i : Int32) (n : Nat) : Prop := i < 0 ∨ n ≤ i.toNatClampNeg
/-- the bytes of the String constants -/
def lp_sb : List (List Int32) := [[115, 116, 97, 116, 101, 115], [108, 97, 109, 112], [111, 119, 110], [103, 111, 97, 108], [119, 105, 114, 101], [98, 121], [115, 116, 97, 116, 101, 115, 32], [59], [108, 97, 109, 112, 32], [32, 111, 119, 110, 32], [32, 103, 111, 97, 108, 32], [119, 105, 114, 101, 32], [32], [32, 98, 121, 32], [110, 111, 110, 101, 59], [109, 97, 110, 121, 59], [112, 114, 101, 115, 115, 32], [100, 111, 110, 101, 32]]
-- numbers, locals, the stack
def lp_xC {ρ : Type} (c : Int32) (nx : lp_Q ρ) : lp_Q ρ := fun ls stk st => nx ls (.int c :: stk) st
def lp_xS {ρ : Type} (a : Nat) (nx : lp_Q ρ) : lp_Q ρ := fun ls stk st => nx ls (.retAddr a :: stk) st
def lp_xIl {ρ : Type} (a : Nat) (nx : lp_Q ρ) : lp_Q ρ := fun ls stk st => match lp_nth ls a with
  | .int v => nx ls (.int v :: stk) st
  | _ => none
def lp_xAl {ρ : Type} (a : Nat) (nx : lp_Q ρ) : lp_Q ρ := fun ls stk st => match lp_nth ls a with
  | .ref v => nx ls (.ref v :: stk) st
  | .retAddr v => if v < 18 ∨ (100 ≤ v ∧ v < 118) ∨ v = 300 then nx ls (.retAddr v :: stk) st else none
  | _ => none
def lp_xIs {ρ : Type} (a : Nat) (nx : lp_Q ρ) : lp_Q ρ := fun ls stk st => match stk with
  | .int v :: r => nx (lp_set ls a (.int v)) r st
  | _ => none
def lp_xAs {ρ : Type} (a : Nat) (nx : lp_Q ρ) : lp_Q ρ := fun ls stk st => match stk with
  | .ref v :: r => nx (lp_set ls a (.ref v)) r st
  | _ => none
def lp_xInc {ρ : Type} (a : Nat) (c : Int32) (nx : lp_Q ρ) : lp_Q ρ := fun ls stk st => match lp_nth ls a with
  | .int v => nx (lp_set ls a (.int (v + c))) stk st
  | _ => none
def lp_x1 {ρ : Type} (f : Int32 → Int32) (nx : lp_Q ρ) : lp_Q ρ := fun ls stk st => match stk with
  | .int x :: r => nx ls (.int (f x) :: r) st
  | _ => none
def lp_x2 {ρ : Type} (f : Int32 → Int32 → Int32) (nx : lp_Q ρ) : lp_Q ρ := fun ls stk st => match stk with
  | .int y :: .int x :: r => nx ls (.int (f x y) :: r) st
  | _ => none
def lp_x2d {ρ : Type} (f : Int32 → Int32 → Int32) (nx : lp_Q ρ) : lp_Q ρ := fun ls stk st => match stk with
  | .int y :: .int x :: r => if y = 0 then none else nx ls (.int (f x y) :: r) st
  | _ => none
def lp_xDup {ρ : Type} (nx : lp_Q ρ) : lp_Q ρ := fun ls stk st => match stk with
  | .int x :: r => nx ls (.int x :: .int x :: r) st
  | .ref x :: r => nx ls (.ref x :: .ref x :: r) st
  | _ => none
def lp_xDup2 {ρ : Type} (nx : lp_Q ρ) : lp_Q ρ := fun ls stk st => match stk with
  | .int x :: .ref y :: r => nx ls (.int x :: .ref y :: .int x :: .ref y :: r) st
  | _ => none
def lp_xPop {ρ : Type} (nx : lp_Q ρ) : lp_Q ρ := fun ls stk st => match stk with
  | .int _ :: r => nx ls r st
  | _ => none
-- ways
def lp_xIf {ρ : Type} (c : Jvm.ClassFile.Cond) (a : Nat) (nx : lp_Q ρ) (jp : Nat → lp_Q ρ) : lp_Q ρ := fun ls stk st => match stk with
  | .int x :: r => match c with
    | .eq => if x = 0 then jp a ls r st else nx ls r st
    | .ne => if x = 0 then nx ls r st else jp a ls r st
    | .lt => if x < 0 then jp a ls r st else nx ls r st
    | .ge => if 0 ≤ x then jp a ls r st else nx ls r st
    | .gt => if 0 < x then jp a ls r st else nx ls r st
    | .le => if x ≤ 0 then jp a ls r st else nx ls r st
  | _ => none
def lp_xCmp {ρ : Type} (c : Jvm.ClassFile.Cond) (a : Nat) (nx : lp_Q ρ) (jp : Nat → lp_Q ρ) : lp_Q ρ := fun ls stk st => match stk with
  | .int y :: .int x :: r => match c with
    | .eq => if x = y then jp a ls r st else nx ls r st
    | .ne => if x = y then nx ls r st else jp a ls r st
    | .lt => if x < y then jp a ls r st else nx ls r st
    | .ge => if y ≤ x then jp a ls r st else nx ls r st
    | .gt => if y < x then jp a ls r st else nx ls r st
    | .le => if x ≤ y then jp a ls r st else nx ls r st
  | _ => none
def lp_xSw {ρ : Type} (a b : Nat) (t : List Nat) (jp : Nat → lp_Q ρ) : lp_Q ρ := fun ls stk st => match stk with
  | .int x :: r => if lp_oob x b then jp a ls r st else jp (t.getD x.toNatClampNeg 0) ls r st
  | _ => none
-- fields
def lp_xGI {ρ : Type} (a b : Nat) (nx : lp_Q ρ) : lp_Q ρ := fun ls stk st => match stk with
  | .ref k :: r => if (lp_sh k).1 = a ∧ k < st.1 then nx ls (.int (st.2.2 k b) :: r) st else none
  | _ => none
def lp_pR {ρ : Type} (v : Value) (nx : lp_Q ρ) : lp_Q ρ := fun ls stk st => match v with
  | .ref n => nx ls (.ref n :: stk) st
  | _ => none
def lp_xGR {ρ : Type} (a b : Nat) (nx : lp_Q ρ) : lp_Q ρ := fun ls stk st => match stk with
  | .ref k :: r => if (lp_sh k).1 = a ∧ k < st.1 then lp_pR (st.2.1 k b) nx ls r st else none
  | _ => none
def lp_xGV {ρ : Type} (nx : lp_Q ρ) : lp_Q ρ := fun ls stk st => match stk with
  | .retAddr k :: r => if k < 18 then nx ls (.retAddr (100 + k) :: r) st else none
  | _ => none
def lp_xGC {ρ : Type} (nx : lp_Q ρ) : lp_Q ρ := fun ls stk st => match stk with
  | .retAddr k :: r => if k < 18 then nx ls (.int 0 :: r) st else none
  | _ => none
def lp_xPI {ρ : Type} (a b : Nat) (nx : lp_Q ρ) : lp_Q ρ := fun ls stk st => match stk with
  | .int v :: .ref k :: r => if (lp_sh k).1 = a ∧ k < st.1 then nx ls r (st.1, st.2.1, lp_w st.2.2 k b v) else none
  | _ => none
def lp_xPZ {ρ : Type} (a b : Nat) (nx : lp_Q ρ) : lp_Q ρ := fun ls stk st => match stk with
  | .int v :: .ref k :: r => if (lp_sh k).1 = a ∧ k < st.1 then (if v = 0 ∨ v = 1 then nx ls r (st.1, st.2.1, lp_w st.2.2 k b v) else none) else none
  | _ => none
def lp_xPR {ρ : Type} (a b : Nat) (nx : lp_Q ρ) : lp_Q ρ := fun ls stk st => match stk with
  | .ref v :: .ref k :: r => if (lp_sh k).1 = a ∧ k < st.1 then nx ls r (st.1, lp_wR st.2.1 k b (.ref v), st.2.2) else none
  | _ => none
-- arrays
def lp_xIal {ρ : Type} (a : Nat) (nx : lp_Q ρ) : lp_Q ρ := fun ls stk st => match stk with
  | .int i :: .ref k :: r => if (lp_sh k).1 = a ∧ k < st.1 then (if lp_oob i (lp_sh k).2 then none else nx ls (.int (st.2.2 k i.toNatClampNeg) :: r) st) else none
  | _ => none
def lp_xScr {ρ : Type} (nx : lp_Q ρ) : lp_Q ρ := fun ls stk st => match stk with
  | .int i :: .retAddr k :: r => if k = 300 then (if st.2.2 997 0 = 1 then (if lp_oob i (st.2.2 998 0).toNatClampNeg then none else nx ls (.int (st.2.2 999 i.toNatClampNeg) :: r) st) else none) else none
  | _ => none
def lp_xStr {ρ : Type} (nx : lp_Q ρ) : lp_Q ρ := fun ls stk st => match stk with
  | .int i :: .retAddr k :: r => if 100 ≤ k ∧ k < 118 then (if lp_oob i (lp_sb.getD (k - 100) []).length then none else nx ls (.int ((lp_sb.getD (k - 100) []).getD i.toNatClampNeg 0) :: r) st) else none
  | _ => none
def lp_xAal {ρ : Type} (a : Nat) (nx : lp_Q ρ) : lp_Q ρ := fun ls stk st => match stk with
  | .int i :: .ref k :: r => if (lp_sh k).1 = a ∧ k < st.1 then (if lp_oob i (lp_sh k).2 then none else lp_pR (st.2.1 k i.toNatClampNeg) nx ls r st) else none
  | _ => none
def lp_xIas {ρ : Type} (a : Nat) (f : Int32 → Int32) (nx : lp_Q ρ) : lp_Q ρ := fun ls stk st => match stk with
  | .int x :: .int i :: .ref k :: r => if (lp_sh k).1 = a ∧ k < st.1 then (if lp_oob i (lp_sh k).2 then none else nx ls r (st.1, st.2.1, lp_w st.2.2 k i.toNatClampNeg (f x))) else none
  | _ => none
def lp_xAas {ρ : Type} (a : Nat) (nx : lp_Q ρ) : lp_Q ρ := fun ls stk st => match stk with
  | .ref v :: .int i :: .ref k :: r => if ((lp_sh k).1 = a ∧ k < st.1) ∧ (lp_sh v).1 = 3 ∧ v < st.1 then (if lp_oob i (lp_sh k).2 then none else nx ls r (st.1, lp_wR st.2.1 k i.toNatClampNeg (.ref v), st.2.2)) else none
  | _ => none
def lp_xLen {ρ : Type} (a : Nat) (nx : lp_Q ρ) : lp_Q ρ := fun ls stk st => match stk with
  | .ref k :: r => if (lp_sh k).1 = a ∧ k < st.1 then nx ls (.int (Int32.ofNat (lp_sh k).2) :: r) st else none
  | .retAddr k :: r => if a = 300 then (if k = 300 then (if st.2.2 997 0 = 1 then nx ls (.int (st.2.2 998 0) :: r) st else none) else none) else (if 100 ≤ k ∧ k < 118 then nx ls (.int (Int32.ofNat (lp_sb.getD (k - 100) []).length) :: r) st else none)
  | _ => none
-- cells that are made
def lp_grow (n : Nat) (st : lp_S) : lp_S := (st.1 + n, fun k => if st.1 ≤ k ∧ k < st.1 + n then (fun _ => .null) else st.2.1 k, fun k => if st.1 ≤ k ∧ k < st.1 + n then (fun _ => 0) else st.2.2 k)
def lp_xNew {ρ : Type} (a b : Nat) (nx : lp_Q ρ) : lp_Q ρ := fun ls stk st => if lp_sh st.1 = (a, b) then nx ls (.ref st.1 :: stk) (lp_grow 1 st) else none
def lp_xNa {ρ : Type} (a : Nat) (nx : lp_Q ρ) : lp_Q ρ := fun ls stk st => match stk with
  | .int n :: r => if lp_sh st.1 = (a, n.toNatClampNeg) ∧ ¬ n < 0 then nx ls (.ref st.1 :: r) (lp_grow 1 st) else none
  | _ => none
def lp_xMna {ρ : Type} (nx : lp_Q ρ) : lp_Q ρ := fun ls stk st => match stk with
  | .int m :: .int n :: r => if m = 10 ∧ n = 10 ∧ lp_sh st.1 = (23, 10) ∧ (∀ j, j < 10 → lp_sh (st.1 + 1 + j) = (20, 10)) then nx ls (.ref st.1 :: r) ((lp_grow 11 st).1, lp_u (lp_grow 11 st).2.1 st.1 (fun j => .ref (st.1 + 1 + j)), (lp_grow 11 st).2.2) else none
  | _ => none
-- calls
def lp_good : Value → Bool
  | .int _ => true
  | .ref _ => true
  | .retAddr _ => true
  | _ => false
def lp_cok (stk : List Value) (b : Nat) : Bool := Nat.ble b stk.length && (Nat.ble (stk.length - b) 8 && stk.all lp_good)
def lp_xCal {ρ : Type} (a b t : Nat) (cl : Nat → List Value → lp_S → List Value → List Value → Bool → Option ρ) : lp_Q ρ := fun ls stk st =>
  bif lp_cok stk b then cl a (stk.take b).reverse st ls (stk.drop b) (Nat.beq t 1) else none
/-- a call on an object of the method's class (or a String constant) -/
def lp_xCalV {ρ : Type} (a b t : Nat) (cl : Nat → List Value → lp_S → List Value → List Value → Bool → Option ρ) : lp_Q ρ := fun ls stk st =>
  bif lp_cok stk b then (match lp_nth stk (b - 1) with
    | .ref k => if (lp_sh k).1 = lp_ow a ∧ k < st.1 then cl a (stk.take b).reverse st ls (stk.drop b) (Nat.beq t 1) else none
    | .retAddr k => if lp_ow a = 13 ∧ k < 18 then cl a (stk.take b).reverse st ls (stk.drop b) (Nat.beq t 1) else none
    | _ => none) else none
def lp_xCalI {ρ : Type} (a b t : Nat) (cl : Nat → List Value → lp_S → List Value → List Value → Bool → Option ρ) : lp_Q ρ := fun ls stk st =>
  bif lp_cok stk b then (match lp_nth stk (b - 1) with
    | .ref _ => cl a (stk.take b).reverse st ls (stk.drop b) (Nat.beq t 1)
    | _ => none) else none
def lp_xObj {ρ : Type} (nx : lp_Q ρ) : lp_Q ρ := fun ls stk st => match stk with
  | [.ref _] => nx ls [] st
  | _ => none
def lp_xCpy {ρ : Type} (nx : lp_Q ρ) : lp_Q ρ := fun ls stk st => match stk with
  | [.int n, .int dp, .ref d, .int sp, .ref q] => if ((lp_sh q).1 = 20 ∧ q < st.1) ∧ (lp_sh d).1 = 20 ∧ d < st.1 then (if (sp < 0 ∨ dp < 0 ∨ n < 0) ∨ (lp_sh q).2 < sp.toNatClampNeg + n.toNatClampNeg ∨ (lp_sh d).2 < dp.toNatClampNeg + n.toNatClampNeg then none else nx ls [] (st.1, st.2.1, lp_u st.2.2 d (va_cpy (st.2.2 q) (st.2.2 d) sp.toNatClampNeg dp.toNatClampNeg n.toNatClampNeg))) else none
  | _ => none
/-- Math.max, Math.min -/
def lp_xMax {ρ : Type} (nx : lp_Q ρ) : lp_Q ρ := fun ls stk st => bif lp_cok stk 2 then lp_x2 (fun x y => if x < y then y else x) nx ls stk st else none
def lp_xMin {ρ : Type} (nx : lp_Q ρ) : lp_Q ρ := fun ls stk st => bif lp_cok stk 2 then lp_x2 (fun x y => if y < x then y else x) nx ls stk st else none
def lp_xRet {ρ : Type} (a : Nat) (rt : Int32 → lp_S → Option ρ) : lp_Q ρ := fun _ stk st => match stk with
  | [.int v] => match a with
    | 0 => rt v st
    | 1 => if v = 0 ∨ v = 1 then rt v st else none
    | 3 => if v.toInt8.toInt32 = v then rt v st else none
    | _ => if v &&& 255 = v then rt v st else none
  | _ => none
def lp_xVret {ρ : Type} (rt : Int32 → lp_S → Option ρ) : lp_Q ρ := fun _ stk st => match stk with
  | [] => rt 0 st
  | _ => none
def lp_x0 {ρ : Type} : lp_Q ρ := fun _ _ _ => none
/-- one instruction, what comes behind it given: nx the next one, jp another one, cl a call and what comes behind it, rt the end -/
def lp_i {ρ : Type} (nx : lp_Q ρ) (jp : Nat → lp_Q ρ) (cl : Nat → List Value → lp_S → List Value → List Value → Bool → Option ρ) (rt : Int32 → lp_S → Option ρ) (ins : Instr) (a b : Nat) (c : Int32) (t : List Nat) : lp_Q ρ := match ins with
  | .aload _ => lp_xAl a nx
  | .aload_n _ => lp_xAl a nx
  | .iload _ => lp_xIl a nx
  | .iload_n _ => lp_xIl a nx
  | .astore _ => lp_xAs a nx
  | .astore_n _ => lp_xAs a nx
  | .istore _ => lp_xIs a nx
  | .istore_n _ => lp_xIs a nx
  | .iinc _ _ => lp_xInc a c nx
  | .iconst _ => lp_xC c nx
  | .bipush _ => lp_xC c nx
  | .sipush _ => lp_xC c nx
  | .ldc _ => bif Nat.beq (t.getD 0 0) 0 then lp_xC c nx else lp_xS a nx
  | .ldc_w _ => bif Nat.beq (t.getD 0 0) 0 then lp_xC c nx else lp_xS a nx
  | .iadd => lp_x2 (fun x y => x + y) nx
  | .isub => lp_x2 (fun x y => x - y) nx
  | .imul => lp_x2 (fun x y => x * y) nx
  | .idiv => lp_x2d (fun x y => x / y) nx
  | .irem => lp_x2d (fun x y => x - x / y * y) nx
  | .iand => lp_x2 (fun x y => x &&& y) nx
  | .ior => lp_x2 (fun x y => x ||| y) nx
  | .ixor => lp_x2 (fun x y => x ^^^ y) nx
  | .ishl => lp_x2 (fun x y => x <<< (y &&& 31)) nx
  | .ishr => lp_x2 (fun x y => x >>> (y &&& 31)) nx
  | .iushr => lp_x2 (fun x y => (x.toUInt32 >>> (y.toUInt32 &&& Int32.toUInt32 31)).toInt32) nx
  | .i2b => lp_x1 (fun x => x.toInt8.toInt32) nx
  | .i2c => lp_x1 (fun x => (x.toUInt32 % 65536).toInt32) nx
  | .dup => lp_xDup nx
  | .dup2 => lp_xDup2 nx
  | .pop => lp_xPop nx
  | .goto _ => jp a
  | .ifCond c _ => lp_xIf c a nx jp
  | .if_icmp c _ => lp_xCmp c a nx jp
  | .tableswitch _ _ _ _ => lp_xSw a b t jp
  | .getfield _ => match t.getD 0 0 with
    | 0 => lp_xGI a b nx
    | 1 => lp_xGR a b nx
    | 2 => lp_xGV nx
    | _ => lp_xGC nx
  | .putfield _ => match t.getD 0 0 with
    | 0 => lp_xPI a b nx
    | 1 => lp_xPR a b nx
    | _ => lp_xPZ a b nx
  | .getstatic _ => bif Nat.beq (t.getD 0 0) 0 then lp_xC 1 nx else lp_xS 200 nx
  | .iaload => bif Nat.beq a 300 then lp_xScr nx else lp_xIal 20 nx
  | .baload => bif Nat.beq a 100 then lp_xStr nx else bif Nat.beq a 21 then lp_xIal 21 nx else lp_xIal 22 nx
  | .aaload => bif Nat.beq a 23 then lp_xAal 23 nx else lp_xAal 24 nx
  | .iastore => lp_xIas 20 (fun x => x) nx
  | .bastore => bif Nat.beq a 21 then lp_xIas 21 (vp_nar .byte) nx else lp_xIas 22 (vp_nar .boolean) nx
  | .aastore => lp_xAas 24 nx
  | .arraylength => lp_xLen a nx
  | .new _ => lp_xNew a b nx
  | .newarray _ => lp_xNa a nx
  | .anewarray _ => lp_xNa a nx
  | .multianewarray _ _ => lp_xMna nx
  | .invokevirtual _ => lp_xCalV a b (t.getD 1 0) cl
  | .invokestatic _ => match t.getD 0 0 with
    | 6 => lp_xCpy nx
    | 7 => lp_xMax nx
    | 8 => lp_xMin nx
    | 9 => lp_x0
    | _ => lp_xCal a b (t.getD 1 0) cl
  | .invokespecial _ => match t.getD 0 0 with
    | 5 => lp_xObj nx
    | _ => lp_xCalI a b (t.getD 1 0) cl
  | .ireturn => lp_xRet a rt
  | .return_ => lp_xVret rt
  | _ => lp_x0
def lp_f1 : List lp_E → Nat → Option lp_E
  | [], _ => none
  | e :: r, pc => bif Nat.beq e.1 pc then some e else lp_f1 r pc
def lp_f2 : List (Nat × List lp_E) → Nat → Option lp_E
  | [], _ => none
  | q :: r, pc => bif Nat.ble q.1 pc then lp_f2 r pc else lp_f1 q.2 pc
/-- instructions one behind another, up to a start (a loop's head, what comes behind a call), an end -/
def lp_seg (call : Nat → List Value → lp_S → lp_O) (back : Nat → lp_K) (C : List (Nat × List lp_E)) : Nat → Nat → lp_K
  | 0, _ => fun _ _ _ => none
  | k + 1, pc => match lp_f2 C pc with
    | none => fun _ _ _ => none
    | some (_, (ins, len), a, b, c, t, fl) => lp_i (bif Nat.beq (fl % 2) 1 then back (pc + len) else lp_seg call back C k (pc + len)) (fun z => bif Nat.ble 2 fl then back z else lp_seg call back C k z) (fun m as st ls rest q => (call m as st).bind fun x => back (pc + len) ls (bif q then .int x.1 :: rest else rest) x.2) (fun r st => some (r, st)) ins a b c t
/-- n starts -/
def lp_bk (call : Nat → List Value → lp_S → lp_O) (C : List (Nat × List lp_E)) : Nat → Nat → lp_K
  | 0 => fun _ _ _ _ => none
  | n + 1 => fun pc => lp_seg call (lp_bk call C n) C 1200 pc
def lp_ini (m : Nat) (args : List Value) : List Value := args ++ List.replicate (lp_mx m - args.length) (.long 0)
/-- a method, calls d deep, n starts in each -/
def lp_run : Nat → Nat → Nat → List Value → lp_S → lp_O
  | 0, _ => fun _ _ _ => none
  | d + 1, n => fun m args st => bif Nat.ble args.length (lp_mx m) && (args.all lp_good && !Nat.beq (lp_ow m) 12) then lp_bk (lp_run d n) (lp_cd m) n 0 (lp_ini m args) [] st else none
/-- what one instruction does: on to the next one, to another one, a call, the end -/
abbrev lp_Out : Type := (List Value × List Value × lp_S) ⊕ (Nat × List Value × List Value × lp_S) ⊕ (Nat × List Value × lp_S × List Value × List Value × Bool) ⊕ (Int32 × lp_S)
def lp_st (ins : Instr) (a b : Nat) (c : Int32) (t : List Nat) : lp_Q lp_Out := lp_i (fun ls stk st => some (.inl (ls, stk, st))) (fun z ls stk st => some (.inr (.inl (z, ls, stk, st)))) (fun m as st ls rest q => some (.inr (.inr (.inl (m, as, st, ls, rest, q))))) (fun r st => some (.inr (.inr (.inr (r, st))))) ins a b c t
def lp_go {ρ : Type} (nx : lp_Q ρ) (jp : Nat → lp_Q ρ) (cl : Nat → List Value → lp_S → List Value → List Value → Bool → Option ρ) (rt : Int32 → lp_S → Option ρ) : lp_Out → Option ρ
  | .inl x => nx x.1 x.2.1 x.2.2
  | .inr (.inl x) => jp x.1 x.2.1 x.2.2.1 x.2.2.2
  | .inr (.inr (.inl x)) => cl x.1 x.2.1 x.2.2.1 x.2.2.2.1 x.2.2.2.2.1 x.2.2.2.2.2
  | .inr (.inr (.inr x)) => rt x.1 x.2
