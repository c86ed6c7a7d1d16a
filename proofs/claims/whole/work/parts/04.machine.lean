/-! ===== A SMALL MACHINE over the cells of the class and the model: its state holds numbers alone; what it does the real machine does (part 05) ===== -/
abbrev zS : Type := (Nat → Nat → Int32) × (Nat → Nat → Int64)
/-- how many cells are made, and which references are set -/
abbrev zG : Type := Nat × (Nat → Nat → Bool)
/-- all cells are made, and the references are taken as set -/
def zsd (g : zG) : Bool := Nat.beq g.1 zNC && g.2 999 0
abbrev zX : Type := zG × (Nat × Nat) × Nat × zS × List (Option Value) × List Value
abbrev zR : Type := Option Value × zG × zS
abbrev zA : Type := Option (zX ⊕ (zR ⊕ (zX × (zR → Option zX))))
/-- the script: its numbers and its length -/
abbrev zSc : Type := (Nat → Int32) × Nat
def zw1 (S : zS) (c i : Nat) (x : Int32) : zS := (fun d => if d = c then upd (S.1 d) i x else S.1 d, S.2)
def zw2 (S : zS) (c i : Nat) (x : Int64) : zS := (S.1, fun d => if d = c then vp_updL (S.2 d) i x else S.2 d)
/-- a new cell -/
def zw0 (S : zS) (c : Nat) : zS := (fun d => if d = c then fun _ => 0 else S.1 d, fun d => if d = c then fun _ => 0 else S.2 d)
def zwc1 (S : zS) (c : Nat) (f : Nat → Int32) : zS := (fun d => if d = c then f else S.1 d, S.2)
def zwc2 (S : zS) (c : Nat) (f : Nat → Int64) : zS := (S.1, fun d => if d = c then f else S.2 d)
def zwf (f : Nat → Nat → Bool) (c i : Nat) : Nat → Nat → Bool := fun d j => cond (Nat.beq d c && Nat.beq j i) true (f d j)
def zfetch : List zP → Nat → Option zP
  | [], _ => none
  | o :: r, pc => cond (Nat.beq o.1 pc) (some o) (zfetch r pc)
def znl : Option Value → Bool
  | some (.long _) => false
  | some (.double _) => false
  | _ => true
def zwd : Value → Nat
  | .long _ => 2
  | .double _ => 2
  | _ => 1
def zsum : List Value → Nat
  | [] => 0
  | v :: r => zwd v + zsum r
def zrefok (n : Nat) : Value → Bool
  | .ref c => Nat.blt c n || Nat.blt 999 c
  | _ => true
def zrefoko (n : Nat) : Option Value → Bool
  | some v => zrefok n v
  | none => true
def zargs : List Value → List (Option Value)
  | [] => []
  | .long x :: r => some (.long x) :: none :: zargs r
  | .double x :: r => some (.double x) :: none :: zargs r
  | v :: r => some v :: zargs r
def zpad : Nat → List (Option Value) → List (Option Value)
  | 0, l => l
  | n + 1, [] => none :: zpad n []
  | n + 1, o :: r => o :: zpad n r
def zloc (n : Nat) (a : List Value) : List (Option Value) := zpad n (zargs a)
def znx (g : zG) (ML : Nat × Nat) (pc : Nat) (S : zS) (lv : List (Option Value)) (st : List Value) : zA := some (.inl (g, ML, pc, S, lv, st))
def zsw (x : Int32) (d : Nat) : List (Int32 × Nat) → Nat
  | [] => d
  | (k, t) :: r => if x = k then t else zsw x d r
def ztab (pc : Nat) (lo : Int) : List Int → List (Int32 × Nat)
  | [] => []
  | o :: r => (Int32.ofInt lo, ((pc : Int) + o).toNat) :: ztab pc (lo + 1) r
def zlks (pc : Nat) : List (Int × Int) → List (Int32 × Nat)
  | [] => []
  | (k, o) :: r => (Int32.ofInt k, ((pc : Int) + o).toNat) :: zlks pc r
/-- what stands on the stack behind an instruction that looks at the stack alone -/
def zpure (ins : Instr) (v : Int32) (a : Nat) (st : List Value) : Option (List Value) :=
  match ins with
  | .iconst _ => some (.int v :: st)
  | .bipush _ => some (.int v :: st)
  | .sipush _ => some (.int v :: st)
  | .ldc _ => some (.int v :: st)
  | .ldc_w _ => some (.int v :: st)
  | .lconst n => some (.long (Int64.ofNat n) :: st)
  | .ldc2_w _ => some (.long (zlc a) :: st)
  | .iadd => match st with | .int y :: .int x :: r => some (.int (x + y) :: r) | _ => none
  | .isub => match st with | .int y :: .int x :: r => some (.int (x - y) :: r) | _ => none
  | .imul => match st with | .int y :: .int x :: r => some (.int (x * y) :: r) | _ => none
  | .iand => match st with | .int y :: .int x :: r => some (.int (x &&& y) :: r) | _ => none
  | .ior => match st with | .int y :: .int x :: r => some (.int (x ||| y) :: r) | _ => none
  | .ixor => match st with | .int y :: .int x :: r => some (.int (x ^^^ y) :: r) | _ => none
  | .ineg => match st with | .int x :: r => some (.int (-x) :: r) | _ => none
  | .ishl => match st with | .int y :: .int x :: r => some (.int (x <<< (y &&& 31)) :: r) | _ => none
  | .ishr => match st with | .int y :: .int x :: r => some (.int (x >>> (y &&& 31)) :: r) | _ => none
  | .iushr => match st with | .int y :: .int x :: r => some (.int (x.toUInt32 >>> (y.toUInt32 &&& Int32.toUInt32 31)).toInt32 :: r) | _ => none
  | .i2l => match st with | .int x :: r => some (.long x.toInt64 :: r) | _ => none
  | .l2i => match st with | .long x :: r => some (.int x.toInt32 :: r) | _ => none
  | .i2b => match st with | .int x :: r => some (.int x.toInt8.toInt32 :: r) | _ => none
  | .i2s => match st with | .int x :: r => some (.int x.toInt16.toInt32 :: r) | _ => none
  | .lshl => match st with | .int y :: .long x :: r => some (.long (x <<< (y.toInt64 &&& 63)) :: r) | _ => none
  | .land => match st with | .long y :: .long x :: r => some (.long (x &&& y) :: r) | _ => none
  | .lor => match st with | .long y :: .long x :: r => some (.long (x ||| y) :: r) | _ => none
  | .lcmp => match st with | .long y :: .long x :: r => some (.int (lg_cmp x y) :: r) | _ => none
  | .dup => match st with | .int x :: r => some (.int x :: .int x :: r) | .ref x :: r => some (.ref x :: .ref x :: r) | _ => none
  | .dup2 => match st with | .int x :: .ref y :: r => some (.int x :: .ref y :: .int x :: .ref y :: r) | _ => none
  | _ => none
def zld (lv : List (Option Value)) (i : Nat) (st : List Value) : Option (List Value) :=
  match lv[i]? with
  | some (some v) => some (v :: st)
  | _ => none
/-- a value of the kind that is asked for: 0 an int, 1 a long, 2 a reference -/
def zis : Nat → Value → Bool
  | 0, .int _ => true
  | 1, .long _ => true
  | 2, .ref _ => true
  | _, _ => false
def zldk (k : Nat) (lv : List (Option Value)) (i : Nat) (st : List Value) : Option (List Value) :=
  match lv[i]? with
  | some (some v) => cond (zis k v) (some (v :: st)) none
  | _ => none
def zres (g : zG) (ML : Nat × Nat) (pc : Nat) (lv : List (Option Value)) (st : List Value) (k : Nat) (r : zR) : Option zX :=
  match k with
  | 0 => match r.1 with | none => some (cond (zsd g) g r.2.1, ML, pc, r.2.2, lv, st) | _ => none
  | 2 => match r.1 with | some (.long x) => some (cond (zsd g) g r.2.1, ML, pc, r.2.2, lv, .long x :: st) | _ => none
  | _ => match r.1 with | some (.int x) => some (cond (zsd g) g r.2.1, ML, pc, r.2.2, lv, .int x :: st) | _ => none
def zrcv (g : zG) (b : Nat) : List Value → Bool
  | .ref c :: _ => Nat.blt c g.1 && Nat.beq (zK c) 0 && Nat.beq (zC c) b
  | _ => false
/-- a call of method a -/
def zcall (g : zG) (ML : Nat × Nat) (pc : Nat) (S : zS) (lv : List (Option Value)) (a : Nat) (args rest : List Value) : zA :=
  cond (Nat.beq args.length (zna a) && (zst a || zrcv g (zow a) args) && (Nat.ble (zsum args) (zpn a) || args.all (fun v => znl (some v))) && Nat.ble (zsum args) (zml a) && Nat.ble (zsum rest) 8 && (Nat.beq g.1 zNC || (lv.all (zrefoko g.1) && rest.all (zrefok g.1))) && args.all (zrefok g.1) && Nat.blt (zlv a args S) ML.2)
    (some (.inr (.inr ((g, (a, zlv a args S), 0, S, zloc (zml a) args, []), zres g ML pc lv rest (zrk a))))) none
def zfld (g : zG) (S : zS) (c a b : Nat) : Option Value :=
  cond (Nat.blt c g.1 && Nat.beq (zK c) 0 && Nat.beq (zC c) b && Nat.blt a (zNf b))
    (match zF c a with
      | some t => cond (g.2 c a) (some (.ref t)) none
      | none => some (.int (S.1 c a))) none
def zput (g : zG) (ML : Nat × Nat) (pc : Nat) (S : zS) (lv : List (Option Value)) (a b : Nat) (st : List Value) : zA :=
  match st with
  | .int x :: .ref c :: r => cond (Nat.blt c g.1 && Nat.beq (zK c) 0 && Nat.beq (zC c) b && Nat.blt a (zNf b) && (zF c a).isNone && (!(zB b a) || (decide (x = 0) || decide (x = 1)))) (znx g ML pc (zw1 S c a x) lv r) none
  | .ref t :: .ref c :: r => cond (Nat.blt c g.1 && Nat.beq (zK c) 0 && Nat.beq (zC c) b && Nat.blt a (zNf b) && (match zF c a with | some u => Nat.beq u t | none => false) && Nat.blt t g.1 && !(zsd g)) (znx (g.1, zwf g.2 c a) ML pc S lv r) none
  | _ => none
def zaload (sc : zSc) (g : zG) (ML : Nat × Nat) (pc : Nat) (S : zS) (lv : List (Option Value)) (c : Nat) (i : Int32) (r : List Value) : zA :=
  cond (Nat.blt c g.1)
    (cond (Nat.beq (zK c) 1) (if i < 0 ∨ zN c ≤ i.toNatClampNeg then none else znx g ML pc S lv (.int (S.1 c i.toNatClampNeg) :: r)) none)
    (cond (Nat.beq c 1010) (cond (Nat.beq ML.1 zm_L_law) (if i < 0 ∨ sc.2 ≤ i.toNatClampNeg then none else znx g ML pc S lv (.int (sc.1 i.toNatClampNeg) :: r)) none)
      (cond (Nat.blt 999 c && Nat.blt c 1004) (if i < 0 ∨ zsN (c - 1000) ≤ i.toNatClampNeg then none else znx g ML pc S lv (.int (zsf (c - 1000) i.toNatClampNeg) :: r)) none))
/-- one instruction -/
def zexe (sc : zSc) (g : zG) (ML : Nat × Nat) (pc : Nat) (S : zS) (lv : List (Option Value)) (st : List Value) (ins : Instr) (len a b : Nat) (v : Int32) : zA :=
  match ins with
  | .iload i => match zldk 0 lv i st with | some s2 => znx g ML (pc + len) S lv s2 | none => none
  | .iload_n i => match zldk 0 lv i st with | some s2 => znx g ML (pc + len) S lv s2 | none => none
  | .lload i => match zldk 1 lv i st with | some s2 => znx g ML (pc + len) S lv s2 | none => none
  | .lload_n i => match zldk 1 lv i st with | some s2 => znx g ML (pc + len) S lv s2 | none => none
  | .aload i => match zldk 2 lv i st with | some s2 => znx g ML (pc + len) S lv s2 | none => none
  | .aload_n i => match zldk 2 lv i st with | some s2 => znx g ML (pc + len) S lv s2 | none => none
  | .istore i => match st with | .int x :: r => cond (!(Nat.ble (zpn ML.1) i) || !(Nat.blt i (zml ML.1))) none (znx g ML (pc + len) S (lv.set i (some (.int x))) r) | _ => none
  | .istore_n i => match st with | .int x :: r => cond (!(Nat.ble (zpn ML.1) i) || !(Nat.blt i (zml ML.1))) none (znx g ML (pc + len) S (lv.set i (some (.int x))) r) | _ => none
  | .astore i => match st with | .ref x :: r => cond (!(Nat.ble (zpn ML.1) i) || !(Nat.blt i (zml ML.1))) none (znx g ML (pc + len) S (lv.set i (some (.ref x))) r) | _ => none
  | .astore_n i => match st with | .ref x :: r => cond (!(Nat.ble (zpn ML.1) i) || !(Nat.blt i (zml ML.1))) none (znx g ML (pc + len) S (lv.set i (some (.ref x))) r) | _ => none
  | .iinc i _ => match lv[i]? with | some (some (.int x)) => cond (!(Nat.ble (zpn ML.1) i) || !(Nat.blt i (zml ML.1))) none (znx g ML (pc + len) S (lv.set i (some (.int (x + v)))) st) | _ => none
  | .goto _ => znx g ML a S lv st
  | .ifCond .eq _ => match st with | .int x :: r => znx g ML (if x = 0 then a else pc + len) S lv r | _ => none
  | .ifCond .ne _ => match st with | .int x :: r => znx g ML (if x ≠ 0 then a else pc + len) S lv r | _ => none
  | .ifCond .lt _ => match st with | .int x :: r => znx g ML (if x < 0 then a else pc + len) S lv r | _ => none
  | .ifCond .ge _ => match st with | .int x :: r => znx g ML (if 0 ≤ x then a else pc + len) S lv r | _ => none
  | .ifCond .gt _ => match st with | .int x :: r => znx g ML (if 0 < x then a else pc + len) S lv r | _ => none
  | .ifCond .le _ => match st with | .int x :: r => znx g ML (if x ≤ 0 then a else pc + len) S lv r | _ => none
  | .if_icmp .eq _ => match st with | .int y :: .int x :: r => znx g ML (if x = y then a else pc + len) S lv r | _ => none
  | .if_icmp .ne _ => match st with | .int y :: .int x :: r => znx g ML (if x ≠ y then a else pc + len) S lv r | _ => none
  | .if_icmp .lt _ => match st with | .int y :: .int x :: r => znx g ML (if x < y then a else pc + len) S lv r | _ => none
  | .if_icmp .ge _ => match st with | .int y :: .int x :: r => znx g ML (if y ≤ x then a else pc + len) S lv r | _ => none
  | .if_icmp .gt _ => match st with | .int y :: .int x :: r => znx g ML (if y < x then a else pc + len) S lv r | _ => none
  | .if_icmp .le _ => match st with | .int y :: .int x :: r => znx g ML (if x ≤ y then a else pc + len) S lv r | _ => none
  | .idiv => match st with | .int y :: .int x :: r => (if y = 0 then none else znx g ML (pc + len) S lv (.int (x / y) :: r)) | _ => none
  | .irem => match st with | .int y :: .int x :: r => (if y = 0 then none else znx g ML (pc + len) S lv (.int (x - x / y * y) :: r)) | _ => none
  | .tableswitch d lo _ offs => match st with | .int x :: r => znx g ML (zsw x ((pc : Int) + d).toNat (ztab pc lo offs.toList)) S lv r | _ => none
  | .lookupswitch d ps => match st with | .int x :: r => znx g ML (zsw x ((pc : Int) + d).toNat (zlks pc ps.toList)) S lv r | _ => none
  | .getfield _ => match st with | .ref c :: r => (match zfld g S c a b with | some w => znx g ML (pc + len) S lv (w :: r) | none => none) | _ => none
  | .putfield _ => zput g ML (pc + len) S lv a b st
  | .getstatic _ => znx g ML (pc + len) S lv (.ref (1000 + a) :: st)
  | .iaload => match st with | .int i :: .ref c :: r => zaload sc g ML (pc + len) S lv c i r | _ => none
  | .baload => match st with | .int i :: .ref c :: r => cond (Nat.blt c g.1 && Nat.beq (zK c) 3) (if i < 0 ∨ zN c ≤ i.toNatClampNeg then none else znx g ML (pc + len) S lv (.int (S.1 c i.toNatClampNeg) :: r)) none | _ => none
  | .laload => match st with | .int i :: .ref c :: r => cond (Nat.blt c g.1 && Nat.beq (zK c) 2) (if i < 0 ∨ zN c ≤ i.toNatClampNeg then none else znx g ML (pc + len) S lv (.long (S.2 c i.toNatClampNeg) :: r)) none | _ => none
  | .aaload => match st with
    | .int i :: .ref c :: r => cond (Nat.blt c g.1 && Nat.beq (zK c) 4) (if i < 0 ∨ zN c ≤ i.toNatClampNeg then none else (match zF c i.toNatClampNeg with | some t => cond (g.2 c i.toNatClampNeg) (znx g ML (pc + len) S lv (.ref t :: r)) none | none => none)) none
    | _ => none
  | .iastore => match st with | .int x :: .int i :: .ref c :: r => cond (Nat.blt c g.1 && Nat.beq (zK c) 1) (if i < 0 ∨ zN c ≤ i.toNatClampNeg then none else znx g ML (pc + len) (zw1 S c i.toNatClampNeg x) lv r) none | _ => none
  | .bastore => match st with | .int x :: .int i :: .ref c :: r => cond (Nat.blt c g.1 && Nat.beq (zK c) 3) (if i < 0 ∨ zN c ≤ i.toNatClampNeg then none else znx g ML (pc + len) (zw1 S c i.toNatClampNeg (vp_nar .boolean x)) lv r) none | _ => none
  | .lastore => match st with | .long x :: .int i :: .ref c :: r => cond (Nat.blt c g.1 && Nat.beq (zK c) 2) (if i < 0 ∨ zN c ≤ i.toNatClampNeg then none else znx g ML (pc + len) (zw2 S c i.toNatClampNeg x) lv r) none | _ => none
  | .aastore => match st with
    | .ref t :: .int i :: .ref c :: r => cond (Nat.blt c g.1 && Nat.beq (zK c) 4 && Nat.blt t g.1 && Nat.beq (zK t) 0 && Nat.beq (zC t) 6 && !(zsd g) && (match zF c i.toNatClampNeg with | some u => Nat.beq u t | none => false)) (if i < 0 ∨ zN c ≤ i.toNatClampNeg then none else znx (g.1, zwf g.2 c i.toNatClampNeg) ML (pc + len) S lv r) none
    | _ => none
  | .arraylength => match st with
    | .ref c :: r => cond (Nat.blt c g.1) (cond (Nat.beq (zK c) 1 || Nat.beq (zK c) 2) (znx g ML (pc + len) S lv (.int (Int32.ofNat (zN c)) :: r)) none) (cond (Nat.beq c 1010 && Nat.beq ML.1 zm_L_law) (znx g ML (pc + len) S lv (.int (Int32.ofNat sc.2) :: r)) none)
    | _ => none
  | .new _ => cond (Nat.blt g.1 zNC && Nat.beq (zK g.1) 0 && Nat.beq (zC g.1) a && lv.all (zrefoko g.1) && st.all (zrefok g.1)) (znx (g.1 + 1, fun d j => cond (Nat.beq d g.1) false (g.2 d j)) ML (pc + len) (zw0 S g.1) lv (.ref g.1 :: st)) none
  | .newarray ty => match st with
    | .int n :: r => cond (Nat.blt g.1 zNC && (match ty with | .int => Nat.beq (zK g.1) 1 | .long => Nat.beq (zK g.1) 2 | .boolean => Nat.beq (zK g.1) 3 | _ => false) && Nat.beq n.toNatClampNeg (zN g.1) && decide (0 ≤ n) && lv.all (zrefoko g.1) && r.all (zrefok g.1)) (znx (g.1 + 1, fun d j => cond (Nat.beq d g.1) false (g.2 d j)) ML (pc + len) (zw0 S g.1) lv (.ref g.1 :: r)) none
    | _ => none
  | .anewarray _ => match st with
    | .int n :: r => cond (Nat.blt g.1 zNC && Nat.beq (zK g.1) 4 && Nat.beq n.toNatClampNeg (zN g.1) && decide (0 ≤ n) && lv.all (zrefoko g.1) && r.all (zrefok g.1)) (znx (g.1 + 1, fun d j => cond (Nat.beq d g.1) false (g.2 d j)) ML (pc + len) (zw0 S g.1) lv (.ref g.1 :: r)) none
    | _ => none
  | .invokestatic _ => cond (Nat.beq a 999)
    (match st with
      | .int n :: .int dp :: .ref d :: .int sp :: .ref c :: r =>
        cond (Nat.blt c g.1 && Nat.blt d g.1 && Nat.blt 0 ML.2 && Nat.ble (zsum r) 8)
          (if sp < 0 ∨ dp < 0 ∨ n < 0 ∨ zN c < sp.toNatClampNeg + n.toNatClampNeg ∨ zN d < dp.toNatClampNeg + n.toNatClampNeg then none
           else cond (Nat.beq (zK c) 1 && Nat.beq (zK d) 1) (znx g ML (pc + len) (zwc1 S d (va_cpy (S.1 c) (S.1 d) sp.toNatClampNeg dp.toNatClampNeg n.toNatClampNeg)) lv r)
             (cond (Nat.beq (zK c) 2 && Nat.beq (zK d) 2) (znx g ML (pc + len) (zwc2 S d (va_cpy (S.2 c) (S.2 d) sp.toNatClampNeg dp.toNatClampNeg n.toNatClampNeg)) lv r) none)) none
      | _ => none)
    (cond (Nat.beq a 997) (match st with | .int y :: .int x :: r => cond (Nat.blt 0 ML.2 && Nat.ble (zsum r) 8) (znx g ML (pc + len) S lv (.int (if x < y then y else x) :: r)) none | _ => none)
    (cond (Nat.beq a 996) (match st with | .int y :: .int x :: r => cond (Nat.blt 0 ML.2 && Nat.ble (zsum r) 8) (znx g ML (pc + len) S lv (.int (if y < x then y else x) :: r)) none | _ => none)
    (zcall g ML (pc + len) S lv a (st.take (zna a)).reverse (st.drop (zna a)))))
  | .invokevirtual _ => zcall g ML (pc + len) S lv a (st.take (zna a)).reverse (st.drop (zna a))
  | .invokespecial _ => cond (Nat.beq a 998) (match st with | .ref _ :: r => cond (Nat.blt 0 ML.2 && Nat.ble (zsum r) 8) (znx g ML (pc + len) S lv r) none | _ => none)
    (zcall g ML (pc + len) S lv a (st.take (zna a)).reverse (st.drop (zna a)))
  | .ireturn => match st with
    | [.int x] => cond (Nat.beq (zrk ML.1) 1) (some (.inr (.inl (some (.int x), g, S)))) (cond (Nat.beq (zrk ML.1) 4) (if x = 0 ∨ x = 1 then some (.inr (.inl (some (.int x), g, S))) else none) none)
    | _ => none
  | .lreturn => match st with | [.long x] => cond (Nat.beq (zrk ML.1) 2) (some (.inr (.inl (some (.long x), g, S)))) none | _ => none
  | .return_ => match st with | [] => cond (Nat.beq (zrk ML.1) 0) (some (.inr (.inl (none, g, S)))) none | _ => none
  | i => match zpure i v a st with | some s2 => znx g ML (pc + len) S lv s2 | none => none
/-! the same in small pieces, which are quicker to unfold -/
def zx_0 (i : Nat) (g : zG) (ML : Nat × Nat) (pc : Nat) (S : zS) (lv : List (Option Value)) (st : List Value) (len : Nat) : zA := match zldk 0 lv i st with | some s2 => znx g ML (pc + len) S lv s2 | none => none
def zx_1 (i : Fin 4) (g : zG) (ML : Nat × Nat) (pc : Nat) (S : zS) (lv : List (Option Value)) (st : List Value) (len : Nat) : zA := match zldk 0 lv i st with | some s2 => znx g ML (pc + len) S lv s2 | none => none
def zx_2 (i : Nat) (g : zG) (ML : Nat × Nat) (pc : Nat) (S : zS) (lv : List (Option Value)) (st : List Value) (len : Nat) : zA := match zldk 1 lv i st with | some s2 => znx g ML (pc + len) S lv s2 | none => none
def zx_3 (i : Fin 4) (g : zG) (ML : Nat × Nat) (pc : Nat) (S : zS) (lv : List (Option Value)) (st : List Value) (len : Nat) : zA := match zldk 1 lv i st with | some s2 => znx g ML (pc + len) S lv s2 | none => none
def zx_4 (i : Nat) (g : zG) (ML : Nat × Nat) (pc : Nat) (S : zS) (lv : List (Option Value)) (st : List Value) (len : Nat) : zA := match zldk 2 lv i st with | some s2 => znx g ML (pc + len) S lv s2 | none => none
def zx_5 (i : Fin 4) (g : zG) (ML : Nat × Nat) (pc : Nat) (S : zS) (lv : List (Option Value)) (st : List Value) (len : Nat) : zA := match zldk 2 lv i st with | some s2 => znx g ML (pc + len) S lv s2 | none => none
def zx_6 (i : Nat) (g : zG) (ML : Nat × Nat) (pc : Nat) (S : zS) (lv : List (Option Value)) (st : List Value) (len : Nat) : zA := match st with | .int x :: r => cond (!(Nat.ble (zpn ML.1) i) || !(Nat.blt i (zml ML.1))) none (znx g ML (pc + len) S (lv.set i (some (.int x))) r) | _ => none
def zx_7 (i : Fin 4) (g : zG) (ML : Nat × Nat) (pc : Nat) (S : zS) (lv : List (Option Value)) (st : List Value) (len : Nat) : zA := match st with | .int x :: r => cond (!(Nat.ble (zpn ML.1) i) || !(Nat.blt i (zml ML.1))) none (znx g ML (pc + len) S (lv.set i (some (.int x))) r) | _ => none
def zx_8 (i : Nat) (g : zG) (ML : Nat × Nat) (pc : Nat) (S : zS) (lv : List (Option Value)) (st : List Value) (len : Nat) : zA := match st with | .ref x :: r => cond (!(Nat.ble (zpn ML.1) i) || !(Nat.blt i (zml ML.1))) none (znx g ML (pc + len) S (lv.set i (some (.ref x))) r) | _ => none
def zx_9 (i : Fin 4) (g : zG) (ML : Nat × Nat) (pc : Nat) (S : zS) (lv : List (Option Value)) (st : List Value) (len : Nat) : zA := match st with | .ref x :: r => cond (!(Nat.ble (zpn ML.1) i) || !(Nat.blt i (zml ML.1))) none (znx g ML (pc + len) S (lv.set i (some (.ref x))) r) | _ => none
def zx_10 (i : Nat) (g : zG) (ML : Nat × Nat) (pc : Nat) (S : zS) (lv : List (Option Value)) (st : List Value) (len : Nat) (v : Int32) : zA := match lv[i]? with | some (some (.int x)) => cond (!(Nat.ble (zpn ML.1) i) || !(Nat.blt i (zml ML.1))) none (znx g ML (pc + len) S (lv.set i (some (.int (x + v)))) st) | _ => none
def zx_11 (g : zG) (ML : Nat × Nat) (S : zS) (lv : List (Option Value)) (st : List Value) (a : Nat) : zA := znx g ML a S lv st
def zx_12 (g : zG) (ML : Nat × Nat) (pc : Nat) (S : zS) (lv : List (Option Value)) (st : List Value) (len : Nat) (a : Nat) : zA := match st with | .int x :: r => znx g ML (if x = 0 then a else pc + len) S lv r | _ => none
def zx_13 (g : zG) (ML : Nat × Nat) (pc : Nat) (S : zS) (lv : List (Option Value)) (st : List Value) (len : Nat) (a : Nat) : zA := match st with | .int x :: r => znx g ML (if x ≠ 0 then a else pc + len) S lv r | _ => none
def zx_14 (g : zG) (ML : Nat × Nat) (pc : Nat) (S : zS) (lv : List (Option Value)) (st : List Value) (len : Nat) (a : Nat) : zA := match st with | .int x :: r => znx g ML (if x < 0 then a else pc + len) S lv r | _ => none
def zx_15 (g : zG) (ML : Nat × Nat) (pc : Nat) (S : zS) (lv : List (Option Value)) (st : List Value) (len : Nat) (a : Nat) : zA := match st with | .int x :: r => znx g ML (if 0 ≤ x then a else pc + len) S lv r | _ => none
def zx_16 (g : zG) (ML : Nat × Nat) (pc : Nat) (S : zS) (lv : List (Option Value)) (st : List Value) (len : Nat) (a : Nat) : zA := match st with | .int x :: r => znx g ML (if 0 < x then a else pc + len) S lv r | _ => none
def zx_17 (g : zG) (ML : Nat × Nat) (pc : Nat) (S : zS) (lv : List (Option Value)) (st : List Value) (len : Nat) (a : Nat) : zA := match st with | .int x :: r => znx g ML (if x ≤ 0 then a else pc + len) S lv r | _ => none
def zx_18 (g : zG) (ML : Nat × Nat) (pc : Nat) (S : zS) (lv : List (Option Value)) (st : List Value) (len : Nat) (a : Nat) : zA := match st with | .int y :: .int x :: r => znx g ML (if x = y then a else pc + len) S lv r | _ => none
def zx_19 (g : zG) (ML : Nat × Nat) (pc : Nat) (S : zS) (lv : List (Option Value)) (st : List Value) (len : Nat) (a : Nat) : zA := match st with | .int y :: .int x :: r => znx g ML (if x ≠ y then a else pc + len) S lv r | _ => none
def zx_20 (g : zG) (ML : Nat × Nat) (pc : Nat) (S : zS) (lv : List (Option Value)) (st : List Value) (len : Nat) (a : Nat) : zA := match st with | .int y :: .int x :: r => znx g ML (if x < y then a else pc + len) S lv r | _ => none
def zx_21 (g : zG) (ML : Nat × Nat) (pc : Nat) (S : zS) (lv : List (Option Value)) (st : List Value) (len : Nat) (a : Nat) : zA := match st with | .int y :: .int x :: r => znx g ML (if y ≤ x then a else pc + len) S lv r | _ => none
def zx_22 (g : zG) (ML : Nat × Nat) (pc : Nat) (S : zS) (lv : List (Option Value)) (st : List Value) (len : Nat) (a : Nat) : zA := match st with | .int y :: .int x :: r => znx g ML (if y < x then a else pc + len) S lv r | _ => none
def zx_23 (g : zG) (ML : Nat × Nat) (pc : Nat) (S : zS) (lv : List (Option Value)) (st : List Value) (len : Nat) (a : Nat) : zA := match st with | .int y :: .int x :: r => znx g ML (if x ≤ y then a else pc + len) S lv r | _ => none
def zx_24 (g : zG) (ML : Nat × Nat) (pc : Nat) (S : zS) (lv : List (Option Value)) (st : List Value) (len : Nat) : zA := match st with | .int y :: .int x :: r => (if y = 0 then none else znx g ML (pc + len) S lv (.int (x / y) :: r)) | _ => none
def zx_25 (g : zG) (ML : Nat × Nat) (pc : Nat) (S : zS) (lv : List (Option Value)) (st : List Value) (len : Nat) : zA := match st with | .int y :: .int x :: r => (if y = 0 then none else znx g ML (pc + len) S lv (.int (x - x / y * y) :: r)) | _ => none
def zx_26 (d : Int) (lo : Int) (offs : Array Int) (g : zG) (ML : Nat × Nat) (pc : Nat) (S : zS) (lv : List (Option Value)) (st : List Value) : zA := match st with | .int x :: r => znx g ML (zsw x ((pc : Int) + d).toNat (ztab pc lo offs.toList)) S lv r | _ => none
def zx_27 (d : Int) (ps : Array (Int × Int)) (g : zG) (ML : Nat × Nat) (pc : Nat) (S : zS) (lv : List (Option Value)) (st : List Value) : zA := match st with | .int x :: r => znx g ML (zsw x ((pc : Int) + d).toNat (zlks pc ps.toList)) S lv r | _ => none
def zx_28 (g : zG) (ML : Nat × Nat) (pc : Nat) (S : zS) (lv : List (Option Value)) (st : List Value) (len : Nat) (a : Nat) (b : Nat) : zA := match st with | .ref c :: r => (match zfld g S c a b with | some w => znx g ML (pc + len) S lv (w :: r) | none => none) | _ => none
def zx_29 (g : zG) (ML : Nat × Nat) (pc : Nat) (S : zS) (lv : List (Option Value)) (st : List Value) (len : Nat) (a : Nat) (b : Nat) : zA := zput g ML (pc + len) S lv a b st
def zx_30 (g : zG) (ML : Nat × Nat) (pc : Nat) (S : zS) (lv : List (Option Value)) (st : List Value) (len : Nat) (a : Nat) : zA := znx g ML (pc + len) S lv (.ref (1000 + a) :: st)
def zx_31 (sc : zSc) (g : zG) (ML : Nat × Nat) (pc : Nat) (S : zS) (lv : List (Option Value)) (st : List Value) (len : Nat) : zA := match st with | .int i :: .ref c :: r => zaload sc g ML (pc + len) S lv c i r | _ => none
def zx_32 (g : zG) (ML : Nat × Nat) (pc : Nat) (S : zS) (lv : List (Option Value)) (st : List Value) (len : Nat) : zA := match st with | .int i :: .ref c :: r => cond (Nat.blt c g.1 && Nat.beq (zK c) 3) (if i < 0 ∨ zN c ≤ i.toNatClampNeg then none else znx g ML (pc + len) S lv (.int (S.1 c i.toNatClampNeg) :: r)) none | _ => none
def zx_33 (g : zG) (ML : Nat × Nat) (pc : Nat) (S : zS) (lv : List (Option Value)) (st : List Value) (len : Nat) : zA := match st with | .int i :: .ref c :: r => cond (Nat.blt c g.1 && Nat.beq (zK c) 2) (if i < 0 ∨ zN c ≤ i.toNatClampNeg then none else znx g ML (pc + len) S lv (.long (S.2 c i.toNatClampNeg) :: r)) none | _ => none
def zx_34 (g : zG) (ML : Nat × Nat) (pc : Nat) (S : zS) (lv : List (Option Value)) (st : List Value) (len : Nat) : zA := match st with
  | .int i :: .ref c :: r => cond (Nat.blt c g.1 && Nat.beq (zK c) 4) (if i < 0 ∨ zN c ≤ i.toNatClampNeg then none else (match zF c i.toNatClampNeg with | some t => cond (g.2 c i.toNatClampNeg) (znx g ML (pc + len) S lv (.ref t :: r)) none | none => none)) none
  | _ => none
def zx_35 (g : zG) (ML : Nat × Nat) (pc : Nat) (S : zS) (lv : List (Option Value)) (st : List Value) (len : Nat) : zA := match st with | .int x :: .int i :: .ref c :: r => cond (Nat.blt c g.1 && Nat.beq (zK c) 1) (if i < 0 ∨ zN c ≤ i.toNatClampNeg then none else znx g ML (pc + len) (zw1 S c i.toNatClampNeg x) lv r) none | _ => none
def zx_36 (g : zG) (ML : Nat × Nat) (pc : Nat) (S : zS) (lv : List (Option Value)) (st : List Value) (len : Nat) : zA := match st with | .int x :: .int i :: .ref c :: r => cond (Nat.blt c g.1 && Nat.beq (zK c) 3) (if i < 0 ∨ zN c ≤ i.toNatClampNeg then none else znx g ML (pc + len) (zw1 S c i.toNatClampNeg (vp_nar .boolean x)) lv r) none | _ => none
def zx_37 (g : zG) (ML : Nat × Nat) (pc : Nat) (S : zS) (lv : List (Option Value)) (st : List Value) (len : Nat) : zA := match st with | .long x :: .int i :: .ref c :: r => cond (Nat.blt c g.1 && Nat.beq (zK c) 2) (if i < 0 ∨ zN c ≤ i.toNatClampNeg then none else znx g ML (pc + len) (zw2 S c i.toNatClampNeg x) lv r) none | _ => none
def zx_38 (g : zG) (ML : Nat × Nat) (pc : Nat) (S : zS) (lv : List (Option Value)) (st : List Value) (len : Nat) : zA := match st with
  | .ref t :: .int i :: .ref c :: r => cond (Nat.blt c g.1 && Nat.beq (zK c) 4 && Nat.blt t g.1 && Nat.beq (zK t) 0 && Nat.beq (zC t) 6 && !(zsd g) && (match zF c i.toNatClampNeg with | some u => Nat.beq u t | none => false)) (if i < 0 ∨ zN c ≤ i.toNatClampNeg then none else znx (g.1, zwf g.2 c i.toNatClampNeg) ML (pc + len) S lv r) none
  | _ => none
def zx_39 (sc : zSc) (g : zG) (ML : Nat × Nat) (pc : Nat) (S : zS) (lv : List (Option Value)) (st : List Value) (len : Nat) : zA := match st with
  | .ref c :: r => cond (Nat.blt c g.1) (cond (Nat.beq (zK c) 1 || Nat.beq (zK c) 2) (znx g ML (pc + len) S lv (.int (Int32.ofNat (zN c)) :: r)) none) (cond (Nat.beq c 1010 && Nat.beq ML.1 zm_L_law) (znx g ML (pc + len) S lv (.int (Int32.ofNat sc.2) :: r)) none)
  | _ => none
def zx_40 (g : zG) (ML : Nat × Nat) (pc : Nat) (S : zS) (lv : List (Option Value)) (st : List Value) (len : Nat) (a : Nat) : zA := cond (Nat.blt g.1 zNC && Nat.beq (zK g.1) 0 && Nat.beq (zC g.1) a && lv.all (zrefoko g.1) && st.all (zrefok g.1)) (znx (g.1 + 1, fun d j => cond (Nat.beq d g.1) false (g.2 d j)) ML (pc + len) (zw0 S g.1) lv (.ref g.1 :: st)) none
def zx_41 (ty : Jvm.ClassFile.ArrayType) (g : zG) (ML : Nat × Nat) (pc : Nat) (S : zS) (lv : List (Option Value)) (st : List Value) (len : Nat) : zA := match st with
  | .int n :: r => cond (Nat.blt g.1 zNC && (match ty with | .int => Nat.beq (zK g.1) 1 | .long => Nat.beq (zK g.1) 2 | .boolean => Nat.beq (zK g.1) 3 | _ => false) && Nat.beq n.toNatClampNeg (zN g.1) && decide (0 ≤ n) && lv.all (zrefoko g.1) && r.all (zrefok g.1)) (znx (g.1 + 1, fun d j => cond (Nat.beq d g.1) false (g.2 d j)) ML (pc + len) (zw0 S g.1) lv (.ref g.1 :: r)) none
  | _ => none
def zx_42 (g : zG) (ML : Nat × Nat) (pc : Nat) (S : zS) (lv : List (Option Value)) (st : List Value) (len : Nat) : zA := match st with
  | .int n :: r => cond (Nat.blt g.1 zNC && Nat.beq (zK g.1) 4 && Nat.beq n.toNatClampNeg (zN g.1) && decide (0 ≤ n) && lv.all (zrefoko g.1) && r.all (zrefok g.1)) (znx (g.1 + 1, fun d j => cond (Nat.beq d g.1) false (g.2 d j)) ML (pc + len) (zw0 S g.1) lv (.ref g.1 :: r)) none
  | _ => none
def zx_43 (g : zG) (ML : Nat × Nat) (pc : Nat) (S : zS) (lv : List (Option Value)) (st : List Value) (len : Nat) (a : Nat) : zA := cond (Nat.beq a 999)
  (match st with
    | .int n :: .int dp :: .ref d :: .int sp :: .ref c :: r =>
      cond (Nat.blt c g.1 && Nat.blt d g.1 && Nat.blt 0 ML.2 && Nat.ble (zsum r) 8)
        (if sp < 0 ∨ dp < 0 ∨ n < 0 ∨ zN c < sp.toNatClampNeg + n.toNatClampNeg ∨ zN d < dp.toNatClampNeg + n.toNatClampNeg then none
         else cond (Nat.beq (zK c) 1 && Nat.beq (zK d) 1) (znx g ML (pc + len) (zwc1 S d (va_cpy (S.1 c) (S.1 d) sp.toNatClampNeg dp.toNatClampNeg n.toNatClampNeg)) lv r)
           (cond (Nat.beq (zK c) 2 && Nat.beq (zK d) 2) (znx g ML (pc + len) (zwc2 S d (va_cpy (S.2 c) (S.2 d) sp.toNatClampNeg dp.toNatClampNeg n.toNatClampNeg)) lv r) none)) none
    | _ => none)
  (cond (Nat.beq a 997) (match st with | .int y :: .int x :: r => cond (Nat.blt 0 ML.2 && Nat.ble (zsum r) 8) (znx g ML (pc + len) S lv (.int (if x < y then y else x) :: r)) none | _ => none)
  (cond (Nat.beq a 996) (match st with | .int y :: .int x :: r => cond (Nat.blt 0 ML.2 && Nat.ble (zsum r) 8) (znx g ML (pc + len) S lv (.int (if y < x then y else x) :: r)) none | _ => none)
  (zcall g ML (pc + len) S lv a (st.take (zna a)).reverse (st.drop (zna a)))))
def zx_44 (g : zG) (ML : Nat × Nat) (pc : Nat) (S : zS) (lv : List (Option Value)) (st : List Value) (len : Nat) (a : Nat) : zA := zcall g ML (pc + len) S lv a (st.take (zna a)).reverse (st.drop (zna a))
def zx_45 (g : zG) (ML : Nat × Nat) (pc : Nat) (S : zS) (lv : List (Option Value)) (st : List Value) (len : Nat) (a : Nat) : zA := cond (Nat.beq a 998) (match st with | .ref _ :: r => cond (Nat.blt 0 ML.2 && Nat.ble (zsum r) 8) (znx g ML (pc + len) S lv r) none | _ => none)
  (zcall g ML (pc + len) S lv a (st.take (zna a)).reverse (st.drop (zna a)))
def zx_46 (g : zG) (ML : Nat × Nat) (S : zS) (st : List Value) : zA := match st with
  | [.int x] => cond (Nat.beq (zrk ML.1) 1) (some (.inr (.inl (some (.int x), g, S)))) (cond (Nat.beq (zrk ML.1) 4) (if x = 0 ∨ x = 1 then some (.inr (.inl (some (.int x), g, S))) else none) none)
  | _ => none
def zx_47 (g : zG) (ML : Nat × Nat) (S : zS) (st : List Value) : zA := match st with | [.long x] => cond (Nat.beq (zrk ML.1) 2) (some (.inr (.inl (some (.long x), g, S)))) none | _ => none
def zx_48 (g : zG) (ML : Nat × Nat) (S : zS) (st : List Value) : zA := match st with | [] => cond (Nat.beq (zrk ML.1) 0) (some (.inr (.inl (none, g, S)))) none | _ => none
def zx_49 (i : Instr) (g : zG) (ML : Nat × Nat) (pc : Nat) (S : zS) (lv : List (Option Value)) (st : List Value) (len : Nat) (a : Nat) (v : Int32) : zA := match zpure i v a st with | some s2 => znx g ML (pc + len) S lv s2 | none => none
def zexf (sc : zSc) (g : zG) (ML : Nat × Nat) (pc : Nat) (S : zS) (lv : List (Option Value)) (st : List Value) (ins : Instr) (len a b : Nat) (v : Int32) : zA :=
  match ins with
  | .iload i => zx_0 i g ML pc S lv st len
  | .iload_n i => zx_1 i g ML pc S lv st len
  | .lload i => zx_2 i g ML pc S lv st len
  | .lload_n i => zx_3 i g ML pc S lv st len
  | .aload i => zx_4 i g ML pc S lv st len
  | .aload_n i => zx_5 i g ML pc S lv st len
  | .istore i => zx_6 i g ML pc S lv st len
  | .istore_n i => zx_7 i g ML pc S lv st len
  | .astore i => zx_8 i g ML pc S lv st len
  | .astore_n i => zx_9 i g ML pc S lv st len
  | .iinc i _ => zx_10 i g ML pc S lv st len v
  | .goto _ => zx_11 g ML S lv st a
  | .ifCond .eq _ => zx_12 g ML pc S lv st len a
  | .ifCond .ne _ => zx_13 g ML pc S lv st len a
  | .ifCond .lt _ => zx_14 g ML pc S lv st len a
  | .ifCond .ge _ => zx_15 g ML pc S lv st len a
  | .ifCond .gt _ => zx_16 g ML pc S lv st len a
  | .ifCond .le _ => zx_17 g ML pc S lv st len a
  | .if_icmp .eq _ => zx_18 g ML pc S lv st len a
  | .if_icmp .ne _ => zx_19 g ML pc S lv st len a
  | .if_icmp .lt _ => zx_20 g ML pc S lv st len a
  | .if_icmp .ge _ => zx_21 g ML pc S lv st len a
  | .if_icmp .gt _ => zx_22 g ML pc S lv st len a
  | .if_icmp .le _ => zx_23 g ML pc S lv st len a
  | .idiv => zx_24 g ML pc S lv st len
  | .irem => zx_25 g ML pc S lv st len
  | .tableswitch d lo _ offs => zx_26 d lo offs g ML pc S lv st
  | .lookupswitch d ps => zx_27 d ps g ML pc S lv st
  | .getfield _ => zx_28 g ML pc S lv st len a b
  | .putfield _ => zx_29 g ML pc S lv st len a b
  | .getstatic _ => zx_30 g ML pc S lv st len a
  | .iaload => zx_31 sc g ML pc S lv st len
  | .baload => zx_32 g ML pc S lv st len
  | .laload => zx_33 g ML pc S lv st len
  | .aaload => zx_34 g ML pc S lv st len
  | .iastore => zx_35 g ML pc S lv st len
  | .bastore => zx_36 g ML pc S lv st len
  | .lastore => zx_37 g ML pc S lv st len
  | .aastore => zx_38 g ML pc S lv st len
  | .arraylength => zx_39 sc g ML pc S lv st len
  | .new _ => zx_40 g ML pc S lv st len a
  | .newarray ty => zx_41 ty g ML pc S lv st len
  | .anewarray _ => zx_42 g ML pc S lv st len
  | .invokestatic _ => zx_43 g ML pc S lv st len a
  | .invokevirtual _ => zx_44 g ML pc S lv st len a
  | .invokespecial _ => zx_45 g ML pc S lv st len a
  | .ireturn => zx_46 g ML S st
  | .lreturn => zx_47 g ML S st
  | .return_ => zx_48 g ML S st
  | i => zx_49 i g ML pc S lv st len a v
theorem zexf_eq (sc : zSc) (g : zG) (ML : Nat × Nat) (pc : Nat) (S : zS) (lv : List (Option Value)) (st : List Value) (ins : Instr) (len a b : Nat) (v : Int32) : zexf sc g ML pc S lv st ins len a b v = zexe sc g ML pc S lv st ins len a b v := by
  cases ins <;> first | rfl | (rename_i c _; cases c <;> rfl)
def zdec (sc : zSc) (x : zX) : zA :=
  match x with
  | (g, ML, pc, S, lv, st) =>
    match zfetch (zcode ML.1) pc with
    | none => none
    | some (pc0, ins, len, a, b, v) => zexf sc g ML pc0 S lv st ins len a b v
/-! ===== its runs ===== -/
def zrun (sc : zSc) : Nat → zX → Option zR
  | 0, _ => none
  | n + 1, x => match zdec sc x with
    | none => none
    | some (.inl y) => zrun sc n y
    | some (.inr (.inl r)) => some r
    | some (.inr (.inr (y, f))) => (zrun sc n y).bind (fun r => (f r).bind (zrun sc n))
theorem zrun_succ {sc : zSc} (n : Nat) : ∀ {x : zX} {r : zR}, zrun sc n x = some r → zrun sc (n + 1) x = some r := by
  induction n with
  | zero => intro x r h; cases h
  | succ n ih =>
    intro x r h
    rw [zrun] at h ⊢
    split at h
    · cases h
    · exact ih h
    · exact h
    · rename_i y f _
      obtain ⟨q, hq, h⟩ := Option.bind_eq_some_iff.mp h
      obtain ⟨x2, hx, h⟩ := Option.bind_eq_some_iff.mp h
      exact Option.bind_eq_some_iff.mpr ⟨q, ih hq, Option.bind_eq_some_iff.mpr ⟨x2, hx, ih h⟩⟩
theorem zrun_le {sc : zSc} {n k : Nat} (hk : n ≤ k) {x : zX} {r : zR} (h : zrun sc n x = some r) : zrun sc k x = some r := by
  induction hk with
  | refl => exact h
  | step _ ih => exact zrun_succ _ ih
theorem zrun_one {sc : zSc} {n k : Nat} {x : zX} {r q : zR} (h : zrun sc n x = some r) (h2 : zrun sc k x = some q) : r = q := by
  have a := zrun_le (Nat.le_max_left n k) h
  have b := zrun_le (Nat.le_max_right n k) h2
  exact Option.some.inj (a.symm.trans b)

/-- where the machine comes to from a state: none, if nowhere -/
noncomputable def zOut (sc : zSc) (x : zX) : Option zR := @dite _ (∃ n r, zrun sc n x = some r) (Classical.propDecidable _) (fun h => some h.choose_spec.choose) (fun _ => none)
theorem zOut_iff {sc : zSc} {x : zX} {r : zR} : zOut sc x = some r ↔ ∃ n, zrun sc n x = some r := by
  unfold zOut
  constructor
  · intro h
    split at h
    · rename_i hx
      cases h
      exact ⟨_, hx.choose_spec.choose_spec⟩
    · cases h
  · rintro ⟨n, hn⟩
    rw [dif_pos ⟨n, r, hn⟩]
    exact congrArg some (zrun_one (Exists.choose_spec (Exists.choose_spec (⟨n, r, hn⟩ : ∃ n r, zrun sc n x = some r))) hn)
theorem zOut_ext {sc : zSc} {x : zX} {o : Option zR} (h : ∀ r, zOut sc x = some r ↔ o = some r) : zOut sc x = o := by
  cases ho : o with
  | some r => exact (h r).mpr ho
  | none =>
    cases hx : zOut sc x with
    | none => rfl
    | some r => rw [(h r).mp hx] at ho; cases ho
theorem zOut_next {sc : zSc} {x y : zX} (h : zdec sc x = some (.inl y)) : zOut sc x = zOut sc y := by
  refine zOut_ext fun r => ?_
  rw [zOut_iff, zOut_iff]
  constructor
  · rintro ⟨n, hn⟩
    cases n with
    | zero => cases hn
    | succ n => rw [zrun, h] at hn; exact ⟨n, hn⟩
  · rintro ⟨n, hn⟩
    exact ⟨n + 1, by rw [zrun, h]; exact hn⟩
theorem zOut_ret {sc : zSc} {x : zX} {r : zR} (h : zdec sc x = some (.inr (.inl r))) : zOut sc x = some r :=
  zOut_iff.mpr ⟨1, by rw [zrun, h]⟩
theorem zOut_call {sc : zSc} {x y : zX} {f : zR → Option zX} (h : zdec sc x = some (.inr (.inr (y, f)))) : zOut sc x = (zOut sc y).bind (fun r => (f r).bind (zOut sc)) := by
  refine zOut_ext fun r => ?_
  rw [zOut_iff]
  constructor
  · rintro ⟨n, hn⟩
    cases n with
    | zero => cases hn
    | succ n =>
      rw [zrun, h] at hn
      obtain ⟨q, hq, hn⟩ := Option.bind_eq_some_iff.mp hn
      obtain ⟨x2, hx, hn⟩ := Option.bind_eq_some_iff.mp hn
      exact Option.bind_eq_some_iff.mpr ⟨q, zOut_iff.mpr ⟨n, hq⟩, Option.bind_eq_some_iff.mpr ⟨x2, hx, zOut_iff.mpr ⟨n, hn⟩⟩⟩
  · intro hn
    obtain ⟨q, hq, hn⟩ := Option.bind_eq_some_iff.mp hn
    obtain ⟨x2, hx, hn⟩ := Option.bind_eq_some_iff.mp hn
    obtain ⟨n1, h1⟩ := zOut_iff.mp hq
    obtain ⟨n2, h2⟩ := zOut_iff.mp hn
    refine ⟨max n1 n2 + 1, ?_⟩
    rw [zrun, h]
    exact Option.bind_eq_some_iff.mpr ⟨q, zrun_le (Nat.le_max_left _ _) h1, Option.bind_eq_some_iff.mpr ⟨x2, hx, zrun_le (Nat.le_max_right _ _) h2⟩⟩
/-- up to n instructions on -/
def zadv (sc : zSc) : Nat → zX → zX
  | 0, x => x
  | n + 1, x => match zdec sc x with
    | some (.inl y) => zadv sc n y
    | _ => x
theorem zOut_adv {sc : zSc} (n : Nat) : ∀ x : zX, zOut sc x = zOut sc (zadv sc n x) := by
  induction n with
  | zero => intro x; rfl
  | succ n ih =>
    intro x
    rw [zadv]
    split
    · rename_i y h
      rw [zOut_next h]; exact ih y
    · rfl
