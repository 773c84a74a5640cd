/-! A SMALL MACHINE OVER CELLS. Its state: what the cells' places of ints, longs and changing references hold (cell, place). It runs blocks of instructions; where it answers 'some', the Jvm does the same (part 05). -/
abbrev jS : Type := (Nat → Nat → Int32) × (Nat → Nat → Int64) × (Nat → Nat → Nat)
abbrev jR : Type := Option (Option Value × jS)
abbrev jN : Type := Instr × List Nat
abbrev jL : Type := List (Nat × Value)
/-- a block: where it begins, its locals, its instructions, the block behind it -/
abbrev jB : Type := Nat × List Nat × List jN × Nat
def j_setI (σ : jS) (a k : Nat) (v : Int32) : jS := (fun b j => if b = a ∧ j = k then v else σ.1 b j, σ.2)
def j_setL (σ : jS) (a k : Nat) (v : Int64) : jS := (σ.1, fun b j => if b = a ∧ j = k then v else σ.2.1 b j, σ.2.2)
def j_setR (σ : jS) (a k v : Nat) : jS := (σ.1, σ.2.1, fun b j => if b = a ∧ j = k then v else σ.2.2 b j)
def j_cpy (σ : jS) (a0 sp a1 dp n : Nat) : jS := (fun b j => if b = a1 ∧ dp ≤ j ∧ j < dp + n then σ.1 a0 (sp + (j - dp)) else σ.1 b j, σ.2)
def j_is (ci a : Nat) : Bool := match jSH[a]? with
  | some (.inr c) => c == ci
  | _ => false
def j_len (z a : Nat) : Option Nat := match jSH[a]? with
  | some (.inl q) => cond (q.1 == z) (some q.2) none
  | _ => none
def j_cr (a k : Nat) : Nat := (jCR.getD a []).getD k 0
def j_rdI (z : Nat) (σ : jS) (a : Nat) (i : Int32) : Option Int32 := (j_len z a).bind fun n => if i < 0 ∨ n ≤ i.toNatClampNeg then none else some (σ.1 a i.toNatClampNeg)
def j_rdL (σ : jS) (a : Nat) (i : Int32) : Option Int64 := (j_len 2 a).bind fun n => if i < 0 ∨ n ≤ i.toNatClampNeg then none else some (σ.2.1 a i.toNatClampNeg)
def j_wrI (σ : jS) (a : Nat) (i x : Int32) : Option jS := (j_len 0 a).bind fun n => if i < 0 ∨ n ≤ i.toNatClampNeg then none else some (j_setI σ a i.toNatClampNeg x)
def j_wrZ (σ : jS) (a : Nat) (i x : Int32) : Option jS := (j_len 1 a).bind fun n => if i < 0 ∨ n ≤ i.toNatClampNeg then none else if x = 0 ∨ x = 1 then some (j_setI σ a i.toNatClampNeg x) else none
def j_wrL (σ : jS) (a : Nat) (i : Int32) (x : Int64) : Option jS := (j_len 2 a).bind fun n => if i < 0 ∨ n ≤ i.toNatClampNeg then none else some (j_setL σ a i.toNatClampNeg x)
def j_copy (σ : jS) (a0 : Nat) (sp : Int32) (a1 : Nat) (dp n : Int32) : Option jS := (j_len 0 a0).bind fun n0 => (j_len 0 a1).bind fun n1 =>
  if sp < 0 ∨ dp < 0 ∨ n < 0 ∨ n0 < sp.toNatClampNeg + n.toNatClampNeg ∨ n1 < dp.toNatClampNeg + n.toNatClampNeg then none else some (j_cpy σ a0 sp.toNatClampNeg a1 dp.toNatClampNeg n.toNatClampNeg)
/-- the String constants, as their signs' numbers -/
def jST : List (List Nat) := [[99, 111, 105, 110, 115, 32, 97, 103, 101, 32, 110, 101, 120, 116, 32, 101, 108, 100, 101, 114, 32, 112, 108, 97, 99, 101, 32, 104, 111, 117, 114, 32, 112, 101, 114, 115, 111, 110, 32, 112, 117, 114, 115, 101, 32, 104, 97, 110, 100, 115, 32, 116, 111, 32, 111, 114, 32, 112, 97, 114, 99, 101, 108, 32, 108, 97, 119, 32, 109, 97, 121, 32, 110, 111, 116, 32, 97, 110, 100, 32], [59, 40, 41, 43, 45, 42, 47, 37, 60, 61, 62], [112, 101, 114, 115, 111, 110, 32, 104, 97, 110, 100, 115, 32, 112, 97, 114, 99, 101, 108, 32, 108, 97, 119, 32, 109, 97, 121, 32, 112, 117, 114, 115, 101, 32, 116, 111, 32, 111, 114, 32, 97, 110, 100, 32, 110, 111, 116, 32, 99, 111, 105, 110, 115, 32, 97, 103, 101, 32, 110, 101, 120, 116, 32, 101, 108, 100, 101, 114, 32, 112, 108, 97, 99, 101, 32, 104, 111, 117, 114, 32]]
/-- Strings stand at 1000 and on -/
def j_str (a : Nat) : Option (List Nat) := match a with
  | 1000 => some (jST.getD 0 [])
  | 1001 => some (jST.getD 1 [])
  | 1002 => some (jST.getD 2 [])
  | _ => none
def j_idx (c : Int32) : List Nat → Nat → Int32
  | [], _ => -1
  | q :: r, n => if Int32.ofNat q = c then Int32.ofNat n else j_idx c r (n + 1)
def p_I : List Value → Option (Int32 × List Value)
  | .int x :: st => some (x, st)
  | _ => none
def p_L : List Value → Option (Int64 × List Value)
  | .long x :: st => some (x, st)
  | _ => none
def p_R : List Value → Option (Nat × List Value)
  | .ref x :: st => some (x, st)
  | _ => none
def p_II : List Value → Option (Int32 × Int32 × List Value)
  | .int y :: .int x :: st => some (x, y, st)
  | _ => none
def p_LL : List Value → Option (Int64 × Int64 × List Value)
  | .long y :: .long x :: st => some (x, y, st)
  | _ => none
def p_LI : List Value → Option (Int64 × Int32 × List Value)
  | .int y :: .long x :: st => some (x, y, st)
  | _ => none
def p_RI : List Value → Option (Nat × Int32 × List Value)
  | .int y :: .ref x :: st => some (x, y, st)
  | _ => none
def p_RL : List Value → Option (Nat × Int64 × List Value)
  | .long y :: .ref x :: st => some (x, y, st)
  | _ => none
def p_RR : List Value → Option (Nat × Nat × List Value)
  | .ref y :: .ref x :: st => some (x, y, st)
  | _ => none
def p_RII : List Value → Option (Nat × Int32 × Int32 × List Value)
  | .int z :: .int y :: .ref x :: st => some (x, y, z, st)
  | _ => none
def p_RIL : List Value → Option (Nat × Int32 × Int64 × List Value)
  | .long z :: .int y :: .ref x :: st => some (x, y, z, st)
  | _ => none
def p_1 : List Value → Option (Value × List Value)
  | .int x :: st => some (.int x, st)
  | .ref x :: st => some (.ref x, st)
  | _ => none
def p_11 : List Value → Option (Value × Value × List Value)
  | .int y :: .ref x :: st => some (.ref x, .int y, st)
  | .int y :: .int x :: st => some (.int x, .int y, st)
  | _ => none
def p_cpy : List Value → Option (Nat × Int32 × Nat × Int32 × Int32 × List Value)
  | .int n :: .int dp :: .ref a1 :: .int sp :: .ref a0 :: st => some (a0, sp, a1, dp, n, st)
  | _ => none
/-- n arguments, in their order -/
def p_n : Nat → List Value → Option (List Value × List Value)
  | 0, st => some ([], st)
  | _ + 1, [] => none
  | n + 1, v :: st => (p_n n st).bind fun q => some (q.1 ++ [v], q.2)
def r_V : jR → Option jS
  | some (none, σ) => some σ
  | _ => none
def r_I : jR → Option (Int32 × jS)
  | some (some (.int x), σ) => some (x, σ)
  | _ => none
def r_L : jR → Option (Int64 × jS)
  | some (some (.long x), σ) => some (x, σ)
  | _ => none
def j_at : jL → Nat → Option Value
  | [], _ => none
  | q :: l, i => cond (q.1 == i) (some q.2) (j_at l i)
def j_atI (lv : jL) (i : Nat) : Option Int32 := (j_at lv i).bind fun v => match v with
  | .int x => some x
  | _ => none
def j_atL (lv : jL) (i : Nat) : Option Int64 := (j_at lv i).bind fun v => match v with
  | .long x => some x
  | _ => none
def j_atR (lv : jL) (i : Nat) : Option Nat := (j_at lv i).bind fun v => match v with
  | .ref x => some x
  | _ => none
def j_st1 (lv : jL) (i : Nat) (v : Value) : jL := (i, v) :: lv.filter (fun q => !(q.1 == i) && !(q.1 + 1 == i && q.2.category == 2))
def j_st2 (lv : jL) (i : Nat) (v : Value) : jL := (i, v) :: lv.filter (fun q => !(q.1 == i) && (!(q.1 == i + 1) && !(q.1 + 1 == i && q.2.category == 2)))
def j_pick : List Nat → jL → Option jL
  | [], _ => some []
  | i :: r, lv => (j_at lv i).bind fun v => (j_pick r lv).bind fun l => some ((i, v) :: l)
/-- a branch, by a condition that is never worked out -/
noncomputable def jif (c : Prop) (a b : jR) : jR := @ite _ c (Classical.propDecidable c) a b
noncomputable def j_sw (x : Int32) (d : jR) (f : Nat → jR) : List (Int × Nat) → jR
  | [] => d
  | q :: r => jif (x = Int32.ofInt q.1) (f q.2) (j_sw x d f r)
def j_keys (lo : Int) : List Nat → List (Int × Nat)
  | [] => []
  | b :: r => (lo, b) :: j_keys (lo + 1) r
def j_ret (rk : Nat) (r : jR) (lv : jL) (st : List Value) (k : jL → List Value → jS → jR) : jR := match rk with
  | 0 => (r_V r).bind fun q => k lv st q
  | 1 => (r_I r).bind fun q => k lv (.int q.1 :: st) q.2
  | 2 => (r_L r).bind fun q => k lv (.long q.1 :: st) q.2
  | _ => none
noncomputable def js (C : Nat → List Value → jS → jR) (rt : Nat) (K : Nat → jL → List Value → jS → jR) (i : Instr) (ex : List Nat) (lv : jL) (st : List Value) (σ : jS) (k : jL → List Value → jS → jR) : jR := match i with
  | .iconst n => k lv (.int (Int32.ofInt n) :: st) σ
  | .bipush n => k lv (.int (Int8.ofInt n).toInt32 :: st) σ
  | .sipush n => k lv (.int (Int16.ofInt n).toInt32 :: st) σ
  | .lconst n => k lv (.long (Int64.ofNat (n : Nat)) :: st) σ
  | .ldc _ => match ex with
    | [v] => k lv (.int (Int32.ofNat v) :: st) σ
    | [v, _] => k lv (.ref v :: st) σ
    | _ => none
  | .ldc_w _ => match ex with
    | [v] => k lv (.int (Int32.ofNat v) :: st) σ
    | _ => none
  | .ldc2_w _ => match ex with
    | [v] => k lv (.long (Int64.ofNat v) :: st) σ
    | _ => none
  | .iload_n n => (j_atI lv n).bind fun x => k lv (.int x :: st) σ
  | .iload n => (j_atI lv n).bind fun x => k lv (.int x :: st) σ
  | .lload_n n => (j_atL lv n).bind fun x => k lv (.long x :: st) σ
  | .lload n => (j_atL lv n).bind fun x => k lv (.long x :: st) σ
  | .aload_n n => (j_atR lv n).bind fun x => k lv (.ref x :: st) σ
  | .aload n => (j_atR lv n).bind fun x => k lv (.ref x :: st) σ
  | .istore_n n => (p_I st).bind fun q => k (j_st1 lv n (.int q.1)) q.2 σ
  | .istore n => (p_I st).bind fun q => k (j_st1 lv n (.int q.1)) q.2 σ
  | .lstore_n n => (p_L st).bind fun q => k (j_st2 lv n (.long q.1)) q.2 σ
  | .lstore n => (p_L st).bind fun q => k (j_st2 lv n (.long q.1)) q.2 σ
  | .astore_n n => (p_R st).bind fun q => k (j_st1 lv n (.ref q.1)) q.2 σ
  | .astore n => (p_R st).bind fun q => k (j_st1 lv n (.ref q.1)) q.2 σ
  | .iinc n c => (j_atI lv n).bind fun x => k (j_st1 lv n (.int (x + Int32.ofInt c))) st σ
  | .iadd => (p_II st).bind fun q => k lv (.int (q.1 + q.2.1) :: q.2.2) σ
  | .isub => (p_II st).bind fun q => k lv (.int (q.1 - q.2.1) :: q.2.2) σ
  | .imul => (p_II st).bind fun q => k lv (.int (q.1 * q.2.1) :: q.2.2) σ
  | .iand => (p_II st).bind fun q => k lv (.int (q.1 &&& q.2.1) :: q.2.2) σ
  | .ior => (p_II st).bind fun q => k lv (.int (q.1 ||| q.2.1) :: q.2.2) σ
  | .idiv => (p_II st).bind fun q => if q.2.1 = 0 then none else k lv (.int (q.1 / q.2.1) :: q.2.2) σ
  | .irem => (p_II st).bind fun q => if q.2.1 = 0 then none else k lv (.int (q.1 - q.1 / q.2.1 * q.2.1) :: q.2.2) σ
  | .ishl => (p_II st).bind fun q => k lv (.int (q.1 <<< (q.2.1 &&& 31)) :: q.2.2) σ
  | .ishr => (p_II st).bind fun q => k lv (.int (q.1 >>> (q.2.1 &&& 31)) :: q.2.2) σ
  | .iushr => (p_II st).bind fun q => k lv (.int (q.1.toUInt32 >>> (q.2.1.toUInt32 &&& Int32.toUInt32 31)).toInt32 :: q.2.2) σ
  | .ladd => (p_LL st).bind fun q => k lv (.long (q.1 + q.2.1) :: q.2.2) σ
  | .lsub => (p_LL st).bind fun q => k lv (.long (q.1 - q.2.1) :: q.2.2) σ
  | .lmul => (p_LL st).bind fun q => k lv (.long (q.1 * q.2.1) :: q.2.2) σ
  | .land => (p_LL st).bind fun q => k lv (.long (q.1 &&& q.2.1) :: q.2.2) σ
  | .lor => (p_LL st).bind fun q => k lv (.long (q.1 ||| q.2.1) :: q.2.2) σ
  | .ldiv => (p_LL st).bind fun q => if q.2.1 = 0 then none else k lv (.long (q.1 / q.2.1) :: q.2.2) σ
  | .lrem => (p_LL st).bind fun q => if q.2.1 = 0 then none else k lv (.long (q.1 - q.1 / q.2.1 * q.2.1) :: q.2.2) σ
  | .lneg => (p_L st).bind fun q => k lv (.long (-q.1) :: q.2) σ
  | .lcmp => (p_LL st).bind fun q => k lv (.int (lg_cmp q.1 q.2.1) :: q.2.2) σ
  | .lshl => (p_LI st).bind fun q => k lv (.long (q.1 <<< (q.2.1.toInt64 &&& 63)) :: q.2.2) σ
  | .lshr => (p_LI st).bind fun q => k lv (.long (q.1 >>> (q.2.1.toInt64 &&& 63)) :: q.2.2) σ
  | .lushr => (p_LI st).bind fun q => k lv (.long (q.1.toUInt64 >>> (q.2.1.toInt64.toUInt64 &&& Int64.toUInt64 63)).toInt64 :: q.2.2) σ
  | .i2l => (p_I st).bind fun q => k lv (.long q.1.toInt64 :: q.2) σ
  | .l2i => (p_L st).bind fun q => k lv (.int q.1.toInt32 :: q.2) σ
  | .i2c => (p_I st).bind fun q => k lv (.int (q.1.toUInt32 % 65536).toInt32 :: q.2) σ
  | .dup => (p_1 st).bind fun q => k lv (q.1 :: q.1 :: q.2) σ
  | .pop => (p_1 st).bind fun q => k lv q.2 σ
  | .dup2 => (p_11 st).bind fun q => k lv (q.2.1 :: q.1 :: q.2.1 :: q.1 :: q.2.2) σ
  | .iaload => match ex with
    | [] => (p_RI st).bind fun q => (j_rdI 0 σ q.1 q.2.1).bind fun x => k lv (.int x :: q.2.2) σ
    | [y] => (p_RI st).bind fun q => cond (q.1 == 2000) ((r_I (C y [.int q.2.1] σ)).bind fun w => k lv (.int w.1 :: q.2.2) w.2) none
    | _ => none
  | .baload => (p_RI st).bind fun q => (j_rdI 1 σ q.1 q.2.1).bind fun x => k lv (.int x :: q.2.2) σ
  | .laload => (p_RI st).bind fun q => (j_rdL σ q.1 q.2.1).bind fun x => k lv (.long x :: q.2.2) σ
  | .iastore => (p_RII st).bind fun q => (j_wrI σ q.1 q.2.1 q.2.2.1).bind fun t => k lv q.2.2.2 t
  | .bastore => (p_RII st).bind fun q => (j_wrZ σ q.1 q.2.1 q.2.2.1).bind fun t => k lv q.2.2.2 t
  | .lastore => (p_RIL st).bind fun q => (j_wrL σ q.1 q.2.1 q.2.2.1).bind fun t => k lv q.2.2.2 t
  | .arraylength => match ex with
    | [] => (p_R st).bind fun q => (j_len 0 q.1).bind fun n => k lv (.int (Int32.ofNat n) :: q.2) σ
    | [y] => (p_R st).bind fun q => cond (q.1 == 2000) ((r_I (C y [] σ)).bind fun w => k lv (.int w.1 :: q.2) w.2) none
    | _ => none
  | .getfield _ => match ex with
    | [ci, f, 0] => (p_R st).bind fun q => cond (j_is ci q.1) (k lv (.int (σ.1 q.1 f) :: q.2) σ) none
    | [ci, f, 1] => (p_R st).bind fun q => cond (j_is ci q.1) (k lv (.int (σ.1 q.1 f) :: q.2) σ) none
    | [ci, f, 2] => (p_R st).bind fun q => cond (j_is ci q.1) (k lv (.long (σ.2.1 q.1 f) :: q.2) σ) none
    | [ci, f, 3] => (p_R st).bind fun q => cond (j_is ci q.1) (k lv (.ref (σ.2.2 q.1 f) :: q.2) σ) none
    | [ci, f, 4] => (p_R st).bind fun q => cond (j_is ci q.1) (k lv (.ref (j_cr q.1 f) :: q.2) σ) none
    | _ => none
  | .putfield _ => match ex with
    | [ci, f, 0] => (p_RI st).bind fun q => cond (j_is ci q.1) (k lv q.2.2 (j_setI σ q.1 f q.2.1)) none
    | [ci, f, 1] => (p_RI st).bind fun q => cond (j_is ci q.1) (if q.2.1 = 0 ∨ q.2.1 = 1 then k lv q.2.2 (j_setI σ q.1 f q.2.1) else none) none
    | [ci, f, 2] => (p_RL st).bind fun q => cond (j_is ci q.1) (k lv q.2.2 (j_setL σ q.1 f q.2.1)) none
    | [ci, f, 3] => (p_RR st).bind fun q => cond (j_is ci q.1) (k lv q.2.2 (j_setR σ q.1 f q.2.1)) none
    | _ => none
  | .goto _ => match ex with
    | [t] => K t lv st σ
    | _ => none
  | .ifCond c _ => match ex with
    | [t] => (p_I st).bind fun q => match c with
      | .eq => jif (q.1 = 0) (K t lv q.2 σ) (k lv q.2 σ)
      | .ne => jif (q.1 = 0) (k lv q.2 σ) (K t lv q.2 σ)
      | .lt => jif (q.1 < 0) (K t lv q.2 σ) (k lv q.2 σ)
      | .ge => jif (0 ≤ q.1) (K t lv q.2 σ) (k lv q.2 σ)
      | .gt => jif (0 < q.1) (K t lv q.2 σ) (k lv q.2 σ)
      | .le => jif (q.1 ≤ 0) (K t lv q.2 σ) (k lv q.2 σ)
    | _ => none
  | .if_icmp c _ => match ex with
    | [t] => (p_II st).bind fun q => match c with
      | .eq => jif (q.1 = q.2.1) (K t lv q.2.2 σ) (k lv q.2.2 σ)
      | .ne => jif (q.1 = q.2.1) (k lv q.2.2 σ) (K t lv q.2.2 σ)
      | .lt => jif (q.1 < q.2.1) (K t lv q.2.2 σ) (k lv q.2.2 σ)
      | .ge => jif (q.2.1 ≤ q.1) (K t lv q.2.2 σ) (k lv q.2.2 σ)
      | .gt => jif (q.2.1 < q.1) (K t lv q.2.2 σ) (k lv q.2.2 σ)
      | .le => jif (q.1 ≤ q.2.1) (K t lv q.2.2 σ) (k lv q.2.2 σ)
    | _ => none
  | .tableswitch _ lo _ _ => match ex with
    | d :: bs => (p_I st).bind fun q => j_sw q.1 (K d lv q.2 σ) (fun b => K b lv q.2 σ) (j_keys lo bs)
    | _ => none
  | .lookupswitch _ ps => match ex with
    | d :: bs => (p_I st).bind fun q => j_sw q.1 (K d lv q.2 σ) (fun b => K b lv q.2 σ) ((ps.toList.map (fun z => z.1)).zip bs)
    | _ => none
  | .invokevirtual _ => match ex with
    | [901] => (p_R st).bind fun q => (j_str q.1).bind fun z => cond (Nat.ble (q.2.map fun v => v.category).sum 8) (k lv (.int (Int32.ofNat z.length) :: q.2) σ) none
    | [902, _] => (p_RI st).bind fun q => (j_str q.1).bind fun z => if q.2.1 < 0 ∨ z.length ≤ q.2.1.toNatClampNeg then none else cond (Nat.ble (q.2.2.map fun v => v.category).sum 8) (k lv (.int (Int32.ofNat (z.getD q.2.1.toNatClampNeg 0)) :: q.2.2) σ) none
    | [903, _, _] => (p_RI st).bind fun q => (j_str q.1).bind fun z => cond (Nat.ble (q.2.2.map fun v => v.category).sum 8) (k lv (.int (j_idx q.2.1 z 0) :: q.2.2) σ) none
    | [y, n, ci, rk] => (p_n n st).bind fun q => (p_R q.2).bind fun w => cond (j_is ci w.1) (cond (Nat.ble (w.2.map fun v => v.category).sum 8) (j_ret rk (C y (.ref w.1 :: q.1) σ) lv w.2 k) none) none
    | _ => none
  | .invokestatic _ => match ex with
    | [_] => (p_cpy st).bind fun q => cond (Nat.ble (q.2.2.2.2.2.map fun v => v.category).sum 8) ((j_copy σ q.1 q.2.1 q.2.2.1 q.2.2.2.1 q.2.2.2.2.1).bind fun t => k lv q.2.2.2.2.2 t) none
    | [910, _] => (p_II st).bind fun q => cond (Nat.ble (q.2.2.map fun v => v.category).sum 8) (k lv (.int (if q.1 < q.2.1 then q.2.1 else q.1) :: q.2.2) σ) none
    | [911, _] => (p_II st).bind fun q => cond (Nat.ble (q.2.2.map fun v => v.category).sum 8) (k lv (.int (if q.2.1 < q.1 then q.2.1 else q.1) :: q.2.2) σ) none
    | [912, _] => (p_LL st).bind fun q => cond (Nat.ble (q.2.2.map fun v => v.category).sum 8) (k lv (.long (if q.2.1 < q.1 then q.2.1 else q.1) :: q.2.2) σ) none
    | [913, _] => (p_L st).bind fun q => cond (Nat.ble (q.2.map fun v => v.category).sum 8) (k lv (.long (if 0 < q.1 then q.1 else -q.1) :: q.2) σ) none
    | [y, n, rk] => (p_n n st).bind fun q => cond (Nat.ble (q.2.map fun v => v.category).sum 8) (j_ret rk (C y q.1 σ) lv q.2 k) none
    | _ => none
  | .ireturn => match rt with
    | 1 => (p_I st).bind fun q => cond q.2.isEmpty (some (some (.int q.1), σ)) none
    | 2 => (p_I st).bind fun q => cond q.2.isEmpty (if q.1 = 0 ∨ q.1 = 1 then some (some (.int q.1), σ) else none) none
    | _ => none
  | .lreturn => match rt with
    | 3 => (p_L st).bind fun q => cond q.2.isEmpty (some (some (.long q.1), σ)) none
    | _ => none
  | .return_ => match rt with
    | 0 => cond st.isEmpty (some (none, σ)) none
    | _ => none
  | _ => none
noncomputable def jb (C : Nat → List Value → jS → jR) (rt : Nat) (K : Nat → jL → List Value → jS → jR) (nx : Nat) : List jN → jL → List Value → jS → jR
  | [], lv, st, σ => K nx lv st σ
  | (i, ex) :: r, lv, st, σ => js C rt K i ex lv st σ (fun lv st σ => jb C rt K nx r lv st σ)
def j_go (B : List jB) (K : Nat → jL → List Value → jS → jR) (j : Nat) (lv : jL) (st : List Value) (σ : jS) : jR := (B[j]?).bind fun b => (j_pick b.2.1 lv).bind fun l => K j l st σ
noncomputable def jstep (C : Nat → List Value → jS → jR) (rt : Nat) (B : List jB) (K : Nat → jL → List Value → jS → jR) (j : Nat) (lv : jL) (st : List Value) (σ : jS) : jR := (B[j]?).bind fun b => jb C rt (j_go B K) b.2.2.2 b.2.2.1 lv st σ
noncomputable def jrun (C : Nat → List Value → jS → jR) (rt : Nat) (B : List jB) : Nat → Nat → jL → List Value → jS → jR
  | 0 => fun _ _ _ _ => none
  | n + 1 => fun j lv st σ => jstep C rt B (jrun C rt B n) j lv st σ
noncomputable def db (C : Nat → List Value → jS → jR) (rt : Nat) (B : List jB) (j : Nat) (lv : jL) (st : List Value) (σ : jS) : jR :=
  @dite _ (∃ r, ∃ n, jrun C rt B n j lv st σ = some r) (Classical.propDecidable _) (fun h => some (Classical.choose h)) (fun _ => none)
