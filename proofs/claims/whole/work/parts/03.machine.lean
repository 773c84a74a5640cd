/-! A SMALL MACHINE OVER CELLS. Its state: what the cells' places of ints, longs and changing references hold (cell, place). It runs blocks of instructions; where it answers 'some', the Jvm does the same (part 05). -/
abbrev jS : Type := (Nat → Nat → Int32) × (Nat → Nat → Int64) × (Nat → Nat → Nat)
abbrev jR : Type := Option (Option Value × jS)
abbrev jN : Type := Instr × List Nat
abbrev jL : Type := List (Nat × Value)
/-- a block: where it begins, its locals, its instructions, the block behind it -/
abbrev jB : Type := Nat × List Nat × List jN × Nat
def j_setI (σ : jS) (a k : Nat) (v : Int32) : jS := (fun b j => if b = a ∧ j = k then v else σ.1 b j, σ.2)
def j_setL (σ : jS) (a k : Nat) (v : Int64) : jS := (σ.1, fun b j => if b = a ∧ j = k then v else σ.2.1 b j, σ.2.2)
def j_setR (σ : jS) (a k v : Nat) : jS := (σ.1, σ.2.1, fun b j => if b = a ∧ j = k then v else σ.2.2 b j)
def j_cpy (σ : jS) (a0 sp a1 dp n : Nat) : jS := (fun b j => if b = a1 ∧ dp ≤ j ∧ j < dp + n then σ.1 a0 (sp + (j - dp)) else σ.1 b j, σ.2)
noncomputable def j_is (ci a : Nat) : Bool := match j_sh a with
  | some (.inr c) => c == ci
  | _ => false
noncomputable def j_len (z a : Nat) : Option Nat := match j_sh a with
  | some (.inl q) => cond (q.1 == z) (some q.2) none
  | _ => none
noncomputable def j_cr (a k : Nat) : Nat := (jlook ((jlook jCR a).getD []) k).getD 0
noncomputable def j_rdI (z : Nat) (σ : jS) (a : Nat) (i : Int32) : Option Int32 := (j_len z a).bind fun n => @ite _ (i < 0 ∨ n ≤ i.toNatClampNeg) (Classical.propDecidable _) none <| some (σ.1 a i.toNatClampNeg)
noncomputable def j_rdL (σ : jS) (a : Nat) (i : Int32) : Option Int64 := (j_len 2 a).bind fun n => @ite _ (i < 0 ∨ n ≤ i.toNatClampNeg) (Classical.propDecidable _) none <| some (σ.2.1 a i.toNatClampNeg)
noncomputable def j_wrI (σ : jS) (a : Nat) (i x : Int32) : Option jS := (j_len 0 a).bind fun n => @ite _ (i < 0 ∨ n ≤ i.toNatClampNeg) (Classical.propDecidable _) none <| some (j_setI σ a i.toNatClampNeg x)
noncomputable def j_wrZ (σ : jS) (a : Nat) (i x : Int32) : Option jS := (j_len 1 a).bind fun n => @ite _ (i < 0 ∨ n ≤ i.toNatClampNeg) (Classical.propDecidable _) none <| if x = 0 ∨ x = 1 then some (j_setI σ a i.toNatClampNeg x) else none
noncomputable def j_wrL (σ : jS) (a : Nat) (i : Int32) (x : Int64) : Option jS := (j_len 2 a).bind fun n => @ite _ (i < 0 ∨ n ≤ i.toNatClampNeg) (Classical.propDecidable _) none <| some (j_setL σ a i.toNatClampNeg x)
noncomputable def j_copy (σ : jS) (a0 : Nat) (sp : Int32) (a1 : Nat) (dp n : Int32) : Option jS := (j_len 0 a0).bind fun n0 => (j_len 0 a1).bind fun n1 =>
  @ite _ (sp < 0 ∨ dp < 0 ∨ n < 0 ∨ n0 < sp.toNatClampNeg + n.toNatClampNeg ∨ n1 < dp.toNatClampNeg + n.toNatClampNeg) (Classical.propDecidable _) none <| some (j_cpy σ a0 sp.toNatClampNeg a1 dp.toNatClampNeg n.toNatClampNeg)
/-- the String constants, as their signs' numbers -/
def jST : List (List Nat) := [[99, 111, 105, 110, 115, 32, 97, 103, 101, 32, 110, 101, 120, 116, 32, 101, 108, 100, 101, 114, 32, 112, 108, 97, 99, 101, 32, 104, 111, 117, 114, 32, 112, 101, 114, 115, 111, 110, 32, 112, 117, 114, 115, 101, 32, 104, 97, 110, 100, 115, 32, 116, 111, 32, 111, 114, 32, 112, 97, 114, 99, 101, 108, 32, 108, 97, 119, 32, 109, 97, 121, 32, 110, 111, 116, 32, 97, 110, 100, 32], [59, 40, 41, 43, 45, 42, 47, 37, 60, 61, 62], [112, 101, 114, 115, 111, 110, 32, 104, 97, 110, 100, 115, 32, 112, 97, 114, 99, 101, 108, 32, 108, 97, 119, 32, 109, 97, 121, 32, 112, 117, 114, 115, 101, 32, 116, 111, 32, 111, 114, 32, 97, 110, 100, 32, 110, 111, 116, 32, 99, 111, 105, 110, 115, 32, 97, 103, 101, 32, 110, 101, 120, 116, 32, 101, 108, 100, 101, 114, 32, 112, 108, 97, 99, 101, 32, 104, 111, 117, 114, 32]]
/-- Strings stand at 1000 and on -/
def j_str (a : Nat) : Option (List Nat) := match a with
  | 1000 => some (jST.getD 0 [])
  | 1001 => some (jST.getD 1 [])
  | 1002 => some (jST.getD 2 [])
  | _ => none
def j_idx (c : Int32) : List Nat → Nat → Int32
  | [], _ => -1
  | q :: r, n => if Int32.ofNat q = c then Int32.ofNat n else j_idx c r (n + 1)
/-- what an instruction takes off the frame -/
def jq0 {α : Type} (o : Option α) (f : α → jR) : jR := match o with
  | some x => f x
  | none => none
def jq1 {α : Type} (o : Option α) (f : α → jR) : jR := jq0 o f
def jq2 {α : Type} (o : Option α) (f : α → jR) : jR := jq1 o f
def jq3 {α : Type} (o : Option α) (f : α → jR) : jR := jq2 o f
def jq4 {α : Type} (o : Option α) (f : α → jR) : jR := jq3 o f
def jq {α : Type} (o : Option α) (f : α → jR) : jR := jq4 o f
def jc0 (b : Bool) (x : jR) : jR := match b with
  | true => x
  | false => none
def jc1 (b : Bool) (x : jR) : jR := jc0 b x
def jc2 (b : Bool) (x : jR) : jR := jc1 b x
def jc3 (b : Bool) (x : jR) : jR := jc2 b x
def jc4 (b : Bool) (x : jR) : jR := jc3 b x
def jc (b : Bool) (x : jR) : jR := jc4 b x
def p_I : List Value → Option (Int32 × List Value)
  | .int x :: st => some (x, st)
  | _ => none
def p_L : List Value → Option (Int64 × List Value)
  | .long x :: st => some (x, st)
  | _ => none
def p_R : List Value → Option (Nat × List Value)
  | .ref x :: st => some (x, st)
  | _ => none
def p_II : List Value → Option (Int32 × Int32 × List Value)
  | .int y :: .int x :: st => some (x, y, st)
  | _ => none
def p_LL : List Value → Option (Int64 × Int64 × List Value)
  | .long y :: .long x :: st => some (x, y, st)
  | _ => none
def p_LI : List Value → Option (Int64 × Int32 × List Value)
  | .int y :: .long x :: st => some (x, y, st)
  | _ => none
def p_RI : List Value → Option (Nat × Int32 × List Value)
  | .int y :: .ref x :: st => some (x, y, st)
  | _ => none
def p_RL : List Value → Option (Nat × Int64 × List Value)
  | .long y :: .ref x :: st => some (x, y, st)
  | _ => none
def p_RR : List Value → Option (Nat × Nat × List Value)
  | .ref y :: .ref x :: st => some (x, y, st)
  | _ => none
def p_RII : List Value → Option (Nat × Int32 × Int32 × List Value)
  | .int z :: .int y :: .ref x :: st => some (x, y, z, st)
  | _ => none
def p_RIL : List Value → Option (Nat × Int32 × Int64 × List Value)
  | .long z :: .int y :: .ref x :: st => some (x, y, z, st)
  | _ => none
def p_1 : List Value → Option (Value × List Value)
  | .int x :: st => some (.int x, st)
  | .ref x :: st => some (.ref x, st)
  | _ => none
def p_11 : List Value → Option (Value × Value × List Value)
  | .int y :: .ref x :: st => some (.ref x, .int y, st)
  | .int y :: .int x :: st => some (.int x, .int y, st)
  | _ => none
def p_cpy : List Value → Option (Nat × Int32 × Nat × Int32 × Int32 × List Value)
  | .int n :: .int dp :: .ref a1 :: .int sp :: .ref a0 :: st => some (a0, sp, a1, dp, n, st)
  | _ => none
/-- n arguments, in their order -/
def p_n : Nat → List Value → Option (List Value × List Value)
  | 0, st => some ([], st)
  | _ + 1, [] => none
  | n + 1, v :: st => (p_n n st).bind fun q => some (q.1 ++ [v], q.2)
def r_V : jR → Option jS
  | some (none, σ) => some σ
  | _ => none
def r_I : jR → Option (Int32 × jS)
  | some (some (.int x), σ) => some (x, σ)
  | _ => none
def r_L : jR → Option (Int64 × jS)
  | some (some (.long x), σ) => some (x, σ)
  | _ => none
def j_at : jL → Nat → Option Value
  | [], _ => none
  | q :: l, i => cond (q.1 == i) (some q.2) (j_at l i)
def j_atI (lv : jL) (i : Nat) : Option Int32 := (j_at lv i).bind fun v => match v with
  | .int x => some x
  | _ => none
def j_atL (lv : jL) (i : Nat) : Option Int64 := (j_at lv i).bind fun v => match v with
  | .long x => some x
  | _ => none
def j_atR (lv : jL) (i : Nat) : Option Nat := (j_at lv i).bind fun v => match v with
  | .ref x => some x
  | _ => none
def j_st1 (lv : jL) (i : Nat) (v : Value) : jL := (i, v) :: lv.filter (fun q => !(q.1 == i) && !(q.1 + 1 == i && q.2.category == 2))
def j_st2 (lv : jL) (i : Nat) (v : Value) : jL := (i, v) :: lv.filter (fun q => !(q.1 == i) && (!(q.1 == i + 1) && !(q.1 + 1 == i && q.2.category == 2)))
def j_pick : List Nat → jL → Option jL
  | [], _ => some []
  | i :: r, lv => (j_at lv i).bind fun v => (j_pick r lv).bind fun l => some ((i, v) :: l)
/-- a branch, by a condition that is never worked out -/
noncomputable def jif (c : Prop) (a b : jR) : jR := @ite _ c (Classical.propDecidable c) a b
noncomputable def j_sw (x : Int32) (d : jR) (f : Nat → jR) : List (Int × Nat) → jR
  | [] => d
  | q :: r => jif (x = Int32.ofInt q.1) (f q.2) (j_sw x d f r)
def j_keys (lo : Int) : List Nat → List (Int × Nat)
  | [] => []
  | b :: r => (lo, b) :: j_keys (lo + 1) r
def j_ret (rk : Nat) (r : jR) (lv : jL) (st : List Value) (k : jL → List Value → jS → jR) : jR := match rk with
  | 0 => (r_V r).bind fun q => k lv st q
  | 1 => (r_I r).bind fun q => k lv (.int q.1 :: st) q.2
  | 2 => (r_L r).bind fun q => k lv (.long q.1 :: st) q.2
  | _ => none
noncomputable def js (C : Nat → List Value → jS → jR) (rt : Nat) (K : Nat → jL → List Value → jS → jR) (i : Instr) (ex : List Nat) (lv : jL) (st : List Value) (σ : jS) (k : jL → List Value → jS → jR) : jR := match i with
  | .iconst n => k lv (.int (Int32.ofInt n) :: st) σ
  | .bipush n => k lv (.int (Int8.ofInt n).toInt32 :: st) σ
  | .sipush n => k lv (.int (Int16.ofInt n).toInt32 :: st) σ
  | .lconst n => k lv (.long (Int64.ofNat (n : Nat)) :: st) σ
  | .ldc _ => match ex with
    | [v] => k lv (.int (Int32.ofNat v) :: st) σ
    | [v, _] => k lv (.ref v :: st) σ
    | _ => none
  | .ldc_w _ => match ex with
    | [v] => k lv (.int (Int32.ofNat v) :: st) σ
    | _ => none
  | .ldc2_w _ => match ex with
    | [v] => k lv (.long (Int64.ofNat v) :: st) σ
    | _ => none
  | .iload_n n => jq (j_atI lv n) fun x => k lv (.int x :: st) σ
  | .iload n => jq (j_atI lv n) fun x => k lv (.int x :: st) σ
  | .lload_n n => jq (j_atL lv n) fun x => k lv (.long x :: st) σ
  | .lload n => jq (j_atL lv n) fun x => k lv (.long x :: st) σ
  | .aload_n n => jq (j_atR lv n) fun x => k lv (.ref x :: st) σ
  | .aload n => jq (j_atR lv n) fun x => k lv (.ref x :: st) σ
  | .istore_n n => jq (p_I st) fun q => k (j_st1 lv n (.int q.1)) q.2 σ
  | .istore n => jq (p_I st) fun q => k (j_st1 lv n (.int q.1)) q.2 σ
  | .lstore_n n => jq (p_L st) fun q => k (j_st2 lv n (.long q.1)) q.2 σ
  | .lstore n => jq (p_L st) fun q => k (j_st2 lv n (.long q.1)) q.2 σ
  | .astore_n n => jq (p_R st) fun q => k (j_st1 lv n (.ref q.1)) q.2 σ
  | .astore n => jq (p_R st) fun q => k (j_st1 lv n (.ref q.1)) q.2 σ
  | .iinc n c => jq (j_atI lv n) fun x => k (j_st1 lv n (.int (x + Int32.ofInt c))) st σ
  | .iadd => jq (p_II st) fun q => k lv (.int (q.1 + q.2.1) :: q.2.2) σ
  | .isub => jq (p_II st) fun q => k lv (.int (q.1 - q.2.1) :: q.2.2) σ
  | .imul => jq (p_II st) fun q => k lv (.int (q.1 * q.2.1) :: q.2.2) σ
  | .iand => jq (p_II st) fun q => k lv (.int (q.1 &&& q.2.1) :: q.2.2) σ
  | .ior => jq (p_II st) fun q => k lv (.int (q.1 ||| q.2.1) :: q.2.2) σ
  | .idiv => jq (p_II st) fun q => if q.2.1 = 0 then none else k lv (.int (q.1 / q.2.1) :: q.2.2) σ
  | .irem => jq (p_II st) fun q => if q.2.1 = 0 then none else k lv (.int (q.1 - q.1 / q.2.1 * q.2.1) :: q.2.2) σ
  | .ishl => jq (p_II st) fun q => k lv (.int (q.1 <<< (q.2.1 &&& 31)) :: q.2.2) σ
  | .ishr => jq (p_II st) fun q => k lv (.int (q.1 >>> (q.2.1 &&& 31)) :: q.2.2) σ
  | .iushr => jq (p_II st) fun q => k lv (.int (q.1.toUInt32 >>> (q.2.1.toUInt32 &&& Int32.toUInt32 31)).toInt32 :: q.2.2) σ
  | .ladd => jq (p_LL st) fun q => k lv (.long (q.1 + q.2.1) :: q.2.2) σ
  | .lsub => jq (p_LL st) fun q => k lv (.long (q.1 - q.2.1) :: q.2.2) σ
  | .lmul => jq (p_LL st) fun q => k lv (.long (q.1 * q.2.1) :: q.2.2) σ
  | .land => jq (p_LL st) fun q => k lv (.long (q.1 &&& q.2.1) :: q.2.2) σ
  | .lor => jq (p_LL st) fun q => k lv (.long (q.1 ||| q.2.1) :: q.2.2) σ
  | .ldiv => jq (p_LL st) fun q => if q.2.1 = 0 then none else k lv (.long (q.1 / q.2.1) :: q.2.2) σ
  | .lrem => jq (p_LL st) fun q => if q.2.1 = 0 then none else k lv (.long (q.1 - q.1 / q.2.1 * q.2.1) :: q.2.2) σ
  | .lneg => jq (p_L st) fun q => k lv (.long (-q.1) :: q.2) σ
  | .lcmp => jq (p_LL st) fun q => k lv (.int (lg_cmp q.1 q.2.1) :: q.2.2) σ
  | .lshl => jq (p_LI st) fun q => k lv (.long (q.1 <<< (q.2.1.toInt64 &&& 63)) :: q.2.2) σ
  | .lshr => jq (p_LI st) fun q => k lv (.long (q.1 >>> (q.2.1.toInt64 &&& 63)) :: q.2.2) σ
  | .lushr => jq (p_LI st) fun q => k lv (.long (q.1.toUInt64 >>> (q.2.1.toInt64.toUInt64 &&& Int64.toUInt64 63)).toInt64 :: q.2.2) σ
  | .i2l => jq (p_I st) fun q => k lv (.long q.1.toInt64 :: q.2) σ
  | .l2i => jq (p_L st) fun q => k lv (.int q.1.toInt32 :: q.2) σ
  | .i2c => jq (p_I st) fun q => k lv (.int (q.1.toUInt32 % 65536).toInt32 :: q.2) σ
  | .dup => jq (p_1 st) fun q => k lv (q.1 :: q.1 :: q.2) σ
  | .pop => jq (p_1 st) fun q => k lv q.2 σ
  | .dup2 => jq (p_11 st) fun q => k lv (q.2.1 :: q.1 :: q.2.1 :: q.1 :: q.2.2) σ
  | .iaload => match ex with
    | [] => jq (p_RI st) fun q => (j_rdI 0 σ q.1 q.2.1).bind fun x => k lv (.int x :: q.2.2) σ
    | [y] => jq (p_RI st) fun q => jc (q.1 == 2000) ((r_I (C y [.int q.2.1] σ)).bind fun w => k lv (.int w.1 :: q.2.2) w.2)
    | _ => none
  | .baload => jq (p_RI st) fun q => (j_rdI 1 σ q.1 q.2.1).bind fun x => k lv (.int x :: q.2.2) σ
  | .laload => jq (p_RI st) fun q => (j_rdL σ q.1 q.2.1).bind fun x => k lv (.long x :: q.2.2) σ
  | .iastore => jq (p_RII st) fun q => (j_wrI σ q.1 q.2.1 q.2.2.1).bind fun t => k lv q.2.2.2 t
  | .bastore => jq (p_RII st) fun q => (j_wrZ σ q.1 q.2.1 q.2.2.1).bind fun t => k lv q.2.2.2 t
  | .lastore => jq (p_RIL st) fun q => (j_wrL σ q.1 q.2.1 q.2.2.1).bind fun t => k lv q.2.2.2 t
  | .arraylength => match ex with
    | [] => jq (p_R st) fun q => (j_len 0 q.1).bind fun n => k lv (.int (Int32.ofNat n) :: q.2) σ
    | [y] => jq (p_R st) fun q => jc (q.1 == 2000) ((r_I (C y [] σ)).bind fun w => k lv (.int w.1 :: q.2) w.2)
    | _ => none
  | .getfield _ => match ex with
    | [ci, f, 0] => jq (p_R st) fun q => jc (j_is ci q.1) (k lv (.int (σ.1 q.1 f) :: q.2) σ)
    | [ci, f, 1] => jq (p_R st) fun q => jc (j_is ci q.1) (k lv (.int (σ.1 q.1 f) :: q.2) σ)
    | [ci, f, 2] => jq (p_R st) fun q => jc (j_is ci q.1) (k lv (.long (σ.2.1 q.1 f) :: q.2) σ)
    | [ci, f, 3] => jq (p_R st) fun q => jc (j_is ci q.1) (k lv (.ref (σ.2.2 q.1 f) :: q.2) σ)
    | [ci, f, 4] => jq (p_R st) fun q => jc (j_is ci q.1) (k lv (.ref (j_cr q.1 f) :: q.2) σ)
    | _ => none
  | .putfield _ => match ex with
    | [ci, f, 0] => jq (p_RI st) fun q => jc (j_is ci q.1) (k lv q.2.2 (j_setI σ q.1 f q.2.1))
    | [ci, f, 1] => jq (p_RI st) fun q => jc (j_is ci q.1) (if q.2.1 = 0 ∨ q.2.1 = 1 then k lv q.2.2 (j_setI σ q.1 f q.2.1) else none)
    | [ci, f, 2] => jq (p_RL st) fun q => jc (j_is ci q.1) (k lv q.2.2 (j_setL σ q.1 f q.2.1))
    | [ci, f, 3] => jq (p_RR st) fun q => jc (j_is ci q.1) (k lv q.2.2 (j_setR σ q.1 f q.2.1))
    | _ => none
  | .goto _ => match ex with
    | [t] => K t lv st σ
    | _ => none
  | .ifCond c _ => match ex with
    | [t] => jq (p_I st) fun q => match c with
      | .eq => jif (q.1 = 0) (K t lv q.2 σ) (k lv q.2 σ)
      | .ne => jif (q.1 = 0) (k lv q.2 σ) (K t lv q.2 σ)
      | .lt => jif (q.1 < 0) (K t lv q.2 σ) (k lv q.2 σ)
      | .ge => jif (0 ≤ q.1) (K t lv q.2 σ) (k lv q.2 σ)
      | .gt => jif (0 < q.1) (K t lv q.2 σ) (k lv q.2 σ)
      | .le => jif (q.1 ≤ 0) (K t lv q.2 σ) (k lv q.2 σ)
    | _ => none
  | .if_icmp c _ => match ex with
    | [t] => jq (p_II st) fun q => match c with
      | .eq => jif (q.1 = q.2.1) (K t lv q.2.2 σ) (k lv q.2.2 σ)
      | .ne => jif (q.1 = q.2.1) (k lv q.2.2 σ) (K t lv q.2.2 σ)
      | .lt => jif (q.1 < q.2.1) (K t lv q.2.2 σ) (k lv q.2.2 σ)
      | .ge => jif (q.2.1 ≤ q.1) (K t lv q.2.2 σ) (k lv q.2.2 σ)
      | .gt => jif (q.2.1 < q.1) (K t lv q.2.2 σ) (k lv q.2.2 σ)
      | .le => jif (q.1 ≤ q.2.1) (K t lv q.2.2 σ) (k lv q.2.2 σ)
    | _ => none
  | .tableswitch _ lo _ _ => match ex with
    | d :: bs => jq (p_I st) fun q => j_sw q.1 (K d lv q.2 σ) (fun b => K b lv q.2 σ) (j_keys lo bs)
    | _ => none
  | .lookupswitch _ ps => match ex with
    | d :: bs => jq (p_I st) fun q => j_sw q.1 (K d lv q.2 σ) (fun b => K b lv q.2 σ) ((ps.toList.map (fun z => z.1)).zip bs)
    | _ => none
  | .invokevirtual _ => match ex with
    | [901] => jq (p_R st) fun q => (j_str q.1).bind fun z => jc (Nat.ble (q.2.map fun v => v.category).sum 8) (k lv (.int (Int32.ofNat z.length) :: q.2) σ)
    | [902, _] => jq (p_RI st) fun q => (j_str q.1).bind fun z => if q.2.1 < 0 ∨ z.length ≤ q.2.1.toNatClampNeg then none else jc (Nat.ble (q.2.2.map fun v => v.category).sum 8) (k lv (.int (Int32.ofNat (z.getD q.2.1.toNatClampNeg 0)) :: q.2.2) σ)
    | [903, _, _] => jq (p_RI st) fun q => (j_str q.1).bind fun z => jc (Nat.ble (q.2.2.map fun v => v.category).sum 8) (k lv (.int (j_idx q.2.1 z 0) :: q.2.2) σ)
    | [y, n, ci, rk] => jq (p_n n st) fun q => jq (p_R q.2) fun w => jc (j_is ci w.1) (jc (Nat.ble (w.2.map fun v => v.category).sum 8) (j_ret rk (C y (.ref w.1 :: q.1) σ) lv w.2 k))
    | _ => none
  | .invokestatic _ => match ex with
    | [_] => jq (p_cpy st) fun q => jc (Nat.ble (q.2.2.2.2.2.map fun v => v.category).sum 8) ((j_copy σ q.1 q.2.1 q.2.2.1 q.2.2.2.1 q.2.2.2.2.1).bind fun t => k lv q.2.2.2.2.2 t)
    | [910, _] => jq (p_II st) fun q => jc (Nat.ble (q.2.2.map fun v => v.category).sum 8) (k lv (.int (if q.1 < q.2.1 then q.2.1 else q.1) :: q.2.2) σ)
    | [911, _] => jq (p_II st) fun q => jc (Nat.ble (q.2.2.map fun v => v.category).sum 8) (k lv (.int (if q.2.1 < q.1 then q.2.1 else q.1) :: q.2.2) σ)
    | [912, _] => jq (p_LL st) fun q => jc (Nat.ble (q.2.2.map fun v => v.category).sum 8) (k lv (.long (if q.2.1 < q.1 then q.2.1 else q.1) :: q.2.2) σ)
    | [913, _] => jq (p_L st) fun q => jc (Nat.ble (q.2.map fun v => v.category).sum 8) (k lv (.long (if 0 < q.1 then q.1 else -q.1) :: q.2) σ)
    | [y, n, rk] => jq (p_n n st) fun q => jc (Nat.ble (q.2.map fun v => v.category).sum 8) (j_ret rk (C y q.1 σ) lv q.2 k)
    | _ => none
  | .ireturn => match rt with
    | 1 => jq (p_I st) fun q => jc q.2.isEmpty (some (some (.int q.1), σ))
    | 2 => jq (p_I st) fun q => jc q.2.isEmpty (if q.1 = 0 ∨ q.1 = 1 then some (some (.int q.1), σ) else none)
    | _ => none
  | .lreturn => match rt with
    | 3 => jq (p_L st) fun q => jc q.2.isEmpty (some (some (.long q.1), σ))
    | _ => none
  | .return_ => match rt with
    | 0 => jc st.isEmpty (some (none, σ))
    | _ => none
  | _ => none
noncomputable def jb (C : Nat → List Value → jS → jR) (rt : Nat) (K : Nat → jL → List Value → jS → jR) (nx : Nat) : List jN → jL → List Value → jS → jR
  | [], lv, st, σ => K nx lv st σ
  | (i, ex) :: r, lv, st, σ => js C rt K i ex lv st σ (fun lv st σ => jb C rt K nx r lv st σ)
def j_go (B : List jB) (K : Nat → jL → List Value → jS → jR) (j : Nat) (lv : jL) (st : List Value) (σ : jS) : jR := (B[j]?).bind fun b => (j_pick b.2.1 lv).bind fun l => K j l st σ
noncomputable def jstep (C : Nat → List Value → jS → jR) (rt : Nat) (B : List jB) (K : Nat → jL → List Value → jS → jR) (j : Nat) (lv : jL) (st : List Value) (σ : jS) : jR := (B[j]?).bind fun b => jb C rt (j_go B K) b.2.2.2 b.2.2.1 lv st σ
noncomputable def jrun (C : Nat → List Value → jS → jR) (rt : Nat) (B : List jB) : Nat → Nat → jL → List Value → jS → jR
  | 0 => fun _ _ _ _ => none
  | n + 1 => fun j lv st σ => jstep C rt B (jrun C rt B n) j lv st σ
noncomputable def db (C : Nat → List Value → jS → jR) (rt : Nat) (B : List jB) (j : Nat) (lv : jL) (st : List Value) (σ : jS) : jR :=
  @dite _ (∃ r, ∃ n, jrun C rt B n j lv st σ = some r) (Classical.propDecidable _) (fun h => some (Classical.choose h)) (fun _ => none)
