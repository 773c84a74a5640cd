/-! The constructors' machine: it runs the bytes themselves, on concrete ints. First printed by wip/gen/ctor.py, then given its checks by wip/gen/ctorx.py. -/
abbrev kC : Type := (Nat × Nat × List (Nat × Int32)) ⊕ (Nat × List Value)
/-- fields: whose code, its index, class and place of the field -/
def kLF : List (Nat × Nat × Nat × Nat) := [(0, 9, 0, 1), (0, 15, 0, 2), (0, 18, 0, 4), (0, 21, 0, 5), (0, 24, 0, 6), (0, 27, 0, 7), (0, 30, 0, 8), (0, 33, 0, 9), (0, 36, 0, 10), (0, 39, 0, 12), (0, 43, 0, 11), (1, 11, 1, 3), (1, 17, 1, 4), (1, 20, 1, 5), (1, 23, 1, 6), (1, 26, 1, 7), (1, 29, 1, 8), (2, 9, 2, 1), (2, 15, 2, 2), (2, 19, 2, 3), (2, 23, 2, 4), (2, 26, 2, 5), (2, 29, 2, 6), (2, 32, 2, 7), (2, 35, 2, 8), (3, 9, 3, 3), (3, 15, 3, 4), (3, 18, 3, 5), (3, 21, 3, 6), (3, 25, 3, 7), (3, 28, 3, 8), (3, 31, 3, 0), (3, 35, 3, 1), (4, 14, 4, 2), (4, 20, 4, 3), (5, 9, 5, 1), (6, 9, 6, 1), (6, 15, 6, 2), (6, 18, 6, 3), (6, 21, 6, 4), (6, 24, 6, 5), (6, 27, 6, 7), (6, 30, 6, 8), (6, 33, 6, 9), (6, 36, 6, 11), (6, 42, 6, 12), (7, 11, 7, 6), (7, 15, 7, 5), (8, 9, 8, 0), (8, 16, 8, 2), (8, 20, 8, 3), (8, 28, 8, 4), (8, 32, 8, 6), (8, 41, 8, 7), (8, 45, 8, 8), (8, 48, 8, 10), (8, 54, 8, 11), (8, 63, 8, 12), (8, 70, 8, 13), (9, 9, 9, 1), (9, 15, 9, 3), (9, 18, 9, 4), (9, 21, 9, 5), (9, 24, 9, 6), (9, 27, 9, 7), (9, 30, 9, 8), (9, 33, 9, 9), (9, 36, 9, 10), (9, 39, 9, 11), (9, 42, 9, 12), (9, 45, 9, 13), (9, 48, 9, 14), (9, 51, 9, 15), (9, 54, 9, 16), (9, 57, 9, 26), (9, 61, 9, 33), (9, 65, 9, 34), (9, 68, 9, 37), (9, 71, 9, 38), (9, 74, 9, 39), (9, 77, 9, 40), (9, 80, 9, 41), (9, 83, 9, 42), (9, 86, 9, 43), (9, 89, 9, 44), (9, 92, 9, 45), (9, 95, 9, 46), (9, 98, 9, 49), (9, 101, 9, 51), (9, 104, 9, 54), (9, 107, 9, 70), (9, 110, 9, 71), (9, 113, 9, 72), (9, 116, 9, 73), (9, 119, 9, 74), (9, 122, 9, 75), (9, 125, 9, 76), (9, 129, 9, 77), (9, 132, 9, 78), (9, 135, 9, 79)]
def kLC : List (Nat × Nat × Nat) := [(4, 9, 7), (6, 39, 1), (8, 13, 6), (8, 23, 4), (8, 36, 0), (8, 51, 5), (8, 58, 3), (8, 67, 2)]
def kLI : List (Nat × Nat × Nat) := [(4, 11, 7), (6, 41, 1), (8, 15, 6), (8, 25, 4), (8, 38, 0), (8, 53, 5), (8, 60, 3), (8, 69, 2)]
def kLO : List (Nat × Nat × Nat) := [(0, 3, 0), (1, 5, 0), (2, 3, 0), (3, 3, 0), (4, 3, 0), (5, 3, 0), (6, 3, 0), (7, 3, 0), (8, 3, 0), (9, 3, 0)]
def kcode (ci : Nat) : ByteArray := match ci with
  | 0 => prog_2_method_1_code
  | 1 => prog_3_method_1_code
  | 2 => prog_4_method_1_code
  | 3 => prog_5_method_1_code
  | 4 => prog_6_method_1_code
  | 5 => prog_7_method_1_code
  | 6 => prog_8_method_1_code
  | 7 => prog_9_method_1_code
  | 8 => prog_1_method_1_code
  | 9 => prog_11_method_1_code
  | _ => ⟨#[]⟩
def kargs (ci : Nat) : Nat := ([1, 0, 0, 2, 2, 0, 0, 1, 0, 0] : List Nat).getD ci 0
def kmaxL (ci : Nat) : Nat := ([2, 1, 1, 3, 3, 1, 1, 6, 1, 1] : List Nat).getD ci 0
def klen (i : Instr) : Nat := match i with
  | .newarray _ => 2
  | i => jlen i
def kcat (l : List Value) : Nat := (l.map fun v => v.category).sum
def ktyp (t : FieldType) (v : Value) : Bool := match t, v with
  | .int, .int _ => true
  | .boolean, .int x => decide (x = 0 ∨ x = 1)
  | .object _, .ref _ => true
  | .array _, .ref _ => true
  | _, _ => false
def kL3 (l : List (Nat × Nat × Nat)) (o i : Nat) : Option Nat := (l.find? fun q => q.1 == o && q.2.1 == i).map fun q => q.2.2
def kL4 (l : List (Nat × Nat × Nat × Nat)) (o i : Nat) : Option (Nat × Nat) := (l.find? fun q => q.1 == o && q.2.1 == i).map fun q => q.2.2
def kat (t : ArrayType) : Option Nat := match t with
  | .int => some 0
  | .boolean => some 1
  | .long => some 2
  | _ => none
def kdef (ci : Nat) : List Value := (List.range (jnn ci)).map fun k => defaultValue (jyy ci k)
def kget (w : List (Nat × Int32)) (k : Nat) : Int32 := ((w.find? fun q => q.1 == k).map fun q => q.2).getD 0
abbrev kO : Type := Option (List kC)
/-- worked out before it goes on: a number, an int, a value, a list -/
def kfN (n : Nat) (k : Nat → kO) : kO := Nat.casesOn (motive := fun _ => kO) n (k 0) (fun m => k (m + 1))
def kfI (x : Int32) (k : Int32 → kO) : kO := kfN x.toUInt32.toNat fun n => k (Int32.ofNat n)
def kfV (v : Value) (k : Value → kO) : kO := match v with
  | .int x => kfI x fun x => k (.int x)
  | .ref a => kfN a fun a => k (.ref a)
  | v => k v
def kfL {β : Type} (f : β → (β → kO) → kO) (l : List β) (k : List β → kO) : kO := match l with
  | [] => k []
  | x :: r => f x fun x => kfL f r fun r => k (x :: r)
def kfX {β : Type} (x : β) (k : β → kO) : kO := k x
def kfQ (q : Nat × Value) (k : Nat × Value → kO) : kO := match q with
  | (n, v) => kfN n fun n => kfV v fun v => k (n, v)
def ke (e : kC) : Nat := match e with
  | .inl q => q.2.1
  | .inr q => jnn q.1
def ksl (es : List kC) : Nat := (es.map ke).sum
/-- a store into a field -/
def kput (es : List kC) (a ci k : Nat) (v : Value) (g : List kC → kO) : kO := match es[a]? with
  | some (.inr (cj, fs)) => if cj = ci ∧ k < fs.length then kfL kfV (fs.set k v) fun fs => kfL kfX (es.set a (.inr (cj, fs))) g else none
  | _ => none
def kfld (es : List kC) (a ci k : Nat) : Option Value := match es[a]? with
  | some (.inr (cj, fs)) => if cj = ci then fs[k]? else none
  | _ => none
def kast (es : List kC) (a : Nat) (i x : Int32) (g : List kC → kO) : kO := match es[a]? with
  | some (.inl (0, n, w)) => if i < 0 ∨ n ≤ i.toNatClampNeg then none else kfN i.toNatClampNeg fun j => kfI x fun x => kfL kfX (es.set a (.inl (0, n, (j, x) :: w))) g
  | _ => none
def kcall (n : Nat) (st : List Value) : Option (Nat × List Value × List Value) := match st.drop n with
  | .ref a :: rest => some (a, (st.take n).reverse, rest)
  | _ => none
def kstep (C : Nat → List Value → List kC → kO) (own pc len : Nat) (i : Instr) (lv : jL) (st : List Value) (es : List kC) (k : Nat → jL → List Value → List kC → kO) : kO :=
  match i with
  | .aload_n n => match j_atR lv n with
    | some x => k (pc + len) lv (.ref x :: st) es
    | none => none
  | .iload_n n => match j_atI lv n with
    | some x => k (pc + len) lv (.int x :: st) es
    | none => none
  | .iload n => match j_atI lv n with
    | some x => k (pc + len) lv (.int x :: st) es
    | none => none
  | .istore_n n => match st with
    | .int x :: r => cond (Nat.blt n (kmaxL own)) (kfL kfQ (j_st1 lv n (.int x)) fun lv => k (pc + len) lv r es) none
    | _ => none
  | .istore n => match st with
    | .int x :: r => cond (Nat.blt n (kmaxL own)) (kfL kfQ (j_st1 lv n (.int x)) fun lv => k (pc + len) lv r es) none
    | _ => none
  | .iinc n c => match j_atI lv n with
    | some x => cond (Nat.blt n (kmaxL own)) (kfL kfQ (j_st1 lv n (.int (x + Int32.ofInt c))) fun lv => k (pc + len) lv st es) none
    | none => none
  | .iconst n => kfI (Int32.ofInt n) fun x => k (pc + len) lv (.int x :: st) es
  | .bipush n => kfI (Int8.ofInt n).toInt32 fun x => k (pc + len) lv (.int x :: st) es
  | .sipush n => kfI (Int16.ofInt n).toInt32 fun x => k (pc + len) lv (.int x :: st) es
  | .iadd => match st with
    | .int y :: .int x :: r => kfI (x + y) fun z => k (pc + len) lv (.int z :: r) es
    | _ => none
  | .isub => match st with
    | .int y :: .int x :: r => kfI (x - y) fun z => k (pc + len) lv (.int z :: r) es
    | _ => none
  | .imul => match st with
    | .int y :: .int x :: r => kfI (x * y) fun z => k (pc + len) lv (.int z :: r) es
    | _ => none
  | .ishl => match st with
    | .int y :: .int x :: r => kfI (x <<< (y &&& 31)) fun z => k (pc + len) lv (.int z :: r) es
    | _ => none
  | .ior => match st with
    | .int y :: .int x :: r => kfI (x ||| y) fun z => k (pc + len) lv (.int z :: r) es
    | _ => none
  | .dup => match st with
    | .ref a :: r => k (pc + len) lv (.ref a :: .ref a :: r) es
    | _ => none
  | .goto off => cond (decide (0 ≤ (pc : Int) + off)) (k ((pc : Int) + off).toNat lv st es) none
  | .if_icmp c off => match st with
    | .int y :: .int x :: r => match c with
      | .ge => cond (decide (0 ≤ (pc : Int) + off)) (if x < y then k (pc + len) lv r es else k ((pc : Int) + off).toNat lv r es) none
      | .ne => cond (decide (0 ≤ (pc : Int) + off)) (if x = y then k (pc + len) lv r es else k ((pc : Int) + off).toNat lv r es) none
      | _ => none
    | _ => none
  | .ldc n => if own = 7 ∧ n = 18 then k (pc + len) lv (.ref 1000 :: st) es else none
  | .invokevirtual n => if own = 7 ∧ n = 20 then (match st with
      | .ref a :: r => match j_str a with
        | some z => cond (Nat.ble (kcat r) 8) (kfI (Int32.ofNat z.length) fun x => k (pc + len) lv (.int x :: r) es) none
        | none => none
      | _ => none) else if own = 7 ∧ n = 26 then (match st with
      | .int i :: .ref a :: r => match j_str a with
        | some z => if i < 0 then none else match z[i.toNatClampNeg]? with
          | some x => cond (Nat.ble (kcat r) 8) (kfI (Int32.ofNat x) fun x => k (pc + len) lv (.int x :: r) es) none
          | none => none
        | none => none
      | _ => none) else none
  | .newarray t => match kat t with
    | some z => match st with
      | .int x :: r => if x < 0 then none else kfN x.toNatClampNeg fun n => cond (Nat.ble n 1000000) (kfN es.length fun a => kfL kfX (es ++ [.inl (z, n, [])]) fun es => k (pc + len) lv (.ref a :: r) es) none
      | _ => none
    | none => none
  | .new n => match kL3 kLC own n with
    | some ci => kfN es.length fun a => kfL kfV (kdef ci) fun fs => kfL kfX (es ++ [.inr (ci, fs)]) fun es => k (pc + len) lv (.ref a :: st) es
    | none => none
  | .putfield n => match kL4 kLF own n with
    | some f => match st with
      | v :: .ref a :: r => cond (ktyp (jyy f.1 f.2) v) (kput es a f.1 f.2 v fun es => k (pc + len) lv r es) none
      | _ => none
    | none => none
  | .getfield n => match kL4 kLF own n with
    | some f => match st with
      | .ref a :: r => match kfld es a f.1 f.2 with
        | some v => kfV v fun v => k (pc + len) lv (v :: r) es
        | none => none
      | _ => none
    | none => none
  | .iastore => match st with
    | .int x :: .int i :: .ref a :: r => kast es a i x fun es => k (pc + len) lv r es
    | _ => none
  | .invokespecial n => match kL3 kLO own n with
    | some _ => match st with
      | .ref _ :: r => cond (Nat.ble (kcat r) 8) (k (pc + len) lv r es) none
      | _ => none
    | none => match kL3 kLI own n with
      | some ci => match kcall (kargs ci) st with
        | some q => cond (Nat.ble (kcat q.2.2) 8) (match C ci (.ref q.1 :: q.2.1) es with
          | some es' => cond (Nat.ble es.length es'.length && Nat.ble (ksl es) (ksl es')) (kfL kfV q.2.2 fun r => k (pc + len) lv r es') none
          | none => none) none
        | none => none
      | none => none
  | _ => none
def kret (i : Instr) : Bool := match i with
  | .return_ => true
  | _ => false
def krun (C : Nat → List Value → List kC → kO) (own : Nat) (cc : ByteArray) : Nat → Nat → jL → List Value → List kC → kO
  | 0, _, _, _, _ => none
  | f + 1, pc, lv, st, es => match decode cc pc with
    | .ok (i, n) => cond (Nat.beq n (klen i)) (match kret i with
      | true => match st with
        | [] => some es
        | _ => none
      | false => kstep C own pc (klen i) i lv st es fun pc lv st es => kfN pc fun pc => krun C own cc f pc lv st es) none
    | .error _ => none
def kd : Nat → Nat → List Value → List kC → kO
  | 0, _, _, _ => none
  | d + 1, ci, a, es => cond (Nat.ble (kcat a) (kmaxL ci)) (kfL kfQ (lv_args 0 a) fun lv => krun (kd d) ci (kcode ci) 4000 0 lv [] es) none
/-- the world behind each of the law's three 'new' -/
def kE1 : Option (List kC) := kd 4 8 [.ref 0] [.inr (8, kdef 8)]
def kE2 : Option (List kC) := kE1.bind fun es => kd 4 9 [.ref 86] (es ++ [.inr (9, kdef 9)])
def kE3 : Option (List kC) := kE2.map fun es => es ++ [.inl (2, 1, [])]
/-- the first state -/
def kS : jS := (fun a k => if a = 38 then (if k < 16 then nI (jWd k) else 0) else if (a = 0 ∧ k = 6) ∨ (a = 78 ∧ k = 1) ∨ ((a = 39 ∨ a = 49 ∨ a = 59) ∧ k = 12) ∨ (a = 86 ∧ (k = 26 ∨ k = 70)) then -1 else 0, fun _ _ => 0, fun a k => if a = 0 ∧ k = 3 ∨ a = 36 ∧ k = 3 then 19 else 2)
def kWds : List (Nat × Int32) := ((List.range 16).map fun i => (i, nI (jWd i))).reverse
noncomputable def kFin : List kC := jSH.mapIdx fun a e => match e with
  | .inl q => .inl (q.1, q.2, if a = 38 then kWds else [])
  | .inr ci => .inr (ci, (j_fk ci).mapIdx fun k f => match f with
    | 0 => .int (kS.1 a k)
    | 1 => .int (kS.1 a k)
    | 2 => .long 0
    | 3 => .ref (kS.2.2 a k)
    | _ => .ref (j_cr a k))
def kdec (a b : kC) : Decidable (a = b) := match a, b with
  | .inl x, .inl y => if h : x = y then isTrue (by rw [h]) else isFalse (fun e => h (Sum.inl.inj e))
  | .inr x, .inr y => if h : x = y then isTrue (by rw [h]) else isFalse (fun e => h (Sum.inr.inj e))
  | .inl _, .inr _ => isFalse (fun e => nomatch e)
  | .inr _, .inl _ => isFalse (fun e => nomatch e)
def kdecL : (a b : List kC) → Decidable (a = b)
  | [], [] => isTrue rfl
  | [], _ :: _ => isFalse (fun e => nomatch e)
  | _ :: _, [] => isFalse (fun e => nomatch e)
  | x :: a, y :: b => match kdec x y with
    | isFalse h => isFalse (fun e => h (List.cons.inj e).1)
    | isTrue h => match kdecL a b with
      | isFalse h => isFalse (fun e => h (List.cons.inj e).2)
      | isTrue h2 => isTrue (by rw [h, h2])
def kdecO (a : Option (List kC)) (b : List kC) : Decidable (a = some b) := match a with
  | none => isFalse (fun e => nomatch e)
  | some a => match kdecL a b with
    | isFalse h => isFalse (fun e => h (Option.some.inj e))
    | isTrue h => isTrue (by rw [h])
set_option maxRecDepth 100000 in
theorem kE1_len : (match kE1 with
  | some es => Nat.beq es.length 86 && Nat.ble 14 (ksl es) && Nat.ble (ksl es) 1000000
  | none => false) = true := by decide +kernel
set_option maxRecDepth 100000 in
theorem kE3_fin : kE3 = some kFin := @of_decide_eq_true (kE3 = some kFin) (kdecO kE3 kFin) (by decide +kernel)
