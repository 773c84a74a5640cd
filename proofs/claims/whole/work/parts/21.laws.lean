/-! The laws' programs: knots behind those that they join. What they come to, as a function; the class's side. -/
def lw_err : Int64 := -9223372036854775808
def lw_top : Int64 := 1000000000000
def lw_abs (x : Int64) : Int64 := if 0 ≤ x then x else -x
def lw_mul (x y : Int64) : Int64 := if lw_abs x ≤ 0 then x * y else if lw_abs y ≤ lw_top / lw_abs x then x * y else lw_err
def lw_j (k : Int32) (x y : Int64) : Int64 :=
  if k = 10 then (if x = 0 ∧ y = 0 then 0 else 1)
  else if k = 15 then (if x = 0 ∨ y = 0 then 0 else 1)
  else if k = 37 then (if y = 0 then lw_err else x - x / y * y)
  else if k = 42 then lw_mul x y
  else if k = 43 then x + y
  else if k = 45 then x - y
  else if k = 47 then (if y = 0 then lw_err else x / y)
  else if k = 60 then (if x < y then 1 else 0)
  else if k = 61 then (if x = y then 1 else 0)
  else if k = 256 then (if x ≤ y then 1 else 0)
  else if k = 257 then (if x = y then 0 else 1)
  else if k = 258 then (if y ≤ x then 1 else 0)
  else (if y < x then 1 else 0)
/-- in bounds -/
def lw_in (v : Int64) : Prop := ¬ lw_top < v ∧ ¬ v < -lw_top
theorem jif_pick {α : Type} (c : Prop) (dc : Decidable c) (f : α → jR) (a b : α) : jif c (f a) (f b) = f (@ite _ c dc a b) := by
  by_cases h : c
  · rw [jif_t h, if_pos h]
  · rw [jif_f h, if_neg h]
theorem c_joined4 (d : Nat) (k : Int32) (x y : Int64) (σ : jS) : b_La_joined_4 d k x y (lw_abs x) (lw_abs y) σ = some (some (.long (lw_j k x y)), σ) := by
  rw [q_La_joined_4]
  unfold lw_j
  by_cases h : k = 10
  · rw [jif_t h, if_pos h, q_La_joined_19, q_La_joined_20, q_La_joined_21, q_La_joined_22, q_La_joined_22]
    simp only [lg_cmp_eq]
    by_cases hx : x = 0
    · rw [jif_t hx]
      by_cases hy : y = 0
      · rw [jif_t hy, if_pos ⟨hx, hy⟩]
      · rw [jif_f hy, if_neg (fun q => hy q.2)]
    · rw [jif_f hx, if_neg (fun q => hx q.1)]
  rw [jif_f h, if_neg h]; clear h
  by_cases h : k = 15
  · rw [jif_t h, if_pos h, q_La_joined_16, q_La_joined_17, q_La_joined_18, q_La_joined_18]
    simp only [lg_cmp_eq]
    by_cases hx : x = 0
    · rw [jif_t hx, if_pos (Or.inl hx)]
    · rw [jif_f hx]
      by_cases hy : y = 0
      · rw [jif_t hy, if_pos (Or.inr hy)]
      · rw [jif_f hy, if_neg (fun q => q.elim hx hy)]
  rw [jif_f h, if_neg h]; clear h
  by_cases h : k = 37
  · rw [jif_t h, if_pos h, q_La_joined_13, q_La_joined_14, q_La_joined_15, q_La_joined_15]
    simp only [lg_cmp_eq]
    by_cases hy : y = 0
    · rw [jif_t hy, if_pos hy]; rfl
    · rw [jif_f hy, if_neg hy, if_neg hy]
  rw [jif_f h, if_neg h]; clear h
  by_cases h : k = 42
  · rw [jif_t h, if_pos h, q_La_joined_7, q_La_joined_8, q_La_joined_9, q_La_joined_9]
    simp only [lg_cmp_le]
    unfold lw_mul
    by_cases hx : lw_abs x ≤ 0
    · rw [jif_t hx, if_pos hx]
    · rw [jif_f hx, if_neg hx, if_neg (fun q => hx (by rw [q]; exact Int64.le_refl _))]
      by_cases hy : lw_abs y ≤ lw_top / lw_abs x
      · rw [if_pos hy]
        exact jif_t hy
      · rw [if_neg hy]
        exact jif_f hy
  rw [jif_f h, if_neg h]; clear h
  by_cases h : k = 43
  · rw [jif_t h, if_pos h, q_La_joined_5]
  rw [jif_f h, if_neg h]; clear h
  by_cases h : k = 45
  · rw [jif_t h, if_pos h, q_La_joined_6]
  rw [jif_f h, if_neg h]; clear h
  by_cases h : k = 47
  · rw [jif_t h, if_pos h, q_La_joined_10, q_La_joined_11, q_La_joined_12, q_La_joined_12]
    simp only [lg_cmp_eq]
    by_cases hy : y = 0
    · rw [jif_t hy, if_pos hy]; rfl
    · rw [jif_f hy, if_neg hy, if_neg hy]
  rw [jif_f h, if_neg h]; clear h
  by_cases h : k = 60
  · rw [jif_t h, if_pos h, q_La_joined_23, q_La_joined_24, q_La_joined_25, q_La_joined_25]
    simp only [lg_cmp_ge]
    by_cases hy : y ≤ x
    · rw [jif_t hy, if_neg (Int64.not_lt.mpr hy)]
    · rw [jif_f hy, if_pos (Int64.not_le.mp hy)]
  rw [jif_f h, if_neg h]; clear h
  by_cases h : k = 61
  · rw [jif_t h, if_pos h, q_La_joined_29, q_La_joined_30, q_La_joined_31, q_La_joined_31]
    simp only [lg_cmp_eq]
    by_cases hy : x = y
    · rw [jif_t hy, if_pos hy]
    · rw [jif_f hy, if_neg hy]
  rw [jif_f h, if_neg h]; clear h
  by_cases h : k = 256
  · rw [jif_t h, if_pos h, q_La_joined_26, q_La_joined_27, q_La_joined_28, q_La_joined_28]
    simp only [lg_cmp_gt]
    by_cases hy : y < x
    · rw [jif_t hy, if_neg (Int64.not_le.mpr hy)]
    · rw [jif_f hy, if_pos (Int64.not_lt.mp hy)]
  rw [jif_f h, if_neg h]; clear h
  by_cases h : k = 257
  · rw [jif_t h, if_pos h, q_La_joined_32, q_La_joined_33, q_La_joined_34, q_La_joined_34]
    simp only [lg_cmp_eq]
    by_cases hy : x = y
    · rw [jif_t hy, if_pos hy]
    · rw [jif_f hy, if_neg hy]
  rw [jif_f h, if_neg h]; clear h
  by_cases h : k = 258
  · rw [jif_t h, if_pos h, q_La_joined_35, q_La_joined_36, q_La_joined_37, q_La_joined_37]
    simp only [lg_cmp_lt]
    by_cases hy : x < y
    · rw [jif_t hy, if_neg (Int64.not_le.mpr hy)]
    · rw [jif_f hy, if_pos (Int64.not_lt.mp hy)]
  rw [jif_f h, if_neg h]; clear h
  rw [q_La_joined_38, q_La_joined_39, q_La_joined_40, q_La_joined_40]
  simp only [lg_cmp_le]
  by_cases hy : x ≤ y
  · rw [jif_t hy, if_neg (Int64.not_lt.mpr hy)]
  · rw [jif_f hy, if_pos (Int64.not_le.mp hy)]
theorem c_joined (d : Nat) (k : Int32) (x y : Int64) (σ : jS) : g_La_joined (d + 1) k x y σ = some (some (.long (lw_j k x y)), σ) := by
  rw [e_La_joined, q_La_joined_0, q_La_joined_1]
  simp only [lg_cmp_ge]
  rw [jif_pick (0 ≤ x) inferInstance (fun z => b_La_joined_2 d k x y z σ) x (-x), q_La_joined_2, q_La_joined_3]
  simp only [lg_cmp_ge]
  rw [jif_pick (0 ≤ y) inferInstance (fun z => b_La_joined_4 d k x y _ z σ) y (-y)]
  exact c_joined4 d k x y σ
/-- a stack of longs lies in an array -/
def stk (f : Nat → Int64) : List Int64 → Prop
  | [] => True
  | v :: st => f st.length = v ∧ stk f st
theorem stk_upd {f : Nat → Int64} {v : Int64} : ∀ (st : List Int64) (k : Nat), st.length ≤ k → stk f st → stk (vp_updL f k v) st
  | [], _, _, _ => trivial
  | w :: st, k, hk, h => by
    simp only [List.length_cons] at hk
    exact ⟨by rw [pk_uLn (by omega)]; exact h.1, stk_upd st k (by omega) h.2⟩
theorem stk_push {f : Nat → Int64} {v : Int64} {st : List Int64} (h : stk f st) : stk (vp_updL f st.length v) (v :: st) := ⟨pk_uLs, stk_upd st _ (Nat.le_refl _) h⟩
/-- what a knot does to the stack: names by nm; none: it comes to nothing -/
def lw_step (nm : Nat → Int64) (k v : Int32) (st : List Int64) : Option (List Int64) :=
  if k ≤ 5 then some (nm k.toNatClampNeg :: st)
  else if k = 17 then some (v.toInt64 :: st)
  else if k = 14 then match st with
    | y :: s => some ((if y = 0 then 1 else 0) :: s)
    | [] => none
  else match st with
    | y :: x :: s => if lw_top < lw_j k x y ∨ lw_j k x y < -lw_top then none else some (lw_j k x y :: s)
    | _ => none
def lw_run (nm : Nat → Int64) (kk nn : Nat → Int32) : Nat → Nat → List Int64 → Option (List Int64)
  | 0, _, st => some st
  | c + 1, i, st => (lw_step nm (kk i) (nn i) st).bind fun s => lw_run nm kk nn c (i + 1) s
def lw_op (k : Int32) : Prop := k = 10 ∨ k = 15 ∨ k = 37 ∨ k = 42 ∨ k = 43 ∨ k = 45 ∨ k = 47 ∨ k = 60 ∨ k = 61 ∨ k = 62 ∨ k = 256 ∨ k = 257 ∨ k = 258
/-- how deep the stack is behind a knot; none: it can't stand there -/
noncomputable def wf_d (k : Int32) (dp : Nat) : Option Nat := @ite _ ((0 ≤ k ∧ k ≤ 5) ∨ k = 17) (Classical.propDecidable _) (some (dp + 1)) (@ite _ (k = 14 ∧ 1 ≤ dp) (Classical.propDecidable _) (some dp) (@ite _ (lw_op k ∧ 2 ≤ dp) (Classical.propDecidable _) (some (dp - 1)) none))
noncomputable def wf_r (kk : Nat → Int32) : Nat → Nat → Nat → Option Nat
  | 0, _, dp => some dp
  | c + 1, i, dp => (wf_d (kk i) dp).bind fun e => wf_r kk c (i + 1) e
def lw_val (nm : Nat → Int64) (kk nn : Nat → Int32) (s e : Nat) : Int64 := match lw_run nm kk nn (e - s) s [] with
  | some (v :: _) => v
  | _ => lw_err
theorem nI_i64 (x : Int32) : ¬ lw_top < x.toInt64 ∧ ¬ x.toInt64 < -lw_top := by
  have h : x.toInt64.toInt = x.toInt := by simp
  have h1 := x.minValue_le_toInt
  have h2 := x.toInt_le
  have e1 : (Int32.minValue).toInt = -2147483648 := rfl
  have e2 : (Int32.maxValue).toInt = 2147483647 := rfl
  have t1 : lw_top.toInt = 1000000000000 := rfl
  have t2 : (-lw_top).toInt = -1000000000000 := rfl
  constructor
  · intro q
    rw [Int64.lt_iff_toInt_lt, h, t1] at q
    omega
  · intro q
    rw [Int64.lt_iff_toInt_lt, h, t2] at q
    omega
