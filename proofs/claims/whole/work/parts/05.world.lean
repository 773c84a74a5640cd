/-! The machine's state as a world of the Jvm's heap: cell a of the machine is the heap's cell α a. -/
def tv (α : Nat → Nat) : Value → Value
  | .ref a => .ref (α a)
  | v => v
def tl (α : Nat → Nat) (lv : jL) : jL := lv.map fun q => (q.1, tv α q.2)
theorem tv_cat (α : Nat → Nat) (v : Value) : (tv α v).category = v.category := by cases v <;> rfl
theorem tv_cats (α : Nat → Nat) (st : List Value) : ((st.map (tv α)).map fun v => v.category) = st.map fun v => v.category := by
  induction st with
  | nil => rfl
  | cons v st ih => simp only [List.map_cons, tv_cat, ih]
abbrev jG : Type := ClassId × ClassId × ClassId
def j_ac (G : jG) (z : Nat) : ClassId := match z with
  | 0 => G.1
  | 1 => G.2.1
  | _ => G.2.2
def j_zt (z : Nat) : FieldType := match z with
  | 0 => .int
  | 1 => .boolean
  | _ => .long
abbrev jtys (G : jG) : List (ClassId × FieldType) := [(G.1, .int), (G.2.1, .boolean), (G.2.2, .long)]
noncomputable def jfv (α : Nat → Nat) (σ : jS) (a k f : Nat) : Value := match f with
  | 0 => .int (σ.1 a k)
  | 1 => .int (σ.1 a k)
  | 2 => .long (σ.2.1 a k)
  | 3 => .ref (α (σ.2.2 a k))
  | _ => .ref (α (j_cr a k))
noncomputable def j_fs (α : Nat → Nat) (σ : jS) (a ci : Nat) : List Value := (j_fk ci).mapIdx fun k f => jfv α σ a k f
noncomputable def jE (α : Nat → Nat) (G : jG) (σ : jS) (a : Nat) (e : (Nat × Nat) ⊕ Nat) : va_E := match e with
  | .inl q => .inl (j_ac G q.1, q.2, match q.1 with
    | 0 => .inl (σ.1 a)
    | 1 => .inl (σ.1 a)
    | _ => .inr (.inl (σ.2.1 a)))
  | .inr ci => .inr (ci, j_fs α σ a ci)
noncomputable def jP (α : Nat → Nat) (G : jG) (σ : jS) : va_W := jSH.mapIdx fun a e => (α a, jE α G σ a e)
def jA (α : Nat → Nat) : Nat → Prop := fun q => ∃ a, a < jSH.length ∧ q = α a
theorem jP_get {α : Nat → Nat} {G : jG} {σ : jS} {a : Nat} {e : (Nat × Nat) ⊕ Nat} (h : jSH[a]? = some e) : (jP α G σ)[a]? = some (α a, jE α G σ a e) := by
  unfold jP
  rw [List.getElem?_mapIdx, h]
  rfl
theorem jP_inv {α : Nat → Nat} {G : jG} {σ : jS} {a : Nat} {q : Nat × va_E} (h : (jP α G σ)[a]? = some q) : ∃ e, jSH[a]? = some e ∧ q = (α a, jE α G σ a e) := by
  unfold jP at h
  rw [List.getElem?_mapIdx] at h
  cases he : jSH[a]? with
  | none => rw [he] at h; cases h
  | some e => rw [he] at h; exact ⟨e, rfl, (Option.some.inj h).symm⟩
theorem jP_D {α : Nat → Nat} {G : jG} {σ : jS} (hα : ∀ a b, a < jSH.length → b < jSH.length → α a = α b → a = b) : va_D (jA α) (jP α G σ) := by
  refine ⟨fun i j p q hi hj he => ?_, fun k q hk => ?_⟩
  · obtain ⟨e1, h1, rfl⟩ := jP_inv hi
    obtain ⟨e2, h2, rfl⟩ := jP_inv hj
    exact hα i j (List.getElem?_eq_some_iff.mp h1).1 (List.getElem?_eq_some_iff.mp h2).1 he
  · obtain ⟨e1, h1, rfl⟩ := jP_inv hk
    exact ⟨k, (List.getElem?_eq_some_iff.mp h1).1, rfl⟩
/-- one cell is changed: the others stay -/
theorem jP_set {α : Nat → Nat} {G : jG} {σ σ' : jS} {a : Nat} {e : (Nat × Nat) ⊕ Nat} {x : va_E} (h : jSH[a]? = some e) (h1 : ∀ b, b ≠ a → σ'.1 b = σ.1 b) (h2 : ∀ b, b ≠ a → σ'.2.1 b = σ.2.1 b) (h3 : ∀ b, b ≠ a → σ'.2.2 b = σ.2.2 b) (hx : x = jE α G σ' a e) : (jP α G σ).set a (α a, x) = jP α G σ' := by
  subst hx
  apply List.ext_getElem?
  intro b
  rw [List.getElem?_set]
  by_cases hab : a = b
  · subst hab
    have hl : a < (jP α G σ).length := (List.getElem?_eq_some_iff.mp (jP_get (α := α) (G := G) (σ := σ) h)).1
    rw [if_pos rfl, if_pos hl, jP_get h]
  · rw [if_neg hab]
    unfold jP
    rw [List.getElem?_mapIdx, List.getElem?_mapIdx]
    cases hb : jSH[b]? with
    | none => rfl
    | some e' =>
      have hne : b ≠ a := fun q => hab q.symm
      show some _ = some _
      congr 2
      cases e' with
      | inl q =>
        simp only [jE, h1 b hne, h2 b hne]
      | inr ci =>
        simp only [jE, j_fs, jfv, h1 b hne, h2 b hne, h3 b hne]
theorem j_is_sh {ci a : Nat} (h : j_is ci a = true) : jSH[a]? = some (.inr ci) := by
  unfold j_is at h
  rw [j_sh_eq] at h
  split at h
  · rename_i c hc
    rw [hc, beq_iff_eq.mp h]
  · cases h
theorem j_len_sh {z a n : Nat} (h : j_len z a = some n) : jSH[a]? = some (.inl (z, n)) := by
  unfold j_len at h
  rw [j_sh_eq] at h
  split at h
  · rename_i q hc
    obtain ⟨q1, q2⟩ := q
    cases hz : (q1 == z) with
    | true =>
      rw [hz] at h
      simp only [cond_true, Option.some.injEq] at h
      rw [hc, beq_iff_eq.mp hz, h]
    | false =>
      rw [hz] at h
      cases h
  · cases h
theorem p_I_s {st : List Value} {q : Int32 × List Value} (h : p_I st = some q) : st = .int q.1 :: q.2 := by
  unfold p_I at h; split at h
  · cases h; rfl
  · cases h
theorem p_L_s {st : List Value} {q : Int64 × List Value} (h : p_L st = some q) : st = .long q.1 :: q.2 := by
  unfold p_L at h; split at h
  · cases h; rfl
  · cases h
theorem p_R_s {st : List Value} {q : Nat × List Value} (h : p_R st = some q) : st = .ref q.1 :: q.2 := by
  unfold p_R at h; split at h
  · cases h; rfl
  · cases h
theorem p_II_s {st : List Value} {q : Int32 × Int32 × List Value} (h : p_II st = some q) : st = .int q.2.1 :: .int q.1 :: q.2.2 := by
  unfold p_II at h; split at h
  · cases h; rfl
  · cases h
theorem p_LL_s {st : List Value} {q : Int64 × Int64 × List Value} (h : p_LL st = some q) : st = .long q.2.1 :: .long q.1 :: q.2.2 := by
  unfold p_LL at h; split at h
  · cases h; rfl
  · cases h
theorem p_LI_s {st : List Value} {q : Int64 × Int32 × List Value} (h : p_LI st = some q) : st = .int q.2.1 :: .long q.1 :: q.2.2 := by
  unfold p_LI at h; split at h
  · cases h; rfl
  · cases h
theorem p_RI_s {st : List Value} {q : Nat × Int32 × List Value} (h : p_RI st = some q) : st = .int q.2.1 :: .ref q.1 :: q.2.2 := by
  unfold p_RI at h; split at h
  · cases h; rfl
  · cases h
theorem p_RL_s {st : List Value} {q : Nat × Int64 × List Value} (h : p_RL st = some q) : st = .long q.2.1 :: .ref q.1 :: q.2.2 := by
  unfold p_RL at h; split at h
  · cases h; rfl
  · cases h
theorem p_RR_s {st : List Value} {q : Nat × Nat × List Value} (h : p_RR st = some q) : st = .ref q.2.1 :: .ref q.1 :: q.2.2 := by
  unfold p_RR at h; split at h
  · cases h; rfl
  · cases h
theorem p_RII_s {st : List Value} {q : Nat × Int32 × Int32 × List Value} (h : p_RII st = some q) : st = .int q.2.2.1 :: .int q.2.1 :: .ref q.1 :: q.2.2.2 := by
  unfold p_RII at h; split at h
  · cases h; rfl
  · cases h
theorem p_RIL_s {st : List Value} {q : Nat × Int32 × Int64 × List Value} (h : p_RIL st = some q) : st = .long q.2.2.1 :: .int q.2.1 :: .ref q.1 :: q.2.2.2 := by
  unfold p_RIL at h; split at h
  · cases h; rfl
  · cases h
theorem p_1_s {st : List Value} {q : Value × List Value} (h : p_1 st = some q) : st = q.1 :: q.2 ∧ q.1.category = 1 := by
  unfold p_1 at h; split at h
  · cases h; exact ⟨rfl, rfl⟩
  · cases h; exact ⟨rfl, rfl⟩
  · cases h
theorem p_11_s {st : List Value} {q : Value × Value × List Value} (h : p_11 st = some q) : st = q.2.1 :: q.1 :: q.2.2 ∧ q.1.category = 1 ∧ q.2.1.category = 1 := by
  unfold p_11 at h; split at h
  · cases h; exact ⟨rfl, rfl, rfl⟩
  · cases h; exact ⟨rfl, rfl, rfl⟩
  · cases h
theorem p_cpy_s {st : List Value} {q : Nat × Int32 × Nat × Int32 × Int32 × List Value} (h : p_cpy st = some q) : st = .int q.2.2.2.2.1 :: .int q.2.2.2.1 :: .ref q.2.2.1 :: .int q.2.1 :: .ref q.1 :: q.2.2.2.2.2 := by
  unfold p_cpy at h; split at h
  · cases h; rfl
  · cases h
theorem p_n_s : ∀ (n : Nat) {st : List Value} {q : List Value × List Value}, p_n n st = some q → st = q.1.reverse ++ q.2 ∧ q.1.length = n
  | 0, st, q, h => by
    unfold p_n at h
    cases h
    exact ⟨rfl, rfl⟩
  | n + 1, [], q, h => by
    unfold p_n at h
    cases h
  | n + 1, v :: st, q, h => by
    unfold p_n at h
    obtain ⟨w, hw, h⟩ := Option.bind_eq_some_iff.mp h
    cases h
    obtain ⟨h1, h2⟩ := p_n_s n hw
    subst h1
    refine ⟨?_, ?_⟩
    · simp only [List.reverse_append, List.reverse_cons, List.reverse_nil, List.nil_append, List.cons_append]
    · simp only [List.length_append, List.length_cons, List.length_nil, h2]
theorem j_at_mem {lv : jL} {i : Nat} {v : Value} (h : j_at lv i = some v) : (i, v) ∈ lv := by
  induction lv with
  | nil => cases h
  | cons q l ih =>
    unfold j_at at h
    cases hq : (q.1 == i) with
    | true =>
      rw [hq] at h
      simp only [cond_true, Option.some.injEq] at h
      have e : q = (i, v) := Prod.ext (beq_iff_eq.mp hq) h
      rw [e]
      exact List.mem_cons_self
    | false =>
      rw [hq] at h
      exact List.mem_cons_of_mem _ (ih h)
theorem j_at_ls {α : Nat → Nat} {lv : jL} {i nL : Nat} {v : Value} {ls : Array Slot} (h : j_at lv i = some v) (hl : lv_has ls nL (tl α lv)) : ls[i]? = some (.val (tv α v)) :=
  hl.2.2 (i, tv α v) (List.mem_map.mpr ⟨(i, v), j_at_mem h, rfl⟩)
theorem j_atI_s {lv : jL} {i : Nat} {x : Int32} (h : j_atI lv i = some x) : j_at lv i = some (.int x) := by
  unfold j_atI at h
  obtain ⟨v, hv, h⟩ := Option.bind_eq_some_iff.mp h
  split at h
  · cases h; exact hv
  · cases h
theorem j_atL_s {lv : jL} {i : Nat} {x : Int64} (h : j_atL lv i = some x) : j_at lv i = some (.long x) := by
  unfold j_atL at h
  obtain ⟨v, hv, h⟩ := Option.bind_eq_some_iff.mp h
  split at h
  · cases h; exact hv
  · cases h
theorem j_atR_s {lv : jL} {i : Nat} {x : Nat} (h : j_atR lv i = some x) : j_at lv i = some (.ref x) := by
  unfold j_atR at h
  obtain ⟨v, hv, h⟩ := Option.bind_eq_some_iff.mp h
  split at h
  · cases h; exact hv
  · cases h
theorem j_pick_has {α : Nat → Nat} {lv : jL} {nL : Nat} {ls : Array Slot} (hl : lv_has ls nL (tl α lv)) : ∀ (vs : List Nat) {l : jL}, j_pick vs lv = some l → lv_has ls nL (tl α l)
  | [], l, h => by
    unfold j_pick at h
    cases h
    exact ⟨hl.1, hl.2.1, fun q hq => by cases hq⟩
  | i :: r, l, h => by
    unfold j_pick at h
    obtain ⟨v, hv, h⟩ := Option.bind_eq_some_iff.mp h
    obtain ⟨l', hl', h⟩ := Option.bind_eq_some_iff.mp h
    cases h
    have h1 := j_pick_has hl r hl'
    refine ⟨hl.1, hl.2.1, fun q hq => ?_⟩
    rcases List.mem_cons.mp hq with rfl | hq
    · exact j_at_ls hv hl
    · exact h1.2.2 q hq
theorem tl_st1 (α : Nat → Nat) (lv : jL) (i : Nat) (v : Value) : (i, tv α v) :: (tl α lv).filter (fun q => !(q.1 == i) && !(q.1 + 1 == i && q.2.category == 2)) = tl α (j_st1 lv i v) := by
  unfold j_st1 tl
  rw [List.map_cons, List.filter_map]
  congr 2
  apply List.filter_congr
  intro q _
  simp only [Function.comp, tv_cat]
theorem tl_st2 (α : Nat → Nat) (lv : jL) (i : Nat) (v : Value) : (i, tv α v) :: (tl α lv).filter (fun q => !(q.1 == i) && (!(q.1 == i + 1) && !(q.1 + 1 == i && q.2.category == 2))) = tl α (j_st2 lv i v) := by
  unfold j_st2 tl
  rw [List.map_cons, List.filter_map]
  congr 2
  apply List.filter_congr
  intro q _
  simp only [Function.comp, tv_cat]
theorem j_fs_get {α : Nat → Nat} {σ : jS} {a ci k f : Nat} (h : (j_fk ci)[k]? = some f) : (j_fs α σ a ci)[k]? = some (jfv α σ a k f) := by
  unfold j_fs
  rw [List.getElem?_mapIdx, h]
  rfl
/-- a field is set -/
theorem j_fs_set {α : Nat → Nat} {σ σ' : jS} {a ci k f : Nat} {v : Value} (h : (j_fk ci)[k]? = some f) (hv : v = jfv α σ' a k f) (h1 : ∀ j, j ≠ k → σ'.1 a j = σ.1 a j) (h2 : ∀ j, j ≠ k → σ'.2.1 a j = σ.2.1 a j) (h3 : ∀ j, j ≠ k → σ'.2.2 a j = σ.2.2 a j) : (j_fs α σ a ci).set k v = j_fs α σ' a ci := by
  subst hv
  apply List.ext_getElem?
  intro j
  rw [List.getElem?_set]
  by_cases hkj : k = j
  · subst hkj
    have hl : k < (j_fs α σ a ci).length := (List.getElem?_eq_some_iff.mp (j_fs_get (α := α) (σ := σ) (a := a) h)).1
    rw [if_pos rfl, if_pos hl, j_fs_get h]
  · rw [if_neg hkj]
    unfold j_fs
    rw [List.getElem?_mapIdx, List.getElem?_mapIdx]
    have hne : j ≠ k := fun q => hkj q.symm
    cases hj : (j_fk ci)[j]? with
    | none => rfl
    | some f' =>
      show some _ = some _
      congr 1
      simp only [jfv, h1 j hne, h2 j hne, h3 j hne]
