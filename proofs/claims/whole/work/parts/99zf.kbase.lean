/-! The constructors' world and contract. -/
def kA (sz : Nat) : Nat → Prop := fun q => sz ≤ q
theorem ksl_app (es : List kC) (e : kC) : ksl (es ++ [e]) = ksl es + ke e := by
  unfold ksl
  simp
theorem ksl_set : ∀ (es : List kC) (a : Nat) (e0 e : kC), es[a]? = some e0 → ke e = ke e0 → ksl (es.set a e) = ksl es
  | [], a, e0, e, h, _ => by simp at h
  | x :: r, 0, e0, e, h, he => by
    have h : some x = some e0 := h
    cases h
    show ke e + ksl r = ke x + ksl r
    rw [he]
  | x :: r, a + 1, e0, e, h, he => by
    show ke x + ksl (r.set a e) = ke x + ksl r
    rw [ksl_set r a e0 e h he]
theorem kW_inv {α : Nat → Nat} {G : jG} {es : List kC} {a : Nat} {q : Nat × va_E} (h : (kW α G es)[a]? = some q) : ∃ e, es[a]? = some e ∧ q = (α a, kE α G e) := by
  unfold kW at h
  rw [List.getElem?_mapIdx] at h
  cases he : es[a]? with
  | none => rw [he] at h; cases h
  | some e => rw [he] at h; exact ⟨e, rfl, (Option.some.inj h).symm⟩
theorem kW_D {α : Nat → Nat} {G : jG} {es : List kC} {sz : Nat} (hα : ∀ a, a < 127 → α a = sz + a) (hl : es.length ≤ 127) : va_D (kA sz) (kW α G es) := by
  refine ⟨fun i j p q hi hj he => ?_, fun k q hk => ?_⟩
  · obtain ⟨e1, h1, rfl⟩ := kW_inv hi
    obtain ⟨e2, h2, rfl⟩ := kW_inv hj
    have l1 := (List.getElem?_eq_some_iff.mp h1).1
    have l2 := (List.getElem?_eq_some_iff.mp h2).1
    have he : α i = α j := he
    rw [hα i (by omega), hα j (by omega)] at he
    omega
  · obtain ⟨e1, h1, rfl⟩ := kW_inv hk
    have l1 := (List.getElem?_eq_some_iff.mp h1).1
    show sz ≤ α k
    rw [hα k (by omega)]
    omega
/-- a String with its bytes, kept outside A -/
def zA (A : Nat → Prop) (α adV : Nat → Nat) (a : Nat) (z : List Nat) (U : State) : Prop := va_O "java/lang/String" (α a) A U U.heap ∧ va_OF "java/lang/String" "coder" "B" (.int 0) (α a) A U U.heap ∧ va_OF "java/lang/String" "value" "[B" (.ref (adV a)) (α a) A U U.heap ∧ va_T .byte (adV a) z.length (fun j => .int (sF z j)) A U U.heap
def kZ (α adV : Nat → Nat) (sz : Nat) (U : State) : Prop := (∀ q ∈ kLIn, va_Nw (kwN q) U) ∧ (∀ a z, j_str a = some z → zA (kA sz) α adV a z U) ∧ vk_R "HalfHands$Tokens" 18 (jtx 1000) (α 1000) U ∧ va_Z "java/lang/String" "COMPACT_STRINGS" "Z" (.int 1) (kA sz) U U.heap ∧ va_Zq "jdk/internal/util/Preconditions" "SIOOBE_FORMATTER" "Ljava/util/function/BiFunction;" (kA sz) U U.heap
theorem kZ_ok {α adV : Nat → Nat} {sz : Nat} (U V : State) (h : kZ α adV sz U) (hW : U.WarmedH V.vm) (hs : U.heap.size ≤ V.heap.size) (hq : ∀ q : Nat, q < U.heap.size → ¬ kA sz q → V.heap[q]? = U.heap[q]?) : kZ α adV sz V := by
  obtain ⟨h1, h2, h3, h4, h5⟩ := h
  refine ⟨fun q hq' => (h1 q hq').warmM hW, fun a z hz => ?_, h3.warm hW, va_Z.moved hW.alike (h4.kept hq), va_Zq.moved hW.alike (h5.kept hq)⟩
  obtain ⟨g1, g2, g3, g4⟩ := h2 a z hz
  exact ⟨va_O.moved hW.alike (g1.kept hq), va_OF.moved hW.alike (g2.kept hq), va_OF.moved hW.alike (g3.kept hq), va_T.moved hW.alike (g4.kept hq)⟩
theorem kZ.sE {α adV : Nat → Nat} {sz : Nat} {U : State} (h : kZ α adV sz U) {a : Nat} {z : List Nat} (hz : j_str a = some z) : sE (α a) (adV a) z.length (sF z) U := by
  obtain ⟨-, h2, -, h4, h5⟩ := h
  obtain ⟨g1, g2, g3, g4⟩ := h2 a z hz
  have := (jst_ok z (j_str_in hz)).1
  exact ⟨g1.narrow (fun q w => w.elim), g2.narrow (fun q w => w.elim), g3.narrow (fun q w => w.elim), g4.narrow (fun q w => w.elim), h4.narrow (fun q w => w.elim), h5.narrow (fun q w => w.elim), by omega⟩
def krm (d x y : Nat) : Room := { frames := d + 8, cells := x, slots := y, locals := 60 * d + 480 }
def kPc (α adV : Nat → Nat) (G : jG) (D : va_G) (sz : Nat) (es : List kC) (av : List Value) : Array Value → State → Prop := fun v U => v = av.toArray ∧ va_P D jcl (kW α G es) U.heap ∧ U.heap.size = sz + es.length ∧ va_K D jcl (jtys G) U ∧ kZ α adV sz U
def kQc (α : Nat → Nat) (G : jG) (D : va_G) (sz : Nat) (es : List kC) : Array Value → State → Outcome → State → Prop := fun _ st oc t => oc = .returned none ∧ va_P D jcl (kW α G es) t.heap ∧ t.heap.size = sz + es.length ∧ va_F (kA sz) st t
def kMt (l : Launch) (α adV : Nat → Nat) (G : jG) (D : va_G) (sz d ci : Nat) (a : List Value) (es es2 : List kC) : Prop := Met l (kname ci) (kwK ci :: jws) (krm d (es2.length - es.length) (ksl es2 - ksl es)) (kPc α adV G D sz es (a.map (tv α))) (kQc α G D sz es2) (es2.length - es.length) (ksl es2 - ksl es) (kA sz)
def kHC (l : Launch) (α adV : Nat → Nat) (G : jG) (D : va_G) (sz dd : Nat) (C : Nat → List Value → List kC → kO) : Prop := ∀ (ci : Nat) (a : List Value) (es es2 : List kC), ci < 10 → es2.length ≤ 127 → C ci a es = some es2 → kMt l α adV G D sz dd ci a es es2
theorem kPc_blind {α adV : Nat → Nat} {G : jG} {D : va_G} {sz : Nat} (es : List kC) (av : List Value) : FrameBlind (kPc α adV G D sz es av) := by
  intro a U g mk h
  obtain ⟨h1, h2, h3, h4, h5⟩ := h
  exact ⟨h1, h2, h3, va_K.moved (u := U) (U := U.calling g mk a) (Vm.Alike.refl U.vm) h4, kZ_ok U (U.calling g mk a) h5 (State.WarmedH.refl U) (Nat.le_refl _) (fun _ _ _ => rfl)⟩
/-! tables -/
theorem kL3_s {l : List (Nat × Nat × Nat)} {o i x : Nat} (h : kL3 l o i = some x) : (o, i, x) ∈ l := by
  unfold kL3 at h
  obtain ⟨q, hq, e⟩ := Option.map_eq_some_iff.mp h
  have h1 := List.find?_some hq
  simp only [Bool.and_eq_true, beq_iff_eq] at h1
  have h2 := List.mem_of_find?_eq_some hq
  obtain ⟨q1, q2, q3⟩ := q
  obtain ⟨rfl, rfl⟩ := h1
  cases e
  exact h2
theorem kL4_s {l : List (Nat × Nat × Nat × Nat)} {o i : Nat} {f : Nat × Nat} (h : kL4 l o i = some f) : (o, i, f.1, f.2) ∈ l := by
  unfold kL4 at h
  obtain ⟨q, hq, e⟩ := Option.map_eq_some_iff.mp h
  have h1 := List.find?_some hq
  simp only [Bool.and_eq_true, beq_iff_eq] at h1
  have h2 := List.mem_of_find?_eq_some hq
  obtain ⟨q1, q2, q3, q4⟩ := q
  obtain ⟨rfl, rfl⟩ := h1
  cases e
  exact h2
set_option maxRecDepth 100000 in
theorem kLF_ok : ∀ q ∈ kLF, q.1 = q.2.2.1 ∧ q.2.2.1 < 10 ∧ q.2.2.2 < jnn q.2.2.1 ∧ (jtt q.2.2.1 q.2.2.2).1 = jrr q.2.2.1 := by decide +kernel
theorem kLC_ok : ∀ q ∈ kLC, q.2.2 < 10 := by decide
theorem kLI_ok : ∀ q ∈ kLI, q.2.2 < 10 := by decide
set_option maxRecDepth 100000 in
theorem kn_ok : ∀ ci, ci < 10 → plainName (jrr ci) = true ∧ (kname ci).cls ≠ "java/lang/invoke/MethodHandle" ∧ (kname ci).cls ≠ "java/lang/invoke/VarHandle" ∧ (parseMethodDescriptor (kname ci).desc).map (fun d => d.parameters.length) = some (kargs ci) ∧ kmaxL ci ≤ 6 := by decide +kernel
theorem kwK_in : ∀ ci, ci < 10 → kwK ci ∈ jws := by
  intro ci h
  match ci, h with
  | 0, _ => exact kwK_g _ (List.mem_of_getElem? (i := 0) rfl)
  | 1, _ => exact kwK_g _ (List.mem_of_getElem? (i := 1) rfl)
  | 2, _ => exact kwK_g _ (List.mem_of_getElem? (i := 2) rfl)
  | 3, _ => exact kwK_g _ (List.mem_of_getElem? (i := 3) rfl)
  | 4, _ => exact kwK_g _ (List.mem_of_getElem? (i := 4) rfl)
  | 5, _ => exact kwK_g _ (List.mem_of_getElem? (i := 5) rfl)
  | 6, _ => exact kwK_g _ (List.mem_of_getElem? (i := 6) rfl)
  | 7, _ => exact kwK_g _ (List.mem_of_getElem? (i := 7) rfl)
  | 8, _ => exact kwK_g _ (List.mem_of_getElem? (i := 8) rfl)
  | 9, _ => exact kwK_g _ (List.mem_of_getElem? (i := 9) rfl)
  | n + 10, h => omega
theorem kws_in {ci : Nat} (h : ci < 10) : GoodIn jws (kwK ci :: jws) := by
  intro w hw
  rcases List.mem_cons.mp hw with rfl | hw
  · exact jws_good (kwK_in ci h)
  · exact jws_good hw
theorem kr10 {f : Nat → Cond} {ci : Nat} (h : ci < 10) : f ci ∈ (List.range 10).map f := List.mem_map.mpr ⟨ci, List.mem_range.mpr h, rfl⟩
theorem kat_s {t : ArrayType} {z : Nat} (h : kat t = some z) : (t = .int ∧ z = 0) ∨ (t = .boolean ∧ z = 1) ∨ (t = .long ∧ z = 2) := by
  unfold kat at h
  split at h
  · exact Or.inl ⟨rfl, (Option.some.inj h).symm⟩
  · exact Or.inr (Or.inl ⟨rfl, (Option.some.inj h).symm⟩)
  · exact Or.inr (Or.inr ⟨rfl, (Option.some.inj h).symm⟩)
  · cases h
theorem kcall_s {n : Nat} {st : List Value} {q : Nat × List Value × List Value} (h : kcall n st = some q) : st = q.2.1.reverse ++ .ref q.1 :: q.2.2 ∧ q.2.1.length = n := by
  unfold kcall at h
  split at h
  · rename_i a rest hd
    cases h
    refine ⟨?_, ?_⟩
    · show st = (st.take n).reverse.reverse ++ .ref a :: rest
      rw [List.reverse_reverse, ← hd, List.take_append_drop]
    · show (st.take n).reverse.length = n
      rw [List.length_reverse, List.length_take]
      have h1 : (st.drop n).length = rest.length + 1 := by rw [hd]; rfl
      rw [List.length_drop] at h1
      omega
  · cases h
theorem kput_s {es : List kC} {a ci k : Nat} {v : Value} {g : List kC → kO} {y : List kC} (h : kput es a ci k v g = some y) : ∃ fs, es[a]? = some (.inr (ci, fs)) ∧ k < fs.length ∧ g (es.set a (.inr (ci, fs.set k v))) = some y := by
  unfold kput at h
  split at h
  · rename_i cj fs ha
    by_cases c : cj = ci ∧ k < fs.length
    · rw [if_pos c, kfL_eq kfV_eq, kfL_eq kfX_eq] at h
      obtain ⟨rfl, c2⟩ := c
      exact ⟨fs, ha, c2, h⟩
    · rw [if_neg c] at h; cases h
  · cases h
theorem kfld_s {es : List kC} {a ci k : Nat} {v : Value} (h : kfld es a ci k = some v) : ∃ fs, es[a]? = some (.inr (ci, fs)) ∧ fs[k]? = some v := by
  unfold kfld at h
  split at h
  · rename_i cj fs ha
    by_cases c : cj = ci
    · rw [if_pos c] at h
      subst c
      exact ⟨fs, ha, h⟩
    · rw [if_neg c] at h; cases h
  · cases h
theorem kast_s {es : List kC} {a : Nat} {i x : Int32} {g : List kC → kO} {y : List kC} (h : kast es a i x g = some y) : ∃ n w, es[a]? = some (.inl (0, n, w)) ∧ ¬ (i < 0 ∨ n ≤ i.toNatClampNeg) ∧ g (es.set a (.inl (0, n, (i.toNatClampNeg, x) :: w))) = some y := by
  unfold kast at h
  split at h
  · rename_i n w ha
    by_cases c : i < 0 ∨ n ≤ i.toNatClampNeg
    · rw [if_pos c] at h; cases h
    · rw [if_neg c, kfN_eq, kfI_eq, kfL_eq kfX_eq] at h
      exact ⟨n, w, ha, c, h⟩
  · cases h
theorem kget_upd (w : List (Nat × Int32)) (j : Nat) (x : Int32) : (fun k => kget ((j, x) :: w) k) = upd (fun k => kget w k) j x := by
  funext k
  show kget ((j, x) :: w) k = if k = j then x else kget w k
  unfold kget
  rw [List.find?_cons]
  by_cases h : k = j
  · subst h
    rw [show ((k, x).1 == k) = true from beq_self_eq_true k, if_pos rfl]
    rfl
  · rw [show ((j, x).1 == k) = false from beq_eq_false_iff_ne.mpr (fun q => h q.symm), if_neg h]
theorem ktyp_s {α : Nat → Nat} {t : FieldType} {v : Value} (h : ktyp t v = true) : narrow t (tv α v) = tv α v ∧ fits t (tv α v) = true := by
  unfold ktyp at h
  split at h
  · exact ⟨rfl, rfl⟩
  · rename_i x
    have h2 := of_decide_eq_true h
    exact (vp_nar_b h2).2
  · exact ⟨rfl, rfl⟩
  · exact ⟨rfl, rfl⟩
  · cases h
theorem tv_def (α : Nat → Nat) (t : FieldType) : tv α (defaultValue t) = defaultValue t := by cases t <;> rfl
theorem kdef_V (α : Nat → Nat) (ci j : Nat) (h : j < jnn ci) : defaultValue (jyy ci j) = vp_V ((kdef ci).map (tv α)) j := by
  have h1 : ((kdef ci).map (tv α))[j]? = some (defaultValue (jyy ci j)) := by
    unfold kdef
    rw [List.getElem?_map, List.getElem?_map, List.getElem?_range h]
    show some (tv α (defaultValue (jyy ci j))) = _
    rw [tv_def]
  simp [vp_V, h1]
theorem kret_s {i : Instr} (h : kret i = true) : i = .return_ := by
  unfold kret at h
  split at h
  · rfl
  · cases h
