/-! js_ok: an instruction that the small machine does, the Jvm does. -/
section JI
variable {p : Program} {l : Launch} {e : Env} {R : Room} {s : State} {m : MethodId} {args : Array Value} {below : List Frame} {meth : Method} {c : Code} {cells slots : Nat} {Q : State → Prop}
variable {cc : ByteArray} {nL own rt : Nat} {D : va_G} {G : jG} {α : Nat → Nat} {Z : State → Prop} {dd : Nat} {B : List jB} {C : Nat → List Value → jS → jR} {r : Option Value × jS} {scr : Bool}
/-- the walk from a frame of the machine -/
def jWk (p : Program) (l : Launch) (e : Env) (R : Room) (s : State) (m : MethodId) (args : Array Value) (below : List Frame) (meth : Method) (c : Code) (cells slots : Nat) (Q : State → Prop) (nL : Nat) (D : va_G) (G : jG) (α : Nat → Nat) (pc : Nat) (lv : jL) (st : List Value) (σ : jS) : Prop :=
  ∀ (ls : Array Slot) (H : Heap) (locs : List Loc), lv_has ls nL (tl α lv) → va_P D jcl (jP α G σ) H → va_S (jA α) s.heap H locs → W p l e R s m args below meth c H locs cells slots Q (F0 m pc ls (st.map (tv α)))
/-- what the walk takes from outside: contracts of the callees, the script, the Strings, the ends -/
def jHC (l : Launch) (α : Nat → Nat) (G : jG) (D : va_G) (Z : State → Prop) (dd : Nat) (C : Nat → List Value → jS → jR) : Prop := ∀ (y : Nat) (M : jM) (a : List Value) (σ : jS) (v : Option Value) (σ2 : jS), jMM[y]? = some M → C y a σ = some (v, σ2) → jMt l α G D Z dd M a σ v σ2
def jHS (s : State) (α : Nat → Nat) (scr : Bool) (C : Nat → List Value → jS → jR) : Prop := scr = true → ∃ (L : Nat) (xs : Nat → Int32), va_X (α 2000) L xs s s.heap ∧ α 2000 < s.heap.size ∧ ¬ jA α (α 2000) ∧ (∀ (i : Int32) (σ : jS) (w : Int32 × jS), r_I (C 9998 [.int i] σ) = some w → vp_in i L ∧ w = (xs i.toNatClampNeg, σ)) ∧ ∀ (σ : jS) (w : Int32 × jS), r_I (C 9999 [] σ) = some w → w = (Int32.ofNat L, σ)
def jHT (p : Program) (l : Launch) (e : Env) (R : Room) (s : State) (m : MethodId) (args : Array Value) (below : List Frame) (meth : Method) (c : Code) (cells slots : Nat) (Q : State → Prop) (cc : ByteArray) (nL own : Nat) (α : Nat → Nat) : Prop :=
  (∀ (pc idx a : Nat) (ls : Array Slot) (H : Heap) (locs : List Loc) (rest : List Value), ls.size = nL → (own, idx, a) ∈ jLS → decode cc pc = .ok (.ldc idx, 2) → va_S (jA α) s.heap H locs → W p l e R s m args below meth c H locs cells slots Q (F0 m (pc + 2) ls (.ref (α a) :: rest)) → W p l e R s m args below meth c H locs cells slots Q (F0 m pc ls rest)) ∧
  (∀ (pc idx a : Nat) (z : List Nat) (ls : Array Slot) (H : Heap) (locs : List Loc) (rest : List Value), ls.size = nL → (own, idx, 901) ∈ jLX → j_str a = some z → (rest.map fun v => v.category).sum ≤ 8 → decode cc pc = .ok (.invokevirtual idx, 3) → va_S (jA α) s.heap H locs → W p l e R s m args below meth c H locs cells slots Q (F0 m (pc + 3) ls (.int (Int32.ofNat z.length) :: rest)) → W p l e R s m args below meth c H locs cells slots Q (F0 m pc ls (.ref (α a) :: rest))) ∧
  (∀ (pc idx a : Nat) (z : List Nat) (i : Int32) (ls : Array Slot) (H : Heap) (locs : List Loc) (rest : List Value), ls.size = nL → (own, idx, 902) ∈ jLX → j_str a = some z → (rest.map fun v => v.category).sum ≤ 8 → ¬ (i < 0 ∨ z.length ≤ i.toNatClampNeg) → decode cc pc = .ok (.invokevirtual idx, 3) → va_S (jA α) s.heap H locs → W p l e R s m args below meth c H locs cells slots Q (F0 m (pc + 3) ls (.int (Int32.ofNat (z.getD i.toNatClampNeg 0)) :: rest)) → W p l e R s m args below meth c H locs cells slots Q (F0 m pc ls (.int i :: .ref (α a) :: rest))) ∧
  (∀ (pc idx a : Nat) (z : List Nat) (i : Int32) (ls : Array Slot) (H : Heap) (locs : List Loc) (rest : List Value), ls.size = nL → (own, idx, 903) ∈ jLX → j_str a = some z → (rest.map fun v => v.category).sum ≤ 8 → decode cc pc = .ok (.invokevirtual idx, 3) → va_S (jA α) s.heap H locs → W p l e R s m args below meth c H locs cells slots Q (F0 m (pc + 3) ls (.int (j_idx i z 0) :: rest)) → W p l e R s m args below meth c H locs cells slots Q (F0 m pc ls (.int i :: .ref (α a) :: rest)))
def jHR (p : Program) (l : Launch) (e : Env) (R : Room) (s : State) (m : MethodId) (args : Array Value) (below : List Frame) (meth : Method) (c : Code) (cells slots : Nat) (Q : State → Prop) (cc : ByteArray) (rt : Nat) (D : va_G) (G : jG) (α : Nat → Nat) (r : Option Value × jS) : Prop :=
  ∀ (pc : Nat) (ls : Array Slot) (H : Heap) (locs : List Loc), va_P D jcl (jP α G r.2) H → va_S (jA α) s.heap H locs →
    (∀ v, r.1 = some (.int v) → (rt = 1 ∨ rt = 2 ∧ (v = 0 ∨ v = 1)) → decode cc pc = .ok (.ireturn, 1) → W p l e R s m args below meth c H locs cells slots Q (F0 m pc ls [.int v])) ∧
    (∀ v, r.1 = some (.long v) → rt = 3 → decode cc pc = .ok (.lreturn, 1) → W p l e R s m args below meth c H locs cells slots Q (F0 m pc ls [.long v])) ∧
    (r.1 = none → rt = 0 → decode cc pc = .ok (.return_, 1) → W p l e R s m args below meth c H locs cells slots Q (F0 m pc ls []))
theorem contains_s {α : Type} [BEq α] [LawfulBEq α] {l : List α} {a : α} (h : l.contains a = true) : a ∈ l := List.contains_iff_mem.mp h
theorem j_rdI_s {z : Nat} {σ : jS} {a : Nat} {i x : Int32} (h : j_rdI z σ a i = some x) : ∃ n, jSH[a]? = some (.inl (z, n)) ∧ vp_in i n ∧ x = σ.1 a i.toNatClampNeg := by
  unfold j_rdI at h
  obtain ⟨n, hn, h⟩ := Option.bind_eq_some_iff.mp h
  by_cases hc : i < 0 ∨ n ≤ i.toNatClampNeg
  · rw [if_pos hc] at h; cases h
  · rw [if_neg hc] at h; cases h
    exact ⟨n, j_len_sh hn, hc, rfl⟩
theorem j_rdL_s {σ : jS} {a : Nat} {i : Int32} {x : Int64} (h : j_rdL σ a i = some x) : ∃ n, jSH[a]? = some (.inl (2, n)) ∧ vp_in i n ∧ x = σ.2.1 a i.toNatClampNeg := by
  unfold j_rdL at h
  obtain ⟨n, hn, h⟩ := Option.bind_eq_some_iff.mp h
  by_cases hc : i < 0 ∨ n ≤ i.toNatClampNeg
  · rw [if_pos hc] at h; cases h
  · rw [if_neg hc] at h; cases h
    exact ⟨n, j_len_sh hn, hc, rfl⟩
theorem j_wrI_s {σ σ' : jS} {a : Nat} {i x : Int32} (h : j_wrI σ a i x = some σ') : ∃ n, jSH[a]? = some (.inl (0, n)) ∧ vp_in i n ∧ σ' = j_setI σ a i.toNatClampNeg x := by
  unfold j_wrI at h
  obtain ⟨n, hn, h⟩ := Option.bind_eq_some_iff.mp h
  by_cases hc : i < 0 ∨ n ≤ i.toNatClampNeg
  · rw [if_pos hc] at h; cases h
  · rw [if_neg hc] at h; cases h
    exact ⟨n, j_len_sh hn, hc, rfl⟩
theorem j_wrZ_s {σ σ' : jS} {a : Nat} {i x : Int32} (h : j_wrZ σ a i x = some σ') : ∃ n, jSH[a]? = some (.inl (1, n)) ∧ vp_in i n ∧ (x = 0 ∨ x = 1) ∧ σ' = j_setI σ a i.toNatClampNeg x := by
  unfold j_wrZ at h
  obtain ⟨n, hn, h⟩ := Option.bind_eq_some_iff.mp h
  by_cases hc : i < 0 ∨ n ≤ i.toNatClampNeg
  · rw [if_pos hc] at h; cases h
  · rw [if_neg hc] at h
    by_cases hx : x = 0 ∨ x = 1
    · rw [if_pos hx] at h; cases h
      exact ⟨n, j_len_sh hn, hc, hx, rfl⟩
    · rw [if_neg hx] at h; cases h
theorem j_wrL_s {σ σ' : jS} {a : Nat} {i : Int32} {x : Int64} (h : j_wrL σ a i x = some σ') : ∃ n, jSH[a]? = some (.inl (2, n)) ∧ vp_in i n ∧ σ' = j_setL σ a i.toNatClampNeg x := by
  unfold j_wrL at h
  obtain ⟨n, hn, h⟩ := Option.bind_eq_some_iff.mp h
  by_cases hc : i < 0 ∨ n ≤ i.toNatClampNeg
  · rw [if_pos hc] at h; cases h
  · rw [if_neg hc] at h; cases h
    exact ⟨n, j_len_sh hn, hc, rfl⟩
theorem j_setI_ne {σ : jS} {a k b : Nat} {v : Int32} (h : b ≠ a) : (j_setI σ a k v).1 b = σ.1 b := by
  funext j
  show (if b = a ∧ j = k then v else σ.1 b j) = _
  rw [if_neg (fun q => h q.1)]
theorem j_setL_ne {σ : jS} {a k b : Nat} {v : Int64} (h : b ≠ a) : (j_setL σ a k v).2.1 b = σ.2.1 b := by
  funext j
  show (if b = a ∧ j = k then v else σ.2.1 b j) = _
  rw [if_neg (fun q => h q.1)]
theorem j_setR_ne {σ : jS} {a k b v : Nat} (h : b ≠ a) : (j_setR σ a k v).2.2 b = σ.2.2 b := by
  funext j
  show (if b = a ∧ j = k then v else σ.2.2 b j) = _
  rw [if_neg (fun q => h q.1)]
theorem j_setI_arr (σ : jS) (a k : Nat) (v : Int32) : (j_setI σ a k v).1 a = upd (σ.1 a) k v := by
  funext j
  show (if a = a ∧ j = k then v else σ.1 a j) = if j = k then v else σ.1 a j
  simp
theorem j_setL_arr (σ : jS) (a k : Nat) (v : Int64) : (j_setL σ a k v).2.1 a = vp_updL (σ.2.1 a) k v := by
  funext j
  show (if a = a ∧ j = k then v else σ.2.1 a j) = if j = k then v else σ.2.1 a j
  simp
theorem jP_setI {α : Nat → Nat} {G : jG} {σ : jS} {a n k : Nat} {x : Int32} (z : Nat) (hz : z = 0 ∨ z = 1) (h : jSH[a]? = some (.inl (z, n))) : (jP α G σ).set a (α a, .inl (j_ac G z, n, .inl (upd (σ.1 a) k x))) = jP α G (j_setI σ a k x) := by
  refine jP_set h (fun b hb => j_setI_ne hb) (fun _ _ => rfl) (fun _ _ => rfl) ?_
  rcases hz with rfl | rfl
  · show _ = Sum.inl (_, _, _)
    simp only [j_setI_arr]
  · show _ = Sum.inl (_, _, _)
    simp only [j_setI_arr]
theorem jP_setL {α : Nat → Nat} {G : jG} {σ : jS} {a n k : Nat} {x : Int64} (h : jSH[a]? = some (.inl (2, n))) : (jP α G σ).set a (α a, .inl (j_ac G 2, n, .inr (.inl (vp_updL (σ.2.1 a) k x)))) = jP α G (j_setL σ a k x) := by
  refine jP_set h (fun _ _ => rfl) (fun b hb => j_setL_ne hb) (fun _ _ => rfl) ?_
  show _ = Sum.inl (_, _, _)
  simp only [j_setL_arr]
theorem vp_nar_b {x : Int32} (h : x = 0 ∨ x = 1) : vp_nar .boolean x = x ∧ narrow .boolean (.int x) = .int x ∧ fits .boolean (.int x) = true := by
  rcases h with rfl | rfl <;> exact ⟨by decide, by decide, by decide⟩
theorem jfk_s {ci f k : Nat} (h : (j_fk ci)[f]? = some k) : ci < 10 ∧ f < jnn ci ∧ (k = 0 → jyy ci f = .int ∧ (jtt ci f).2.2.2 = false) ∧ (k = 1 → jyy ci f = .boolean ∧ (jtt ci f).2.2.2 = false) ∧ (k = 2 → jyy ci f = .long ∧ (jtt ci f).2.2.2 = false) ∧ (k = 3 → jyy ci f = .object (jrr 6) ∧ (jtt ci f).2.2.2 = false) := by
  have hl := (List.getElem?_eq_some_iff.mp h).1
  have hci : ci < 10 := jfk_len ci (by omega)
  have h1 := List.all_eq_true.mp jfk_all ci (List.mem_range.mpr hci)
  have h2 := List.all_eq_true.mp h1 f (List.mem_range.mpr hl)
  have hg : (j_fk ci).getD f 9 = k := by rw [List.getD_eq_getElem?_getD, h]; rfl
  unfold jfk_b at h2
  rw [hg] at h2
  simp only [Bool.and_eq_true, decide_eq_true_eq] at h2
  refine ⟨hci, h2.1, ?_, ?_, ?_, ?_⟩
  all_goals
    intro hk
    subst hk
    have h3 := h2.2
    simp only [Bool.and_eq_true, decide_eq_true_eq, Bool.not_eq_true'] at h3
    exact h3
end JI
