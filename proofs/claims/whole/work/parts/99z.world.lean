/-! The world behind the constructors is that of the first state. -/
theorem kget_w : ∀ k, k < 16 → kget kWds k = nI (jWd k) := by decide +kernel
theorem kget_o (k : Nat) (h : 16 ≤ k) : kget kWds k = 0 := by
  unfold kget
  rw [List.find?_eq_none.mpr]
  · rfl
  · intro q hq
    unfold kWds at hq
    rw [List.mem_reverse] at hq
    obtain ⟨i, hi, rfl⟩ := List.mem_map.mp hq
    have := List.mem_range.mp hi
    simp only [beq_iff_eq]
    omega
theorem kS_38 (k : Nat) : kget kWds k = kS.1 38 k := by
  by_cases h : k < 16
  · rw [kget_w k h, kS_w h]
  · rw [kget_o k (by omega)]
    unfold kS
    dsimp only
    rw [if_pos rfl, if_neg h]
theorem kS_arr {a : Nat} {q : Nat × Nat} (h : jSH[a]? = some (.inl q)) (k : Nat) : kget (if a = 38 then kWds else []) k = kS.1 a k := by
  by_cases h38 : a = 38
  · subst h38
    rw [if_pos rfl]; exact kS_38 k
  · rw [if_neg h38, kS_0 h38]
    · rfl
    · rintro (⟨rfl, -⟩ | ⟨rfl, -⟩ | ⟨rfl | rfl | rfl, -⟩ | ⟨rfl, -⟩) <;> cases h
theorem kFin_W (α : Nat → Nat) (G : jG) : kW α G kFin = jP α G kS := by
  apply List.ext_getElem?
  intro a
  unfold kW kFin jP
  rw [List.getElem?_mapIdx, List.getElem?_mapIdx, List.getElem?_mapIdx]
  cases h : jSH[a]? with
  | none => rfl
  | some e =>
    cases e with
    | inl q =>
      obtain ⟨z, n⟩ := q
      have hk : (fun k => kget (if a = 38 then kWds else []) k) = kS.1 a := funext (kS_arr h)
      show some (α a, kE α G (.inl (z, n, if a = 38 then kWds else []))) = some (α a, jE α G kS a (.inl (z, n)))
      match z with
      | 0 => show some (α a, (Sum.inl (j_ac G 0, n, Sum.inl (fun k => kget (if a = 38 then kWds else []) k)) : va_E)) = _; rw [hk]; rfl
      | 1 => show some (α a, (Sum.inl (j_ac G 1, n, Sum.inl (fun k => kget (if a = 38 then kWds else []) k)) : va_E)) = _; rw [hk]; rfl
      | _ + 2 => rfl
    | inr ci =>
      show some (α a, kE α G (.inr (ci, (j_fk ci).mapIdx _))) = some (α a, jE α G kS a (.inr ci))
      have hf : ((j_fk ci).mapIdx fun k f => (match f with
        | 0 => Value.int (kS.1 a k)
        | 1 => .int (kS.1 a k)
        | 2 => .long 0
        | 3 => .ref (kS.2.2 a k)
        | _ => .ref (j_cr a k))).map (tv α) = j_fs α kS a ci := by
        unfold j_fs
        apply List.ext_getElem?
        intro k
        rw [List.getElem?_map, List.getElem?_mapIdx, List.getElem?_mapIdx]
        cases (j_fk ci)[k]? with
        | none => rfl
        | some f =>
          match f with
          | 0 => rfl
          | 1 => rfl
          | 2 => rfl
          | 3 => rfl
          | _ + 4 => rfl
      show some (α a, (Sum.inr (ci, _) : va_E)) = some (α a, (Sum.inr (ci, j_fs α kS a ci) : va_E))
      rw [← hf]
      rfl
