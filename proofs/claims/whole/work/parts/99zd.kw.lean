/-! The constructors' world, as the list grows and changes. -/
theorem kW_get {α : Nat → Nat} {G : jG} {es : List kC} {a : Nat} {e : kC} (h : es[a]? = some e) : (kW α G es)[a]? = some (α a, kE α G e) := by
  unfold kW
  rw [List.getElem?_mapIdx, h]
  rfl
theorem kW_app (α : Nat → Nat) (G : jG) (es : List kC) (e : kC) : kW α G (es ++ [e]) = kW α G es ++ [(α es.length, kE α G e)] := by
  unfold kW
  rw [List.mapIdx_append]
  simp
theorem kW_set (α : Nat → Nat) (G : jG) (es : List kC) (a : Nat) (e : kC) : kW α G (es.set a e) = (kW α G es).set a (α a, kE α G e) := by
  apply List.ext_getElem?
  intro i
  unfold kW
  rw [List.getElem?_mapIdx, List.getElem?_set, List.getElem?_set, List.getElem?_mapIdx, List.length_mapIdx]
  by_cases h : a = i
  · subst h
    rw [if_pos rfl, if_pos rfl]
    by_cases h2 : a < es.length
    · rw [if_pos h2, if_pos h2]; rfl
    · rw [if_neg h2, if_neg h2]; rfl
  · rw [if_neg h, if_neg h]
