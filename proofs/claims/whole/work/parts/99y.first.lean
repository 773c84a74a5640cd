/-! The first state keeps jInv. -/
theorem kS_0 {a k : Nat} (h1 : ¬ a = 38) (h2 : ¬ ((a = 0 ∧ k = 6) ∨ (a = 78 ∧ k = 1) ∨ ((a = 39 ∨ a = 49 ∨ a = 59) ∧ k = 12) ∨ (a = 86 ∧ (k = 26 ∨ k = 70)))) : kS.1 a k = 0 := by
  show (if a = 38 then (if k < 16 then nI (jWd k) else 0) else if (a = 0 ∧ k = 6) ∨ (a = 78 ∧ k = 1) ∨ ((a = 39 ∨ a = 49 ∨ a = 59) ∧ k = 12) ∨ (a = 86 ∧ (k = 26 ∨ k = 70)) then (-1 : Int32) else 0) = 0
  rw [if_neg h1, if_neg h2]
theorem kS_w {k : Nat} (h : k < 16) : kS.1 38 k = nI (jWd k) := by
  unfold kS
  dsimp only
  rw [if_pos rfl, if_pos h]
theorem kS_inv : jInv kS 2 := by
  refine ⟨Or.inl rfl, by decide +kernel, by decide +kernel, ⟨fun i hi => kS_w hi, 0, by omega, by decide +kernel, by decide +kernel, fun i hi => absurd hi (by omega)⟩, ⟨by decide +kernel, by decide +kernel⟩, 0, 0, 0, 0, ?_, ⟨⟨by omega, by omega, Or.inl ⟨rfl, by decide +kernel, by decide +kernel⟩⟩, fun m hm => absurd hm (by omega)⟩, by decide +kernel, ?_, ?_, by decide +kernel, Or.inl (by decide +kernel)⟩
  · exact ⟨by omega, by omega, by omega, by decide +kernel, by decide +kernel, by decide +kernel, by decide +kernel, by decide +kernel, by decide +kernel, by decide +kernel, fun p hp => absurd hp (by omega), fun p hp => absurd hp (by omega), fun p hp => absurd hp (by omega)⟩
  · exact ⟨by omega, by decide +kernel, by decide +kernel, ⟨0, by omega, by decide +kernel⟩, by decide +kernel, by decide +kernel, fun p hp => absurd hp (by omega), fun p hp => absurd hp (by omega)⟩
  · exact ⟨0, by omega, by decide +kernel, by decide +kernel, by decide +kernel, Or.inl (by decide +kernel), fun p hp => absurd hp (by omega)⟩
/-- a thing of the constructors' machine, as a thing of the world -/
noncomputable def kE (α : Nat → Nat) (G : jG) (e : kC) : va_E := match e with
  | .inl q => .inl (j_ac G q.1, q.2.1, match q.1 with
    | 0 => .inl (fun k => kget q.2.2 k)
    | 1 => .inl (fun k => kget q.2.2 k)
    | _ => .inr (.inl (fun _ => 0)))
  | .inr q => .inr (q.1, q.2.map (tv α))
noncomputable def kW (α : Nat → Nat) (G : jG) (es : List kC) : va_W := es.mapIdx fun a e => (α a, kE α G e)
