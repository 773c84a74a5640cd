/-! The reader: told people, the class's. -/
theorem c_personNamed (d : Nat) {u A : Nat} (hu : jTe u) (hA : A ≤ 10) (x : Int32) (σ : jS) (h0 : σ.1 u 0 = nI A) : g_Te_personNamed (d + 2) u x σ = some (some (.int (fnd (σ.1 (u + 1)) x A 0)), σ) := by
  rw [e_Te_personNamed, q_Te_personNamed_0, (te_is hu).1, jc_t, jc_t, (te_cr hu).1, h0, c_placeOf d x (u + 1) 10 A (te_len hu).1 (by omega) hA, rI_s]
  rfl
theorem c_toldPerson (d : Nat) {u Ln A : Nat} {B : Nat → Nat} {T : Tok} (hu : jTe u) (hA : A ≤ 10) (σ : jS) (h : rdS σ u B Ln T) (h0 : σ.1 u 0 = nI A) :
    (T.1 = 16 → fnd (σ.1 (u + 1)) T.2.2.2 A 0 ≠ -1 → g_Rd_toldPerson (d + 3) σ = some (some (.int (fnd (σ.1 (u + 1)) T.2.2.2 A 0)), σ)) ∧ (T.1 ≠ 16 → ∃ σ', g_Rd_toldPerson (d + 3) σ = some (some (.int (-1)), σ') ∧ jep rd_S σ σ' ∧ rdF σ' 1 T.2.1) ∧ (T.1 = 16 → fnd (σ.1 (u + 1)) T.2.2.2 A 0 = -1 → ∃ σ', g_Rd_toldPerson (d + 3) σ = some (some (.int (-1)), σ') ∧ jep rd_S σ σ' ∧ rdF σ' 4 T.2.1) := by
  have hK : (σ.1 37 0 = 16) ↔ T.1 = 16 := h.K (k := 16) (by omega)
  have hv : σ.1 37 2 = T.2.2.2 := h.1.2.2.2.2.2.2.1
  have hr : σ.2.2 36 3 = u := h.2.2.1
  rw [e_Rd_toldPerson, q_Rd_toldPerson_0, hr]
  refine ⟨fun e ew => ?_, fun e => ?_, fun e ew => ?_⟩
  · rw [jif_t (hK.mpr e), (te_is hu).1, jc_t, c_personNamed d hu hA _ σ h0, rI_s]
    simp only [Option.bind_some]
    rw [hv, q_Rd_toldPerson_2, jif_f ew, q_Rd_toldPerson_5]
  · obtain ⟨σ', q1, q2, q3⟩ := c_fails (d + 1) 1 σ h
    rw [jif_f (fun z => e (hK.mp z)), q_Rd_toldPerson_1, q_Rd_toldPerson_2, jif_t rfl, jif_f (fun z => e (hK.mp z)), q_Rd_toldPerson_3, q_Rd_toldPerson_4, show g_Rd_fails (d + 2) 1 σ = _ from q1, rI_s]
    simp only [Option.bind_some]
    rw [q_Rd_toldPerson_5]
    exact ⟨σ', rfl, q2, q3⟩
  · obtain ⟨σ', q1, q2, q3⟩ := c_fails (d + 1) 4 σ h
    rw [jif_t (hK.mpr e), (te_is hu).1, jc_t, c_personNamed d hu hA _ σ h0, rI_s]
    simp only [Option.bind_some]
    rw [hv, q_Rd_toldPerson_2, jif_t ew, jif_t (hK.mpr e), q_Rd_toldPerson_4, show g_Rd_fails (d + 2) 4 σ = _ from q1, rI_s]
    simp only [Option.bind_some]
    rw [q_Rd_toldPerson_5, ew]
    exact ⟨σ', rfl, q2, q3⟩
