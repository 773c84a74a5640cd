/-! The reader: told people. -/
theorem m_fresher (d : Nat) (i : Nat) (hi : i < 4) (σ : jS) : g_M_fresher (d + 1) (nI i) σ = some (some (.int (σ.1 88 (4 + i))), σ) := by
  rw [e_M_fresher, q_M_fresher_0, show (4 : Int32) + nI i = nI (4 + i) from nI_add 4 i, rdI_ok (a := 88) (n := 8) rfl rfl (show 4 + i < 8 by omega) (by omega)]
  rfl
theorem m_oneMore (d : Nat) (i n : Nat) (hi : i < 4) (σ : jS) (h : σ.1 88 (4 + i) = nI n) : g_M_oneMore (d + 1) (nI i) σ = some (none, j_setI σ 88 (4 + i) (nI (n + 1))) := by
  rw [e_M_oneMore, q_M_oneMore_0, show (4 : Int32) + nI i = nI (4 + i) from nI_add 4 i, rdI_ok (a := 88) (n := 8) rfl rfl (show 4 + i < 8 by omega) (by omega)]
  simp only [Option.bind_some]
  rw [h, nI_1, wrI_ok (a := 88) (n := 8) rfl rfl (show 4 + i < 8 by omega) (by omega)]
  rfl
theorem m_person (d : Nat) {Ln A : Nat} {B : Nat → Nat} {T : Tok} (hK : T.1 < 300) (hA : A ≤ 10) (σ : jS) (h : mdS σ B Ln T) (h88 : σ.1 88 4 = nI A) :
    (T.1 = 16 → fnd (fun k => σ.1 89 (10 + k)) T.2.2.2 A 0 ≠ -1 → g_M_person (d + 2) σ = some (some (.int (fnd (fun k => σ.1 89 (10 + k)) T.2.2.2 A 0)), σ)) ∧ (T.1 ≠ 16 → ∃ σ', g_M_person (d + 2) σ = some (some (.int 0), σ') ∧ jep md_S σ σ' ∧ mdF σ' 1 T.2.1) ∧ (T.1 = 16 → fnd (fun k => σ.1 89 (10 + k)) T.2.2.2 A 0 = -1 → ∃ σ', g_M_person (d + 2) σ = some (some (.int 0), σ') ∧ jep md_S σ σ' ∧ mdF σ' 4 T.2.1) := by
  obtain ⟨r1, r2, -, -⟩ := h.2.2.2.1.tk hK
  have hfr : g_M_fresher (d + 1) 0 σ = some (some (.int (nI A)), σ) := by
    have := m_fresher d 0 (by omega) σ
    rw [show σ.1 88 (4 + 0) = nI A from h88] at this
    exact this
  have hfo : T.1 = 16 → g_M_found (d + 1) 89 10 (nI A) (σ.1 86 22) σ = some (some (.int (fnd (fun k => σ.1 89 (10 + k)) T.2.2.2 A 0)), σ) := fun e => by
    rw [r2 e]
    exact m_found d T.2.2.2 89 20 10 A rfl (by omega) (by omega) σ
  have wr : ∀ k, 1 ≤ k → k ≤ 5 → ∃ σ', ((r_V (g_M_wrong (d + 1) (nI k) σ)).bind fun σ1 => b_M_person_3 (d + 1) σ1) = some (some (.int 0), σ') ∧ jep md_S σ σ' ∧ mdF σ' k T.2.1 := fun k k1 k5 => by
    obtain ⟨σ', q1, q2, q3⟩ := m_wrong d k σ h
    rw [q1, rV_s]
    simp only [Option.bind_some]
    rw [q_M_person_3, jif_f (q3.ne k1 k5), q_M_person_5]
    exact ⟨σ', rfl, q2, q3⟩
  rw [e_M_person, q_M_person_0, jif_t h.2.2.2.2, q_M_person_1]
  refine ⟨fun e ew => ?_, fun e => ?_, fun e ew => ?_⟩
  · rw [jif_t (r1.mpr e), q_M_person_2, hfr, rI_s]
    simp only [Option.bind_some]
    rw [hfo e, rI_s]
    simp only [Option.bind_some]
    rw [jif_f ew, q_M_person_3, jif_t h.2.2.2.2, q_M_person_4, hfr, rI_s]
    simp only [Option.bind_some]
    rw [hfo e, rI_s]
    simp only [Option.bind_some]
    rw [q_M_person_5]
  · rw [jif_f (fun z => e (r1.mp z))]
    exact wr 1 (by omega) (by omega)
  · rw [jif_t (r1.mpr e), q_M_person_2, hfr, rI_s]
    simp only [Option.bind_some]
    rw [hfo e, rI_s]
    simp only [Option.bind_some]
    rw [jif_t ew]
    exact wr 4 (by omega) (by omega)
theorem m_personF (d : Nat) (σ : jS) (h : ¬ σ.1 86 23 = 0) : g_M_person (d + 1) σ = some (some (.int 0), σ) := by
  rw [e_M_person, q_M_person_0, jif_f h]
