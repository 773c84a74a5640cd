/-! Plain calls: fault, named. -/
def m0_S : Nat → Nat → Prop := fun b j => b = 86 ∧ j = 0
theorem m0_scr {t : Nat} (ht : jTe t) {b j : Nat} (h : m0_S b j) : jScr t b j := by
  obtain ⟨rfl, rfl⟩ := h
  rcases ht with rfl | rfl <;> simp [jScr]
theorem jInv.th {σ : jS} {t : Nat} (g : jInv σ t) (v : Int32) : jInv (j_setI σ 86 0 v) t := g.scr ((jep.rf.sI (S := m0_S) ⟨rfl, rfl⟩).mono (fun b j h => m0_scr g.1 h))
/-- 2: fault -/
theorem op_fault (d : Nat) (w : Int32) (σ : jS) (t : Nat) (g : jInv σ t) : opI (g_HH_fault (d + 1) w) (g_M_fault (d + 1) w) σ := by
  have hF := g.2.2.2.2.1
  refine ⟨if w = 0 then σ.1 0 5 else if w = 1 then σ.1 0 6 else -1, σ, j_setI σ 86 0 0, t, ?_, ?_, g.th 0⟩
  · show g_HH_fault (d + 1) w σ = _
    rw [e_HH_fault, q_HH_fault_0, q_HH_fault_1, q_HH_fault_2, q_HH_fault_3, q_HH_fault_3]
    by_cases h0 : w = 0
    · rw [jif_t h0, if_pos h0]
    · rw [jif_f h0, if_neg h0]
      by_cases h1 : w = 1
      · rw [jif_t h1, if_pos h1]
      · rw [jif_f h1, if_neg h1]
  · show g_M_fault (d + 1) w σ = _
    rw [e_M_fault, q_M_fault_0, q_M_fault_1, q_M_fault_2, q_M_fault_3, q_M_fault_3, q_M_fault_3, setI_nk (by omega), setI_nk (by omega), ← hF.1, ← hF.2]
    by_cases h0 : w = 0
    · rw [jif_t h0, if_pos h0]
    · rw [jif_f h0, if_neg h0]
      by_cases h1 : w = 1
      · rw [jif_t h1, if_pos h1]
      · rw [jif_f h1, if_neg h1]
/-- 3: named -/
theorem op_named (d : Nat) (w x : Int32) (σ : jS) (t : Nat) (g : jInv σ t) : opI (g_HH_named (d + 3) w x) (g_M_named (d + 3) w x) σ := by
  have ht := g.1
  have r2 := g.2.1
  obtain ⟨-, -, -, -, -, A, Pt, M, N, hte, -⟩ := id g
  obtain ⟨a1, a2, a3, a4, a5, a6, a7, a8, a9, a10, a11, a12, a13⟩ := hte
  refine ⟨if w = 0 then fnd (σ.1 (t + 1)) x A 0 else if w = 1 then fnd (σ.1 (t + 9)) x M 0 else -1, σ, j_setI σ 86 0 0, t, ?_, ?_, g.th 0⟩
  · show g_HH_named (d + 3) w x σ = _
    rw [e_HH_named, q_HH_named_0, r2, (te_is ht).1, jc_t]
    by_cases h0 : w = 0
    · rw [jif_t h0, if_pos h0, e_Te_personNamed, q_Te_personNamed_0, (te_is ht).1, jc_t, jc_t, (te_cr ht).1, a4, c_placeOf d x (t + 1) 10 A (te_len ht).1 (by omega) a1, rI_s]
      rfl
    · rw [jif_f h0, if_neg h0, q_HH_named_1, r2, (te_is ht).1, jc_t]
      by_cases h1 : w = 1
      · rw [jif_t h1, if_pos h1, e_Te_mayNamed, q_Te_mayNamed_0, (te_is ht).1, jc_t, jc_t, (te_cr ht).2.2.2.2.2.2.2.2.1, a8, c_placeOf d x (t + 9) 4 M (te_len ht).2.2.2.2.2.2.2.2 (by omega) a3, rI_s]
        simp only [Option.bind_some, rI_s]
        rw [q_HH_named_3]
      · rw [jif_f h1, if_neg h1, q_HH_named_2, q_HH_named_3]
  · show g_M_named (d + 3) w x σ = _
    rw [e_M_named, q_M_named_0]
    by_cases h0 : w = 0
    · rw [jif_t h0, if_pos h0, rdI_ok (a := 88) (n := 8) (i := 0) (k := 0) rfl rfl (by omega) (by omega), setI_ne (by omega), a5]
      simp only [Option.bind_some]
      rw [show (0 : Int32) = nI 0 from rfl, m_found (d + 1) x 89 20 0 A rfl (by omega) (by omega), rI_s]
      simp only [Option.bind_some]
      rw [q_M_named_3, fnd_congr (f := fun k => (j_setI σ 86 0 (nI 0)).1 89 (0 + k)) (g := σ.1 (t + 1)) A 0 (fun k _ hk => by
        show (j_setI σ 86 0 (nI 0)).1 89 (0 + k) = _
        rw [setI_ne (by omega), Nat.zero_add]
        exact (a11 k (by omega)).1.symm)]
    · rw [jif_f h0, if_neg h0, q_M_named_1]
      by_cases h1 : w = 1
      · rw [jif_t h1, if_pos h1, rdI_ok (a := 88) (n := 8) (i := 2) (k := 2) rfl rfl (by omega) (by omega), setI_ne (by omega), a9]
        simp only [Option.bind_some]
        rw [show (0 : Int32) = nI 0 from rfl, m_found (d + 1) x 97 8 0 M rfl (by omega) (by omega), rI_s]
        simp only [Option.bind_some]
        rw [q_M_named_3, fnd_congr (f := fun k => (j_setI σ 86 0 (nI 0)).1 97 (0 + k)) (g := σ.1 (t + 9)) M 0 (fun k _ hk => by
          show (j_setI σ 86 0 (nI 0)).1 97 (0 + k) = _
          rw [setI_ne (by omega), Nat.zero_add]
          exact (a13 k (by omega)).symm)]
      · rw [jif_f h1, if_neg h1, q_M_named_2, q_M_named_3]
