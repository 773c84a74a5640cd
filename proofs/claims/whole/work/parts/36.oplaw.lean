/-! 24: law. -/
def lwB (c a n p h : Int32) : Prop := (0 ≤ c ∧ c ≤ 9999) ∧ (0 ≤ a ∧ a ≤ 99) ∧ (0 ≤ n ∧ n ≤ 99) ∧ (0 ≤ p ∧ p ≤ 9999) ∧ (0 ≤ h ∧ h ≤ 9999)
theorem c_law0 (d : Nat) (c a n p h : Int32) (σ : jS) : g_HH_law (d + 2) c a n p h σ = b_HH_law_2 (d + 1) c a n p h (b2i (lwB c a n p h)) σ := by
  rw [e_HH_law, q_HH_law_0, c_within, rI_s]
  simp only [Option.bind_some]
  by_cases h1 : 0 ≤ c ∧ c ≤ 9999
  · rw [if_pos h1, jif_f (by decide), c_within, rI_s]
    simp only [Option.bind_some]
    by_cases h2 : 0 ≤ a ∧ a ≤ 99
    · rw [if_pos h2, jif_f (by decide), c_within, rI_s]
      simp only [Option.bind_some]
      by_cases h3 : 0 ≤ n ∧ n ≤ 99
      · rw [if_pos h3, jif_f (by decide), c_within, rI_s]
        simp only [Option.bind_some]
        by_cases h4 : 0 ≤ p ∧ p ≤ 9999
        · rw [if_pos h4, jif_f (by decide), c_within, rI_s]
          simp only [Option.bind_some]
          by_cases h5 : 0 ≤ h ∧ h ≤ 9999
          · rw [if_pos h5, jif_f (by decide), b2i_t ⟨h1, h2, h3, h4, h5⟩]
          · rw [if_neg h5, jif_t rfl, q_HH_law_1, b2i_f (fun q => h5 q.2.2.2.2)]
        · rw [if_neg h4, jif_t rfl, q_HH_law_1, b2i_f (fun q => h4 q.2.2.2.1)]
      · rw [if_neg h3, jif_t rfl, q_HH_law_1, b2i_f (fun q => h3 q.2.2.1)]
    · rw [if_neg h2, jif_t rfl, q_HH_law_1, b2i_f (fun q => h2 q.2.1)]
  · rw [if_neg h1, jif_t rfl, q_HH_law_1, b2i_f (fun q => h1 q.1)]
theorem m_law0 (d : Nat) (c a n p h : Int32) (σ : jS) : g_M_law (d + 1) c a n p h σ = b_M_law_2 d c a n p h (b2i (lwB c a n p h)) (j_setI σ 86 0 0) := by
  rw [e_M_law, q_M_law_0, q_M_law_1]
  by_cases h1 : c < 0
  · rw [jif_t h1, b2i_f (fun q => Int32.not_le.mpr h1 q.1.1)]
  rw [jif_f h1]
  by_cases h2 : 9999 < c
  · rw [jif_t h2, b2i_f (fun q => Int32.not_le.mpr h2 q.1.2)]
  rw [jif_f h2]
  by_cases h3 : p < 0
  · rw [jif_t h3, b2i_f (fun q => Int32.not_le.mpr h3 q.2.2.2.1.1)]
  rw [jif_f h3]
  by_cases h4 : 9999 < p
  · rw [jif_t h4, b2i_f (fun q => Int32.not_le.mpr h4 q.2.2.2.1.2)]
  rw [jif_f h4]
  by_cases h5 : h < 0
  · rw [jif_t h5, b2i_f (fun q => Int32.not_le.mpr h5 q.2.2.2.2.1)]
  rw [jif_f h5]
  by_cases h6 : 9999 < h
  · rw [jif_t h6, b2i_f (fun q => Int32.not_le.mpr h6 q.2.2.2.2.2)]
  rw [jif_f h6]
  by_cases h7 : a < 0
  · rw [jif_t h7, b2i_f (fun q => Int32.not_le.mpr h7 q.2.1.1)]
  rw [jif_f h7]
  by_cases h8 : 99 < a
  · rw [jif_t h8, b2i_f (fun q => Int32.not_le.mpr h8 q.2.1.2)]
  rw [jif_f h8]
  by_cases h9 : n < 0
  · rw [jif_t h9, b2i_f (fun q => Int32.not_le.mpr h9 q.2.2.1.1)]
  rw [jif_f h9]
  by_cases h10 : 99 < n
  · rw [jif_t h10, b2i_f (fun q => Int32.not_le.mpr h10 q.2.2.1.2)]
  rw [jif_f h10, b2i_t ⟨⟨Int32.not_lt.mp h1, Int32.not_lt.mp h2⟩, ⟨Int32.not_lt.mp h7, Int32.not_lt.mp h8⟩, ⟨Int32.not_lt.mp h9, Int32.not_lt.mp h10⟩, ⟨Int32.not_lt.mp h3, Int32.not_lt.mp h4⟩, ⟨Int32.not_lt.mp h5, Int32.not_lt.mp h6⟩⟩]
theorem ml_scr {t : Nat} (ht : jTe t) {b j : Nat} (h : ml_S b j) : jScr t b j := by
  rcases h with rfl | rfl | ⟨rfl, rfl⟩ <;> rcases ht with rfl | rfl <;> simp [jScr]
theorem op_law (d : Nat) (c a n p h : Int32) (σ : jS) (t : Nat) (g : jInv σ t) : opL (g_HH_law (d + 4) c a n p h) (g_M_law (d + 4) c a n p h) σ := by
  have ht := g.1
  have r2 := g.2.1
  have g0 := g.th 0
  by_cases hB : lwB c a n p h
  · rcases g.law with ⟨-, -, ⟨-, l2, l3⟩ | ⟨l1, s, e, l2, l3, l4, l5, l6, l7, l8, l9⟩⟩
    · refine ⟨lw_err, σ, j_setI σ 86 0 0, t, ?_, ?_, g0⟩
      · show g_HH_law (d + 4) c a n p h σ = _
        rw [c_law0, b2i_t hB, q_HH_law_2, jif_f (by decide), r2, (te_is ht).1, jc_t, (te_cr ht).2.2.2.2.2.2.2.2.2, (te_is ht).2, jc_t, jif_t l2, q_HH_law_3]
        rfl
      · show g_M_law (d + 4) c a n p h σ = _
        rw [m_law0, b2i_t hB, q_M_law_2, jif_f (by decide), rdI_ok (a := 99) (n := 10) (i := 0) (k := 0) rfl rfl (by omega) (by omega)]
        simp only [Option.bind_some]
        rw [rdI_ok (a := 98) (n := 10) (i := 0) (k := 0) rfl rfl (by omega) (by omega), setI_ne (by omega), setI_ne (by omega)]
        simp only [Option.bind_some]
        rw [jif_t l3.symm, q_M_law_3]
        rfl
    · have t1 := l1 rfl
      obtain ⟨σ2, v1, v2⟩ := c_value (d + 1) ht 4 (by omega) s e l3 (by omega) c a n p h σ l4 l5 l8
      have g2 := g.scr (jep.of v2 (fun b j q => la_scr q))
      have hE : lawE t σ σ2 := lawE.of_jeq v2 (fun b h1 h2 q => by rcases q with q | q <;> omega)
      have cI : ∀ b, b ≠ t + 15 → b ≠ t + 16 → σ2.1 b = σ.1 b := fun b h1 h2 => (v2 b (fun q => q.elim h1 h2)).1
      obtain ⟨σ3, y1, y2, y3⟩ := m_lays (d + 1) c a n p h (j_setI σ2 86 0 0)
      have cJ : ∀ b, b ≠ 102 → σ3.1 b = (j_setI σ2 86 0 0).1 b := fun b hb => y2.cellI (fun j q => hb q)
      have cK : ∀ b, b ≠ 102 → b ≠ 86 → b ≠ t + 15 → b ≠ t + 16 → σ3.1 b = σ.1 b := fun b h1 h2 h3 h4 => by rw [cJ b h1, j_setI_ne h2, cI b h3 h4]
      have tt : ∀ i, 11 ≤ i → i ≤ 14 → σ3.1 (t + i) = σ.1 (t + i) := fun i h1 h2 => cK _ (by rcases ht with rfl | rfl <;> omega) (by rcases ht with rfl | rfl <;> omega) (by omega) (by omega)
      have mm : ∀ b, 98 ≤ b → b ≤ 101 → σ3.1 b = σ.1 b := fun b h1 h2 => cK _ (by omega) (by omega) (by rcases ht with rfl | rfl <;> omega) (by rcases ht with rfl | rfl <;> omega)
      obtain ⟨σ4, z1, z2, z3⟩ := m_goes d (t := t) (L := 4) (Ls := 0) (lw_ns c a n p h) σ3 s e (by omega) (by omega) l3 (by rw [mm 98 (by omega) (by omega)]; exact l6) (by rw [mm 99 (by omega) (by omega)]; exact l7) (by rw [tt 11 (by omega) (by omega)]; exact l8) (by
        rw [tt 11 (by omega) (by omega), tt 12 (by omega) (by omega), mm 100 (by omega) (by omega), mm 101 (by omega) (by omega)]
        exact l9) y3
      rw [tt 11 (by omega) (by omega), tt 12 (by omega) (by omega)] at z1 z3
      have g4 : jInv σ4 t := (g2.th 0).scr (((y2.mono (fun b j q => ml_scr ht (Or.inr (Or.inl q)))).tr (z2.mono (fun b j q => ml_scr ht (q.elim Or.inl (fun w => Or.inr (Or.inr w)))))))
      refine ⟨lw_V (σ.1 (t + 11)) (σ.1 (t + 12)) s e (lw_ns c a n p h), σ2, σ4, t, ?_, ?_, g4⟩
      · show g_HH_law (d + 4) c a n p h σ = _
        rw [c_law0, b2i_t hB, q_HH_law_2, jif_f (by decide), r2, (te_is ht).1, jc_t, (te_cr ht).2.2.2.2.2.2.2.2.2, (te_is ht).2, jc_t, t1, jif_f (by decide), q_HH_law_4, r2, (te_is ht).1, jc_t, (te_cr ht).2.2.2.2.2.2.2.2.2, (te_is ht).2, jc_t]
        have v1' : g_La_value (d + 3) (t + 10) 4 c a n p h σ = some (some (.long (lw_V (σ.1 (t + 11)) (σ.1 (t + 12)) s e (lw_ns c a n p h))), σ2) := v1
        rw [v1', rL_s]
        rfl
      · show g_M_law (d + 4) c a n p h σ2 = _
        have e98 : σ2.1 98 0 = nI s := by rw [cI 98 (by rcases ht with rfl | rfl <;> omega) (by rcases ht with rfl | rfl <;> omega)]; exact l6
        have e99 : σ2.1 99 0 = nI e := by rw [cI 99 (by rcases ht with rfl | rfl <;> omega) (by rcases ht with rfl | rfl <;> omega)]; exact l7
        rw [m_law0, b2i_t hB, q_M_law_2, jif_f (by decide), rdI_ok (a := 99) (n := 10) (i := 0) (k := 0) rfl rfl (by omega) (by omega)]
        simp only [Option.bind_some]
        rw [rdI_ok (a := 98) (n := 10) (i := 0) (k := 0) rfl rfl (by omega) (by omega), setI_ne (by omega), setI_ne (by omega), e98, e99]
        simp only [Option.bind_some]
        rw [jif_f (fun q => by have := nI_inj (by omega) (by omega) q; omega), q_M_law_4, y1, rV_s]
        simp only [Option.bind_some]
        have z1' : g_M_goes (d + 3) 0 σ3 = some (some (.int (b2i (lw_run (fun k => (lw_ns c a n p h k).toInt64) (σ.1 (t + 11)) (σ.1 (t + 12)) (e - s) s [] ≠ none))), σ4) := z1
        rw [z1', rI_s]
        simp only [Option.bind_some]
        by_cases hr : lw_run (fun k => (lw_ns c a n p h k).toInt64) (σ.1 (t + 11)) (σ.1 (t + 12)) (e - s) s [] ≠ none
        · rw [b2i_t hr, jif_f (by decide), rdL_ok (a := 103) (n := 64) (i := 0) (k := 0) rfl rfl (by omega) (by omega), z3 hr]
          simp only [Option.bind_some]
          rw [q_M_law_6]
        · rw [b2i_f hr, jif_t rfl, q_M_law_5, q_M_law_6, lw_V_err.1 (Classical.not_not.mp hr)]
          rfl
  · refine ⟨lw_err, σ, j_setI σ 86 0 0, t, ?_, ?_, g0⟩
    · show g_HH_law (d + 4) c a n p h σ = _
      rw [c_law0, b2i_f hB, q_HH_law_2, jif_t rfl, q_HH_law_3]
      rfl
    · show g_M_law (d + 4) c a n p h σ = _
      rw [m_law0, b2i_f hB, q_M_law_2, jif_t rfl, q_M_law_3]
      rfl
