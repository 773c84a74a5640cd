/-! The reader: numbers and new names, the reference's. -/
theorem mR.tk {K : Nat} {v k21 k22 : Int32} (h : mR K v k21 k22) (hK : K < 300) : (k21 = 1 ↔ K = 16) ∧ (K = 16 → k22 = v) ∧ (k21 = 2 ↔ K = 17) ∧ (K = 17 → ∃ x y, v = nI x ∧ k22 = nI y ∧ nmR x y ∧ x ≤ 1000000 ∧ y ≤ 999999) := by
  rcases h with ⟨h1, h2⟩ | ⟨j, j1, j2, j3, j4⟩ | ⟨h1, h2, h3⟩ | ⟨h1, h2, h3⟩ | ⟨h1, h2⟩ | ⟨h1, h2, h3⟩
  · subst h2; exact ⟨⟨fun z => absurd z (by decide), fun z => by omega⟩, fun z => by omega, ⟨fun z => absurd z (by decide), fun z => by omega⟩, fun z => by omega⟩
  · have := cw_lt j j1
    subst j3; exact ⟨⟨fun z => absurd z (by decide), fun z => by omega⟩, fun z => by omega, ⟨fun z => absurd z (by decide), fun z => by omega⟩, fun z => by omega⟩
  · subst h2; exact ⟨⟨fun _ => h1, fun _ => rfl⟩, fun _ => h3, ⟨fun z => absurd z (by decide), fun z => by omega⟩, fun z => by omega⟩
  · subst h2; exact ⟨⟨fun z => absurd z (by decide), fun z => by omega⟩, fun z => by omega, ⟨fun _ => h1, fun _ => rfl⟩, fun _ => h3⟩
  · subst h2; exact ⟨⟨fun z => absurd z (by decide), fun z => by omega⟩, fun z => by omega, ⟨fun z => absurd z (by decide), fun z => by omega⟩, fun z => by omega⟩
  · have hr : 37 ≤ K := by
      rcases h1 with h1 | h1
      · exact (sgs_r K hK h1).1
      · omega
    subst h2; exact ⟨⟨fun z => absurd z (by decide), fun z => by omega⟩, fun z => by omega, ⟨fun z => absurd z (by decide), fun z => by omega⟩, fun z => by omega⟩
theorem m_numeral (d : Nat) {Ln : Nat} {B : Nat → Nat} {T : Tok} (lo hi : Nat) (hl : lo ≤ 99999) (hh : hi ≤ 99999) (hK : T.1 < 300) (σ : jS) (h : mdS σ B Ln T) :
    (T.1 = 17 → nI lo ≤ T.2.2.2 ∧ T.2.2.2 ≤ nI hi → ∀ T', nxt B Ln T.2.2.1 T' → ∃ σ', g_M_numeral (d + 4) (nI lo) (nI hi) σ = some (some (.int T.2.2.2), σ') ∧ jep mtk σ σ' ∧ mdS σ' B Ln T') ∧ (T.1 ≠ 17 → ∃ σ', g_M_numeral (d + 4) (nI lo) (nI hi) σ = some (some (.int (nI lo)), σ') ∧ jep md_S σ σ' ∧ mdF σ' 1 T.2.1) ∧ (T.1 = 17 → ¬ (nI lo ≤ T.2.2.2 ∧ T.2.2.2 ≤ nI hi) → ∃ σ', g_M_numeral (d + 4) (nI lo) (nI hi) σ = some (some (.int (nI lo)), σ') ∧ jep md_S σ σ' ∧ mdF σ' 2 T.2.1) := by
  obtain ⟨-, -, r3, r4⟩ := h.2.2.2.1.tk hK
  rw [e_M_numeral, q_M_numeral_0, jif_t h.2.2.2.2, q_M_numeral_1]
  have wr : ∀ k, 1 ≤ k → k ≤ 5 → ∃ σ', ((r_V (g_M_wrong (d + 3) (nI k) σ)).bind fun σ1 => b_M_numeral_4 (d + 3) (nI lo) σ1) = some (some (.int (nI lo)), σ') ∧ jep md_S σ σ' ∧ mdF σ' k T.2.1 := fun k k1 k5 => by
    obtain ⟨σ', q1, q2, q3⟩ := m_wrong (d + 2) k σ h
    rw [q1, rV_s]
    simp only [Option.bind_some]
    rw [q_M_numeral_4, jif_f (q3.ne k1 k5)]
    exact ⟨σ', rfl, q2, q3⟩
  refine ⟨fun e ew T' hn => ?_, fun e => ?_, fun e ew => ?_⟩
  · obtain ⟨x, y, x1, x2, x3, x4, x5⟩ := r4 e
    rw [x1] at ew
    have hx1 : lo ≤ x := Nat.le_of_not_lt (fun q => nI_ge q (by omega) ew.1)
    have hx2 : x ≤ hi := Nat.le_of_not_lt (fun q => nI_ge q (by omega) ew.2)
    have exy : y = x := by rcases x3 with z | z <;> omega
    obtain ⟨σ', q1, q2, q3⟩ := m_tok d σ h hn
    rw [jif_t (r3.mpr e), q_M_numeral_2, x2, exy, jif_f (nI_nlt hx1 (by omega)), jif_t (nI_le hx2 (by omega)), q_M_numeral_4, jif_t h.2.2.2.2, q_M_numeral_5, q1, rV_s]
    simp only [Option.bind_some]
    rw [x2, exy, ← x1]
    exact ⟨σ', rfl, q2, q3⟩
  · rw [jif_f (fun z => e (r3.mp z))]
    exact wr 1 (by omega) (by omega)
  · obtain ⟨x, y, x1, x2, x3, x4, x5⟩ := r4 e
    rw [x1] at ew
    rw [jif_t (r3.mpr e), q_M_numeral_2, x2, q_M_numeral_3]
    by_cases z : x < lo
    · have exy : y = x := by rcases x3 with q | q <;> omega
      rw [exy, jif_t (nI_lt z (by omega))]
      exact wr 2 (by omega) (by omega)
    · have hx : hi < x := Nat.lt_of_not_le (fun q => ew ⟨nI_le (by omega) (by omega), nI_le q (by omega)⟩)
      have hy : hi < y ∧ lo ≤ y := by rcases x3 with q | q <;> omega
      rw [jif_f (nI_nlt hy.2 (by omega)), jif_f (nI_ge hy.1 (by omega))]
      exact wr 2 (by omega) (by omega)
theorem m_numeralF (d : Nat) (lo hi : Int32) (σ : jS) (h : ¬ σ.1 86 23 = 0) : g_M_numeral (d + 1) lo hi σ = some (some (.int lo), σ) := by
  rw [e_M_numeral, q_M_numeral_0, jif_f h]
theorem m_fresh (d : Nat) {Ln a : Nat} {B : Nat → Nat} {T : Tok} {l2 l3 : Int32} (w : Int32) (hK : T.1 < 300) (σ : jS) (h : mdS σ B Ln T) (hf : T.1 = 16 → g_M_found (d + 3) a l2 l3 T.2.2.2 σ = some (some (.int w), σ)) :
    (T.1 = 16 → w = -1 → ∀ T', nxt B Ln T.2.2.1 T' → ∃ σ', g_M_fresh (d + 4) a l2 l3 σ = some (some (.int T.2.2.2), σ') ∧ jep mtk σ σ' ∧ mdS σ' B Ln T') ∧ (T.1 ≠ 16 → ∃ σ', g_M_fresh (d + 4) a l2 l3 σ = some (some (.int 0), σ') ∧ jep md_S σ σ' ∧ mdF σ' 1 T.2.1) ∧ (T.1 = 16 → w ≠ -1 → ∃ σ', g_M_fresh (d + 4) a l2 l3 σ = some (some (.int 0), σ') ∧ jep md_S σ σ' ∧ mdF σ' 3 T.2.1) := by
  obtain ⟨r1, r2, -, -⟩ := h.2.2.2.1.tk hK
  rw [e_M_fresh, q_M_fresh_0, jif_t h.2.2.2.2, q_M_fresh_1]
  have wr : ∀ k, 1 ≤ k → k ≤ 5 → ∃ σ', ((r_V (g_M_wrong (d + 3) (nI k) σ)).bind fun σ1 => b_M_fresh_3 (d + 3) σ1) = some (some (.int 0), σ') ∧ jep md_S σ σ' ∧ mdF σ' k T.2.1 := fun k k1 k5 => by
    obtain ⟨σ', q1, q2, q3⟩ := m_wrong (d + 2) k σ h
    rw [q1, rV_s]
    simp only [Option.bind_some]
    rw [q_M_fresh_3, jif_f (q3.ne k1 k5)]
    exact ⟨σ', rfl, q2, q3⟩
  refine ⟨fun e ew T' hn => ?_, fun e => ?_, fun e ew => ?_⟩
  · obtain ⟨σ', q1, q2, q3⟩ := m_tok d σ h hn
    rw [jif_t (r1.mpr e), q_M_fresh_2, r2 e, hf e, rI_s]
    simp only [Option.bind_some]
    rw [jif_t ew, q_M_fresh_3, jif_t h.2.2.2.2, q_M_fresh_4, q1, rV_s]
    simp only [Option.bind_some]
    rw [r2 e]
    exact ⟨σ', rfl, q2, q3⟩
  · rw [jif_f (fun z => e (r1.mp z))]
    exact wr 1 (by omega) (by omega)
  · rw [jif_t (r1.mpr e), q_M_fresh_2, r2 e, hf e, rI_s]
    simp only [Option.bind_some]
    rw [jif_f ew]
    exact wr 3 (by omega) (by omega)
theorem m_freshF (d : Nat) (a : Nat) (l2 l3 : Int32) (σ : jS) (h : ¬ σ.1 86 23 = 0) : g_M_fresh (d + 1) a l2 l3 σ = some (some (.int 0), σ) := by
  rw [e_M_fresh, q_M_fresh_0, jif_f h]
