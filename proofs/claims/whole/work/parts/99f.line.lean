/-! Lines: any line. -/
/-- a line: read by both, with the token behind it, or the same fault -/
def LL (C M : jR) (σ τ : jS) (u : Nat) (B : Nat → Nat) (Ln : Nat) : Prop :=
  (∃ σ' τ' T' A Pt M' W p, C = some (some (.int 1), σ') ∧ M = some (none, τ') ∧ jep (lcS u) σ σ' ∧ jep lmS τ τ' ∧ lS σ' τ' u B Ln T' A Pt M' W ∧ τ'.1 86 17 = τ.1 86 17 + 1 ∧ nxt B Ln p T' ∧ B (Ln + 1) ≤ p) ∨
  (∃ σ' τ' k pl, C = some (some (.int 0), σ') ∧ M = some (none, τ') ∧ jep (lcS u) σ σ' ∧ jep lmS τ τ' ∧ 1 ≤ k ∧ k ≤ 5 ∧ rdF σ' k pl ∧ mdF τ' k pl)
theorem lb_end (dc dm : Nat) {C M : jR} {σ τ : jS} {u Ln : Nat} {B : Nat → Nat} (hu : jTe u) (h : LB C M σ τ u B Ln (dm + 5)) (f0 f1 : jS → jR) (hf0 : ∀ s, f0 s = some (some (.int 0), s)) (hf1 : ∀ s, f1 s = some (some (.int 1), s)) :
    LL ((r_I C).bind fun q1 => jif (q1.1 = 0) (f0 q1.2) ((r_I (g_Rd_passes (dc + 3) 59 q1.2)).bind fun q2 => jif (q2.1 = 0) (f0 q2.2) (f1 q2.2))) M σ τ u B Ln := by
  rcases h with ⟨σ1, τ1, T1, A, Pt, M', W, h1, h2, h3, h4, h5, h6⟩ | ⟨σ1, τ1, k, pl, h1, h2, h3, h4, h5, h6, h7, h8⟩
  · have r1 := h5.1
    have m1 := h5.2.1
    obtain ⟨cp1, cp2⟩ := c_passes dc 59 (by omega) σ1 r1
    rw [h1, h2, rI_s, q_M_line_14, jif_t m1.2.2.2.2, q_M_line_15, show g_M_isSign (dm + 5) 59 τ1 = _ from m_isSign (dm + 4) 59 (by decide) (by omega) (by have := r1.2.1; omega) τ1 m1, rI_s]
    simp only [Option.bind_some]
    rw [jif_f (by decide)]
    by_cases k59 : T1.1 = 59
    · obtain ⟨σ2, T2, a1, a2, a3, a4⟩ := cp1 k59
      obtain ⟨τ2, b1, b2, b3⟩ := m_tok (dm + 2) τ1 m1 a3
      have L2 := h5.adv hu a2 a4 b2 b3
      rw [show g_Rd_passes (dc + 3) 59 σ1 = _ from a1, rI_s, b2i_t k59, jif_f (by decide), q_M_line_16, b1, rV_s]
      simp only [Option.bind_some]
      rw [jif_f (by decide), hf1, q_M_line_17, (b2 86 17 (fun q => by have := q.2; omega)).1, h6]
      refine Or.inl ⟨σ2, _, T2, A, Pt, M', W, T1.2.2.1, rfl, rfl, h3.tr (a2.mono (fun b j => rd_lc)), (h4.tr (b2.mono (fun b j => tk_lm))).sI (Or.inl ⟨rfl, by omega, by omega, by omega, by omega⟩), ⟨a4, b3.fr (fun b j q => ?_), L2.2.2.1.fr (fun b j _ _ => rfl) (fun b j q1 q2 _ => setI_ne (by omega)), L2.2.2.2.fr (fun b j _ _ => rfl) (fun b j q => ?_)⟩, setI_same _ _ _ _, a3, r1.2.2.2.2.2⟩
      · by_cases e : b = 86
        · exact setI_nk (by omega)
        · exact setI_ne e
      · by_cases e : b = 86
        · exact setI_nk (by omega)
        · exact setI_ne e
    · obtain ⟨σ2, a1, a2, a3⟩ := cp2 k59
      obtain ⟨τ2, b1, b2, b3⟩ := m_wrong (dm + 4) 1 τ1 m1
      rw [show g_Rd_passes (dc + 3) 59 σ1 = _ from a1, rI_s, b2i_f k59, jif_t (show (0 : Int32) = 0 from rfl), show g_M_wrong (dm + 5) 1 τ1 = _ from b1, rV_s]
      simp only [Option.bind_some]
      rw [jif_t trivial, hf0, q_M_line_17]
      exact Or.inr ⟨σ2, _, 1, _, rfl, rfl, h3.tr (a2.mono (fun b j => rd_lc)), (h4.tr (b2.mono (fun b j => md_lm))).sI (Or.inl ⟨rfl, by omega, by omega, by omega, by omega⟩), by omega, by omega, a3, b3.fr (fun j _ _ => setI_nk (by omega))⟩
  · rw [h1, h2, rI_s]
    simp only [Option.bind_some]
    rw [jif_t trivial, hf0]
    exact Or.inr ⟨σ1, τ1, k, pl, rfl, rfl, h3, h4, h5, h6, h7, h8⟩
theorem cw_ln : ∀ i, i < 16 → (cw i = 6 ∨ cw i = 8 ∨ cw i = 11 ∨ cw i = 12 ∨ cw i = 13 ↔ i ≤ 4) := by decide +kernel
theorem l_line (dc dm : Nat) {σ τ : jS} {u Ln A Pt M W : Nat} {B : Nat → Nat} {T : Tok} (hu : jTe u) (h : lS σ τ u B Ln T A Pt M W) : LL (g_Rd_readLine (dc + 102) σ) (g_M_line (dm + 133) τ) σ τ u B Ln := by
  have h1 := h.1
  have h2 := h.2.1
  have h37 : σ.1 37 0 = nI T.1 := h1.1.2.2.2.1
  have hT : T.1 ≤ 258 := h1.2.1
  have hR : mR T.1 T.2.2.2 (τ.1 86 21) (τ.1 86 22) := h2.2.2.2.1
  have nk : ∀ k, k ≤ 258 → ¬ T.1 = k → ¬ nI T.1 = nI k := fun k hk e => nI_k hT hk e
  have md : ∀ i, i ≤ 4 → T.1 = cw i → g_M_line (dm + 133) τ = b_M_line_2 (dm + 132) τ := fun i hi e => by
    obtain ⟨r1, r2⟩ := hR.wd (by omega) e
    rw [e_M_line, q_M_line_0, jif_t r1, r2, jif_t (show nI i ≤ (4 : Int32) from nI_le (b := 4) hi (by omega))]
  have df : ¬ (T.1 = 6 ∨ T.1 = 8 ∨ T.1 = 11 ∨ T.1 = 12 ∨ T.1 = 13) → LL (b_Rd_readLine_16 (dc + 101) σ) (g_M_line (dm + 133) τ) σ τ u B Ln := fun e => by
    obtain ⟨σ', q1, q2, q3⟩ := c_fails (dc + 100) 1 σ h1
    obtain ⟨τ', p1, p2, p3⟩ := m_wrong (dm + 131) 1 τ h2
    have st : g_M_line (dm + 133) τ = b_M_line_1 (dm + 132) τ := by
      rw [e_M_line, q_M_line_0]
      by_cases z : τ.1 86 21 = 0
      · obtain ⟨i, j1, j2, j4⟩ : ∃ i, i < 16 ∧ T.1 = cw i ∧ τ.1 86 22 = nI i := by
          rcases hR with q | ⟨i, j1, j2, -, j4⟩ | q | q | q | ⟨-, q, -⟩
          · exact absurd (z.symm.trans q.2) (by decide)
          · exact ⟨i, j1, j2, j4⟩
          · exact absurd (z.symm.trans q.2.1) (by decide)
          · exact absurd (z.symm.trans q.2.1) (by decide)
          · exact absurd (z.symm.trans q.2) (by decide)
          · exact absurd (z.symm.trans q) (by decide)
        have hi : ¬ i ≤ 4 := fun q => e (by rw [j2]; exact (cw_ln i j1).mpr q)
        rw [jif_t z, j4, jif_f (show ¬ nI i ≤ (4 : Int32) from nI_ge (a := 4) (by omega) (by omega))]
      · rw [jif_f z]
    rw [st, q_M_line_1, show g_M_wrong (dm + 132) 1 τ = _ from p1, rV_s, q_Rd_readLine_16, show g_Rd_fails (dc + 101) 1 σ = _ from q1, rI_s]
    exact Or.inr ⟨σ', τ', 1, _, rfl, rfl, q2.mono (fun b j => rd_lc), p2.mono (fun b j => md_lm), by omega, by omega, q3, p3⟩
  rw [e_Rd_readLine, q_Rd_readLine_0, h37]
  by_cases k6 : T.1 = 6
  · rw [jif_t (show nI T.1 = 6 by rw [k6]; rfl), q_Rd_readLine_1, md 0 (by omega) k6]
    exact lb_end (dc + 98) (dm + 127) hu (l_person (dc + 97) (dm + 127) hu h k6) (b_Rd_readLine_2 (dc + 101)) (b_Rd_readLine_3 (dc + 101) 1) (fun s => by rw [q_Rd_readLine_2, q_Rd_readLine_3]; rfl) (fun s => by rw [q_Rd_readLine_3]; rfl)
  rw [jif_f (show ¬ nI T.1 = (6 : Int32) from nk 6 (by omega) k6)]
  by_cases k7 : T.1 = 7
  · rw [jif_t (show nI T.1 = 7 by rw [k7]; rfl)]
    exact df (by omega)
  rw [jif_f (show ¬ nI T.1 = (7 : Int32) from nk 7 (by omega) k7)]
  by_cases k8 : T.1 = 8
  · rw [jif_t (show nI T.1 = 8 by rw [k8]; rfl), q_Rd_readLine_4, md 1 (by omega) k8]
    have w0 : τ.1 86 22 = 1 := (hR.wd (i := 1) (by omega) k8).2
    have st : LB (g_Rd_handsLine (dc + 101) σ) (b_M_line_2 (dm + 132) τ) σ τ u B Ln (dm + 132) := by
      obtain ⟨-, τ1, b1, b2⟩ := l_handsB (dc + 95) (dm + 126) hu h
      rw [q_M_line_2, w0, jif_f (show ¬ (1 : Int32) = 0 by decide), q_M_line_3, jif_f (show ¬ (1 : Int32) = 2 by decide), q_M_line_4, jif_f (show ¬ (1 : Int32) = 4 by decide), q_M_line_6, jif_f (show ¬ (1 : Int32) = 3 by decide), q_M_line_7, jif_t h2.2.2.2.2, q_M_line_8, b1, rV_s]
      simp only [Option.bind_some]
      rw [jif_f (by decide), jif_t (by decide), q_M_line_10]
      exact b2.lb
    exact lb_end (dc + 98) (dm + 127) hu st (b_Rd_readLine_5 (dc + 101)) (b_Rd_readLine_6 (dc + 101) 1) (fun s => by rw [q_Rd_readLine_5, q_Rd_readLine_6]; rfl) (fun s => by rw [q_Rd_readLine_6]; rfl)
  rw [jif_f (show ¬ nI T.1 = (8 : Int32) from nk 8 (by omega) k8)]
  by_cases k11 : T.1 = 11
  · rw [jif_f (show ¬ nI T.1 = (9 : Int32) from nk 9 (by omega) (by omega)), jif_f (show ¬ nI T.1 = (10 : Int32) from nk 10 (by omega) (by omega)), jif_t (show nI T.1 = 11 by rw [k11]; rfl), q_Rd_readLine_7, md 2 (by omega) k11]
    exact lb_end (dc + 98) (dm + 127) hu (l_parcel (dc + 97) (dm + 126) hu h k11) (b_Rd_readLine_8 (dc + 101)) (b_Rd_readLine_9 (dc + 101) 1) (fun s => by rw [q_Rd_readLine_8, q_Rd_readLine_9]; rfl) (fun s => by rw [q_Rd_readLine_9]; rfl)
  by_cases k12 : T.1 = 12
  · rw [jif_f (show ¬ nI T.1 = (9 : Int32) from nk 9 (by omega) (by omega)), jif_f (show ¬ nI T.1 = (10 : Int32) from nk 10 (by omega) (by omega)), jif_f (show ¬ nI T.1 = (11 : Int32) from nk 11 (by omega) (by omega)), jif_t (show nI T.1 = 12 by rw [k12]; rfl), q_Rd_readLine_10, md 3 (by omega) k12]
    exact lb_end (dc + 98) (dm + 127) hu (l_law dc dm hu h k12) (b_Rd_readLine_11 (dc + 101)) (b_Rd_readLine_12 (dc + 101) 1) (fun s => by rw [q_Rd_readLine_11, q_Rd_readLine_12]; rfl) (fun s => by rw [q_Rd_readLine_12]; rfl)
  by_cases k13 : T.1 = 13
  · rw [jif_f (show ¬ nI T.1 = (9 : Int32) from nk 9 (by omega) (by omega)), jif_f (show ¬ nI T.1 = (10 : Int32) from nk 10 (by omega) (by omega)), jif_f (show ¬ nI T.1 = (11 : Int32) from nk 11 (by omega) (by omega)), jif_f (show ¬ nI T.1 = (12 : Int32) from nk 12 (by omega) (by omega)), jif_t (show nI T.1 = 13 by rw [k13]; rfl), q_Rd_readLine_13, md 4 (by omega) k13]
    exact lb_end (dc + 98) (dm + 127) hu (l_may dc dm hu h k13) (b_Rd_readLine_14 (dc + 101)) (b_Rd_readLine_15 (dc + 101) 1) (fun s => by rw [q_Rd_readLine_14, q_Rd_readLine_15]; rfl) (fun s => by rw [q_Rd_readLine_15]; rfl)
  have e := df (by omega)
  by_cases k9 : T.1 = 9
  · rw [jif_t (show nI T.1 = 9 by rw [k9]; rfl)]
    exact e
  rw [jif_f (show ¬ nI T.1 = (9 : Int32) from nk 9 (by omega) k9)]
  by_cases k10 : T.1 = 10
  · rw [jif_t (show nI T.1 = 10 by rw [k10]; rfl)]
    exact e
  rw [jif_f (show ¬ nI T.1 = (10 : Int32) from nk 10 (by omega) k10), jif_f (show ¬ nI T.1 = (11 : Int32) from nk 11 (by omega) k11), jif_f (show ¬ nI T.1 = (12 : Int32) from nk 12 (by omega) k12), jif_f (show ¬ nI T.1 = (13 : Int32) from nk 13 (by omega) k13)]
  exact e
