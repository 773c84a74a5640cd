/-! The text begins. -/
def tcS (u : Nat) : Nat → Nat → Prop := fun b j => lcS u b j ∨ (b = 0 ∧ j = 1) ∨ b = 36 ∨ b = 37
def tmS : Nat → Nat → Prop := fun b j => lmS b j ∨ (b = 86 ∧ (j = 0 ∨ j = 2))
theorem c_clear (d : Nat) {u : Nat} (hu : jTe u) (σ : jS) : ∃ σ', g_Te_clear (d + 2) u σ = some (none, σ') ∧ jep (fun b _ => b = u ∨ b = u + 10) σ σ' ∧ σ'.1 u 0 = 0 ∧ σ'.1 u 6 = 0 ∧ σ'.1 u 10 = 0 ∧ σ'.1 (u + 10) 0 = 0 ∧ σ'.1 (u + 10) 1 = 0 ∧ σ'.1 (u + 10) 2 = 0 := by
  rw [e_Te_clear, q_Te_clear_0, (te_is hu).1, jc_t, jc_t, jc_t, jc_t, (te_cr hu).2.2.2.2.2.2.2.2.2, (te_is hu).2, jc_t, e_La_clear, q_La_clear_0, (te_is hu).2, jc_t, jc_t, jc_t, rV_s]
  refine ⟨_, rfl, (((((jep.rf.sI ?_).sI ?_).sI ?_).sI ?_).sI ?_).sI ?_, ?_, ?_, ?_, ?_, ?_, ?_⟩
  · exact Or.inl rfl
  · exact Or.inl rfl
  · exact Or.inl rfl
  · exact Or.inr rfl
  · exact Or.inr rfl
  · exact Or.inr rfl
  · rw [setI_ne (by omega), setI_ne (by omega), setI_ne (by omega), setI_nk (by omega), setI_nk (by omega), setI_same]
  · rw [setI_ne (by omega), setI_ne (by omega), setI_ne (by omega), setI_nk (by omega), setI_same]
  · rw [setI_ne (by omega), setI_ne (by omega), setI_ne (by omega), setI_same]
  · rw [setI_nk (by omega), setI_nk (by omega), setI_same]
  · exact setI_same _ _ _ _
  · rw [setI_nk (by omega), setI_same]
theorem c_begin (d : Nat) {u n : Nat} {B : Nat → Nat} (hu : jTe u) (hn : n ≤ 700) (σ : jS) (hB : BY σ 1 B n) (hW : iWords σ) (hg : B (n + 1) = 0) : ∃ σ' T, g_Rd_begin (d + 4) (nI n) u σ = some (none, σ') ∧ jep (fun b j => lcS u b j ∨ b = 36 ∨ b = 37) σ σ' ∧ nxt B n 0 T ∧ rdS σ' u B n T ∧ σ'.1 u 0 = 0 ∧ σ'.1 u 6 = 0 ∧ σ'.1 u 10 = 0 ∧ σ'.1 (u + 10) 0 = 0 ∧ σ'.1 (u + 10) 1 = 0 ∧ σ'.1 (u + 10) 2 = 0 := by
  have hr := te_r hu
  have r3 : (j_setR (j_setI (j_setI σ 36 0 0) 36 1 (-1)) 36 3 u).2.2 36 3 = u := by rw [setR_get, if_pos ⟨rfl, rfl⟩]
  obtain ⟨σ1, a1, a2, a3⟩ := c_clear (d + 1) hu (j_setR (j_setI (j_setI σ 36 0 0) 36 1 (-1)) 36 3 u)
  have e1 : ∀ b j, b ≠ 36 → b ≠ u → b ≠ u + 10 → σ1.1 b j = σ.1 b j := fun b j q1 q2 q3 => by
    rw [(a2 b j (by omega)).1, setR_I, setI_ne q1, setI_ne q1]
  have hif : (if (700 : Int32) < nI n then 700 else nI n) = nI n := if_neg (show ¬ (700 : Int32) < nI n from nI_nlt (a := 700) hn (by omega))
  obtain ⟨σ2, hσ2⟩ : ∃ s, s = j_setI (j_setI σ1 37 4 (nI n)) 37 3 0 := ⟨_, rfl⟩
  have e2 : ∀ b j, ¬ (b = 37 ∧ (j = 3 ∨ j = 4)) → σ2.1 b j = σ1.1 b j := fun b j q => by rw [hσ2, setI_get, if_neg (by omega), setI_get, if_neg (by omega)]
  have hB2 : BY σ2 1 B n := ⟨hB.1, fun i hi => by rw [e2 _ _ (by omega), e1 _ _ (by omega) (by omega) (by omega)]; exact hB.2 i hi⟩
  have hW2 : iWords σ2 := fun i hi => by rw [e2 _ _ (by omega), e1 _ _ (by omega) (by omega) (by omega)]; exact hW i hi
  obtain ⟨σ3, K, pl, e, v, q1, q2, q3, q4⟩ := c_advance d (p := 0) σ2 (by omega) hB2 hW2 (by rw [hσ2, setI_nk (by omega), setI_same]) (by rw [hσ2, setI_same]; rfl)
  have e3 : ∀ b j, ¬ (b = 37 ∧ j ≤ 3) → σ3.1 b j = σ2.1 b j ∧ σ3.2.2 b j = σ2.2.2 b j := fun b j q => ⟨(q2 b j q).1, (q2 b j q).2.2⟩
  rw [e_Rd_begin, q_Rd_begin_0, r3, (te_is hu).1, jc_t, a1, rV_s]
  simp only [Option.bind_some]
  rw [e_Tk_begin, q_Tk_begin_0, hif, ← hσ2, q1, rV_s]
  refine ⟨σ3, (K, pl, e, v), rfl, ?_, q3, ⟨q4, nxt_K (fun i hi => (hB.2 i hi).2) (T := (K, pl, e, v)) q3, ?_, ?_, ?_, by rw [hg]; exact Nat.zero_le _⟩, ?_⟩
  · refine (((((jep.rf.sI ?_).sI ?_).sR ?_).tr (a2.mono (fun b j q => ?_))).tr ?_).tr (q2.mono (fun b j q => Or.inr (Or.inr q.1)))
    · exact Or.inr (Or.inl rfl)
    · exact Or.inr (Or.inl rfl)
    · exact Or.inr (Or.inl rfl)
    · exact Or.inl (Or.inr (by omega))
    · rw [hσ2]; exact (jep.rf.sI (Or.inr (Or.inr rfl))).sI (Or.inr (Or.inr rfl))
  · rw [(e3 36 3 (by omega)).2, hσ2]
    show σ1.2.2 36 3 = u
    rw [(a2 36 3 (by omega)).2.2]; exact r3
  · rw [(e3 36 0 (by omega)).1, e2 _ _ (by omega), (a2 36 0 (by omega)).1, setR_I, setI_nk (by omega), setI_same]; rfl
  · rw [(e3 36 1 (by omega)).1, e2 _ _ (by omega), (a2 36 1 (by omega)).1, setR_I, setI_same]
  · have e5 : ∀ b j, b = u ∨ b = u + 10 → σ3.1 b j = σ1.1 b j := fun b j q => by rw [(e3 b j (by omega)).1, e2 b j (by omega)]
    rw [e5 u 0 (by omega), e5 u 6 (by omega), e5 u 10 (by omega), e5 (u + 10) 0 (by omega), e5 (u + 10) 1 (by omega), e5 (u + 10) 2 (by omega)]
    exact a3
theorem m_zero3 (d : Nat) : ∀ (c i : Nat) (τ : jS), i + c = 4 → ∃ τ', b_M_text_3 d (nI i) τ = b_M_text_4 d τ' ∧ jep (fun b k => b = 88 ∧ 4 + i ≤ k) τ τ' ∧ ∀ k, i ≤ k → k < 4 → τ'.1 88 (4 + k) = 0
  | 0, i, τ, h => ⟨τ, by rw [q_M_text_3, jif_t (show (4 : Int32) ≤ nI i from nI_le (a := 4) (by omega) (by omega))], jep.rf, fun k h1 h2 => absurd h2 (by omega)⟩
  | c + 1, i, τ, h => by
    rw [q_M_text_3, jif_f (show ¬ (4 : Int32) ≤ nI i from nI_ge (b := 4) (by omega) (by omega)), show (4 : Int32) + nI i = nI (4 + i) from nI_add 4 i, wrI_ok (a := 88) (n := 8) rfl rfl (show 4 + i < 8 by omega) (by omega)]
    simp only [Option.bind_some]
    rw [nI_1]
    obtain ⟨τ', g1, g2, g3⟩ := m_zero3 d c (i + 1) (j_setI τ 88 (4 + i) 0) (by omega)
    refine ⟨τ', g1, (jep.rf.sI (S := fun b k => b = 88 ∧ 4 + i ≤ k) ⟨rfl, Nat.le_refl _⟩).tr (g2.mono (fun b k q => ⟨q.1, by omega⟩)), fun k h1 h2 => ?_⟩
    by_cases e : k = i
    · subst e; rw [(g2 88 (4 + k) (by omega)).1, setI_same]
    · exact g3 k (by omega) h2
theorem m_zero5 (d : Nat) : ∀ (c i : Nat) (τ : jS), i + c = 10 → ∃ τ', b_M_text_5 d (nI i) τ = b_M_text_6 d τ' ∧ jep (fun b k => (b = 98 ∨ b = 99) ∧ i ≤ k) τ τ' ∧ ∀ k, i ≤ k → k < 10 → τ'.1 98 k = 0 ∧ τ'.1 99 k = 0
  | 0, i, τ, h => ⟨τ, by rw [q_M_text_5, jif_t (show (10 : Int32) ≤ nI i from nI_le (a := 10) (by omega) (by omega))], jep.rf, fun k h1 h2 => absurd h2 (by omega)⟩
  | c + 1, i, τ, h => by
    rw [q_M_text_5, jif_f (show ¬ (10 : Int32) ≤ nI i from nI_ge (b := 10) (by omega) (by omega)), wrI_ok (a := 98) (n := 10) rfl rfl (show i < 10 by omega) (by omega)]
    simp only [Option.bind_some]
    rw [wrI_ok (a := 99) (n := 10) rfl rfl (show i < 10 by omega) (by omega)]
    simp only [Option.bind_some]
    rw [nI_1]
    obtain ⟨τ', g1, g2, g3⟩ := m_zero5 d c (i + 1) (j_setI (j_setI τ 98 i 0) 99 i 0) (by omega)
    refine ⟨τ', g1, ((jep.rf.sI (S := fun b k => (b = 98 ∨ b = 99) ∧ i ≤ k) ⟨Or.inl rfl, Nat.le_refl _⟩).sI ⟨Or.inr rfl, Nat.le_refl _⟩).tr (g2.mono (fun b k q => ⟨q.1, by omega⟩)), fun k h1 h2 => ?_⟩
    by_cases e : k = i
    · subst e; rw [(g2 98 k (by omega)).1, (g2 99 k (by omega)).1, setI_same, setI_ne (by omega), setI_same]; exact ⟨rfl, rfl⟩
    · exact g3 k (by omega) h2
theorem m_tbegin (d : Nat) {n : Nat} {B : Nat → Nat} {T : Tok} (hn : n ≤ 700) (τ : jS) (hB : BY τ 87 B n) (hT : nxt B n 0 T) : ∃ τ', b_M_text_2 (d + 3) (nI n) τ = b_M_text_7 (d + 3) τ' ∧ jep tmS τ τ' ∧ mdS τ' B n T ∧ τ'.1 86 2 = 0 ∧ τ'.1 86 17 = 0 ∧ τ'.1 86 27 = 0 ∧ τ'.1 86 28 = 0 ∧ τ'.1 86 29 = 0 ∧ (∀ k, k < 4 → τ'.1 88 (4 + k) = 0) ∧ τ'.1 98 5 = 0 ∧ τ'.1 99 5 = 0 := by
  obtain ⟨τ0, h0⟩ : ∃ t, t = j_setI (j_setI (j_setI (j_setI (j_setI τ 86 18 (nI n)) 86 2 0) 86 19 0) 86 23 0) 86 24 (-1) := ⟨_, rfl⟩
  obtain ⟨τ1, a1, a2, a3⟩ := m_zero3 (d + 3) 4 0 τ0 (by omega)
  obtain ⟨τ2, b1, b2, b3⟩ := m_zero5 (d + 3) 5 5 τ1 (by omega)
  obtain ⟨τ3, h3⟩ : ∃ t, t = j_setI (j_setI (j_setI (j_setI τ2 86 29 0) 86 17 0) 86 27 0) 86 28 0 := ⟨_, rfl⟩
  have e0 : ∀ b j, b ≠ 86 → τ0.1 b j = τ.1 b j := fun b j q => by rw [h0, setI_ne q, setI_ne q, setI_ne q, setI_ne q, setI_ne q]
  have e2 : ∀ b j, b ≠ 88 → b ≠ 98 → b ≠ 99 → τ2.1 b j = τ0.1 b j := fun b j q1 q2 q3 => by rw [(b2 b j (by omega)).1, (a2 b j (by omega)).1]
  have e3 : ∀ b j, ¬ (b = 86 ∧ (j = 17 ∨ j = 27 ∨ j = 28 ∨ j = 29)) → τ3.1 b j = τ2.1 b j := fun b j q => by rw [h3, setI_get, if_neg (by omega), setI_get, if_neg (by omega), setI_get, if_neg (by omega), setI_get, if_neg (by omega)]
  have hM3 : MY τ3 B n 0 := ⟨⟨hB.1, fun i hi => by rw [e3 _ _ (by omega), e2 _ _ (by omega) (by omega) (by omega), e0 _ _ (by omega)]; exact hB.2 i hi⟩, by rw [e3 _ _ (by omega), e2 _ _ (by omega) (by omega) (by omega), h0, setI_nk (by omega), setI_nk (by omega), setI_nk (by omega), setI_nk (by omega), setI_same], by rw [e3 _ _ (by omega), e2 _ _ (by omega) (by omega) (by omega), h0, setI_nk (by omega), setI_nk (by omega), setI_same]; rfl⟩
  obtain ⟨τ4, c1, c2, c3, c4, c5⟩ := m_token d τ3 (by omega) hM3 hT
  have e4 : ∀ b j, ¬ (b = 86 ∧ 19 ≤ j ∧ j ≤ 22) → τ4.1 b j = τ3.1 b j := fun b j q => (c2 b j q).1
  rw [q_M_text_2, ← h0, show b_M_text_3 (d + 3) 0 τ0 = _ from a1, q_M_text_4, show b_M_text_5 (d + 3) 5 τ1 = _ from b1, q_M_text_6, ← h3, c1, rV_s]
  refine ⟨τ4, rfl, ?_, ⟨c3, ⟨nxt_e (by omega) hT, ?_⟩, c4, c5, ?_⟩, ?_, ?_, ?_, ?_, ?_, fun k hk => ?_, ?_, ?_⟩
  · have J0 : jep tmS τ τ0 := by
      rw [h0]
      exact ((((jep.rf.sI (Or.inl (Or.inl ⟨rfl, by omega, by omega, by omega, by omega⟩))).sI (Or.inr ⟨rfl, Or.inr rfl⟩)).sI (Or.inl (Or.inl ⟨rfl, by omega, by omega, by omega, by omega⟩))).sI (Or.inl (Or.inl ⟨rfl, by omega, by omega, by omega, by omega⟩))).sI (Or.inl (Or.inl ⟨rfl, by omega, by omega, by omega, by omega⟩))
    have J3 : jep tmS τ2 τ3 := by
      rw [h3]
      exact (((jep.rf.sI (Or.inl (Or.inl ⟨rfl, by omega, by omega, by omega, by omega⟩))).sI (Or.inl (Or.inl ⟨rfl, by omega, by omega, by omega, by omega⟩))).sI (Or.inl (Or.inl ⟨rfl, by omega, by omega, by omega, by omega⟩))).sI (Or.inl (Or.inl ⟨rfl, by omega, by omega, by omega, by omega⟩))
    refine (((J0.tr (a2.mono (fun b k q => ?_))).tr (b2.mono (fun b k q => ?_))).tr J3).tr (c2.mono (fun b j q => Or.inl (tk_lm q)))
    · obtain ⟨rfl, q⟩ := q
      exact Or.inl (lm_in (by omega) (by omega) (show 4 ≤ k by omega))
    · rcases q with ⟨rfl | rfl, q⟩
      · exact Or.inl (lm_in (by omega) (by omega) (show 5 ≤ k by omega))
      · exact Or.inl (lm_in (by omega) (by omega) (show 5 ≤ k by omega))
  · rw [e4 _ _ (by omega), e3 _ _ (by omega), e2 _ _ (by omega) (by omega) (by omega), h0, setI_same]
  · rw [e4 _ _ (by omega), e3 _ _ (by omega), e2 _ _ (by omega) (by omega) (by omega), h0, setI_nk (by omega), setI_same]
  · rw [e4 _ _ (by omega), e3 _ _ (by omega), e2 _ _ (by omega) (by omega) (by omega), h0, setI_nk (by omega), setI_nk (by omega), setI_nk (by omega), setI_same]
  · rw [e4 _ _ (by omega), h3, setI_nk (by omega), setI_nk (by omega), setI_same]
  · rw [e4 _ _ (by omega), h3, setI_nk (by omega), setI_same]
  · rw [e4 _ _ (by omega), h3, setI_same]
  · rw [e4 _ _ (by omega), h3, setI_nk (by omega), setI_nk (by omega), setI_nk (by omega), setI_same]
  · rw [e4 _ _ (by omega), e3 _ _ (by omega), (b2 88 (4 + k) (by omega)).1]; exact a3 k (by omega) hk
  · rw [e4 _ _ (by omega), e3 _ _ (by omega)]; exact (b3 5 (by omega) (by omega)).1
  · rw [e4 _ _ (by omega), e3 _ _ (by omega)]; exact (b3 5 (by omega) (by omega)).2
/-- the text is read by both: from where a call begins -/
def TS (C M : jR) (σ τ : jS) (u dc dm : Nat) : Prop := ∃ σ' τ' N, C = b_HH_text_4 dc (nI N) σ' ∧ M = b_M_text_8 dm τ' ∧ jep (tcS u) σ σ' ∧ jep tmS τ τ' ∧ σ'.1 0 1 = 0 ∧ τ'.1 86 2 = 0 ∧
  ((∃ A Pt M' W, σ'.1 36 0 = nI 0 ∧ σ'.1 36 1 = -1 ∧ τ'.1 86 23 = 0 ∧ τ'.1 86 24 = -1 ∧ rT σ' τ' u A Pt M' ∧ rLw σ' τ' u M' W ∧ τ'.1 86 17 = nI N) ∨ ∃ k pl, 1 ≤ k ∧ k ≤ 5 ∧ rdF σ' k pl ∧ mdF τ' k pl)
theorem t_text (dc dm : Nat) {σ τ : jS} {u n : Nat} {B : Nat → Nat} (hu : jTe u) (hn : n ≤ 700) (hB : BY σ 1 B n) (hBm : BY τ 87 B n) (hW : iWords σ) (hg : B (n + 1) = 0) (h03 : σ.2.2 0 3 = u) : TS (b_HH_text_2 (dc + 102) (nI n) σ) (b_M_text_2 (dm + 133) (nI n) τ) σ τ u (dc + 102) (dm + 133) := by
  have hr := te_r hu
  have r0 : (j_setI σ 0 1 0).2.2 0 3 = u := h03
  obtain ⟨σ1, T, a1, a2, a3, a4, a5, a6, a7, a8, a9, a10⟩ := c_begin (dc + 98) hu hn (j_setI σ 0 1 0) ⟨hB.1, fun i hi => by rw [setI_ne (by omega)]; exact hB.2 i hi⟩ (fun i hi => by rw [setI_ne (by omega)]; exact hW i hi) hg
  obtain ⟨τ1, b1, b2, b3, b4, b5, b6, b7, b8, b9, b10, b11⟩ := m_tbegin (dm + 130) hn τ hBm a3
  have L : lS σ1 τ1 u B n T 0 0 0 0 := ⟨a4, b3, ⟨by omega, by omega, by omega, a5, b9 0 (by omega), a6, b9 1 (by omega), a7, b9 2 (by omega), fun p hp => by omega, fun p hp => by omega, fun p hp => by omega⟩, ⟨by omega, a8, b7, a10, b9 3 (by omega), b6, fun j hj => by omega, Or.inl ⟨a9, b8, b10, b11⟩, fun m hm => by omega⟩⟩
  have F1 : jep (tcS u) σ σ1 := (jep.rf.sI (S := tcS u) (Or.inr (Or.inl ⟨rfl, rfl⟩))).tr (a2.mono (fun b j q => by
    rcases q with q | q | q
    · exact Or.inl q
    · exact Or.inr (Or.inr (Or.inl q))
    · exact Or.inr (Or.inr (Or.inr q))))
  have z1 : σ1.1 0 1 = 0 := by
    rw [(a2 0 1 (fun q => by unfold lcS rd_S at q; omega)).1, setI_same]
  rw [q_HH_text_2, r0, a1, rV_s, b1]
  simp only [Option.bind_some]
  rcases t_loop dc dm hu hn (n + 1) 0 0 0 0 0 0 B σ1 τ1 T (by omega) (by omega) (by omega) a3 L b5 jep.rf jep.rf with ⟨σ', τ', A, Pt, M', W, N, c1, c2, c3, c4, c5, c6, c7, c8, c9, c10, c11⟩ | ⟨σ', τ', k, pl, N, c1, c2, c3, c4, c5, c6, c7, c8⟩
  · refine ⟨σ', τ', N, c1, c2, F1.tr (c3.mono (fun b j q => Or.inl q)), b2.tr (c4.mono (fun b j q => Or.inl q)), ?_, ?_, Or.inl ⟨A, Pt, M', W, c5, c6, c7, c8, c9, c10, c11⟩⟩
    · rw [(c3 0 1 (fun q => by unfold lcS rd_S at q; omega)).1]; exact z1
    · rw [(c4 86 2 (fun q => by unfold lmS at q; omega)).1]; exact b4
  · refine ⟨σ', τ', N, c1, c2, F1.tr (c3.mono (fun b j q => Or.inl q)), b2.tr (c4.mono (fun b j q => Or.inl q)), ?_, ?_, Or.inr ⟨k, pl, c5, c6, c7, c8⟩⟩
    · rw [(c3 0 1 (fun q => by unfold lcS rd_S at q; omega)).1]; exact z1
    · rw [(c4 86 2 (fun q => by unfold lmS at q; omega)).1]; exact b4
