/-! The text ends: the class, the reference. -/
theorem c_beg_l (d : Nat) {u Pt : Nat} (hu : jTe u) (hP : Pt ≤ 12) : ∀ (c a : Nat) (σ : jS), a + c = Pt → σ.1 u 6 = nI Pt → σ.1 39 3 = nI a → ∃ σ', b_Jo_begin_1 (d + 1) 39 u (nI a) σ = some (none, σ') ∧ jep (fun b k => (42 ≤ b ∧ b ≤ 48 ∧ a ≤ k) ∨ (b = 39 ∧ k = 3)) σ σ' ∧ σ'.1 39 3 = nI Pt ∧ ∀ k, a ≤ k → k < Pt → σ'.1 42 k = σ.1 (u + 6) k ∧ σ'.1 43 k = σ.1 (u + 7) k ∧ σ'.1 44 k = σ.1 (u + 8) k ∧ σ'.1 45 k = 0 ∧ σ'.1 46 k = 0 ∧ σ'.1 47 k = 0 ∧ σ'.1 48 k = -1
  | 0, a, σ, ha, h6, h3 => by
    rw [q_Jo_begin_1, (te_is hu).1, jc_t, h6, jif_t (nI_le (by omega) (by omega)), q_Jo_begin_2]
    exact ⟨σ, rfl, jep.rf, by rw [h3, show a = Pt by omega], fun k h1 h2 => absurd h2 (by omega)⟩
  | c + 1, a, σ, ha, h6, h3 => by
    have hr := te_r hu
    rw [q_Jo_begin_1, (te_is hu).1, jc_t, h6, jif_f (nI_ge (by omega) (by omega)), jc_t, (te_cr hu).2.2.2.2.2.1, (te_cr hu).2.2.2.2.2.2.1, (te_cr hu).2.2.2.2.2.2.2.1, rdI_ok (te_len hu).2.2.2.2.2.1 rfl (show a < 12 by omega) (by omega)]
    simp only [Option.bind_some]
    rw [jc_t, rdI_ok (te_len hu).2.2.2.2.2.2.1 rfl (show a < 12 by omega) (by omega)]
    simp only [Option.bind_some]
    rw [jc_t, rdI_ok (te_len hu).2.2.2.2.2.2.2.1 rfl (show a < 12 by omega) (by omega)]
    simp only [Option.bind_some]
    obtain ⟨σ1, c1, c2, c3, c4, c5, c6, c7, c8, c9, c10⟩ := c_add d (j := 39) (Or.inl rfl) σ (σ.1 (u + 6) a) (σ.1 (u + 7) a) (σ.1 (u + 8) a) (show a < 30 by omega) h3
    rw [show j_is 0 39 = true from rfl, jc_t, c1, rI_s]
    simp only [Option.bind_some]
    rw [nI_1]
    obtain ⟨σ', g1, g2, g3, g4⟩ := c_beg_l d hu hP c (a + 1) σ1 (by omega) (by rw [(c2 u 6 (by omega)).1]; exact h6) c3
    refine ⟨σ', g1, (c2.mono (fun b k q => by omega)).tr (g2.mono (fun b k q => by omega)), g3, fun k h1 h2 => ?_⟩
    by_cases e : k = a
    · subst e
      rw [(g2 42 k (by omega)).1, (g2 43 k (by omega)).1, (g2 44 k (by omega)).1, (g2 45 k (by omega)).1, (g2 46 k (by omega)).1, (g2 47 k (by omega)).1, (g2 48 k (by omega)).1]
      exact ⟨c4, c5, c6, c7, c8, c9, c10⟩
    · obtain ⟨z1, z2, z3, z4⟩ := g4 k (by omega) h2
      rw [z1, z2, z3, (c2 (u + 6) k (by omega)).1, (c2 (u + 7) k (by omega)).1, (c2 (u + 8) k (by omega)).1]
      exact ⟨rfl, rfl, rfl, z4⟩
def ce_S : Nat → Nat → Prop := fun b k => (b = 0 ∧ (k = 2 ∨ k = 3 ∨ k = 5 ∨ k = 6 ∨ k = 9)) ∨ (39 ≤ b ∧ b ≤ 48) ∨ (b = 78 ∧ k ≤ 1)
theorem c_tend (d : Nat) {t u Pt : Nat} (hu : jTe u) (hP : Pt ≤ 12) (l2 : Int32) (σ : jS) (h0 : σ.1 36 0 = nI 0) (h1 : σ.1 36 1 = -1) (r2 : σ.2.2 0 2 = t) (r3 : σ.2.2 0 3 = u) (h6 : σ.1 u 6 = nI Pt) : ∃ σ', b_HH_text_4 (d + 4) l2 σ = some (some (.int l2), σ') ∧ jep ce_S σ σ' ∧ σ'.2.2 0 2 = u ∧ σ'.2.2 0 3 = t ∧ σ'.1 0 5 = 0 ∧ σ'.1 0 6 = -1 ∧ σ'.1 0 9 = 0 ∧ σ'.1 78 0 = 0 ∧ σ'.1 78 1 = -1 ∧ σ'.1 39 0 = 0 ∧ σ'.1 39 3 = nI Pt ∧ σ'.2.2 39 11 = u ∧ σ'.1 39 12 = -1 ∧ (∀ p, p < 10 → σ'.1 40 p = σ.1 (u + 3) p ∧ σ'.1 41 p = 0) ∧ ∀ k, k < Pt → σ'.1 42 k = σ.1 (u + 6) k ∧ σ'.1 43 k = σ.1 (u + 7) k ∧ σ'.1 44 k = σ.1 (u + 8) k ∧ σ'.1 45 k = 0 ∧ σ'.1 46 k = 0 ∧ σ'.1 47 k = 0 ∧ σ'.1 48 k = -1 := by
  have hr := te_r hu
  obtain ⟨σa, hσa⟩ : ∃ s, s = j_setI (j_setI σ 0 5 (nI 0)) 0 6 (-1) := ⟨_, rfl⟩
  have ea : ∀ b j, ¬ (b = 0 ∧ (j = 5 ∨ j = 6)) → σa.1 b j = σ.1 b j := fun b j q => by rw [hσa, setI_get, if_neg (by omega), setI_get, if_neg (by omega)]
  have ra : σa.2.2 = σ.2.2 := by rw [hσa]; rfl
  have a5 : σa.1 0 5 = 0 := by rw [hσa, setI_nk (by omega), setI_same]; rfl
  obtain ⟨σb, hσb⟩ : ∃ s, s = j_setR (j_setR σa 0 2 u) 0 3 t := ⟨_, rfl⟩
  have eb : σb.1 = σa.1 := by rw [hσb]; rfl
  have rb2 : σb.2.2 0 2 = u := by rw [hσb, setR_get, if_neg (by omega), setR_get, if_pos ⟨rfl, rfl⟩]
  have rb3 : σb.2.2 0 3 = t := by rw [hσb, setR_get, if_pos ⟨rfl, rfl⟩]
  obtain ⟨σ1, c1, c2, c3, c4, c5, c6, c7, c8⟩ := c_start (d + 1) (j := 39) (Or.inl rfl) hu (-1) 0 σb
  obtain ⟨σ2, g1, g2, g3, g4⟩ := c_beg_l (d + 2) hu hP Pt 0 σ1 (by omega) (by rw [(c2 u 6 (by omega)).1, eb, ea _ _ (by omega)]; exact h6) (by rw [c7]; rfl)
  have e1 : ∀ b j, u ≤ b → b ≤ u + 14 → σ1.1 b j = σ.1 b j := fun b j q1 q2 => by rw [(c2 b j (by omega)).1, eb, ea _ _ (by omega)]
  have e2 : ∀ b j, b < 39 → σ2.1 b j = σb.1 b j ∧ σ2.2.2 b j = σb.2.2 b j := fun b j q => ⟨by rw [(g2 b j (by omega)).1, (c2 b j (by omega)).1], by rw [(g2 b j (by omega)).2.2, (c2 b j (by omega)).2.2]⟩
  rw [q_HH_text_4, h0, show (j_setI σ 0 5 (nI 0)).1 36 1 = -1 from (setI_ne (by omega)).trans h1, ← hσa, jif_t a5, q_HH_text_5, ra, r2, r3, ← hσb, rb2, e_Jo_begin, q_Jo_begin_0, show j_is 0 39 = true from rfl, jc_t, c1, rV_s]
  simp only [Option.bind_some]
  rw [show b_Jo_begin_1 (d + 3) 39 u 0 σ1 = _ from g1, rV_s]
  simp only [Option.bind_some]
  rw [e_Nt_clear, q_Nt_clear_0, rV_s]
  have e3 : ∀ b j, ¬ (b = 78 ∧ j ≤ 1) → ¬ (b = 0 ∧ j = 9) → (j_setI (j_setI (j_setI σ2 78 0 0) 78 1 (-1)) 0 9 0).1 b j = σ2.1 b j := fun b j q1 q2 => by rw [setI_get, if_neg q2, setI_get, if_neg (by omega), setI_get, if_neg (by omega)]
  refine ⟨j_setI (j_setI (j_setI σ2 78 0 0) 78 1 (-1)) 0 9 0, rfl, ?_, ?_, ?_, ?_, ?_, setI_same _ _ _ _, ?_, ?_, ?_, ?_, ?_, ?_, fun p hp => ?_, fun k hk => ?_⟩
  · have J1 : jep ce_S σ σb := by
      rw [hσb, hσa]
      exact (((jep.rf.sI (Or.inl ⟨rfl, by omega⟩)).sI (Or.inl ⟨rfl, by omega⟩)).sR (Or.inl ⟨rfl, by omega⟩)).sR (Or.inl ⟨rfl, by omega⟩)
    exact ((((J1.tr (c2.mono (fun b k q => Or.inr (Or.inl ⟨q.1, by omega⟩)))).tr (g2.mono (fun b k q => Or.inr (Or.inl (by omega))))).sI (Or.inr (Or.inr ⟨rfl, by omega⟩))).sI (Or.inr (Or.inr ⟨rfl, by omega⟩))).sI (Or.inl ⟨rfl, by omega⟩)
  · show σ2.2.2 0 2 = u
    rw [(e2 0 2 (by omega)).2, rb2]
  · show σ2.2.2 0 3 = t
    rw [(e2 0 3 (by omega)).2, rb3]
  · rw [e3 _ _ (by omega) (by omega), (e2 0 5 (by omega)).1, eb, a5]
  · rw [e3 _ _ (by omega) (by omega), (e2 0 6 (by omega)).1, eb, hσa, setI_same]
  · rw [setI_ne (by omega), setI_nk (by omega), setI_same]
  · rw [setI_ne (by omega), setI_same]
  · rw [e3 _ _ (by omega) (by omega), (g2 39 0 (by omega)).1, c6]
  · rw [e3 _ _ (by omega) (by omega), g3]
  · show σ2.2.2 39 11 = u
    rw [(g2 39 11 (by omega)).2.2, c3]
  · rw [e3 _ _ (by omega) (by omega), (g2 39 12 (by omega)).1, c4]
  · rw [e3 _ _ (by omega) (by omega), e3 _ _ (by omega) (by omega), (g2 40 p (by omega)).1, (g2 41 p (by omega)).1, (c8 p hp).1, (c8 p hp).2, eb, ea _ _ (by omega)]
    exact ⟨rfl, rfl⟩
  · obtain ⟨z1, z2, z3, z4, z5, z6, z7⟩ := g4 k (by omega) hk
    rw [e3 _ _ (by omega) (by omega), e3 _ _ (by omega) (by omega), e3 _ _ (by omega) (by omega), e3 _ _ (by omega) (by omega), e3 _ _ (by omega) (by omega), e3 _ _ (by omega) (by omega), e3 _ _ (by omega) (by omega), z1, z2, z3, z4, z5, z6, z7, e1 _ _ (by omega) (by omega), e1 _ _ (by omega) (by omega), e1 _ _ (by omega) (by omega)]
    exact ⟨rfl, rfl, rfl, rfl, rfl, rfl, rfl⟩
/-- halves -/
theorem m_half_l (d : Nat) {a n : Nat} (hl : j_len 0 a = some (n + n)) (hn : n ≤ 64) : ∀ (c i : Nat) (τ : jS), i + c = n → ∃ τ', b_M_half_1 d a (nI n) (nI i) τ = some (none, τ') ∧ jep (fun b k => b = a ∧ i ≤ k ∧ k < n) τ τ' ∧ ∀ k, i ≤ k → k < n → τ'.1 a k = τ.1 a (n + k)
  | 0, i, τ, h => ⟨τ, by rw [q_M_half_1, jif_t (nI_le (by omega) (by omega)), q_M_half_2], jep.rf, fun k h1 h2 => absurd h2 (by omega)⟩
  | c + 1, i, τ, h => by
    rw [q_M_half_1, jif_f (nI_ge (by omega) (by omega)), nI_add, rdI_ok hl rfl (by omega) (by omega)]
    simp only [Option.bind_some]
    rw [wrI_ok hl rfl (by omega) (by omega)]
    simp only [Option.bind_some]
    rw [nI_1]
    obtain ⟨τ', g1, g2, g3⟩ := m_half_l d hl hn c (i + 1) (j_setI τ a i (τ.1 a (n + i))) (by omega)
    refine ⟨τ', g1, (jep.rf.sI (S := fun b k => b = a ∧ i ≤ k ∧ k < n) ⟨rfl, Nat.le_refl _, by omega⟩).tr (g2.mono (fun b k q => ⟨q.1, by omega, q.2.2⟩)), fun k h1 h2 => ?_⟩
    by_cases e : k = i
    · subst e; rw [(g2 a k (by omega)).1, setI_same]
    · rw [g3 k (by omega) h2, setI_nk (by omega)]
theorem m_half (d : Nat) {a n : Nat} (hl : j_len 0 a = some (n + n)) (hn : n ≤ 64) (τ : jS) : ∃ τ', g_M_half (d + 1) a τ = some (none, τ') ∧ jep (fun b k => b = a ∧ k < n) τ τ' ∧ ∀ k, k < n → τ'.1 a k = τ.1 a (n + k) := by
  have e : Int32.ofNat (n + n) / 2 = nI n := by
    show nI (n + n) / 2 = nI n
    rw [nI_half (by omega), show (n + n) / 2 = n by omega]
  rw [e_M_half, q_M_half_0, hl]
  simp only [Option.bind_some]
  rw [e]
  obtain ⟨τ', g1, g2, g3⟩ := m_half_l d hl hn n 0 τ (by omega)
  exact ⟨τ', g1, g2.mono (fun b k q => ⟨q.1, q.2.2⟩), fun k hk => g3 k (by omega) hk⟩
/-- the first n arrays are halved -/
def Hf (n : Nat) (τ τ' : jS) : Prop := jep (fun b k => 88 ≤ b ∧ b < 88 + n ∧ k < hlf b) τ τ' ∧ ∀ b k, 88 ≤ b → b < 88 + n → k < hlf b → τ'.1 b k = τ.1 b (hlf b + k)
theorem hl_len : ∀ b, b < 14 → j_len 0 (88 + b) = some (hlf (88 + b) + hlf (88 + b)) ∧ hlf (88 + b) ≤ 64 := by decide +kernel
theorem Hf.s (d : Nat) {n : Nat} {τ τ' : jS} (h : Hf n τ τ') (hn : n < 14) : ∃ τ'', g_M_half (d + 1) (88 + n) τ' = some (none, τ'') ∧ Hf (n + 1) τ τ'' := by
  obtain ⟨l1, l2⟩ := hl_len n hn
  obtain ⟨τ'', g1, g2, g3⟩ := m_half d l1 l2 τ'
  refine ⟨τ'', g1, (h.1.mono (fun b k q => ⟨q.1, by omega, q.2.2⟩)).tr (g2.mono (fun b k q => by obtain ⟨rfl, q⟩ := q; exact ⟨by omega, by omega, q⟩)), fun b k h1 h2 h3 => ?_⟩
  by_cases e : b = 88 + n
  · subst e
    rw [g3 k h3, (h.1 (88 + n) _ (fun q => by have := q.2.1; omega)).1]
  · rw [(g2 b k (fun q => e q.1)).1]; exact h.2 b k h1 (by omega) h3
theorem m_copy_l (d : Nat) {Pt : Nat} (hP : Pt ≤ 12) : ∀ (c a : Nat) (τ : jS), a + c = Pt → τ.1 86 36 = nI Pt → ∃ τ', b_M_text_10 d (nI a) τ = b_M_text_11 d τ' ∧ jep (fun b k => 104 ≤ b ∧ b ≤ 106 ∧ a ≤ k) τ τ' ∧ ∀ k, a ≤ k → k < Pt → τ'.1 104 k = τ.1 94 k ∧ τ'.1 105 k = τ.1 95 k ∧ τ'.1 106 k = τ.1 96 k
  | 0, a, τ, ha, h36 => ⟨τ, by rw [q_M_text_10, h36, jif_t (nI_le (by omega) (by omega))], jep.rf, fun k h1 h2 => absurd h2 (by omega)⟩
  | c + 1, a, τ, ha, h36 => by
    rw [q_M_text_10, h36, jif_f (nI_ge (by omega) (by omega)), rdI_ok (a := 94) (n := 24) rfl rfl (by omega) (by omega)]
    simp only [Option.bind_some]
    rw [wrI_ok (a := 104) (n := 30) rfl rfl (by omega) (by omega)]
    simp only [Option.bind_some]
    rw [rdI_ok (a := 95) (n := 24) rfl rfl (by omega) (by omega)]
    simp only [Option.bind_some]
    rw [wrI_ok (a := 105) (n := 30) rfl rfl (by omega) (by omega)]
    simp only [Option.bind_some]
    rw [rdI_ok (a := 96) (n := 24) rfl rfl (by omega) (by omega)]
    simp only [Option.bind_some]
    rw [wrI_ok (a := 106) (n := 30) rfl rfl (by omega) (by omega)]
    simp only [Option.bind_some]
    rw [nI_1, setI_ne (b := 96) (by omega), setI_ne (b := 96) (by omega), setI_ne (b := 95) (by omega)]
    obtain ⟨τ1, h1⟩ : ∃ t, t = j_setI (j_setI (j_setI τ 104 a (τ.1 94 a)) 105 a (τ.1 95 a)) 106 a (τ.1 96 a) := ⟨_, rfl⟩
    have e1 : ∀ b j, ¬ (104 ≤ b ∧ b ≤ 106 ∧ j = a) → τ1.1 b j = τ.1 b j := fun b j q => by rw [h1, setI_get, if_neg (by omega), setI_get, if_neg (by omega), setI_get, if_neg (by omega)]
    have J : jep (fun b k => 104 ≤ b ∧ b ≤ 106 ∧ a ≤ k) τ τ1 := by rw [h1]; exact ((jep.rf.sI (S := fun b k => 104 ≤ b ∧ b ≤ 106 ∧ a ≤ k) ⟨by omega, by omega, by omega⟩).sI ⟨by omega, by omega, by omega⟩).sI ⟨by omega, by omega, by omega⟩
    rw [← h1]
    obtain ⟨τ', g1, g2, g3⟩ := m_copy_l d hP c (a + 1) τ1 (by omega) (by rw [e1 _ _ (by omega)]; exact h36)
    refine ⟨τ', g1, J.tr (g2.mono (fun b k q => ⟨q.1, q.2.1, by omega⟩)), fun k k1 k2 => ?_⟩
    by_cases e : k = a
    · subst e
      rw [(g2 104 k (by omega)).1, (g2 105 k (by omega)).1, (g2 106 k (by omega)).1, h1]
      exact ⟨by rw [setI_ne (by omega), setI_ne (by omega), setI_same], by rw [setI_ne (by omega), setI_same], setI_same _ _ _ _⟩
    · obtain ⟨z1, z2, z3⟩ := g3 k (by omega) k2
      rw [z1, z2, z3, e1 _ _ (by omega), e1 _ _ (by omega), e1 _ _ (by omega)]
      exact ⟨rfl, rfl, rfl⟩
