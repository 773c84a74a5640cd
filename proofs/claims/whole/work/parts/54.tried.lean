/-! Journeys begin; 30: tried. -/
theorem c_fill_l (d : Nat) {a n : Nat} (hl : j_len 0 a = some n) (hn : n < 2 ^ 31) (v : Int32) : ∀ (c i : Nat) (σ : jS), i + c = n → ∃ σ', b_Ja_fill_1 d a v (nI i) (nI n) σ = some (none, σ') ∧ jep (fun b k => b = a ∧ i ≤ k) σ σ' ∧ ∀ k, i ≤ k → k < n → σ'.1 a k = v
  | 0, i, σ, h => by
    rw [q_Ja_fill_1, jif_t (nI_le (by omega) (by omega)), q_Ja_fill_2]
    exact ⟨σ, rfl, jep.rf, fun k h1 h2 => absurd h2 (by omega)⟩
  | c + 1, i, σ, h => by
    rw [q_Ja_fill_1, jif_f (nI_ge (by omega) (by omega)), wrI_ok hl rfl (by omega) hn]
    simp only [Option.bind_some]
    rw [nI_1]
    obtain ⟨σ', g1, g2, g3⟩ := c_fill_l d hl hn v c (i + 1) (j_setI σ a i v) (by omega)
    refine ⟨σ', g1, (jep.rf.sI ⟨rfl, Nat.le_refl _⟩).tr (g2.mono (fun b k q => ⟨q.1, by omega⟩)), fun k h1 h2 => ?_⟩
    by_cases e : k = i
    · subst e; rw [(g2 a k (by omega)).1, setI_same]
    · exact g3 k (by omega) h2
theorem c_fill (d : Nat) {a n : Nat} (hl : j_len 0 a = some n) (hn : n < 2 ^ 31) (v : Int32) (σ : jS) : ∃ σ', g_Ja_fill (d + 1) a v σ = some (none, σ') ∧ jep (fun b _ => b = a) σ σ' ∧ ∀ k, k < n → σ'.1 a k = v := by
  rw [e_Ja_fill, q_Ja_fill_0, hl]
  obtain ⟨σ', g1, g2, g3⟩ := c_fill_l d hl hn v n 0 σ (by omega)
  exact ⟨σ', g1, g2.mono (fun b k q => q.1), fun k hk => g3 k (by omega) hk⟩
theorem c_start (d : Nat) {j t : Nat} (hj : jJo j) (ht : jTe t) (w i : Int32) (σ : jS) : ∃ σ', g_Jo_start (d + 2) j t w i σ = some (none, σ') ∧ jep (fun b _ => j ≤ b ∧ b ≤ j + 2) σ σ' ∧ σ'.2.2 j 11 = t ∧ σ'.1 j 12 = w ∧ σ'.1 j 13 = i ∧ σ'.1 j 0 = 0 ∧ σ'.1 j 3 = 0 ∧ ∀ k, k < 10 → σ'.1 (j + 1) k = σ.1 (t + 3) k ∧ σ'.1 (j + 2) k = 0 := by
  have htj : t + 3 < j := by unfold jJo at hj; unfold jTe at ht; omega
  rw [e_Jo_start, q_Jo_start_0]
  simp only [jo_is hj, (te_is ht).1, jc_t]
  rw [(te_cr ht).2.2.1, (jo_cr hj).1, cpy_0 (n := 10) (m := 10) (te_len ht).2.2.1 (jo_len hj).1 rfl (by omega) (by omega) (by omega) (by omega)]
  simp only [Option.bind_some]
  obtain ⟨σ', g1, g2, g3⟩ := c_fill d (jo_len hj).2.1 (by omega) 0 (j_cpy (j_setI (j_setI (j_setI (j_setI (j_setR σ j 11 t) j 12 w) j 13 i) j 0 0) j 3 0) (t + 3) 0 (j + 1) 0 10)
  rw [(jo_cr hj).2.1, g1, rV_s]
  simp only [Option.bind_some]
  refine ⟨σ', rfl, ?_, ?_, ?_, ?_, ?_, ?_, fun k hk => ⟨?_, g3 k hk⟩⟩
  · refine ((((((jep.rf.sR ?_).sI ?_).sI ?_).sI ?_).sI ?_).cp ?_).tr (g2.mono (fun b k q => by omega)) <;> first | (intro k; omega) | omega
  · rw [(g2 j 11 (by omega)).2.2]
    show (if j = j ∧ 11 = 11 then t else _) = t
    rw [if_pos ⟨rfl, rfl⟩]
  · rw [(g2 j 12 (by omega)).1, cpy_ne (by omega), setI_nk (by omega), setI_nk (by omega), setI_nk (by omega), setI_same]
  · rw [(g2 j 13 (by omega)).1, cpy_ne (by omega), setI_nk (by omega), setI_nk (by omega), setI_same]
  · rw [(g2 j 0 (by omega)).1, cpy_ne (by omega), setI_nk (by omega), setI_same]
  · rw [(g2 j 3 (by omega)).1, cpy_ne (by omega), setI_same]
  · rw [(g2 (j + 1) k (by omega)).1, cpy_in hk, setI_ne (by omega), setI_ne (by omega), setI_ne (by omega), setI_ne (by omega), setR_I]
theorem c_beginLike_l (d : Nat) {N : Nat} (hN : N ≤ 30) : ∀ (c a : Nat) (σ : jS), a + c = N → σ.1 39 3 = nI N → σ.1 59 3 = nI a → ∃ σ', b_Jo_beginLike_1 (d + 1) 59 39 (nI a) σ = some (none, σ') ∧ jep (fun b k => (62 ≤ b ∧ b ≤ 68 ∧ a ≤ k) ∨ (b = 59 ∧ k = 3)) σ σ' ∧ σ'.1 59 3 = nI N ∧ ∀ k, a ≤ k → k < N → σ'.1 62 k = σ.1 42 k ∧ σ'.1 63 k = σ.1 43 k ∧ σ'.1 64 k = σ.1 44 k ∧ σ'.1 65 k = 0 ∧ σ'.1 66 k = 0 ∧ σ'.1 67 k = 0 ∧ σ'.1 68 k = -1
  | 0, a, σ, ha, h39, h59 => by
    rw [q_Jo_beginLike_1, show j_is 0 39 = true from rfl, jc_t, h39, jif_t (nI_le (by omega) (by omega)), q_Jo_beginLike_2]
    exact ⟨σ, rfl, jep.rf, by rw [h59, show a = N by omega], fun k h1 h2 => absurd h2 (by omega)⟩
  | c + 1, a, σ, ha, h39, h59 => by
    rw [q_Jo_beginLike_1]
    simp only [show j_is 0 39 = true from rfl, show j_is 0 59 = true from rfl, jc_t]
    rw [h39, jif_f (nI_ge (by omega) (by omega)), show j_cr 39 4 = 42 from rfl, show j_cr 39 5 = 43 from rfl, show j_cr 39 6 = 44 from rfl, rdI_ok (a := 42) (n := 30) rfl rfl (by omega) (by omega)]
    simp only [Option.bind_some]
    rw [rdI_ok (a := 43) (n := 30) rfl rfl (by omega) (by omega)]
    simp only [Option.bind_some]
    rw [rdI_ok (a := 44) (n := 30) rfl rfl (by omega) (by omega)]
    simp only [Option.bind_some]
    obtain ⟨σ1, c1, c2, c3, c4, c5, c6, c7, c8, c9, c10⟩ := c_add d (j := 59) (Or.inr (Or.inr rfl)) σ (σ.1 42 a) (σ.1 43 a) (σ.1 44 a) (show a < 30 by omega) h59
    rw [c1, rI_s]
    simp only [Option.bind_some]
    rw [nI_1]
    obtain ⟨σ', g1, g2, g3, g4⟩ := c_beginLike_l d hN c (a + 1) σ1 (by omega) (by rw [(c2 39 3 (by omega)).1]; exact h39) c3
    refine ⟨σ', g1, (c2.mono (fun b k q => by omega)).tr (g2.mono (fun b k q => by omega)), g3, fun k h1 h2 => ?_⟩
    by_cases e : k = a
    · subst e
      rw [(g2 62 k (by omega)).1, (g2 63 k (by omega)).1, (g2 64 k (by omega)).1, (g2 65 k (by omega)).1, (g2 66 k (by omega)).1, (g2 67 k (by omega)).1, (g2 68 k (by omega)).1]
      exact ⟨c4, c5, c6, c7, c8, c9, c10⟩
    · obtain ⟨z1, z2, z3, z4⟩ := g4 k (by omega) h2
      rw [z1, z2, z3, (c2 42 k (by omega)).1, (c2 43 k (by omega)).1, (c2 44 k (by omega)).1]
      exact ⟨rfl, rfl, rfl, z4⟩
theorem m_begins1 (d : Nat) {h A : Nat} (hh : h < 3) (hA : A ≤ 10) : ∀ (c a : Nat) (σ : jS), a + c = A → σ.1 88 0 = nI A → ∃ σ', b_M_begins_1 d (nI h) (nI a) σ = b_M_begins_2 d (nI h) σ' ∧ jep (fun b k => 108 ≤ b ∧ b ≤ 109 ∧ 10 * h + a ≤ k ∧ k < 10 * h + 10) σ σ' ∧ ∀ p, a ≤ p → p < A → σ'.1 108 (10 * h + p) = σ.1 91 p ∧ σ'.1 109 (10 * h + p) = 0
  | 0, a, σ, ha, h88 => by
    rw [q_M_begins_1, rdI_ok (a := 88) (n := 8) (i := 0) (k := 0) rfl rfl (by omega) (by omega)]
    simp only [Option.bind_some]
    rw [h88, jif_t (nI_le (by omega) (by omega))]
    exact ⟨σ, rfl, jep.rf, fun k h1 h2 => absurd h2 (by omega)⟩
  | c + 1, a, σ, ha, h88 => by
    rw [q_M_begins_1, rdI_ok (a := 88) (n := 8) (i := 0) (k := 0) rfl rfl (by omega) (by omega)]
    simp only [Option.bind_some]
    rw [h88, jif_f (nI_ge (by omega) (by omega)), rdI_ok (a := 91) (n := 20) rfl rfl (by omega) (by omega)]
    simp only [Option.bind_some]
    rw [nI_10, wrI_ok (a := 108) (n := 30) rfl rfl (by omega) (by omega)]
    simp only [Option.bind_some]
    rw [wrI_ok (a := 109) (n := 30) rfl rfl (by omega) (by omega)]
    simp only [Option.bind_some]
    rw [nI_1]
    obtain ⟨σ', g1, g2, g3⟩ := m_begins1 d hh hA c (a + 1) (j_setI (j_setI σ 108 (10 * h + a) (σ.1 91 a)) 109 (10 * h + a) 0) (by omega) (by rw [setI_ne (by omega), setI_ne (by omega)]; exact h88)
    refine ⟨σ', g1, ?_, fun p h1 h2 => ?_⟩
    · refine ((jep.rf.sI ?_).sI ?_).tr (g2.mono (fun b k q => by omega)) <;> omega
    · by_cases e : p = a
      · subst e
        rw [(g2 108 _ (by omega)).1, (g2 109 _ (by omega)).1, setI_ne (by omega), setI_same, setI_same]
        exact ⟨rfl, rfl⟩
      · obtain ⟨z1, z2⟩ := g3 p (by omega) h2
        rw [z1, z2, setI_ne (by omega), setI_ne (by omega)]
        exact ⟨rfl, rfl⟩
theorem m_begins3 (d : Nat) {h : Nat} (hh : h < 3) : ∀ (c a : Nat) (σ : jS), a + c = 30 → ∃ σ', b_M_begins_3 (d + 1) (nI h) (nI a) σ = some (none, σ') ∧ jep (fun b k => 110 ≤ b ∧ b ≤ 113 ∧ 30 * h + a ≤ k ∧ k < 30 * h + 30) σ σ' ∧ ∀ k, a ≤ k → k < 30 → σ'.1 110 (30 * h + k) = 0 ∧ σ'.1 111 (30 * h + k) = 0 ∧ σ'.1 112 (30 * h + k) = 0 ∧ σ'.1 113 (30 * h + k) = -1
  | 0, a, σ, ha => by
    rw [q_M_begins_3, jif_t (show (30 : Int32) ≤ nI a from nI_le (a := 30) (by omega) (by omega)), q_M_begins_4]
    exact ⟨σ, rfl, jep.rf, fun k h1 h2 => absurd h2 (by omega)⟩
  | c + 1, a, σ, ha => by
    rw [q_M_begins_3, jif_f (show ¬ (30 : Int32) ≤ nI a from nI_ge (b := 30) (by omega) (by omega)), nI_30]
    obtain ⟨σ1, w1, w2, w3, w4, w5, w6⟩ := m_newParcel d (i := 30 * h + a) (by omega) σ
    rw [w1, rV_s]
    simp only [Option.bind_some]
    rw [nI_1]
    obtain ⟨σ', g1, g2, g3⟩ := m_begins3 d hh c (a + 1) σ1 (by omega)
    refine ⟨σ', g1, (w2.mono (fun b k q => by omega)).tr (g2.mono (fun b k q => by omega)), fun k h1 h2 => ?_⟩
    by_cases e : k = a
    · subst e
      rw [(g2 110 _ (by omega)).1, (g2 111 _ (by omega)).1, (g2 112 _ (by omega)).1, (g2 113 _ (by omega)).1]
      exact ⟨w3, w4, w5, w6⟩
    · exact g3 k (by omega) h2
theorem m_begins (d : Nat) {h A : Nat} (hh : h < 3) (hA : A ≤ 10) (σ : jS) (h88 : σ.1 88 0 = nI A) : ∃ σ', g_M_begins (d + 2) (nI h) σ = some (none, σ') ∧ jep (mc_S h) σ σ' ∧ σ'.1 107 h = 0 ∧ (∀ p, p < A → σ'.1 108 (10 * h + p) = σ.1 91 p ∧ σ'.1 109 (10 * h + p) = 0) ∧ ∀ k, k < 30 → σ'.1 110 (30 * h + k) = 0 ∧ σ'.1 111 (30 * h + k) = 0 ∧ σ'.1 112 (30 * h + k) = 0 ∧ σ'.1 113 (30 * h + k) = -1 := by
  rw [e_M_begins, q_M_begins_0, wrI_ok (a := 107) (n := 3) rfl rfl (by omega) (by omega)]
  simp only [Option.bind_some]
  obtain ⟨σ1, g1, g2, g3⟩ := m_begins1 (d + 1) hh hA A 0 (j_setI σ 107 h 0) (by omega) (by rw [setI_ne (by omega)]; exact h88)
  obtain ⟨σ2, p1, p2, p3⟩ := m_begins3 d hh 30 0 σ1 (by omega)
  have g1' : b_M_begins_1 (d + 1) (nI h) 0 (j_setI σ 107 h 0) = b_M_begins_2 (d + 1) (nI h) σ1 := g1
  have p1' : b_M_begins_3 (d + 1) (nI h) 0 σ1 = some (none, σ2) := p1
  rw [g1', q_M_begins_2, p1']
  refine ⟨σ2, rfl, ?_, ?_, fun p hp => ?_, fun k hk => p3 k (by omega) hk⟩
  · refine ((jep.rf.sI (Or.inl ⟨rfl, rfl⟩)).tr (g2.mono (fun b k q => ?_))).tr (p2.mono (fun b k q => ?_))
    · exact Or.inr (Or.inl (by omega))
    · exact Or.inr (Or.inr (by omega))
  · rw [(p2 107 h (by omega)).1, (g2 107 h (by omega)).1, setI_same]
  · obtain ⟨z1, z2⟩ := g3 p (by omega) hp
    rw [(p2 108 _ (by omega)).1, (p2 109 _ (by omega)).1, z1, z2, setI_ne (by omega)]
    exact ⟨rfl, rfl⟩
/-- a journey at its beginning -/
def jJ0 (pu : Nat → Int32) : jJ := jmk 0 pu (fun _ => 0) (fun _ => 0) (fun _ => 0) (fun _ => 0) (fun _ => -1)
theorem jJ0_wf {P : jQ} {pu : Nat → Int32} : wfJ P (jJ0 pu) 0 := ⟨fun _ _ => Or.inr rfl, fun _ _ => Or.inl ⟨rfl, rfl⟩, fun _ _ => ⟨by show 0 ≤ 100; omega, fun _ => by show 0 < 100; omega⟩⟩
def trC (w i : Int32) (A N : Nat) : Prop := ((w = 0 ∨ w = 3) ∧ 0 ≤ i ∧ i < nI A) ∨ ((w = 1 ∨ w = 2 ∨ w = 4) ∧ i = 0) ∨ (w = 5 ∧ 0 ≤ i ∧ i < nI N)
theorem c_isTrial (d : Nat) {t A N : Nat} (ht : jTe t) (w i : Int32) (σ : jS) (r2 : σ.2.2 0 2 = t) (hA0 : σ.1 t 0 = nI A) (hA : A ≤ 10) (h3 : σ.1 39 3 = nI N) (hN : N ≤ 30) : g_HH_isTrial (d + 3) w i σ = some (some (.int (b2i (trC w i A N))), σ) := by
  have t1 : (w = 0 ∨ w = 3) → b_HH_isTrial_1 (d + 2) i σ = some (some (.int (b2i (trC w i A N))), σ) := fun hw => by
    rw [q_HH_isTrial_1, r2, (te_is ht).1, jc_t, c_isPersonT d ht i σ hA0 hA, rI_s]
    simp only [Option.bind_some]
    rw [if_pos (b2i_01 _)]
    by_cases q : 0 ≤ i ∧ i < nI A
    · rw [b2i_t q, b2i_t (show trC w i A N from Or.inl ⟨hw, q⟩)]
    · rw [b2i_f q, b2i_f]
      intro z
      rcases z with z | z | z
      · exact q z.2
      · rcases hw with rfl | rfl <;> exact absurd z.1 (by decide)
      · rcases hw with rfl | rfl <;> exact absurd z.1 (by decide)
  have t2 : (w = 1 ∨ w = 2 ∨ w = 4) → b_HH_isTrial_2 (d + 2) i σ = some (some (.int (b2i (trC w i A N))), σ) := fun hw => by
    rw [q_HH_isTrial_2, q_HH_isTrial_3, q_HH_isTrial_4, q_HH_isTrial_4]
    by_cases q : i = 0
    · rw [jif_t q, b2i_t (show trC w i A N from Or.inr (Or.inl ⟨hw, q⟩))]; rfl
    · rw [jif_f q, b2i_f]
      · rfl
      · intro z
        rcases z with z | z | z
        · rcases hw with rfl | rfl | rfl <;> exact absurd z.1 (by decide)
        · exact q z.2
        · rcases hw with rfl | rfl | rfl <;> exact absurd z.1 (by decide)
  rw [e_HH_isTrial, q_HH_isTrial_0]
  by_cases w0 : w = 0
  · rw [jif_t w0]; exact t1 (Or.inl w0)
  rw [jif_f w0]
  by_cases w1 : w = 1
  · rw [jif_t w1]; exact t2 (Or.inl w1)
  rw [jif_f w1]
  by_cases w2 : w = 2
  · rw [jif_t w2]; exact t2 (Or.inr (Or.inl w2))
  rw [jif_f w2]
  by_cases w3 : w = 3
  · rw [jif_t w3]; exact t1 (Or.inr w3)
  rw [jif_f w3]
  by_cases w4 : w = 4
  · rw [jif_t w4]; exact t2 (Or.inr (Or.inr w4))
  rw [jif_f w4]
  by_cases w5 : w = 5
  · rw [jif_t w5, q_HH_isTrial_5, c_isParcel d (Or.inl rfl) i σ h3 hN, rI_s]
    simp only [Option.bind_some]
    rw [if_pos (b2i_01 _)]
    by_cases q : 0 ≤ i ∧ i < nI N
    · rw [b2i_t q, b2i_t (show trC w i A N from Or.inr (Or.inr ⟨w5, q⟩))]
    · rw [b2i_f q, b2i_f]
      intro z
      rcases z with z | z | z
      · exact z.1.elim w0 w3
      · exact z.1.elim w1 (fun y => y.elim w2 w4)
      · exact q z.2
  rw [jif_f w5, q_HH_isTrial_6, b2i_f]
  intro z
  rcases z with z | z | z
  · exact z.1.elim w0 w3
  · exact z.1.elim w1 (fun y => y.elim w2 w4)
  · exact w5 z.1
theorem m_isTrial (d : Nat) {A N : Nat} (w i j : Int32) (σ : jS) (hA0 : σ.1 88 0 = nI A) (h36 : σ.1 86 36 = nI N) : b_M_tried_0 (d + 1) w i j σ = b_M_tried_6 (d + 1) w i j (b2i (trC w i A N)) (j_setI σ 86 0 0) := by
  have a0 : (j_setI σ 86 0 0).1 88 0 = nI A := by rw [setI_ne (by omega)]; exact hA0
  have a36 : (j_setI σ 86 0 0).1 86 36 = nI N := by rw [setI_nk (by omega)]; exact h36
  have t1 : (w = 0 ∨ w = 3) → b_M_tried_1 (d + 1) w i j (j_setI σ 86 0 0) = b_M_tried_6 (d + 1) w i j (b2i (trC w i A N)) (j_setI σ 86 0 0) := fun hw => by
    rw [q_M_tried_1, m_isPerson, rI_s, a0]
    simp only [Option.bind_some]
    by_cases q : 0 ≤ i ∧ i < nI A
    · rw [b2i_t q, b2i_t (show trC w i A N from Or.inl ⟨hw, q⟩)]
    · rw [b2i_f q, b2i_f]
      intro z
      rcases z with z | z | z
      · exact q z.2
      · rcases hw with rfl | rfl <;> exact absurd z.1 (by decide)
      · rcases hw with rfl | rfl <;> exact absurd z.1 (by decide)
  have t2 : (w = 1 ∨ w = 2 ∨ w = 4) → b_M_tried_4 (d + 1) w i j (j_setI σ 86 0 0) = b_M_tried_6 (d + 1) w i j (b2i (trC w i A N)) (j_setI σ 86 0 0) := fun hw => by
    rw [q_M_tried_4, q_M_tried_5]
    by_cases q : i = 0
    · rw [jif_t q, b2i_t (show trC w i A N from Or.inr (Or.inl ⟨hw, q⟩))]
    · rw [jif_f q, b2i_f]
      intro z
      rcases z with z | z | z
      · rcases hw with rfl | rfl | rfl <;> exact absurd z.1 (by decide)
      · exact q z.2
      · rcases hw with rfl | rfl | rfl <;> exact absurd z.1 (by decide)
  rw [q_M_tried_0]
  by_cases w0 : w = 0
  · rw [jif_t w0]; exact t1 (Or.inl w0)
  rw [jif_f w0]
  by_cases w3 : w = 3
  · rw [jif_t w3]; exact t1 (Or.inr w3)
  rw [jif_f w3, q_M_tried_2]
  by_cases w5 : w = 5
  · rw [jif_t w5, m_isParcel d i _ a36, rI_s]
    simp only [Option.bind_some]
    by_cases q : 0 ≤ i ∧ i < nI N
    · rw [b2i_t q, b2i_t (show trC w i A N from Or.inr (Or.inr ⟨w5, q⟩))]
    · rw [b2i_f q, b2i_f]
      intro z
      rcases z with z | z | z
      · exact z.1.elim w0 w3
      · subst w5; exact absurd z.1 (by decide)
      · exact q z.2
  rw [jif_f w5, q_M_tried_3]
  by_cases w1 : w = 1
  · rw [jif_t w1]; exact t2 (Or.inl w1)
  rw [jif_f w1]
  by_cases w2 : w = 2
  · rw [jif_t w2]; exact t2 (Or.inr (Or.inl w2))
  rw [jif_f w2]
  by_cases w4 : w = 4
  · rw [jif_t w4]; exact t2 (Or.inr (Or.inr w4))
  rw [jif_f w4, q_M_tried_5, b2i_f]
  intro z
  rcases z with z | z | z
  · exact z.1.elim w0 w3
  · exact z.1.elim w1 (fun y => y.elim w2 w4)
  · exact w5 z.1
theorem m_tried_l (d : Nat) {t H : Nat} {w i : Int32} {P : jQ} {x : Int32} (ht : jTe t) (hP : wfP P) (hH2 : H < 2 ^ 29) : ∀ (c a : Nat) (σ : jS) (J : jJ), a + c = H → J.hr + c < 2 ^ 30 → σ.1 107 0 = nI H → mE σ t w i P → mJ σ 1 P J → wfJ P J 0 →
    ∃ σ', b_M_tried_9 (d + 6) x (nI a) σ = b_M_tried_10 (d + 6) x σ' ∧ jep (mj_S 1) σ σ' ∧ mJ σ' 1 P (jIter P c J)
  | 0, a, σ, J, ha, hH, h7, hE, hJ, hw => by
    rw [q_M_tried_9, rdI_ok (a := 107) (n := 3) (i := 0) (k := 0) rfl rfl (by omega) (by omega)]
    simp only [Option.bind_some]
    rw [h7, jif_t (nI_le (by omega) (by omega))]
    exact ⟨σ, rfl, jep.rf, hJ⟩
  | c + 1, a, σ, J, ha, hH, h7, hE, hJ, hw => by
    rw [q_M_tried_9, rdI_ok (a := 107) (n := 3) (i := 0) (k := 0) rfl rfl (by omega) (by omega)]
    simp only [Option.bind_some]
    rw [h7, jif_f (nI_ge (by omega) (by omega))]
    obtain ⟨σ1, g1, g2, g3⟩ := m_passes d (h := 1) (by omega) ht hP σ J hE hJ hw (by omega)
    have g1' : g_M_passes (d + 6) 1 σ = some (none, σ1) := g1
    rw [g1', rV_s]
    simp only [Option.bind_some]
    rw [nI_1]
    obtain ⟨σ2, p1, p2, p3⟩ := m_tried_l d ht hP hH2 c (a + 1) σ1 (jPass P J) (by omega) (by rw [jPass_hr]; omega) (by rw [(g2 107 0 (fun q => by unfold mj_S at q; omega)).1]; exact h7) (hE.fr ht g2) g3 (wfJ.pass hP hw)
    exact ⟨σ2, p1, g2.tr p2, p3⟩
theorem op_tried (d : Nat) (w i x : Int32) (σ : jS) (t : Nat) (g : jInv σ t) : opI (g_HH_tried (d + 8) w i x) (g_M_tried (d + 8) w i x) σ := by
  obtain ⟨ht, r2, r3, hT, hF, A, Pt, M, N, hte, hla, h36, hjo, hno, him⟩ := id g
  obtain ⟨H, hH, hH0⟩ := hjo.2.2.2.1
  have h107 : σ.1 107 0 = nI H := hjo.2.2.1.symm.trans hH0
  have hA := hte.1
  have hN := hjo.1
  have cT := c_isTrial (d + 4) ht w i σ r2 hte.2.2.2.1 hA hjo.2.1 hN
  have cP := c_isPersonT (d + 5) ht x σ hte.2.2.2.1 hA
  by_cases h1 : trC w i A N ∧ (0 ≤ x ∧ x < nI A)
  · obtain ⟨p, hp, rfl⟩ : ∃ p, p < A ∧ x = nI p := by
      obtain ⟨j, hj, rfl⟩ := nI_of (x := x) (Int32.not_lt.mpr h1.2.1)
      exact ⟨j, (nI_ltI hj (by omega)).mp h1.2.2, rfl⟩
    have hPe := jPof_e (j := 39) (N := N) (w := w) (i := i) hte
    have hm := mE0_of (w := w) (i := i) hte hla.1 hjo h36
    have hP := jPof_wf (w := w) (i := i) hte hjo
    have eA : (jPof σ t 39 A N w i).A = A := rfl
    have eN : (jPof σ t 39 A N w i).N = N := rfl
    have efr : ∀ k, k < N → σ.1 42 k = nI ((jPof σ t 39 A N w i).fr k) ∧ σ.1 43 k = nI ((jPof σ t 39 A N w i).wh k) ∧ σ.1 44 k = nI ((jPof σ t 39 A N w i).du k) := fun k hk => by
      obtain ⟨m1, m2, m3, -, -, -, -, ⟨f, f1, f2⟩, ⟨x, x1, x2, x3⟩, ⟨y, y1, y2⟩, -⟩ := hjo.2.2.2.2.2.2.2 k hk
      exact ⟨(cl_e f2 (by omega)).symm, (cl_e x3 (by omega)).symm, (cl_e y2 (by omega)).symm⟩
    generalize jPof σ t 39 A N w i = P at *
    subst eA; subst eN
    obtain ⟨σ1, c1, c2, c3, c4, c5, c6, c7, c8⟩ := c_start (d + 4) (j := 59) (Or.inr (Or.inr rfl)) ht w i σ
    obtain ⟨σ2, b1, b2, b3, b4⟩ := c_beginLike_l (d + 5) hN P.N 0 σ1 (by omega) (by rw [(c2 39 3 (by omega)).1]; exact hjo.2.1) c7
    have cTt : ∀ i, i ≤ 14 → σ2.1 (t + i) = σ.1 (t + i) := fun i hi => funext fun k => by
      rw [(b2 (t + i) k (fun q => by rcases ht with rfl | rfl <;> omega)).1, (c2 (t + i) k (fun q => by rcases ht with rfl | rfl <;> omega)).1]
    have hEt : lawE t σ σ2 := ⟨cTt 10 (by omega), cTt 11 (by omega), cTt 12 (by omega), cTt 13 (by omega), cTt 14 (by omega)⟩
    have t0 : σ2.1 t = σ.1 t := cTt 0 (by omega)
    have E2 : cE σ2 59 t w i P := by
      refine ⟨?_, ?_, ?_, b3, by rw [t0]; exact hte.2.2.2.1, hEt.W hla.1.W, fun k hk => ?_, hPe.of (cTt 2 (by omega)) (cTt 4 (by omega)) (cTt 5 (by omega)) hEt⟩
      · rw [(b2 59 11 (by omega)).2.2]; exact c3
      · rw [(b2 59 12 (by omega)).1]; exact c4
      · rw [(b2 59 13 (by omega)).1]; exact c5
      · obtain ⟨z1, z2, z3, -⟩ := b4 k (by omega) hk
        rw [(c2 42 k (by omega)).1] at z1
        rw [(c2 43 k (by omega)).1] at z2
        rw [(c2 44 k (by omega)).1] at z3
        exact ⟨z1.trans (efr k hk).1, z2.trans (efr k hk).2.1, z3.trans (efr k hk).2.2⟩
    have J2 : cJ σ2 59 P (jJ0 (σ.1 (t + 3))) := by
      refine ⟨?_, fun q hq => ?_, fun q hq => ?_, fun k hk => (b4 k (by omega) hk).2.2.2.1, fun k hk => (b4 k (by omega) hk).2.2.2.2.1, fun k hk => (b4 k (by omega) hk).2.2.2.2.2.1, fun k hk => (b4 k (by omega) hk).2.2.2.2.2.2⟩
      · rw [(b2 59 0 (by omega)).1]; exact c6
      · rw [(b2 (59 + 1) q (by omega)).1]; exact (c8 q (by omega)).1
      · rw [(b2 (59 + 2) q (by omega)).1]; exact (c8 q (by omega)).2
    have o39 : σ2.1 39 0 = nI H := by rw [(b2 39 0 (by omega)).1, (c2 39 0 (by omega)).1]; exact hH0
    obtain ⟨σ3, g1, g2, g3⟩ := c_passTo d (Or.inr (Or.inr rfl)) ht hP H 0 H σ2 (jJ0 (σ.1 (t + 3))) (by omega) (by omega) (by show 0 + H < 2 ^ 30; omega) E2 J2 jJ0_wf
    have s3 : jep (jScr t) σ σ3 := ((c2.mono (fun b k q => tr_scr ht (by omega))).tr (b2.mono (fun b k q => tr_scr ht (by omega)))).tr (g2.mono (fun b k q => cj59_scr ht q))
    have k3 : ∀ b k, (t ≤ b ∧ b ≤ t + 14) ∨ (86 ≤ b) → σ3.1 b k = σ.1 b k ∧ σ3.2.1 b k = σ.2.1 b k ∧ σ3.2.2 b k = σ.2.2 b k := fun b k hb => by
      have z1 := g2 b k (fun q => by unfold cj_S at q; rcases ht with rfl | rfl <;> omega)
      have z2 := b2 b k (fun q => by rcases ht with rfl | rfl <;> omega)
      have z3 := c2 b k (fun q => by rcases ht with rfl | rfl <;> omega)
      exact ⟨(z1.1.trans z2.1).trans z3.1, (z1.2.1.trans z2.2.1).trans z3.2.1, (z1.2.2.trans z2.2.2).trans z3.2.2⟩
    -- the reference
    have hs0 : ∀ b k, ¬ (b = 86 ∧ (k = 0 ∨ k = 30 ∨ k = 31 ∨ k = 32)) → (j_setI (j_setI (j_setI (j_setI (j_setI (j_setI σ3 86 0 0) 86 30 (-1)) 86 31 (-1)) 86 32 0) 86 30 w) 86 31 i).1 b k = σ3.1 b k := fun b k hb => by
      rw [setI_get, if_neg (by omega), setI_get, if_neg (by omega), setI_get, if_neg (by omega), setI_get, if_neg (by omega), setI_get, if_neg (by omega), setI_get, if_neg (by omega)]
    obtain ⟨σ5, w1, w2, w3, w4, w5⟩ := m_begins (d + 5) (h := 1) (by omega) hA (j_setI (j_setI (j_setI (j_setI (j_setI (j_setI σ3 86 0 0) 86 30 (-1)) 86 31 (-1)) 86 32 0) 86 30 w) 86 31 i) (by
      rw [hs0 88 0 (by omega), (k3 88 0 (by omega)).1]; exact hte.2.2.2.2.1)
    have k5 : ∀ b k, (t ≤ b ∧ b ≤ t + 14) ∨ (88 ≤ b ∧ b ≤ 106) ∨ (b = 86 ∧ k = 36) ∨ (b = 107 ∧ k = 0) → σ5.1 b k = σ.1 b k ∧ σ5.2.1 b k = σ.2.1 b k ∧ σ5.2.2 b k = σ.2.2 b k := fun b k hb => by
      have z1 := w2 b k (fun q => by unfold mc_S at q; rcases ht with rfl | rfl <;> omega)
      have z3 := k3 b k (by omega)
      refine ⟨?_, z1.2.1.trans z3.2.1, z1.2.2.trans z3.2.2⟩
      rw [z1.1, hs0 b k (by rcases ht with rfl | rfl <;> omega), z3.1]
    have m5 : mE0 σ5 t w i P := hm.fr (S := fun b k => ¬ ((t ≤ b ∧ b ≤ t + 14) ∨ (88 ≤ b ∧ b ≤ 106) ∨ (b = 86 ∧ k = 36) ∨ (b = 107 ∧ k = 0))) (fun b k hb => k5 b k (Decidable.not_not.mp hb)) (fun b k hb q => q (by omega))
    have E5 : mE σ5 t w i P := by
      refine ⟨?_, ?_, ?_, m5⟩
      · rw [(w2 86 30 (fun q => by unfold mc_S at q; omega)).1, setI_nk (by omega), setI_same]
      · rw [(w2 86 31 (fun q => by unfold mc_S at q; omega)).1, setI_same]
      · rw [(w2 86 32 (fun q => by unfold mc_S at q; omega)).1, setI_nk (by omega), setI_nk (by omega), setI_same]; rfl
    have J5 : mJ σ5 1 P (jJ0 (σ.1 (t + 3))) := by
      refine ⟨w3, fun q hq => ?_, fun q hq => (w4 q hq).2, fun k hk => (w5 k (by omega)).1, fun k hk => (w5 k (by omega)).2.1, fun k hk => (w5 k (by omega)).2.2.1, fun k hk => (w5 k (by omega)).2.2.2⟩
      rw [(w4 q hq).1, hs0 91 q (by omega), (k3 91 q (by omega)).1]
      obtain ⟨-, -, z, -⟩ := hte.2.2.2.2.2.2.2.2.2.2.1 q hq
      exact z.symm
    obtain ⟨σ6, p1, p2, p3⟩ := m_tried_l (d + 1) (H := H) (x := nI p) ht hP (by omega) H 0 σ5 _ (by omega) (by show 0 + H < 2 ^ 30; omega) (by rw [(k5 107 0 (by omega)).1]; exact h107) E5 J5 jJ0_wf
    refine ⟨(jIter P H (jJ0 (σ.1 (t + 3)))).pu p, σ3, σ6, t, ?_, ?_, ?_⟩
    · show g_HH_tried (d + 8) w i (nI p) σ = _
      have b1' : b_Jo_beginLike_1 (d + 6) 59 39 0 σ1 = some (none, σ2) := b1
      have g1' : b_Jo_passTo_1 (d + 6) 59 (nI H) 0 σ2 = some (none, σ3) := g1
      have z59 : σ2.1 59 0 = 0 := J2.1
      rw [e_HH_tried, q_HH_tried_0, cT, rI_s]
      simp only [Option.bind_some]
      rw [b2i_t h1.1, jif_f (by decide), r2, (te_is ht).1, jc_t, cP, rI_s]
      simp only [Option.bind_some]
      rw [b2i_t h1.2, jif_f (by decide), q_HH_tried_2, e_Jo_beginLike, q_Jo_beginLike_0, show j_is 0 39 = true from rfl, show j_is 0 59 = true from rfl, jc_t, jc_t, hjo.2.2.2.2.1, c1, rV_s]
      simp only [Option.bind_some]
      rw [b1', rV_s]
      simp only [Option.bind_some]
      rw [o39, e_Jo_passTo, q_Jo_passTo_0, show j_is 0 59 = true from rfl, jc_t, z59, g1', rV_s]
      simp only [Option.bind_some]
      rw [rdI_ok (a := 60) (n := 10) rfl rfl (by omega) (by omega), g3.2.1 p hp]
      rfl
    · show g_M_tried (d + 8) w i (nI p) σ3 = _
      have p1' : b_M_tried_9 (d + 7) (nI p) 0 σ5 = b_M_tried_10 (d + 7) (nI p) σ6 := p1
      have w1' : g_M_begins (d + 7) 1 (j_setI (j_setI (j_setI (j_setI (j_setI (j_setI σ3 86 0 0) 86 30 (-1)) 86 31 (-1)) 86 32 0) 86 30 w) 86 31 i) = some (none, σ5) := w1
      rw [e_M_tried, m_isTrial (d + 6) (A := P.A) (N := P.N) w i (nI p) σ3 (by rw [(k3 88 0 (by omega)).1]; exact hte.2.2.2.2.1) (by rw [(k3 86 36 (by omega)).1]; exact h36), b2i_t h1.1, q_M_tried_6, jif_f (by decide), m_isPerson, rI_s, setI_ne (by omega), (k3 88 0 (by omega)).1, hte.2.2.2.2.1]
      simp only [Option.bind_some]
      rw [b2i_t h1.2, jif_f (by decide), q_M_tried_8, m_plain, rV_s]
      simp only [Option.bind_some]
      rw [w1', rV_s]
      simp only [Option.bind_some]
      rw [p1', q_M_tried_10, show (10 : Int32) + nI p = nI (10 * 1 + p) from nI_add 10 p, rdI_ok (a := 108) (n := 30) rfl rfl (by omega) (by omega), p3.2.1 p hp]
      rfl
    · refine ((g.scr s3).scr (σ' := j_setI (j_setI (j_setI (j_setI (j_setI (j_setI σ3 86 0 0) 86 30 (-1)) 86 31 (-1)) 86 32 0) 86 30 w) 86 31 i) ?_).scr ((w2.mono (fun b k q => mj1_scr ht (mc1_mj q))).tr (p2.mono (fun b k q => mj1_scr ht q)))
      refine (((((jep.rf.sI ?_).sI ?_).sI ?_).sI ?_).sI ?_).sI ?_ <;> exact mp_scr ht ⟨rfl, by omega⟩
  · refine ⟨-1, σ, j_setI σ 86 0 0, t, ?_, ?_, g.th 0⟩
    · show g_HH_tried (d + 8) w i x σ = _
      rw [e_HH_tried, q_HH_tried_0, cT, rI_s]
      simp only [Option.bind_some]
      by_cases h2 : trC w i A N
      · rw [b2i_t h2, jif_f (by decide), r2, (te_is ht).1, jc_t, cP, rI_s]
        simp only [Option.bind_some]
        rw [b2i_f (fun z => h1 ⟨h2, z⟩), jif_t rfl, q_HH_tried_1]
      · rw [b2i_f h2, jif_t rfl, q_HH_tried_1]
    · show g_M_tried (d + 8) w i x σ = _
      rw [e_M_tried, m_isTrial (d + 6) (A := A) (N := N) w i x σ hte.2.2.2.2.1 h36, q_M_tried_6]
      by_cases h2 : trC w i A N
      · rw [b2i_t h2, jif_f (by decide), m_isPerson, rI_s, setI_ne (by omega), hte.2.2.2.2.1]
        simp only [Option.bind_some]
        rw [b2i_f (fun z => h1 ⟨h2, z⟩), jif_t rfl, q_M_tried_7]
      · rw [b2i_f h2, jif_t rfl, q_M_tried_7]
