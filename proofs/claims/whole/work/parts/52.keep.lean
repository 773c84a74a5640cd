/-! 31: keep; 32: again. -/
theorem m_keep_l (d : Nat) {N : Nat} (hN : N ≤ 30) : ∀ (c a : Nat) (σ : jS), a + c = N → σ.1 86 36 = nI N → ∃ σ', b_M_keep_1 d (nI a) σ = b_M_keep_2 d σ' ∧ jep (fun b k => 123 ≤ b ∧ b ≤ 125 ∧ a ≤ k) σ σ' ∧ ∀ k, a ≤ k → k < N → σ'.1 123 k = σ.1 104 k ∧ σ'.1 124 k = σ.1 105 k ∧ σ'.1 125 k = σ.1 106 k
  | 0, a, σ, ha, h36 => by
    rw [q_M_keep_1, h36, jif_t (nI_le (by omega) (by omega))]
    exact ⟨σ, rfl, jep.rf, fun k h1 h2 => absurd h2 (by omega)⟩
  | c + 1, a, σ, ha, h36 => by
    rw [q_M_keep_1, h36, jif_f (nI_ge (by omega) (by omega)), rdI_ok (a := 104) (n := 30) rfl rfl (by omega) (by omega)]
    simp only [Option.bind_some]
    rw [wrI_ok (a := 123) (n := 30) rfl rfl (by omega) (by omega)]
    simp only [Option.bind_some]
    rw [rdI_ok (a := 105) (n := 30) rfl rfl (by omega) (by omega), setI_ne (by omega)]
    simp only [Option.bind_some]
    rw [wrI_ok (a := 124) (n := 30) rfl rfl (by omega) (by omega)]
    simp only [Option.bind_some]
    rw [rdI_ok (a := 106) (n := 30) rfl rfl (by omega) (by omega), setI_ne (by omega), setI_ne (by omega)]
    simp only [Option.bind_some]
    rw [wrI_ok (a := 125) (n := 30) rfl rfl (by omega) (by omega)]
    simp only [Option.bind_some]
    rw [nI_1]
    obtain ⟨σ', g1, g2, g3⟩ := m_keep_l d hN c (a + 1) (j_setI (j_setI (j_setI σ 123 a (σ.1 104 a)) 124 a (σ.1 105 a)) 125 a (σ.1 106 a)) (by omega) (by rw [setI_ne (by omega), setI_ne (by omega), setI_ne (by omega)]; exact h36)
    refine ⟨σ', g1, ?_, fun k h1 h2 => ?_⟩
    · refine (((jep.rf.sI ?_).sI ?_).sI ?_).tr (g2.mono (fun b k q => by omega)) <;> omega
    · by_cases e : k = a
      · subst e
        rw [(g2 123 k (by omega)).1, (g2 124 k (by omega)).1, (g2 125 k (by omega)).1, setI_ne (by omega), setI_ne (by omega), setI_same, setI_ne (by omega), setI_same, setI_same]
        exact ⟨rfl, rfl, rfl⟩
      · obtain ⟨z1, z2, z3⟩ := g3 k (by omega) h2
        rw [z1, z2, z3, setI_ne (by omega), setI_ne (by omega), setI_ne (by omega), setI_ne (by omega), setI_ne (by omega), setI_ne (by omega), setI_ne (by omega), setI_ne (by omega), setI_ne (by omega)]
        exact ⟨rfl, rfl, rfl⟩
theorem m_again_l (d : Nat) {N : Nat} (hN : N ≤ 30) : ∀ (c a : Nat) (σ : jS), a + c = N → σ.1 86 36 = nI N → ∃ σ', b_M_again_2 d (nI a) σ = b_M_again_3 d σ' ∧ jep (fun b k => 104 ≤ b ∧ b ≤ 106 ∧ a ≤ k) σ σ' ∧ ∀ k, a ≤ k → k < N → σ'.1 104 k = σ.1 123 k ∧ σ'.1 105 k = σ.1 124 k ∧ σ'.1 106 k = σ.1 125 k
  | 0, a, σ, ha, h36 => by
    rw [q_M_again_2, h36, jif_t (nI_le (by omega) (by omega))]
    exact ⟨σ, rfl, jep.rf, fun k h1 h2 => absurd h2 (by omega)⟩
  | c + 1, a, σ, ha, h36 => by
    rw [q_M_again_2, h36, jif_f (nI_ge (by omega) (by omega)), rdI_ok (a := 123) (n := 30) rfl rfl (by omega) (by omega)]
    simp only [Option.bind_some]
    rw [wrI_ok (a := 104) (n := 30) rfl rfl (by omega) (by omega)]
    simp only [Option.bind_some]
    rw [rdI_ok (a := 124) (n := 30) rfl rfl (by omega) (by omega), setI_ne (by omega)]
    simp only [Option.bind_some]
    rw [wrI_ok (a := 105) (n := 30) rfl rfl (by omega) (by omega)]
    simp only [Option.bind_some]
    rw [rdI_ok (a := 125) (n := 30) rfl rfl (by omega) (by omega), setI_ne (by omega), setI_ne (by omega)]
    simp only [Option.bind_some]
    rw [wrI_ok (a := 106) (n := 30) rfl rfl (by omega) (by omega)]
    simp only [Option.bind_some]
    rw [nI_1]
    obtain ⟨σ', g1, g2, g3⟩ := m_again_l d hN c (a + 1) (j_setI (j_setI (j_setI σ 104 a (σ.1 123 a)) 105 a (σ.1 124 a)) 106 a (σ.1 125 a)) (by omega) (by rw [setI_ne (by omega), setI_ne (by omega), setI_ne (by omega)]; exact h36)
    refine ⟨σ', g1, ?_, fun k h1 h2 => ?_⟩
    · refine (((jep.rf.sI ?_).sI ?_).sI ?_).tr (g2.mono (fun b k q => by omega)) <;> omega
    · by_cases e : k = a
      · subst e
        rw [(g2 104 k (by omega)).1, (g2 105 k (by omega)).1, (g2 106 k (by omega)).1, setI_ne (by omega), setI_ne (by omega), setI_same, setI_ne (by omega), setI_same, setI_same]
        exact ⟨rfl, rfl, rfl⟩
      · obtain ⟨z1, z2, z3⟩ := g3 k (by omega) h2
        rw [z1, z2, z3, setI_ne (by omega), setI_ne (by omega), setI_ne (by omega), setI_ne (by omega), setI_ne (by omega), setI_ne (by omega), setI_ne (by omega), setI_ne (by omega), setI_ne (by omega)]
        exact ⟨rfl, rfl, rfl⟩
def ig_S : Nat → Nat → Prop := fun b k => (49 ≤ b ∧ b ≤ 58) ∨ (b = 0 ∧ k = 9) ∨ (b = 86 ∧ (k = 47 ∨ k = 48 ∨ k = 0)) ∨ (123 ≤ b ∧ b ≤ 125) ∨ (b = 107 ∧ k = 2) ∨ (108 ≤ b ∧ b ≤ 109 ∧ 20 ≤ k) ∨ (110 ≤ b ∧ b ≤ 113 ∧ 60 ≤ k)
theorem jInv.ig {σ σ' : jS} {t A : Nat} (g : jInv σ t) (hA : σ.1 t 0 = nI A) (hA10 : A ≤ 10) (h : jep ig_S σ σ') (hi : iImg σ' t A) : jInv σ' t := by
  obtain ⟨ht, r2, r3, hT, hF, A', Pt, M, N, hte, hla, h36, hjo, hno, him⟩ := g
  have eA : A' = A := nI_inj (by have := hte.1; omega) (by omega) (hte.2.2.2.1.symm.trans hA)
  subst eA
  refine ⟨ht, ?_, ?_, hT.fr h ?_, hF.fr h ?_, A', Pt, M, N, hte.fr h ?_, hla.fr h ?_, ?_, hjo.fr h ?_ hA10, hno.fr h ?_, hi⟩
  · rw [(h 0 2 (fun q => by unfold ig_S at q; omega)).2.2]; exact r2
  · rw [(h 0 3 (fun q => by unfold ig_S at q; omega)).2.2]; exact r3
  · intro b j p q; unfold tapeP at p; unfold ig_S at q; omega
  · intro b j p q; unfold faultP at p; unfold ig_S at q; omega
  · intro b j p q; unfold tellP at p; unfold ig_S at q; rcases ht with rfl | rfl <;> omega
  · intro b j p q; unfold lawP at p; unfold ig_S at q; rcases ht with rfl | rfl <;> omega
  · rw [(h 86 36 (fun q => by unfold ig_S at q; omega)).1]; exact h36
  · intro b j p q; unfold jourP at p; unfold ig_S at q; rcases ht with rfl | rfl <;> omega
  · intro b j p q; unfold noteP at p; unfold ig_S at q; omega
theorem op_keep (d : Nat) (σ : jS) (t : Nat) (g : jInv σ t) : opI (g_HH_keep (d + 2)) (g_M_keep (d + 2)) σ := by
  obtain ⟨ht, r2, r3, hT, hF, A, Pt, M, N, hte, hla, h36, hjo, hno, him⟩ := id g
  have hN := hjo.1
  obtain ⟨σ1, c1, c2, c3, c4, c5, c6, c7, c8, c9⟩ := c_copyFrom d (j0 := 49) (j1 := 39) (Or.inr (Or.inl ⟨rfl, rfl⟩)) σ
  obtain ⟨σ3, w1, w2, w3, w4, w5⟩ := m_copies d (x := 2) (y := 0) (by omega) (by omega) (by omega) (j_setI (j_setI σ1 0 9 1) 86 0 0)
  have k3 : ∀ b k, ¬ (49 ≤ b ∧ b ≤ 58) → ¬ (b = 0 ∧ k = 9) → ¬ (b = 86 ∧ k = 0) → ¬ mc_S 2 b k → σ3.1 b k = σ.1 b k ∧ σ3.2.1 b k = σ.2.1 b k ∧ σ3.2.2 b k = σ.2.2 b k := fun b k h1 h2 h3 h4 => by
    have z1 := w2 b k h4
    have z2 := c2 b k h1
    refine ⟨?_, z1.2.1.trans z2.2.1, z1.2.2.trans z2.2.2⟩
    rw [z1.1, setI_get, if_neg h3, setI_get, if_neg h2, z2.1]
  have n36 : σ3.1 86 36 = nI N := by
    rw [(k3 86 36 (by omega) (by omega) (by omega) (fun q => by unfold mc_S at q; omega)).1]; exact h36
  obtain ⟨σ4, p1, p2, p3⟩ := m_keep_l (d + 1) hN N 0 (j_setI σ3 86 47 (nI N)) (by omega) (by rw [setI_nk (by omega)]; exact n36)
  have k4 : ∀ b k, ¬ (49 ≤ b ∧ b ≤ 58) → ¬ (b = 0 ∧ k = 9) → ¬ (b = 86 ∧ k = 0) → ¬ mc_S 2 b k → ¬ (b = 86 ∧ k = 47) → ¬ (123 ≤ b ∧ b ≤ 125) → σ4.1 b k = σ.1 b k ∧ σ4.2.1 b k = σ.2.1 b k ∧ σ4.2.2 b k = σ.2.2 b k := fun b k h1 h2 h3 h4 h5 h6 => by
    have z1 := p2 b k (fun q => h6 ⟨q.1, q.2.1⟩)
    have z2 := k3 b k h1 h2 h3 h4
    refine ⟨?_, z1.2.1.trans z2.2.1, z1.2.2.trans z2.2.2⟩
    rw [z1.1, setI_get, if_neg h5, z2.1]
  have e47 : σ4.1 86 47 = nI N := by rw [(p2 86 47 (by omega)).1, setI_same]
  refine ⟨σ.1 39 0, j_setI σ1 0 9 1, j_setI σ4 86 48 1, t, ?_, ?_, ?_⟩
  · show g_HH_keep (d + 2) σ = _
    rw [e_HH_keep, q_HH_keep_0, c1, rV_s]
    simp only [Option.bind_some]
    rw [setI_ne (by omega), (c2 39 0 (by omega)).1]
  · show g_M_keep (d + 2) (j_setI σ1 0 9 1) = _
    have w1' : g_M_copies (d + 1) 2 0 (j_setI (j_setI σ1 0 9 1) 86 0 0) = some (none, σ3) := w1
    have p1' : b_M_keep_1 (d + 1) 0 (j_setI σ3 86 47 (nI N)) = b_M_keep_2 (d + 1) σ4 := p1
    rw [e_M_keep, q_M_keep_0, w1', rV_s]
    simp only [Option.bind_some]
    rw [n36, p1', q_M_keep_2, rdI_ok (a := 107) (n := 3) (i := 0) (k := 0) rfl rfl (by omega) (by omega)]
    simp only [Option.bind_some]
    rw [setI_ne (by omega), (k4 107 0 (by omega) (by omega) (by omega) (fun q => by unfold mc_S at q; omega) (by omega) (by omega)).1, ← hjo.2.2.1]
  · have s4 : jep ig_S σ (j_setI σ4 86 48 1) := fun b k hb => by
      have z := k4 b k (fun q => hb (Or.inl q)) (fun q => hb (by unfold ig_S; omega)) (fun q => hb (by unfold ig_S; omega)) (fun q => hb (by unfold mc_S at q; unfold ig_S; omega)) (fun q => hb (by unfold ig_S; omega)) (fun q => hb (by unfold ig_S; omega))
      refine ⟨?_, z.2.1, z.2.2⟩
      rw [setI_get, if_neg (fun q => hb (by unfold ig_S; omega)), z.1]
    refine g.ig hte.2.2.2.1 hte.1 s4 ⟨?_, Or.inr ⟨?_, N, ?_, ?_⟩⟩
    · rw [setI_same, setI_ne (by omega), (p2 0 9 (by omega)).1, setI_ne (by omega), (w2 0 9 (fun q => by unfold mc_S at q; omega)).1, setI_ne (by omega), setI_same]
    · rw [setI_ne (by omega), (p2 0 9 (by omega)).1, setI_ne (by omega), (w2 0 9 (fun q => by unfold mc_S at q; omega)).1, setI_ne (by omega), setI_same]
    · rw [setI_nk (by omega)]; exact e47
    · have n49 : ∀ b k, 49 ≤ b → b ≤ 58 → (j_setI σ4 86 48 1).1 b k = σ1.1 b k := fun b k h1 h2 => by
        rw [setI_ne (by omega), (p2 b k (by omega)).1, setI_ne (by omega), (w2 b k (fun q => by unfold mc_S at q; omega)).1, setI_ne (by omega), setI_ne (by omega)]
      have hm : ∀ b k x, 107 ≤ b → b ≤ 113 → σ3.1 b k = (j_setI (j_setI σ1 0 9 1) 86 0 0).1 b x → (j_setI σ4 86 48 1).1 b k = σ.1 b x := fun b k x h1 h2 e => by
        rw [setI_ne (by omega), (p2 b k (by omega)).1, setI_ne (by omega), e, setI_ne (by omega), setI_ne (by omega), (c2 b x (by omega)).1]
      refine hjo.copy hte.1 ?_ ?_ ?_ ?_ ?_ ?_ (fun p hp => ⟨?_, ?_, ?_, ?_⟩) (fun k hk => ⟨?_, ?_, fun b b1 b2 => ?_⟩)
      · rw [n49 49 3 (by omega) (by omega)]; exact c5
      · rw [n49 49 0 (by omega) (by omega)]; exact c4
      · exact hm 107 2 0 (by omega) (by omega) w3
      · show σ4.2.2 49 11 = _
        rw [(p2 49 11 (by omega)).2.2]
        show σ3.2.2 49 11 = _
        rw [(w2 49 11 (fun q => by unfold mc_S at q; omega)).2.2]
        exact c3
      · rw [n49 49 12 (by omega) (by omega)]; exact c6
      · funext k
        rw [setI_ne (by rcases ht with rfl | rfl <;> omega)]
        exact (k4 (t + 4) k (by rcases ht with rfl | rfl <;> omega) (by omega) (by rcases ht with rfl | rfl <;> omega) (fun q => by unfold mc_S at q; rcases ht with rfl | rfl <;> omega) (by rcases ht with rfl | rfl <;> omega) (by rcases ht with rfl | rfl <;> omega)).1
      · rw [n49 (49 + 1) p (by omega) (by omega)]; exact (c8 p hp).1
      · rw [n49 (49 + 2) p (by omega) (by omega)]; exact (c8 p hp).2
      · exact hm 108 (10 * 2 + p) (10 * 0 + p) (by omega) (by omega) (w4 p hp).1
      · exact hm 109 (10 * 2 + p) (10 * 0 + p) (by omega) (by omega) (w4 p hp).2
      · rw [n49 (49 + 3) k (by omega) (by omega), n49 (49 + 4) k (by omega) (by omega), n49 (49 + 5) k (by omega) (by omega), n49 (49 + 6) k (by omega) (by omega), n49 (49 + 7) k (by omega) (by omega), n49 (49 + 8) k (by omega) (by omega), n49 (49 + 9) k (by omega) (by omega)]
        exact c9 k (by omega)
      · obtain ⟨y1, y2, y3⟩ := p3 k (by omega) hk
        have n104 : ∀ b, 104 ≤ b → b ≤ 106 → (j_setI σ3 86 47 (nI N)).1 b k = σ.1 b k := fun b h1 h2 => by
          rw [setI_ne (by omega), (k3 b k (by omega) (by omega) (by omega) (fun q => by unfold mc_S at q; omega)).1]
        rw [setI_ne (by omega), setI_ne (by omega), setI_ne (by omega), y1, n104 104 (by omega) (by omega)]
        refine ⟨rfl, ?_, ?_⟩
        · show σ4.1 124 k = _
          rw [y2]; exact n104 105 (by omega) (by omega)
        · show σ4.1 125 k = _
          rw [y3]; exact n104 106 (by omega) (by omega)
      · exact hm b (30 * 2 + k) (30 * 0 + k) (by omega) (by omega) (w5 k (by omega) b b1 b2)
theorem op_again (d : Nat) (σ : jS) (t : Nat) (g : jInv σ t) : opI (g_HH_again (d + 2)) (g_M_again (d + 2)) σ := by
  obtain ⟨ht, r2, r3, hT, hF, A, Pt, M, N0, hte, hla, h36, hjo0, hno, i1, i2⟩ := id g
  rcases i2 with i2 | ⟨i2, N, i3, hjo⟩
  · refine ⟨-1, σ, j_setI σ 86 0 0, t, ?_, ?_, g.th 0⟩
    · show g_HH_again (d + 2) σ = _
      rw [e_HH_again, q_HH_again_0, jif_t i2]
    · show g_M_again (d + 2) σ = _
      rw [e_M_again, q_M_again_0, setI_nk (by omega), ← i1, jif_t i2]
  have hN := hjo.1
  obtain ⟨σ1, c1, c2, c3, c4, c5, c6, c7, c8, c9⟩ := c_copyFrom d (j0 := 39) (j1 := 49) (Or.inr (Or.inr ⟨rfl, rfl⟩)) σ
  obtain ⟨σ3, w1, w2, w3, w4, w5⟩ := m_copies d (x := 0) (y := 2) (by omega) (by omega) (by omega) (j_setI σ1 86 0 0)
  have k3 : ∀ b k, ¬ (39 ≤ b ∧ b ≤ 48) → ¬ (b = 86 ∧ k = 0) → ¬ mc_S 0 b k → σ3.1 b k = σ.1 b k ∧ σ3.2.1 b k = σ.2.1 b k ∧ σ3.2.2 b k = σ.2.2 b k := fun b k h1 h3 h4 => by
    have z1 := w2 b k h4
    have z2 := c2 b k h1
    refine ⟨?_, z1.2.1.trans z2.2.1, z1.2.2.trans z2.2.2⟩
    rw [z1.1, setI_get, if_neg h3, z2.1]
  have n47 : σ3.1 86 47 = nI N := by
    rw [(k3 86 47 (by omega) (by omega) (fun q => by unfold mc_S at q; omega)).1]; exact i3
  obtain ⟨σ4, p1, p2, p3⟩ := m_again_l (d + 1) hN N 0 (j_setI σ3 86 36 (nI N)) (by omega) (by rw [setI_same])
  have k4 : ∀ b k, ¬ (39 ≤ b ∧ b ≤ 48) → ¬ (b = 86 ∧ k = 0) → ¬ mc_S 0 b k → ¬ (b = 86 ∧ k = 36) → ¬ (104 ≤ b ∧ b ≤ 106) → σ4.1 b k = σ.1 b k ∧ σ4.2.1 b k = σ.2.1 b k ∧ σ4.2.2 b k = σ.2.2 b k := fun b k h1 h3 h4 h5 h6 => by
    have z1 := p2 b k (fun q => h6 ⟨q.1, q.2.1⟩)
    have z2 := k3 b k h1 h3 h4
    refine ⟨?_, z1.2.1.trans z2.2.1, z1.2.2.trans z2.2.2⟩
    rw [z1.1, setI_get, if_neg h5, z2.1]
  refine ⟨σ.1 49 0, σ1, σ4, t, ?_, ?_, ?_⟩
  · show g_HH_again (d + 2) σ = _
    rw [e_HH_again, q_HH_again_0, jif_f (by rw [i2]; decide), q_HH_again_1, c1, rV_s]
    simp only [Option.bind_some]
    rw [c4]
  · show g_M_again (d + 2) σ1 = _
    have w1' : g_M_copies (d + 1) 0 2 (j_setI σ1 86 0 0) = some (none, σ3) := w1
    have p1' : b_M_again_2 (d + 1) 0 (j_setI σ3 86 36 (nI N)) = b_M_again_3 (d + 1) σ4 := p1
    rw [e_M_again, q_M_again_0, setI_nk (by omega), (c2 86 48 (by omega)).1, ← i1, jif_f (by rw [i2]; decide), q_M_again_1, w1', rV_s]
    simp only [Option.bind_some]
    rw [n47, p1', q_M_again_3, rdI_ok (a := 107) (n := 3) (i := 0) (k := 0) rfl rfl (by omega) (by omega)]
    simp only [Option.bind_some]
    rw [(p2 107 0 (by omega)).1, setI_ne (by omega), w3, setI_ne (by omega), (c2 107 2 (by omega)).1, ← hjo.2.2.1]
  · have s4 : jep (jr_S t) σ σ4 := fun b k hb => k4 b k (fun q => hb (Or.inr (Or.inl q))) (fun q => hb (Or.inl (by obtain ⟨rfl, rfl⟩ := q; rcases ht with rfl | rfl <;> simp [jScr]))) (fun q => hb (by unfold mc_S at q; unfold jr_S; right; omega)) (fun q => hb (by unfold jr_S; right; omega)) (fun q => hb (by unfold jr_S; right; omega))
    refine g.jr hte.2.2.2.1 hte.1 s4 (N' := N) ?_ ?_
    · rw [(p2 86 36 (by omega)).1, setI_same]
    · have n39 : ∀ b k, 39 ≤ b → b ≤ 48 → σ4.1 b k = σ1.1 b k := fun b k h1 h2 => by
        rw [(p2 b k (by omega)).1, setI_ne (by omega), (w2 b k (fun q => by unfold mc_S at q; omega)).1, setI_ne (by omega)]
      have hm : ∀ b k x, 107 ≤ b → b ≤ 113 → σ3.1 b k = (j_setI σ1 86 0 0).1 b x → σ4.1 b k = σ.1 b x := fun b k x h1 h2 e => by
        rw [(p2 b k (by omega)).1, setI_ne (by omega), e, setI_ne (by omega), (c2 b x (by omega)).1]
      refine hjo.copy hte.1 ?_ ?_ ?_ ?_ ?_ ?_ (fun p hp => ⟨?_, ?_, ?_, ?_⟩) (fun k hk => ⟨?_, ?_, fun b b1 b2 => ?_⟩)
      · rw [n39 39 3 (by omega) (by omega)]; exact c5
      · rw [n39 39 0 (by omega) (by omega)]; exact c4
      · exact hm 107 0 2 (by omega) (by omega) w3
      · rw [(p2 39 11 (by omega)).2.2]
        show σ3.2.2 39 11 = _
        rw [(w2 39 11 (fun q => by unfold mc_S at q; omega)).2.2]
        exact c3
      · rw [n39 39 12 (by omega) (by omega)]; exact c6
      · funext k
        exact (k4 (t + 4) k (by rcases ht with rfl | rfl <;> omega) (by rcases ht with rfl | rfl <;> omega) (fun q => by unfold mc_S at q; rcases ht with rfl | rfl <;> omega) (by rcases ht with rfl | rfl <;> omega) (by rcases ht with rfl | rfl <;> omega)).1
      · rw [n39 (39 + 1) p (by omega) (by omega)]; exact (c8 p hp).1
      · rw [n39 (39 + 2) p (by omega) (by omega)]; exact (c8 p hp).2
      · exact hm 108 (10 * 0 + p) (10 * 2 + p) (by omega) (by omega) (w4 p hp).1
      · exact hm 109 (10 * 0 + p) (10 * 2 + p) (by omega) (by omega) (w4 p hp).2
      · rw [n39 (39 + 3) k (by omega) (by omega), n39 (39 + 4) k (by omega) (by omega), n39 (39 + 5) k (by omega) (by omega), n39 (39 + 6) k (by omega) (by omega), n39 (39 + 7) k (by omega) (by omega), n39 (39 + 8) k (by omega) (by omega), n39 (39 + 9) k (by omega) (by omega)]
        exact c9 k (by omega)
      · obtain ⟨y1, y2, y3⟩ := p3 k (by omega) hk
        have n123 : ∀ b, 123 ≤ b → b ≤ 125 → (j_setI σ3 86 36 (nI N)).1 b k = σ.1 b k := fun b h1 h2 => by
          rw [setI_ne (by omega), (k3 b k (by omega) (by omega) (fun q => by unfold mc_S at q; omega)).1]
        exact ⟨y1.trans (n123 123 (by omega) (by omega)), y2.trans (n123 124 (by omega) (by omega)), y3.trans (n123 125 (by omega) (by omega))⟩
      · exact hm b (30 * 0 + k) (30 * 2 + k) (by omega) (by omega) (w5 k (by omega) b b1 b2)
