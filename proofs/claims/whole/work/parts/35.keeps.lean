/-! 11: keeps. -/
theorem c_keptAt_l (d : Nat) {t : Nat} (ht : jTe t) (k : Nat) (r : Nat → Nat) (K : Nat) : ∀ (m p : Nat) (c kept : Int32) (σ : jS), cRow σ k r → laW σ t 4 → p + m = K + 1 → 1 ≤ p → K + 2 ≤ k →
    ∃ σ', b_Rw_keptAt_1 (d + 4) t (nI K) c kept (nI p) σ = some (some (.int (match m with
      | 0 => kept
      | m + 1 => cSh σ t 4 r (arr (cSh σ t 4 r) m p c) K)), σ') ∧ jeq (la_S t) σ σ'
  | 0, p, c, kept, σ, hR, hw, hk, hp, hK => by
    have hk10 := hR.2.1
    rw [q_Rw_keptAt_1, jif_t (nI_lt (by omega) (by omega)), q_Rw_keptAt_2]
    exact ⟨σ, rfl, jeq.rf⟩
  | m + 1, p, c, kept, σ, hR, hw, hk, hp, hK => by
    obtain ⟨hk2, hk10, h69, hrow⟩ := hR
    have e : nI k - 1 = nI (k - 1) := by rw [show k = (k - 1) + 1 by omega]; exact nI_pred _
    rw [q_Rw_keptAt_1, jif_f (nI_nlt (by omega) (by omega)), h69, e, jif_f (nI_ge (by omega) (by omega)), (te_is ht).1, jc_t, c_ageAt (d + 3) ht p (r p) (by omega) σ (hrow p (by omega)).1 (hrow p (by omega)).2, rI_s]
    simp only [Option.bind_some]
    rw [nI_1, c_ageAt (d + 3) ht (p + 1) (r (p + 1)) (by omega) σ (hrow (p + 1) (by omega)).1 (hrow (p + 1) (by omega)).2, rI_s, (te_cr ht).2.2.2.2.2.2.2.2.2]
    simp only [Option.bind_some]
    rw [(te_is ht).2, jc_t]
    obtain ⟨σ1, g1, g2⟩ := c_share d ht 4 (by omega) c (σ.1 (t + 2) (r p)) (σ.1 (t + 2) (r (p + 1))) (nI p) 0 σ hw
    have g1' : g_La_share (d + 4) (t + 10) 4 c (σ.1 (t + 2) (r p)) (σ.1 (t + 2) (r (p + 1))) (nI p) 0 σ = some (some (.int (lw_sh σ t 4 c (σ.1 (t + 2) (r p)) (σ.1 (t + 2) (r (p + 1))) (nI p) 0)), σ1) := g1
    rw [g1', rI_s]
    simp only [Option.bind_some]
    have hE : lawE t σ σ1 := lawE.of_jeq g2 (fun b h1 h2 q => by rcases q with q | q <;> omega)
    have hcell : ∀ b, b ≠ t + 15 → b ≠ t + 16 → σ1.1 b = σ.1 b := fun b h1 h2 => (g2 b (fun q => q.elim h1 h2)).1
    have hR1 : cRow σ1 k r := by
      refine ⟨hk2, hk10, ?_, fun j hj => ?_⟩
      · rw [hcell 69 (by rcases ht with rfl | rfl <;> omega) (by rcases ht with rfl | rfl <;> omega)]; exact h69
      · rw [hcell 70 (by rcases ht with rfl | rfl <;> omega) (by rcases ht with rfl | rfl <;> omega)]; exact hrow j hj
    obtain ⟨σ', g3, g4⟩ := c_keptAt_l d ht k r K m (p + 1) (c - lw_sh σ t 4 c (σ.1 (t + 2) (r p)) (σ.1 (t + 2) (r (p + 1))) (nI p) 0) (lw_sh σ t 4 c (σ.1 (t + 2) (r p)) (σ.1 (t + 2) (r (p + 1))) (nI p) 0) σ1 hR1 (hE.W hw) (by omega) (by omega) hK
    refine ⟨σ', ?_, (g2.mono (fun b h => h)).tr g4⟩
    rw [g3, cSh_same hE (hcell (t + 2) (by omega) (by omega))]
    cases m with
    | zero =>
      have : p = K := by omega
      subst this
      rfl
    | succ m => rfl
theorem c_keptAt (d : Nat) {t : Nat} (ht : jTe t) (k : Nat) (r : Nat → Nat) (K : Nat) (c : Int32) (σ : jS) (hR : cRow σ k r) (hw : laW σ t 4) (hK : K + 3 ≤ k) : ∃ σ', g_Rw_keptAt (d + 5) t c (nI (K + 1)) σ = some (some (.int (cSh σ t 4 r (arr (cSh σ t 4 r) K 1 c) (K + 1))), σ') ∧ jeq (la_S t) σ σ' := by
  rw [e_Rw_keptAt, q_Rw_keptAt_0]
  exact c_keptAt_l d ht k r (K + 1) (K + 1) 1 c 0 σ hR hw (by omega) (Nat.le_refl _) (by omega)
theorem c_carriers (d k : Nat) (r : Nat → Nat) (σ : jS) (hR : cRow σ k r) : g_Rw_carriers (d + 1) σ = some (some (.int (nI (k - 2))), σ) := by
  rw [e_Rw_carriers, q_Rw_carriers_0, hR.2.2.1, show nI k - 2 = nI (k - 2) from pk_sub (b := 2) hR.1]
/-- what both sides have, when a row is sent -/
theorem sh_both {σ1 σ4 : jS} {t A k : Nat} {N : Nat} (hk : ∀ j, j < k → nib N j < A) (m3 : jInv σ4 t) (h30 : σ4.1 86 30 = -1) (hA4 : σ4.1 t 0 = nI A) (hA : A ≤ 10) (hE : lawE t σ1 σ4) (h2 : σ4.1 (t + 2) = σ1.1 (t + 2)) : ∀ c j, j + 1 < k → mSh σ4 t 4 (nib N) c j = cSh σ1 t 4 (nib N) c j := by
  intro c j hj
  obtain ⟨A4, hA4', f1, f2, f3⟩ := m3.A
  have e : A4 = A := nI_inj (by omega) (by omega) (f1.symm.trans hA4)
  subst e
  rw [mSh_cSh h30 f3 (hk j (by omega)) (hk (j + 1) (by omega)), cSh_same hE h2]
theorem op_keeps (d : Nat) (n coins w : Int32) (code : Int64) (σ : jS) (t : Nat) (g : jInv σ t) : opI (g_HH_keeps (d + 6) n code coins w) (g_M_keeps (d + 6) n code coins w) σ := by
  obtain ⟨N, hN, rfl⟩ := wb_of code
  have ht := g.1
  obtain ⟨A, hA, a1, a2, a3⟩ := g.A
  have r2 := g.2.1
  obtain ⟨σ1, c1, c2, c3⟩ := c_isSent (d + 1) ht n coins hN hA σ r2 a1
  have g1 := g.scr (c2.mono (fun b j h => ct_scr ht h))
  have a11 : σ1.1 t 0 = nI A := by
    rw [(c2 t 0 (fun q => by rcases ht with rfl | rfl <;> rcases q with q | q <;> omega)).1]; exact a1
  have begin1 : ∀ σ2, jInv σ2 t → σ2.1 t 0 = nI A → ∃ σ4, jInv σ4 t ∧ σ4.1 86 30 = -1 ∧ σ4.1 86 32 = nI 0 ∧ lawE t σ2 σ4 ∧ (σ4.1 (t + 2) = σ2.1 (t + 2) ∧ σ4.1 t 0 = nI A) ∧ (rowOK N n A ∧ 0 ≤ coins ∧ coins ≤ 999999 → ∃ k, n = nI k ∧ mRow σ4 k (nib N)) ∧ g_M_keeps (d + 6) n (lN N) coins w σ2 = jif (b2i (rowOK N n A ∧ 0 ≤ coins ∧ coins ≤ 999999) = 0) (b_M_keeps_1 (d + 5) σ4) (jif (w < 1) (b_M_keeps_1 (d + 5) σ4) (jif (w ≤ (n - 2)) (b_M_keeps_2 (d + 5) coins w σ4) (b_M_keeps_1 (d + 5) σ4))) := by
    intro σ2 g2 a12
    obtain ⟨σ3, σ4, m1, m2, m3, m4, m5, m6, m7, m8⟩ := m_begin (d + 2) n coins hN σ2 g2 a12 hA
    refine ⟨σ4, m3, m4, m5, m6, m7, m8, ?_⟩
    have m1' : g_M_plain (d + 5) (j_setI σ2 86 0 0) = some (none, σ3) := by
      rw [m_plain] at m1 ⊢
      exact m1
    rw [e_M_keeps, q_M_keeps_0, m1', rV_s]
    simp only [Option.bind_some]
    rw [m2, rI_s]
    rfl
  have hcl : g_HH_keeps (d + 6) n (lN N) coins w σ = jif (b2i (rowOK N n A ∧ 0 ≤ coins ∧ coins ≤ 999999) = 0) (b_HH_keeps_1 (d + 5) σ1) ((r_I (g_Rw_carriers (d + 5) σ1)).bind fun q2 => (r_I (g_HH_within (d + 5) w 1 q2.1 q2.2)).bind fun q3 => jif (q3.1 = 0) (b_HH_keeps_1 (d + 5) q3.2) (b_HH_keeps_2 (d + 5) coins w q3.2)) := by
    rw [e_HH_keeps, q_HH_keeps_0, c1, rI_s]
    rfl
  by_cases h : rowOK N n A ∧ 0 ≤ coins ∧ coins ≤ 999999
  · obtain ⟨k, k1, hR⟩ := c3 h.1
    have hk2 := hR.1
    have hk10 := hR.2.1
    rw [b2i_t h, jif_f (by decide), c_carriers (d + 4) k (nib N) σ1 hR, rI_s] at hcl
    simp only [Option.bind_some] at hcl
    rw [c_within, rI_s] at hcl
    simp only [Option.bind_some] at hcl
    by_cases hw : 1 ≤ w ∧ w ≤ nI (k - 2)
    · obtain ⟨K, hK, rfl⟩ : ∃ K, K + 3 ≤ k ∧ w = nI (K + 1) := by
        obtain ⟨j, hj, rfl⟩ := nI_of2 (M := nI (k - 2)) (n := k - 2) (nI_toInt (by omega)) (fun q => absurd (Int32.lt_of_le_of_lt hw.1 q) (by decide)) hw.2
        have h1 : 1 ≤ j := (nI_leI (a := 1) (by omega) (by omega)).mp hw.1
        exact ⟨j - 1, by omega, by rw [show j - 1 + 1 = j by omega]⟩
      rw [if_pos hw, jif_f (by decide), q_HH_keeps_2, g1.2.1] at hcl
      obtain ⟨σ2, p1, p2⟩ := c_keptAt d ht k (nib N) K coins σ1 hR g1.law.W hK
      have g2 := g1.scr (jep.of p2 (fun b j h => la_scr h))
      have a12 : σ2.1 t 0 = nI A := by
        rw [(p2 t (fun q => by rcases q with q | q <;> omega)).1]; exact a11
      rw [p1, rI_s] at hcl
      obtain ⟨σ4, m3, m4, m5, m6, m7, m8, m9⟩ := begin1 σ2 g2 a12
      obtain ⟨k', e1, hRm⟩ := m8 h
      have ek : k = k' := nI_inj (by omega) (by have := hRm.2.1; omega) (k1.symm.trans e1)
      subst ek
      obtain ⟨σ5, s1, s2, s3⟩ := m_sends d ht k (nib N) coins σ4 hRm m3.law m5
      have g5 := m3.scr (s2.mono (fun b j h => ms_scr ht h))
      refine ⟨_, σ2, σ5, t, hcl, ?_, g5⟩
      show g_M_keeps (d + 6) n (lN N) coins (nI (K + 1)) σ2 = _
      rw [m9, b2i_t h, jif_f (by decide), jif_f (show ¬ nI (K + 1) < (1 : Int32) from nI_nlt (b := 1) (by omega) (by omega)), k1, show nI k - 2 = nI (k - 2) from pk_sub (b := 2) hk2, jif_t (nI_le (by omega) (by omega)), q_M_keeps_2, s1, rI_s]
      simp only [Option.bind_some]
      rw [rdI_ok (a := 115) (n := 10) rfl rfl (by omega) (by omega), show K + 1 = 1 + K by omega, s3 K (by omega)]
      simp only [Option.bind_some]
      have hE : lawE t σ1 σ4 := (lawE.of_jeq p2 (fun b h1 h2 q => by rcases q with q | q <;> omega)).tr m6
      have h2 : σ4.1 (t + 2) = σ1.1 (t + 2) := by rw [m7.1, (p2 (t + 2) (fun q => by rcases q with q | q <;> omega)).1]
      obtain ⟨kk, kk1, kk2, kk3, kk4⟩ := h.1.r
      have ekk : kk = k := nI_inj (by omega) (by omega) (kk3.symm.trans k1)
      subst ekk
      have hb := sh_both (k := kk) kk4 m3 m4 m7.2 hA hE h2
      rw [arr_congr K 1 coins (fun c j j1 j2 => hb c j (by omega)), hb _ _ (by omega)]
    · rw [if_neg hw, jif_t rfl, q_HH_keeps_1] at hcl
      obtain ⟨σ4, m3, m4, m5, m6, m7, m8, m9⟩ := begin1 σ1 g1 a11
      refine ⟨_, σ1, σ4, t, hcl, ?_, m3⟩
      show g_M_keeps (d + 6) n (lN N) coins w σ1 = _
      rw [m9, b2i_t h, jif_f (by decide), k1, show nI k - 2 = nI (k - 2) from pk_sub (b := 2) hk2]
      by_cases h1 : w < 1
      · rw [jif_t h1, q_M_keeps_1]
      · rw [jif_f h1, jif_f (fun q => hw ⟨Int32.not_lt.mp h1, q⟩), q_M_keeps_1]
  · rw [b2i_f h, jif_t rfl, q_HH_keeps_1] at hcl
    obtain ⟨σ4, m3, m4, m5, m6, m7, m8, m9⟩ := begin1 σ1 g1 a11
    refine ⟨_, σ1, σ4, t, hcl, ?_, m3⟩
    show g_M_keeps (d + 6) n (lN N) coins w σ1 = _
    rw [m9, b2i_f h, jif_t rfl, q_M_keeps_1]
