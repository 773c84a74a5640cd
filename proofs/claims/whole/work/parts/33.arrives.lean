/-! 10: arrives. -/
theorem jInv.law {σ : jS} {t : Nat} (g : jInv σ t) : lawR σ t 4 0 := by
  obtain ⟨_, _, _, _, _, _, _, M, _, _, hla, _⟩ := g
  exact hla.1
/-- the class's shares depend on the law's cells and the ages alone -/
theorem cSh_same {σ σ' : jS} {t L : Nat} {r : Nat → Nat} (hE : lawE t σ σ') (h2 : σ'.1 (t + 2) = σ.1 (t + 2)) : cSh σ' t L r = cSh σ t L r := by
  funext c j
  unfold cSh
  rw [h2, hE.sh]
/-- the reference begins a call with a row and coins -/
theorem m_begin (d : Nat) {t N A : Nat} (n coins : Int32) (hN : N < 2 ^ 64) (σ : jS) (g : jInv σ t) (hA0 : σ.1 t 0 = nI A) (hA : A ≤ 10) :
    ∃ σ3 σ4, g_M_plain (d + 1) (j_setI σ 86 0 0) = some (none, σ3) ∧ g_M_takesSent (d + 3) n (lN N) coins σ3 = some (some (.int (b2i (rowOK N n A ∧ 0 ≤ coins ∧ coins ≤ 999999))), σ4) ∧ jInv σ4 t ∧ σ4.1 86 30 = -1 ∧ σ4.1 86 32 = nI 0 ∧ lawE t σ σ4 ∧ (σ4.1 (t + 2) = σ.1 (t + 2) ∧ σ4.1 t 0 = nI A) ∧ (rowOK N n A ∧ 0 ≤ coins ∧ coins ≤ 999999 → ∃ k, n = nI k ∧ mRow σ4 k (nib N)) := by
  have ht := g.1
  obtain ⟨σ3, q1, q2, q3, q4⟩ := m_plain0 d σ
  have g3 := g.scr (q2.mono (fun b j h => mp_scr ht h))
  obtain ⟨A2, hA2, b1, b2, b3⟩ := g3.A
  have hAA : A2 = A := by
    have e0 : σ3.1 t 0 = σ.1 t 0 := (q2 t 0 (fun q => by obtain ⟨z, -⟩ := q; rcases ht with rfl | rfl <;> omega)).1
    rw [e0, hA0] at b1
    exact ((nI_eq (by omega) (by omega)).mp b1).symm
  subst hAA
  obtain ⟨σ4, p1, p2, p3⟩ := m_takesSent d n coins hN hA2 σ3 b2
  have g4 := g3.scr (p2.mono (fun b j h => mt_scr ht h))
  refine ⟨σ3, σ4, q1, p1, g4, ?_, ?_, ?_, ?_, p3⟩
  · rw [(p2 86 30 (fun q => by rcases q with q | q <;> omega)).1]; exact q3
  · rw [(p2 86 32 (fun q => by rcases q with q | q <;> omega)).1]; exact q4
  · refine (lawE.of_jep q2 (fun b j h1 h2 q => ?_)).tr (lawE.of_jep p2 (fun b j h1 h2 q => ?_))
    · obtain ⟨z, -⟩ := q; rcases ht with rfl | rfl <;> omega
    · rcases ht with rfl | rfl <;> rcases q with q | q <;> omega
  · rw [p2.cellI (fun j q => by rcases ht with rfl | rfl <;> rcases q with q | q <;> omega), q2.cellI (fun j q => by obtain ⟨z, -⟩ := q; rcases ht with rfl | rfl <;> omega)]
    refine ⟨rfl, ?_⟩
    rw [p2.cellI (b := t) (fun j q => by rcases ht with rfl | rfl <;> rcases q with q | q <;> omega)]
    exact b1
theorem nI_inj {a b : Nat} (ha : a < 2 ^ 31) (hb : b < 2 ^ 31) (h : nI a = nI b) : a = b := (nI_eq ha hb).mp h
theorem op_arrives (d : Nat) (n coins : Int32) (code : Int64) (σ : jS) (t : Nat) (g : jInv σ t) : opI (g_HH_arrives (d + 6) n code coins) (g_M_arrives (d + 6) n code coins) σ := by
  obtain ⟨N, hN, rfl⟩ := wb_of code
  have ht := g.1
  obtain ⟨A, hA, a1, a2, a3⟩ := g.A
  have r2 := g.2.1
  obtain ⟨σ1, c1, c2, c3⟩ := c_isSent (d + 1) ht n coins hN hA σ r2 a1
  have g1 := g.scr (c2.mono (fun b j h => ct_scr ht h))
  have a11 : σ1.1 t 0 = nI A := by
    rw [(c2 t 0 (fun q => by rcases ht with rfl | rfl <;> rcases q with q | q <;> omega)).1]; exact a1
  by_cases h : rowOK N n A ∧ 0 ≤ coins ∧ coins ≤ 999999
  · obtain ⟨k, k1, hR⟩ := c3 h.1
    obtain ⟨σ2, p1, p2⟩ := c_arriving d ht 4 (by omega) k (nib N) coins σ1 hR g1.law.W
    have g2 := g1.scr (jep.of p2 (fun b j h => la_scr h))
    have a12 : σ2.1 t 0 = nI A := by
      rw [(p2 t (fun q => by rcases q with q | q <;> omega)).1]; exact a11
    obtain ⟨σ3, σ4, m1, m2, m3, m4, m5, m6, m7, m8⟩ := m_begin (d + 2) n coins hN σ2 g2 a12 hA
    obtain ⟨k', e1, hRm⟩ := m8 h
    have ek : k = k' := nI_inj (by have := hR.2.1; omega) (by have := hRm.2.1; omega) (k1.symm.trans e1)
    subst ek
    obtain ⟨σ5, s1, s2, -⟩ := m_sends d ht k (nib N) coins σ4 hRm m3.law m5
    have g5 := m3.scr (s2.mono (fun b j h => ms_scr ht h))
    refine ⟨arr (cSh σ1 t 4 (nib N)) (k - 2) 1 coins, σ2, σ5, t, ?_, ?_, g5⟩
    · show g_HH_arrives (d + 6) n (lN N) coins σ = _
      rw [e_HH_arrives, q_HH_arrives_0, c1, rI_s]
      simp only [Option.bind_some]
      rw [b2i_t h, jif_f (by decide), q_HH_arrives_1, g1.2.1]
      have p1' : g_Rw_arriving (d + 5) t 4 coins σ1 = some (some (.int (arr (cSh σ1 t 4 (nib N)) (k - 2) 1 coins)), σ2) := p1
      rw [p1', rI_s]
      rfl
    · show g_M_arrives (d + 6) n (lN N) coins σ2 = _
      have m1' : g_M_plain (d + 5) (j_setI σ2 86 0 0) = some (none, σ3) := by
        rw [m_plain] at m1 ⊢
        exact m1
      rw [e_M_arrives, q_M_arrives_0, m1', rV_s]
      simp only [Option.bind_some]
      rw [m2, rI_s]
      simp only [Option.bind_some]
      rw [b2i_t h, jif_f (by decide), s1, rI_s]
      simp only [Option.bind_some]
      rw [q_M_arrives_2]
      have hE : lawE t σ1 σ4 := (lawE.of_jeq p2 (fun b h1 h2 q => by rcases q with q | q <;> omega)).tr m6
      have h2 : σ4.1 (t + 2) = σ1.1 (t + 2) := by rw [m7.1, (p2 (t + 2) (fun q => by rcases q with q | q <;> omega)).1]
      obtain ⟨A4, hA4, f1, f2, f3⟩ := m3.A
      obtain ⟨kk, kk1, kk2, kk3, kk4⟩ := h.1.r
      have ekk : kk = k := nI_inj (by omega) (by have := hR.2.1; omega) (kk3.symm.trans k1)
      subst ekk
      have a14 : A4 = A := by
        have this : σ4.1 t 0 = nI A := m7.2
        rw [f1] at this
        exact nI_inj (by omega) (by omega) this
      subst a14
      rw [arr_congr (f := mSh σ4 t 4 (nib N)) (g := cSh σ1 t 4 (nib N)) (kk - 2) 1 coins (fun c j j1 j2 => by
        rw [mSh_cSh m4 f3 (kk4 j (by omega)) (kk4 (j + 1) (by omega)), cSh_same hE h2])]
  · obtain ⟨σ3, σ4, m1, m2, m3, m4, m5, m6, m7, m8⟩ := m_begin (d + 2) n coins hN σ1 g1 a11 hA
    refine ⟨-1, σ1, σ4, t, ?_, ?_, m3⟩
    · show g_HH_arrives (d + 6) n (lN N) coins σ = _
      rw [e_HH_arrives, q_HH_arrives_0, c1, rI_s]
      simp only [Option.bind_some]
      rw [b2i_f h, jif_t rfl]
    · show g_M_arrives (d + 6) n (lN N) coins σ1 = _
      have m1' : g_M_plain (d + 5) (j_setI σ1 86 0 0) = some (none, σ3) := by
        rw [m_plain] at m1 ⊢
        exact m1
      rw [e_M_arrives, q_M_arrives_0, m1', rV_s]
      simp only [Option.bind_some]
      rw [m2, rI_s]
      simp only [Option.bind_some]
      rw [b2i_f h, jif_t rfl, q_M_arrives_1, q_M_arrives_2]
