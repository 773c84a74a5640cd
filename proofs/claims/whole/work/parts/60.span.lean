/-! 12: back; 13: span. -/
theorem bk_scr {t b j : Nat} (ht : jTe t) (h : bk_S b j) : jScr t b j := by
  rcases h with h | ⟨rfl, h⟩
  · exact ms_scr ht (by rcases h with h | h | h
                        · exact Or.inl h
                        · exact Or.inr (Or.inl h)
                        · exact Or.inr (Or.inr (Or.inr h)))
  · rcases h with rfl | rfl <;> rcases ht with rfl | rfl <;> simp [jScr]
/-- plain behind thrown, for a call inside the call -/
theorem m_laysBack (d : Nat) {σc : jS} {t N A : Nat} (n T : Int32) (hN : N < 2 ^ 64) (σ : jS) (g : jInv σ t) (hA0 : σ.1 t 0 = nI A) (hA : A ≤ 10) (hE : lawE t σc σ) (h2 : σ.1 (t + 2) = σc.1 (t + 2)) :
    (¬ (rowOK N n A ∧ 0 ≤ T ∧ T ≤ 99999) → ∃ σ', g_M_laysBack (d + 7) n (lN N) T (j_setI σ 86 0 0) = some (some (.int 0), σ') ∧ jInv σ' t) ∧
    (∀ k tt, n = nI k → k ≤ 10 → T = nI tt → tt ≤ 99999 → rowOK N n A → ∃ σ' Z V, g_M_laysBack (d + 7) n (lN N) T (j_setI σ 86 0 0) = some (some (.int 1), σ') ∧ jInv σ' t ∧ σ'.2.1 86 52 = lN Z ∧ σ'.2.1 86 53 = lN V ∧ Z < 2 ^ 40 ∧ V ≤ 999999 ∧ (LON (odP σc t 4 (nib N)) (k - 2) 1 tt ≤ 999999 → Z = LON (odP σc t 4 (nib N)) (k - 2) 1 tt ∧ V = min (UPN (odP σc t 4 (nib N)) (k - 2) 1 tt) 999999) ∧ (999999 < LON (odP σc t 4 (nib N)) (k - 2) 1 tt → 999999 < Z)) := by
  have ht := g.1
  obtain ⟨σ3, q1, q2, q3, q4⟩ := m_plain0 (d + 5) σ
  have g3 := g.scr (q2.mono (fun b j h => mp_scr ht h))
  have n3 : ∀ b j, b ≠ 86 → σ3.1 b j = σ.1 b j := fun b j hb => (q2 b j (fun q => hb q.1)).1
  have cT3 : ∀ i, i ≤ 14 → σ3.1 (t + i) = σ.1 (t + i) := fun i hi => funext fun j => n3 (t + i) j (by rcases ht with rfl | rfl <;> omega)
  have E3 : lawE t σc σ3 := hE.tr ⟨cT3 10 (by omega), cT3 11 (by omega), cT3 12 (by omega), cT3 13 (by omega), cT3 14 (by omega)⟩
  have t3 : σ3.1 t = σ.1 t := cT3 0 (by omega)
  obtain ⟨σ4, m1, m2, m3, m4, m5⟩ := m_takesB (d + 4) (σc := σc) n hN σ3 g3 (by rw [t3]; exact hA0) hA q3 E3 ((cT3 2 (by omega)).trans h2)
  have e32 : σ4.1 86 32 = nI 0 := by rw [(m2 86 32 (fun q => by rcases q with q | q <;> omega)).1]; exact q4
  refine ⟨fun h => ?_, fun k tt e1 hk e2 htt hrow => ?_⟩
  · rw [e_M_laysBack, q_M_laysBack_0, q1, rV_s]
    simp only [Option.bind_some]
    rw [q_M_laysBack_1]
    by_cases b1 : T < 0
    · rw [jif_t b1]; exact ⟨_, rfl, g3⟩
    rw [jif_f b1]
    by_cases b2 : 99999 < T
    · rw [jif_t b2]; exact ⟨_, rfl, g3⟩
    rw [jif_f b2, m1, rI_s]
    simp only [Option.bind_some]
    rw [b2i_f (fun z => h ⟨z, Int32.not_lt.mp b1, Int32.not_lt.mp b2⟩), jif_t rfl, q_M_laysBack_1]
    exact ⟨_, rfl, m3⟩
  · subst e1; subst e2
    obtain ⟨k', e3, hRm⟩ := m5 hrow
    have ek : k = k' := nI_inj (by omega) (by have := hRm.2.1; omega) e3
    subst ek
    obtain ⟨kk, kk1, kk2, kk3, kk4⟩ := hrow.r
    have ekk : kk = k := nI_inj (by omega) (by omega) kk3.symm
    subst ekk
    rw [e_M_laysBack, q_M_laysBack_0, q1, rV_s]
    simp only [Option.bind_some]
    rw [jif_f (nI_pos (by omega)), jif_f (show ¬ (99999 : Int32) < nI tt from nI_nlt (a := 99999) (by omega) (by omega)), m1, rI_s]
    simp only [Option.bind_some]
    rw [b2i_t hrow, jif_f (by decide), q_M_laysBack_2, e_M_backs, q_M_backs_0]
    have S5 : jep bk_S σ4 (j_setL (j_setL σ4 86 52 (Int32.toInt64 (nI tt))) 86 53 (Int32.toInt64 (nI tt))) := (jep.rf.sL (Or.inr ⟨rfl, by omega⟩)).sL (Or.inr ⟨rfl, by omega⟩)
    have e50 : (j_setL (j_setL σ4 86 52 (Int32.toInt64 (nI tt))) 86 53 (Int32.toInt64 (nI tt))).1 86 50 - 2 = nI (kk - 2) := by
      rw [setL_I, setL_I, hRm.2.2.1]
      exact pk_sub (a := kk) (b := 2) kk1
    rw [e50]
    obtain ⟨σ6, Z, V, v1, v2, v3, v4, v5, v6, v7, v8⟩ := m_backs_l d (σ0 := σc) (σm := σ4) (T := tt) ht (by omega) hRm kk4 m3.law e32 m4 (kk - 2) _ tt tt (Nat.le_refl _) (by rw [Nat.sub_self]; rfl) (by rw [Nat.sub_self]; show tt = min tt 1999998; omega) (by omega) S5 (by rw [setL_get, if_neg (by omega), setL_get, if_pos ⟨rfl, rfl⟩, nI_l (by omega)]) (by rw [setL_get, if_pos ⟨rfl, rfl⟩, nI_l (by omega)])
    rw [v1, rV_s]
    simp only [Option.bind_some]
    have emin : (if (999999 : Int64) < σ6.2.1 86 53 then 999999 else σ6.2.1 86 53) = lN (min V 999999) := by
      rw [v4]
      by_cases z : 999999 < V
      · rw [if_pos (show (999999 : Int64) < lN V from (pk_lLT (a := 999999) (by omega) (by omega)).mpr z), Nat.min_eq_right (by omega)]; rfl
      · rw [if_neg (show ¬ (999999 : Int64) < lN V from fun y => z ((pk_lLT (a := 999999) (by omega) (by omega)).mp y)), Nat.min_eq_left (by omega)]
    rw [emin]
    refine ⟨_, Z, min V 999999, rfl, m3.scr ((v2.sL (Or.inr ⟨rfl, by omega⟩)).mono (fun b j h => bk_scr ht h)), ?_, ?_, v5, by omega, fun z => ?_, v8⟩
    · rw [setL_get, if_neg (by omega)]; exact v3
    · rw [setL_get, if_pos ⟨rfl, rfl⟩]
    · obtain ⟨x1, x2⟩ := v7 z
      exact ⟨x1, by omega⟩
/-- the class's beginning of back and span -/
theorem back_begin (d : Nat) (n T : Int32) {N : Nat} (hN : N < 2 ^ 64) (σ : jS) (t : Nat) (g : jInv σ t) : ∃ A σ1, A ≤ 10 ∧ σ1.1 t 0 = nI A ∧ jInv σ1 t ∧ g_HH_isRow (d + 3) n (lN N) σ = some (some (.int (b2i (rowOK N n A))), σ1) ∧ (rowOK N n A → ∃ k, n = nI k ∧ cRow σ1 k (nib N)) := by
  have ht := g.1
  obtain ⟨A, hA, a1, a2, a3⟩ := g.A
  obtain ⟨σ1, c1, c2, c3⟩ := c_isRow d ht n hN hA σ g.2.1 a1
  exact ⟨A, σ1, hA, by rw [(c2 t 0 (fun q => by rcases ht with rfl | rfl <;> rcases q with q | q <;> omega)).1]; exact a1, g.scr (c2.mono (fun b j h => ct_scr ht h)), c1, c3⟩
theorem op_back (d : Nat) (n T w : Int32) (code : Int64) (σ : jS) (t : Nat) (g : jInv σ t) : opI (g_HH_back (d + 8) n code T w) (g_M_back (d + 8) n code T w) σ := by
  obtain ⟨N, hN, rfl⟩ := wb_of code
  have ht := g.1
  obtain ⟨A, σ1, hA, a1, g1, c1, c3⟩ := back_begin (d + 4) n T hN σ t g
  by_cases h : rowOK N n A ∧ 0 ≤ T ∧ T ≤ 99999
  · obtain ⟨k, e1, hR⟩ := c3 h.1
    subst e1
    have hk := hR.2.1
    obtain ⟨tt, htt, rfl⟩ := in_nI (M := 99999) rfl (by omega) h.2
    obtain ⟨σ2, p1, p2⟩ := c_endOfBack d (w := 0) ht htt (by omega) hR g1.law.W g1.2.1 σ1 jeq.rf
    obtain ⟨σ3, q1, q2⟩ := c_endOfBack d (w := 1) ht htt (by omega) hR g1.law.W g1.2.1 σ2 p2
    have g3 := g1.scr (jep.of q2 (fun b j h => la_scr h))
    obtain ⟨z1, z2, z3, z4⟩ := la_E q2
    obtain ⟨-, ok⟩ := m_laysBack d (σc := σ1) (nI k) (nI tt) hN σ3 g3 (by rw [z3]; exact a1) hA z1 z2
    obtain ⟨σ4, Z, V, m1, m2, m3, m4, m5, m6, m7, m8⟩ := ok k tt rfl hk rfl htt h.1
    have hC : g_HH_back (d + 8) (nI k) (lN N) (nI tt) w σ = jif (w = 0) (b_HH_back_3 (d + 7) (eB (odP σ1 t 4 (nib N)) (k - 2) tt 0) (eB (odP σ1 t 4 (nib N)) (k - 2) tt 1) σ3) (jif (w = 1) (b_HH_back_6 (d + 7) (eB (odP σ1 t 4 (nib N)) (k - 2) tt 0) σ3) (jif (w = 2) (b_HH_back_7 (d + 7) (eB (odP σ1 t 4 (nib N)) (k - 2) tt 1) σ3) (jif (w = 3) (b_HH_back_8 (d + 7) (eB (odP σ1 t 4 (nib N)) (k - 2) tt 0) σ3) (b_HH_back_11 (d + 7) σ3)))) := by
      have p1' : g_HH_endOfBack (d + 7) (nI tt) 0 σ1 = some (some (.int (eB (odP σ1 t 4 (nib N)) (k - 2) tt 0)), σ2) := p1
      have q1' : g_HH_endOfBack (d + 7) (nI tt) 1 σ2 = some (some (.int (eB (odP σ1 t 4 (nib N)) (k - 2) tt 1)), σ3) := q1
      rw [e_HH_back, q_HH_back_0, c1, rI_s]
      simp only [Option.bind_some]
      rw [b2i_t h.1, jif_f (by decide), c_within, rI_s]
      simp only [Option.bind_some]
      rw [if_pos h.2, jif_f (by decide), q_HH_back_2, p1', rI_s]
      simp only [Option.bind_some]
      rw [q1', rI_s]
      simp only [Option.bind_some]
    generalize hod : odP σ1 t 4 (nib N) = od at *
    have hlu := LO_UP od (k - 2) 1 tt
    have hmul : tt * 2 ^ (k - 2) ≤ 99999 * 256 := Nat.mul_le_mul htt (pow8 (by omega)).2
    by_cases hw : 0 ≤ w ∧ w ≤ 3
    · obtain ⟨w, hw3, rfl⟩ := in_nI (M := 3) rfl (by omega) hw
      have hM : ∀ s0 : Int32, (b_M_back_2 (d + 7) (nI w) σ4 = b_M_back_4 (d + 7) (nI w) s0 σ4) → g_M_back (d + 8) (nI k) (lN N) (nI tt) (nI w) σ3 = b_M_back_4 (d + 7) (nI w) s0 σ4 := fun s0 hs => by
        rw [e_M_back, q_M_back_0, jif_f (nI_pos (by omega)), jif_f (show ¬ (3 : Int32) < nI w from nI_nlt (a := 3) (by omega) (by omega)), m1, rI_s]
        simp only [Option.bind_some]
        rw [jif_f (by decide), hs]
      have hw' : w = 0 ∨ w = 1 ∨ w = 2 ∨ w = 3 := by omega
      by_cases hle : LON od (k - 2) 1 tt ≤ 999999
      · obtain ⟨eZ, eV⟩ := m7 hle
        have hs : b_M_back_2 (d + 7) (nI w) σ4 = b_M_back_4 (d + 7) (nI w) 1 σ4 := by
          rw [q_M_back_2]
          simp only [lg_cmp_gt]
          rw [m3, m4, jif_f (fun z => by have := (pk_lLT (by omega) (by omega)).mp z; omega)]
        have E0 : eB od (k - 2) tt 0 = nI Z := by unfold eB; rw [if_pos hle, if_pos rfl, eZ]
        have E1 : eB od (k - 2) tt 1 = nI V := by unfold eB; rw [if_pos hle, if_neg (by omega), eV]
        have hne : ¬ nI Z = -1 := fun z => by
          have : ¬ nI Z < 0 := nI_pos (by omega)
          rw [z] at this
          exact this (by decide)
        have hM' := hM 1 hs
        rw [E0, E1] at hC
        have hZV : Z ≤ V := by omega
        rcases hw' with rfl | rfl | rfl | rfl
        · refine ⟨nI (V - Z + 1), σ3, σ4, t, ?_, ?_, m2⟩
          · show g_HH_back (d + 8) (nI k) (lN N) (nI tt) (nI 0) σ = _
            rw [hC, jif_t nI_0, q_HH_back_3, jif_f hne, q_HH_back_4, q_HH_back_5, pk_sub hZV, nI_1]
          · show g_M_back (d + 8) (nI k) (lN N) (nI tt) (nI 0) σ3 = _
            rw [hM', q_M_back_4, jif_t nI_0, q_M_back_5, jif_f (by decide), q_M_back_7, m3, m4, lN_sub hZV, lN_1, lN_i]
        · refine ⟨nI Z, σ3, σ4, t, ?_, ?_, m2⟩
          · show g_HH_back (d + 8) (nI k) (lN N) (nI tt) (nI 1) σ = _
            rw [hC, jif_f (by decide), jif_t (show nI 1 = 1 from rfl), q_HH_back_6]
          · show g_M_back (d + 8) (nI k) (lN N) (nI tt) (nI 1) σ3 = _
            rw [hM', q_M_back_4, jif_f (by decide), jif_t (show nI 1 = 1 from rfl), q_M_back_8, jif_f (by decide), q_M_back_10, m3, lN_i]
        · refine ⟨nI V, σ3, σ4, t, ?_, ?_, m2⟩
          · show g_HH_back (d + 8) (nI k) (lN N) (nI tt) (nI 2) σ = _
            rw [hC, jif_f (by decide), jif_f (by decide), jif_t (show nI 2 = 2 from rfl), q_HH_back_7]
          · show g_M_back (d + 8) (nI k) (lN N) (nI tt) (nI 2) σ3 = _
            rw [hM', q_M_back_4, jif_f (by decide), jif_f (by decide), jif_t (show nI 2 = 2 from rfl), q_M_back_11, jif_f (by decide), q_M_back_13, m4, lN_i]
        · refine ⟨1, σ3, σ4, t, ?_, ?_, m2⟩
          · show g_HH_back (d + 8) (nI k) (lN N) (nI tt) (nI 3) σ = _
            rw [hC, jif_f (by decide), jif_f (by decide), jif_f (by decide), jif_t (show nI 3 = 3 from rfl), q_HH_back_8, jif_f hne, q_HH_back_9, q_HH_back_10]
          · show g_M_back (d + 8) (nI k) (lN N) (nI tt) (nI 3) σ3 = _
            rw [hM', q_M_back_4, jif_f (by decide), jif_f (by decide), jif_f (by decide), q_M_back_14, jif_f (by decide), q_M_back_16]
      · have hZ := m8 (by omega)
        have hs : b_M_back_2 (d + 7) (nI w) σ4 = b_M_back_4 (d + 7) (nI w) 0 σ4 := by
          rw [q_M_back_2]
          simp only [lg_cmp_gt]
          rw [m3, m4, jif_t ((pk_lLT (by omega) (by omega)).mpr (by omega)), q_M_back_3]
        have E0 : eB od (k - 2) tt 0 = -1 := by unfold eB; rw [if_neg hle]
        have E1 : eB od (k - 2) tt 1 = -1 := by unfold eB; rw [if_neg hle]
        have hM' := hM 0 hs
        rw [E0, E1] at hC
        rcases hw' with rfl | rfl | rfl | rfl
        · refine ⟨0, σ3, σ4, t, ?_, ?_, m2⟩
          · show g_HH_back (d + 8) (nI k) (lN N) (nI tt) (nI 0) σ = _
            rw [hC, jif_t nI_0, q_HH_back_3, jif_t rfl, q_HH_back_5]
          · show g_M_back (d + 8) (nI k) (lN N) (nI tt) (nI 0) σ3 = _
            rw [hM', q_M_back_4, jif_t nI_0, q_M_back_5, jif_t rfl, q_M_back_6, q_M_back_7]
        · refine ⟨-1, σ3, σ4, t, ?_, ?_, m2⟩
          · show g_HH_back (d + 8) (nI k) (lN N) (nI tt) (nI 1) σ = _
            rw [hC, jif_f (by decide), jif_t (show nI 1 = 1 from rfl), q_HH_back_6]
          · show g_M_back (d + 8) (nI k) (lN N) (nI tt) (nI 1) σ3 = _
            rw [hM', q_M_back_4, jif_f (by decide), jif_t (show nI 1 = 1 from rfl), q_M_back_8, jif_t rfl, q_M_back_9, q_M_back_10]
        · refine ⟨-1, σ3, σ4, t, ?_, ?_, m2⟩
          · show g_HH_back (d + 8) (nI k) (lN N) (nI tt) (nI 2) σ = _
            rw [hC, jif_f (by decide), jif_f (by decide), jif_t (show nI 2 = 2 from rfl), q_HH_back_7]
          · show g_M_back (d + 8) (nI k) (lN N) (nI tt) (nI 2) σ3 = _
            rw [hM', q_M_back_4, jif_f (by decide), jif_f (by decide), jif_t (show nI 2 = 2 from rfl), q_M_back_11, jif_t rfl, q_M_back_12, q_M_back_13]
        · refine ⟨0, σ3, σ4, t, ?_, ?_, m2⟩
          · show g_HH_back (d + 8) (nI k) (lN N) (nI tt) (nI 3) σ = _
            rw [hC, jif_f (by decide), jif_f (by decide), jif_f (by decide), jif_t (show nI 3 = 3 from rfl), q_HH_back_8, jif_t rfl, q_HH_back_10]
          · show g_M_back (d + 8) (nI k) (lN N) (nI tt) (nI 3) σ3 = _
            rw [hM', q_M_back_4, jif_f (by decide), jif_f (by decide), jif_f (by decide), q_M_back_14, jif_t rfl, q_M_back_15, q_M_back_16]
    · refine ⟨-1, σ3, j_setI σ3 86 0 0, t, ?_, ?_, g3.th 0⟩
      · show g_HH_back (d + 8) (nI k) (lN N) (nI tt) w σ = _
        rw [hC, jif_f (fun e => hw (by subst e; decide)), jif_f (fun e => hw (by subst e; decide)), jif_f (fun e => hw (by subst e; decide)), jif_f (fun e => hw (by subst e; decide)), q_HH_back_11]
      · show g_M_back (d + 8) (nI k) (lN N) (nI tt) w σ3 = _
        rw [e_M_back, q_M_back_0, q_M_back_1]
        by_cases z : w < 0
        · rw [jif_t z]
        · rw [jif_f z, jif_t (Int32.not_le.mp (fun y => hw ⟨Int32.not_lt.mp z, y⟩))]
  · have hC : g_HH_back (d + 8) n (lN N) T w σ = some (some (.int (-1)), σ1) := by
      rw [e_HH_back, q_HH_back_0, c1, rI_s]
      simp only [Option.bind_some]
      by_cases h1 : rowOK N n A
      · rw [b2i_t h1, jif_f (by decide), c_within, rI_s]
        simp only [Option.bind_some]
        rw [if_neg (fun z => h ⟨h1, z⟩), jif_t rfl, q_HH_back_1]
      · rw [b2i_f h1, jif_t rfl, q_HH_back_1]
    obtain ⟨no, -⟩ := m_laysBack d (σc := σ1) n T hN σ1 g1 a1 hA ⟨rfl, rfl, rfl, rfl, rfl⟩ rfl
    obtain ⟨σ4, m1, m2⟩ := no h
    have hM : ∃ σ', g_M_back (d + 8) n (lN N) T w σ1 = some (some (.int (-1)), σ') ∧ jInv σ' t := by
      rw [e_M_back, q_M_back_0, q_M_back_1]
      by_cases z : w < 0
      · rw [jif_t z]; exact ⟨_, rfl, g1.th 0⟩
      rw [jif_f z]
      by_cases y : 3 < w
      · rw [jif_t y]; exact ⟨_, rfl, g1.th 0⟩
      rw [jif_f y, m1, rI_s]
      simp only [Option.bind_some]
      rw [jif_t trivial, q_M_back_1]
      exact ⟨_, rfl, m2⟩
    obtain ⟨σ', x1, x2⟩ := hM
    exact ⟨-1, σ1, σ', t, hC, x1, x2⟩
theorem op_span (d : Nat) (n T x w : Int32) (code : Int64) (σ : jS) (t : Nat) (g : jInv σ t) : opI (g_HH_span (d + 8) n code T x w) (g_M_span (d + 8) n code T x w) σ := by
  obtain ⟨N, hN, rfl⟩ := wb_of code
  have ht := g.1
  obtain ⟨A, σ1, hA, a1, g1, c1, c3⟩ := back_begin (d + 4) n T hN σ t g
  by_cases h : (rowOK N n A ∧ 0 ≤ T ∧ T ≤ 99999) ∧ x = 0 ∧ 0 ≤ w ∧ w ≤ 1
  · obtain ⟨h, hx, hw⟩ := h
    obtain ⟨k, e1, hR⟩ := c3 h.1
    subst e1
    have hk := hR.2.1
    obtain ⟨tt, htt, rfl⟩ := in_nI (M := 99999) rfl (by omega) h.2
    obtain ⟨w, hw1, rfl⟩ := in_nI (M := 1) rfl (by omega) hw
    obtain ⟨σ2, p1, p2⟩ := c_endOfBack d (w := w) ht htt hw1 hR g1.law.W g1.2.1 σ1 jeq.rf
    have g2 := g1.scr (jep.of p2 (fun b j h => la_scr h))
    obtain ⟨z1, z2, z3, z4⟩ := la_E p2
    obtain ⟨-, ok⟩ := m_laysBack d (σc := σ1) (nI k) (nI tt) hN σ2 g2 (by rw [z3]; exact a1) hA z1 z2
    obtain ⟨σ4, Z, V, m1, m2, m3, m4, m5, m6, m7, m8⟩ := ok k tt rfl hk rfl htt h.1
    generalize hod : odP σ1 t 4 (nib N) = od at *
    have hlu := LO_UP od (k - 2) 1 tt
    refine ⟨eB od (k - 2) tt w, σ2, σ4, t, ?_, ?_, m2⟩
    · show g_HH_span (d + 8) (nI k) (lN N) (nI tt) x (nI w) σ = _
      rw [e_HH_span, q_HH_span_0, c1, rI_s]
      simp only [Option.bind_some]
      rw [b2i_t h.1, jif_f (by decide), c_within, rI_s]
      simp only [Option.bind_some]
      rw [if_pos h.2, jif_f (by decide), jif_t hx, c_within, rI_s]
      simp only [Option.bind_some]
      rw [if_pos hw, jif_f (by decide), q_HH_span_2, p1, rI_s]
      rfl
    · show g_M_span (d + 8) (nI k) (lN N) (nI tt) x (nI w) σ2 = _
      rw [e_M_span, q_M_span_0, jif_f (nI_pos (by omega)), jif_f (show ¬ (1 : Int32) < nI w from nI_nlt (a := 1) (by omega) (by omega)), jif_t hx, m1, rI_s]
      simp only [Option.bind_some, lg_cmp_le]
      rw [jif_f (by decide), m3, m4]
      unfold eB
      by_cases hle : LON od (k - 2) 1 tt ≤ 999999
      · obtain ⟨eZ, eV⟩ := m7 hle
        rw [if_pos hle, jif_t ((pk_lLE (by omega) (by omega)).mpr (by omega)), q_M_span_2]
        by_cases e : w = 0
        · subst e
          rw [jif_t nI_0, if_pos rfl, q_M_span_4, m3, lN_i, eZ]
        · rw [jif_f (nI_ne0 (by omega) (by omega)), if_neg e, q_M_span_3, q_M_span_4, m4, lN_i, eV]
      · have hZ := m8 (by omega)
        rw [if_neg hle, jif_f (fun z => by have := (pk_lLE (by omega) (by omega)).mp z; omega), q_M_span_1]
  · have hC : g_HH_span (d + 8) n (lN N) T x w σ = some (some (.int (-1)), σ1) := by
      rw [e_HH_span, q_HH_span_0, c1, rI_s]
      simp only [Option.bind_some]
      rw [q_HH_span_1]
      by_cases h1 : rowOK N n A
      · rw [b2i_t h1, jif_f (by decide), c_within, rI_s]
        simp only [Option.bind_some]
        rw [q_HH_span_1]
        by_cases h2 : 0 ≤ T ∧ T ≤ 99999
        · rw [if_pos h2, jif_f (by decide)]
          by_cases h3 : x = 0
          · rw [jif_t h3, c_within, rI_s]
            simp only [Option.bind_some]
            rw [if_neg (fun z => h ⟨⟨h1, h2⟩, h3, z⟩), jif_t rfl, q_HH_span_1]
          · rw [jif_f h3]
        · rw [if_neg h2, jif_t rfl]
      · rw [b2i_f h1, jif_t rfl]
    obtain ⟨no, ok⟩ := m_laysBack d (σc := σ1) n T hN σ1 g1 a1 hA ⟨rfl, rfl, rfl, rfl, rfl⟩ rfl
    have hM : ∃ σ', g_M_span (d + 8) n (lN N) T x w σ1 = some (some (.int (-1)), σ') ∧ jInv σ' t := by
      rw [e_M_span, q_M_span_0, q_M_span_1]
      by_cases b1 : w < 0
      · rw [jif_t b1]; exact ⟨_, rfl, g1.th 0⟩
      rw [jif_f b1]
      by_cases b2 : 1 < w
      · rw [jif_t b2]; exact ⟨_, rfl, g1.th 0⟩
      rw [jif_f b2]
      by_cases b3 : x = 0
      · have hn : ¬ (rowOK N n A ∧ 0 ≤ T ∧ T ≤ 99999) := fun z => h ⟨z, b3, Int32.not_lt.mp b1, Int32.not_lt.mp b2⟩
        obtain ⟨σ4, m1, m2⟩ := no hn
        rw [jif_t b3, m1, rI_s]
        simp only [Option.bind_some]
        rw [jif_t trivial, q_M_span_1]
        exact ⟨_, rfl, m2⟩
      · rw [jif_f b3]; exact ⟨_, rfl, g1.th 0⟩
    obtain ⟨σ', x1, x2⟩ := hM
    exact ⟨-1, σ1, σ', t, hC, x1, x2⟩
