/-! 19: gains, both sides. -/
theorem op_gains (d : Nat) (n x y z : Int32) (code : Int64) (σ : jS) (t : Nat) (g : jInv σ t) : opI (g_HH_gains (d + 18) n code x y z) (g_M_gains (d + 18) n code x y z) σ := by
  obtain ⟨N, hN, rfl⟩ := wb_of code
  obtain ⟨A, σ1, hA, a1, g1, c1, c3⟩ := ord_c (d + 13) n x hN σ t g
  have ht := g.1
  by_cases h0 : rowOK N n A ∧ 0 ≤ x ∧ x ≤ 999999
  · obtain ⟨k, e1, hR, hP⟩ := c3 h0.1
    subst e1
    obtain ⟨C, hC, rfl⟩ := in_nI (M := 999999) rfl (by omega) h0.2
    obtain ⟨σ2, car, hm, p1, p2, p3, p4, p5⟩ := ord_t (d + 11) hA hC σ1 g1 a1 hR hP
    have hk := hR.1
    have hk10 := hR.2.1
    have hCs : g_HH_gains (d + 18) (nI k) (lN N) (nI C) y z σ = jif (b2i (isC k (nib N) y) = 0) (b_HH_gains_1 (d + 17) σ1) (jif ((if 0 ≤ z ∧ z ≤ 3 then (1 : Int32) else 0) = 0) (b_HH_gains_1 (d + 17) σ1) (b_HH_gains_2 (d + 17) (nI C) y z σ1)) := by
      rw [e_HH_gains, q_HH_gains_0, c1, rI_s]
      simp only [Option.bind_some]
      rw [b2i_t h0, jif_f (by decide), c_isC (d + 15) y hR, rI_s]
      simp only [Option.bind_some]
      rw [c_within, rI_s]
      simp only [Option.bind_some]
    have hMs : ∀ σe, jep (oc_S t) σ1 σe → ∃ σ3 σ4, jInv σ3 t ∧ jInv σ4 t ∧ (0 ≤ z ∧ z ≤ 3 → ∃ l7, g_M_gains (d + 18) (nI k) (lN N) (nI C) y z σe = b_M_gains_6 (d + 17) (nI C) y z l7 σ4 ∧ (l7 = 0 ↔ ¬ isC k (nib N) y)) ∧ (¬ (0 ≤ z ∧ z ≤ 3) → g_M_gains (d + 18) (nI k) (lN N) (nI C) y z σe = some (some (.int (-1)), σ3)) ∧ ∀ w, w < k - 2 → y = nI (car w) → ∃ σ5, g_M_goesThrough (d + 17) (nI C) (-1) 1 y σ4 = some (none, σ5) ∧ jInv σ5 t ∧ σ5.1 86 59 = nI (gV (hdC σ1 t k C (nib N) car) (k - 2) C w 1) ∧ (∀ s, fN (fun s => KP (hdC σ1 t k C (nib N) car) (k - 2) w 0 0 C s = gV (hdC σ1 t k C (nib N) car) (k - 2) C w 1) (PL (k - 2) (k - 2) 0) = some s → σ5.1 86 61 = nI (plc w s)) ∧ σ5.1 86 60 = nI (gV (hdC σ1 t k C (nib N) car) (k - 2) C w 0) ∧ (∀ s, fN (fun s => KP (hdC σ1 t k C (nib N) car) (k - 2) w 0 0 C s = gV (hdC σ1 t k C (nib N) car) (k - 2) C w 0) (PL (k - 2) (k - 2) 0) = some s → σ5.1 86 62 = nI (plc w s)) := fun σe Se => by
      obtain ⟨σ3, σ4, m1, m2, m3, m4, m5⟩ := ord_m (d + 1) (nI k) (nI C) hN hA σ1 σe g1 a1 Se
      obtain ⟨hRm, m6⟩ := m5 k C car hm rfl rfl hk hk10 hC hP p5 h0
      refine ⟨σ3, σ4, m2, m4, fun hz => ?_, fun hz => ?_, fun w hw ey => ?_⟩
      · obtain ⟨l7, v1, v2⟩ := m_isC (d + 17) (l4 := nI C) (y := y) (l6 := z) hRm (k - 2) 1 0 (by omega) (Or.inl rfl)
        refine ⟨l7, ?_, v2.trans ⟨fun q ⟨j, j1, j2, j3⟩ => q.2 j j1 (by omega) j3, fun q => ⟨rfl, fun i i1 i2 i3 => q ⟨i, i1, by omega, i3⟩⟩⟩⟩
        rw [e_M_gains, q_M_gains_0, show g_M_plain (d + 17) (j_setI σe 86 0 0) = _ from m1, rV_s]
        simp only [Option.bind_some]
        rw [jif_f (Int32.not_lt.mpr hz.1), jif_f (Int32.not_lt.mpr hz.2), show g_M_takesSent (d + 17) (nI k) (lN N) (nI C) σ3 = _ from m3, rI_s]
        simp only [Option.bind_some]
        rw [b2i_t h0, jif_f (by decide), q_M_gains_2]
        exact v1
      · rw [e_M_gains, q_M_gains_0, show g_M_plain (d + 17) (j_setI σe 86 0 0) = _ from m1, rV_s]
        simp only [Option.bind_some]
        by_cases b1 : z < 0
        · rw [jif_t b1, q_M_gains_1]
        · rw [jif_f b1, jif_t (Int32.not_le.mp (fun q => hz ⟨Int32.not_lt.mp b1, q⟩)), q_M_gains_1]
      · obtain ⟨σ5, b1, c1, b2, c2, c3, c4, r1, r2, r3, r4⟩ := m6 1 w (-1) y (by omega) (fun _ => ⟨hw, ey⟩)
        exact ⟨σ5, r1, r2, see_1 hk hk10 hC r4⟩
    by_cases hy : isC k (nib N) y
    · by_cases hz : 0 ≤ z ∧ z ≤ 3
      · obtain ⟨z, hz3, rfl⟩ := in_nI (M := 3) rfl (by omega) hz
        obtain ⟨j, j1, j2, rfl⟩ := id hy
        obtain ⟨w, hw, ew⟩ := p5.2.2 j j1 j2
        have ey : nib N j = car w := by rw [← ew]; exact (p5.1 w hw).2.2.2
        have hcw : ∀ i, i < w → car i ≠ car w := fun i hi q => by have := p5.2.1 i w hi hw; omega
        rw [b2i_t hy, jif_f (by decide), if_pos hz, jif_f (by decide), q_HH_gains_2, g1.2.1, p1, rV_s] at hCs
        simp only [Option.bind_some] at hCs
        have fin : ∀ (v : Int32) (σe : jS), g_HH_gains (d + 18) (nI k) (lN N) (nI C) (nI (nib N j)) (nI z) σ = some (some (.int v), σe) → jep or_S σ2 σe → (∀ σ5 : jS, σ5.1 86 59 = nI (gV (hdC σ1 t k C (nib N) car) (k - 2) C w 1) → (∀ s, fN (fun s => KP (hdC σ1 t k C (nib N) car) (k - 2) w 0 0 C s = gV (hdC σ1 t k C (nib N) car) (k - 2) C w 1) (PL (k - 2) (k - 2) 0) = some s → σ5.1 86 61 = nI (plc w s)) → σ5.1 86 60 = nI (gV (hdC σ1 t k C (nib N) car) (k - 2) C w 0) → (∀ s, fN (fun s => KP (hdC σ1 t k C (nib N) car) (k - 2) w 0 0 C s = gV (hdC σ1 t k C (nib N) car) (k - 2) C w 0) (PL (k - 2) (k - 2) 0) = some s → σ5.1 86 62 = nI (plc w s)) → jif (nI z = 0) (b_M_gains_11 (d + 17) (σ5.1 86 59) σ5) (b_M_gains_8 (d + 17) (nI z) σ5) = some (some (.int v), σ5)) → opI (g_HH_gains (d + 18) (nI k) (lN N) (nI C) (nI (nib N j)) (nI z)) (g_M_gains (d + 18) (nI k) (lN N) (nI C) (nI (nib N j)) (nI z)) σ := fun v σe q1 q2 q3 => by
          obtain ⟨σ3, σ4, -, -, m3, -, m5⟩ := hMs σe (p2.tr (q2.mono (fun b j h => or_oc h)))
          obtain ⟨l7, v1, v2⟩ := m3 hz
          obtain ⟨σ5, r1, r2, r3, r4, r5, r6⟩ := m5 w hw (congrArg nI ey)
          refine ⟨v, σe, σ5, t, q1, ?_, r2⟩
          rw [v1, q_M_gains_6, jif_f (fun q => (v2.mp q) hy), q_M_gains_7, r1, rV_s]
          simp only [Option.bind_some]
          exact q3 σ5 r3 r4 r5 r6
        rw [ey] at hCs
        have hz4 : z = 0 ∨ z = 1 ∨ z = 2 ∨ z = 3 := by omega
        rcases hz4 with rfl | rfl | rfl | rfl
        · obtain ⟨σe, u1, u2, -⟩ := c_gain (d + 11) (b := 1) hw (by omega) hcw σ2 p4
          rw [jif_f (by decide), q_HH_gains_4, jif_t nI_0, q_HH_gains_5, show g_Or_gain (d + 17) (nI (car w)) 1 σ2 = _ from u1, rI_s] at hCs
          simp only [Option.bind_some] at hCs
          rw [q_HH_gains_7, ← ey] at hCs
          refine fin _ σe hCs (u2.mono (fun b j h => so_or h)) (fun σ5 x1 x2 x3 x4 => ?_)
          rw [jif_t nI_0, x1, q_M_gains_11]
          rfl
        · obtain ⟨σe, s, u1, u2, u3⟩ := c_gainPlace (d + 10) (b := 1) hw (by omega) hcw σ2 p4
          rw [jif_f (by decide), q_HH_gains_4, jif_f (by decide), jif_f (by decide), q_HH_gains_6, show g_Or_gainPlace (d + 17) (nI (car w)) 1 σ2 = _ from u1, rI_s] at hCs
          simp only [Option.bind_some] at hCs
          rw [q_HH_gains_7, ← ey] at hCs
          refine fin _ σe hCs u2 (fun σ5 x1 x2 x3 x4 => ?_)
          rw [jif_f (by decide), q_M_gains_8, jif_t (show nI 1 = 1 from rfl), x2 s u3, q_M_gains_11]
        · obtain ⟨σe, u1, u2, -⟩ := c_gain (d + 11) (b := 0) hw (by omega) hcw σ2 p4
          rw [jif_t (by decide), q_HH_gains_3, q_HH_gains_4, jif_f (by decide), jif_t (show nI 2 = 2 from rfl), q_HH_gains_5, show g_Or_gain (d + 17) (nI (car w)) 0 σ2 = _ from u1, rI_s] at hCs
          simp only [Option.bind_some] at hCs
          rw [q_HH_gains_7, ← ey] at hCs
          refine fin _ σe hCs (u2.mono (fun b j h => so_or h)) (fun σ5 x1 x2 x3 x4 => ?_)
          rw [jif_f (by decide), q_M_gains_8, jif_f (by decide), q_M_gains_9, jif_t (show nI 2 = 2 from rfl), x3, q_M_gains_11]
          rfl
        · obtain ⟨σe, s, u1, u2, u3⟩ := c_gainPlace (d + 10) (b := 0) hw (by omega) hcw σ2 p4
          rw [jif_t (by decide), q_HH_gains_3, q_HH_gains_4, jif_f (by decide), jif_f (by decide), q_HH_gains_6, show g_Or_gainPlace (d + 17) (nI (car w)) 0 σ2 = _ from u1, rI_s] at hCs
          simp only [Option.bind_some] at hCs
          rw [q_HH_gains_7, ← ey] at hCs
          refine fin _ σe hCs u2 (fun σ5 x1 x2 x3 x4 => ?_)
          rw [jif_f (by decide), q_M_gains_8, jif_f (by decide), q_M_gains_9, jif_f (by decide), q_M_gains_10, x4 s u3, q_M_gains_11]
      · rw [b2i_t hy, jif_f (by decide), if_neg hz, jif_t rfl, q_HH_gains_1] at hCs
        obtain ⟨σ3, σ4, m1, m2, -, m4, -⟩ := hMs σ1 jep.rf
        exact ⟨-1, σ1, σ3, t, hCs, m4 hz, m1⟩
    · rw [b2i_f hy, jif_t rfl, q_HH_gains_1] at hCs
      obtain ⟨σ3, σ4, m1, m2, m3, m4, -⟩ := hMs σ1 jep.rf
      by_cases hz : 0 ≤ z ∧ z ≤ 3
      · obtain ⟨l7, v1, v2⟩ := m3 hz
        rw [q_M_gains_6, jif_t (v2.mpr hy)] at v1
        exact ⟨-1, σ1, σ4, t, hCs, v1, m2⟩
      · exact ⟨-1, σ1, σ3, t, hCs, m4 hz, m1⟩
  · obtain ⟨σ3, σ4, m1, m2, m3, m4, -⟩ := ord_m (d + 1) n x hN hA σ1 σ1 g1 a1 jep.rf
    have hC0 : g_HH_gains (d + 18) n (lN N) x y z σ = some (some (.int (-1)), σ1) := by
      rw [e_HH_gains, q_HH_gains_0, c1, rI_s]
      simp only [Option.bind_some]
      rw [b2i_f h0, jif_t rfl, q_HH_gains_1]
    have hM0 : ∃ σ5, g_M_gains (d + 18) n (lN N) x y z σ1 = some (some (.int (-1)), σ5) ∧ jInv σ5 t := by
      rw [e_M_gains, q_M_gains_0, show g_M_plain (d + 17) (j_setI σ1 86 0 0) = _ from m1, rV_s]
      simp only [Option.bind_some]
      by_cases b1 : z < 0
      · rw [jif_t b1, q_M_gains_1]; exact ⟨_, rfl, m2⟩
      rw [jif_f b1]
      by_cases b2 : 3 < z
      · rw [jif_t b2, q_M_gains_1]; exact ⟨_, rfl, m2⟩
      rw [jif_f b2, show g_M_takesSent (d + 17) n (lN N) x σ3 = _ from m3, rI_s]
      simp only [Option.bind_some]
      rw [b2i_f h0, jif_t rfl, q_M_gains_1]
      exact ⟨_, rfl, m4⟩
    obtain ⟨σ5, v1, v2⟩ := hM0
    exact ⟨-1, σ1, σ5, t, hC0, v1, v2⟩
