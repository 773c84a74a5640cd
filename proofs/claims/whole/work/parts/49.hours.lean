/-! 5: hours. -/
theorem cj_jr {t b k : Nat} (h : cj_S 39 t b k) : jr_S t b k := by
  unfold cj_S at h
  by_cases e : b = t + 15 ∨ b = t + 16
  · exact Or.inl (la_scr e)
  · right; left; omega
theorem mj_jr {t b k : Nat} (ht : jTe t) (h : mj_S 0 b k) : jr_S t b k := by
  unfold mj_S at h
  rcases h with h | h | h | h | h | h
  · right; right; right; right; left; omega
  · right; right; right; right; right; left; omega
  · right; right; right; right; right; right; omega
  · left; subst h; rcases ht with rfl | rfl <;> simp [jScr]
  · left; subst h; rcases ht with rfl | rfl <;> simp [jScr]
  · left; obtain ⟨rfl, rfl⟩ := h; rcases ht with rfl | rfl <;> simp [jScr]
theorem mE0.i {σ : jS} {t : Nat} {i : Int32} {P : jQ} (h : mE0 σ t (-1) i P) (i' : Int32) : mE0 σ t (-1) i' P := by
  obtain ⟨g4, g5, g6, g7, g8⟩ := h
  refine ⟨g4, g5, fun p hp => ?_, g7, g8.i i'⟩
  obtain ⟨a, ws, w1, w2, w3, w4, w5⟩ := g6 p hp
  refine ⟨a, ws, w1, w2, ?_, w4, w5⟩
  rw [w3, if_neg (fun q : (-1 : Int32) = 0 ∧ i = nI p => absurd q.1 (by decide)), if_neg (fun q : (-1 : Int32) = 0 ∧ i' = nI p => absurd q.1 (by decide))]
theorem cE.of {σ σ' : jS} {j t : Nat} {w i : Int32} {P : jQ} (h : ∀ b k, (t ≤ b ∧ b ≤ t + 14) ∨ (j ≤ b ∧ b ≤ j + 9) → σ'.1 b k = σ.1 b k ∧ σ'.2.2 b k = σ.2.2 b k) (g : cE σ j t w i P) : cE σ' j t w i P := by
  have cT : ∀ i, i ≤ 14 → σ'.1 (t + i) = σ.1 (t + i) := fun i hi => funext fun k => (h _ k (by omega)).1
  have cJ' : ∀ i, i ≤ 9 → σ'.1 (j + i) = σ.1 (j + i) := fun i hi => funext fun k => (h _ k (by omega)).1
  have c0 : σ'.1 j = σ.1 j := cJ' 0 (by omega)
  have hE : lawE t σ σ' := ⟨cT 10 (by omega), cT 11 (by omega), cT 12 (by omega), cT 13 (by omega), cT 14 (by omega)⟩
  have t0 : σ'.1 t = σ.1 t := cT 0 (by omega)
  obtain ⟨g1, g2, g3, g4, g5, g6, g7, g8⟩ := g
  refine ⟨by rw [(h j 11 (by omega)).2]; exact g1, by rw [c0]; exact g2, by rw [c0]; exact g3, by rw [c0]; exact g4, by rw [t0]; exact g5, hE.W g6, fun k hk => ?_, g8.of (cT 2 (by omega)) (cT 4 (by omega)) (cT 5 (by omega)) hE⟩
  rw [cJ' 3 (by omega), cJ' 4 (by omega), cJ' 5 (by omega)]
  exact g7 k hk
theorem op_hours (d : Nat) (n : Int32) (σ : jS) (t : Nat) (g : jInv σ t) : opI (g_HH_hours (d + 8) n) (g_M_hours (d + 8) n) σ := by
  obtain ⟨ht, r2, r3, hT, hF, A, Pt, M, N, hte, hla, h36, hjo, hno, him⟩ := id g
  obtain ⟨H, hH, hH0⟩ := hjo.2.2.2.1
  have h107 : σ.1 107 0 = nI H := hjo.2.2.1.symm.trans hH0
  have no : ∀ q : ¬ (0 ≤ n ∧ n ≤ 300 ∧ nI H + n ≤ 3000), opI (g_HH_hours (d + 8) n) (g_M_hours (d + 8) n) σ := fun q => by
    refine ⟨-1, σ, j_setI σ 86 0 0, t, ?_, ?_, g.th 0⟩
    · show g_HH_hours (d + 8) n σ = _
      rw [e_HH_hours, q_HH_hours_0, c_within, rI_s]
      simp only [Option.bind_some]
      by_cases h : 0 ≤ n ∧ n ≤ 300
      · rw [if_pos h, jif_f (by decide), hH0, jif_f (fun z => q ⟨h.1, h.2, z⟩), q_HH_hours_1]
      · rw [if_neg h, jif_t rfl, q_HH_hours_1]
    · show g_M_hours (d + 8) n σ = _
      rw [e_M_hours, q_M_hours_0, q_M_hours_1]
      by_cases h0 : n < 0
      · rw [jif_t h0]
      rw [jif_f h0]
      by_cases h1 : 300 < n
      · rw [jif_t h1]
      rw [jif_f h1, rdI_ok (a := 107) (n := 3) (i := 0) (k := 0) rfl rfl (by omega) (by omega)]
      simp only [Option.bind_some]
      rw [setI_ne (by omega), h107, jif_f (fun z => q ⟨Int32.not_lt.mp h0, Int32.not_lt.mp h1, z⟩)]
  by_cases h : 0 ≤ n ∧ n ≤ 300
  · obtain ⟨c, hc, rfl⟩ : ∃ c, c ≤ 300 ∧ n = nI c := by
      obtain ⟨j, hj, rfl⟩ := nI_of (x := n) (Int32.not_lt.mpr h.1)
      exact ⟨j, (nI_leI hj (b := 300) (by omega)).mp h.2, rfl⟩
    by_cases hs : H + c ≤ 3000
    · have hE := cE_of hte hla.1 hjo
      have hm := mE0_of (w := -1) (i := σ.1 39 13) hte hla.1 hjo h36
      have hwJ := jJof_wf (i := σ.1 39 13) hte hjo
      have hP := jPof_wf (w := -1) (i := σ.1 39 13) hte hjo
      have eA : (jPof σ t 39 A N (-1) (σ.1 39 13)).A = A := rfl
      have eN : (jPof σ t 39 A N (-1) (σ.1 39 13)).N = N := rfl
      generalize jPof σ t 39 A N (-1) (σ.1 39 13) = P at *
      have hcJ := jJof_c eA eN hjo
      have hmJ := jJof_m eA eN hjo
      have hr : (jJof σ 39).hr = H := cl_n hH0 (by omega)
      generalize jJof σ 39 = J at *
      subst eA; subst eN
      obtain ⟨σ1, g1, g2, g3⟩ := c_passTo d (Or.inl rfl) ht hP c H (H + c) σ J rfl (by omega) (by omega) hE hcJ hwJ
      obtain ⟨σ3, q1, q2, q3, q4⟩ := m_plain0 (d + 6) σ1
      have no1 : ∀ b k, (t ≤ b ∧ b ≤ t + 14) ∨ (88 ≤ b ∧ b ≤ 113) ∨ (b = 86 ∧ k = 36) → ¬ cj_S 39 t b k := fun b k hb q => by unfold cj_S at q; rcases ht with rfl | rfl <;> omega
      have no2 : ∀ b k, (t ≤ b ∧ b ≤ t + 14) ∨ (88 ≤ b ∧ b ≤ 113) ∨ (b = 86 ∧ k = 36) ∨ (39 ≤ b ∧ b ≤ 48) → ¬ mp_S b k := fun b k hb q => by unfold mp_S at q; rcases ht with rfl | rfl <;> omega
      have m3 : mE0 σ3 t (-1) (σ3.1 86 31) P := ((hm.fr g2 (fun b k z => no1 b k (by omega))).fr q2 (fun b k z => no2 b k (by omega))).i _
      have E3 : mE σ3 t (-1) (σ3.1 86 31) P := ⟨q3, rfl, q4, m3⟩
      have mJ3 : mJ σ3 0 P J := (hmJ.of (fun b k h1 h2 _ => (g2 b k (no1 b k (by omega))).1)).of (fun b k h1 h2 _ => (q2 b k (no2 b k (by omega))).1)
      obtain ⟨σ4, p1, p2, p3⟩ := m_hours_l (d + 1) ht hP c 0 c σ3 J (by omega) (by omega) (by omega) E3 mJ3 hwJ
      rw [hr] at p1
      have no4 : ∀ b k, (t ≤ b ∧ b ≤ t + 16) ∨ (39 ≤ b ∧ b ≤ 48) ∨ (104 ≤ b ∧ b ≤ 106) ∨ (b = 86 ∧ k = 36) → ¬ mj_S 0 b k := fun b k hb q => by unfold mj_S at q; rcases ht with rfl | rfl <;> omega
      have no2' : ∀ b k, (t ≤ b ∧ b ≤ t + 16) → ¬ mp_S b k := fun b k hb q => by unfold mp_S at q; rcases ht with rfl | rfl <;> omega
      have kI : ∀ b k, (t ≤ b ∧ b ≤ t + 16) ∨ (39 ≤ b ∧ b ≤ 48) → σ4.1 b k = σ1.1 b k ∧ σ4.2.2 b k = σ1.2.2 b k := fun b k hb => by
        have x1 := p2 b k (no4 b k (by omega))
        have x2 := q2 b k (by rcases hb with hb | hb
                              · exact no2' b k hb
                              · exact no2 b k (by omega))
        exact ⟨x1.1.trans x2.1, x1.2.2.trans x2.2.2⟩
      have E1 := hE.fr (Or.inl rfl) ht g2
      have E4 : cE σ4 39 t (-1) (σ.1 39 13) P := E1.of (fun b k hb => kI b k (by omega))
      refine ⟨nI (H + c), σ1, σ4, t, ?_, ?_, ?_⟩
      · show g_HH_hours (d + 8) (nI c) σ = _
        rw [e_HH_hours, q_HH_hours_0, c_within, rI_s]
        simp only [Option.bind_some]
        rw [if_pos h, jif_f (by decide), hH0, nI_add, jif_t (show nI (H + c) ≤ (3000 : Int32) from nI_le (b := 3000) hs (by omega)), q_HH_hours_2, hH0, nI_add, e_Jo_passTo, q_Jo_passTo_0, show j_is 0 39 = true from rfl, jc_t, hH0, g1, rV_s]
        simp only [Option.bind_some]
        rw [g3.1, jIter_hr, hr]
      · show g_M_hours (d + 8) (nI c) σ1 = _
        rw [e_M_hours, q_M_hours_0, jif_f (nI_pos (by omega)), jif_f (show ¬ (300 : Int32) < nI c from nI_nlt (a := 300) (by omega) (by omega)), rdI_ok (a := 107) (n := 3) (i := 0) (k := 0) rfl rfl (by omega) (by omega)]
        simp only [Option.bind_some]
        rw [setI_ne (by omega), (g2 107 0 (no1 107 0 (by omega))).1, h107, nI_add, jif_t (show nI (H + c) ≤ (3000 : Int32) from nI_le (b := 3000) hs (by omega)), q_M_hours_2, q1, rV_s]
        simp only [Option.bind_some]
        exact p1
      · have hA1 := hte.2.2.2.1
        refine g.jr hA1 hte.1 ((g2.mono (fun b k z => cj_jr z)).tr ((q2.mono (fun b k z => Or.inl (mp_scr ht z))).tr (p2.mono (fun b k z => mj_jr ht z)))) (N' := P.N) ?_ ?_
        · rw [(p2 86 36 (no4 86 36 (by omega))).1]; exact m3.1
        · have mE4 := E3.fr ht p2
          refine iJour.of (i' := 0) hP E4 (fun k hk => mE4.2.2.2.2.2.2.1 k hk) (g3.of (fun x y hx _ => (kI (39 + x) y (by omega)).1)) p3 (wfJ.iter hP c J hwJ) (by rw [jIter_hr]; omega)
    · exact no (fun q => hs ((nI_leI (a := H + c) (b := 3000) (by omega) (by omega)).mp (by rw [← nI_add]; exact q.2.2)))
  · exact no (fun q => h ⟨q.1, q.2.1⟩)
