/-! 9: rest; 31: keep; 32: again. -/
noncomputable def jRestN (P : jQ) : Nat → Nat → jJ → Int32
  | 0, _, _ => -2
  | c + 1, a, J => @ite _ (∀ k, k < P.N → J.st k = 2) (Classical.propDecidable _) (nI a) (jRestN P c (a + 1) (jPass P J))
theorem cntS_n {f : Nat → Int32} {x : Int32} : ∀ (m i a : Nat), ∃ n, n ≤ m ∧ cntS f x m i (nI a) = nI (a + n) ∧ (n = m ↔ ∀ k, i ≤ k → k < i + m → f k = x)
  | 0, i, a => ⟨0, Nat.le_refl _, rfl, ⟨fun _ k h1 h2 => absurd h2 (by omega), fun _ => rfl⟩⟩
  | m + 1, i, a => by
    unfold cntS
    by_cases h : f i = x
    · rw [if_pos h, nI_1]
      obtain ⟨n, n1, n2, n3⟩ := cntS_n (f := f) (x := x) m (i + 1) (a + 1)
      refine ⟨n + 1, by omega, by rw [n2]; congr 1; omega, ?_⟩
      refine ⟨fun q k h1 h2 => ?_, fun q => ?_⟩
      · by_cases e : k = i
        · subst e; exact h
        · exact n3.mp (by omega) k (by omega) (by omega)
      · have := n3.mpr (fun k h1 h2 => q k (by omega) (by omega))
        omega
    · rw [if_neg h]
      obtain ⟨n, n1, n2, n3⟩ := cntS_n (f := f) (x := x) m (i + 1) a
      refine ⟨n, by omega, n2, ⟨fun q => absurd q (by omega), fun q => absurd (q i (by omega) (by omega)) h⟩⟩
theorem c_rest_l (d : Nat) {j t : Nat} {w i : Int32} {P : jQ} (hj : jJo j) (ht : jTe t) (hP : wfP P) : ∀ (c a : Nat) (σ : jS) (J : jJ), a + c = 3001 → J.hr + c < 2 ^ 30 → cE σ j t w i P → cJ σ j P J → wfJ P J 0 →
    ∃ σ', b_Jo_hoursTillRest_1 (d + 6) j (nI a) σ = some (some (.int (jRestN P c a J)), σ') ∧ jep (cj_S j t) σ σ'
  | 0, a, σ, J, ha, hH, hE, hJ, hw => by
    rw [q_Jo_hoursTillRest_1, jif_t (show (3000 : Int32) < nI a from nI_lt (a := 3000) (by omega) (by omega)), q_Jo_hoursTillRest_3]
    exact ⟨σ, rfl, jep.rf⟩
  | c + 1, a, σ, J, ha, hH, hE, hJ, hw => by
    have hN := hP.N30
    rw [q_Jo_hoursTillRest_1, jif_f (show ¬ (3000 : Int32) < nI a from nI_nlt (a := 3000) (by omega) (by omega))]
    simp only [jo_is hj, jc_t]
    have hin : g_Jo_inState (d + 6) j 2 σ = some (some (.int (cntS (σ.1 (j + 6)) 2 P.N 0 (nI 0))), σ) := by
      rw [e_Jo_inState, q_Jo_inState_0]
      exact c_inState_l (d + 5) hj 2 σ hE.2.2.2.1 hN P.N 0 0 (by omega)
    obtain ⟨n, n1, n2, n3⟩ := cntS_n (f := σ.1 (j + 6)) (x := 2) P.N 0 0
    rw [hin, rI_s]
    simp only [Option.bind_some]
    rw [n2, hE.2.2.2.1, Nat.zero_add]
    have hall : n = P.N ↔ ∀ k, k < P.N → J.st k = 2 := by
      rw [n3]
      refine ⟨fun q k hk => ?_, fun q k _ hk => ?_⟩
      · have z := q k (by omega) (by omega)
        rw [hJ.2.2.2.1 k hk] at z
        have : J.st k < 2 ^ 31 := by rcases hw.pa k hk with z | z | z <;> omega
        exact (nI_eq (b := 2) this (by omega)).mp z
      · rw [hJ.2.2.2.1 k (by omega), q k (by omega)]; rfl
    unfold jRestN
    by_cases q : ∀ k, k < P.N → J.st k = 2
    · rw [jif_t (congrArg nI (hall.mpr q)), if_pos q]
      exact ⟨σ, rfl, jep.rf⟩
    · rw [jif_f (fun z => q (hall.mp (nI_inj (by omega) (by omega) z))), if_neg q, q_Jo_hoursTillRest_2, jo_is hj, jc_t]
      obtain ⟨σ1, g1, g2, g3⟩ := c_pass d hj ht hP σ J hE hJ hw (by omega)
      rw [g1, rV_s]
      simp only [Option.bind_some]
      rw [nI_1]
      obtain ⟨σ2, p1, p2⟩ := c_rest_l d hj ht hP c (a + 1) σ1 (jPass P J) (by omega) (by rw [jPass_hr]; omega) (hE.fr hj ht g2) g3 (wfJ.pass hP hw)
      exact ⟨σ2, p1, g2.tr p2⟩
theorem m_allRest (d : Nat) {h t : Nat} {w i : Int32} {P : jQ} {σ : jS} {J : jJ} (hh : h < 3) (hN : P.N ≤ 30) (hE : mE σ t w i P) (hJ : mJ σ h P J) (hst : ∀ k, k < P.N → J.st k < 2 ^ 31) : ∀ (c a : Nat), a + c = P.N → b_M_isAllRest_1 d (nI h) (nI a) σ = some (some (.int (b2i (∀ k, a ≤ k → k < P.N → J.st k = 2))), σ)
  | 0, a, ha => by
    rw [q_M_isAllRest_1, hE.2.2.2.1, jif_t (nI_le (by omega) (by omega)), q_M_isAllRest_3, b2i_t (fun k h1 h2 => absurd h2 (by omega))]
  | c + 1, a, ha => by
    rw [q_M_isAllRest_1, hE.2.2.2.1, jif_f (nI_ge (by omega) (by omega)), nI_30, rdI_ok (a := 110) (n := 90) rfl rfl (by omega) (by omega)]
    simp only [Option.bind_some]
    rw [hJ.2.2.2.1 a (by omega)]
    by_cases q : J.st a = 2
    · rw [jif_t (show nI (J.st a) = 2 by rw [q]; rfl), q_M_isAllRest_2, nI_1, m_allRest d hh hN hE hJ hst c (a + 1) (by omega)]
      by_cases z : ∀ k, a + 1 ≤ k → k < P.N → J.st k = 2
      · rw [b2i_t z, b2i_t (fun k h1 h2 => by
          by_cases e : k = a
          · subst e; exact q
          · exact z k (by omega) h2)]
      · rw [b2i_f z, b2i_f (fun y => z (fun k h1 h2 => y k (by omega) h2))]
    · rw [jif_f (show ¬ nI (J.st a) = 2 from fun z => q ((nI_eq (b := 2) (hst a (by omega)) (by omega)).mp z)), b2i_f (fun y => q (y a (by omega) (by omega)))]
theorem m_rest_l (d : Nat) {t : Nat} {w i : Int32} {P : jQ} (ht : jTe t) (hP : wfP P) : ∀ (c a : Nat) (σ : jS) (J : jJ), a + c = 3001 → J.hr + c < 2 ^ 30 → mE σ t w i P → mJ σ 1 P J → wfJ P J 0 →
    ∃ σ', b_M_rest_1 (d + 6) (nI a) σ = some (some (.int (jRestN P c a J)), σ') ∧ jep (mj_S 1) σ σ'
  | 0, a, σ, J, ha, hH, hE, hJ, hw => by
    rw [q_M_rest_1, jif_t (show (3000 : Int32) < nI a from nI_lt (a := 3000) (by omega) (by omega)), q_M_rest_3]
    exact ⟨σ, rfl, jep.rf⟩
  | c + 1, a, σ, J, ha, hH, hE, hJ, hw => by
    have hN := hP.N30
    rw [q_M_rest_1, jif_f (show ¬ (3000 : Int32) < nI a from nI_nlt (a := 3000) (by omega) (by omega))]
    have hst : ∀ k, k < P.N → J.st k < 2 ^ 31 := fun k hk => by rcases hw.pa k hk with z | z | z <;> omega
    have hr : g_M_isAllRest (d + 6) 1 σ = some (some (.int (b2i (∀ k, 0 ≤ k → k < P.N → J.st k = 2))), σ) := by
      rw [e_M_isAllRest, q_M_isAllRest_0]
      exact m_allRest (d + 5) (h := 1) (by omega) hN hE hJ hst P.N 0 (by omega)
    rw [hr, rI_s]
    simp only [Option.bind_some]
    unfold jRestN
    by_cases q : ∀ k, k < P.N → J.st k = 2
    · rw [b2i_t (fun k _ hk => q k hk), jif_f (by decide), if_pos q]
      exact ⟨σ, rfl, jep.rf⟩
    · rw [b2i_f (fun z => q (fun k hk => z k (by omega) hk)), jif_t rfl, if_neg q, q_M_rest_2]
      obtain ⟨σ1, g1, g2, g3⟩ := m_passes d (h := 1) (by omega) ht hP σ J hE hJ hw (by omega)
      have g1' : g_M_passes (d + 6) 1 σ = some (none, σ1) := g1
      rw [g1', rV_s]
      simp only [Option.bind_some]
      rw [nI_1]
      obtain ⟨σ2, p1, p2⟩ := m_rest_l d ht hP c (a + 1) σ1 (jPass P J) (by omega) (by rw [jPass_hr]; omega) (hE.fr ht g2) g3 (wfJ.pass hP hw)
      exact ⟨σ2, p1, g2.tr p2⟩
theorem mj1_scr {t b k : Nat} (ht : jTe t) (h : mj_S 1 b k) : jScr t b k := by
  unfold mj_S at h
  rcases h with h | h | h | h | h | h
  · obtain ⟨rfl, rfl⟩ := h; rcases ht with rfl | rfl <;> simp [jScr]
  · obtain ⟨h1, h2, h3, h4⟩ := h
    have hb : b = 108 ∨ b = 109 := by omega
    have hk : 10 ≤ k ∧ k < 20 := by omega
    rcases hb with rfl | rfl <;> rcases ht with rfl | rfl <;> simp [jScr, hk.1, hk.2]
  · obtain ⟨h1, h2, h3, h4⟩ := h
    have hb : b = 110 ∨ b = 111 ∨ b = 112 ∨ b = 113 := by omega
    have hk : 30 ≤ k ∧ k < 60 := by omega
    rcases hb with rfl | rfl | rfl | rfl <;> rcases ht with rfl | rfl <;> simp [jScr, hk.1, hk.2]
  · subst h; rcases ht with rfl | rfl <;> simp [jScr]
  · subst h; rcases ht with rfl | rfl <;> simp [jScr]
  · obtain ⟨rfl, rfl⟩ := h; rcases ht with rfl | rfl <;> simp [jScr]
theorem tr_scr {t b k : Nat} (ht : jTe t) (h : 59 ≤ b ∧ b ≤ 77) : jScr t b k := by
  unfold jScr
  right; right; right; right; right; left
  exact h
theorem cj59_scr {t b k : Nat} (ht : jTe t) (h : cj_S 59 t b k) : jScr t b k := by
  unfold cj_S at h
  by_cases e : b = t + 15 ∨ b = t + 16
  · exact la_scr e
  · exact tr_scr ht (by omega)
theorem mc1_mj {b k : Nat} (h : mc_S 1 b k) : mj_S 1 b k := by
  rcases h with h | h | h
  · exact Or.inl h
  · exact Or.inr (Or.inl h)
  · exact Or.inr (Or.inr (Or.inl h))
theorem op_rest (d : Nat) (σ : jS) (t : Nat) (g : jInv σ t) : opI (g_HH_rest (d + 8)) (g_M_rest (d + 8)) σ := by
  obtain ⟨ht, r2, r3, hT, hF, A, Pt, M, N, hte, hla, h36, hjo, hno, him⟩ := id g
  obtain ⟨H, hH, hH0⟩ := hjo.2.2.2.1
  have hE := cE_of hte hla.1 hjo
  have hm := mE0_of (w := -1) (i := σ.1 39 13) hte hla.1 hjo h36
  have hwJ := jJof_wf (i := σ.1 39 13) hte hjo
  have hP := jPof_wf (w := -1) (i := σ.1 39 13) hte hjo
  have eA : (jPof σ t 39 A N (-1) (σ.1 39 13)).A = A := rfl
  have eN : (jPof σ t 39 A N (-1) (σ.1 39 13)).N = N := rfl
  generalize jPof σ t 39 A N (-1) (σ.1 39 13) = P at *
  have hcJ := jJof_c eA eN hjo
  have hmJ := jJof_m eA eN hjo
  have hr : (jJof σ 39).hr = H := cl_n hH0 (by omega)
  generalize jJof σ 39 = J at *
  subst eA; subst eN
  have hA := hP.A10
  have hN := hP.N30
  obtain ⟨σ1, c1, c2, c3, c4, c5, c6, c7, c8, c9⟩ := c_copyFrom (d + 6) (j0 := 59) (j1 := 39) (Or.inl ⟨rfl, rfl⟩) σ
  obtain ⟨e1, e2, e3, e4, e5, e6, e7, e8⟩ := hE
  have cT : ∀ i, i ≤ 14 → σ1.1 (t + i) = σ.1 (t + i) := fun i hi => c2.cellI (fun k q => by rcases ht with rfl | rfl <;> omega)
  have hEt : lawE t σ σ1 := ⟨cT 10 (by omega), cT 11 (by omega), cT 12 (by omega), cT 13 (by omega), cT 14 (by omega)⟩
  have t0 : σ1.1 t = σ.1 t := cT 0 (by omega)
  have E1 : cE σ1 59 t (-1) (σ.1 39 13) P := by
    refine ⟨c3.trans e1, c6.trans e2, c7, c5.trans e4, by rw [t0]; exact e5, hEt.W e6, fun k hk => ?_, e8.of (cT 2 (by omega)) (cT 4 (by omega)) (cT 5 (by omega)) hEt⟩
    obtain ⟨x1, x2, x3, -⟩ := c9 k (by omega)
    exact ⟨x1.trans (e7 k hk).1, x2.trans (e7 k hk).2.1, x3.trans (e7 k hk).2.2⟩
  have J1 : cJ σ1 59 P J := by
    obtain ⟨a0, a1, a2, a3, a4, a5, a6⟩ := hcJ
    exact ⟨c4.trans a0, fun p hp => (c8 p (by omega)).1.trans (a1 p hp), fun p hp => (c8 p (by omega)).2.trans (a2 p hp), fun k hk => (c9 k (by omega)).2.2.2.1.trans (a3 k hk), fun k hk => (c9 k (by omega)).2.2.2.2.1.trans (a4 k hk), fun k hk => (c9 k (by omega)).2.2.2.2.2.1.trans (a5 k hk), fun k hk => (c9 k (by omega)).2.2.2.2.2.2.trans (a6 k hk)⟩
  obtain ⟨σ2, g1, g2⟩ := c_rest_l d (Or.inr (Or.inr rfl)) ht hP 3001 0 σ1 J (by omega) (by omega) E1 J1 hwJ
  have s2 : jep (jScr t) σ σ2 := (c2.mono (fun b k q => tr_scr ht (by omega))).tr (g2.mono (fun b k q => cj59_scr ht q))
  have k2 : ∀ b k, (t ≤ b ∧ b ≤ t + 14) ∨ (88 ≤ b ∧ b ≤ 113) ∨ (b = 86 ∧ k = 36) → σ2.1 b k = σ.1 b k ∧ σ2.2.1 b k = σ.2.1 b k ∧ σ2.2.2 b k = σ.2.2 b k := fun b k hb => by
    have z1 := g2 b k (fun q => by unfold cj_S at q; rcases ht with rfl | rfl <;> omega)
    have z2 := c2 b k (fun q => by rcases ht with rfl | rfl <;> omega)
    exact ⟨z1.1.trans z2.1, z1.2.1.trans z2.2.1, z1.2.2.trans z2.2.2⟩
  obtain ⟨σ3, q1, q2, q3, q4⟩ := m_plain0 (d + 6) σ2
  obtain ⟨σ4, w1, w2, w3, w4, w5⟩ := m_copies (d + 6) (x := 1) (y := 0) (by omega) (by omega) (by omega) σ3
  have k4 : ∀ b k, (t ≤ b ∧ b ≤ t + 14) ∨ (88 ≤ b ∧ b ≤ 106) ∨ (b = 86 ∧ k = 36) → σ4.1 b k = σ.1 b k ∧ σ4.2.1 b k = σ.2.1 b k ∧ σ4.2.2 b k = σ.2.2 b k := fun b k hb => by
    have z1 := w2 b k (fun q => by unfold mc_S at q; rcases ht with rfl | rfl <;> omega)
    have z2 := q2 b k (fun q => by unfold mp_S at q; rcases ht with rfl | rfl <;> omega)
    have z3 := k2 b k (by omega)
    exact ⟨(z1.1.trans z2.1).trans z3.1, (z1.2.1.trans z2.2.1).trans z3.2.1, (z1.2.2.trans z2.2.2).trans z3.2.2⟩
  have m4 : mE0 σ4 t (-1) (σ4.1 86 31) P := (hm.fr (S := fun b k => ¬ ((t ≤ b ∧ b ≤ t + 14) ∨ (88 ≤ b ∧ b ≤ 106) ∨ (b = 86 ∧ k = 36))) (fun b k hb => k4 b k (Decidable.not_not.mp hb)) (fun b k hb q => q (by omega))).i _
  have E4 : mE σ4 t (-1) (σ4.1 86 31) P := ⟨by rw [(w2 86 30 (fun q => by unfold mc_S at q; omega)).1]; exact q3, rfl, by rw [(w2 86 32 (fun q => by unfold mc_S at q; omega)).1]; exact q4, m4⟩
  have h3 : ∀ b k, 107 ≤ b → b ≤ 113 → σ3.1 b k = σ.1 b k := fun b k h1 h2 => by
    rw [(q2 b k (fun q => by unfold mp_S at q; omega)).1, (k2 b k (by omega)).1]
  have J4 : mJ σ4 1 P J := by
    obtain ⟨a0, a1, a2, a3, a4, a5, a6⟩ := hmJ
    refine ⟨?_, fun p hp => ?_, fun p hp => ?_, fun k hk => ?_, fun k hk => ?_, fun k hk => ?_, fun k hk => ?_⟩
    · rw [w3, h3 _ _ (by omega) (by omega)]; exact a0
    · rw [(w4 p (by omega)).1, h3 _ _ (by omega) (by omega)]; exact a1 p hp
    · rw [(w4 p (by omega)).2, h3 _ _ (by omega) (by omega)]; exact a2 p hp
    · rw [w5 k (by omega) 110 (by omega) (by omega), h3 _ _ (by omega) (by omega)]; exact a3 k hk
    · rw [w5 k (by omega) 111 (by omega) (by omega), h3 _ _ (by omega) (by omega)]; exact a4 k hk
    · rw [w5 k (by omega) 112 (by omega) (by omega), h3 _ _ (by omega) (by omega)]; exact a5 k hk
    · rw [w5 k (by omega) 113 (by omega) (by omega), h3 _ _ (by omega) (by omega)]; exact a6 k hk
  obtain ⟨σ5, p1, p2⟩ := m_rest_l (d + 1) ht hP 3001 0 σ4 J (by omega) (by omega) E4 J4 hwJ
  refine ⟨jRestN P 3001 0 J, σ2, σ5, t, ?_, ?_, ?_⟩
  · show g_HH_rest (d + 8) σ = _
    have g1' : b_Jo_hoursTillRest_1 (d + 6) 59 0 σ1 = some (some (.int (jRestN P 3001 0 J)), σ2) := g1
    rw [e_HH_rest, q_HH_rest_0, c1, rV_s]
    simp only [Option.bind_some]
    rw [e_Jo_hoursTillRest, q_Jo_hoursTillRest_0, g1', rI_s]
    rfl
  · show g_M_rest (d + 8) σ2 = _
    have w1' : g_M_copies (d + 7) 1 0 σ3 = some (none, σ4) := w1
    rw [e_M_rest, q_M_rest_0, q1, rV_s]
    simp only [Option.bind_some]
    rw [w1', rV_s]
    exact p1
  · exact ((g.scr s2).scr (q2.mono (fun b k q => mp_scr ht q))).scr ((w2.mono (fun b k q => mj1_scr ht (mc1_mj q))).tr (p2.mono (fun b k q => mj1_scr ht q)))
theorem iJour.copy {σ σ' : jS} {t A j h N fr j' h' fr' : Nat} (g : iJour σ t A j h N fr) (hA : A ≤ 10) (e3 : σ'.1 j' 3 = σ.1 j 3) (e0 : σ'.1 j' 0 = σ.1 j 0) (e107 : σ'.1 107 h' = σ.1 107 h) (e11 : σ'.2.2 j' 11 = σ.2.2 j 11) (e12 : σ'.1 j' 12 = σ.1 j 12) (et : σ'.1 (t + 4) = σ.1 (t + 4))
    (ep : ∀ p, p < 10 → σ'.1 (j' + 1) p = σ.1 (j + 1) p ∧ σ'.1 (j' + 2) p = σ.1 (j + 2) p ∧ σ'.1 108 (10 * h' + p) = σ.1 108 (10 * h + p) ∧ σ'.1 109 (10 * h' + p) = σ.1 109 (10 * h + p))
    (ek : ∀ k, k < N → (σ'.1 (j' + 3) k = σ.1 (j + 3) k ∧ σ'.1 (j' + 4) k = σ.1 (j + 4) k ∧ σ'.1 (j' + 5) k = σ.1 (j + 5) k ∧ σ'.1 (j' + 6) k = σ.1 (j + 6) k ∧ σ'.1 (j' + 7) k = σ.1 (j + 7) k ∧ σ'.1 (j' + 8) k = σ.1 (j + 8) k ∧ σ'.1 (j' + 9) k = σ.1 (j + 9) k) ∧ (σ'.1 fr' k = σ.1 fr k ∧ σ'.1 (fr' + 1) k = σ.1 (fr + 1) k ∧ σ'.1 (fr' + 2) k = σ.1 (fr + 2) k) ∧ ∀ b, 110 ≤ b → b ≤ 113 → σ'.1 b (30 * h' + k) = σ.1 b (30 * h + k)) : iJour σ' t A j' h' N fr' := by
  obtain ⟨g1, g2, g3, g4, g5, g6, g7, g8⟩ := g
  refine ⟨g1, e3.trans g2, by rw [e0, e107]; exact g3, by rw [e0]; exact g4, e11.trans g5, e12.trans g6, fun p hp => ?_, fun k hk => ?_⟩
  · obtain ⟨x1, x2, x3, x4⟩ := ep p (by omega)
    rw [x1, x2, x3, x4, et]
    exact g7 p hp
  · obtain ⟨⟨x1, x2, x3, x4, x5, x6, x7⟩, ⟨y1, y2, y3⟩, z⟩ := ek k hk
    rw [x1, x2, x3, x4, x5, x6, x7, y1, y2, y3, z 110 (by omega) (by omega), z 111 (by omega) (by omega), z 112 (by omega) (by omega), z 113 (by omega) (by omega), e0]
    exact g8 k hk
