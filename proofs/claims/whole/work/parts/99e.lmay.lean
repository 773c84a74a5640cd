/-! Lines: a may. -/
theorem c_mayNamed (d : Nat) {u M : Nat} (hu : jTe u) (hM : M ≤ 4) (x : Int32) (σ : jS) (h0 : σ.1 u 10 = nI M) : g_Te_mayNamed (d + 2) u x σ = some (some (.int (fnd (σ.1 (u + 9)) x M 0)), σ) := by
  rw [e_Te_mayNamed, q_Te_mayNamed_0, (te_is hu).1, jc_t, jc_t, (te_cr hu).2.2.2.2.2.2.2.2.1, h0, c_placeOf d x (u + 9) 4 M (te_len hu).2.2.2.2.2.2.2.2 (by omega) hM, rI_s]
  rfl
theorem c_addMay (d : Nat) {u M : Nat} (hu : jTe u) (hM : M < 4) (x : Int32) (σ : jS) (h0 : σ.1 u 10 = nI M) : g_Te_addMay (d + 1) u x σ = some (none, j_setI (j_setI σ (u + 9) M x) u 10 (nI (M + 1))) := by
  rw [e_Te_addMay, q_Te_addMay_0, (te_is hu).1, jc_t, h0, jif_f (show ¬ (4 : Int32) ≤ nI M from nI_ge (b := 4) hM (by omega)), jc_t, jc_t, (te_cr hu).2.2.2.2.2.2.2.2.1, wrI_ok (te_len hu).2.2.2.2.2.2.2.2 rfl hM (by omega)]
  simp only [Option.bind_some]
  rw [jc_t, jc_t, setI_ne (by omega), h0, q_Te_addMay_1, nI_1]
theorem rT.may {σ σ' τ τ' : jS} {u A Pt M : Nat} (h : rT σ τ u A Pt M) (hM : M < 4) (c0 : σ'.1 u 10 = nI (M + 1)) (m0 : τ'.1 88 6 = nI (M + 1)) (cf : ∀ b j, u ≤ b → b ≤ u + 9 → ¬ (b = u ∧ j = 10) → ¬ (b = u + 9 ∧ j = M) → σ'.1 b j = σ.1 b j)
    (mf : ∀ b j, 88 ≤ b → b ≤ 97 → ¬ (b = 88 ∧ (j = 6 ∨ j = 7)) → ¬ (b = 97 ∧ j = 4 + M) → τ'.1 b j = τ.1 b j) (n1 : σ'.1 (u + 9) M = τ'.1 97 (4 + M)) : rT σ' τ' u A Pt (M + 1) := by
  obtain ⟨h1, h2, h3, h4, h5, h6, h7, h8, h9, h10, h11, h12⟩ := h
  refine ⟨h1, h2, by omega, by rw [cf _ _ (by omega) (by omega) (by omega) (by omega)]; exact h4, by rw [mf _ _ (by omega) (by omega) (by omega) (by omega)]; exact h5, by rw [cf _ _ (by omega) (by omega) (by omega) (by omega)]; exact h6, by rw [mf _ _ (by omega) (by omega) (by omega) (by omega)]; exact h7, c0, m0, fun p hp => ?_, fun k hk => ?_, fun m hk => ?_⟩
  · obtain ⟨a1, a2, a3, a4, w, a5, a6, a7⟩ := h10 p hp
    refine ⟨by rw [cf _ _ (by omega) (by omega) (by omega) (by omega), mf _ _ (by omega) (by omega) (by omega) (by omega)]; exact a1, by rw [cf _ _ (by omega) (by omega) (by omega) (by omega), mf _ _ (by omega) (by omega) (by omega) (by omega)]; exact a2, by rw [cf _ _ (by omega) (by omega) (by omega) (by omega), mf _ _ (by omega) (by omega) (by omega) (by omega)]; exact a3, by rw [cf _ _ (by omega) (by omega) (by omega) (by omega), mf _ _ (by omega) (by omega) (by omega) (by omega)]; exact a4, w, a5, by rw [cf _ _ (by omega) (by omega) (by omega) (by omega)]; exact a6, fun x hx => ?_⟩
    rw [cf _ _ (by omega) (by omega) (by omega) (by omega), mf _ _ (by omega) (by omega) (by omega) (by omega)]
    exact a7 x hx
  · obtain ⟨a1, a2, a3, a4, a5, a6⟩ := h11 k hk
    refine ⟨by rw [cf _ _ (by omega) (by omega) (by omega) (by omega), mf _ _ (by omega) (by omega) (by omega) (by omega)]; exact a1, by rw [cf _ _ (by omega) (by omega) (by omega) (by omega), mf _ _ (by omega) (by omega) (by omega) (by omega)]; exact a2, by rw [cf _ _ (by omega) (by omega) (by omega) (by omega), mf _ _ (by omega) (by omega) (by omega) (by omega)]; exact a3, by rw [cf _ _ (by omega) (by omega) (by omega) (by omega)]; exact a4, by rw [cf _ _ (by omega) (by omega) (by omega) (by omega)]; exact a5, by rw [cf _ _ (by omega) (by omega) (by omega) (by omega)]; exact a6⟩
  · by_cases e : m < M
    · rw [cf _ _ (by omega) (by omega) (by omega) (by omega), mf _ _ (by omega) (by omega) (by omega) (by omega)]; exact h12 m e
    · have e : m = M := by omega
      subst e; exact n1
/-- the reference's line of a may, behind its name, behind its E -/
noncomputable def mmB (d : Nat) (l1 : Int32) (σ6 : jS) : jR := (r_I (g_M_fresher d 3 σ6)).bind fun q7 => (j_wrI q7.2 99 (6 + l1) q7.1).bind fun σ8 => (r_V (g_M_oneMore d 2 σ8)).bind fun σ9 => b_M_line_14 d σ9
noncomputable def mmA (d : Nat) (l1 : Int32) (q2 : Int32 × jS) : jR := (j_wrI q2.2 97 (4 + l1) q2.1).bind fun σ3 => (r_I (g_M_fresher d 3 σ3)).bind fun q4 => (j_wrI q4.2 98 (6 + l1) q4.1).bind fun σ5 => (r_V (g_M_expression d σ5)).bind fun σ6 => mmB d l1 σ6
theorem mm_0 (d : Nat) (σ : jS) : b_M_line_13 d σ = (r_I (g_M_fresher d 2 σ)).bind fun q1 => (r_I (g_M_fresh d 97 4 q1.1 q1.2)).bind fun q2 => mmA d q1.1 q2 := q_M_line_13 d σ
theorem mmB_ok (d : Nat) {M : Nat} (τ : jS) (hM : M < 4) (h : τ.1 88 6 = nI M) : mmB (d + 1) (nI M) τ = b_M_line_14 (d + 1) (j_setI (j_setI τ 99 (6 + M) (τ.1 88 7)) 88 6 (nI (M + 1))) := by
  unfold mmB
  rw [fr_3, rI_s]
  simp only [Option.bind_some]
  rw [show (6 : Int32) + nI M = nI (6 + M) from nI_add 6 M, wrI_ok (a := 99) (n := 10) rfl rfl (show 6 + M < 10 by omega) (by omega)]
  simp only [Option.bind_some]
  have f := m_oneMore d 2 M (by omega) (j_setI τ 99 (6 + M) (τ.1 88 7)) (by rw [setI_ne (by omega)]; exact h)
  rw [show g_M_oneMore (d + 1) 2 _ = _ from f, rV_s]
  rfl
theorem mmA_0 (d : Nat) {M : Nat} (x : Int32) (τ : jS) (hM : M < 4) : mmA (d + 1) (nI M) (x, τ) = (r_V (g_M_expression (d + 1) (j_setI (j_setI τ 97 (4 + M) x) 98 (6 + M) (τ.1 88 7)))).bind fun σ6 => mmB (d + 1) (nI M) σ6 := by
  unfold mmA
  rw [show (4 : Int32) + nI M = nI (4 + M) from nI_add 4 M, wrI_ok (a := 97) (n := 8) rfl rfl (show 4 + M < 8 by omega) (by omega)]
  simp only [Option.bind_some]
  rw [fr_3, rI_s]
  simp only [Option.bind_some]
  rw [setI_ne (by omega), show (6 : Int32) + nI M = nI (6 + M) from nI_add 6 M, wrI_ok (a := 98) (n := 10) rfl rfl (show 6 + M < 10 by omega) (by omega)]
  rfl
theorem l_may (dc dm : Nat) {σ τ : jS} {u Ln A Pt M W : Nat} {B : Nat → Nat} {T : Tok} (hu : jTe u) (h : lS σ τ u B Ln T A Pt M W) (hT : T.1 = 13) : LB (g_Rd_mayLine (dc + 101) σ) (b_M_line_2 (dm + 132) τ) σ τ u B Ln (dm + 132) := by
  have hr := te_r hu
  have hx := h
  obtain ⟨h1, h2, h3, h4⟩ := hx
  have hM4 := h3.2.2.1
  have cM : σ.1 u 10 = nI M := h3.2.2.2.2.2.2.2.1
  have mM : τ.1 88 6 = nI M := h3.2.2.2.2.2.2.2.2.1
  have h23 : τ.1 86 23 = 0 := h2.2.2.2.2
  have w0 : τ.1 86 22 = 4 := (h2.2.2.2.1.wd (i := 4) (by omega) hT).2
  have c12 : j_cr u 12 = u + 10 := (te_cr hu).2.2.2.2.2.2.2.2.2
  rw [e_Rd_mayLine, q_Rd_mayLine_0, h1.2.2.1, (te_is hu).1, jc_t, cM, q_M_line_2, w0, jif_f (show ¬ (4 : Int32) = 0 by decide), q_M_line_3, jif_f (show ¬ (4 : Int32) = 2 by decide), q_M_line_4, jif_t (show (4 : Int32) = 4 from rfl), fr_2 _ τ mM, rI_s]
  simp only [Option.bind_some]
  by_cases hM : M < 4
  · obtain ⟨σ1, T1, a1, a2, a3, a4⟩ := c_adv (dc + 98) σ h1
    obtain ⟨τ1, b1, b2, b3⟩ := m_tok (dm + 129) τ h2 a3
    have L1 : lS σ1 τ1 u B Ln T1 A Pt M W := h.adv hu (ta_rd a2) a4 b2 b3
    have hv : σ1.1 37 2 = T1.2.2.2 := a4.1.2.2.2.2.2.2.1
    have hK1 : T1.1 < 300 := by have := a4.2.1; omega
    have cM1 : σ1.1 u 10 = nI M := L1.2.2.1.2.2.2.2.2.2.2.1
    have mM1 : τ1.1 88 6 = nI M := L1.2.2.1.2.2.2.2.2.2.2.2.1
    have F1 : jep (lcS u) σ σ1 := a2.mono (fun b j => ta_lc)
    have G1 : jep lmS τ τ1 := b2.mono (fun b j => tk_lm)
    rw [jif_t (show nI M < (4 : Int32) from nI_lt (b := 4) hM (by omega)), jif_f (show ¬ nI M = (4 : Int32) from nI_k (k := 4) (by omega) (by omega) (by omega)), q_Rd_mayLine_1, q_M_line_6, jif_f (show ¬ (4 : Int32) = 3 by decide), q_M_line_7, jif_t h23, q_M_line_8, a1, rV_s, b1, rV_s]
    simp only [Option.bind_some]
    rw [jif_f (by decide), jif_f (by decide), jif_f (by decide), jif_f (by decide), mm_0, fr_2 _ τ1 mM1, rI_s, a4.2.2.1, (te_is hu).1, jc_t, c_mayNamed (dc + 98) hu hM4 _ σ1 cM1, rI_s, hv]
    simp only [Option.bind_some]
    have fe : fnd (σ1.1 (u + 9)) T1.2.2.2 M 0 = fnd (fun k => τ1.1 97 (4 + k)) T1.2.2.2 M 0 := fnd_congr M 0 (fun k _ hk => L1.2.2.1.2.2.2.2.2.2.2.2.2.2.2 k (by omega))
    obtain ⟨n1, n2, n3⟩ := c_newName (dc + 97) (fnd (σ1.1 (u + 9)) T1.2.2.2 M 0) σ1 a4
    obtain ⟨f1, f2, f3⟩ := m_fresh (dm + 128) (a := 97) (l2 := 4) (l3 := nI M) (fnd (σ1.1 (u + 9)) T1.2.2.2 M 0) hK1 τ1 b3 (fun _ => by rw [fe]; exact m_found (dm + 130) T1.2.2.2 97 8 4 M rfl (by omega) (by omega) τ1)
    have bad : ∀ k, 1 ≤ k ∧ k ≤ 5 → (∃ σ', g_Rd_newName (dc + 100) (fnd (σ1.1 (u + 9)) T1.2.2.2 M 0) σ1 = some (some (.int 0), σ') ∧ jep rd_S σ1 σ' ∧ rdF σ' k T1.2.1) → (∃ σ', g_M_fresh (dm + 132) 97 4 (nI M) τ1 = some (some (.int 0), σ') ∧ jep md_S τ1 σ' ∧ mdF σ' k T1.2.1) → LB ((r_I (g_Rd_newName (dc + 100) (fnd (σ1.1 (u + 9)) T1.2.2.2 M 0) σ1)).bind fun q3 => jif (q3.1 = 0) (some (some (.int 0), q3.2)) (b_Rd_mayLine_2 (dc + 100) T1.2.2.2 q3.2)) ((r_I (g_M_fresh (dm + 132) 97 4 (nI M) τ1)).bind fun q2 => mmA (dm + 132) (nI M) q2) σ τ u B Ln (dm + 132) := by
      intro k hk hc hm
      obtain ⟨σ2, c1, c2, c3⟩ := hc
      obtain ⟨τ2, d1, d2, d3⟩ := hm
      have hf := d3.ne hk.1 hk.2
      have e : ∀ b j, b ≠ 97 → b ≠ 98 → (j_setI (j_setI τ2 97 (4 + M) 0) 98 (6 + M) (τ2.1 88 7)).1 b j = τ2.1 b j := fun b j q1 q2 => by rw [setI_ne q2, setI_ne q1]
      rw [c1, rI_s, d1, rI_s]
      simp only [Option.bind_some]
      rw [jif_t trivial, mmA_0 (dm + 131) 0 τ2 hM, m_exprF (dm + 126) _ (by rw [e _ _ (by omega) (by omega)]; exact hf), rV_s]
      simp only [Option.bind_some]
      rw [mmB_ok (dm + 131) _ hM (by rw [e _ _ (by omega) (by omega), (d2 88 6 (fun q => by have := q.1; omega)).1]; exact mM1)]
      exact LB.bad14 rfl rfl (F1.tr (c2.mono (fun b j => rd_lc))) (((((G1.tr (d2.mono (fun b j => md_lm))).sI (lm_in (by omega) (by omega) (show 4 ≤ 4 + M by omega))).sI (lm_in (by omega) (by omega) (show 5 ≤ 6 + M by omega))).sI (lm_in (by omega) (by omega) (show 5 ≤ 6 + M by omega))).sI (lm_in (by omega) (by omega) (show 4 ≤ 6 by omega))) hk c3 (d3.fr (fun j _ _ => by rw [setI_ne (by omega), setI_ne (by omega), e _ _ (by omega) (by omega)]))
    by_cases k16 : T1.1 = 16
    · by_cases kw : fnd (σ1.1 (u + 9)) T1.2.2.2 M 0 = -1
      · obtain ⟨σ2, T2, c1, c2, c3, c4⟩ := n1 k16 kw
        obtain ⟨τ2, d1, d2, d3⟩ := f1 k16 kw T2 c3
        have L2 : lS σ2 τ2 u B Ln T2 A Pt M W := L1.adv hu c2 c4 d2 d3
        have F2 : jep (lcS u) σ σ2 := F1.tr (c2.mono (fun b j => rd_lc))
        have G2 : jep lmS τ τ2 := G1.tr (d2.mono (fun b j => tk_lm))
        obtain ⟨g1, g2, g3, g4, g5, g6, g7, g8, g9⟩ := L2.2.2.2
        have cM2 : σ2.1 u 10 = nI M := L2.2.2.1.2.2.2.2.2.2.2.1
        have mM2 : τ2.1 88 6 = nI M := L2.2.2.1.2.2.2.2.2.2.2.2.1
        obtain ⟨σ3, hσ3⟩ : ∃ s, s = j_setI σ2 (u + 13) M (nI W) := ⟨_, rfl⟩
        obtain ⟨τ3, hτ3⟩ : ∃ t, t = j_setI (j_setI τ2 97 (4 + M) T1.2.2.2) 98 (6 + M) (nI W) := ⟨_, rfl⟩
        have cf : ∀ b j, ¬ (b = u + 13 ∧ j = M) → σ3.1 b j = σ2.1 b j := fun b j q => by rw [hσ3, setI_get, if_neg q]
        have mf : ∀ b j, ¬ (b = 97 ∧ j = 4 + M) → ¬ (b = 98 ∧ j = 6 + M) → τ3.1 b j = τ2.1 b j := fun b j q1 q2 => by rw [hτ3, setI_get, if_neg q2, setI_get, if_neg q1]
        have k3 : rdS σ3 u B Ln T2 := c4.fr (fun b j q => ⟨cf b j (by omega), by rw [hσ3]; rfl⟩)
        have m3 : mdS τ3 B Ln T2 := d3.fr (fun b j q => mf b j (by omega) (by omega))
        have X : xS σ3 τ3 u B Ln T2 W W 0 := ⟨k3, m3, Nat.le_refl _, g1, by rw [cf _ _ (by omega)]; exact g2, by rw [mf _ _ (by omega) (by omega)]; exact g3, by rw [cf _ _ (by omega)]; exact g4, by rw [mf _ _ (by omega) (by omega)]; exact g5, by omega, by rw [mf _ _ (by omega) (by omega)]; exact g6⟩
        have F3 : jep (lcS u) σ σ3 := by rw [hσ3]; exact F2.sI (Or.inr (by omega))
        have G3 : jep lmS τ τ3 := by rw [hτ3]; exact (G2.sI (lm_in (by omega) (by omega) (show 4 ≤ 4 + M by omega))).sI (lm_in (by omega) (by omega) (show 5 ≤ 6 + M by omega))
        rw [c1, rI_s, d1, rI_s]
        simp only [Option.bind_some]
        rw [jif_f (by decide), q_Rd_mayLine_2, c4.2.2.1, (te_is hu).1, jc_t, jc_t, c12, (te_is hu).2, jc_t, cM2, c_open (dc + 99) hu (by omega) σ2 g4, rV_s, ← hσ3, mmA_0 (dm + 131) _ τ2 hM, g5, ← hτ3]
        simp only [Option.bind_some]
        have nx : ∀ b j, u ≤ b → b ≤ u + 14 → ¬ (b = u + 10 ∧ (j = 0 ∨ j = 2)) → ¬ (b = u + 11 ∧ W ≤ j) → ¬ (b = u + 12 ∧ W ≤ j) → ¬ xcS u W b j := fun b j q1 q2 q3 q4 q5 q => by unfold xcS rd_S at q; omega
        have nm : ∀ b j, ¬ (b = 86 ∧ 19 ≤ j ∧ j ≤ 28) → ¬ (b = 88 ∧ j = 7) → ¬ (b = 100 ∧ 64 + W ≤ j) → ¬ (b = 101 ∧ 64 + W ≤ j) → ¬ xmS W b j := fun b j q1 q2 q3 q4 q => by unfold xmS at q; omega
        rcases x_E hu 8 0 (dc + 100) (dm + 132) W W σ3 τ3 T2 (by omega) (by omega) (by omega) X with ⟨σ4, τ4, T4, W4, x1, x2, x3, x4, x5, x6⟩ | ⟨σ4, τ4, k, pl, x1, x2, x3, x4, x5, x6, x7, x8⟩
        · have hW4 := x6.1
          obtain ⟨e1, e2, e3, e4, e5, e6, e7, e8, -, e10⟩ := x5
          rw [show W + (W4 - W) = W4 by omega] at e4 e5 e6
          have cf4 : ∀ b j, ¬ xcS u W b j → ¬ (b = u + 13 ∧ j = M) → σ4.1 b j = σ2.1 b j := fun b j q1 q2 => by rw [(x3 b j q1).1, cf b j q2]
          have mf4 : ∀ b j, ¬ xmS W b j → ¬ (b = 97 ∧ j = 4 + M) → ¬ (b = 98 ∧ j = 6 + M) → τ4.1 b j = τ2.1 b j := fun b j q1 q2 q3 => by rw [(x4 b j q1).1, mf b j q2 q3]
          have low := x_low hu x3 x4
          have tk3 : ∀ j, j < W → tokR (σ3.1 (u + 11) j) (σ3.1 (u + 12) j) (τ3.1 100 (64 + j)) (τ3.1 101 (64 + j)) := fun j hj => by
            rw [cf _ _ (by omega), cf _ _ (by omega), mf _ _ (by omega) (by omega), mf _ _ (by omega) (by omega)]; exact g7 j hj
          have tk4 := x_toks hu tk3 x3 x4 x6
          have cM4 : σ4.1 u 10 = nI M := by rw [cf4 _ _ (nx _ _ (by omega) (by omega) (by omega) (by omega) (by omega)) (by omega)]; exact cM2
          have mM4 : τ4.1 88 6 = nI M := by rw [mf4 _ _ (nm _ _ (by omega) (by omega) (by omega) (by omega)) (by omega) (by omega)]; exact mM2
          have cM5 : (j_setI σ4 (u + 14) M (nI W4)).1 u 10 = nI M := by rw [setI_ne (by omega)]; exact cM4
          have r5 : (j_setI σ4 (u + 14) M (nI W4)).2.2 36 3 = u := e1.2.2.1
          rw [show g_Rd_expression (dc + 100) 0 0 σ3 = _ from x1, rI_s, x2, rV_s]
          simp only [Option.bind_some]
          rw [e1.2.2.1, (te_is hu).1, jc_t, jc_t, c12, (te_is hu).2, jc_t, cM4, c_close (dc + 99) hu (by omega) σ4, rV_s, e7, mmB_ok (dm + 131) τ4 hM mM4, e8]
          simp only [Option.bind_some]
          rw [r5, (te_is hu).1, jc_t, c_addMay (dc + 99) hu hM T1.2.2.2 _ cM5, rV_s]
          refine Or.inl ⟨j_setI (j_setI (j_setI σ4 (u + 14) M (nI W4)) (u + 9) M T1.2.2.2) u 10 (nI (M + 1)), j_setI (j_setI τ4 99 (6 + M) (nI W4)) 88 6 (nI (M + 1)), T4, A, Pt, M + 1, W4, rfl, rfl, (((F3.tr (x3.mono (fun b j => xc_lc))).sI (Or.inr (by omega))).sI (Or.inr (by omega))).sI (Or.inr (by omega)), ((G3.tr (x4.mono (fun b j => xm_lm))).sI (lm_in (by omega) (by omega) (show 5 ≤ 6 + M by omega))).sI (lm_in (by omega) (by omega) (show 4 ≤ 6 by omega)), ⟨e1.fr (fun b j q => ⟨by rw [setI_ne (by omega), setI_ne (by omega), setI_ne (by omega)], rfl⟩), e2.fr (fun b j q => by rw [setI_ne (by omega), setI_ne (by omega)]), L2.2.2.1.may hM (setI_same _ _ _ _) (setI_same _ _ _ _) (fun b j q1 q2 q3 q4 => ?_) (fun b j q1 q2 q3 q4 => ?_) ?_, ⟨e4, ?_, ?_, ?_, ?_, ?_, fun j hj => ?_, ?_, fun m hm => ?_⟩⟩, ?_⟩
          · rw [setI_get, if_neg q3, setI_get, if_neg q4, setI_ne (by omega)]; exact cf4 b j (nx b j q1 (by omega) (by omega) (by omega) (by omega)) (by omega)
          · rw [setI_get, if_neg (by omega), setI_ne (by omega)]; exact mf4 b j (nm b j (by omega) (by omega) (by omega) (by omega)) q4 (by omega)
          · rw [setI_ne (by omega), setI_same, setI_ne (by omega), setI_ne (by omega), (x4 97 (4 + M) (nm _ _ (by omega) (by omega) (by omega) (by omega))).1, hτ3, setI_ne (by omega), setI_same]
          · rw [setI_ne (by omega), setI_ne (by omega), setI_ne (by omega)]; exact e5
          · rw [setI_ne (by omega), setI_ne (by omega)]; exact e6
          · rw [setI_ne (by omega), setI_ne (by omega), setI_ne (by omega)]; exact e7
          · rw [setI_nk (by omega), setI_ne (by omega)]; exact e8
          · rw [setI_ne (by omega), setI_ne (by omega)]; exact e10
          · rw [setI_ne (by omega), setI_ne (by omega), setI_ne (by omega), setI_ne (by omega), setI_ne (by omega), setI_ne (by omega), setI_ne (by omega), setI_ne (by omega), setI_ne (by omega), setI_ne (by omega)]; exact tk4 j hj
          · have t1 : (j_setI (j_setI (j_setI σ4 (u + 14) M (nI W4)) (u + 9) M T1.2.2.2) u 10 (nI (M + 1))).1 (u + 10) 1 = σ2.1 (u + 10) 1 := by rw [setI_ne (by omega), setI_ne (by omega), setI_ne (by omega)]; exact cf4 _ _ (nx _ _ (by omega) (by omega) (by omega) (by omega) (by omega)) (by omega)
            have t2 : ∀ b j, (b = 86 ∧ j = 29) ∨ (b = 98 ∧ j = 5) ∨ (b = 99 ∧ j = 5) → (j_setI (j_setI τ4 99 (6 + M) (nI W4)) 88 6 (nI (M + 1))).1 b j = τ2.1 b j := fun b j q => by rw [setI_ne (by omega), setI_get, if_neg (by omega)]; exact mf4 b j (nm b j (by omega) (by omega) (by omega) (by omega)) (by omega) (by omega)
            rw [t1, t2 86 29 (by omega), t2 98 5 (by omega), t2 99 5 (by omega)]
            rcases g8 with g8 | ⟨z1, z2, z3⟩
            · exact Or.inl g8
            · refine Or.inr ⟨z1, z2, (z3.fr ?_ ?_ (t2 98 5 (by omega)) (t2 99 5 (by omega)) (fun j hj => ?_)).up (by omega)⟩
              · rw [setI_ne (by omega), setI_ne (by omega), setI_ne (by omega)]; exact cf4 _ _ (nx _ _ (by omega) (by omega) (by omega) (by omega) (by omega)) (by omega)
              · rw [setI_ne (by omega), setI_ne (by omega), setI_nk (by omega)]; exact cf4 _ _ (nx _ _ (by omega) (by omega) (by omega) (by omega) (by omega)) (by omega)
              · rw [setI_ne (by omega), setI_ne (by omega), setI_ne (by omega), (low j hj).1, cf _ _ (by omega)]
          · by_cases em : m < M
            · refine ((g9 m em).fr ?_ ?_ ?_ ?_ (fun j hj => ?_)).up (by omega)
              · rw [setI_ne (by omega), setI_ne (by omega), setI_ne (by omega)]; exact cf4 _ _ (nx _ _ (by omega) (by omega) (by omega) (by omega) (by omega)) (by omega)
              · rw [setI_ne (by omega), setI_ne (by omega), setI_nk (by omega)]; exact cf4 _ _ (nx _ _ (by omega) (by omega) (by omega) (by omega) (by omega)) (by omega)
              · rw [setI_ne (by omega), setI_ne (by omega)]; exact mf4 _ _ (nm _ _ (by omega) (by omega) (by omega) (by omega)) (by omega) (by omega)
              · rw [setI_ne (by omega), setI_nk (by omega)]; exact mf4 _ _ (nm _ _ (by omega) (by omega) (by omega) (by omega)) (by omega) (by omega)
              · rw [setI_ne (by omega), setI_ne (by omega), setI_ne (by omega), (low j hj).1, cf _ _ (by omega)]
            · have em : m = M := by omega
              subst em
              refine ⟨W, W4, hW4, Nat.le_refl _, ?_, ?_, ?_, ?_, ?_⟩
              · rw [setI_ne (by omega), setI_ne (by omega), setI_ne (by omega), (x3 (u + 13) m (nx _ _ (by omega) (by omega) (by omega) (by omega) (by omega))).1, hσ3, setI_same]
              · rw [setI_ne (by omega), setI_ne (by omega), setI_same]
              · rw [show 5 + (1 + m) = 6 + m by omega, setI_ne (by omega), setI_ne (by omega), (x4 98 (6 + m) (nm _ _ (by omega) (by omega) (by omega) (by omega))).1, hτ3, setI_same]
              · rw [show 5 + (1 + m) = 6 + m by omega, setI_ne (by omega), setI_same]
              · rw [wf_cg (ll := σ4.1 (u + 11)) _ _ _ (fun j _ _ => by rw [setI_ne (by omega), setI_ne (by omega), setI_ne (by omega)])]; exact x6.2.2 0
          · rw [setI_ne (by omega), setI_ne (by omega), mf4 _ _ (nm _ _ (by omega) (by omega) (by omega) (by omega)) (by omega) (by omega), (d2 86 17 (fun q => by have := q.2; omega)).1, (b2 86 17 (fun q => by have := q.2; omega)).1]
        · have r4 : σ4.2.2 36 3 = u := by rw [(x3 36 3 (fun q => by unfold xcS rd_S at q; omega)).2.2]; exact k3.2.2.1
          have cM4 : σ4.1 u 10 = nI M := by rw [(x3 _ _ (nx _ _ (by omega) (by omega) (by omega) (by omega) (by omega))).1, cf _ _ (by omega)]; exact cM2
          have mM4 : τ4.1 88 6 = nI M := by rw [(x4 _ _ (nm _ _ (by omega) (by omega) (by omega) (by omega))).1, mf _ _ (by omega) (by omega)]; exact mM2
          have cM5 : (j_setI σ4 (u + 14) M (σ4.1 (u + 10) 2)).1 u 10 = nI M := by rw [setI_ne (by omega)]; exact cM4
          have r5 : (j_setI σ4 (u + 14) M (σ4.1 (u + 10) 2)).2.2 36 3 = u := r4
          rw [show g_Rd_expression (dc + 100) 0 0 σ3 = _ from x1, rI_s, x2, rV_s]
          simp only [Option.bind_some]
          rw [r4, (te_is hu).1, jc_t, jc_t, c12, (te_is hu).2, jc_t, cM4, c_close (dc + 99) hu (by omega) σ4, rV_s, mmB_ok (dm + 131) τ4 hM mM4]
          simp only [Option.bind_some]
          rw [r5, (te_is hu).1, jc_t, c_addMay (dc + 99) hu hM T1.2.2.2 _ cM5, rV_s]
          exact LB.bad14 (σ' := j_setI (j_setI (j_setI σ4 (u + 14) M (σ4.1 (u + 10) 2)) (u + 9) M T1.2.2.2) u 10 (nI (M + 1))) rfl rfl ((((F3.tr (x3.mono (fun b j => xc_lc))).sI (Or.inr (by omega))).sI (Or.inr (by omega))).sI (Or.inr (by omega))) (((G3.tr (x4.mono (fun b j => xm_lm))).sI (lm_in (by omega) (by omega) (show 5 ≤ 6 + M by omega))).sI (lm_in (by omega) (by omega) (show 4 ≤ 6 by omega))) ⟨x5, x6⟩ (x7.fr (fun j _ => by rw [setI_ne (by omega), setI_ne (by omega), setI_ne (by omega)])) (x8.fr (fun j _ _ => by rw [setI_ne (by omega), setI_ne (by omega)]))
      · exact bad 3 (by omega) (n3 k16 kw) (f3 k16 kw)
    · exact bad 1 (by omega) (n2 k16) (f2 k16)
  · have e4 : M = 4 := by omega
    obtain ⟨σ', q1, q2, q3⟩ := c_fails (dc + 99) 2 σ h1
    obtain ⟨τ', p1, p2, p3⟩ := m_wrong (dm + 131) 2 τ h2
    rw [jif_f (show ¬ nI M < (4 : Int32) from nI_nlt (b := 4) (by omega) (by omega)), jif_t (show nI M = (4 : Int32) by rw [e4]; rfl), show g_Rd_fails (dc + 100) 2 σ = _ from q1, rI_s, q_M_line_5, show g_M_wrong (dm + 132) 2 τ = _ from p1, rV_s]
    simp only [Option.bind_some]
    rw [q_M_line_7, jif_f (p3.ne (by omega) (by omega))]
    exact LB.bad rfl rfl (q2.mono (fun b j => rd_lc)) (p2.mono (fun b j => md_lm)) (by omega) q3 p3
