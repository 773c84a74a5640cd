/-! Expressions: comparisons, denials, operands; the whole. -/
theorem x_cmp (dc dm : Nat) {u Ln op W KN : Nat} {B : Nat → Nat} {T : Tok} (hu : jTe u) {σ τ : jS} (h : xS σ τ u B Ln T W KN op)
    (hS : ∀ σ τ T W KN', KN ≤ KN' → xS σ τ u B Ln T W KN' op → xO (g_Rd_expression (dc + 3) 4 (nI op) σ) (g_M_sum (dm + 4) τ) σ τ u B Ln W KN' op) :
    xO (g_Rd_expression (dc + 4) 3 (nI op) σ) (b_M_negation_1 (dm + 4) τ) σ τ u B Ln W KN op := by
  rw [e_Rd_expression, q_Rd_expression_0, jif_f (by decide), q_Rd_expression_1, jif_t (by decide), q_Rd_expression_2, q_M_negation_1, show (3 : Int32) + 1 = 4 from rfl]
  rcases hS σ τ T W KN (Nat.le_refl _) h with ⟨σ2, τ3, T2, W2, b1, b2, b3, b4, b5, b6⟩ | ⟨σ2, τ3, k, pl, b1, b2, b3, b4, b5, b6, b7, b8⟩
  · rw [b1, b2, rI_s, rV_s]
    simp only [Option.bind_some]
    have hW := b6.1
    have hx := b5
    obtain ⟨h1, h2, h3, h4, h5, h6, h7, h8, h9, h10⟩ := hx
    have hT : T2.1 ≤ 258 := h1.2.1
    have h37 : σ2.1 37 0 = nI T2.1 := h1.1.2.2.2.1
    have hR : mR T2.1 T2.2.2.2 (τ3.1 86 21) (τ3.1 86 22) := h2.2.2.2.1
    rw [jif_f (by decide), q_Rd_expression_3, jif_t rfl, q_Rd_expression_5, q_Rd_expression_6, jif_f (by decide), h37, show g_Rd_joins (dc + 3) 3 (nI T2.1) σ2 = _ from c_joins3 dc σ2 T2.1 hT, rI_s, jif_t h2.2.2.2.2]
    simp only [Option.bind_some]
    by_cases hj : cmpK T2.1
    · have hK20 : 20 ≤ T2.1 := by unfold cmpK at hj; omega
      obtain ⟨r1, r2⟩ := hR.sg hK20
      have st : (jif ((τ3.1 86 22) = 60) (b_M_negation_3 (dm + 4) τ3) (jif ((τ3.1 86 22) = 62) (b_M_negation_3 (dm + 4) τ3) (jif ((τ3.1 86 22) = 61) (b_M_negation_3 (dm + 4) τ3) (jif (256 ≤ (τ3.1 86 22)) (b_M_negation_3 (dm + 4) τ3) (b_M_negation_2 (dm + 4) τ3))))) = b_M_negation_3 (dm + 4) τ3 := by
        by_cases q1 : τ3.1 86 22 = 60
        · rw [jif_t q1]
        rw [jif_f q1]
        by_cases q2 : τ3.1 86 22 = 62
        · rw [jif_t q2]
        rw [jif_f q2]
        by_cases q3 : τ3.1 86 22 = 61
        · rw [jif_t q3]
        rw [jif_f q3, jif_t]
        have a0 : ¬ T2.1 = 60 := fun z => q1 (by rw [r2, z]; rfl)
        have a1 : ¬ T2.1 = 62 := fun z => q2 (by rw [r2, z]; rfl)
        have a2 : ¬ T2.1 = 61 := fun z => q3 (by rw [r2, z]; rfl)
        rw [r2]
        unfold cmpK at hj
        exact nI_le (a := 256) (by omega) (by omega)
      have hop : lw_op (nI T2.1) := by
        unfold cmpK at hj
        rcases (show T2.1 = 60 ∨ T2.1 = 61 ∨ T2.1 = 62 ∨ T2.1 = 256 ∨ T2.1 = 257 ∨ T2.1 = 258 by omega) with z | z | z | z | z | z <;> rw [z] <;> unfold lw_op <;> decide
      rw [b2i_t hj, jif_f (by decide), jif_t r1, st, q_M_negation_3]
      rcases x_knot dc dm hu b5 with ⟨σ3, τ4, τ5, T3, a1, a2, a3, a4, a5, a6⟩ | ⟨σ3, τ4, pl, a1, a2, a3, a4, a5, a6⟩
      · rw [a1, a2, rI_s, rV_s]
        simp only [Option.bind_some]
        rw [jif_f (by decide), a3, rV_s]
        simp only [Option.bind_some]
        rw [show (3 : Int32) + 1 = 4 from rfl]
        rcases hS σ3 τ5 T3 W2 (KN + (W2 - W) + 1) (by omega) a6 with ⟨σ4, τ6, T4, W4, c1, c2, c3, c4, c5, c6⟩ | ⟨σ4, τ6, k, pl, c1, c2, c3, c4, c5, c6, c7, c8⟩
        · rw [c1, c2, rI_s, rV_s]
          simp only [Option.bind_some]
          have hW4 := c6.1
          rw [jif_f (by decide), q_Rd_expression_8, c5.1.2.2.1, (te_is hu).1, jc_t, (te_cr hu).2.2.2.2.2.2.2.2.2, (te_is hu).2, jc_t, h37, r2]
          obtain ⟨σ5, τ7, d1, d2, d3, d4, d5, d6, d7, d8, d9, d10⟩ := x_write (dc + 2) (dm + 2) hu (nI T2.1) 0 2 (nI T2.1) c5 (by omega)
          rw [d1, d2, rV_s, rV_s]
          simp only [Option.bind_some]
          rw [q_Rd_expression_6, jif_t (by decide), q_Rd_expression_9]
          have p0 : xP σ5 τ7 u W W2 := ((b6.keep (x_low hu a4 a5)).keep (x_low hu c3 c4)).keep (fun j hj => d10 j (by omega))
          have p1 : xP σ5 τ7 u W2 W4 := c6.keep d10
          refine Or.inl ⟨σ5, τ7, T4, W4 + 1, rfl, rfl, ((b3.tr (a4.mono (xcS.m (by omega)))).tr (c3.mono (xcS.m (by omega)))).tr (d3.mono (xcS.m (by omega))), ((b4.tr (a5.mono (xmS.m (by omega)))).tr (c4.mono (xmS.m (by omega)))).tr (d4.mono (xmS.m (by omega))), ?_, xP.bin p0 p1 (by rw [d6]; exact hop) (by rw [d6, d7, d8, d9]; exact Or.inr (Or.inr (Or.inr ⟨hop, rfl, (lw_cd_sg hK20 hT).symm⟩)))⟩
          rw [show KN + (W4 + 1 - W) = KN + (W2 - W) + 1 + (W4 - W2) by omega]
          exact d5
        · have hf := c8.ne c5 c6
          rw [c1, c2, rI_s, rV_s]
          simp only [Option.bind_some]
          rw [jif_t trivial, q_Rd_expression_7, m_putsF _ _ _ _ hf, rV_s]
          exact Or.inr ⟨σ4, τ6, k, pl, rfl, rfl, (b3.tr (a4.mono (xcS.m (by omega)))).tr (c3.mono (xcS.m (by omega))), (b4.tr (a5.mono (xmS.m (by omega)))).tr (c4.mono (xmS.m (by omega))), c5, c6, c7, c8⟩
      · have hf := a6.ne (by omega) (by omega)
        rw [a1, a2, rI_s, rV_s]
        simp only [Option.bind_some]
        rw [jif_t trivial, q_Rd_expression_7, m_goOnF _ _ hf, rV_s]
        simp only [Option.bind_some]
        rw [m_sumF _ _ hf, rV_s]
        simp only [Option.bind_some]
        rw [m_putsF _ _ _ _ hf, rV_s]
        exact Or.inr ⟨σ3, τ4, 2, pl, rfl, rfl, b3.tr (a3.mono (xcS.m (by omega))), b4.tr (a4.mono (xmS.m (by omega))), by omega, by omega, a5, a6⟩
    · have st : (jif ((τ3.1 86 21) = 3) (jif ((τ3.1 86 22) = 60) (b_M_negation_3 (dm + 4) τ3) (jif ((τ3.1 86 22) = 62) (b_M_negation_3 (dm + 4) τ3) (jif ((τ3.1 86 22) = 61) (b_M_negation_3 (dm + 4) τ3) (jif (256 ≤ (τ3.1 86 22)) (b_M_negation_3 (dm + 4) τ3) (b_M_negation_2 (dm + 4) τ3))))) (b_M_negation_2 (dm + 4) τ3)) = b_M_negation_2 (dm + 4) τ3 := by
        by_cases hK20 : 20 ≤ T2.1
        · obtain ⟨r1, r2⟩ := hR.sg hK20
          unfold cmpK at hj
          rw [jif_t r1, r2, jif_f (show ¬ _ = (60 : Int32) from nI_k (k := 60) hT (by omega) (by omega)), jif_f (show ¬ _ = (62 : Int32) from nI_k (k := 62) hT (by omega) (by omega)), jif_f (show ¬ _ = (61 : Int32) from nI_k (k := 61) hT (by omega) (by omega)), jif_f (show ¬ (256 : Int32) ≤ nI T2.1 from nI_ge (b := 256) (by omega) (by omega))]
        · rw [jif_f (hR.ns (by omega))]
      rw [b2i_f hj, jif_t rfl, q_Rd_expression_9, st, q_M_negation_2]
      exact Or.inl ⟨σ2, τ3, T2, W2, rfl, rfl, b3, b4, b5, b6⟩
  · have hf := b8.ne b5 b6
    rw [b1, b2, rI_s, rV_s]
    simp only [Option.bind_some]
    rw [jif_t trivial, jif_f hf, q_M_negation_2]
    exact Or.inr ⟨σ2, τ3, k, pl, rfl, rfl, b3, b4, b5, b6, b7, b8⟩
/-- denials: n of them are passed; then either a fault, or N - n of N are written on both sides -/
theorem x_not_l (dc : Nat) {u Ln op : Nat} {B : Nat → Nat} (hu : jTe u) (KN0 : Nat) (D : Nat)
    (hS : ∀ dm σ τ T W KN', KN0 ≤ KN' → D + (64 - KN') ≤ dm → xS σ τ u B Ln T W KN' op → xO (g_Rd_expression (dc + 3) 3 (nI op) σ) (b_M_negation_1 (dm + 4) τ) σ τ u B Ln W KN' op) :
    ∀ (f n dm W KN : Nat) (σ τ : jS) (T : Tok), 64 - KN < f → n ≤ KN → KN0 ≤ KN → D + (64 - KN) ≤ dm → xS σ τ u B Ln T W KN op →
      (∃ σ' τ' T' W' N, n ≤ N ∧ N ≤ 64 ∧ b_Rd_denial_1 (dc + 3) (nI op) (nI n) σ = b_Rd_denial_5 (dc + 3) (nI N) (nI (N - n)) σ' ∧ g_M_negation (dm + 5) τ = some (none, τ') ∧ jep (xcS u W) σ σ' ∧ jep (xmS W) τ τ' ∧ xS σ' τ' u B Ln T' W' (KN + (W' - W)) op ∧ xP σ' τ' u W W') ∨
      (∃ σ' τ' k pl, b_Rd_denial_1 (dc + 3) (nI op) (nI n) σ = some (some (.int 0), σ') ∧ g_M_negation (dm + 5) τ = some (none, τ') ∧ jep (xcS u W) σ σ' ∧ jep (xmS W) τ τ' ∧ 1 ≤ k ∧ k ≤ 5 ∧ rdF σ' k pl ∧ mdF τ' k pl) := by
  intro f
  induction f with
  | zero => intro n dm W KN σ τ T hn; omega
  | succ f ih =>
    intro n dm W KN σ τ T hn hnK hK0 hD h
    have hx := h
    obtain ⟨h1, h2, h3, h4, h5, h6, h7, h8, h9, h10⟩ := hx
    have hT : T.1 ≤ 258 := h1.2.1
    have h37 : σ.1 37 0 = nI T.1 := h1.1.2.2.2.1
    rw [q_Rd_denial_1, jif_f (show ¬ (64 : Int32) < nI n from nI_nlt (a := 64) (by omega) (by omega)), h37, e_M_negation, q_M_negation_0, show g_M_isWord (dm + 4) 9 τ = _ from m_isWord (dm + 3) 9 (by omega) τ h2, rI_s]
    simp only [Option.bind_some]
    by_cases hj : T.1 = 14
    · rw [jif_t (show nI T.1 = 14 by rw [hj]; rfl), b2i_t (show T.1 = cw 9 from hj), jif_f (by decide)]
      rcases x_knot dc dm hu h with ⟨σ1, τ1, τ2, T1, a1, a2, a3, a4, a5, a6⟩ | ⟨σ1, τ1, pl, a1, a2, a3, a4, a5, a6⟩
      · have hk1 := a6.2.2.2.1
        obtain ⟨dn, rfl⟩ : ∃ dn, dm = dn + 1 := ⟨dm - 1, by omega⟩
        rw [a1, a2, rI_s, rV_s]
        simp only [Option.bind_some]
        rw [jif_f (by decide), q_Rd_denial_2, nI_1, a3, rV_s]
        simp only [Option.bind_some]
        rcases ih (n + 1) dn W (KN + 1) σ1 τ2 T1 (by omega) (by omega) (by omega) (by omega) a6 with ⟨σ2, τ3, T2, W2, N, e1, e2, b1, b2, b3, b4, b5, b6⟩ | ⟨σ2, τ3, k, pl, b1, b2, b3, b4, b5, b6, b7, b8⟩
        · have hW2 := b6.1
          rw [b1, show g_M_negation (dn + 1 + 4) τ2 = _ from b2, rV_s]
          simp only [Option.bind_some]
          obtain ⟨σ3, τ4, c1, c2, c3, c4, c5, c6, c7, c8, c9, c10⟩ := x_write (dc + 2) (dn + 3) hu 14 0 2 260 b5 (by omega)
          rw [show g_M_puts (dn + 1 + 4) 2 260 τ3 = _ from c2, rV_s]
          simp only [Option.bind_some]
          rw [q_Rd_denial_5, jif_f (nI_ge (by omega) (by omega)), b5.1.2.2.1, (te_is hu).1, jc_t, (te_cr hu).2.2.2.2.2.2.2.2.2, (te_is hu).2, jc_t, c1, rV_s]
          simp only [Option.bind_some]
          rw [nI_1]
          refine Or.inl ⟨σ3, τ4, T2, W2 + 1, N, by omega, e2, by rw [show N - (n + 1) + 1 = N - n by omega], rfl, (a4.tr b3).tr (c3.mono (xcS.m (by omega))), (a5.tr b4).tr (c4.mono (xmS.m (by omega))), ?_, xP.not (b6.keep c10) c6 (by rw [c6, c7, c8, c9]; exact Or.inr (Or.inr (Or.inl ⟨rfl, rfl, rfl⟩)))⟩
          rw [show KN + (W2 + 1 - W) = KN + 1 + (W2 - W) by omega]
          exact c5
        · have hf := b8.ne b5 b6
          rw [b1, show g_M_negation (dn + 1 + 4) τ2 = _ from b2, rV_s]
          simp only [Option.bind_some]
          rw [m_putsF _ _ _ _ hf, rV_s]
          exact Or.inr ⟨σ2, τ3, k, pl, rfl, rfl, a4.tr b3, a5.tr b4, b5, b6, b7, b8⟩
      · have hf := a6.ne (by omega) (by omega)
        rw [a1, a2, rI_s, rV_s]
        simp only [Option.bind_some]
        rw [jif_t trivial, m_goOnF _ _ hf, rV_s]
        simp only [Option.bind_some]
        rw [m_negationF _ _ hf, rV_s]
        simp only [Option.bind_some]
        rw [m_putsF _ _ _ _ hf, rV_s]
        exact Or.inr ⟨σ1, τ1, 2, pl, rfl, rfl, a3, a4, by omega, by omega, a5, a6⟩
    · rw [jif_f (show ¬ _ = (14 : Int32) from nI_k (k := 14) hT (by omega) hj), b2i_f (show ¬ T.1 = cw 9 from hj), jif_t rfl, q_Rd_denial_3]
      rcases hS dm σ τ T W KN hK0 hD h with ⟨σ2, τ3, T2, W2, b1, b2, b3, b4, b5, b6⟩ | ⟨σ2, τ3, k, pl, b1, b2, b3, b4, b5, b6, b7, b8⟩
      · rw [b1, b2, rI_s]
        simp only [Option.bind_some]
        rw [jif_f (by decide), q_Rd_denial_4]
        exact Or.inl ⟨σ2, τ3, T2, W2, n, Nat.le_refl n, by omega, by rw [Nat.sub_self]; rfl, rfl, b3, b4, b5, b6⟩
      · rw [b1, b2, rI_s]
        simp only [Option.bind_some]
        rw [jif_t trivial]
        exact Or.inr ⟨σ2, τ3, k, pl, rfl, rfl, b3, b4, b5, b6, b7, b8⟩
theorem x_not (dc dm : Nat) {u Ln op W KN : Nat} {B : Nat → Nat} {T : Tok} (hu : jTe u) (D : Nat) {σ τ : jS} (h : xS σ τ u B Ln T W KN op) (hD : D + (64 - KN) ≤ dm)
    (hS : ∀ dm σ τ T W KN', KN ≤ KN' → D + (64 - KN') ≤ dm → xS σ τ u B Ln T W KN' op → xO (g_Rd_expression (dc + 3) 3 (nI op) σ) (b_M_negation_1 (dm + 4) τ) σ τ u B Ln W KN' op) :
    xO (g_Rd_expression (dc + 5) 2 (nI op) σ) (g_M_negation (dm + 5) τ) σ τ u B Ln W KN op := by
  rw [e_Rd_expression, q_Rd_expression_0, jif_t rfl, e_Rd_denial, q_Rd_denial_0]
  rcases x_not_l dc hu KN D hS 65 0 dm W KN σ τ T (by omega) (by omega) (Nat.le_refl _) hD h with ⟨σ2, τ3, T2, W2, N, e1, e2, b1, b2, b3, b4, b5, b6⟩ | ⟨σ2, τ3, k, pl, b1, b2, b3, b4, b5, b6, b7, b8⟩
  · rw [show b_Rd_denial_1 (dc + 3) (nI op) 0 σ = _ from b1, b2, Nat.sub_zero, q_Rd_denial_5, jif_t (nI_le (Nat.le_refl _) (by omega)), q_Rd_denial_6, rI_s]
    exact Or.inl ⟨σ2, τ3, T2, W2, rfl, rfl, b3, b4, b5, b6⟩
  · rw [show b_Rd_denial_1 (dc + 3) (nI op) 0 σ = _ from b1, b2, rI_s]
    exact Or.inr ⟨σ2, τ3, k, pl, rfl, rfl, b3, b4, b5, b6, b7, b8⟩
