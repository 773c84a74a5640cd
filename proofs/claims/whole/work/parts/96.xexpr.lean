/-! Expressions: operands and '(' E ')'; the whole of E. -/
theorem xO.ret {C M : jR} {σ τ : jS} {u Ln W KN op : Nat} {B : Nat → Nat} (h : xO C M σ τ u B Ln W KN op) : xO ((r_I C).bind fun q1 => if q1.1 = 0 ∨ q1.1 = 1 then some (some (.int q1.1), q1.2) else none) M σ τ u B Ln W KN op := by
  rcases h with ⟨σ', τ', T', W', h1, h2⟩ | ⟨σ', τ', k, pl, h1, h2⟩
  · subst h1; exact Or.inl ⟨σ', τ', T', W', rfl, h2⟩
  · subst h1; exact Or.inr ⟨σ', τ', k, pl, rfl, h2⟩
/-- an operand: counted, written, passed -/
theorem x_opnd (dc dm : Nat) {σ τ : jS} {u Ln W KN op : Nat} {B : Nat → Nat} {T : Tok} (hu : jTe u) (h : xS σ τ u B Ln T W KN op) (s wv : Int32) (w : jS → Int32) (hw : ∀ v, w (j_setI τ 86 28 v) = wv) (hk : (0 ≤ nI T.1 ∧ nI T.1 ≤ 5) ∨ nI T.1 = 17) (ht : tokR (nI T.1) T.2.2.2 s wv) :
    xO (b_Rd_operand_3 (dc + 4) σ) ((r_V (g_M_knot (dm + 4) τ)).bind fun σ1 => (r_V (g_M_puts (dm + 4) s (w σ1) σ1)).bind fun σ2 => (r_V (g_M_goOn (dm + 4) σ2)).bind fun σ3 => some (none, σ3)) σ τ u B Ln W KN op := by
  have hr := te_r hu
  have h37 : σ.1 37 0 = nI T.1 := h.1.1.2.2.2.1
  have hv : σ.1 37 2 = T.2.2.2 := h.1.1.2.2.2.2.2.2.1
  have hx := h
  obtain ⟨h1, h2, h3, h4, h5, h6, h7, h8, h9, h10⟩ := hx
  rw [q_Rd_operand_3]
  by_cases hk64 : KN < 64
  · obtain ⟨σ1, T', q1, q2, q3, q4, q5⟩ := c_passKnot (dc + 1) hu σ h1 h5 hk64
    have s7 : σ1.1 (u + 10) 2 = nI W := by
      rw [(q2 (u + 10) 2 (fun q => q.elim (fun q => by have := q.1; omega) (fun q => by have := q.2; omega))).1]; exact h7
    have k1 := m_knot (dm + 2) τ h2 h6 hk64
    have m1 : mdS (j_setI τ 86 28 (nI (KN + 1))) B Ln T := h2.fr (fun b j q => by
      by_cases e : b = 86
      · exact setI_nk (by omega)
      · exact setI_ne e)
    have x0 : xS (j_setI σ (u + 10) 0 (nI (KN + 1))) (j_setI τ 86 28 (nI (KN + 1))) u B Ln T W (KN + 1) op := ⟨h1.fr (fun b j q => ⟨setI_ne (by omega), rfl⟩), m1, by omega, by omega, setI_same _ _ _ _, setI_same _ _ _ _, by rw [setI_nk (by omega)]; exact h7, by rw [setI_ne (by omega)]; exact h8, h9, by rw [setI_nk (by omega)]; exact h10⟩
    have p1 := m_puts (dm + 2) s wv _ m1 x0.2.2.2.2.2.2.2.1 (by omega)
    have m2 : mdS (j_setI (j_setI (j_setI (j_setI τ 86 28 (nI (KN + 1))) 100 (64 + W) s) 101 (64 + W) wv) 88 7 (nI (W + 1))) B Ln T := m1.fr (fun b j q => by rw [setI_ne (by omega), setI_ne (by omega), setI_ne (by omega)])
    obtain ⟨τ', r1, r2, r3⟩ := m_goOn dm _ m2 q3
    have w1 := c_write (dc + 3) hu (nI T.1) T.2.2.2 σ1 s7 (by omega)
    have fm : ∀ b j, ¬ (b = 86 ∧ 19 ≤ j ∧ j ≤ 22) → τ'.1 b j = (j_setI (j_setI (j_setI (j_setI τ 86 28 (nI (KN + 1))) 100 (64 + W) s) 101 (64 + W) wv) 88 7 (nI (W + 1))).1 b j := fun b j q => (r2 b j q).1
    rw [q1, rI_s, k1, rV_s]
    simp only [Option.bind_some]
    rw [jif_f (by decide), q_Rd_operand_4, q4.2.2.1, (te_is hu).1, jc_t, (te_cr hu).2.2.2.2.2.2.2.2.2, (te_is hu).2, jc_t, h37, hv, w1, rV_s, hw, p1, rV_s]
    simp only [Option.bind_some]
    rw [r1, rV_s]
    have J : jep (xcS u W) σ1 (j_setI (j_setI (j_setI σ1 (u + 11) W (nI T.1)) (u + 12) W T.2.2.2) (u + 10) 2 (nI (W + 1))) := ((jep.rf.sI (S := xcS u W) (Or.inr (Or.inr (Or.inl ⟨rfl, Nat.le_refl _⟩)))).sI (Or.inr (Or.inr (Or.inr ⟨rfl, Nat.le_refl _⟩)))).sI (Or.inr (Or.inl ⟨rfl, Or.inr rfl⟩))
    have Jm : jep (xmS W) τ (j_setI (j_setI (j_setI (j_setI τ 86 28 (nI (KN + 1))) 100 (64 + W) s) 101 (64 + W) wv) 88 7 (nI (W + 1))) := (((jep.rf.sI (S := xmS W) (Or.inl ⟨rfl, by omega⟩)).sI (Or.inr (Or.inr (Or.inl ⟨rfl, Nat.le_refl _⟩)))).sI (Or.inr (Or.inr (Or.inr ⟨rfl, Nat.le_refl _⟩)))).sI (Or.inr (Or.inl ⟨rfl, rfl⟩))
    have c11 : (j_setI (j_setI (j_setI σ1 (u + 11) W (nI T.1)) (u + 12) W T.2.2.2) (u + 10) 2 (nI (W + 1))).1 (u + 11) W = nI T.1 := by rw [setI_ne (by omega), setI_ne (by omega), setI_same]
    have c12 : (j_setI (j_setI (j_setI σ1 (u + 11) W (nI T.1)) (u + 12) W T.2.2.2) (u + 10) 2 (nI (W + 1))).1 (u + 12) W = T.2.2.2 := by rw [setI_ne (by omega), setI_same]
    have c100 : τ'.1 100 (64 + W) = s := by rw [fm _ _ (by omega), setI_ne (by omega), setI_ne (by omega), setI_same]
    have c101 : τ'.1 101 (64 + W) = wv := by rw [fm _ _ (by omega), setI_ne (by omega), setI_same]
    refine Or.inl ⟨_, τ', T', W + 1, rfl, rfl, jep.tr (q2.mono (fun b j q => ?_)) J, Jm.tr (r2.mono (fun b j => tk_xm)), ⟨q4.fr (fun b j q => ⟨?_, rfl⟩), r3, by omega, by omega, ?_, ?_, ?_, ?_, h9, ?_⟩, xP.one (by rw [c11]; exact hk) (by rw [c11, c12, c100, c101]; exact ht)⟩
    · rcases q with q | q
      · exact Or.inl (Or.inl q)
      · exact Or.inr (Or.inl ⟨q.1, Or.inl q.2⟩)
    · rw [setI_ne (by omega), setI_ne (by omega), setI_ne (by omega)]
    · rw [setI_nk (by omega), setI_ne (by omega), setI_ne (by omega), q5, show KN + (W + 1 - W) = KN + 1 by omega]
    · rw [fm _ _ (by omega), setI_ne (by omega), setI_ne (by omega), setI_ne (by omega), setI_same, show KN + (W + 1 - W) = KN + 1 by omega]
    · exact setI_same _ _ _ _
    · rw [fm _ _ (by omega), setI_same]
    · rw [fm _ _ (by omega), setI_ne (by omega), setI_ne (by omega), setI_ne (by omega), setI_nk (by omega)]; exact h10
  · have e : KN = 64 := by omega
    subst e
    obtain ⟨σ', q1, q2, q3⟩ := c_passKnotX (dc + 1) hu σ h1 h5
    obtain ⟨τ', p1, p2, p3⟩ := m_knotX (dm + 2) τ h2 h6
    have hf := p3.ne (by omega) (by omega)
    rw [q1, rI_s, p1, rV_s]
    simp only [Option.bind_some]
    rw [jif_t trivial, m_putsF _ _ _ _ hf, rV_s]
    simp only [Option.bind_some]
    rw [m_goOnF _ _ hf, rV_s]
    exact Or.inr ⟨σ', τ', 2, T.2.1, rfl, rfl, q2.mono (fun b j => rd_xc), p2.mono (fun b j => md_xm), by omega, by omega, q3, p3⟩
theorem mp_11a (d : Nat) (τ : jS) : b_M_primary_11 d 0 τ = (r_V (g_M_knot d τ)).bind fun σ1 => (r_V (g_M_puts d 1 ((σ1.1 86 22) - 10) σ1)).bind fun σ2 => (r_V (g_M_goOn d σ2)).bind fun σ3 => some (none, σ3) := by
  rw [q_M_primary_11]
  congr 1
  funext σ1
  rw [jif_t rfl, q_M_primary_12, q_M_primary_13, jif_t rfl, q_M_primary_14, q_M_primary_15]
theorem mp_11b (d : Nat) (τ : jS) : b_M_primary_11 d 1 τ = (r_V (g_M_knot d τ)).bind fun σ1 => (r_V (g_M_puts d 0 (σ1.1 86 22) σ1)).bind fun σ2 => (r_V (g_M_goOn d σ2)).bind fun σ3 => some (none, σ3) := by
  rw [q_M_primary_11]
  congr 1
  funext σ1
  rw [jif_f (by decide), q_M_primary_13, jif_f (by decide), q_M_primary_15]
theorem mp_11F (d : Nat) (x : Int32) (hx : x = 0 ∨ x = 1) (τ : jS) (h : ¬ τ.1 86 23 = 0) : b_M_primary_11 (d + 1) x τ = some (none, τ) := by
  rcases hx with rfl | rfl
  · rw [mp_11a, m_knotF _ _ h, rV_s]
    simp only [Option.bind_some]
    rw [m_putsF _ _ _ _ h, rV_s]
    simp only [Option.bind_some]
    rw [m_goOnF _ _ h, rV_s]
    rfl
  · rw [mp_11b, m_knotF _ _ h, rV_s]
    simp only [Option.bind_some]
    rw [m_putsF _ _ _ _ h, rV_s]
    simp only [Option.bind_some]
    rw [m_goOnF _ _ h, rV_s]
    rfl
theorem cw_nm : ∀ i, i < 16 → (cw i ≤ 5 ↔ 10 ≤ i) ∧ (10 ≤ i → cw i = i - 10) := by decide +kernel
theorem x_fault {σ τ : jS} {u Ln W KN op k : Nat} {B : Nat → Nat} {C M : jR} {T : Tok} {σ' τ' : jS} (hk : 1 ≤ k ∧ k ≤ 5) (hC : C = some (some (.int 0), σ')) (hM : M = some (none, τ')) (q2 : jep rd_S σ σ') (p2 : jep md_S τ τ') (q3 : rdF σ' k T.2.1) (p3 : mdF τ' k T.2.1) : xO C M σ τ u B Ln W KN op := Or.inr ⟨σ', τ', k, T.2.1, hC, hM, q2.mono (fun b j => rd_xc), p2.mono (fun b j => md_xm), hk.1, hk.2, q3, p3⟩
theorem x_prim (dc dm : Nat) {u Ln op W KN : Nat} {B : Nat → Nat} {T : Tok} (hu : jTe u) {σ τ : jS} (h : xS σ τ u B Ln T W KN op)
    (hE : op < 8 → ∀ σ τ T W KN', KN ≤ KN' → xS σ τ u B Ln T W KN' (op + 1) → xO (g_Rd_expression (dc + 3) 0 (nI (op + 1)) σ) (g_M_expression (dm + 4) τ) σ τ u B Ln W KN' (op + 1)) :
    xO (g_Rd_expression (dc + 6) 6 (nI op) σ) (g_M_primary (dm + 5) τ) σ τ u B Ln W KN op := by
  have hr := te_r hu
  have h37 : σ.1 37 0 = nI T.1 := h.1.1.2.2.2.1
  have hv : σ.1 37 2 = T.2.2.2 := h.1.1.2.2.2.2.2.2.1
  have hT : T.1 ≤ 258 := h.1.2.1
  have hx := h
  obtain ⟨h1, h2, h3, h4, h5, h6, h7, h8, h9, h10⟩ := hx
  have hR : mR T.1 T.2.2.2 (τ.1 86 21) (τ.1 86 22) := h2.2.2.2.1
  have h23 : τ.1 86 23 = 0 := h2.2.2.2.2
  rw [e_Rd_expression, q_Rd_expression_0, jif_f (by decide), q_Rd_expression_1, jif_f (by decide)]
  refine xO.ret ?_
  rw [e_Rd_operand, q_Rd_operand_0, h37, e_M_primary, q_M_primary_0, jif_t h23, q_M_primary_1, show g_M_isSign (dm + 4) 40 τ = _ from m_isSign (dm + 3) 40 (by decide) (by omega) (by omega) τ h2, rI_s]
  simp only [Option.bind_some]
  by_cases e40 : T.1 = 40
  · rw [jif_t (show nI T.1 = 40 by rw [e40]; rfl), b2i_t e40, jif_f (by decide), h10]
    refine xO.ret ?_
    rw [e_Rd_enclosed, q_Rd_enclosed_0]
    by_cases e8 : op < 8
    · rw [jif_t (show nI op < (8 : Int32) from nI_lt (b := 8) e8 (by omega)), jif_f (show ¬ _ = (8 : Int32) from nI_k (k := 8) (by omega) (by omega) (by omega)), q_Rd_enclosed_1, q_M_primary_2, jif_t h23, q_M_primary_3, h10, nI_1]
      obtain ⟨σ1, T1, a1, a2, a3, a4⟩ := c_adv (dc + 1) σ h1
      have m1 : mdS (j_setI τ 86 27 (nI (op + 1))) B Ln T := h2.fr (fun b j q => by
        by_cases e : b = 86
        · exact setI_nk (by omega)
        · exact setI_ne e)
      obtain ⟨τ1, b1, b2, b3⟩ := m_tok (dm + 1) _ m1 a3
      have fc : ∀ b j, ¬ (b = 37) → σ1.1 b j = σ.1 b j := fun b j q => (a2 b j (fun z => q z.1)).1
      have fm : ∀ b j, ¬ (b = 86 ∧ 19 ≤ j ∧ j ≤ 22) → τ1.1 b j = (j_setI τ 86 27 (nI (op + 1))).1 b j := fun b j q => (b2 b j q).1
      have x1 : xS σ1 τ1 u B Ln T1 W KN (op + 1) := ⟨a4, b3, h3, h4, by rw [fc _ _ (by omega)]; exact h5, by rw [fm _ _ (by omega), setI_nk (by omega)]; exact h6, by rw [fc _ _ (by omega)]; exact h7, by rw [fm _ _ (by omega), setI_ne (by omega)]; exact h8, by omega, by rw [fm _ _ (by omega), setI_same]⟩
      have F1 : jep (xcS u W) σ σ1 := a2.mono (fun b j q => Or.inl (Or.inl q))
      have G1 : jep (xmS W) τ τ1 := (jep.rf.sI (S := xmS W) (Or.inl ⟨rfl, by omega⟩)).tr (b2.mono (fun b j => tk_xm))
      rw [a1, rV_s, b1, rV_s]
      simp only [Option.bind_some]
      rcases hE e8 σ1 τ1 T1 W KN (Nat.le_refl _) x1 with ⟨σ2, τ2, T2, W2, c1, c2, c3, c4, c5, c6⟩ | ⟨σ2, τ2, k, pl, c1, c2, c3, c4, c5, c6, c7, c8⟩
      · have hx2 := c5
        obtain ⟨d1, d2, d3, d4, d5, d6, d7, d8, d9, d10⟩ := hx2
        have d23 : τ2.1 86 23 = 0 := d2.2.2.2.2
        rw [c1, rI_s, c2, rV_s]
        simp only [Option.bind_some]
        rw [jif_f (by decide), jif_t d23, show g_M_isSign (dm + 4) 41 τ2 = _ from m_isSign (dm + 3) 41 (by decide) (by omega) (by have := d1.2.1; omega) τ2 d2, rI_s]
        simp only [Option.bind_some]
        obtain ⟨cp1, cp2⟩ := c_passes dc 41 (by omega) σ2 d1
        by_cases e41 : T2.1 = 41
        · obtain ⟨σ3, T3, g1, g2, g3, g4⟩ := cp1 e41
          have m3 : mdS (j_setI τ2 86 27 (nI op)) B Ln T2 := d2.fr (fun b j q => by
            by_cases e : b = 86
            · exact setI_nk (by omega)
            · exact setI_ne e)
          obtain ⟨τ3, i1, i2, i3⟩ := m_tok (dm + 1) _ m3 g3
          have fc3 : ∀ b j, ¬ (b = 37 ∨ b = 36) → σ3.1 b j = σ2.1 b j := fun b j q => (g2 b j (fun z => by unfold rd_S at z; omega)).1
          have fm3 : ∀ b j, ¬ (b = 86 ∧ 19 ≤ j ∧ j ≤ 22) → τ3.1 b j = (j_setI τ2 86 27 (nI op)).1 b j := fun b j q => (i2 b j q).1
          rw [show g_Rd_passes (dc + 3) 41 σ2 = _ from g1, rI_s, b2i_t e41, jif_f (by decide), q_M_primary_4, jif_t d23, q_M_primary_5, d10, nI_pred, i1, rV_s]
          simp only [Option.bind_some]
          rw [jif_f (by decide), q_Rd_enclosed_3]
          refine Or.inl ⟨σ3, τ3, T3, W2, rfl, rfl, (F1.tr c3).tr (g2.mono (fun b j => rd_xc)), (G1.tr c4).tr ((jep.rf.sI (S := xmS W) (Or.inl ⟨rfl, by omega⟩)).tr (i2.mono (fun b j => tk_xm))), ⟨g4, i3, d3, d4, ?_, ?_, ?_, ?_, h9, ?_⟩, c6.keep (fun j hj => ⟨?_, ?_, ?_, ?_⟩)⟩
          · rw [fc3 _ _ (by omega)]; exact d5
          · rw [fm3 _ _ (by omega), setI_nk (by omega)]; exact d6
          · rw [fc3 _ _ (by omega)]; exact d7
          · rw [fm3 _ _ (by omega), setI_ne (by omega)]; exact d8
          · rw [fm3 _ _ (by omega), setI_same]
          · exact fc3 _ _ (by omega)
          · exact fc3 _ _ (by omega)
          · rw [fm3 _ _ (by omega), setI_ne (by omega)]
          · rw [fm3 _ _ (by omega), setI_ne (by omega)]
        · obtain ⟨σ3, g1, g2, g3⟩ := cp2 e41
          obtain ⟨τ3, i1, i2, i3⟩ := m_wrong (dm + 3) 1 τ2 d2
          have hf := i3.ne (by omega) (by omega)
          rw [show g_Rd_passes (dc + 3) 41 σ2 = _ from g1, rI_s, b2i_f e41, jif_t rfl, show g_M_wrong (dm + 4) 1 τ2 = _ from i1, rV_s]
          simp only [Option.bind_some]
          rw [jif_t trivial, q_Rd_enclosed_2, q_Rd_enclosed_3, q_M_primary_4, jif_f hf]
          exact Or.inr ⟨σ3, τ3, 1, T2.2.1, rfl, rfl, (F1.tr c3).tr (g2.mono (fun b j => rd_xc)), (G1.tr c4).tr (i2.mono (fun b j => md_xm)), by omega, by omega, g3, i3⟩
      · have hf := c8.ne c5 c6
        rw [c1, rI_s, c2, rV_s]
        simp only [Option.bind_some]
        rw [jif_t trivial, q_Rd_enclosed_2, q_Rd_enclosed_3, jif_f hf, q_M_primary_4, jif_f hf]
        exact Or.inr ⟨σ2, τ2, k, pl, rfl, rfl, F1.tr c3, G1.tr c4, c5, c6, c7, c8⟩
    · have e8' : op = 8 := by omega
      obtain ⟨σ', q1, q2, q3⟩ := c_fails (dc + 2) 2 σ h1
      obtain ⟨τ', p1, p2, p3⟩ := m_wrong (dm + 3) 2 τ h2
      have hf := p3.ne (by omega) (by omega)
      rw [jif_f (show ¬ nI op < (8 : Int32) from nI_nlt (b := 8) (by omega) (by omega)), jif_t (show nI op = 8 by rw [e8']; rfl), show g_Rd_fails (dc + 3) 2 σ = _ from q1, rI_s, show g_M_wrong (dm + 4) 2 τ = _ from p1, rV_s]
      simp only [Option.bind_some]
      rw [q_M_primary_2, jif_f hf]
      exact x_fault (by omega) rfl rfl q2 p2 q3 p3
  · have n40 : ¬ nI T.1 = 40 := nI_k (k := 40) hT (by omega) e40
    rw [jif_f n40, b2i_f e40, jif_t rfl, q_Rd_operand_1, h37, q_M_primary_6]
    obtain ⟨r1, r2, r3, r4⟩ := hR.tk (by omega)
    by_cases e17 : T.1 = 17
    · obtain ⟨x, y, x1, x2, x3, x4, x5⟩ := r4 e17
      rw [jif_t (show nI T.1 = 17 by rw [e17]; rfl), q_Rd_operand_2, h37, jif_t (show nI T.1 = 17 by rw [e17]; rfl), hv, x1, jif_t (r3.mpr e17), q_M_primary_8, jif_f (show ¬ (1 : Int32) = 0 by decide), x2]
      by_cases e9 : x ≤ 9999
      · have exy : y = x := by rcases x3 with z | z <;> omega
        rw [jif_t (show nI x ≤ (9999 : Int32) from nI_le (b := 9999) e9 (by omega)), exy, jif_t (show nI x ≤ (9999 : Int32) from nI_le (b := 9999) e9 (by omega)), q_M_primary_9, jif_f (by decide), mp_11b]
        exact x_opnd dc dm hu h 0 (nI x) (fun σ1 => σ1.1 86 22) (fun v => by show (j_setI τ 86 28 v).1 86 22 = _; rw [setI_nk (by omega), x2, exy]) (Or.inr (by rw [e17]; rfl)) (Or.inr (Or.inl ⟨by rw [e17]; rfl, rfl, x1.symm⟩))
      · have hy : 9999 < y := by rcases x3 with z | z <;> omega
        obtain ⟨σ', q1, q2, q3⟩ := c_fails (dc + 3) 2 σ h1
        obtain ⟨τ', p1, p2, p3⟩ := m_wrong (dm + 3) 2 τ h2
        have hf := p3.ne (by omega) (by omega)
        rw [jif_f (show ¬ nI x ≤ (9999 : Int32) from nI_ge (a := 9999) (by omega) (by omega)), jif_f (show ¬ nI y ≤ (9999 : Int32) from nI_ge (a := 9999) (by omega) (by omega)), show g_Rd_fails (dc + 4) 2 σ = _ from q1, rI_s, show g_M_wrong (dm + 4) 2 τ = _ from p1, rV_s]
        simp only [Option.bind_some]
        rw [mp_11F _ _ (Or.inr rfl) _ hf]
        exact x_fault (by omega) rfl rfl q2 p2 q3 p3
    · have n17 : ¬ nI T.1 = 17 := nI_k (k := 17) hT (by omega) e17
      have i1 : ((0 : Int32) ≤ nI T.1 ∧ nI T.1 ≤ 5) ↔ (0 ≤ T.1 ∧ T.1 ≤ 5) := and_congr (nI_leI (a := 0) (by omega) (by omega)) (nI_leI (b := 5) (by omega) (by omega))
      rw [jif_f n17, e_Tk_isName, q_Tk_isName_0, c_within, rI_s, jif_f (fun z => e17 (r3.mp z)), q_M_primary_7, q_M_primary_8, jif_t rfl, q_M_primary_9, jif_t rfl]
      simp only [Option.bind_some]
      by_cases e5 : T.1 ≤ 5
      · obtain ⟨i, j1, j2, j3, j4⟩ : ∃ i, i < 16 ∧ T.1 = cw i ∧ τ.1 86 21 = 0 ∧ τ.1 86 22 = nI i := by
          rcases hR with z | z | z | z | z | ⟨z, -⟩
          · omega
          · exact z
          · omega
          · omega
          · omega
          · rcases z with z | z
            · have := sgs_r T.1 (by omega) z; omega
            · omega
        have c10 := cw_nm i j1
        have hi : 10 ≤ i := c10.1.mp (by omega)
        have hTi : T.1 = i - 10 := by rw [j2, c10.2 hi]
        rw [if_pos (i1.mpr ⟨by omega, e5⟩), if_pos (Or.inr rfl), rI_s]
        simp only [Option.bind_some]
        rw [jif_f (by decide), q_Rd_operand_2, h37, jif_f n17, jif_t j3, j4, jif_t (show (10 : Int32) ≤ nI i from nI_le (a := 10) hi (by omega)), mp_11a]
        exact x_opnd dc dm hu h 1 (nI T.1) (fun σ1 => (σ1.1 86 22) - 10) (fun v => by
          show (j_setI τ 86 28 v).1 86 22 - 10 = _
          rw [setI_nk (by omega), j4, hTi]
          exact pk_sub (b := 10) hi) (Or.inl (i1.mpr ⟨by omega, e5⟩)) (Or.inl ⟨i1.mpr ⟨by omega, e5⟩, rfl, rfl⟩)
      · obtain ⟨σ', q1, q2, q3⟩ := c_fails (dc + 3) 1 σ h1
        obtain ⟨τ', p1, p2, p3⟩ := m_wrong (dm + 3) 1 τ h2
        have hf := p3.ne (by omega) (by omega)
        have st : (jif ((τ.1 86 21) = 0) (jif (10 ≤ (τ.1 86 22)) (b_M_primary_11 (dm + 4) 0 τ) (b_M_primary_10 (dm + 4) 0 τ)) (b_M_primary_10 (dm + 4) 0 τ)) = b_M_primary_10 (dm + 4) 0 τ := by
          by_cases z : τ.1 86 21 = 0
          · obtain ⟨i, j1, j2, j4⟩ : ∃ i, i < 16 ∧ T.1 = cw i ∧ τ.1 86 22 = nI i := by
              rcases hR with q | ⟨i, j1, j2, -, j4⟩ | q | q | q | ⟨-, q, -⟩
              · exact absurd (z.symm.trans q.2) (by decide)
              · exact ⟨i, j1, j2, j4⟩
              · exact absurd (z.symm.trans q.2.1) (by decide)
              · exact absurd (z.symm.trans q.2.1) (by decide)
              · exact absurd (z.symm.trans q.2) (by decide)
              · exact absurd (z.symm.trans q) (by decide)
            have c10 := cw_nm i j1
            have hi : ¬ 10 ≤ i := fun q => e5 (by have := c10.1.mpr q; omega)
            rw [jif_t z, j4, jif_f (show ¬ (10 : Int32) ≤ nI i from nI_ge (b := 10) (by omega) (by omega))]
          · rw [jif_f z]
        rw [if_neg (fun z => e5 (i1.mp z).2), if_pos (Or.inl rfl), rI_s]
        simp only [Option.bind_some]
        rw [jif_t trivial, show g_Rd_fails (dc + 4) 1 σ = _ from q1, rI_s, st, q_M_primary_10, show g_M_wrong (dm + 4) 1 τ = _ from p1, rV_s]
        simp only [Option.bind_some]
        rw [mp_11F _ _ (Or.inl rfl) _ hf]
        exact x_fault (by omega) rfl rfl q2 p2 q3 p3
theorem x_Es {u Ln : Nat} {B : Nat → Nat} (hu : jTe u) (op dc dm W KN : Nat) (σ τ : jS) (T : Tok) (f : Nat) (hf : op + f = 8) (hc : 10 * f + 20 ≤ dc) (hm : 6 * f + (64 - KN) + 20 ≤ dm) (h : xS σ τ u B Ln T W KN op)
    (hE : op < 8 → ∀ (dc dm W KN' : Nat) (σ τ : jS) (T : Tok), 10 * f + 10 ≤ dc → 6 * f + (64 - KN') + 14 ≤ dm → xS σ τ u B Ln T W KN' (op + 1) → xO (g_Rd_expression dc 0 (nI (op + 1)) σ) (g_M_expression dm τ) σ τ u B Ln W KN' (op + 1)) : xO (g_Rd_expression dc 0 (nI op) σ) (g_M_expression dm τ) σ τ u B Ln W KN op := by
  -- primary, product, sum, comparison, negation, conjunction, each at its depth
  have s6 : ∀ (a b W KN : Nat) (σ τ : jS) (T : Tok), 10 * f + 13 ≤ a → 6 * f + (64 - KN) + 15 ≤ b → xS σ τ u B Ln T W KN op → xO (g_Rd_expression a 6 (nI op) σ) (g_M_primary b τ) σ τ u B Ln W KN op := by
    intro a b W KN σ τ T ha hb h
    obtain ⟨a, rfl⟩ : ∃ a', a = a' + 6 := ⟨a - 6, by omega⟩
    obtain ⟨b, rfl⟩ : ∃ b', b = b' + 5 := ⟨b - 5, by omega⟩
    exact x_prim a b hu h (fun q σ τ T W KN' hK h => hE q (a + 3) (b + 4) W KN' σ τ T (by omega) (by omega) h)
  have s5 : ∀ (a b W KN : Nat) (σ τ : jS) (T : Tok), 10 * f + 14 ≤ a → 6 * f + (64 - KN) + 16 ≤ b → xS σ τ u B Ln T W KN op → xO (g_Rd_expression a 5 (nI op) σ) (g_M_product b τ) σ τ u B Ln W KN op := by
    intro a b W KN σ τ T ha hb h
    obtain ⟨a, rfl⟩ : ∃ a', a = a' + 4 := ⟨a - 4, by omega⟩
    obtain ⟨b, rfl⟩ : ∃ b', b = b' + 5 := ⟨b - 5, by omega⟩
    exact x_prod a b hu h (fun σ τ T W KN' hK h => s6 (a + 3) (b + 4) W KN' σ τ T (by omega) (by omega) h)
  have s4 : ∀ (a b W KN : Nat) (σ τ : jS) (T : Tok), 10 * f + 15 ≤ a → 6 * f + (64 - KN) + 17 ≤ b → xS σ τ u B Ln T W KN op → xO (g_Rd_expression a 4 (nI op) σ) (g_M_sum b τ) σ τ u B Ln W KN op := by
    intro a b W KN σ τ T ha hb h
    obtain ⟨a, rfl⟩ : ∃ a', a = a' + 4 := ⟨a - 4, by omega⟩
    obtain ⟨b, rfl⟩ : ∃ b', b = b' + 5 := ⟨b - 5, by omega⟩
    exact x_sum a b hu h (fun σ τ T W KN' hK h => s5 (a + 3) (b + 4) W KN' σ τ T (by omega) (by omega) h)
  have s3 : ∀ (a b W KN : Nat) (σ τ : jS) (T : Tok), 10 * f + 16 ≤ a → 6 * f + (64 - KN) + 17 ≤ b → xS σ τ u B Ln T W KN op → xO (g_Rd_expression a 3 (nI op) σ) (b_M_negation_1 b τ) σ τ u B Ln W KN op := by
    intro a b W KN σ τ T ha hb h
    obtain ⟨a, rfl⟩ : ∃ a', a = a' + 4 := ⟨a - 4, by omega⟩
    obtain ⟨b, rfl⟩ : ∃ b', b = b' + 4 := ⟨b - 4, by omega⟩
    exact x_cmp a b hu h (fun σ τ T W KN' hK h => s4 (a + 3) (b + 4) W KN' σ τ T (by omega) (by omega) h)
  have s2 : ∀ (a b W KN : Nat) (σ τ : jS) (T : Tok), 10 * f + 18 ≤ a → 6 * f + (64 - KN) + 18 ≤ b → xS σ τ u B Ln T W KN op → xO (g_Rd_expression a 2 (nI op) σ) (g_M_negation b τ) σ τ u B Ln W KN op := by
    intro a b W KN σ τ T ha hb h
    obtain ⟨a, rfl⟩ : ∃ a', a = a' + 5 := ⟨a - 5, by omega⟩
    obtain ⟨b, rfl⟩ : ∃ b', b = b' + 5 := ⟨b - 5, by omega⟩
    exact x_not a b hu (6 * f + 13) h (by omega) (fun dm σ τ T W KN' hK hD h => s3 (a + 3) (dm + 4) W KN' σ τ T (by omega) (by omega) h)
  have s1 : ∀ (a b W KN : Nat) (σ τ : jS) (T : Tok), 10 * f + 19 ≤ a → 6 * f + (64 - KN) + 19 ≤ b → xS σ τ u B Ln T W KN op → xO (g_Rd_expression a 1 (nI op) σ) (g_M_conjunction b τ) σ τ u B Ln W KN op := by
    intro a b W KN σ τ T ha hb h
    obtain ⟨a, rfl⟩ : ∃ a', a = a' + 4 := ⟨a - 4, by omega⟩
    obtain ⟨b, rfl⟩ : ∃ b', b = b' + 5 := ⟨b - 5, by omega⟩
    exact x_conj a b hu h (fun σ τ T W KN' hK h => s2 (a + 3) (b + 4) W KN' σ τ T (by omega) (by omega) h)
  obtain ⟨a, rfl⟩ : ∃ a', dc = a' + 4 := ⟨dc - 4, by omega⟩
  obtain ⟨b, rfl⟩ : ∃ b', dm = b' + 6 := ⟨dm - 6, by omega⟩
  exact x_expr a b hu h (fun σ τ T W KN' hK h => s1 (a + 3) (b + 5) W KN' σ τ T (by omega) (by omega) h)
/-- E, read by both -/
theorem x_E {u Ln : Nat} {B : Nat → Nat} (hu : jTe u) : ∀ (f op dc dm W KN : Nat) (σ τ : jS) (T : Tok), op + f = 8 → 10 * f + 20 ≤ dc → 6 * f + (64 - KN) + 20 ≤ dm → xS σ τ u B Ln T W KN op → xO (g_Rd_expression dc 0 (nI op) σ) (g_M_expression dm τ) σ τ u B Ln W KN op := by
  intro f
  induction f with
  | zero =>
    intro op dc dm W KN σ τ T hf hc hm h
    exact x_Es hu op dc dm W KN σ τ T 0 hf hc hm h (fun q => by omega)
  | succ f ih =>
    intro op dc dm W KN σ τ T hf hc hm h
    exact x_Es hu op dc dm W KN σ τ T (f + 1) hf hc hm h (fun q => by
      intro dc' dm' W' KN' σ' τ' T' hc' hm' h'
      exact ih (op + 1) dc' dm' W' KN' σ' τ' T' (by omega) (by omega) (by omega) h')
