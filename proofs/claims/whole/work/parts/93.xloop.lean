/-! Expressions: a knot passed, a knot written, both sides; the loop of a level whose parts join from the left. -/
theorem c_passKnot (d : Nat) {u Ln KN : Nat} {B : Nat → Nat} {T : Tok} (hu : jTe u) (σ : jS) (h : rdS σ u B Ln T) (h0 : σ.1 (u + 10) 0 = nI KN) (hk : KN < 64) : ∃ σ' T', g_Rd_passKnot (d + 3) σ = some (some (.int 1), σ') ∧ jep (fun b j => ta37 b j ∨ (b = u + 10 ∧ j = 0)) σ σ' ∧ nxt B Ln T.2.2.1 T' ∧ rdS σ' u B Ln T' ∧ σ'.1 (u + 10) 0 = nI (KN + 1) := by
  have hr := te_r hu
  have hh : rdS (j_setI σ (u + 10) 0 (nI (KN + 1))) u B Ln T := h.fr (fun b j q => ⟨setI_ne (by omega), rfl⟩)
  obtain ⟨σ', T', q1, q2, q3, q4⟩ := c_adv d _ hh
  refine ⟨σ', T', ?_, (jep.rf.sI (S := fun b j => ta37 b j ∨ (b = u + 10 ∧ j = 0)) (Or.inr ⟨rfl, rfl⟩)).tr (q2.mono (fun b j h => Or.inl h)), q3, q4, ?_⟩
  · rw [e_Rd_passKnot, q_Rd_passKnot_0, h.2.2.1, (te_is hu).1, jc_t, (te_cr hu).2.2.2.2.2.2.2.2.2, (te_is hu).2, jc_t, h0, jif_t (show nI KN < (64 : Int32) from nI_lt (b := 64) hk (by omega)), q_Rd_passKnot_1, h.2.2.1, (te_is hu).1, jc_t, (te_cr hu).2.2.2.2.2.2.2.2.2, (te_is hu).2, jc_t, jc_t, h0, nI_1, q1, rV_s]
    rfl
  · rw [(q2 (u + 10) 0 (fun q => by have := q.1; omega)).1, setI_same]
theorem c_passKnotX (d : Nat) {u Ln : Nat} {B : Nat → Nat} {T : Tok} (hu : jTe u) (σ : jS) (h : rdS σ u B Ln T) (h0 : σ.1 (u + 10) 0 = nI 64) : ∃ σ', g_Rd_passKnot (d + 3) σ = some (some (.int 0), σ') ∧ jep rd_S σ σ' ∧ rdF σ' 2 T.2.1 := by
  obtain ⟨σ', q1, q2, q3⟩ := c_fails (d + 1) 2 σ h
  refine ⟨σ', ?_, q2, q3⟩
  rw [e_Rd_passKnot, q_Rd_passKnot_0, h.2.2.1, (te_is hu).1, jc_t, (te_cr hu).2.2.2.2.2.2.2.2.2, (te_is hu).2, jc_t, h0, jif_f (show ¬ nI 64 < (64 : Int32) by decide), show g_Rd_fails (d + 2) 2 σ = _ from q1, rI_s]
  rfl
theorem rd_xc {u W b j : Nat} (h : rd_S b j) : xcS u W b j := Or.inl h
theorem md_xm {W b j : Nat} (h : md_S b j) : xmS W b j := Or.inl ⟨h.1, Or.inl h.2⟩
theorem tk_xm {W b j : Nat} (h : mtk b j) : xmS W b j := Or.inl ⟨h.1, Or.inl ⟨h.2.1, by have := h.2.2; omega⟩⟩
/-- a knot is counted and passed -/
theorem x_knot (dc dm : Nat) {σ τ : jS} {u Ln W KN op : Nat} {B : Nat → Nat} {T : Tok} (hu : jTe u) (h : xS σ τ u B Ln T W KN op) :
    (∃ σ' τ1 τ' T', g_Rd_passKnot (dc + 3) σ = some (some (.int 1), σ') ∧ g_M_knot (dm + 4) τ = some (none, τ1) ∧ g_M_goOn (dm + 4) τ1 = some (none, τ') ∧ jep (xcS u W) σ σ' ∧ jep (xmS W) τ τ' ∧ xS σ' τ' u B Ln T' W (KN + 1) op) ∨
    (∃ σ' τ' pl, g_Rd_passKnot (dc + 3) σ = some (some (.int 0), σ') ∧ g_M_knot (dm + 4) τ = some (none, τ') ∧ jep (xcS u W) σ σ' ∧ jep (xmS W) τ τ' ∧ rdF σ' 2 pl ∧ mdF τ' 2 pl) := by
  have hr := te_r hu
  obtain ⟨h1, h2, h3, h4, h5, h6, h7, h8, h9, h10⟩ := h
  by_cases hk : KN < 64
  · left
    obtain ⟨σ', T', q1, q2, q3, q4, q5⟩ := c_passKnot dc hu σ h1 h5 hk
    have k1 := m_knot (dm + 2) τ h2 h6 hk
    have m1 : mdS (j_setI τ 86 28 (nI (KN + 1))) B Ln T := h2.fr (fun b j q => by
      by_cases e : b = 86
      · exact setI_nk (by omega)
      · exact setI_ne e)
    obtain ⟨τ', p1, p2, p3⟩ := m_goOn dm _ m1 q3
    refine ⟨σ', _, τ', T', q1, k1, p1, q2.mono (fun b j q => ?_), (jep.rf.sI (S := xmS W) (Or.inl ⟨rfl, by omega⟩)).tr (p2.mono (fun b j q => tk_xm q)), q4, p3, by omega, by omega, q5, ?_, ?_, ?_, h9, ?_⟩
    · rcases q with q | q
      · exact Or.inl (Or.inl q)
      · exact Or.inr (Or.inl ⟨q.1, Or.inl q.2⟩)
    · rw [(p2 86 28 (fun q => by have := q.2.2; omega)).1, setI_same]
    · rw [(q2 (u + 10) 2 (fun q => q.elim (fun q => by have := q.1; omega) (fun q => by have := q.2; omega))).1]; exact h7
    · rw [(p2 88 7 (fun q => by have := q.1; omega)).1, setI_ne (by omega)]; exact h8
    · rw [(p2 86 27 (fun q => by have := q.2.2; omega)).1, setI_nk (by omega)]; exact h10
  · right
    have e : KN = 64 := by omega
    subst e
    obtain ⟨σ', q1, q2, q3⟩ := c_passKnotX dc hu σ h1 h5
    obtain ⟨τ', p1, p2, p3⟩ := m_knotX (dm + 2) τ h2 h6
    exact ⟨σ', τ', T.2.1, q1, p1, q2.mono (fun b j => rd_xc), p2.mono (fun b j => md_xm), q3, p3⟩
/-- a knot is written -/
theorem x_write (dc dm : Nat) {σ τ : jS} {u Ln W KN op : Nat} {B : Nat → Nat} {T : Tok} (hu : jTe u) (k v x y : Int32) (h : xS σ τ u B Ln T W KN op) (hW : W < KN) : ∃ σ' τ', g_La_write (dc + 1) (u + 10) k v σ = some (none, σ') ∧ g_M_puts (dm + 2) x y τ = some (none, τ') ∧ jep (xcS u W) σ σ' ∧ jep (xmS W) τ τ' ∧ xS σ' τ' u B Ln T (W + 1) KN op ∧ σ'.1 (u + 11) W = k ∧ σ'.1 (u + 12) W = v ∧ τ'.1 100 (64 + W) = x ∧ τ'.1 101 (64 + W) = y ∧ (∀ j, j < W → σ'.1 (u + 11) j = σ.1 (u + 11) j ∧ σ'.1 (u + 12) j = σ.1 (u + 12) j ∧ τ'.1 100 (64 + j) = τ.1 100 (64 + j) ∧ τ'.1 101 (64 + j) = τ.1 101 (64 + j)) := by
  have hr := te_r hu
  obtain ⟨h1, h2, h3, h4, h5, h6, h7, h8, h9, h10⟩ := h
  have J : jep (xcS u W) σ (j_setI (j_setI (j_setI σ (u + 11) W k) (u + 12) W v) (u + 10) 2 (nI (W + 1))) := ((jep.rf.sI (S := xcS u W) (Or.inr (Or.inr (Or.inl ⟨rfl, Nat.le_refl _⟩)))).sI (Or.inr (Or.inr (Or.inr ⟨rfl, Nat.le_refl _⟩)))).sI (Or.inr (Or.inl ⟨rfl, Or.inr rfl⟩))
  have Jm : jep (xmS W) τ (j_setI (j_setI (j_setI τ 100 (64 + W) x) 101 (64 + W) y) 88 7 (nI (W + 1))) := ((jep.rf.sI (S := xmS W) (Or.inr (Or.inr (Or.inl ⟨rfl, Nat.le_refl _⟩)))).sI (Or.inr (Or.inr (Or.inr ⟨rfl, Nat.le_refl _⟩)))).sI (Or.inr (Or.inl ⟨rfl, rfl⟩))
  refine ⟨_, _, c_write dc hu k v σ h7 (by omega), m_puts dm x y τ h2 h8 (by omega), J, Jm, ⟨h1.fr (fun b j q => ⟨?_, rfl⟩), h2.fr (fun b j q => ?_), by omega, h4, ?_, ?_, ?_, ?_, h9, ?_⟩, ?_, ?_, ?_, ?_, fun j hj => ⟨?_, ?_, ?_, ?_⟩⟩
  · rw [setI_ne (by omega), setI_ne (by omega), setI_ne (by omega)]
  · rw [setI_ne (by omega), setI_ne (by omega), setI_ne (by omega)]
  · rw [setI_nk (by omega), setI_ne (by omega), setI_ne (by omega)]; exact h5
  · rw [setI_ne (by omega), setI_ne (by omega), setI_ne (by omega)]; exact h6
  · exact setI_same _ _ _ _
  · exact setI_same _ _ _ _
  · rw [setI_ne (by omega), setI_ne (by omega), setI_ne (by omega)]; exact h10
  · rw [setI_ne (by omega), setI_ne (by omega), setI_same]
  · rw [setI_ne (by omega), setI_same]
  · rw [setI_ne (by omega), setI_ne (by omega), setI_same]
  · rw [setI_ne (by omega), setI_same]
  · rw [setI_ne (by omega), setI_ne (by omega), setI_nk (by omega)]
  · rw [setI_ne (by omega), setI_nk (by omega), setI_ne (by omega)]
  · rw [setI_ne (by omega), setI_ne (by omega), setI_nk (by omega)]
  · rw [setI_ne (by omega), setI_nk (by omega), setI_ne (by omega)]
/-- what lies ahead of W stays -/
theorem x_low {σ σ' τ τ' : jS} {u W : Nat} (hu : jTe u) (h1 : jep (xcS u W) σ σ') (h2 : jep (xmS W) τ τ') : ∀ j, j < W → σ'.1 (u + 11) j = σ.1 (u + 11) j ∧ σ'.1 (u + 12) j = σ.1 (u + 12) j ∧ τ'.1 100 (64 + j) = τ.1 100 (64 + j) ∧ τ'.1 101 (64 + j) = τ.1 101 (64 + j) := fun j hj => by
  have hr := te_r hu
  refine ⟨(h1 _ _ (fun q => ?_)).1, (h1 _ _ (fun q => ?_)).1, (h2 _ _ (fun q => ?_)).1, (h2 _ _ (fun q => ?_)).1⟩
  · unfold xcS rd_S at q; omega
  · unfold xcS rd_S at q; omega
  · unfold xmS at q; omega
  · unfold xmS at q; omega
theorem xP.keep {σ σ' τ τ' : jS} {u W0 W : Nat} (h : xP σ τ u W0 W) (e : ∀ j, j < W → σ'.1 (u + 11) j = σ.1 (u + 11) j ∧ σ'.1 (u + 12) j = σ.1 (u + 12) j ∧ τ'.1 100 (64 + j) = τ.1 100 (64 + j) ∧ τ'.1 101 (64 + j) = τ.1 101 (64 + j)) : xP σ' τ' u W0 W := by
  obtain ⟨h1, h2, h3⟩ := h
  refine ⟨h1, fun j j1 j2 => ?_, fun dp => ?_⟩
  · obtain ⟨e1, e2, e3, e4⟩ := e j j2
    rw [e1, e2, e3, e4]; exact h2 j j1 j2
  · rw [wf_cg (ll := σ.1 (u + 11)) _ _ _ (fun j j1 j2 => (e j (by omega)).1)]; exact h3 dp
/-- two parts and the knot that joins them -/
theorem xP.bin {σ τ : jS} {u W0 W W2 : Nat} (h : xP σ τ u W0 W) (g : xP σ τ u W W2) (hk : lw_op (σ.1 (u + 11) W2)) (ht : tokR (σ.1 (u + 11) W2) (σ.1 (u + 12) W2) (τ.1 100 (64 + W2)) (τ.1 101 (64 + W2))) : xP σ τ u W0 (W2 + 1) := by
  obtain ⟨h1, h2, h3⟩ := h
  obtain ⟨g1, g2, g3⟩ := g
  refine ⟨by omega, fun j j1 j2 => ?_, fun dp => ?_⟩
  · by_cases e : j < W
    · exact h2 j j1 e
    · by_cases e2 : j < W2
      · exact g2 j (by omega) e2
      · have : j = W2 := by omega
        subst this; exact ht
  · rw [show W2 + 1 - W0 = (W - W0) + ((W2 - W) + 1) by omega, wf_app, h3, Option.bind_some, show W0 + (W - W0) = W by omega, wf_app, g3, Option.bind_some, show W + (W2 - W) = W2 by omega, wf_one, wf_d_op hk (by omega)]
    rfl
theorem xP.not {σ τ : jS} {u W0 W : Nat} (h : xP σ τ u W0 W) (hk : σ.1 (u + 11) W = 14) (ht : tokR (σ.1 (u + 11) W) (σ.1 (u + 12) W) (τ.1 100 (64 + W)) (τ.1 101 (64 + W))) : xP σ τ u W0 (W + 1) := by
  obtain ⟨h1, h2, h3⟩ := h
  refine ⟨by omega, fun j j1 j2 => ?_, fun dp => ?_⟩
  · by_cases e : j < W
    · exact h2 j j1 e
    · have : j = W := by omega
      subst this; exact ht
  · rw [show W + 1 - W0 = (W - W0) + 1 by omega, wf_app, h3, Option.bind_some, show W0 + (W - W0) = W by omega, wf_one, hk, wf_d_not (by omega)]
theorem xP.one {σ τ : jS} {u W : Nat} (hk : (0 ≤ σ.1 (u + 11) W ∧ σ.1 (u + 11) W ≤ 5) ∨ σ.1 (u + 11) W = 17) (ht : tokR (σ.1 (u + 11) W) (σ.1 (u + 12) W) (τ.1 100 (64 + W)) (τ.1 101 (64 + W))) : xP σ τ u W (W + 1) := by
  refine ⟨by omega, fun j j1 j2 => ?_, fun dp => ?_⟩
  · have : j = W := by omega
    subst this; exact ht
  · rw [show W + 1 - W = 1 by omega, wf_one, wf_d_push hk]
/-- the loop: J: which tokens join -/
theorem x_loop (dc dm : Nat) {u Ln op W0 KN0 : Nat} {B : Nat → Nat} (hu : jTe u) (lv : Nat) (sub ml : jS → jR) (J : Nat → Prop) {σ0 τ0 : jS}
    (hS : ∀ σ τ T W KN, KN0 ≤ KN → xS σ τ u B Ln T W KN op → xO (g_Rd_expression (dc + 3) (nI lv + 1) (nI op) σ) (sub τ) σ τ u B Ln W KN op)
    (hJ : ∀ σ K, K ≤ 258 → g_Rd_joins (dc + 3) (nI lv) (nI K) σ = some (some (.int (b2i (J K))), σ))
    (hm0 : ∀ τ T, mdS τ B Ln T → T.1 ≤ 258 → ¬ J T.1 → ml τ = some (none, τ))
    (hm1 : ∀ τ T, mdS τ B Ln T → T.1 ≤ 258 → J T.1 → ml τ = (r_V (g_M_knot (dm + 4) τ)).bind fun τ1 => (r_V (g_M_goOn (dm + 4) τ1)).bind fun τ2 => (r_V (sub τ2)).bind fun τ3 => (r_V (g_M_puts (dm + 4) 2 (lw_cd (nI T.1)) τ3)).bind fun τ4 => ml τ4)
    (hmF : ∀ τ : jS, ¬ τ.1 86 23 = 0 → ml τ = some (none, τ)) (hsF : ∀ τ : jS, ¬ τ.1 86 23 = 0 → sub τ = some (none, τ)) (hOp : ∀ K, J K → lw_op (nI K)) :
    ∀ (n i W KN : Nat) (σ τ : jS) (T : Tok), 64 - KN < n → i < KN → KN = KN0 + (W - W0) → xS σ τ u B Ln T W KN op → xP σ τ u W0 W → jep (xcS u W0) σ0 σ → jep (xmS W0) τ0 τ → xO (b_Rd_expression_6 (dc + 3) (nI lv) (nI op) 64 (nI i) σ) (ml τ) σ0 τ0 u B Ln W0 KN0 op := by
  intro n
  induction n with
  | zero => intro i W KN σ τ T hn; omega
  | succ n ih =>
    intro i W KN σ τ T hn hi hK h hP f1 f2
    have hx := h
    obtain ⟨h1, h2, h3, h4, h5, h6, h7, h8, h9, h10⟩ := hx
    have hT : T.1 ≤ 258 := h1.2.1
    have hP0 := hP.1
    have h37 : σ.1 37 0 = nI T.1 := h1.1.2.2.2.1
    rw [q_Rd_expression_6, jif_f (show ¬ (64 : Int32) ≤ nI i from nI_ge (b := 64) (by omega) (by omega)), h37, hJ σ T.1 hT, rI_s]
    simp only [Option.bind_some]
    by_cases hj : J T.1
    · rw [b2i_t hj, jif_f (by decide), hm1 τ T h2 hT hj]
      rcases x_knot dc dm hu h with ⟨σ1, τ1, τ2, T1, a1, a2, a3, a4, a5, a6⟩ | ⟨σ1, τ1, pl, a1, a2, a3, a4, a5, a6⟩
      · rw [a1, a2, rI_s, rV_s]
        simp only [Option.bind_some]
        rw [jif_f (by decide), a3, rV_s]
        simp only [Option.bind_some]
        rcases hS σ1 τ2 T1 W (KN + 1) (by omega) a6 with ⟨σ2, τ3, T2, W2, b1, b2, b3, b4, b5, b6⟩ | ⟨σ2, τ3, k, pl, b1, b2, b3, b4, b5, b6, b7, b8⟩
        · rw [b1, b2, rI_s, rV_s]
          simp only [Option.bind_some]
          have hW2 := b6.1
          rw [jif_f (by decide), q_Rd_expression_8, b5.1.2.2.1, (te_is hu).1, jc_t, (te_cr hu).2.2.2.2.2.2.2.2.2, (te_is hu).2, jc_t, h37]
          obtain ⟨σ3, τ4, c1, c2, c3, c4, c5, c6, c7, c8, c9, c10⟩ := x_write (dc + 2) (dm + 2) hu (nI T.1) 0 2 (lw_cd (nI T.1)) b5 (by omega)
          rw [c1, c2, rV_s, rV_s]
          simp only [Option.bind_some]
          rw [nI_1]
          have l1 := x_low hu a4 a5
          have l2 := x_low hu b3 b4
          have p0 : xP σ3 τ4 u W0 W := ((hP.keep l1).keep l2).keep (fun j hj => c10 j (by omega))
          have p1 : xP σ3 τ4 u W W2 := b6.keep c10
          have b5k := b5.2.2.2.1
          refine ih (i + 1) (W2 + 1) (KN + 1 + (W2 - W)) σ3 τ4 T2 (by omega) (by omega) (by omega) c5 (xP.bin p0 p1 (by rw [c6]; exact hOp _ hj) (by rw [c6, c7, c8, c9]; exact Or.inr (Or.inr (Or.inr ⟨hOp _ hj, rfl, rfl⟩)))) (((f1.tr (a4.mono (xcS.m (by omega)))).tr (b3.mono (xcS.m (by omega)))).tr (c3.mono (xcS.m (by omega)))) (((f2.tr (a5.mono (xmS.m (by omega)))).tr (b4.mono (xmS.m (by omega)))).tr (c4.mono (xmS.m (by omega))))
        · have hf := b8.ne b5 b6
          rw [b1, b2, rI_s, rV_s]
          simp only [Option.bind_some]
          rw [jif_t trivial, q_Rd_expression_7, m_putsF _ _ _ _ hf, rV_s]
          simp only [Option.bind_some]
          rw [hmF _ hf]
          exact Or.inr ⟨σ2, τ3, k, pl, rfl, rfl, (f1.tr (a4.mono (xcS.m (by omega)))).tr (b3.mono (xcS.m (by omega))), (f2.tr (a5.mono (xmS.m (by omega)))).tr (b4.mono (xmS.m (by omega))), b5, b6, b7, b8⟩
      · have hf := a6.ne (by omega) (by omega)
        rw [a1, a2, rI_s, rV_s]
        simp only [Option.bind_some]
        rw [jif_t trivial, q_Rd_expression_7, m_goOnF _ _ hf, rV_s]
        simp only [Option.bind_some]
        rw [hsF _ hf, rV_s]
        simp only [Option.bind_some]
        rw [m_putsF _ _ _ _ hf, rV_s]
        simp only [Option.bind_some]
        rw [hmF _ hf]
        exact Or.inr ⟨σ1, τ1, 2, pl, rfl, rfl, f1.tr (a3.mono (xcS.m (by omega))), f2.tr (a4.mono (xmS.m (by omega))), by omega, by omega, a5, a6⟩
    · rw [b2i_f hj, jif_t rfl, q_Rd_expression_9, hm0 τ T h2 hT hj]
      exact Or.inl ⟨σ, τ, T, W, rfl, rfl, f1, f2, hK ▸ h, hP⟩
