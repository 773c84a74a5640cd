/-! Lines: the law, a may. -/
theorem fr_2 (d : Nat) {A : Nat} (τ : jS) (h : τ.1 88 6 = nI A) : g_M_fresher (d + 1) 2 τ = some (some (.int (nI A)), τ) := by
  have f := m_fresher d 2 (by omega) τ
  rw [show τ.1 88 (4 + 2) = nI A from h] at f
  exact f
theorem fr_3 (d : Nat) (τ : jS) : g_M_fresher (d + 1) 3 τ = some (some (.int (τ.1 88 7)), τ) := m_fresher d 3 (by omega) τ
theorem c_open (d : Nat) {u W L : Nat} (hu : jTe u) (hL : L < 5) (σ : jS) (h2 : σ.1 (u + 10) 2 = nI W) : g_La_open (d + 1) (u + 10) (nI L) σ = some (none, j_setI σ (u + 13) L (nI W)) := by
  rw [e_La_open, q_La_open_0, (te_is hu).2, jc_t, jc_t, (la_cr hu).2.2.1, h2, wrI_ok (la_len hu).2.2.1 rfl hL (by omega)]
  rfl
theorem c_close (d : Nat) {u L : Nat} (hu : jTe u) (hL : L < 5) (σ : jS) : g_La_close (d + 1) (u + 10) (nI L) σ = some (none, j_setI σ (u + 14) L (σ.1 (u + 10) 2)) := by
  rw [e_La_close, q_La_close_0, (te_is hu).2, jc_t, jc_t, (la_cr hu).2.2.2.1, wrI_ok (la_len hu).2.2.2.1 rfl hL (by omega)]
  rfl
/-- an expression read from where lines are read -/
theorem x_toks {σ σ' τ τ' : jS} {u W W' : Nat} (hu : jTe u) (h : ∀ j, j < W → tokR (σ.1 (u + 11) j) (σ.1 (u + 12) j) (τ.1 100 (64 + j)) (τ.1 101 (64 + j))) (h1 : jep (xcS u W) σ σ') (h2 : jep (xmS W) τ τ') (hp : xP σ' τ' u W W') : ∀ j, j < W' → tokR (σ'.1 (u + 11) j) (σ'.1 (u + 12) j) (τ'.1 100 (64 + j)) (τ'.1 101 (64 + j)) := fun j hj => by
  by_cases e : j < W
  · obtain ⟨e1, e2, e3, e4⟩ := x_low hu h1 h2 j e
    rw [e1, e2, e3, e4]; exact h j e
  · exact hp.2.1 j (by omega) hj
theorem lawU.up {σ τ : jS} {u L Ls W W' : Nat} (h : lawU σ τ u L Ls W) (hW : W ≤ W') : lawU σ τ u L Ls W' := by
  obtain ⟨s, e, a1, a2, a3⟩ := h
  exact ⟨s, e, a1, by omega, a3⟩
theorem l_law (dc dm : Nat) {σ τ : jS} {u Ln A Pt M W : Nat} {B : Nat → Nat} {T : Tok} (hu : jTe u) (h : lS σ τ u B Ln T A Pt M W) (hT : T.1 = 12) : LB (g_Rd_lawLine (dc + 101) σ) (b_M_line_2 (dm + 132) τ) σ τ u B Ln (dm + 132) := by
  have hr := te_r hu
  have hx := h
  obtain ⟨h1, h2, h3, h4⟩ := hx
  have h23 : τ.1 86 23 = 0 := h2.2.2.2.2
  have w0 : τ.1 86 22 = 3 := (h2.2.2.2.1.wd (i := 3) (by omega) hT).2
  have c12 : j_cr u 12 = u + 10 := (te_cr hu).2.2.2.2.2.2.2.2.2
  rw [e_Rd_lawLine, q_Rd_lawLine_0, h1.2.2.1, (te_is hu).1, jc_t, c12, (te_is hu).2, jc_t, q_M_line_2, w0, jif_f (show ¬ (3 : Int32) = 0 by decide), q_M_line_3, jif_f (show ¬ (3 : Int32) = 2 by decide), q_M_line_4, jif_f (show ¬ (3 : Int32) = 4 by decide), q_M_line_6, jif_t (show (3 : Int32) = 3 from rfl)]
  rcases h4.2.2.2.2.2.2.2.1 with ⟨f1, f2, f3, f4⟩ | ⟨f1, f2, -⟩
  · obtain ⟨σ1, T1, a1, a2, a3, a4⟩ := c_adv (dc + 98) σ h1
    obtain ⟨τ1, b1, b2, b3⟩ := m_tok (dm + 129) τ h2 a3
    have L1 : lS σ1 τ1 u B Ln T1 A Pt M W := h.adv hu (ta_rd a2) a4 b2 b3
    obtain ⟨g1, g2, g3, g4, g5, g6, g7, -, g9⟩ := L1.2.2.2
    rw [jif_t f1, jif_t f2, q_Rd_lawLine_1, q_M_line_7, jif_t h23, q_M_line_8, a1, rV_s, b1, rV_s]
    simp only [Option.bind_some]
    rw [jif_f (by decide), jif_f (by decide), jif_f (by decide), jif_t (by decide), q_M_line_12, fr_3, rI_s]
    simp only [Option.bind_some]
    obtain ⟨σ3, hσ3⟩ : ∃ s, s = j_setI (j_setI σ1 (u + 10) 1 1) (u + 13) 4 (nI W) := ⟨_, rfl⟩
    obtain ⟨τ3, hτ3⟩ : ∃ t, t = j_setI (j_setI τ1 86 29 1) 98 5 (nI W) := ⟨_, rfl⟩
    have cf : ∀ b j, ¬ (b = u + 10 ∧ j = 1) → ¬ (b = u + 13 ∧ j = 4) → σ3.1 b j = σ1.1 b j := fun b j q1 q2 => by rw [hσ3, setI_get, if_neg q2, setI_get, if_neg q1]
    have mf : ∀ b j, ¬ (b = 86 ∧ j = 29) → ¬ (b = 98 ∧ j = 5) → τ3.1 b j = τ1.1 b j := fun b j q1 q2 => by rw [hτ3, setI_get, if_neg q2, setI_get, if_neg q1]
    have k3 : rdS σ3 u B Ln T1 := a4.fr (fun b j q => ⟨cf b j (by omega) (by omega), by rw [hσ3]; rfl⟩)
    have m3 : mdS τ3 B Ln T1 := b3.fr (fun b j q => mf b j (by omega) (by omega))
    have X : xS σ3 τ3 u B Ln T1 W W 0 := ⟨k3, m3, Nat.le_refl _, g1, by rw [cf _ _ (by omega) (by omega)]; exact g2, by rw [mf _ _ (by omega) (by omega)]; exact g3, by rw [cf _ _ (by omega) (by omega)]; exact g4, by rw [mf _ _ (by omega) (by omega)]; exact g5, by omega, by rw [mf _ _ (by omega) (by omega)]; exact g6⟩
    have F3 : jep (lcS u) σ σ3 := by rw [hσ3]; exact ((a2.mono (fun b j => ta_lc)).sI (Or.inr (by omega))).sI (Or.inr (by omega))
    have G3 : jep lmS τ τ3 := by rw [hτ3]; exact ((b2.mono (fun b j => tk_lm)).sI (Or.inl ⟨rfl, by omega, by omega, by omega, by omega⟩)).sI (lm_in (by omega) (by omega) (show 5 ≤ 5 by omega))
    have r1 : (j_setI σ1 (u + 10) 1 1).2.2 36 3 = u := a4.2.2.1
    have o1 : (j_setI σ1 (u + 10) 1 1).1 (u + 10) 2 = nI W := by rw [setI_nk (by omega)]; exact g4
    have o2 : (j_setI τ1 86 29 1).1 88 7 = nI W := by rw [setI_ne (by omega)]; exact g5
    rw [a4.2.2.1, (te_is hu).1, jc_t, c12, (te_is hu).2, jc_t, r1, (te_is hu).1, jc_t, c12, (te_is hu).2, jc_t, show g_La_open (dc + 100) (u + 10) 4 _ = _ from c_open (dc + 99) (L := 4) hu (by omega) _ o1, rV_s, ← hσ3, o2, wrI_ok (a := 98) (n := 10) (i := 5) (k := 5) rfl rfl (by omega) (by omega), ← hτ3]
    simp only [Option.bind_some]
    rcases x_E hu 8 0 (dc + 100) (dm + 132) W W σ3 τ3 T1 (by omega) (by omega) (by omega) X with ⟨σ4, τ4, T4, W4, d1, d2, d3, d4, d5, d6⟩ | ⟨σ4, τ4, k, pl, d1, d2, d3, d4, d5, d6, d7, d8⟩
    · have hW4 := d6.1
      obtain ⟨e1, e2, e3, e4, e5, e6, e7, e8, -, e10⟩ := d5
      rw [show W + (W4 - W) = W4 by omega] at e4 e5 e6
      have cf4 : ∀ b j, ¬ xcS u W b j → ¬ (b = u + 10 ∧ j = 1) → ¬ (b = u + 13 ∧ j = 4) → σ4.1 b j = σ1.1 b j := fun b j q1 q2 q3 => by rw [(d3 b j q1).1, cf b j q2 q3]
      have mf4 : ∀ b j, ¬ xmS W b j → ¬ (b = 86 ∧ j = 29) → ¬ (b = 98 ∧ j = 5) → τ4.1 b j = τ1.1 b j := fun b j q1 q2 q3 => by rw [(d4 b j q1).1, mf b j q2 q3]
      have nx : ∀ b j, u ≤ b → b ≤ u + 14 → ¬ (b = u + 10 ∧ (j = 0 ∨ j = 2)) → ¬ (b = u + 11 ∧ W ≤ j) → ¬ (b = u + 12 ∧ W ≤ j) → ¬ xcS u W b j := fun b j q1 q2 q3 q4 q5 q => by unfold xcS rd_S at q; omega
      have nm : ∀ b j, ¬ (b = 86 ∧ 19 ≤ j ∧ j ≤ 28) → ¬ (b = 88 ∧ j = 7) → ¬ (b = 100 ∧ 64 + W ≤ j) → ¬ (b = 101 ∧ 64 + W ≤ j) → ¬ xmS W b j := fun b j q1 q2 q3 q4 q => by unfold xmS at q; omega
      have low := x_low hu d3 d4
      have tk3 : ∀ j, j < W → tokR (σ3.1 (u + 11) j) (σ3.1 (u + 12) j) (τ3.1 100 (64 + j)) (τ3.1 101 (64 + j)) := fun j hj => by
        rw [cf _ _ (by omega) (by omega), cf _ _ (by omega) (by omega), mf _ _ (by omega) (by omega), mf _ _ (by omega) (by omega)]; exact g7 j hj
      have tk4 := x_toks hu tk3 d3 d4 d6
      rw [show g_Rd_expression (dc + 100) 0 0 σ3 = _ from d1, rI_s, d2, rV_s]
      simp only [Option.bind_some]
      rw [e1.2.2.1, (te_is hu).1, jc_t, c12, (te_is hu).2, jc_t, show g_La_close (dc + 100) (u + 10) 4 σ4 = _ from c_close (dc + 99) (L := 4) hu (by omega) σ4, rV_s, fr_3, rI_s]
      simp only [Option.bind_some]
      rw [e7, e8, wrI_ok (a := 99) (n := 10) (i := 5) (k := 5) rfl rfl (by omega) (by omega)]
      refine Or.inl ⟨j_setI σ4 (u + 14) 4 (nI W4), j_setI τ4 99 5 (nI W4), T4, A, Pt, M, W4, rfl, rfl, (F3.tr (d3.mono (fun b j => xc_lc))).sI (Or.inr (by omega)), (G3.tr (d4.mono (fun b j => xm_lm))).sI (lm_in (by omega) (by omega) (show 5 ≤ 5 by omega)), ⟨e1.fr (fun b j q => ⟨setI_ne (by omega), rfl⟩), e2.fr (fun b j q => setI_ne (by omega)), L1.2.2.1.fr (fun b j q1 q2 => ?_) (fun b j q1 q2 q3 => ?_), ⟨e4, ?_, ?_, ?_, ?_, ?_, fun j hj => ?_, Or.inr ⟨?_, ?_, W, W4, hW4, Nat.le_refl _, ?_, ?_, ?_, ?_, ?_⟩, fun m hm => ?_⟩⟩, ?_⟩
      · rw [setI_ne (by omega)]; exact cf4 b j (nx b j q1 (by omega) (by omega) (by omega) (by omega)) (by omega) (by omega)
      · rw [setI_ne (by omega)]; exact mf4 b j (nm b j (by omega) q3 (by omega) (by omega)) (by omega) (by omega)
      · rw [setI_ne (by omega)]; exact e5
      · rw [setI_ne (by omega)]; exact e6
      · rw [setI_ne (by omega)]; exact e7
      · rw [setI_ne (by omega)]; exact e8
      · rw [setI_ne (by omega)]; exact e10
      · rw [setI_ne (by omega), setI_ne (by omega), setI_ne (by omega), setI_ne (by omega)]; exact tk4 j hj
      · rw [setI_ne (by omega), (d3 (u + 10) 1 (fun q => by unfold xcS rd_S at q; omega)).1, hσ3, setI_ne (by omega), setI_same]
      · rw [setI_ne (by omega), (d4 86 29 (fun q => by unfold xmS at q; omega)).1, hτ3, setI_ne (by omega), setI_same]
      · rw [setI_ne (by omega), (d3 (u + 13) 4 (fun q => by unfold xcS rd_S at q; omega)).1, hσ3, setI_same]
      · exact setI_same _ _ _ _
      · rw [setI_ne (by omega), (d4 98 5 (fun q => by unfold xmS at q; omega)).1, hτ3, setI_same]
      · exact setI_same _ _ _ _
      · rw [show (j_setI σ4 (u + 14) 4 (nI W4)).1 (u + 11) = σ4.1 (u + 11) from j_setI_ne (by omega)]; exact d6.2.2 0
      · have hM := L1.2.2.1.2.2.1
        refine ((g9 m hm).fr ?_ ?_ ?_ ?_ (fun j hj => ?_)).up (by omega)
        · rw [setI_ne (by omega)]; exact cf4 _ _ (nx _ _ (by omega) (by omega) (by omega) (by omega) (by omega)) (by omega) (by omega)
        · rw [setI_nk (by omega)]; exact cf4 _ _ (nx _ _ (by omega) (by omega) (by omega) (by omega) (by omega)) (by omega) (by omega)
        · rw [setI_ne (by omega)]; exact mf4 _ _ (nm _ _ (by omega) (by omega) (by omega) (by omega)) (by omega) (by omega)
        · rw [setI_nk (by omega)]; exact mf4 _ _ (nm _ _ (by omega) (by omega) (by omega) (by omega)) (by omega) (by omega)
        · rw [setI_ne (by omega), (low j hj).1, cf _ _ (by omega) (by omega)]
      · rw [setI_ne (by omega), mf4 _ _ (nm _ _ (by omega) (by omega) (by omega) (by omega)) (by omega) (by omega), (b2 86 17 (fun q => by have := q.2; omega)).1]
    · have hf := d8.ne d5 d6
      rw [show g_Rd_expression (dc + 100) 0 0 σ3 = _ from d1, rI_s, d2, rV_s]
      simp only [Option.bind_some]
      have r4 : σ4.2.2 36 3 = u := by rw [(d3 36 3 (fun q => by unfold xcS rd_S at q; omega)).2.2]; exact k3.2.2.1
      rw [r4, (te_is hu).1, jc_t, c12, (te_is hu).2, jc_t, show g_La_close (dc + 100) (u + 10) 4 σ4 = _ from c_close (dc + 99) (L := 4) hu (by omega) σ4, rV_s, fr_3, rI_s]
      simp only [Option.bind_some]
      rw [wrI_ok (a := 99) (n := 10) (i := 5) (k := 5) rfl rfl (by omega) (by omega)]
      exact LB.bad14 (σ' := j_setI σ4 (u + 14) 4 (σ4.1 (u + 10) 2)) (τ' := j_setI τ4 99 5 (τ4.1 88 7)) rfl rfl ((F3.tr (d3.mono (fun b j => xc_lc))).sI (Or.inr (by omega))) ((G3.tr (d4.mono (fun b j => xm_lm))).sI (lm_in (by omega) (by omega) (show 5 ≤ 5 by omega))) ⟨d5, d6⟩ (d7.fr (fun j _ => setI_ne (by omega))) (d8.fr (fun j _ _ => setI_ne (by omega)))
  · obtain ⟨σ', q1, q2, q3⟩ := c_fails (dc + 99) 3 σ h1
    obtain ⟨τ', p1, p2, p3⟩ := m_wrong (dm + 131) 3 τ h2
    rw [f1, jif_f (by decide), f2, jif_f (by decide), show g_Rd_fails (dc + 100) 3 σ = _ from q1, rI_s, show g_M_wrong (dm + 132) 3 τ = _ from p1, rV_s]
    simp only [Option.bind_some]
    rw [q_M_line_7, jif_f (p3.ne (by omega) (by omega))]
    exact LB.bad rfl rfl (q2.mono (fun b j => rd_lc)) (p2.mono (fun b j => md_lm)) (by omega) q3 p3
