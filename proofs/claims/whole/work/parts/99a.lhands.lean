/-! Lines: who hands to whom. -/
theorem l_heir (dc dm : Nat) {σ τ : jS} {u Ln A Pt M W p w : Nat} {B : Nat → Nat} {T : Tok} (hu : jTe u) (h : lS σ τ u B Ln T A Pt M W) (hp : p < A) (hw : w ≤ 3) (h4 : σ.1 (u + 4) p = nI w) : HB (g_Rd_heirOf (dc + 5) (nI p) σ) (g_M_handsOne (dm + 4) (nI p) τ) σ τ u B Ln (fun σ' A' => A' = A ∧ w < 3 ∧ σ'.1 (u + 4) p = nI (w + 1)) := by
  have hr := te_r hu
  have hx := h
  obtain ⟨h1, h2, h3, hl⟩ := hx
  have hA10 := h3.1
  have cA : σ.1 u 0 = nI A := h3.2.2.2.1
  have mA : τ.1 88 4 = nI A := h3.2.2.2.2.1
  have h23 : τ.1 86 23 = 0 := h2.2.2.2.2
  have rp := h3.2.2.2.2.2.2.2.2.2.1
  have m92 : τ.1 92 (10 + p) = nI w := (rp p hp).2.2.2.1.symm.trans h4
  have h37 : σ.1 37 0 = nI T.1 := h1.1.2.2.2.1
  have hv : σ.1 37 2 = T.2.2.2 := h1.1.2.2.2.2.2.2.1
  have hT : T.1 ≤ 258 := h1.2.1
  obtain ⟨r1, r2, -, -⟩ := h2.2.2.2.1.tk (by omega)
  obtain ⟨p1, p2, p3⟩ := m_person (dm + 1) (by omega) hA10 τ h2 mA
  have fe : fnd (σ.1 (u + 1)) T.2.2.2 A 0 = fnd (fun k => τ.1 89 (10 + k)) T.2.2.2 A 0 := fnd_congr A 0 (fun k _ hk => (rp k (by omega)).1)
  rw [e_Rd_heirOf, q_Rd_heirOf_0, h37, e_M_handsOne, q_M_handsOne_0, show (10 : Int32) + nI p = nI (10 + p) from nI_add 10 p, rdI_ok (a := 92) (n := 20) rfl rfl (show 10 + p < 20 by omega) (by omega), m92]
  simp only [Option.bind_some]
  by_cases k16 : T.1 = 16
  · rw [jif_t (show nI T.1 = 16 by rw [k16]; rfl), q_Rd_heirOf_1, h1.2.2.1, (te_is hu).1, jc_t, (te_cr hu).2.2.2.1, rdI_ok (te_len hu).2.2.2.1 rfl (show p < 10 by omega) (by omega), jif_t (r1.mpr k16)]
    simp only [Option.bind_some]
    rw [h4]
    by_cases w3 : w < 3
    · rw [jif_t (show nI w < (3 : Int32) from nI_lt (b := 3) w3 (by omega)), q_Rd_heirOf_2, h1.2.2.1, (te_is hu).1, jc_t, c_personNamed (dc + 2) hu hA10 _ σ cA, rI_s, hv, jif_f (show ¬ nI w = (3 : Int32) from nI_k (k := 3) (by omega) (by omega) (by omega)), q_M_handsOne_1]
      simp only [Option.bind_some]
      by_cases kf : fnd (σ.1 (u + 1)) T.2.2.2 A 0 = -1
      · obtain ⟨σ', a1, a2, a3⟩ := c_fails (dc + 3) 4 σ h1
        obtain ⟨τ', b1, b2, b3⟩ := p3 k16 (fe ▸ kf)
        have hf := b3.ne (by omega) (by omega)
        rw [jif_t kf, show g_Rd_fails (dc + 4) 4 σ = _ from a1, rI_s, b1, rI_s]
        simp only [Option.bind_some]
        rw [show b_M_handsOne_2 (dm + 3) (nI p) (nI w) 0 0 τ' = _ from m_h2F (dm + 3) (nI p) 0 w hw τ' hf w 0 (by omega)]
        exact HB.bad rfl rfl a2 b2 (by omega) a3 b3
      · obtain ⟨o, -, ho, eo⟩ := fnd_of A 0 kf
        have pe := p1 k16 (fe ▸ kf)
        rw [← fe, eo] at pe
        rw [jif_f kf, eo, pe, rI_s, q_Rd_heirOf_3, h1.2.2.1, (te_is hu).1, jc_t, e_Te_handsTo, q_Te_handsTo_0]
        simp only [Option.bind_some]
        have hs := c_handsTo_l (dc + 1) hu (show p < 10 by omega) hw (nI o) σ h4 w 0 (by omega)
        have ms := m_h2 (dm + 2) (show p < 10 by omega) hw (nI o) τ h2 w 0 (by omega)
        obtain ⟨v, v1, v2, v3⟩ := (rp p hp).2.2.2.2
        have ev : v = w := nI_inj (by omega) (by omega) (v2.symm.trans h4)
        subst ev
        by_cases kh : ∃ k, 0 ≤ k ∧ k < v ∧ σ.1 (u + 5) (3 * p + k) = nI o
        · obtain ⟨σ', a1, a2, a3⟩ := c_fails (dc + 3) 3 σ h1
          obtain ⟨τ', b1, b2, b3⟩ := ms.1 (by obtain ⟨k, k1, k2, k3⟩ := kh; exact ⟨k, k1, k2, (v3 k k2).1.symm.trans k3⟩)
          rw [show b_Te_handsTo_1 (dc + 3) u (nI p) (nI o) 0 σ = _ from hs.1 kh, rI_s, show b_M_handsOne_2 (dm + 3) (nI p) (nI v) (nI o) 0 τ = _ from b1]
          simp only [Option.bind_some]
          rw [jif_f (by decide), show g_Rd_fails (dc + 4) 3 σ = _ from a1, rI_s]
          exact HB.bad rfl rfl a2 b2 (by omega) a3 b3
        · have kn : ∀ k, 0 ≤ k → k < v → σ.1 (u + 5) (3 * p + k) ≠ nI o := fun k k1 k2 k3 => kh ⟨k, k1, k2, k3⟩
          rw [show b_Te_handsTo_1 (dc + 3) u (nI p) (nI o) 0 σ = _ from hs.2 kn, rI_s, show b_M_handsOne_2 (dm + 3) (nI p) (nI v) (nI o) 0 τ = _ from ms.2 (fun k k1 k2 k3 => kn k k1 k2 ((v3 k k2).1.trans k3)), q_M_handsOne_4, jif_t h23]
          simp only [Option.bind_some]
          rw [jif_t trivial, q_Rd_heirOf_4]
          by_cases ks : o = p
          · obtain ⟨σ', a1, a2, a3⟩ := c_fails (dc + 3) 5 σ h1
            obtain ⟨τ', b1, b2, b3⟩ := m_wrong (dm + 2) 5 τ h2
            rw [jif_t (show nI o = nI p by rw [ks]), jif_t (show nI o = nI p by rw [ks]), show g_Rd_fails (dc + 4) 5 σ = _ from a1, rI_s, show g_M_wrong (dm + 3) 5 τ = _ from b1, rV_s]
            simp only [Option.bind_some]
            rw [q_M_handsOne_5, jif_f (b3.ne (by omega) (by omega))]
            exact HB.bad rfl rfl a2 b2 (by omega) a3 b3
          · have nop : ¬ nI o = nI p := fun z => ks (nI_inj (by omega) (by omega) z)
            obtain ⟨σ1, hσ1⟩ : ∃ s, s = j_setI (j_setI σ (u + 5) (3 * p + v) (nI o)) (u + 4) p (nI (v + 1)) := ⟨_, rfl⟩
            obtain ⟨τ1, hτ1⟩ : ∃ t, t = j_setI (j_setI τ 93 (30 + (3 * p + v)) (nI o)) 92 (10 + p) (nI (v + 1)) := ⟨_, rfl⟩
            have cf : ∀ b j, ¬ (b = u + 4 ∧ j = p) → ¬ (b = u + 5 ∧ j = 3 * p + v) → σ1.1 b j = σ.1 b j := fun b j q1 q2 => by rw [hσ1, setI_get, if_neg q1, setI_get, if_neg q2]
            have mf : ∀ b j, ¬ (b = 92 ∧ j = 10 + p) → ¬ (b = 93 ∧ j = 30 + (3 * p + v)) → τ1.1 b j = τ.1 b j := fun b j q1 q2 => by rw [hτ1, setI_get, if_neg q1, setI_get, if_neg q2]
            have k1 : rdS σ1 u B Ln T := h1.fr (fun b j q => ⟨cf b j (by omega) (by omega), by rw [hσ1]; rfl⟩)
            have m1 : mdS τ1 B Ln T := h2.fr (fun b j q => mf b j (by omega) (by omega))
            have L1 : lS σ1 τ1 u B Ln T A Pt M W := ⟨k1, m1, h3.heir hp w3 (o := o) (by omega) h4 (fun b j _ _ q1 q2 => cf b j q1 q2) (fun b j _ _ q1 q2 => mf b j q1 q2) (by rw [hσ1, setI_same]) (by rw [hτ1, setI_same]) (by rw [hσ1, setI_ne (by omega), setI_same]) (by rw [hτ1, setI_ne (by omega), setI_same]), hl.fr (fun b j q1 q2 => cf b j (by omega) (by omega)) (fun b j q => mf b j (by omega) (by omega))⟩
            have F1 : jep (lcS u) σ σ1 := by rw [hσ1]; exact (jep.rf.sI (S := lcS u) (Or.inr (by omega))).sI (Or.inr (by omega))
            have G1 : jep lmS τ τ1 := by rw [hτ1]; exact (jep.rf.sI (lm_in (by omega) (by omega) (show 30 ≤ 30 + (3 * p + v) by omega))).sI (lm_in (by omega) (by omega) (show 10 ≤ 10 + p by omega))
            obtain ⟨σ2, T2, a1, a2, a3, a4⟩ := c_adv (dc + 2) σ1 k1
            obtain ⟨τ2, b1, b2, b3⟩ := m_tok dm τ1 m1 a3
            rw [jif_f nop, jif_f nop, q_Rd_heirOf_5, h1.2.2.1, (te_is hu).1, jc_t, c_addHeir (dc + 3) hu (by omega) w3 (nI o) σ h4, rV_s, ← hσ1, q_M_handsOne_5, jif_t h23, q_M_handsOne_6, nI_m3, wrI_ok (a := 93) (n := 60) rfl rfl (show 30 + (3 * p + v) < 60 by omega) (by omega)]
            simp only [Option.bind_some]
            rw [show (10 : Int32) + nI p = nI (10 + p) from nI_add 10 p, rdI_ok (a := 92) (n := 20) rfl rfl (show 10 + p < 20 by omega) (by omega)]
            simp only [Option.bind_some]
            rw [setI_ne (by omega), m92, nI_1, wrI_ok (a := 92) (n := 20) rfl rfl (show 10 + p < 20 by omega) (by omega), ← hτ1, a1, rV_s]
            simp only [Option.bind_some]
            rw [b1, rV_s]
            refine Or.inl ⟨σ2, τ2, T2, A, Pt, M, W, rfl, rfl, F1.tr (a2.mono (fun b j => ta_lc)), G1.tr (b2.mono (fun b j => tk_lm)), L1.adv hu (ta_rd a2) a4 b2 b3, ?_, rfl, w3, ?_⟩
            · rw [(b2 86 17 (fun q => by have := q.2; omega)).1, mf _ _ (by omega) (by omega)]
            · rw [(a2 (u + 4) p (fun q => by have := q.1; omega)).1, hσ1, setI_same]
    · have e3 : w = 3 := by omega
      obtain ⟨σ', a1, a2, a3⟩ := c_fails (dc + 3) 2 σ h1
      obtain ⟨τ', b1, b2, b3⟩ := m_wrong (dm + 2) 2 τ h2
      have hf := b3.ne (by omega) (by omega)
      rw [jif_f (show ¬ nI w < (3 : Int32) from nI_nlt (b := 3) (by omega) (by omega)), jif_t (show nI w = 3 by rw [e3]; rfl), show g_Rd_fails (dc + 4) 2 σ = _ from a1, rI_s, show g_M_wrong (dm + 3) 2 τ = _ from b1, rV_s]
      simp only [Option.bind_some]
      rw [q_M_handsOne_1, m_personF (dm + 2) τ' hf, rI_s]
      simp only [Option.bind_some]
      rw [show b_M_handsOne_2 (dm + 3) (nI p) (nI w) 0 0 τ' = _ from m_h2F (dm + 3) (nI p) 0 w hw τ' hf w 0 (by omega)]
      exact HB.bad rfl rfl a2 b2 (by omega) a3 b3
  · obtain ⟨σ', a1, a2, a3⟩ := c_fails (dc + 3) 1 σ h1
    obtain ⟨τ', b1, b2, b3⟩ := p2 k16
    have hf := b3.ne (by omega) (by omega)
    rw [jif_f (show ¬ nI T.1 = (16 : Int32) from nI_k (k := 16) hT (by omega) k16), show g_Rd_fails (dc + 4) 1 σ = _ from a1, rI_s, jif_f (fun z => k16 (r1.mp z)), q_M_handsOne_1, b1, rI_s]
    simp only [Option.bind_some]
    rw [show b_M_handsOne_2 (dm + 3) (nI p) (nI w) 0 0 τ' = _ from m_h2F (dm + 3) (nI p) 0 w hw τ' hf w 0 (by omega)]
    exact HB.bad rfl rfl a2 b2 (by omega) a3 b3
/-- from one heir on -/
theorem l_heirs (dc dm : Nat) {u Ln A p : Nat} {B : Nat → Nat} (hu : jTe u) (hp : p < A) {σ0 τ0 : jS} : ∀ (n i Pt M W : Nat) (σ τ : jS) (T : Tok), i + n = 3 → lS σ τ u B Ln T A Pt M W → σ.1 (u + 4) p = nI (i + 1) → i < 3 → jep (lcS u) σ0 σ → jep lmS τ0 τ → τ.1 86 17 = τ0.1 86 17 →
    HB (b_Rd_handsLine_5 (dc + 5) (nI p) (nI i) σ) ((r_I (g_M_isWord (dm + 4) 7 τ)).bind fun q3 => b_M_handsLine_5 (dm + 4) (nI p) q3.1 q3.2) σ0 τ0 u B Ln (fun _ _ => True) := by
  intro n
  induction n with
  | zero => intro i Pt M W σ τ T hi _ _ h3; omega
  | succ n ih =>
    intro i Pt M W σ τ T hi h h4 h3 f1 f2 f3
    have h1 := h.1
    have h2 := h.2.1
    have h37 : σ.1 37 0 = nI T.1 := h1.1.2.2.2.1
    have hT : T.1 ≤ 258 := h1.2.1
    rw [q_Rd_handsLine_5, jif_f (show ¬ (3 : Int32) ≤ nI i from nI_ge (b := 3) h3 (by omega)), h37, show g_M_isWord (dm + 4) 7 τ = _ from m_isWord (dm + 3) 7 (by omega) τ h2, rI_s]
    simp only [Option.bind_some]
    by_cases k10 : T.1 = 10
    · obtain ⟨σ1, T1, a1, a2, a3, a4⟩ := c_adv (dc + 3) σ h1
      obtain ⟨τ1, b1, b2, b3⟩ := m_tok (dm + 1) τ h2 a3
      have L1 := h.adv hu (ta_rd a2) a4 b2 b3
      have g4 : σ1.1 (u + 4) p = nI (i + 1) := by rw [(a2 (u + 4) p (fun q => by have := q.1; have := te_r hu; omega)).1]; exact h4
      rw [jif_t (show nI T.1 = 10 by rw [k10]; rfl), b2i_t (show T.1 = cw 7 from k10), q_M_handsLine_5, jif_f (by decide), a1, rV_s, b1, rV_s]
      simp only [Option.bind_some]
      have F1 := f1.tr (a2.mono (fun b j => ta_lc (u := u)))
      have G1 := f2.tr (b2.mono (fun b j => tk_lm))
      have e17 : τ1.1 86 17 = τ0.1 86 17 := by rw [(b2 86 17 (fun q => by have := q.2; omega)).1]; exact f3
      rcases l_heir dc dm hu L1 hp (by omega) g4 with ⟨σ2, τ2, T2, A2, Pt2, M2, W2, c1, c2, c3, c4, c5, c6, rfl, c8, c9⟩ | ⟨σ2, τ2, k, pl, c1, c2, c3, c4, c5, c6, c7, c8⟩
      · rw [c1, rI_s, c2, rV_s]
        simp only [Option.bind_some]
        rw [jif_f (by decide), q_Rd_handsLine_6, nI_1]
        exact ih (i + 1) Pt2 M2 W2 σ2 τ2 T2 (by omega) c5 c9 (by omega) (F1.tr c3) (G1.tr c4) (c6.trans e17)
      · have hf := c8.ne c5 c6
        rw [c1, rI_s, c2, rV_s]
        simp only [Option.bind_some]
        rw [jif_t trivial, m_isWordF _ _ _ hf, rI_s]
        simp only [Option.bind_some]
        rw [q_M_handsLine_5, jif_t (show (0 : Int32) = 0 from rfl), q_M_handsLine_6]
        exact Or.inr ⟨σ2, τ2, k, pl, rfl, rfl, F1.tr c3, G1.tr c4, c5, c6, c7, c8⟩
    · rw [jif_f (show ¬ nI T.1 = (10 : Int32) from nI_k (k := 10) hT (by omega) k10), q_Rd_handsLine_7, b2i_f (show ¬ T.1 = cw 7 from k10), q_M_handsLine_5, jif_t (show (0 : Int32) = 0 from rfl), q_M_handsLine_6]
      exact Or.inl ⟨σ, τ, T, A, Pt, M, W, rfl, rfl, f1, f2, h, f3, trivial⟩
theorem mh_2F (d : Nat) (x : Int32) (τ : jS) (hf : ¬ τ.1 86 23 = 0) : b_M_handsLine_2 d x τ = some (none, τ) := by
  rw [q_M_handsLine_2, jif_f hf, q_M_handsLine_3, q_M_handsLine_4, q_M_handsLine_5, jif_t (show (0 : Int32) = 0 from rfl), q_M_handsLine_6]
theorem mh_1F (d : Nat) (x : Int32) (τ : jS) (hf : ¬ τ.1 86 23 = 0) : b_M_handsLine_1 (d + 1) x τ = some (none, τ) := by
  rw [q_M_handsLine_1, m_goOnF _ _ hf, rV_s]
  simp only [Option.bind_some]
  rw [jif_f hf, mh_2F _ _ _ hf]
theorem l_handsB (dc dm : Nat) {σ τ : jS} {u Ln A Pt M W : Nat} {B : Nat → Nat} {T : Tok} (hu : jTe u) (h : lS σ τ u B Ln T A Pt M W) : ∃ (σ1 τ1 : jS), g_M_token (dm + 6) τ = some (none, τ1) ∧ HB (g_Rd_handsLine (dc + 6) σ) (g_M_handsLine (dm + 6) τ1) σ τ u B Ln (fun _ _ => True) := by
  have hr := te_r hu
  have h1 := h.1
  have h2 := h.2.1
  obtain ⟨σ1, T1, a1, a2, a3, a4⟩ := c_adv (dc + 3) σ h1
  obtain ⟨τ1, b1, b2, b3⟩ := m_tok (dm + 3) τ h2 a3
  refine ⟨σ1, τ1, b1, ?_⟩
  have L1 : lS σ1 τ1 u B Ln T1 A Pt M W := h.adv hu (ta_rd a2) a4 b2 b3
  have hA10 := L1.2.2.1.1
  have cA : σ1.1 u 0 = nI A := L1.2.2.1.2.2.2.1
  have mA : τ1.1 88 4 = nI A := L1.2.2.1.2.2.2.2.1
  have rp := L1.2.2.1.2.2.2.2.2.2.2.2.2.1
  have h23 : τ1.1 86 23 = 0 := b3.2.2.2.2
  have F1 : jep (lcS u) σ σ1 := a2.mono (fun b j => ta_lc)
  have G1 : jep lmS τ τ1 := b2.mono (fun b j => tk_lm)
  have fe : fnd (σ1.1 (u + 1)) T1.2.2.2 A 0 = fnd (fun k => τ1.1 89 (10 + k)) T1.2.2.2 A 0 := fnd_congr A 0 (fun k _ hk => (rp k (by omega)).1)
  obtain ⟨c1, c2, c3⟩ := c_toldPerson (dc + 2) hu hA10 σ1 a4 cA
  obtain ⟨p1, p2, p3⟩ := m_person (dm + 3) (by have := a4.2.1; omega) hA10 τ1 b3 mA
  rw [e_Rd_handsLine, q_Rd_handsLine_0, a1, rV_s, e_M_handsLine, q_M_handsLine_0]
  simp only [Option.bind_some]
  have bad : ∀ k, 1 ≤ k ∧ k ≤ 5 → (∃ σ', g_Rd_toldPerson (dc + 5) σ1 = some (some (.int (-1)), σ') ∧ jep rd_S σ1 σ' ∧ rdF σ' k T1.2.1) → (∃ σ', g_M_person (dm + 5) τ1 = some (some (.int 0), σ') ∧ jep md_S τ1 σ' ∧ mdF σ' k T1.2.1) → HB ((r_I (g_Rd_toldPerson (dc + 5) σ1)).bind fun q2 => jif (q2.1 = (-1)) (some (some (.int 0), q2.2)) (b_Rd_handsLine_1 (dc + 5) q2.1 q2.2)) ((r_I (g_M_person (dm + 5) τ1)).bind fun q1 => jif ((q1.2.1 86 23) = 0) ((j_rdI 0 q1.2 92 (10 + q1.1)).bind fun x2 => jif (x2 ≤ 0) (b_M_handsLine_1 (dm + 5) q1.1 q1.2) ((r_V (g_M_wrong (dm + 5) 3 q1.2)).bind fun σ3 => b_M_handsLine_1 (dm + 5) q1.1 σ3)) (b_M_handsLine_1 (dm + 5) q1.1 q1.2)) σ τ u B Ln (fun _ _ => True) := by
    intro k hk hc hm
    obtain ⟨σ2, d1, d2, d3⟩ := hc
    obtain ⟨τ2, e1, e2, e3⟩ := hm
    have hf := e3.ne hk.1 hk.2
    rw [d1, rI_s, e1, rI_s]
    simp only [Option.bind_some]
    rw [jif_t trivial, jif_f hf, mh_1F _ _ _ hf]
    exact Or.inr ⟨σ2, τ2, k, _, rfl, rfl, F1.tr (d2.mono (fun b j => rd_lc)), G1.tr (e2.mono (fun b j => md_lm)), hk.1, hk.2, d3, e3⟩
  by_cases k16 : T1.1 = 16
  · by_cases kf : fnd (σ1.1 (u + 1)) T1.2.2.2 A 0 = -1
    · exact bad 4 (by omega) (c3 k16 kf) (p3 k16 (fe ▸ kf))
    · obtain ⟨o, -, ho, eo⟩ := fnd_of A 0 kf
      have pe := p1 k16 (fe ▸ kf)
      rw [← fe, eo] at pe
      have ce := c1 k16 kf
      rw [eo] at ce
      have ho' : o < A := by omega
      obtain ⟨w, w1, w2, -⟩ := (rp o ho').2.2.2.2
      have m92 : τ1.1 92 (10 + o) = nI w := (rp o ho').2.2.2.1.symm.trans w2
      rw [ce, rI_s, pe, rI_s]
      simp only [Option.bind_some]
      rw [jif_f (nI_m1 (by omega)), q_Rd_handsLine_1, a4.2.2.1, (te_is hu).1, jc_t, (te_cr hu).2.2.2.1, rdI_ok (te_len hu).2.2.2.1 rfl (show o < 10 by omega) (by omega), jif_t h23, show (10 : Int32) + nI o = nI (10 + o) from nI_add 10 o, rdI_ok (a := 92) (n := 20) rfl rfl (show 10 + o < 20 by omega) (by omega)]
      simp only [Option.bind_some]
      rw [w2, m92]
      by_cases kw : w = 0
      · subst kw
        obtain ⟨σ2, T2, d1, d2, d3, d4⟩ := c_adv (dc + 3) σ1 a4
        obtain ⟨τ2, e1, e2, e3⟩ := m_goOn (dm + 1) τ1 b3 d3
        have L2 := L1.adv hu (ta_rd d2) d4 e2 e3
        have F2 := F1.tr (d2.mono (fun b j => ta_lc (u := u)))
        have G2 := G1.tr (e2.mono (fun b j => tk_lm))
        obtain ⟨cp1, cp2⟩ := c_passes (dc + 2) 9 (by omega) σ2 d4
        rw [jif_t (show nI 0 ≤ 0 by decide), q_Rd_handsLine_2, d1, rV_s, jif_t (show nI 0 ≤ 0 by decide), q_M_handsLine_1, e1, rV_s]
        simp only [Option.bind_some]
        rw [jif_t e3.2.2.2.2, show g_M_isWord (dm + 5) 6 τ2 = _ from m_isWord (dm + 4) 6 (by omega) τ2 e3, rI_s]
        simp only [Option.bind_some]
        by_cases k9 : T2.1 = 9
        · obtain ⟨σ3, T3, i1, i2, i3, i4⟩ := cp1 k9
          obtain ⟨τ3, j1, j2, j3⟩ := m_tok (dm + 2) τ2 e3 i3
          have L3 := L2.adv hu i2 i4 j2 j3
          have F3 := F2.tr (i2.mono (fun b j => rd_lc (u := u)))
          have G3 := G2.tr (j2.mono (fun b j => tk_lm))
          have g4 : σ3.1 (u + 4) o = nI 0 := by rw [(i2 (u + 4) o (fun q => by unfold rd_S at q; omega)).1, (d2 (u + 4) o (fun q => by have := q.1; omega)).1]; exact w2
          have e17 : τ3.1 86 17 = τ.1 86 17 := by rw [(j2 86 17 (fun q => by have := q.2; omega)).1, (e2 86 17 (fun q => by have := q.2; omega)).1, (b2 86 17 (fun q => by have := q.2; omega)).1]
          rw [show g_Rd_passes (dc + 5) 9 σ2 = _ from i1, rI_s, b2i_t (show T2.1 = cw 6 from k9), jif_f (by decide), q_M_handsLine_2, jif_t e3.2.2.2.2, q_M_handsLine_4, q_M_handsLine_5, jif_f (by decide), j1, rV_s]
          simp only [Option.bind_some]
          rw [jif_f (by decide)]
          rcases l_heir dc (dm + 1) hu L3 ho' (by omega) g4 with ⟨σ4, τ4, T4, A4, Pt4, M4, W4, t1, t2, t3, t4, t5, t6, rfl, t8, t9⟩ | ⟨σ4, τ4, k, pl, t1, t2, t3, t4, t5, t6, t7, t8⟩
          · rw [t1, rI_s, show g_M_handsOne (dm + 5) (nI o) τ3 = _ from t2, rV_s]
            simp only [Option.bind_some]
            rw [jif_f (by decide), q_Rd_handsLine_4]
            exact l_heirs dc (dm + 1) hu ho' 3 0 Pt4 M4 W4 σ4 τ4 T4 (by omega) t5 t9 (by omega) (F3.tr t3) (G3.tr t4) (t6.trans e17)
          · have hf := t8.ne t5 t6
            rw [t1, rI_s, show g_M_handsOne (dm + 5) (nI o) τ3 = _ from t2, rV_s]
            simp only [Option.bind_some]
            rw [jif_t trivial, q_Rd_handsLine_3, m_isWordF _ _ _ hf, rI_s]
            simp only [Option.bind_some]
            rw [q_M_handsLine_5, jif_t (show (0 : Int32) = 0 from rfl), q_M_handsLine_6]
            exact Or.inr ⟨σ4, τ4, k, pl, rfl, rfl, F3.tr t3, G3.tr t4, t5, t6, t7, t8⟩
        · obtain ⟨σ3, i1, i2, i3⟩ := cp2 k9
          obtain ⟨τ3, j1, j2, j3⟩ := m_wrong (dm + 4) 1 τ2 e3
          rw [show g_Rd_passes (dc + 5) 9 σ2 = _ from i1, rI_s, b2i_f (show ¬ T2.1 = cw 6 from k9), show g_M_wrong (dm + 5) 1 τ2 = _ from j1, rV_s]
          simp only [Option.bind_some]
          rw [jif_t trivial, q_Rd_handsLine_3, jif_t trivial, mh_2F _ _ _ (j3.ne (by omega) (by omega))]
          exact Or.inr ⟨σ3, τ3, 1, _, rfl, rfl, F2.tr (i2.mono (fun b j => rd_lc)), G2.tr (j2.mono (fun b j => md_lm)), by omega, by omega, i3, j3⟩
      · obtain ⟨σ2, d1, d2, d3⟩ := c_fails (dc + 4) 3 σ1 a4
        obtain ⟨τ2, e1, e2, e3⟩ := m_wrong (dm + 4) 3 τ1 b3
        have nw : ¬ nI w ≤ (0 : Int32) := nI_ge (a := 0) (by omega) (by omega)
        rw [jif_f nw, show g_Rd_fails (dc + 5) 3 σ1 = _ from d1, rI_s, jif_f nw, show g_M_wrong (dm + 5) 3 τ1 = _ from e1, rV_s]
        simp only [Option.bind_some]
        rw [mh_1F _ _ _ (e3.ne (by omega) (by omega))]
        exact Or.inr ⟨σ2, τ2, 3, _, rfl, rfl, F1.tr (d2.mono (fun b j => rd_lc)), G1.tr (e2.mono (fun b j => md_lm)), by omega, by omega, d3, e3⟩
  · exact bad 1 (by omega) (c2 k16) (p2 k16)
