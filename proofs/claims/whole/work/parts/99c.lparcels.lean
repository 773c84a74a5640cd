/-! Lines: a parcel, whole. -/
theorem l_parcel (dc dm : Nat) {σ τ : jS} {u Ln A Pt M W : Nat} {B : Nat → Nat} {T : Tok} (hu : jTe u) (h : lS σ τ u B Ln T A Pt M W) (hT : T.1 = 11) : LB (g_Rd_parcelLine (dc + 4) σ) (b_M_line_2 (dm + 6) τ) σ τ u B Ln (dm + 6) := by
  have hr := te_r hu
  have hx := h
  obtain ⟨h1, h2, h3, h4⟩ := hx
  have hP12 := h3.2.1
  have cP : σ.1 u 6 = nI Pt := h3.2.2.2.2.2.1
  have mP : τ.1 88 5 = nI Pt := h3.2.2.2.2.2.2.1
  have h23 : τ.1 86 23 = 0 := h2.2.2.2.2
  have w0 : τ.1 86 22 = 2 := (h2.2.2.2.1.wd (i := 2) (by omega) hT).2
  rw [e_Rd_parcelLine, q_Rd_parcelLine_0, h1.2.2.1, (te_is hu).1, jc_t, cP, q_M_line_2, w0, jif_f (show ¬ (2 : Int32) = 0 by decide), q_M_line_3, jif_t (show (2 : Int32) = 2 from rfl), fr_1 _ τ mP, rI_s]
  simp only [Option.bind_some]
  by_cases hP : Pt < 12
  · obtain ⟨σ1, T1, a1, a2, a3, a4⟩ := c_adv (dc + 1) σ h1
    obtain ⟨τ1, b1, b2, b3⟩ := m_tok (dm + 3) τ h2 a3
    have L1 : lS σ1 τ1 u B Ln T1 A Pt M W := h.adv hu (ta_rd a2) a4 b2 b3
    have hA10 := L1.2.2.1.1
    have cA : σ1.1 u 0 = nI A := L1.2.2.1.2.2.2.1
    have mA : τ1.1 88 4 = nI A := L1.2.2.1.2.2.2.2.1
    have mP1 : τ1.1 88 5 = nI Pt := L1.2.2.1.2.2.2.2.2.2.1
    have rp := L1.2.2.1.2.2.2.2.2.2.2.2.2.1
    have F1 : jep (lcS u) σ σ1 := a2.mono (fun b j => ta_lc)
    have G1 : jep lmS τ τ1 := b2.mono (fun b j => tk_lm)
    have fe : fnd (σ1.1 (u + 1)) T1.2.2.2 A 0 = fnd (fun k => τ1.1 89 (10 + k)) T1.2.2.2 A 0 := fnd_congr A 0 (fun k _ hk => (rp k (by omega)).1)
    obtain ⟨c1, c2, c3⟩ := c_toldPerson dc hu hA10 σ1 a4 cA
    obtain ⟨p1, p2, p3⟩ := m_person (dm + 3) (by have := a4.2.1; omega) hA10 τ1 b3 mA
    rw [jif_t (show nI Pt < (12 : Int32) from nI_lt (b := 12) hP (by omega)), jif_f (show ¬ nI Pt = (12 : Int32) from nI_k (k := 12) (by omega) (by omega) (by omega)), q_Rd_parcelLine_1, q_M_line_4, jif_f (show ¬ (2 : Int32) = 4 by decide), q_M_line_6, jif_f (show ¬ (2 : Int32) = 3 by decide), q_M_line_7, jif_t h23, q_M_line_8, a1, rV_s, b1, rV_s]
    simp only [Option.bind_some]
    rw [jif_f (by decide), jif_f (by decide), jif_t (by decide), q_M_line_11, fr_1 _ τ1 mP1, rI_s]
    simp only [Option.bind_some]
    rw [show (12 : Int32) + nI Pt = nI (12 + Pt) from nI_add 12 Pt, e_M_parcelLine, mq_0]
    have bad : ∀ k, 1 ≤ k ∧ k ≤ 5 → (∃ σ', g_Rd_toldPerson (dc + 3) σ1 = some (some (.int (-1)), σ') ∧ jep rd_S σ1 σ' ∧ rdF σ' k T1.2.1) → (∃ σ', g_M_person (dm + 5) τ1 = some (some (.int 0), σ') ∧ jep md_S τ1 σ' ∧ mdF σ' k T1.2.1) → LB ((r_I (g_Rd_toldPerson (dc + 3) σ1)).bind fun q2 => jif (q2.1 = (-1)) (some (some (.int 0), q2.2)) (b_Rd_parcelLine_2 (dc + 3) q2.1 q2.2)) ((r_V ((r_I (g_M_person (dm + 5) τ1)).bind fun q1 => mqA (dm + 5) (nI (12 + Pt)) q1)).bind fun σ2 => b_M_line_14 (dm + 6) σ2) σ τ u B Ln (dm + 6) := by
      intro k hk hc hm
      obtain ⟨σ2, d1, d2, d3⟩ := hc
      obtain ⟨τ2, e1, e2, e3⟩ := hm
      have hf := e3.ne hk.1 hk.2
      obtain ⟨τ3, g1, g2, g3⟩ := mqA_F (dm + 4) 0 τ2 hP hf (by rw [(e2 88 5 (fun q => by have := q.1; omega)).1]; exact mP1)
      rw [d1, rI_s, e1, rI_s]
      simp only [Option.bind_some]
      rw [jif_t trivial, g1, rV_s]
      exact LB.bad14 rfl rfl (F1.tr (d2.mono (fun b j => rd_lc))) ((G1.tr (e2.mono (fun b j => md_lm))).tr g2) hk d3 (e3.fr (fun j _ _ => g3 j))
    by_cases k16 : T1.1 = 16
    · by_cases kf : fnd (σ1.1 (u + 1)) T1.2.2.2 A 0 = -1
      · exact bad 4 (by omega) (c3 k16 kf) (p3 k16 (fe ▸ kf))
      · obtain ⟨o, -, ho, eo⟩ := fnd_of A 0 kf
        have pe := p1 k16 (fe ▸ kf)
        rw [← fe, eo] at pe
        have ce := c1 k16 kf
        rw [eo] at ce
        have ho' : o < A := by omega
        have m1 : mdS (j_setI τ1 94 (12 + Pt) (nI o)) B Ln T1 := b3.fr (fun b j q => setI_ne (by omega))
        obtain ⟨σ2, T2, d1, d2, d3, d4⟩ := c_adv (dc + 1) σ1 a4
        obtain ⟨τ2, e1, e2, e3⟩ := m_goOn (dm + 1) _ m1 d3
        have F2 := F1.tr (d2.mono (fun b j => ta_lc (u := u)))
        have G2 := (G1.sI (lm_in (b := 94) (j := 12 + Pt) (by omega) (by omega) (show 12 ≤ 12 + Pt by omega)) (v := nI o)).tr (e2.mono (fun b j => tk_lm))
        have fm2 : ∀ b j, ¬ (b = 86 ∧ 19 ≤ j ∧ j ≤ 22) → ¬ (b = 94 ∧ j = 12 + Pt) → τ2.1 b j = τ1.1 b j := fun b j q1 q2 => by rw [(e2 b j q1).1, setI_get, if_neg q2]
        have x94 : τ2.1 94 (12 + Pt) = nI o := by rw [(e2 94 (12 + Pt) (fun q => by have := q.1; omega)).1, setI_same]
        have hK2 : T2.1 < 300 := by have := d4.2.1; omega
        obtain ⟨r1, r2, r3⟩ := c_readNumber dc 1 99999 σ2 d4
        obtain ⟨s1, s2, s3⟩ := m_numeral (dm + 1) 1 99999 (by omega) (by omega) hK2 _ e3
        rw [ce, rI_s, pe, rI_s]
        simp only [Option.bind_some]
        rw [jif_f (nI_m1 (by omega)), q_Rd_parcelLine_2, d1, rV_s, mqA_0 _ _ _ hP, e1, rV_s]
        simp only [Option.bind_some]
        have bad2 : ∀ k, 1 ≤ k ∧ k ≤ 5 → (∃ σ', g_Rd_readNumber (dc + 3) 1 99999 σ2 = some (some (.int 0), σ') ∧ jep rd_S σ2 σ' ∧ rdF σ' k T2.2.1) → (∃ σ', g_M_numeral (dm + 5) 1 99999 τ2 = some (some (.int 1), σ') ∧ jep md_S τ2 σ' ∧ mdF σ' k T2.2.1) → LB ((r_I (g_Rd_readNumber (dc + 3) 1 99999 σ2)).bind fun q2 => jif (q2.1 = 0) (some (some (.int 0), q2.2)) (b_Rd_parcelLine_3 (dc + 3) (nI o) q2.2)) ((r_V ((r_I (g_M_numeral (dm + 5) 1 99999 τ2)).bind fun q4 => mqB (dm + 5) (nI (12 + Pt)) q4)).bind fun σ2 => b_M_line_14 (dm + 6) σ2) σ τ u B Ln (dm + 6) := by
          intro k hk hc hm
          obtain ⟨σ3, i1, i2, i3⟩ := hc
          obtain ⟨τ3, j1, j2, j3⟩ := hm
          have hf := j3.ne hk.1 hk.2
          obtain ⟨τ4, g1, g2, g3⟩ := mqB_F (dm + 4) 1 τ3 hP hf (by rw [(j2 88 5 (fun q => by have := q.1; omega)).1, fm2 _ _ (by omega) (by omega)]; exact mP1)
          rw [i1, rI_s, j1, rI_s]
          simp only [Option.bind_some]
          rw [jif_t trivial, g1, rV_s]
          exact LB.bad14 rfl rfl (F2.tr (i2.mono (fun b j => rd_lc))) ((G2.tr (j2.mono (fun b j => md_lm))).tr g2) hk i3 (j3.fr (fun j _ _ => g3 j))
        by_cases k17 : T2.1 = 17
        · by_cases kr : (1 : Int32) ≤ T2.2.2.2 ∧ T2.2.2.2 ≤ 99999
          · obtain ⟨σ3, T3, i1, i2, i3, i4, i5⟩ := r1 k17 kr
            obtain ⟨τ3, j1, j2, j3⟩ := s1 k17 kr T3 i3
            obtain ⟨w, w1, w2, w3⟩ := nm_in (lo := 1) (hi := 99999) (by omega) (by omega) kr
            have m3 : mdS (j_setI τ3 95 (12 + Pt) T2.2.2.2) B Ln T3 := j3.fr (fun b j q => setI_ne (by omega))
            have F3 := F2.tr (i2.mono (fun b j => rd_lc (u := u)))
            have G3 := (G2.tr (j2.mono (fun b j => tk_lm))).sI (lm_in (b := 95) (j := 12 + Pt) (by omega) (by omega) (show 12 ≤ 12 + Pt by omega)) (v := T2.2.2.2)
            have hK3 : T3.1 < 300 := by have := i4.2.1; omega
            obtain ⟨q1, q2, q3⟩ := c_readNumber dc 0 999 σ3 i4
            obtain ⟨t1, t2, t3⟩ := m_numeral (dm + 1) 0 999 (by omega) (by omega) hK3 _ m3
            rw [i1, rI_s, show g_M_numeral (dm + 5) 1 99999 τ2 = _ from j1, rI_s]
            simp only [Option.bind_some]
            rw [jif_f (by decide), q_Rd_parcelLine_3, i5, mqB_0 _ _ _ hP]
            have bad3 : ∀ k, 1 ≤ k ∧ k ≤ 5 → (∃ σ', g_Rd_readNumber (dc + 3) 0 999 σ3 = some (some (.int 0), σ') ∧ jep rd_S σ3 σ' ∧ rdF σ' k T3.2.1) → (∃ σ', g_M_numeral (dm + 5) 0 999 (j_setI τ3 95 (12 + Pt) T2.2.2.2) = some (some (.int 0), σ') ∧ jep md_S (j_setI τ3 95 (12 + Pt) T2.2.2.2) σ' ∧ mdF σ' k T3.2.1) → LB ((r_I (g_Rd_readNumber (dc + 3) 0 999 σ3)).bind fun q1 => jif (q1.1 = 0) (some (some (.int 0), q1.2)) (b_Rd_parcelLine_4 (dc + 3) (nI o) T2.2.2.2 q1.2)) ((r_V ((r_I (g_M_numeral (dm + 5) 0 999 (j_setI τ3 95 (12 + Pt) T2.2.2.2))).bind fun q6 => mqC (dm + 5) (nI (12 + Pt)) q6)).bind fun σ2 => b_M_line_14 (dm + 6) σ2) σ τ u B Ln (dm + 6) := by
              intro k hk hc hm
              obtain ⟨σ4, i1, i2, i3⟩ := hc
              obtain ⟨τ4, l1, l2, l3⟩ := hm
              obtain ⟨τ5, g1, g2, g3⟩ := mqC_F (dm + 4) 0 τ4 hP (by rw [(l2 88 5 (fun q => by have := q.1; omega)).1, setI_ne (by omega), (j2 88 5 (fun q => by have := q.1; omega)).1, fm2 _ _ (by omega) (by omega)]; exact mP1)
              rw [i1, rI_s, l1, rI_s]
              simp only [Option.bind_some]
              rw [jif_t trivial, g1, rV_s]
              exact LB.bad14 rfl rfl (F3.tr (i2.mono (fun b j => rd_lc))) ((G3.tr (l2.mono (fun b j => md_lm))).tr g2) hk i3 (l3.fr (fun j _ _ => g3 j))
            by_cases k17' : T3.1 = 17
            · by_cases kr' : (0 : Int32) ≤ T3.2.2.2 ∧ T3.2.2.2 ≤ 999
              · obtain ⟨σ4, T4, x1, x2, x3, x4, x5⟩ := q1 k17' kr'
                obtain ⟨τ4, y1, y2, y3⟩ := t1 k17' kr' T4 x3
                obtain ⟨v, v1, v2, v3⟩ := nm_in (lo := 0) (hi := 999) (by omega) (by omega) kr'
                have fc4 : ∀ b j, u ≤ b → b ≤ u + 14 → σ4.1 b j = σ1.1 b j := fun b j z1 z2 => by rw [(x2 b j (fun z => by unfold rd_S at z; omega)).1, (i2 b j (fun z => by unfold rd_S at z; omega)).1, (d2 b j (fun z => by have := z.1; omega)).1]
                have fm4 : ∀ b j, ¬ (b = 86 ∧ 19 ≤ j ∧ j ≤ 22) → ¬ (94 ≤ b ∧ b ≤ 95 ∧ j = 12 + Pt) → τ4.1 b j = τ1.1 b j := fun b j z1 z2 => by rw [(y2 b j z1).1, setI_get, if_neg (by omega), (j2 b j z1).1, fm2 b j z1 (by omega)]
                have y94 : τ4.1 94 (12 + Pt) = nI o := by rw [(y2 94 _ (fun q => by have := q.1; omega)).1, setI_ne (by omega), (j2 94 _ (fun q => by have := q.1; omega)).1, x94]
                have y95 : τ4.1 95 (12 + Pt) = nI w := by rw [(y2 95 _ (fun q => by have := q.1; omega)).1, setI_same, w3]
                have cP4 : σ4.1 u 6 = nI Pt := by rw [fc4 _ _ (by omega) (by omega)]; exact L1.2.2.1.2.2.2.2.2.1
                have mP4 : τ4.1 88 5 = nI Pt := by rw [fm4 _ _ (by omega) (by omega)]; exact mP1
                rw [x1, rI_s, show g_M_numeral (dm + 5) 0 999 _ = _ from y1, rI_s]
                simp only [Option.bind_some]
                rw [jif_f (by decide), q_Rd_parcelLine_4, x4.2.2.1, (te_is hu).1, jc_t, x5, c_addParcel (dc + 2) hu _ _ _ σ4 cP4 hP, rV_s, mqC_ok (dm + 4) _ τ4 hP mP4, rV_s]
                refine Or.inl ⟨_, _, T4, A, Pt + 1, M, W, rfl, rfl, ((((F3.tr (x2.mono (fun b j => rd_lc))).sI (Or.inr (by omega))).sI (Or.inr (by omega))).sI (Or.inr (by omega))).sI (Or.inr (by omega)), ((G3.tr (y2.mono (fun b j => tk_lm))).sI (lm_in (by omega) (by omega) (show 12 ≤ 12 + Pt by omega))).sI (lm_in (by omega) (by omega) (show 4 ≤ 5 by omega)), ⟨x4.fr (fun b j q => ⟨by rw [setI_ne (by omega), setI_ne (by omega), setI_ne (by omega), setI_ne (by omega)], rfl⟩), y3.fr (fun b j q => by rw [setI_ne (by omega), setI_ne (by omega)]), L1.2.2.1.parcel (f := o) (w := w) (hh := v) hP (setI_same _ _ _ _) (setI_same _ _ _ _) (fun b j z1 z2 z3 z4 => ?_) (fun b j z1 z2 z3 z4 => ?_) ?_ ?_ ?_ ?_ ?_ ?_ ho' ⟨w1, w2⟩ (by omega), L1.2.2.2.fr (fun b j z1 z2 => ?_) (fun b j z => ?_)⟩, ?_⟩
                · rw [setI_get, if_neg z3, setI_get, if_neg (by omega), setI_get, if_neg (by omega), setI_get, if_neg (by omega)]; exact fc4 b j z1 (by omega)
                · rw [setI_get, if_neg (by omega), setI_get, if_neg (by omega)]; exact fm4 b j (by omega) (by omega)
                · rw [setI_ne (by omega), setI_ne (by omega), setI_ne (by omega), setI_same]
                · rw [setI_ne (by omega), setI_ne (by omega), setI_same, w3]
                · rw [setI_ne (by omega), setI_same, v3]
                · rw [setI_ne (by omega), setI_ne (by omega), y94]
                · rw [setI_ne (by omega), setI_ne (by omega), y95]
                · rw [setI_ne (by omega), setI_same, v3]
                · rw [setI_ne (by omega), setI_ne (by omega), setI_ne (by omega), setI_ne (by omega)]; exact fc4 b j (by omega) (by omega)
                · rw [setI_get, if_neg (by omega), setI_get, if_neg (by omega)]; exact fm4 b j (by omega) (by omega)
                · rw [setI_ne (by omega), setI_ne (by omega), fm4 _ _ (by omega) (by omega), (b2 86 17 (fun q => by have := q.2; omega)).1]
              · exact bad3 2 (by omega) (q3 k17' kr') (t3 k17' kr')
            · exact bad3 1 (by omega) (q2 k17') (t2 k17')
          · exact bad2 2 (by omega) (r3 k17 kr) (s3 k17 kr)
        · exact bad2 1 (by omega) (r2 k17) (s2 k17)
    · exact bad 1 (by omega) (c2 k16) (p2 k16)
  · have e12 : Pt = 12 := by omega
    obtain ⟨σ', q1, q2, q3⟩ := c_fails (dc + 2) 2 σ h1
    obtain ⟨τ', p1, p2, p3⟩ := m_wrong (dm + 5) 2 τ h2
    rw [jif_f (show ¬ nI Pt < (12 : Int32) from nI_nlt (b := 12) (by omega) (by omega)), jif_t (show nI Pt = (12 : Int32) by rw [e12]; rfl), show g_Rd_fails (dc + 3) 2 σ = _ from q1, rI_s, q_M_line_5, show g_M_wrong (dm + 6) 2 τ = _ from p1, rV_s]
    simp only [Option.bind_some]
    rw [q_M_line_7, jif_f (p3.ne (by omega) (by omega))]
    exact LB.bad rfl rfl (q2.mono (fun b j => rd_lc)) (p2.mono (fun b j => md_lm)) (by omega) q3 p3
