/-! Lines: a person. -/
theorem mR.wd {K i : Nat} {v a b : Int32} (h : mR K v a b) (hi : i < 16) (hK : K = cw i) : a = 0 ∧ b = nI i := by
  have hc := cw_lt i hi
  rcases h with h | ⟨j, j1, j2, j3, j4⟩ | h | h | h | ⟨h, -⟩
  · omega
  · rw [cw_inj i hi j j1 (hK.symm.trans j2)]; exact ⟨j3, j4⟩
  · omega
  · omega
  · omega
  · rcases h with h | h
    · have := sgs_r K (by omega) h; omega
    · omega
theorem rT.person {σ σ' τ τ' : jS} {u A Pt M : Nat} (h : rT σ τ u A Pt M) (hA : A < 10) (c0 : σ'.1 u 0 = nI (A + 1)) (m0 : τ'.1 88 4 = nI (A + 1)) (cf : ∀ b j, u ≤ b → b ≤ u + 9 → ¬ (b = u ∧ j = 0) → ¬ (u + 1 ≤ b ∧ b ≤ u + 4 ∧ j = A) → σ'.1 b j = σ.1 b j)
    (mf : ∀ b j, 88 ≤ b → b ≤ 97 → ¬ (b = 88 ∧ (j = 4 ∨ j = 7)) → ¬ (89 ≤ b ∧ b ≤ 92 ∧ j = 10 + A) → τ'.1 b j = τ.1 b j) (n1 : σ'.1 (u + 1) A = τ'.1 89 (10 + A)) (n2 : σ'.1 (u + 2) A = τ'.1 90 (10 + A)) (n3 : σ'.1 (u + 3) A = τ'.1 91 (10 + A)) (n4 : σ'.1 (u + 4) A = 0) (n5 : τ'.1 92 (10 + A) = 0) : rT σ' τ' u (A + 1) Pt M := by
  obtain ⟨h1, h2, h3, h4, h5, h6, h7, h8, h9, h10, h11, h12⟩ := h
  refine ⟨by omega, h2, h3, c0, m0, by rw [cf _ _ (by omega) (by omega) (by omega) (by omega)]; exact h6, by rw [mf _ _ (by omega) (by omega) (by omega) (by omega)]; exact h7, by rw [cf _ _ (by omega) (by omega) (by omega) (by omega)]; exact h8, by rw [mf _ _ (by omega) (by omega) (by omega) (by omega)]; exact h9, fun p hp => ?_, fun k hk => ?_, fun m hk => by rw [cf _ _ (by omega) (by omega) (by omega) (by omega), mf _ _ (by omega) (by omega) (by omega) (by omega)]; exact h12 m hk⟩
  · by_cases e : p < A
    · obtain ⟨a1, a2, a3, a4, w, a5, a6, a7⟩ := h10 p e
      refine ⟨by rw [cf _ _ (by omega) (by omega) (by omega) (by omega), mf _ _ (by omega) (by omega) (by omega) (by omega)]; exact a1, by rw [cf _ _ (by omega) (by omega) (by omega) (by omega), mf _ _ (by omega) (by omega) (by omega) (by omega)]; exact a2, by rw [cf _ _ (by omega) (by omega) (by omega) (by omega), mf _ _ (by omega) (by omega) (by omega) (by omega)]; exact a3, by rw [cf _ _ (by omega) (by omega) (by omega) (by omega), mf _ _ (by omega) (by omega) (by omega) (by omega)]; exact a4, w, a5, by rw [cf _ _ (by omega) (by omega) (by omega) (by omega)]; exact a6, fun x hx => ?_⟩
      rw [cf _ _ (by omega) (by omega) (by omega) (by omega), mf _ _ (by omega) (by omega) (by omega) (by omega)]
      obtain ⟨g1, q, g2, g3⟩ := a7 x hx
      exact ⟨g1, q, by omega, g3⟩
    · have e : p = A := by omega
      subst e
      exact ⟨n1, n2, n3, n4.trans n5.symm, 0, by omega, n4, fun x hx => by omega⟩
  · obtain ⟨a1, a2, a3, ⟨f, a4, a4'⟩, a5, a6⟩ := h11 k hk
    refine ⟨by rw [cf _ _ (by omega) (by omega) (by omega) (by omega), mf _ _ (by omega) (by omega) (by omega) (by omega)]; exact a1, by rw [cf _ _ (by omega) (by omega) (by omega) (by omega), mf _ _ (by omega) (by omega) (by omega) (by omega)]; exact a2, by rw [cf _ _ (by omega) (by omega) (by omega) (by omega), mf _ _ (by omega) (by omega) (by omega) (by omega)]; exact a3, ⟨f, by omega, by rw [cf _ _ (by omega) (by omega) (by omega) (by omega)]; exact a4'⟩, by rw [cf _ _ (by omega) (by omega) (by omega) (by omega)]; exact a5, by rw [cf _ _ (by omega) (by omega) (by omega) (by omega)]; exact a6⟩
theorem c_addPerson (d : Nat) {u A : Nat} (hu : jTe u) (x a : Int32) (σ : jS) (h0 : σ.1 u 0 = nI A) (hA : A < 10) : g_Te_addPerson (d + 1) u x a σ = some (none, j_setI (j_setI (j_setI (j_setI (j_setI σ (u + 1) A x) (u + 2) A a) (u + 3) A 0) (u + 4) A 0) u 0 (nI (A + 1))) := by
  have hr := te_r hu
  obtain ⟨r1, r2, r3, r4, -⟩ := te_cr hu
  obtain ⟨l1, l2, l3, l4, -⟩ := te_len hu
  rw [e_Te_addPerson, q_Te_addPerson_0, (te_is hu).1, jc_t, h0, jif_f (show ¬ (10 : Int32) ≤ nI A from nI_ge (b := 10) hA (by omega)), jc_t, jc_t, r1, wrI_ok l1 rfl hA (by omega)]
  simp only [Option.bind_some]
  rw [jc_t, jc_t, setI_ne (by omega), h0, r2, wrI_ok l2 rfl hA (by omega)]
  simp only [Option.bind_some]
  rw [jc_t, jc_t, setI_ne (by omega), setI_ne (by omega), h0, r3, wrI_ok l3 rfl hA (by omega)]
  simp only [Option.bind_some]
  rw [jc_t, jc_t, setI_ne (by omega), setI_ne (by omega), setI_ne (by omega), h0, r4, wrI_ok l4 rfl hA (by omega)]
  simp only [Option.bind_some]
  rw [jc_t, jc_t, setI_ne (by omega), setI_ne (by omega), setI_ne (by omega), setI_ne (by omega), h0, q_Te_addPerson_1, nI_1]
/-- the reference's line of a person, behind its name, behind its age -/
noncomputable def mpB (d : Nat) (l1 : Int32) (q4 : Int32 × jS) : jR := (j_wrI q4.2 90 l1 q4.1).bind fun σ5 => (j_wrI σ5 91 l1 0).bind fun σ6 => (j_wrI σ6 92 l1 0).bind fun σ7 => (r_I (g_M_isWord d 5 σ7)).bind fun q8 => jif (q8.1 = 0) (b_M_personLine_1 d q8.2) ((r_V (g_M_token d q8.2)).bind fun σ9 => (r_I (g_M_numeral d 0 99999 σ9)).bind fun q10 => (j_wrI q10.2 91 l1 q10.1).bind fun σ11 => b_M_personLine_1 d σ11)
noncomputable def mpA (d : Nat) (l1 : Int32) (q2 : Int32 × jS) : jR := (j_wrI q2.2 89 l1 q2.1).bind fun σ3 => (r_I (g_M_numeral d 0 99 σ3)).bind fun q4 => mpB d l1 q4
theorem mp_0 (d : Nat) (l1 : Int32) (σ : jS) : b_M_personLine_0 d l1 σ = (r_I (g_M_fresher d 0 σ)).bind fun q1 => (r_I (g_M_fresh d 89 10 q1.1 q1.2)).bind fun q2 => mpA d l1 q2 := q_M_personLine_0 d l1 σ
theorem mp_1 (d : Nat) {A : Nat} (τ : jS) (h : τ.1 88 4 = nI A) : b_M_personLine_1 (d + 1) τ = some (none, j_setI τ 88 4 (nI (A + 1))) := by
  have f := m_oneMore d 0 A (by omega) τ h
  rw [q_M_personLine_1, show g_M_oneMore (d + 1) 0 τ = _ from f, rV_s]
  rfl
theorem fr_0 (d : Nat) {A : Nat} (τ : jS) (h : τ.1 88 4 = nI A) : g_M_fresher (d + 1) 0 τ = some (some (.int (nI A)), τ) := by
  have f := m_fresher d 0 (by omega) τ
  rw [show τ.1 88 (4 + 0) = nI A from h] at f
  exact f
theorem mpB_F (d : Nat) {A : Nat} (x : Int32) (τ : jS) (hA : A < 10) (hf : ¬ τ.1 86 23 = 0) (h88 : τ.1 88 4 = nI A) : ∃ τ', mpB (d + 1) (nI (10 + A)) (x, τ) = some (none, τ') ∧ jep lmS τ τ' ∧ ∀ j, τ'.1 86 j = τ.1 86 j := by
  unfold mpB
  rw [wrI_ok (a := 90) (n := 20) rfl rfl (show 10 + A < 20 by omega) (by omega)]
  simp only [Option.bind_some]
  rw [wrI_ok (a := 91) (n := 20) rfl rfl (show 10 + A < 20 by omega) (by omega)]
  simp only [Option.bind_some]
  rw [wrI_ok (a := 92) (n := 20) rfl rfl (show 10 + A < 20 by omega) (by omega)]
  simp only [Option.bind_some]
  rw [m_isWordF _ _ _ (by rw [setI_ne (by omega), setI_ne (by omega), setI_ne (by omega)]; exact hf), rI_s]
  simp only [Option.bind_some]
  rw [jif_t trivial, mp_1 d _ (show _ = nI A by rw [setI_ne (by omega), setI_ne (by omega), setI_ne (by omega)]; exact h88)]
  refine ⟨_, rfl, (((jep.rf.sI (lm_in (by omega) (by omega) (show 10 ≤ 10 + A by omega))).sI (lm_in (by omega) (by omega) (show 10 ≤ 10 + A by omega))).sI (lm_in (by omega) (by omega) (show 10 ≤ 10 + A by omega))).sI (lm_in (by omega) (by omega) (show 4 ≤ 4 by omega)), fun j => ?_⟩
  rw [setI_ne (by omega), setI_ne (by omega), setI_ne (by omega), setI_ne (by omega)]
theorem mpA_F (d : Nat) {A : Nat} (x : Int32) (τ : jS) (hA : A < 10) (hf : ¬ τ.1 86 23 = 0) (h88 : τ.1 88 4 = nI A) : ∃ τ', mpA (d + 1) (nI (10 + A)) (x, τ) = some (none, τ') ∧ jep lmS τ τ' ∧ ∀ j, τ'.1 86 j = τ.1 86 j := by
  unfold mpA
  rw [wrI_ok (a := 89) (n := 20) rfl rfl (show 10 + A < 20 by omega) (by omega)]
  simp only [Option.bind_some]
  have e : ∀ b j, b ≠ 89 → (j_setI τ 89 (10 + A) x).1 b j = τ.1 b j := fun b j q => setI_ne q
  rw [m_numeralF _ _ _ _ (by rw [e _ _ (by omega)]; exact hf), rI_s]
  simp only [Option.bind_some]
  obtain ⟨τ', q1, q2, q3⟩ := mpB_F d 0 (j_setI τ 89 (10 + A) x) hA (by rw [e _ _ (by omega)]; exact hf) (by rw [e _ _ (by omega)]; exact h88)
  exact ⟨τ', q1, (jep.rf.sI (lm_in (by omega) (by omega) (show 10 ≤ 10 + A by omega))).tr q2, fun j => by rw [q3, e _ _ (by omega)]⟩
theorem c_addPersonE (d : Nat) {u A : Nat} (hu : jTe u) (x a : Int32) (σ : jS) (h0 : σ.1 u 0 = nI A) (hA : A < 10) : ∃ σ', g_Te_addPerson (d + 1) u x a σ = some (none, σ') ∧ σ'.1 u 0 = nI (A + 1) ∧ σ'.1 (u + 1) A = x ∧ σ'.1 (u + 2) A = a ∧ σ'.1 (u + 3) A = 0 ∧ σ'.1 (u + 4) A = 0 ∧ (∀ b j, ¬ (b = u ∧ j = 0) → ¬ (u + 1 ≤ b ∧ b ≤ u + 4 ∧ j = A) → σ'.1 b j = σ.1 b j) ∧ σ'.2 = σ.2 ∧ jep (lcS u) σ σ' := by
  refine ⟨_, c_addPerson d hu x a σ h0 hA, setI_same _ _ _ _, ?_, ?_, ?_, ?_, fun b j q1 q2 => ?_, rfl, ((((jep.rf.sI (S := lcS u) (Or.inr (by omega))).sI (Or.inr (by omega))).sI (Or.inr (by omega))).sI (Or.inr (by omega))).sI (Or.inr (by omega))⟩
  · rw [setI_ne (by omega), setI_ne (by omega), setI_ne (by omega), setI_ne (by omega), setI_same]
  · rw [setI_ne (by omega), setI_ne (by omega), setI_ne (by omega), setI_same]
  · rw [setI_ne (by omega), setI_ne (by omega), setI_same]
  · rw [setI_ne (by omega), setI_same]
  · rw [setI_get, if_neg (by omega), setI_get, if_neg (by omega), setI_get, if_neg (by omega), setI_get, if_neg (by omega), setI_get, if_neg (by omega)]
theorem mpB_0 (d : Nat) {A : Nat} (x : Int32) (τ : jS) (hA : A < 10) : mpB d (nI (10 + A)) (x, τ) = (r_I (g_M_isWord d 5 (j_setI (j_setI (j_setI τ 90 (10 + A) x) 91 (10 + A) 0) 92 (10 + A) 0))).bind fun q8 => jif (q8.1 = 0) (b_M_personLine_1 d q8.2) ((r_V (g_M_token d q8.2)).bind fun σ9 => (r_I (g_M_numeral d 0 99999 σ9)).bind fun q10 => (j_wrI q10.2 91 (nI (10 + A)) q10.1).bind fun σ11 => b_M_personLine_1 d σ11) := by
  unfold mpB
  rw [wrI_ok (a := 90) (n := 20) rfl rfl (show 10 + A < 20 by omega) (by omega)]
  simp only [Option.bind_some]
  rw [wrI_ok (a := 91) (n := 20) rfl rfl (show 10 + A < 20 by omega) (by omega)]
  simp only [Option.bind_some]
  rw [wrI_ok (a := 92) (n := 20) rfl rfl (show 10 + A < 20 by omega) (by omega)]
  rfl
theorem l_person (dc dm : Nat) {σ τ : jS} {u Ln A Pt M W : Nat} {B : Nat → Nat} {T : Tok} (hu : jTe u) (h : lS σ τ u B Ln T A Pt M W) (hT : T.1 = 6) : LB (g_Rd_personLine (dc + 4) σ) (b_M_line_2 (dm + 5) τ) σ τ u B Ln (dm + 5) := by
  have hr := te_r hu
  have hx := h
  obtain ⟨h1, h2, h3, h4⟩ := hx
  have hA10 := h3.1
  have cA : σ.1 u 0 = nI A := h3.2.2.2.1
  have mA : τ.1 88 4 = nI A := h3.2.2.2.2.1
  have h23 : τ.1 86 23 = 0 := h2.2.2.2.2
  have w0 : τ.1 86 22 = 0 := (h2.2.2.2.1.wd (i := 0) (by omega) hT).2
  rw [e_Rd_personLine, q_Rd_personLine_0, h1.2.2.1, (te_is hu).1, jc_t, cA, q_M_line_2, w0, jif_t (show (0 : Int32) = 0 from rfl), fr_0 _ τ mA, rI_s]
  simp only [Option.bind_some]
  by_cases hA : A < 10
  · obtain ⟨σ1, T1, a1, a2, a3, a4⟩ := c_adv (dc + 1) σ h1
    obtain ⟨τ1, b1, b2, b3⟩ := m_tok (dm + 2) τ h2 a3
    have L1 : lS σ1 τ1 u B Ln T1 A Pt M W := h.adv hu (ta_rd a2) a4 b2 b3
    have hv : σ1.1 37 2 = T1.2.2.2 := a4.1.2.2.2.2.2.2.1
    have hK1 : T1.1 < 300 := by have := a4.2.1; omega
    have mA1 : τ1.1 88 4 = nI A := L1.2.2.1.2.2.2.2.1
    rw [jif_t (show nI A < (10 : Int32) from nI_lt (b := 10) hA (by omega)), jif_f (show ¬ nI A = (10 : Int32) from nI_k (k := 10) (by omega) (by omega) (by omega)), q_Rd_personLine_1, q_M_line_3, jif_f (show ¬ (0 : Int32) = 2 by decide), q_M_line_4, jif_f (show ¬ (0 : Int32) = 4 by decide), q_M_line_6, jif_f (show ¬ (0 : Int32) = 3 by decide), q_M_line_7, jif_t h23, q_M_line_8, a1, rV_s, b1, rV_s]
    simp only [Option.bind_some]
    rw [jif_t trivial, q_M_line_9, fr_0 _ τ1 mA1, rI_s]
    simp only [Option.bind_some]
    rw [show (10 : Int32) + nI A = nI (10 + A) from nI_add 10 A, e_M_personLine, mp_0, fr_0 _ τ1 mA1, rI_s, a4.2.2.1, (te_is hu).1, jc_t, c_personNamed (dc + 1) hu hA10 _ σ1 L1.2.2.1.2.2.2.1, rI_s, hv]
    simp only [Option.bind_some]
    have fe : fnd (σ1.1 (u + 1)) T1.2.2.2 A 0 = fnd (fun k => τ1.1 89 (10 + k)) T1.2.2.2 A 0 := fnd_congr A 0 (fun k _ hk => (L1.2.2.1.2.2.2.2.2.2.2.2.2.1 k (by omega)).1)
    obtain ⟨n1, n2, n3⟩ := c_newName dc (fnd (σ1.1 (u + 1)) T1.2.2.2 A 0) σ1 a4
    obtain ⟨f1, f2, f3⟩ := m_fresh dm (a := 89) (l2 := 10) (l3 := nI A) (fnd (σ1.1 (u + 1)) T1.2.2.2 A 0) hK1 τ1 b3 (fun _ => by rw [fe]; exact m_found (dm + 2) T1.2.2.2 89 20 10 A rfl (by omega) (by omega) τ1)
    have bad : ∀ k, 1 ≤ k ∧ k ≤ 5 → (∃ σ', g_Rd_newName (dc + 3) (fnd (σ1.1 (u + 1)) T1.2.2.2 A 0) σ1 = some (some (.int 0), σ') ∧ jep rd_S σ1 σ' ∧ rdF σ' k T1.2.1) → (∃ σ', g_M_fresh (dm + 4) 89 10 (nI A) τ1 = some (some (.int 0), σ') ∧ jep md_S τ1 σ' ∧ mdF σ' k T1.2.1) → LB ((r_I (g_Rd_newName (dc + 3) (fnd (σ1.1 (u + 1)) T1.2.2.2 A 0) σ1)).bind fun q3 => jif (q3.1 = 0) (b_Rd_personLine_2 (dc + 3) q3.2) ((r_I (g_Rd_readNumber (dc + 3) 0 99 q3.2)).bind fun q4 => jif (q4.1 = 0) (b_Rd_personLine_2 (dc + 3) q4.2) (b_Rd_personLine_3 (dc + 3) T1.2.2.2 q4.2))) ((r_V ((r_I (g_M_fresh (dm + 4) 89 10 (nI A) τ1)).bind fun q2 => mpA (dm + 4) (nI (10 + A)) q2)).bind fun σ2 => b_M_line_14 (dm + 5) σ2) σ τ u B Ln (dm + 5) := by
      intro k hk hc hm
      obtain ⟨σ2, c1, c2, c3⟩ := hc
      obtain ⟨τ2, d1, d2, d3⟩ := hm
      have hf := d3.ne hk.1 hk.2
      obtain ⟨τ3, e1, e2, e3⟩ := mpA_F (dm + 3) 0 τ2 hA hf (by rw [(d2 88 4 (fun q => by have := q.1; omega)).1]; exact mA1)
      rw [c1, rI_s, d1, rI_s]
      simp only [Option.bind_some]
      rw [jif_t trivial, q_Rd_personLine_2, e1, rV_s]
      exact LB.bad14 rfl rfl ((a2.mono (fun b j => ta_lc)).tr (c2.mono (fun b j => rd_lc))) (((b2.mono (fun b j => tk_lm)).tr (d2.mono (fun b j => md_lm))).tr e2) hk c3 (d3.fr (fun j _ _ => e3 j))
    by_cases k16 : T1.1 = 16
    · by_cases kw : fnd (σ1.1 (u + 1)) T1.2.2.2 A 0 = -1
      · obtain ⟨σ2, T2, c1, c2, c3, c4⟩ := n1 k16 kw
        obtain ⟨τ2, d1, d2, d3⟩ := f1 k16 kw T2 c3
        have L2 : lS σ2 τ2 u B Ln T2 A Pt M W := L1.adv hu c2 c4 d2 d3
        have F2 : jep (lcS u) σ σ2 := (a2.mono (fun b j => ta_lc)).tr (c2.mono (fun b j => rd_lc))
        have G2 : jep lmS τ τ2 := (b2.mono (fun b j => tk_lm)).tr (d2.mono (fun b j => tk_lm))
        have mA2 : τ2.1 88 4 = nI A := L2.2.2.1.2.2.2.2.1
        have cA2 : σ2.1 u 0 = nI A := L2.2.2.1.2.2.2.1
        have g3 : mdS (j_setI τ2 89 (10 + A) T1.2.2.2) B Ln T2 := d3.fr (fun b j q => setI_ne (by omega))
        have hK2 : T2.1 < 300 := by have := c4.2.1; omega
        obtain ⟨r1, r2, r3⟩ := c_readNumber dc 0 99 σ2 c4
        obtain ⟨s1, s2, s3⟩ := m_numeral dm 0 99 (by omega) (by omega) hK2 _ g3
        rw [c1, rI_s, d1, rI_s]
        simp only [Option.bind_some]
        rw [jif_f (by decide)]
        show LB _ ((r_V ((j_wrI τ2 89 (nI (10 + A)) T1.2.2.2).bind fun σ3 => (r_I (g_M_numeral (dm + 4) 0 99 σ3)).bind fun q4 => mpB (dm + 4) (nI (10 + A)) q4)).bind fun σ2 => b_M_line_14 (dm + 5) σ2) _ _ _ _ _ _
        rw [wrI_ok (a := 89) (n := 20) rfl rfl (show 10 + A < 20 by omega) (by omega)]
        simp only [Option.bind_some]
        have bad2 : ∀ k, 1 ≤ k ∧ k ≤ 5 → (∃ σ', g_Rd_readNumber (dc + 3) 0 99 σ2 = some (some (.int 0), σ') ∧ jep rd_S σ2 σ' ∧ rdF σ' k T2.2.1) → (∃ σ', g_M_numeral (dm + 4) 0 99 (j_setI τ2 89 (10 + A) T1.2.2.2) = some (some (.int 0), σ') ∧ jep md_S (j_setI τ2 89 (10 + A) T1.2.2.2) σ' ∧ mdF σ' k T2.2.1) → LB ((r_I (g_Rd_readNumber (dc + 3) 0 99 σ2)).bind fun q4 => jif (q4.1 = 0) (b_Rd_personLine_2 (dc + 3) q4.2) (b_Rd_personLine_3 (dc + 3) T1.2.2.2 q4.2)) ((r_V ((r_I (g_M_numeral (dm + 4) 0 99 (j_setI τ2 89 (10 + A) T1.2.2.2))).bind fun q4 => mpB (dm + 4) (nI (10 + A)) q4)).bind fun σ2 => b_M_line_14 (dm + 5) σ2) σ τ u B Ln (dm + 5) := by
          intro k hk hc hm
          obtain ⟨σ3, i1, i2, i3⟩ := hc
          obtain ⟨τ3, j1, j2, j3⟩ := hm
          have hf := j3.ne hk.1 hk.2
          obtain ⟨τ4, e1, e2, e3⟩ := mpB_F (dm + 3) 0 τ3 hA hf (by rw [(j2 88 4 (fun q => by have := q.1; omega)).1, setI_ne (by omega)]; exact mA2)
          rw [i1, rI_s, j1, rI_s]
          simp only [Option.bind_some]
          rw [jif_t trivial, q_Rd_personLine_2, e1, rV_s]
          exact LB.bad14 rfl rfl (F2.tr (i2.mono (fun b j => rd_lc))) ((G2.tr ((jep.rf.sI (lm_in (by omega) (by omega) (show 10 ≤ 10 + A by omega))).tr (j2.mono (fun b j => md_lm)))).tr e2) hk i3 (j3.fr (fun j _ _ => e3 j))
        by_cases k17 : T2.1 = 17
        · by_cases kr : (0 : Int32) ≤ T2.2.2.2 ∧ T2.2.2.2 ≤ 99
          · obtain ⟨σ3, T3, i1, i2, i3, i4, i5⟩ := r1 k17 kr
            obtain ⟨τ3, j1, j2, j3⟩ := s1 k17 kr T3 i3
            have fc3 : ∀ b j, u ≤ b → b ≤ u + 14 → σ3.1 b j = σ2.1 b j := fun b j q1 q2 => (i2 b j (fun z => by unfold rd_S at z; omega)).1
            have fm3 : ∀ b j, ¬ (b = 86 ∧ 19 ≤ j ∧ j ≤ 22) → ¬ (b = 89 ∧ j = 10 + A) → τ3.1 b j = τ2.1 b j := fun b j q q' => by rw [(j2 b j q).1, setI_get, if_neg q']
            have cA3 : σ3.1 u 0 = nI A := by rw [fc3 _ _ (by omega) (by omega)]; exact cA2
            obtain ⟨σ4, x0, x1, x2, x3, x4, x5, x6, x7, x8⟩ := c_addPersonE (dc + 2) hu T1.2.2.2 T2.2.2.2 σ3 cA3 hA
            have k4 : rdS σ4 u B Ln T3 := i4.fr (fun b j q => ⟨x6 b j (by omega) (by omega), by rw [x7]⟩)
            have h37 : σ4.1 37 0 = nI T3.1 := k4.1.2.2.2.1
            have hK3 : T3.1 < 300 := by have := k4.2.1; omega
            obtain ⟨τ4, hτ4⟩ : ∃ t, t = j_setI (j_setI (j_setI τ3 90 (10 + A) T2.2.2.2) 91 (10 + A) 0) 92 (10 + A) 0 := ⟨_, rfl⟩
            have y0 : ∀ b j, ¬ (90 ≤ b ∧ b ≤ 92 ∧ j = 10 + A) → τ4.1 b j = τ3.1 b j := fun b j q => by rw [hτ4, setI_get, if_neg (by omega), setI_get, if_neg (by omega), setI_get, if_neg (by omega)]
            have y1 : τ4.1 90 (10 + A) = T2.2.2.2 := by rw [hτ4, setI_ne (by omega), setI_ne (by omega), setI_same]
            have y2 : τ4.1 91 (10 + A) = 0 := by rw [hτ4, setI_ne (by omega), setI_same]
            have y3 : τ4.1 92 (10 + A) = 0 := by rw [hτ4, setI_same]
            have y4 : τ4.1 89 (10 + A) = T1.2.2.2 := by rw [y0 _ _ (by omega), (j2 89 (10 + A) (fun q => by have := q.1; omega)).1, setI_same]
            have Y : jep lmS τ3 τ4 := by rw [hτ4]; exact ((jep.rf.sI (lm_in (by omega) (by omega) (show 10 ≤ 10 + A by omega))).sI (lm_in (by omega) (by omega) (show 10 ≤ 10 + A by omega))).sI (lm_in (by omega) (by omega) (show 10 ≤ 10 + A by omega))
            have m4 : mdS τ4 B Ln T3 := j3.fr (fun b j q => y0 b j (by omega))
            have mA4 : τ4.1 88 4 = nI A := by rw [y0 _ _ (by omega), fm3 _ _ (by omega) (by omega)]; exact mA2
            have F4 : jep (lcS u) σ σ4 := (F2.tr (i2.mono (fun b j => rd_lc))).tr x8
            have G4 : jep lmS τ τ4 := (G2.tr ((jep.rf.sI (lm_in (by omega) (by omega) (show 10 ≤ 10 + A by omega))).tr (j2.mono (fun b j => tk_lm)))).tr Y
            have h17 : τ4.1 86 17 = τ.1 86 17 := by rw [y0 _ _ (by omega), fm3 _ _ (by omega) (by omega), (d2 86 17 (fun q => by have := q.2; omega)).1, (b2 86 17 (fun q => by have := q.2; omega)).1]
            -- the new person, once all is read
            have fin : ∀ (σ' τ' : jS) (T' : Tok), rdS σ' u B Ln T' → mdS τ' B Ln T' → (∀ b j, u ≤ b → b ≤ u + 14 → ¬ (b = u + 3 ∧ j = A) → σ'.1 b j = σ4.1 b j) → (∀ b j, ¬ (b = 86 ∧ 19 ≤ j ∧ j ≤ 22) → ¬ (b = 91 ∧ j = 10 + A) → ¬ (b = 88 ∧ j = 4) → τ'.1 b j = τ4.1 b j) → τ'.1 88 4 = nI (A + 1) → σ'.1 (u + 3) A = τ'.1 91 (10 + A) → lS σ' τ' u B Ln T' (A + 1) Pt M W := by
              intro σ' τ' T' z1 z2 z3 z4 z5 z6
              refine ⟨z1, z2, L2.2.2.1.person hA ?_ z5 (fun b j q1 q2 q3 q4 => ?_) (fun b j q1 q2 q3 q4 => ?_) ?_ ?_ z6 ?_ ?_, L2.2.2.2.fr (fun b j q1 q2 => ?_) (fun b j q => ?_)⟩
              · rw [z3 _ _ (by omega) (by omega) (by omega)]; exact x1
              · rw [z3 _ _ (by omega) (by omega) (by omega), x6 _ _ q3 q4, fc3 _ _ (by omega) (by omega)]
              · rw [z4 _ _ (by omega) (by omega) (by omega), y0 _ _ (by omega), fm3 _ _ (by omega) (by omega)]
              · rw [z3 _ _ (by omega) (by omega) (by omega), x2, z4 _ _ (by omega) (by omega) (by omega), y4]
              · rw [z3 _ _ (by omega) (by omega) (by omega), x3, z4 _ _ (by omega) (by omega) (by omega), y1]
              · rw [z3 _ _ (by omega) (by omega) (by omega), x5]
              · rw [z4 _ _ (by omega) (by omega) (by omega), y3]
              · rw [z3 _ _ (by omega) (by omega) (by omega), x6 _ _ (by omega) (by omega), fc3 _ _ (by omega) (by omega)]
              · rw [z4 _ _ (by omega) (by omega) (by omega), y0 _ _ (by omega), fm3 _ _ (by omega) (by omega)]
            rw [i1, rI_s, show g_M_numeral (dm + 4) 0 99 _ = _ from j1, rI_s]
            simp only [Option.bind_some]
            rw [jif_f (by decide), q_Rd_personLine_3, i4.2.2.1, (te_is hu).1, jc_t, jc_t, i5, x0, rV_s, cA3, mpB_0 _ _ _ hA, ← hτ4, show g_M_isWord (dm + 4) 5 τ4 = _ from m_isWord (dm + 3) 5 (by omega) τ4 m4, rI_s]
            simp only [Option.bind_some]
            rw [h37]
            by_cases k7 : T3.1 = 7
            · obtain ⟨σ5, T4, t1, t2, t3, t4⟩ := c_adv (dc + 1) σ4 k4
              obtain ⟨τ5, v1, v2, v3⟩ := m_tok (dm + 1) τ4 m4 t3
              have hK4 : T4.1 < 300 := by have := t4.2.1; omega
              obtain ⟨r1, r2, r3⟩ := c_readNumber dc 0 99999 σ5 t4
              obtain ⟨s1, s2, s3⟩ := m_numeral dm 0 99999 (by omega) (by omega) hK4 _ v3
              have mA5 : τ5.1 88 4 = nI A := by rw [(v2 88 4 (fun q => by have := q.1; omega)).1]; exact mA4
              rw [jif_t (show nI T3.1 = 7 by rw [k7]; rfl), b2i_t (show T3.1 = cw 5 from k7), jif_f (by decide), q_Rd_personLine_4, t1, rV_s, v1, rV_s]
              simp only [Option.bind_some]
              have bad3 : ∀ k, 1 ≤ k ∧ k ≤ 5 → (∃ σ', g_Rd_readNumber (dc + 3) 0 99999 σ5 = some (some (.int 0), σ') ∧ jep rd_S σ5 σ' ∧ rdF σ' k T4.2.1) → (∃ σ', g_M_numeral (dm + 4) 0 99999 τ5 = some (some (.int 0), σ') ∧ jep md_S τ5 σ' ∧ mdF σ' k T4.2.1) → LB ((r_I (g_Rd_readNumber (dc + 3) 0 99999 σ5)).bind fun q2 => jif (q2.1 = 0) (some (some (.int 0), q2.2)) (b_Rd_personLine_5 (dc + 3) (nI A) q2.2)) ((r_V ((r_I (g_M_numeral (dm + 4) 0 99999 τ5)).bind fun q10 => (j_wrI q10.2 91 (nI (10 + A)) q10.1).bind fun σ11 => b_M_personLine_1 (dm + 4) σ11)).bind fun σ2 => b_M_line_14 (dm + 5) σ2) σ τ u B Ln (dm + 5) := by
                intro k hk hc hm
                obtain ⟨σ6, i1, i2, i3⟩ := hc
                obtain ⟨τ6, j1, j2, j3⟩ := hm
                rw [i1, rI_s, j1, rI_s]
                simp only [Option.bind_some]
                rw [jif_t trivial, wrI_ok (a := 91) (n := 20) rfl rfl (show 10 + A < 20 by omega) (by omega)]
                simp only [Option.bind_some]
                rw [mp_1 (dm + 3) (A := A) _ (by rw [setI_ne (by omega), (j2 88 4 (fun q => by have := q.1; omega)).1]; exact mA5), rV_s]
                exact LB.bad14 rfl rfl ((F4.tr (t2.mono (fun b j => ta_lc))).tr (i2.mono (fun b j => rd_lc))) (((((G4.tr (v2.mono (fun b j => tk_lm))).tr (j2.mono (fun b j => md_lm)))).sI (lm_in (by omega) (by omega) (show 10 ≤ 10 + A by omega))).sI (lm_in (by omega) (by omega) (show 4 ≤ 4 by omega))) hk i3 (j3.fr (fun j _ _ => by rw [setI_ne (by omega), setI_ne (by omega)]))
              by_cases l17 : T4.1 = 17
              · by_cases lr : (0 : Int32) ≤ T4.2.2.2 ∧ T4.2.2.2 ≤ 99999
                · obtain ⟨σ6, T5, e1, e2, e3, e4, e5⟩ := r1 l17 lr
                  obtain ⟨τ6, o1, o2, o3⟩ := s1 l17 lr T5 e3
                  have fc6 : ∀ b j, u ≤ b → b ≤ u + 14 → σ6.1 b j = σ4.1 b j := fun b j q1 q2 => by rw [(e2 b j (fun z => by unfold rd_S at z; omega)).1, (t2 b j (fun z => by have := z.1; omega)).1]
                  have fm6 : ∀ b j, ¬ (b = 86 ∧ 19 ≤ j ∧ j ≤ 22) → τ6.1 b j = τ4.1 b j := fun b j q => by rw [(o2 b j q).1, (v2 b j q).1]
                  rw [e1, rI_s, show g_M_numeral (dm + 4) 0 99999 τ5 = _ from o1, rI_s]
                  simp only [Option.bind_some]
                  rw [jif_f (by decide), q_Rd_personLine_5, e4.2.2.1, (te_is hu).1, jc_t, (te_cr hu).2.2.1, e5, wrI_ok (te_len hu).2.2.1 rfl hA (by omega), wrI_ok (a := 91) (n := 20) rfl rfl (show 10 + A < 20 by omega) (by omega)]
                  simp only [Option.bind_some]
                  rw [mp_1 (dm + 3) (A := A) _ (by rw [setI_ne (by omega), fm6 _ _ (by omega)]; exact mA4), rV_s]
                  refine Or.inl ⟨_, _, T5, A + 1, Pt, M, W, rfl, rfl, ((F4.tr (t2.mono (fun b j => ta_lc))).tr (e2.mono (fun b j => rd_lc))).sI (Or.inr (by omega)), ((((G4.tr (v2.mono (fun b j => tk_lm))).tr (o2.mono (fun b j => tk_lm)))).sI (lm_in (by omega) (by omega) (show 10 ≤ 10 + A by omega))).sI (lm_in (by omega) (by omega) (show 4 ≤ 4 by omega)), fin _ _ T5 (e4.fr (fun b j q => ⟨setI_ne (by omega), rfl⟩)) (o3.fr (fun b j q => by rw [setI_ne (by omega), setI_ne (by omega)])) (fun b j q1 q2 q3 => ?_) (fun b j q1 q2 q3 => ?_) (setI_same _ _ _ _) ?_, ?_⟩
                  · rw [setI_get, if_neg q3]; exact fc6 b j q1 q2
                  · rw [setI_get, if_neg q3, setI_get, if_neg q2]; exact fm6 b j q1
                  · rw [setI_same, setI_ne (by omega), setI_same]
                  · rw [setI_ne (by omega), setI_ne (by omega), fm6 _ _ (by omega)]; exact h17
                · exact bad3 2 (by omega) (r3 l17 lr) (s3 l17 lr)
              · exact bad3 1 (by omega) (r2 l17) (s2 l17)
            · rw [jif_f (show ¬ nI T3.1 = (7 : Int32) from nI_k (k := 7) (by have := k4.2.1; omega) (by omega) k7), b2i_f (show ¬ T3.1 = cw 5 from k7), jif_t (show (0 : Int32) = 0 from rfl), mp_1 (dm + 3) τ4 mA4, rV_s]
              refine Or.inl ⟨σ4, _, T3, A + 1, Pt, M, W, rfl, rfl, F4, G4.sI (lm_in (by omega) (by omega) (show 4 ≤ 4 by omega)), fin σ4 _ T3 k4 (m4.fr (fun b j q => setI_ne (by omega))) (fun b j _ _ _ => rfl) (fun b j q1 q2 q3 => by rw [setI_get, if_neg q3]) (setI_same _ _ _ _) (by rw [x4, setI_ne (by omega), y2]), by rw [setI_ne (by omega)]; exact h17⟩
          · exact bad2 2 (by omega) (r3 k17 kr) (s3 k17 kr)
        · exact bad2 1 (by omega) (r2 k17) (s2 k17)
      · exact bad 3 (by omega) (n3 k16 kw) (f3 k16 kw)
    · exact bad 1 (by omega) (n2 k16) (f2 k16)
  · have e10 : A = 10 := by omega
    obtain ⟨σ', q1, q2, q3⟩ := c_fails (dc + 2) 2 σ h1
    obtain ⟨τ', p1, p2, p3⟩ := m_wrong (dm + 4) 2 τ h2
    rw [jif_f (show ¬ nI A < (10 : Int32) from nI_nlt (b := 10) (by omega) (by omega)), jif_t (show nI A = (10 : Int32) by rw [e10]; rfl), show g_Rd_fails (dc + 3) 2 σ = _ from q1, rI_s, q_M_line_5, show g_M_wrong (dm + 5) 2 τ = _ from p1, rV_s]
    simp only [Option.bind_some]
    rw [q_M_line_7, jif_f (p3.ne (by omega) (by omega))]
    exact LB.bad rfl rfl (q2.mono (fun b j => rd_lc)) (p2.mono (fun b j => md_lm)) (by omega) q3 p3
