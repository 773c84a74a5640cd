/-! Lines: a parcel. -/
theorem rT.parcel {σ σ' τ τ' : jS} {u A Pt M f w hh : Nat} (h : rT σ τ u A Pt M) (hP : Pt < 12) (c0 : σ'.1 u 6 = nI (Pt + 1)) (m0 : τ'.1 88 5 = nI (Pt + 1)) (cf : ∀ b j, u ≤ b → b ≤ u + 9 → ¬ (b = u ∧ j = 6) → ¬ (u + 6 ≤ b ∧ b ≤ u + 8 ∧ j = Pt) → σ'.1 b j = σ.1 b j)
    (mf : ∀ b j, 88 ≤ b → b ≤ 97 → ¬ (b = 88 ∧ (j = 5 ∨ j = 7)) → ¬ (94 ≤ b ∧ b ≤ 96 ∧ j = 12 + Pt) → τ'.1 b j = τ.1 b j) (n1 : σ'.1 (u + 6) Pt = nI f) (n2 : σ'.1 (u + 7) Pt = nI w) (n3 : σ'.1 (u + 8) Pt = nI hh) (k1 : τ'.1 94 (12 + Pt) = nI f) (k2 : τ'.1 95 (12 + Pt) = nI w) (k3 : τ'.1 96 (12 + Pt) = nI hh) (hf : f < A) (hw : 1 ≤ w ∧ w ≤ 99999) (hh3 : hh ≤ 3000) : rT σ' τ' u A (Pt + 1) M := by
  obtain ⟨h1, h2, h3, h4, h5, h6, h7, h8, h9, h10, h11, h12⟩ := h
  refine ⟨h1, by omega, h3, by rw [cf _ _ (by omega) (by omega) (by omega) (by omega)]; exact h4, by rw [mf _ _ (by omega) (by omega) (by omega) (by omega)]; exact h5, c0, m0, by rw [cf _ _ (by omega) (by omega) (by omega) (by omega)]; exact h8, by rw [mf _ _ (by omega) (by omega) (by omega) (by omega)]; exact h9, fun p hp => ?_, fun k hk => ?_, fun m hk => by rw [cf _ _ (by omega) (by omega) (by omega) (by omega), mf _ _ (by omega) (by omega) (by omega) (by omega)]; exact h12 m hk⟩
  · obtain ⟨a1, a2, a3, a4, w, a5, a6, a7⟩ := h10 p hp
    refine ⟨by rw [cf _ _ (by omega) (by omega) (by omega) (by omega), mf _ _ (by omega) (by omega) (by omega) (by omega)]; exact a1, by rw [cf _ _ (by omega) (by omega) (by omega) (by omega), mf _ _ (by omega) (by omega) (by omega) (by omega)]; exact a2, by rw [cf _ _ (by omega) (by omega) (by omega) (by omega), mf _ _ (by omega) (by omega) (by omega) (by omega)]; exact a3, by rw [cf _ _ (by omega) (by omega) (by omega) (by omega), mf _ _ (by omega) (by omega) (by omega) (by omega)]; exact a4, w, a5, by rw [cf _ _ (by omega) (by omega) (by omega) (by omega)]; exact a6, fun x hx => ?_⟩
    rw [cf _ _ (by omega) (by omega) (by omega) (by omega), mf _ _ (by omega) (by omega) (by omega) (by omega)]
    exact a7 x hx
  · by_cases e : k < Pt
    · obtain ⟨a1, a2, a3, a4, a5, a6⟩ := h11 k e
      refine ⟨by rw [cf _ _ (by omega) (by omega) (by omega) (by omega), mf _ _ (by omega) (by omega) (by omega) (by omega)]; exact a1, by rw [cf _ _ (by omega) (by omega) (by omega) (by omega), mf _ _ (by omega) (by omega) (by omega) (by omega)]; exact a2, by rw [cf _ _ (by omega) (by omega) (by omega) (by omega), mf _ _ (by omega) (by omega) (by omega) (by omega)]; exact a3, by rw [cf _ _ (by omega) (by omega) (by omega) (by omega)]; exact a4, by rw [cf _ _ (by omega) (by omega) (by omega) (by omega)]; exact a5, by rw [cf _ _ (by omega) (by omega) (by omega) (by omega)]; exact a6⟩
    · have e : k = Pt := by omega
      subst e
      exact ⟨n1.trans k1.symm, n2.trans k2.symm, n3.trans k3.symm, ⟨f, hf, n1⟩, ⟨w, hw.1, hw.2, n2⟩, hh, hh3, n3⟩
theorem c_addParcel (d : Nat) {u P : Nat} (hu : jTe u) (x a b : Int32) (σ : jS) (h0 : σ.1 u 6 = nI P) (hP : P < 12) : g_Te_addParcel (d + 1) u x a b σ = some (none, j_setI (j_setI (j_setI (j_setI σ (u + 6) P x) (u + 7) P a) (u + 8) P b) u 6 (nI (P + 1))) := by
  have hr := te_r hu
  obtain ⟨-, -, -, -, -, r1, r2, r3, -⟩ := te_cr hu
  obtain ⟨-, -, -, -, -, l1, l2, l3, -⟩ := te_len hu
  rw [e_Te_addParcel, q_Te_addParcel_0, (te_is hu).1, jc_t, h0, jif_f (show ¬ (12 : Int32) ≤ nI P from nI_ge (b := 12) hP (by omega)), jc_t, jc_t, r1, wrI_ok l1 rfl hP (by omega)]
  simp only [Option.bind_some]
  rw [jc_t, jc_t, setI_ne (by omega), h0, r2, wrI_ok l2 rfl hP (by omega)]
  simp only [Option.bind_some]
  rw [jc_t, jc_t, setI_ne (by omega), setI_ne (by omega), h0, r3, wrI_ok l3 rfl hP (by omega)]
  simp only [Option.bind_some]
  rw [jc_t, jc_t, setI_ne (by omega), setI_ne (by omega), setI_ne (by omega), h0, q_Te_addParcel_1, nI_1]
noncomputable def mqC (d : Nat) (l1 : Int32) (q6 : Int32 × jS) : jR := (j_wrI q6.2 96 l1 q6.1).bind fun σ7 => (r_V (g_M_oneMore d 1 σ7)).bind fun σ8 => some (none, σ8)
noncomputable def mqB (d : Nat) (l1 : Int32) (q4 : Int32 × jS) : jR := (j_wrI q4.2 95 l1 q4.1).bind fun σ5 => (r_I (g_M_numeral d 0 999 σ5)).bind fun q6 => mqC d l1 q6
noncomputable def mqA (d : Nat) (l1 : Int32) (q1 : Int32 × jS) : jR := (j_wrI q1.2 94 l1 q1.1).bind fun σ2 => (r_V (g_M_goOn d σ2)).bind fun σ3 => (r_I (g_M_numeral d 1 99999 σ3)).bind fun q4 => mqB d l1 q4
theorem mq_0 (d : Nat) (l1 : Int32) (σ : jS) : b_M_parcelLine_0 d l1 σ = (r_I (g_M_person d σ)).bind fun q1 => mqA d l1 q1 := q_M_parcelLine_0 d l1 σ
theorem mqC_ok (d : Nat) {P : Nat} (x : Int32) (τ : jS) (hP : P < 12) (h : τ.1 88 5 = nI P) : mqC (d + 1) (nI (12 + P)) (x, τ) = some (none, j_setI (j_setI τ 96 (12 + P) x) 88 5 (nI (P + 1))) := by
  unfold mqC
  rw [wrI_ok (a := 96) (n := 24) rfl rfl (show 12 + P < 24 by omega) (by omega)]
  simp only [Option.bind_some]
  have f := m_oneMore d 1 P (by omega) (j_setI τ 96 (12 + P) x) (by rw [setI_ne (by omega)]; exact h)
  rw [show g_M_oneMore (d + 1) 1 _ = _ from f, rV_s]
  rfl
theorem mqB_0 (d : Nat) {P : Nat} (x : Int32) (τ : jS) (hP : P < 12) : mqB d (nI (12 + P)) (x, τ) = (r_I (g_M_numeral d 0 999 (j_setI τ 95 (12 + P) x))).bind fun q6 => mqC d (nI (12 + P)) q6 := by
  unfold mqB
  rw [wrI_ok (a := 95) (n := 24) rfl rfl (show 12 + P < 24 by omega) (by omega)]
  rfl
theorem mqA_0 (d : Nat) {P : Nat} (x : Int32) (τ : jS) (hP : P < 12) : mqA d (nI (12 + P)) (x, τ) = (r_V (g_M_goOn d (j_setI τ 94 (12 + P) x))).bind fun σ3 => (r_I (g_M_numeral d 1 99999 σ3)).bind fun q4 => mqB d (nI (12 + P)) q4 := by
  unfold mqA
  rw [wrI_ok (a := 94) (n := 24) rfl rfl (show 12 + P < 24 by omega) (by omega)]
  rfl
theorem mqC_F (d : Nat) {P : Nat} (x : Int32) (τ : jS) (hP : P < 12) (h : τ.1 88 5 = nI P) : ∃ τ', mqC (d + 1) (nI (12 + P)) (x, τ) = some (none, τ') ∧ jep lmS τ τ' ∧ ∀ j, τ'.1 86 j = τ.1 86 j := ⟨_, mqC_ok d x τ hP h, (jep.rf.sI (lm_in (by omega) (by omega) (show 12 ≤ 12 + P by omega))).sI (lm_in (by omega) (by omega) (show 4 ≤ 5 by omega)), fun j => by rw [setI_ne (by omega), setI_ne (by omega)]⟩
theorem mqB_F (d : Nat) {P : Nat} (x : Int32) (τ : jS) (hP : P < 12) (hf : ¬ τ.1 86 23 = 0) (h : τ.1 88 5 = nI P) : ∃ τ', mqB (d + 1) (nI (12 + P)) (x, τ) = some (none, τ') ∧ jep lmS τ τ' ∧ ∀ j, τ'.1 86 j = τ.1 86 j := by
  have e : ∀ b j, b ≠ 95 → (j_setI τ 95 (12 + P) x).1 b j = τ.1 b j := fun b j q => setI_ne q
  rw [mqB_0 _ _ _ hP, m_numeralF _ _ _ _ (by rw [e _ _ (by omega)]; exact hf), rI_s]
  simp only [Option.bind_some]
  obtain ⟨τ', q1, q2, q3⟩ := mqC_F d 0 (j_setI τ 95 (12 + P) x) hP (by rw [e _ _ (by omega)]; exact h)
  exact ⟨τ', q1, (jep.rf.sI (lm_in (by omega) (by omega) (show 12 ≤ 12 + P by omega))).tr q2, fun j => by rw [q3, e _ _ (by omega)]⟩
theorem mqA_F (d : Nat) {P : Nat} (x : Int32) (τ : jS) (hP : P < 12) (hf : ¬ τ.1 86 23 = 0) (h : τ.1 88 5 = nI P) : ∃ τ', mqA (d + 1) (nI (12 + P)) (x, τ) = some (none, τ') ∧ jep lmS τ τ' ∧ ∀ j, τ'.1 86 j = τ.1 86 j := by
  have e : ∀ b j, b ≠ 94 → (j_setI τ 94 (12 + P) x).1 b j = τ.1 b j := fun b j q => setI_ne q
  rw [mqA_0 _ _ _ hP, m_goOnF _ _ (by rw [e _ _ (by omega)]; exact hf), rV_s]
  simp only [Option.bind_some]
  rw [m_numeralF _ _ _ _ (by rw [e _ _ (by omega)]; exact hf), rI_s]
  simp only [Option.bind_some]
  obtain ⟨τ', q1, q2, q3⟩ := mqB_F d 1 (j_setI τ 94 (12 + P) x) hP (by rw [e _ _ (by omega)]; exact hf) (by rw [e _ _ (by omega)]; exact h)
  exact ⟨τ', q1, (jep.rf.sI (lm_in (by omega) (by omega) (show 12 ≤ 12 + P by omega))).tr q2, fun j => by rw [q3, e _ _ (by omega)]⟩
theorem fr_1 (d : Nat) {A : Nat} (τ : jS) (h : τ.1 88 5 = nI A) : g_M_fresher (d + 1) 1 τ = some (some (.int (nI A)), τ) := by
  have f := m_fresher d 1 (by omega) τ
  rw [show τ.1 88 (4 + 1) = nI A from h] at f
  exact f
/-- the value of a number that is read lies in bounds -/
theorem nm_in {x : Int32} {lo hi : Nat} (hl : lo < 2 ^ 31) (hh : hi < 2 ^ 31) (h : nI lo ≤ x ∧ x ≤ nI hi) : ∃ v, lo ≤ v ∧ v ≤ hi ∧ x = nI v := by
  have h0 : ¬ x < 0 := fun z => by
    have z1 := Int32.lt_iff_toInt_lt.mp z
    have z2 := Int32.le_iff_toInt_le.mp h.1
    have z3 : (nI lo).toInt = lo := nI_toInt hl
    have z4 : (0 : Int32).toInt = 0 := rfl
    omega
  obtain ⟨v, hv, rfl⟩ := nI_of h0
  exact ⟨v, (nI_leI hl hv).mp h.1, (nI_leI hv hh).mp h.2, rfl⟩
