/-! Lines: who hands to whom: one heir. -/
theorem fnd_of {f : Nat → Int32} {x : Int32} (n : Nat) : ∀ (i : Nat), fnd f x n i ≠ -1 → ∃ o, i ≤ o ∧ o < i + n ∧ fnd f x n i = nI o := by
  induction n with
  | zero => intro i h; exact absurd rfl h
  | succ n ih =>
    intro i h
    unfold fnd at h ⊢
    by_cases e : f i = x
    · rw [if_pos e]; exact ⟨i, by omega, by omega, rfl⟩
    · rw [if_neg e] at h ⊢
      obtain ⟨o, h1, h2, h3⟩ := ih (i + 1) h
      exact ⟨o, by omega, by omega, h3⟩
theorem nI_p3 (p w : Nat) : nI p * 3 + nI w = nI (3 * p + w) := by
  rw [show nI p * 3 = nI (p * 3) from pk_mul p 3, nI_add, show p * 3 + w = 3 * p + w by omega]
theorem nI_m3 (p w : Nat) : 3 * (10 + nI p) + nI w = nI (30 + (3 * p + w)) := by
  rw [show (10 : Int32) + nI p = nI (10 + p) from nI_add 10 p, nI_3, show 3 * (10 + p) + w = 30 + (3 * p + w) by omega]
theorem c_handsTo_l (d : Nat) {u p w : Nat} (hu : jTe u) (hp : p < 10) (hw : w ≤ 3) (o : Int32) (σ : jS) (h4 : σ.1 (u + 4) p = nI w) : ∀ (n i : Nat), i + n = w →
    ((∃ k, i ≤ k ∧ k < w ∧ σ.1 (u + 5) (3 * p + k) = o) → b_Te_handsTo_1 (d + 2) u (nI p) o (nI i) σ = some (some (.int 1), σ)) ∧ ((∀ k, i ≤ k → k < w → σ.1 (u + 5) (3 * p + k) ≠ o) → b_Te_handsTo_1 (d + 2) u (nI p) o (nI i) σ = some (some (.int 0), σ)) := by
  intro n
  induction n with
  | zero =>
    intro i hi
    have e : b_Te_handsTo_1 (d + 2) u (nI p) o (nI i) σ = some (some (.int 0), σ) := by
      rw [q_Te_handsTo_1, (te_is hu).1, jc_t, (te_cr hu).2.2.2.1, rdI_ok (te_len hu).2.2.2.1 rfl hp (by omega)]
      simp only [Option.bind_some]
      rw [h4, jif_t (nI_le (by omega) (by omega)), q_Te_handsTo_3]
    exact ⟨fun ⟨k, k1, k2, _⟩ => by omega, fun _ => e⟩
  | succ n ih =>
    intro i hi
    obtain ⟨g1, g2⟩ := ih (i + 1) (by omega)
    have e : b_Te_handsTo_1 (d + 2) u (nI p) o (nI i) σ = jif (σ.1 (u + 5) (3 * p + i) = o) (some (some (.int 1), σ)) (b_Te_handsTo_1 (d + 2) u (nI p) o (nI (i + 1)) σ) := by
      rw [q_Te_handsTo_1, (te_is hu).1, jc_t, (te_cr hu).2.2.2.1, rdI_ok (te_len hu).2.2.2.1 rfl hp (by omega)]
      simp only [Option.bind_some]
      rw [h4, jif_f (nI_ge (by omega) (by omega)), jc_t, c_heirAt d hu hp h4 hw (by omega), rI_s]
      simp only [Option.bind_some]
      rw [q_Te_handsTo_2, nI_1]
    rw [e]
    by_cases q : σ.1 (u + 5) (3 * p + i) = o
    · rw [jif_t q]
      exact ⟨fun _ => rfl, fun z => absurd q (z i (by omega) (by omega))⟩
    · rw [jif_f q]
      refine ⟨fun ⟨k, k1, k2, k3⟩ => g1 ⟨k, ?_, k2, k3⟩, fun z => g2 (fun k k1 k2 => z k (by omega) k2)⟩
      rcases Nat.lt_or_ge i k with z | z
      · omega
      · have : k = i := by omega
        subst this; exact absurd k3 q
theorem c_addHeir (d : Nat) {u p w : Nat} (hu : jTe u) (hp : p < 10) (hw : w < 3) (o : Int32) (σ : jS) (h4 : σ.1 (u + 4) p = nI w) : g_Te_addHeir (d + 1) u (nI p) o σ = some (none, j_setI (j_setI σ (u + 5) (3 * p + w) o) (u + 4) p (nI (w + 1))) := by
  rw [e_Te_addHeir, q_Te_addHeir_0, (te_is hu).1, jc_t, (te_cr hu).2.2.2.1, (te_cr hu).2.2.2.2.1, rdI_ok (te_len hu).2.2.2.1 rfl hp (by omega)]
  simp only [Option.bind_some]
  rw [h4, jif_f (show ¬ (3 : Int32) ≤ nI w from nI_ge (b := 3) hw (by omega)), jc_t, jc_t, nI_p3, wrI_ok (te_len hu).2.2.2.2.1 rfl (show 3 * p + w < 30 by omega) (by omega)]
  simp only [Option.bind_some]
  rw [jc_t, rdI_ok (te_len hu).2.2.2.1 rfl hp (by omega)]
  simp only [Option.bind_some]
  rw [setI_ne (by omega), h4, nI_1, wrI_ok (te_len hu).2.2.2.1 rfl hp (by omega)]
  simp only [Option.bind_some]
  rw [q_Te_addHeir_1]
theorem m_h2F (d : Nat) (l1 l3 : Int32) (w : Nat) (hw : w ≤ 3) (τ : jS) (hf : ¬ τ.1 86 23 = 0) : ∀ (n i : Nat), i + n = w → b_M_handsOne_2 d l1 (nI w) l3 (nI i) τ = some (none, τ) := by
  intro n
  induction n with
  | zero =>
    intro i hi
    rw [q_M_handsOne_2, jif_t (nI_le (by omega) (by omega)), q_M_handsOne_4, jif_f hf, q_M_handsOne_5, jif_f hf]
  | succ n ih =>
    intro i hi
    rw [q_M_handsOne_2, jif_f (nI_ge (by omega) (by omega)), jif_f hf, q_M_handsOne_3, nI_1, ih (i + 1) (by omega)]
theorem m_h2 (d : Nat) {p w Ln : Nat} {B : Nat → Nat} {T : Tok} (hp : p < 10) (hw : w ≤ 3) (o : Int32) (τ : jS) (h : mdS τ B Ln T) : ∀ (n i : Nat), i + n = w →
    ((∃ k, i ≤ k ∧ k < w ∧ τ.1 93 (30 + (3 * p + k)) = o) → ∃ τ', b_M_handsOne_2 (d + 1) (nI p) (nI w) o (nI i) τ = some (none, τ') ∧ jep md_S τ τ' ∧ mdF τ' 3 T.2.1) ∧ ((∀ k, i ≤ k → k < w → τ.1 93 (30 + (3 * p + k)) ≠ o) → b_M_handsOne_2 (d + 1) (nI p) (nI w) o (nI i) τ = b_M_handsOne_4 (d + 1) (nI p) (nI w) o τ) := by
  intro n
  induction n with
  | zero =>
    intro i hi
    exact ⟨fun ⟨k, k1, k2, _⟩ => by omega, fun _ => by rw [q_M_handsOne_2, jif_t (nI_le (by omega) (by omega))]⟩
  | succ n ih =>
    intro i hi
    obtain ⟨g1, g2⟩ := ih (i + 1) (by omega)
    have e : b_M_handsOne_2 (d + 1) (nI p) (nI w) o (nI i) τ = jif (τ.1 93 (30 + (3 * p + i)) = o) ((r_V (g_M_wrong (d + 1) 3 τ)).bind fun σ2 => b_M_handsOne_3 (d + 1) (nI p) (nI w) o (nI i) σ2) (b_M_handsOne_2 (d + 1) (nI p) (nI w) o (nI (i + 1)) τ) := by
      rw [q_M_handsOne_2, jif_f (nI_ge (by omega) (by omega)), jif_t h.2.2.2.2, nI_m3, rdI_ok (a := 93) (n := 60) rfl rfl (show 30 + (3 * p + i) < 60 by omega) (by omega)]
      simp only [Option.bind_some]
      rw [q_M_handsOne_3 (d + 1) (nI p) (nI w) o (nI i) τ, nI_1]
    rw [e]
    by_cases q : τ.1 93 (30 + (3 * p + i)) = o
    · rw [jif_t q]
      refine ⟨fun _ => ?_, fun z => absurd q (z i (by omega) (by omega))⟩
      obtain ⟨τ', q1, q2, q3⟩ := m_wrong d 3 τ h
      rw [show g_M_wrong (d + 1) 3 τ = _ from q1, rV_s]
      simp only [Option.bind_some]
      rw [q_M_handsOne_3, nI_1, m_h2F _ _ _ w hw τ' (q3.ne (by omega) (by omega)) n (i + 1) (by omega)]
      exact ⟨τ', rfl, q2, q3⟩
    · rw [jif_f q]
      refine ⟨fun ⟨k, k1, k2, k3⟩ => g1 ⟨k, ?_, k2, k3⟩, fun z => g2 (fun k k1 k2 => z k (by omega) k2)⟩
      rcases Nat.lt_or_ge i k with z | z
      · omega
      · have : k = i := by omega
        subst this; exact absurd k3 q
theorem rT.heir {σ σ' τ τ' : jS} {u A Pt M p w o : Nat} (h : rT σ τ u A Pt M) (hp : p < A) (hw : w < 3) (ho : o < A) (h4 : σ.1 (u + 4) p = nI w) (cf : ∀ b j, u ≤ b → b ≤ u + 9 → ¬ (b = u + 4 ∧ j = p) → ¬ (b = u + 5 ∧ j = 3 * p + w) → σ'.1 b j = σ.1 b j)
    (mf : ∀ b j, 88 ≤ b → b ≤ 97 → ¬ (b = 92 ∧ j = 10 + p) → ¬ (b = 93 ∧ j = 30 + (3 * p + w)) → τ'.1 b j = τ.1 b j) (n1 : σ'.1 (u + 4) p = nI (w + 1)) (n2 : τ'.1 92 (10 + p) = nI (w + 1)) (n3 : σ'.1 (u + 5) (3 * p + w) = nI o) (n4 : τ'.1 93 (30 + (3 * p + w)) = nI o) : rT σ' τ' u A Pt M := by
  obtain ⟨h1, h2, h3, h4', h5, h6, h7, h8, h9, h10, h11, h12⟩ := h
  refine ⟨h1, h2, h3, by rw [cf _ _ (by omega) (by omega) (by omega) (by omega)]; exact h4', by rw [mf _ _ (by omega) (by omega) (by omega) (by omega)]; exact h5, by rw [cf _ _ (by omega) (by omega) (by omega) (by omega)]; exact h6, by rw [mf _ _ (by omega) (by omega) (by omega) (by omega)]; exact h7, by rw [cf _ _ (by omega) (by omega) (by omega) (by omega)]; exact h8, by rw [mf _ _ (by omega) (by omega) (by omega) (by omega)]; exact h9, fun q hq => ?_, fun k hk => ?_, fun m hk => by rw [cf _ _ (by omega) (by omega) (by omega) (by omega), mf _ _ (by omega) (by omega) (by omega) (by omega)]; exact h12 m hk⟩
  · obtain ⟨a1, a2, a3, a4, v, a5, a6, a7⟩ := h10 q hq
    refine ⟨by rw [cf _ _ (by omega) (by omega) (by omega) (by omega), mf _ _ (by omega) (by omega) (by omega) (by omega)]; exact a1, by rw [cf _ _ (by omega) (by omega) (by omega) (by omega), mf _ _ (by omega) (by omega) (by omega) (by omega)]; exact a2, by rw [cf _ _ (by omega) (by omega) (by omega) (by omega), mf _ _ (by omega) (by omega) (by omega) (by omega)]; exact a3, ?_⟩
    by_cases e : q = p
    · subst e
      have ev : v = w := nI_inj (by omega) (by omega) (a6.symm.trans h4)
      subst ev
      refine ⟨n1.trans n2.symm, v + 1, by omega, n1, fun x hx => ?_⟩
      by_cases e2 : x = v
      · subst e2
        exact ⟨n3.trans n4.symm, o, ho, n3⟩
      · rw [cf _ _ (by omega) (by omega) (by omega) (by omega), mf _ _ (by omega) (by omega) (by omega) (by omega)]
        exact a7 x (by omega)
    · refine ⟨by rw [cf _ _ (by omega) (by omega) (by omega) (by omega), mf _ _ (by omega) (by omega) (by omega) (by omega)]; exact a4, v, a5, by rw [cf _ _ (by omega) (by omega) (by omega) (by omega)]; exact a6, fun x hx => ?_⟩
      rw [cf _ _ (by omega) (by omega) (by omega) (by omega), mf _ _ (by omega) (by omega) (by omega) (by omega)]
      exact a7 x hx
  · obtain ⟨a1, a2, a3, a4, a5, a6⟩ := h11 k hk
    refine ⟨by rw [cf _ _ (by omega) (by omega) (by omega) (by omega), mf _ _ (by omega) (by omega) (by omega) (by omega)]; exact a1, by rw [cf _ _ (by omega) (by omega) (by omega) (by omega), mf _ _ (by omega) (by omega) (by omega) (by omega)]; exact a2, by rw [cf _ _ (by omega) (by omega) (by omega) (by omega), mf _ _ (by omega) (by omega) (by omega) (by omega)]; exact a3, by rw [cf _ _ (by omega) (by omega) (by omega) (by omega)]; exact a4, by rw [cf _ _ (by omega) (by omega) (by omega) (by omega)]; exact a5, by rw [cf _ _ (by omega) (by omega) (by omega) (by omega)]; exact a6⟩
/-- what comes of a piece of a line whose reference ends by itself -/
def HB (C M : jR) (σ τ : jS) (u : Nat) (B : Nat → Nat) (Ln : Nat) (Q : jS → Nat → Prop) : Prop :=
  (∃ σ' τ' T' A Pt M' W, C = some (some (.int 1), σ') ∧ M = some (none, τ') ∧ jep (lcS u) σ σ' ∧ jep lmS τ τ' ∧ lS σ' τ' u B Ln T' A Pt M' W ∧ τ'.1 86 17 = τ.1 86 17 ∧ Q σ' A) ∨
  (∃ σ' τ' k pl, C = some (some (.int 0), σ') ∧ M = some (none, τ') ∧ jep (lcS u) σ σ' ∧ jep lmS τ τ' ∧ 1 ≤ k ∧ k ≤ 5 ∧ rdF σ' k pl ∧ mdF τ' k pl)
theorem HB.lb {C M : jR} {σ τ : jS} {u Ln dm : Nat} {B : Nat → Nat} {Q : jS → Nat → Prop} (h : HB C M σ τ u B Ln Q) : LB C ((r_V M).bind fun σ1 => b_M_line_14 dm σ1) σ τ u B Ln dm := by
  rcases h with ⟨σ', τ', T', A, Pt, M', W, h1, h2, h3, h4, h5, h6, -⟩ | ⟨σ', τ', k, pl, h1, h2, h3, h4, h5, h6, h7, h8⟩
  · subst h2; exact Or.inl ⟨σ', τ', T', A, Pt, M', W, h1, rfl, h3, h4, h5, h6⟩
  · subst h2; exact LB.bad14 h1 rfl h3 h4 ⟨h5, h6⟩ h7 h8
theorem HB.bad {C M : jR} {σ τ σ' τ' : jS} {u Ln k pl : Nat} {B : Nat → Nat} {Q : jS → Nat → Prop} (h1 : C = some (some (.int 0), σ')) (h2 : M = some (none, τ')) (h3 : jep rd_S σ σ') (h4 : jep md_S τ τ') (hk : 1 ≤ k ∧ k ≤ 5) (h5 : rdF σ' k pl) (h6 : mdF τ' k pl) : HB C M σ τ u B Ln Q := Or.inr ⟨σ', τ', k, pl, h1, h2, h3.mono (fun b j => rd_lc), h4.mono (fun b j => md_lm), hk.1, hk.2, h5, h6⟩
