/-! Lines: what is told so far, class and reference side by side. -/
def hlf (b : Nat) : Nat := [4, 10, 10, 10, 10, 30, 12, 12, 12, 4, 5, 5, 64, 64].getD (b - 88) 0
/-- what the reading of lines writes -/
def lcS (u : Nat) : Nat → Nat → Prop := fun b j => rd_S b j ∨ (u ≤ b ∧ b ≤ u + 14)
def lmS : Nat → Nat → Prop := fun b j => (b = 86 ∧ 17 ≤ j ∧ j ≤ 29 ∧ j ≠ 25 ∧ j ≠ 26) ∨ (88 ≤ b ∧ b ≤ 101 ∧ hlf b ≤ j)
theorem lm_in {b j : Nat} (h1 : 88 ≤ b) (h2 : b ≤ 101) (h3 : hlf b ≤ j) : lmS b j := Or.inr ⟨h1, h2, h3⟩
theorem rd_lc {u b j : Nat} (h : rd_S b j) : lcS u b j := Or.inl h
theorem ta_lc {u b j : Nat} (h : ta37 b j) : lcS u b j := Or.inl (Or.inl h)
theorem md_lm {b j : Nat} (h : md_S b j) : lmS b j := Or.inl ⟨h.1, by have := h.2; omega, by have := h.2; omega, by have := h.2; omega, by have := h.2; omega⟩
theorem tk_lm {b j : Nat} (h : mtk b j) : lmS b j := Or.inl ⟨h.1, by have := h.2; omega, by have := h.2; omega, by have := h.2; omega, by have := h.2; omega⟩
theorem xc_lc {u W b j : Nat} (h : xcS u W b j) : lcS u b j := by
  rcases h with h | h | h | h
  · exact Or.inl h
  · exact Or.inr (by omega)
  · exact Or.inr (by omega)
  · exact Or.inr (by omega)
theorem xm_lm {W b j : Nat} (h : xmS W b j) : lmS b j := by
  rcases h with ⟨rfl, h⟩ | ⟨rfl, rfl⟩ | ⟨rfl, h⟩ | ⟨rfl, h⟩
  · exact Or.inl ⟨rfl, by omega, by omega, by omega, by omega⟩
  · exact lm_in (by omega) (by omega) (show 4 ≤ 7 by omega)
  · exact lm_in (by omega) (by omega) (show 64 ≤ j by omega)
  · exact lm_in (by omega) (by omega) (show 64 ≤ j by omega)
def rP (σ τ : jS) (u A p : Nat) : Prop := σ.1 (u + 1) p = τ.1 89 (10 + p) ∧ σ.1 (u + 2) p = τ.1 90 (10 + p) ∧ σ.1 (u + 3) p = τ.1 91 (10 + p) ∧ σ.1 (u + 4) p = τ.1 92 (10 + p) ∧ ∃ w, w ≤ 3 ∧ σ.1 (u + 4) p = nI w ∧ ∀ x, x < w → σ.1 (u + 5) (3 * p + x) = τ.1 93 (30 + (3 * p + x)) ∧ ∃ q, q < A ∧ σ.1 (u + 5) (3 * p + x) = nI q
def rQ (σ τ : jS) (u A k : Nat) : Prop := σ.1 (u + 6) k = τ.1 94 (12 + k) ∧ σ.1 (u + 7) k = τ.1 95 (12 + k) ∧ σ.1 (u + 8) k = τ.1 96 (12 + k) ∧ (∃ f, f < A ∧ σ.1 (u + 6) k = nI f) ∧ (∃ w, 1 ≤ w ∧ w ≤ 99999 ∧ σ.1 (u + 7) k = nI w) ∧ ∃ h, h ≤ 3000 ∧ σ.1 (u + 8) k = nI h
/-- people, parcels, the names of may -/
def rT (σ τ : jS) (u A Pt M : Nat) : Prop := A ≤ 10 ∧ Pt ≤ 12 ∧ M ≤ 4 ∧ σ.1 u 0 = nI A ∧ τ.1 88 4 = nI A ∧ σ.1 u 6 = nI Pt ∧ τ.1 88 5 = nI Pt ∧ σ.1 u 10 = nI M ∧ τ.1 88 6 = nI M ∧ (∀ p, p < A → rP σ τ u A p) ∧ (∀ k, k < Pt → rQ σ τ u A k) ∧ ∀ m, m < M → σ.1 (u + 9) m = τ.1 97 (4 + m)
def lawU (σ τ : jS) (u L Ls W : Nat) : Prop := ∃ s e, s < e ∧ e ≤ W ∧ σ.1 (u + 13) L = nI s ∧ σ.1 (u + 14) L = nI e ∧ τ.1 98 (5 + Ls) = nI s ∧ τ.1 99 (5 + Ls) = nI e ∧ wf_r (σ.1 (u + 11)) (e - s) s 0 = some 1
/-- the law and the may -/
def rLw (σ τ : jS) (u M W : Nat) : Prop := W ≤ 64 ∧ σ.1 (u + 10) 0 = nI W ∧ τ.1 86 28 = nI W ∧ σ.1 (u + 10) 2 = nI W ∧ τ.1 88 7 = nI W ∧ τ.1 86 27 = nI 0 ∧ (∀ j, j < W → tokR (σ.1 (u + 11) j) (σ.1 (u + 12) j) (τ.1 100 (64 + j)) (τ.1 101 (64 + j))) ∧
  ((σ.1 (u + 10) 1 = 0 ∧ τ.1 86 29 = 0 ∧ τ.1 98 5 = 0 ∧ τ.1 99 5 = 0) ∨ (σ.1 (u + 10) 1 = 1 ∧ τ.1 86 29 = 1 ∧ lawU σ τ u 4 0 W)) ∧ ∀ m, m < M → lawU σ τ u m (1 + m) W
theorem rT.fr {σ σ' τ τ' : jS} {u A Pt M : Nat} (h : rT σ τ u A Pt M) (hc : ∀ b j, u ≤ b → b ≤ u + 9 → σ'.1 b j = σ.1 b j) (hm : ∀ b j, 88 ≤ b → b ≤ 97 → ¬ (b = 88 ∧ j = 7) → τ'.1 b j = τ.1 b j) : rT σ' τ' u A Pt M := by
  obtain ⟨h1, h2, h3, h4, h5, h6, h7, h8, h9, h10, h11, h12⟩ := h
  refine ⟨h1, h2, h3, by rw [hc _ _ (by omega) (by omega)]; exact h4, by rw [hm _ _ (by omega) (by omega) (by omega)]; exact h5, by rw [hc _ _ (by omega) (by omega)]; exact h6, by rw [hm _ _ (by omega) (by omega) (by omega)]; exact h7, by rw [hc _ _ (by omega) (by omega)]; exact h8, by rw [hm _ _ (by omega) (by omega) (by omega)]; exact h9, fun p hp => ?_, fun k hk => ?_, fun m hk => by rw [hc _ _ (by omega) (by omega), hm _ _ (by omega) (by omega) (by omega)]; exact h12 m hk⟩
  · obtain ⟨a1, a2, a3, a4, w, a5, a6, a7⟩ := h10 p hp
    refine ⟨by rw [hc _ _ (by omega) (by omega), hm _ _ (by omega) (by omega) (by omega)]; exact a1, by rw [hc _ _ (by omega) (by omega), hm _ _ (by omega) (by omega) (by omega)]; exact a2, by rw [hc _ _ (by omega) (by omega), hm _ _ (by omega) (by omega) (by omega)]; exact a3, by rw [hc _ _ (by omega) (by omega), hm _ _ (by omega) (by omega) (by omega)]; exact a4, w, a5, by rw [hc _ _ (by omega) (by omega)]; exact a6, fun x hx => ?_⟩
    rw [hc _ _ (by omega) (by omega), hm _ _ (by omega) (by omega) (by omega)]; exact a7 x hx
  · obtain ⟨a1, a2, a3, a4, a5, a6⟩ := h11 k hk
    refine ⟨by rw [hc _ _ (by omega) (by omega), hm _ _ (by omega) (by omega) (by omega)]; exact a1, by rw [hc _ _ (by omega) (by omega), hm _ _ (by omega) (by omega) (by omega)]; exact a2, by rw [hc _ _ (by omega) (by omega), hm _ _ (by omega) (by omega) (by omega)]; exact a3, by rw [hc _ _ (by omega) (by omega)]; exact a4, by rw [hc _ _ (by omega) (by omega)]; exact a5, by rw [hc _ _ (by omega) (by omega)]; exact a6⟩
theorem lawU.fr {σ σ' τ τ' : jS} {u L Ls W : Nat} (h : lawU σ τ u L Ls W) (h13 : σ'.1 (u + 13) L = σ.1 (u + 13) L) (h14 : σ'.1 (u + 14) L = σ.1 (u + 14) L) (h98 : τ'.1 98 (5 + Ls) = τ.1 98 (5 + Ls)) (h99 : τ'.1 99 (5 + Ls) = τ.1 99 (5 + Ls)) (h11 : ∀ j, j < W → σ'.1 (u + 11) j = σ.1 (u + 11) j) : lawU σ' τ' u L Ls W := by
  obtain ⟨s, e, a1, a2, a3, a4, a5, a6, a7⟩ := h
  refine ⟨s, e, a1, a2, by rw [h13]; exact a3, by rw [h14]; exact a4, by rw [h98]; exact a5, by rw [h99]; exact a6, ?_⟩
  rw [wf_cg (ll := σ.1 (u + 11)) _ _ _ (fun j j1 j2 => h11 j (by omega))]; exact a7
theorem rLw.fr {σ σ' τ τ' : jS} {u M W : Nat} (h : rLw σ τ u M W) (hc : ∀ b j, u + 10 ≤ b → b ≤ u + 14 → σ'.1 b j = σ.1 b j) (hm : ∀ b j, (98 ≤ b ∧ b ≤ 101) ∨ (b = 88 ∧ j = 7) ∨ (b = 86 ∧ 27 ≤ j ∧ j ≤ 29) → τ'.1 b j = τ.1 b j) : rLw σ' τ' u M W := by
  obtain ⟨h1, h2, h3, h4, h5, h6, h7, h8, h9⟩ := h
  have lu : ∀ {L Ls}, lawU σ τ u L Ls W → lawU σ' τ' u L Ls W := fun g => g.fr (hc _ _ (by omega) (by omega)) (hc _ _ (by omega) (by omega)) (hm _ _ (by omega)) (hm _ _ (by omega)) (fun j _ => hc _ _ (by omega) (by omega))
  refine ⟨h1, by rw [hc _ _ (by omega) (by omega)]; exact h2, by rw [hm _ _ (by omega)]; exact h3, by rw [hc _ _ (by omega) (by omega)]; exact h4, by rw [hm _ _ (by omega)]; exact h5, by rw [hm _ _ (by omega)]; exact h6, fun j hj => ?_, ?_, fun m hm' => lu (h9 m hm')⟩
  · rw [hc _ _ (by omega) (by omega), hc _ _ (by omega) (by omega), hm _ _ (by omega), hm _ _ (by omega)]; exact h7 j hj
  · rw [hc _ _ (by omega) (by omega), hm 86 29 (by omega), hm 98 5 (by omega), hm 99 5 (by omega)]
    exact h8.imp id (fun g => ⟨g.1, g.2.1, lu g.2.2⟩)
/-- both read lines, at the same token -/
def lS (σ τ : jS) (u : Nat) (B : Nat → Nat) (Ln : Nat) (T : Tok) (A Pt M W : Nat) : Prop := rdS σ u B Ln T ∧ mdS τ B Ln T ∧ rT σ τ u A Pt M ∧ rLw σ τ u M W
/-- a token further -/
theorem lS.adv {σ σ' τ τ' : jS} {u Ln A Pt M W : Nat} {B : Nat → Nat} {T T' : Tok} (hu : jTe u) (h : lS σ τ u B Ln T A Pt M W) (c1 : jep rd_S σ σ') (c2 : rdS σ' u B Ln T') (m1 : jep mtk τ τ') (m2 : mdS τ' B Ln T') : lS σ' τ' u B Ln T' A Pt M W := by
  have hr := te_r hu
  have fc : ∀ b j, u ≤ b → b ≤ u + 14 → σ'.1 b j = σ.1 b j := fun b j q1 q2 => (c1 b j (fun z => by unfold rd_S at z; omega)).1
  have fm : ∀ b j, ¬ (b = 86 ∧ 19 ≤ j ∧ j ≤ 22) → τ'.1 b j = τ.1 b j := fun b j q => (m1 b j q).1
  exact ⟨c2, m2, h.2.2.1.fr (fun b j q1 q2 => fc b j q1 (by omega)) (fun b j q1 q2 _ => fm b j (by omega)), h.2.2.2.fr (fun b j q1 q2 => fc b j (by omega) q2) (fun b j q => fm b j (by omega))⟩
theorem ta_rd {σ σ' : jS} (h : jep ta37 σ σ') : jep rd_S σ σ' := h.mono (fun b j q => Or.inl q)
/-- the body of a line: on to its ';', or the same fault -/
def LB (C M : jR) (σ τ : jS) (u : Nat) (B : Nat → Nat) (Ln dm : Nat) : Prop :=
  (∃ σ' τ' T' A Pt M' W, C = some (some (.int 1), σ') ∧ M = b_M_line_14 dm τ' ∧ jep (lcS u) σ σ' ∧ jep lmS τ τ' ∧ lS σ' τ' u B Ln T' A Pt M' W ∧ τ'.1 86 17 = τ.1 86 17) ∨
  (∃ σ' τ' k pl, C = some (some (.int 0), σ') ∧ M = some (none, τ') ∧ jep (lcS u) σ σ' ∧ jep lmS τ τ' ∧ 1 ≤ k ∧ k ≤ 5 ∧ rdF σ' k pl ∧ mdF τ' k pl)
theorem LB.bad {C M : jR} {σ τ σ' τ' : jS} {u Ln dm k pl : Nat} {B : Nat → Nat} (h1 : C = some (some (.int 0), σ')) (h2 : M = some (none, τ')) (h3 : jep (lcS u) σ σ') (h4 : jep lmS τ τ') (hk : 1 ≤ k ∧ k ≤ 5) (h5 : rdF σ' k pl) (h6 : mdF τ' k pl) : LB C M σ τ u B Ln dm := Or.inr ⟨σ', τ', k, pl, h1, h2, h3, h4, hk.1, hk.2, h5, h6⟩
/-- a fault behind which the reference goes on to the line's end -/
theorem LB.bad14 {C M : jR} {σ τ σ' τ' : jS} {u Ln dm k pl : Nat} {B : Nat → Nat} (h1 : C = some (some (.int 0), σ')) (h2 : M = b_M_line_14 dm τ') (h3 : jep (lcS u) σ σ') (h4 : jep lmS τ τ') (hk : 1 ≤ k ∧ k ≤ 5) (h5 : rdF σ' k pl) (h6 : mdF τ' k pl) : LB C M σ τ u B Ln dm := by
  refine LB.bad h1 ?_ h3 h4 hk h5 h6
  rw [h2, q_M_line_14, jif_f (h6.ne hk.1 hk.2)]
theorem rdF.fr {σ σ' : jS} {k pl : Nat} (h : rdF σ k pl) (e : ∀ j, j ≤ 1 → σ'.1 36 j = σ.1 36 j) : rdF σ' k pl := ⟨by rw [e 0 (by omega)]; exact h.1, by rw [e 1 (by omega)]; exact h.2⟩
theorem mdF.fr {σ σ' : jS} {k pl : Nat} (h : mdF σ k pl) (e : ∀ j, 23 ≤ j → j ≤ 24 → σ'.1 86 j = σ.1 86 j) : mdF σ' k pl := ⟨by rw [e 23 (by omega) (by omega)]; exact h.1, by rw [e 24 (by omega) (by omega)]; exact h.2⟩
