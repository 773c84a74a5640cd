/-! Calls with a row: the beginnings; arrives. -/
def opI (C M : jS → jR) (σ : jS) : Prop := ∃ (r : Int32) (σ1 σ2 : jS) (t : Nat), C σ = some (some (.int r), σ1) ∧ M σ1 = some (some (.int r), σ2) ∧ jInv σ2 t
def opL (C M : jS → jR) (σ : jS) : Prop := ∃ (r : Int64) (σ1 σ2 : jS) (t : Nat), C σ = some (some (.long r), σ1) ∧ M σ1 = some (some (.long r), σ2) ∧ jInv σ2 t
theorem jInv.A {σ : jS} {t : Nat} (g : jInv σ t) : ∃ A, A ≤ 10 ∧ σ.1 t 0 = nI A ∧ σ.1 88 0 = nI A ∧ (∀ p, p < A → σ.1 90 p = σ.1 (t + 2) p) := by
  obtain ⟨ht, r2, r3, hT, hF, A, Pt, M, N, hte, -⟩ := g
  exact ⟨A, hte.1, hte.2.2.2.1, hte.2.2.2.2.1, fun p hp => (hte.2.2.2.2.2.2.2.2.2.2.1 p hp).2.1.symm⟩
theorem ct_scr {t : Nat} (ht : jTe t) {b j : Nat} (h : ct_S b j) : jScr t b j := by
  rcases h with rfl | ⟨rfl, rfl⟩ <;> rcases ht with rfl | rfl <;> simp [jScr]
theorem mt_scr {t : Nat} (ht : jTe t) {b j : Nat} (h : mt_S b j) : jScr t b j := by
  rcases h with rfl | ⟨rfl, rfl⟩ <;> rcases ht with rfl | rfl <;> simp [jScr]
theorem ms_scr {t : Nat} (ht : jTe t) {b j : Nat} (h : ms_S b j) : jScr t b j := by
  rcases h with rfl | rfl | rfl | ⟨rfl, rfl⟩ <;> rcases ht with rfl | rfl <;> simp [jScr]
theorem la_scr {t : Nat} {b j : Nat} (h : la_S t b) : jScr t b j := by
  rcases h with h | h
  · exact Or.inl h
  · exact Or.inr (Or.inl h)
/-- the row's numbers are people -/
theorem rowOK.r {N A : Nat} {n : Int32} (h : rowOK N n A) : ∃ k, 2 ≤ k ∧ k ≤ 10 ∧ n = nI k ∧ ∀ j, j < k → nib N j < A := by
  obtain ⟨k, a, b, c, e⟩ := h
  exact ⟨k, a, b, c, e.1⟩
theorem c_isRow (d : Nat) {t N A : Nat} (ht : jTe t) (n : Int32) (hN : N < 2 ^ 64) (hA : A ≤ 10) (σ : jS) (r2 : σ.2.2 0 2 = t) (hA0 : σ.1 t 0 = nI A) :
    ∃ σ1, g_HH_isRow (d + 3) n (lN N) σ = some (some (.int (b2i (rowOK N n A))), σ1) ∧ jep ct_S σ σ1 ∧ (rowOK N n A → ∃ k, n = nI k ∧ cRow σ1 k (nib N)) := by
  rw [e_HH_isRow, q_HH_isRow_0, r2, (te_is ht).1, jc_t, hA0]
  obtain ⟨σ1, g1, g2, g3⟩ := c_take d N A n hN (by omega) σ
  rw [g1, rI_s]
  simp only [Option.bind_some]
  rw [if_pos (b2i_01 _)]
  refine ⟨σ1, rfl, g2, fun q => ?_⟩
  obtain ⟨k, k1, k2, k3, k4⟩ := q.r
  obtain ⟨p1, p2⟩ := g3 k (by omega) k3 q
  exact ⟨k, k3, k1, k2, p2, fun j hj => ⟨p1 j hj, by have := k4 j hj; omega⟩⟩
theorem c_isSent (d : Nat) {t N A : Nat} (ht : jTe t) (n coins : Int32) (hN : N < 2 ^ 64) (hA : A ≤ 10) (σ : jS) (r2 : σ.2.2 0 2 = t) (hA0 : σ.1 t 0 = nI A) :
    ∃ σ1, g_HH_isSent (d + 4) n (lN N) coins σ = some (some (.int (b2i (rowOK N n A ∧ 0 ≤ coins ∧ coins ≤ 999999))), σ1) ∧ jep ct_S σ σ1 ∧ (rowOK N n A → ∃ k, n = nI k ∧ cRow σ1 k (nib N)) := by
  rw [e_HH_isSent, q_HH_isSent_0]
  obtain ⟨σ1, g1, g2, g3⟩ := c_isRow d ht n hN hA σ r2 hA0
  rw [g1, rI_s]
  simp only [Option.bind_some]
  refine ⟨σ1, ?_, g2, g3⟩
  by_cases h : rowOK N n A
  · rw [b2i_t h, jif_f (by decide), c_within, rI_s]
    simp only [Option.bind_some]
    by_cases hc : 0 ≤ coins ∧ coins ≤ 999999
    · rw [if_pos hc, jif_f (by decide), q_HH_isSent_2, b2i_t ⟨h, hc⟩]; rfl
    · rw [if_neg hc, jif_t rfl, q_HH_isSent_1, q_HH_isSent_2, b2i_f (fun q => hc q.2)]; rfl
  · rw [b2i_f h, jif_t rfl, q_HH_isSent_1, q_HH_isSent_2, b2i_f (fun q => h q.1)]; rfl
theorem m_plain (d : Nat) (σ : jS) : g_M_plain (d + 1) σ = some (none, j_setI (j_setI (j_setI σ 86 30 (-1)) 86 31 (-1)) 86 32 0) := by
  rw [e_M_plain, q_M_plain_0]
def mp_S : Nat → Nat → Prop := fun b j => b = 86 ∧ (j = 0 ∨ j = 30 ∨ j = 31 ∨ j = 32)
theorem mp_scr {t : Nat} (ht : jTe t) {b j : Nat} (h : mp_S b j) : jScr t b j := by
  obtain ⟨rfl, h⟩ := h
  rcases h with rfl | rfl | rfl | rfl <;> rcases ht with rfl | rfl <;> simp [jScr]
/-- the reference's thrown, and plain -/
theorem m_plain0 (d : Nat) (σ : jS) : ∃ σ', g_M_plain (d + 1) (j_setI σ 86 0 0) = some (none, σ') ∧ jep mp_S σ σ' ∧ σ'.1 86 30 = -1 ∧ σ'.1 86 32 = nI 0 := by
  rw [m_plain]
  refine ⟨_, rfl, ?_, ?_, ?_⟩
  · refine jep.sI (jep.sI (jep.sI (jep.sI jep.rf ?_) ?_) ?_) ?_
    · exact ⟨rfl, by omega⟩
    · exact ⟨rfl, by omega⟩
    · exact ⟨rfl, by omega⟩
    · exact ⟨rfl, by omega⟩
  · simp [setI_get]
  · simp [setI_get]
    rfl
theorem m_takesSent (d : Nat) {N A : Nat} (n coins : Int32) (hN : N < 2 ^ 64) (hA : A ≤ 10) (σ : jS) (h88 : σ.1 88 0 = nI A) :
    ∃ σ1, g_M_takesSent (d + 3) n (lN N) coins σ = some (some (.int (b2i (rowOK N n A ∧ 0 ≤ coins ∧ coins ≤ 999999))), σ1) ∧ jep mt_S σ σ1 ∧ (rowOK N n A ∧ 0 ≤ coins ∧ coins ≤ 999999 → ∃ k, n = nI k ∧ mRow σ1 k (nib N)) := by
  rw [e_M_takesSent, q_M_takesSent_0]
  by_cases h0 : coins < 0
  · rw [jif_t h0, q_M_takesSent_1, q_M_takesSent_2, b2i_f (fun q => Int32.not_le.mpr h0 q.2.1)]
    exact ⟨σ, rfl, jep.rf, fun q => absurd q.2.1 (Int32.not_le.mpr h0)⟩
  · rw [jif_f h0]
    by_cases h1 : 999999 < coins
    · rw [jif_t h1, q_M_takesSent_1, q_M_takesSent_2, b2i_f (fun q => Int32.not_le.mpr h1 q.2.2)]
      exact ⟨σ, rfl, jep.rf, fun q => absurd q.2.2 (Int32.not_le.mpr h1)⟩
    · rw [jif_f h1]
      obtain ⟨σ1, g1, g2, g3⟩ := m_takes d N A n hN hA σ h88
      rw [g1, rI_s]
      simp only [Option.bind_some]
      refine ⟨σ1, ?_, g2, fun q => ?_⟩
      · by_cases h : rowOK N n A
        · rw [b2i_t h, jif_f (by decide), q_M_takesSent_2, b2i_t ⟨h, Int32.not_lt.mp h0, Int32.not_lt.mp h1⟩]; rfl
        · rw [b2i_f h, jif_t rfl, q_M_takesSent_1, q_M_takesSent_2, b2i_f (fun q => h q.1)]; rfl
      · obtain ⟨k, k1, k2, k3, k4⟩ := q.1.r
        obtain ⟨p1, p2⟩ := g3 k (by omega) k3 q.1
        exact ⟨k, k3, k1, k2, p2, fun j hj => ⟨p1 j hj, by have := k4 j hj; omega⟩⟩
