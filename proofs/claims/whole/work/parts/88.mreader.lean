/-! The reader: its small steps, the reference's. -/
theorem nxt_e {B : Nat → Nat} {Ln p : Nat} {T : Tok} (hp : p ≤ Ln) (h : nxt B Ln p T) : T.2.2.1 ≤ Ln := by
  obtain ⟨h0, h⟩ := h
  have hs := skp_r B (Ln - p) p
  rcases h with ⟨-, -, h⟩ | ⟨h1, -, h, -⟩ | ⟨h1, -, h, -⟩ | ⟨h1, -, -, -, h⟩
  · omega
  · have := run_r B 97 122 (Ln - T.2.1) T.2.1; omega
  · have := run_r B 48 57 (Ln - T.2.1) T.2.1; omega
  · rw [h]; exact (sgO_le h1).1
/-- the reference reads, and no fault so far -/
def mdS (σ : jS) (B : Nat → Nat) (Ln : Nat) (T : Tok) : Prop := MY σ B Ln T.2.2.1 ∧ (T.2.2.1 ≤ Ln ∧ σ.1 86 24 = -1) ∧ σ.1 86 20 = nI T.2.1 ∧ mR T.1 T.2.2.2 (σ.1 86 21) (σ.1 86 22) ∧ σ.1 86 23 = 0
def mdF (σ : jS) (k pl : Nat) : Prop := σ.1 86 23 = nI k ∧ σ.1 86 24 = nI pl
def md_S : Nat → Nat → Prop := fun b j => b = 86 ∧ 19 ≤ j ∧ j ≤ 24
theorem m_wrong (d : Nat) {Ln : Nat} {B : Nat → Nat} {T : Tok} (k : Nat) (σ : jS) (h : mdS σ B Ln T) : ∃ σ', g_M_wrong (d + 1) (nI k) σ = some (none, σ') ∧ jep md_S σ σ' ∧ mdF σ' k T.2.1 := by
  rw [e_M_wrong, q_M_wrong_0, jif_t h.2.2.2.2, q_M_wrong_1, setI_nk (by decide), h.2.2.1]
  exact ⟨_, rfl, (jep.rf.sI ⟨rfl, by omega, by omega⟩).sI ⟨rfl, by omega, by omega⟩, by rw [setI_nk (by decide), setI_same], setI_same _ _ _ _⟩
theorem m_wrongF (d : Nat) (x : Int32) (σ : jS) (h : ¬ σ.1 86 23 = 0) : g_M_wrong (d + 1) x σ = some (none, σ) := by
  rw [e_M_wrong, q_M_wrong_0, jif_f h]
theorem mdF.ne {σ : jS} {k pl : Nat} (h : mdF σ k pl) (hk : 1 ≤ k) (hk5 : k ≤ 5) : ¬ σ.1 86 23 = 0 := by
  rw [h.1]
  exact fun z => by have := nI_inj (b := 0) (by omega) (by omega) z; omega
theorem m_tok (d : Nat) {Ln : Nat} {B : Nat → Nat} {T T' : Tok} (σ : jS) (h : mdS σ B Ln T) (hn : nxt B Ln T.2.2.1 T') : ∃ σ', g_M_token (d + 3) σ = some (none, σ') ∧ jep mtk σ σ' ∧ mdS σ' B Ln T' := by
  obtain ⟨h1, h2, h3, h4, h5⟩ := h
  obtain ⟨σ', q1, q2, q3, q4, q5⟩ := m_token d σ h2.1 h1 hn
  exact ⟨σ', q1, q2, q3, ⟨nxt_e h2.1 hn, by rw [(q2 86 24 (fun q => by have := q.2.2; omega)).1]; exact h2.2⟩, q4, q5, by rw [(q2 86 23 (fun q => by have := q.2.2; omega)).1]; exact h5⟩
theorem m_goOn (d : Nat) {Ln : Nat} {B : Nat → Nat} {T T' : Tok} (σ : jS) (h : mdS σ B Ln T) (hn : nxt B Ln T.2.2.1 T') : ∃ σ', g_M_goOn (d + 4) σ = some (none, σ') ∧ jep mtk σ σ' ∧ mdS σ' B Ln T' := by
  obtain ⟨σ', q1, q2, q3⟩ := m_tok d σ h hn
  rw [e_M_goOn, q_M_goOn_0, jif_t h.2.2.2.2, q1, rV_s]
  simp only [Option.bind_some]
  rw [q_M_goOn_1]
  exact ⟨σ', rfl, q2, q3⟩
theorem m_goOnF (d : Nat) (σ : jS) (h : ¬ σ.1 86 23 = 0) : g_M_goOn (d + 1) σ = some (none, σ) := by
  rw [e_M_goOn, q_M_goOn_0, jif_f h, q_M_goOn_1]
theorem cw_inj : ∀ a, a < 16 → ∀ b, b < 16 → cw a = cw b → a = b := by decide +kernel
theorem sgs_r : ∀ k, k < 300 → k ∈ sgs → 37 ≤ k ∧ k ≤ 62 := by decide +kernel
theorem m_isWord (d : Nat) {Ln : Nat} {B : Nat → Nat} {T : Tok} (i : Nat) (hi : i < 16) (σ : jS) (h : mdS σ B Ln T) : g_M_isWord (d + 1) (nI i) σ = some (some (.int (b2i (T.1 = cw i))), σ) := by
  obtain ⟨-, -, -, hR, h23⟩ := h
  have hc := cw_lt i hi
  rw [e_M_isWord, q_M_isWord_0, jif_t h23]
  by_cases e : T.1 = cw i
  · have : σ.1 86 21 = 0 ∧ σ.1 86 22 = nI i := by
      rcases hR with h | ⟨j, j1, j2, j3, j4⟩ | h | h | h | ⟨h, -⟩
      · omega
      · rw [cw_inj i hi j j1 (e.symm.trans j2)]; exact ⟨j3, j4⟩
      · omega
      · omega
      · omega
      · rcases h with h | h
        · rw [e] at h; have := sgs_r (cw i) (by omega) h; omega
        · omega
    rw [jif_t this.1, jif_t this.2, q_M_isWord_2, b2i_t e]
    rfl
  · have : σ.1 86 21 = 0 → ¬ σ.1 86 22 = nI i := fun z z2 => by
      rcases hR with h | ⟨j, j1, j2, j3, j4⟩ | h | h | h | ⟨-, h, -⟩
      · exact absurd (z.symm.trans h.2) (by decide)
      · exact e (by rw [j2, nI_inj (by omega) (by omega) (j4.symm.trans z2)])
      · exact absurd (z.symm.trans h.2.1) (by decide)
      · exact absurd (z.symm.trans h.2.1) (by decide)
      · exact absurd (z.symm.trans h.2) (by decide)
      · exact absurd (z.symm.trans h) (by decide)
    rw [b2i_f e]
    by_cases z : σ.1 86 21 = 0
    · rw [jif_t z, jif_f (this z), q_M_isWord_1, q_M_isWord_2]; rfl
    · rw [jif_f z, q_M_isWord_1, q_M_isWord_2]; rfl
theorem m_isWordF (d : Nat) (x : Int32) (σ : jS) (h : ¬ σ.1 86 23 = 0) : g_M_isWord (d + 1) x σ = some (some (.int 0), σ) := by
  rw [e_M_isWord, q_M_isWord_0, jif_f h, q_M_isWord_1, q_M_isWord_2]; rfl
theorem m_isSign (d : Nat) {Ln : Nat} {B : Nat → Nat} {T : Tok} (c : Nat) (hc : c ∈ sgs ∨ (256 ≤ c ∧ c ≤ 258)) (hc3 : c < 300) (hK : T.1 < 300) (σ : jS) (h : mdS σ B Ln T) : g_M_isSign (d + 1) (nI c) σ = some (some (.int (b2i (T.1 = c))), σ) := by
  obtain ⟨-, -, -, hR, h23⟩ := h
  have hcr : 37 ≤ c := by
    rcases hc with h | h
    · exact (sgs_r c hc3 h).1
    · omega
  rw [e_M_isSign, q_M_isSign_0, jif_t h23]
  by_cases e : T.1 = c
  · have : σ.1 86 21 = 3 ∧ σ.1 86 22 = nI c := by
      rcases hR with h | ⟨j, j1, j2, j3, j4⟩ | h | h | h | ⟨h, h3, h4⟩
      · omega
      · have := cw_lt j j1; omega
      · omega
      · omega
      · omega
      · exact ⟨h3, by rw [h4, e]⟩
    rw [jif_t this.1, jif_t this.2, q_M_isSign_2, b2i_t e]
    rfl
  · have : σ.1 86 21 = 3 → ¬ σ.1 86 22 = nI c := fun z z2 => by
      rcases hR with h | ⟨j, j1, j2, j3, j4⟩ | h | h | h | ⟨-, h, h4⟩
      · exact absurd (z.symm.trans h.2) (by decide)
      · exact absurd (z.symm.trans j3) (by decide)
      · exact absurd (z.symm.trans h.2.1) (by decide)
      · exact absurd (z.symm.trans h.2.1) (by decide)
      · exact absurd (z.symm.trans h.2) (by decide)
      · exact e (nI_inj (by omega) (by omega) (h4.symm.trans z2))
    rw [b2i_f e]
    by_cases z : σ.1 86 21 = 3
    · rw [jif_t z, jif_f (this z), q_M_isSign_1, q_M_isSign_2]; rfl
    · rw [jif_f z, q_M_isSign_1, q_M_isSign_2]; rfl
theorem m_isSignF (d : Nat) (x : Int32) (σ : jS) (h : ¬ σ.1 86 23 = 0) : g_M_isSign (d + 1) x σ = some (some (.int 0), σ) := by
  rw [e_M_isSign, q_M_isSign_0, jif_f h, q_M_isSign_1, q_M_isSign_2]; rfl
