/-! The reader: its small steps, the class's. -/
abbrev Tok := Nat × Nat × Nat × Int32
/-- the token behind place p -/
def nxt (B : Nat → Nat) (Ln p : Nat) (T : Tok) : Prop := tkC B Ln p T.1 T.2.1 T.2.2.1 T.2.2.2
theorem wdL_le {V : Nat} : ∀ (n i k : Nat), i + n ≤ 16 → k ≤ 16 → wdL V n i k ≤ 16
  | 0, _, _, _, h => h
  | n + 1, i, k, h1, h => by
    unfold wdL
    by_cases q : jWd i = V
    · rw [if_pos q]; exact wdL_le n (i + 1) i (by omega) (by omega)
    · rw [if_neg q]; exact wdL_le n (i + 1) k (by omega) h
theorem sgO_1 {c pl : Nat} {s0 : Int32} (hc : c < 256) : (sgO c s0 pl).1 ≤ 258 := by
  unfold sgO
  by_cases h1 : c = 60 ∧ s0 = 61
  · rw [if_pos h1]; show 256 ≤ 258; omega
  · rw [if_neg h1]
    by_cases h2 : c = 60 ∧ s0 = 62
    · rw [if_pos h2]; show 257 ≤ 258; omega
    · rw [if_neg h2]
      by_cases h3 : c = 62 ∧ s0 = 61
      · rw [if_pos h3]; exact Nat.le_refl _
      · rw [if_neg h3]
        show sgK c ≤ 258
        unfold sgK
        by_cases q : c ∈ sgs
        · rw [if_pos q]; omega
        · rw [if_neg q]; omega
theorem nxt_K {B : Nat → Nat} {Ln p : Nat} {T : Tok} (hB : ∀ i, i < Ln → B i < 256) (h : nxt B Ln p T) : T.1 ≤ 258 := by
  obtain ⟨-, h⟩ := h
  rcases h with ⟨-, h, -⟩ | ⟨-, -, -, h⟩ | ⟨-, -, -, h, -⟩ | ⟨h1, -, -, h, -⟩
  · omega
  · rcases h with ⟨-, h⟩ | ⟨-, -, h⟩
    · omega
    · rw [h]; have := wdL_le (V := pkN B (T.2.2.1 - T.2.1) T.2.1 0 * 2 ^ (5 * (6 - (T.2.2.1 - T.2.1)))) 16 0 16 (by omega) (by omega); omega
  · omega
  · rw [h]; exact sgO_1 (hB _ h1)
/-- the class reads, and no fault so far; B (Ln + 1), which is no byte, is a place that is passed already -/
def rdS (σ : jS) (u : Nat) (B : Nat → Nat) (Ln : Nat) (T : Tok) : Prop := tkS σ B Ln T.1 T.2.1 T.2.2.1 T.2.2.2 ∧ T.1 ≤ 258 ∧ σ.2.2 36 3 = u ∧ σ.1 36 0 = nI 0 ∧ σ.1 36 1 = -1 ∧ B (Ln + 1) ≤ T.2.2.1
/-- a fault, and where -/
def rdF (σ : jS) (k pl : Nat) : Prop := σ.1 36 0 = nI k ∧ σ.1 36 1 = nI pl
def rd_S : Nat → Nat → Prop := fun b j => (b = 37 ∧ j ≤ 3) ∨ (b = 36 ∧ (j = 0 ∨ j = 1 ∨ j = 4))
theorem c_fails (d : Nat) {u Ln : Nat} {B : Nat → Nat} {T : Tok} (k : Nat) (σ : jS) (h : rdS σ u B Ln T) : ∃ σ', g_Rd_fails (d + 1) (nI k) σ = some (some (.int 0), σ') ∧ jep rd_S σ σ' ∧ rdF σ' k T.2.1 := by
  rw [e_Rd_fails, q_Rd_fails_0, setI_ne (by decide), h.1.2.2.2.2.1]
  exact ⟨_, rfl, (jep.rf.sI (Or.inr ⟨rfl, by omega⟩)).sI (Or.inr ⟨rfl, by omega⟩), by rw [setI_nk (by decide), setI_same], setI_same _ _ _ _⟩
theorem c_adv (d : Nat) {u Ln : Nat} {B : Nat → Nat} {T : Tok} (σ : jS) (h : rdS σ u B Ln T) : ∃ σ' T', g_Tk_advance (d + 2) σ = some (none, σ') ∧ jep ta37 σ σ' ∧ nxt B Ln T.2.2.1 T' ∧ rdS σ' u B Ln T' := by
  obtain ⟨⟨h1, h2, h3, h4, h5, h6, h7, h8, h9⟩, -, hu, h0, hn, hg⟩ := h
  obtain ⟨σ', K, pl, e, v, q1, q2, q3, q4⟩ := c_advance d σ h8 h1 h2 h3 h6
  refine ⟨σ', (K, pl, e, v), q1, q2, q3, q4, nxt_K (fun i hi => (h1.2 i hi).2) (T := (K, pl, e, v)) q3, ?_, ?_, ?_, ?_⟩
  · rw [(q2 36 3 (fun q => by have := q.1; omega)).2.2]; exact hu
  · rw [(q2 36 0 (fun q => by have := q.1; omega)).1]; exact h0
  · rw [(q2 36 1 (fun q => by have := q.1; omega)).1]; exact hn
  · have z1 := q4.2.2.2.2.2.2.2.2
    have z2 := skp_r B (Ln - T.2.2.1) T.2.2.1
    have z3 : pl = skp B (Ln - T.2.2.1) T.2.2.1 := q3.1
    show B (Ln + 1) ≤ e
    omega
theorem rdS.K {σ : jS} {u Ln : Nat} {B : Nat → Nat} {T : Tok} (h : rdS σ u B Ln T) {k : Nat} (hk : k < 300) : (σ.1 37 0 = nI k) ↔ T.1 = k := by
  rw [h.1.2.2.2.1]
  have := h.2.1
  exact nI_eq (by omega) (by omega)
theorem c_passes (d : Nat) {u Ln : Nat} {B : Nat → Nat} {T : Tok} (k : Nat) (hk : k < 300) (σ : jS) (h : rdS σ u B Ln T) :
    (T.1 = k → ∃ σ' T', g_Rd_passes (d + 3) (nI k) σ = some (some (.int 1), σ') ∧ jep rd_S σ σ' ∧ nxt B Ln T.2.2.1 T' ∧ rdS σ' u B Ln T') ∧ (T.1 ≠ k → ∃ σ', g_Rd_passes (d + 3) (nI k) σ = some (some (.int 0), σ') ∧ jep rd_S σ σ' ∧ rdF σ' 1 T.2.1) := by
  rw [e_Rd_passes, q_Rd_passes_0]
  refine ⟨fun e => ?_, fun e => ?_⟩
  · rw [jif_t ((h.K hk).mpr e), q_Rd_passes_1]
    obtain ⟨σ', T', q1, q2, q3, q4⟩ := c_adv d σ h
    rw [q1, rV_s]
    exact ⟨σ', T', rfl, q2.mono (fun b j h => Or.inl h), q3, q4⟩
  · obtain ⟨σ', q1, q2, q3⟩ := c_fails (d + 1) 1 σ h
    rw [jif_f (fun z => e ((h.K hk).mp z)), show g_Rd_fails (d + 2) 1 σ = _ from q1, rI_s]
    exact ⟨σ', rfl, q2, q3⟩
theorem c_newName (d : Nat) {u Ln : Nat} {B : Nat → Nat} {T : Tok} (w : Int32) (σ : jS) (h : rdS σ u B Ln T) :
    (T.1 = 16 → w = -1 → ∃ σ' T', g_Rd_newName (d + 3) w σ = some (some (.int 1), σ') ∧ jep rd_S σ σ' ∧ nxt B Ln T.2.2.1 T' ∧ rdS σ' u B Ln T') ∧ (T.1 ≠ 16 → ∃ σ', g_Rd_newName (d + 3) w σ = some (some (.int 0), σ') ∧ jep rd_S σ σ' ∧ rdF σ' 1 T.2.1) ∧ (T.1 = 16 → w ≠ -1 → ∃ σ', g_Rd_newName (d + 3) w σ = some (some (.int 0), σ') ∧ jep rd_S σ σ' ∧ rdF σ' 3 T.2.1) := by
  have hK : (σ.1 37 0 = 16) ↔ T.1 = 16 := h.K (k := 16) (by omega)
  rw [e_Rd_newName, q_Rd_newName_0]
  refine ⟨fun e ew => ?_, fun e => ?_, fun e ew => ?_⟩
  · rw [jif_t (hK.mpr e), q_Rd_newName_1, jif_t ew, q_Rd_newName_2]
    obtain ⟨σ', T', q1, q2, q3, q4⟩ := c_adv d σ h
    rw [q1, rV_s]
    exact ⟨σ', T', rfl, q2.mono (fun b j h => Or.inl h), q3, q4⟩
  · obtain ⟨σ', q1, q2, q3⟩ := c_fails (d + 1) 1 σ h
    rw [jif_f (fun z => e (hK.mp z)), show g_Rd_fails (d + 2) 1 σ = _ from q1, rI_s]
    exact ⟨σ', rfl, q2, q3⟩
  · obtain ⟨σ', q1, q2, q3⟩ := c_fails (d + 1) 3 σ h
    rw [jif_t (hK.mpr e), q_Rd_newName_1, jif_f ew, show g_Rd_fails (d + 2) 3 σ = _ from q1, rI_s]
    exact ⟨σ', rfl, q2, q3⟩
theorem c_readNumber (d : Nat) {u Ln : Nat} {B : Nat → Nat} {T : Tok} (lo hi : Int32) (σ : jS) (h : rdS σ u B Ln T) :
    (T.1 = 17 → lo ≤ T.2.2.2 ∧ T.2.2.2 ≤ hi → ∃ σ' T', g_Rd_readNumber (d + 3) lo hi σ = some (some (.int 1), σ') ∧ jep rd_S σ σ' ∧ nxt B Ln T.2.2.1 T' ∧ rdS σ' u B Ln T' ∧ σ'.1 36 4 = T.2.2.2) ∧ (T.1 ≠ 17 → ∃ σ', g_Rd_readNumber (d + 3) lo hi σ = some (some (.int 0), σ') ∧ jep rd_S σ σ' ∧ rdF σ' 1 T.2.1) ∧ (T.1 = 17 → ¬ (lo ≤ T.2.2.2 ∧ T.2.2.2 ≤ hi) → ∃ σ', g_Rd_readNumber (d + 3) lo hi σ = some (some (.int 0), σ') ∧ jep rd_S σ σ' ∧ rdF σ' 2 T.2.1) := by
  have hK : (σ.1 37 0 = 17) ↔ T.1 = 17 := h.K (k := 17) (by omega)
  have hv : σ.1 37 2 = T.2.2.2 := h.1.2.2.2.2.2.2.1
  rw [e_Rd_readNumber, q_Rd_readNumber_0]
  refine ⟨fun e ew => ?_, fun e => ?_, fun e ew => ?_⟩
  · rw [jif_t (hK.mpr e), q_Rd_readNumber_1, c_within, rI_s]
    simp only [Option.bind_some]
    rw [hv, if_pos ew, jif_f (by decide), q_Rd_readNumber_2, hv]
    have h' : rdS (j_setI σ 36 4 T.2.2.2) u B Ln T := by
      obtain ⟨⟨h1, h2, h3, h4, h5, h6, h7, h8, h9⟩, hk, hu, h0, hn⟩ := h
      exact ⟨⟨⟨h1.1, fun i hi => by rw [setI_ne (by decide)]; exact h1.2 i hi⟩, fun i hi => by rw [setI_ne (by decide)]; exact h2 i hi, by rw [setI_ne (by decide)]; exact h3, by rw [setI_ne (by decide)]; exact h4, by rw [setI_ne (by decide)]; exact h5, by rw [setI_ne (by decide)]; exact h6, by rw [setI_ne (by decide)]; exact h7, h8, h9⟩, hk, hu, by rw [setI_nk (by decide)]; exact h0, by rw [setI_nk (by decide)]; exact hn⟩
    obtain ⟨σ', T', q1, q2, q3, q4⟩ := c_adv d (j_setI σ 36 4 T.2.2.2) h'
    rw [q1, rV_s]
    refine ⟨σ', T', rfl, (jep.rf.sI (S := rd_S) (Or.inr ⟨rfl, by omega⟩)).tr (q2.mono (fun b j h => Or.inl h)), q3, q4, ?_⟩
    rw [(q2 36 4 (fun q => by have := q.1; omega)).1, setI_same]
  · obtain ⟨σ', q1, q2, q3⟩ := c_fails (d + 1) 1 σ h
    rw [jif_f (fun z => e (hK.mp z)), show g_Rd_fails (d + 2) 1 σ = _ from q1, rI_s]
    exact ⟨σ', rfl, q2, q3⟩
  · obtain ⟨σ', q1, q2, q3⟩ := c_fails (d + 1) 2 σ h
    rw [jif_t (hK.mpr e), q_Rd_readNumber_1, c_within, rI_s]
    simp only [Option.bind_some]
    rw [hv, if_neg ew, jif_t rfl, show g_Rd_fails (d + 2) 2 σ = _ from q1, rI_s]
    exact ⟨σ', rfl, q2, q3⟩
