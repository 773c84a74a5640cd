/-! 25: note. -/
def nAdd (σ : jS) (S : Nat) (n : Int32) (c : Int64) (co lo hi : Int32) : jS := j_setI (j_setI (j_setI (j_setI (j_setI (j_setL (j_setI σ 79 S n) 80 S c) 81 S co) 82 S lo) 83 S hi) 84 S (-1)) 78 0 (nI (S + 1))
def nAddM (σ : jS) (S : Nat) (n : Int32) (c : Int64) (co lo hi : Int32) : jS := j_setI (j_setI (j_setI (j_setI (j_setL (j_setI σ 117 S n) 118 S c) 119 S co) 120 S lo) 121 S hi) 86 69 (nI (S + 1))
theorem c_nAdd (d S : Nat) (hS : S < 40) (n : Int32) (c : Int64) (co lo hi : Int32) (σ : jS) (h : σ.1 78 0 = nI S) : g_Nt_add (d + 1) n c co lo hi σ = some (some (.int (nI S)), nAdd σ S n c co lo hi) := by
  rw [e_Nt_add, q_Nt_add_0, h, jif_t (show nI S < (40 : Int32) from nI_lt (b := 40) (by omega) (by omega)), q_Nt_add_1, h, wrI_ok (a := 79) (n := 40) rfl rfl hS (by omega)]
  simp only [Option.bind_some]
  have e1 : (j_setI σ 79 S n).1 78 0 = nI S := by rw [setI_ne (by omega)]; exact h
  rw [e1, wrL_ok (a := 80) (n := 40) rfl rfl hS (by omega)]
  simp only [Option.bind_some]
  have e2 : (j_setL (j_setI σ 79 S n) 80 S c).1 78 0 = nI S := e1
  rw [e2, wrI_ok (a := 81) (n := 40) rfl rfl hS (by omega)]
  simp only [Option.bind_some]
  have e3 : (j_setI (j_setL (j_setI σ 79 S n) 80 S c) 81 S co).1 78 0 = nI S := by rw [setI_ne (by omega)]; exact e2
  rw [e3, wrI_ok (a := 82) (n := 40) rfl rfl hS (by omega)]
  simp only [Option.bind_some]
  have e4 : (j_setI (j_setI (j_setL (j_setI σ 79 S n) 80 S c) 81 S co) 82 S lo).1 78 0 = nI S := by rw [setI_ne (by omega)]; exact e3
  rw [e4, wrI_ok (a := 83) (n := 40) rfl rfl hS (by omega)]
  simp only [Option.bind_some]
  have e5 : (j_setI (j_setI (j_setI (j_setL (j_setI σ 79 S n) 80 S c) 81 S co) 82 S lo) 83 S hi).1 78 0 = nI S := by rw [setI_ne (by omega)]; exact e4
  rw [e5, wrI_ok (a := 84) (n := 40) rfl rfl hS (by omega)]
  simp only [Option.bind_some]
  have e6 : (j_setI (j_setI (j_setI (j_setI (j_setL (j_setI σ 79 S n) 80 S c) 81 S co) 82 S lo) 83 S hi) 84 S (-1)).1 78 0 = nI S := by rw [setI_ne (by omega)]; exact e5
  rw [e6, nI_1, setI_same, nI_pred]
  rfl
theorem m_nAdd (d S : Nat) (hS : S < 40) (n : Int32) (c : Int64) (co lo hi : Int32) (σ : jS) (h : σ.1 86 69 = nI S) : b_M_note_2 d n c co lo hi σ = some (some (.int (nI S)), nAddM σ S n c co lo hi) := by
  rw [q_M_note_2, h, wrI_ok (a := 117) (n := 40) rfl rfl hS (by omega)]
  simp only [Option.bind_some]
  have e1 : (j_setI σ 117 S n).1 86 69 = nI S := by rw [setI_ne (by omega)]; exact h
  rw [e1, wrL_ok (a := 118) (n := 40) rfl rfl hS (by omega)]
  simp only [Option.bind_some]
  have e2 : (j_setL (j_setI σ 117 S n) 118 S c).1 86 69 = nI S := e1
  rw [e2, wrI_ok (a := 119) (n := 40) rfl rfl hS (by omega)]
  simp only [Option.bind_some]
  have e3 : (j_setI (j_setL (j_setI σ 117 S n) 118 S c) 119 S co).1 86 69 = nI S := by rw [setI_ne (by omega)]; exact e2
  rw [e3, wrI_ok (a := 120) (n := 40) rfl rfl hS (by omega)]
  simp only [Option.bind_some]
  have e4 : (j_setI (j_setI (j_setL (j_setI σ 117 S n) 118 S c) 119 S co) 120 S lo).1 86 69 = nI S := by rw [setI_ne (by omega)]; exact e3
  rw [e4, wrI_ok (a := 121) (n := 40) rfl rfl hS (by omega)]
  simp only [Option.bind_some]
  have e5 : (j_setI (j_setI (j_setI (j_setL (j_setI σ 117 S n) 118 S c) 119 S co) 120 S lo) 121 S hi).1 86 69 = nI S := by rw [setI_ne (by omega)]; exact e4
  rw [e5, nI_1, setI_same, nI_pred]
  rfl
def noP (N A S : Nat) (n coins lo hi : Int32) : Prop := (rowOK N n A ∧ 0 ≤ coins ∧ coins ≤ 999999) ∧ 0 ≤ lo ∧ lo ≤ hi ∧ hi ≤ 999999 ∧ S < 40
theorem op_note (d : Nat) (n coins lo hi : Int32) (code : Int64) (σ : jS) (t : Nat) (g : jInv σ t) : opI (g_HH_note (d + 5) n code coins lo hi) (g_M_note (d + 5) n code coins lo hi) σ := by
  obtain ⟨N, hN, rfl⟩ := wb_of code
  have ht := g.1
  obtain ⟨A, hA, a1, a2, a3⟩ := g.A
  obtain ⟨S, s1, s2, s3⟩ := g.S
  obtain ⟨σ1, c1, c2, c3⟩ := c_isSent d ht n coins hN hA σ g.2.1 a1
  have b78 : σ1.1 78 0 = nI S := by rw [(c2 78 0 (fun q => by rcases q with q | q <;> omega)).1]; exact s2
  have hc : g_HH_note (d + 5) n (lN N) coins lo hi σ = @ite _ (noP N A S n coins lo hi) (Classical.propDecidable _) (some (some (.int (nI S)), nAdd σ1 S n (lN N) coins lo hi)) (some (some (.int (-1)), σ1)) := by
    rw [e_HH_note, q_HH_note_0, c1, rI_s]
    simp only [Option.bind_some]
    by_cases h1 : rowOK N n A ∧ 0 ≤ coins ∧ coins ≤ 999999
    · rw [b2i_t h1, jif_f (by decide), c_within, rI_s]
      simp only [Option.bind_some]
      by_cases h2 : 0 ≤ lo ∧ lo ≤ hi
      · rw [if_pos h2, jif_f (by decide), c_within, rI_s]
        simp only [Option.bind_some]
        by_cases h3 : lo ≤ hi ∧ hi ≤ 999999
        · rw [if_pos h3, jif_f (by decide), q_HH_note_2]
          by_cases h4 : S < 40
          · rw [c_nAdd (d + 3) S h4 n (lN N) coins lo hi σ1 b78, rI_s, if_pos ⟨h1, h2.1, h2.2, h3.2, h4⟩]
            rfl
          · rw [e_Nt_add, q_Nt_add_0, b78, jif_f (show ¬ nI S < (40 : Int32) from nI_nlt (b := 40) (by omega) (by omega)), rI_s, if_neg (fun q => h4 q.2.2.2.2)]
            rfl
        · rw [if_neg h3, jif_t rfl, q_HH_note_1, if_neg (fun q => h3 ⟨q.2.2.1, q.2.2.2.1⟩)]
      · rw [if_neg h2, jif_t rfl, q_HH_note_1, if_neg (fun q => h2 ⟨q.2.1, q.2.2.1⟩)]
    · rw [b2i_f h1, jif_t rfl, q_HH_note_1, if_neg (fun q => h1 q.1)]
  have hm : ∀ τ : jS, τ.1 88 0 = nI A → τ.1 86 69 = nI S → ∃ τ1, jep mt_S (j_setI τ 86 0 0) τ1 ∧ g_M_note (d + 5) n (lN N) coins lo hi τ = @ite _ (noP N A S n coins lo hi) (Classical.propDecidable _) (some (some (.int (nI S)), nAddM τ1 S n (lN N) coins lo hi)) (some (some (.int (-1)), τ1)) := by
    intro τ h88 h69
    obtain ⟨τ1, t1, t2, t3⟩ := m_takesSent (d + 1) n coins hN hA (j_setI τ 86 0 0) (by rw [setI_ne (by omega)]; exact h88)
    have b69 : τ1.1 86 69 = nI S := by rw [(t2 86 69 (fun q => by rcases q with q | q <;> omega)).1, setI_nk (by omega)]; exact h69
    refine ⟨τ1, t2, ?_⟩
    rw [e_M_note, q_M_note_0, t1, rI_s]
    simp only [Option.bind_some]
    rw [b69, q_M_note_1]
    by_cases h1 : rowOK N n A ∧ 0 ≤ coins ∧ coins ≤ 999999
    · rw [b2i_t h1, jif_f (by decide)]
      by_cases h2 : lo < 0
      · rw [jif_t h2, if_neg (fun q => Int32.not_le.mpr h2 q.2.1)]
      · rw [jif_f h2]
        by_cases h3 : hi < lo
        · rw [jif_t h3, if_neg (fun q => Int32.not_le.mpr h3 q.2.2.1)]
        · rw [jif_f h3]
          by_cases h4 : 999999 < hi
          · rw [jif_t h4, if_neg (fun q => Int32.not_le.mpr h4 q.2.2.2.1)]
          · rw [jif_f h4]
            by_cases h5 : S < 40
            · rw [jif_f (fun z => by have := nI_inj (b := 40) (by omega) (by omega) z; omega), m_nAdd (d + 4) S h5 n (lN N) coins lo hi τ1 b69, if_pos ⟨h1, Int32.not_lt.mp h2, Int32.not_lt.mp h3, Int32.not_lt.mp h4, h5⟩]
            · have h40 : S = 40 := by omega
              rw [jif_t (show nI S = (40 : Int32) by rw [h40]; rfl), if_neg (fun q => h5 q.2.2.2.2)]
    · rw [b2i_f h1, jif_t rfl, if_neg (fun q => h1 q.1)]
  have fr1 : jep (fun b j => jScr t b j ∨ noteP b j) σ σ1 := c2.mono (fun b j q => Or.inl (ct_scr ht q))
  by_cases h : noP N A S n coins lo hi
  · have e88 : (nAdd σ1 S n (lN N) coins lo hi).1 88 0 = nI A := by
      have : (nAdd σ1 S n (lN N) coins lo hi).1 88 0 = σ1.1 88 0 := by simp [nAdd, setI_get, setL_I]
      rw [this, (c2 88 0 (fun q => by rcases q with q | q <;> omega)).1]; exact a2
    have e69 : (nAdd σ1 S n (lN N) coins lo hi).1 86 69 = nI S := by
      have : (nAdd σ1 S n (lN N) coins lo hi).1 86 69 = σ1.1 86 69 := by simp [nAdd, setI_get, setL_I]
      rw [this, (c2 86 69 (fun q => by rcases q with q | q <;> omega)).1]; exact s3
    obtain ⟨τ1, t1, t2⟩ := hm _ e88 e69
    refine ⟨nI S, _, _, t, by show g_HH_note (d + 5) n (lN N) coins lo hi σ = _; rw [hc, if_pos h], by show g_M_note (d + 5) n (lN N) coins lo hi _ = _; rw [t2, if_pos h], ?_⟩
    have fr2 : jep (fun b j => jScr t b j ∨ noteP b j) σ (nAdd σ1 S n (lN N) coins lo hi) := by
      refine jep.sI (jep.sI (jep.sI (jep.sI (jep.sI (jep.sL (jep.sI fr1 ?_) ?_) ?_) ?_) ?_) ?_) ?_ <;> exact Or.inr (Or.inl ⟨by omega, by omega⟩)
    have fr3 : jep (fun b j => jScr t b j ∨ noteP b j) σ τ1 := (fr2.sI (Or.inl (m0_scr ht ⟨rfl, rfl⟩))).tr (t1.mono (fun b j q => Or.inl (mt_scr ht q)))
    have fr4 : jep (fun b j => jScr t b j ∨ noteP b j) σ (nAddM τ1 S n (lN N) coins lo hi) := by
      refine jep.sI (jep.sI (jep.sI (jep.sI (jep.sL (jep.sI fr3 ?_) ?_) ?_) ?_) ?_) ?_
      · exact Or.inr (Or.inr (Or.inl ⟨by omega, by omega⟩))
      · exact Or.inr (Or.inr (Or.inl ⟨by omega, by omega⟩))
      · exact Or.inr (Or.inr (Or.inl ⟨by omega, by omega⟩))
      · exact Or.inr (Or.inr (Or.inl ⟨by omega, by omega⟩))
      · exact Or.inr (Or.inr (Or.inl ⟨by omega, by omega⟩))
      · exact Or.inr (Or.inr (Or.inr ⟨rfl, Or.inl rfl⟩))
    refine g.note fr4 (fun A' hA' ea hno => ?_)
    have eA : A' = A := nI_inj (by omega) (by omega) (ea.symm.trans a1)
    subst eA
    obtain ⟨S', u1, u2, u3, u4, u5, u6⟩ := hno
    have eS : S' = S := nI_inj (by omega) (by omega) (u2.symm.trans s2)
    subst eS
    have h40 := h.2.2.2.2
    have w1 : ∀ b j, b ≠ 114 → b ≠ 86 → τ1.1 b j = (nAdd σ1 S' n (lN N) coins lo hi).1 b j := fun b j h1 h2 => by
      rw [(t1 b j (fun q => by rcases q with q | q <;> omega)).1, setI_ne h2]
    have w2 : ∀ b j, b ≠ 114 → b ≠ 86 → τ1.2.1 b j = (nAdd σ1 S' n (lN N) coins lo hi).2.1 b j := fun b j h1 h2 => (t1 b j (fun q => by rcases q with q | q <;> omega)).2.1
    have w3 : ∀ b j, b ≠ 69 → b ≠ 70 → σ1.1 b j = σ.1 b j := fun b j h1 h2 => (c2 b j (fun q => by rcases q with q | q <;> omega)).1
    have w4 : ∀ b j, b ≠ 69 → b ≠ 70 → σ1.2.1 b j = σ.2.1 b j := fun b j h1 h2 => (c2 b j (fun q => by rcases q with q | q <;> omega)).2.1
    have f1 : ∀ b i, i ≠ S' → b ≠ 86 → b ≠ 114 → b ≠ 69 → b ≠ 70 → (b ≠ 78 ∨ i ≠ 0) → (nAddM τ1 S' n (lN N) coins lo hi).1 b i = σ.1 b i := fun b i h1 h2 h3 h4 h5 h6 => by
      have e1 : (nAddM τ1 S' n (lN N) coins lo hi).1 b i = τ1.1 b i := by simp [nAddM, setI_get, setL_I, h1, h2]
      have h7 : ¬ (b = 78 ∧ i = 0) := fun q => h6.elim (fun z => z q.1) (fun z => z q.2)
      have e2 : (nAdd σ1 S' n (lN N) coins lo hi).1 b i = σ1.1 b i := by simp [nAdd, setI_get, setL_I, h1, h7]
      rw [e1, w1 b i h3 h2, e2, w3 b i h4 h5]
    have f2 : ∀ b i, i ≠ S' → b ≠ 86 → b ≠ 114 → b ≠ 69 → b ≠ 70 → (nAddM τ1 S' n (lN N) coins lo hi).2.1 b i = σ.2.1 b i := fun b i h1 h2 h3 h4 h5 => by
      have e1 : (nAddM τ1 S' n (lN N) coins lo hi).2.1 b i = τ1.2.1 b i := by
        show (if b = 118 ∧ i = S' then lN N else τ1.2.1 b i) = _
        rw [if_neg (fun q => h1 q.2)]
      have e2 : (nAdd σ1 S' n (lN N) coins lo hi).2.1 b i = σ1.2.1 b i := by
        show (if b = 80 ∧ i = S' then lN N else σ1.2.1 b i) = _
        rw [if_neg (fun q => h1 q.2)]
      rw [e1, w2 b i h3 h2, e2, w4 b i h4 h5]
    have c78 : (nAddM τ1 S' n (lN N) coins lo hi).1 78 0 = nI (S' + 1) := by
      have e1 : (nAddM τ1 S' n (lN N) coins lo hi).1 78 0 = τ1.1 78 0 := by simp [nAddM, setI_get, setL_I]
      rw [e1, w1 78 0 (by omega) (by omega)]
      exact setI_same _ _ _ _
    have c781 : (nAddM τ1 S' n (lN N) coins lo hi).1 78 1 = σ.1 78 1 := by
      have e1 : (nAddM τ1 S' n (lN N) coins lo hi).1 78 1 = τ1.1 78 1 := by simp [nAddM, setI_get, setL_I]
      have e2 : (nAdd σ1 S' n (lN N) coins lo hi).1 78 1 = σ1.1 78 1 := by simp [nAdd, setI_get, setL_I]
      rw [e1, w1 78 1 (by omega) (by omega), e2, w3 78 1 (by omega) (by omega)]
    have c8670 : (nAddM τ1 S' n (lN N) coins lo hi).1 86 70 = σ.1 86 70 := by
      have e1 : (nAddM τ1 S' n (lN N) coins lo hi).1 86 70 = τ1.1 86 70 := by simp [nAddM, setI_get, setL_I]
      have e2 : (nAdd σ1 S' n (lN N) coins lo hi).1 86 70 = σ1.1 86 70 := by simp [nAdd, setI_get, setL_I]
      rw [e1, (t1 86 70 (fun q => by rcases q with q | q <;> omega)).1, setI_nk (by omega), e2, w3 86 70 (by omega) (by omega)]
    refine ⟨S' + 1, by omega, c78, setI_same _ _ _ _, by rw [c781, c8670]; exact u4, ?_, fun i hii => ?_⟩
    · rw [c781]
      rcases u5 with u5 | ⟨q', u7, u8⟩
      · exact Or.inl u5
      · exact Or.inr ⟨q', by omega, u8⟩
    · rcases (show i < S' ∨ i = S' by omega) with hlt | rfl
      · rw [f1 79 i (by omega) (by omega) (by omega) (by omega) (by omega) (by omega), f1 81 i (by omega) (by omega) (by omega) (by omega) (by omega) (by omega), f1 82 i (by omega) (by omega) (by omega) (by omega) (by omega) (by omega), f1 83 i (by omega) (by omega) (by omega) (by omega) (by omega) (by omega), f1 84 i (by omega) (by omega) (by omega) (by omega) (by omega) (by omega), f1 117 i (by omega) (by omega) (by omega) (by omega) (by omega) (by omega), f1 119 i (by omega) (by omega) (by omega) (by omega) (by omega) (by omega), f1 120 i (by omega) (by omega) (by omega) (by omega) (by omega) (by omega), f1 121 i (by omega) (by omega) (by omega) (by omega) (by omega) (by omega), f2 80 i (by omega) (by omega) (by omega) (by omega) (by omega), f2 118 i (by omega) (by omega) (by omega) (by omega) (by omega)]
        exact u6 i hlt
      · left
        have hv : ∀ b, 79 ≤ b → b ≤ 84 → (nAddM τ1 i n (lN N) coins lo hi).1 b i = (nAdd σ1 i n (lN N) coins lo hi).1 b i := fun b h1 h2 => by
          have e1 : (nAddM τ1 i n (lN N) coins lo hi).1 b i = τ1.1 b i := by
            have q1 : ¬ b = 86 := by omega
            have q2 : ¬ b = 117 := by omega
            have q3 : ¬ b = 119 := by omega
            have q4 : ¬ b = 120 := by omega
            have q5 : ¬ b = 121 := by omega
            simp [nAddM, setI_get, setL_I, q1, q2, q3, q4, q5]
          rw [e1, w1 b i (by omega) (by omega)]
        have hvL : (nAddM τ1 i n (lN N) coins lo hi).2.1 80 i = lN N := by
          have e1 : (nAddM τ1 i n (lN N) coins lo hi).2.1 80 i = τ1.2.1 80 i := by
            show (if (80 : Nat) = 118 ∧ i = i then lN N else τ1.2.1 80 i) = _
            rw [if_neg (by omega)]
          rw [e1, w2 80 i (by omega) (by omega)]
          show (if (80 : Nat) = 80 ∧ i = i then lN N else σ1.2.1 80 i) = _
          rw [if_pos ⟨rfl, rfl⟩]
        have hvM : (nAddM τ1 i n (lN N) coins lo hi).2.1 118 i = lN N := by
          show (if (118 : Nat) = 118 ∧ i = i then lN N else τ1.2.1 118 i) = _
          rw [if_pos ⟨rfl, rfl⟩]
        rw [hv 79 (by omega) (by omega), hv 81 (by omega) (by omega), hv 82 (by omega) (by omega), hv 83 (by omega) (by omega), hv 84 (by omega) (by omega), hvL, hvM]
        refine ⟨?_, ?_, rfl, ?_, ?_, ?_, N, hN, rfl, ?_⟩
        · simp [nAdd, setI_get, setL_I]
        · simp [nAdd, nAddM, setI_get, setL_I]
        · simp [nAdd, nAddM, setI_get, setL_I]
        · simp [nAdd, nAddM, setI_get, setL_I]
        · simp [nAdd, nAddM, setI_get, setL_I]
        · have e79 : (nAdd σ1 i n (lN N) coins lo hi).1 79 i = n := by simp [nAdd, setI_get, setL_I]
          rw [e79]
          exact h.1.1
  · have e88 : σ1.1 88 0 = nI A := by rw [(c2 88 0 (fun q => by rcases q with q | q <;> omega)).1]; exact a2
    have e69 : σ1.1 86 69 = nI S := by rw [(c2 86 69 (fun q => by rcases q with q | q <;> omega)).1]; exact s3
    obtain ⟨τ1, t1, t2⟩ := hm σ1 e88 e69
    refine ⟨-1, σ1, τ1, t, by show g_HH_note (d + 5) n (lN N) coins lo hi σ = _; rw [hc, if_neg h], by show g_M_note (d + 5) n (lN N) coins lo hi _ = _; rw [t2, if_neg h], ?_⟩
    exact ((g.scr (c2.mono (fun b j q => ct_scr ht q))).th 0).scr (t1.mono (fun b j q => mt_scr ht q))
