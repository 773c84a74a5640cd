/-! 26: strike. -/
theorem le_pred {n : Int32} {S : Nat} (hS : S < 2 ^ 30) : n ≤ nI S - 1 ↔ n < nI S := by
  have e : (nI S - 1).toInt = (S : Int) - 1 := pk_sub_toInt (b := 1) hS (by omega)
  rw [Int32.le_iff_toInt_le, Int32.lt_iff_toInt_lt, e, nI_toInt (by omega)]
  omega
theorem op_strike (d : Nat) (n : Int32) (σ : jS) (t : Nat) (g : jInv σ t) : opI (g_HH_strike (d + 2) n) (g_M_strike (d + 2) n) σ := by
  obtain ⟨S, s1, s2, s3⟩ := g.S
  by_cases h : (0 ≤ n ∧ n < nI S) ∧ S < 40
  · obtain ⟨⟨h0, h1⟩, h2⟩ := h
    obtain ⟨q, hq, rfl⟩ : ∃ q, q < S ∧ n = nI q := by
      obtain ⟨j, hj, rfl⟩ := nI_of (x := n) (Int32.not_lt.mpr h0)
      exact ⟨j, (nI_ltI hj (by omega)).mp h1, rfl⟩
    have hc : g_HH_strike (d + 2) (nI q) σ = some (some (.int (nI S)), j_setI (j_setI σ 84 S (nI q)) 78 0 (nI (S + 1))) := by
      rw [e_HH_strike, q_HH_strike_0, s2, c_within, rI_s]
      simp only [Option.bind_some]
      rw [if_pos ⟨h0, (le_pred (by omega)).mpr h1⟩, jif_f (by decide), e_Nt_addStrike, q_Nt_addStrike_0, s2, jif_t (show nI S < (40 : Int32) from nI_lt (b := 40) (by omega) (by omega)), q_Nt_addStrike_1, s2, wrI_ok (a := 84) (n := 40) rfl rfl (by omega) (by omega)]
      simp only [Option.bind_some]
      rw [setI_ne (b := 78) (a := 84) (by omega), s2, nI_1, setI_same, nI_pred, rI_s]
      simp only [Option.bind_some]
      rw [q_HH_strike_2]
    have hm : ∀ τ : jS, τ.1 86 69 = nI S → g_M_strike (d + 2) (nI q) τ = some (some (.int (nI S)), j_setI (j_setI (j_setI (j_setI τ 86 0 0) 117 S (-1)) 119 S (nI q)) 86 69 (nI (S + 1))) := by
      intro τ hτ
      rw [e_M_strike, q_M_strike_0, setI_nk (by omega), hτ, jif_f (Int32.not_lt.mpr h0), jif_f (Int32.not_le.mpr h1), jif_f (fun z => by have := nI_inj (b := 40) (by omega) (by omega) z; omega), q_M_strike_2, setI_nk (by omega), hτ, wrI_ok (a := 117) (n := 40) rfl rfl (by omega) (by omega)]
      simp only [Option.bind_some]
      rw [setI_ne (b := 86) (a := 117) (by omega), setI_nk (by omega), hτ, wrI_ok (a := 119) (n := 40) rfl rfl (by omega) (by omega)]
      simp only [Option.bind_some]
      have e : (j_setI (j_setI (j_setI τ 86 0 0) 117 S (-1)) 119 S (nI q)).1 86 69 = nI S := by rw [setI_ne (by omega), setI_ne (by omega), setI_nk (by omega)]; exact hτ
      rw [e, nI_1, setI_same, nI_pred]
    refine ⟨nI S, _, _, t, hc, hm _ (by rw [setI_ne (by omega), setI_ne (by omega)]; exact s3), ?_⟩
    refine g.note ?_ (fun A hA _ hno => ?_)
    · refine jep.sI (jep.sI (jep.sI (jep.sI (jep.sI (jep.sI jep.rf ?_) ?_) ?_) ?_) ?_) ?_
      · exact Or.inr (Or.inl ⟨by omega, by omega⟩)
      · exact Or.inr (Or.inl ⟨by omega, by omega⟩)
      · exact Or.inl (m0_scr g.1 ⟨rfl, rfl⟩)
      · exact Or.inr (Or.inr (Or.inl ⟨by omega, by omega⟩))
      · exact Or.inr (Or.inr (Or.inl ⟨by omega, by omega⟩))
      · exact Or.inr (Or.inr (Or.inr ⟨rfl, Or.inl rfl⟩))
    · obtain ⟨S', t1, t2, t3, t4, t5, t6⟩ := hno
      have e : S' = S := nI_inj (by omega) (by omega) (t2.symm.trans s2)
      subst e
      refine ⟨S' + 1, by omega, ?_, ?_, ?_, ?_, fun i hi => ?_⟩
      · rw [setI_ne (by omega), setI_ne (by omega), setI_ne (by omega), setI_ne (by omega), setI_same]
      · rw [setI_same]
      · simp [setI_get]; exact t4
      · have e1 : (j_setI (j_setI (j_setI (j_setI (j_setI (j_setI σ 84 S' (nI q)) 78 0 (nI (S' + 1))) 86 0 0) 117 S' (-1)) 119 S' (nI q)) 86 69 (nI (S' + 1))).1 78 1 = σ.1 78 1 := by simp [setI_get]
        rw [e1]
        rcases t5 with t5 | ⟨q', t5, t7⟩
        · exact Or.inl t5
        · exact Or.inr ⟨q', by omega, t7⟩
      · rcases (show i < S' ∨ i = S' by omega) with hlt | rfl
        · have c : ∀ b, b ≠ 86 → (j_setI (j_setI (j_setI (j_setI (j_setI (j_setI σ 84 S' (nI q)) 78 0 (nI (S' + 1))) 86 0 0) 117 S' (-1)) 119 S' (nI q)) 86 69 (nI (S' + 1))).1 b i = (if b = 78 ∧ i = 0 then nI (S' + 1) else σ.1 b i) := fun b hb => by
            have hi' : ¬ i = S' := by omega
            simp [setI_get, hb, hi']
          rw [c 79 (by omega), c 81 (by omega), c 82 (by omega), c 83 (by omega), c 84 (by omega), c 117 (by omega), c 119 (by omega), c 120 (by omega), c 121 (by omega)]
          simp only [Nat.reduceEqDiff, false_and, if_false]
          exact t6 i hlt
        · right
          refine ⟨q, hq, ?_, ?_, ?_⟩ <;> simp [setI_get]
  · have hc : g_HH_strike (d + 2) n σ = some (some (.int (-1)), σ) := by
      rw [e_HH_strike, q_HH_strike_0, s2, c_within, rI_s]
      simp only [Option.bind_some]
      by_cases hn : 0 ≤ n ∧ n ≤ nI S - 1
      · have h40 : ¬ S < 40 := fun z => h ⟨⟨hn.1, (le_pred (by omega)).mp hn.2⟩, z⟩
        rw [if_pos hn, jif_f (by decide), e_Nt_addStrike, q_Nt_addStrike_0, s2, jif_f (show ¬ nI S < (40 : Int32) from nI_nlt (b := 40) (by omega) (by omega)), rI_s]
        simp only [Option.bind_some]
        rw [q_HH_strike_2]
      · rw [if_neg hn, jif_t rfl, q_HH_strike_1, q_HH_strike_2]
    refine ⟨-1, σ, j_setI σ 86 0 0, t, hc, ?_, g.th 0⟩
    show g_M_strike (d + 2) n σ = _
    rw [e_M_strike, q_M_strike_0, setI_nk (by omega), s3, q_M_strike_1]
    by_cases h0 : n < 0
    · rw [jif_t h0]
    · rw [jif_f h0]
      by_cases h1 : nI S ≤ n
      · rw [jif_t h1]
      · rw [jif_f h1]
        have h40 : S = 40 := by
          rcases Nat.lt_or_ge S 40 with z | z
          · exact absurd ⟨⟨Int32.not_lt.mp h0, Int32.not_le.mp h1⟩, z⟩ h
          · omega
        rw [jif_t (show nI S = (40 : Int32) by rw [h40]; rfl)]
