/-! 26, 27: strike, known. -/
theorem jInv.note {σ σ' : jS} {t : Nat} (h : jep (fun b j => jScr t b j ∨ noteP b j) σ σ') (g : jInv σ t) (hn : ∀ A, A ≤ 10 → σ.1 t 0 = nI A → iNote σ A → iNote σ' A) : jInv σ' t := by
  obtain ⟨ht, r2, r3, hT, hF, A, Pt, M, N, hte, hla, h36, hjo, hno, him⟩ := g
  have hA := hte.1
  refine ⟨ht, ?_, ?_, hT.fr h (fun b j p q => ?_), hF.fr h (fun b j p q => ?_), A, Pt, M, N, hte.fr h (fun b j p q => ?_), hla.fr h (fun b j p q => ?_), ?_, hjo.fr h (fun b j p q => ?_) hA, hn A hA hte.2.2.2.1 hno, him.fr h (fun b j p q => ?_) hA⟩
  · rw [(h 0 2 (fun q => by unfold jScr noteP at q; rcases ht with rfl | rfl <;> omega)).2.2]; exact r2
  · rw [(h 0 3 (fun q => by unfold jScr noteP at q; rcases ht with rfl | rfl <;> omega)).2.2]; exact r3
  · unfold jScr noteP at q; unfold tapeP at p; rcases ht with rfl | rfl <;> omega
  · unfold jScr noteP at q; unfold faultP at p; rcases ht with rfl | rfl <;> omega
  · unfold jScr noteP at q; unfold tellP at p; rcases ht with rfl | rfl <;> omega
  · unfold jScr noteP at q; unfold lawP at p; rcases ht with rfl | rfl <;> omega
  · rw [(h 86 36 (fun q => by unfold jScr noteP at q; rcases ht with rfl | rfl <;> omega)).1]; exact h36
  · unfold jScr noteP at q; unfold jourP at p; rcases ht with rfl | rfl <;> omega
  · unfold jScr noteP at q; unfold imgP jourP at p; rcases ht with rfl | rfl <;> omega
theorem jInv.S {σ : jS} {t : Nat} (g : jInv σ t) : ∃ S, S ≤ 40 ∧ σ.1 78 0 = nI S ∧ σ.1 86 69 = nI S := by
  obtain ⟨ht, r2, r3, hT, hF, A, Pt, M, N, hte, hla, h36, hjo, hno, him⟩ := g
  obtain ⟨S, s1, s2, s3, -⟩ := hno
  exact ⟨S, s1, s2, s3⟩
/-- 27: known -/
theorem op_known (d : Nat) (n : Int32) (σ : jS) (t : Nat) (g : jInv σ t) : opI (g_HH_known (d + 2) n) (g_M_known (d + 2) n) σ := by
  obtain ⟨S, s1, s2, s3⟩ := g.S
  have hc : g_HH_known (d + 2) n σ = if (-1) ≤ n ∧ n ≤ nI S then some (some (.int 1), j_setI σ 78 1 n) else some (some (.int 0), σ) := by
    rw [e_HH_known, q_HH_known_0, s2, c_within, rI_s]
    simp only [Option.bind_some]
    by_cases h : (-1) ≤ n ∧ n ≤ nI S
    · rw [if_pos h, if_pos h, jif_f (by decide), q_HH_known_1]
    · rw [if_neg h, if_neg h, jif_t rfl]
  have hm : ∀ τ : jS, τ.1 86 69 = nI S → g_M_known (d + 2) n τ = if (-1) ≤ n ∧ n ≤ nI S then some (some (.int 1), j_setI (j_setI τ 86 0 0) 86 70 n) else some (some (.int 0), j_setI τ 86 0 0) := by
    intro τ hτ
    rw [e_M_known, q_M_known_0, setI_nk (by omega), hτ, q_M_known_1, q_M_known_2]
    by_cases h1 : n < (-1)
    · rw [jif_t h1, if_neg (fun q => Int32.not_le.mpr h1 q.1)]
    · rw [jif_f h1]
      by_cases h2 : n ≤ nI S
      · rw [jif_t h2, if_pos ⟨Int32.not_lt.mp h1, h2⟩]
      · rw [jif_f h2, if_neg (fun q => h2 q.2)]
  by_cases h : (-1) ≤ n ∧ n ≤ nI S
  · refine ⟨1, j_setI σ 78 1 n, j_setI (j_setI (j_setI σ 78 1 n) 86 0 0) 86 70 n, t, ?_, ?_, ?_⟩
    · show g_HH_known (d + 2) n σ = _
      rw [hc, if_pos h]
    · show g_M_known (d + 2) n _ = _
      rw [hm _ (by rw [setI_ne (by omega)]; exact s3), if_pos h]
    · refine g.note (((jep.rf.sI (Or.inr (Or.inl ⟨by omega, by omega⟩))).sI (Or.inl (m0_scr g.1 ⟨rfl, rfl⟩))).sI (Or.inr (Or.inr (Or.inr ⟨rfl, Or.inr rfl⟩)))) (fun A hA _ hno => ?_)
      obtain ⟨S', t1, t2, t3, t4, t5, t6⟩ := hno
      have e : S' = S := nI_inj (by omega) (by omega) (t2.symm.trans s2)
      subst e
      refine ⟨S', t1, ?_, ?_, ?_, ?_, fun i hi => ?_⟩
      · rw [setI_ne (by omega), setI_ne (by omega), setI_nk (by omega)]; exact t2
      · rw [setI_nk (by omega), setI_nk (by omega), setI_ne (by omega)]; exact t3
      · rw [setI_same, setI_ne (by omega), setI_ne (by omega), setI_same]
      · rw [setI_ne (by omega), setI_ne (by omega), setI_same]
        by_cases hm1 : n = -1
        · exact Or.inl hm1
        · right
          have h0 : ¬ n < 0 := fun q => by
            have h3 := h.1
            rw [Int32.lt_iff_toInt_lt] at q
            rw [Int32.le_iff_toInt_le] at h3
            have e1 : (-1 : Int32).toInt = -1 := rfl
            have e0 : (0 : Int32).toInt = 0 := rfl
            rw [e1] at h3
            rw [e0] at q
            exact hm1 (Int32.toInt_inj.mp (by rw [e1]; omega))
          obtain ⟨j, hj, rfl⟩ := nI_of2 (M := nI S') (n := S') (nI_toInt (by omega)) h0 h.2
          exact ⟨j, hj, rfl⟩
      · have c : ∀ b, b ≠ 78 → b ≠ 86 → (j_setI (j_setI (j_setI σ 78 1 n) 86 0 0) 86 70 n).1 b = σ.1 b := fun b h1 h2 => by rw [j_setI_ne h2, j_setI_ne h2, j_setI_ne h1]
        rw [c 79 (by omega) (by omega), c 81 (by omega) (by omega), c 82 (by omega) (by omega), c 83 (by omega) (by omega), c 84 (by omega) (by omega), c 117 (by omega) (by omega), c 119 (by omega) (by omega), c 120 (by omega) (by omega), c 121 (by omega) (by omega)]
        exact t6 i hi
  · refine ⟨0, σ, j_setI σ 86 0 0, t, ?_, ?_, g.th 0⟩
    · show g_HH_known (d + 2) n σ = _
      rw [hc, if_neg h]
    · show g_M_known (d + 2) n σ = _
      rw [hm σ s3, if_neg h]
