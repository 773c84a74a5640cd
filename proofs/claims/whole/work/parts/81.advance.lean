/-! Tokens, the class's: advance. -/
theorem sgO_le {c pl Ln : Nat} {B : Nat → Nat} (h : pl < Ln) : (sgO c (scd B Ln pl) pl).2 ≤ Ln ∧ pl < (sgO c (scd B Ln pl) pl).2 := by
  have key : ∀ x : Int32, x ≠ -1 → scd B Ln pl = x → pl + 1 < Ln := fun x hx e => by
    unfold scd at e
    by_cases q : pl + 1 < Ln
    · exact q
    · rw [if_neg q] at e; exact absurd e.symm hx
  unfold sgO
  by_cases h1 : c = 60 ∧ scd B Ln pl = 61
  · have := key 61 (by decide) h1.2
    rw [if_pos h1]; exact ⟨by show pl + 2 ≤ Ln; omega, by show pl < pl + 2; omega⟩
  · rw [if_neg h1]
    by_cases h2 : c = 60 ∧ scd B Ln pl = 62
    · have := key 62 (by decide) h2.2
      rw [if_pos h2]; exact ⟨by show pl + 2 ≤ Ln; omega, by show pl < pl + 2; omega⟩
    · rw [if_neg h2]
      by_cases h3 : c = 62 ∧ scd B Ln pl = 61
      · have := key 61 (by decide) h3.2
        rw [if_pos h3]; exact ⟨by show pl + 2 ≤ Ln; omega, by show pl < pl + 2; omega⟩
      · rw [if_neg h3]; exact ⟨by show pl + 1 ≤ Ln; omega, by show pl < pl + 1; omega⟩
/-- where the class's tokens stand -/
def tkS (σ : jS) (B : Nat → Nat) (Ln K pl e : Nat) (v : Int32) : Prop := BY σ 1 B Ln ∧ iWords σ ∧ σ.1 37 4 = nI Ln ∧ σ.1 37 0 = nI K ∧ σ.1 37 1 = nI pl ∧ σ.1 37 3 = nI e ∧ σ.1 37 2 = v ∧ e ≤ Ln ∧ pl ≤ e
theorem c_advance (d : Nat) {B : Nat → Nat} {Ln p : Nat} (σ : jS) (hp : p ≤ Ln) (hB : BY σ 1 B Ln) (hW : iWords σ) (h4 : σ.1 37 4 = nI Ln) (h3 : σ.1 37 3 = nI p) :
    ∃ σ' K pl e v, g_Tk_advance (d + 2) σ = some (none, σ') ∧ jep ta37 σ σ' ∧ tkC B Ln p K pl e v ∧ tkS σ' B Ln K pl e v := by
  have hL := hB.1
  have S0 : jep ta37 σ (j_setI σ 37 1 (nI p)) := jep.rf.sI ⟨rfl, by omega⟩
  have BYf : ∀ {σ' : jS}, jep ta37 σ σ' → BY σ' 1 B Ln ∧ iWords σ' ∧ σ'.1 37 4 = nI Ln := fun {σ'} h => ⟨⟨hL, fun i hi => by rw [(h 1 i (fun q => by have := q.1; omega)).1]; exact hB.2 i hi⟩, fun i hi => by rw [(h 38 i (fun q => by have := q.1; omega)).1]; exact hW i hi, by rw [(h 37 4 (fun q => by have := q.2; omega)).1]; exact h4⟩
  obtain ⟨b0, w0, f0⟩ := BYf S0
  obtain ⟨σ1, q1, q2, q3⟩ := c_skip (d + 1) (Ln - p) p (j_setI σ 37 1 (nI p)) (by omega) b0 f0 (setI_same _ _ _ _)
  have S1 : jep ta37 σ σ1 := S0.tr (q2.mono (fun b j h => ⟨h.1, by have := h.2; omega⟩))
  have hs := skp_r B (Ln - p) p
  rw [e_Tk_advance, q_Tk_advance_0, h3, q1, q_Tk_advance_3, q3]
  generalize hpl : skp B (Ln - p) p = pl at *
  have S2 : jep ta37 σ (j_setI σ1 37 3 (nI pl)) := S1.sI ⟨rfl, by omega⟩
  obtain ⟨b2, w2, f2⟩ := BYf S2
  have u1 : (j_setI σ1 37 3 (nI pl)).1 37 1 = nI pl := by rw [setI_nk (by decide)]; exact q3
  have u3 : (j_setI σ1 37 3 (nI pl)).1 37 3 = nI pl := setI_same _ _ _ _
  generalize j_setI σ1 37 3 (nI pl) = σ2 at *
  rw [u1, f2]
  by_cases h : pl < Ln
  · obtain ⟨e1, e2⟩ := b2.2 pl h
    rw [jif_t (nI_lt h (by omega)), q_Tk_advance_4, u1, rdI_ok (a := 1) (n := 700) rfl rfl (show pl < 700 by omega) (by omega)]
    simp only [Option.bind_some]
    rw [e1, c_within, rI_s]
    simp only [Option.bind_some]
    by_cases hw : 97 ≤ B pl ∧ B pl ≤ 122
    · rw [if_pos (show (97 : Int32) ≤ nI (B pl) ∧ nI (B pl) ≤ 122 from ⟨nI_le (a := 97) hw.1 (by omega), nI_le (b := 122) hw.2 (by omega)⟩), jif_f (by decide)]
      obtain ⟨σ3, K, r1, r2, r3, r4, r5⟩ := c_readWord d σ2 h b2 w2 f2 u1 u3
      have hr := run_r B 97 122 (Ln - pl) pl
      have S3 : jep ta37 σ σ3 := S2.tr (r2.mono (fun b j h => ⟨h.1, by have := h.2; omega⟩))
      obtain ⟨b3, w3, f3⟩ := BYf S3
      rw [r1, rV_s]
      simp only [Option.bind_some]
      rw [q_Tk_advance_7]
      exact ⟨σ3, K, pl, _, _, rfl, S3, ⟨hpl.symm, Or.inr (Or.inl ⟨h, hw, rfl, r5⟩)⟩, b3, w3, f3, r3, by rw [(r2 37 1 (fun q => by have := q.2; omega)).1]; exact u1, r4, rfl, by omega, hr.1⟩
    · rw [if_neg (show ¬ ((97 : Int32) ≤ nI (B pl) ∧ nI (B pl) ≤ 122) from fun z => hw ⟨Nat.le_of_not_lt (fun q => nI_ge (b := 97) q (by omega) z.1), Nat.le_of_not_lt (fun q => nI_ge (a := 122) q (by omega) z.2)⟩), jif_t rfl, q_Tk_advance_5, u1, rdI_ok (a := 1) (n := 700) rfl rfl (show pl < 700 by omega) (by omega)]
      simp only [Option.bind_some]
      rw [e1, c_within, rI_s]
      simp only [Option.bind_some]
      by_cases hd : 48 ≤ B pl ∧ B pl ≤ 57
      · rw [if_pos (show (48 : Int32) ≤ nI (B pl) ∧ nI (B pl) ≤ 57 from ⟨nI_le (a := 48) hd.1 (by omega), nI_le (b := 57) hd.2 (by omega)⟩), jif_f (by decide), e_Tk_readNumber, q_Tk_readNumber_0]
        have S3 : jep ta37 σ (j_setI (j_setI σ2 37 0 17) 37 2 0) := (S2.sI ⟨rfl, by omega⟩).sI ⟨rfl, by omega⟩
        obtain ⟨b3, w3, f3⟩ := BYf S3
        obtain ⟨σ3, r1, r2, r3, r4⟩ := c_digits d (B := B) (Ln := Ln) (Ln - pl) pl 0 (j_setI (j_setI σ2 37 0 17) 37 2 0) (by omega) (by omega) b3 f3 (by rw [setI_nk (by decide), setI_nk (by decide)]; exact u3) (setI_same _ _ _ _)
        have hr := run_r B 48 57 (Ln - pl) pl
        have S4 : jep ta37 σ σ3 := S3.tr (r2.mono (fun b j h => ⟨h.1, by have := h.2; omega⟩))
        obtain ⟨b4, w4, f4⟩ := BYf S4
        rw [r1, rV_s]
        simp only [Option.bind_some]
        rw [q_Tk_advance_7]
        refine ⟨σ3, 17, pl, _, _, rfl, S4, ⟨hpl.symm, Or.inr (Or.inr (Or.inl ⟨h, hd, rfl, rfl, r4⟩))⟩, b4, w4, f4, ?_, ?_, r3, rfl, by omega, hr.1⟩
        · rw [(r2 37 0 (fun q => by have := q.2; omega)).1, setI_nk (by decide), setI_same]; rfl
        · rw [(r2 37 1 (fun q => by have := q.2; omega)).1, setI_nk (by decide), setI_nk (by decide)]; exact u1
      · rw [if_neg (show ¬ ((48 : Int32) ≤ nI (B pl) ∧ nI (B pl) ≤ 57) from fun z => hd ⟨Nat.le_of_not_lt (fun q => nI_ge (b := 48) q (by omega) z.1), Nat.le_of_not_lt (fun q => nI_ge (a := 57) q (by omega) z.2)⟩), jif_t rfl, q_Tk_advance_6]
        obtain ⟨σ3, r1, r2, r3, r4⟩ := c_sign d σ2 h b2 f2 u1 u3
        have hle := sgO_le (c := B pl) (B := B) h
        have S3 : jep ta37 σ σ3 := S2.tr (r2.mono (fun b j h => ⟨h.1, by have := h.2; omega⟩))
        obtain ⟨b3, w3, f3⟩ := BYf S3
        rw [r1, rV_s]
        simp only [Option.bind_some]
        rw [q_Tk_advance_7]
        exact ⟨σ3, _, pl, _, _, rfl, S3, ⟨hpl.symm, Or.inr (Or.inr (Or.inr ⟨h, hw, hd, rfl, rfl⟩))⟩, b3, w3, f3, r3, by rw [(r2 37 1 (fun q => by have := q.2; omega)).1]; exact u1, r4, rfl, hle.1, by omega⟩
  · rw [jif_f (nI_nlt (by omega) (by omega)), q_Tk_advance_7]
    have S3 : jep ta37 σ (j_setI σ2 37 0 18) := S2.sI ⟨rfl, by omega⟩
    obtain ⟨b3, w3, f3⟩ := BYf S3
    exact ⟨_, 18, pl, pl, _, rfl, S3, ⟨hpl.symm, Or.inl ⟨by omega, rfl, rfl⟩⟩, b3, w3, f3, setI_same _ _ _ _, by rw [setI_nk (by decide)]; exact u1, by rw [setI_nk (by decide)]; exact u3, rfl, by omega, Nat.le_refl _⟩
