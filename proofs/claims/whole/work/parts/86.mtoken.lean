/-! Tokens: the reference's, by the class's. -/
/-- kind and value of the class's token against the reference's -/
def mR (K : Nat) (v k21 k22 : Int32) : Prop :=
  (K = 18 ∧ k21 = 4) ∨ (∃ i, i < 16 ∧ K = cw i ∧ k21 = 0 ∧ k22 = nI i) ∨ (K = 16 ∧ k21 = 1 ∧ k22 = v) ∨ (K = 17 ∧ k21 = 2 ∧ ∃ x y, v = nI x ∧ k22 = nI y ∧ nmR x y ∧ x ≤ 1000000 ∧ y ≤ 999999) ∨ (K = 19 ∧ k21 = 5) ∨ ((K ∈ sgs ∨ (256 ≤ K ∧ K ≤ 258)) ∧ k21 = 3 ∧ k22 = nI K)
theorem sg_rel {B : Nat → Nat} {Ln pl : Nat} : mR (sgO (B pl) (scd B Ln pl) pl).1 0 (nI (if B pl ∈ sgs then 3 else 5)) (nI (sgR (B pl) (scd B Ln pl) pl).1) := by
  have two : ∀ K, 256 ≤ K → K ≤ 258 → B pl ∈ sgs → mR K 0 (nI (if B pl ∈ sgs then 3 else 5)) (nI K) := fun K h1 h2 h3 => by
    rw [if_pos h3]
    exact Or.inr (Or.inr (Or.inr (Or.inr (Or.inr ⟨Or.inr ⟨h1, h2⟩, rfl, rfl⟩))))
  have m60 : B pl = 60 → B pl ∈ sgs := fun z => by rw [z]; decide
  have m62 : B pl = 62 → B pl ∈ sgs := fun z => by rw [z]; decide
  unfold sgO sgR
  by_cases h1 : B pl = 60 ∧ scd B Ln pl = 61
  · rw [if_pos h1, if_pos h1]; exact two 256 (by omega) (by omega) (m60 h1.1)
  · rw [if_neg h1, if_neg h1]
    by_cases h2 : B pl = 60 ∧ scd B Ln pl = 62
    · rw [if_pos h2, if_pos h2]; exact two 257 (by omega) (by omega) (m60 h2.1)
    · rw [if_neg h2, if_neg h2]
      by_cases h3 : B pl = 62 ∧ scd B Ln pl = 61
      · rw [if_pos h3, if_pos h3]; exact two 258 (by omega) (by omega) (m62 h3.1)
      · rw [if_neg h3, if_neg h3]
        show mR (sgK (B pl)) 0 _ (nI (B pl))
        unfold sgK
        by_cases q : B pl ∈ sgs
        · rw [if_pos q, if_pos q]
          exact Or.inr (Or.inr (Or.inr (Or.inr (Or.inr ⟨Or.inl q, rfl, rfl⟩))))
        · rw [if_neg q, if_neg q]
          exact Or.inr (Or.inr (Or.inr (Or.inr (Or.inl ⟨rfl, rfl⟩))))
theorem mR.v {K : Nat} {v v' k21 k22 : Int32} (h : mR K v k21 k22) (h1 : K ≠ 16) (h2 : K ≠ 17) : mR K v' k21 k22 := by
  rcases h with h | h | h | h | h | h
  · exact Or.inl h
  · exact Or.inr (Or.inl h)
  · exact absurd h.1 h1
  · exact absurd h.1 h2
  · exact Or.inr (Or.inr (Or.inr (Or.inr (Or.inl h))))
  · exact Or.inr (Or.inr (Or.inr (Or.inr (Or.inr h))))
theorem sgO_k {c pl : Nat} {s0 : Int32} : (sgO c s0 pl).1 ≠ 16 ∧ (sgO c s0 pl).1 ≠ 17 := by
  have hk : sgK c ≠ 16 ∧ sgK c ≠ 17 := by
    unfold sgK
    by_cases q : c ∈ sgs
    · rw [if_pos q]
      exact ⟨fun z => absurd q (by rw [z]; decide), fun z => absurd q (by rw [z]; decide)⟩
    · rw [if_neg q]; omega
  unfold sgO
  by_cases h1 : c = 60 ∧ s0 = 61
  · rw [if_pos h1]; exact ⟨show (256 : Nat) ≠ 16 by decide, show (256 : Nat) ≠ 17 by decide⟩
  · rw [if_neg h1]
    by_cases h2 : c = 60 ∧ s0 = 62
    · rw [if_pos h2]; exact ⟨show (257 : Nat) ≠ 16 by decide, show (257 : Nat) ≠ 17 by decide⟩
    · rw [if_neg h2]
      by_cases h3 : c = 62 ∧ s0 = 61
      · rw [if_pos h3]; exact ⟨show (258 : Nat) ≠ 16 by decide, show (258 : Nat) ≠ 17 by decide⟩
      · rw [if_neg h3]; exact hk
theorem rnm_le (B : Nat → Nat) : ∀ (m p y : Nat), (∀ i, p ≤ i → i < p + m → 48 ≤ B i ∧ B i ≤ 57) → y ≤ 999999 → rnm B m p y ≤ 999999
  | 0, _, _, _, h => h
  | m + 1, p, y, hB, h => by
    have hb := hB p (Nat.le_refl _) (by omega)
    refine rnm_le B m (p + 1) _ (fun i h1 h2 => hB i (by omega) (by omega)) ?_
    by_cases q : y ≤ 99999
    · rw [if_pos q]; omega
    · rw [if_neg q]; omega
theorem cnm_le (B : Nat → Nat) : ∀ (m p x : Nat), x ≤ 1000000 → cnm B m p x ≤ 1000000
  | 0, _, _, h => h
  | m + 1, p, x, h => cnm_le B m (p + 1) _ (by omega)
def mtk : Nat → Nat → Prop := fun b j => b = 86 ∧ 19 ≤ j ∧ j ≤ 22
theorem m_token (d : Nat) {B : Nat → Nat} {Ln p K pl e : Nat} {v : Int32} (σ : jS) (hp : p ≤ Ln) (hM : MY σ B Ln p) (hT : tkC B Ln p K pl e v) :
    ∃ σ', g_M_token (d + 3) σ = some (none, σ') ∧ jep mtk σ σ' ∧ MY σ' B Ln e ∧ σ'.1 86 20 = nI pl ∧ mR K v (σ'.1 86 21) (σ'.1 86 22) := by
  obtain ⟨σ1, q1, q2, q3⟩ := m_skip (d + 1) (Ln - p) p σ (by omega) hM
  have hs := skp_r B (Ln - p) p
  have hL := hM.1.1
  obtain ⟨epl, hT⟩ := hT
  rw [← epl] at q3 hs
  have S1 : jep mtk σ (j_setI σ1 86 20 (nI pl)) := (q2.mono (fun b j h => ⟨h.1, by have := h.2; omega, by have := h.2; omega⟩)).sI ⟨rfl, by omega, by omega⟩
  have M1 : MY (j_setI σ1 86 20 (nI pl)) B Ln pl := q3.ot (by decide) (by decide)
  have v20 : (j_setI σ1 86 20 (nI pl)).1 86 20 = nI pl := setI_same _ _ _ _
  rw [e_M_token, q1, q_M_token_2, q3.2.2]
  generalize j_setI σ1 86 20 (nI pl) = σ2 at *
  rw [m_here (d + 1) M1 (by omega), rI_s]
  simp only [Option.bind_some]
  by_cases h : pl < Ln
  · have hb := M1.lt h
    have eh : hrI B Ln pl = nI (B pl) := if_pos h
    have xs : ((97 : Int32) ≤ nI (B pl) ∧ nI (B pl) ≤ 122) ↔ (97 ≤ B pl ∧ B pl ≤ 122) := by
      have := hr_in (lo := 97) (hi := 122) (B := B) (Ln := Ln) (p := pl) M1.lt (by omega) (by omega) (by omega)
      rw [eh] at this
      exact this.trans ⟨fun z => z.2, fun z => ⟨h, z⟩⟩
    have xd : ((48 : Int32) ≤ nI (B pl) ∧ nI (B pl) ≤ 57) ↔ (48 ≤ B pl ∧ B pl ≤ 57) := by
      have := hr_in (lo := 48) (hi := 57) (B := B) (Ln := Ln) (p := pl) M1.lt (by omega) (by omega) (by omega)
      rw [eh] at this
      exact this.trans ⟨fun z => z.2, fun z => ⟨h, z⟩⟩
    rw [eh, jif_f (nI_m1 (by omega)), q_M_token_3, m_isSmall, rI_s]
    simp only [Option.bind_some]
    rcases hT with ⟨z, -⟩ | ⟨-, hw, ee, hk⟩ | ⟨-, hd, ee, hk, hv⟩ | ⟨-, nw, nd, hk, ee⟩
    · omega
    · -- a word
      rw [b2i_t (xs.mpr hw), jif_f (by decide)]
      obtain ⟨σ3, r1, r2, r3⟩ := m_letters (d + 1) (Ln - pl) pl σ2 (by omega) M1
      have hr := run_r B 97 122 (Ln - pl) pl
      have hin := run_in B 97 122 (Ln - pl) pl
      rw [← ee] at r3 hr hin
      have u20 : σ3.1 86 20 = nI pl := by rw [(r2 86 20 (fun q => by have := q.2; omega)).1]; exact v20
      have S3 : jep mtk σ σ3 := S1.tr (r2.mono (fun b j h => ⟨h.1, by have := h.2; omega, by have := h.2; omega⟩))
      rw [r1, q_M_token_5, m_word (d + 1) r3 u20 hr.1 (by omega), rI_s]
      simp only [Option.bind_some]
      have Sw : jep mtk σ (j_setI σ3 86 22 (rW (mtW B pl e) 16 0)) := S3.sI ⟨rfl, by omega, by omega⟩
      have Mw : MY (j_setI σ3 86 22 (rW (mtW B pl e) 16 0)) B Ln e := r3.ot (by decide) (by decide)
      have w20 : (j_setI σ3 86 22 (rW (mtW B pl e) 16 0)).1 86 20 = nI pl := by rw [setI_nk (by decide)]; exact u20
      have w22 : (j_setI σ3 86 22 (rW (mtW B pl e) 16 0)).1 86 22 = rW (mtW B pl e) 16 0 := setI_same _ _ _ _
      generalize j_setI σ3 86 22 (rW (mtW B pl e) 16 0) = σ4 at *
      rw [w22]
      have es : nI e - nI pl = nI (e - pl) := pk_sub hr.1
      rcases hk with ⟨h7, hK⟩ | ⟨h6, hv, hK⟩
      · have en : rW (mtW B pl e) 16 0 = -1 := by
          rcases rW_r (M := mtW B pl e) 16 0 with ⟨i, -, i2, i3, -⟩ | ⟨-, i2⟩
          · have := (ws_f i (by omega)).2.2.2.1
            have := i3.1
            omega
          · exact i2
        rw [jif_t en, q_M_token_6, Mw.2.2, w20, es, jif_f (show ¬ nI (e - pl) ≤ 6 from nI_ge (a := 6) (by omega) (by omega)), q_M_token_8, setI_same, jif_f (by decide), q_M_token_14]
        exact ⟨_, rfl, Sw.sI ⟨rfl, by omega, by omega⟩, Mw.ot (by decide) (by decide), by rw [setI_nk (by decide)]; exact w20, Or.inr (Or.inr (Or.inr (Or.inr (Or.inl ⟨hK, setI_same _ _ _ _⟩))))⟩
      · have hB : ∀ k, pl ≤ k → k < pl + (e - pl) → 97 ≤ B k ∧ B k ≤ 122 := fun k k1 k2 => hin k k1 (by omega)
        rcases words_rel hr.1 h6 hB with ⟨i, i1, i2, i3⟩ | ⟨i2, i3⟩
        · rw [i2, jif_f (nI_m1 (by omega)), q_M_token_8, setI_same, jif_f (by decide), q_M_token_14]
          exact ⟨_, rfl, Sw.sI ⟨rfl, by omega, by omega⟩, Mw.ot (by decide) (by decide), by rw [setI_nk (by decide)]; exact w20, Or.inr (Or.inl ⟨i, i1, hK.trans i3, setI_same _ _ _ _, by rw [setI_nk (by decide), w22]; exact i2⟩)⟩
        · rw [jif_t i2, q_M_token_6, Mw.2.2, w20, es, jif_t (show nI (e - pl) ≤ 6 from nI_le (b := 6) h6 (by omega)), q_M_token_7, q_M_token_8, setI_same, jif_t rfl]
          obtain ⟨σ5, n1, n2, n3⟩ := m_name (d + 1) hr.1 (by omega) h6 hB (j_setI σ4 86 21 1) (Mw.ot (by decide) (by decide)) (by rw [setI_nk (by decide)]; exact w20)
          rw [n1, rV_s]
          simp only [Option.bind_some]
          rw [q_M_token_14]
          have Mn : MY (j_setI σ4 86 21 1) B Ln e := Mw.ot (by decide) (by decide)
          refine ⟨σ5, rfl, (Sw.sI ⟨rfl, by omega, by omega⟩).tr (n2.mono (fun b j h => ⟨h.1, by have := h.2; omega, by have := h.2; omega⟩)), ⟨⟨hL, fun i hi => by rw [(n2 87 i (fun q => by have := q.1; omega)).1]; exact Mn.1.2 i hi⟩, by rw [(n2 86 18 (fun q => by have := q.2; omega)).1]; exact Mn.2.1, by rw [(n2 86 19 (fun q => by have := q.2; omega)).1]; exact Mn.2.2⟩, by rw [(n2 86 20 (fun q => by have := q.2; omega)).1, setI_nk (by decide)]; exact w20, Or.inr (Or.inr (Or.inl ⟨hK.trans i3, ?_, n3.trans hv.symm⟩))⟩
          rw [(n2 86 21 (fun q => by have := q.2; omega)).1, setI_same]
    · -- a number
      rw [b2i_f (fun z => by have := xs.mp z; omega), jif_t rfl, q_M_token_9, m_isDigit, rI_s]
      simp only [Option.bind_some]
      rw [b2i_t (xd.mpr hd), jif_f (by decide)]
      have M2 : MY (j_setI (j_setI σ2 86 21 2) 86 22 0) B Ln pl := (M1.ot (by decide) (by decide)).ot (by decide) (by decide)
      obtain ⟨σ3, r1, r2, r3, r4⟩ := m_digits (d + 1) (Ln - pl) pl 0 (j_setI (j_setI σ2 86 21 2) 86 22 0) (by omega) (by omega) M2 (setI_same _ _ _ _)
      have hin := run_in B 48 57 (Ln - pl) pl
      have hr := run_r B 48 57 (Ln - pl) pl
      rw [← ee] at r3 r4 hin hr
      have hB : ∀ i, pl ≤ i → i < pl + (e - pl) → 48 ≤ B i ∧ B i ≤ 57 := fun i i1 i2 => hin i i1 (by omega)
      rw [r1]
      refine ⟨σ3, rfl, ((S1.sI ⟨rfl, by omega, by omega⟩).sI ⟨rfl, by omega, by omega⟩).tr (r2.mono (fun b j h => ⟨h.1, by have := h.2; omega, by have := h.2; omega⟩)), r3, ?_, Or.inr (Or.inr (Or.inr (Or.inl ⟨hk, ?_, _, _, hv, r4, nm_rel B _ pl 0 0 hB (Or.inl rfl), cnm_le B _ _ _ (by omega), rnm_le B _ _ _ hB (by omega)⟩)))⟩
      · rw [(r2 86 20 (fun q => by have := q.2; omega)).1, setI_nk (by decide), setI_nk (by decide)]; exact v20
      · rw [(r2 86 21 (fun q => by have := q.2; omega)).1, setI_nk (by decide), setI_same]
    · -- a sign
      rw [b2i_f (fun z => nw (xs.mp z)), jif_t rfl, q_M_token_9, m_isDigit, rI_s]
      simp only [Option.bind_some]
      rw [b2i_f (fun z => nd (xd.mp z)), jif_t rfl, q_M_token_13]
      obtain ⟨σ3, r1, r2, r3, r4, r5⟩ := m_sign d σ2 h M1
      rw [r1, rV_s]
      simp only [Option.bind_some]
      rw [q_M_token_14]
      refine ⟨σ3, rfl, S1.tr (r2.mono (fun b j h => ⟨h.1, by have := h.2; omega, by have := h.2; omega⟩)), by rw [ee]; exact r3, by rw [(r2 86 20 (fun q => by have := q.2; omega)).1]; exact v20, ?_⟩
      rw [r4, r5, hk]
      exact sg_rel.v sgO_k.1 sgO_k.2
  · have eh : hrI B Ln pl = -1 := if_neg h
    rw [eh, jif_t rfl, q_M_token_14]
    rcases hT with ⟨-, hk, ee⟩ | ⟨z, -⟩ | ⟨z, -⟩ | ⟨z, -⟩
    · rw [ee]
      exact ⟨_, rfl, S1.sI ⟨rfl, by omega, by omega⟩, M1.ot (by decide) (by decide), by rw [setI_nk (by decide)]; exact v20, Or.inl ⟨hk, setI_same _ _ _ _⟩⟩
    · exact absurd z h
    · exact absurd z h
    · exact absurd z h
