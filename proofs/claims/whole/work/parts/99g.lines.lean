/-! The text's lines, one behind the other. -/
theorem run_1 {B : Nat → Nat} {lo hi n p : Nat} (hn : 1 ≤ n) (h : lo ≤ B p ∧ B p ≤ hi) : p < run B lo hi n p := by
  obtain ⟨m, rfl⟩ : ∃ m, n = m + 1 := ⟨n - 1, by omega⟩
  unfold run
  rw [if_pos h]
  have := (run_r B lo hi m (p + 1)).1
  omega
theorem nxt_pos {B : Nat → Nat} {Ln p : Nat} {T : Tok} (hp : p ≤ Ln) (h : nxt B Ln p T) : p ≤ T.2.1 ∧ (T.1 ≠ 18 → T.2.1 < Ln ∧ T.2.1 < T.2.2.1) := by
  obtain ⟨h0, h⟩ := h
  have hs := skp_r B (Ln - p) p
  refine ⟨by omega, fun k => ?_⟩
  rcases h with ⟨-, h, -⟩ | ⟨h1, h2, h, -⟩ | ⟨h1, h2, h, -⟩ | ⟨h1, -, -, -, h⟩
  · exact absurd h k
  · have := run_1 (n := Ln - T.2.1) (by omega) h2; omega
  · have := run_1 (n := Ln - T.2.1) (by omega) h2; omega
  · refine ⟨h1, ?_⟩
    rw [h]
    unfold sgO
    by_cases q1 : B T.2.1 = 60 ∧ scd B Ln T.2.1 = 61
    · rw [if_pos q1]; show T.2.1 < T.2.1 + 2; omega
    · rw [if_neg q1]
      by_cases q2 : B T.2.1 = 60 ∧ scd B Ln T.2.1 = 62
      · rw [if_pos q2]; show T.2.1 < T.2.1 + 2; omega
      · rw [if_neg q2]
        by_cases q3 : B T.2.1 = 62 ∧ scd B Ln T.2.1 = 61
        · rw [if_pos q3]; show T.2.1 < T.2.1 + 2; omega
        · rw [if_neg q3]; show T.2.1 < T.2.1 + 1; omega
/-- the place that is passed, put anew -/
def gB (B : Nat → Nat) (Ln g : Nat) : Nat → Nat := fun i => if i = Ln + 1 then g else B i
theorem gB_lt {B : Nat → Nat} {Ln g i : Nat} (h : i < Ln) : gB B Ln g i = B i := if_neg (by omega)
theorem gB_g {B : Nat → Nat} {Ln g : Nat} : gB B Ln g (Ln + 1) = g := if_pos rfl
theorem lS.ghost {σ τ : jS} {u Ln A Pt M W : Nat} {B : Nat → Nat} {T : Tok} (h : lS σ τ u B Ln T A Pt M W) : lS σ τ u (gB B Ln T.2.2.1) Ln T A Pt M W := by
  obtain ⟨⟨⟨h1, h2⟩, hk, hu, h0, hn, hg⟩, ⟨⟨m1, m2⟩, m3⟩, h3, h4⟩ := h
  exact ⟨⟨⟨⟨h1.1, fun i hi => by rw [gB_lt hi]; exact h1.2 i hi⟩, h2⟩, hk, hu, h0, hn, by rw [gB_g]; exact Nat.le_refl _⟩, ⟨⟨⟨m1.1, fun i hi => by rw [gB_lt hi]; exact m1.2 i hi⟩, m2⟩, m3⟩, h3, h4⟩
theorem mR.en {K : Nat} {v k21 k22 : Int32} (h : mR K v k21 k22) (hK : K < 300) : k21 = 4 ↔ K = 18 := by
  rcases h with ⟨h1, h2⟩ | ⟨j, j1, j2, j3, j4⟩ | ⟨h1, h2, h3⟩ | ⟨h1, h2, h3⟩ | ⟨h1, h2⟩ | ⟨h1, h2, h3⟩
  · exact ⟨fun _ => h1, fun _ => h2⟩
  · have := cw_lt j j1
    subst j3; exact ⟨fun z => absurd z (by decide), fun z => by omega⟩
  · subst h2; exact ⟨fun z => absurd z (by decide), fun z => by omega⟩
  · subst h2; exact ⟨fun z => absurd z (by decide), fun z => by omega⟩
  · subst h2; exact ⟨fun z => absurd z (by decide), fun z => by omega⟩
  · have hr : 37 ≤ K := by
      rcases h1 with h1 | h1
      · exact (sgs_r K hK h1).1
      · omega
    subst h2; exact ⟨fun z => absurd z (by decide), fun z => by omega⟩
/-- both have read the text, well or to the same fault -/
def TT (C M : jR) (σ τ : jS) (u dc dm : Nat) : Prop :=
  (∃ σ' τ' A Pt M' W N, C = b_HH_text_4 dc (nI N) σ' ∧ M = b_M_text_8 dm τ' ∧ jep (lcS u) σ σ' ∧ jep lmS τ τ' ∧ σ'.1 36 0 = nI 0 ∧ σ'.1 36 1 = -1 ∧ τ'.1 86 23 = 0 ∧ τ'.1 86 24 = -1 ∧ rT σ' τ' u A Pt M' ∧ rLw σ' τ' u M' W ∧ τ'.1 86 17 = nI N) ∨
  (∃ σ' τ' k pl N, C = b_HH_text_4 dc (nI N) σ' ∧ M = b_M_text_8 dm τ' ∧ jep (lcS u) σ σ' ∧ jep lmS τ τ' ∧ 1 ≤ k ∧ k ≤ 5 ∧ rdF σ' k pl ∧ mdF τ' k pl)
theorem t_loop (dc dm : Nat) {u Ln : Nat} (hu : jTe u) {σ0 τ0 : jS} (hLn : Ln ≤ 700) : ∀ (f i p A Pt M W : Nat) (B : Nat → Nat) (σ τ : jS) (T : Tok), Ln + 1 - i ≤ f → i ≤ p → p ≤ Ln → nxt B Ln p T → lS σ τ u B Ln T A Pt M W → τ.1 86 17 = nI i → jep (lcS u) σ0 σ → jep lmS τ0 τ → TT (b_HH_text_3 (dc + 102) (nI Ln) (nI i) (nI i) σ) (b_M_text_7 (dm + 133) τ) σ0 τ0 u (dc + 102) (dm + 133) := by
  intro f
  induction f with
  | zero => intro i p A Pt M W B σ τ T hf hi hp; omega
  | succ f ih =>
    intro i p A Pt M W B σ τ T hf hi hp hn h h17 f1 f2
    have h1 := h.1
    have h2 := h.2.1
    have h37 : σ.1 37 0 = nI T.1 := h1.1.2.2.2.1
    have hT : T.1 ≤ 258 := h1.2.1
    have h23 : τ.1 86 23 = 0 := h2.2.2.2.2
    have hen := h2.2.2.2.1.en (by omega)
    obtain ⟨np, nq⟩ := nxt_pos hp hn
    by_cases k18 : T.1 = 18
    · have fin : TT (b_HH_text_4 (dc + 102) (nI i) σ) (b_M_text_8 (dm + 133) τ) σ0 τ0 u (dc + 102) (dm + 133) := Or.inl ⟨σ, τ, A, Pt, M, W, i, rfl, rfl, f1, f2, h1.2.2.2.1, h1.2.2.2.2.1, h23, h2.2.1.2, h.2.2.1, h.2.2.2, h17⟩
      rw [q_M_text_7, jif_t h23, jif_t (hen.mpr k18), q_HH_text_3]
      by_cases e : Ln ≤ i
      · rw [jif_t (nI_le e (by omega))]; exact fin
      · rw [jif_f (nI_ge (by omega) (by omega)), e_Rd_goesOn, q_Rd_goesOn_0, jif_t (show σ.1 36 0 = 0 from h1.2.2.2.1), h37, jif_t (show nI T.1 = 18 by rw [k18]; rfl), q_Rd_goesOn_1, q_Rd_goesOn_2, if_pos (Or.inl rfl), rI_s]
        simp only [Option.bind_some]
        rw [jif_t trivial]; exact fin
    · obtain ⟨n1, n2⟩ := nq k18
      have hg := h.ghost
      rw [q_M_text_7, jif_t h23, jif_f (fun z => k18 (hen.mp z)), q_HH_text_3, jif_f (nI_ge (by omega) (by omega)), e_Rd_goesOn, q_Rd_goesOn_0, jif_t (show σ.1 36 0 = 0 from h1.2.2.2.1), h37, jif_f (show ¬ nI T.1 = (18 : Int32) from nI_k (k := 18) hT (by omega) k18), q_Rd_goesOn_2, if_pos (Or.inr rfl), rI_s]
      simp only [Option.bind_some]
      rw [jif_f (by decide)]
      rcases l_line dc dm hu hg with ⟨σ1, τ1, T1, A1, Pt1, M1, W1, p1, a1, a2, a3, a4, a5, a6, a7, a8⟩ | ⟨σ1, τ1, k, pl, a1, a2, a3, a4, a5, a6, a7, a8⟩
      · rw [gB_g] at a8
        have a9 := a5.1.1.2.2.2.2.2.2.2
        rw [a1, rI_s, a2, rV_s]
        simp only [Option.bind_some]
        rw [nI_1]
        refine ih (i + 1) (min p1 Ln) A1 Pt1 M1 W1 (gB B Ln T.2.2.1) σ1 τ1 T1 (by omega) ?_ (Nat.min_le_right _ _) ?_ a5 (by rw [a6, h17, nI_1]) (f1.tr a3) (f2.tr a4)
        · omega
        · by_cases e : p1 ≤ Ln
          · rw [Nat.min_eq_left e]; exact a7
          · exfalso
            have z := a7.1
            have z1 := (skp_r (gB B Ln T.2.2.1) (Ln - p1) p1).1
            have z2 := a9.1
            have z3 := a9.2
            omega
      · have hf := a8.ne a5 a6
        have hc : ¬ σ1.1 36 0 = 0 := by
          rw [a7.1]
          exact fun z => by have := nI_inj (b := 0) (by omega) (by omega) z; omega
        rw [a1, rI_s, a2, rV_s]
        simp only [Option.bind_some]
        rw [nI_1, q_M_text_7, jif_f hf]
        have fin : TT (b_HH_text_4 (dc + 102) (nI (i + 1)) σ1) (b_M_text_8 (dm + 133) τ1) σ0 τ0 u (dc + 102) (dm + 133) := Or.inr ⟨σ1, τ1, k, pl, i + 1, rfl, rfl, f1.tr a3, f2.tr a4, a5, a6, a7, a8⟩
        rw [q_HH_text_3]
        by_cases e : Ln ≤ i + 1
        · rw [jif_t (nI_le e (by omega))]; exact fin
        · rw [jif_f (nI_ge (by omega) (by omega)), e_Rd_goesOn, q_Rd_goesOn_0, jif_f hc, q_Rd_goesOn_1, q_Rd_goesOn_2, if_pos (Or.inl rfl), rI_s]
          simp only [Option.bind_some]
          rw [jif_t trivial]; exact fin
