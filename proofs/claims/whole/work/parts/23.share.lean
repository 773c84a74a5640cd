/-! Laws.oddStays, Laws.share. -/
/-- the law numbered L of the telling t: not told (L = 4 alone), or a program from s to e -/
def laW (σ : jS) (t L : Nat) : Prop := (L = 4 ∧ σ.1 (t + 10) 1 = 0) ∨ ((L = 4 → σ.1 (t + 10) 1 = 1) ∧ ∃ s e : Nat, s ≤ e ∧ e ≤ 64 ∧ σ.1 (t + 13) L = nI s ∧ σ.1 (t + 14) L = nI e ∧ wf_r (σ.1 (t + 11)) (e - s) s 0 = some 1)
/-- whether the odd one stays -/
noncomputable def lw_odd (σ : jS) (t L : Nat) (coins age next place hour : Int32) : Prop := (L = 4 ∧ σ.1 (t + 10) 1 = 0 ∧ ¬ age ≤ next) ∨ (¬ (L = 4 ∧ σ.1 (t + 10) 1 = 0) ∧ lw_V (σ.1 (t + 11)) (σ.1 (t + 12)) (σ.1 (t + 13) L).toNatClampNeg (σ.1 (t + 14) L).toNatClampNeg (lw_ns coins age next place hour) ≠ 0 ∧ lw_V (σ.1 (t + 11)) (σ.1 (t + 12)) (σ.1 (t + 13) L).toNatClampNeg (σ.1 (t + 14) L).toNatClampNeg (lw_ns coins age next place hour) ≠ lw_err)
noncomputable def b2i (c : Prop) : Int32 := @ite _ c (Classical.propDecidable c) 1 0
theorem b2i_t {c : Prop} (h : c) : b2i c = 1 := @if_pos _ (Classical.propDecidable c) h _ _ _
theorem b2i_f {c : Prop} (h : ¬ c) : b2i c = 0 := @if_neg _ (Classical.propDecidable c) h _ _ _
theorem b2i_01 (c : Prop) : b2i c = 0 ∨ b2i c = 1 := by
  by_cases h : c
  · exact Or.inr (b2i_t h)
  · exact Or.inl (b2i_f h)
theorem b2i_0 {c : Prop} : b2i c = 0 ↔ ¬ c := by
  by_cases h : c
  · rw [b2i_t h]; exact ⟨fun q => absurd q (by decide), fun q => absurd h q⟩
  · rw [b2i_f h]; exact ⟨fun _ => h, fun _ => rfl⟩
theorem c_oddStays (d : Nat) {t : Nat} (ht : jTe t) (L : Nat) (hL : L < 5) (coins age next place hour : Int32) (σ : jS) (hw : laW σ t L) :
    ∃ σ', g_La_oddStays (d + 3) (t + 10) (nI L) coins age next place hour σ = some (some (.int (b2i (lw_odd σ t L coins age next place hour))), σ') ∧ jeq (fun b => b = t + 15 ∨ b = t + 16) σ σ' := by
  rw [e_La_oddStays, q_La_oddStays_0, (te_is ht).2, jc_t]
  have h4 : (nI L = 4) ↔ L = 4 := nI_eq (b := 4) (by omega) (by omega)
  rcases hw with ⟨h1, h2⟩ | ⟨h1, s, e, hse, he, hs, hE, hwf⟩
  · rw [jif_t (h4.mpr h1), jif_t h2]
    refine ⟨σ, ?_, jeq.rf⟩
    by_cases ha : age ≤ next
    · have hn : ¬ lw_odd σ t L coins age next place hour := fun q => by
        rcases q with ⟨-, -, q⟩ | ⟨q, -⟩
        · exact q ha
        · exact q ⟨h1, h2⟩
      rw [jif_t ha, q_La_oddStays_1, q_La_oddStays_2, b2i_f hn]
      rfl
    · have hn : lw_odd σ t L coins age next place hour := Or.inl ⟨h1, h2, ha⟩
      rw [jif_f ha, q_La_oddStays_2, b2i_t hn]
      rfl
  · have hnot : ¬ (L = 4 ∧ σ.1 (t + 10) 1 = 0) := fun q => by
      have h3 := h1 q.1
      rw [q.2] at h3
      exact absurd h3 (by decide)
    have hgo : jif (nI L = 4) (jif (σ.1 (t + 10) 1 = 0) (jif (age ≤ next) (b_La_oddStays_1 (d + 2) σ) (b_La_oddStays_2 (d + 2) 1 σ)) (b_La_oddStays_3 (d + 2) (t + 10) (nI L) coins age next place hour σ)) (b_La_oddStays_3 (d + 2) (t + 10) (nI L) coins age next place hour σ) = b_La_oddStays_3 (d + 2) (t + 10) (nI L) coins age next place hour σ := by
      by_cases q : L = 4
      · rw [jif_t (h4.mpr q), jif_f (fun z => hnot ⟨q, z⟩)]
      · rw [jif_f (fun z => q (h4.mp z))]
    rw [hgo, q_La_oddStays_3, (te_is ht).2, jc_t]
    obtain ⟨σ', g1, g2⟩ := c_value d ht L hL s e he hse coins age next place hour σ hs hE hwf
    rw [g1, rL_s]
    simp only [Option.bind_some, lg_cmp_eq]
    refine ⟨σ', ?_, g2⟩
    have es : (σ.1 (t + 13) L).toNatClampNeg = s := by rw [hs, nI_clamp (by omega)]
    have ee : (σ.1 (t + 14) L).toNatClampNeg = e := by rw [hE, nI_clamp (by omega)]
    by_cases v0 : lw_V (σ.1 (t + 11)) (σ.1 (t + 12)) s e (lw_ns coins age next place hour) = 0
    · have hn : ¬ lw_odd σ t L coins age next place hour := fun q => by
        rcases q with ⟨q1, q2, -⟩ | ⟨-, q, -⟩
        · exact hnot ⟨q1, q2⟩
        · rw [es, ee] at q; exact q v0
      rw [jif_t v0, q_La_oddStays_4, q_La_oddStays_5, b2i_f hn]
      rfl
    · rw [jif_f v0]
      by_cases v1 : lw_V (σ.1 (t + 11)) (σ.1 (t + 12)) s e (lw_ns coins age next place hour) = lw_err
      · have hn : ¬ lw_odd σ t L coins age next place hour := fun q => by
          rcases q with ⟨q1, q2, -⟩ | ⟨-, -, q⟩
          · exact hnot ⟨q1, q2⟩
          · rw [es, ee] at q; exact q v1
        rw [show jif (lw_V (σ.1 (t + 11)) (σ.1 (t + 12)) s e (lw_ns coins age next place hour) = -9223372036854775808) _ _ = _ from jif_t v1, q_La_oddStays_4, q_La_oddStays_5, b2i_f hn]
        rfl
      · have hn : lw_odd σ t L coins age next place hour := Or.inr ⟨hnot, by rw [es, ee]; exact ⟨v0, v1⟩⟩
        rw [show jif (lw_V (σ.1 (t + 11)) (σ.1 (t + 12)) s e (lw_ns coins age next place hour) = -9223372036854775808) _ _ = _ from jif_f v1, q_La_oddStays_5, b2i_t hn]
        rfl
/-- what he keeps -/
noncomputable def lw_sh (σ : jS) (t L : Nat) (coins age next place hour : Int32) : Int32 := @ite _ (coins - coins / 2 * 2 = 0 ∨ ¬ lw_odd σ t L coins age next place hour) (Classical.propDecidable _) (coins / 2) (coins / 2 + 1)
theorem c_share (d : Nat) {t : Nat} (ht : jTe t) (L : Nat) (hL : L < 5) (coins age next place hour : Int32) (σ : jS) (hw : laW σ t L) :
    ∃ σ', g_La_share (d + 4) (t + 10) (nI L) coins age next place hour σ = some (some (.int (lw_sh σ t L coins age next place hour)), σ') ∧ jeq (fun b => b = t + 15 ∨ b = t + 16) σ σ' := by
  rw [e_La_share, q_La_share_0, (te_is ht).2, jc_t]
  unfold lw_sh
  by_cases h : coins - coins / 2 * 2 = 0
  · rw [jif_t h, if_pos (Or.inl h), q_La_share_1, q_La_share_2]
    exact ⟨σ, rfl, jeq.rf⟩
  · rw [jif_f h]
    obtain ⟨σ', g1, g2⟩ := c_oddStays d ht L hL coins age next place hour σ hw
    rw [g1, rI_s]
    simp only [Option.bind_some]
    rw [q_La_share_1, q_La_share_2, q_La_share_2]
    refine ⟨σ', ?_, g2⟩
    by_cases ho : lw_odd σ t L coins age next place hour
    · rw [b2i_t ho, jif_f (by decide), if_neg (fun q => q.elim h (fun z => z ho))]
    · rw [b2i_f ho, jif_t rfl, if_pos (Or.inr ho)]
