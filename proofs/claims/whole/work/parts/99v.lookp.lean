/-! look in the law's loop. Printed by wip/gen/lk3.py. -/
theorem m_look5_L (d : Nat) (l1 w : Int32) (σ : jS) (v : Int64) : (b_M_look_5 d l1 w (j_setL σ 126 0 v)).map Prod.fst = (b_M_look_5 d l1 w σ).map Prod.fst := by
  rw [q_M_look_5, q_M_look_5]
  have h1 : ∀ x : Nat, Option.map Prod.fst ((j_rdI 0 (j_setL σ 126 0 v) x l1).bind fun x1 => some (some (Value.int x1), j_setL σ 126 0 v)) = Option.map Prod.fst ((j_rdI 0 σ x l1).bind fun x1 => some (some (Value.int x1), σ)) := fun x => by
    rw [show j_rdI 0 (j_setL σ 126 0 v) x l1 = j_rdI 0 σ x l1 from rfl]
    cases j_rdI 0 σ x l1 <;> rfl
  have h10 : (b_M_look_10 d l1 w (j_setL σ 126 0 v)).map Prod.fst = (b_M_look_10 d l1 w σ).map Prod.fst := by
    rw [q_M_look_10, q_M_look_10, show j_rdI 0 (j_setL σ 126 0 v) 92 l1 = j_rdI 0 σ 92 l1 from rfl, show j_rdI 0 (j_setL σ 126 0 v) 93 (((3 * l1) + w) - 3) = j_rdI 0 σ 93 (((3 * l1) + w) - 3) from rfl]
    cases j_rdI 0 σ 92 l1 with
    | none => rfl
    | some x1 =>
      simp only [Option.bind_some]
      by_cases q : x1 ≤ w - 3
      · rw [jif_t q, jif_t q, q_M_look_11, q_M_look_11, q_M_look_12, q_M_look_12]; rfl
      · rw [jif_f q, jif_f q]
        cases j_rdI 0 σ 93 (((3 * l1) + w) - 3) with
        | none => rfl
        | some x2 =>
          simp only [Option.bind_some]
          rw [q_M_look_12, q_M_look_12]; rfl
  by_cases q0 : w = 0
  · rw [jif_t q0, jif_t q0, q_M_look_6, q_M_look_6]; exact h1 90
  rw [jif_f q0, jif_f q0]
  by_cases q1 : w = 1
  · rw [jif_t q1, jif_t q1, q_M_look_7, q_M_look_7]; exact h1 108
  rw [jif_f q1, jif_f q1]
  by_cases q2 : w = 2
  · rw [jif_t q2, jif_t q2, q_M_look_8, q_M_look_8]; exact h1 92
  rw [jif_f q2, jif_f q2]
  by_cases q3 : w = 3
  · rw [jif_t q3, jif_t q3]; exact h10
  rw [jif_f q3, jif_f q3]
  by_cases q4 : w = 4
  · rw [jif_t q4, jif_t q4]; exact h10
  rw [jif_f q4, jif_f q4]
  by_cases q5 : w = 5
  · rw [jif_t q5, jif_t q5]; exact h10
  rw [jif_f q5, jif_f q5]
  by_cases q6 : w = 6
  · rw [jif_t q6, jif_t q6, q_M_look_9, q_M_look_9]; exact h1 109
  rw [jif_f q6, jif_f q6]
  exact h10
theorem m_look4_L (d : Nat) (l1 w : Int32) (σ : jS) (v : Int64) (s1 : Int32) : (b_M_look_4 d l1 w s1 (j_setL σ 126 0 v)).map Prod.fst = (b_M_look_4 d l1 w s1 σ).map Prod.fst := by
  rw [q_M_look_4, q_M_look_4, setI_same, setI_same]
  by_cases q : s1 = 0
  · rw [jif_t q, jif_t q]; exact m_look5_L d l1 w (j_setI σ 86 0 s1) v
  · rw [jif_f q, jif_f q]; rfl
theorem m_look_L (d : Nat) (l1 w : Int32) (σ : jS) (v : Int64) : (g_M_look (d + 2) l1 w (j_setL σ 126 0 v)).map Prod.fst = (g_M_look (d + 2) l1 w σ).map Prod.fst := by
  rw [e_M_look, e_M_look, q_M_look_0, q_M_look_0, m_isPerson, m_isPerson, rI_s, rI_s, show (j_setL σ 126 0 v).1 = σ.1 from rfl]
  simp only [Option.bind_some]
  by_cases p : b2i (0 ≤ l1 ∧ l1 < σ.1 88 0) = 0
  · rw [jif_t p, jif_t p]; exact m_look4_L _ _ _ _ _ _
  · rw [jif_f p, jif_f p, q_M_look_1, q_M_look_1, q_M_look_2, q_M_look_2, q_M_look_3, q_M_look_3]
    by_cases w0 : w < 0
    · rw [jif_t w0, jif_t w0]; exact m_look4_L _ _ _ _ _ _
    · rw [jif_f w0, jif_f w0]
      by_cases w6 : w ≤ 6
      · rw [jif_t w6, jif_t w6]; exact m_look4_L _ _ _ _ _ _
      · rw [jif_f w6, jif_f w6]; exact m_look4_L _ _ _ _ _ _
theorem m_look_1 (d : Nat) (l1 w : Int32) (σ : jS) (h : ¬ (0 ≤ l1 ∧ l1 < σ.1 88 0)) : g_M_look (d + 2) l1 w σ = some (some (.int 0), j_setI σ 86 0 1) := by
  rw [e_M_look, q_M_look_0, m_isPerson, rI_s]
  simp only [Option.bind_some]
  rw [jif_t (b2i_f h), q_M_look_4, setI_same, jif_f (by decide)]
theorem m_look_2 (d : Nat) (l1 w : Int32) (σ : jS) (h : 0 ≤ l1 ∧ l1 < σ.1 88 0) (hw : ¬ (0 ≤ w ∧ w ≤ 6)) : g_M_look (d + 2) l1 w σ = some (some (.int 0), j_setI σ 86 0 2) := by
  rw [e_M_look, q_M_look_0, m_isPerson, rI_s]
  simp only [Option.bind_some]
  rw [jif_f (by rw [b2i_t h]; decide), q_M_look_1, q_M_look_2]
  by_cases w0 : w < 0
  · rw [jif_t w0, q_M_look_4, setI_same, jif_f (by decide)]
  · rw [jif_f w0, jif_f (fun z => hw ⟨Int32.not_lt.mp w0, z⟩), q_M_look_4, setI_same, jif_f (by decide)]
/-- the law's look and the reference's -/
theorem lk_pure {σ : jS} {t : Nat} (g : jInv σ t) (a b : Int32) : ∃ kk σ1 r2 σ2, lkR 135 a b σ kk σ1 ∧ g_M_look 136 a b σ1 = some (some (.int r2), σ2) ∧ σ2.1 86 0 = kk ∧ jInv σ2 t ∧ (kk = 0 → j_rdL σ2 126 0 = some r2.toInt64) := by
  obtain ⟨ht, r2, r3, hT, hF, A, Pt, M, N, hte, hla, h36, hjo, hno, him⟩ := id g
  have hA := hte.1
  have h0 := hte.2.2.2.1
  have h88 : σ.1 88 0 = nI A := hte.2.2.2.2.1
  have hi : j_is 6 (σ.2.2 0 2) = true := by rw [r2]; exact (te_is ht).1
  have hq : r_I (jd jMT 135 93 [.ref (σ.2.2 0 2), .int a] σ) = some (b2i (0 ≤ a ∧ a < nI A), σ) := by
    show r_I (g_Te_isPerson 135 (σ.2.2 0 2) a σ) = _
    rw [r2, c_isPersonT 133 ht a σ h0 hA, rI_s]
  by_cases hp : 0 ≤ a ∧ a < nI A
  · by_cases hw : 0 ≤ b ∧ b ≤ 6
    · obtain ⟨j, hj, rfl⟩ := nI_of (x := a) (Int32.not_lt.mpr hp.1)
      have hpj : ∀ σ' : jS, σ'.1 t 0 = σ.1 t 0 → ∀ A', σ'.1 t 0 = nI A' → A' ≤ 10 → j < A' := fun σ' e A' e' hA' => (nI_ltI hj (by omega)).mp (by rw [← e', e, h0]; exact hp.2)
      obtain ⟨r, -, e1, e2, -⟩ := op_look 133 j b σ t g (hpj σ rfl) hw
      have g1 : jInv (j_setL σ 126 0 r.toInt64) t := g.scr (jep.rf.sL (by simp [jScr]))
      obtain ⟨r', -, e3, e4, -⟩ := op_look 133 j b (j_setL σ 126 0 r.toInt64) t g1 (hpj _ rfl) hw
      have hrr : r' = r := by
        have h := m_look_L 134 (nI j) b σ r.toInt64
        rw [show g_M_look (134 + 2) (nI j) b (j_setL σ 126 0 r.toInt64) = _ from e4, show g_M_look (134 + 2) (nI j) b σ = _ from e2] at h
        cases h; rfl
      subst hrr
      refine ⟨0, j_setL σ 126 0 r'.toInt64, r', j_setI (j_setL σ 126 0 r'.toInt64) 86 0 0, Or.inl ⟨rfl, r', e1, wrL_ok (n := 1) (k := 0) rfl rfl (by omega) (by omega)⟩, e4, setI_same _ _ _ _, g1.th 0, fun _ => ?_⟩
      refine (rdL_ok (a := 126) (n := 1) (k := 0) (i := 0) rfl rfl (by omega) (by omega)).trans ?_
      exact congrArg some (by show (j_setL σ 126 0 r'.toInt64).2.1 126 0 = _; rw [setL_get, if_pos ⟨rfl, rfl⟩])
    · refine ⟨2, σ, 0, j_setI σ 86 0 2, Or.inr ⟨rfl, Or.inr ⟨rfl, hi, 1, ?_, Or.inr ⟨by decide, rfl, hw⟩⟩⟩, m_look_2 134 a b σ (by rw [h88]; exact hp) hw, setI_same _ _ _ _, g.th 2, fun z => absurd z (by decide)⟩
      rw [hq, b2i_t hp]
  · refine ⟨1, σ, 0, j_setI σ 86 0 1, Or.inr ⟨rfl, Or.inl ⟨rfl, hi, 0, ?_, Or.inl ⟨rfl, rfl⟩⟩⟩, m_look_1 134 a b σ (by rw [h88]; exact hp), setI_same _ _ _ _, g.th 1, fun z => absurd z (by decide)⟩
    rw [hq, b2i_f hp]
