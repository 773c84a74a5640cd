/-! kept, and the call law. -/
noncomputable def mk_age (σ : jS) (P : Nat) : Int32 := @ite _ (σ.1 86 30 = 1) (Classical.propDecidable _) 0 (σ.1 90 P)
theorem m_ageOf (d : Nat) (P : Nat) (hP : P < 20) (σ : jS) : g_M_ageOf (d + 1) (nI P) σ = some (some (.int (mk_age σ P)), σ) := by
  rw [e_M_ageOf, q_M_ageOf_0, q_M_ageOf_1, rdI_ok (a := 90) (n := 20) rfl rfl hP (by omega)]
  simp only [Option.bind_some]
  rw [q_M_ageOf_2, q_M_ageOf_2]
  unfold mk_age
  by_cases h : σ.1 86 30 = 1
  · rw [jif_t h, if_pos h]
  · rw [jif_f h, if_neg h]
/-- what the reference keeps of coins -/
noncomputable def mk_sh (σ : jS) (t L : Nat) (coins : Int32) (P : Nat) (a b place hour : Int32) : Int32 :=
  @ite _ (coins - coins / 2 * 2 = 0 ∨ σ.1 86 30 = 4) (Classical.propDecidable _) (coins / 2) (@ite _ (σ.1 86 30 = 3 ∧ σ.1 86 31 = nI P) (Classical.propDecidable _) (coins / 2 + 1) (@ite _ (lw_odd σ t L coins a b place hour) (Classical.propDecidable _) (coins / 2 + 1) (coins / 2)))
theorem lw_run_len {nm : Nat → Int64} {kk nn : Nat → Int32} : ∀ (c i : Nat) (st r : List Int64) (m : Nat), wf_r kk c i st.length = some m → lw_run nm kk nn c i st = some r → r.length = m
  | 0, _, st, r, m, hw, hr => by cases hr; exact Option.some.inj hw
  | c + 1, i, st, r, m, hw, hr => by
    unfold wf_r at hw
    obtain ⟨dq, hd, hw⟩ := Option.bind_eq_some_iff.mp hw
    unfold lw_run at hr
    obtain ⟨s, hs, hr⟩ := Option.bind_eq_some_iff.mp hr
    refine lw_run_len c (i + 1) s r m ?_ hr
    have e : s.length = dq := by
      unfold lw_step at hs
      rcases wf_d_cases hd with ⟨⟨-, h5⟩ | h17, hq⟩ | ⟨h14, h1, hq⟩ | ⟨hop, h2, hq⟩
      · rw [if_pos h5] at hs; cases hs; rw [hq]; rfl
      · rw [h17, if_neg (by decide), if_pos rfl] at hs; cases hs; rw [hq]; rfl
      · rw [h14, if_neg (by decide), if_neg (by decide), if_pos rfl] at hs
        match st, h1, hs, hq with
        | y :: q, _, hs, hq => cases hs; rw [hq]; rfl
      · obtain ⟨o1, o2, o3⟩ := op_k hop
        rw [if_neg o1, if_neg o2, if_neg o3] at hs
        match st, h2, hs, hq with
        | y :: x :: q, _, hs, hq =>
          by_cases hb : lw_top < lw_j (kk i) x y ∨ lw_j (kk i) x y < -lw_top
          · have hs : (if lw_top < lw_j (kk i) x y ∨ lw_j (kk i) x y < -lw_top then none else some (lw_j (kk i) x y :: q)) = some s := hs
            rw [if_pos hb] at hs; cases hs
          · have hs : (if lw_top < lw_j (kk i) x y ∨ lw_j (kk i) x y < -lw_top then none else some (lw_j (kk i) x y :: q)) = some s := hs
            rw [if_neg hb] at hs; cases hs; rw [hq]; rfl
    rw [e]
    exact hw
/-- goes, and what comes of it, is 'the odd one stays' -/
theorem odd_goes {σ : jS} {t L : Nat} {s e : Nat} {coins a b place hour : Int32} (hn : ¬ (L = 4 ∧ σ.1 (t + 10) 1 = 0)) (es : σ.1 (t + 13) L = nI s) (ee : σ.1 (t + 14) L = nI e) (hs : s < 2 ^ 31) (he : e < 2 ^ 31) (hw : wf_r (σ.1 (t + 11)) (e - s) s 0 = some 1) :
    lw_odd σ t L coins a b place hour ↔ (lw_run (fun k => (lw_ns coins a b place hour k).toInt64) (σ.1 (t + 11)) (σ.1 (t + 12)) (e - s) s [] ≠ none ∧ lw_V (σ.1 (t + 11)) (σ.1 (t + 12)) s e (lw_ns coins a b place hour) ≠ 0) := by
  have c1 : (σ.1 (t + 13) L).toNatClampNeg = s := by rw [es, nI_clamp hs]
  have c2 : (σ.1 (t + 14) L).toNatClampNeg = e := by rw [ee, nI_clamp he]
  have hl := lw_V_err (kk := σ.1 (t + 11)) (nn := σ.1 (t + 12)) (s := s) (e := e) (ns := lw_ns coins a b place hour)
  unfold lw_odd
  rw [c1, c2]
  constructor
  · intro q
    rcases q with ⟨q1, q2, -⟩ | ⟨-, q1, q2⟩
    · exact absurd ⟨q1, q2⟩ hn
    · exact ⟨fun z => q2 (hl.1 z), q1⟩
  · intro ⟨q1, q2⟩
    refine Or.inr ⟨hn, q2, fun z => ?_⟩
    cases hr : lw_run (fun k => (lw_ns coins a b place hour k).toInt64) (σ.1 (t + 11)) (σ.1 (t + 12)) (e - s) s [] with
    | none => exact q1 hr
    | some r =>
      have := hl.2 z r hr
      subst this
      have := lw_run_len (e - s) s [] [] 1 hw hr
      cases this
theorem m_kept (d : Nat) {t L Ls : Nat} (ht : jTe t) (coins : Int32) (P O : Nat) (hP : P < 20) (hO : O < 20) (place hour : Int32) (σ : jS) (hl : lawR σ t L Ls) (hby : σ.1 86 32 = nI Ls) :
    ∃ σ', g_M_kept (d + 4) coins (nI P) (nI O) place hour σ = some (some (.int (mk_sh σ t L coins P (mk_age σ P) (mk_age σ O) place hour)), σ') ∧ jep ml_S σ σ' := by
  rw [e_M_kept, q_M_kept_0, q_M_kept_1]
  unfold mk_sh
  by_cases h0 : coins - coins / 2 * 2 = 0
  · rw [jif_t h0, if_pos (Or.inl h0)]; exact ⟨σ, rfl, jep.rf⟩
  rw [jif_f h0]
  by_cases h4 : σ.1 86 30 = 4
  · rw [jif_t h4, if_pos (Or.inr h4)]; exact ⟨σ, rfl, jep.rf⟩
  rw [jif_f h4, if_neg (fun q => q.elim h0 h4), q_M_kept_2]
  have go3 : ∃ σ', b_M_kept_3 (d + 3) coins (nI P) (nI O) place hour (coins / 2) σ = some (some (.int (@ite _ (lw_odd σ t L coins (mk_age σ P) (mk_age σ O) place hour) (Classical.propDecidable _) (coins / 2 + 1) (coins / 2))), σ') ∧ jep ml_S σ σ' := by
    obtain ⟨hLs, hL, hl⟩ := hl
    rw [q_M_kept_3, hby, rdI_ok (a := 99) (n := 10) rfl rfl (by omega) (by omega)]
    simp only [Option.bind_some]
    rw [rdI_ok (a := 98) (n := 10) rfl rfl (by omega) (by omega)]
    simp only [Option.bind_some]
    rcases hl with ⟨l1, l2, l3⟩ | ⟨l1, s, e, l2, l3, l4, l5, l6, l7, l8, l9⟩
    · rw [jif_t l3.symm, m_ageOf (d + 2) P hP, rI_s]
      simp only [Option.bind_some]
      rw [m_ageOf (d + 2) O hO, rI_s]
      simp only [Option.bind_some]
      rw [q_M_kept_4, q_M_kept_5, q_M_kept_5]
      refine ⟨σ, ?_, jep.rf⟩
      by_cases ha : mk_age σ P ≤ mk_age σ O
      · have hn : ¬ lw_odd σ t L coins (mk_age σ P) (mk_age σ O) place hour := fun q => by
          rcases q with ⟨-, -, q⟩ | ⟨q, -⟩
          · exact q ha
          · exact q ⟨l1, l2⟩
        rw [jif_t ha, if_neg hn]
      · have hn : lw_odd σ t L coins (mk_age σ P) (mk_age σ O) place hour := Or.inl ⟨l1, l2, ha⟩
        rw [jif_f ha, if_pos hn]
    · have hne : ¬ σ.1 99 Ls = σ.1 98 Ls := by
        rw [l6, l7]
        intro q
        have := (nI_eq (by omega) (by omega)).mp q
        omega
      have hnot : ¬ (L = 4 ∧ σ.1 (t + 10) 1 = 0) := fun q => by
        have h3 := l1 q.1
        rw [q.2] at h3
        exact absurd h3 (by decide)
      rw [jif_f hne, q_M_kept_6, m_ageOf (d + 2) P hP, rI_s]
      simp only [Option.bind_some]
      rw [m_ageOf (d + 2) O hO, rI_s]
      simp only [Option.bind_some]
      obtain ⟨σ1, a1, a2, a3⟩ := m_lays (d + 1) coins (mk_age σ P) (mk_age σ O) place hour σ
      rw [a1, rV_s]
      simp only [Option.bind_some]
      have cI : ∀ b, b ≠ 102 → σ1.1 b = σ.1 b := fun b hb => a2.cellI (fun j q => hb q)
      rw [cI 86 (by omega), hby]
      obtain ⟨σ2, g1, g2, g3⟩ := m_goes d (t := t) (L := L) (Ls := Ls) (lw_ns coins (mk_age σ P) (mk_age σ O) place hour) σ1 s e hLs (by omega) l3 (by rw [cI 98 (by omega)]; exact l6) (by rw [cI 99 (by omega)]; exact l7) (by rw [cI (t + 11) (by rcases ht with rfl | rfl <;> omega)]; exact l8) (by
        rw [cI (t + 11) (by rcases ht with rfl | rfl <;> omega), cI (t + 12) (by rcases ht with rfl | rfl <;> omega), cI 100 (by omega), cI 101 (by omega)]
        exact l9) a3
      rw [cI (t + 11) (by rcases ht with rfl | rfl <;> omega), cI (t + 12) (by rcases ht with rfl | rfl <;> omega)] at g1 g3
      rw [g1, rI_s]
      simp only [Option.bind_some]
      rw [q_M_kept_7, q_M_kept_8, rdL_ok (a := 103) (n := 64) (i := 0) (k := 0) rfl rfl (by omega) (by omega)]
      simp only [Option.bind_some, lg_cmp_eq]
      have hiff := odd_goes (coins := coins) (a := mk_age σ P) (b := mk_age σ O) (place := place) (hour := hour) hnot l4 l5 (by omega) (by omega) l8
      refine ⟨σ2, ?_, (a2.mono (fun b j h => Or.inr (Or.inl h))).tr (g2.mono (fun b j h => h.elim Or.inl (fun z => Or.inr (Or.inr z))))⟩
      by_cases hr : lw_run (fun k => (lw_ns coins (mk_age σ P) (mk_age σ O) place hour k).toInt64) (σ.1 (t + 11)) (σ.1 (t + 12)) (e - s) s [] ≠ none
      · rw [b2i_t hr, jif_f (by decide), g3 hr, q_M_kept_8]
        by_cases hv : lw_V (σ.1 (t + 11)) (σ.1 (t + 12)) s e (lw_ns coins (mk_age σ P) (mk_age σ O) place hour) = 0
        · rw [jif_t hv, if_neg (fun q => (hiff.mp q).2 hv)]
        · rw [jif_f hv, if_pos (hiff.mpr ⟨hr, hv⟩)]
      · rw [b2i_f hr, jif_t rfl, if_neg (fun q => hr (hiff.mp q).1)]
  by_cases h3 : σ.1 86 30 = 3
  · rw [jif_t h3]
    by_cases h31 : σ.1 86 31 = nI P
    · rw [jif_t h31, if_pos ⟨h3, h31⟩]; exact ⟨σ, rfl, jep.rf⟩
    · rw [jif_f h31, if_neg (fun q => h31 q.2)]; exact go3
  · rw [jif_f h3, if_neg (fun q => h3 q.1)]; exact go3
