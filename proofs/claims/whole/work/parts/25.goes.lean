/-! goes, lays, kept: the reference's side. -/
/-- a knot of the class and the same one of the reference -/
def tokR (k v s w : Int32) : Prop := ((0 ≤ k ∧ k ≤ 5) ∧ s = 1 ∧ w = k) ∨ (k = 17 ∧ s = 0 ∧ w = v) ∨ (k = 14 ∧ s = 2 ∧ w = 260) ∨ (lw_op k ∧ s = 2 ∧ w = lw_cd k)
theorem lw_in_j {k : Int32} {x y : Int64} (h : ¬ (lw_top < lw_j k x y ∨ lw_j k x y < -lw_top)) : lw_in (lw_j k x y) := ⟨fun q => h (Or.inl q), fun q => h (Or.inr q)⟩
theorem lw_in_i (x : Int32) : lw_in x.toInt64 := nI_i64 x
theorem lw_in_01 (y : Int64) : lw_in (if y = 0 then 1 else 0) := by
  by_cases h : y = 0
  · rw [if_pos h]; exact ⟨by decide, by decide⟩
  · rw [if_neg h]; exact ⟨by decide, by decide⟩
theorem wf_tok {k v s w : Int32} {dp dq : Nat} (h : wf_d k dp = some dq) (ht : tokR k v s w) : ((0 ≤ k ∧ k ≤ 5) ∧ s = 1 ∧ w = k ∧ dq = dp + 1) ∨ (k = 17 ∧ s = 0 ∧ w = v ∧ dq = dp + 1) ∨ (k = 14 ∧ s = 2 ∧ w = 260 ∧ 1 ≤ dp ∧ dq = dp) ∨ (lw_op k ∧ s = 2 ∧ w = lw_cd k ∧ 2 ≤ dp ∧ dq = dp - 1) := by
  have n17 : ¬ ((0 : Int32) ≤ 14 ∧ (14 : Int32) ≤ 5) := by decide
  rcases wf_d_cases h with ⟨h1 | h1, hq⟩ | ⟨h1, h2, hq⟩ | ⟨h1, h2, hq⟩
  · rcases ht with ⟨t1, t2, t3⟩ | ⟨t1, t2, t3⟩ | ⟨t1, t2, t3⟩ | ⟨t1, t2, t3⟩
    · exact Or.inl ⟨h1, t2, t3, hq⟩
    · subst t1; exact absurd h1.2 (by decide)
    · subst t1; exact absurd h1.2 (by decide)
    · exact absurd h1.2 (op_k t1).1
  · rcases ht with ⟨t1, t2, t3⟩ | ⟨t1, t2, t3⟩ | ⟨t1, t2, t3⟩ | ⟨t1, t2, t3⟩
    · subst h1; exact absurd t1.2 (by decide)
    · exact Or.inr (Or.inl ⟨h1, t2, t3, hq⟩)
    · subst h1; exact absurd t1 (by decide)
    · exact absurd h1 (op_k t1).2.1
  · rcases ht with ⟨t1, t2, t3⟩ | ⟨t1, t2, t3⟩ | ⟨t1, t2, t3⟩ | ⟨t1, t2, t3⟩
    · subst h1; exact absurd t1.2 (by decide)
    · subst h1; exact absurd t1 (by decide)
    · exact Or.inr (Or.inr (Or.inl ⟨h1, t2, t3, h2, hq⟩))
    · exact absurd h1 (op_k t1).2.2
  · rcases ht with ⟨t1, t2, t3⟩ | ⟨t1, t2, t3⟩ | ⟨t1, t2, t3⟩ | ⟨t1, t2, t3⟩
    · exact absurd t1.2 (op_k h1).1
    · exact absurd t1 (op_k h1).2.1
    · exact absurd t1 (op_k h1).2.2
    · exact Or.inr (Or.inr (Or.inr ⟨h1, t2, t3, h2, hq⟩))
theorem m_goes_l (d : Nat) (Ls : Nat) (hLs : Ls < 10) (e : Nat) (he : e ≤ 64) (kk nn : Nat → Int32) (kS kV : Nat → Int32) (nm : Nat → Int64) : ∀ (c i : Nat) (st : List Int64) (σ : jS), i + c = e → st.length ≤ i → σ.1 99 Ls = nI e → σ.1 100 = kS → σ.1 101 = kV → (∀ k, k < 6 → σ.2.1 102 k = nm k) → (∀ j, i ≤ j → j < e → tokR (kk j) (nn j) (kS j) (kV j)) → mst σ st → (∀ v ∈ st, lw_in v) → (∀ k, k < 6 → lw_in (nm k)) → wf_r kk c i st.length = some 1 →
    ∃ σ', b_M_goes_1 (d + 2) (nI Ls) (nI i) σ = some (some (.int (b2i (lw_run nm kk nn c i st ≠ none))), σ') ∧ jep mw_S σ σ' ∧ (∀ r, lw_run nm kk nn c i st = some r → ∃ v, r = [v] ∧ σ'.2.1 103 0 = v)
  | 0, i, st, σ, hi, hs, hE, hS, hV, hnm, htk, hst, hin, hnb, hw => by
    have hl : st.length = 1 := Option.some.inj hw
    rw [q_M_goes_1, rdI_ok (a := 99) (n := 10) rfl rfl hLs (by omega), hE]
    simp only [Option.bind_some]
    rw [jif_t (nI_le (by omega) (by omega)), q_M_goes_6]
    have hr : lw_run nm kk nn 0 i st ≠ none := fun q => by cases q
    rw [b2i_t hr]
    refine ⟨σ, rfl, jep.rf, fun r hr => ?_⟩
    cases hr
    match st, hl, hst with
    | [v], _, hst => exact ⟨v, rfl, hst.2.1⟩
  | c + 1, i, st, σ, hi, hs, hE, hS, hV, hnm, htk, hst, hin, hnb, hw => by
    unfold wf_r at hw
    obtain ⟨dq, hd, hw⟩ := Option.bind_eq_some_iff.mp hw
    have hrun : lw_run nm kk nn (c + 1) i st = (lw_step nm (kk i) (nn i) st).bind fun s => lw_run nm kk nn c (i + 1) s := rfl
    rw [q_M_goes_1, rdI_ok (a := 99) (n := 10) rfl rfl hLs (by omega), hE]
    simp only [Option.bind_some]
    rw [jif_f (nI_ge (by omega) (by omega)), rdI_ok (a := 100) (n := 128) rfl rfl (by omega) (by omega), hS]
    simp only [Option.bind_some]
    -- a push
    have push : ∀ v : Int64, lw_in v → lw_step nm (kk i) (nn i) st = some (v :: st) → wf_r kk c (i + 1) (st.length + 1) = some 1 → ∃ σ', b_M_goes_4 (d + 2) (nI Ls) (nI i) (nI st.length) v σ = some (some (.int (b2i (lw_run nm kk nn (c + 1) i st ≠ none))), σ') ∧ jep mw_S σ σ' ∧ (∀ r, lw_run nm kk nn (c + 1) i st = some r → ∃ v, r = [v] ∧ σ'.2.1 103 0 = v) := by
      intro v hv hstep hw
      rw [q_M_goes_4, wrL_ok (a := 103) (n := 64) rfl rfl (by omega) (by omega)]
      simp only [Option.bind_some]
      have e1 : (j_setL σ 103 st.length v).1 86 35 = nI st.length := hst.1
      rw [e1, nI_1, q_M_goes_5, nI_1, hrun, hstep]
      obtain ⟨σ', g1, g2, g3⟩ := m_goes_l d Ls hLs e he kk nn kS kV nm c (i + 1) (v :: st) (j_setI (j_setL σ 103 st.length v) 86 35 (nI (st.length + 1))) (by omega) (by simp only [List.length_cons]; omega) (by rw [setI_ne (by omega)]; exact hE) (by rw [j_setI_ne (by omega)]; exact hS) (by rw [j_setI_ne (by omega)]; exact hV) (fun k hk => by
          have : (j_setI (j_setL σ 103 st.length v) 86 35 (nI (st.length + 1))).2.1 102 k = σ.2.1 102 k := by
            show (if 102 = 103 ∧ k = st.length then v else σ.2.1 102 k) = _
            rw [if_neg (by omega)]
          rw [this]; exact hnm k hk) (fun j h1 h2 => htk j (by omega) h2) ⟨setI_same _ _ _ _, by
          show stk ((j_setL σ 103 st.length v).2.1 103) _
          rw [setL_up]; exact stk_push hst.2⟩ (fun w hw => by
          rcases List.mem_cons.mp hw with rfl | hw
          · exact hv
          · exact hin w hw) hnb hw
      exact ⟨σ', g1, ((jep.rf.sL (Or.inl rfl)).sI (Or.inr ⟨rfl, rfl⟩)).tr g2, g3⟩
    rcases wf_tok hd (htk i (Nat.le_refl i) (by omega)) with ⟨h05, hs1, hw1, hq⟩ | ⟨h17, hs1, hw1, hq⟩ | ⟨h14, hs1, hw1, h1, hq⟩ | ⟨hop, hs1, hw1, h2, hq⟩
    · subst hq
      obtain ⟨ek, hk6⟩ := k05 h05.1 h05.2
      rw [hs1, jif_f (by decide), q_M_goes_2, rdI_ok (a := 100) (n := 128) rfl rfl (by omega) (by omega), hS, hs1]
      simp only [Option.bind_some]
      rw [jif_f (by decide), q_M_goes_3, rdI_ok (a := 101) (n := 128) rfl rfl (by omega) (by omega), hV, hw1]
      simp only [Option.bind_some]
      rw [rdL_ok (a := 102) (n := 6) rfl ek hk6 (by omega), hnm _ hk6, hst.1]
      simp only [Option.bind_some]
      exact push _ (hnb _ hk6) (by unfold lw_step; rw [if_pos h05.2]) hw
    · subst hq
      rw [hs1, jif_f (by decide), q_M_goes_2, rdI_ok (a := 100) (n := 128) rfl rfl (by omega) (by omega), hS, hs1]
      simp only [Option.bind_some]
      rw [jif_t trivial, rdI_ok (a := 101) (n := 128) rfl rfl (by omega) (by omega), hV, hw1, hst.1]
      simp only [Option.bind_some]
      exact push _ (lw_in_i _) (by unfold lw_step; rw [h17, if_neg (by decide), if_pos rfl]) hw
    · subst hq
      rw [hs1, jif_t rfl, rdI_ok (a := 101) (n := 128) rfl rfl (by omega) (by omega), hV, hw1]
      simp only [Option.bind_some]
      match st, hst, h1, hs, hw, hin, push with
      | y :: s, hst, _, hs, hw, hin, _ =>
        simp only [List.length_cons] at hs hw ⊢
        obtain ⟨w1, w2⟩ := m_works_not d y s (by omega) σ hst
        rw [w1, rI_s]
        simp only [Option.bind_some]
        have hstep : lw_step nm (kk i) (nn i) (y :: s) = some ((if y = 0 then 1 else 0) :: s) := by unfold lw_step; rw [h14, if_neg (by decide), if_neg (by decide), if_pos rfl]
        rw [jif_f (by decide), q_M_goes_5, nI_1, hrun, hstep]
        obtain ⟨σ', g1, g2, g3⟩ := m_goes_l d Ls hLs e he kk nn kS kV nm c (i + 1) ((if y = 0 then 1 else 0) :: s) (j_setL σ 103 s.length (if y = 0 then 1 else 0)) (by omega) (by simp only [List.length_cons]; omega) hE hS hV (fun k hk => by
          have : (j_setL σ 103 s.length (if y = 0 then 1 else 0)).2.1 102 k = σ.2.1 102 k := by rw [setL_get, if_neg (by omega)]
          rw [this]; exact hnm k hk) (fun j h1 h2 => htk j (by omega) h2) w2 (fun w hw => by
          rcases List.mem_cons.mp hw with rfl | hw
          · exact lw_in_01 y
          · exact hin w (List.mem_cons_of_mem _ hw)) hnb hw
        exact ⟨σ', g1, (jep.rf.sL (Or.inl rfl)).tr g2, g3⟩
    · subst hq
      rw [hs1, jif_t rfl, rdI_ok (a := 101) (n := 128) rfl rfl (by omega) (by omega), hV, hw1]
      simp only [Option.bind_some]
      match st, hst, h2, hs, hw, hin, push with
      | y :: x :: s, hst, _, hs, hw, hin, _ =>
        simp only [List.length_cons] at hs hw ⊢
        obtain ⟨o1, o2, o3⟩ := op_k hop
        obtain ⟨σ1, w1, w2, w3⟩ := m_works_op d hop x y s (by omega) (hin x (by simp)) (hin y (by simp)) σ hst
        rw [w1, rI_s]
        simp only [Option.bind_some]
        have hstep : lw_step nm (kk i) (nn i) (y :: x :: s) = if lw_top < lw_j (kk i) x y ∨ lw_j (kk i) x y < -lw_top then none else some (lw_j (kk i) x y :: s) := by
          unfold lw_step
          rw [if_neg o1, if_neg o2, if_neg o3]
        rw [hrun, hstep]
        by_cases hb : lw_top < lw_j (kk i) x y ∨ lw_j (kk i) x y < -lw_top
        · rw [b2i_f (fun q => q hb), jif_t rfl, if_pos hb, b2i_f (fun q => q rfl)]
          exact ⟨σ1, rfl, w2, fun r hr => by cases hr⟩
        · rw [b2i_t hb, jif_f (by decide), if_neg hb, q_M_goes_5, nI_1]
          have cI : ∀ b, b ≠ 103 → b ≠ 86 → σ1.1 b = σ.1 b := fun b h1 h2 => w2.cellI (fun j q => q.elim h1 (fun z => h2 z.1))
          have cL : σ1.2.1 102 = σ.2.1 102 := w2.cellL (fun j q => q.elim (by omega) (fun z => by omega))
          obtain ⟨σ', g1, g2, g3⟩ := m_goes_l d Ls hLs e he kk nn kS kV nm c (i + 1) (lw_j (kk i) x y :: s) σ1 (by omega) (by simp only [List.length_cons]; omega) (by rw [cI 99 (by omega) (by omega)]; exact hE) (by rw [cI 100 (by omega) (by omega)]; exact hS) (by rw [cI 101 (by omega) (by omega)]; exact hV) (fun k hk => by rw [cL]; exact hnm k hk) (fun j h1 h2 => htk j (by omega) h2) (w3 hb) (fun w hw => by
            rcases List.mem_cons.mp hw with rfl | hw
            · exact lw_in_j hb
            · exact hin w (List.mem_cons_of_mem _ (List.mem_cons_of_mem _ hw))) hnb hw
          exact ⟨σ', g1, w2.tr g2, g3⟩
def ml_S : Nat → Nat → Prop := fun b j => b = 103 ∨ b = 102 ∨ (b = 86 ∧ j = 35)
theorem m_lays (d : Nat) (coins age next place hour : Int32) (σ : jS) : ∃ σ', g_M_lays (d + 2) coins age next place hour σ = some (none, σ') ∧ jep (fun b _ => b = 102) σ σ' ∧ ∀ k, k < 6 → σ'.2.1 102 k = (lw_ns coins age next place hour k).toInt64 := by
  rw [e_M_lays, q_M_lays_0, wrL_ok (a := 102) (n := 6) (i := 0) (k := 0) rfl rfl (by omega) (by omega)]
  simp only [Option.bind_some]
  rw [wrL_ok (a := 102) (n := 6) (i := 1) (k := 1) rfl rfl (by omega) (by omega)]
  simp only [Option.bind_some]
  rw [wrL_ok (a := 102) (n := 6) (i := 2) (k := 2) rfl rfl (by omega) (by omega)]
  simp only [Option.bind_some]
  rw [q_M_lays_1, jif_pick (age ≤ next) inferInstance (fun z => b_M_lays_2 (d + 1) place hour 3 z _) 0 1, q_M_lays_2, m_is, rL_s]
  simp only [Option.bind_some]
  rw [wrL_ok (a := 102) (n := 6) (i := 3) (k := 3) rfl rfl (by omega) (by omega)]
  simp only [Option.bind_some]
  rw [wrL_ok (a := 102) (n := 6) (i := 4) (k := 4) rfl rfl (by omega) (by omega)]
  simp only [Option.bind_some]
  rw [wrL_ok (a := 102) (n := 6) (i := 5) (k := 5) rfl rfl (by omega) (by omega)]
  refine ⟨_, rfl, ?_, ?_⟩
  · iterate 6 refine jep.sL ?_ rfl
    exact jep.rf
  · intro k hk
    by_cases h : age ≤ next
    · rcases (show k = 0 ∨ k = 1 ∨ k = 2 ∨ k = 3 ∨ k = 4 ∨ k = 5 by omega) with rfl | rfl | rfl | rfl | rfl | rfl <;> simp [setL_get, lw_ns, h]
    · rcases (show k = 0 ∨ k = 1 ∨ k = 2 ∨ k = 3 ∨ k = 4 ∨ k = 5 by omega) with rfl | rfl | rfl | rfl | rfl | rfl <;> simp [setL_get, lw_ns, h]
/-- the reference's law numbered Ls is the class's numbered L of the telling t -/
def lawR (σ : jS) (t L Ls : Nat) : Prop := Ls < 5 ∧ L < 5 ∧
  ((L = 4 ∧ σ.1 (t + 10) 1 = 0 ∧ σ.1 98 Ls = σ.1 99 Ls) ∨
   ((L = 4 → σ.1 (t + 10) 1 = 1) ∧ ∃ s e : Nat, s < e ∧ e ≤ 64 ∧ σ.1 (t + 13) L = nI s ∧ σ.1 (t + 14) L = nI e ∧ σ.1 98 Ls = nI s ∧ σ.1 99 Ls = nI e ∧ wf_r (σ.1 (t + 11)) (e - s) s 0 = some 1 ∧ ∀ j, s ≤ j → j < e → tokR (σ.1 (t + 11) j) (σ.1 (t + 12) j) (σ.1 100 j) (σ.1 101 j)))
theorem lawR.W {σ : jS} {t L Ls : Nat} (h : lawR σ t L Ls) : laW σ t L := by
  rcases h.2.2 with ⟨h1, h2, -⟩ | ⟨h1, s, e, h2, h3, h4, h5, -, -, h6, -⟩
  · exact Or.inl ⟨h1, h2⟩
  · exact Or.inr ⟨h1, s, e, Nat.le_of_lt h2, h3, h4, h5, h6⟩
theorem lw_fin_none {nm : Nat → Int64} {kk nn : Nat → Int32} {c i : Nat} {st : List Int64} (h : lw_run nm kk nn c i st = none) : lw_fin (lw_run nm kk nn c i st) = lw_err := by rw [h]; rfl
theorem m_goes (d : Nat) {t L Ls : Nat} (ns : Nat → Int32) (σ : jS) (s e : Nat) (hLs : Ls < 5) (hse : s ≤ e) (he : e ≤ 64) (h98 : σ.1 98 Ls = nI s) (h99 : σ.1 99 Ls = nI e) (hw : wf_r (σ.1 (t + 11)) (e - s) s 0 = some 1) (htk : ∀ j, s ≤ j → j < e → tokR (σ.1 (t + 11) j) (σ.1 (t + 12) j) (σ.1 100 j) (σ.1 101 j)) (hnm : ∀ k, k < 6 → σ.2.1 102 k = (ns k).toInt64) :
    ∃ σ', g_M_goes (d + 3) (nI Ls) σ = some (some (.int (b2i (lw_run (fun k => (ns k).toInt64) (σ.1 (t + 11)) (σ.1 (t + 12)) (e - s) s [] ≠ none))), σ') ∧ jep mw_S σ σ' ∧ (lw_run (fun k => (ns k).toInt64) (σ.1 (t + 11)) (σ.1 (t + 12)) (e - s) s [] ≠ none → σ'.2.1 103 0 = lw_V (σ.1 (t + 11)) (σ.1 (t + 12)) s e ns) := by
  rw [e_M_goes, q_M_goes_0, rdI_ok (a := 98) (n := 10) rfl rfl (by omega) (by omega), setI_ne (by omega), h98]
  simp only [Option.bind_some]
  obtain ⟨σ', g1, g2, g3⟩ := m_goes_l d Ls (by omega) e he (σ.1 (t + 11)) (σ.1 (t + 12)) (σ.1 100) (σ.1 101) (fun k => (ns k).toInt64) (e - s) s [] (j_setI σ 86 35 0) (by omega) (Nat.zero_le _) (by rw [setI_ne (by omega)]; exact h99) (j_setI_ne (by omega)) (j_setI_ne (by omega)) hnm htk ⟨setI_same _ _ _ _, trivial⟩ (fun v hv => by cases hv) (fun k _ => lw_in_i _) hw
  refine ⟨σ', g1, (jep.rf.sI (Or.inr ⟨rfl, rfl⟩)).tr g2, fun hne => ?_⟩
  unfold lw_V
  cases hr : lw_run (fun k => (ns k).toInt64) (σ.1 (t + 11)) (σ.1 (t + 12)) (e - s) s [] with
  | none => exact absurd hr hne
  | some r =>
    obtain ⟨v, rfl, hv⟩ := g3 r hr
    exact hv
/-- the value of a program that isn't given up is in bounds -/
theorem lw_run_in {nm : Nat → Int64} {kk nn : Nat → Int32} (hnm : ∀ k, k < 6 → lw_in (nm k)) : ∀ (c i : Nat) (st r : List Int64), (∀ v ∈ st, lw_in v) → lw_run nm kk nn c i st = some r → ∀ v ∈ r, lw_in v
  | 0, _, st, r, h, hr => by cases hr; exact h
  | c + 1, i, st, r, h, hr => by
    unfold lw_run at hr
    obtain ⟨s, hs, hr⟩ := Option.bind_eq_some_iff.mp hr
    refine lw_run_in hnm c (i + 1) s r ?_ hr
    unfold lw_step at hs
    by_cases h5 : kk i ≤ 5
    · rw [if_pos h5] at hs; cases hs
      intro v hv
      rcases List.mem_cons.mp hv with rfl | hv
      · exact hnm _ (clamp5 h5)
      · exact h v hv
    · rw [if_neg h5] at hs
      by_cases h17 : kk i = 17
      · rw [if_pos h17] at hs; cases hs
        intro v hv
        rcases List.mem_cons.mp hv with rfl | hv
        · exact lw_in_i _
        · exact h v hv
      · rw [if_neg h17] at hs
        by_cases h14 : kk i = 14
        · rw [if_pos h14] at hs
          match st, h, hs with
          | y :: q, h, hs =>
            cases hs
            intro v hv
            rcases List.mem_cons.mp hv with rfl | hv
            · exact lw_in_01 y
            · exact h v (List.mem_cons_of_mem _ hv)
        · rw [if_neg h14] at hs
          match st, h, hs with
          | y :: x :: q, h, hs =>
            by_cases hb : lw_top < lw_j (kk i) x y ∨ lw_j (kk i) x y < -lw_top
            · have hs : (if lw_top < lw_j (kk i) x y ∨ lw_j (kk i) x y < -lw_top then none else some (lw_j (kk i) x y :: q)) = some s := hs
              rw [if_pos hb] at hs; cases hs
            · have hs : (if lw_top < lw_j (kk i) x y ∨ lw_j (kk i) x y < -lw_top then none else some (lw_j (kk i) x y :: q)) = some s := hs
              rw [if_neg hb] at hs; cases hs
              intro v hv
              rcases List.mem_cons.mp hv with rfl | hv
              · exact lw_in_j hb
              · exact h v (List.mem_cons_of_mem _ (List.mem_cons_of_mem _ hv))
theorem lw_in_err : ¬ lw_in lw_err := fun h => h.2 (by decide)
theorem lw_V_err {kk nn : Nat → Int32} {s e : Nat} {ns : Nat → Int32} : (lw_run (fun k => (ns k).toInt64) kk nn (e - s) s [] = none → lw_V kk nn s e ns = lw_err) ∧ (lw_V kk nn s e ns = lw_err → ∀ r, lw_run (fun k => (ns k).toInt64) kk nn (e - s) s [] = some r → r = []) := by
  unfold lw_V
  refine ⟨fun h => by rw [h]; rfl, fun h r hr => ?_⟩
  rw [hr] at h
  match r, h, hr with
  | [], _, _ => rfl
  | v :: q, h, hr =>
    exfalso
    have hv := lw_run_in (fun k _ => lw_in_i _) (e - s) s [] (v :: q) (fun v hv => by cases hv) hr v (by simp)
    have h : v = lw_err := h
    rw [h] at hv
    exact lw_in_err hv
