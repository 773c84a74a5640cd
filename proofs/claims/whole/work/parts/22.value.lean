/-! Laws.value: the class's side. -/
theorem jeq.sI {S : Nat → Prop} {σ σ' : jS} {a k : Nat} {v : Int32} (h : jeq S σ σ') (ha : S a) : jeq S σ (j_setI σ' a k v) := h.tr (jeq.setI ha)
theorem jeq.sL {S : Nat → Prop} {σ σ' : jS} {a k : Nat} {v : Int64} (h : jeq S σ σ') (ha : S a) : jeq S σ (j_setL σ' a k v) := h.tr (jeq.setL ha)
theorem jeq.sR {S : Nat → Prop} {σ σ' : jS} {a k v : Nat} (h : jeq S σ σ') (ha : S a) : jeq S σ (j_setR σ' a k v) := h.tr (jeq.setR ha)
theorem op_k {k : Int32} (h : lw_op k) : ¬ k ≤ 5 ∧ ¬ k = 17 ∧ ¬ k = 14 := by
  unfold lw_op at h
  rcases h with rfl | rfl | rfl | rfl | rfl | rfl | rfl | rfl | rfl | rfl | rfl | rfl | rfl <;> exact ⟨by decide, by decide, by decide⟩
theorem setL_up (σ : jS) (a k : Nat) (v : Int64) : (j_setL σ a k v).2.1 a = vp_updL (σ.2.1 a) k v := j_setL_arr σ a k v
/-- behind a knot: the top is looked at -/
theorem c_val9 (d : Nat) {t : Nat} (ht : jTe t) (L : Int32) (n : Nat) (hn : n < 64) (i : Int32) (σ : jS) : b_La_value_9 d (t + 10) L (nI (n + 1)) i σ = if lw_top < σ.2.1 (t + 16) n ∨ σ.2.1 (t + 16) n < -lw_top then some (some (.long lw_err), σ) else b_La_value_3 d (t + 10) L (nI (n + 1)) (i + 1) σ := by
  rw [q_La_value_9, q_La_value_10, q_La_value_11, (te_is ht).2, (la_cr ht).2.2.2.2.2, jif_f (nI_ne0 (by omega) (by omega))]
  simp only [jc_t, nI_pred]
  rw [rdL_ok (la_len ht).2.2.2.2.2 rfl (by omega) (by omega)]
  simp only [Option.bind_some, lg_cmp_gt, lg_cmp_ge]
  by_cases h1 : lw_top < σ.2.1 (t + 16) n
  · rw [if_pos (Or.inl h1)]
    exact jif_t h1
  · rw [show jif ((1000000000000 : Int64) < σ.2.1 (t + 16) n) _ _ = _ from jif_f h1]
    by_cases h2 : σ.2.1 (t + 16) n < -lw_top
    · rw [if_pos (Or.inr h2)]
      exact jif_f (Int64.not_le.mpr h2)
    · rw [if_neg (fun q => q.elim h1 h2)]
      exact jif_t (Int64.not_lt.mp h2)
/-- where the programs lie and what they are given -/
def lw_nm (σ : jS) (a : Nat) : Nat → Int64 := fun k => (σ.1 a k).toInt64
theorem k05 {k : Int32} (h0 : 0 ≤ k) (h5 : k ≤ 5) : k = nI k.toNatClampNeg ∧ k.toNatClampNeg < 6 := by
  have h : ¬ k < 0 := Int32.not_lt.mpr h0
  obtain ⟨j, hj, rfl⟩ := nI_of2 (M := 5) (n := 5) rfl h h5
  rw [nI_clamp (by omega)]
  exact ⟨rfl, by omega⟩
def lw_fin (o : Option (List Int64)) : Int64 := match o with
  | some (v :: _) => v
  | _ => lw_err
theorem wf_d_push {k : Int32} {dp : Nat} (h : (0 ≤ k ∧ k ≤ 5) ∨ k = 17) : wf_d k dp = some (dp + 1) := by
  unfold wf_d; rw [if_pos h]
theorem wf_d_cases {k : Int32} {dp dq : Nat} (h : wf_d k dp = some dq) : (((0 ≤ k ∧ k ≤ 5) ∨ k = 17) ∧ dq = dp + 1) ∨ (k = 14 ∧ 1 ≤ dp ∧ dq = dp) ∨ (lw_op k ∧ 2 ≤ dp ∧ dq = dp - 1) := by
  unfold wf_d at h
  by_cases h1 : (0 ≤ k ∧ k ≤ 5) ∨ k = 17
  · rw [if_pos h1] at h; cases h; exact Or.inl ⟨h1, rfl⟩
  · rw [if_neg h1] at h
    by_cases h2 : k = 14 ∧ 1 ≤ dp
    · rw [if_pos h2] at h; cases h; exact Or.inr (Or.inl ⟨h2.1, h2.2, rfl⟩)
    · rw [if_neg h2] at h
      by_cases h3 : lw_op k ∧ 2 ≤ dp
      · rw [if_pos h3] at h; cases h; exact Or.inr (Or.inr ⟨h3.1, h3.2, rfl⟩)
      · rw [if_neg h3] at h; cases h
theorem c_val3 (d : Nat) {t : Nat} (ht : jTe t) (L : Nat) (hL : L < 5) (e : Nat) (he : e ≤ 64) : ∀ (c i : Nat) (st : List Int64) (σ : jS), i + c = e → st.length ≤ i → σ.1 (t + 14) L = nI e → stk (σ.2.1 (t + 16)) st → wf_r (σ.1 (t + 11)) c i st.length = some 1 →
    ∃ σ', b_La_value_3 (d + 1) (t + 10) (nI L) (nI st.length) (nI i) σ = some (some (.long (lw_fin (lw_run (lw_nm σ (t + 15)) (σ.1 (t + 11)) (σ.1 (t + 12)) c i st))), σ') ∧ jeq (fun b => b = t + 16) σ σ' ∧ σ'.1 = σ.1
  | 0, i, st, σ, hi, hs, hE, hst, hw => by
    have hl : st.length = 1 := Option.some.inj hw
    rw [q_La_value_3, (te_is ht).2, (la_cr ht).2.2.2.1]
    simp only [jc_t]
    rw [rdI_ok (la_len ht).2.2.2.1 rfl hL (by omega)]
    simp only [Option.bind_some]
    rw [hE, jif_t (nI_le (by omega) (by omega)), q_La_value_12, (te_is ht).2, (la_cr ht).2.2.2.2.2]
    simp only [jc_t]
    rw [rdL_ok (i := 0) (k := 0) (la_len ht).2.2.2.2.2 rfl (by omega) (by omega)]
    match st, hl, hst with
    | [v], _, hst =>
      refine ⟨σ, ?_, jeq.rf, rfl⟩
      have e0 : σ.2.1 (t + 16) 0 = v := hst.1
      simp only [Option.bind_some, e0]
      rfl
  | c + 1, i, st, σ, hi, hs, hE, hst, hw => by
    unfold wf_r at hw
    obtain ⟨dq, hd, hw⟩ := Option.bind_eq_some_iff.mp hw
    rw [q_La_value_3, (te_is ht).2, (la_cr ht).2.2.2.1, (la_cr ht).1, (la_cr ht).2.2.2.2.1, (la_cr ht).2.2.2.2.2]
    simp only [jc_t]
    rw [rdI_ok (la_len ht).2.2.2.1 rfl hL (by omega)]
    simp only [Option.bind_some]
    rw [hE, jif_f (nI_ge (by omega) (by omega)), rdI_ok (la_len ht).1 rfl (by omega) (by omega)]
    simp only [Option.bind_some]
    -- what comes behind a push
    have push : ∀ v : Int64, ¬ lw_top < v → ¬ v < -lw_top → wf_r (σ.1 (t + 11)) c (i + 1) (st.length + 1) = some 1 → ∃ σ', b_La_value_9 (d + 1) (t + 10) (nI L) (nI st.length + 1) (nI i) (j_setL σ (t + 16) st.length v) = some (some (.long (lw_fin (lw_run (lw_nm σ (t + 15)) (σ.1 (t + 11)) (σ.1 (t + 12)) c (i + 1) (v :: st)))), σ') ∧ jeq (fun b => b = t + 16) σ σ' ∧ σ'.1 = σ.1 := by
      intro v b1 b2 hw
      have e1 : (j_setL σ (t + 16) st.length v).2.1 (t + 16) st.length = v := by rw [setL_up, pk_uLs]
      rw [nI_1, c_val9 (d + 1) ht (nI L) st.length (by omega), e1, if_neg (fun q => q.elim b1 b2), nI_1]
      obtain ⟨σ', g1, g2, g3⟩ := c_val3 d ht L hL e he c (i + 1) (v :: st) (j_setL σ (t + 16) st.length v) (by omega) (by simp only [List.length_cons]; omega) hE (by rw [setL_up]; exact stk_push hst) hw
      exact ⟨σ', g1, (jeq.setL (S := fun b => b = t + 16) rfl).tr g2, g3⟩
    have run1 : lw_run (lw_nm σ (t + 15)) (σ.1 (t + 11)) (σ.1 (t + 12)) (c + 1) i st = (lw_step (lw_nm σ (t + 15)) (σ.1 (t + 11) i) (σ.1 (t + 12) i) st).bind fun s => lw_run (lw_nm σ (t + 15)) (σ.1 (t + 11)) (σ.1 (t + 12)) c (i + 1) s := rfl
    rw [run1]
    rcases wf_d_cases hd with ⟨⟨h0, h5⟩ | h17, hq⟩ | ⟨h14, h1, hq⟩ | ⟨hop, h2, hq⟩
    · subst hq
      obtain ⟨ek, hk6⟩ := k05 h0 h5
      rw [jif_f (Int32.not_lt.mpr h5), jif_f (show ¬ (64 : Int32) ≤ nI st.length from nI_ge (b := 64) (by omega) (by omega))]
      rw [rdI_ok (la_len ht).2.2.2.2.1 ek hk6 (by omega)]
      simp only [Option.bind_some]
      rw [wrL_ok (la_len ht).2.2.2.2.2 rfl (by omega) (by omega)]
      simp only [Option.bind_some]
      unfold lw_step
      rw [if_pos h5]
      exact push _ (nI_i64 _).1 (nI_i64 _).2 hw
    · subst hq
      rw [h17, jif_t (by decide), q_La_value_4, jif_t rfl, jif_f (show ¬ (64 : Int32) ≤ nI st.length from nI_ge (b := 64) (by omega) (by omega)), (te_is ht).2, (la_cr ht).2.1, (la_cr ht).2.2.2.2.2]
      simp only [jc_t]
      rw [rdI_ok (la_len ht).2.1 rfl (by omega) (by omega)]
      simp only [Option.bind_some]
      rw [wrL_ok (la_len ht).2.2.2.2.2 rfl (by omega) (by omega)]
      simp only [Option.bind_some]
      unfold lw_step
      rw [if_neg (by decide), if_pos rfl]
      exact push _ (nI_i64 _).1 (nI_i64 _).2 hw
    · subst hq
      rw [h14, jif_t (by decide), q_La_value_4, jif_f (by decide), q_La_value_5, jif_t rfl, jif_f (nI_nle (by omega) (by omega)), (te_is ht).2, (la_cr ht).2.2.2.2.2]
      simp only [jc_t]
      match st, hst, h1, hs, hw, push with
      | y :: s, hst, _, hs, hw, _ =>
        simp only [List.length_cons] at hs hw ⊢
        have ey : σ.2.1 (t + 16) s.length = y := hst.1
        rw [nI_pred, rdL_ok (la_len ht).2.2.2.2.2 rfl (by omega) (by omega), ey, q_La_value_6]
        simp only [Option.bind_some, lg_cmp_eq]
        rw [jif_pick (y = 0) inferInstance (fun z => b_La_value_7 (d + 1) (t + 10) (nI L) (nI (s.length + 1)) (nI i) (t + 16) (nI s.length) z σ) 1 0, q_La_value_7, wrL_ok (la_len ht).2.2.2.2.2 rfl (by omega) (by omega)]
        simp only [Option.bind_some]
        have e1 : (j_setL σ (t + 16) s.length (if y = 0 then 1 else 0)).2.1 (t + 16) s.length = (if y = 0 then 1 else 0) := by rw [setL_up, pk_uLs]
        have b12 : ¬ lw_top < (if y = 0 then (1 : Int64) else 0) ∧ ¬ (if y = 0 then (1 : Int64) else 0) < -lw_top := by
          by_cases hy : y = 0
          · rw [if_pos hy]; exact ⟨by decide, by decide⟩
          · rw [if_neg hy]; exact ⟨by decide, by decide⟩
        rw [c_val9 (d + 1) ht (nI L) s.length (by omega), e1, if_neg (fun q => q.elim b12.1 b12.2), nI_1]
        obtain ⟨σ', g1, g2, g3⟩ := c_val3 d ht L hL e he c (i + 1) ((if y = 0 then 1 else 0) :: s) (j_setL σ (t + 16) s.length (if y = 0 then 1 else 0)) (by omega) (by simp only [List.length_cons]; omega) hE (by rw [setL_up]; exact stk_push hst.2) hw
        refine ⟨σ', ?_, (jeq.setL (S := fun b => b = t + 16) rfl).tr g2, g3⟩
        exact g1
    · subst hq
      obtain ⟨o1, o2, o3⟩ := op_k hop
      rw [jif_t (Int32.not_le.mp o1), q_La_value_4, jif_f o2, q_La_value_5, jif_f o3, q_La_value_8, (te_is ht).2, (la_cr ht).2.2.2.2.2]
      simp only [jc_t]
      match st, hst, h2, hs, hw, push with
      | y :: x :: s, hst, _, hs, hw, _ =>
        simp only [List.length_cons] at hs hw ⊢
        have ey : σ.2.1 (t + 16) (s.length + 1) = y := hst.1
        have ex : σ.2.1 (t + 16) s.length = x := hst.2.1
        rw [jif_f (show ¬ nI (s.length + 1 + 1) ≤ (1 : Int32) from nI_ge (a := 1) (by omega) (by omega)), pk_m1, nI_pred, rdL_ok (la_len ht).2.2.2.2.2 rfl (by omega) (by omega), ex]
        simp only [Option.bind_some]
        rw [rdL_ok (la_len ht).2.2.2.2.2 rfl (by omega) (by omega), ey]
        simp only [Option.bind_some]
        rw [c_joined, rL_s]
        simp only [Option.bind_some]
        rw [wrL_ok (la_len ht).2.2.2.2.2 rfl (by omega) (by omega)]
        simp only [Option.bind_some]
        have e1 : (j_setL σ (t + 16) s.length (lw_j (σ.1 (t + 11) i) x y)).2.1 (t + 16) s.length = lw_j (σ.1 (t + 11) i) x y := by rw [setL_up, pk_uLs]
        rw [c_val9 (d + 1) ht (nI L) s.length (by omega), e1]
        have hstep : lw_step (lw_nm σ (t + 15)) (σ.1 (t + 11) i) (σ.1 (t + 12) i) (y :: x :: s) = if lw_top < lw_j (σ.1 (t + 11) i) x y ∨ lw_j (σ.1 (t + 11) i) x y < -lw_top then none else some (lw_j (σ.1 (t + 11) i) x y :: s) := by
          unfold lw_step
          rw [if_neg o1, if_neg o2, if_neg o3]
        rw [hstep]
        by_cases hb : lw_top < lw_j (σ.1 (t + 11) i) x y ∨ lw_j (σ.1 (t + 11) i) x y < -lw_top
        · rw [if_pos hb, if_pos hb]
          exact ⟨_, rfl, jeq.setL (S := fun b => b = t + 16) rfl, rfl⟩
        · rw [if_neg hb, if_neg hb, nI_1]
          obtain ⟨σ', g1, g2, g3⟩ := c_val3 d ht L hL e he c (i + 1) (lw_j (σ.1 (t + 11) i) x y :: s) (j_setL σ (t + 16) s.length (lw_j (σ.1 (t + 11) i) x y)) (by omega) (by simp only [List.length_cons]; omega) hE (by rw [setL_up]; exact stk_push hst.2.2) hw
          exact ⟨σ', g1, (jeq.setL (S := fun b => b = t + 16) rfl).tr g2, g3⟩
/-- what the six names stand for -/
def lw_ns (coins age next place hour : Int32) : Nat → Int32 := fun k => match k with
  | 0 => coins
  | 1 => age
  | 2 => next
  | 3 => if age ≤ next then 0 else 1
  | 4 => place
  | _ => hour
theorem clamp5 {k : Int32} (h : k ≤ 5) : k.toNatClampNeg < 6 := by
  by_cases h0 : 0 ≤ k
  · exact (k05 h0 h).2
  · have h1 : k.toInt < 0 := by
      have := Int32.not_le.mp h0
      rw [Int32.lt_iff_toInt_lt] at this
      exact this
    have : k.toNatClampNeg = k.toInt.toNat := rfl
    omega
theorem lw_run_nm {nm nm' : Nat → Int64} {kk nn : Nat → Int32} (h : ∀ k, k < 6 → nm k = nm' k) : ∀ (c i : Nat) (st : List Int64), lw_run nm kk nn c i st = lw_run nm' kk nn c i st
  | 0, _, _ => rfl
  | c + 1, i, st => by
    have e : lw_step nm (kk i) (nn i) st = lw_step nm' (kk i) (nn i) st := by
      unfold lw_step
      by_cases h5 : kk i ≤ 5
      · rw [if_pos h5, if_pos h5, h _ (clamp5 h5)]
      · rw [if_neg h5, if_neg h5]
    unfold lw_run
    rw [e]
    congr 1
    funext s
    exact lw_run_nm h c (i + 1) s
/-- the value of the program from s to e -/
def lw_V (kk nn : Nat → Int32) (s e : Nat) (ns : Nat → Int32) : Int64 := lw_fin (lw_run (fun k => (ns k).toInt64) kk nn (e - s) s [])
theorem c_value (d : Nat) {t : Nat} (ht : jTe t) (L : Nat) (hL : L < 5) (s e : Nat) (he : e ≤ 64) (hse : s ≤ e) (coins age next place hour : Int32) (σ : jS) (hs : σ.1 (t + 13) L = nI s) (hE : σ.1 (t + 14) L = nI e) (hw : wf_r (σ.1 (t + 11)) (e - s) s 0 = some 1) :
    ∃ σ', g_La_value (d + 2) (t + 10) (nI L) coins age next place hour σ = some (some (.long (lw_V (σ.1 (t + 11)) (σ.1 (t + 12)) s e (lw_ns coins age next place hour))), σ') ∧ jeq (fun b => b = t + 15 ∨ b = t + 16) σ σ' := by
  rw [e_La_value, q_La_value_0, (te_is ht).2, (la_cr ht).2.2.2.2.1]
  simp only [jc_t]
  rw [wrI_ok (i := 0) (k := 0) (la_len ht).2.2.2.2.1 rfl (by omega) (by omega)]
  simp only [Option.bind_some]
  rw [wrI_ok (i := 1) (k := 1) (la_len ht).2.2.2.2.1 rfl (by omega) (by omega)]
  simp only [Option.bind_some]
  rw [wrI_ok (i := 2) (k := 2) (la_len ht).2.2.2.2.1 rfl (by omega) (by omega)]
  simp only [Option.bind_some]
  rw [q_La_value_1, jif_pick (age ≤ next) inferInstance (fun z => b_La_value_2 (d + 1) (t + 10) (nI L) place hour (t + 15) 3 z _) 0 1, q_La_value_2, (te_is ht).2, (la_cr ht).2.2.2.2.1, (la_cr ht).2.2.1]
  simp only [jc_t]
  rw [wrI_ok (i := 3) (k := 3) (la_len ht).2.2.2.2.1 rfl (by omega) (by omega)]
  simp only [Option.bind_some]
  rw [wrI_ok (i := 4) (k := 4) (la_len ht).2.2.2.2.1 rfl (by omega) (by omega)]
  simp only [Option.bind_some]
  rw [wrI_ok (i := 5) (k := 5) (la_len ht).2.2.2.2.1 rfl (by omega) (by omega)]
  simp only [Option.bind_some]
  generalize hσ : j_setI (j_setI (j_setI (j_setI (j_setI (j_setI σ (t + 15) 0 coins) (t + 15) 1 age) (t + 15) 2 next) (t + 15) 3 (if age ≤ next then 0 else 1)) (t + 15) 4 place) (t + 15) 5 hour = σ3
  have q : jeq (fun b => b = t + 15) σ σ3 := by
    rw [← hσ]
    iterate 6 refine jeq.sI ?_ rfl
    exact jeq.rf
  have nmE : ∀ k, k < 6 → σ3.1 (t + 15) k = lw_ns coins age next place hour k := by
    intro k hk
    rw [← hσ]
    rcases (show k = 0 ∨ k = 1 ∨ k = 2 ∨ k = 3 ∨ k = 4 ∨ k = 5 by omega) with rfl | rfl | rfl | rfl | rfl | rfl <;> simp [setI_get, lw_ns]
  have c13 := (q (t + 13) (by omega)).1
  have c14 := (q (t + 14) (by omega)).1
  have c11 := (q (t + 11) (by omega)).1
  have c12 := (q (t + 12) (by omega)).1
  rw [rdI_ok (la_len ht).2.2.1 rfl hL (by omega), c13, hs]
  simp only [Option.bind_some]
  obtain ⟨σ', g1, g2, g3⟩ := c_val3 d ht L hL e he (e - s) s [] σ3 (by omega) (Nat.zero_le _) (by rw [c14]; exact hE) trivial (by rw [c11]; exact hw)
  refine ⟨σ', ?_, (q.mono (fun b hb => Or.inl hb)).tr (g2.mono (fun b hb => Or.inr hb))⟩
  have e0 : nI ([] : List Int64).length = 0 := rfl
  rw [e0] at g1
  rw [g1]
  unfold lw_V
  rw [c11, c12]
  rw [lw_run_nm (nm := lw_nm σ3 (t + 15)) (nm' := fun k => (lw_ns coins age next place hour k).toInt64) (fun k hk => by unfold lw_nm; rw [nmE k hk])]
