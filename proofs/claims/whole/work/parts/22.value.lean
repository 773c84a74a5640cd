/-! Laws.value: the class's side. -/
theorem op_k {k : Int32} (h : lw_op k) : ¬ k ≤ 5 ∧ ¬ k = 17 ∧ ¬ k = 14 := by
  unfold lw_op at h
  rcases h with rfl | rfl | rfl | rfl | rfl | rfl | rfl | rfl | rfl | rfl | rfl | rfl | rfl <;> exact ⟨by decide, by decide, by decide⟩
theorem setL_up (σ : jS) (a k : Nat) (v : Int64) : (j_setL σ a k v).2.1 a = vp_updL (σ.2.1 a) k v := j_setL_arr σ a k v
/-- behind a knot: the top is looked at -/
theorem c_val9 (d : Nat) {t : Nat} (ht : jTe t) (L : Int32) (n : Nat) (hn : n < 64) (i : Int32) (σ : jS) : b_La_value_9 d (t + 10) L (nI (n + 1)) i σ = if lw_top < σ.2.1 (t + 16) n ∨ σ.2.1 (t + 16) n < -lw_top then some (some (.long lw_err), σ) else b_La_value_3 d (t + 10) L (nI (n + 1)) (i + 1) σ := by
  rw [q_La_value_9, q_La_value_10, q_La_value_11, (te_is ht).2, (la_cr ht).2.2.2.2.2, jif_f (nI_ne0 (by omega) (by omega))]
  simp only [jc_t, nI_pred]
  rw [rdL_ok (la_len ht).2.2.2.2.2 rfl (by omega) (by omega)]
  simp only [Option.bind_some, lg_cmp_gt, lg_cmp_ge]
  by_cases h1 : lw_top < σ.2.1 (t + 16) n
  · rw [if_pos (Or.inl h1)]
    exact jif_t h1
  · rw [show jif ((1000000000000 : Int64) < σ.2.1 (t + 16) n) _ _ = _ from jif_f h1]
    by_cases h2 : σ.2.1 (t + 16) n < -lw_top
    · rw [if_pos (Or.inr h2)]
      exact jif_f (Int64.not_le.mpr h2)
    · rw [if_neg (fun q => q.elim h1 h2)]
      exact jif_t (Int64.not_lt.mp h2)
