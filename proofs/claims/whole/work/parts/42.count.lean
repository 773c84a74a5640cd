/-! 33: count. -/
def cntS (f : Nat → Int32) (x : Int32) : Nat → Nat → Int32 → Int32
  | 0, _, a => a
  | m + 1, i, a => cntS f x m (i + 1) (if f i = x then a + 1 else a)
theorem cntS_congr {f g : Nat → Int32} {x : Int32} : ∀ (m i : Nat) (a : Int32), (∀ k, i ≤ k → k < i + m → f k = g k) → cntS f x m i a = cntS g x m i a
  | 0, _, _, _ => rfl
  | m + 1, i, a, h => by
    unfold cntS
    rw [h i (Nat.le_refl _) (by omega), cntS_congr m (i + 1) _ (fun k h1 h2 => h k (by omega) (by omega))]
theorem c_inState_l (d : Nat) {j N : Nat} (hj : jJo j) (x : Int32) (σ : jS) (h : σ.1 j 3 = nI N) (hN : N ≤ 30) : ∀ (m i : Nat) (a : Int32), i + m = N → b_Jo_inState_1 d j x a (nI i) σ = some (some (.int (cntS (σ.1 (j + 6)) x m i a)), σ)
  | 0, i, a, hi => by
    rw [q_Jo_inState_1, jo_is hj, jc_t, h, jif_t (nI_le (by omega) (by omega)), q_Jo_inState_3]; rfl
  | m + 1, i, a, hi => by
    rw [q_Jo_inState_1, jo_is hj, jc_t, jc_t, h, jif_f (nI_ge (by omega) (by omega)), (jo_cr hj).2.2.2.2.2.1, rdI_ok (jo_len hj).2.2.2.2.2.1 rfl (by omega) (by omega)]
    simp only [Option.bind_some]
    unfold cntS
    by_cases e : σ.1 (j + 6) i = x
    · rw [jif_t e, if_pos e, q_Jo_inState_2, nI_1, c_inState_l d hj x σ h hN m (i + 1) (a + 1) (by omega)]
    · rw [jif_f e, if_neg e, q_Jo_inState_2, nI_1, c_inState_l d hj x σ h hN m (i + 1) a (by omega)]
theorem m_count_l (d : Nat) {N : Nat} (w : Int32) (σ : jS) (h : σ.1 86 36 = nI N) (hN : N ≤ 30) : ∀ (m i : Nat) (a : Int32), i + m = N → b_M_count_9 d w a (nI i) σ = some (some (.int (cntS (σ.1 110) (w - 6) m i a)), σ)
  | 0, i, a, hi => by
    rw [q_M_count_9, h, jif_t (nI_le (by omega) (by omega)), q_M_count_12]; rfl
  | m + 1, i, a, hi => by
    rw [q_M_count_9, h, jif_f (nI_ge (by omega) (by omega)), rdI_ok (a := 110) (n := 90) rfl rfl (by omega) (by omega)]
    simp only [Option.bind_some]
    unfold cntS
    by_cases e : σ.1 110 i = w - 6
    · rw [jif_t e, if_pos e, q_M_count_11, nI_1, m_count_l d w σ h hN m (i + 1) (a + 1) (by omega)]
    · rw [jif_f e, if_neg e, q_M_count_10, q_M_count_11, nI_1, Int32.add_zero, m_count_l d w σ h hN m (i + 1) a (by omega)]
theorem c_knownSize (d : Nat) (σ : jS) : g_Nt_knownSize (d + 1) σ = some (some (.int (if σ.1 78 1 = -1 then σ.1 78 0 else σ.1 78 1)), σ) := by
  rw [e_Nt_knownSize, q_Nt_knownSize_0, q_Nt_knownSize_1, q_Nt_knownSize_2, q_Nt_knownSize_2]
  by_cases h : σ.1 78 1 = -1
  · rw [jif_t h, if_pos h]
  · rw [jif_f h, if_neg h]
theorem m_knownMany (d : Nat) (σ : jS) : g_M_knownMany (d + 1) σ = some (some (.int (if σ.1 86 70 = -1 then σ.1 86 69 else σ.1 86 70)), σ) := by
  rw [e_M_knownMany, q_M_knownMany_0, q_M_knownMany_1, q_M_knownMany_2, q_M_knownMany_2]
  by_cases h : σ.1 86 70 = -1
  · rw [jif_t h, if_pos h]
  · rw [jif_f h, if_neg h]
theorem op_count (d : Nat) (w : Int32) (σ : jS) (t : Nat) (g : jInv σ t) : opI (g_HH_count (d + 2) w) (g_M_count (d + 2) w) σ := by
  obtain ⟨ht, r2, r3, hT, hF, A, Pt, M, N, hte, hla, h36, hjo, hno, him⟩ := id g
  obtain ⟨n1, n2, n3, n4, n5, n6, n7, n8⟩ := hjo
  obtain ⟨a1, a2, a3, a4, a5, a6, a7, a8, a9, a10, a11, a12, a13⟩ := hte
  obtain ⟨S, s1, s2, s3, s4, -⟩ := hno
  have key : ∀ r : Int32, g_HH_count (d + 2) w σ = some (some (.int r), σ) → g_M_count (d + 2) w σ = some (some (.int r), j_setI σ 86 0 0) → opI (g_HH_count (d + 2) w) (g_M_count (d + 2) w) σ := fun r h1 h2 => ⟨r, σ, j_setI σ 86 0 0, t, h1, h2, g.th 0⟩
  have hst : ∀ x : Int32, cntS (σ.1 45) x N 0 0 = cntS (σ.1 110) x N 0 0 := fun x => cntS_congr N 0 0 (fun k _ hk => by
    obtain ⟨-, -, -, p4, -⟩ := n8 k (by omega)
    rw [Nat.mul_zero, Nat.zero_add] at p4
    exact p4)
  have hin : ∀ x : Int32, g_Jo_inState (d + 1) 39 x σ = some (some (.int (cntS (σ.1 45) x N 0 0)), σ) := fun x => by
    rw [e_Jo_inState, q_Jo_inState_0]
    exact c_inState_l d (Or.inl rfl) x σ n2 n1 N 0 0 (by omega)
  have hmc : ∀ w' : Int32, b_M_count_8 (d + 1) w' 0 (j_setI σ 86 0 0) = some (some (.int (cntS (σ.1 110) (w' - 6) N 0 0)), j_setI σ 86 0 0) := fun w' => by
    rw [q_M_count_8]
    have := m_count_l (d + 1) w' (j_setI σ 86 0 0) (by rw [setI_nk (by omega)]; exact h36) n1 N 0 0 (by omega)
    rw [j_setI_ne (by omega)] at this
    exact this
  by_cases w0 : w = 0
  · subst w0
    refine key (nI A) ?_ ?_
    · rw [e_HH_count, q_HH_count_0, jif_t rfl, q_HH_count_1, r2, (te_is ht).1, jc_t, a4]
    · rw [e_M_count, q_M_count_0, jif_t rfl, q_M_count_1, rdI_ok (a := 88) (n := 8) (i := 0) (k := 0) rfl rfl (by omega) (by omega), setI_ne (by omega), a5]; rfl
  by_cases w1 : w = 1
  · subst w1
    refine key (nI N) ?_ ?_
    · rw [e_HH_count, q_HH_count_0, jif_f (by decide), jif_t rfl, q_HH_count_2, n2]
    · rw [e_M_count, q_M_count_0, jif_f (by decide), jif_t rfl, q_M_count_2, setI_nk (by omega), h36]
  by_cases w2 : w = 2
  · subst w2
    refine key (nI M) ?_ ?_
    · rw [e_HH_count, q_HH_count_0, jif_f (by decide), jif_f (by decide), jif_t rfl, q_HH_count_3, r2, (te_is ht).1, jc_t, a8]
    · rw [e_M_count, q_M_count_0, jif_f (by decide), jif_f (by decide), jif_t rfl, q_M_count_3, rdI_ok (a := 88) (n := 8) (i := 2) (k := 2) rfl rfl (by omega) (by omega), setI_ne (by omega), a9]; rfl
  by_cases w3 : w = 3
  · subst w3
    refine key (σ.1 88 3) ?_ ?_
    · rw [e_HH_count, q_HH_count_0, jif_f (by decide), jif_f (by decide), jif_f (by decide), jif_t rfl, q_HH_count_4, r2, (te_is ht).1, jc_t, (te_cr ht).2.2.2.2.2.2.2.2.2, (te_is ht).2, jc_t, a10]
    · rw [e_M_count, q_M_count_0, jif_f (by decide), jif_f (by decide), jif_f (by decide), jif_t rfl, q_M_count_4, rdI_ok (a := 88) (n := 8) (i := 3) (k := 3) rfl rfl (by omega) (by omega), setI_ne (by omega)]; rfl
  by_cases w4 : w = 4
  · subst w4
    refine key (σ.1 107 0) ?_ ?_
    · rw [e_HH_count, q_HH_count_0, jif_f (by decide), jif_f (by decide), jif_f (by decide), jif_f (by decide), jif_t rfl, q_HH_count_5, n3]
    · rw [e_M_count, q_M_count_0, jif_f (by decide), jif_f (by decide), jif_f (by decide), jif_f (by decide), jif_t rfl, q_M_count_5, rdI_ok (a := 107) (n := 3) (i := 0) (k := 0) rfl rfl (by omega) (by omega), setI_ne (by omega)]; rfl
  by_cases w5 : w = 5
  · subst w5
    refine key (nI S) ?_ ?_
    · rw [e_HH_count, q_HH_count_0, jif_f (by decide), jif_f (by decide), jif_f (by decide), jif_f (by decide), jif_f (by decide), jif_t rfl, q_HH_count_6, s2]
    · rw [e_M_count, q_M_count_0, jif_f (by decide), jif_f (by decide), jif_f (by decide), jif_f (by decide), jif_f (by decide), jif_t rfl, q_M_count_6, setI_nk (by omega), s3]
  by_cases w6 : w = 6
  · subst w6
    refine key (if σ.1 86 70 = -1 then nI S else σ.1 86 70) ?_ ?_
    · rw [e_HH_count, q_HH_count_0, jif_f (by decide), jif_f (by decide), jif_f (by decide), jif_f (by decide), jif_f (by decide), jif_f (by decide), jif_t rfl, q_HH_count_7, c_knownSize, rI_s, s2, s4]; rfl
    · rw [e_M_count, q_M_count_0, jif_f (by decide), jif_f (by decide), jif_f (by decide), jif_f (by decide), jif_f (by decide), jif_f (by decide), jif_t rfl, q_M_count_7, m_knownMany, rI_s, setI_nk (by omega), setI_nk (by omega), s3]; rfl
  by_cases w7 : w = 7
  · subst w7
    refine key (cntS (σ.1 110) 1 N 0 0) ?_ ?_
    · rw [e_HH_count, q_HH_count_0, jif_f (by decide), jif_f (by decide), jif_f (by decide), jif_f (by decide), jif_f (by decide), jif_f (by decide), jif_f (by decide), jif_t rfl, q_HH_count_8, hin, rI_s, hst]; rfl
    · rw [e_M_count, q_M_count_0, jif_f (by decide), jif_f (by decide), jif_f (by decide), jif_f (by decide), jif_f (by decide), jif_f (by decide), jif_f (by decide), jif_t rfl, hmc]; rfl
  by_cases w8 : w = 8
  · subst w8
    refine key (cntS (σ.1 110) 2 N 0 0) ?_ ?_
    · rw [e_HH_count, q_HH_count_0, jif_f (by decide), jif_f (by decide), jif_f (by decide), jif_f (by decide), jif_f (by decide), jif_f (by decide), jif_f (by decide), jif_f (by decide), jif_t rfl, q_HH_count_9, hin, rI_s, hst]; rfl
    · rw [e_M_count, q_M_count_0, jif_f (by decide), jif_f (by decide), jif_f (by decide), jif_f (by decide), jif_f (by decide), jif_f (by decide), jif_f (by decide), jif_f (by decide), jif_t rfl, hmc]; rfl
  by_cases w9 : w = 9
  · subst w9
    refine key (nI Pt) ?_ ?_
    · rw [e_HH_count, q_HH_count_0, jif_f (by decide), jif_f (by decide), jif_f (by decide), jif_f (by decide), jif_f (by decide), jif_f (by decide), jif_f (by decide), jif_f (by decide), jif_f (by decide), jif_t rfl, q_HH_count_10, r2, (te_is ht).1, jc_t, a6]
    · rw [e_M_count, q_M_count_0, jif_f (by decide), jif_f (by decide), jif_f (by decide), jif_f (by decide), jif_f (by decide), jif_f (by decide), jif_f (by decide), jif_f (by decide), jif_f (by decide), jif_t rfl, q_M_count_13, rdI_ok (a := 88) (n := 8) (i := 1) (k := 1) rfl rfl (by omega) (by omega), setI_ne (by omega), a7]; rfl
  refine key (-1) ?_ ?_
  · rw [e_HH_count, q_HH_count_0, jif_f w0, jif_f w1, jif_f w2, jif_f w3, jif_f w4, jif_f w5, jif_f w6, jif_f w7, jif_f w8, jif_f w9,  q_HH_count_11]
  · rw [e_M_count, q_M_count_0, jif_f w0, jif_f w1, jif_f w2, jif_f w3, jif_f w4, jif_f w5, jif_f w6, jif_f w7, jif_f w8, jif_f w9,  q_M_count_14]
