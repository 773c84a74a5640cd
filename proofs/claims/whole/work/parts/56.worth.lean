/-! 18: bound. -/
theorem cei_step (c n : Nat) : ((c + 1) / 2 + 2 ^ n - 1) / 2 ^ n = (c + 2 ^ (n + 1) - 1) / 2 ^ (n + 1) := by
  have h : 0 < 2 ^ n := Nat.two_pow_pos n
  have e : (c + 1) / 2 + 2 ^ n - 1 = (c + 2 ^ (n + 1) - 1) / 2 := by
    rw [Nat.pow_succ]; omega
  rw [e, Nat.div_div_eq_div_mul, Nat.pow_succ, Nat.mul_comm 2]
theorem flo_step (c n : Nat) : (c / 2) / 2 ^ n = c / 2 ^ (n + 1) := by
  rw [Nat.div_div_eq_div_mul, Nat.pow_succ, Nat.mul_comm 2]
theorem pow8 {n : Nat} (hn : n ≤ 8) : 1 ≤ 2 ^ n ∧ 2 ^ n ≤ 256 := ⟨Nat.two_pow_pos n, by
  have := Nat.pow_le_pow_right (n := 2) (by decide) hn
  omega⟩
theorem nI_shl1 {n : Nat} (hn : n < 31) : (1 : Int32) <<< (nI n &&& 31) = nI (2 ^ n) := by
  have := pk_shlN (n := 1) (nI n &&& 31) n (s_l n (by omega)) (by
    have := Nat.pow_lt_pow_right (a := 2) (by decide) (show n < 32 by omega)
    omega)
  rw [Nat.one_mul] at this
  exact this
theorem c_ceiling (d : Nat) {c n : Nat} (hc : c ≤ 999999) (hn : n ≤ 8) (σ : jS) : g_HH_ceiling (d + 1) (nI c) (nI n) σ = some (some (.int (nI ((c + 2 ^ n - 1) / 2 ^ n))), σ) := by
  have := pow8 hn
  have e : nI (c + 2 ^ n) - 1 = nI (c + 2 ^ n - 1) := pk_sub (a := c + 2 ^ n) (b := 1) (by omega)
  rw [e_HH_ceiling, q_HH_ceiling_0, nI_shl1 (by omega), nI_add, e, pk_shrN (by omega) _ n (s_l n (by omega))]
theorem m_bound_0 (d : Nat) (σ : jS) {n : Nat} (hn : n ≤ 8) : ∀ (m i c : Nat), i + m = n → c ≤ 999999 → b_M_bound_3 d (nI n) 0 (nI c) (nI i) σ = some (some (.int (nI ((c + 2 ^ m - 1) / 2 ^ m))), σ)
  | 0, i, c, hi, hc => by
    rw [q_M_bound_3, jif_t (nI_le (by omega) (by omega)), q_M_bound_6]
    show _ = some (some (Value.int (nI ((c + 1 - 1) / 1))), σ)
    rw [Nat.add_sub_cancel, Nat.div_one]
  | m + 1, i, c, hi, hc => by
    rw [q_M_bound_3, jif_f (nI_ge (by omega) (by omega)), jif_t rfl, q_M_bound_5, nI_1, nI_1, nI_half (by omega), m_bound_0 d σ hn m (i + 1) ((c + 1) / 2) (by omega) (by omega), cei_step]
theorem m_bound_1 (d : Nat) (σ : jS) {n : Nat} (hn : n ≤ 8) : ∀ (m i c : Nat), i + m = n → c ≤ 999999 → b_M_bound_3 d (nI n) 1 (nI c) (nI i) σ = some (some (.int (nI (c / 2 ^ m))), σ)
  | 0, i, c, hi, hc => by
    rw [q_M_bound_3, jif_t (nI_le (by omega) (by omega)), q_M_bound_6]
    show _ = some (some (Value.int (nI (c / 1))), σ)
    rw [Nat.div_one]
  | m + 1, i, c, hi, hc => by
    rw [q_M_bound_3, jif_f (nI_ge (by omega) (by omega)), jif_f (by decide), q_M_bound_4, q_M_bound_5, nI_1, nI_half (by omega), m_bound_1 d σ hn m (i + 1) (c / 2) (by omega) (by omega), flo_step]
theorem in_nI {x : Int32} {m : Int32} {M : Nat} (hm : m = nI M) (hM : M < 2 ^ 31) (h : 0 ≤ x ∧ x ≤ m) : ∃ n, n ≤ M ∧ x = nI n := by
  subst hm
  obtain ⟨j, hj, rfl⟩ := nI_of (x := x) (Int32.not_lt.mpr h.1)
  exact ⟨j, (nI_leI hj hM).mp h.2, rfl⟩
theorem op_bound (d : Nat) (n c w : Int32) (σ : jS) (t : Nat) (g : jInv σ t) : opI (g_HH_bound (d + 2) n c w) (g_M_bound (d + 2) n c w) σ := by
  by_cases h : (0 ≤ n ∧ n ≤ 8) ∧ (0 ≤ c ∧ c ≤ 999999) ∧ (0 ≤ w ∧ w ≤ 1)
  · obtain ⟨h1, h2, h3⟩ := id h
    obtain ⟨n, hn, rfl⟩ := in_nI (M := 8) rfl (by omega) h1
    obtain ⟨c, hc, rfl⟩ := in_nI (M := 999999) rfl (by omega) h2
    obtain ⟨w, hw, rfl⟩ := in_nI (M := 1) rfl (by omega) h3
    have hC : g_HH_bound (d + 2) (nI n) (nI c) (nI w) σ = b_HH_bound_2 (d + 1) (nI n) (nI c) (nI w) σ := by
      rw [e_HH_bound, q_HH_bound_0, c_within, rI_s]
      simp only [Option.bind_some]
      rw [if_pos h1, jif_f (by decide), c_within, rI_s]
      simp only [Option.bind_some]
      rw [if_pos h2, jif_f (by decide), c_within, rI_s]
      simp only [Option.bind_some]
      rw [if_pos h3, jif_f (by decide)]
    have hM : g_M_bound (d + 2) (nI n) (nI c) (nI w) σ = b_M_bound_3 (d + 1) (nI n) (nI w) (nI c) 0 (j_setI σ 86 0 0) := by
      rw [e_M_bound, q_M_bound_0, jif_f (Int32.not_lt.mpr h1.1), jif_f (Int32.not_lt.mpr h1.2), jif_f (Int32.not_lt.mpr h2.1), jif_f (Int32.not_lt.mpr h2.2), jif_f (Int32.not_lt.mpr h3.1), jif_t h3.2, q_M_bound_2]
    have := pow8 hn
    have hw01 : w = 0 ∨ w = 1 := by omega
    rcases hw01 with rfl | rfl
    · refine ⟨nI ((c + 2 ^ n - 1) / 2 ^ n), σ, j_setI σ 86 0 0, t, ?_, ?_, g.th 0⟩
      · show g_HH_bound (d + 2) (nI n) (nI c) (nI 0) σ = _
        rw [hC, q_HH_bound_2, jif_t nI_0, c_ceiling d hc hn, rI_s]
        simp only [Option.bind_some]
        rw [q_HH_bound_4]
      · show g_M_bound (d + 2) (nI n) (nI c) (nI 0) σ = _
        rw [hM]
        exact m_bound_0 (d + 1) _ hn n 0 c (by omega) hc
    · refine ⟨nI (c / 2 ^ n), σ, j_setI σ 86 0 0, t, ?_, ?_, g.th 0⟩
      · show g_HH_bound (d + 2) (nI n) (nI c) (nI 1) σ = _
        rw [hC, q_HH_bound_2, jif_f (by decide), q_HH_bound_3, pk_shrN (by omega) _ n (s_l n (by omega)), q_HH_bound_4]
      · show g_M_bound (d + 2) (nI n) (nI c) (nI 1) σ = _
        rw [hM]
        exact m_bound_1 (d + 1) _ hn n 0 c (by omega) hc
  · refine ⟨-1, σ, j_setI σ 86 0 0, t, ?_, ?_, g.th 0⟩
    · show g_HH_bound (d + 2) n c w σ = _
      rw [e_HH_bound, q_HH_bound_0, c_within, rI_s]
      simp only [Option.bind_some]
      by_cases h1 : 0 ≤ n ∧ n ≤ 8
      · rw [if_pos h1, jif_f (by decide), c_within, rI_s]
        simp only [Option.bind_some]
        by_cases h2 : 0 ≤ c ∧ c ≤ 999999
        · rw [if_pos h2, jif_f (by decide), c_within, rI_s]
          simp only [Option.bind_some]
          rw [if_neg (fun h3 => h ⟨h1, h2, h3⟩), jif_t rfl, q_HH_bound_1]
        · rw [if_neg h2, jif_t rfl, q_HH_bound_1]
      · rw [if_neg h1, jif_t rfl, q_HH_bound_1]
    · show g_M_bound (d + 2) n c w σ = _
      rw [e_M_bound, q_M_bound_0, q_M_bound_1]
      by_cases a1 : n < 0
      · rw [jif_t a1]
      rw [jif_f a1]
      by_cases a2 : 8 < n
      · rw [jif_t a2]
      rw [jif_f a2]
      by_cases a3 : c < 0
      · rw [jif_t a3]
      rw [jif_f a3]
      by_cases a4 : 999999 < c
      · rw [jif_t a4]
      rw [jif_f a4]
      by_cases a5 : w < 0
      · rw [jif_t a5]
      rw [jif_f a5, jif_f (fun z => h ⟨⟨Int32.not_lt.mp a1, Int32.not_lt.mp a2⟩, ⟨Int32.not_lt.mp a3, Int32.not_lt.mp a4⟩, Int32.not_lt.mp a5, z⟩)]
/-! 22: worth. -/
def rSw (r : Nat → Nat) (q : Nat) : Nat → Nat := fun j => if j = q then r (q + 1) else if j = q + 1 then r q else r j
theorem sub_3 (x : Int32) : x - 2 - 1 = x - 3 := by
  rw [Int32.sub_eq_add_neg, Int32.sub_eq_add_neg, Int32.sub_eq_add_neg, Int32.add_assoc]
  rfl
theorem c_swapAt (d : Nat) {k q : Nat} {r : Nat → Nat} (σ : jS) (hR : cRow σ k r) (h1 : q + 1 < k) : ∃ σ', g_Rw_swapAt (d + 1) (nI q) σ = some (none, σ') ∧ jep (fun b _ => b = 70) σ σ' ∧ cRow σ' k (rSw r q) := by
  obtain ⟨a1, a2, a3, a4⟩ := hR
  rw [e_Rw_swapAt, q_Rw_swapAt_0, rdI_ok (a := 70) (n := 10) rfl rfl (by omega) (by omega)]
  simp only [Option.bind_some]
  rw [nI_1, rdI_ok (a := 70) (n := 10) rfl rfl (by omega) (by omega)]
  simp only [Option.bind_some]
  rw [wrI_ok (a := 70) (n := 10) rfl rfl (by omega) (by omega)]
  simp only [Option.bind_some]
  rw [wrI_ok (a := 70) (n := 10) rfl rfl (by omega) (by omega)]
  simp only [Option.bind_some]
  refine ⟨_, rfl, (jep.rf.sI (S := fun b _ => b = 70) rfl).sI rfl, a1, a2, by rw [setI_ne (by omega), setI_ne (by omega)]; exact a3, fun j hj => ?_⟩
  unfold rSw
  by_cases e1 : j = q
  · subst e1
    rw [if_pos rfl, setI_nk (by omega), setI_same]
    exact a4 (j + 1) h1
  rw [if_neg e1]
  by_cases e2 : j = q + 1
  · subst e2
    rw [if_pos rfl, setI_same]
    exact a4 q (by omega)
  · rw [if_neg e2, setI_nk e2, setI_nk e1]
    exact a4 j hj
theorem rSw_lt {r : Nat → Nat} {q k A : Nat} (h : ∀ j, j < k → r j < A) (hq : q + 1 < k) : ∀ j, j < k → rSw r q j < A := fun j hj => by
  unfold rSw
  by_cases e1 : j = q
  · rw [if_pos e1]; exact h _ hq
  rw [if_neg e1]
  by_cases e2 : j = q + 1
  · rw [if_pos e2]; exact h _ (by omega)
  · rw [if_neg e2]; exact h j hj
theorem op_worth (d : Nat) (n coins x : Int32) (code : Int64) (σ : jS) (t : Nat) (g : jInv σ t) : opI (g_HH_worth (d + 6) n code coins x) (g_M_worth (d + 6) n code coins x) σ := by
  obtain ⟨N, hN, rfl⟩ := wb_of code
  have ht := g.1
  obtain ⟨A, hA, a1, a2, a3⟩ := g.A
  obtain ⟨σ1, c1, c2, c3⟩ := c_isSent (d + 1) ht n coins hN hA σ g.2.1 a1
  have g1 := g.scr (c2.mono (fun b j h => ct_scr ht h))
  have a11 : σ1.1 t 0 = nI A := by
    rw [(c2 t 0 (fun q => by rcases ht with rfl | rfl <;> rcases q with q | q <;> omega)).1]; exact a1
  by_cases h : rowOK N n A ∧ 0 ≤ coins ∧ coins ≤ 999999
  · obtain ⟨k, k1, hR⟩ := c3 h.1
    obtain ⟨kk, kk1, kk2, kk3, kk4⟩ := h.1.r
    have ekk : kk = k := nI_inj (by omega) (by have := hR.2.1; omega) (kk3.symm.trans k1)
    subst ekk
    subst k1
    have hcar : g_Rw_carriers (d + 5) σ1 = some (some (.int (nI kk - 2)), σ1) := by rw [e_Rw_carriers, q_Rw_carriers_0, hR.2.2.1]
    by_cases hx : 1 ≤ x ∧ x ≤ nI kk - 3
    · obtain ⟨q, hq1, hq2, rfl⟩ : ∃ q, 1 ≤ q ∧ q + 3 ≤ kk ∧ x = nI q := by
        obtain ⟨j, hj, rfl⟩ := nI_of (x := x) (fun z => absurd (Int32.lt_of_le_of_lt hx.1 z) (by decide))
        have h1 : 1 ≤ j := (nI_leI (a := 1) (by omega) hj).mp hx.1
        refine ⟨j, h1, ?_, rfl⟩
        by_cases z : 3 ≤ kk
        · have e : nI kk - 3 = nI (kk - 3) := pk_sub (a := kk) (b := 3) z
          rw [e] at hx
          have := (nI_leI hj (by omega)).mp hx.2
          omega
        · have e2 : kk = 2 := by omega
          subst e2
          exact absurd (Int32.le_trans hx.1 hx.2) (by decide)
      obtain ⟨σ2, p1, p2⟩ := c_arriving d ht 4 (by omega) kk (nib N) coins σ1 hR g1.law.W
      have g2 := g1.scr (jep.of p2 (fun b j h => la_scr h))
      have hR2 : cRow σ2 kk (nib N) := by
        obtain ⟨b1, b2, b3, b4⟩ := hR
        exact ⟨b1, b2, by rw [(p2 69 (fun q => by rcases ht with rfl | rfl <;> rcases q with q | q <;> omega)).1]; exact b3, fun j hj => by rw [(p2 70 (fun q => by rcases ht with rfl | rfl <;> rcases q with q | q <;> omega)).1]; exact b4 j hj⟩
      obtain ⟨σ3, s1, s2, s3⟩ := c_swapAt (d + 4) σ2 hR2 (show q + 1 < kk by omega)
      have g3 := g2.scr (s2.mono (fun b j h => by subst h; exact tr_scr ht (by omega)))
      obtain ⟨σ4, u1, u2⟩ := c_arriving d ht 4 (by omega) kk (rSw (nib N) q) coins σ3 s3 g3.law.W
      have g4 := g3.scr (jep.of u2 (fun b j h => la_scr h))
      have tT : ∀ i, i ≤ 14 → σ4.1 (t + i) = σ1.1 (t + i) ∧ σ3.1 (t + i) = σ1.1 (t + i) := fun i hi => by
        have x1 := (u2 (t + i) (fun q => by rcases q with q | q <;> omega)).1
        have x2 : σ3.1 (t + i) = σ2.1 (t + i) := s2.cellI (fun k q => by rcases ht with rfl | rfl <;> omega)
        have x3 := (p2 (t + i) (fun q => by rcases q with q | q <;> omega)).1
        exact ⟨(x1.trans x2).trans x3, x2.trans x3⟩
      have hE3 : lawE t σ1 σ3 := ⟨(tT 10 (by omega)).2, (tT 11 (by omega)).2, (tT 12 (by omega)).2, (tT 13 (by omega)).2, (tT 14 (by omega)).2⟩
      have hE4 : lawE t σ1 σ4 := ⟨(tT 10 (by omega)).1, (tT 11 (by omega)).1, (tT 12 (by omega)).1, (tT 13 (by omega)).1, (tT 14 (by omega)).1⟩
      have t4 : σ4.1 t 0 = nI A := by
        have := (tT 0 (by omega)).1
        rw [Nat.add_zero] at this
        rw [this]; exact a11
      obtain ⟨σ5, σ6, m1, m2, m3, m4, m5, m6, m7, m8⟩ := m_begin (d + 2) (nI kk) coins hN σ4 g4 t4 hA
      obtain ⟨k', e1, hRm⟩ := m8 h
      have ek : kk = k' := nI_inj (by omega) (by have := hRm.2.1; omega) e1
      subst ek
      obtain ⟨σ7, v1, v2, -⟩ := m_sends d ht kk (nib N) coins σ6 hRm m3.law m5
      have g7 := m3.scr (v2.mono (fun b j h => ms_scr ht h))
      have no7 : ∀ b j, b ≠ 103 → b ≠ 102 → b ≠ 115 → ¬ (b = 86 ∧ j = 35) → σ7.1 b j = σ6.1 b j := fun b j h1 h2 h3 h4 => (v2 b j (fun q => by rcases q with q | q | q | q <;> omega)).1
      obtain ⟨b1, b2, b3, b4⟩ := id hRm
      have hR7 : mRow (j_setI (j_setI σ7 114 q (σ7.1 114 (q + 1))) 114 (q + 1) (σ7.1 114 q)) kk (rSw (nib N) q) := by
        have e70 : ∀ j, σ7.1 114 j = σ6.1 114 j := fun j => no7 114 j (by omega) (by omega) (by omega) (by omega)
        refine ⟨b1, b2, by rw [setI_ne (by omega), setI_ne (by omega), no7 86 50 (by omega) (by omega) (by omega) (by omega)]; exact b3, fun j hj => ?_⟩
        unfold rSw
        by_cases e1 : j = q
        · subst e1
          rw [if_pos rfl, setI_nk (by omega), setI_same, e70]
          exact b4 (j + 1) (by omega)
        rw [if_neg e1]
        by_cases e2 : j = q + 1
        · subst e2
          rw [if_pos rfl, setI_same, e70]
          exact b4 q (by omega)
        · rw [if_neg e2, setI_nk e2, setI_nk e1, e70]
          exact b4 j hj
      have S8 : jep (fun b _ => b = 114) σ7 (j_setI (j_setI σ7 114 q (σ7.1 114 (q + 1))) 114 (q + 1) (σ7.1 114 q)) := (jep.rf.sI (S := fun b _ => b = 114) rfl).sI rfl
      have g8 := g7.scr (S8.mono (fun b j h => mt_scr ht (Or.inl h)))
      have k8 : ∀ b j, b ≠ 114 → b ≠ 103 → b ≠ 102 → b ≠ 115 → ¬ (b = 86 ∧ j = 35) → (j_setI (j_setI σ7 114 q (σ7.1 114 (q + 1))) 114 (q + 1) (σ7.1 114 q)).1 b j = σ6.1 b j := fun b j h0 h1 h2 h3 h4 => by
        rw [setI_ne h0, setI_ne h0, no7 b j h1 h2 h3 h4]
      obtain ⟨σ9, y1, y2, -⟩ := m_sends d ht kk (rSw (nib N) q) coins _ hR7 g8.law (by rw [k8 86 32 (by omega) (by omega) (by omega) (by omega) (by omega)]; exact m5)
      have g9 := g8.scr (y2.mono (fun b j h => ms_scr ht h))
      -- both arrive alike
      obtain ⟨A6, hA6, f1, f2, f3⟩ := m3.A
      have a6 : A6 = A := by
        have this : σ6.1 t 0 = nI A := m7.2
        rw [f1] at this
        exact nI_inj (by omega) (by omega) this
      subst a6
      obtain ⟨A8, hA8, h81, h82, h83⟩ := g8.A
      have a8 : A8 = A6 := by
        have : σ6.1 t 0 = nI A6 := m7.2
        rw [k8 t 0 (by rcases ht with rfl | rfl <;> omega) (by rcases ht with rfl | rfl <;> omega) (by rcases ht with rfl | rfl <;> omega) (by rcases ht with rfl | rfl <;> omega) (by rcases ht with rfl | rfl <;> omega), this] at h81
        exact (nI_inj (by omega) (by omega) h81).symm
      subst a8
      have hE6 : lawE t σ1 σ6 := hE4.tr m6
      have z2 : σ6.1 (t + 2) = σ1.1 (t + 2) := m7.1.trans (tT 2 (by omega)).1
      have hE8 : lawE t σ6 (j_setI (j_setI σ7 114 q (σ7.1 114 (q + 1))) 114 (q + 1) (σ7.1 114 q)) := by
        have c : ∀ i, i ≤ 14 → (j_setI (j_setI σ7 114 q (σ7.1 114 (q + 1))) 114 (q + 1) (σ7.1 114 q)).1 (t + i) = σ6.1 (t + i) := fun i hi => funext fun j => k8 (t + i) j (by rcases ht with rfl | rfl <;> omega) (by rcases ht with rfl | rfl <;> omega) (by rcases ht with rfl | rfl <;> omega) (by rcases ht with rfl | rfl <;> omega) (by rcases ht with rfl | rfl <;> omega)
        exact ⟨c 10 (by omega), c 11 (by omega), c 12 (by omega), c 13 (by omega), c 14 (by omega)⟩
      have z28 : (j_setI (j_setI σ7 114 q (σ7.1 114 (q + 1))) 114 (q + 1) (σ7.1 114 q)).1 (t + 2) = σ6.1 (t + 2) := funext fun j => k8 (t + 2) j (by rcases ht with rfl | rfl <;> omega) (by rcases ht with rfl | rfl <;> omega) (by rcases ht with rfl | rfl <;> omega) (by rcases ht with rfl | rfl <;> omega) (by rcases ht with rfl | rfl <;> omega)
      have e1 : arr (mSh σ6 t 4 (nib N)) (kk - 2) 1 coins = arr (cSh σ1 t 4 (nib N)) (kk - 2) 1 coins := arr_congr (kk - 2) 1 coins (fun c j j1 j2 => by
        rw [mSh_cSh m4 f3 (kk4 j (by omega)) (kk4 (j + 1) (by omega)), cSh_same hE6 z2])
      have hlt := rSw_lt (q := q) kk4 (by omega)
      have e2 : arr (mSh (j_setI (j_setI σ7 114 q (σ7.1 114 (q + 1))) 114 (q + 1) (σ7.1 114 q)) t 4 (rSw (nib N) q)) (kk - 2) 1 coins = arr (cSh σ3 t 4 (rSw (nib N) q)) (kk - 2) 1 coins := arr_congr (kk - 2) 1 coins (fun c j j1 j2 => by
        rw [mSh_cSh (by rw [k8 86 30 (by omega) (by omega) (by omega) (by omega) (by omega)]; exact m4) h83 (hlt j (by omega)) (hlt (j + 1) (by omega)), cSh_same (hE6.tr hE8) (z28.trans z2), cSh_same hE3 (tT 2 (by omega)).2])
      refine ⟨arr (cSh σ3 t 4 (rSw (nib N) q)) (kk - 2) 1 coins - arr (cSh σ1 t 4 (nib N)) (kk - 2) 1 coins, σ4, σ9, t, ?_, ?_, g9⟩
      · show g_HH_worth (d + 6) (nI kk) (lN N) coins (nI q) σ = _
        have p1' : g_Rw_arriving (d + 5) t 4 coins σ1 = some (some (.int (arr (cSh σ1 t 4 (nib N)) (kk - 2) 1 coins)), σ2) := p1
        have u1' : g_Rw_arriving (d + 5) t 4 coins σ3 = some (some (.int (arr (cSh σ3 t 4 (rSw (nib N) q)) (kk - 2) 1 coins)), σ4) := u1
        rw [e_HH_worth, q_HH_worth_0, c1, rI_s]
        simp only [Option.bind_some]
        rw [b2i_t h, jif_f (by decide), hcar, rI_s]
        simp only [Option.bind_some]
        rw [c_within, rI_s]
        simp only [Option.bind_some]
        rw [if_pos (show 1 ≤ nI q ∧ nI q ≤ nI kk - 2 - 1 by rw [sub_3]; exact hx), jif_f (by decide), q_HH_worth_2, g1.2.1, p1', rI_s]
        simp only [Option.bind_some]
        rw [s1, rV_s]
        simp only [Option.bind_some]
        rw [g3.2.1, u1', rI_s]
        rfl
      · show g_M_worth (d + 6) (nI kk) (lN N) coins (nI q) σ4 = _
        have m1' : g_M_plain (d + 5) (j_setI σ4 86 0 0) = some (none, σ5) := by
          rw [m_plain] at m1 ⊢
          exact m1
        rw [e_M_worth, q_M_worth_0, m1', rV_s]
        simp only [Option.bind_some]
        rw [m2, rI_s]
        simp only [Option.bind_some]
        rw [b2i_t h, jif_f (by decide), jif_f (Int32.not_lt.mpr hx.1), jif_t hx.2, q_M_worth_2, v1, rI_s]
        simp only [Option.bind_some]
        rw [rdI_ok (a := 114) (n := 10) rfl rfl (by omega) (by omega)]
        simp only [Option.bind_some]
        rw [nI_1, rdI_ok (a := 114) (n := 10) rfl rfl (by omega) (by omega)]
        simp only [Option.bind_some]
        rw [wrI_ok (a := 114) (n := 10) rfl rfl (by omega) (by omega)]
        simp only [Option.bind_some]
        rw [wrI_ok (a := 114) (n := 10) rfl rfl (by omega) (by omega)]
        simp only [Option.bind_some]
        rw [y1, rI_s]
        simp only [Option.bind_some]
        rw [e1, e2]
    · obtain ⟨σ5, σ6, m1, m2, m3, m4, m5, m6, m7, m8⟩ := m_begin (d + 2) (nI kk) coins hN σ1 g1 a11 hA
      refine ⟨-2147483648, σ1, σ6, t, ?_, ?_, m3⟩
      · show g_HH_worth (d + 6) (nI kk) (lN N) coins x σ = _
        rw [e_HH_worth, q_HH_worth_0, c1, rI_s]
        simp only [Option.bind_some]
        rw [b2i_t h, jif_f (by decide), hcar, rI_s]
        simp only [Option.bind_some]
        rw [c_within, rI_s]
        simp only [Option.bind_some]
        rw [if_neg (show ¬ (1 ≤ x ∧ x ≤ nI kk - 2 - 1) by rw [sub_3]; exact hx), jif_t rfl, q_HH_worth_1]
      · show g_M_worth (d + 6) (nI kk) (lN N) coins x σ1 = _
        have m1' : g_M_plain (d + 5) (j_setI σ1 86 0 0) = some (none, σ5) := by
          rw [m_plain] at m1 ⊢
          exact m1
        rw [e_M_worth, q_M_worth_0, m1', rV_s]
        simp only [Option.bind_some]
        rw [m2, rI_s]
        simp only [Option.bind_some]
        rw [b2i_t h, jif_f (by decide), q_M_worth_1]
        by_cases z : x < 1
        · rw [jif_t z]
        · rw [jif_f z, jif_f (fun y => hx ⟨Int32.not_lt.mp z, y⟩)]
  · obtain ⟨σ5, σ6, m1, m2, m3, m4, m5, m6, m7, m8⟩ := m_begin (d + 2) n coins hN σ1 g1 a11 hA
    refine ⟨-2147483648, σ1, σ6, t, ?_, ?_, m3⟩
    · show g_HH_worth (d + 6) n (lN N) coins x σ = _
      rw [e_HH_worth, q_HH_worth_0, c1, rI_s]
      simp only [Option.bind_some]
      rw [b2i_f h, jif_t rfl, q_HH_worth_1]
    · show g_M_worth (d + 6) n (lN N) coins x σ1 = _
      have m1' : g_M_plain (d + 5) (j_setI σ1 86 0 0) = some (none, σ5) := by
        rw [m_plain] at m1 ⊢
        exact m1
      rw [e_M_worth, q_M_worth_0, m1', rV_s]
      simp only [Option.bind_some]
      rw [m2, rI_s]
      simp only [Option.bind_some]
      rw [b2i_f h, jif_t rfl, q_M_worth_1]
