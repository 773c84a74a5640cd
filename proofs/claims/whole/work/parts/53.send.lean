/-! New parcels; 6: send; 8: coins. -/
theorem c_add (d : Nat) {j N : Nat} (hj : jJo j) (σ : jS) (x y z : Int32) (hN : N < 30) (h3 : σ.1 j 3 = nI N) :
    ∃ σ', g_Jo_add (d + 1) j x y z σ = some (some (.int (nI N)), σ') ∧ jep (fun b k => (j + 3 ≤ b ∧ b ≤ j + 9 ∧ k = N) ∨ (b = j ∧ k = 3)) σ σ' ∧ σ'.1 j 3 = nI (N + 1) ∧ σ'.1 (j + 3) N = x ∧ σ'.1 (j + 4) N = y ∧ σ'.1 (j + 5) N = z ∧ σ'.1 (j + 6) N = 0 ∧ σ'.1 (j + 7) N = 0 ∧ σ'.1 (j + 8) N = 0 ∧ σ'.1 (j + 9) N = -1 := by
  rw [e_Jo_add, q_Jo_add_0, jo_is hj, jc_t, h3, jif_t (show nI N < (30 : Int32) from nI_lt (b := 30) hN (by omega)), q_Jo_add_1]
  simp only [jo_is hj, jc_t]
  rw [(jo_cr hj).2.2.1, h3, wrI_ok (jo_len hj).2.2.1 rfl (by omega) (by omega)]
  simp only [Option.bind_some]
  rw [(jo_cr hj).2.2.2.1, setI_ne (by omega), h3, wrI_ok (jo_len hj).2.2.2.1 rfl (by omega) (by omega)]
  simp only [Option.bind_some]
  rw [(jo_cr hj).2.2.2.2.1, setI_ne (by omega), setI_ne (by omega), h3, wrI_ok (jo_len hj).2.2.2.2.1 rfl (by omega) (by omega)]
  simp only [Option.bind_some]
  rw [(jo_cr hj).2.2.2.2.2.1, setI_ne (by omega), setI_ne (by omega), setI_ne (by omega), h3, wrI_ok (jo_len hj).2.2.2.2.2.1 rfl (by omega) (by omega)]
  simp only [Option.bind_some]
  rw [(jo_cr hj).2.2.2.2.2.2.1, setI_ne (by omega), setI_ne (by omega), setI_ne (by omega), setI_ne (by omega), h3, wrI_ok (jo_len hj).2.2.2.2.2.2.1 rfl (by omega) (by omega)]
  simp only [Option.bind_some]
  rw [(jo_cr hj).2.2.2.2.2.2.2.1, setI_ne (by omega), setI_ne (by omega), setI_ne (by omega), setI_ne (by omega), setI_ne (by omega), h3, wrI_ok (jo_len hj).2.2.2.2.2.2.2.1 rfl (by omega) (by omega)]
  simp only [Option.bind_some]
  rw [(jo_cr hj).2.2.2.2.2.2.2.2, setI_ne (by omega), setI_ne (by omega), setI_ne (by omega), setI_ne (by omega), setI_ne (by omega), setI_ne (by omega), h3, wrI_ok (jo_len hj).2.2.2.2.2.2.2.2 rfl (by omega) (by omega)]
  simp only [Option.bind_some]
  rw [setI_same, setI_ne (by omega), setI_ne (by omega), setI_ne (by omega), setI_ne (by omega), setI_ne (by omega), setI_ne (by omega), setI_ne (by omega), h3, nI_1, nI_pred]
  refine ⟨_, rfl, ?_, setI_same _ _ _ _, ?_, ?_, ?_, ?_, ?_, ?_, ?_⟩
  · refine (((((((jep.rf.sI ?_).sI ?_).sI ?_).sI ?_).sI ?_).sI ?_).sI ?_).sI ?_ <;> omega
  · rw [setI_ne (by omega), setI_ne (by omega), setI_ne (by omega), setI_ne (by omega), setI_ne (by omega), setI_ne (by omega), setI_ne (by omega), setI_same]
  · rw [setI_ne (by omega), setI_ne (by omega), setI_ne (by omega), setI_ne (by omega), setI_ne (by omega), setI_ne (by omega), setI_same]
  · rw [setI_ne (by omega), setI_ne (by omega), setI_ne (by omega), setI_ne (by omega), setI_ne (by omega), setI_same]
  · rw [setI_ne (by omega), setI_ne (by omega), setI_ne (by omega), setI_ne (by omega), setI_same]
  · rw [setI_ne (by omega), setI_ne (by omega), setI_ne (by omega), setI_same]
  · rw [setI_ne (by omega), setI_ne (by omega), setI_same]
  · rw [setI_ne (by omega), setI_same]
theorem m_newParcel (d : Nat) {i : Nat} (hi : i < 90) (σ : jS) : ∃ σ', g_M_newParcel (d + 1) (nI i) σ = some (none, σ') ∧ jep (fun b k => 110 ≤ b ∧ b ≤ 113 ∧ k = i) σ σ' ∧ σ'.1 110 i = 0 ∧ σ'.1 111 i = 0 ∧ σ'.1 112 i = 0 ∧ σ'.1 113 i = -1 := by
  rw [e_M_newParcel, q_M_newParcel_0, wrI_ok (a := 110) (n := 90) rfl rfl (by omega) (by omega)]
  simp only [Option.bind_some]
  rw [wrI_ok (a := 111) (n := 90) rfl rfl (by omega) (by omega)]
  simp only [Option.bind_some]
  rw [wrI_ok (a := 112) (n := 90) rfl rfl (by omega) (by omega)]
  simp only [Option.bind_some]
  rw [wrI_ok (a := 113) (n := 90) rfl rfl (by omega) (by omega)]
  simp only [Option.bind_some]
  refine ⟨_, rfl, ?_, ?_, ?_, ?_, ?_⟩
  · refine (((jep.rf.sI ?_).sI ?_).sI ?_).sI ?_ <;> omega
  · rw [setI_ne (by omega), setI_ne (by omega), setI_ne (by omega), setI_same]
  · rw [setI_ne (by omega), setI_ne (by omega), setI_same]
  · rw [setI_ne (by omega), setI_same]
  · rw [setI_same]
theorem op_send (d : Nat) (x y : Int32) (σ : jS) (t : Nat) (g : jInv σ t) : opI (g_HH_send (d + 3) x y) (g_M_send (d + 3) x y) σ := by
  obtain ⟨ht, r2, r3, hT, hF, A, Pt, M, N, hte, hla, h36, hjo, hno, him⟩ := id g
  obtain ⟨n1, n2, n3, ⟨H, n4, n4'⟩, n5, n6, n7, n8⟩ := id hjo
  have a4 := hte.2.2.2.1
  have a5 := hte.2.2.2.2.1
  have hA := hte.1
  have hpC := c_isPersonT d ht x σ a4 hA
  have hpM : g_M_isPerson (d + 2) x (j_setI σ 86 0 0) = some (some (.int (b2i (0 ≤ x ∧ x < nI A))), j_setI σ 86 0 0) := by
    rw [m_isPerson, setI_ne (by omega), a5]
  have no : (¬ ((0 ≤ x ∧ x < nI A) ∧ (1 ≤ y ∧ y ≤ 99999) ∧ N < 30)) → opI (g_HH_send (d + 3) x y) (g_M_send (d + 3) x y) σ := fun q => by
    refine ⟨-1, σ, j_setI σ 86 0 0, t, ?_, ?_, g.th 0⟩
    · show g_HH_send (d + 3) x y σ = _
      rw [e_HH_send, q_HH_send_0, r2, (te_is ht).1, jc_t, hpC, rI_s]
      simp only [Option.bind_some]
      by_cases h1 : 0 ≤ x ∧ x < nI A
      · rw [b2i_t h1, jif_f (by decide), c_within, rI_s]
        simp only [Option.bind_some]
        by_cases h2 : 1 ≤ y ∧ y ≤ 99999
        · rw [if_pos h2, jif_f (by decide), n2, jif_f (show ¬ nI N < (30 : Int32) from nI_nlt (b := 30) (by
            by_cases z : N < 30
            · exact absurd ⟨h1, h2, z⟩ q
            · omega) (by omega)), q_HH_send_1]
        · rw [if_neg h2, jif_t rfl, q_HH_send_1]
      · rw [b2i_f h1, jif_t rfl, q_HH_send_1]
    · show g_M_send (d + 3) x y σ = _
      rw [e_M_send, q_M_send_0, hpM, rI_s]
      simp only [Option.bind_some]
      rw [q_M_send_1]
      by_cases h1 : 0 ≤ x ∧ x < nI A
      · rw [b2i_t h1, jif_f (by decide)]
        by_cases h2 : y < 1
        · rw [jif_t h2]
        rw [jif_f h2]
        by_cases h3 : 99999 < y
        · rw [jif_t h3]
        rw [jif_f h3, setI_nk (by omega), h36, jif_t (show nI N = (30 : Int32) by
          have : N = 30 := by
            by_cases z : N < 30
            · exact absurd ⟨h1, ⟨Int32.not_lt.mp h2, Int32.not_lt.mp h3⟩, z⟩ q
            · omega
          rw [this]; rfl)]
      · rw [b2i_f h1, jif_t rfl]
  by_cases h : (0 ≤ x ∧ x < nI A) ∧ (1 ≤ y ∧ y ≤ 99999) ∧ N < 30
  · obtain ⟨h1, h2, h3⟩ := h
    obtain ⟨p, hp, rfl⟩ : ∃ p, p < A ∧ x = nI p := by
      obtain ⟨j, hj, rfl⟩ := nI_of (x := x) (Int32.not_lt.mpr h1.1)
      exact ⟨j, (nI_ltI hj (by omega)).mp h1.2, rfl⟩
    obtain ⟨v, hv0, hv, rfl⟩ : ∃ v, 1 ≤ v ∧ v ≤ 99999 ∧ y = nI v := by
      obtain ⟨j, hj, rfl⟩ := nI_of (x := y) (fun z => absurd (Int32.lt_of_le_of_lt h2.1 z) (by decide))
      exact ⟨j, (nI_leI (a := 1) (by omega) hj).mp h2.1, (nI_leI (b := 99999) hj (by omega)).mp h2.2, rfl⟩
    obtain ⟨σ1, c1, c2, c3, c4, c5, c6, c7, c8, c9, c10⟩ := c_add (d + 1) (j := 39) (Or.inl rfl) σ (nI p) (nI v) (nI H) h3 n2
    have k1 : ∀ b k, 86 ≤ b → σ1.1 b k = σ.1 b k := fun b k hb => (c2 b k (by omega)).1
    -- the reference
    have hp1 : g_M_isPerson (d + 2) (nI p) (j_setI σ1 86 0 0) = some (some (.int (b2i (0 ≤ nI p ∧ nI p < nI A))), j_setI σ1 86 0 0) := by
      rw [m_isPerson, setI_ne (by omega), k1 88 0 (by omega), a5]
    have s36 : (j_setI σ1 86 0 0).1 86 36 = nI N := by rw [setI_nk (by omega), k1 86 36 (by omega)]; exact h36
    obtain ⟨σ5, w1, w2, w3, w4, w5, w6⟩ := m_newParcel (d + 1) (i := N) (by omega) (j_setI (j_setI (j_setI (j_setI σ1 86 0 0) 104 N (nI p)) 105 N (nI v)) 106 N (nI H))
    have n36 : σ5.1 86 36 = nI N := by
      rw [(w2 86 36 (by omega)).1, setI_ne (by omega), setI_ne (by omega), setI_ne (by omega)]; exact s36
    have kk : ∀ b k, ¬ (b = 86 ∧ k = 0) → ¬ (b = 86 ∧ k = 36) → ¬ (104 ≤ b ∧ b ≤ 106 ∧ k = N) → ¬ (110 ≤ b ∧ b ≤ 113 ∧ k = N) → (j_setI σ5 86 36 (nI (N + 1))).1 b k = σ1.1 b k := fun b k e1 e2 e3 e4 => by
      rw [setI_get, if_neg e2, (w2 b k e4).1, setI_get, if_neg (by omega), setI_get, if_neg (by omega), setI_get, if_neg (by omega), setI_get, if_neg e1]
    refine ⟨nI N, σ1, j_setI σ5 86 36 (nI (N + 1)), t, ?_, ?_, ?_⟩
    · show g_HH_send (d + 3) (nI p) (nI v) σ = _
      rw [e_HH_send, q_HH_send_0, r2, (te_is ht).1, jc_t, hpC, rI_s]
      simp only [Option.bind_some]
      rw [b2i_t h1, jif_f (by decide), c_within, rI_s]
      simp only [Option.bind_some]
      rw [if_pos h2, jif_f (by decide), n2, jif_t (show nI N < (30 : Int32) from nI_lt (b := 30) h3 (by omega)), q_HH_send_2, n4', c1, rI_s]
      rfl
    · show g_M_send (d + 3) (nI p) (nI v) σ1 = _
      rw [e_M_send, q_M_send_0, hp1, rI_s]
      simp only [Option.bind_some]
      rw [b2i_t h1, jif_f (by decide), jif_f (Int32.not_lt.mpr h2.1), jif_f (Int32.not_lt.mpr h2.2), s36, jif_f (show ¬ nI N = (30 : Int32) from fun z => by have := (nI_eq (b := 30) (by omega) (by omega)).mp z; omega), q_M_send_2, s36, wrI_ok (a := 104) (n := 30) rfl rfl (by omega) (by omega)]
      simp only [Option.bind_some]
      rw [setI_ne (by omega), s36, wrI_ok (a := 105) (n := 30) rfl rfl (by omega) (by omega)]
      simp only [Option.bind_some]
      rw [rdI_ok (a := 107) (n := 3) (i := 0) (k := 0) rfl rfl (by omega) (by omega)]
      simp only [Option.bind_some]
      have e36 : (j_setI (j_setI (j_setI σ1 86 0 0) 104 N (nI p)) 105 N (nI v)).1 86 36 = nI N := by rw [setI_ne (by omega), setI_ne (by omega)]; exact s36
      have e107 : (j_setI (j_setI (j_setI σ1 86 0 0) 104 N (nI p)) 105 N (nI v)).1 107 0 = nI H := by rw [setI_ne (by omega), setI_ne (by omega), setI_ne (by omega), k1 107 0 (by omega), ← n3]; exact n4'
      rw [e36, e107, wrI_ok (a := 106) (n := 30) rfl rfl (by omega) (by omega)]
      simp only [Option.bind_some]
      rw [setI_ne (by omega), setI_ne (by omega), setI_ne (by omega), s36, w1, rV_s]
      simp only [Option.bind_some]
      rw [setI_same, n36, nI_1, nI_pred]
    · have s4 : jep (jr_S t) σ (j_setI σ5 86 36 (nI (N + 1))) := by
        refine (c2.mono (fun b k q => ?_)).tr (((((((jep.rf.sI ?_).sI ?_).sI ?_).sI ?_).tr (w2.mono (fun b k q => ?_))).sI ?_))
        · right; left; omega
        · left; rcases ht with rfl | rfl <;> simp [jScr]
        · right; right; left; omega
        · right; right; left; omega
        · right; right; left; omega
        · right; right; right; right; right; right; omega
        · right; right; right; left; exact ⟨rfl, rfl⟩
      refine g.jr a4 hA s4 (N' := N + 1) (setI_same _ _ _ _) ?_
      have kL : ∀ b k, (j_setI σ5 86 36 (nI (N + 1))).2.2 b k = σ1.2.2 b k ∨ (110 ≤ b ∧ b ≤ 113 ∧ k = N) := fun b k => by
        by_cases e : 110 ≤ b ∧ b ≤ 113 ∧ k = N
        · exact Or.inr e
        · exact Or.inl (w2 b k e).2.2
      have j39 : ∀ b k, 39 ≤ b → b ≤ 48 → (j_setI σ5 86 36 (nI (N + 1))).1 b k = σ1.1 b k := fun b k h1 h2 => kk b k (by omega) (by omega) (by omega) (by omega)
      have eT : (j_setI σ5 86 36 (nI (N + 1))).1 (t + 4) = σ.1 (t + 4) := by
        funext k
        rw [kk (t + 4) k (by rcases ht with rfl | rfl <;> omega) (by rcases ht with rfl | rfl <;> omega) (by rcases ht with rfl | rfl <;> omega) (by rcases ht with rfl | rfl <;> omega)]
        exact (c2 (t + 4) k (by rcases ht with rfl | rfl <;> omega)).1
      have e0 : (j_setI σ5 86 36 (nI (N + 1))).1 39 0 = σ.1 39 0 := by rw [j39 39 0 (by omega) (by omega), (c2 39 0 (by omega)).1]
      refine ⟨by omega, ?_, ?_, ?_, ?_, ?_, fun q hq => ?_, fun k hk => ?_⟩
      · rw [j39 39 3 (by omega) (by omega)]; exact c3
      · rw [e0, kk 107 0 (by omega) (by omega) (by omega) (by omega), k1 107 0 (by omega)]; exact n3
      · rw [e0]; exact ⟨H, n4, n4'⟩
      · rcases kL 39 11 with z | z
        · rw [z, (c2 39 11 (by omega)).2.2]; exact n5
        · omega
      · rw [j39 39 12 (by omega) (by omega), (c2 39 12 (by omega)).1]; exact n6
      · rw [j39 (39 + 1) q (by omega) (by omega), j39 (39 + 2) q (by omega) (by omega), (c2 (39 + 1) q (by omega)).1, (c2 (39 + 2) q (by omega)).1, kk 108 _ (by omega) (by omega) (by omega) (by omega), kk 109 _ (by omega) (by omega) (by omega) (by omega), k1 108 _ (by omega), k1 109 _ (by omega), eT]
        exact n7 q hq
      · rw [e0]
        by_cases e : k = N
        · subst e
          rw [j39 (39 + 3) k (by omega) (by omega), j39 (39 + 4) k (by omega) (by omega), j39 (39 + 5) k (by omega) (by omega), j39 (39 + 6) k (by omega) (by omega), j39 (39 + 7) k (by omega) (by omega), j39 (39 + 8) k (by omega) (by omega), j39 (39 + 9) k (by omega) (by omega)]
          rw [c4, c5, c6, c7, c8, c9, c10, Nat.mul_zero, Nat.zero_add]
          have u : ∀ b, b ≠ 86 → (j_setI σ5 86 36 (nI (k + 1))).1 b k = σ5.1 b k := fun b hb => setI_ne hb
          rw [u 104 (by omega), u (104 + 1) (by omega), u (104 + 2) (by omega), u 110 (by omega), u 111 (by omega), u 112 (by omega), u 113 (by omega), w3, w4, w5, w6, (w2 104 k (by omega)).1, (w2 (104 + 1) k (by omega)).1, (w2 (104 + 2) k (by omega)).1]
          refine ⟨?_, ?_, ?_, rfl, rfl, rfl, rfl, ⟨p, hp, rfl⟩, ⟨v, hv0, hv, rfl⟩, ⟨H, n4, rfl⟩, Or.inl ⟨rfl, rfl⟩, 0, by omega, rfl, fun _ => by omega⟩
          · rw [setI_ne (by omega), setI_ne (by omega), setI_same]
          · rw [setI_ne (by omega), setI_same]
          · rw [setI_same]
        · have m : ∀ b, 39 + 3 ≤ b → b ≤ 48 → (j_setI σ5 86 36 (nI (N + 1))).1 b k = σ.1 b k := fun b h1 h2 => by
            rw [j39 b k (by omega) h2, (c2 b k (by omega)).1]
          have m2 : ∀ b q, (104 ≤ b ∧ b ≤ 106 ∧ q = k) ∨ (110 ≤ b ∧ b ≤ 113 ∧ q = 30 * 0 + k) → (j_setI σ5 86 36 (nI (N + 1))).1 b q = σ.1 b q := fun b q h => by
            rw [kk b q (by omega) (by omega) (by omega) (by omega), k1 b q (by omega)]
          rw [m (39 + 3) (by omega) (by omega), m (39 + 4) (by omega) (by omega), m (39 + 5) (by omega) (by omega), m (39 + 6) (by omega) (by omega), m (39 + 7) (by omega) (by omega), m (39 + 8) (by omega) (by omega), m (39 + 9) (by omega) (by omega), m2 104 k (by omega), m2 (104 + 1) k (by omega), m2 (104 + 2) k (by omega), m2 110 _ (by omega), m2 111 _ (by omega), m2 112 _ (by omega), m2 113 _ (by omega)]
          exact n8 k (by omega)
  · exact no h
/-- sums -/
def sumL (f : Nat → Int32) : Nat → Nat → Int64 → Int64
  | 0, _, s => s
  | m + 1, i, s => sumL f m (i + 1) (s + (f i).toInt64)
theorem sumL_congr {f g : Nat → Int32} : ∀ (m i : Nat) (s : Int64), (∀ k, i ≤ k → k < i + m → f k = g k) → sumL f m i s = sumL g m i s
  | 0, _, _, _ => rfl
  | m + 1, i, s, h => by
    unfold sumL
    rw [h i (Nat.le_refl _) (by omega), sumL_congr m (i + 1) _ (fun k h1 h2 => h k (by omega) (by omega))]
theorem c_coins1 (d : Nat) {j t A : Nat} (hj : jJo j) (ht : jTe t) (σ : jS) (h11 : σ.2.2 j 11 = t) (hA0 : σ.1 t 0 = nI A) (hA : A ≤ 10) : ∀ (m i : Nat) (s : Int64), i + m = A → b_Jo_allCoins_1 d j s (nI i) σ = b_Jo_allCoins_2 d j (sumL (σ.1 (j + 1)) m i s) σ
  | 0, i, s, hi => by
    rw [q_Jo_allCoins_1, h11, jo_is hj, jc_t, (te_is ht).1, jc_t, hA0, jif_t (nI_le (by omega) (by omega))]; rfl
  | m + 1, i, s, hi => by
    rw [q_Jo_allCoins_1, h11]
    simp only [jo_is hj, (te_is ht).1, jc_t]
    rw [hA0, jif_f (nI_ge (by omega) (by omega)), (jo_cr hj).1, rdI_ok (jo_len hj).1 rfl (by omega) (by omega)]
    simp only [Option.bind_some]
    rw [nI_1, c_coins1 d hj ht σ h11 hA0 hA m (i + 1) _ (by omega)]; rfl
theorem c_coins3 (d : Nat) {j N : Nat} (hj : jJo j) (σ : jS) (h3 : σ.1 j 3 = nI N) (hN : N ≤ 30) : ∀ (m i : Nat) (s : Int64), i + m = N → b_Jo_allCoins_3 d j s (nI i) σ = some (some (.long (sumL (σ.1 (j + 7)) m i s)), σ)
  | 0, i, s, hi => by
    rw [q_Jo_allCoins_3, jo_is hj, jc_t, h3, jif_t (nI_le (by omega) (by omega)), q_Jo_allCoins_4]; rfl
  | m + 1, i, s, hi => by
    rw [q_Jo_allCoins_3]
    simp only [jo_is hj, jc_t]
    rw [h3, jif_f (nI_ge (by omega) (by omega)), (jo_cr hj).2.2.2.2.2.2.1, rdI_ok (jo_len hj).2.2.2.2.2.2.1 rfl (by omega) (by omega)]
    simp only [Option.bind_some]
    rw [nI_1, c_coins3 d hj σ h3 hN m (i + 1) _ (by omega)]; rfl
theorem m_coins1 (d : Nat) {A : Nat} (σ : jS) (hA0 : σ.1 88 0 = nI A) (hA : A ≤ 10) : ∀ (m i : Nat) (s : Int64), i + m = A → b_M_coins_1 d s (nI i) σ = b_M_coins_2 d (sumL (σ.1 108) m i s) σ
  | 0, i, s, hi => by
    rw [q_M_coins_1, rdI_ok (a := 88) (n := 8) (i := 0) (k := 0) rfl rfl (by omega) (by omega)]
    simp only [Option.bind_some]
    rw [hA0, jif_t (nI_le (by omega) (by omega))]; rfl
  | m + 1, i, s, hi => by
    rw [q_M_coins_1, rdI_ok (a := 88) (n := 8) (i := 0) (k := 0) rfl rfl (by omega) (by omega)]
    simp only [Option.bind_some]
    rw [hA0, jif_f (nI_ge (by omega) (by omega)), rdI_ok (a := 108) (n := 30) rfl rfl (by omega) (by omega)]
    simp only [Option.bind_some]
    rw [nI_1, m_coins1 d σ hA0 hA m (i + 1) _ (by omega)]; rfl
theorem m_coins3 (d : Nat) {N : Nat} (σ : jS) (h3 : σ.1 86 36 = nI N) (hN : N ≤ 30) : ∀ (m i : Nat) (s : Int64), i + m = N → b_M_coins_3 d s (nI i) σ = some (some (.long (sumL (σ.1 111) m i s)), σ)
  | 0, i, s, hi => by
    rw [q_M_coins_3, h3, jif_t (nI_le (by omega) (by omega)), q_M_coins_4]; rfl
  | m + 1, i, s, hi => by
    rw [q_M_coins_3, h3, jif_f (nI_ge (by omega) (by omega)), rdI_ok (a := 111) (n := 90) rfl rfl (by omega) (by omega)]
    simp only [Option.bind_some]
    rw [nI_1, m_coins3 d σ h3 hN m (i + 1) _ (by omega)]; rfl
theorem op_coins (d : Nat) (σ : jS) (t : Nat) (g : jInv σ t) : opL (g_HH_coins (d + 2)) (g_M_coins (d + 2)) σ := by
  obtain ⟨ht, r2, r3, hT, hF, A, Pt, M, N, hte, hla, h36, hjo, hno, him⟩ := id g
  obtain ⟨n1, n2, n3, n4, n5, n6, n7, n8⟩ := id hjo
  refine ⟨sumL (σ.1 46) N 0 (sumL (σ.1 40) A 0 0), σ, j_setI σ 86 0 0, t, ?_, ?_, g.th 0⟩
  · show g_HH_coins (d + 2) σ = _
    have x1 := c_coins1 d (j := 39) (Or.inl rfl) ht σ n5 hte.2.2.2.1 hte.1 A 0 0 (by omega)
    have x1' : b_Jo_allCoins_1 d 39 0 0 σ = b_Jo_allCoins_2 d 39 (sumL (σ.1 40) A 0 0) σ := x1
    have x3 := c_coins3 d (j := 39) (Or.inl rfl) σ n2 n1 N 0 (sumL (σ.1 40) A 0 0) (by omega)
    have x3' : b_Jo_allCoins_3 d 39 (sumL (σ.1 40) A 0 0) 0 σ = some (some (.long (sumL (σ.1 46) N 0 (sumL (σ.1 40) A 0 0))), σ) := x3
    rw [e_HH_coins, q_HH_coins_0, e_Jo_allCoins, q_Jo_allCoins_0, x1', q_Jo_allCoins_2, x3', rL_s]
    rfl
  · show g_M_coins (d + 2) σ = _
    have x1 := m_coins1 (d + 1) (j_setI σ 86 0 0) (by rw [setI_ne (by omega)]; exact hte.2.2.2.2.1) hte.1 A 0 0 (by omega)
    have x1' : b_M_coins_1 (d + 1) 0 0 (j_setI σ 86 0 0) = b_M_coins_2 (d + 1) (sumL (σ.1 108) A 0 0) (j_setI σ 86 0 0) := by
      rw [j_setI_ne (by omega)] at x1; exact x1
    have x3 := m_coins3 (d + 1) (j_setI σ 86 0 0) (by rw [setI_nk (by omega)]; exact h36) n1 N 0 (sumL (σ.1 108) A 0 0) (by omega)
    have x3' : b_M_coins_3 (d + 1) (sumL (σ.1 108) A 0 0) 0 (j_setI σ 86 0 0) = some (some (.long (sumL (σ.1 111) N 0 (sumL (σ.1 108) A 0 0))), j_setI σ 86 0 0) := by
      rw [j_setI_ne (by omega)] at x3; exact x3
    rw [e_M_coins, q_M_coins_0, x1', q_M_coins_2, x3']
    have y1 : sumL (σ.1 108) A 0 0 = sumL (σ.1 40) A 0 0 := sumL_congr A 0 0 (fun k _ hk => by
      have := (n7 k (by omega)).1
      rw [Nat.mul_zero, Nat.zero_add] at this
      exact this.symm)
    have y2 : ∀ s, sumL (σ.1 111) N 0 s = sumL (σ.1 46) N 0 s := fun s => sumL_congr N 0 s (fun k _ hk => by
      obtain ⟨-, -, -, -, p5, -⟩ := n8 k (by omega)
      rw [Nat.mul_zero, Nat.zero_add] at p5
      exact p5.symm)
    rw [y1, y2]
