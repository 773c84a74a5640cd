/-! Copies of journeys. -/
theorem jep.cp {S : Nat → Nat → Prop} {σ σ' : jS} {a0 s0 a1 d0 n : Nat} (h : jep S σ σ') (ha : ∀ k, S a1 k) : jep S σ (j_cpy σ' a0 s0 a1 d0 n) := h.tr (jep.of (jeq.cpy (S := fun b => b = a1) rfl) (fun b j q => q ▸ ha j))
def jjP (j0 j1 : Nat) : Prop := (j0 = 59 ∧ j1 = 39) ∨ (j0 = 49 ∧ j1 = 39) ∨ (j0 = 39 ∧ j1 = 49)
theorem cpy_0 {σ : jS} {a0 a1 n0 n1 n : Nat} {m : Int32} (h0 : j_len 0 a0 = some n0) (h1 : j_len 0 a1 = some n1) (hm : m = nI n) (e0 : n ≤ n0) (e1 : n ≤ n1) (l0 : n0 < 2 ^ 31) (l1 : n1 < 2 ^ 31) : j_copy σ a0 0 a1 0 m = some (j_cpy σ a0 0 a1 0 n) := cpy_ok (s0 := 0) (d0 := 0) h0 h1 rfl rfl hm (by omega) (by omega) l0 l1
theorem cpy_in {σ : jS} {a0 a1 n k : Nat} (hk : k < n) : (j_cpy σ a0 0 a1 0 n).1 a1 k = σ.1 a0 k := by
  show (if a1 = a1 ∧ 0 ≤ k ∧ k < 0 + n then σ.1 a0 (0 + (k - 0)) else σ.1 a1 k) = _
  rw [if_pos ⟨rfl, by omega, by omega⟩, Nat.sub_zero, Nat.zero_add]
theorem cpy_ne {σ : jS} {a0 a1 n b k : Nat} (hb : b ≠ a1) : (j_cpy σ a0 0 a1 0 n).1 b k = σ.1 b k := by
  show (if b = a1 ∧ 0 ≤ k ∧ k < 0 + n then σ.1 a0 (0 + (k - 0)) else σ.1 b k) = _
  rw [if_neg (fun q => hb q.1)]
theorem c_copyFrom (d : Nat) {j0 j1 : Nat} (hjj : jjP j0 j1) (σ : jS) : ∃ σ', g_Jo_copyFrom (d + 1) j0 j1 σ = some (none, σ') ∧ jep (fun b _ => j0 ≤ b ∧ b ≤ j0 + 9) σ σ' ∧ σ'.2.2 j0 11 = σ.2.2 j1 11 ∧ σ'.1 j0 0 = σ.1 j1 0 ∧ σ'.1 j0 3 = σ.1 j1 3 ∧ σ'.1 j0 12 = σ.1 j1 12 ∧ σ'.1 j0 13 = σ.1 j1 13 ∧ (∀ k, k < 10 → σ'.1 (j0 + 1) k = σ.1 (j1 + 1) k ∧ σ'.1 (j0 + 2) k = σ.1 (j1 + 2) k) ∧
    (∀ k, k < 30 → σ'.1 (j0 + 3) k = σ.1 (j1 + 3) k ∧ σ'.1 (j0 + 4) k = σ.1 (j1 + 4) k ∧ σ'.1 (j0 + 5) k = σ.1 (j1 + 5) k ∧ σ'.1 (j0 + 6) k = σ.1 (j1 + 6) k ∧ σ'.1 (j0 + 7) k = σ.1 (j1 + 7) k ∧ σ'.1 (j0 + 8) k = σ.1 (j1 + 8) k ∧ σ'.1 (j0 + 9) k = σ.1 (j1 + 9) k) := by
  have hj0 : jJo j0 := by unfold jjP at hjj; unfold jJo; omega
  have hj1 : jJo j1 := by unfold jjP at hjj; unfold jJo; omega
  have hd : ∀ a b, a ≤ 9 → b ≤ 9 → j1 + a ≠ j0 + b := fun a b ha hb => by unfold jjP at hjj; omega
  have hd0 : ∀ a, a ≤ 9 → j1 + a ≠ j0 := fun a ha => hd a 0 ha (by omega)
  have hdj : j1 ≠ j0 := hd 0 0 (by omega) (by omega)
  have hd1 : ∀ b, b ≤ 9 → j1 ≠ j0 + b := fun b hb => hd 0 b (by omega) hb
  obtain ⟨x1, x2, x3, x4, x5, x6, x7, x8, x9⟩ := jo_cr hj0
  obtain ⟨y1, y2, y3, y4, y5, y6, y7, y8, y9⟩ := jo_cr hj1
  obtain ⟨l1, l2, l3, l4, l5, l6, l7, l8, l9⟩ := jo_len hj0
  obtain ⟨k1, k2, k3, k4, k5, k6, k7, k8, k9⟩ := jo_len hj1
  rw [e_Jo_copyFrom, q_Jo_copyFrom_0]
  simp only [jo_is hj0, jo_is hj1, jc_t]
  rw [x1, y1, cpy_0 (n := 10) (m := 10) k1 l1 rfl (by omega) (by omega) (by omega) (by omega)]
  simp only [Option.bind_some]
  rw [x2, y2, cpy_0 (n := 10) (m := 10) k2 l2 rfl (by omega) (by omega) (by omega) (by omega)]
  simp only [Option.bind_some]
  rw [x3, y3, cpy_0 (n := 30) (m := 30) k3 l3 rfl (by omega) (by omega) (by omega) (by omega)]
  simp only [Option.bind_some]
  rw [x4, y4, cpy_0 (n := 30) (m := 30) k4 l4 rfl (by omega) (by omega) (by omega) (by omega)]
  simp only [Option.bind_some]
  rw [x5, y5, cpy_0 (n := 30) (m := 30) k5 l5 rfl (by omega) (by omega) (by omega) (by omega)]
  simp only [Option.bind_some]
  rw [x6, y6, cpy_0 (n := 30) (m := 30) k6 l6 rfl (by omega) (by omega) (by omega) (by omega)]
  simp only [Option.bind_some]
  rw [x7, y7, cpy_0 (n := 30) (m := 30) k7 l7 rfl (by omega) (by omega) (by omega) (by omega)]
  simp only [Option.bind_some]
  rw [x8, y8, cpy_0 (n := 30) (m := 30) k8 l8 rfl (by omega) (by omega) (by omega) (by omega)]
  simp only [Option.bind_some]
  rw [x9, y9, cpy_0 (n := 30) (m := 30) k9 l9 rfl (by omega) (by omega) (by omega) (by omega)]
  simp only [Option.bind_some]
  refine ⟨_, rfl, ?_, ?_, ?_, ?_, ?_, ?_, fun k hk => ⟨?_, ?_⟩, fun k hk => ⟨?_, ?_, ?_, ?_, ?_, ?_, ?_⟩⟩
  · refine (((((((((((((jep.rf.sR ?_).sI ?_).sI ?_).sI ?_).sI ?_).cp ?_).cp ?_).cp ?_).cp ?_).cp ?_).cp ?_).cp ?_).cp ?_).cp ?_ <;> first | (intro k; show j0 ≤ _ ∧ _ ≤ j0 + 9; omega) | (show j0 ≤ _ ∧ _ ≤ j0 + 9; omega)
  · show (if j0 = j0 ∧ 11 = 11 then _ else _) = _
    rw [if_pos ⟨rfl, rfl⟩]
  · rw [cpy_ne (by omega), cpy_ne (by omega), cpy_ne (by omega), cpy_ne (by omega), cpy_ne (by omega), cpy_ne (by omega), cpy_ne (by omega), cpy_ne (by omega), cpy_ne (by omega)]
    simp [setI_get, setR_I, hdj]
  · rw [cpy_ne (by omega), cpy_ne (by omega), cpy_ne (by omega), cpy_ne (by omega), cpy_ne (by omega), cpy_ne (by omega), cpy_ne (by omega), cpy_ne (by omega), cpy_ne (by omega)]
    simp [setI_get, setR_I, hdj]
  · rw [cpy_ne (by omega), cpy_ne (by omega), cpy_ne (by omega), cpy_ne (by omega), cpy_ne (by omega), cpy_ne (by omega), cpy_ne (by omega), cpy_ne (by omega), cpy_ne (by omega)]
    simp [setI_get, setR_I, hdj]
  · rw [cpy_ne (by omega), cpy_ne (by omega), cpy_ne (by omega), cpy_ne (by omega), cpy_ne (by omega), cpy_ne (by omega), cpy_ne (by omega), cpy_ne (by omega), cpy_ne (by omega)]
    simp [setI_get, setR_I, hdj]
  · rw [cpy_ne (by omega), cpy_ne (by omega), cpy_ne (by omega), cpy_ne (by omega), cpy_ne (by omega), cpy_ne (by omega), cpy_ne (by omega), cpy_ne (by omega), cpy_in (by omega), setI_ne (hd0 1 (by omega)), setI_ne (hd0 1 (by omega)), setI_ne (hd0 1 (by omega)), setI_ne (hd0 1 (by omega)), setR_I]
  · rw [cpy_ne (by omega), cpy_ne (by omega), cpy_ne (by omega), cpy_ne (by omega), cpy_ne (by omega), cpy_ne (by omega), cpy_ne (by omega), cpy_in (by omega), cpy_ne (hd 2 1 (by omega) (by omega)), setI_ne (hd0 2 (by omega)), setI_ne (hd0 2 (by omega)), setI_ne (hd0 2 (by omega)), setI_ne (hd0 2 (by omega)), setR_I]
  · rw [cpy_ne (by omega), cpy_ne (by omega), cpy_ne (by omega), cpy_ne (by omega), cpy_ne (by omega), cpy_ne (by omega), cpy_in (by omega), cpy_ne (hd 3 2 (by omega) (by omega)), cpy_ne (hd 3 1 (by omega) (by omega)), setI_ne (hd0 3 (by omega)), setI_ne (hd0 3 (by omega)), setI_ne (hd0 3 (by omega)), setI_ne (hd0 3 (by omega)), setR_I]
  · rw [cpy_ne (by omega), cpy_ne (by omega), cpy_ne (by omega), cpy_ne (by omega), cpy_ne (by omega), cpy_in (by omega), cpy_ne (hd 4 3 (by omega) (by omega)), cpy_ne (hd 4 2 (by omega) (by omega)), cpy_ne (hd 4 1 (by omega) (by omega)), setI_ne (hd0 4 (by omega)), setI_ne (hd0 4 (by omega)), setI_ne (hd0 4 (by omega)), setI_ne (hd0 4 (by omega)), setR_I]
  · rw [cpy_ne (by omega), cpy_ne (by omega), cpy_ne (by omega), cpy_ne (by omega), cpy_in (by omega), cpy_ne (hd 5 4 (by omega) (by omega)), cpy_ne (hd 5 3 (by omega) (by omega)), cpy_ne (hd 5 2 (by omega) (by omega)), cpy_ne (hd 5 1 (by omega) (by omega)), setI_ne (hd0 5 (by omega)), setI_ne (hd0 5 (by omega)), setI_ne (hd0 5 (by omega)), setI_ne (hd0 5 (by omega)), setR_I]
  · rw [cpy_ne (by omega), cpy_ne (by omega), cpy_ne (by omega), cpy_in (by omega), cpy_ne (hd 6 5 (by omega) (by omega)), cpy_ne (hd 6 4 (by omega) (by omega)), cpy_ne (hd 6 3 (by omega) (by omega)), cpy_ne (hd 6 2 (by omega) (by omega)), cpy_ne (hd 6 1 (by omega) (by omega)), setI_ne (hd0 6 (by omega)), setI_ne (hd0 6 (by omega)), setI_ne (hd0 6 (by omega)), setI_ne (hd0 6 (by omega)), setR_I]
  · rw [cpy_ne (by omega), cpy_ne (by omega), cpy_in (by omega), cpy_ne (hd 7 6 (by omega) (by omega)), cpy_ne (hd 7 5 (by omega) (by omega)), cpy_ne (hd 7 4 (by omega) (by omega)), cpy_ne (hd 7 3 (by omega) (by omega)), cpy_ne (hd 7 2 (by omega) (by omega)), cpy_ne (hd 7 1 (by omega) (by omega)), setI_ne (hd0 7 (by omega)), setI_ne (hd0 7 (by omega)), setI_ne (hd0 7 (by omega)), setI_ne (hd0 7 (by omega)), setR_I]
  · rw [cpy_ne (by omega), cpy_in (by omega), cpy_ne (hd 8 7 (by omega) (by omega)), cpy_ne (hd 8 6 (by omega) (by omega)), cpy_ne (hd 8 5 (by omega) (by omega)), cpy_ne (hd 8 4 (by omega) (by omega)), cpy_ne (hd 8 3 (by omega) (by omega)), cpy_ne (hd 8 2 (by omega) (by omega)), cpy_ne (hd 8 1 (by omega) (by omega)), setI_ne (hd0 8 (by omega)), setI_ne (hd0 8 (by omega)), setI_ne (hd0 8 (by omega)), setI_ne (hd0 8 (by omega)), setR_I]
  · rw [cpy_in (by omega), cpy_ne (hd 9 8 (by omega) (by omega)), cpy_ne (hd 9 7 (by omega) (by omega)), cpy_ne (hd 9 6 (by omega) (by omega)), cpy_ne (hd 9 5 (by omega) (by omega)), cpy_ne (hd 9 4 (by omega) (by omega)), cpy_ne (hd 9 3 (by omega) (by omega)), cpy_ne (hd 9 2 (by omega) (by omega)), cpy_ne (hd 9 1 (by omega) (by omega)), setI_ne (hd0 9 (by omega)), setI_ne (hd0 9 (by omega)), setI_ne (hd0 9 (by omega)), setI_ne (hd0 9 (by omega)), setR_I]
/-- what a copy of a house writes -/
def mc_S (h : Nat) : Nat → Nat → Prop := fun b k => (b = 107 ∧ k = h) ∨ (108 ≤ b ∧ b ≤ 109 ∧ 10 * h ≤ k ∧ k < 10 * h + 10) ∨ (110 ≤ b ∧ b ≤ 113 ∧ 30 * h ≤ k ∧ k < 30 * h + 30)
theorem m_copies1 (d : Nat) {x y : Nat} (hx : x < 3) (hy : y < 3) (hxy : x ≠ y) : ∀ (c a : Nat) (σ : jS), a + c = 10 → ∃ σ', b_M_copies_1 d (nI x) (nI y) (nI a) σ = b_M_copies_2 d (nI x) (nI y) σ' ∧ jep (fun b k => 108 ≤ b ∧ b ≤ 109 ∧ 10 * x + a ≤ k ∧ k < 10 * x + 10) σ σ' ∧ ∀ k, a ≤ k → k < 10 → σ'.1 108 (10 * x + k) = σ.1 108 (10 * y + k) ∧ σ'.1 109 (10 * x + k) = σ.1 109 (10 * y + k)
  | 0, a, σ, ha => by
    rw [q_M_copies_1, jif_t (show (10 : Int32) ≤ nI a from nI_le (a := 10) (by omega) (by omega))]
    exact ⟨σ, rfl, jep.rf, fun k h1 h2 => absurd h2 (by omega)⟩
  | c + 1, a, σ, ha => by
    rw [q_M_copies_1, jif_f (show ¬ (10 : Int32) ≤ nI a from nI_ge (b := 10) (by omega) (by omega)), nI_10, nI_10, rdI_ok (a := 108) (n := 30) rfl rfl (by omega) (by omega)]
    simp only [Option.bind_some]
    rw [wrI_ok (a := 108) (n := 30) rfl rfl (by omega) (by omega)]
    simp only [Option.bind_some]
    rw [rdI_ok (a := 109) (n := 30) rfl rfl (by omega) (by omega)]
    simp only [Option.bind_some]
    rw [wrI_ok (a := 109) (n := 30) rfl rfl (by omega) (by omega)]
    simp only [Option.bind_some]
    rw [nI_1]
    obtain ⟨σ', g1, g2, g3⟩ := m_copies1 d hx hy hxy c (a + 1) (j_setI (j_setI σ 108 (10 * x + a) (σ.1 108 (10 * y + a))) 109 (10 * x + a) ((j_setI σ 108 (10 * x + a) (σ.1 108 (10 * y + a))).1 109 (10 * y + a))) (by omega)
    refine ⟨σ', g1, ?_, fun k h1 h2 => ?_⟩
    · refine ((jep.rf.sI ?_).sI ?_).tr (g2.mono (fun b k q => by omega)) <;> omega
    · by_cases e : k = a
      · subst e
        rw [(g2 108 _ (by omega)).1, (g2 109 _ (by omega)).1, setI_ne (by omega), setI_same, setI_same, setI_ne (by omega)]
        exact ⟨rfl, rfl⟩
      · obtain ⟨z1, z2⟩ := g3 k (by omega) h2
        rw [z1, z2, setI_ne (by omega), setI_nk (by omega), setI_nk (by omega), setI_ne (by omega)]
        exact ⟨rfl, rfl⟩
theorem m_copies3 (d : Nat) {x y : Nat} (hx : x < 3) (hy : y < 3) (hxy : x ≠ y) : ∀ (c a : Nat) (σ : jS), a + c = 30 → ∃ σ', b_M_copies_3 d (nI x) (nI y) (nI a) σ = some (none, σ') ∧ jep (fun b k => 110 ≤ b ∧ b ≤ 113 ∧ 30 * x + a ≤ k ∧ k < 30 * x + 30) σ σ' ∧ ∀ k, a ≤ k → k < 30 → ∀ b, 110 ≤ b → b ≤ 113 → σ'.1 b (30 * x + k) = σ.1 b (30 * y + k)
  | 0, a, σ, ha => by
    rw [q_M_copies_3, jif_t (show (30 : Int32) ≤ nI a from nI_le (a := 30) (by omega) (by omega)), q_M_copies_4]
    exact ⟨σ, rfl, jep.rf, fun k h1 h2 => absurd h2 (by omega)⟩
  | c + 1, a, σ, ha => by
    rw [q_M_copies_3, jif_f (show ¬ (30 : Int32) ≤ nI a from nI_ge (b := 30) (by omega) (by omega)), nI_30, nI_30, rdI_ok (a := 110) (n := 90) rfl rfl (by omega) (by omega)]
    simp only [Option.bind_some]
    rw [wrI_ok (a := 110) (n := 90) rfl rfl (by omega) (by omega)]
    simp only [Option.bind_some]
    rw [rdI_ok (a := 111) (n := 90) rfl rfl (by omega) (by omega), setI_ne (by omega)]
    simp only [Option.bind_some]
    rw [wrI_ok (a := 111) (n := 90) rfl rfl (by omega) (by omega)]
    simp only [Option.bind_some]
    rw [rdI_ok (a := 112) (n := 90) rfl rfl (by omega) (by omega), setI_ne (by omega), setI_ne (by omega)]
    simp only [Option.bind_some]
    rw [wrI_ok (a := 112) (n := 90) rfl rfl (by omega) (by omega)]
    simp only [Option.bind_some]
    rw [rdI_ok (a := 113) (n := 90) rfl rfl (by omega) (by omega), setI_ne (by omega), setI_ne (by omega), setI_ne (by omega)]
    simp only [Option.bind_some]
    rw [wrI_ok (a := 113) (n := 90) rfl rfl (by omega) (by omega)]
    simp only [Option.bind_some]
    rw [nI_1]
    obtain ⟨σ', g1, g2, g3⟩ := m_copies3 d hx hy hxy c (a + 1) (j_setI (j_setI (j_setI (j_setI σ 110 (30 * x + a) (σ.1 110 (30 * y + a))) 111 (30 * x + a) (σ.1 111 (30 * y + a))) 112 (30 * x + a) (σ.1 112 (30 * y + a))) 113 (30 * x + a) (σ.1 113 (30 * y + a))) (by omega)
    refine ⟨σ', g1, ?_, fun k h1 h2 b b1 b2 => ?_⟩
    · refine ((((jep.rf.sI ?_).sI ?_).sI ?_).sI ?_).tr (g2.mono (fun b k q => by omega)) <;> omega
    · by_cases e : k = a
      · subst e
        rw [(g2 b _ (by omega)).1]
        have hb : b = 110 ∨ b = 111 ∨ b = 112 ∨ b = 113 := by omega
        rcases hb with rfl | rfl | rfl | rfl
        · rw [setI_ne (by omega), setI_ne (by omega), setI_ne (by omega), setI_same]
        · rw [setI_ne (by omega), setI_ne (by omega), setI_same]
        · rw [setI_ne (by omega), setI_same]
        · rw [setI_same]
      · rw [g3 k (by omega) h2 b b1 b2, setI_nk (by omega), setI_nk (by omega), setI_nk (by omega), setI_nk (by omega)]
theorem m_copies (d : Nat) {x y : Nat} (hx : x < 3) (hy : y < 3) (hxy : x ≠ y) (σ : jS) : ∃ σ', g_M_copies (d + 1) (nI x) (nI y) σ = some (none, σ') ∧ jep (mc_S x) σ σ' ∧ σ'.1 107 x = σ.1 107 y ∧ (∀ k, k < 10 → σ'.1 108 (10 * x + k) = σ.1 108 (10 * y + k) ∧ σ'.1 109 (10 * x + k) = σ.1 109 (10 * y + k)) ∧ (∀ k, k < 30 → ∀ b, 110 ≤ b → b ≤ 113 → σ'.1 b (30 * x + k) = σ.1 b (30 * y + k)) := by
  rw [e_M_copies, q_M_copies_0, rdI_ok (a := 107) (n := 3) rfl rfl (by omega) (by omega)]
  simp only [Option.bind_some]
  rw [wrI_ok (a := 107) (n := 3) rfl rfl (by omega) (by omega)]
  simp only [Option.bind_some]
  obtain ⟨σ1, g1, g2, g3⟩ := m_copies1 d hx hy hxy 10 0 (j_setI σ 107 x (σ.1 107 y)) (by omega)
  obtain ⟨σ2, p1, p2, p3⟩ := m_copies3 d hx hy hxy 30 0 σ1 (by omega)
  have g1' : b_M_copies_1 d (nI x) (nI y) 0 (j_setI σ 107 x (σ.1 107 y)) = b_M_copies_2 d (nI x) (nI y) σ1 := g1
  have p1' : b_M_copies_3 d (nI x) (nI y) 0 σ1 = some (none, σ2) := p1
  rw [g1', q_M_copies_2, p1']
  refine ⟨σ2, rfl, ?_, ?_, fun k hk => ?_, fun k hk b b1 b2 => ?_⟩
  · refine ((jep.rf.sI (Or.inl ⟨rfl, rfl⟩)).tr (g2.mono (fun b k q => ?_))).tr (p2.mono (fun b k q => ?_))
    · exact Or.inr (Or.inl (by omega))
    · exact Or.inr (Or.inr (by omega))
  · rw [(p2 107 x (by omega)).1, (g2 107 x (by omega)).1, setI_same]
  · obtain ⟨z1, z2⟩ := g3 k (by omega) hk
    rw [(p2 108 _ (by omega)).1, (p2 109 _ (by omega)).1, z1, z2, setI_ne (by omega), setI_ne (by omega)]
    exact ⟨rfl, rfl⟩
  · rw [p3 k (by omega) hk b b1 b2, (g2 b _ (by omega)).1, setI_ne (by omega)]
