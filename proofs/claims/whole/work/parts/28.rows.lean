/-! Rows: what a long tells. -/
def rowP (N n A : Nat) : Prop := (∀ i, i < n → nib N i < A) ∧ ∀ i j, i < j → j < n → nib N i ≠ nib N j
/-- S: who was seen among the first i -/
def seenP (N i S : Nat) : Prop := S < 65536 ∧ ∀ p, p < 16 → (S.testBit p = true ↔ ∃ j, j < i ∧ nib N j = p)
theorem seen_0 (N : Nat) : seenP N 0 0 := ⟨by decide, fun p _ => by simp⟩
theorem seen_1 {N i S : Nat} (h : seenP N i S) : seenP N (i + 1) (S ||| 2 ^ nib N i) := by
  have hp := nib_lt N i
  refine ⟨?_, fun p h16 => ?_⟩
  · have h1 : 2 ^ nib N i < 2 ^ 16 := Nat.pow_lt_pow_right (by decide) hp
    exact Nat.or_lt_two_pow (n := 16) h.1 h1
  · rw [Nat.testBit_or, Nat.testBit_two_pow, Bool.or_eq_true, h.2 p h16, decide_eq_true_eq]
    constructor
    · rintro (⟨j, h1, h2⟩ | h1)
      · exact ⟨j, by omega, h2⟩
      · exact ⟨i, by omega, h1⟩
    · rintro ⟨j, h1, h2⟩
      rcases (show j < i ∨ j = i by omega) with h3 | h3
      · exact Or.inl ⟨j, h3, h2⟩
      · subst h3; exact Or.inr h2
theorem seen_b {N i S : Nat} (h : seenP N i S) (p : Nat) (hp : p < 16) : (S / 2 ^ p % 2 = 1 ↔ ∃ j, j < i ∧ nib N j = p) := by
  rw [← h.2 p hp, Nat.testBit_eq_decide_div_mod_eq, decide_eq_true_eq]
theorem mod2 (n : Nat) : n % 2 = 0 ∨ n % 2 = 1 := by omega
def ct_S : Nat → Nat → Prop := fun b j => b = 70 ∨ (b = 69 ∧ j = 0)
theorem c_take_l (d : Nat) (N n A : Nat) (hN : N < 2 ^ 64) (hn : n ≤ 10) (hA : A ≤ 16) : ∀ (c i S : Nat) (σ : jS), i + c = n → (∀ j, j < i → nib N j < A) → (∀ a b, a < b → b < i → nib N a ≠ nib N b) → seenP N i S → (∀ j, j < i → σ.1 70 j = nI (nib N j)) →
    ∃ σ', b_Rw_take_2 d (nI n) (lN N) (nI A) (nI S) (nI i) σ = some (some (.int (b2i (rowP N n A))), σ') ∧ jep ct_S σ σ' ∧ (rowP N n A → (∀ j, j < n → σ'.1 70 j = nI (nib N j)) ∧ σ'.1 69 0 = nI n)
  | 0, i, S, σ, hi, h1, h2, h3, h4 => by
    have e : i = n := by omega
    subst e
    rw [q_Rw_take_2, jif_t (Int32.le_refl _), q_Rw_take_5, b2i_t (show rowP N i A from ⟨h1, h2⟩)]
    exact ⟨_, rfl, jep.rf.sI (Or.inr ⟨rfl, rfl⟩), fun _ => ⟨fun j hj => by rw [setI_ne (by omega)]; exact h4 j hj, setI_same _ _ _ _⟩⟩
  | c + 1, i, S, σ, hi, h1, h2, h3, h4 => by
    have hp := nib_lt N i
    rw [q_Rw_take_2, jif_f (nI_ge (by omega) (by omega)), nib_c hN (by omega)]
    by_cases hA1 : nib N i < A
    · rw [jif_f (nI_ge hA1 (by omega)), seen_t (by have := h3.1; omega) hp]
      by_cases hs : S / 2 ^ nib N i % 2 = 1
      · have hno : ¬ rowP N n A := fun q => by
          obtain ⟨j, j1, j2⟩ := (seen_b h3 _ hp).mp hs
          exact q.2 j i j1 (by omega) j2
        rw [hs, jif_f (by decide), q_Rw_take_3, b2i_f hno]
        exact ⟨σ, rfl, jep.rf, fun q => absurd q hno⟩
      · have hs0 : S / 2 ^ nib N i % 2 = 0 := (mod2 _).resolve_right hs
        rw [hs0, jif_t nI_0, q_Rw_take_4, wrI_ok (a := 70) (n := 10) rfl rfl (by omega) (by omega)]
        simp only [Option.bind_some]
        rw [seen_s hp, nI_1]
        obtain ⟨σ', g1, g2, g3⟩ := c_take_l d N n A hN hn hA c (i + 1) (S ||| 2 ^ nib N i) (j_setI σ 70 i (nI (nib N i))) (by omega) (fun j hj => by
          rcases (show j < i ∨ j = i by omega) with h | h
          · exact h1 j h
          · subst h; exact hA1) (fun a b h5 h6 => by
          rcases (show b < i ∨ b = i by omega) with h | h
          · exact h2 a b h5 h
          · subst h
            intro q
            exact hs ((seen_b h3 _ hp).mpr ⟨a, h5, q⟩)) (seen_1 h3) (fun j hj => by
          rcases (show j < i ∨ j = i by omega) with h | h
          · rw [setI_nk (by omega)]; exact h4 j h
          · subst h; exact setI_same _ _ _ _)
        exact ⟨σ', g1, (jep.rf.sI (Or.inl rfl)).tr g2, g3⟩
    · have hno : ¬ rowP N n A := fun q => hA1 (q.1 i (by omega))
      rw [jif_t (nI_le (by omega) (by omega)), q_Rw_take_3, b2i_f hno]
      exact ⟨σ, rfl, jep.rf, fun q => absurd q hno⟩
/-- a row of n of A people, and n in bounds -/
def rowOK (N : Nat) (n : Int32) (A : Nat) : Prop := ∃ k, 2 ≤ k ∧ k ≤ 10 ∧ n = nI k ∧ rowP N k A
theorem c_take (d : Nat) (N A : Nat) (n : Int32) (hN : N < 2 ^ 64) (hA : A ≤ 16) (σ : jS) :
    ∃ σ', g_Rw_take (d + 2) n (lN N) (nI A) σ = some (some (.int (b2i (rowOK N n A))), σ') ∧ jep ct_S σ σ' ∧ (∀ k, k < 2 ^ 31 → n = nI k → rowOK N n A → (∀ j, j < k → σ'.1 70 j = nI (nib N j)) ∧ σ'.1 69 0 = nI k) := by
  rw [e_Rw_take, q_Rw_take_0, c_within, rI_s]
  simp only [Option.bind_some]
  by_cases h : (2 : Int32) ≤ n ∧ n ≤ 10
  · rw [if_pos h, jif_f (by decide), q_Rw_take_1]
    obtain ⟨k, hk, rfl⟩ := nI_of2 (M := 10) (n := 10) rfl (fun q => by
      have := Int32.lt_of_le_of_lt h.1 q
      exact absurd this (by decide)) h.2
    have hk2 : 2 ≤ k := (nI_leI (a := 2) (by omega) (by omega)).mp h.1
    obtain ⟨σ', g1, g2, g3⟩ := c_take_l (d + 1) N k A hN hk hA k 0 0 σ (by omega) (fun j hj => by omega) (fun a b _ h => by omega) (seen_0 N) (fun j hj => by omega)
    have hiff : rowP N k A ↔ rowOK N (nI k) A := by
      constructor
      · intro q; exact ⟨k, hk2, hk, rfl, q⟩
      · rintro ⟨k', a1, a2, a3, a4⟩
        have : k' = k := ((nI_eq (by omega) (by omega)).mp a3).symm
        subst this; exact a4
    refine ⟨σ', ?_, g2, fun k' hk' e q => ?_⟩
    · have e0 : (0 : Int32) = nI 0 := rfl
      rw [e0, g1]
      by_cases q : rowP N k A
      · rw [b2i_t q, b2i_t (hiff.mp q)]
      · rw [b2i_f q, b2i_f (fun z => q (hiff.mpr z))]
    · have : k = k' := (nI_eq (by omega) hk').mp e
      subst this
      exact g3 (hiff.mpr q)
  · have hno : ¬ rowOK N n A := by
      rintro ⟨k, a1, a2, rfl, -⟩
      exact h ⟨nI_le (a := 2) (by omega) (by omega), nI_le (b := 10) (by omega) (by omega)⟩
    rw [if_neg h, jif_t rfl, b2i_f hno]
    exact ⟨σ, rfl, jep.rf, fun _ _ _ q => absurd q hno⟩
theorem m_isPerson (d : Nat) (x : Int32) (σ : jS) : g_M_isPerson (d + 1) x σ = some (some (.int (b2i (0 ≤ x ∧ x < σ.1 88 0))), σ) := by
  rw [e_M_isPerson, q_M_isPerson_0, rdI_ok (a := 88) (n := 8) (i := 0) (k := 0) rfl rfl (by omega) (by omega)]
  simp only [Option.bind_some]
  by_cases h0 : x < 0
  · rw [jif_t h0, q_M_isPerson_1, q_M_isPerson_2, b2i_f (fun q => Int32.not_le.mpr h0 q.1)]; rfl
  · rw [jif_f h0]
    by_cases h1 : σ.1 88 0 ≤ x
    · rw [jif_t h1, q_M_isPerson_1, q_M_isPerson_2, b2i_f (fun q => Int32.not_lt.mpr h1 q.2)]; rfl
    · rw [jif_f h1, q_M_isPerson_2, b2i_t ⟨Int32.not_lt.mp h0, Int32.not_le.mp h1⟩]; rfl
def mt_S : Nat → Nat → Prop := fun b j => b = 114 ∨ (b = 86 ∧ j = 50)
theorem m_takes_l (d : Nat) (N n A : Nat) (hN : N < 2 ^ 64) (hn : n ≤ 10) (hA : A ≤ 16) : ∀ (c i S : Nat) (σ : jS), i + c = n → σ.1 88 0 = nI A → (∀ j, j < i → nib N j < A) → (∀ a b, a < b → b < i → nib N a ≠ nib N b) → seenP N i S → (∀ j, j < i → σ.1 114 j = nI (nib N j)) →
    ∃ σ', b_M_takes_3 (d + 1) (nI n) (lN N) (nI S) (nI i) σ = some (some (.int (b2i (rowP N n A))), σ') ∧ jep mt_S σ σ' ∧ (rowP N n A → (∀ j, j < n → σ'.1 114 j = nI (nib N j)) ∧ σ'.1 86 50 = nI n)
  | 0, i, S, σ, hi, h88, h1, h2, h3, h4 => by
    have e : i = n := by omega
    subst e
    rw [q_M_takes_3, jif_t (Int32.le_refl _), q_M_takes_6, b2i_t (show rowP N i A from ⟨h1, h2⟩)]
    exact ⟨_, rfl, jep.rf.sI (Or.inr ⟨rfl, rfl⟩), fun _ => ⟨fun j hj => by rw [setI_ne (by omega)]; exact h4 j hj, setI_same _ _ _ _⟩⟩
  | c + 1, i, S, σ, hi, h88, h1, h2, h3, h4 => by
    have hp := nib_lt N i
    rw [q_M_takes_3, jif_f (nI_ge (by omega) (by omega)), nib_m hN (by omega), m_isPerson, rI_s, h88]
    simp only [Option.bind_some]
    by_cases hA1 : nib N i < A
    · rw [b2i_t (show 0 ≤ nI (nib N i) ∧ nI (nib N i) < nI A from ⟨nI_pos' (by omega), nI_lt hA1 (by omega)⟩), jif_f (by decide), seen_t (by have := h3.1; omega) hp]
      by_cases hs : S / 2 ^ nib N i % 2 = 1
      · have hno : ¬ rowP N n A := fun q => by
          obtain ⟨j, j1, j2⟩ := (seen_b h3 _ hp).mp hs
          exact q.2 j i j1 (by omega) j2
        rw [hs, jif_t (by decide), q_M_takes_4, b2i_f hno]
        exact ⟨σ, rfl, jep.rf, fun q => absurd q hno⟩
      · have hs0 : S / 2 ^ nib N i % 2 = 0 := (mod2 _).resolve_right hs
        rw [hs0, jif_f (by decide), q_M_takes_5, wrI_ok (a := 114) (n := 10) rfl rfl (by omega) (by omega)]
        simp only [Option.bind_some]
        rw [seen_s hp, nI_1]
        obtain ⟨σ', g1, g2, g3⟩ := m_takes_l d N n A hN hn hA c (i + 1) (S ||| 2 ^ nib N i) (j_setI σ 114 i (nI (nib N i))) (by omega) (by rw [setI_ne (by omega)]; exact h88) (fun j hj => by
          rcases (show j < i ∨ j = i by omega) with h | h
          · exact h1 j h
          · subst h; exact hA1) (fun a b h5 h6 => by
          rcases (show b < i ∨ b = i by omega) with h | h
          · exact h2 a b h5 h
          · subst h
            intro q
            exact hs ((seen_b h3 _ hp).mpr ⟨a, h5, q⟩)) (seen_1 h3) (fun j hj => by
          rcases (show j < i ∨ j = i by omega) with h | h
          · rw [setI_nk (by omega)]; exact h4 j h
          · subst h; exact setI_same _ _ _ _)
        exact ⟨σ', g1, (jep.rf.sI (Or.inl rfl)).tr g2, g3⟩
    · have hno : ¬ rowP N n A := fun q => hA1 (q.1 i (by omega))
      rw [b2i_f (fun q => hA1 ((nI_ltI (by omega) (by omega)).mp q.2)), jif_t rfl, q_M_takes_4, b2i_f hno]
      exact ⟨σ, rfl, jep.rf, fun q => absurd q hno⟩
/-- no more different ones than there are -/
theorem pigeon : ∀ (m n : Nat) (f : Nat → Nat), (∀ i, i < n → f i < m) → (∀ i j, i < j → j < n → f i ≠ f j) → n ≤ m
  | 0, n, f, h1, _ => by
    rcases Nat.eq_zero_or_pos n with h | h
    · omega
    · exact absurd (h1 0 h) (by omega)
  | m + 1, 0, f, _, _ => Nat.zero_le _
  | m + 1, n + 1, f, h1, h2 => by
    have hl := h1 n (by omega)
    have : n ≤ m := pigeon m n (fun i => if f i = m then f n else f i) (fun i hi => by
      show (if f i = m then f n else f i) < m
      have a := h1 i (by omega)
      have b := h2 i n hi (by omega)
      by_cases e : f i = m
      · rw [if_pos e]; omega
      · rw [if_neg e]; omega) (fun i j hij hj => by
      show (if f i = m then f n else f i) ≠ (if f j = m then f n else f j)
      have a := h2 i j hij (by omega)
      have b := h2 i n (by omega) (by omega)
      have c := h2 j n (by omega) (by omega)
      by_cases e : f i = m
      · rw [if_pos e]
        by_cases g : f j = m
        · omega
        · rw [if_neg g]; omega
      · rw [if_neg e]
        by_cases g : f j = m
        · rw [if_pos g]; omega
        · rw [if_neg g]; exact a)
    omega
theorem rowP_le {N n A : Nat} (h : rowP N n A) : n ≤ A := pigeon A n (nib N) h.1 h.2
theorem m_takes (d : Nat) (N A : Nat) (n : Int32) (hN : N < 2 ^ 64) (hA : A ≤ 10) (σ : jS) (h88 : σ.1 88 0 = nI A) :
    ∃ σ', g_M_takes (d + 2) n (lN N) σ = some (some (.int (b2i (rowOK N n A))), σ') ∧ jep mt_S σ σ' ∧ (∀ k, k < 2 ^ 31 → n = nI k → rowOK N n A → (∀ j, j < k → σ'.1 114 j = nI (nib N j)) ∧ σ'.1 86 50 = nI k) := by
  rw [e_M_takes, q_M_takes_0, rdI_ok (a := 88) (n := 8) (i := 0) (k := 0) rfl rfl (by omega) (by omega), h88]
  simp only [Option.bind_some]
  by_cases h2 : n < 2
  · have hno : ¬ rowOK N n A := by
      rintro ⟨k, a1, a2, rfl, -⟩
      exact Int32.not_le.mpr h2 (nI_le (a := 2) (by omega) (by omega))
    rw [jif_t h2, q_M_takes_1, b2i_f hno]
    exact ⟨σ, rfl, jep.rf, fun _ _ _ q => absurd q hno⟩
  · rw [jif_f h2]
    by_cases h : n ≤ nI A
    · have hA2 : (nI A).toInt = A := nI_toInt (by omega)
      obtain ⟨k, hk, rfl⟩ := nI_of2 (M := nI A) (n := A) hA2 (fun q => h2 (Int32.lt_of_lt_of_le q (by decide))) h
      have hk2 : 2 ≤ k := by
        have := Int32.not_lt.mp h2
        exact (nI_leI (a := 2) (by omega) (by omega)).mp this
      rw [jif_t h, q_M_takes_2]
      obtain ⟨σ', g1, g2, g3⟩ := m_takes_l d N k A hN (by omega) (by omega) k 0 0 σ (by omega) h88 (fun j hj => by omega) (fun a b _ h => by omega) (seen_0 N) (fun j hj => by omega)
      have hiff : rowP N k A ↔ rowOK N (nI k) A := by
        constructor
        · intro q; exact ⟨k, hk2, by omega, rfl, q⟩
        · rintro ⟨k', a1, a2, a3, a4⟩
          have : k' = k := ((nI_eq (by omega) (by omega)).mp a3).symm
          subst this; exact a4
      refine ⟨σ', ?_, g2, fun k' hk' e q => ?_⟩
      · have e0 : (0 : Int32) = nI 0 := rfl
        rw [e0, g1]
        by_cases q : rowP N k A
        · rw [b2i_t q, b2i_t (hiff.mp q)]
        · rw [b2i_f q, b2i_f (fun z => q (hiff.mpr z))]
      · have : k = k' := (nI_eq (by omega) hk').mp e
        subst this
        exact g3 (hiff.mpr q)
    · have hno : ¬ rowOK N n A := by
        rintro ⟨k, a1, a2, rfl, a4⟩
        exact h (nI_le (rowP_le a4) (by omega))
      rw [jif_f h, q_M_takes_1, b2i_f hno]
      exact ⟨σ, rfl, jep.rf, fun _ _ _ q => absurd q hno⟩
