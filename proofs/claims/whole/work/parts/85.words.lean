/-! Words: the class's packed ones and the reference's. -/
def cw (i : Nat) : Nat := [6, 8, 11, 12, 13, 7, 9, 10, 15, 14, 0, 1, 2, 3, 4, 5].getD i 0
def wD (i j : Nat) : Nat := if j < wl i then wc (ws i + j) - 96 else 0
theorem jWd_D : ∀ i, i < 16 → jWd (cw i) = ((((wD i 0 * 32 + wD i 1) * 32 + wD i 2) * 32 + wD i 3) * 32 + wD i 4) * 32 + wD i 5 := by decide +kernel
theorem wc_small : ∀ i, i < 16 → ∀ j, j < 6 → j < wl i → 97 ≤ wc (ws i + j) ∧ wc (ws i + j) ≤ 122 := by decide +kernel
theorem jWd_inj : ∀ a, a < 16 → ∀ b, b < 16 → jWd a = jWd b → a = b := by decide +kernel
theorem cw_on : ∀ a, a < 16 → ∃ i, i < 16 ∧ cw i = a := by decide +kernel
theorem cw_lt : ∀ i, i < 16 → cw i < 16 := by decide +kernel
theorem mt_iff {B : Nat → Nat} {pl e i : Nat} (hi : i < 16) (hpe : pl ≤ e) (h6 : e - pl ≤ 6) (hB : ∀ k, pl ≤ k → k < pl + (e - pl) → 97 ≤ B k ∧ B k ≤ 122) : mtW B pl e i ↔ nmV B pl (e - pl) 6 = jWd (cw i) := by
  have e6 : nmV B pl (e - pl) 6 = (((((0 * 32 + ltD B pl (e - pl) 0) * 32 + ltD B pl (e - pl) 1) * 32 + ltD B pl (e - pl) 2) * 32 + ltD B pl (e - pl) 3) * 32 + ltD B pl (e - pl) 4) * 32 + ltD B pl (e - pl) 5 := rfl
  have L : ∀ j, (j < e - pl ∧ ltD B pl (e - pl) j = B (pl + j) - 96 ∧ 97 ≤ B (pl + j) ∧ B (pl + j) ≤ 122) ∨ (¬ j < e - pl ∧ ltD B pl (e - pl) j = 0) := fun j => by
    unfold ltD
    by_cases q : j < e - pl
    · exact Or.inl ⟨q, if_pos q, hB (pl + j) (by omega) (by omega)⟩
    · exact Or.inr ⟨q, if_neg q⟩
  have W : ∀ j, j < 6 → (j < wl i ∧ wD i j = wc (ws i + j) - 96 ∧ 97 ≤ wc (ws i + j) ∧ wc (ws i + j) ≤ 122) ∨ (¬ j < wl i ∧ wD i j = 0) := fun j hj => by
    unfold wD
    by_cases q : j < wl i
    · exact Or.inl ⟨q, if_pos q, wc_small i hi j hj q⟩
    · exact Or.inr ⟨q, if_neg q⟩
  have hl := (ws_f i hi).2.2.2.1
  have Lb : ∀ j, ltD B pl (e - pl) j < 32 := fun j => by rcases L j with ⟨_, h, h1, h2⟩ | ⟨_, h⟩ <;> omega
  have Wb : ∀ j, j < 6 → wD i j < 32 := fun j hj => by rcases W j hj with ⟨_, h, h1, h2⟩ | ⟨_, h⟩ <;> omega
  rw [jWd_D i hi, e6]
  constructor
  · intro h
    have ed : ∀ j, j < 6 → ltD B pl (e - pl) j = wD i j := fun j hj => by
      have hlen := h.1
      rcases L j with ⟨q, h1, -⟩ | ⟨q, h1⟩
      · rcases W j hj with ⟨q2, h2, -⟩ | ⟨q2, h2⟩
        · rw [h1, h2, h.2 j q2]
        · omega
      · rcases W j hj with ⟨q2, h2, -⟩ | ⟨q2, h2⟩
        · omega
        · rw [h1, h2]
    rw [ed 0 (by omega), ed 1 (by omega), ed 2 (by omega), ed 3 (by omega), ed 4 (by omega), ed 5 (by omega)]
    omega
  · intro h
    have ed : ∀ j, j < 6 → ltD B pl (e - pl) j = wD i j := by
      have l0 := Lb 0; have l1 := Lb 1; have l2 := Lb 2; have l3 := Lb 3; have l4 := Lb 4; have l5 := Lb 5
      have w0 := Wb 0 (by omega); have w1 := Wb 1 (by omega); have w2 := Wb 2 (by omega); have w3 := Wb 3 (by omega); have w4 := Wb 4 (by omega); have w5 := Wb 5 (by omega)
      generalize ltD B pl (e - pl) = f at *
      generalize wD i = g at *
      have e0 : f 0 = g 0 ∧ f 1 = g 1 ∧ f 2 = g 2 ∧ f 3 = g 3 ∧ f 4 = g 4 ∧ f 5 = g 5 := by omega
      intro j hj
      have : j = 0 ∨ j = 1 ∨ j = 2 ∨ j = 3 ∨ j = 4 ∨ j = 5 := by omega
      rcases this with rfl | rfl | rfl | rfl | rfl | rfl
      · exact e0.1
      · exact e0.2.1
      · exact e0.2.2.1
      · exact e0.2.2.2.1
      · exact e0.2.2.2.2.1
      · exact e0.2.2.2.2.2
    have len : e - pl = wl i := by
      rcases Nat.lt_trichotomy (e - pl) (wl i) with z | z | z
      · have h1 := ed (e - pl) (by omega)
        rcases L (e - pl) with ⟨q, -⟩ | ⟨q, h2⟩
        · omega
        · rcases W (e - pl) (by omega) with ⟨q2, h3, h4, h5⟩ | ⟨q2, -⟩
          · omega
          · omega
      · exact z
      · have h1 := ed (wl i) (by omega)
        rcases L (wl i) with ⟨q, h2, h3, h4⟩ | ⟨q, -⟩
        · rcases W (wl i) (by omega) with ⟨q2, -⟩ | ⟨q2, h5⟩
          · omega
          · omega
        · omega
    refine ⟨by omega, fun j hj => ?_⟩
    have h1 := ed j (by omega)
    rcases L j with ⟨q, h2, h3, h4⟩ | ⟨q, -⟩
    · rcases W j (by omega) with ⟨q2, h5, h6, h7⟩ | ⟨q2, -⟩
      · omega
      · omega
    · omega
theorem wdL_no {V : Nat} : ∀ (n i k : Nat), (∀ j, i ≤ j → j < i + n → jWd j ≠ V) → wdL V n i k = k
  | 0, _, _, _ => rfl
  | n + 1, i, k, h => by
    unfold wdL
    rw [if_neg (h i (Nat.le_refl _) (by omega))]
    exact wdL_no n (i + 1) k (fun j h1 h2 => h j (by omega) (by omega))
theorem wdL_yes {V a : Nat} (ha : a < 16) (e : jWd a = V) : ∀ (n i k : Nat), i ≤ a → a < i + n → i + n ≤ 16 → wdL V n i k = a
  | 0, i, k, h1, h2, _ => absurd h2 (by omega)
  | n + 1, i, k, h1, h2, h3 => by
    unfold wdL
    by_cases q : i = a
    · subst q
      rw [if_pos e]
      exact wdL_no n (i + 1) i (fun j h4 h5 z => by have := jWd_inj j (by omega) i ha (z.trans e.symm); omega)
    · rw [if_neg (fun z => q (jWd_inj i (by omega) a ha (z.trans e.symm)))]
      exact wdL_yes ha e n (i + 1) k (by omega) (by omega) (by omega)
theorem rW_r {M : Nat → Prop} : ∀ (n i : Nat), (∃ j, i ≤ j ∧ j < i + n ∧ M j ∧ rW M n i = nI j) ∨ ((∀ j, i ≤ j → j < i + n → ¬ M j) ∧ rW M n i = -1)
  | 0, i => Or.inr ⟨fun j h1 h2 => absurd h2 (by omega), rfl⟩
  | n + 1, i => by
    unfold rW
    by_cases h : M i
    · rw [if_pos h]
      exact Or.inl ⟨i, Nat.le_refl _, by omega, h, rfl⟩
    · rw [if_neg h]
      rcases rW_r (M := M) n (i + 1) with ⟨j, h1, h2, h3, h4⟩ | ⟨h1, h2⟩
      · exact Or.inl ⟨j, by omega, by omega, h3, h4⟩
      · refine Or.inr ⟨fun j h3 h4 => ?_, h2⟩
        by_cases q : j = i
        · rw [q]; exact h
        · exact h1 j (by omega) (by omega)
/-- a word of the language for both, or for neither -/
theorem words_rel {B : Nat → Nat} {pl e : Nat} (hpe : pl ≤ e) (h6 : e - pl ≤ 6) (hB : ∀ k, pl ≤ k → k < pl + (e - pl) → 97 ≤ B k ∧ B k ≤ 122) : (∃ i, i < 16 ∧ rW (mtW B pl e) 16 0 = nI i ∧ wdL (pkN B (e - pl) pl 0 * 2 ^ (5 * (6 - (e - pl)))) 16 0 16 = cw i) ∨ (rW (mtW B pl e) 16 0 = -1 ∧ wdL (pkN B (e - pl) pl 0 * 2 ^ (5 * (6 - (e - pl)))) 16 0 16 = 16) := by
  have ev := nmV_6 B (pl := pl) h6
  rw [← ev]
  rcases rW_r (M := mtW B pl e) 16 0 with ⟨i, -, h2, h3, h4⟩ | ⟨h1, h2⟩
  · have hm := (mt_iff (show i < 16 by omega) hpe h6 hB).mp h3
    exact Or.inl ⟨i, by omega, h4, wdL_yes (cw_lt i (by omega)) hm.symm 16 0 16 (by omega) (by have := cw_lt i (by omega); omega) (by omega)⟩
  · refine Or.inr ⟨h2, wdL_no 16 0 16 (fun j _ hj z => ?_)⟩
    obtain ⟨i, hi, ei⟩ := cw_on j (by omega)
    exact h1 i (by omega) (by omega) ((mt_iff hi hpe h6 hB).mpr (by rw [ei]; exact z.symm))
/-- numbers: the same, or both beyond all that may be told -/
def nmR (x y : Nat) : Prop := x = y ∨ (100000 ≤ x ∧ 100000 ≤ y)
theorem nm_rel (B : Nat → Nat) : ∀ (m p x y : Nat), (∀ i, p ≤ i → i < p + m → 48 ≤ B i ∧ B i ≤ 57) → nmR x y → nmR (cnm B m p x) (rnm B m p y)
  | 0, _, _, _, _, h => h
  | m + 1, p, x, y, hB, h => by
    have hb := hB p (Nat.le_refl _) (by omega)
    refine nm_rel B m (p + 1) _ _ (fun i h1 h2 => hB i (by omega) (by omega)) ?_
    unfold nmR at h ⊢
    by_cases q : y ≤ 99999
    · rw [if_pos q]; omega
    · rw [if_neg q]; omega
