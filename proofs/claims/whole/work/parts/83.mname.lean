/-! Tokens, the reference's: signs and names. -/
def sgR (c : Nat) (s0 : Int32) (pl : Nat) : Nat × Nat := if c = 60 ∧ s0 = 61 then (256, pl + 2) else if c = 60 ∧ s0 = 62 then (257, pl + 2) else if c = 62 ∧ s0 = 61 then (258, pl + 2) else (c, pl + 1)
theorem sgR_2 (c : Nat) (s0 : Int32) (pl : Nat) : (sgR c s0 pl).2 = (sgO c s0 pl).2 := by
  unfold sgR sgO
  by_cases h1 : c = 60 ∧ s0 = 61
  · rw [if_pos h1, if_pos h1]
  · rw [if_neg h1, if_neg h1]
    by_cases h2 : c = 60 ∧ s0 = 62
    · rw [if_pos h2, if_pos h2]
    · rw [if_neg h2, if_neg h2]
      by_cases h3 : c = 62 ∧ s0 = 61
      · rw [if_pos h3, if_pos h3]
      · rw [if_neg h3, if_neg h3]
theorem m_sign0 (d : Nat) {c pl : Nat} (hc : c < 256) (σ : jS) (h19 : σ.1 86 19 = nI pl) : b_M_sign_0 d (nI c) σ = b_M_sign_3 d (nI c) (nI (if c ∈ sgs then 3 else 5)) (j_setI σ 86 19 (nI (pl + 1))) := by
  rw [q_M_sign_0, h19, nI_1, q_M_sign_1, q_M_sign_2]
  by_cases h : c ∈ sgs
  · rw [if_pos h]
    have h' : c = 59 ∨ c = 40 ∨ c = 41 ∨ c = 43 ∨ c = 45 ∨ c = 42 ∨ c = 47 ∨ c = 37 ∨ c = 60 ∨ c = 61 ∨ c = 62 := by simpa [sgs] using h
    rcases h' with rfl | rfl | rfl | rfl | rfl | rfl | rfl | rfl | rfl | rfl | rfl <;> (repeat (first | rw [jif_t (by decide)] | rw [jif_f (by decide)])) <;> rfl
  · rw [if_neg h]
    have h' : ¬ c = 59 ∧ ¬ c = 40 ∧ ¬ c = 41 ∧ ¬ c = 43 ∧ ¬ c = 45 ∧ ¬ c = 42 ∧ ¬ c = 47 ∧ ¬ c = 37 ∧ ¬ c = 60 ∧ ¬ c = 61 ∧ ¬ c = 62 := by simpa [sgs] using h
    obtain ⟨n0, n1, n2, n3, n4, n5, n6, n7, n8, n9, n10⟩ := h'
    rw [jif_f (show ¬ nI c = 59 from fun z => n0 ((nI_eq (b := 59) (by omega) (by omega)).mp z)), jif_f (show ¬ nI c = 40 from fun z => n1 ((nI_eq (b := 40) (by omega) (by omega)).mp z)), jif_f (show ¬ nI c = 41 from fun z => n2 ((nI_eq (b := 41) (by omega) (by omega)).mp z)), jif_f (show ¬ nI c = 43 from fun z => n3 ((nI_eq (b := 43) (by omega) (by omega)).mp z)), jif_f (show ¬ nI c = 45 from fun z => n4 ((nI_eq (b := 45) (by omega) (by omega)).mp z)), jif_f (show ¬ nI c = 42 from fun z => n5 ((nI_eq (b := 42) (by omega) (by omega)).mp z)), jif_f (show ¬ nI c = 47 from fun z => n6 ((nI_eq (b := 47) (by omega) (by omega)).mp z)), jif_f (show ¬ nI c = 37 from fun z => n7 ((nI_eq (b := 37) (by omega) (by omega)).mp z)), jif_f (show ¬ nI c = 60 from fun z => n8 ((nI_eq (b := 60) (by omega) (by omega)).mp z)), jif_f (show ¬ nI c = 61 from fun z => n9 ((nI_eq (b := 61) (by omega) (by omega)).mp z)), jif_f (show ¬ nI c = 62 from fun z => n10 ((nI_eq (b := 62) (by omega) (by omega)).mp z))]
    rfl
def mk21 : Nat → Nat → Prop := fun b j => b = 86 ∧ (j = 19 ∨ j = 21 ∨ j = 22)
theorem m_sign (d : Nat) {B : Nat → Nat} {Ln pl : Nat} (σ : jS) (hp : pl < Ln) (hM : MY σ B Ln pl) :
    ∃ σ', g_M_sign (d + 2) (nI (B pl)) σ = some (none, σ') ∧ jep mk21 σ σ' ∧ MY σ' B Ln (sgO (B pl) (scd B Ln pl) pl).2 ∧ σ'.1 86 21 = nI (if B pl ∈ sgs then 3 else 5) ∧ σ'.1 86 22 = nI (sgR (B pl) (scd B Ln pl) pl).1 := by
  have hc := hM.lt hp
  have e60 : nI (B pl) = 60 ↔ B pl = 60 := nI_eq (b := 60) (by omega) (by omega)
  have e62 : nI (B pl) = 62 ↔ B pl = 62 := nI_eq (b := 62) (by omega) (by omega)
  rw [e_M_sign, m_sign0 (d + 1) hc σ hM.2.2, q_M_sign_3, ← sgR_2]
  have S0 : jep mk21 σ (j_setI (j_setI (j_setI σ 86 19 (nI (pl + 1))) 86 21 (nI (if B pl ∈ sgs then 3 else 5))) 86 22 (nI (B pl))) := ((jep.rf.sI ⟨rfl, by omega⟩).sI ⟨rfl, by omega⟩).sI ⟨rfl, by omega⟩
  have M0 : MY (j_setI (j_setI (j_setI σ 86 19 (nI (pl + 1))) 86 21 (nI (if B pl ∈ sgs then 3 else 5))) 86 22 (nI (B pl))) B Ln (pl + 1) := (hM.st.ot (by decide) (by decide)).ot (by decide) (by decide)
  have v21 : (j_setI (j_setI (j_setI σ 86 19 (nI (pl + 1))) 86 21 (nI (if B pl ∈ sgs then 3 else 5))) 86 22 (nI (B pl))).1 86 21 = nI (if B pl ∈ sgs then 3 else 5) := by rw [setI_nk (by decide), setI_same]
  have v22 : (j_setI (j_setI (j_setI σ 86 19 (nI (pl + 1))) 86 21 (nI (if B pl ∈ sgs then 3 else 5))) 86 22 (nI (B pl))).1 86 22 = nI (B pl) := setI_same _ _ _ _
  generalize j_setI (j_setI (j_setI σ 86 19 (nI (pl + 1))) 86 21 (nI (if B pl ∈ sgs then 3 else 5))) 86 22 (nI (B pl)) = σ1 at *
  have hs : ∀ {σ2 : jS}, MY σ2 B Ln (pl + 1) → g_M_here (d + 1) σ2 = some (some (.int (scd B Ln pl)), σ2) := fun h => m_here d h (by omega)
  have one : ∃ σ', b_M_sign_6 (d + 1) σ1 = some (none, σ') ∧ jep mk21 σ σ' ∧ MY σ' B Ln (pl + 1) ∧ σ'.1 86 21 = nI (if B pl ∈ sgs then 3 else 5) ∧ σ'.1 86 22 = nI (B pl) := by
    rw [q_M_sign_6, v22, jif_t (show nI (B pl) < 256 from nI_lt (b := 256) hc (by omega)), q_M_sign_7]
    exact ⟨σ1, rfl, S0, M0, v21, v22⟩
  have M1 : ∀ K : Nat, MY (j_setI σ1 86 22 (nI K)) B Ln (pl + 1) := fun K => M0.ot (by decide) (by decide)
  have two : ∀ K : Nat, 256 ≤ K → K ≤ 258 → ∃ σ', b_M_sign_6 (d + 1) (j_setI σ1 86 22 (nI K)) = some (none, σ') ∧ jep mk21 σ σ' ∧ MY σ' B Ln (pl + 2) ∧ σ'.1 86 21 = nI (if B pl ∈ sgs then 3 else 5) ∧ σ'.1 86 22 = nI K := fun K h1 h2 => by
    rw [q_M_sign_6, setI_same, jif_f (show ¬ nI K < 256 from nI_nlt (b := 256) h1 (by omega)), q_M_sign_7, (M1 K).2.2, nI_1]
    exact ⟨_, rfl, (S0.sI ⟨rfl, by omega⟩).sI ⟨rfl, by omega⟩, (M1 K).st, by rw [setI_nk (by decide), setI_nk (by decide)]; exact v21, by rw [setI_nk (by decide), setI_same]⟩
  unfold sgR
  by_cases h1 : B pl = 60
  · have n62 : ¬ B pl = 62 := by omega
    rw [jif_t (e60.mpr h1), hs M0, rI_s]
    simp only [Option.bind_some]
    by_cases h2 : scd B Ln pl = 61
    · rw [jif_t h2, if_pos ⟨h1, h2⟩, q_M_sign_4, jif_t (e60.mpr h1), show g_M_here (d + 1) (j_setI σ1 86 22 256) = _ from hs (M1 256), rI_s]
      simp only [Option.bind_some]
      rw [h2, jif_f (by decide), q_M_sign_5, jif_f (fun z => n62 (e62.mp z))]
      exact two 256 (by omega) (by omega)
    · rw [jif_f h2, if_neg (fun z => h2 z.2), q_M_sign_4, jif_t (e60.mpr h1), hs M0, rI_s]
      simp only [Option.bind_some]
      by_cases h3 : scd B Ln pl = 62
      · rw [jif_t h3, if_pos ⟨h1, h3⟩, q_M_sign_5, jif_f (fun z => n62 (e62.mp z))]
        exact two 257 (by omega) (by omega)
      · rw [jif_f h3, if_neg (fun z => h3 z.2), if_neg (fun z => n62 z.1), q_M_sign_5, jif_f (fun z => n62 (e62.mp z))]
        exact one
  · rw [jif_f (fun z => h1 (e60.mp z)), q_M_sign_4, jif_f (fun z => h1 (e60.mp z)), if_neg (fun z => h1 z.1), if_neg (fun z => h1 z.1), q_M_sign_5]
    by_cases h4 : B pl = 62
    · rw [jif_t (e62.mpr h4), hs M0, rI_s]
      simp only [Option.bind_some]
      by_cases h5 : scd B Ln pl = 61
      · rw [jif_t h5, if_pos ⟨h4, h5⟩]
        exact two 258 (by omega) (by omega)
      · rw [jif_f h5, if_neg (fun z => h5 z.2)]
        exact one
    · rw [jif_f (fun z => h4 (e62.mp z)), if_neg (fun z => h4 z.1)]
      exact one
/-- letters one by one, with gaps behind -/
def ltD (B : Nat → Nat) (pl m j : Nat) : Nat := if j < m then B (pl + j) - 96 else 0
def nmV (B : Nat → Nat) (pl m : Nat) : Nat → Nat
  | 0 => 0
  | i + 1 => nmV B pl m i * 32 + ltD B pl m i
theorem pkN_s (B : Nat → Nat) : ∀ (i p v : Nat), pkN B (i + 1) p v = pkN B i p v * 32 + (B (p + i) - 96)
  | 0, p, v => rfl
  | i + 1, p, v => by
    show pkN B (i + 1) (p + 1) (v * 32 + (B p - 96)) = pkN B i (p + 1) (v * 32 + (B p - 96)) * 32 + (B (p + (i + 1)) - 96)
    rw [pkN_s B i (p + 1), show p + 1 + i = p + (i + 1) by omega]
theorem nmV_a (B : Nat → Nat) (pl m : Nat) : ∀ i, i ≤ m → nmV B pl m i = pkN B i pl 0
  | 0, _ => rfl
  | i + 1, h => by
    rw [pkN_s, ← nmV_a B pl m i (by omega)]
    show nmV B pl m i * 32 + ltD B pl m i = _
    unfold ltD
    rw [if_pos (by omega)]
theorem nmV_b (B : Nat → Nat) (pl m : Nat) : ∀ j, nmV B pl m (m + j) = pkN B m pl 0 * 2 ^ (5 * j)
  | 0 => by rw [Nat.add_zero, nmV_a B pl m m (Nat.le_refl _), Nat.mul_zero, Nat.pow_zero, Nat.mul_one]
  | j + 1 => by
    show nmV B pl m (m + j) * 32 + ltD B pl m (m + j) = _
    unfold ltD
    rw [if_neg (by omega), nmV_b B pl m j, Nat.mul_add, Nat.pow_add, Nat.mul_assoc]
    rfl
theorem nmV_6 (B : Nat → Nat) {pl m : Nat} (h : m ≤ 6) : nmV B pl m 6 = pkN B m pl 0 * 2 ^ (5 * (6 - m)) := by
  have := nmV_b B pl m (6 - m)
  rw [show m + (6 - m) = 6 by omega] at this
  exact this
theorem nmV_lt {B : Nat → Nat} {pl m : Nat} (hB : ∀ i, pl ≤ i → i < pl + m → 97 ≤ B i ∧ B i ≤ 122) : ∀ i, nmV B pl m i < 2 ^ (5 * i)
  | 0 => by show 0 < 1; omega
  | i + 1 => by
    have ih := nmV_lt hB i
    have e5 : 2 ^ (5 * (i + 1)) = 2 ^ (5 * i) * 32 := by rw [Nat.mul_add, Nat.pow_add]
    have : ltD B pl m i < 32 := by
      unfold ltD
      by_cases q : i < m
      · have := hB (pl + i) (by omega) (by omega)
        rw [if_pos q]; omega
      · rw [if_neg q]; omega
    show nmV B pl m i * 32 + ltD B pl m i < _
    omega
theorem m_name_l (d : Nat) {B : Nat → Nat} {Ln pl e : Nat} (hpe : pl ≤ e) (heL : e ≤ Ln) (hB : ∀ i, pl ≤ i → i < pl + (e - pl) → 97 ≤ B i ∧ B i ≤ 122) : ∀ (n i : Nat) (σ : jS), i + n = 6 → MY σ B Ln e → σ.1 86 20 = nI pl → σ.1 86 22 = nI (nmV B pl (e - pl) i) → ∃ σ', b_M_name_1 d (nI i) σ = some (none, σ') ∧ jep (fun b j => b = 86 ∧ j = 22) σ σ' ∧ σ'.1 86 22 = nI (nmV B pl (e - pl) 6)
  | 0, i, σ, hi, hM, h20, h22 => by
    rw [q_M_name_1, jif_t (show (6 : Int32) ≤ nI i from nI_le (a := 6) (by omega) (by omega)), q_M_name_4]
    have : i = 6 := by omega
    subst this
    exact ⟨σ, rfl, jep.rf, h22⟩
  | n + 1, i, σ, hi, hM, h20, h22 => by
    have hL := hM.1.1
    have hv := nmV_lt hB i
    have hv5 : nmV B pl (e - pl) i < 2 ^ 25 := Nat.lt_of_lt_of_le hv (Nat.pow_le_pow_right (by omega) (by omega))
    have stp : ∀ (s2 : Int32), s2 = nI (ltD B pl (e - pl) i) → ltD B pl (e - pl) i < 32 → ∃ σ', b_M_name_3 d (nI i) ((σ.1 86 22 : Int32) <<< ((5 : Int32) &&& 31)) s2 σ = some (none, σ') ∧ jep (fun b j => b = 86 ∧ j = 22) σ σ' ∧ σ'.1 86 22 = nI (nmV B pl (e - pl) 6) := fun s2 e2 hl => by
      rw [q_M_name_3, nI_1, h22, e2, or_5 hv5 hl]
      obtain ⟨σ', q1, q2, q3⟩ := m_name_l d hpe heL hB n (i + 1) (j_setI σ 86 22 (nI (nmV B pl (e - pl) (i + 1)))) (by omega) (hM.ot (by decide) (by decide)) (by rw [setI_nk (by decide)]; exact h20) (setI_same _ _ _ _)
      exact ⟨σ', q1, (jep.rf.sI (S := fun b j => b = 86 ∧ j = 22) ⟨rfl, rfl⟩).tr q2, q3⟩
    rw [q_M_name_1, jif_f (show ¬ (6 : Int32) ≤ nI i from nI_ge (b := 6) (by omega) (by omega)), hM.2.2, h20, nI_add]
    by_cases h : i < e - pl
    · have hb := hB (pl + i) (by omega) (by omega)
      rw [jif_f (nI_ge (by omega) (by omega)), rdI_ok (a := 87) (n := 700) rfl rfl (show pl + i < 700 by omega) (by omega)]
      simp only [Option.bind_some]
      rw [(hM.1.2 (pl + i) (by omega)).1]
      have el : ltD B pl (e - pl) i = B (pl + i) - 96 := if_pos h
      refine stp _ ?_ (by omega)
      rw [show nI (B (pl + i)) - 97 = nI (B (pl + i) - 97) from pk_sub (b := 97) hb.1, nI_1, el]
      exact congrArg nI (by omega)
    · rw [jif_t (nI_le (by omega) (by omega)), q_M_name_2]
      have el : ltD B pl (e - pl) i = 0 := if_neg h
      exact stp _ (by rw [el]; rfl) (by omega)
theorem m_name (d : Nat) {B : Nat → Nat} {Ln pl e : Nat} (hpe : pl ≤ e) (heL : e ≤ Ln) (h6 : e - pl ≤ 6) (hB : ∀ i, pl ≤ i → i < pl + (e - pl) → 97 ≤ B i ∧ B i ≤ 122) (σ : jS) (hM : MY σ B Ln e) (h20 : σ.1 86 20 = nI pl) : ∃ σ', g_M_name (d + 1) σ = some (none, σ') ∧ jep (fun b j => b = 86 ∧ j = 22) σ σ' ∧ σ'.1 86 22 = nI (pkN B (e - pl) pl 0 * 2 ^ (5 * (6 - (e - pl)))) := by
  obtain ⟨σ', q1, q2, q3⟩ := m_name_l d hpe heL hB 6 0 (j_setI σ 86 22 0) (by omega) (hM.ot (by decide) (by decide)) (by rw [setI_nk (by decide)]; exact h20) (setI_same _ _ _ _)
  rw [nmV_6 B h6] at q3
  rw [e_M_name, q_M_name_0]
  exact ⟨σ', q1, (jep.rf.sI (S := fun b j => b = 86 ∧ j = 22) ⟨rfl, rfl⟩).tr q2, q3⟩
