/-! Tokens, the reference's. -/
def hrI (B : Nat → Nat) (Ln p : Nat) : Int32 := if p < Ln then nI (B p) else -1
/-- where the reference reads -/
def MY (σ : jS) (B : Nat → Nat) (Ln p : Nat) : Prop := BY σ 87 B Ln ∧ σ.1 86 18 = nI Ln ∧ σ.1 86 19 = nI p
theorem m_here (d : Nat) {B : Nat → Nat} {Ln p : Nat} {σ : jS} (hM : MY σ B Ln p) (hp : p ≤ Ln) : g_M_here (d + 1) σ = some (some (.int (hrI B Ln p)), σ) := by
  obtain ⟨hB, h18, h19⟩ := hM
  have hL := hB.1
  rw [e_M_here, q_M_here_0, h18, h19]
  unfold hrI
  by_cases h : p < Ln
  · rw [jif_f (nI_ge (by omega) (by omega)), rdI_ok (a := 87) (n := 700) rfl rfl (show p < 700 by omega) (by omega)]
    simp only [Option.bind_some]
    rw [q_M_here_2, (hB.2 p h).1, if_pos h]
  · rw [jif_t (nI_le (by omega) (by omega)), q_M_here_1, q_M_here_2, if_neg h]
theorem m_isSmall (d : Nat) (x : Int32) (σ : jS) : g_M_isSmall (d + 1) x σ = some (some (.int (b2i (97 ≤ x ∧ x ≤ 122))), σ) := by
  rw [e_M_isSmall, q_M_isSmall_0]
  by_cases h : x < 97
  · rw [jif_t h, q_M_isSmall_1, q_M_isSmall_2, b2i_f (fun z => Int32.not_le.mpr h z.1)]; rfl
  · rw [jif_f h]
    by_cases h2 : 122 < x
    · rw [jif_t h2, q_M_isSmall_1, q_M_isSmall_2, b2i_f (fun z => Int32.not_le.mpr h2 z.2)]; rfl
    · rw [jif_f h2, q_M_isSmall_2, b2i_t ⟨Int32.not_lt.mp h, Int32.not_lt.mp h2⟩]; rfl
theorem m_isDigit (d : Nat) (x : Int32) (σ : jS) : g_M_isDigit (d + 1) x σ = some (some (.int (b2i (48 ≤ x ∧ x ≤ 57))), σ) := by
  rw [e_M_isDigit, q_M_isDigit_0]
  by_cases h : x < 48
  · rw [jif_t h, q_M_isDigit_1, q_M_isDigit_2, b2i_f (fun z => Int32.not_le.mpr h z.1)]; rfl
  · rw [jif_f h]
    by_cases h2 : 57 < x
    · rw [jif_t h2, q_M_isDigit_1, q_M_isDigit_2, b2i_f (fun z => Int32.not_le.mpr h2 z.2)]; rfl
    · rw [jif_f h2, q_M_isDigit_2, b2i_t ⟨Int32.not_lt.mp h, Int32.not_lt.mp h2⟩]; rfl
theorem hr_in {B : Nat → Nat} {Ln p lo hi : Nat} (hB : p < Ln → B p < 256) (h0 : 0 < lo) (h2 : hi < 256) (hl : lo < 256) : (nI lo ≤ hrI B Ln p ∧ hrI B Ln p ≤ nI hi) ↔ (p < Ln ∧ lo ≤ B p ∧ B p ≤ hi) := by
  unfold hrI
  by_cases h : p < Ln
  · have := hB h
    rw [if_pos h]
    exact ⟨fun z => ⟨h, Nat.le_of_not_lt (fun q => nI_ge q (by omega) z.1), Nat.le_of_not_lt (fun q => nI_ge q (by omega) z.2)⟩, fun z => ⟨nI_le z.2.1 (by omega), nI_le z.2.2 (by omega)⟩⟩
  · rw [if_neg h]
    refine ⟨fun z => ?_, fun z => absurd z.1 h⟩
    have hp : ¬ nI lo < 0 := nI_pos (by omega)
    exact absurd (Int32.lt_of_le_of_lt z.1 (by decide)) hp
theorem hr_eq {B : Nat → Nat} {Ln p c : Nat} (hB : p < Ln → B p < 256) (hc : c < 256) : hrI B Ln p = nI c ↔ (p < Ln ∧ B p = c) := by
  unfold hrI
  by_cases h : p < Ln
  · have := hB h
    rw [if_pos h]
    exact (nI_eq (by omega) (by omega)).trans ⟨fun z => ⟨h, z⟩, fun z => z.2⟩
  · rw [if_neg h]
    exact ⟨fun z => absurd z.symm (nI_m1 (by omega)), fun z => absurd z.1 h⟩
theorem MY.st {σ : jS} {B : Nat → Nat} {Ln p q : Nat} (h : MY σ B Ln p) : MY (j_setI σ 86 19 (nI q)) B Ln q := ⟨⟨h.1.1, fun i hi => by rw [setI_ne (by decide)]; exact h.1.2 i hi⟩, by rw [setI_nk (by decide)]; exact h.2.1, setI_same _ _ _ _⟩
theorem MY.ot {σ : jS} {B : Nat → Nat} {Ln p j : Nat} {v : Int32} (h : MY σ B Ln p) (h1 : j ≠ 18) (h2 : j ≠ 19) : MY (j_setI σ 86 j v) B Ln p := ⟨⟨h.1.1, fun i hi => by rw [setI_ne (by decide)]; exact h.1.2 i hi⟩, by rw [setI_nk (fun z => h1 z.symm)]; exact h.2.1, by rw [setI_nk (fun z => h2 z.symm)]; exact h.2.2⟩
theorem MY.lt {σ : jS} {B : Nat → Nat} {Ln p : Nat} (h : MY σ B Ln p) : p < Ln → B p < 256 := fun z => (h.1.2 p z).2
def mk19 : Nat → Nat → Prop := fun b j => b = 86 ∧ j = 19
theorem m_skip (d : Nat) {B : Nat → Nat} {Ln : Nat} : ∀ (n p : Nat) (σ : jS), p + n = Ln → MY σ B Ln p → ∃ σ', b_M_token_0 (d + 1) σ = b_M_token_2 (d + 1) σ' ∧ jep mk19 σ σ' ∧ MY σ' B Ln (skp B n p)
  | 0, p, σ, hp, hM => by
    rw [q_M_token_0, m_here d hM (by omega), rI_s]
    simp only [Option.bind_some]
    have e : hrI B Ln p = -1 := if_neg (by omega)
    rw [e, jif_f (by decide), m_here d hM (by omega), rI_s]
    simp only [Option.bind_some]
    rw [e, jif_f (by decide)]
    exact ⟨σ, rfl, jep.rf, hM⟩
  | n + 1, p, σ, hp, hM => by
    have go : (B p = 32 ∨ B p = 10) → ∃ σ', b_M_token_1 (d + 1) σ = b_M_token_2 (d + 1) σ' ∧ jep mk19 σ σ' ∧ MY σ' B Ln (skp B (n + 1) p) := fun h => by
      obtain ⟨σ', q1, q2, q3⟩ := m_skip d n (p + 1) (j_setI σ 86 19 (nI (p + 1))) (by omega) hM.st
      rw [q_M_token_1, hM.2.2, nI_1]
      unfold skp
      rw [if_pos h]
      exact ⟨σ', q1, (jep.rf.sI (S := mk19) ⟨rfl, rfl⟩).tr q2, q3⟩
    have x10 : hrI B Ln p = 10 ↔ (p < Ln ∧ B p = 10) := hr_eq (c := 10) hM.lt (by omega)
    have x32 : hrI B Ln p = 32 ↔ (p < Ln ∧ B p = 32) := hr_eq (c := 32) hM.lt (by omega)
    rw [q_M_token_0, m_here d hM (by omega), rI_s]
    simp only [Option.bind_some]
    by_cases h : B p = 10
    · rw [jif_t (x10.mpr ⟨by omega, h⟩)]
      exact go (Or.inr h)
    · rw [jif_f (fun z => h (x10.mp z).2), m_here d hM (by omega), rI_s]
      simp only [Option.bind_some]
      by_cases h' : B p = 32
      · rw [jif_t (x32.mpr ⟨by omega, h'⟩)]
        exact go (Or.inl h')
      · rw [jif_f (fun z => h' (x32.mp z).2)]
        unfold skp
        rw [if_neg (fun z => by rcases z with z | z; exact h' z; exact h z)]
        exact ⟨σ, rfl, jep.rf, hM⟩
theorem m_letters (d : Nat) {B : Nat → Nat} {Ln : Nat} : ∀ (n p : Nat) (σ : jS), p + n = Ln → MY σ B Ln p → ∃ σ', b_M_token_4 (d + 1) σ = b_M_token_5 (d + 1) σ' ∧ jep mk19 σ σ' ∧ MY σ' B Ln (run B 97 122 n p)
  | 0, p, σ, hp, hM => by
    have x : ((97 : Int32) ≤ hrI B Ln p ∧ hrI B Ln p ≤ 122) ↔ (p < Ln ∧ 97 ≤ B p ∧ B p ≤ 122) := hr_in (lo := 97) (hi := 122) hM.lt (by omega) (by omega) (by omega)
    rw [q_M_token_4, m_here d hM (by omega), rI_s]
    simp only [Option.bind_some]
    rw [m_isSmall, rI_s]
    simp only [Option.bind_some]
    rw [b2i_f (fun z => by have := (x.mp z).1; omega), jif_t rfl]
    exact ⟨σ, rfl, jep.rf, hM⟩
  | n + 1, p, σ, hp, hM => by
    have x : ((97 : Int32) ≤ hrI B Ln p ∧ hrI B Ln p ≤ 122) ↔ (p < Ln ∧ 97 ≤ B p ∧ B p ≤ 122) := hr_in (lo := 97) (hi := 122) hM.lt (by omega) (by omega) (by omega)
    rw [q_M_token_4, m_here d hM (by omega), rI_s]
    simp only [Option.bind_some]
    rw [m_isSmall, rI_s]
    simp only [Option.bind_some]
    unfold run
    by_cases h : 97 ≤ B p ∧ B p ≤ 122
    · rw [b2i_t (x.mpr ⟨by omega, h⟩), jif_f (by decide), if_pos h, hM.2.2, nI_1]
      obtain ⟨σ', q1, q2, q3⟩ := m_letters d n (p + 1) (j_setI σ 86 19 (nI (p + 1))) (by omega) hM.st
      exact ⟨σ', q1, (jep.rf.sI (S := mk19) ⟨rfl, rfl⟩).tr q2, q3⟩
    · rw [b2i_f (fun z => h (x.mp z).2), jif_t rfl, if_neg h]
      exact ⟨σ, rfl, jep.rf, hM⟩
/-- a number's value, the reference's -/
def rnm (B : Nat → Nat) : Nat → Nat → Nat → Nat
  | 0, _, v => v
  | m + 1, p, v => rnm B m (p + 1) (if v ≤ 99999 then 10 * v + (B p - 48) else v)
def mk22 : Nat → Nat → Prop := fun b j => b = 86 ∧ (j = 19 ∨ j = 22)
theorem m_digits (d : Nat) {B : Nat → Nat} {Ln : Nat} : ∀ (n p v : Nat) (σ : jS), p + n = Ln → v ≤ 999999 → MY σ B Ln p → σ.1 86 22 = nI v → ∃ σ', b_M_token_10 (d + 1) σ = some (none, σ') ∧ jep mk22 σ σ' ∧ MY σ' B Ln (run B 48 57 n p) ∧ σ'.1 86 22 = nI (rnm B (run B 48 57 n p - p) p v)
  | 0, p, v, σ, hp, hv, hM, h22 => by
    have x : ((48 : Int32) ≤ hrI B Ln p ∧ hrI B Ln p ≤ 57) ↔ (p < Ln ∧ 48 ≤ B p ∧ B p ≤ 57) := hr_in (lo := 48) (hi := 57) hM.lt (by omega) (by omega) (by omega)
    rw [q_M_token_10, m_here d hM (by omega), rI_s]
    simp only [Option.bind_some]
    rw [m_isDigit, rI_s]
    simp only [Option.bind_some]
    rw [b2i_f (fun z => by have := (x.mp z).1; omega), jif_t rfl, q_M_token_14]
    refine ⟨σ, rfl, jep.rf, hM, ?_⟩
    show _ = nI (rnm B (p - p) p v)
    rw [Nat.sub_self]; exact h22
  | n + 1, p, v, σ, hp, hv, hM, h22 => by
    have x : ((48 : Int32) ≤ hrI B Ln p ∧ hrI B Ln p ≤ 57) ↔ (p < Ln ∧ 48 ≤ B p ∧ B p ≤ 57) := hr_in (lo := 48) (hi := 57) hM.lt (by omega) (by omega) (by omega)
    rw [q_M_token_10, m_here d hM (by omega), rI_s]
    simp only [Option.bind_some]
    rw [m_isDigit, rI_s]
    simp only [Option.bind_some]
    unfold run
    by_cases h : 48 ≤ B p ∧ B p ≤ 57
    · rw [b2i_t (x.mpr ⟨by omega, h⟩), jif_f (by decide), if_pos h, h22]
      have hr := run_r B 48 57 n (p + 1)
      have stp : ∀ w : Nat, w = (if v ≤ 99999 then 10 * v + (B p - 48) else v) → ∃ σ', b_M_token_12 (d + 1) (nI w) σ = some (none, σ') ∧ jep mk22 σ σ' ∧ MY σ' B Ln (run B 48 57 n (p + 1)) ∧ σ'.1 86 22 = nI (rnm B (run B 48 57 n (p + 1) - p) p v) := fun w hw => by
        have hw9 : w ≤ 999999 := by
          rw [hw]
          by_cases z : v ≤ 99999
          · rw [if_pos z]; omega
          · rw [if_neg z]; omega
        rw [q_M_token_12, setI_nk (by decide), hM.2.2, nI_1]
        obtain ⟨σ', q1, q2, q3, q4⟩ := m_digits d n (p + 1) w (j_setI (j_setI σ 86 22 (nI w)) 86 19 (nI (p + 1))) (by omega) hw9 (hM.ot (by decide) (by decide)).st (by rw [setI_nk (by decide), setI_same])
        refine ⟨σ', q1, ((jep.rf.sI (S := mk22) ⟨rfl, Or.inr rfl⟩).sI ⟨rfl, Or.inl rfl⟩).tr q2, q3, ?_⟩
        rw [q4, show run B 48 57 n (p + 1) - p = (run B 48 57 n (p + 1) - (p + 1)) + 1 by omega, hw]
        rfl
      by_cases hv5 : v ≤ 99999
      · rw [jif_t (show nI v ≤ 99999 from nI_le (b := 99999) hv5 (by omega)), q_M_token_11, m_here d hM (by omega), rI_s]
        simp only [Option.bind_some]
        have ev : ((10 * σ.1 86 22) + hrI B Ln p) - 48 = nI (10 * v + (B p - 48)) := by
          rw [h22, show hrI B Ln p = nI (B p) from if_pos (by omega), show (10 : Int32) * nI v = nI (10 * v) from pk_mul 10 v, nI_add, show nI (10 * v + B p) - 48 = nI (10 * v + B p - 48) from pk_sub (b := 48) (by omega)]
          exact congrArg nI (by omega)
        rw [ev]
        exact stp _ (by rw [if_pos hv5])
      · rw [jif_f (show ¬ nI v ≤ 99999 from nI_ge (a := 99999) (by omega) (by omega))]
        exact stp _ (by rw [if_neg hv5])
    · rw [b2i_f (fun z => h (x.mp z).2), jif_t rfl, if_neg h, Nat.sub_self, q_M_token_14]
      exact ⟨σ, rfl, jep.rf, hM, h22⟩
