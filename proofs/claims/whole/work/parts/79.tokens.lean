/-! Tokens, the class's. -/
def BY (σ : jS) (a : Nat) (B : Nat → Nat) (Ln : Nat) : Prop := Ln ≤ 700 ∧ ∀ i, i < Ln → σ.1 a i = nI (B i) ∧ B i < 256
def skp (B : Nat → Nat) : Nat → Nat → Nat
  | 0, p => p
  | n + 1, p => if B p = 32 ∨ B p = 10 then skp B n (p + 1) else p
def run (B : Nat → Nat) (lo hi : Nat) : Nat → Nat → Nat
  | 0, p => p
  | n + 1, p => if lo ≤ B p ∧ B p ≤ hi then run B lo hi n (p + 1) else p
theorem skp_r (B : Nat → Nat) : ∀ n p, p ≤ skp B n p ∧ skp B n p ≤ p + n
  | 0, p => ⟨Nat.le_refl _, Nat.le_refl _⟩
  | n + 1, p => by
    unfold skp
    have := skp_r B n (p + 1)
    by_cases h : B p = 32 ∨ B p = 10
    · rw [if_pos h]; omega
    · rw [if_neg h]; omega
theorem run_r (B : Nat → Nat) (lo hi : Nat) : ∀ n p, p ≤ run B lo hi n p ∧ run B lo hi n p ≤ p + n
  | 0, p => ⟨Nat.le_refl _, Nat.le_refl _⟩
  | n + 1, p => by
    unfold run
    have := run_r B lo hi n (p + 1)
    by_cases h : lo ≤ B p ∧ B p ≤ hi
    · rw [if_pos h]; omega
    · rw [if_neg h]; omega
theorem run_in (B : Nat → Nat) (lo hi : Nat) : ∀ n p i, p ≤ i → i < run B lo hi n p → lo ≤ B i ∧ B i ≤ hi
  | 0, p, i, h1, h2 => absurd h2 (by show ¬ i < p; omega)
  | n + 1, p, i, h1, h2 => by
    unfold run at h2
    by_cases h : lo ≤ B p ∧ B p ≤ hi
    · rw [if_pos h] at h2
      by_cases e : i = p
      · rw [e]; exact h
      · exact run_in B lo hi n (p + 1) i (by omega) h2
    · rw [if_neg h] at h2; omega
theorem nI_c {a : Nat} {c : Nat} (ha : a < 2 ^ 31) (hc : c < 2 ^ 31) : (nI a < nI c ↔ a < c) ∧ (nI a = nI c ↔ a = c) := ⟨⟨fun z => Nat.lt_of_not_le (fun q => nI_nlt q (by omega) z), fun z => nI_lt z (by omega)⟩, nI_eq ha hc⟩
theorem c_skip (d : Nat) {B : Nat → Nat} {Ln : Nat} : ∀ (n p : Nat) (σ : jS), p + n = Ln → BY σ 1 B Ln → σ.1 37 4 = nI Ln → σ.1 37 1 = nI p → ∃ σ', b_Tk_advance_1 d σ = b_Tk_advance_3 d σ' ∧ jep (fun b j => b = 37 ∧ j = 1) σ σ' ∧ σ'.1 37 1 = nI (skp B n p)
  | 0, p, σ, hp, hB, h4, h1 => by
    have := hB.1
    rw [q_Tk_advance_1, h4, h1, jif_t (nI_le (by omega) (by omega))]
    exact ⟨σ, rfl, jep.rf, h1⟩
  | n + 1, p, σ, hp, hB, h4, h1 => by
    have hL := hB.1
    obtain ⟨e1, e2⟩ := hB.2 p (by omega)
    have go : (B p = 32 ∨ B p = 10) → ∃ σ', b_Tk_advance_2 d σ = b_Tk_advance_3 d σ' ∧ jep (fun b j => b = 37 ∧ j = 1) σ σ' ∧ σ'.1 37 1 = nI (skp B (n + 1) p) := fun h => by
      have S1 : jep (fun b j => b = 37 ∧ j = 1) σ (j_setI σ 37 1 (nI (p + 1))) := jep.rf.sI ⟨rfl, rfl⟩
      obtain ⟨σ', q1, q2, q3⟩ := c_skip d n (p + 1) (j_setI σ 37 1 (nI (p + 1))) (by omega) ⟨hL, fun i hi => by rw [setI_ne (by decide)]; exact hB.2 i hi⟩ (by rw [setI_nk (by decide)]; exact h4) (setI_same _ _ _ _)
      rw [q_Tk_advance_2, h1, nI_1]
      unfold skp
      rw [if_pos h]
      exact ⟨σ', q1, S1.tr q2, q3⟩
    rw [q_Tk_advance_1, h4, h1, jif_f (nI_ge (by omega) (by omega)), rdI_ok (a := 1) (n := 700) rfl rfl (show p < 700 by omega) (by omega)]
    simp only [Option.bind_some]
    rw [e1]
    by_cases h : B p = 32
    · rw [jif_t (show nI (B p) = 32 from congrArg nI h)]
      exact go (Or.inl h)
    · rw [jif_f (show ¬ nI (B p) = 32 from fun z => h ((nI_eq (b := 32) (by omega) (by omega)).mp z))]
      by_cases h' : B p = 10
      · rw [jif_t (show nI (B p) = 10 from congrArg nI h')]
        exact go (Or.inr h')
      · rw [jif_f (show ¬ nI (B p) = 10 from fun z => h' ((nI_eq (b := 10) (by omega) (by omega)).mp z))]
        unfold skp
        rw [if_neg (fun z => by rcases z with z | z; exact h z; exact h' z)]
        exact ⟨σ, rfl, jep.rf, h1⟩
/-- letters, laid together -/
def pwI (B : Nat → Nat) : Nat → Nat → Int32 → Int32
  | 0, _, v => v
  | m + 1, p, v => pwI B m (p + 1) ((v <<< ((5 : Int32) &&& 31)) ||| ((nI (B p) - 97) + 1))
def tw_S : Nat → Nat → Prop := fun b j => b = 37 ∧ (j = 2 ∨ j = 3)
theorem c_letters (d : Nat) {B : Nat → Nat} {Ln : Nat} : ∀ (n p : Nat) (σ : jS), p + n = Ln → BY σ 1 B Ln → σ.1 37 4 = nI Ln → σ.1 37 3 = nI p → ∃ σ', b_Tk_readWord_1 d σ = b_Tk_readWord_2 d σ' ∧ jep tw_S σ σ' ∧ σ'.1 37 3 = nI (run B 97 122 n p) ∧ σ'.1 37 2 = pwI B (run B 97 122 n p - p) p (σ.1 37 2)
  | 0, p, σ, hp, hB, h4, h3 => by
    have := hB.1
    rw [q_Tk_readWord_1, h4, h3, jif_t (nI_le (by omega) (by omega))]
    refine ⟨σ, rfl, jep.rf, h3, ?_⟩
    show _ = pwI B (p - p) p _
    rw [Nat.sub_self]; rfl
  | n + 1, p, σ, hp, hB, h4, h3 => by
    have hL := hB.1
    obtain ⟨e1, e2⟩ := hB.2 p (by omega)
    rw [q_Tk_readWord_1, h4, h3, jif_f (nI_ge (by omega) (by omega)), rdI_ok (a := 1) (n := 700) rfl rfl (show p < 700 by omega) (by omega)]
    simp only [Option.bind_some]
    rw [e1]
    unfold run
    by_cases h : 97 ≤ B p ∧ B p ≤ 122
    · rw [jif_f (show ¬ nI (B p) < 97 from nI_nlt (b := 97) h.1 (by omega)), jif_f (show ¬ (122 : Int32) < nI (B p) from nI_nlt (a := 122) h.2 (by omega)), if_pos h]
      have S1 : jep tw_S σ (j_setI σ 37 2 ((σ.1 37 2 <<< ((5 : Int32) &&& 31)) ||| ((nI (B p) - 97) + 1))) := jep.rf.sI ⟨rfl, Or.inl rfl⟩
      rw [setI_nk (by decide), h3, nI_1]
      have S2 := S1.sI (k := 3) (v := nI (p + 1)) ⟨rfl, Or.inr rfl⟩
      obtain ⟨σ', q1, q2, q3, q4⟩ := c_letters d n (p + 1) (j_setI (j_setI σ 37 2 ((σ.1 37 2 <<< ((5 : Int32) &&& 31)) ||| ((nI (B p) - 97) + 1))) 37 3 (nI (p + 1))) (by omega) ⟨hL, fun i hi => by rw [(S2 1 i (fun q => by have := q.1; omega)).1]; exact hB.2 i hi⟩ (by rw [(S2 37 4 (fun q => by have := q.2; omega)).1]; exact h4) (setI_same _ _ _ _)
      refine ⟨σ', q1, S2.tr q2, q3, ?_⟩
      have hr := run_r B 97 122 n (p + 1)
      rw [q4, setI_nk (by decide), setI_same, show run B 97 122 n (p + 1) - p = (run B 97 122 n (p + 1) - (p + 1)) + 1 by omega]
      rfl
    · rw [if_neg h, Nat.sub_self]
      by_cases h1 : B p < 97
      · rw [jif_t (show nI (B p) < 97 from nI_lt (b := 97) h1 (by omega))]
        exact ⟨σ, rfl, jep.rf, h3, rfl⟩
      · rw [jif_f (show ¬ nI (B p) < 97 from nI_nlt (b := 97) (by omega) (by omega)), jif_t (show (122 : Int32) < nI (B p) from nI_lt (a := 122) (by omega) (by omega))]
        exact ⟨σ, rfl, jep.rf, h3, rfl⟩
/-- so in numbers -/
def pkN (B : Nat → Nat) : Nat → Nat → Nat → Nat
  | 0, _, v => v
  | m + 1, p, v => pkN B m (p + 1) (v * 32 + (B p - 96))
theorem or_5 {v c : Nat} (hv : v < 2 ^ 25) (hc : c < 32) : (nI v <<< ((5 : Int32) &&& 31)) ||| nI c = nI (v * 32 + c) := by
  rw [pk_shlN (n := v) ((5 : Int32) &&& 31) 5 (s_l 5 (by omega)) (by omega)]
  have e : v * 2 ^ 5 ||| c = v * 32 + c := by
    have := Nat.two_pow_add_eq_or_of_lt (i := 5) hc v
    rw [Nat.mul_comm] at this
    omega
  rw [← e]
  apply Int32.toBitVec_inj.mp
  rw [Int32.toBitVec_or]
  show BitVec.ofNat 32 (v * 2 ^ 5) ||| BitVec.ofNat 32 c = BitVec.ofNat 32 (v * 2 ^ 5 ||| c)
  apply BitVec.eq_of_getLsbD_eq
  intro i hi
  rw [BitVec.getLsbD_or, BitVec.getLsbD_ofNat, BitVec.getLsbD_ofNat, BitVec.getLsbD_ofNat, Nat.testBit_or]
  simp [hi]
theorem pw_pk (B : Nat → Nat) : ∀ (m p v j : Nat), j + m ≤ 6 → v < 2 ^ (5 * j) → (∀ i, p ≤ i → i < p + m → 97 ≤ B i ∧ B i ≤ 122) → pwI B m p (nI v) = nI (pkN B m p v) ∧ pkN B m p v < 2 ^ (5 * (j + m))
  | 0, p, v, j, hj, hv, hB => ⟨rfl, hv⟩
  | m + 1, p, v, j, hj, hv, hB => by
    obtain ⟨h1, h2⟩ := hB p (Nat.le_refl _) (by omega)
    have hv5 : v < 2 ^ 25 := Nat.lt_of_lt_of_le hv (Nat.pow_le_pow_right (by omega) (by omega))
    have e : (nI (B p) - 97) + 1 = nI (B p - 96) := by
      rw [show nI (B p) - 97 = nI (B p - 97) from pk_sub (b := 97) h1, nI_1]
      exact congrArg nI (by omega)
    have hb : v * 32 + (B p - 96) < 2 ^ (5 * (j + 1)) := by
      have e5 : 2 ^ (5 * (j + 1)) = 2 ^ (5 * j) * 32 := by rw [Nat.mul_add, Nat.pow_add]
      omega
    have ih := pw_pk B m (p + 1) (v * 32 + (B p - 96)) (j + 1) (by omega) hb (fun i h3 h4 => hB i (by omega) (by omega))
    have e3 : j + 1 + m = j + (m + 1) := by omega
    rw [e3] at ih
    refine ⟨?_, ih.2⟩
    show pwI B m (p + 1) _ = nI (pkN B m (p + 1) (v * 32 + (B p - 96)))
    rw [e, or_5 hv5 (by omega)]
    exact ih.1
/-- a word's number among the language's, or 16 -/
def wdL (V : Nat) : Nat → Nat → Nat → Nat
  | 0, _, k => k
  | n + 1, i, k => wdL V n (i + 1) (if jWd i = V then i else k)
theorem jWd_lt : ∀ i, i < 16 → jWd i < 2 ^ 31 := by decide +kernel
theorem c_words (d : Nat) {V : Nat} (hV : V < 2 ^ 31) : ∀ (n i k : Nat) (σ : jS), i + n = 16 → iWords σ → σ.1 37 2 = nI V → σ.1 37 0 = nI k → ∃ σ', b_Tk_readWord_4 d (nI i) σ = some (none, σ') ∧ jep (fun b j => b = 37 ∧ j = 0) σ σ' ∧ σ'.1 37 0 = nI (wdL V n i k)
  | 0, i, k, σ, hi, hW, h2, h0 => by
    rw [q_Tk_readWord_4, jif_t (show (16 : Int32) ≤ nI i from nI_le (a := 16) (by omega) (by omega)), q_Tk_readWord_6]
    exact ⟨σ, rfl, jep.rf, h0⟩
  | n + 1, i, k, σ, hi, hW, h2, h0 => by
    rw [q_Tk_readWord_4, jif_f (show ¬ (16 : Int32) ≤ nI i from nI_ge (b := 16) (by omega) (by omega)), rdI_ok (a := 38) (n := 16) rfl rfl (show i < 16 by omega) (by omega)]
    simp only [Option.bind_some]
    rw [hW i (by omega), h2, q_Tk_readWord_5, q_Tk_readWord_5, nI_1]
    unfold wdL
    by_cases h : jWd i = V
    · rw [jif_t (congrArg nI h), if_pos h]
      have S1 : jep (fun b j => b = 37 ∧ j = 0) σ (j_setI σ 37 0 (nI i)) := jep.rf.sI ⟨rfl, rfl⟩
      obtain ⟨σ', q1, q2, q3⟩ := c_words d hV n (i + 1) i (j_setI σ 37 0 (nI i)) (by omega) (fun j hj => by rw [setI_ne (by decide)]; exact hW j hj) (by rw [setI_nk (by decide)]; exact h2) (setI_same _ _ _ _)
      exact ⟨σ', q1, S1.tr q2, q3⟩
    · rw [jif_f (fun z => h (nI_inj (jWd_lt i (by omega)) hV z)), if_neg h]
      exact c_words d hV n (i + 1) k σ (by omega) hW h2 h0
/-- a number's value -/
def cnm (B : Nat → Nat) : Nat → Nat → Nat → Nat
  | 0, _, v => v
  | m + 1, p, v => cnm B m (p + 1) (min (v * 10 + (B p - 48)) 1000000)
theorem c_digits (d : Nat) {B : Nat → Nat} {Ln : Nat} : ∀ (n p v : Nat) (σ : jS), p + n = Ln → v ≤ 1000000 → BY σ 1 B Ln → σ.1 37 4 = nI Ln → σ.1 37 3 = nI p → σ.1 37 2 = nI v → ∃ σ', b_Tk_readNumber_1 d σ = some (none, σ') ∧ jep tw_S σ σ' ∧ σ'.1 37 3 = nI (run B 48 57 n p) ∧ σ'.1 37 2 = nI (cnm B (run B 48 57 n p - p) p v)
  | 0, p, v, σ, hp, hv, hB, h4, h3, h2 => by
    have := hB.1
    rw [q_Tk_readNumber_1, h4, h3, jif_t (nI_le (by omega) (by omega)), q_Tk_readNumber_2]
    refine ⟨σ, rfl, jep.rf, h3, ?_⟩
    show _ = nI (cnm B (p - p) p v)
    rw [Nat.sub_self]; exact h2
  | n + 1, p, v, σ, hp, hv, hB, h4, h3, h2 => by
    have hL := hB.1
    obtain ⟨e1, e2⟩ := hB.2 p (by omega)
    rw [q_Tk_readNumber_1, h4, h3, jif_f (nI_ge (by omega) (by omega)), rdI_ok (a := 1) (n := 700) rfl rfl (show p < 700 by omega) (by omega)]
    simp only [Option.bind_some]
    rw [e1]
    unfold run
    by_cases h : 48 ≤ B p ∧ B p ≤ 57
    · rw [jif_f (show ¬ nI (B p) < 48 from nI_nlt (b := 48) h.1 (by omega)), jif_f (show ¬ (57 : Int32) < nI (B p) from nI_nlt (a := 57) h.2 (by omega)), if_pos h]
      have ev : ∀ w : Int32, w = nI v → (if (1000000 : Int32) < (w * 10 + nI (B p)) - 48 then 1000000 else (w * 10 + nI (B p)) - 48) = nI (min (v * 10 + (B p - 48)) 1000000) := fun w ew => by
        have e : (w * 10 + nI (B p)) - 48 = nI (v * 10 + (B p - 48)) := by
          rw [ew, show nI v * 10 = nI (v * 10) from pk_mul v 10, nI_add, show nI (v * 10 + B p) - 48 = nI (v * 10 + B p - 48) from pk_sub (b := 48) (by omega)]
          exact congrArg nI (by omega)
        rw [e]
        by_cases z : 1000000 < v * 10 + (B p - 48)
        · rw [if_pos (show (1000000 : Int32) < nI (v * 10 + (B p - 48)) from nI_lt (a := 1000000) z (by omega)), Nat.min_eq_right (by omega)]
          rfl
        · rw [if_neg (show ¬ (1000000 : Int32) < nI (v * 10 + (B p - 48)) from nI_nlt (a := 1000000) (by omega) (by omega)), Nat.min_eq_left (by omega)]
      rw [ev _ h2]
      have S1 : jep tw_S σ (j_setI σ 37 2 (nI (min (v * 10 + (B p - 48)) 1000000))) := jep.rf.sI ⟨rfl, Or.inl rfl⟩
      rw [setI_nk (by decide), h3, nI_1]
      have S2 := S1.sI (k := 3) (v := nI (p + 1)) ⟨rfl, Or.inr rfl⟩
      obtain ⟨σ', q1, q2, q3, q4⟩ := c_digits d n (p + 1) (min (v * 10 + (B p - 48)) 1000000) (j_setI (j_setI σ 37 2 (nI (min (v * 10 + (B p - 48)) 1000000))) 37 3 (nI (p + 1))) (by omega) (by omega) ⟨hL, fun i hi => by rw [(S2 1 i (fun q => by have := q.1; omega)).1]; exact hB.2 i hi⟩ (by rw [(S2 37 4 (fun q => by have := q.2; omega)).1]; exact h4) (setI_same _ _ _ _) (by rw [setI_nk (by decide), setI_same])
      refine ⟨σ', q1, S2.tr q2, q3, ?_⟩
      have hr := run_r B 48 57 n (p + 1)
      rw [q4, show run B 48 57 n (p + 1) - p = (run B 48 57 n (p + 1) - (p + 1)) + 1 by omega]
      rfl
    · rw [if_neg h, Nat.sub_self]
      by_cases h1 : B p < 48
      · rw [jif_t (show nI (B p) < 48 from nI_lt (b := 48) h1 (by omega)), q_Tk_readNumber_2]
        exact ⟨σ, rfl, jep.rf, h3, h2⟩
      · rw [jif_f (show ¬ nI (B p) < 48 from nI_nlt (b := 48) (by omega) (by omega)), jif_t (show (57 : Int32) < nI (B p) from nI_lt (a := 57) (by omega) (by omega)), q_Tk_readNumber_2]
        exact ⟨σ, rfl, jep.rf, h3, h2⟩
