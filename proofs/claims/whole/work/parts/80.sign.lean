/-! Tokens, the class's: a step. -/
def sgs : List Nat := [59, 40, 41, 43, 45, 42, 47, 37, 60, 61, 62]
def sgK (c : Nat) : Nat := if c ∈ sgs then c else 19
theorem sg_all : ∀ c, c < 256 → decide (0 ≤ j_idx (Int32.toUInt32 (nI c) % 65536).toInt32 sgs 0) = decide (c ∈ sgs) := by decide +kernel
theorem j_str1 : j_str 1001 = some sgs := rfl
/-- the byte behind, or -1 -/
def scd (B : Nat → Nat) (Ln pl : Nat) : Int32 := if pl + 1 < Ln then nI (B (pl + 1)) else -1
def sgO (c : Nat) (s0 : Int32) (pl : Nat) : Nat × Nat := if c = 60 ∧ s0 = 61 then (256, pl + 2) else if c = 60 ∧ s0 = 62 then (257, pl + 2) else if c = 62 ∧ s0 = 61 then (258, pl + 2) else (sgK c, pl + 1)
def tg_S : Nat → Nat → Prop := fun b j => b = 37 ∧ (j = 0 ∨ j = 3)
theorem c_sign4 (d : Nat) {c pl : Nat} (hc : c < 256) (s0 : Int32) (σ : jS) (h0 : σ.1 37 0 = nI (sgK c)) (h3 : σ.1 37 3 = nI (pl + 1)) :
    ∃ σ', b_Tk_readSign_4 d (nI c) s0 σ = some (none, σ') ∧ jep tg_S σ σ' ∧ σ'.1 37 0 = nI (sgO c s0 pl).1 ∧ σ'.1 37 3 = nI (sgO c s0 pl).2 := by
  have e60 : nI c = 60 ↔ c = 60 := nI_eq (b := 60) (by omega) (by omega)
  have e62 : nI c = 62 ↔ c = 62 := nI_eq (b := 62) (by omega) (by omega)
  have two : ∀ K : Nat, ∃ σ', b_Tk_readSign_7 d (j_setI (j_setI σ 37 0 (nI K)) 37 3 (((j_setI σ 37 0 (nI K)).1 37 3) + 1)) = some (none, σ') ∧ jep tg_S σ σ' ∧ σ'.1 37 0 = nI K ∧ σ'.1 37 3 = nI (pl + 2) := fun K => by
    rw [q_Tk_readSign_7]
    refine ⟨_, rfl, (jep.rf.sI ⟨rfl, Or.inl rfl⟩).sI ⟨rfl, Or.inr rfl⟩, ?_, ?_⟩
    · rw [setI_nk (by decide), setI_same]
    · rw [setI_same, setI_nk (by decide), h3, nI_1]
  unfold sgO
  rw [q_Tk_readSign_4]
  by_cases h1 : c = 60
  · have n62 : ¬ c = 62 := by omega
    rw [jif_t (e60.mpr h1)]
    by_cases h2 : s0 = 61
    · rw [jif_t h2, if_pos ⟨h1, h2⟩]
      exact two 256
    · rw [jif_f h2, if_neg (fun z => h2 z.2), q_Tk_readSign_5, jif_t (e60.mpr h1)]
      by_cases h3' : s0 = 62
      · rw [jif_t h3', if_pos ⟨h1, h3'⟩]
        exact two 257
      · rw [jif_f h3', if_neg (fun z => h3' z.2), if_neg (fun z => n62 z.1), q_Tk_readSign_6, jif_f (fun z => n62 (e62.mp z)), q_Tk_readSign_7]
        exact ⟨σ, rfl, jep.rf, h0, h3⟩
  · rw [jif_f (fun z => h1 (e60.mp z)), q_Tk_readSign_5, jif_f (fun z => h1 (e60.mp z)), if_neg (fun z => h1 z.1), if_neg (fun z => h1 z.1), q_Tk_readSign_6]
    by_cases h4 : c = 62
    · rw [jif_t (e62.mpr h4)]
      by_cases h5 : s0 = 61
      · rw [jif_t h5, if_pos ⟨h4, h5⟩]
        exact two 258
      · rw [jif_f h5, if_neg (fun z => h5 z.2), q_Tk_readSign_7]
        exact ⟨σ, rfl, jep.rf, h0, h3⟩
    · rw [jif_f (fun z => h4 (e62.mp z)), if_neg (fun z => h4 z.1), q_Tk_readSign_7]
      exact ⟨σ, rfl, jep.rf, h0, h3⟩
theorem c_sign (d : Nat) {B : Nat → Nat} {Ln pl : Nat} (σ : jS) (hp : pl < Ln) (hB : BY σ 1 B Ln) (h4 : σ.1 37 4 = nI Ln) (h1 : σ.1 37 1 = nI pl) (h3 : σ.1 37 3 = nI pl) :
    ∃ σ', g_Tk_readSign (d + 1) σ = some (none, σ') ∧ jep tg_S σ σ' ∧ σ'.1 37 0 = nI (sgO (B pl) (scd B Ln pl) pl).1 ∧ σ'.1 37 3 = nI (sgO (B pl) (scd B Ln pl) pl).2 := by
  have hL := hB.1
  obtain ⟨e1, e2⟩ := hB.2 pl hp
  have hs := sg_all (B pl) e2
  have stp : ∃ σ', b_Tk_readSign_2 d (nI (B pl)) (nI (sgK (B pl))) σ = some (none, σ') ∧ jep tg_S σ σ' ∧ σ'.1 37 0 = nI (sgO (B pl) (scd B Ln pl) pl).1 ∧ σ'.1 37 3 = nI (sgO (B pl) (scd B Ln pl) pl).2 := by
    have eS : ((j_setI σ 37 0 (nI (sgK (B pl)))).1 37 3) + 1 = nI (pl + 1) := by rw [setI_nk (by decide), h3, nI_1]
    rw [q_Tk_readSign_2, eS]
    have S1 : jep tg_S σ (j_setI (j_setI σ 37 0 (nI (sgK (B pl)))) 37 3 (nI (pl + 1))) := (jep.rf.sI ⟨rfl, Or.inl rfl⟩).sI ⟨rfl, Or.inr rfl⟩
    have v0 : (j_setI (j_setI σ 37 0 (nI (sgK (B pl)))) 37 3 (nI (pl + 1))).1 37 0 = nI (sgK (B pl)) := by rw [setI_nk (by decide), setI_same]
    have v3 : (j_setI (j_setI σ 37 0 (nI (sgK (B pl)))) 37 3 (nI (pl + 1))).1 37 3 = nI (pl + 1) := setI_same _ _ _ _
    have v4 : (j_setI (j_setI σ 37 0 (nI (sgK (B pl)))) 37 3 (nI (pl + 1))).1 37 4 = nI Ln := by rw [setI_nk (by decide), setI_nk (by decide)]; exact h4
    have vb : ∀ i, (j_setI (j_setI σ 37 0 (nI (sgK (B pl)))) 37 3 (nI (pl + 1))).1 1 i = σ.1 1 i := fun i => by rw [setI_ne (by decide), setI_ne (by decide)]
    generalize j_setI (j_setI σ 37 0 (nI (sgK (B pl)))) 37 3 (nI (pl + 1)) = σ1 at *
    rw [v3, v4]
    have fin : ∀ s0, s0 = scd B Ln pl → ∃ σ', b_Tk_readSign_4 d (nI (B pl)) s0 σ1 = some (none, σ') ∧ jep tg_S σ σ' ∧ σ'.1 37 0 = nI (sgO (B pl) (scd B Ln pl) pl).1 ∧ σ'.1 37 3 = nI (sgO (B pl) (scd B Ln pl) pl).2 := fun s0 es => by
      obtain ⟨σ', q1, q2, q3, q4⟩ := c_sign4 d (pl := pl) e2 s0 σ1 v0 v3
      rw [es] at q3 q4
      exact ⟨σ', q1, S1.tr q2, q3, q4⟩
    by_cases h : pl + 1 < Ln
    · rw [jif_f (nI_ge (by omega) (by omega)), rdI_ok (a := 1) (n := 700) rfl rfl (show pl + 1 < 700 by omega) (by omega)]
      simp only [Option.bind_some]
      rw [vb, (hB.2 (pl + 1) h).1]
      exact fin _ (by unfold scd; rw [if_pos h])
    · rw [jif_t (nI_le (by omega) (by omega)), q_Tk_readSign_3]
      exact fin _ (by unfold scd; rw [if_neg h])
  rw [e_Tk_readSign, q_Tk_readSign_0, h1, rdI_ok (a := 1) (n := 700) rfl rfl (show pl < 700 by omega) (by omega), j_str1]
  simp only [Option.bind_some]
  rw [e1]
  by_cases h : B pl ∈ sgs
  · rw [decide_eq_true h] at hs
    rw [jif_t (of_decide_eq_true hs), q_Tk_readSign_1]
    have ek : sgK (B pl) = B pl := if_pos h
    rw [ek] at stp
    exact stp
  · rw [decide_eq_false h] at hs
    rw [jif_f (of_decide_eq_false hs)]
    have ek : sgK (B pl) = 19 := if_neg h
    rw [ek] at stp
    exact stp
/-- a token of the text: kind, place, end, value -/
def tkC (B : Nat → Nat) (Ln p K pl e : Nat) (v : Int32) : Prop := pl = skp B (Ln - p) p ∧
  ((Ln ≤ pl ∧ K = 18 ∧ e = pl) ∨
   (pl < Ln ∧ (97 ≤ B pl ∧ B pl ≤ 122) ∧ e = run B 97 122 (Ln - pl) pl ∧ ((6 < e - pl ∧ K = 19) ∨ (e - pl ≤ 6 ∧ v = nI (pkN B (e - pl) pl 0 * 2 ^ (5 * (6 - (e - pl)))) ∧ K = wdL (pkN B (e - pl) pl 0 * 2 ^ (5 * (6 - (e - pl)))) 16 0 16))) ∨
   (pl < Ln ∧ (48 ≤ B pl ∧ B pl ≤ 57) ∧ e = run B 48 57 (Ln - pl) pl ∧ K = 17 ∧ v = nI (cnm B (e - pl) pl 0)) ∨
   (pl < Ln ∧ ¬ (97 ≤ B pl ∧ B pl ≤ 122) ∧ ¬ (48 ≤ B pl ∧ B pl ≤ 57) ∧ K = (sgO (B pl) (scd B Ln pl) pl).1 ∧ e = (sgO (B pl) (scd B Ln pl) pl).2))
def ta37 : Nat → Nat → Prop := fun b j => b = 37 ∧ j ≤ 3
theorem c_readWord (d : Nat) {B : Nat → Nat} {Ln pl : Nat} (σ : jS) (hp : pl < Ln) (hB : BY σ 1 B Ln) (hW : iWords σ) (h4 : σ.1 37 4 = nI Ln) (h1 : σ.1 37 1 = nI pl) (h3 : σ.1 37 3 = nI pl) :
    ∃ σ' K, g_Tk_readWord (d + 1) σ = some (none, σ') ∧ jep (fun b j => b = 37 ∧ (j = 0 ∨ j = 2 ∨ j = 3)) σ σ' ∧ σ'.1 37 0 = nI K ∧ σ'.1 37 3 = nI (run B 97 122 (Ln - pl) pl) ∧ ((6 < run B 97 122 (Ln - pl) pl - pl ∧ K = 19) ∨ (run B 97 122 (Ln - pl) pl - pl ≤ 6 ∧ σ'.1 37 2 = nI (pkN B (run B 97 122 (Ln - pl) pl - pl) pl 0 * 2 ^ (5 * (6 - (run B 97 122 (Ln - pl) pl - pl)))) ∧ K = wdL (pkN B (run B 97 122 (Ln - pl) pl - pl) pl 0 * 2 ^ (5 * (6 - (run B 97 122 (Ln - pl) pl - pl)))) 16 0 16)) := by
  have hL := hB.1
  have hr := run_r B 97 122 (Ln - pl) pl
  have hin := run_in B 97 122 (Ln - pl) pl
  have S0 : jep (fun b j => b = 37 ∧ (j = 0 ∨ j = 2 ∨ j = 3)) σ (j_setI σ 37 2 0) := jep.rf.sI ⟨rfl, by omega⟩
  obtain ⟨σ1, q1, q2, q3, q4⟩ := c_letters d (B := B) (Ln := Ln) (Ln - pl) pl (j_setI σ 37 2 0) (by omega) ⟨hL, fun i hi => by rw [setI_ne (by decide)]; exact hB.2 i hi⟩ (by rw [setI_nk (by decide)]; exact h4) (by rw [setI_nk (by decide)]; exact h3)
  rw [setI_same] at q4
  have v1 : σ1.1 37 1 = nI pl := by rw [(q2 37 1 (fun q => by have := q.2; omega)).1, setI_nk (by decide)]; exact h1
  have W1 : iWords σ1 := fun i hi => by rw [(q2 38 i (fun q => by have := q.1; omega)).1, setI_ne (by decide)]; exact hW i hi
  have S1 : jep (fun b j => b = 37 ∧ (j = 0 ∨ j = 2 ∨ j = 3)) σ σ1 := S0.tr (q2.mono (fun b j h => ⟨h.1, by have := h.2; omega⟩))
  generalize run B 97 122 (Ln - pl) pl = e at *
  have es : nI e - nI pl = nI (e - pl) := pk_sub hr.1
  rw [e_Tk_readWord, q_Tk_readWord_0, q1, q_Tk_readWord_2, q3, v1, es]
  by_cases h : e - pl ≤ 6
  · rw [jif_t (show nI (e - pl) ≤ 6 from nI_le (b := 6) h (by omega)), q_Tk_readWord_3]
    obtain ⟨p1, p2⟩ := pw_pk B (e - pl) pl 0 0 (by omega) (by decide) (fun i i1 i2 => hin i i1 (by omega))
    have q4' : σ1.1 37 2 = nI (pkN B (e - pl) pl 0) := q4.trans p1
    have hb : pkN B (e - pl) pl 0 * 2 ^ (5 * (6 - (e - pl))) < 2 ^ 30 := by
      have := Nat.mul_lt_mul_of_pos_right p2 (Nat.two_pow_pos (5 * (6 - (e - pl))))
      rw [← Nat.pow_add, show 5 * (0 + (e - pl)) + 5 * (6 - (e - pl)) = 30 by omega] at this
      exact this
    have ev : σ1.1 37 2 <<< ((5 * (6 - nI (e - pl))) &&& 31) = nI (pkN B (e - pl) pl 0 * 2 ^ (5 * (6 - (e - pl)))) := by
      rw [q4', show (6 : Int32) - nI (e - pl) = nI (6 - (e - pl)) from pk_sub (a := 6) h, show (5 : Int32) * nI (6 - (e - pl)) = nI (5 * (6 - (e - pl))) from pk_mul 5 _]
      exact pk_shlN _ _ (s_l _ (by omega)) (by omega)
    rw [ev]
    generalize pkN B (e - pl) pl 0 * 2 ^ (5 * (6 - (e - pl))) = V at *
    have S2 : jep (fun b j => b = 37 ∧ (j = 0 ∨ j = 2 ∨ j = 3)) σ (j_setI (j_setI σ1 37 2 (nI V)) 37 0 16) := (S1.sI ⟨rfl, by omega⟩).sI ⟨rfl, by omega⟩
    obtain ⟨σ', r1, r2, r3⟩ := c_words d (V := V) (by omega) 16 0 16 (j_setI (j_setI σ1 37 2 (nI V)) 37 0 16) (by omega) (fun i hi => by rw [setI_ne (by decide), setI_ne (by decide)]; exact W1 i hi) (by rw [setI_nk (by decide), setI_same]) (setI_same _ _ _ _)
    have r1' : b_Tk_readWord_4 d 0 (j_setI (j_setI σ1 37 2 (nI V)) 37 0 16) = some (none, σ') := r1
    refine ⟨σ', _, r1', S2.tr (r2.mono (fun b j h => ⟨h.1, by have := h.2; omega⟩)), r3, ?_, Or.inr ⟨h, ?_, rfl⟩⟩
    · rw [(r2 37 3 (fun q => by have := q.2; omega)).1, setI_nk (by decide), setI_nk (by decide)]; exact q3
    · rw [(r2 37 2 (fun q => by have := q.2; omega)).1, setI_nk (by decide), setI_same]
  · rw [jif_f (show ¬ nI (e - pl) ≤ 6 from nI_ge (a := 6) (by omega) (by omega))]
    exact ⟨_, 19, rfl, S1.sI ⟨rfl, by omega⟩, setI_same _ _ _ _, by rw [setI_nk (by decide)]; exact q3, Or.inl ⟨by omega, rfl⟩⟩
