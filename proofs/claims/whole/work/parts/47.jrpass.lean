/-! passes: the reference's hour. -/
theorem or_bit {S p : Nat} (hp : p < 31) : nI S ||| ((1 : Int32) <<< (nI p &&& 31)) = nI (S ||| 2 ^ p) := by
  have e : (1 : Int32) <<< (nI p &&& 31) = nI (2 ^ p) := by
    have := pk_shlN (n := 1) (nI p &&& 31) p (s_l p (by omega)) (by
      have := Nat.pow_lt_pow_right (a := 2) (by decide) (show p < 32 by omega)
      omega)
    rw [Nat.one_mul] at this
    exact this
  rw [e]
  apply Int32.toBitVec_inj.mp
  rw [Int32.toBitVec_or]
  show BitVec.ofNat 32 S ||| BitVec.ofNat 32 (2 ^ p) = BitVec.ofNat 32 (S ||| 2 ^ p)
  apply BitVec.eq_of_getLsbD_eq
  intro i hi
  rw [BitVec.getLsbD_or, BitVec.getLsbD_ofNat, BitVec.getLsbD_ofNat, BitVec.getLsbD_ofNat, Nat.testBit_or]
  simp [hi]
theorem get_bit {S p : Nat} (hS : S < 2 ^ 31) (hp : p < 31) : ((nI S >>> (nI p &&& 31)) &&& 1 = 1) ↔ S.testBit p = true := by
  rw [pk_shrN hS _ p (s_l p (by omega)), nI_a1, Nat.testBit_eq_decide_div_mod_eq, decide_eq_true_iff]
  exact nI_eq (b := 1) (by omega) (by omega)
theorem m_pass1 (d : Nat) {h : Nat} {t : Nat} {w i : Int32} {P : jQ} {σ : jS} {J : jJ} (hh : h < 3) (hP : wfP P) (hE : mE σ t w i P) (hJ : mJ σ h P J) (hst : ∀ k, k < P.N → J.st k < 2 ^ 31) : ∀ (c a U : Nat), a + c = P.N → U < 2 ^ a → (∀ k, k < a → (U.testBit k = true ↔ J.st k = 1)) →
    ∃ U', b_M_passes_1 d (nI h) (nI U) (nI a) σ = b_M_passes_4 d (nI h) (nI U') σ ∧ U' < 2 ^ P.N ∧ (∀ k, k < P.N → (U'.testBit k = true ↔ J.st k = 1))
  | 0, a, U, ha, hU, hb => by
    have hN := hP.N30
    have ea : a = P.N := by omega
    subst ea
    rw [q_M_passes_1, hE.2.2.2.1, jif_t (nI_le (by omega) (by omega))]
    exact ⟨U, rfl, hU, hb⟩
  | c + 1, a, U, ha, hU, hb => by
    have hN := hP.N30
    have hlt : U.testBit a = false := Nat.testBit_lt_two_pow hU
    rw [q_M_passes_1, hE.2.2.2.1, jif_f (nI_ge (by omega) (by omega)), nI_30, rdI_ok (a := 110) (n := 90) rfl rfl (by omega) (by omega)]
    simp only [Option.bind_some]
    rw [hJ.2.2.2.1 a (by omega)]
    have h2 : 2 ^ a < 2 ^ (a + 1) := Nat.pow_lt_pow_right (by decide) (by omega)
    by_cases q : J.st a = 1
    · rw [jif_t (show nI (J.st a) = 1 by rw [q]; rfl), q_M_passes_3, or_bit (by omega), nI_1]
      refine m_pass1 d hh hP hE hJ hst c (a + 1) (U ||| 2 ^ a) (by omega) (Nat.or_lt_two_pow (by omega) h2) (fun k hk => ?_)
      rw [Nat.testBit_or]
      by_cases e : k = a
      · subst e
        rw [hlt, Nat.testBit_two_pow_self]
        exact ⟨fun _ => q, fun _ => rfl⟩
      · rw [Nat.testBit_two_pow_of_ne (by omega), Bool.or_false]
        exact hb k (by omega)
    · rw [jif_f (show ¬ nI (J.st a) = 1 from fun z => q ((nI_eq (b := 1) (hst a (by omega)) (by omega)).mp z)), q_M_passes_2, q_M_passes_3, Int32.or_zero, nI_1]
      refine m_pass1 d hh hP hE hJ hst c (a + 1) U (by omega) (by omega) (fun k hk => ?_)
      by_cases e : k = a
      · subst e
        rw [hlt]
        exact ⟨fun z => absurd z (by decide), fun z => absurd z q⟩
      · exact hb k (by omega)
theorem m_pass5 (d : Nat) {h t : Nat} {w i u : Int32} {P : jQ} (hh : h < 3) (ht : jTe t) (hP : wfP P) : ∀ (c a : Nat) (σ : jS) (J : jJ), a + c = P.N → mE σ t w i P → mJ σ h P J → wfJ P J 1 → J.hr < 2 ^ 30 →
    ∃ σ', b_M_passes_5 (d + 5) (nI h) u (nI a) σ = b_M_passes_9 (d + 5) (nI h) u σ' ∧ jep (mj_S h) σ σ' ∧ mJ σ' h P (jFold (jSend P) c a J)
  | 0, a, σ, J, ha, hE, hJ, hw, hH => by
    have hN := hP.N30
    rw [q_M_passes_5, hE.2.2.2.1, jif_t (nI_le (by omega) (by omega))]
    exact ⟨σ, rfl, jep.rf, hJ⟩
  | c + 1, a, σ, J, ha, hE, hJ, hw, hH => by
    have hN := hP.N30
    have hA := hP.A10
    have e7 := hE.2.2.2.2.2.2.1 a (by omega)
    have hdu := hP.du a (by omega)
    have hp := hP.fr a (by omega)
    have step : ∃ σ1, b_M_passes_5 (d + 5) (nI h) u (nI a) σ = b_M_passes_8 (d + 5) (nI h) u (nI a) σ1 ∧ jep (mj_S h) σ σ1 ∧ mJ σ1 h P (jSend P J a) := by
      rw [q_M_passes_5, hE.2.2.2.1, jif_f (nI_ge (by omega) (by omega)), rdI_ok (a := 106) (n := 30) rfl rfl (by omega) (by omega)]
      simp only [Option.bind_some]
      rw [rdI_ok (a := 107) (n := 3) rfl rfl (by omega) (by omega)]
      simp only [Option.bind_some]
      rw [e7.2.2, hJ.1]
      have hst : J.st a < 2 ^ 31 := by rcases hw.pa a (by omega) with z | z | z <;> omega
      unfold jSend
      by_cases q1 : P.du a = J.hr
      · rw [jif_t (congrArg nI q1), nI_30, rdI_ok (a := 110) (n := 90) rfl rfl (by omega) (by omega)]
        simp only [Option.bind_some]
        rw [hJ.2.2.2.1 a (by omega)]
        by_cases q0 : J.st a = 0
        · rw [q0, jif_t nI_0, hE.1, hE.2.1]
          by_cases q2 : w = 5 ∧ i = nI a
          · rw [jif_t q2.1, jif_t q2.2, if_neg (fun z => z.2.2 ((hE.2.2.2.2.2.2.2.2.1 a).mpr q2))]
            exact ⟨σ, rfl, jep.rf, hJ⟩
          · have go : jif (w = 5) (jif (i = nI a) (b_M_passes_8 (d + 5) (nI h) u (nI a) σ) (b_M_passes_6 (d + 5) (nI h) u (nI a) σ)) (b_M_passes_6 (d + 5) (nI h) u (nI a) σ) = b_M_passes_6 (d + 5) (nI h) u (nI a) σ := by
              rw [jif_and, jif_f q2]
            rw [go, if_pos ⟨rfl, q1, fun z => q2 ((hE.2.2.2.2.2.2.2.2.1 a).mp z)⟩, q_M_passes_6, rdI_ok (a := 104) (n := 30) rfl rfl (by omega) (by omega)]
            simp only [Option.bind_some]
            rw [e7.1, m_manyOf (d + 4) hE hA hp, rI_s]
            simp only [Option.bind_some]
            by_cases q3 : P.mny (P.fr a) = 0
            · rw [if_pos q3, q3, jif_t nI_0, rdI_ok (a := 104) (n := 30) rfl rfl (by omega) (by omega)]
              simp only [Option.bind_some]
              rw [rdI_ok (a := 105) (n := 30) rfl rfl (by omega) (by omega)]
              simp only [Option.bind_some]
              obtain ⟨σ1, g1, g2, g3⟩ := m_rests (d + 4) (c := P.wh a) hh hP hp (show a < P.N by omega) hJ
              rw [e7.1, e7.2.1, g1, rV_s]
              exact ⟨σ1, rfl, g2, g3⟩
            · rw [if_neg q3, jif_f (nI_ne0 (by omega) (by have := hP.mny _ hp; omega)), q_M_passes_7, rdI_ok (a := 104) (n := 30) rfl rfl (by omega) (by omega)]
              simp only [Option.bind_some]
              rw [rdI_ok (a := 105) (n := 30) rfl rfl (by omega) (by omega)]
              simp only [Option.bind_some]
              obtain ⟨σ1, g1, g2, g3⟩ := m_handsOn (d + 2) (c := P.wh a) ht hh hP hE hp (show a < P.N by omega) hJ (by rcases hw.tu _ hp with z | z <;> omega)
              rw [e7.1, e7.2.1, g1, rV_s]
              exact ⟨σ1, rfl, g2, g3⟩
        · rw [jif_f (nI_ne0 (by omega) hst), if_neg (fun z => q0 z.1)]
          exact ⟨σ, rfl, jep.rf, hJ⟩
      · rw [jif_f (fun z => q1 ((nI_eq (by omega) (by omega)).mp z)), if_neg (fun z => q1 z.2.1)]
        exact ⟨σ, rfl, jep.rf, hJ⟩
    obtain ⟨σ1, g1, g2, g3⟩ := step
    rw [g1, q_M_passes_8, nI_1]
    obtain ⟨σ2, p1, p2, p3⟩ := m_pass5 d hh ht hP c (a + 1) σ1 (jSend P J a) (by omega) (hE.fr ht g2) g3 (wfJ.send hP (by omega) hw) (by rw [jSend_hr]; exact hH)
    exact ⟨σ2, p1, g2.tr p2, p3⟩
/-- what others do leaves a parcel's state -/
theorem jSend_st {P : jQ} {J : jJ} {k i : Nat} (h : i ≠ k) : (jSend P J k).st i = J.st i := by
  unfold jSend
  by_cases q : J.st k = 0 ∧ P.du k = J.hr ∧ ¬ P.out k
  · rw [if_pos q]
    by_cases z : P.mny (P.fr k) = 0
    · rw [if_pos z]; exact jup_n h
    · rw [if_neg z]; exact jup_n h
  · rw [if_neg q]
theorem jSend_own {P : jQ} {J : jJ} {k : Nat} : ((jSend P J k).st k = 1 ∧ P.du k < J.hr) ↔ (J.st k = 1 ∧ P.du k < J.hr) := by
  unfold jSend
  by_cases q : J.st k = 0 ∧ P.du k = J.hr ∧ ¬ P.out k
  · exact ⟨fun z => by omega, fun z => by omega⟩
  · rw [if_neg q]
theorem jCome_st {P : jQ} {J : jJ} {k i : Nat} (h : i ≠ k) : (jCome P J k).st i = J.st i := by
  unfold jCome jComeB
  by_cases q : J.st k = 1 ∧ P.du k < J.hr
  · rw [if_pos q]
    by_cases z : P.mny (J.wo k).toNatClampNeg = 0 ∨ 100 ≤ J.hd k + 1 ∨ jShr P J k (J.wo k).toNatClampNeg = J.lf k
    · rw [if_pos z]; exact jup_n h
    · rw [if_neg z]; exact jup_n h
  · rw [if_neg q]
theorem jSend_fold {P : jQ} {k : Nat} : ∀ (c a : Nat) (J : jJ), (((jFold (jSend P) c a J).st k = 1 ∧ P.du k < J.hr) ↔ (J.st k = 1 ∧ P.du k < J.hr))
  | 0, _, _ => Iff.rfl
  | c + 1, a, J => by
    have h := jSend_fold (P := P) (k := k) c (a + 1) (jSend P J a)
    rw [jSend_hr] at h
    refine h.trans ?_
    by_cases e : k = a
    · subst e; exact jSend_own
    · rw [jSend_st e]
theorem m_pass10 (d : Nat) {h t U : Nat} {w i : Int32} {P : jQ} (hh : h < 3) (ht : jTe t) (hP : wfP P) (hU : U < 2 ^ 31) : ∀ (c a : Nat) (σ : jS) (J : jJ), a + c = P.N → mE σ t w i P → mJ σ h P J → wfJ P J 1 → J.hr < 2 ^ 30 → (∀ k, a ≤ k → k < P.N → (U.testBit k = true ↔ J.st k = 1 ∧ P.du k < J.hr)) →
    ∃ σ', b_M_passes_10 (d + 5) (nI h) (nI U) (nI a) σ = some (none, σ') ∧ jep (mj_S h) σ σ' ∧ mJ σ' h P (jTick (jFold (jCome P) c a J))
  | 0, a, σ, J, ha, hE, hJ, hw, hH, hb => by
    have hN := hP.N30
    rw [q_M_passes_10, hE.2.2.2.1, jif_t (nI_le (by omega) (by omega)), q_M_passes_12, rdI_ok (a := 107) (n := 3) rfl rfl (by omega) (by omega)]
    simp only [Option.bind_some]
    rw [hJ.1, nI_1, wrI_ok (a := 107) (n := 3) rfl rfl (by omega) (by omega)]
    simp only [Option.bind_some]
    refine ⟨_, rfl, jep.rf.sI (Or.inl ⟨rfl, rfl⟩), ?_⟩
    obtain ⟨a0, a1, a2, a3, a4, a5, a6⟩ := hJ
    exact ⟨setI_same _ _ _ _, fun q hq => by rw [setI_ne (by omega)]; exact a1 q hq, fun q hq => by rw [setI_ne (by omega)]; exact a2 q hq, fun q hq => by rw [setI_ne (by omega)]; exact a3 q hq, fun q hq => by rw [setI_ne (by omega)]; exact a4 q hq, fun q hq => by rw [setI_ne (by omega)]; exact a5 q hq, fun q hq => by rw [setI_ne (by omega)]; exact a6 q hq⟩
  | c + 1, a, σ, J, ha, hE, hJ, hw, hH, hb => by
    have hN := hP.N30
    have hA := hP.A10
    have step : ∃ σ1, b_M_passes_10 (d + 5) (nI h) (nI U) (nI a) σ = b_M_passes_11 (d + 5) (nI h) (nI U) (nI a) σ1 ∧ jep (mj_S h) σ σ1 ∧ mJ σ1 h P (jCome P J a) := by
      rw [q_M_passes_10, hE.2.2.2.1, jif_f (nI_ge (by omega) (by omega))]
      unfold jCome
      by_cases q0 : J.st a = 1 ∧ P.du a < J.hr
      · rw [jif_t ((get_bit hU (by omega)).mpr ((hb a (by omega) (by omega)).mpr q0)), if_pos q0]
        obtain ⟨p, hp, hwo⟩ : ∃ p, p < P.A ∧ J.wo a = nI p := by
          rcases hw.pa a (by omega) with z | z | z
          · omega
          · omega
          · exact z.2.2.1
        obtain ⟨σ1, g1, g2, g3⟩ := m_comes d ht hh hP hE (show a < P.N by omega) hp hJ hw hwo q0.1
        rw [g1, rV_s, hwo, nI_clamp (by omega)]
        exact ⟨σ1, rfl, g2, g3⟩
      · rw [jif_f (fun z => q0 ((hb a (by omega) (by omega)).mp ((get_bit hU (by omega)).mp z))), if_neg q0]
        exact ⟨σ, rfl, jep.rf, hJ⟩
    obtain ⟨σ1, g1, g2, g3⟩ := step
    rw [g1, q_M_passes_11, nI_1]
    obtain ⟨σ2, p1, p2, p3⟩ := m_pass10 d hh ht hP hU c (a + 1) σ1 (jCome P J a) (by omega) (hE.fr ht g2) g3 (wfJ.come hP (by omega) hw) (by rw [jCome_hr]; exact hH) (fun k h1 h2 => by rw [jCome_hr, jCome_st (by omega)]; exact hb k (by omega) h2)
    exact ⟨σ2, p1, g2.tr p2, p3⟩
theorem m_passes (d : Nat) {h t : Nat} {w i : Int32} {P : jQ} (hh : h < 3) (ht : jTe t) (hP : wfP P) (σ : jS) (J : jJ) (hE : mE σ t w i P) (hJ : mJ σ h P J) (hw : wfJ P J 0) (hH : J.hr < 2 ^ 30) :
    ∃ σ', g_M_passes (d + 6) (nI h) σ = some (none, σ') ∧ jep (mj_S h) σ σ' ∧ mJ σ' h P (jPass P J) := by
  have hN := hP.N30
  rw [e_M_passes, q_M_passes_0]
  have hst : ∀ k, k < P.N → J.st k < 2 ^ 31 := fun k hk => by rcases hw.pa k hk with z | z | z <;> omega
  obtain ⟨U, u1, u2, u3⟩ := m_pass1 (d + 5) hh hP hE hJ hst P.N 0 0 (by omega) (by decide) (fun k hk => absurd hk (by omega))
  have hU : U < 2 ^ 31 := by
    have := Nat.pow_le_pow_right (n := 2) (by decide) (show P.N ≤ 31 by omega)
    omega
  obtain ⟨σ1, g1, g2, g3⟩ := m_pass5 d (u := nI U) hh ht hP P.N 0 σ J (by omega) hE hJ hw.up hH
  have hw1 := wfJ.fold (f := jSend P) (fun J k hk => wfJ.send hP hk) P.N 0 J (by omega) hw.up
  obtain ⟨σ2, p1, p2, p3⟩ := m_pass10 d hh ht hP hU P.N 0 σ1 _ (by omega) (hE.fr ht g2) g3 hw1 (by rw [jFold_hr (jSend_hr P)]; exact hH) (fun k _ hk => by
    rw [jFold_hr (jSend_hr P), jSend_fold, u3 k hk]
    refine ⟨fun z => ⟨z, ?_⟩, fun z => z.1⟩
    rcases hw.pa k hk with y | y | y
    · omega
    · omega
    · exact y.2.1)
  have u1' : b_M_passes_1 (d + 5) (nI h) 0 0 σ = b_M_passes_4 (d + 5) (nI h) (nI U) σ := u1
  have g1' : b_M_passes_5 (d + 5) (nI h) (nI U) 0 σ = b_M_passes_9 (d + 5) (nI h) (nI U) σ1 := g1
  have p1' : b_M_passes_10 (d + 5) (nI h) (nI U) 0 σ1 = some (none, σ2) := p1
  rw [u1', q_M_passes_4, g1', q_M_passes_9, p1']
  exact ⟨σ2, rfl, g2.tr p2, p3⟩
theorem m_hours_l (d : Nat) {t : Nat} {w i : Int32} {P : jQ} (ht : jTe t) (hP : wfP P) : ∀ (c a e : Nat) (σ : jS) (J : jJ), a + c = e → e < 2 ^ 29 → J.hr + c < 2 ^ 30 → mE σ t w i P → mJ σ 0 P J → wfJ P J 0 →
    ∃ σ', b_M_hours_3 (d + 6) (nI e) (nI a) σ = some (some (.int (nI (J.hr + c))), σ') ∧ jep (mj_S 0) σ σ' ∧ mJ σ' 0 P (jIter P c J)
  | 0, a, e, σ, J, ha, he, hH, hE, hJ, hw => by
    rw [q_M_hours_3, jif_t (nI_le (by omega) (by omega)), q_M_hours_4, rdI_ok (a := 107) (n := 3) (i := 0) (k := 0) rfl rfl (by omega) (by omega)]
    simp only [Option.bind_some]
    rw [hJ.1]
    exact ⟨σ, rfl, jep.rf, hJ⟩
  | c + 1, a, e, σ, J, ha, he, hH, hE, hJ, hw => by
    rw [q_M_hours_3, jif_f (nI_ge (by omega) (by omega))]
    obtain ⟨σ1, g1, g2, g3⟩ := m_passes d (h := 0) (by omega) ht hP σ J hE hJ hw (by omega)
    have g1' : g_M_passes (d + 6) 0 σ = some (none, σ1) := g1
    rw [g1', rV_s]
    simp only [Option.bind_some]
    rw [nI_1]
    obtain ⟨σ2, p1, p2, p3⟩ := m_hours_l d ht hP c (a + 1) e σ1 (jPass P J) (by omega) he (by rw [jPass_hr]; omega) (hE.fr ht g2) g3 (wfJ.pass hP hw)
    rw [jPass_hr, show J.hr + 1 + c = J.hr + (c + 1) by omega] at p1
    exact ⟨σ2, p1, g2.tr p2, p3⟩
