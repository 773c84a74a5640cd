/-! An hour, the reference's. -/
def mE (σ : jS) (t : Nat) (w i : Int32) (P : jQ) : Prop := σ.1 86 30 = w ∧ σ.1 86 31 = i ∧ σ.1 86 32 = nI 0 ∧ σ.1 86 36 = nI P.N ∧ lawR σ t 4 0 ∧
  (∀ p, p < P.A → σ.1 90 p = σ.1 (t + 2) p ∧ ∃ ws, ws ≤ 3 ∧ σ.1 92 p = nI ws ∧ P.mny p = (if w = 0 ∧ i = nI p then 0 else if w = 2 then min ws 1 else ws) ∧ P.mny p ≤ ws ∧ ∀ u, u < ws → σ.1 93 (3 * p + u) = nI (P.hei p u)) ∧
  (∀ k, k < P.N → σ.1 104 k = nI (P.fr k) ∧ σ.1 105 k = nI (P.wh k) ∧ σ.1 106 k = nI (P.du k)) ∧ jPe σ t w i P
def mj_S (h : Nat) : Nat → Nat → Prop := fun b k => (b = 107 ∧ k = h) ∨ (108 ≤ b ∧ b ≤ 109 ∧ 10 * h ≤ k ∧ k < 10 * h + 10) ∨ (110 ≤ b ∧ b ≤ 113 ∧ 30 * h ≤ k ∧ k < 30 * h + 30) ∨ b = 102 ∨ b = 103 ∨ (b = 86 ∧ k = 35)
theorem mE.fr {σ σ' : jS} {t h : Nat} {w i : Int32} {P : jQ} (ht : jTe t) (h : jep (mj_S h) σ σ') (g : mE σ t w i P) : mE σ' t w i P := by
  have cT : ∀ i, i ≤ 14 → σ'.1 (t + i) = σ.1 (t + i) := fun i hi => h.cellI (fun k q => by unfold mj_S at q; rcases ht with rfl | rfl <;> omega)
  have cC : ∀ b, 87 ≤ b → b ≤ 106 → b ≠ 102 → b ≠ 103 → σ'.1 b = σ.1 b := fun b h1 h2 h3 h4 => h.cellI (fun k q => by unfold mj_S at q; omega)
  have c0 : ∀ k, k ≠ 35 → σ'.1 86 k = σ.1 86 k := fun k hk => (h 86 k (fun q => by unfold mj_S at q; omega)).1
  have hE : lawE t σ σ' := ⟨cT 10 (by omega), cT 11 (by omega), cT 12 (by omega), cT 13 (by omega), cT 14 (by omega)⟩
  obtain ⟨g1, g2, g3, g4, g5, g6, g7, g8⟩ := g
  refine ⟨by rw [c0 30 (by omega)]; exact g1, by rw [c0 31 (by omega)]; exact g2, by rw [c0 32 (by omega)]; exact g3, by rw [c0 36 (by omega)]; exact g4, g5.fr h (fun b j q z => by unfold lawP at q; unfold mj_S at z; rcases ht with rfl | rfl <;> omega), fun p hp => ?_, fun k hk => ?_, g8.of (cT 2 (by omega)) (cT 4 (by omega)) (cT 5 (by omega)) hE⟩
  · rw [cC 90 (by omega) (by omega) (by omega) (by omega), cC 92 (by omega) (by omega) (by omega) (by omega), cC 93 (by omega) (by omega) (by omega) (by omega), cT 2 (by omega)]
    exact g6 p hp
  · rw [cC 104 (by omega) (by omega) (by omega) (by omega), cC 105 (by omega) (by omega) (by omega) (by omega), cC 106 (by omega) (by omega) (by omega) (by omega)]
    exact g7 k hk
theorem nI_10 (h p : Nat) : 10 * nI h + nI p = nI (10 * h + p) := by rw [show (10 : Int32) = nI 10 from rfl, pk_mul, nI_add]
theorem nI_30 (h p : Nat) : 30 * nI h + nI p = nI (30 * h + p) := by rw [show (30 : Int32) = nI 30 from rfl, pk_mul, nI_add]
theorem nI_3 (h p : Nat) : 3 * nI h + nI p = nI (3 * h + p) := by rw [show (3 : Int32) = nI 3 from rfl, pk_mul, nI_add]
theorem nI_min2 (n : Nat) (hn : n < 2 ^ 31) : (if nI n < (1 : Int32) then nI n else 1) = nI (min n 1) := by
  by_cases h : n < 1
  · rw [if_pos (show nI n < (1 : Int32) from nI_lt (b := 1) h (by omega)), Nat.min_eq_left (by omega)]
  · rw [if_neg (show ¬ nI n < (1 : Int32) from nI_nlt (b := 1) (by omega) (by omega)), Nat.min_eq_right (by omega)]; rfl
theorem m_manyOf (d : Nat) {σ : jS} {t : Nat} {w i : Int32} {P : jQ} (hE : mE σ t w i P) (hA : P.A ≤ 10) {p : Nat} (hp : p < P.A) : g_M_manyOf (d + 1) (nI p) σ = some (some (.int (nI (P.mny p))), σ) := by
  obtain ⟨e1, e2, e3, e4, e5, e6, e7, e8⟩ := hE
  obtain ⟨-, ws, w1, w2, w3, -⟩ := e6 p hp
  rw [e_M_manyOf, q_M_manyOf_0, e1, e2, jif_and, w3]
  by_cases h0 : w = 0 ∧ i = nI p
  · rw [jif_t h0, if_pos h0]; rfl
  · rw [jif_f h0, if_neg h0, q_M_manyOf_1, e1, q_M_manyOf_2, rdI_ok (a := 92) (n := 20) rfl rfl (by omega) (by omega)]
    simp only [Option.bind_some]
    rw [w2, q_M_manyOf_3, q_M_manyOf_3]
    by_cases h2 : w = 2
    · rw [jif_t h2, if_pos h2, nI_min2 ws (by omega)]
    · rw [jif_f h2, if_neg h2]
theorem m_nextOf (d : Nat) {σ : jS} {t h : Nat} {w i : Int32} {P : jQ} (hE : mE σ t w i P) (hh : h < 3) (hA : P.A ≤ 10) {p u : Nat} (hp : p < P.A) (hu : u < P.mny p) (h9 : σ.1 109 (10 * h + p) = nI u) : g_M_nextOf (d + 2) (nI h) (nI p) σ = some (some (.int (nI (P.hei p u))), σ) := by
  have hE' := hE
  obtain ⟨e1, e2, e3, e4, e5, e6, e7, e8⟩ := hE
  obtain ⟨-, ws, w1, w2, w3, w4, w5⟩ := e6 p hp
  rw [e_M_nextOf, q_M_nextOf_0, nI_10, rdI_ok (a := 109) (n := 30) rfl rfl (by omega) (by omega)]
  simp only [Option.bind_some]
  rw [h9, m_manyOf d hE' hA hp, rI_s]
  simp only [Option.bind_some]
  rw [if_neg (nI_ne0 (by omega) (by omega)), pk_rem (by omega) (by omega) (by omega), Nat.mod_eq_of_lt hu, nI_3, rdI_ok (a := 93) (n := 60) rfl rfl (by omega) (by omega)]
  simp only [Option.bind_some]
  rw [w5 u (by omega)]
theorem m_rests (d : Nat) {σ : jS} {h p k c : Nat} {P : jQ} {J : jJ} (hh : h < 3) (hP : wfP P) (hp : p < P.A) (hk : k < P.N) (hJ : mJ σ h P J) :
    ∃ σ', g_M_rests (d + 1) (nI h) (nI k) (nI p) (nI c) σ = some (none, σ') ∧ jep (mj_S h) σ σ' ∧ mJ σ' h P (jRest J k p c) := by
  have hA := hP.A10
  have hN := hP.N30
  obtain ⟨a0, a1, a2, a3, a4, a5, a6⟩ := id hJ
  rw [e_M_rests, q_M_rests_0, nI_10, nI_30, rdI_ok (a := 108) (n := 30) rfl rfl (by omega) (by omega)]
  simp only [Option.bind_some]
  rw [a1 p hp, wrI_ok (a := 108) (n := 30) rfl rfl (by omega) (by omega)]
  simp only [Option.bind_some]
  rw [wrI_ok (a := 110) (n := 90) rfl rfl (by omega) (by omega)]
  simp only [Option.bind_some]
  rw [wrI_ok (a := 111) (n := 90) rfl rfl (by omega) (by omega)]
  simp only [Option.bind_some]
  rw [wrI_ok (a := 113) (n := 90) rfl rfl (by omega) (by omega)]
  simp only [Option.bind_some]
  refine ⟨_, rfl, ?_, ?_⟩
  · refine (((jep.rf.sI ?_).sI ?_).sI ?_).sI ?_ <;> unfold mj_S <;> omega
  · exact (((hJ.spu (x := p) (v := J.pu p + nI c)).sst (x := k) (v := 2)).slf (x := k) (v := 0)).swo (x := k) (v := -1)
theorem m_handsOn (d : Nat) {σ : jS} {t h p k c : Nat} {w i : Int32} {P : jQ} {J : jJ} (ht : jTe t) (hh : h < 3) (hP : wfP P) (hE : mE σ t w i P) (hp : p < P.A) (hk : k < P.N) (hJ : mJ σ h P J) (hu : J.tu p < P.mny p) :
    ∃ σ', g_M_handsOn (d + 3) (nI h) (nI k) (nI p) (nI c) σ = some (none, σ') ∧ jep (mj_S h) σ σ' ∧ mJ σ' h P (jHand P J k p c) := by
  have hA := hP.A10
  have hN := hP.N30
  have hm := hP.mny p hp
  rw [e_M_handsOn, q_M_handsOn_0, nI_10, nI_30, wrI_ok (a := 110) (n := 90) rfl rfl (by omega) (by omega)]
  simp only [Option.bind_some]
  rw [wrI_ok (a := 111) (n := 90) rfl rfl (by omega) (by omega)]
  simp only [Option.bind_some]
  have J1 : mJ (j_setI (j_setI σ 110 (30 * h + k) 1) 111 (30 * h + k) (nI c)) h P (jmk J.hr J.pu J.tu (jup J.st k 1) (jup J.lf k c) J.hd J.wo) := (hJ.sst (x := k) (v := 1)).slf (x := k) (v := c)
  have S1 : jep (mj_S h) σ (j_setI (j_setI σ 110 (30 * h + k) 1) 111 (30 * h + k) (nI c)) := by
    refine (jep.rf.sI ?_).sI ?_ <;> unfold mj_S <;> omega
  have E1 := hE.fr ht S1
  generalize j_setI (j_setI σ 110 (30 * h + k) 1) 111 (30 * h + k) (nI c) = σ1 at *
  have b2 : σ1.1 109 (10 * h + p) = nI (J.tu p) := J1.2.2.1 p hp
  rw [m_nextOf d E1 hh hA hp hu b2, rI_s]
  simp only [Option.bind_some]
  rw [wrI_ok (a := 113) (n := 90) rfl rfl (by omega) (by omega)]
  simp only [Option.bind_some]
  have J2 : mJ (j_setI σ1 113 (30 * h + k) (nI (P.hei p (J.tu p)))) h P (jmk J.hr J.pu J.tu (jup J.st k 1) (jup J.lf k c) J.hd (jup J.wo k (nI (P.hei p (J.tu p))))) := J1.swo (x := k) (v := nI (P.hei p (J.tu p)))
  have S2 : jep (mj_S h) σ (j_setI σ1 113 (30 * h + k) (nI (P.hei p (J.tu p)))) := S1.sI (by unfold mj_S; omega)
  have E2 := hE.fr ht S2
  generalize j_setI σ1 113 (30 * h + k) (nI (P.hei p (J.tu p))) = σ2 at *
  have c2 : σ2.1 109 (10 * h + p) = nI (J.tu p) := J2.2.2.1 p hp
  rw [rdI_ok (a := 109) (n := 30) rfl rfl (by omega) (by omega)]
  simp only [Option.bind_some]
  rw [m_manyOf (d + 1) E2 hA hp, rI_s]
  simp only [Option.bind_some]
  rw [if_neg (nI_ne0 (by omega) (by omega)), c2, nI_1, pk_rem (by omega) (by omega) (by omega), wrI_ok (a := 109) (n := 30) rfl rfl (by omega) (by omega)]
  simp only [Option.bind_some]
  refine ⟨_, rfl, S2.sI (by unfold mj_S; omega), ?_⟩
  have hv : (J.tu p + 1) % P.mny p = (if J.tu p + 1 < P.mny p then J.tu p + 1 else 0) := by
    by_cases q : J.tu p + 1 < P.mny p
    · rw [if_pos q, Nat.mod_eq_of_lt q]
    · rw [if_neg q, show J.tu p + 1 = P.mny p by omega, Nat.mod_self]
  rw [hv]
  exact J2.stu (x := p) (v := if J.tu p + 1 < P.mny p then J.tu p + 1 else 0)
theorem m_share {σ : jS} {t : Nat} {w i : Int32} {P : jQ} (hE : mE σ t w i P) (hP : wfP P) {p o c n H : Nat} (hp : p < P.A) (ho : o < P.A) (hc : c ≤ 99999) : mk_sh σ t 4 (nI c) p (mk_age σ p) (mk_age σ o) (nI n) (nI H) = nI (shr c (P.od c p o n H)) := by
  obtain ⟨e1, e2, e3, e4, e5, e6, e7, e8⟩ := hE
  have hod := e8.2.2 c p o n H hp ho
  have ha : ∀ q, q < P.A → mk_age σ q = jAge σ t w q := fun q hq => by
    unfold mk_age jAge
    rw [e1, (e6 q hq).1]
    by_cases z : w = 1
    · rw [if_pos z, if_pos z]
    · rw [if_neg z, if_neg z]
  unfold mk_sh shr
  rw [ha p hp, ha o ho, e1, e2, nI_half (by omega), nI_1]
  have h0 := nI_odd (c := c) (by omega)
  rw [nI_half (by omega)] at h0
  by_cases q0 : c % 2 = 0 ∨ w = 4
  · rw [if_pos (q0.imp h0.mpr id), if_neg (fun z => by
      have := hod.mp z
      rcases q0 with q0 | q0
      · omega
      · exact this.2.1 q0)]
  · rw [if_neg (fun z => q0 (z.imp h0.mp id))]
    have q1 : c % 2 = 1 := by
      have : ¬ c % 2 = 0 := fun z => q0 (Or.inl z)
      omega
    have q4 : w ≠ 4 := fun z => q0 (Or.inr z)
    by_cases q3 : w = 3 ∧ i = nI p
    · rw [if_pos q3, if_pos (hod.mpr ⟨q1, q4, Or.inl q3⟩)]
    · rw [if_neg q3]
      by_cases q5 : lw_odd σ t 4 (nI c) (jAge σ t w p) (jAge σ t w o) (nI n) (nI H)
      · rw [if_pos q5, if_pos (hod.mpr ⟨q1, q4, Or.inr q5⟩)]
      · rw [if_neg q5, if_neg (fun z => (hod.mp z).2.2.elim q3 q5)]
theorem m_comes (d : Nat) {σ : jS} {t h k p : Nat} {w i : Int32} {P : jQ} {J : jJ} (ht : jTe t) (hh : h < 3) (hP : wfP P) (hE : mE σ t w i P) (hk : k < P.N) (hp : p < P.A) (hJ : mJ σ h P J) (hw : wfJ P J 1) (ho : J.wo k = nI p) (hs : J.st k = 1) :
    ∃ σ', g_M_comes (d + 5) (nI h) (nI k) σ = some (none, σ') ∧ jep (mj_S h) σ σ' ∧ mJ σ' h P (jComeB P J k p) := by
  have hA := hP.A10
  have hN := hP.N30
  have hm := hP.mny p hp
  obtain ⟨a0, a1, a2, a3, a4, a5, a6⟩ := id hJ
  have hd := (hw.hd k hk).2 (by omega)
  have hl : 1 ≤ J.lf k ∧ J.lf k ≤ 99999 := by
    rcases hw.pa k hk with z | z | z
    · omega
    · omega
    · exact ⟨z.2.2.2.1, z.2.2.2.2⟩
  rw [e_M_comes, q_M_comes_0, nI_30, rdI_ok (a := 113) (n := 90) rfl rfl (by omega) (by omega)]
  simp only [Option.bind_some]
  rw [rdI_ok (a := 111) (n := 90) rfl rfl (by omega) (by omega)]
  simp only [Option.bind_some]
  rw [rdI_ok (a := 112) (n := 90) rfl rfl (by omega) (by omega)]
  simp only [Option.bind_some]
  rw [a6 k hk, ho, a4 k hk, a5 k hk, nI_1, wrI_ok (a := 112) (n := 90) rfl rfl (by omega) (by omega)]
  simp only [Option.bind_some]
  have J1 : mJ (j_setI σ 112 (30 * h + k) (nI (J.hd k + 1))) h P (jmk J.hr J.pu J.tu J.st J.lf (jup J.hd k (J.hd k + 1)) J.wo) := hJ.shd (x := k) (v := J.hd k + 1)
  have S1 : jep (mj_S h) σ (j_setI σ 112 (30 * h + k) (nI (J.hd k + 1))) := jep.rf.sI (by unfold mj_S; omega)
  have E1 := hE.fr ht S1
  generalize j_setI σ 112 (30 * h + k) (nI (J.hd k + 1)) = σ1 at *
  rw [m_manyOf (d + 3) E1 hA hp, rI_s]
  simp only [Option.bind_some]
  have b8 : σ1.1 112 (30 * h + k) = nI (J.hd k + 1) := by
    rw [J1.2.2.2.2.2.1 k hk]
    show nI (jup J.hd k (J.hd k + 1) k) = _
    rw [jup_s]
  have st : ∃ σ', b_M_comes_1 (d + 4) (nI h) (nI k) (nI p) (nI (J.lf k)) σ1 = some (none, σ') ∧ jep (mj_S h) σ σ' ∧ mJ σ' h P (jRest (jmk J.hr J.pu J.tu J.st J.lf (jup J.hd k (J.hd k + 1)) J.wo) k p (J.lf k)) := by
    rw [q_M_comes_1]
    obtain ⟨σ', g1, g2, g3⟩ := m_rests (d + 3) (c := J.lf k) hh hP hp hk J1
    rw [g1, rV_s]
    exact ⟨σ', rfl, S1.tr g2, g3⟩
  unfold jComeB
  by_cases q0 : P.mny p = 0
  · rw [if_pos (Or.inl q0), q0, jif_t nI_0]; exact st
  rw [jif_f (nI_ne0 (by omega) (by omega)), rdI_ok (a := 112) (n := 90) rfl rfl (by omega) (by omega)]
  simp only [Option.bind_some]
  rw [b8]
  by_cases q1 : 100 ≤ J.hd k + 1
  · rw [if_pos (Or.inr (Or.inl q1)), jif_t (show nI (J.hd k + 1) = (100 : Int32) by rw [show J.hd k + 1 = 100 by omega]; rfl)]; exact st
  rw [jif_f (show ¬ nI (J.hd k + 1) = (100 : Int32) from fun z => q1 (by have := (nI_eq (b := 100) (by omega) (by omega)).mp z; omega)), q_M_comes_2]
  have hu : J.tu p < P.mny p := by rcases hw.tu _ hp with z | z <;> omega
  rw [m_nextOf (d + 2) E1 hh hA hp hu (J1.2.2.1 p hp), rI_s]
  simp only [Option.bind_some]
  rw [rdI_ok (a := 112) (n := 90) rfl rfl (by omega) (by omega)]
  simp only [Option.bind_some]
  rw [rdI_ok (a := 107) (n := 3) rfl rfl (by omega) (by omega)]
  simp only [Option.bind_some]
  have b0 : σ1.1 107 h = nI J.hr := J1.1
  have hoo := hP.hei p (J.tu p) hp hu
  obtain ⟨σ2, g1, g2⟩ := m_kept d ht (nI (J.lf k)) p (P.hei p (J.tu p)) (by omega) (by omega) (nI (J.hd k + 1)) (nI J.hr) σ1 E1.2.2.2.2.1 E1.2.2.1
  rw [m_share E1 hP hp hoo hl.2] at g1
  have g1' : g_M_kept (d + 4) (nI (J.lf k)) (nI p) (nI (P.hei p (J.tu p))) (nI (J.hd k + 1)) (nI J.hr) σ1 = some (some (.int (nI (jShr P J k p))), σ2) := g1
  have hle := jShr_le hP J k p
  rw [b8, b0, g1', rI_s]
  simp only [Option.bind_some]
  have S2 : jep (mj_S h) σ σ2 := S1.tr (g2.mono (fun b x q => by unfold mj_S; rcases q with q | q | q <;> omega))
  have E2 := hE.fr ht S2
  have J2 : mJ σ2 h P (jmk J.hr J.pu J.tu J.st J.lf (jup J.hd k (J.hd k + 1)) J.wo) := J1.of (fun x y h1 h2 _ => (g2 x y (fun q => by rcases q with q | q | q <;> omega)).1)
  by_cases q2 : jShr P J k p = J.lf k
  · rw [if_pos (Or.inr (Or.inr q2)), jif_t (congrArg nI q2)]
    obtain ⟨σ', g1, g2, g3⟩ := m_rests (d + 3) (c := J.lf k) hh hP hp hk J2
    rw [g1, rV_s]
    exact ⟨σ', rfl, S2.tr g2, g3⟩
  · rw [if_neg (fun z => z.elim q0 (fun z => z.elim q1 q2)), jif_f (fun z => q2 ((nI_eq (by omega) (by omega)).mp z)), q_M_comes_3, nI_10, rdI_ok (a := 108) (n := 30) rfl rfl (by omega) (by omega)]
    simp only [Option.bind_some]
    have z1 : σ2.1 108 (10 * h + p) = J.pu p := J2.2.1 p hp
    rw [z1, wrI_ok (a := 108) (n := 30) rfl rfl (by omega) (by omega)]
    simp only [Option.bind_some]
    have J3 : mJ (j_setI σ2 108 (10 * h + p) (J.pu p + nI (jShr P J k p))) h P (jmk J.hr (jup J.pu p (J.pu p + nI (jShr P J k p))) J.tu J.st J.lf (jup J.hd k (J.hd k + 1)) J.wo) := J2.spu (x := p) (v := J.pu p + nI (jShr P J k p))
    have S3 : jep (mj_S h) σ (j_setI σ2 108 (10 * h + p) (J.pu p + nI (jShr P J k p))) := S2.sI (by unfold mj_S; omega)
    have E3 := hE.fr ht S3
    generalize j_setI σ2 108 (10 * h + p) (J.pu p + nI (jShr P J k p)) = σ3 at *
    rw [pk_sub hle]
    obtain ⟨σ', g1, g2, g3⟩ := m_handsOn (d + 1) (c := J.lf k - jShr P J k p) ht hh hP E3 hp hk J3 hu
    rw [g1, rV_s]
    exact ⟨σ', rfl, S3.tr g2, g3⟩
