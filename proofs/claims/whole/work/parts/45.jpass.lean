/-! An hour, the class's. -/
theorem jup_up {α : Type} (f : Nat → α) (k : Nat) (a b : α) : jup (jup f k a) k b = jup f k b := by
  funext j
  by_cases e : j = k
  · subst e; rw [jup_s, jup_s]
  · rw [jup_n e, jup_n e, jup_n e]
theorem c_settle (d : Nat) {σ : jS} {j t p k : Nat} {P : jQ} {J : jJ} (hj : jJo j) (hP : wfP P) (hp : p < P.A) (hk : k < P.N) (hJ : cJ σ j P J) :
    ∃ σ', g_Jo_settle (d + 1) j (nI k) (nI p) σ = some (none, σ') ∧ jep (cj_S j t) σ σ' ∧ cJ σ' j P (jRest J k p (J.lf k)) := by
  have hA := hP.A10
  have hN := hP.N30
  obtain ⟨a0, a1, a2, a3, a4, a5, a6⟩ := id hJ
  rw [e_Jo_settle, q_Jo_settle_0]
  simp only [jo_is hj, jc_t]
  rw [(jo_cr hj).1, rdI_ok (jo_len hj).1 rfl (by omega) (by omega)]
  simp only [Option.bind_some]
  rw [(jo_cr hj).2.2.2.2.2.2.1, rdI_ok (jo_len hj).2.2.2.2.2.2.1 rfl (by omega) (by omega)]
  simp only [Option.bind_some]
  rw [a1 p hp, a4 k hk, wrI_ok (jo_len hj).1 rfl (by omega) (by omega)]
  simp only [Option.bind_some]
  rw [wrI_ok (jo_len hj).2.2.2.2.2.2.1 rfl (by omega) (by omega)]
  simp only [Option.bind_some]
  rw [(jo_cr hj).2.2.2.2.2.1, wrI_ok (jo_len hj).2.2.2.2.2.1 rfl (by omega) (by omega)]
  simp only [Option.bind_some]
  rw [(jo_cr hj).2.2.2.2.2.2.2.2, wrI_ok (jo_len hj).2.2.2.2.2.2.2.2 rfl (by omega) (by omega)]
  simp only [Option.bind_some]
  refine ⟨_, rfl, ?_, ?_⟩
  · refine (((jep.rf.sI ?_).sI ?_).sI ?_).sI ?_ <;> unfold cj_S <;> omega
  · exact (((hJ.spu (x := p) (v := J.pu p + nI (J.lf k))).slf (x := k) (v := 0)).sst (x := k) (v := 2)).swo (x := k) (v := -1)
/-- handed on: the coins stand already -/
def jHnd (P : jQ) (J : jJ) (k p : Nat) : jJ := jmk J.hr J.pu (jup J.tu p (if J.tu p + 1 < P.mny p then J.tu p + 1 else 0)) (jup J.st k 1) J.lf J.hd (jup J.wo k (nI (P.hei p (J.tu p))))
theorem c_handOn (d : Nat) {σ : jS} {j t p k : Nat} {w i : Int32} {P : jQ} {J : jJ} (hj : jJo j) (ht : jTe t) (hP : wfP P) (hE : cE σ j t w i P) (hp : p < P.A) (hk : k < P.N) (hJ : cJ σ j P J) (hu : J.tu p < P.mny p) :
    ∃ σ', g_Jo_handOn (d + 3) j (nI k) (nI p) σ = some (none, σ') ∧ jep (cj_S j t) σ σ' ∧ cJ σ' j P (jHnd P J k p) := by
  have hA := hP.A10
  have hN := hP.N30
  have hm := hP.mny p hp
  rw [e_Jo_handOn, q_Jo_handOn_0]
  simp only [jo_is hj, jc_t]
  rw [(jo_cr hj).2.2.2.2.2.1, wrI_ok (jo_len hj).2.2.2.2.2.1 rfl (by omega) (by omega)]
  simp only [Option.bind_some]
  have J1 : cJ (j_setI σ (j + 6) k 1) j P (jmk J.hr J.pu J.tu (jup J.st k 1) J.lf J.hd J.wo) := hJ.sst (x := k) (v := 1)
  have S1 : jep (cj_S j t) σ (j_setI σ (j + 6) k 1) := jep.rf.sI (by unfold cj_S; omega)
  have E1 := hE.fr hj ht S1
  generalize j_setI σ (j + 6) k 1 = σ1 at *
  obtain ⟨e1, e2, e3, e4, e5, e6, e7, e8⟩ := id E1
  obtain ⟨ws, w1, w2, w3, w4, w5⟩ := e8.w p hp
  have b2 : σ1.1 (j + 2) p = nI (J.tu p) := J1.2.2.1 p hp
  rw [(jo_cr hj).2.1, rdI_ok (jo_len hj).2.1 rfl (by omega) (by omega)]
  simp only [Option.bind_some]
  rw [e1, (te_is ht).1, jc_t, b2, c_heirAt d ht (by omega) w2 w1 (by omega), rI_s, w5 _ (by omega)]
  simp only [Option.bind_some]
  rw [(jo_cr hj).2.2.2.2.2.2.2.2, wrI_ok (jo_len hj).2.2.2.2.2.2.2.2 rfl (by omega) (by omega)]
  simp only [Option.bind_some]
  have J2 := J1.swo (x := k) (v := nI (P.hei p (J.tu p)))
  have S2 : jep (cj_S j t) σ (j_setI σ1 (j + 9) k (nI (P.hei p (J.tu p)))) := S1.sI (by unfold cj_S; omega)
  have E2 := hE.fr hj ht S2
  generalize j_setI σ1 (j + 9) k (nI (P.hei p (J.tu p))) = σ2 at *
  have c2 : σ2.1 (j + 2) p = nI (J.tu p) := J2.2.2.1 p hp
  rw [rdI_ok (jo_len hj).2.1 rfl (by omega) (by omega)]
  simp only [Option.bind_some]
  rw [c_waysOf (d + 1) hj ht E2 hA hp, rI_s]
  simp only [Option.bind_some]
  rw [c2, nI_1]
  have fin : ∀ v : Nat, v = (if J.tu p + 1 < P.mny p then J.tu p + 1 else 0) → ∃ σ', b_Jo_handOn_2 (d + 2) (j + 2) (nI p) (nI v) σ2 = some (none, σ') ∧ jep (cj_S j t) σ σ' ∧ cJ σ' j P (jHnd P J k p) := fun v hv => by
    rw [q_Jo_handOn_2, wrI_ok (jo_len hj).2.1 rfl (by omega) (by omega)]
    simp only [Option.bind_some]
    refine ⟨_, rfl, S2.sI (by unfold cj_S; omega), ?_⟩
    have := J2.stu (x := p) (v := v)
    rw [hv] at this ⊢
    exact this
  by_cases q : J.tu p + 1 < P.mny p
  · rw [jif_f (nI_ge q (by omega)), rdI_ok (jo_len hj).2.1 rfl (by omega) (by omega)]
    simp only [Option.bind_some]
    rw [c2, nI_1]
    exact fin _ (if_pos q).symm
  · rw [jif_t (nI_le (by omega) (by omega)), q_Jo_handOn_1]
    exact fin 0 (if_neg q).symm
theorem c_isLeftOut (d : Nat) {σ : jS} {j t k : Nat} {w i : Int32} {P : jQ} (hj : jJo j) (hE : cE σ j t w i P) : g_Jo_isLeftOut (d + 1) j (nI k) σ = some (some (.int (b2i (P.out k))), σ) := by
  obtain ⟨e1, e2, e3, e4, e5, e6, e7, e8⟩ := hE
  rw [e_Jo_isLeftOut, q_Jo_isLeftOut_0]
  simp only [jo_is hj, jc_t]
  rw [e2, e3, jif_and, q_Jo_isLeftOut_1, q_Jo_isLeftOut_2, q_Jo_isLeftOut_2]
  by_cases h : w = 5 ∧ i = nI k
  · rw [jif_t h, b2i_t ((e8.2.1 k).mpr h)]; rfl
  · rw [jif_f h, b2i_f (fun q => h ((e8.2.1 k).mp q))]; rfl
theorem c_dispatch (d : Nat) {σ : jS} {j t k : Nat} {w i : Int32} {P : jQ} {J : jJ} (hj : jJo j) (ht : jTe t) (hP : wfP P) (hE : cE σ j t w i P) (hk : k < P.N) (hJ : cJ σ j P J) (hw : wfJ P J 1) :
    ∃ σ', g_Jo_dispatch (d + 4) j (nI k) σ = some (none, σ') ∧ jep (cj_S j t) σ σ' ∧ cJ σ' j P (if P.mny (P.fr k) = 0 then jRest J k (P.fr k) (P.wh k) else jHand P J k (P.fr k) (P.wh k)) := by
  have hA := hP.A10
  have hN := hP.N30
  have hp := hP.fr k hk
  have e7 := hE.2.2.2.2.2.2.1 k hk
  rw [e_Jo_dispatch, q_Jo_dispatch_0]
  simp only [jo_is hj, jc_t]
  rw [(jo_cr hj).2.2.2.1, rdI_ok (jo_len hj).2.2.2.1 rfl (by omega) (by omega)]
  simp only [Option.bind_some]
  rw [e7.2.1, (jo_cr hj).2.2.2.2.2.2.1, wrI_ok (jo_len hj).2.2.2.2.2.2.1 rfl (by omega) (by omega)]
  simp only [Option.bind_some]
  have J1 := hJ.slf (x := k) (v := P.wh k)
  have S1 : jep (cj_S j t) σ (j_setI σ (j + 7) k (nI (P.wh k))) := jep.rf.sI (by unfold cj_S; omega)
  have E1 := hE.fr hj ht S1
  generalize j_setI σ (j + 7) k (nI (P.wh k)) = σ1 at *
  have f1 := (E1.2.2.2.2.2.2.1 k hk).1
  rw [(jo_cr hj).2.2.1, rdI_ok (jo_len hj).2.2.1 rfl (by omega) (by omega)]
  simp only [Option.bind_some]
  rw [f1, c_waysOf (d + 2) hj ht E1 hA hp, rI_s]
  simp only [Option.bind_some]
  by_cases q : P.mny (P.fr k) = 0
  · rw [if_pos q, q, jif_t nI_0, rdI_ok (jo_len hj).2.2.1 rfl (by omega) (by omega)]
    simp only [Option.bind_some]
    rw [f1]
    obtain ⟨σ', g1, g2, g3⟩ := c_settle (d + 2) (t := t) hj hP hp hk J1
    rw [g1, rV_s]
    simp only [Option.bind_some]
    rw [q_Jo_dispatch_2]
    refine ⟨σ', rfl, S1.tr g2, ?_⟩
    have e1 : (jmk J.hr J.pu J.tu J.st (jup J.lf k (P.wh k)) J.hd J.wo).lf k = P.wh k := jup_s _ _ _
    have e2 : jRest (jmk J.hr J.pu J.tu J.st (jup J.lf k (P.wh k)) J.hd J.wo) k (P.fr k) (P.wh k) = jRest J k (P.fr k) (P.wh k) := by
      show jmk J.hr _ J.tu _ (jup (jup J.lf k (P.wh k)) k 0) J.hd _ = _
      rw [jup_up]; rfl
    rw [e1, e2] at g3
    exact g3
  · rw [if_neg q, jif_f (nI_ne0 (by omega) (by have := hP.mny _ hp; omega)), q_Jo_dispatch_1]
    simp only [jo_is hj, jc_t]
    rw [(jo_cr hj).2.2.1, rdI_ok (jo_len hj).2.2.1 rfl (by omega) (by omega)]
    simp only [Option.bind_some]
    rw [f1]
    obtain ⟨σ', g1, g2, g3⟩ := c_handOn d hj ht hP E1 hp hk J1 (show J.tu (P.fr k) < P.mny (P.fr k) by rcases hw.tu _ hp with z | z <;> omega)
    rw [g1, rV_s]
    simp only [Option.bind_some]
    rw [q_Jo_dispatch_2]
    exact ⟨σ', rfl, S1.tr g2, g3⟩
theorem c_bring (d : Nat) {σ : jS} {j t k p : Nat} {w i : Int32} {P : jQ} {J : jJ} (hj : jJo j) (ht : jTe t) (hP : wfP P) (hE : cE σ j t w i P) (hk : k < P.N) (hp : p < P.A) (hJ : cJ σ j P J) (hw : wfJ P J 1) (ho : J.wo k = nI p) (hs : J.st k = 1) :
    ∃ σ', g_Jo_bring (d + 5) j (nI k) σ = some (none, σ') ∧ jep (cj_S j t) σ σ' ∧ cJ σ' j P (jComeB P J k p) := by
  have hA := hP.A10
  have hN := hP.N30
  have hm := hP.mny p hp
  obtain ⟨a0, a1, a2, a3, a4, a5, a6⟩ := id hJ
  have hd := (hw.hd k hk).2 (by omega)
  have hl : 1 ≤ J.lf k ∧ J.lf k ≤ 99999 := by
    rcases hw.pa k hk with z | z | z
    · omega
    · omega
    · exact ⟨z.2.2.2.1, z.2.2.2.2⟩
  rw [e_Jo_bring, q_Jo_bring_0]
  simp only [jo_is hj, jc_t]
  rw [(jo_cr hj).2.2.2.2.2.2.2.2, rdI_ok (jo_len hj).2.2.2.2.2.2.2.2 rfl (by omega) (by omega)]
  simp only [Option.bind_some]
  rw [(jo_cr hj).2.2.2.2.2.2.2.1, rdI_ok (jo_len hj).2.2.2.2.2.2.2.1 rfl (by omega) (by omega)]
  simp only [Option.bind_some]
  rw [a6 k hk, ho, a5 k hk, nI_1, wrI_ok (jo_len hj).2.2.2.2.2.2.2.1 rfl (by omega) (by omega)]
  simp only [Option.bind_some]
  have J1 := hJ.shd (x := k) (v := J.hd k + 1)
  have S1 : jep (cj_S j t) σ (j_setI σ (j + 8) k (nI (J.hd k + 1))) := jep.rf.sI (by unfold cj_S; omega)
  have E1 := hE.fr hj ht S1
  generalize j_setI σ (j + 8) k (nI (J.hd k + 1)) = σ1 at *
  rw [c_waysOf (d + 3) hj ht E1 hA hp, rI_s]
  simp only [Option.bind_some]
  have b8 : σ1.1 (j + 8) k = nI (J.hd k + 1) := by
    rw [J1.2.2.2.2.2.1 k hk]
    show nI (jup J.hd k (J.hd k + 1) k) = _
    rw [jup_s]
  have st : ∃ σ', b_Jo_bring_1 (d + 4) j (nI k) (nI p) σ1 = some (none, σ') ∧ jep (cj_S j t) σ σ' ∧ cJ σ' j P (jRest (jmk J.hr J.pu J.tu J.st J.lf (jup J.hd k (J.hd k + 1)) J.wo) k p (J.lf k)) := by
    rw [q_Jo_bring_1, jo_is hj, jc_t]
    obtain ⟨σ', g1, g2, g3⟩ := c_settle (d + 3) (t := t) hj hP hp hk J1
    rw [g1, rV_s]
    exact ⟨σ', rfl, S1.tr g2, g3⟩
  unfold jComeB
  by_cases q0 : P.mny p = 0
  · rw [if_pos (Or.inl q0), q0, jif_t nI_0]; exact st
  rw [jif_f (nI_ne0 (by omega) (by omega)), rdI_ok (jo_len hj).2.2.2.2.2.2.2.1 rfl (by omega) (by omega)]
  simp only [Option.bind_some]
  rw [b8]
  by_cases q1 : 100 ≤ J.hd k + 1
  · rw [if_pos (Or.inr (Or.inl q1)), jif_f (show ¬ nI (J.hd k + 1) < (100 : Int32) from nI_nlt (b := 100) q1 (by omega))]; exact st
  rw [jif_t (show nI (J.hd k + 1) < (100 : Int32) from nI_lt (b := 100) (by omega) (by omega)), q_Jo_bring_2]
  simp only [jo_is hj, jc_t]
  have hu : J.tu p < P.mny p := by rcases hw.tu _ hp with z | z <;> omega
  obtain ⟨σ2, g1, g2⟩ := c_shareOf d hj ht E1 hP hp hk hu hl.2 (J1.2.2.1 p hp) (J1.2.2.2.2.1 k hk) b8 J1.1
  have g1' : g_Jo_shareOf (d + 4) j (nI p) (nI k) σ1 = some (some (.int (nI (jShr P J k p))), σ2) := g1
  have hle := jShr_le hP J k p
  rw [g1', rI_s]
  simp only [Option.bind_some]
  have S2 : jep (cj_S j t) σ σ2 := S1.tr (jep.of g2 (fun b x q => by unfold cj_S; rcases q with q | q <;> omega))
  have E2 := hE.fr hj ht S2
  have J2 : cJ σ2 j P (jmk J.hr J.pu J.tu J.st J.lf (jup J.hd k (J.hd k + 1)) J.wo) := J1.of (fun x y hx _ => by rw [(g2 (j + x) (fun q => by rcases hj with rfl | rfl | rfl <;> rcases ht with rfl | rfl <;> rcases q with q | q <;> omega)).1])
  rw [(jo_cr hj).1, rdI_ok (jo_len hj).1 rfl (by omega) (by omega)]
  simp only [Option.bind_some]
  have z1 : σ2.1 (j + 1) p = J.pu p := J2.2.1 p hp
  rw [z1, wrI_ok (jo_len hj).1 rfl (by omega) (by omega)]
  simp only [Option.bind_some]
  have J3 := J2.spu (x := p) (v := J.pu p + nI (jShr P J k p))
  have S3 : jep (cj_S j t) σ (j_setI σ2 (j + 1) p (J.pu p + nI (jShr P J k p))) := S2.sI (by unfold cj_S; omega)
  generalize j_setI σ2 (j + 1) p (J.pu p + nI (jShr P J k p)) = σ3 at *
  rw [(jo_cr hj).2.2.2.2.2.2.1, rdI_ok (jo_len hj).2.2.2.2.2.2.1 rfl (by omega) (by omega)]
  simp only [Option.bind_some]
  have z7 : σ3.1 (j + 7) k = nI (J.lf k) := J3.2.2.2.2.1 k hk
  rw [z7, pk_sub hle, wrI_ok (jo_len hj).2.2.2.2.2.2.1 rfl (by omega) (by omega)]
  simp only [Option.bind_some]
  have J4 := J3.slf (x := k) (v := J.lf k - jShr P J k p)
  have S4 : jep (cj_S j t) σ (j_setI σ3 (j + 7) k (nI (J.lf k - jShr P J k p))) := S3.sI (by unfold cj_S; omega)
  have E4 := hE.fr hj ht S4
  generalize j_setI σ3 (j + 7) k (nI (J.lf k - jShr P J k p)) = σ4 at *
  rw [rdI_ok (jo_len hj).2.2.2.2.2.2.1 rfl (by omega) (by omega)]
  simp only [Option.bind_some]
  have y7 : σ4.1 (j + 7) k = nI (J.lf k - jShr P J k p) := by
    rw [J4.2.2.2.2.1 k hk]
    show nI (jup J.lf k _ k) = _
    rw [jup_s]
  rw [y7]
  by_cases q2 : jShr P J k p = J.lf k
  · rw [if_pos (Or.inr (Or.inr q2)), jif_t (show nI (J.lf k - jShr P J k p) ≤ (0 : Int32) from nI_le (b := 0) (by omega) (by omega)), q_Jo_bring_3, jo_is hj, jc_t]
    obtain ⟨σ', g1, g2, g3⟩ := c_settle (d + 3) (t := t) hj hP hp hk J4
    rw [g1, rV_s]
    simp only [Option.bind_some]
    rw [q_Jo_bring_4]
    refine ⟨σ', rfl, S4.tr g2, ?_⟩
    have e1 : (jmk J.hr (jup J.pu p (J.pu p + nI (jShr P J k p))) J.tu J.st (jup J.lf k (J.lf k - jShr P J k p)) (jup J.hd k (J.hd k + 1)) J.wo).lf k = 0 := by
      show jup J.lf k _ k = 0
      rw [jup_s]; omega
    have e2 : jRest (jmk J.hr (jup J.pu p (J.pu p + nI (jShr P J k p))) J.tu J.st (jup J.lf k (J.lf k - jShr P J k p)) (jup J.hd k (J.hd k + 1)) J.wo) k p 0 = jRest (jmk J.hr J.pu J.tu J.st J.lf (jup J.hd k (J.hd k + 1)) J.wo) k p (J.lf k) := by
      show jmk J.hr (jup (jup J.pu p (J.pu p + nI (jShr P J k p))) p (jup J.pu p (J.pu p + nI (jShr P J k p)) p + nI 0)) J.tu _ (jup (jup J.lf k _) k 0) _ _ = _
      rw [jup_up, jup_up, jup_s, q2, show nI 0 = (0 : Int32) from rfl, Int32.add_zero]; rfl
    have g3' : cJ σ' j P (jRest (jmk J.hr (jup J.pu p (J.pu p + nI (jShr P J k p))) J.tu J.st (jup J.lf k (J.lf k - jShr P J k p)) (jup J.hd k (J.hd k + 1)) J.wo) k p ((jmk J.hr (jup J.pu p (J.pu p + nI (jShr P J k p))) J.tu J.st (jup J.lf k (J.lf k - jShr P J k p)) (jup J.hd k (J.hd k + 1)) J.wo).lf k)) := g3
    rw [e1, e2] at g3'
    exact g3'
  · rw [if_neg (fun z => z.elim q0 (fun z => z.elim q1 q2)), jif_f (show ¬ nI (J.lf k - jShr P J k p) ≤ (0 : Int32) from nI_ge (a := 0) (by omega) (by omega))]
    obtain ⟨σ', g1, g2, g3⟩ := c_handOn (d + 1) hj ht hP E4 hp hk J4 hu
    rw [g1, rV_s]
    simp only [Option.bind_some]
    rw [q_Jo_bring_4]
    exact ⟨σ', rfl, S4.tr g2, g3⟩
theorem jSend_hr (P : jQ) (J : jJ) (k : Nat) : (jSend P J k).hr = J.hr := by
  unfold jSend
  by_cases h : J.st k = 0 ∧ P.du k = J.hr ∧ ¬ P.out k
  · rw [if_pos h]
    by_cases q : P.mny (P.fr k) = 0
    · rw [if_pos q]; rfl
    · rw [if_neg q]; rfl
  · rw [if_neg h]
theorem jCome_hr (P : jQ) (J : jJ) (k : Nat) : (jCome P J k).hr = J.hr := by
  unfold jCome jComeB
  by_cases h : J.st k = 1 ∧ P.du k < J.hr
  · rw [if_pos h]
    by_cases q : P.mny (J.wo k).toNatClampNeg = 0 ∨ 100 ≤ J.hd k + 1 ∨ jShr P J k (J.wo k).toNatClampNeg = J.lf k
    · rw [if_pos q]; rfl
    · rw [if_neg q]; rfl
  · rw [if_neg h]
theorem c_pass1 (d : Nat) {j t : Nat} {w i : Int32} {P : jQ} (hj : jJo j) (ht : jTe t) (hP : wfP P) : ∀ (c a : Nat) (σ : jS) (J : jJ), a + c = P.N → cE σ j t w i P → cJ σ j P J → wfJ P J 1 → J.hr < 2 ^ 30 →
    ∃ σ', b_Jo_pass_1 (d + 5) j (nI a) σ = b_Jo_pass_3 (d + 5) j σ' ∧ jep (cj_S j t) σ σ' ∧ cJ σ' j P (jFold (jSend P) c a J)
  | 0, a, σ, J, ha, hE, hJ, hw, hH => by
    have hN := hP.N30
    rw [q_Jo_pass_1, jo_is hj, jc_t, hE.2.2.2.1, jif_t (nI_le (by omega) (by omega))]
    exact ⟨σ, rfl, jep.rf, hJ⟩
  | c + 1, a, σ, J, ha, hE, hJ, hw, hH => by
    have hN := hP.N30
    have e7 := hE.2.2.2.2.2.2.1 a (by omega)
    have hdu := hP.du a (by omega)
    have step : ∃ σ1, b_Jo_pass_1 (d + 5) j (nI a) σ = b_Jo_pass_2 (d + 5) j (nI a) σ1 ∧ jep (cj_S j t) σ σ1 ∧ cJ σ1 j P (jSend P J a) := by
      rw [q_Jo_pass_1]
      simp only [jo_is hj, jc_t]
      rw [hE.2.2.2.1, jif_f (nI_ge (by omega) (by omega)), (jo_cr hj).2.2.2.2.2.1, rdI_ok (jo_len hj).2.2.2.2.2.1 rfl (by omega) (by omega)]
      simp only [Option.bind_some]
      rw [hJ.2.2.2.1 a (by omega)]
      have hst : J.st a < 2 ^ 31 := by rcases hw.pa a (by omega) with z | z | z <;> omega
      unfold jSend
      by_cases q0 : J.st a = 0
      · rw [q0, jif_t nI_0, (jo_cr hj).2.2.2.2.1, rdI_ok (jo_len hj).2.2.2.2.1 rfl (by omega) (by omega)]
        simp only [Option.bind_some]
        rw [e7.2.2, hJ.1]
        by_cases q1 : P.du a = J.hr
        · rw [jif_t (congrArg nI q1), c_isLeftOut (d + 4) hj hE, rI_s]
          simp only [Option.bind_some]
          by_cases q2 : P.out a
          · rw [b2i_t q2, jif_f (by decide), if_neg (fun z => z.2.2 q2)]
            exact ⟨σ, rfl, jep.rf, hJ⟩
          · rw [b2i_f q2, jif_t rfl]
            obtain ⟨σ1, g1, g2, g3⟩ := c_dispatch (d + 1) hj ht hP hE (show a < P.N by omega) hJ hw
            rw [g1, rV_s, if_pos ⟨rfl, q1, q2⟩]
            exact ⟨σ1, rfl, g2, g3⟩
        · rw [jif_f (fun z => q1 ((nI_eq (by omega) (by omega)).mp z)), if_neg (fun z => q1 z.2.1)]
          exact ⟨σ, rfl, jep.rf, hJ⟩
      · rw [jif_f (nI_ne0 (by omega) hst), if_neg (fun z => q0 z.1)]
        exact ⟨σ, rfl, jep.rf, hJ⟩
    obtain ⟨σ1, g1, g2, g3⟩ := step
    rw [g1, q_Jo_pass_2, nI_1]
    obtain ⟨σ2, p1, p2, p3⟩ := c_pass1 d hj ht hP c (a + 1) σ1 (jSend P J a) (by omega) (hE.fr hj ht g2) g3 (wfJ.send hP (by omega) hw) (by rw [jSend_hr]; exact hH)
    exact ⟨σ2, p1, g2.tr p2, p3⟩
theorem c_pass4 (d : Nat) {j t : Nat} {w i : Int32} {P : jQ} (hj : jJo j) (ht : jTe t) (hP : wfP P) : ∀ (c a : Nat) (σ : jS) (J : jJ), a + c = P.N → cE σ j t w i P → cJ σ j P J → wfJ P J 1 → J.hr < 2 ^ 30 →
    ∃ σ', b_Jo_pass_4 (d + 5) j (nI a) σ = some (none, σ') ∧ jep (cj_S j t) σ σ' ∧ cJ σ' j P (jTick (jFold (jCome P) c a J))
  | 0, a, σ, J, ha, hE, hJ, hw, hH => by
    have hN := hP.N30
    rw [q_Jo_pass_4, jo_is hj, jc_t, hE.2.2.2.1, jif_t (nI_le (by omega) (by omega)), q_Jo_pass_6, jo_is hj, jc_t, jc_t, hJ.1, nI_1]
    refine ⟨_, rfl, jep.rf.sI (Or.inl ⟨rfl, rfl⟩), ?_⟩
    obtain ⟨a0, a1, a2, a3, a4, a5, a6⟩ := hJ
    exact ⟨setI_same _ _ _ _, fun q hq => by rw [setI_ne (by omega)]; exact a1 q hq, fun q hq => by rw [setI_ne (by omega)]; exact a2 q hq, fun q hq => by rw [setI_ne (by omega)]; exact a3 q hq, fun q hq => by rw [setI_ne (by omega)]; exact a4 q hq, fun q hq => by rw [setI_ne (by omega)]; exact a5 q hq, fun q hq => by rw [setI_ne (by omega)]; exact a6 q hq⟩
  | c + 1, a, σ, J, ha, hE, hJ, hw, hH => by
    have hN := hP.N30
    have hA := hP.A10
    have e7 := hE.2.2.2.2.2.2.1 a (by omega)
    have hdu := hP.du a (by omega)
    have step : ∃ σ1, b_Jo_pass_4 (d + 5) j (nI a) σ = b_Jo_pass_5 (d + 5) j (nI a) σ1 ∧ jep (cj_S j t) σ σ1 ∧ cJ σ1 j P (jCome P J a) := by
      rw [q_Jo_pass_4]
      simp only [jo_is hj, jc_t]
      rw [hE.2.2.2.1, jif_f (nI_ge (by omega) (by omega)), (jo_cr hj).2.2.2.2.2.1, rdI_ok (jo_len hj).2.2.2.2.2.1 rfl (by omega) (by omega)]
      simp only [Option.bind_some]
      rw [hJ.2.2.2.1 a (by omega)]
      have hst : J.st a < 2 ^ 31 := by rcases hw.pa a (by omega) with z | z | z <;> omega
      unfold jCome
      by_cases q0 : J.st a = 1
      · rw [jif_t (show nI (J.st a) = 1 by rw [q0]; rfl), (jo_cr hj).2.2.2.2.1, rdI_ok (jo_len hj).2.2.2.2.1 rfl (by omega) (by omega)]
        simp only [Option.bind_some]
        rw [e7.2.2, hJ.1]
        by_cases q1 : P.du a < J.hr
        · rw [jif_f (nI_ge q1 (by omega)), if_pos ⟨q0, q1⟩]
          obtain ⟨p, hp, hwo⟩ : ∃ p, p < P.A ∧ J.wo a = nI p := by
            rcases hw.pa a (by omega) with z | z | z
            · omega
            · omega
            · exact z.2.2.1
          obtain ⟨σ1, g1, g2, g3⟩ := c_bring d hj ht hP hE (show a < P.N by omega) hp hJ hw hwo q0
          rw [g1, rV_s, hwo, nI_clamp (by omega)]
          exact ⟨σ1, rfl, g2, g3⟩
        · rw [jif_t (nI_le (by omega) (by omega)), if_neg (fun z => q1 z.2)]
          exact ⟨σ, rfl, jep.rf, hJ⟩
      · rw [jif_f (show ¬ nI (J.st a) = 1 from fun z => q0 ((nI_eq (b := 1) hst (by omega)).mp z)), if_neg (fun z => q0 z.1)]
        exact ⟨σ, rfl, jep.rf, hJ⟩
    obtain ⟨σ1, g1, g2, g3⟩ := step
    rw [g1, q_Jo_pass_5, nI_1]
    obtain ⟨σ2, p1, p2, p3⟩ := c_pass4 d hj ht hP c (a + 1) σ1 (jCome P J a) (by omega) (hE.fr hj ht g2) g3 (wfJ.come hP (by omega) hw) (by rw [jCome_hr]; exact hH)
    exact ⟨σ2, p1, g2.tr p2, p3⟩
theorem jFold_hr {f : jJ → Nat → jJ} (hf : ∀ J k, (f J k).hr = J.hr) : ∀ (c a : Nat) (J : jJ), (jFold f c a J).hr = J.hr
  | 0, _, _ => rfl
  | c + 1, a, J => (jFold_hr hf c (a + 1) (f J a)).trans (hf J a)
theorem jPass_hr (P : jQ) (J : jJ) : (jPass P J).hr = J.hr + 1 := by
  show (jFold (jCome P) P.N 0 (jFold (jSend P) P.N 0 J)).hr + 1 = _
  rw [jFold_hr (jCome_hr P), jFold_hr (jSend_hr P)]
theorem wfJ.up {P : jQ} {J : jJ} (h : wfJ P J 0) : wfJ P J 1 := ⟨h.tu, fun k hk => by
  rcases h.pa k hk with z | z | ⟨z1, z2, z3⟩
  · exact Or.inl z
  · exact Or.inr (Or.inl z)
  · exact Or.inr (Or.inr ⟨z1, by omega, z3⟩), h.hd⟩
theorem c_pass (d : Nat) {j t : Nat} {w i : Int32} {P : jQ} (hj : jJo j) (ht : jTe t) (hP : wfP P) (σ : jS) (J : jJ) (hE : cE σ j t w i P) (hJ : cJ σ j P J) (hw : wfJ P J 0) (hH : J.hr < 2 ^ 30) :
    ∃ σ', g_Jo_pass (d + 6) j σ = some (none, σ') ∧ jep (cj_S j t) σ σ' ∧ cJ σ' j P (jPass P J) := by
  rw [e_Jo_pass, q_Jo_pass_0]
  obtain ⟨σ1, g1, g2, g3⟩ := c_pass1 d hj ht hP P.N 0 σ J (by omega) hE hJ hw.up hH
  have hw1 := wfJ.fold (f := jSend P) (fun J k hk => wfJ.send hP hk) P.N 0 J (by omega) hw.up
  obtain ⟨σ2, p1, p2, p3⟩ := c_pass4 d hj ht hP P.N 0 σ1 _ (by omega) (hE.fr hj ht g2) g3 hw1 (by rw [jFold_hr (jSend_hr P)]; exact hH)
  have g1' : b_Jo_pass_1 (d + 5) j 0 σ = b_Jo_pass_3 (d + 5) j σ1 := g1
  have p1' : b_Jo_pass_4 (d + 5) j 0 σ1 = some (none, σ2) := p1
  rw [g1', q_Jo_pass_3, p1']
  exact ⟨σ2, rfl, g2.tr p2, p3⟩
noncomputable def jIter (P : jQ) : Nat → jJ → jJ
  | 0, J => J
  | n + 1, J => jIter P n (jPass P J)
theorem jIter_hr (P : jQ) : ∀ (n : Nat) (J : jJ), (jIter P n J).hr = J.hr + n
  | 0, _ => rfl
  | n + 1, J => by
    show (jIter P n (jPass P J)).hr = _
    rw [jIter_hr P n, jPass_hr]; omega
theorem wfJ.iter {P : jQ} (hP : wfP P) : ∀ (n : Nat) (J : jJ), wfJ P J 0 → wfJ P (jIter P n J) 0
  | 0, _, h => h
  | n + 1, J, h => wfJ.iter hP n _ (wfJ.pass hP h)
theorem c_passTo (d : Nat) {j t : Nat} {w i : Int32} {P : jQ} (hj : jJo j) (ht : jTe t) (hP : wfP P) : ∀ (c a e : Nat) (σ : jS) (J : jJ), a + c = e → e < 2 ^ 29 → J.hr + c < 2 ^ 30 → cE σ j t w i P → cJ σ j P J → wfJ P J 0 →
    ∃ σ', b_Jo_passTo_1 (d + 6) j (nI e) (nI a) σ = some (none, σ') ∧ jep (cj_S j t) σ σ' ∧ cJ σ' j P (jIter P c J)
  | 0, a, e, σ, J, ha, he, hH, hE, hJ, hw => by
    rw [q_Jo_passTo_1, jif_t (nI_le (by omega) (by omega)), q_Jo_passTo_2]
    exact ⟨σ, rfl, jep.rf, hJ⟩
  | c + 1, a, e, σ, J, ha, he, hH, hE, hJ, hw => by
    rw [q_Jo_passTo_1, jif_f (nI_ge (by omega) (by omega)), jo_is hj, jc_t]
    obtain ⟨σ1, g1, g2, g3⟩ := c_pass d hj ht hP σ J hE hJ hw (by omega)
    rw [g1, rV_s]
    simp only [Option.bind_some]
    rw [nI_1]
    obtain ⟨σ2, p1, p2, p3⟩ := c_passTo d hj ht hP c (a + 1) e σ1 (jPass P J) (by omega) he (by rw [jPass_hr]; omega) (hE.fr hj ht g2) g3 (wfJ.pass hP hw)
    exact ⟨σ2, p1, g2.tr p2, p3⟩
