/-! 23: serves. -/
theorem carP.u {k A : Nat} {r car hm car' hm' : Nat → Nat} (h : carP k A r car hm) (h' : carP k A r car' hm') : ∀ i, i < k - 2 → car' i ≤ car i := by
  -- every carrier has its number on the other side
  have ex : ∀ i, i < k - 2 → ∃ i', i' < k - 2 ∧ car' i' = car i := fun i hi => by
    obtain ⟨h1, h2, h3, h4⟩ := h.1 i hi
    obtain ⟨i', q1, q2⟩ := h'.2.2 (hm i) h2 h3
    exact ⟨i', q1, by rw [← (h'.1 i' q1).2.2.2, q2, h4]⟩
  -- it is no smaller
  have key : ∀ i, i < k - 2 → ∃ i', i' < k - 2 ∧ car' i' = car i ∧ i ≤ i' := fun i => by
    induction i with
    | zero => intro hi; obtain ⟨i', q1, q2⟩ := ex 0 hi; exact ⟨i', q1, q2, Nat.zero_le _⟩
    | succ i ih =>
      intro hi
      obtain ⟨a, a1, a2, a3⟩ := ih (by omega)
      obtain ⟨b, b1, b2⟩ := ex (i + 1) hi
      refine ⟨b, b1, b2, ?_⟩
      have hlt := h.2.1 i (i + 1) (by omega) hi
      have : a < b := by
        rcases Nat.lt_trichotomy a b with z | z | z
        · exact z
        · subst z; omega
        · have := h'.2.1 b a z a1; omega
      omega
  intro i hi
  obtain ⟨i', q1, q2, q3⟩ := key i hi
  by_cases e : i = i'
  · subst e; omega
  · have := h'.2.1 i i' (by omega) q1; omega
theorem odP_same {t L : Nat} {σ σ' : jS} {r : Nat → Nat} (hE : lawE t σ σ') (h2 : σ'.1 (t + 2) = σ.1 (t + 2)) : odP σ' t L r = odP σ t L r := by
  funext p c
  unfold odP
  rw [h2]
  exact propext (hE.odd _ _ _ _ _)
theorem oc_E {t : Nat} {σ σ' : jS} (ht : jTe t) (h : jep (oc_S t) σ σ') : lawE t σ σ' ∧ σ'.1 (t + 2) = σ.1 (t + 2) ∧ σ'.1 t 0 = σ.1 t 0 ∧ ∀ k r, cRow σ k r → cRow σ' k r := by
  have no : ∀ b j, (t ≤ b ∧ b ≤ t + 14) ∨ b = 69 ∨ b = 70 → ¬ oc_S t b j := fun b j h1 q => by
    unfold oc_S at q
    rcases ht with rfl | rfl <;> omega
  exact ⟨lawE.of_jep h (fun b j h1 h2 => no b j (by omega)), h.cellI (fun j => no _ j (by omega)), (h t 0 (no _ _ (by omega))).1, fun k r hR => hR.fr h (fun b j h1 => no b j (by omega))⟩
/-- the best of all orders, and this one -/
noncomputable def bst (σ : jS) (t k : Nat) (r car : Nat → Nat) (C : Nat) : Nat := xN (fun s => arN (odP σ t 4 (rF k r car s)) (k - 2) 1 C) (PL (k - 2) (k - 2) 0)
noncomputable def arv (σ : jS) (t k : Nat) (r : Nat → Nat) (C : Nat) : Nat := arN (odP σ t 4 r) (k - 2) 1 C
theorem bM_bst {σ1 σ' : jS} {t k A C : Nat} {r car hm car' hm' : Nat → Nat} (hE : lawE t σ1 σ') (h2 : σ'.1 (t + 2) = σ1.1 (t + 2)) (hk : 2 ≤ k) (hk10 : k ≤ 10) (hA : A ≤ 10) (hcp : carP k A r car hm) (hcp' : carP k A r car' hm') (hrA : ∀ j, j < k → r j < A) (hrk : ∀ i j, i < j → j < k → r i ≠ r j) : bM (hdC σ' t k C r car') (k - 2) C = bst σ1 t k r car C := xN_cong _ (fun s hs => by
  obtain ⟨hl, hsi, -⟩ := path_f hk hk10 hA hcp hrA hrk hs
  have er : rF k r car' s = rF k r car s := by
    funext i
    unfold rF
    by_cases z : i = 0
    · rw [if_pos z, if_pos z]
    · rw [if_neg z, if_neg z]
      by_cases z2 : i ≤ k - 2
      · have hi := hsi (i - 1) (by omega)
        have e1 := hcp.u hcp' _ hi
        have e2 := hcp'.u hcp _ hi
        rw [if_pos z2, if_pos z2]
        omega
      · rw [if_neg z2, if_neg z2]
  show AR (hdC σ' t k C r car') (k - 2) 0 0 C s = _
  rw [AR_path hk hk10 hA hcp' hrA hrk hs, er, odP_same hE h2])
theorem bst_ce {σ : jS} {t k C : Nat} {r car : Nat → Nat} : bst σ t k r car C ≤ (C + 2 ^ (k - 2) - 1) / 2 ^ (k - 2) := xN_bound _ (fun s => arN_up _ _ _ _ _ (div_ce (Nat.two_pow_pos (k - 2))).2.2.1)
theorem c_outdone (d : Nat) {t k A C N : Nat} {car hm : Nat → Nat} (hA : A ≤ 10) (hC : C ≤ 999999) (σ1 : jS) (g1 : jInv σ1 t) (a1 : σ1.1 t 0 = nI A) (hR : cRow σ1 k (nib N)) (hP : rowP N k A) (hcp : carP k A (nib N) car hm) (σ : jS) (hS : jep (oc_S t) σ1 σ) :
    ∃ σ', g_HH_isOutdone (d + 7) (nI C) σ = some (some (.int (b2i (arv σ1 t k (nib N) C < bst σ1 t k (nib N) car C))), σ') ∧ jep (oc_S t) σ1 σ' := by
  have ht := g1.1
  have hk := hR.1
  have hk10 := hR.2.1
  obtain ⟨E, e2, e0, eR⟩ := oc_E ht hS
  have g := g1.scr (hS.mono (fun b j h => oc_scr ht h))
  obtain ⟨σa, p1, p2⟩ := c_arv (d + 1) (σ0 := σ1) ht 4 (by omega) k (nib N) (nI C) σ (eR _ _ hR) g.law.W E e2
  rw [arr_N _ _ _ (by omega)] at p1
  have p1' : g_Rw_arriving (d + 6) t 4 (nI C) σ = some (some (.int (nI (arv σ1 t k (nib N) C))), σa) := p1
  have Sa : jep (oc_S t) σ1 σa := hS.tr (jep.of p2 (fun b j h => Or.inr h))
  obtain ⟨Ea, ea2, ea0, eaR⟩ := oc_E ht Sa
  have ga := g1.scr (Sa.mono (fun b j h => oc_scr ht h))
  have hRa := eaR _ _ hR
  have hle : arv σ1 t k (nib N) C ≤ C := arN_le _ _ _ _
  have hce := bst_ce (σ := σ1) (t := t) (k := k) (C := C) (r := nib N) (car := car)
  obtain ⟨d1, d2, d3, d4⟩ := div_ce (C := C) (Nat.two_pow_pos (k - 2))
  have hfl : C / 2 ^ (k - 2) ≤ C := Nat.div_le_self _ _
  rw [e_HH_isOutdone, q_HH_isOutdone_0, g.2.1, p1', rI_s]
  simp only [Option.bind_some]
  rw [c_carriers (d + 5) k (nib N) σa hRa, rI_s]
  simp only [Option.bind_some]
  rw [c_ceiling (d + 5) hC (by omega), rI_s]
  simp only [Option.bind_some]
  by_cases h : arv σ1 t k (nib N) C = (C + 2 ^ (k - 2) - 1) / 2 ^ (k - 2)
  · rw [jif_t (congrArg nI h), b2i_f (by omega)]
    exact ⟨σa, rfl, Sa⟩
  · rw [jif_f (fun z => h (nI_inj (by omega) (by omega) z)), q_HH_isOutdone_1, ga.2.1]
    obtain ⟨σb, car', hm', q1, q2, q3, q4, q5⟩ := ord_t d hA hC σa ga (ea0.trans a1) hRa hP
    rw [q1, rV_s]
    simp only [Option.bind_some]
    obtain ⟨σc, u1, u2⟩ := c_most d hk10 hC (two_1 (σ := σa) (t := t) (C := C) hk hk10 hA q5 hP.1 hP.2) σb q4
    have u1' : g_Or_mostArriving (d + 6) σb = some (some (.int (nI (bst σ1 t k (nib N) car C))), σc) := by
      rw [← bM_bst (C := C) Ea ea2 hk hk10 hA hcp q5 hP.1 hP.2]
      exact u1
    rw [u1', rI_s]
    simp only [Option.bind_some]
    refine ⟨σc, ?_, (Sa.tr q2).tr (u2.mono (fun b j h => or_oc (so_or h)))⟩
    by_cases z : bst σ1 t k (nib N) car C ≤ arv σ1 t k (nib N) C
    · rw [jif_t (nI_le z (by omega)), q_HH_isOutdone_2, q_HH_isOutdone_3, b2i_f (by omega)]
      rfl
    · rw [jif_f (nI_ge (by omega) (by omega)), q_HH_isOutdone_3, b2i_t (by omega)]
      rfl
noncomputable def svN (P : Nat → Prop) : Nat → Nat → Int32
  | 0, _ => 0
  | n + 1, c => @ite _ (P c) (Classical.propDecidable _) (nI c) (svN P n (c + 1))
theorem c_serves_l (d : Nat) {t k A L N : Nat} {car hm : Nat → Nat} (hA : A ≤ 10) (hL : L ≤ 50) (σ1 : jS) (g1 : jInv σ1 t) (a1 : σ1.1 t 0 = nI A) (hR : cRow σ1 k (nib N)) (hP : rowP N k A) (hcp : carP k A (nib N) car hm) : ∀ (n c : Nat) (σ : jS), c + n = L + 1 → jep (oc_S t) σ1 σ →
    ∃ σ', b_HH_serves_3 (d + 7) (nI L) (nI c) σ = some (some (.int (svN (fun C => arv σ1 t k (nib N) C < bst σ1 t k (nib N) car C) n c)), σ') ∧ jep (oc_S t) σ1 σ'
  | 0, c, σ, hc, hS => by
    rw [q_HH_serves_3, jif_t (nI_lt (by omega) (by omega)), q_HH_serves_5]
    exact ⟨σ, rfl, hS⟩
  | n + 1, c, σ, hc, hS => by
    obtain ⟨σ', p1, p2⟩ := c_outdone d (C := c) hA (by omega) σ1 g1 a1 hR hP hcp σ hS
    rw [q_HH_serves_3, jif_f (nI_nlt (by omega) (by omega)), p1, rI_s]
    simp only [Option.bind_some]
    unfold svN
    by_cases h : arv σ1 t k (nib N) c < bst σ1 t k (nib N) car c
    · rw [b2i_t h, jif_f (by decide), if_pos h]
      exact ⟨σ', rfl, p2⟩
    · rw [b2i_f h, jif_t rfl, q_HH_serves_4, nI_1, if_neg h]
      exact c_serves_l d hA hL σ1 g1 a1 hR hP hcp n (c + 1) σ' (by omega) p2
theorem m_serves_l (d : Nat) {t k A L N : Nat} {car hm : Nat → Nat} (hA : A ≤ 10) (hL : L ≤ 50) (hk : 2 ≤ k) (hk10 : k ≤ 10) (σ1 : jS) (hP : rowP N k A) (hcp : carP k A (nib N) car hm) : ∀ (n c : Nat) (σ : jS), c + n = L + 1 → jInv σ t → σ.1 86 32 = nI 0 → mB σ1 σ t A → mRow σ k (nib N) →
    ∃ σ', b_M_serves_3 (d + 16) (nI L) (nI c) σ = some (some (.int (svN (fun C => arv σ1 t k (nib N) C < bst σ1 t k (nib N) car C) n c)), σ') ∧ jInv σ' t
  | 0, c, σ, hc, g, h32, hB, hR => by
    rw [q_M_serves_3, jif_t (nI_lt (by omega) (by omega)), q_M_serves_5]
    exact ⟨σ, rfl, g⟩
  | n + 1, c, σ, hc, g, h32, hB, hR => by
    have ht := g.1
    obtain ⟨σ5, b1, c1, b2, c2, c3, c4, r1, r2, r3, r4⟩ := m_goesThrough d (σc := σ1) (task := 0) (w := 0) (aim := -1) (wt := -1) (C := c) ht hk hk10 hA (by omega) hcp hP.1 hP.2 (by omega) (fun z => absurd z (by decide)) σ g.law h32 hB hR
    have r1' : g_M_goesThrough (d + 16) (nI c) (-1) 0 (-1) σ = some (none, σ5) := r1
    have v59 := (see_0 hk hk10 (show c ≤ 999999 by omega) r4).1
    rw [bM_bst (σ1 := σ1) (σ' := σ1) (C := c) ⟨rfl, rfl, rfl, rfl, rfl⟩ rfl hk hk10 hA hcp hcp hP.1 hP.2] at v59
    have g5 := g.scr (r2.mono (fun b j h => gt_scr ht h))
    have h325 : σ5.1 86 32 = nI 0 := by rw [(r2 86 32 (fun q => by unfold gt_S ms_S at q; omega)).1]; exact h32
    have hB5 : mB σ1 σ5 t A := hB.fr r2 (fun b j h q => by unfold gt_S ms_S at q; rcases ht with rfl | rfl <;> omega)
    obtain ⟨σ6, p1, p2, -⟩ := m_snd (d + 11) (σ0 := σ1) (A := A) ht k (nib N) (nI c) σ5 r3 hP.1 g5.law h325 hB5
    rw [arr_N _ _ _ (by omega)] at p1
    have p1' : g_M_sends (d + 16) (nI c) σ5 = some (some (.int (nI (arv σ1 t k (nib N) c))), σ6) := p1
    have g6 := g5.scr (p2.mono (fun b j h => ms_scr ht h))
    have hle : arv σ1 t k (nib N) c ≤ c := arN_le _ _ _ _
    have hce := bst_ce (σ := σ1) (t := t) (k := k) (C := c) (r := nib N) (car := car)
    obtain ⟨d1, d2, d3, d4⟩ := div_ce (C := c) (Nat.two_pow_pos (k - 2))
    have hfl : c / 2 ^ (k - 2) ≤ c := Nat.div_le_self _ _
    rw [q_M_serves_3, jif_f (nI_nlt (by omega) (by omega)), r1', rV_s]
    simp only [Option.bind_some]
    rw [p1', rI_s]
    simp only [Option.bind_some]
    rw [v59]
    unfold svN
    by_cases h : arv σ1 t k (nib N) c < bst σ1 t k (nib N) car c
    · rw [jif_f (nI_ge h (by omega)), if_pos h]
      exact ⟨σ6, rfl, g6⟩
    · rw [jif_t (nI_le (by omega) (by omega)), q_M_serves_4, nI_1, if_neg h]
      exact m_serves_l d hA hL hk hk10 σ1 hP hcp n (c + 1) σ6 (by omega) g6 (by rw [(p2 86 32 (fun q => by unfold ms_S at q; omega)).1]; exact h325) (hB5.fr p2 (fun b j h q => by unfold ms_S at q; rcases ht with rfl | rfl <;> omega)) (r3.fr p2 (fun b j h q => by unfold ms_S at q; omega))
theorem op_serves (d : Nat) (n y : Int32) (code : Int64) (σ : jS) (t : Nat) (g : jInv σ t) : opI (g_HH_serves (d + 18) n code y) (g_M_serves (d + 18) n code y) σ := by
  obtain ⟨N, hN, rfl⟩ := wb_of code
  obtain ⟨A, σ1, hA, a1, g1, c1, c3⟩ := back_begin (d + 14) n y hN σ t g
  have ht := g.1
  have mm : ∀ σe, jep (oc_S t) σ1 σe → ∃ σ3 σ4, g_M_plain (d + 17) (j_setI σe 86 0 0) = some (none, σ3) ∧ jInv σ3 t ∧ g_M_takes (d + 17) n (lN N) σ3 = some (some (.int (b2i (rowOK N n A))), σ4) ∧ jInv σ4 t ∧ mB σ1 σ4 t A ∧ σ4.1 86 32 = nI 0 ∧ (rowOK N n A → ∃ k, n = nI k ∧ mRow σ4 k (nib N)) := fun σe hS => by
    have ge := g1.scr (hS.mono (fun b j h => oc_scr ht h))
    obtain ⟨E, e2, e0, -⟩ := oc_E ht hS
    obtain ⟨σ3, q1, q2, q3, q4⟩ := m_plain0 (d + 16) σe
    have g3 := ge.scr (q2.mono (fun b j h => mp_scr ht h))
    have no : ∀ b j, t ≤ b → b ≤ t + 14 → ¬ mp_S b j := fun b j h1 h2 q => by
      unfold mp_S at q
      rcases ht with rfl | rfl <;> omega
    have E3 : lawE t σ1 σ3 := E.tr (lawE.of_jep q2 (fun b j h1 h2 => no b j (by omega) h2))
    have e3 : σ3.1 (t + 2) = σ1.1 (t + 2) := (q2.cellI (fun j => no _ j (by omega) (by omega))).trans e2
    have t3 : σ3.1 t 0 = nI A := by rw [(q2 t 0 (no _ _ (by omega) (by omega))).1, e0]; exact a1
    obtain ⟨σ4, m1, m2, m3, m4, m5⟩ := m_takesB (d + 15) (σc := σ1) n hN σ3 g3 t3 hA q3 E3 e3
    exact ⟨σ3, σ4, q1, g3, m1, m3, m4, by rw [(m2 86 32 (fun q => by unfold mt_S at q; omega)).1]; exact q4, m5⟩
  by_cases h : rowOK N n A ∧ 1 ≤ y ∧ y ≤ 50
  · obtain ⟨k, e1, hR⟩ := c3 h.1
    have hk := hR.1
    have hk10 := hR.2.1
    subst e1
    obtain ⟨k', x1, x2, x3, hP⟩ := id h.1
    have ek : k' = k := nI_inj (by omega) (by omega) x3.symm
    subst ek
    obtain ⟨L, hL, rfl⟩ := in_nI (M := 50) (x := y) rfl (by omega) ⟨Int32.le_trans (by decide) h.2.1, h.2.2⟩
    obtain ⟨-, car, hm, -, -, -, -, hcp⟩ := ord_t 0 (C := 0) hA (by omega) σ1 g1 a1 hR hP
    obtain ⟨σe, p1, p2⟩ := c_serves_l (d + 10) hA hL σ1 g1 a1 hR hP hcp L 1 σ1 (by omega) jep.rf
    obtain ⟨σ3, σ4, m1, m2, m3, m4, m5, m6, m7⟩ := mm σe p2
    obtain ⟨k2, e2, hRm⟩ := m7 h.1
    have ek2 : k' = k2 := nI_inj (by omega) (by have := hRm.2.1; omega) e2
    subst ek2
    obtain ⟨σ5, v1, v2⟩ := m_serves_l (d + 1) hA hL hk hk10 σ1 hP hcp L 1 σ4 (by omega) m4 m6 m5 hRm
    refine ⟨svN (fun C => arv σ1 t k' (nib N) C < bst σ1 t k' (nib N) car C) L 1, σe, σ5, t, ?_, ?_, v2⟩
    · show g_HH_serves (d + 18) (nI k') (lN N) (nI L) σ = _
      rw [e_HH_serves, q_HH_serves_0, c1, rI_s]
      simp only [Option.bind_some]
      rw [b2i_t h.1, jif_f (by decide), c_within, rI_s]
      simp only [Option.bind_some]
      rw [if_pos h.2, jif_f (by decide), q_HH_serves_2]
      exact p1
    · show g_M_serves (d + 18) (nI k') (lN N) (nI L) σe = _
      rw [e_M_serves, q_M_serves_0, m1, rV_s]
      simp only [Option.bind_some]
      rw [jif_f (Int32.not_lt.mpr h.2.1), jif_f (Int32.not_lt.mpr h.2.2), m3, rI_s]
      simp only [Option.bind_some]
      rw [b2i_t h.1, jif_f (by decide), q_M_serves_2]
      exact v1
  · obtain ⟨σ3, σ4, m1, m2, m3, m4, -⟩ := mm σ1 jep.rf
    have hC0 : g_HH_serves (d + 18) n (lN N) y σ = some (some (.int (-1)), σ1) := by
      rw [e_HH_serves, q_HH_serves_0, c1, rI_s]
      simp only [Option.bind_some]
      by_cases h1 : rowOK N n A
      · rw [b2i_t h1, jif_f (by decide), c_within, rI_s]
        simp only [Option.bind_some]
        rw [if_neg (fun h3 => h ⟨h1, h3⟩), jif_t rfl, q_HH_serves_1]
      · rw [b2i_f h1, jif_t rfl, q_HH_serves_1]
    have hM0 : ∃ σ5, g_M_serves (d + 18) n (lN N) y σ1 = some (some (.int (-1)), σ5) ∧ jInv σ5 t := by
      rw [e_M_serves, q_M_serves_0, m1, rV_s]
      simp only [Option.bind_some]
      by_cases b1 : y < 1
      · rw [jif_t b1, q_M_serves_1]; exact ⟨_, rfl, m2⟩
      rw [jif_f b1]
      by_cases b2 : 50 < y
      · rw [jif_t b2, q_M_serves_1]; exact ⟨_, rfl, m2⟩
      rw [jif_f b2, m3, rI_s]
      simp only [Option.bind_some]
      rw [b2i_f (fun h1 => h ⟨h1, Int32.not_lt.mp b1, Int32.not_lt.mp b2⟩), jif_t rfl, q_M_serves_1]
      exact ⟨_, rfl, m4⟩
    obtain ⟨σ5, v1, v2⟩ := hM0
    exact ⟨-1, σ1, σ5, t, hC0, v1, v2⟩
