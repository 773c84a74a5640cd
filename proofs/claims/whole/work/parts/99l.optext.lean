/-! 1: text, the call, whole. -/
theorem tc_hi {u b j : Nat} (hu : jTe u) (hb : 39 ≤ b) : ¬ tcS u b j := fun q => by
  have := te_r hu
  unfold tcS lcS rd_S at q; omega
theorem tm_lo {b j : Nat} (hb : b < 86) : ¬ tmS b j := fun q => by unfold tmS lmS at q; omega
theorem me_lo {b j : Nat} (hb : b < 86) : ¬ me_S b j := fun q => by unfold me_S mc_S at q; omega
theorem op_text (d : Nat) (n : Int32) (σ : jS) (t : Nat) (g : jInv σ t) : opI (g_HH_text (d + 136) n) (g_M_text (d + 136) n) σ := by
  obtain ⟨ht, r2, r3, hTp, hF, -⟩ := id g
  obtain ⟨hW, T, t1, t2, t3, t4⟩ := hTp
  by_cases hin : 0 ≤ n ∧ n ≤ nI T
  · obtain ⟨c, hc, rfl⟩ : ∃ c, c ≤ T ∧ n = nI c := by
      obtain ⟨j, hj, rfl⟩ := nI_of (x := n) (Int32.not_lt.mpr hin.1)
      exact ⟨j, (nI_leI hj (by omega)).mp hin.2, rfl⟩
    obtain ⟨u, hu⟩ : ∃ u, u = 21 - t := ⟨_, rfl⟩
    have hut : jTe u := by
      rcases ht with rfl | rfl
      · subst hu; exact Or.inr rfl
      · subst hu; exact Or.inl rfl
    have hr := te_r hut
    rw [← hu] at r3
    obtain ⟨B, hBd⟩ : ∃ B : Nat → Nat, B = fun i => if i < c then (σ.1 1 i).toNatClampNeg else 0 := ⟨_, rfl⟩
    have hB : BY σ 1 B c := ⟨by omega, fun i hi => by
      obtain ⟨-, b, b1, b2⟩ := t4 i (by omega)
      have : B i = b := by rw [hBd]; show (if i < c then (σ.1 1 i).toNatClampNeg else 0) = b; rw [if_pos hi, b2, nI_clamp (by omega)]
      rw [this]; exact ⟨b2, b1⟩⟩
    have hg : B (c + 1) = 0 := by rw [hBd]; exact if_neg (by omega)
    have hC : g_HH_text (d + 136) (nI c) σ = b_HH_text_2 (d + 135) (nI c) σ := by
      rw [e_HH_text, q_HH_text_0, jif_f (nI_pos (by omega)), t2, jif_t (nI_le hc (by omega))]
    have hM : ∀ τ0 : jS, τ0.1 86 2 = nI T → g_M_text (d + 136) (nI c) τ0 = b_M_text_2 (d + 135) (nI c) (j_setI τ0 86 0 0) := fun τ0 h => by
      rw [e_M_text, q_M_text_0, jif_f (nI_pos (by omega)), setI_nk (by omega), h, jif_t (nI_le hc (by omega))]
    have sim : ∀ τ0 : jS, (∀ i, τ0.1 87 i = σ.1 87 i) → TS (b_HH_text_2 (d + 135) (nI c) σ) (b_M_text_2 (d + 135) (nI c) (j_setI τ0 86 0 0)) σ (j_setI τ0 86 0 0) u (d + 135) (d + 135) := fun τ0 h => t_text (d + 33) (d + 2) hut (by omega) hB ⟨by omega, fun i hi => by rw [setI_ne (by omega), h, ← (t4 i (by omega)).1]; exact hB.2 i hi⟩ hW hg r3
    have refs : ∀ σ' : jS, jep (tcS u) σ σ' → σ'.2.2 0 2 = t ∧ σ'.2.2 0 3 = u := fun σ' q => ⟨by rw [(q 0 2 (fun z => by unfold tcS lcS rd_S at z; omega)).2.2]; exact r2, by rw [(q 0 3 (fun z => by unfold tcS lcS rd_S at z; omega)).2.2]; exact r3⟩
    have bad : ∀ (σ' : jS) (N k pl : Nat), 1 ≤ k → k ≤ 5 → rdF σ' k pl → b_HH_text_4 (d + 135) (nI N) σ' = some (some (.int (-1)), j_setI (j_setI σ' 0 5 (nI k)) 0 6 (nI pl)) := fun σ' N k pl k1 k5 f => by
      rw [q_HH_text_4, f.1, show (j_setI σ' 0 5 (nI k)).1 36 1 = nI pl from (setI_ne (by omega)).trans f.2, jif_f]
      rw [setI_nk (by omega), setI_same]
      exact fun z => by have := nI_inj (b := 0) (by omega) (by omega) z; omega
    -- what the class comes to
    obtain ⟨r, σ1, cR, cJ⟩ : ∃ r σ1, b_HH_text_2 (d + 135) (nI c) σ = some (some (.int r), σ1) ∧ jep (fun b j => tcS u b j ∨ ce_S b j) σ σ1 := by
      obtain ⟨σ', τ', N, c1, -, c3, -, -, -, alt⟩ := sim σ (fun _ => rfl)
      rcases alt with ⟨A, Pt, M', W, a1, a2, -, -, a5, -, -⟩ | ⟨k, pl, k1, k2, a1, -⟩
      · obtain ⟨σ1, e1, e2, -⟩ := c_tend (d + 131) hut a5.2.1 (nI N) σ' a1 a2 (refs σ' c3).1 (refs σ' c3).2 a5.2.2.2.2.2.1
        exact ⟨nI N, σ1, by rw [c1]; exact e1, (c3.mono (fun b j q => Or.inl q)).tr (e2.mono (fun b j q => Or.inr q))⟩
      · have J0 : jep (fun b j => tcS u b j ∨ ce_S b j) σ σ' := c3.mono (fun b j q => Or.inl q)
        exact ⟨-1, j_setI (j_setI σ' 0 5 (nI k)) 0 6 (nI pl), by rw [c1]; exact bad σ' N k pl k1 k2 a1, (J0.sI (a := 0) (k := 5) (Or.inr (Or.inl ⟨rfl, by omega⟩))).sI (a := 0) (k := 6) (Or.inr (Or.inl ⟨rfl, by omega⟩))⟩
    have hi : ∀ b j, 86 ≤ b → σ1.1 b j = σ.1 b j := fun b j q => (cJ b j (fun z => by
      rcases z with z | z
      · exact tc_hi hut (by omega) z
      · unfold ce_S at z; omega)).1
    obtain ⟨σ', τ', N, c1, c2, c3, c4, c5, c6, alt⟩ := sim σ1 (fun i => hi 87 i (by omega))
    have hM1 := hM σ1 (by rw [hi 86 2 (by omega)]; exact t3)
    rcases alt with ⟨A, Pt, M', W, a1, a2, a3, a4, a5, a6, a7⟩ | ⟨k, pl, k1, k2, a1, a2⟩
    · obtain ⟨σ1', e1, e2, e3, e4, e5, e6, e7, e8, e9, e10, e11, e12, e13, e14, e15⟩ := c_tend (d + 131) hut a5.2.1 (nI N) σ' a1 a2 (refs σ' c3).1 (refs σ' c3).2 a5.2.2.2.2.2.1
      have eq : some (some (Value.int r), σ1) = some (some (Value.int (nI N)), σ1') := by rw [← cR, c1]; exact e1
      injection eq with eq
      injection eq with eq1 eq2
      subst eq2
      obtain ⟨τ2, f1, f2, f3, f4, f5, f6, f7, f8, f9, f10, f11, f12, f13⟩ := m_tend (d + 132) a5.1 a5.2.1 τ' a3 a4 a5.2.2.2.2.1 a5.2.2.2.2.2.2.1
      have lo : ∀ b j, b < 86 → τ2.1 b j = σ1.1 b j ∧ τ2.2.2 b j = σ1.2.2 b j := fun b j q => by
        obtain ⟨z1, -, z3⟩ := f2 b j (me_lo q)
        obtain ⟨y1, -, y3⟩ := c4 b j (tm_lo q)
        exact ⟨by rw [z1, y1, setI_ne (by omega)], by rw [z3, y3]; rfl⟩
      have s01 : σ1.1 0 1 = 0 := by rw [(e2 0 1 (fun q => by unfold ce_S at q; omega)).1]; exact c5
      have hW1 : iWords σ1 := fun i hi' => by
        rw [(e2 38 i (fun q => by unfold ce_S at q; omega)).1, (c3 38 i (fun q => by unfold tcS lcS rd_S at q; omega)).1]; exact hW i hi'
      refine ⟨nI N, σ1, τ2, u, ?_, ?_, jInv_text ht hu hW1 a5 a6 (fun b j q1 q2 => ?_) lo e3 e4 e5 e6 e7 e8 e9 e10 e11 e12 e13 e14 e15 s01 ?_ f3 f4 f5 f6 f7 f8 f9 f10 f11 f12 f13⟩
      · show g_HH_text (d + 136) (nI c) σ = _
        rw [hC, c1]; exact e1
      · show g_M_text (d + 136) (nI c) σ1 = _
        rw [hM1, c2, ← a7]; exact f1
      · rw [(lo b j (by omega)).1, (e2 b j (fun q => by unfold ce_S at q; omega)).1]
      · rw [(f2 86 2 (fun q => by unfold me_S mc_S at q; omega)).1]; exact c6
    · have e1 := bad σ' N k pl k1 k2 a1
      have eq : some (some (Value.int r), σ1) = some (some (Value.int (-1)), j_setI (j_setI σ' 0 5 (nI k)) 0 6 (nI pl)) := by rw [← cR, c1]; exact e1
      injection eq with eq
      injection eq with eq1 eq2
      have hf := a2.ne k1 k2
      have f1 : b_M_text_8 (d + 135) τ' = some (some (.int (-1)), j_setI (j_setI τ' 86 25 (nI k)) 86 26 (nI pl)) := by
        rw [q_M_text_8, a2.1, show (j_setI τ' 86 25 (nI k)).1 86 24 = nI pl from (setI_nk (by omega)).trans a2.2, jif_f]
        rw [setI_nk (by omega), setI_nk (by omega)]
        exact hf
      have J1 : jep (tf_S (21 - t)) σ σ1 := by
        rw [eq2, ← hu]
        have J0 : jep (tf_S u) σ σ' := c3.mono (fun b j q => Or.inl q)
        exact (J0.sI (a := 0) (k := 5) (Or.inr (Or.inr (Or.inl ⟨rfl, by omega⟩)))).sI (a := 0) (k := 6) (Or.inr (Or.inr (Or.inl ⟨rfl, by omega⟩)))
      have J2 : jep (tf_S (21 - t)) σ1 (j_setI (j_setI τ' 86 25 (nI k)) 86 26 (nI pl)) := (((jep.rf.sI (S := tf_S (21 - t)) (Or.inr (Or.inl (Or.inr ⟨rfl, Or.inl rfl⟩)))).tr (c4.mono (fun b j q => Or.inr (Or.inl q)))).sI (Or.inr (Or.inr (Or.inr ⟨rfl, by omega⟩)))).sI (Or.inr (Or.inr (Or.inr ⟨rfl, by omega⟩)))
      have lo : ∀ b j, b < 86 → (j_setI (j_setI τ' 86 25 (nI k)) 86 26 (nI pl)).1 b j = σ1.1 b j := fun b j q => by
        rw [setI_ne (by omega), setI_ne (by omega), (c4 b j (tm_lo q)).1, setI_ne (by omega)]
      refine ⟨-1, σ1, j_setI (j_setI τ' 86 25 (nI k)) 86 26 (nI pl), t, ?_, ?_, g.tf (J1.tr J2) ⟨fun i hi' => ?_, 0, by omega, ?_, ?_, fun i hi' => absurd hi' (by omega)⟩ ⟨?_, ?_⟩⟩
      · show g_HH_text (d + 136) (nI c) σ = _
        rw [hC, cR, eq1]
      · show g_M_text (d + 136) (nI c) σ1 = _
        rw [hM1, c2]; exact f1
      · rw [lo 38 i (by omega), eq2, setI_ne (by omega), setI_ne (by omega), (c3 38 i (fun q => by unfold tcS lcS rd_S at q; omega)).1]; exact hW i hi'
      · rw [lo 0 1 (by omega), eq2, setI_nk (by omega), setI_nk (by omega), c5]; rfl
      · rw [setI_nk (by omega), setI_nk (by omega), c6]; rfl
      · rw [lo 0 5 (by omega), eq2, setI_nk (by omega), setI_same, setI_nk (by omega), setI_same]
      · rw [lo 0 6 (by omega), eq2, setI_same, setI_same]
  · refine ⟨-2, σ, j_setI σ 86 0 0, t, ?_, ?_, g.th 0⟩
    · show g_HH_text (d + 136) n σ = _
      rw [e_HH_text, q_HH_text_0, t2, q_HH_text_1]
      by_cases h0 : n < 0
      · rw [jif_t h0]
      · rw [jif_f h0, jif_f (fun z => hin ⟨Int32.not_lt.mp h0, z⟩)]
    · show g_M_text (d + 136) n σ = _
      rw [e_M_text, q_M_text_0, setI_nk (by omega), t3, q_M_text_1]
      by_cases h0 : n < 0
      · rw [jif_t h0]
      · rw [jif_f h0, jif_f (fun z => hin ⟨Int32.not_lt.mp h0, z⟩)]
