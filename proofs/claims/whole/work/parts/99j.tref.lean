/-! 1: text. -/
def me_S : Nat → Nat → Prop := fun b k => (88 ≤ b ∧ b ≤ 101 ∧ k < hlf b) ∨ (b = 86 ∧ (k = 25 ∨ k = 26 ∨ (30 ≤ k ∧ k ≤ 32) ∨ k = 36 ∨ k = 48 ∨ k = 69 ∨ k = 70)) ∨ (104 ≤ b ∧ b ≤ 106) ∨ mc_S 0 b k
theorem m_tend (d : Nat) {A Pt : Nat} (hA : A ≤ 10) (hP : Pt ≤ 12) (τ : jS) (h23 : τ.1 86 23 = 0) (h24 : τ.1 86 24 = -1) (h88 : τ.1 88 4 = nI A) (h5 : τ.1 88 5 = nI Pt) : ∃ τ', b_M_text_8 (d + 3) τ = some (some (.int (τ.1 86 17)), τ') ∧ jep me_S τ τ' ∧ τ'.1 86 25 = 0 ∧ τ'.1 86 26 = -1 ∧ τ'.1 86 69 = 0 ∧ τ'.1 86 70 = -1 ∧ τ'.1 86 48 = 0 ∧ τ'.1 86 36 = nI Pt ∧ (∀ b k, 88 ≤ b → b ≤ 101 → k < hlf b → τ'.1 b k = τ.1 b (hlf b + k)) ∧ (∀ k, k < Pt → τ'.1 104 k = τ.1 94 (12 + k) ∧ τ'.1 105 k = τ.1 95 (12 + k) ∧ τ'.1 106 k = τ.1 96 (12 + k)) ∧ τ'.1 107 0 = 0 ∧ (∀ p, p < A → τ'.1 108 p = τ.1 91 (10 + p) ∧ τ'.1 109 p = 0) ∧ ∀ k, k < 30 → τ'.1 110 k = 0 ∧ τ'.1 111 k = 0 ∧ τ'.1 112 k = 0 ∧ τ'.1 113 k = -1 := by
  obtain ⟨τa, hτa⟩ : ∃ t, t = j_setI (j_setI τ 86 25 0) 86 26 (-1) := ⟨_, rfl⟩
  have ea : ∀ b j, ¬ (b = 86 ∧ (j = 25 ∨ j = 26)) → τa.1 b j = τ.1 b j := fun b j q => by rw [hτa, setI_get, if_neg (by omega), setI_get, if_neg (by omega)]
  have H0 : Hf 0 τa τa := ⟨jep.rf, fun b k h1 h2 => absurd h2 (by omega)⟩
  obtain ⟨τ1, a0, H1⟩ := H0.s (d + 2) (by omega)
  obtain ⟨τ2, a1, H2⟩ := H1.s (d + 2) (by omega)
  obtain ⟨τ3, a2, H3⟩ := H2.s (d + 2) (by omega)
  obtain ⟨τ4, a3, H4⟩ := H3.s (d + 2) (by omega)
  obtain ⟨τ5, a4, H5⟩ := H4.s (d + 2) (by omega)
  obtain ⟨τ6, a5, H6⟩ := H5.s (d + 2) (by omega)
  obtain ⟨τ7, a6, H7⟩ := H6.s (d + 2) (by omega)
  obtain ⟨τ8, a7, H8⟩ := H7.s (d + 2) (by omega)
  obtain ⟨τ9, a8, H9⟩ := H8.s (d + 2) (by omega)
  obtain ⟨τ10, a9, H10⟩ := H9.s (d + 2) (by omega)
  obtain ⟨τ11, a10, H11⟩ := H10.s (d + 2) (by omega)
  obtain ⟨τ12, a11, H12⟩ := H11.s (d + 2) (by omega)
  obtain ⟨τ13, a12, H13⟩ := H12.s (d + 2) (by omega)
  obtain ⟨τ14, a13, H14⟩ := H13.s (d + 2) (by omega)
  have eh : ∀ b j, ¬ (88 ≤ b ∧ b ≤ 101) → τ14.1 b j = τa.1 b j := fun b j q => (H14.1 b j (fun z => q ⟨z.1, by omega⟩)).1
  have vh : ∀ b k, 88 ≤ b → b ≤ 101 → k < hlf b → τ14.1 b k = τ.1 b (hlf b + k) := fun b k q1 q2 q3 => by rw [H14.2 b k q1 (by omega) q3, ea _ _ (by omega)]
  obtain ⟨τb, hτb⟩ : ∃ t, t = j_setI (j_setI (j_setI τ14 86 69 0) 86 70 (-1)) 86 48 0 := ⟨_, rfl⟩
  have eb : ∀ b j, ¬ (b = 86 ∧ (j = 48 ∨ j = 69 ∨ j = 70)) → τb.1 b j = τ14.1 b j := fun b j q => by rw [hτb, setI_get, if_neg (by omega), setI_get, if_neg (by omega), setI_get, if_neg (by omega)]
  have b81 : τb.1 88 1 = nI Pt := by rw [eb _ _ (by omega), vh 88 1 (by omega) (by omega) (show 1 < 4 by omega)]; exact h5
  obtain ⟨τc, hτc⟩ : ∃ t, t = j_setI τb 86 36 (nI Pt) := ⟨_, rfl⟩
  have ec : ∀ b j, ¬ (b = 86 ∧ j = 36) → τc.1 b j = τb.1 b j := fun b j q => by rw [hτc, setI_get, if_neg q]
  obtain ⟨τd, g1, g2, g3⟩ := m_copy_l (d + 3) hP Pt 0 τc (by omega) (by rw [hτc, setI_same])
  obtain ⟨τe, hτe⟩ : ∃ t, t = j_setI (j_setI (j_setI τd 86 30 (-1)) 86 31 (-1)) 86 32 0 := ⟨_, rfl⟩
  have ee : ∀ b j, ¬ (b = 86 ∧ 30 ≤ j ∧ j ≤ 32) → τe.1 b j = τd.1 b j := fun b j q => by rw [hτe, setI_get, if_neg (by omega), setI_get, if_neg (by omega), setI_get, if_neg (by omega)]
  have e80 : τe.1 88 0 = nI A := by rw [ee _ _ (by omega), (g2 88 0 (by omega)).1, ec _ _ (by omega), eb _ _ (by omega), vh 88 0 (by omega) (by omega) (show 0 < 4 by omega)]; exact h88
  obtain ⟨τf, k1, k2, k3, k4, k5⟩ := m_begins (d + 1) (h := 0) (by omega) hA τe e80
  have ef : ∀ b j, b < 104 → ¬ (b = 86 ∧ (j = 36 ∨ j = 48 ∨ j = 69 ∨ j = 70 ∨ (30 ≤ j ∧ j ≤ 32))) → τf.1 b j = τ14.1 b j := fun b j q1 q2 => by
    rw [(k2 b j (fun z => by unfold mc_S at z; omega)).1, ee _ _ (by omega), (g2 b j (by omega)).1, ec _ _ (by omega), eb _ _ (by omega)]
  have e86 : ∀ j, ¬ (30 ≤ j ∧ j ≤ 32) → τf.1 86 j = τc.1 86 j := fun j q => by rw [(k2 86 j (fun z => by unfold mc_S at z; omega)).1, ee _ _ (by omega), (g2 86 j (by omega)).1]
  have r17 : τf.1 86 17 = τ.1 86 17 := by rw [ef _ _ (by omega) (by omega), eh _ _ (by omega), ea _ _ (by omega)]
  rw [q_M_text_8, h23, show (j_setI τ 86 25 0).1 86 24 = -1 from (setI_nk (by omega)).trans h24, ← hτa, jif_t (show τa.1 86 23 = 0 by rw [ea _ _ (by omega)]; exact h23), q_M_text_9]
  rw [show g_M_half (d + 3) 88 τa = _ from a0, rV_s]
  simp only [Option.bind_some]
  rw [show g_M_half (d + 3) 89 τ1 = _ from a1, rV_s]
  simp only [Option.bind_some]
  rw [show g_M_half (d + 3) 90 τ2 = _ from a2, rV_s]
  simp only [Option.bind_some]
  rw [show g_M_half (d + 3) 91 τ3 = _ from a3, rV_s]
  simp only [Option.bind_some]
  rw [show g_M_half (d + 3) 92 τ4 = _ from a4, rV_s]
  simp only [Option.bind_some]
  rw [show g_M_half (d + 3) 93 τ5 = _ from a5, rV_s]
  simp only [Option.bind_some]
  rw [show g_M_half (d + 3) 94 τ6 = _ from a6, rV_s]
  simp only [Option.bind_some]
  rw [show g_M_half (d + 3) 95 τ7 = _ from a7, rV_s]
  simp only [Option.bind_some]
  rw [show g_M_half (d + 3) 96 τ8 = _ from a8, rV_s]
  simp only [Option.bind_some]
  rw [show g_M_half (d + 3) 97 τ9 = _ from a9, rV_s]
  simp only [Option.bind_some]
  rw [show g_M_half (d + 3) 98 τ10 = _ from a10, rV_s]
  simp only [Option.bind_some]
  rw [show g_M_half (d + 3) 99 τ11 = _ from a11, rV_s]
  simp only [Option.bind_some]
  rw [show g_M_half (d + 3) 100 τ12 = _ from a12, rV_s]
  simp only [Option.bind_some]
  rw [show g_M_half (d + 3) 101 τ13 = _ from a13, rV_s]
  simp only [Option.bind_some]
  rw [← hτb, rdI_ok (a := 88) (n := 8) (i := 1) (k := 1) rfl rfl (by omega) (by omega)]
  simp only [Option.bind_some]
  rw [b81, ← hτc, show b_M_text_10 (d + 3) 0 τc = _ from g1, q_M_text_11, e_M_plain, q_M_plain_0, rV_s, ← hτe]
  simp only [Option.bind_some]
  rw [show g_M_begins (d + 3) 0 τe = _ from k1, rV_s]
  simp only [Option.bind_some]
  rw [r17]
  refine ⟨τf, rfl, ?_, ?_, ?_, ?_, ?_, ?_, ?_, fun b k q1 q2 q3 => ?_, fun k hk => ?_, k3, fun p hp => ?_, fun k hk => ?_⟩
  · have J1 : jep me_S τ τa := by rw [hτa]; exact (jep.rf.sI (Or.inr (Or.inl ⟨rfl, by omega⟩))).sI (Or.inr (Or.inl ⟨rfl, by omega⟩))
    have J2 : jep me_S τ14 τb := by rw [hτb]; exact ((jep.rf.sI (Or.inr (Or.inl ⟨rfl, by omega⟩))).sI (Or.inr (Or.inl ⟨rfl, by omega⟩))).sI (Or.inr (Or.inl ⟨rfl, by omega⟩))
    have J3 : jep me_S τb τc := by rw [hτc]; exact jep.rf.sI (Or.inr (Or.inl ⟨rfl, by omega⟩))
    have J4 : jep me_S τd τe := by rw [hτe]; exact ((jep.rf.sI (Or.inr (Or.inl ⟨rfl, by omega⟩))).sI (Or.inr (Or.inl ⟨rfl, by omega⟩))).sI (Or.inr (Or.inl ⟨rfl, by omega⟩))
    exact (((((J1.tr (H14.1.mono (fun b k q => Or.inl ⟨q.1, by omega, q.2.2⟩))).tr J2).tr J3).tr (g2.mono (fun b k q => Or.inr (Or.inr (Or.inl ⟨q.1, q.2.1⟩))))).tr J4).tr (k2.mono (fun b k q => Or.inr (Or.inr (Or.inr q))))
  · rw [e86 _ (by omega), ec _ _ (by omega), eb _ _ (by omega), eh _ _ (by omega), hτa, setI_nk (by omega), setI_same]
  · rw [e86 _ (by omega), ec _ _ (by omega), eb _ _ (by omega), eh _ _ (by omega), hτa, setI_same]
  · rw [e86 _ (by omega), ec _ _ (by omega), hτb, setI_nk (by omega), setI_nk (by omega), setI_same]
  · rw [e86 _ (by omega), ec _ _ (by omega), hτb, setI_nk (by omega), setI_same]
  · rw [e86 _ (by omega), ec _ _ (by omega), hτb, setI_same]
  · rw [e86 _ (by omega), hτc, setI_same]
  · rw [ef _ _ (by omega) (by omega)]; exact vh b k q1 q2 q3
  · obtain ⟨z1, z2, z3⟩ := g3 k (by omega) hk
    have n4 : ∀ b, 104 ≤ b → b ≤ 106 → τf.1 b k = τd.1 b k := fun b q1 q2 => by rw [(k2 b k (fun z => by unfold mc_S at z; omega)).1, ee _ _ (by omega)]
    have n9 : ∀ b, 94 ≤ b → b ≤ 96 → τc.1 b k = τ14.1 b k := fun b q1 q2 => by rw [ec _ _ (by omega), eb _ _ (by omega)]
    rw [n4 104 (by omega) (by omega), n4 105 (by omega) (by omega), n4 106 (by omega) (by omega), z1, z2, z3, n9 94 (by omega) (by omega), n9 95 (by omega) (by omega), n9 96 (by omega) (by omega)]
    exact ⟨vh 94 k (by omega) (by omega) (show k < 12 by omega), vh 95 k (by omega) (by omega) (show k < 12 by omega), vh 96 k (by omega) (by omega) (show k < 12 by omega)⟩
  · obtain ⟨z1, z2⟩ := k4 p hp
    rw [show 10 * 0 + p = p by omega] at z1 z2
    rw [z1, z2, ee _ _ (by omega), (g2 91 p (by omega)).1, ec _ _ (by omega), eb _ _ (by omega)]
    exact ⟨vh 91 p (by omega) (by omega) (show p < 10 by omega), rfl⟩
  · have z := k5 k hk
    rw [show 30 * 0 + k = k by omega] at z
    exact z
