/-! 7: parcel. -/
theorem c_isParcel (d : Nat) {j N : Nat} (hj : jJo j) (x : Int32) (σ : jS) (h : σ.1 j 3 = nI N) (hN : N ≤ 30) : g_Jo_isParcel (d + 2) j x σ = some (some (.int (b2i (0 ≤ x ∧ x < nI N))), σ) := by
  rw [e_Jo_isParcel, q_Jo_isParcel_0, jo_is hj, jc_t, h, c_within, rI_s]
  simp only [Option.bind_some]
  by_cases q : 0 ≤ x ∧ x ≤ nI N - 1
  · rw [if_pos q, b2i_t ⟨q.1, (le_pred (by omega)).mp q.2⟩]; rfl
  · rw [if_neg q, b2i_f (fun z => q ⟨z.1, (le_pred (by omega)).mpr z.2⟩)]; rfl
theorem m_isParcel (d : Nat) {N : Nat} (x : Int32) (σ : jS) (h : σ.1 86 36 = nI N) : g_M_isParcel (d + 1) x σ = some (some (.int (b2i (0 ≤ x ∧ x < nI N))), σ) := by
  rw [e_M_isParcel, q_M_isParcel_0, h, q_M_isParcel_1, q_M_isParcel_2, q_M_isParcel_2]
  by_cases h0 : x < 0
  · rw [jif_t h0, b2i_f (fun q => Int32.not_le.mpr h0 q.1)]; rfl
  · rw [jif_f h0]
    by_cases h1 : nI N ≤ x
    · rw [jif_t h1, b2i_f (fun q => Int32.not_lt.mpr h1 q.2)]; rfl
    · rw [jif_f h1, b2i_t ⟨Int32.not_lt.mp h0, Int32.not_le.mp h1⟩]; rfl
theorem op_parcel (d : Nat) (x w : Int32) (σ : jS) (t : Nat) (g : jInv σ t) : opI (g_HH_parcel (d + 3) x w) (g_M_parcel (d + 3) x w) σ := by
  obtain ⟨ht, r2, r3, hT, hF, A, Pt, M, N, hte, hla, h36, hjo, hno, him⟩ := id g
  obtain ⟨n1, n2, n3, n4, n5, n6, n7, n8⟩ := hjo
  have hcI := c_isParcel d (Or.inl rfl) x σ n2 n1
  have hmI := m_isParcel (d + 1) x (j_setI σ 86 0 0) (by rw [setI_nk (by omega)]; exact h36)
  by_cases h : 0 ≤ x ∧ x < nI N
  · obtain ⟨k, hk, rfl⟩ : ∃ k, k < N ∧ x = nI k := by
      obtain ⟨j, hj, rfl⟩ := nI_of (x := x) (Int32.not_lt.mpr h.1)
      exact ⟨j, (nI_ltI hj (by omega)).mp h.2, rfl⟩
    obtain ⟨p1, p2, p3, p4, p5, p6, p7, -⟩ := n8 k hk
    rw [Nat.mul_zero, Nat.zero_add] at p4 p5 p6 p7
    refine ⟨if w = 0 then σ.1 42 k else if w = 1 then σ.1 43 k else if w = 2 then σ.1 44 k else if w = 3 then σ.1 45 k else if w = 4 then σ.1 46 k else if w = 5 then σ.1 47 k else if w = 6 then σ.1 48 k else -1, σ, j_setI σ 86 0 0, t, ?_, ?_, g.th 0⟩
    · show g_HH_parcel (d + 3) (nI k) w σ = _
      rw [e_HH_parcel, q_HH_parcel_0, hcI, rI_s]
      simp only [Option.bind_some]
      rw [b2i_t h, jif_f (by decide), q_HH_parcel_1]
      by_cases w0 : w = 0
      · rw [jif_t w0, if_pos w0, q_HH_parcel_2, rdI_ok (a := 42) (n := 30) rfl rfl (by omega) (by omega)]; rfl
      rw [jif_f w0, if_neg w0]
      by_cases w1 : w = 1
      · rw [jif_t w1, if_pos w1, q_HH_parcel_3, rdI_ok (a := 43) (n := 30) rfl rfl (by omega) (by omega)]; rfl
      rw [jif_f w1, if_neg w1]
      by_cases w2 : w = 2
      · rw [jif_t w2, if_pos w2, q_HH_parcel_4, rdI_ok (a := 44) (n := 30) rfl rfl (by omega) (by omega)]; rfl
      rw [jif_f w2, if_neg w2]
      by_cases w3 : w = 3
      · rw [jif_t w3, if_pos w3, q_HH_parcel_5, rdI_ok (a := 45) (n := 30) rfl rfl (by omega) (by omega)]; rfl
      rw [jif_f w3, if_neg w3]
      by_cases w4 : w = 4
      · rw [jif_t w4, if_pos w4, q_HH_parcel_6, rdI_ok (a := 46) (n := 30) rfl rfl (by omega) (by omega)]; rfl
      rw [jif_f w4, if_neg w4]
      by_cases w5 : w = 5
      · rw [jif_t w5, if_pos w5, q_HH_parcel_7, rdI_ok (a := 47) (n := 30) rfl rfl (by omega) (by omega)]; rfl
      rw [jif_f w5, if_neg w5]
      by_cases w6 : w = 6
      · rw [jif_t w6, if_pos w6, q_HH_parcel_8, rdI_ok (a := 48) (n := 30) rfl rfl (by omega) (by omega)]; rfl
      rw [jif_f w6, if_neg w6]
      rw [q_HH_parcel_9]
    · show g_M_parcel (d + 3) (nI k) w σ = _
      rw [e_M_parcel, q_M_parcel_0, hmI, rI_s]
      simp only [Option.bind_some]
      rw [b2i_t h, jif_f (by decide), q_M_parcel_1]
      by_cases w0 : w = 0
      · rw [jif_t w0, if_pos w0, q_M_parcel_2, rdI_ok (a := 104) (n := 30) rfl rfl (by omega) (by omega), setI_ne (by omega), ← p1]; rfl
      rw [jif_f w0, if_neg w0]
      by_cases w1 : w = 1
      · rw [jif_t w1, if_pos w1, q_M_parcel_3, rdI_ok (a := 105) (n := 30) rfl rfl (by omega) (by omega), setI_ne (by omega), ← p2]; rfl
      rw [jif_f w1, if_neg w1]
      by_cases w2 : w = 2
      · rw [jif_t w2, if_pos w2, q_M_parcel_4, rdI_ok (a := 106) (n := 30) rfl rfl (by omega) (by omega), setI_ne (by omega), ← p3]; rfl
      rw [jif_f w2, if_neg w2]
      by_cases w3 : w = 3
      · rw [jif_t w3, if_pos w3, q_M_parcel_5, rdI_ok (a := 110) (n := 90) rfl rfl (by omega) (by omega), setI_ne (by omega), ← p4]; rfl
      rw [jif_f w3, if_neg w3]
      by_cases w4 : w = 4
      · rw [jif_t w4, if_pos w4, q_M_parcel_6, rdI_ok (a := 111) (n := 90) rfl rfl (by omega) (by omega), setI_ne (by omega), ← p5]; rfl
      rw [jif_f w4, if_neg w4]
      by_cases w5 : w = 5
      · rw [jif_t w5, if_pos w5, q_M_parcel_7, rdI_ok (a := 112) (n := 90) rfl rfl (by omega) (by omega), setI_ne (by omega), ← p6]; rfl
      rw [jif_f w5, if_neg w5]
      by_cases w6 : w = 6
      · rw [jif_t w6, if_pos w6, q_M_parcel_8, rdI_ok (a := 113) (n := 90) rfl rfl (by omega) (by omega), setI_ne (by omega), ← p7]; rfl
      rw [jif_f w6, if_neg w6]
      rw [q_M_parcel_9]
  · refine ⟨-1, σ, j_setI σ 86 0 0, t, ?_, ?_, g.th 0⟩
    · show g_HH_parcel (d + 3) x w σ = _
      rw [e_HH_parcel, q_HH_parcel_0, hcI, rI_s]
      simp only [Option.bind_some]
      rw [b2i_f h, jif_t rfl]
    · show g_M_parcel (d + 3) x w σ = _
      rw [e_M_parcel, q_M_parcel_0, hmI, rI_s]
      simp only [Option.bind_some]
      rw [b2i_f h, jif_t rfl]
