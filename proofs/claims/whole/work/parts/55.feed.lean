/-! 0: feed. -/
def byt (x : Int32) (s : Nat) : Int32 := (x >>> (nI s &&& 31)) &&& 255
theorem byt_u (x : Int32) {s : Nat} (hs : s ≤ 24) : (Int32.toUInt32 x >>> (Int32.toUInt32 (nI s) &&& Int32.toUInt32 31)).toInt32 &&& 255 = byt x s := by
  apply b_ext
  intro i hi
  unfold byt
  rw [b_and, b_and, b_255, b_ushr s (by omega), b_sshr s (by omega) x hi]
  by_cases h : i < 8
  · rw [if_pos (by omega)]
  · simp [h]
theorem byt_r (x : Int32) (s : Nat) : ∃ b, b < 256 ∧ byt x s = nI b := by
  obtain ⟨j, h1, h2⟩ := pk_andE (x >>> (nI s &&& 31)) (m := 255) 8 (by decide)
  exact ⟨j, h1, h2⟩
theorem c_app_l (d : Nat) (x : Int32) : ∀ (c T : Nat) (σ : jS), σ.1 0 1 = nI T → T + c ≤ 700 → c ≤ 4 → ∃ σ', b_HH_append_1 d x (nI (8 * c) - 8) σ = some (none, σ') ∧ jep (fun b k => (b = 1 ∧ T ≤ k ∧ k < T + c) ∨ (b = 0 ∧ k = 1)) σ σ' ∧ σ'.1 0 1 = nI (T + c) ∧ ∀ i, i < c → σ'.1 1 (T + i) = byt x (8 * (c - 1 - i))
  | 0, T, σ, hT, h1, h2 => by
    rw [q_HH_append_1, jif_t (show nI (8 * 0) - 8 < 0 by decide), q_HH_append_2]
    exact ⟨σ, rfl, jep.rf, hT, fun i hi => absurd hi (by omega)⟩
  | c + 1, T, σ, hT, h1, h2 => by
    have e : nI (8 * (c + 1)) - 8 = nI (8 * c) := by
      have := pk_sub (a := 8 * (c + 1)) (b := 8) (by omega)
      rw [show 8 * (c + 1) - 8 = 8 * c by omega] at this
      exact this
    rw [q_HH_append_1, e, jif_f (nI_pos (by omega)), hT, jif_f (show ¬ (700 : Int32) ≤ nI T from nI_ge (b := 700) (by omega) (by omega)), byt_u x (by omega), wrI_ok (a := 1) (n := 700) rfl rfl (by omega) (by omega)]
    simp only [Option.bind_some]
    rw [setI_ne (by omega), hT, nI_1]
    obtain ⟨σ', g1, g2, g3, g4⟩ := c_app_l d x c (T + 1) (j_setI (j_setI σ 1 T (byt x (8 * c))) 0 1 (nI (T + 1))) (setI_same _ _ _ _) (by omega) (by omega)
    rw [Int32.sub_eq_add_neg] at g1
    refine ⟨σ', g1, ?_, by rw [g3]; congr 1; omega, fun i hi => ?_⟩
    · refine ((jep.rf.sI ?_).sI ?_).tr (g2.mono (fun b k q => by omega)) <;> omega
    · by_cases e : i = 0
      · subst e
        rw [(g2 1 _ (by omega)).1, setI_ne (by omega), Nat.add_zero, setI_same]
        congr 1
      · have := g4 (i - 1) (by omega)
        rw [show T + 1 + (i - 1) = T + i by omega, show c - 1 - (i - 1) = c + 1 - 1 - i by omega] at this
        exact this
theorem c_append (d : Nat) (x : Int32) (T : Nat) (σ : jS) (hT : σ.1 0 1 = nI T) (h : T + 4 ≤ 700) : ∃ σ', g_HH_append (d + 1) x σ = some (none, σ') ∧ jep (fun b k => (b = 1 ∧ T ≤ k ∧ k < T + 4) ∨ (b = 0 ∧ k = 1)) σ σ' ∧ σ'.1 0 1 = nI (T + 4) ∧ ∀ i, i < 4 → σ'.1 1 (T + i) = byt x (8 * (3 - i)) := by
  rw [e_HH_append, q_HH_append_0]
  exact c_app_l d x 4 T σ hT h (by omega)
def fdv (a b c e f : Int32) (k : Nat) : Int32 := if k < 4 then a else if k < 8 then b else if k < 12 then c else if k < 16 then e else f
theorem m_feed_l (d : Nat) (a b c e f : Int32) (T : Nat) (hT : T ≤ 680) : ∀ (m i : Nat) (σ : jS), i + m = 20 → σ.1 86 2 = nI T → ∃ σ', b_M_feed_2 d a b c e f (nI i) σ = b_M_feed_8 d σ' ∧ jep (fun y k => y = 87 ∧ T + i ≤ k ∧ k < T + 20) σ σ' ∧ ∀ k, i ≤ k → k < 20 → σ'.1 87 (T + k) = byt (fdv a b c e f k) (24 - 8 * (k % 4))
  | 0, i, σ, hi, h2 => by
    rw [q_M_feed_2, jif_t (show (20 : Int32) ≤ nI i from nI_le (a := 20) (by omega) (by omega))]
    exact ⟨σ, rfl, jep.rf, fun k h1 h2 => absurd h2 (by omega)⟩
  | m + 1, i, σ, hi, h2 => by
    have go : b_M_feed_2 d a b c e f (nI i) σ = b_M_feed_7 d a b c e f (nI i) (fdv a b c e f i) σ := by
      unfold fdv
      rw [q_M_feed_2, jif_f (show ¬ (20 : Int32) ≤ nI i from nI_ge (b := 20) (by omega) (by omega))]
      by_cases h4 : i < 4
      · rw [jif_f (show ¬ (4 : Int32) ≤ nI i from nI_ge (b := 4) h4 (by omega)), if_pos h4]
      rw [jif_t (show (4 : Int32) ≤ nI i from nI_le (a := 4) (by omega) (by omega)), if_neg h4, q_M_feed_3]
      by_cases h8 : i < 8
      · rw [jif_f (show ¬ (8 : Int32) ≤ nI i from nI_ge (b := 8) h8 (by omega)), if_pos h8]
      rw [jif_t (show (8 : Int32) ≤ nI i from nI_le (a := 8) (by omega) (by omega)), if_neg h8, q_M_feed_4]
      by_cases h12 : i < 12
      · rw [jif_f (show ¬ (12 : Int32) ≤ nI i from nI_ge (b := 12) h12 (by omega)), if_pos h12]
      rw [jif_t (show (12 : Int32) ≤ nI i from nI_le (a := 12) (by omega) (by omega)), if_neg h12, q_M_feed_5]
      by_cases h16 : i < 16
      · rw [jif_f (show ¬ (16 : Int32) ≤ nI i from nI_ge (b := 16) h16 (by omega)), if_pos h16]
      rw [jif_t (show (16 : Int32) ≤ nI i from nI_le (a := 16) (by omega) (by omega)), if_neg h16, q_M_feed_6]
    have hsh : (24 - (8 * (nI i - nI i / 4 * 4)) : Int32) = nI (24 - 8 * (i % 4)) := by
      have : nI i - nI i / 4 * 4 = nI (i % 4) := pk_rem (a := i) (d := 4) (by omega) (by omega) (by omega)
      rw [this, show (8 : Int32) = nI 8 from rfl, pk_mul, show (24 : Int32) = nI 24 from rfl, pk_sub (by omega)]
    rw [go, q_M_feed_7, hsh, h2, nI_add, wrI_ok (a := 87) (n := 700) rfl rfl (by omega) (by omega)]
    simp only [Option.bind_some]
    rw [nI_1]
    obtain ⟨σ', g1, g2, g3⟩ := m_feed_l d a b c e f T hT m (i + 1) (j_setI σ 87 (T + i) (byt (fdv a b c e f i) (24 - 8 * (i % 4)))) (by omega) (by rw [setI_ne (by omega)]; exact h2)
    refine ⟨σ', g1, ?_, fun k h1 h2 => ?_⟩
    · refine (jep.rf.sI ?_).tr (g2.mono (fun b k q => by omega)); omega
    · by_cases e : k = i
      · subst e
        rw [(g2 87 _ (by omega)).1, setI_same]
      · exact g3 k (by omega) h2
/-- what feed may write -/
def fd_S : Nat → Nat → Prop := fun b k => b = 1 ∨ b = 87 ∨ (b = 0 ∧ k = 1) ∨ (b = 86 ∧ (k = 2 ∨ k = 0))
theorem jInv.fd {σ σ' : jS} {t : Nat} (g : jInv σ t) (h : jep fd_S σ σ') (hT' : iTape σ') : jInv σ' t := by
  obtain ⟨ht, r2, r3, hT, hF, A, Pt, M, N, hte, hla, h36, hjo, hno, him⟩ := g
  refine ⟨ht, ?_, ?_, hT', hF.fr h ?_, A, Pt, M, N, hte.fr h ?_, hla.fr h ?_, ?_, hjo.fr h ?_ hte.1, hno.fr h ?_, him.fr h ?_ hte.1⟩
  · rw [(h 0 2 (fun q => by unfold fd_S at q; omega)).2.2]; exact r2
  · rw [(h 0 3 (fun q => by unfold fd_S at q; omega)).2.2]; exact r3
  · intro b j p q; unfold faultP at p; unfold fd_S at q; omega
  · intro b j p q; unfold tellP at p; unfold fd_S at q; rcases ht with rfl | rfl <;> omega
  · intro b j p q; unfold lawP at p; unfold fd_S at q; rcases ht with rfl | rfl <;> omega
  · rw [(h 86 36 (fun q => by unfold fd_S at q; omega)).1]; exact h36
  · intro b j p q; unfold jourP at p; unfold fd_S at q; rcases ht with rfl | rfl <;> omega
  · intro b j p q; unfold noteP at p; unfold fd_S at q; omega
  · intro b j p q; unfold imgP jourP at p; unfold fd_S at q; rcases ht with rfl | rfl <;> omega
theorem op_feed (d : Nat) (a b c e f : Int32) (σ : jS) (t : Nat) (g : jInv σ t) : opI (g_HH_feed (d + 2) a b c e f) (g_M_feed (d + 2) a b c e f) σ := by
  obtain ⟨hW, T, t1, t2, t3, t4⟩ := g.2.2.2.1
  by_cases h : T ≤ 680
  · obtain ⟨σ1, p1, p2, p3, p4⟩ := c_append d a T σ t2 (by omega)
    obtain ⟨σ2, q1, q2, q3, q4⟩ := c_append d b (T + 4) σ1 p3 (by omega)
    obtain ⟨σ3, r1, r2, r3, r4⟩ := c_append d c (T + 4 + 4) σ2 q3 (by omega)
    obtain ⟨σ4, s1, s2, s3, s4⟩ := c_append d e (T + 4 + 4 + 4) σ3 r3 (by omega)
    obtain ⟨σ5, u1, u2, u3, u4⟩ := c_append d f (T + 4 + 4 + 4 + 4) σ4 s3 (by omega)
    have S5 : jep (fun y k => (y = 1 ∧ T ≤ k ∧ k < T + 20) ∨ (y = 0 ∧ k = 1)) σ σ5 := ((((p2.mono (fun y k q => by omega)).tr (q2.mono (fun y k q => by omega))).tr (r2.mono (fun y k q => by omega))).tr (s2.mono (fun y k q => by omega))).tr (u2.mono (fun y k q => by omega))
    have k5 : ∀ y k, 38 ≤ y → σ5.1 y k = σ.1 y k := fun y k hy => (S5 y k (by omega)).1
    obtain ⟨σ6, m1, m2, m3⟩ := m_feed_l (d + 1) a b c e f T h 20 0 (j_setI σ5 86 0 0) (by omega) (by rw [setI_nk (by omega), k5 86 2 (by omega)]; exact t3)
    have c6 : σ6.1 86 2 = nI T := by rw [(m2 86 2 (by omega)).1, setI_nk (by omega), k5 86 2 (by omega)]; exact t3
    refine ⟨nI (T + 20), σ5, j_setI σ6 86 2 (nI (T + 20)), t, ?_, ?_, ?_⟩
    · show g_HH_feed (d + 2) a b c e f σ = _
      rw [e_HH_feed, q_HH_feed_0, t2, jif_t (show nI T + 20 ≤ (700 : Int32) by rw [show (20 : Int32) = nI 20 from rfl, nI_add]; exact nI_le (b := 700) (by omega) (by omega)), q_HH_feed_1, p1, rV_s]
      simp only [Option.bind_some]
      rw [q1, rV_s]
      simp only [Option.bind_some]
      rw [r1, rV_s]
      simp only [Option.bind_some]
      rw [s1, rV_s]
      simp only [Option.bind_some]
      rw [u1, rV_s]
      simp only [Option.bind_some]
      rw [u3]
    · show g_M_feed (d + 2) a b c e f σ5 = _
      have m1' : b_M_feed_2 (d + 1) a b c e f 0 (j_setI σ5 86 0 0) = b_M_feed_8 (d + 1) σ6 := m1
      rw [e_M_feed, q_M_feed_0, setI_nk (by omega), k5 86 2 (by omega), t3, jif_t (show nI T ≤ (680 : Int32) from nI_le (b := 680) h (by omega)), q_M_feed_1, m1', q_M_feed_8, c6, setI_same, show (20 : Int32) = nI 20 from rfl, nI_add]
    · refine g.fd ?_ ?_
      · refine ((S5.mono (fun y k q => by unfold fd_S; omega)).sI ?_).tr ((m2.mono (fun y k q => by unfold fd_S; omega)).sI ?_) <;> unfold fd_S <;> omega
      · have f5 : ∀ i, (j_setI σ6 86 2 (nI (T + 20))).1 1 i = σ5.1 1 i := fun i => by rw [setI_ne (by omega), (m2 1 i (by omega)).1, setI_ne (by omega)]
        have f87 : ∀ i, (j_setI σ6 86 2 (nI (T + 20))).1 87 i = σ6.1 87 i := fun i => setI_ne (by omega)
        refine ⟨fun i hi => ?_, T + 20, by omega, ?_, setI_same _ _ _ _, fun i hi => ?_⟩
        · rw [setI_ne (by omega), (m2 38 i (by omega)).1, setI_ne (by omega), k5 38 i (by omega)]; exact hW i hi
        · rw [setI_ne (by omega), (m2 0 1 (by omega)).1, setI_ne (by omega), u3]
        · rw [f5, f87]
          by_cases ho : i < T
          · rw [(S5 1 i (by omega)).1, (m2 87 i (by omega)).1, setI_ne (by omega), k5 87 i (by omega)]
            exact t4 i ho
          · have key : σ5.1 1 i = byt (fdv a b c e f (i - T)) (24 - 8 * ((i - T) % 4)) := by
              unfold fdv
              by_cases h4 : i - T < 4
              · rw [if_pos h4, (u2 1 i (by omega)).1, (s2 1 i (by omega)).1, (r2 1 i (by omega)).1, (q2 1 i (by omega)).1]
                have := p4 (i - T) h4
                rw [show T + (i - T) = i by omega] at this
                rw [this]; congr 1; omega
              rw [if_neg h4]
              by_cases h8 : i - T < 8
              · rw [if_pos h8, (u2 1 i (by omega)).1, (s2 1 i (by omega)).1, (r2 1 i (by omega)).1]
                have := q4 (i - T - 4) (by omega)
                rw [show T + 4 + (i - T - 4) = i by omega] at this
                rw [this]; congr 1; omega
              rw [if_neg h8]
              by_cases h12 : i - T < 12
              · rw [if_pos h12, (u2 1 i (by omega)).1, (s2 1 i (by omega)).1]
                have := r4 (i - T - 8) (by omega)
                rw [show T + 4 + 4 + (i - T - 8) = i by omega] at this
                rw [this]; congr 1; omega
              rw [if_neg h12]
              by_cases h16 : i - T < 16
              · rw [if_pos h16, (u2 1 i (by omega)).1]
                have := s4 (i - T - 12) (by omega)
                rw [show T + 4 + 4 + 4 + (i - T - 12) = i by omega] at this
                rw [this]; congr 1; omega
              rw [if_neg h16]
              have := u4 (i - T - 16) (by omega)
              rw [show T + 4 + 4 + 4 + 4 + (i - T - 16) = i by omega] at this
              rw [this]; congr 1; omega
            have k2 := m3 (i - T) (by omega) (by omega)
            rw [show T + (i - T) = i by omega] at k2
            rw [key, k2]
            exact ⟨rfl, byt_r _ _⟩
  · refine ⟨-1, σ, j_setI σ 86 0 0, t, ?_, ?_, g.th 0⟩
    · show g_HH_feed (d + 2) a b c e f σ = _
      rw [e_HH_feed, q_HH_feed_0, t2, jif_f (show ¬ nI T + 20 ≤ (700 : Int32) by rw [show (20 : Int32) = nI 20 from rfl, nI_add]; exact nI_ge (a := 700) (by omega) (by omega))]
    · show g_M_feed (d + 2) a b c e f σ = _
      rw [e_M_feed, q_M_feed_0, setI_nk (by omega), t3, jif_f (show ¬ nI T ≤ (680 : Int32) from nI_ge (a := 680) (by omega) (by omega))]
/-! 4: look, where it doesn't throw. -/
theorem op_look (d : Nat) (p : Nat) (w : Int32) (σ : jS) (t : Nat) (g : jInv σ t) (hp : ∀ A, σ.1 t 0 = nI A → A ≤ 10 → p < A) (hw : 0 ≤ w ∧ w ≤ 6) : ∃ r σ2, g_HH_look (d + 3) (nI p) w σ = some (some (.int r), σ) ∧ g_M_look (d + 3) (nI p) w σ = some (some (.int r), j_setI σ 86 0 0) ∧ σ2 = j_setI σ 86 0 0 := by
  obtain ⟨ht, r2, r3, hT, hF, A, Pt, M, N, hte, hla, h36, hjo, hno, him⟩ := id g
  have hA := hte.1
  have hp' := hp A hte.2.2.2.1 hA
  obtain ⟨n1, n2, n3, n4, n5, n6, n7, n8⟩ := id hjo
  obtain ⟨x1, x2, -⟩ := n7 p hp'
  rw [Nat.mul_zero, Nat.zero_add] at x1 x2
  obtain ⟨b1, b2, b3, b4, ws, w1, w2, w3⟩ := hte.2.2.2.2.2.2.2.2.2.2.1 p hp'
  have hc : g_HH_look (d + 3) (nI p) w σ = b_HH_look_1 (d + 2) (nI p) w σ := by
    rw [e_HH_look, q_HH_look_0, r2, (te_is ht).1, jc_t, c_isPersonT d ht _ σ hte.2.2.2.1 hA, rI_s]
    simp only [Option.bind_some]
    rw [b2i_t ⟨nI_pos' (by omega), nI_lt hp' (by omega)⟩, jif_f (by decide)]
  have hm : g_M_look (d + 3) (nI p) w σ = b_M_look_5 (d + 2) (nI p) w (j_setI σ 86 0 0) := by
    rw [e_M_look, q_M_look_0, m_isPerson, rI_s, hte.2.2.2.2.1]
    simp only [Option.bind_some]
    rw [b2i_t ⟨nI_pos' (by omega), nI_lt hp' (by omega)⟩, jif_f (by decide), q_M_look_1, jif_f (Int32.not_lt.mpr hw.1), jif_t hw.2, q_M_look_3, q_M_look_4, setI_same, jif_t rfl]
  rw [hc, hm, q_HH_look_1, q_M_look_5]
  by_cases w0 : w = 0
  · rw [jif_t w0, jif_t w0, q_HH_look_2, r2, (te_is ht).1, jc_t, (te_cr ht).2.1, rdI_ok (te_len ht).2.1 rfl (by omega) (by omega), q_M_look_6, rdI_ok (a := 90) (n := 20) rfl rfl (by omega) (by omega), setI_ne (by omega), ← b2]
    exact ⟨_, _, rfl, rfl, rfl⟩
  rw [jif_f w0, jif_f w0]
  by_cases w1' : w = 1
  · rw [jif_t w1', jif_t w1', q_HH_look_3, rdI_ok (a := 40) (n := 10) rfl rfl (by omega) (by omega), q_M_look_7, rdI_ok (a := 108) (n := 30) rfl rfl (by omega) (by omega), setI_ne (by omega), ← x1]
    exact ⟨_, _, rfl, rfl, rfl⟩
  rw [jif_f w1', jif_f w1']
  by_cases w2' : w = 2
  · rw [jif_t w2', jif_t w2', q_HH_look_4, r2, (te_is ht).1, jc_t, (te_cr ht).2.2.2.1, rdI_ok (te_len ht).2.2.2.1 rfl (by omega) (by omega), q_M_look_8, rdI_ok (a := 92) (n := 20) rfl rfl (by omega) (by omega), setI_ne (by omega), ← b4]
    exact ⟨_, _, rfl, rfl, rfl⟩
  rw [jif_f w2', jif_f w2']
  have heir : ∀ u : Nat, u < 3 → w = nI (u + 3) → ∃ r σ2, b_HH_look_5 (d + 2) (nI p) w σ = some (some (.int r), σ) ∧ b_M_look_10 (d + 2) (nI p) w (j_setI σ 86 0 0) = some (some (.int r), j_setI σ 86 0 0) ∧ σ2 = j_setI σ 86 0 0 := fun u hu e => by
    subst e
    have e3 : nI (u + 3) - 3 = nI u := pk_sub (a := u + 3) (b := 3) (by omega)
    rw [q_HH_look_5, r2, (te_is ht).1, jc_t, e3, q_M_look_10, rdI_ok (a := 92) (n := 20) rfl rfl (by omega) (by omega)]
    simp only [Option.bind_some]
    rw [setI_ne (by omega), ← b4, w2, e3]
    by_cases q : u < ws
    · rw [c_heirAt d ht (by omega) w2 w1 q, rI_s, jif_f (nI_ge q (by omega))]
      have hi : 3 * nI p + nI (u + 3) - 3 = nI (3 * p + u) := by
        rw [nI_3]
        exact pk_sub (a := 3 * p + (u + 3)) (b := 3) (by omega)
      rw [hi, rdI_ok (a := 93) (n := 60) rfl rfl (by omega) (by omega)]
      simp only [Option.bind_some]
      rw [q_M_look_12, setI_ne (by omega), (w3 u q).1]
      exact ⟨_, _, rfl, rfl, rfl⟩
    · have hh : g_Te_heir (d + 2) t (nI p) (nI u) σ = some (some (.int (-1)), σ) := by
        rw [e_Te_heir, q_Te_heir_0, (te_is ht).1, jc_t, (te_cr ht).2.2.2.1, rdI_ok (te_len ht).2.2.2.1 rfl (by omega) (by omega)]
        simp only [Option.bind_some]
        rw [w2, c_within, rI_s]
        simp only [Option.bind_some]
        rw [if_neg (fun z => absurd ((le_pred (by omega)).mp z.2) (nI_nlt (by omega) (by omega))), jif_t rfl, q_Te_heir_1, q_Te_heir_2]
      rw [hh, rI_s, jif_t (nI_le (by omega) (by omega)), q_M_look_11, q_M_look_12]
      exact ⟨_, _, rfl, rfl, rfl⟩
  by_cases w3' : w = 3
  · rw [jif_t w3', jif_t w3']; exact heir 0 (by omega) w3'
  rw [jif_f w3', jif_f w3']
  by_cases w4' : w = 4
  · rw [jif_t w4', jif_t w4']; exact heir 1 (by omega) w4'
  rw [jif_f w4', jif_f w4']
  by_cases w5' : w = 5
  · rw [jif_t w5', jif_t w5']; exact heir 2 (by omega) w5'
  rw [jif_f w5', jif_f w5']
  have w6' : w = 6 := by
    obtain ⟨j, hj, rfl⟩ := nI_of (x := w) (Int32.not_lt.mpr hw.1)
    have hj6 : j ≤ 6 := (nI_leI (b := 6) hj (by omega)).mp hw.2
    have z : ∀ m : Nat, m < 7 → ¬ nI j = nI m → j ≠ m := fun m _ h e => h (by rw [e])
    have z0 := z 0 (by omega) w0
    have z1 := z 1 (by omega) w1'
    have z2 := z 2 (by omega) w2'
    have z3 := z 3 (by omega) w3'
    have z4 := z 4 (by omega) w4'
    have z5 := z 5 (by omega) w5'
    rw [show j = 6 by omega]; rfl
  rw [jif_t w6', jif_t w6', q_HH_look_6, rdI_ok (a := 41) (n := 10) rfl rfl (by omega) (by omega), q_M_look_9, rdI_ok (a := 109) (n := 30) rfl rfl (by omega) (by omega), setI_ne (by omega), ← x2]
  exact ⟨_, _, rfl, rfl, rfl⟩
