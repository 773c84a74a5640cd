/-! The table filled; the first order laid. -/
theorem c_solv2 (d : Nat) {m C aim T P : Nat} {car hm : Nat → Nat} {st : Nat → Nat → Nat → Prop} (ha3 : aim ≤ 3) (hT2 : T < 2 ^ 31) (hP : P < 2 ^ m) (hP0 : P ≠ 0) : ∀ (n a : Nat) (σ : jS), a + n = m → OE σ m C car hm st → σ.1 71 10 = nI aim → σ.1 71 11 = nI T → TBL σ (hdO st) (ovO m hm) m C aim T P →
    ∃ σ', b_Or_solved_2 (d + 4) (nI P) (nI a) σ = b_Or_solved_4 (d + 4) (nI P) σ' ∧ jep (fun b k => b = 76 ∧ (P * 8 + a) * 2 ≤ k ∧ k < (P * 8 + 8) * 2) σ σ' ∧ ∀ l, a ≤ l → l < m → P.testBit l = true → ∀ e, e ≤ 1 → σ'.1 76 ((P * 8 + l) * 2 + e) = JG (hdO st) (ovO m hm) m aim T (m - pc P) P l (flO C (pc P) + e)
  | 0, a, σ, hn, hO, ha, hT, hTB => by
    rw [q_Or_solved_2, hO.2.2.1, jif_t (nI_le (by omega) (by have := hO.1; omega))]
    exact ⟨σ, rfl, jep.rf, fun l h1 h2 => absurd h2 (by omega)⟩
  | n + 1, a, σ, hn, hO, ha, hT, hTB => by
    have hm8 := hO.1
    have h256 := m256 hm8 hP
    rw [q_Or_solved_2, hO.2.2.1, jif_f (nI_ge (by omega) (by omega)), c_has (d + 3) h256 (by omega), rI_s]
    simp only [Option.bind_some]
    rw [q_Or_solved_3, nI_1]
    by_cases b : P.testBit a = true
    · rw [b2i_t b, jif_f (by decide), show (0 : Int32) = nI 0 from rfl, c_stateN (d + 3), rI_s]
      simp only [Option.bind_some]
      rw [c_judged d hO ha ha3 hT hT2 hP (fun _ => by omega) (by omega) (Or.inl rfl) hTB, rI_s]
      simp only [Option.bind_some]
      rw [wrI_ok (a := 76) (n := 4096) rfl rfl (by omega) (by omega)]
      simp only [Option.bind_some]
      have S1 : jep (fun b k => b = 76 ∧ (P * 8 + a) * 2 ≤ k ∧ k < (P * 8 + 8) * 2) σ (j_setI σ 76 ((P * 8 + a) * 2 + 0) (JG (hdO st) (ovO m hm) m aim T (m - pc P) P a (flO C (pc P) + 0))) := jep.rf.sI ⟨rfl, by omega, by omega⟩
      have v0 : (j_setI σ 76 ((P * 8 + a) * 2 + 0) (JG (hdO st) (ovO m hm) m aim T (m - pc P) P a (flO C (pc P) + 0))).1 76 ((P * 8 + a) * 2 + 0) = JG (hdO st) (ovO m hm) m aim T (m - pc P) P a (flO C (pc P) + 0) := setI_same _ _ _ _
      generalize j_setI σ 76 ((P * 8 + a) * 2 + 0) (JG (hdO st) (ovO m hm) m aim T (m - pc P) P a (flO C (pc P) + 0)) = σ1 at *
      have O1 := hO.fr (S1.mono (fun b k q => Or.inl q.1))
      have ha1 : σ1.1 71 10 = nI aim := by rw [(S1 71 10 (by omega)).1]; exact ha
      have hT1 : σ1.1 71 11 = nI T := by rw [(S1 71 11 (by omega)).1]; exact hT
      have TB1 : TBL σ1 (hdO st) (ovO m hm) m C aim T P := fun P' h1 h2 l h3 h4 e h5 => by
        rw [(S1 76 _ (by omega)).1]; exact hTB P' h1 h2 l h3 h4 e h5
      rw [show (1 : Int32) = nI 1 from rfl, c_stateN (d + 3), rI_s]
      simp only [Option.bind_some]
      rw [c_judged d O1 ha1 ha3 hT1 hT2 hP (fun _ => by omega) (by omega) (Or.inr ⟨rfl, hP0⟩) TB1, rI_s]
      simp only [Option.bind_some]
      rw [wrI_ok (a := 76) (n := 4096) rfl rfl (by omega) (by omega)]
      simp only [Option.bind_some]
      have S2 : jep (fun b k => b = 76 ∧ (P * 8 + a) * 2 ≤ k ∧ k < (P * 8 + 8) * 2) σ (j_setI σ1 76 ((P * 8 + a) * 2 + 1) (JG (hdO st) (ovO m hm) m aim T (m - pc P) P a (flO C (pc P) + 1))) := S1.sI ⟨rfl, by omega, by omega⟩
      have v1 : (j_setI σ1 76 ((P * 8 + a) * 2 + 1) (JG (hdO st) (ovO m hm) m aim T (m - pc P) P a (flO C (pc P) + 1))).1 76 ((P * 8 + a) * 2 + 1) = JG (hdO st) (ovO m hm) m aim T (m - pc P) P a (flO C (pc P) + 1) := setI_same _ _ _ _
      have v0' : (j_setI σ1 76 ((P * 8 + a) * 2 + 1) (JG (hdO st) (ovO m hm) m aim T (m - pc P) P a (flO C (pc P) + 1))).1 76 ((P * 8 + a) * 2 + 0) = JG (hdO st) (ovO m hm) m aim T (m - pc P) P a (flO C (pc P) + 0) := by rw [setI_nk (by omega)]; exact v0
      generalize j_setI σ1 76 ((P * 8 + a) * 2 + 1) (JG (hdO st) (ovO m hm) m aim T (m - pc P) P a (flO C (pc P) + 1)) = σ2 at *
      rw [q_Or_solved_3, nI_1]
      obtain ⟨σ', g1, g2, g3⟩ := c_solv2 d ha3 hT2 hP hP0 n (a + 1) σ2 (by omega) (hO.fr (S2.mono (fun b k q => Or.inl q.1))) (by rw [(S2 71 10 (by omega)).1]; exact ha) (by rw [(S2 71 11 (by omega)).1]; exact hT) (fun P' h1 h2 l h3 h4 e h5 => by rw [(S2 76 _ (by omega)).1]; exact hTB P' h1 h2 l h3 h4 e h5)
      refine ⟨σ', g1, S2.tr (g2.mono (fun b k q => by omega)), fun l h1 h2 h3 e h4 => ?_⟩
      by_cases el : l = a
      · subst el
        rw [(g2 76 _ (by omega)).1]
        have he : e = 0 ∨ e = 1 := by omega
        rcases he with rfl | rfl
        · exact v0'
        · exact v1
      · exact g3 l (by omega) h2 h3 e h4
    · rw [b2i_f b, jif_t rfl]
      obtain ⟨σ', g1, g2, g3⟩ := c_solv2 d ha3 hT2 hP hP0 n (a + 1) σ (by omega) hO ha hT hTB
      refine ⟨σ', g1, g2.mono (fun b k q => by omega), fun l h1 h2 h3 e h4 => ?_⟩
      by_cases el : l = a
      · subst el; exact absurd h3 b
      · exact g3 l (by omega) h2 h3 e h4
theorem c_solv1 (d : Nat) {m C aim T : Nat} {car hm : Nat → Nat} {st : Nat → Nat → Nat → Prop} (ha3 : aim ≤ 3) (hT2 : T < 2 ^ 31) : ∀ (P : Nat) (σ : jS), P < 2 ^ m → OE σ m C car hm st → σ.1 71 10 = nI aim → σ.1 71 11 = nI T → TBL σ (hdO st) (ovO m hm) m C aim T P →
    ∃ σ', b_Or_solved_1 (d + 4) (nI P) σ = b_Or_solved_5 (d + 4) σ' ∧ jep (fun b _ => b = 76) σ σ' ∧ TBL σ' (hdO st) (ovO m hm) m C aim T 0
  | 0, σ, hP, hO, ha, hT, hTB => by
    rw [q_Or_solved_1, jif_t (show nI 0 ≤ 0 by decide)]
    exact ⟨σ, rfl, jep.rf, hTB⟩
  | P + 1, σ, hP, hO, ha, hT, hTB => by
    have hm8 := hO.1
    have h256 := m256 hm8 hP
    rw [q_Or_solved_1, jif_f (nI_nle (by omega) (by omega))]
    obtain ⟨σ1, g1, g2, g3⟩ := c_solv2 d ha3 hT2 hP (by omega) m 0 σ (by omega) hO ha hT hTB
    have g1' : b_Or_solved_2 (d + 4) (nI (P + 1)) 0 σ = b_Or_solved_4 (d + 4) (nI (P + 1)) σ1 := g1
    rw [g1', q_Or_solved_4, pk_m1]
    obtain ⟨σ2, p1, p2, p3⟩ := c_solv1 d ha3 hT2 P σ1 (by omega) (hO.fr (g2.mono (fun b k q => Or.inl q.1))) (by rw [(g2 71 10 (by omega)).1]; exact ha) (by rw [(g2 71 11 (by omega)).1]; exact hT) (fun P' h1 h2 l h3 h4 e h5 => by
      by_cases eq : P' = P + 1
      · subst eq; exact g3 l (by omega) h3 h4 e h5
      · rw [(g2 76 _ (by omega)).1]; exact hTB P' (by omega) h2 l h3 h4 e h5)
    exact ⟨σ2, p1, (g2.mono (fun b k q => q.1)).tr p2, p3⟩
def so_S : Nat → Nat → Prop := fun b k => b = 76 ∨ (b = 71 ∧ (k = 10 ∨ k = 11))
theorem c_solved (d : Nat) {m C aim T : Nat} {car hm : Nat → Nat} {st : Nat → Nat → Nat → Prop} (ha3 : aim ≤ 3) (hT2 : T < 2 ^ 31) (σ : jS) (hO : OE σ m C car hm st) :
    ∃ σ', g_Or_solved (d + 5) (nI aim) (nI T) σ = some (some (.int (JG (hdO st) (ovO m hm) m aim T m 0 0 C)), σ') ∧ jep so_S σ σ' ∧ σ'.1 71 10 = nI aim ∧ σ'.1 71 11 = nI T ∧ TBL σ' (hdO st) (ovO m hm) m C aim T 0 := by
  have hm8 := hO.1
  have h2m := pow8 hm8
  rw [e_Or_solved, q_Or_solved_0]
  have S1 : jep so_S σ (j_setI (j_setI σ 71 10 (nI aim)) 71 11 (nI T)) := (jep.rf.sI (Or.inr ⟨rfl, by omega⟩)).sI (Or.inr ⟨rfl, by omega⟩)
  have a1 : (j_setI (j_setI σ 71 10 (nI aim)) 71 11 (nI T)).1 71 10 = nI aim := by rw [setI_nk (by omega), setI_same]
  have t1 : (j_setI (j_setI σ 71 10 (nI aim)) 71 11 (nI T)).1 71 11 = nI T := setI_same _ _ _ _
  generalize j_setI (j_setI σ 71 10 (nI aim)) 71 11 (nI T) = σ1 at *
  have O1 := hO.fr (S1.mono (fun b k q => by unfold so_S at q; unfold or_S; omega))
  rw [c_everybody (d + 3) hm8 O1.2.2.1, rI_s]
  simp only [Option.bind_some]
  obtain ⟨σ2, p1, p2, p3⟩ := c_solv1 d ha3 hT2 (2 ^ m - 1) σ1 (by omega) O1 a1 t1 (fun P' h1 h2 => absurd h2 (by omega))
  have O2 := O1.fr (p2.mono (fun b k q => Or.inl q))
  have a2 : σ2.1 71 10 = nI aim := by rw [(p2 71 10 (by omega)).1]; exact a1
  have t2 : σ2.1 71 11 = nI T := by rw [(p2 71 11 (by omega)).1]; exact t1
  have hj := c_judged d O2 a2 ha3 t2 hT2 (P := 0) (l := 0) (e := 0) (by omega) (fun z => absurd rfl z) (by omega) (Or.inl rfl) p3
  have hj' : g_Or_judged (d + 4) 0 0 0 σ2 = some (some (.int (JG (hdO st) (ovO m hm) m aim T m 0 0 C)), σ2) := by
    refine hj.trans ?_
    have e0 : pc 0 = 0 := by decide
    rw [e0, Nat.sub_zero, (flO_01 C).1, Nat.add_zero]
  rw [p1, q_Or_solved_5, hj', rI_s]
  simp only [Option.bind_some]
  exact ⟨σ2, rfl, S1.tr (p2.mono (fun b k q => Or.inl q)), a2, t2, p3⟩
/-- which paths do what is promised -/
def Qp (hd : Nat → Nat → Nat → Nat → Nat) (ov : Nat → Nat → Nat) (m aim T p P l c rest : Nat) (s : List Nat) : Prop := if aim = 0 then AR hd m p l c s = T else if aim = 1 then AR hd m p l c s = T ∧ IV ov P s = rest else KP hd m T p l c s = rest
/-- the state keeps what is promised -/
def PRM (hd : Nat → Nat → Nat → Nat → Nat) (ov : Nat → Nat → Nat) (m aim T r P l c rest : Nat) : Prop :=
  (aim = 0 → ∃ s, s ∈ PL m r P ∧ AR hd m (m - r) l c s = T) ∧
  (aim = 1 → rest < 536870912 ∧ mN (fw hd ov m T (m - r) P l c) 536870912 (PL m r P) = rest) ∧
  (aim = 2 → rest ≤ 999999 ∧ T < m ∧ relS T P l ∧ xN (fun s => KP hd m T (m - r) l c s + 1) (PL m r P) = rest + 1) ∧
  (aim = 3 → rest ≤ 999999 ∧ T < m ∧ relS T P l ∧ mN (fun s => KP hd m T (m - r) l c s) 536870912 (PL m r P) = rest)
theorem PRM.ex {hd : Nat → Nat → Nat → Nat → Nat} {ov : Nat → Nat → Nat} {m aim T r P l c rest : Nat} (ha3 : aim ≤ 3) (h : PRM hd ov m aim T r P l c rest) : ∃ s, s ∈ PL m r P ∧ Qp hd ov m aim T (m - r) P l c rest s := by
  obtain ⟨h0, h1, h2, h3⟩ := h
  unfold Qp
  have : aim = 0 ∨ aim = 1 ∨ aim = 2 ∨ aim = 3 := by omega
  rcases this with rfl | rfl | rfl | rfl
  · obtain ⟨s, s1, s2⟩ := h0 rfl
    exact ⟨s, s1, by rw [if_pos rfl]; exact s2⟩
  · obtain ⟨x1, x2⟩ := h1 rfl
    obtain ⟨s, s1, s2⟩ := mN_att (f := fw hd ov m T (m - r) P l c) (V := 536870912) (PL m r P) (by omega)
    refine ⟨s, s1, ?_⟩
    rw [if_neg (by omega), if_pos rfl]
    unfold fw at s2
    by_cases q : AR hd m (m - r) l c s = T
    · rw [if_pos q] at s2
      exact ⟨q, by rw [s2]; exact x2⟩
    · rw [if_neg q] at s2
      unfold fw at x2
      omega
  · obtain ⟨x1, x2, x3, x4⟩ := h2 rfl
    obtain ⟨s, s1, s2⟩ := xN_att (f := fun s => KP hd m T (m - r) l c s + 1) (PL m r P) (by omega)
    exact ⟨s, s1, by rw [if_neg (by omega), if_neg (by omega)]; omega⟩
  · obtain ⟨x1, x2, x3, x4⟩ := h3 rfl
    obtain ⟨s, s1, s2⟩ := mN_att (f := fun s => KP hd m T (m - r) l c s) (V := 536870912) (PL m r P) (by omega)
    exact ⟨s, s1, by rw [if_neg (by omega), if_neg (by omega)]; omega⟩
def rst (ov : Nat → Nat → Nat) (aim P x rest : Nat) : Nat := if aim = 1 then rest - ov P x else rest
theorem KP_cons {hd : Nat → Nat → Nat → Nat → Nat} {m w p l c x : Nat} {s : List Nat} (h : ¬ (p ≠ 0 ∧ l = w)) : KP hd m w p l c (x :: s) = KP hd m w (p + 1) x (hd p l x c) s := if_neg h
theorem Qp_step {hd : Nat → Nat → Nat → Nat → Nat} {ov : Nat → Nat → Nat} {m aim T p P l c rest x : Nat} {s : List Nat} (ha3 : aim ≤ 3) (hn : ¬ ((aim = 2 ∨ aim = 3) ∧ p ≠ 0 ∧ l = T)) (ho : aim = 1 → ov P x ≤ rest) : Qp hd ov m aim T p P l c rest (x :: s) ↔ Qp hd ov m aim T (p + 1) (P ||| 2 ^ x) x (hd p l x c) (rst ov aim P x rest) s := by
  unfold Qp rst
  have : aim = 0 ∨ aim = 1 ∨ aim = 2 ∨ aim = 3 := by omega
  rcases this with rfl | rfl | rfl | rfl
  · rw [if_pos rfl, if_pos rfl]; exact Iff.rfl
  · have := ho rfl
    simp only [Nat.one_ne_zero, ↓reduceIte]
    show (AR hd m (p + 1) x (hd p l x c) s = T ∧ ov P x + IV ov (P ||| 2 ^ x) s = rest) ↔ _
    exact ⟨fun z => ⟨z.1, by omega⟩, fun z => ⟨z.1, by omega⟩⟩
  · rw [if_neg (by omega), if_neg (by omega), if_neg (by omega), if_neg (by omega), if_neg (by omega), KP_cons (fun z => hn ⟨Or.inl rfl, z⟩)]
  · rw [if_neg (by omega), if_neg (by omega), if_neg (by omega), if_neg (by omega), if_neg (by omega), KP_cons (fun z => hn ⟨Or.inr rfl, z⟩)]
theorem mem_PL {m r P x : Nat} {s : List Nat} (hx : x < m) (hb : P.testBit x = false) (h : s ∈ PL m r (P ||| 2 ^ x)) : (x :: s) ∈ PL m (r + 1) P := (mem_cat m 0).mpr ⟨x, s, by omega, by omega, hb, h, rfl⟩
/-- a step that does it keeps the promise -/
theorem PRM.step {hd : Nat → Nat → Nat → Nat → Nat} {ov : Nat → Nat → Nat} {m aim T r P l c rest x : Nat} (ha3 : aim ≤ 3) (hpz : m - (r + 1) ≠ 0 ↔ P ≠ 0) (hr : r + 1 ≤ m) (h : PRM hd ov m aim T (r + 1) P l c rest) (hn : ¬ ((aim = 2 ∨ aim = 3) ∧ P ≠ 0 ∧ l = T)) (hx : x < m) (hb : P.testBit x = false) (hs : ∃ s, s ∈ PL m r (P ||| 2 ^ x) ∧ Qp hd ov m aim T (m - (r + 1)) P l c rest (x :: s)) : (aim = 1 → ov P x ≤ rest) ∧ PRM hd ov m aim T r (P ||| 2 ^ x) x (hd (m - (r + 1)) l x c) (rst ov aim P x rest) := by
  obtain ⟨h0, h1, h2, h3⟩ := h
  obtain ⟨s, s1, s2⟩ := hs
  have em : m - (r + 1) + 1 = m - r := by omega
  have : aim = 0 ∨ aim = 1 ∨ aim = 2 ∨ aim = 3 := by omega
  rcases this with rfl | rfl | rfl | rfl
  · refine ⟨fun z => absurd z (by omega), fun _ => ?_, fun z => absurd z (by omega), fun z => absurd z (by omega), fun z => absurd z (by omega)⟩
    unfold Qp at s2
    rw [if_pos rfl] at s2
    refine ⟨s, s1, ?_⟩
    rw [← em]; exact s2
  · obtain ⟨x1, x2⟩ := h1 rfl
    unfold Qp at s2
    rw [if_neg (by omega), if_pos rfl] at s2
    have s3 : ov P x + IV ov (P ||| 2 ^ x) s = rest := s2.2
    have s4 : AR hd m (m - r) x (hd (m - (r + 1)) l x c) s = T := by rw [← em]; exact s2.1
    refine ⟨fun _ => by omega, fun z => absurd z (by omega), fun _ => ?_, fun z => absurd z (by omega), fun z => absurd z (by omega)⟩
    unfold rst
    rw [if_pos rfl]
    refine ⟨by omega, ?_⟩
    have e1 : fw hd ov m T (m - r) (P ||| 2 ^ x) x (hd (m - (r + 1)) l x c) s = rest - ov P x := by
      unfold fw; rw [if_pos s4]; omega
    have le1 := mN_mem (f := fw hd ov m T (m - r) (P ||| 2 ^ x) x (hd (m - (r + 1)) l x c)) (V := 536870912) (PL m r (P ||| 2 ^ x)) s1
    obtain ⟨s', t1, t2⟩ := mN_att (f := fw hd ov m T (m - r) (P ||| 2 ^ x) x (hd (m - (r + 1)) l x c)) (V := 536870912) (PL m r (P ||| 2 ^ x)) (by omega)
    have le2 := mN_mem (f := fw hd ov m T (m - (r + 1)) P l c) (V := 536870912) (PL m (r + 1) P) (mem_PL hx hb t1)
    have e2 : fw hd ov m T (m - (r + 1)) P l c (x :: s') = (if AR hd m (m - r) x (hd (m - (r + 1)) l x c) s' = T then ov P x + IV ov (P ||| 2 ^ x) s' else 536870912) := by
      unfold fw
      rw [← em]; rfl
    by_cases q : AR hd m (m - r) x (hd (m - (r + 1)) l x c) s' = T
    · rw [if_pos q] at e2
      have e3 : fw hd ov m T (m - r) (P ||| 2 ^ x) x (hd (m - (r + 1)) l x c) s' = IV ov (P ||| 2 ^ x) s' := by unfold fw; rw [if_pos q]
      omega
    · have e3 : fw hd ov m T (m - r) (P ||| 2 ^ x) x (hd (m - (r + 1)) l x c) s' = 536870912 := by unfold fw; rw [if_neg q]
      omega
  · obtain ⟨x1, x2, x3, x4⟩ := h2 rfl
    have hn' : ¬ (P ≠ 0 ∧ l = T) := fun z => hn ⟨Or.inl rfl, z⟩
    have hn2 : ¬ (m - (r + 1) ≠ 0 ∧ l = T) := fun z => hn' ⟨hpz.mp z.1, z.2⟩
    unfold Qp at s2
    rw [if_neg (by omega), if_neg (by omega), KP_cons hn2, em] at s2
    refine ⟨fun z => absurd z (by omega), fun z => absurd z (by omega), fun z => absurd z (by omega), fun _ => ?_, fun z => absurd z (by omega)⟩
    unfold rst
    rw [if_neg (by omega)]
    refine ⟨x1, x2, relS_step x3 hn', ?_⟩
    have le1 := xN_mem (f := fun s => KP hd m T (m - r) x (hd (m - (r + 1)) l x c) s + 1) (PL m r (P ||| 2 ^ x)) s1
    obtain ⟨s', t1, t2⟩ := xN_att (f := fun s => KP hd m T (m - r) x (hd (m - (r + 1)) l x c) s + 1) (PL m r (P ||| 2 ^ x)) (by omega)
    have le2 := xN_mem (f := fun s => KP hd m T (m - (r + 1)) l c s + 1) (PL m (r + 1) P) (mem_PL hx hb t1)
    have e2 : KP hd m T (m - (r + 1)) l c (x :: s') = KP hd m T (m - r) x (hd (m - (r + 1)) l x c) s' := by rw [KP_cons hn2, em]
    omega
  · obtain ⟨x1, x2, x3, x4⟩ := h3 rfl
    have hn' : ¬ (P ≠ 0 ∧ l = T) := fun z => hn ⟨Or.inr rfl, z⟩
    have hn2 : ¬ (m - (r + 1) ≠ 0 ∧ l = T) := fun z => hn' ⟨hpz.mp z.1, z.2⟩
    unfold Qp at s2
    rw [if_neg (by omega), if_neg (by omega), KP_cons hn2, em] at s2
    refine ⟨fun z => absurd z (by omega), fun z => absurd z (by omega), fun z => absurd z (by omega), fun z => absurd z (by omega), fun _ => ?_⟩
    unfold rst
    rw [if_neg (by omega)]
    refine ⟨x1, x2, relS_step x3 hn', ?_⟩
    have le1 := mN_mem (f := fun s => KP hd m T (m - r) x (hd (m - (r + 1)) l x c) s) (V := 536870912) (PL m r (P ||| 2 ^ x)) s1
    obtain ⟨s', t1, t2⟩ := mN_att (f := fun s => KP hd m T (m - r) x (hd (m - (r + 1)) l x c) s) (V := 536870912) (PL m r (P ||| 2 ^ x)) (by omega)
    have le2 := mN_mem (f := fun s => KP hd m T (m - (r + 1)) l c s) (V := 536870912) (PL m (r + 1) P) (mem_PL hx hb t1)
    have e2 : KP hd m T (m - (r + 1)) l c (x :: s') = KP hd m T (m - r) x (hd (m - (r + 1)) l x c) s' := by rw [KP_cons hn2, em]
    omega
