/-! Orders.take, whole; the row that is laid. -/
theorem c_ask3 (d : Nat) {σ0 : jS} {t m C get p i : Nat} {car : Nat → Nat} (ht : jTe t) (hm : m ≤ 8) (hC : C ≤ 999999) (hp : p < m) (hi : i < m) : ∀ (c a : Nat) (σ : jS), a + c = m → oaE σ0 σ t m C get car → ∃ σ', b_Or_askOddOnes_3 (d + 4) (nI get) (nI p) (nI i) (nI a) σ = b_Or_askOddOnes_4 (d + 4) (nI get) (nI p) (nI i) σ' ∧ jep (fun b k => (b = 75 ∧ (p * 9 + i) * 9 + a ≤ k ∧ k < (p * 9 + i) * 9 + 9) ∨ b = t + 15 ∨ b = t + 16) σ σ' ∧ ∀ x, a ≤ x → x < m → σ'.1 75 ((p * 9 + i) * 9 + x) = b2i (stO σ0 t m C car get p i x)
  | 0, a, σ, ha, hE => by
    rw [q_Or_askOddOnes_3, hE.2.1, jif_f (nI_ge hp (by omega)), jif_t (nI_le (by omega) (by omega))]
    exact ⟨σ, rfl, jep.rf, fun x h1 h2 => absurd h2 (by omega)⟩
  | c + 1, a, σ, ha, hE => by
    have htn : t + 16 < 40 := by rcases ht with rfl | rfl <;> omega
    obtain ⟨c1, c2⟩ := hE.2.2.1 a (by omega)
    rw [q_Or_askOddOnes_3, hE.2.1, jif_f (nI_ge hp (by omega)), jif_f (nI_ge (by omega) (by omega)), rdI_ok (a := 72) (n := 8) rfl rfl (by omega) (by omega)]
    simp only [Option.bind_some]
    obtain ⟨σ1, g1, g2, g3⟩ := c_askOne d (p := p) (i := i) (x := a) (q := car a) ht hm hC hE (by omega) hi (by omega) (by rw [if_pos (by omega)])
    rw [c1, g1, rV_s]
    simp only [Option.bind_some]
    rw [nI_1]
    obtain ⟨σ', p1, p2, p3⟩ := c_ask3 d ht hm hC hp hi c (a + 1) σ1 (by omega) (hE.fr ht (g2.mono (fun b k q => by unfold ta_S; omega)))
    refine ⟨σ', p1, (g2.mono (fun b k q => by omega)).tr (p2.mono (fun b k q => by omega)), fun x h1 h2 => ?_⟩
    by_cases e : x = a
    · subst e; rw [(p2 75 _ (by omega)).1, g3]
    · exact p3 x (by omega) h2
theorem c_ask_i (d : Nat) {σ0 : jS} {t m C get p i : Nat} {car : Nat → Nat} (ht : jTe t) (hm : m ≤ 8) (hC : C ≤ 999999) (hp : p ≤ m) (hi : i < m) (σ : jS) (hE : oaE σ0 σ t m C get car) : ∃ σ', b_Or_askOddOnes_3 (d + 4) (nI get) (nI p) (nI i) (nI 0) σ = b_Or_askOddOnes_5 (d + 4) (nI get) (nI p) (nI i) σ' ∧ jep (fun b k => (b = 75 ∧ (p * 9 + i) * 9 ≤ k ∧ k < (p * 9 + i) * 9 + 9) ∨ b = t + 15 ∨ b = t + 16) σ σ' ∧ ∀ x, (x < m ∧ p < m) ∨ (x = m ∧ p = m) → σ'.1 75 ((p * 9 + i) * 9 + x) = b2i (stO σ0 t m C car get p i x) := by
  have htn : t + 16 < 40 := by rcases ht with rfl | rfl <;> omega
  by_cases e : p = m
  · rw [q_Or_askOddOnes_3, hE.2.1, jif_t (nI_le (by omega) (by omega)), q_Or_askOddOnes_4, hE.2.1, jif_t (congrArg nI e)]
    obtain ⟨σ1, g1, g2, g3⟩ := c_askOne d (p := p) (i := i) (x := m) (q := get) ht hm hC hE hp hi (Nat.le_refl _) (by rw [if_neg (by omega)])
    rw [g1, rV_s]
    simp only [Option.bind_some]
    refine ⟨σ1, rfl, g2.mono (fun b k q => by omega), fun x hx => ?_⟩
    have ex : x = m := by omega
    subst ex
    exact g3
  · obtain ⟨σ1, g1, g2, g3⟩ := c_ask3 d ht hm hC (show p < m by omega) hi m 0 σ (by omega) hE
    have h2 : σ1.1 71 2 = nI m := by rw [(g2 71 2 (by omega)).1]; exact hE.2.1
    rw [g1, q_Or_askOddOnes_4, h2, jif_f (fun z => e (nI_inj (by omega) (by omega) z))]
    exact ⟨σ1, rfl, g2.mono (fun b k q => by omega), fun x hx => g3 x (by omega) (by omega)⟩
theorem c_ask2 (d : Nat) {σ0 : jS} {t m C get p : Nat} {car : Nat → Nat} (ht : jTe t) (hm : m ≤ 8) (hC : C ≤ 999999) (hp : p ≤ m) : ∀ (c a : Nat) (σ : jS), a + c = m → oaE σ0 σ t m C get car → ∃ σ', b_Or_askOddOnes_2 (d + 4) (nI get) (nI p) (nI a) σ = b_Or_askOddOnes_6 (d + 4) (nI get) (nI p) σ' ∧ jep (fun b k => (b = 75 ∧ (p * 9 + a) * 9 ≤ k ∧ k < (p * 9 + 9) * 9) ∨ b = t + 15 ∨ b = t + 16) σ σ' ∧ ∀ i x, a ≤ i → i < m → (x < m ∧ p < m) ∨ (x = m ∧ p = m) → σ'.1 75 ((p * 9 + i) * 9 + x) = b2i (stO σ0 t m C car get p i x)
  | 0, a, σ, ha, hE => by
    rw [q_Or_askOddOnes_2, hE.2.1, jif_t (nI_le (by omega) (by omega))]
    exact ⟨σ, rfl, jep.rf, fun i x h1 h2 => absurd h2 (by omega)⟩
  | c + 1, a, σ, ha, hE => by
    have htn : t + 16 < 40 := by rcases ht with rfl | rfl <;> omega
    obtain ⟨σ1, g1, g2, g3⟩ := c_ask_i d ht hm hC hp (show a < m by omega) σ hE
    have g1' : b_Or_askOddOnes_3 (d + 4) (nI get) (nI p) (nI a) 0 σ = b_Or_askOddOnes_5 (d + 4) (nI get) (nI p) (nI a) σ1 := g1
    rw [q_Or_askOddOnes_2, hE.2.1, jif_f (nI_ge (by omega) (by omega)), g1', q_Or_askOddOnes_5, nI_1]
    obtain ⟨σ', p1, p2, p3⟩ := c_ask2 d ht hm hC hp c (a + 1) σ1 (by omega) (hE.fr ht (g2.mono (fun b k q => by unfold ta_S; omega)))
    refine ⟨σ', p1, (g2.mono (fun b k q => by omega)).tr (p2.mono (fun b k q => by omega)), fun i x h1 h2 h3 => ?_⟩
    by_cases e : i = a
    · subst e; rw [(p2 75 _ (by omega)).1, g3 x h3]
    · exact p3 i x (by omega) h2 h3
theorem c_ask1 (d : Nat) {σ0 : jS} {t m C get : Nat} {car : Nat → Nat} (ht : jTe t) (hm : m ≤ 8) (hC : C ≤ 999999) : ∀ (c p : Nat) (σ : jS), p + c = m + 1 → oaE σ0 σ t m C get car → ∃ σ', b_Or_askOddOnes_1 (d + 4) (nI get) (nI p) σ = some (none, σ') ∧ jep (fun b k => (b = 75 ∧ p * 81 ≤ k) ∨ b = t + 15 ∨ b = t + 16) σ σ' ∧ ∀ q i x, p ≤ q → q ≤ m → i < m → (x < m ∧ q < m) ∨ (x = m ∧ q = m) → σ'.1 75 ((q * 9 + i) * 9 + x) = b2i (stO σ0 t m C car get q i x)
  | 0, p, σ, hp, hE => by
    rw [q_Or_askOddOnes_1, hE.2.1, jif_t (nI_lt (by omega) (by omega)), q_Or_askOddOnes_7]
    exact ⟨σ, rfl, jep.rf, fun q i x h1 h2 => absurd h2 (by omega)⟩
  | c + 1, p, σ, hp, hE => by
    have htn : t + 16 < 40 := by rcases ht with rfl | rfl <;> omega
    obtain ⟨σ1, g1, g2, g3⟩ := c_ask2 d ht hm hC (show p ≤ m by omega) m 0 σ (by omega) hE
    have g1' : b_Or_askOddOnes_2 (d + 4) (nI get) (nI p) 0 σ = b_Or_askOddOnes_6 (d + 4) (nI get) (nI p) σ1 := g1
    rw [q_Or_askOddOnes_1, hE.2.1, jif_f (nI_nlt (by omega) (by omega)), g1', q_Or_askOddOnes_6, nI_1]
    obtain ⟨σ', p1, p2, p3⟩ := c_ask1 d ht hm hC c (p + 1) σ1 (by omega) (hE.fr ht (g2.mono (fun b k q => by unfold ta_S; omega)))
    refine ⟨σ', p1, (g2.mono (fun b k q => by omega)).tr (p2.mono (fun b k q => by omega)), fun q i x h1 h2 h3 h4 => ?_⟩
    by_cases e : q = p
    · subst e; rw [(p2 75 _ (by omega)).1, g3 i x (by omega) h3 h4]
    · exact p3 q i x (by omega) h2 h3 h4
/-- what take writes -/
def to_S (t : Nat) : Nat → Nat → Prop := fun b _ => (71 ≤ b ∧ b ≤ 75) ∨ b = t + 15 ∨ b = t + 16
/-- the carriers by rising numbers, and their homes -/
def carP (k A : Nat) (r car hm : Nat → Nat) : Prop := (∀ i, i < k - 2 → car i < A ∧ 1 ≤ hm i ∧ hm i ≤ k - 2 ∧ r (hm i) = car i) ∧ (∀ i j, i < j → j < k - 2 → car i < car j) ∧ ∀ j, 1 ≤ j → j ≤ k - 2 → ∃ i, i < k - 2 ∧ hm i = j
theorem c_takeO (d : Nat) {t k A C : Nat} {r : Nat → Nat} (ht : jTe t) (hA : A ≤ 10) (hC : C ≤ 999999) (hrA : ∀ j, j < k → r j < A) (hrk : ∀ i j, i < j → j < k → r i ≠ r j) (σ : jS) (h0 : σ.1 t 0 = nI A) (hR : cRow σ k r) (hla : laW σ t 4) :
    ∃ σ' car hm, g_Or_take (d + 6) t (nI C) σ = some (none, σ') ∧ jep (to_S t) σ σ' ∧ OE σ' (k - 2) C car hm (stO σ t (k - 2) C car (r (k - 1))) ∧ carP k A r car hm := by
  have htn : t + 16 < 40 := by rcases ht with rfl | rfl <;> omega
  have hk := hR.2.1
  have hk2 := hR.1
  rw [e_Or_take, q_Or_take_0]
  have S0 : jep (to_S t) σ (j_setI (j_setR σ 71 1 t) 71 2 0) := (jep.rf.sR (Or.inl ⟨by omega, by omega⟩)).sI (Or.inl ⟨by omega, by omega⟩)
  have r0 : (j_setI (j_setR σ 71 1 t) 71 2 0).2.2 71 1 = t := by
    show (if 71 = 71 ∧ 1 = 1 then t else σ.2.2 71 1) = t
    rw [if_pos ⟨rfl, rfl⟩]
  have n0 : (j_setI (j_setR σ 71 1 t) 71 2 0).1 71 2 = nI 0 := setI_same _ _ _ _
  generalize j_setI (j_setR σ 71 1 t) 71 2 0 = σ1 at *
  have k1 : ∀ b j, ¬ (71 ≤ b ∧ b ≤ 75) → b ≠ t + 15 → b ≠ t + 16 → σ1.1 b j = σ.1 b j := fun b j h1 h2 h3 => (S0 b j (fun q => by unfold to_S at q; omega)).1
  have hR1 : cRow σ1 k r := by
    obtain ⟨a1, a2, a3, a4⟩ := hR
    exact ⟨a1, a2, by rw [k1 69 0 (by omega) (by omega) (by omega)]; exact a3, fun j hj => by rw [k1 70 j (by omega) (by omega) (by omega)]; exact a4 j hj⟩
  obtain ⟨σ2, n, car, hm, g1, g2, g3, g4⟩ := c_take1 (d + 3) (co := nI C) ht hA hrk A 0 0 (fun _ => 0) (fun _ => 0) σ1 (by omega) r0 (by rw [k1 t 0 (by omega) (by omega) (by omega)]; exact h0) hR1 n0 ⟨fun i hi => absurd hi (by omega), fun i j _ hj => absurd hj (by omega), fun j _ _ hj => absurd hj (by omega)⟩
  have hn1 := g4.le hk2
  have hn2 : k - 2 ≤ n := by
    have hsu : ∀ j, j < k - 2 → ∃ i, i < n ∧ hm i = j + 1 := fun j hj => g4.2.2 (j + 1) (by omega) (by omega) (hrA _ (by omega))
    refine pigeon n (k - 2) (fun j => if h : j < k - 2 then Classical.choose (hsu j h) else 0) (fun j hj => ?_) (fun i j h1 h2 e => ?_)
    · show (if h : j < k - 2 then Classical.choose (hsu j h) else 0) < n
      rw [dif_pos hj]; exact (Classical.choose_spec (hsu j hj)).1
    · have e' : (if h : i < k - 2 then Classical.choose (hsu i h) else 0) = (if h : j < k - 2 then Classical.choose (hsu j h) else 0) := e
      rw [dif_pos (show i < k - 2 by omega), dif_pos h2] at e'
      have a := (Classical.choose_spec (hsu i (by omega))).2
      have b := (Classical.choose_spec (hsu j h2)).2
      rw [e'] at a
      omega
  have en : n = k - 2 := by omega
  subst en
  have g1' : b_Or_take_1 (d + 5) (nI C) 0 σ1 = b_Or_take_3 (d + 5) (nI C) σ2 := g1
  rw [g1', q_Or_take_3, wrI_ok (a := 74) (n := 10) (i := 0) (k := 0) rfl rfl (by omega) (by omega)]
  simp only [Option.bind_some]
  obtain ⟨σ3, p1, p2, p3⟩ := c_take4 (d + 5) (m := k - 2) (C := C) (by omega) hC (k - 2 + 1) 1 (j_setI σ2 74 0 (nI C)) (by omega) (Nat.le_refl _) (by rw [setI_ne (by omega)]; exact g3)
  have p1' : b_Or_take_4 (d + 5) (nI C) 1 (j_setI σ2 74 0 (nI C)) = b_Or_take_5 (d + 5) σ3 := p1
  have S3 : jep (to_S t) σ σ3 := ((S0.tr (g2.mono (fun b k q => by unfold to_S; omega))).sI (Or.inl ⟨by omega, by omega⟩)).tr (p2.mono (fun b k q => by unfold to_S; omega))
  have k3 : ∀ b j, ¬ (71 ≤ b ∧ b ≤ 75) → b ≠ t + 15 → b ≠ t + 16 → σ3.1 b j = σ.1 b j := fun b j h1 h2 h3 => (S3 b j (fun q => by unfold to_S at q; omega)).1
  have e23 : ∀ b j, b ≠ 74 → σ3.1 b j = σ2.1 b j := fun b j hb => by rw [(p2 b j (by omega)).1, setI_ne hb]
  have f74 : ∀ p, p ≤ k - 2 + 1 → σ3.1 74 p = nI (flO C p) := fun p hp => by
    by_cases e : p = 0
    · subst e
      rw [(p2 74 0 (by omega)).1, setI_same, (flO_01 C).1]
    · exact p3 p (by omega) hp
  have hE : lawE t σ σ3 := lawE.of_jep S3 (fun b j h1 h2 q => by unfold to_S at q; omega)
  have oa : oaE σ σ3 t (k - 2) C (r (k - 1)) car := by
    refine ⟨?_, by rw [e23 71 2 (by omega)]; exact g3, fun i hi => ⟨by rw [e23 72 i (by omega)]; exact (g4.1 i hi).1, (g4.1 i hi).2.2.2.1⟩, by have := hrA (k - 1) (by omega); omega, f74, hE, hla, funext fun j => k3 (t + 2) j (by omega) (by omega) (by omega)⟩
    rw [(p2 71 1 (by omega)).2.2]
    show σ2.2.2 71 1 = t
    rw [(g2 71 1 (by omega)).2.2]
    exact r0
  rw [p1', q_Or_take_5, e_Or_askOddOnes, q_Or_askOddOnes_0]
  have e69 : σ3.1 69 0 - 1 = nI (k - 1) := by
    rw [k3 69 0 (by omega) (by omega) (by omega), hR.2.2.1]
    exact pk_sub (a := k) (b := 1) (by omega)
  rw [e69, rdI_ok (a := 70) (n := 10) rfl rfl (by omega) (by omega)]
  simp only [Option.bind_some]
  rw [k3 70 _ (by omega) (by omega) (by omega), (hR.2.2.2 (k - 1) (by omega)).1]
  obtain ⟨σ4, v1, v2, v3⟩ := c_ask1 d ht (show k - 2 ≤ 8 by omega) hC (k - 2) 1 σ3 (by omega) oa
  have v1' : b_Or_askOddOnes_1 (d + 4) (nI (r (k - 1))) 1 σ3 = some (none, σ4) := v1
  rw [v1', rV_s]
  simp only [Option.bind_some]
  have e34 : ∀ b j, b ≠ 75 → b ≠ t + 15 → b ≠ t + 16 → σ4.1 b j = σ3.1 b j := fun b j h1 h2 h3 => (v2 b j (by omega)).1
  refine ⟨σ4, car, hm, rfl, S3.tr (v2.mono (fun b k q => by unfold to_S; omega)), ⟨by omega, hC, ?_, fun i hi => ?_, fun p hp => ?_, fun p i x h1 h2 h3 h4 => v3 p i x h1 h2 h3 h4⟩, ⟨fun i hi => ?_, g4.2.1, fun j j1 j2 => ?_⟩⟩
  · rw [e34 71 2 (by omega) (by omega) (by omega)]; exact oa.2.1
  · obtain ⟨a1, a2, a3, a4, a5, a6, a7⟩ := g4.1 i hi
    rw [e34 72 i (by omega) (by omega) (by omega), e34 73 i (by omega) (by omega) (by omega), e23 72 i (by omega), e23 73 i (by omega)]
    exact ⟨a1, a4, a2, by omega⟩
  · rw [e34 74 p (by omega) (by omega) (by omega)]; exact f74 p hp
  · obtain ⟨a1, a2, a3, a4, a5, a6, a7⟩ := g4.1 i hi
    exact ⟨a3, a5, by omega, a7⟩
  · exact g4.2.2 j j1 (by omega) (hrA _ (by omega))
theorem getD_mem : ∀ (s : List Nat) (i : Nat), i < s.length → s.getD i 0 ∈ s
  | [], i, h => absurd h (Nat.not_lt_zero _)
  | x :: s, 0, _ => List.mem_cons_self
  | x :: s, i + 1, h => List.mem_cons_of_mem _ (getD_mem s i (by rw [List.length_cons] at h; omega))
/-- a row as a long -/
def shL (x i : Nat) : Int64 := (Int32.toInt64 (nI x)) <<< (Int32.toInt64 (4 * nI i) &&& 63)
def cdL (f : Nat → Nat) : Nat → Nat → Int64 → Int64
  | 0, _, a => a
  | n + 1, i, a => cdL f n (i + 1) (a ||| shL (f i) i)
theorem cdL_cong {f g : Nat → Nat} : ∀ (n i : Nat) (a : Int64), (∀ j, i ≤ j → j < i + n → f j = g j) → cdL f n i a = cdL g n i a
  | 0, _, _, _ => rfl
  | n + 1, i, a, h => by
    unfold cdL
    rw [h i (Nat.le_refl _) (by omega), cdL_cong n (i + 1) _ (fun j h1 h2 => h j (by omega) (by omega))]
theorem cdL_1 {f : Nat → Nat} : ∀ (n i : Nat) (a : Int64), cdL f (n + 1) i a = cdL f n i a ||| shL (f (i + n)) (i + n)
  | 0, i, a => rfl
  | n + 1, i, a => by
    show cdL f (n + 1) (i + 1) (a ||| shL (f i) i) = _
    rw [cdL_1 n (i + 1) _, show i + 1 + n = i + (n + 1) by omega]
    rfl
theorem m_rowAsLong (d : Nat) {k : Nat} {r : Nat → Nat} {σ : jS} (hR : mRow σ k r) : g_M_rowAsLong (d + 1) σ = some (some (.long (cdL r k 0 0)), σ) := by
  have lp : ∀ (c i : Nat) (a : Int64), i + c = k → b_M_rowAsLong_1 d a (nI i) σ = some (some (.long (cdL r c i a)), σ) := by
    intro c
    induction c with
    | zero =>
      intro i a hi
      rw [q_M_rowAsLong_1, hR.2.2.1, jif_t (nI_le (by omega) (by have := hR.2.1; omega)), q_M_rowAsLong_2]; rfl
    | succ c ih =>
      intro i a hi
      have hk := hR.2.1
      rw [q_M_rowAsLong_1, hR.2.2.1, jif_f (nI_ge (by omega) (by omega)), rdI_ok (a := 114) (n := 10) rfl rfl (by omega) (by omega)]
      simp only [Option.bind_some]
      rw [(hR.2.2.2 i (by omega)).1, nI_1, ih (i + 1) _ (by omega)]
      rfl
  rw [e_M_rowAsLong, q_M_rowAsLong_0]
  exact lp k 0 0 (by omega)
/-- the row by a path -/
def rF (k : Nat) (r car : Nat → Nat) (s : List Nat) : Nat → Nat := fun i => if i = 0 then r 0 else if i ≤ k - 2 then car (s.getD (i - 1) 0) else r (k - 1)
theorem c_layW (d : Nat) {m C aim T rest : Nat} {car hm : Nat → Nat} {st : Nat → Nat → Nat → Prop} (ha3 : aim ≤ 3) (hT2 : T < 2 ^ 31) (σ : jS) (hO : OE σ m C car hm st) (ha : σ.1 71 10 = nI aim) (hT : σ.1 71 11 = nI T) (hTB : TBL σ (hdO st) (ovO m hm) m C aim T 0) (h : PRM (hdO st) (ovO m hm) m aim T m 0 0 C rest) :
    ∃ σ' s, g_Or_lay (d + 5) (nI rest) σ = some (none, σ') ∧ jep (fun b k => b = 77 ∨ (b = 71 ∧ k = 9)) σ σ' ∧ fN (Qp (hdO st) (ovO m hm) m aim T 0 0 0 C rest) (PL m m 0) = some s ∧ (aim ≤ 1 → σ'.1 71 9 = nI m ∧ ∀ i, i < m → σ'.1 77 i = nI (s.getD i 0)) ∧ (2 ≤ aim → σ'.1 71 9 = nI (plc T s)) := by
  obtain ⟨g1, g2, g3, g4, g5, g6⟩ := id hO
  have S1 : jep (fun b k => b = 77 ∨ (b = 71 ∧ k = 9)) σ (j_setI σ 71 9 0) := jep.rf.sI (Or.inr ⟨rfl, rfl⟩)
  have e0 : pc 0 = 0 := by decide
  have v9 : (j_setI σ 71 9 0).1 71 9 = nI (pc 0) := by rw [setI_same, e0]; rfl
  rw [e_Or_lay, q_Or_lay_0, rdI_ok (a := 74) (n := 10) (i := 0) (k := 0) rfl rfl (by omega) (by omega)]
  simp only [Option.bind_some]
  rw [g5 0 (by omega), (flO_01 C).1]
  generalize j_setI σ 71 9 0 = σ1 at *
  obtain ⟨σ', s, p1, p2, p3, p4, p5⟩ := c_lay_l d ha3 hT2 m 0 0 C rest σ1 (hO.fr (S1.mono (fun b k q => by unfold or_S; omega))) (by rw [(S1 71 10 (by omega)).1]; exact ha) (by rw [(S1 71 11 (by omega)).1]; exact hT) (fun P' h1 h2 l h3 h4 e h5 => by rw [(S1 76 _ (by omega)).1]; exact hTB P' h1 h2 l h3 h4 e h5) v9 (by rw [e0]; omega) (Nat.two_pow_pos _) (fun z => absurd rfl z) (by omega) (Or.inl (by rw [e0, (flO_01 C).1])) g2 h
  rw [Nat.sub_self] at p3
  rw [e0] at p4 p5
  refine ⟨σ', s, p1, S1.tr (p2.mono (fun b k q => by omega)), p3, fun z => ⟨(p4 z).1, fun i hi => ?_⟩, fun z => ?_⟩
  · have := (p4 z).2 i hi
    rw [Nat.zero_add] at this
    exact this
  · have := p5 z
    rw [if_neg (fun y => y.1 rfl), Nat.zero_add] at this
    exact this
theorem c_laidRow (d : Nat) {k C aim T rest : Nat} {r car hm : Nat → Nat} {st : Nat → Nat → Nat → Prop} (ha1 : aim ≤ 1) (hT2 : T < 2 ^ 31) (σ : jS) (hR : cRow σ k r) (hO : OE σ (k - 2) C car hm st) (ha : σ.1 71 10 = nI aim) (hT : σ.1 71 11 = nI T) (hTB : TBL σ (hdO st) (ovO (k - 2) hm) (k - 2) C aim T 0) (h : PRM (hdO st) (ovO (k - 2) hm) (k - 2) aim T (k - 2) 0 0 C rest) :
    ∃ σ' s, g_Or_laidRow (d + 6) (nI rest) σ = some (some (.long (cdL (rF k r car s) k 0 0)), σ') ∧ jep (fun b k => b = 77 ∨ (b = 71 ∧ k = 9)) σ σ' ∧ fN (Qp (hdO st) (ovO (k - 2) hm) (k - 2) aim T 0 0 0 C rest) (PL (k - 2) (k - 2) 0) = some s := by
  obtain ⟨σ1, s, p1, p2, p3, p4, -⟩ := c_layW d (by omega) hT2 σ hO ha hT hTB h
  obtain ⟨q1, q2⟩ := p4 ha1
  obtain ⟨b1, b2, b3, b4⟩ := id hR
  have hsm : s ∈ PL (k - 2) (k - 2) 0 := by
    obtain ⟨s', t1, t2, -⟩ := fN_some (Q := Qp (hdO st) (ovO (k - 2) hm) (k - 2) aim T ((k - 2) - (k - 2)) 0 0 C rest) (PL (k - 2) (k - 2) 0) (h.ex (by omega))
    rw [Nat.sub_self, p3] at t1
    cases t1
    exact t2
  obtain ⟨hl, hy⟩ := PL_size _ _ _ hsm
  have hsi : ∀ i, i < k - 2 → s.getD i 0 < k - 2 := fun i hi => by
    exact hy _ (getD_mem s i (by omega))
  have k1 : ∀ b j, b ≠ 77 → b ≠ 71 → σ1.1 b j = σ.1 b j := fun b j h1 h2 => (p2 b j (by omega)).1
  have pl : ∀ (d x i : Nat) (σ : jS), g_Rw_placed (d + 1) (nI x) (nI i) σ = some (some (.long (shL x i)), σ) := fun d x i σ => by
    rw [e_Rw_placed, q_Rw_placed_0]; rfl
  have lp : ∀ (c i : Nat) (a : Int64), i + c = k - 2 → b_Or_laidRow_1 (d + 5) a (nI i) σ1 = b_Or_laidRow_2 (d + 5) (cdL (rF k r car s) c (i + 1) a) σ1 := by
    intro c
    induction c with
    | zero =>
      intro i a hi
      rw [q_Or_laidRow_1, q1, jif_t (nI_le (by omega) (by omega))]; rfl
    | succ c ih =>
      intro i a hi
      obtain ⟨z1, z2, -, -⟩ := hO.2.2.2.1 (s.getD i 0) (hsi i (by omega))
      rw [q_Or_laidRow_1, q1, jif_f (nI_ge (by omega) (by omega)), rdI_ok (a := 77) (n := 8) rfl rfl (by omega) (by omega)]
      simp only [Option.bind_some]
      rw [q2 i (by omega), rdI_ok (a := 72) (n := 8) rfl rfl (by have := hsi i (by omega); omega) (by omega)]
      simp only [Option.bind_some]
      rw [k1 72 _ (by omega) (by omega), z1, nI_1, pl (d + 4), rL_s]
      simp only [Option.bind_some]
      rw [ih (i + 1) _ (by omega)]
      have e : rF k r car s (i + 1) = car (s.getD i 0) := by
        unfold rF
        rw [if_neg (by omega), if_pos (by omega), Nat.add_sub_cancel]
      show _ = b_Or_laidRow_2 (d + 5) (cdL (rF k r car s) c (i + 1 + 1) (a ||| shL (rF k r car s (i + 1)) (i + 1))) σ1
      rw [e]
  rw [e_Or_laidRow, q_Or_laidRow_0, p1, rV_s]
  simp only [Option.bind_some]
  rw [rdI_ok (a := 70) (n := 10) (i := 0) (k := 0) rfl rfl (by omega) (by omega), k1 70 0 (by omega) (by omega), (b4 0 (by omega)).1]
  simp only [Option.bind_some]
  have pl0 : g_Rw_placed (d + 5) (nI (r 0)) 0 σ1 = some (some (.long (shL (r 0) 0)), σ1) := pl (d + 4) (r 0) 0 σ1
  have lp0 : b_Or_laidRow_1 (d + 5) (shL (r 0) 0) 0 σ1 = b_Or_laidRow_2 (d + 5) (cdL (rF k r car s) (k - 2) 1 (shL (r 0) 0)) σ1 := lp (k - 2) 0 _ (by omega)
  have e69 : σ1.1 69 0 - 1 = nI (k - 1) := by
    rw [k1 69 0 (by omega) (by omega), b3]
    exact pk_sub (a := k) (b := 1) (by omega)
  rw [pl0, rL_s]
  simp only [Option.bind_some]
  rw [lp0, q_Or_laidRow_2, e69, rdI_ok (a := 70) (n := 10) rfl rfl (by omega) (by omega)]
  simp only [Option.bind_some]
  rw [k1 70 _ (by omega) (by omega), (b4 (k - 1) (by omega)).1, pl (d + 4), rL_s]
  simp only [Option.bind_some]
  refine ⟨σ1, s, ?_, p2, p3⟩
  obtain ⟨m, rfl⟩ : ∃ m, k = m + 2 := ⟨k - 2, by omega⟩
  have e1 : cdL (rF (m + 2) r car s) (m + 2) 0 0 = cdL (rF (m + 2) r car s) m 1 (shL (r 0) 0) ||| shL (r (m + 1)) (m + 1) := by
    show cdL (rF (m + 2) r car s) (m + 1) (0 + 1) (0 ||| shL (rF (m + 2) r car s 0) 0) = _
    rw [cdL_1, Int64.zero_or]
    have f0 : rF (m + 2) r car s 0 = r 0 := if_pos rfl
    have f1 : rF (m + 2) r car s (0 + 1 + m) = r (m + 1) := by
      unfold rF
      rw [if_neg (by omega), if_neg (by omega)]
      rfl
    rw [f0, f1, show 0 + 1 + m = m + 1 by omega]
  rw [e1]
  rfl
