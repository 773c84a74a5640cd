/-! Orders.take. -/
def plF (r : Nat → Nat) (q : Nat) : Nat → Nat → Nat
  | 0, _ => 0
  | c + 1, j => if r j = q then j else plF r q c (j + 1)
theorem plF_r {r : Nat → Nat} {q : Nat} : ∀ (c j : Nat), (plF r q c j = 0 ∧ ∀ i, j ≤ i → i < j + c → r i ≠ q) ∨ (j ≤ plF r q c j ∧ plF r q c j < j + c ∧ r (plF r q c j) = q)
  | 0, j => Or.inl ⟨rfl, fun i h1 h2 => absurd h2 (by omega)⟩
  | c + 1, j => by
    unfold plF
    by_cases h : r j = q
    · rw [if_pos h]; exact Or.inr ⟨Nat.le_refl _, by omega, h⟩
    · rw [if_neg h]
      rcases plF_r c (j + 1) with ⟨h1, h2⟩ | ⟨h1, h2, h3⟩
      · refine Or.inl ⟨h1, fun i i1 i2 => ?_⟩
        by_cases e : i = j
        · subst e; exact h
        · exact h2 i (by omega) (by omega)
      · exact Or.inr ⟨by omega, by omega, h3⟩
theorem c_placeR_l (d : Nat) {k q : Nat} {r : Nat → Nat} {σ : jS} (hR : cRow σ k r) (hq : q < 10) : ∀ (c j : Nat), j + c + 1 = k → 1 ≤ j → b_Rw_placeOf_1 d (nI q) (nI j) σ = some (some (.int (nI (plF r q c j))), σ)
  | 0, j, hj, h1 => by
    obtain ⟨a1, a2, a3, a4⟩ := hR
    have e : nI k - 1 = nI j := by rw [show k = j + 1 by omega]; exact nI_pred j
    rw [q_Rw_placeOf_1, a3, e, jif_t (nI_le (Nat.le_refl _) (by omega)), q_Rw_placeOf_3]; rfl
  | c + 1, j, hj, h1 => by
    have hR' := hR
    obtain ⟨a1, a2, a3, a4⟩ := hR
    have e : nI k - 1 = nI (j + c + 1) := by rw [show k = j + c + 1 + 1 by omega]; exact nI_pred _
    obtain ⟨b1, b2⟩ := a4 j (by omega)
    rw [q_Rw_placeOf_1, a3, e, jif_f (nI_ge (by omega) (by omega)), rdI_ok (a := 70) (n := 10) rfl rfl (by omega) (by omega)]
    simp only [Option.bind_some]
    rw [b1]
    unfold plF
    by_cases h : r j = q
    · rw [jif_t (congrArg nI h), if_pos h]
    · rw [jif_f (fun z => h (nI_inj (by omega) (by omega) z)), if_neg h, q_Rw_placeOf_2, nI_1]
      exact c_placeR_l d hR' hq c (j + 1) (by omega) (by omega)
theorem c_placeR (d : Nat) {k q : Nat} {r : Nat → Nat} {σ : jS} (hR : cRow σ k r) (hq : q < 10) : g_Rw_placeOf (d + 1) (nI q) σ = some (some (.int (nI (plF r q (k - 2) 1))), σ) := by
  rw [e_Rw_placeOf, q_Rw_placeOf_0]
  exact c_placeR_l d hR hq (k - 2) 1 (by have := hR.1; omega) (Nat.le_refl _)
theorem c_isCarR (d : Nat) {k q : Nat} {r : Nat → Nat} {σ : jS} (hR : cRow σ k r) (hq : q < 10) : g_Rw_isCarrier (d + 2) (nI q) σ = some (some (.int (b2i (plF r q (k - 2) 1 ≠ 0))), σ) := by
  have hk := hR.2.1
  have hb := plF_r (r := r) (q := q) (k - 2) 1
  rw [e_Rw_isCarrier, q_Rw_isCarrier_0, c_placeR d hR hq, rI_s]
  simp only [Option.bind_some]
  rw [q_Rw_isCarrier_1, q_Rw_isCarrier_2, q_Rw_isCarrier_2]
  by_cases z : plF r q (k - 2) 1 = 0
  · rw [z, jif_t (show nI 0 ≤ 0 by decide), b2i_f (fun y => y rfl)]; rfl
  · rw [jif_f (nI_nle (by omega) (by omega)), b2i_t z]; rfl
/-- the carriers among those below p, n of them, by rising numbers -/
def tkI (σ : jS) (k p n : Nat) (r car hm : Nat → Nat) : Prop := (∀ i, i < n → σ.1 72 i = nI (car i) ∧ σ.1 73 i = nI (hm i) ∧ car i < p ∧ car i < 10 ∧ 1 ≤ hm i ∧ hm i + 1 < k ∧ r (hm i) = car i) ∧ (∀ i j, i < j → j < n → car i < car j) ∧ ∀ j, 1 ≤ j → j + 1 < k → r j < p → ∃ i, i < n ∧ hm i = j
theorem tkI.inj {σ : jS} {k p n : Nat} {r car hm : Nat → Nat} (h : tkI σ k p n r car hm) : ∀ i j, i < j → j < n → hm i ≠ hm j := fun i j h1 h2 e => by
  have a := (h.1 i (by omega)).2.2.2.2.2.2
  have b := (h.1 j h2).2.2.2.2.2.2
  have c := h.2.1 i j h1 h2
  rw [e] at a
  omega
theorem tkI.le {σ : jS} {k p n : Nat} {r car hm : Nat → Nat} (h : tkI σ k p n r car hm) (hk : 2 ≤ k) : n ≤ k - 2 := pigeon (k - 2) n (fun i => hm i - 1) (fun i hi => by have := h.1 i hi; omega) (fun i j h1 h2 e => by
  have a := h.1 i (by omega)
  have b := h.1 j h2
  exact h.inj i j h1 h2 (by omega))
theorem c_take1 (d : Nat) {t k A : Nat} {r : Nat → Nat} {co : Int32} (ht : jTe t) (hA : A ≤ 10) (hrk : ∀ i j, i < j → j < k → r i ≠ r j) : ∀ (c p n : Nat) (car hm : Nat → Nat) (σ : jS), p + c = A → σ.2.2 71 1 = t → σ.1 t 0 = nI A → cRow σ k r → σ.1 71 2 = nI n → tkI σ k p n r car hm →
    ∃ σ' n' car' hm', b_Or_take_1 (d + 2) co (nI p) σ = b_Or_take_3 (d + 2) co σ' ∧ jep (fun b j => b = 72 ∨ b = 73 ∨ (b = 71 ∧ j = 2)) σ σ' ∧ σ'.1 71 2 = nI n' ∧ tkI σ' k A n' r car' hm'
  | 0, p, n, car, hm, σ, hp, h1, h0, hR, hn, hI => by
    rw [q_Or_take_1, h1, (te_is ht).1, jc_t, h0, jif_t (nI_le (by omega) (by omega))]
    have e : p = A := by omega
    subst e
    exact ⟨σ, n, car, hm, rfl, jep.rf, hn, hI⟩
  | c + 1, p, n, car, hm, σ, hp, h1, h0, hR, hn, hI => by
    have hk := hR.2.1
    have hk2 := hR.1
    have htn : t < 70 := by rcases ht with rfl | rfl <;> omega
    rw [q_Or_take_1, h1, (te_is ht).1, jc_t, h0, jif_f (nI_ge (by omega) (by omega)), c_isCarR d hR (by omega), rI_s]
    simp only [Option.bind_some]
    rw [q_Or_take_2, nI_1]
    by_cases z : plF r p (k - 2) 1 = 0
    · rw [b2i_f (fun y => y z), jif_t rfl]
      have hno : ∀ i, 1 ≤ i → i < 1 + (k - 2) → r i ≠ p := by
        rcases plF_r (r := r) (q := p) (k - 2) 1 with y | y
        · exact y.2
        · omega
      refine c_take1 d ht hA hrk c (p + 1) n car hm σ (by omega) h1 h0 hR hn ⟨fun i hi => ?_, hI.2.1, fun j j1 j2 j3 => ?_⟩
      · obtain ⟨a1, a2, a3, a4⟩ := hI.1 i hi
        exact ⟨a1, a2, by omega, a4⟩
      · exact hI.2.2 j j1 j2 (by have := hno j j1 (by omega); omega)
    · have hpl : 1 ≤ plF r p (k - 2) 1 ∧ plF r p (k - 2) 1 < 1 + (k - 2) ∧ r (plF r p (k - 2) 1) = p := by
        rcases plF_r (r := r) (q := p) (k - 2) 1 with y | y
        · exact absurd y.1 z
        · exact y
      -- one more
      have hI' : ∀ σ2 : jS, (∀ i, i < n → σ2.1 72 i = σ.1 72 i ∧ σ2.1 73 i = σ.1 73 i) → σ2.1 72 n = nI p → σ2.1 73 n = nI (plF r p (k - 2) 1) → tkI σ2 k (p + 1) (n + 1) r (jup car n p) (jup hm n (plF r p (k - 2) 1)) := fun σ2 e1 e2 e3 => by
        refine ⟨fun i hi => ?_, fun i j i1 i2 => ?_, fun j j1 j2 j3 => ?_⟩
        · by_cases e : i = n
          · subst e
            rw [jup_s, jup_s]
            exact ⟨e2, e3, by omega, by omega, hpl.1, by omega, hpl.2.2⟩
          · rw [jup_n e, jup_n e, (e1 i (by omega)).1, (e1 i (by omega)).2]
            obtain ⟨a1, a2, a3, a4⟩ := hI.1 i (by omega)
            exact ⟨a1, a2, by omega, a4⟩
        · by_cases e : j = n
          · subst e
            rw [jup_s, jup_n (by omega)]
            exact (hI.1 i (by omega)).2.2.1
          · rw [jup_n e, jup_n (by omega)]
            exact hI.2.1 i j i1 (by omega)
        · by_cases e : r j = p
          · refine ⟨n, by omega, ?_⟩
            rw [jup_s]
            by_cases e2 : plF r p (k - 2) 1 = j
            · exact e2
            · exfalso
              have hh := hpl.2.2
              rcases Nat.lt_or_gt_of_ne e2 with y | y
              · exact hrk _ _ y (by omega) (hh.trans e.symm)
              · exact hrk _ _ y (by omega) (e.trans hh.symm)
          · obtain ⟨i, i1, i2⟩ := hI.2.2 j j1 j2 (by omega)
            exact ⟨i, by omega, by rw [jup_n (by omega)]; exact i2⟩
      have hn8 : n + 1 ≤ k - 2 := by
        have := (hI' (j_setI (j_setI σ 72 n (nI p)) 73 n (nI (plF r p (k - 2) 1))) (fun i hi => ⟨by rw [setI_ne (by omega), setI_nk (by omega)], by rw [setI_nk (by omega), setI_ne (by omega)]⟩) (by rw [setI_ne (by omega), setI_same]) (setI_same _ _ _ _)).le hk2
        exact this
      rw [b2i_t z, jif_f (by decide), hn, jif_f (show ¬ (8 : Int32) ≤ nI n from nI_ge (b := 8) (by omega) (by omega)), wrI_ok (a := 72) (n := 8) rfl rfl (by omega) (by omega)]
      simp only [Option.bind_some]
      have hR1 : cRow (j_setI σ 72 n (nI p)) k r := by
        obtain ⟨a1, a2, a3, a4⟩ := hR
        exact ⟨a1, a2, by rw [setI_ne (by omega)]; exact a3, fun j hj => by rw [setI_ne (by omega)]; exact a4 j hj⟩
      rw [c_placeR (d + 1) hR1 (by omega), rI_s]
      simp only [Option.bind_some]
      rw [setI_ne (by omega), hn, wrI_ok (a := 73) (n := 8) rfl rfl (by omega) (by omega)]
      simp only [Option.bind_some]
      rw [setI_ne (by omega), setI_ne (by omega), hn, nI_1, q_Or_take_2, nI_1]
      have S1 : jep (fun b j => b = 72 ∨ b = 73 ∨ (b = 71 ∧ j = 2)) σ (j_setI (j_setI (j_setI σ 72 n (nI p)) 73 n (nI (plF r p (k - 2) 1))) 71 2 (nI (n + 1))) := ((jep.rf.sI (Or.inl rfl)).sI (Or.inr (Or.inl rfl))).sI (Or.inr (Or.inr ⟨rfl, rfl⟩))
      have J1 := hI' (j_setI (j_setI (j_setI σ 72 n (nI p)) 73 n (nI (plF r p (k - 2) 1))) 71 2 (nI (n + 1))) (fun i hi => ⟨by rw [setI_ne (by omega), setI_ne (by omega), setI_nk (by omega)], by rw [setI_ne (by omega), setI_nk (by omega), setI_ne (by omega)]⟩) (by rw [setI_ne (by omega), setI_ne (by omega), setI_same]) (by rw [setI_ne (by omega), setI_same])
      have e2 : (j_setI (j_setI (j_setI σ 72 n (nI p)) 73 n (nI (plF r p (k - 2) 1))) 71 2 (nI (n + 1))).1 71 2 = nI (n + 1) := setI_same _ _ _ _
      generalize j_setI (j_setI (j_setI σ 72 n (nI p)) 73 n (nI (plF r p (k - 2) 1))) 71 2 (nI (n + 1)) = σ1 at *
      obtain ⟨σ', n', car', hm', g1, g2, g3, g4⟩ := c_take1 d ht hA hrk c (p + 1) (n + 1) _ _ σ1 (by omega) (by rw [(S1 71 1 (by omega)).2.2]; exact h1) (by rw [(S1 t 0 (by omega)).1]; exact h0) (by
        obtain ⟨a1, a2, a3, a4⟩ := hR
        exact ⟨a1, a2, by rw [(S1 69 0 (by omega)).1]; exact a3, fun j hj => by rw [(S1 70 j (by omega)).1]; exact a4 j hj⟩) e2 J1
      exact ⟨σ', n', car', hm', g1, S1.tr g2, g3, g4⟩
theorem c_take4 (d : Nat) {m C : Nat} (hm : m ≤ 8) (hC : C ≤ 999999) : ∀ (c p : Nat) (σ : jS), p + c = m + 2 → 1 ≤ p → σ.1 71 2 = nI m → ∃ σ', b_Or_take_4 d (nI C) (nI p) σ = b_Or_take_5 d σ' ∧ jep (fun b j => b = 74 ∧ p ≤ j) σ σ' ∧ ∀ q, p ≤ q → q ≤ m + 1 → σ'.1 74 q = nI (flO C q)
  | 0, p, σ, hp, h1, h2 => by
    rw [q_Or_take_4, h2, nI_1, jif_t (nI_lt (by omega) (by omega))]
    exact ⟨σ, rfl, jep.rf, fun q q1 q2 => absurd q2 (by omega)⟩
  | c + 1, p, σ, hp, h1, h2 => by
    have e : nI p - 1 = nI (p - 1) := pk_sub (a := p) (b := 1) h1
    rw [q_Or_take_4, h2, nI_1, jif_f (nI_nlt (by omega) (by omega)), e, pk_shrN (by omega) _ (p - 1) (s_l (p - 1) (by omega)), wrI_ok (a := 74) (n := 10) rfl rfl (by omega) (by omega)]
    simp only [Option.bind_some]
    rw [nI_1]
    obtain ⟨σ', g1, g2, g3⟩ := c_take4 d hm hC c (p + 1) (j_setI σ 74 p (nI (C / 2 ^ (p - 1)))) (by omega) (by omega) (by rw [setI_ne (by omega)]; exact h2)
    refine ⟨σ', g1, (jep.rf.sI (S := fun b j => b = 74 ∧ p ≤ j) ⟨rfl, Nat.le_refl _⟩).tr (g2.mono (fun b j q => ⟨q.1, by omega⟩)), fun q q1 q2 => ?_⟩
    by_cases e : q = p
    · subst e; rw [(g2 74 q (by omega)).1, setI_same]; rfl
    · exact g3 q (by omega) q2
/-- the odd one of the two -/
def o1 (f : Nat) : Nat := if f % 2 = 0 then f + 1 else f
theorem or_o1 {f : Nat} : nI f ||| 1 = nI (o1 f) := by
  have h := or_bit (S := f) (p := 0) (by omega)
  rw [show (1 : Int32) <<< (nI 0 &&& 31) = 1 by decide] at h
  rw [h]
  congr 1
  unfold o1
  have e1 : f ||| 2 ^ 0 = f ||| 1 := rfl
  rw [e1]
  by_cases z : f % 2 = 0
  · rw [if_pos z]
    have hh := Nat.two_pow_add_eq_or_of_lt (i := 1) (b := 1) (by decide) (f / 2)
    rw [show 2 ^ 1 * (f / 2) = f by rw [Nat.pow_one]; omega] at hh
    exact hh.symm
  · rw [if_neg z]
    apply Nat.eq_of_testBit_eq
    intro i
    rw [Nat.testBit_or]
    by_cases e : i = 0
    · subst e
      rw [Nat.testBit_zero, Nat.testBit_zero]
      simp; omega
    · have : Nat.testBit 1 i = false := by
        have := Nat.testBit_two_pow_of_ne (n := 0) (m := i) (by omega)
        exact this
      rw [this, Bool.or_false]
/-- whether the odd one stays at place p with i, x behind him (m: the one who gets) -/
def stO (σ : jS) (t m C : Nat) (car : Nat → Nat) (get : Nat) : Nat → Nat → Nat → Prop := fun p i x => lw_odd σ t 4 (nI (o1 (flO C p))) (σ.1 (t + 2) (car i)) (σ.1 (t + 2) (if x < m then car x else get)) (nI p) 0
def ta_S (t : Nat) : Nat → Nat → Prop := fun b _ => b = 75 ∨ b = t + 15 ∨ b = t + 16
/-- what the odd ones are asked by -/
def oaE (σ0 σ : jS) (t m C get : Nat) (car : Nat → Nat) : Prop := σ.2.2 71 1 = t ∧ σ.1 71 2 = nI m ∧ (∀ i, i < m → σ.1 72 i = nI (car i) ∧ car i < 10) ∧ get < 10 ∧ (∀ p, p ≤ m + 1 → σ.1 74 p = nI (flO C p)) ∧ lawE t σ0 σ ∧ laW σ0 t 4 ∧ σ.1 (t + 2) = σ0.1 (t + 2)
theorem oaE.fr {σ0 σ σ' : jS} {t m C get : Nat} {car : Nat → Nat} (ht : jTe t) (h : jep (ta_S t) σ σ') (g : oaE σ0 σ t m C get car) : oaE σ0 σ' t m C get car := by
  obtain ⟨g1, g2, g3, g4, g5, g6, g7, g8⟩ := g
  have no : ∀ b j, b ≠ 75 → b ≠ t + 15 → b ≠ t + 16 → σ'.1 b j = σ.1 b j := fun b j h1 h2 h3 => (h b j (fun q => by rcases q with q | q | q <;> omega)).1
  have htn : t + 16 < 70 := by rcases ht with rfl | rfl <;> omega
  refine ⟨by rw [(h 71 1 (fun q => by rcases q with q | q | q <;> omega)).2.2]; exact g1, by rw [no 71 2 (by omega) (by omega) (by omega)]; exact g2, fun i hi => by rw [no 72 i (by omega) (by omega) (by omega)]; exact g3 i hi, g4, fun p hp => by rw [no 74 p (by omega) (by omega) (by omega)]; exact g5 p hp, g6.tr (lawE.of_jep h (fun b j h1 h2 q => by rcases q with q | q | q <;> omega)), g7, ?_⟩
  rw [← g8]
  exact funext fun j => no (t + 2) j (by omega) (by omega) (by omega)
theorem c_askOne (d : Nat) {σ0 σ : jS} {t m C get p i x q : Nat} {car : Nat → Nat} (ht : jTe t) (hm : m ≤ 8) (hC : C ≤ 999999) (hE : oaE σ0 σ t m C get car) (hp : p ≤ m) (hi : i < m) (hx : x ≤ m) (hq : q = if x < m then car x else get) : ∃ σ', g_Or_askOddOne (d + 4) (nI p) (nI i) (nI x) (nI q) σ = some (none, σ') ∧ jep (fun b k => (b = 75 ∧ k = (p * 9 + i) * 9 + x) ∨ b = t + 15 ∨ b = t + 16) σ σ' ∧ σ'.1 75 ((p * 9 + i) * 9 + x) = b2i (stO σ0 t m C car get p i x) := by
  obtain ⟨g1, g2, g3, g4, g5, g6, g7, g8⟩ := hE
  obtain ⟨c1, c2⟩ := g3 i hi
  have hq10 : q < 10 := by
    rw [hq]
    by_cases z : x < m
    · rw [if_pos z]; exact (g3 x z).2
    · rw [if_neg z]; exact g4
  have htn : t + 16 < 70 := by rcases ht with rfl | rfl <;> omega
  have hw : g_Or_way (d + 3) (nI p) (nI i) (nI x) σ = some (some (.int (nI ((p * 9 + i) * 9 + x))), σ) := by
    rw [e_Or_way, q_Or_way_0, show (9 : Int32) = nI 9 from rfl, pk_mul, nI_add, pk_mul, nI_add]
  rw [e_Or_askOddOne, q_Or_askOddOne_0, g1, (te_is ht).1, jc_t, rdI_ok (a := 72) (n := 8) rfl rfl (by omega) (by omega)]
  simp only [Option.bind_some]
  rw [(te_cr ht).2.1, rdI_ok (te_len ht).2.1 c1 c2 (by omega)]
  simp only [Option.bind_some]
  rw [hw, rI_s]
  simp only [Option.bind_some]
  rw [g1, (te_is ht).1, jc_t, rdI_ok (a := 74) (n := 10) rfl rfl (by omega) (by omega)]
  simp only [Option.bind_some]
  rw [jc_t, (te_cr ht).2.1, rdI_ok (te_len ht).2.1 rfl hq10 (by omega)]
  simp only [Option.bind_some]
  rw [(te_cr ht).2.2.2.2.2.2.2.2.2, (te_is ht).2, jc_t, g5 p (by omega), or_o1]
  obtain ⟨σ1, o1', o2⟩ := c_oddStays d ht 4 (by omega) (nI (o1 (flO C p))) (σ.1 (t + 2) (car i)) (σ.1 (t + 2) q) (nI p) 0 σ (g6.W g7)
  have o1'' : g_La_oddStays (d + 3) (t + 10) 4 (nI (o1 (flO C p))) (σ.1 (t + 2) (car i)) (σ.1 (t + 2) q) (nI p) 0 σ = some (some (.int (b2i (lw_odd σ t 4 (nI (o1 (flO C p))) (σ.1 (t + 2) (car i)) (σ.1 (t + 2) q) (nI p) 0))), σ1) := o1'
  rw [o1'', rI_s]
  simp only [Option.bind_some]
  rw [wrZ_ok (a := 75) (n := 729) rfl rfl (by omega) (by omega) (b2i_01 _)]
  simp only [Option.bind_some]
  refine ⟨_, rfl, (jep.of o2 (fun b j h => Or.inr h)).sI (Or.inl ⟨rfl, rfl⟩), ?_⟩
  rw [setI_same, g8, hq]
  exact b2i_iff (g6.odd _ _ _ _ _)
