/-! The class's Orders. -/
theorem c_bitCount (d : Nat) (P : Nat) (hP : P < 256) (σ : jS) : g_Ji_bitCount (d + 1) (nI P) σ = some (some (.int (nI (pc P))), σ) := by
  rw [e_Ji_bitCount, q_Ji_bitCount_0]
  refine congrArg (fun z => some (some (Value.int z), σ)) ?_
  revert P
  decide +kernel
theorem bit_0 {P x : Nat} (hP : P < 256) (hx : x < 31) : ((nI P >>> (nI x &&& 31)) &&& 1 = 0) ↔ P.testBit x = false := by
  rw [pk_shrN (by omega) _ x (s_l x (by omega)), nI_a1, Nat.testBit_eq_decide_div_mod_eq, decide_eq_false_iff_not]
  refine (nI_eq (b := 0) (by omega) (by omega)).trans ?_
  omega
theorem c_has (d : Nat) {P x : Nat} (hP : P < 256) (hx : x < 31) (σ : jS) : g_Or_has (d + 1) (nI P) (nI x) σ = some (some (.int (b2i (P.testBit x = true))), σ) := by
  rw [e_Or_has, q_Or_has_0, q_Or_has_1, q_Or_has_2, q_Or_has_2]
  by_cases h : P.testBit x = false
  · rw [jif_t ((bit_0 hP hx).mpr h), b2i_f (by rw [h]; decide)]; rfl
  · rw [jif_f (fun z => h ((bit_0 hP hx).mp z)), b2i_t (by cases e : P.testBit x <;> simp_all)]; rfl
/-- what is handed on at place p by l to x -/
noncomputable def hdO (st : Nat → Nat → Nat → Prop) (p l x c : Nat) : Nat := if p = 0 then c else @ite _ (c % 2 = 1 ∧ ¬ st p l x) (Classical.propDecidable _) (c / 2 + 1) (c / 2)
def ovN (hm : Nat → Nat) (P x : Nat) : Nat → Nat → Nat
  | 0, _ => 0
  | c + 1, a => (if P.testBit a = false ∧ hm a < hm x then 1 else 0) + ovN hm P x c (a + 1)
def ovO (m : Nat) (hm : Nat → Nat) (P x : Nat) : Nat := ovN hm P x m 0
theorem ovN_le {hm : Nat → Nat} {P x : Nat} : ∀ (c a : Nat), ovN hm P x c a ≤ c
  | 0, _ => Nat.le_refl _
  | c + 1, a => by
    have := ovN_le (hm := hm) (P := P) (x := x) c (a + 1)
    unfold ovN
    by_cases h : P.testBit a = false ∧ hm a < hm x
    · rw [if_pos h]; omega
    · rw [if_neg h]; omega
theorem hdO_le (st : Nat → Nat → Nat → Prop) (p l x c : Nat) : hdO st p l x c ≤ c := by
  unfold hdO
  by_cases h : p = 0
  · rw [if_pos h]; exact Nat.le_refl _
  · rw [if_neg h]
    by_cases q : c % 2 = 1 ∧ ¬ st p l x
    · rw [if_pos q]; have := q.1; omega
    · rw [if_neg q]; omega
/-- floors of C coins -/
def flO (C p : Nat) : Nat := C / 2 ^ (p - 1)
theorem flO_s (C p : Nat) (hp : p ≠ 0) : flO C (p + 1) = flO C p / 2 := by
  unfold flO
  rw [show p + 1 - 1 = (p - 1) + 1 by omega, Nat.pow_succ, Nat.div_div_eq_div_mul]
theorem flO_le (C p : Nat) : flO C p ≤ C := Nat.div_le_self _ _
theorem flO_01 (C : Nat) : flO C 0 = C ∧ flO C 1 = C := ⟨Nat.div_one _, Nat.div_one _⟩
theorem hd_fl {st : Nat → Nat → Nat → Prop} {C p l x c : Nat} (h : c = flO C p ∨ (p ≠ 0 ∧ c = flO C p + 1)) : hdO st p l x c = flO C (p + 1) ∨ hdO st p l x c = flO C (p + 1) + 1 := by
  unfold hdO
  by_cases e : p = 0
  · subst e
    rw [if_pos rfl]
    left
    rcases h with h | h
    · rw [h, (flO_01 C).1, (flO_01 C).2]
    · exact absurd rfl h.1
  · rw [if_neg e, flO_s C p e]
    by_cases q : c % 2 = 1 ∧ ¬ st p l x
    · rw [if_pos q]; have := q.1; omega
    · rw [if_neg q]; omega
/-- what Orders holds behind take -/
def OE (σ : jS) (m C : Nat) (car hm : Nat → Nat) (st : Nat → Nat → Nat → Prop) : Prop := m ≤ 8 ∧ C ≤ 999999 ∧ σ.1 71 2 = nI m ∧ (∀ i, i < m → σ.1 72 i = nI (car i) ∧ car i < 10 ∧ σ.1 73 i = nI (hm i) ∧ hm i ≤ 8) ∧ (∀ p, p ≤ m + 1 → σ.1 74 p = nI (flO C p)) ∧ ∀ p i x, 1 ≤ p → p ≤ m → i < m → (x < m ∧ p < m) ∨ (x = m ∧ p = m) → σ.1 75 ((p * 9 + i) * 9 + x) = b2i (st p i x)
def or_S : Nat → Nat → Prop := fun b k => b = 76 ∨ b = 77 ∨ (b = 71 ∧ 9 ≤ k)
theorem OE.fr {σ σ' : jS} {m C : Nat} {car hm : Nat → Nat} {st : Nat → Nat → Nat → Prop} (h : jep or_S σ σ') (g : OE σ m C car hm st) : OE σ' m C car hm st := by
  obtain ⟨g1, g2, g3, g4, g5, g6⟩ := g
  refine ⟨g1, g2, by rw [(h 71 2 (fun q => by unfold or_S at q; omega)).1]; exact g3, fun i hi => ?_, fun p hp => ?_, fun p i x h1 h2 h3 h4 => ?_⟩
  · rw [(h 72 i (fun q => by unfold or_S at q; omega)).1, (h 73 i (fun q => by unfold or_S at q; omega)).1]; exact g4 i hi
  · rw [(h 74 p (fun q => by unfold or_S at q; omega)).1]; exact g5 p hp
  · rw [(h 75 _ (fun q => by unfold or_S at q; omega)).1]; exact g6 p i x h1 h2 h3 h4
theorem c_handed (d : Nat) {σ : jS} {m C : Nat} {car hm : Nat → Nat} {st : Nat → Nat → Nat → Prop} (hO : OE σ m C car hm st) {P l c x : Nat} (hP : P < 2 ^ m) (hl : P ≠ 0 → l < m) (hc : c ≤ 1000000) (hx : (x < m ∧ pc P < m) ∨ (x = m ∧ pc P = m)) : g_Or_handed (d + 2) (nI P) (nI l) (nI c) (nI x) σ = some (some (.int (nI (hdO st (pc P) l x c))), σ) := by
  obtain ⟨g1, g2, g3, g4, g5, g6⟩ := hO
  have h256 := m256 g1 hP
  have hz := pc_zero P h256
  have hpm := pc_le m (by omega) P h256 hP
  rw [e_Or_handed, q_Or_handed_0]
  unfold hdO
  by_cases e : P = 0
  · have hz0 := hz.mpr e
    rw [if_pos hz0, e, jif_t nI_0]
  · rw [jif_f (nI_ne0 (by omega) (by omega)), if_neg (fun z => e (hz.mp z)), q_Or_handed_1]
    have f0 : b_Or_handed_3 (d + 1) (nI c) 0 σ = some (some (.int (nI (c / 2))), σ) := by
      rw [q_Or_handed_3, jif_t rfl, q_Or_handed_4, q_Or_handed_5, nI_half (by omega)]
    have f1 : b_Or_handed_3 (d + 1) (nI c) 1 σ = some (some (.int (nI (c / 2 + 1))), σ) := by
      rw [q_Or_handed_3, jif_f (by decide), q_Or_handed_5, nI_half (by omega), nI_1]
    by_cases o : c % 2 = 0
    · rw [jif_t ((nI_odd (by omega)).mpr o), q_Or_handed_2, if_neg (fun z => by have := z.1; omega)]
      exact f0
    · rw [jif_f (fun z => o ((nI_odd (by omega)).mp z)), c_bitCount d P h256, rI_s]
      simp only [Option.bind_some]
      have hw : g_Or_way (d + 1) (nI (pc P)) (nI l) (nI x) σ = some (some (.int (nI ((pc P * 9 + l) * 9 + x))), σ) := by
        rw [e_Or_way, q_Or_way_0, show (9 : Int32) = nI 9 from rfl, pk_mul, nI_add, pk_mul, nI_add]
      have hp1 : pc P ≠ 0 := fun z => e (hz.mp z)
      have hl' := hl e
      rw [hw, rI_s]
      simp only [Option.bind_some]
      rw [rdI_ok (a := 75) (n := 729) rfl rfl (by omega) (by omega)]
      simp only [Option.bind_some]
      rw [g6 (pc P) l x (by omega) hpm hl' hx]
      by_cases s : st (pc P) l x
      · rw [b2i_t s, jif_f (by decide), q_Or_handed_2, if_neg (fun z => z.2 s)]
        exact f0
      · rw [b2i_f s, jif_t rfl, if_pos ⟨by omega, s⟩]
        exact f1
theorem c_asked (d : Nat) {σ : jS} {aim T P l : Nat} (ha : σ.1 71 10 = nI aim) (ha3 : aim ≤ 3) (hT : σ.1 71 11 = nI T) (hT2 : T < 2 ^ 31) (hP : P < 256) (hl : l < 2 ^ 31) : g_Or_isAskedOf (d + 1) (nI P) (nI l) σ = some (some (.int (b2i ((aim = 2 ∨ aim = 3) ∧ P ≠ 0 ∧ l = T))), σ) := by
  rw [e_Or_isAskedOf, q_Or_isAskedOf_0, ha, q_Or_isAskedOf_2, q_Or_isAskedOf_3]
  have f1 : (aim = 2 ∨ aim = 3) → b_Or_isAskedOf_1 d (nI P) (nI l) σ = some (some (.int (b2i ((aim = 2 ∨ aim = 3) ∧ P ≠ 0 ∧ l = T))), σ) := fun h => by
    rw [q_Or_isAskedOf_1, hT, q_Or_isAskedOf_2, q_Or_isAskedOf_3, q_Or_isAskedOf_3]
    by_cases e : P = 0
    · rw [e, jif_t nI_0, b2i_f (fun z => z.2.1 rfl)]; rfl
    · rw [jif_f (nI_ne0 (by omega) (by omega))]
      by_cases z : l = T
      · rw [jif_t (congrArg nI z), b2i_t ⟨h, e, z⟩]; rfl
      · rw [jif_f (fun y => z (nI_inj hl hT2 y)), b2i_f (fun y => z y.2.2)]; rfl
  by_cases a2 : aim = 2
  · rw [jif_t (show nI aim = 2 by rw [a2]; rfl)]; exact f1 (Or.inl a2)
  · rw [jif_f (show ¬ nI aim = 2 from fun z => a2 (nI_inj (b := 2) (by omega) (by omega) z))]
    by_cases a3 : aim = 3
    · rw [jif_t (show nI aim = 3 by rw [a3]; rfl)]; exact f1 (Or.inr a3)
    · rw [jif_f (show ¬ nI aim = 3 from fun z => a3 (nI_inj (b := 3) (by omega) (by omega) z)), b2i_f (fun z => z.1.elim a2 a3)]; rfl
theorem c_over_l (d : Nat) {σ : jS} {m C : Nat} {car hm : Nat → Nat} {st : Nat → Nat → Nat → Prop} (hO : OE σ m C car hm st) {P x : Nat} (hP : P < 256) (hx : x < m) : ∀ (c a k : Nat), a + c = m → b_Or_overtaken_1 (d + 1) (nI P) (nI x) (nI k) (nI a) σ = some (some (.int (nI (k + ovN hm P x c a))), σ)
  | 0, a, k, ha => by
    obtain ⟨g1, g2, g3, g4, g5, g6⟩ := hO
    rw [q_Or_overtaken_1, g3, jif_t (nI_le (by omega) (by omega)), q_Or_overtaken_3]; rfl
  | c + 1, a, k, ha => by
    have hO' := hO
    obtain ⟨g1, g2, g3, g4, g5, g6⟩ := hO
    obtain ⟨-, -, y1, y2⟩ := g4 a (by omega)
    obtain ⟨-, -, z1, z2⟩ := g4 x hx
    rw [q_Or_overtaken_1, g3, jif_f (nI_ge (by omega) (by omega)), c_has d hP (by omega), rI_s]
    simp only [Option.bind_some]
    unfold ovN
    by_cases b : P.testBit a = true
    · rw [b2i_t b, jif_f (by decide), q_Or_overtaken_2, nI_1, c_over_l d hO' hP hx c (a + 1) k (by omega), if_neg (fun z => by rw [b] at z; exact absurd z.1 (by decide)), Nat.zero_add]
    · have b' : P.testBit a = false := by cases e : P.testBit a <;> simp_all
      rw [b2i_f b, jif_t rfl, rdI_ok (a := 73) (n := 8) rfl rfl (by omega) (by omega)]
      simp only [Option.bind_some]
      rw [rdI_ok (a := 73) (n := 8) rfl rfl (by omega) (by omega)]
      simp only [Option.bind_some]
      rw [y1, z1]
      by_cases q : hm a < hm x
      · rw [jif_f (nI_ge q (by omega)), q_Or_overtaken_2, nI_1, nI_1, c_over_l d hO' hP hx c (a + 1) (k + 1) (by omega), if_pos ⟨b', q⟩, show k + (1 + ovN hm P x c (a + 1)) = k + 1 + ovN hm P x c (a + 1) by omega]
      · rw [jif_t (nI_le (by omega) (by omega)), q_Or_overtaken_2, nI_1, c_over_l d hO' hP hx c (a + 1) k (by omega), if_neg (fun z => q z.2), Nat.zero_add]
theorem c_overtaken (d : Nat) {σ : jS} {m C : Nat} {car hm : Nat → Nat} {st : Nat → Nat → Nat → Prop} (hO : OE σ m C car hm st) {P x : Nat} (hP : P < 256) (hx : x < m) : g_Or_overtaken (d + 2) (nI P) (nI x) σ = some (some (.int (nI (ovO m hm P x))), σ) := by
  rw [e_Or_overtaken, q_Or_overtaken_0]
  have := c_over_l d hO hP hx m 0 0 (by omega)
  rw [Nat.zero_add] at this
  exact this
theorem c_joined' (d : Nat) {σ : jS} {aim : Nat} (ha : σ.1 71 10 = nI aim) (ha3 : aim ≤ 3) (a b : Int32) : g_Or_joined (d + 1) a b σ = some (some (.int (jJoin aim a b)), σ) := by
  rw [e_Or_joined, q_Or_joined_0, ha]
  unfold jJoin
  by_cases a0 : aim = 0
  · rw [a0, jif_t nI_0, if_pos rfl, q_Or_joined_1]
  rw [jif_f (nI_ne0 (by omega) (by omega)), if_neg a0]
  by_cases a2 : aim = 2
  · rw [jif_t (show nI aim = 2 by rw [a2]; rfl), if_pos a2, q_Or_joined_2]
  · rw [jif_f (show ¬ nI aim = 2 from fun z => a2 (nI_inj (b := 2) (by omega) (by omega) z)), if_neg a2, q_Or_joined_3]
theorem c_stateN (d : Nat) (P l e : Nat) (σ : jS) : g_Or_state (d + 1) (nI P) (nI l) (nI e) σ = some (some (.int (nI ((P * 8 + l) * 2 + e))), σ) := by
  rw [e_Or_state, q_Or_state_0, show (8 : Int32) = nI 8 from rfl, show (2 : Int32) = nI 2 from rfl, pk_mul, nI_add, pk_mul, nI_add]
theorem or_1 {P x : Nat} (hx : x < 31) : nI P ||| ((1 : Int32) <<< (nI x &&& 31)) = nI (P ||| 2 ^ x) := or_bit hx
theorem c_step (d : Nat) {σ : jS} {m C aim T : Nat} {car hm : Nat → Nat} {st : Nat → Nat → Nat → Prop} (hO : OE σ m C car hm st) (ha : σ.1 71 10 = nI aim) (ha3 : aim ≤ 3) (hT : σ.1 71 11 = nI T) (hT2 : T < 2 ^ 31) {P l c x : Nat} (hP : P < 2 ^ m) (hl : P ≠ 0 → l < m) (hl2 : l < 8) (hx : x < m) (hb : P.testBit x = false) (hpc : pc P < m) (hc : c = flO C (pc P) ∨ (pc P ≠ 0 ∧ c = flO C (pc P) + 1)) {G : Int32}
    (hG : ∀ e, e ≤ 1 → hdO st (pc P) l x c = flO C (pc P + 1) + e → σ.1 76 (((P ||| 2 ^ x) * 8 + x) * 2 + e) = G) : g_Or_judgedStep (d + 3) (nI P) (nI l) (nI c) (nI x) σ = some (some (.int (jStp (hdO st) (ovO m hm) aim T (pc P) P l c x G)), σ) := by
  obtain ⟨g1, g2, g3, g4, g5, g6⟩ := id hO
  have h256 := m256 g1 hP
  have hfl := flO_le C (pc P)
  have hfl1 := flO_le C (pc P + 1)
  have hc2 : c ≤ 1000000 := by omega
  have hhl := hdO_le st (pc P) l x c
  have hor := or_lt hP hx
  have hor2 := m256 g1 hor
  rw [e_Or_judgedStep, q_Or_judgedStep_0, c_handed d hO hP hl hc2 (Or.inl ⟨hx, hpc⟩), rI_s]
  simp only [Option.bind_some]
  rw [c_asked (d + 1) ha ha3 hT hT2 h256 (by omega), rI_s]
  simp only [Option.bind_some]
  unfold jStp
  by_cases hA : (aim = 2 ∨ aim = 3) ∧ P ≠ 0 ∧ l = T
  · rw [b2i_t hA, jif_f (by decide), if_pos hA, pk_sub hhl]
  · rw [b2i_f hA, jif_t rfl, if_neg hA, q_Or_judgedStep_1, c_bitCount (d + 1) P h256, rI_s]
    simp only [Option.bind_some]
    rw [nI_1, rdI_ok (a := 74) (n := 10) rfl rfl (by omega) (by omega)]
    simp only [Option.bind_some]
    rw [g5 (pc P + 1) (by omega)]
    have fin : ∀ e, e ≤ 1 → hdO st (pc P) l x c = flO C (pc P + 1) + e → b_Or_judgedStep_3 (d + 2) (nI P) (nI x) (nI e) σ = some (some (.int (if aim = 1 then G + nI (ovO m hm P x) else G)), σ) := fun e he1 he => by
      rw [q_Or_judgedStep_3, or_1 (by omega), c_stateN (d + 1), rI_s]
      simp only [Option.bind_some]
      rw [rdI_ok (a := 76) (n := 4096) rfl rfl (by omega) (by omega)]
      simp only [Option.bind_some]
      rw [hG e he1 he, ha]
      by_cases a1 : aim = 1
      · rw [jif_t (show nI aim = 1 by rw [a1]; rfl), c_overtaken d hO h256 hx, rI_s]
        simp only [Option.bind_some]
        rw [q_Or_judgedStep_5, if_pos a1]
      · rw [jif_f (show ¬ nI aim = 1 from fun z => a1 (nI_inj (b := 1) (by omega) (by omega) z)), q_Or_judgedStep_4, q_Or_judgedStep_5, if_neg a1]
    rcases hd_fl (st := st) (l := l) (x := x) hc with h0 | h1
    · rw [jif_t (nI_le (by omega) (by omega)), q_Or_judgedStep_2]
      exact fin 0 (by omega) (by omega)
    · rw [jif_f (nI_ge (by omega) (by omega))]
      exact fin 1 (by omega) h1
theorem c_end (d : Nat) {σ : jS} {m C aim T : Nat} {car hm : Nat → Nat} {st : Nat → Nat → Nat → Prop} (hO : OE σ m C car hm st) (ha : σ.1 71 10 = nI aim) (ha3 : aim ≤ 3) (hT : σ.1 71 11 = nI T) (hT2 : T < 2 ^ 31) {P l c : Nat} (hP : P < 2 ^ m) (hl : P ≠ 0 → l < m) (hl2 : l < 8) (hpc : pc P = m) (hc : c ≤ 1000000) : g_Or_judgedEnd (d + 3) (nI P) (nI l) (nI c) σ = some (some (.int (jEnd (hdO st) m aim T m P l c)), σ) := by
  obtain ⟨g1, g2, g3, g4, g5, g6⟩ := id hO
  have h256 := m256 g1 hP
  have hhl := hdO_le st (pc P) l m c
  rw [e_Or_judgedEnd, q_Or_judgedEnd_0, g3, c_handed d hO hP hl hc (Or.inr ⟨rfl, hpc⟩), rI_s]
  simp only [Option.bind_some]
  rw [c_asked (d + 1) ha ha3 hT hT2 h256 (by omega), rI_s]
  simp only [Option.bind_some]
  rw [hpc] at hhl ⊢
  unfold jEnd
  by_cases hA : (aim = 2 ∨ aim = 3) ∧ P ≠ 0 ∧ l = T
  · rw [b2i_t hA, jif_f (by decide), if_pos hA, pk_sub hhl]
  · rw [b2i_f hA, jif_t rfl, if_neg hA, q_Or_judgedEnd_1, hT, q_Or_judgedEnd_2]
    have f3 : ∀ s0 : Int32, b_Or_judgedEnd_3 (d + 2) s0 σ = some (some (.int (if aim = 0 then (if s0 = 0 then 0 else 1) else if aim = 1 ∧ s0 ≠ 0 then 0 else 536870912)), σ) := fun s0 => by
      rw [q_Or_judgedEnd_3, ha]
      by_cases a0 : aim = 0
      · rw [a0, jif_t nI_0, if_pos rfl]
        by_cases z : s0 = 0
        · rw [jif_t z, if_pos z, q_Or_judgedEnd_4, q_Or_judgedEnd_5]
        · rw [jif_f z, if_neg z, q_Or_judgedEnd_5]
      · rw [jif_f (nI_ne0 (by omega) (by omega)), if_neg a0, q_Or_judgedEnd_6, ha, q_Or_judgedEnd_7, q_Or_judgedEnd_8, q_Or_judgedEnd_8]
        by_cases a1 : aim = 1
        · rw [jif_t (show nI aim = 1 by rw [a1]; rfl)]
          by_cases z : s0 = 0
          · rw [jif_t z, if_neg (fun y => y.2 z)]
          · rw [jif_f z, if_pos ⟨a1, z⟩]
        · rw [jif_f (show ¬ nI aim = 1 from fun z => a1 (nI_inj (b := 1) (by omega) (by omega) z)), if_neg (fun y => a1 y.1)]
    by_cases e : hdO st m l m c = T
    · rw [jif_t (congrArg nI e), f3 1]
      by_cases a0 : aim = 0
      · rw [if_pos a0, if_pos a0, if_pos e, if_neg (by decide)]
      · rw [if_neg a0, if_neg a0]
        by_cases a1 : aim = 1
        · rw [if_pos ⟨a1, by decide⟩, if_pos ⟨a1, e⟩]
        · rw [if_neg (fun z => a1 z.1), if_neg (fun z => a1 z.1)]
    · rw [jif_f (fun z => e (nI_inj (by omega) hT2 z)), f3 0]
      by_cases a0 : aim = 0
      · rw [if_pos a0, if_pos a0, if_neg e, if_pos rfl]
      · rw [if_neg a0, if_neg a0, if_neg (fun z => z.2 rfl), if_neg (fun z => e z.2)]
theorem c_everybody (d : Nat) {σ : jS} {m : Nat} (hm : m ≤ 8) (h : σ.1 71 2 = nI m) : g_Or_everybody (d + 1) σ = some (some (.int (nI (2 ^ m - 1))), σ) := by
  have := pow8 hm
  have e : nI (2 ^ m) - 1 = nI (2 ^ m - 1) := pk_sub (a := 2 ^ m) (b := 1) (by omega)
  rw [e_Or_everybody, q_Or_everybody_0, h, nI_shl1 (by omega), e]
/-- the table is right for all that are above P -/
def TBL (σ : jS) (hd : Nat → Nat → Nat → Nat → Nat) (ov : Nat → Nat → Nat) (m C aim T P : Nat) : Prop := ∀ P', P < P' → P' < 2 ^ m → ∀ l, l < m → P'.testBit l = true → ∀ e, e ≤ 1 → σ.1 76 ((P' * 8 + l) * 2 + e) = JG hd ov m aim T (m - pc P') P' l (flO C (pc P') + e)
theorem TBL.x {σ : jS} {hd : Nat → Nat → Nat → Nat → Nat} {ov : Nat → Nat → Nat} {m C aim T P x e : Nat} (h : TBL σ hd ov m C aim T P) (hm : m ≤ 8) (hP : P < 2 ^ m) (hx : x < m) (hb : P.testBit x = false) (he : e ≤ 1) : σ.1 76 (((P ||| 2 ^ x) * 8 + x) * 2 + e) = JG hd ov m aim T (m - (pc P + 1)) (P ||| 2 ^ x) x (flO C (pc P + 1) + e) := by
  have := h (P ||| 2 ^ x) (or_gt P (m256 hm hP) x (by omega) hb) (or_lt hP hx) x hx (by rw [Nat.testBit_or, Nat.testBit_two_pow_self, Bool.or_true]) e he
  rw [pc_or P (m256 hm hP) x (by omega) hb] at this
  exact this
theorem c_judged_l (d : Nat) {σ : jS} {m C aim T : Nat} {car hm : Nat → Nat} {st : Nat → Nat → Nat → Prop} (hO : OE σ m C car hm st) (ha : σ.1 71 10 = nI aim) (ha3 : aim ≤ 3) (hT : σ.1 71 11 = nI T) (hT2 : T < 2 ^ 31) {P l c : Nat} (hP : P < 2 ^ m) (hl : P ≠ 0 → l < m) (hl2 : l < 8) (hpc : pc P < m) (hc : c = flO C (pc P) ∨ (pc P ≠ 0 ∧ c = flO C (pc P) + 1)) (hTB : TBL σ (hdO st) (ovO m hm) m C aim T P) : ∀ (n a : Nat) (k : Int32), a + n = m → b_Or_judged_5 (d + 3) (nI P) (nI l) (nI c) k (nI a) σ = some (some (.int (jLoop aim P (fun x => jStp (hdO st) (ovO m hm) aim T (pc P) P l c x (JG (hdO st) (ovO m hm) m aim T (m - (pc P + 1)) (P ||| 2 ^ x) x (hdO st (pc P) l x c))) n a k)), σ)
  | 0, a, k, hn => by
    obtain ⟨g1, g2, g3, g4, g5, g6⟩ := id hO
    rw [q_Or_judged_5, g3, jif_t (nI_le (by omega) (by omega)), q_Or_judged_7]; rfl
  | n + 1, a, k, hn => by
    obtain ⟨g1, g2, g3, g4, g5, g6⟩ := id hO
    have h256 := m256 g1 hP
    rw [q_Or_judged_5, g3, jif_f (nI_ge (by omega) (by omega)), c_has (d + 2) h256 (by omega), rI_s]
    simp only [Option.bind_some]
    unfold jLoop
    rw [q_Or_judged_6, nI_1]
    by_cases b : P.testBit a = true
    · rw [b2i_t b, jif_f (by decide), if_pos b]
      exact c_judged_l d hO ha ha3 hT hT2 hP hl hl2 hpc hc hTB n (a + 1) k (by omega)
    · have b' : P.testBit a = false := by cases e : P.testBit a <;> simp_all
      rw [b2i_f b, jif_t rfl, if_neg b, c_step d hO ha ha3 hT hT2 hP hl hl2 (show a < m by omega) b' hpc hc (G := JG (hdO st) (ovO m hm) m aim T (m - (pc P + 1)) (P ||| 2 ^ a) a (hdO st (pc P) l a c)) (fun e he1 he => by rw [he]; exact hTB.x g1 hP (by omega) b' he1), rI_s]
      simp only [Option.bind_some]
      rw [c_joined' (d + 2) ha ha3, rI_s]
      simp only [Option.bind_some]
      rw [q_Or_judged_6, nI_1]
      exact c_judged_l d hO ha ha3 hT hT2 hP hl hl2 hpc hc hTB n (a + 1) _ (by omega)
theorem c_judged (d : Nat) {σ : jS} {m C aim T : Nat} {car hm : Nat → Nat} {st : Nat → Nat → Nat → Prop} (hO : OE σ m C car hm st) (ha : σ.1 71 10 = nI aim) (ha3 : aim ≤ 3) (hT : σ.1 71 11 = nI T) (hT2 : T < 2 ^ 31) {P l e : Nat} (hP : P < 2 ^ m) (hl : P ≠ 0 → l < m) (hl2 : l < 8) (he : e = 0 ∨ (e = 1 ∧ P ≠ 0)) (hTB : TBL σ (hdO st) (ovO m hm) m C aim T P) : g_Or_judged (d + 4) (nI P) (nI l) (nI e) σ = some (some (.int (JG (hdO st) (ovO m hm) m aim T (m - pc P) P l (flO C (pc P) + e))), σ) := by
  obtain ⟨g1, g2, g3, g4, g5, g6⟩ := id hO
  have h256 := m256 g1 hP
  have hpm := pc_le m (by omega) P h256 hP
  have hfu := pc_full m (by omega) P h256 hP
  have hz := pc_zero P h256
  have hfl := flO_le C (pc P)
  have h2m := pow8 g1
  rw [e_Or_judged, q_Or_judged_0, c_bitCount (d + 2) P h256, rI_s]
  simp only [Option.bind_some]
  rw [rdI_ok (a := 74) (n := 10) rfl rfl (by omega) (by omega)]
  simp only [Option.bind_some]
  rw [g5 (pc P) (by omega), nI_add, c_everybody (d + 2) g1 g3, rI_s]
  simp only [Option.bind_some]
  by_cases q : pc P = m
  · rw [jif_t (congrArg nI (hfu.mp q)), c_end d hO ha ha3 hT hT2 hP hl hl2 q (by omega), rI_s]
    simp only [Option.bind_some]
    rw [q, Nat.sub_self]
    rfl
  · rw [jif_f (fun z => q (hfu.mpr (nI_inj (by omega) (by omega) z)))]
    have ini : b_Or_judged_1 (d + 3) (nI P) (nI l) (nI (flO C (pc P) + e)) σ = b_Or_judged_5 (d + 3) (nI P) (nI l) (nI (flO C (pc P) + e)) (jIni aim) 0 σ := by
      unfold jIni
      rw [q_Or_judged_1, ha]
      by_cases a0 : aim = 0
      · rw [a0, jif_t nI_0, if_pos rfl, q_Or_judged_4]
      rw [jif_f (nI_ne0 (by omega) (by omega)), if_neg a0, q_Or_judged_2, ha]
      by_cases a2 : aim = 2
      · rw [jif_t (show nI aim = 2 by rw [a2]; rfl), if_pos a2, q_Or_judged_4]
      · rw [jif_f (show ¬ nI aim = 2 from fun z => a2 (nI_inj (b := 2) (by omega) (by omega) z)), if_neg a2, q_Or_judged_3, q_Or_judged_4]
    rw [ini]
    have hl' := c_judged_l d hO ha ha3 hT hT2 hP hl hl2 (by omega) (c := flO C (pc P) + e) (by
      rcases he with rfl | ⟨rfl, hne⟩
      · exact Or.inl rfl
      · exact Or.inr ⟨fun z => hne (hz.mp z), rfl⟩) hTB m 0 (jIni aim) (by omega)
    refine hl'.trans ?_
    obtain ⟨r, hr⟩ : ∃ r, m - pc P = r + 1 := ⟨m - pc P - 1, by omega⟩
    rw [hr, show m - (pc P + 1) = r by omega]
    show _ = some (some (Value.int (jLoop aim P (fun x => jStp (hdO st) (ovO m hm) aim T (m - (r + 1)) P l (flO C (pc P) + e) x (JG (hdO st) (ovO m hm) m aim T r (P ||| 2 ^ x) x (hdO st (m - (r + 1)) l x (flO C (pc P) + e)))) m 0 (jIni aim))), σ)
    rw [show m - (r + 1) = pc P by omega]
