/-! The first order that does it. -/
theorem cat_len {G : Nat → List (List Nat)} {P B : Nat} (hB : ∀ x, (G x).length ≤ B) : ∀ (c a : Nat), (cat G P c a).length ≤ c * B
  | 0, _ => by show 0 ≤ 0 * B; omega
  | c + 1, a => by
    have ih := cat_len hB c (a + 1) (P := P)
    unfold cat
    rw [List.length_append, Nat.succ_mul]
    by_cases h : P.testBit a = true
    · rw [if_pos h]
      show 0 + _ ≤ _
      omega
    · rw [if_neg h, List.length_map]
      have := hB a
      omega
theorem PL_len {m : Nat} (hm : m ≤ 8) : ∀ (r P : Nat), (PL m r P).length ≤ 8 ^ r
  | 0, _ => by show 1 ≤ 1; omega
  | r + 1, P => by
    have := cat_len (G := fun x => PL m r (P ||| 2 ^ x)) (P := P) (B := 8 ^ r) (fun x => PL_len hm r _) m 0
    have h2 : m * 8 ^ r ≤ 8 * 8 ^ r := Nat.mul_le_mul_right _ hm
    rw [Nat.pow_succ, Nat.mul_comm]
    exact Nat.le_trans this h2
theorem PL_2 {m r P : Nat} (hm : m ≤ 8) (hr : r ≤ m) : (PL m r P).length < 2 ^ 30 := by
  have h1 := PL_len hm r P
  have h2 := Nat.pow_le_pow_right (n := 8) (by decide) (show r ≤ 8 by omega)
  have h3 : (8 : Nat) ^ 8 = 16777216 := by decide
  omega
theorem PL_size {m : Nat} : ∀ (r P : Nat) (s : List Nat), s ∈ PL m r P → s.length = r ∧ ∀ y, y ∈ s → y < m
  | 0, P, s, h => by
    have : s = [] := by simpa [PL] using h
    subst this
    exact ⟨rfl, fun y hy => absurd hy List.not_mem_nil⟩
  | r + 1, P, s, h => by
    obtain ⟨x, s', h1, h2, h3, h4, h5⟩ := (mem_cat m 0).mp h
    obtain ⟨i1, i2⟩ := PL_size r _ s' h4
    subst h5
    refine ⟨by rw [List.length_cons, i1], fun y hy => ?_⟩
    rcases List.mem_cons.mp hy with rfl | hy
    · omega
    · exact i2 y hy
def ldN (aim : Nat) (v : Int32) (rest : Nat) : Prop := (aim = 0 ∧ ¬ v ≤ 0) ∨ (aim ≠ 0 ∧ v = nI rest)
theorem LD_iff {hd : Nat → Nat → Nat → Nat → Nat} {ov : Nat → Nat → Nat} {m aim T r P l c rest x : Nat} (hm : m ≤ 8) (ha3 : aim ≤ 3) (hhd : ∀ p l x c, hd p l x c ≤ c) (hov : ∀ P x, ov P x ≤ 8) (hr : pc P + (r + 1) = m) (hP : P < 2 ^ m) (hc : c ≤ 999999) (h : PRM hd ov m aim T (r + 1) P l c rest) (hn : ¬ ((aim = 2 ∨ aim = 3) ∧ P ≠ 0 ∧ l = T)) (hx : x < m) (hb : P.testBit x = false) :
    ldN aim (jStp hd ov aim T (m - (r + 1)) P l c x (JG hd ov m aim T r (P ||| 2 ^ x) x (hd (m - (r + 1)) l x c))) rest ↔ ∃ s, s ∈ PL m r (P ||| 2 ^ x) ∧ Qp hd ov m aim T (m - (r + 1)) P l c rest (x :: s) := by
  have hpz : m - (r + 1) ≠ 0 ↔ P ≠ 0 := by
    have := pc_zero P (m256 hm hP)
    constructor
    · intro h e; exact h (by have := this.mpr e; omega)
    · intro h e; exact h (this.mp (by omega))
  have em : m - (r + 1) + 1 = m - r := by omega
  have hpc := pc_or P (m256 hm hP) x (by omega) hb
  have hor := or_lt hP hx
  have hc' : hd (m - (r + 1)) l x c ≤ 999999 := by have := hhd (m - (r + 1)) l x c; omega
  have back := fun hs => (PRM.step ha3 hpz (by omega) h hn hx hb hs)
  have hlen := PL_2 (P := P ||| 2 ^ x) hm (show r ≤ m by omega)
  unfold ldN jStp
  rw [if_neg hn]
  have : aim = 0 ∨ aim = 1 ∨ aim = 2 ∨ aim = 3 := by omega
  rcases this with rfl | rfl | rfl | rfl
  · rw [if_neg (by omega), JG0 r _ _ _ (by omega)]
    have hcn := cN_le (Q := fun s => AR hd m (m - r) x (hd (m - (r + 1)) l x c) s = T) (PL m r (P ||| 2 ^ x))
    have e1 : (∃ s, s ∈ PL m r (P ||| 2 ^ x) ∧ Qp hd ov m 0 T (m - (r + 1)) P l c rest (x :: s)) ↔ 0 < cN (fun s => AR hd m (m - r) x (hd (m - (r + 1)) l x c) s = T) (PL m r (P ||| 2 ^ x)) := by
      rw [cN_pos]
      unfold Qp
      simp only [↓reduceIte]
      show (∃ s, s ∈ PL m r (P ||| 2 ^ x) ∧ AR hd m (m - (r + 1) + 1) x (hd (m - (r + 1)) l x c) s = T) ↔ _
      rw [em]
    rw [e1]
    refine ⟨fun z => ?_, fun z => Or.inl ⟨rfl, nI_nle z (by omega)⟩⟩
    rcases z with z | z
    · by_cases q : 0 < cN (fun s => AR hd m (m - r) x (hd (m - (r + 1)) l x c) s = T) (PL m r (P ||| 2 ^ x))
      · exact q
      · rw [show cN (fun s => AR hd m (m - r) x (hd (m - (r + 1)) l x c) s = T) (PL m r (P ||| 2 ^ x)) = 0 by omega] at z
        exact absurd (show nI 0 ≤ 0 by decide) z.2
    · exact absurd rfl z.1
  · rw [if_pos rfl, JG1 hov r _ _ _ (by omega), nI_add]
    have hle := mN_le (f := fw hd ov m T (m - r) (P ||| 2 ^ x) x (hd (m - (r + 1)) l x c)) (V := 536870912) (PL m r (P ||| 2 ^ x))
    have h8 := hov P x
    have hrest := (h.2.1 rfl).1
    refine ⟨fun z => ?_, fun z => ?_⟩
    · rcases z with z | z
      · exact absurd z.1 (by omega)
      · have e := nI_inj (by omega) (by omega) z.2
        obtain ⟨s, s1, s2⟩ := mN_att (f := fw hd ov m T (m - r) (P ||| 2 ^ x) x (hd (m - (r + 1)) l x c)) (V := 536870912) (PL m r (P ||| 2 ^ x)) (by omega)
        refine ⟨s, s1, ?_⟩
        unfold Qp
        rw [if_neg (by omega), if_pos rfl]
        show AR hd m (m - (r + 1) + 1) x (hd (m - (r + 1)) l x c) s = T ∧ ov P x + IV ov (P ||| 2 ^ x) s = rest
        rw [em]
        by_cases q : AR hd m (m - r) x (hd (m - (r + 1)) l x c) s = T
        · have e3 : fw hd ov m T (m - r) (P ||| 2 ^ x) x (hd (m - (r + 1)) l x c) s = IV ov (P ||| 2 ^ x) s := by unfold fw; rw [if_pos q]
          exact ⟨q, by omega⟩
        · have e3 : fw hd ov m T (m - r) (P ||| 2 ^ x) x (hd (m - (r + 1)) l x c) s = 536870912 := by unfold fw; rw [if_neg q]
          omega
    · obtain ⟨b1, -, b2, -, -⟩ := back z
      obtain ⟨b3, b4⟩ := b2 rfl
      have := b1 rfl
      unfold rst at b3 b4
      rw [if_pos rfl] at b3 b4
      exact Or.inr ⟨by omega, by rw [b4]; congr 1; omega⟩
  · obtain ⟨x1, x2, x3, x4⟩ := h.2.2.1 rfl
    have hn' : ¬ (P ≠ 0 ∧ l = T) := fun z => hn ⟨Or.inl rfl, z⟩
    rw [if_neg (by omega), JG2 hm x2 hhd r _ _ _ (by omega) hor hc' (relS_step x3 hn')]
    have hbd : xN (fun s => KP hd m T (m - r) x (hd (m - (r + 1)) l x c) s + 1) (PL m r (P ||| 2 ^ x)) ≤ 1000000 := xN_bound _ (fun s => by have := KP_le (m := m) (w := T) hhd s (m - r) x (hd (m - (r + 1)) l x c); omega)
    refine ⟨fun z => ?_, fun z => ?_⟩
    · rcases z with z | z
      · exact absurd z.1 (by omega)
      · have e : xN (fun s => KP hd m T (m - r) x (hd (m - (r + 1)) l x c) s + 1) (PL m r (P ||| 2 ^ x)) = rest + 1 := by
          have z2 := z.2
          rw [← dI_s] at z2
          have z3 := congrArg Int32.toInt z2
          rw [dI_toInt (by omega), dI_toInt (by omega)] at z3
          omega
        obtain ⟨s, s1, s2⟩ := xN_att (f := fun s => KP hd m T (m - r) x (hd (m - (r + 1)) l x c) s + 1) (PL m r (P ||| 2 ^ x)) (by omega)
        refine ⟨s, s1, ?_⟩
        unfold Qp
        rw [if_neg (by omega), if_neg (by omega), KP_cons (fun z => hn' ⟨hpz.mp z.1, z.2⟩), em]
        omega
    · obtain ⟨-, -, -, b2, -⟩ := back z
      obtain ⟨-, -, -, b4⟩ := b2 rfl
      unfold rst at b4
      rw [if_neg (by omega)] at b4
      exact Or.inr ⟨by omega, by rw [b4, dI_s]⟩
  · obtain ⟨x1, x2, x3, x4⟩ := h.2.2.2 rfl
    have hn' : ¬ (P ≠ 0 ∧ l = T) := fun z => hn ⟨Or.inr rfl, z⟩
    rw [if_neg (by omega), JG3 hm x2 hhd r _ _ _ (by omega) hor hc' (relS_step x3 hn')]
    have hle := mN_le (f := fun s => KP hd m T (m - r) x (hd (m - (r + 1)) l x c) s) (V := 536870912) (PL m r (P ||| 2 ^ x))
    refine ⟨fun z => ?_, fun z => ?_⟩
    · rcases z with z | z
      · exact absurd z.1 (by omega)
      · have e := nI_inj (by omega) (by omega) z.2
        obtain ⟨s, s1, s2⟩ := mN_att (f := fun s => KP hd m T (m - r) x (hd (m - (r + 1)) l x c) s) (V := 536870912) (PL m r (P ||| 2 ^ x)) (by omega)
        refine ⟨s, s1, ?_⟩
        unfold Qp
        rw [if_neg (by omega), if_neg (by omega), KP_cons (fun z => hn' ⟨hpz.mp z.1, z.2⟩), em]
        omega
    · obtain ⟨-, -, -, -, b2⟩ := back z
      obtain ⟨-, -, -, b4⟩ := b2 rfl
      unfold rst at b4
      rw [if_neg (by omega)] at b4
      exact Or.inr ⟨by omega, by rw [b4]⟩
theorem fN_cat {Q : List Nat → Prop} {G : Nat → List (List Nat)} {P x : Nat} (hb : P.testBit x = false) (hs : ∃ s, s ∈ G x ∧ Q (x :: s)) : ∀ (n a : Nat), a ≤ x → x < a + n → (∀ y, a ≤ y → y < x → P.testBit y = false → ¬ ∃ s, s ∈ G y ∧ Q (y :: s)) → fN Q (cat G P n a) = (fN (fun s => Q (x :: s)) (G x)).map (fun s => x :: s)
  | 0, a, h1, h2, _ => absurd h2 (by omega)
  | n + 1, a, h1, h2, h3 => by
    unfold cat
    by_cases e : a = x
    · subst e
      rw [if_neg (by rw [hb]; decide), fN_app1, fN_map]
      obtain ⟨s, s1, s2⟩ := hs
      exact ⟨a :: s, List.mem_map.mpr ⟨s, s1, rfl⟩, s2⟩
    · rw [fN_app2, fN_cat hb hs n (a + 1) (by omega) (by omega) (fun y h4 h5 h6 => h3 y (by omega) h5 h6)]
      by_cases q : P.testBit a = true
      · rw [if_pos q]
        exact fun ⟨s, s1, _⟩ => absurd s1 List.not_mem_nil
      · rw [if_neg q]
        rintro ⟨s, s1, s2⟩
        obtain ⟨s', t1, t2⟩ := List.mem_map.mp s1
        subst t2
        exact h3 a (Nat.le_refl _) (by omega) (by cases e : P.testBit a <;> simp_all) ⟨s', t1, s2⟩
theorem c_leads (d : Nat) {σ : jS} {aim rest : Nat} (ha : σ.1 71 10 = nI aim) (ha3 : aim ≤ 3) (v : Int32) : g_Or_leads (d + 1) v (nI rest) σ = some (some (.int (b2i (ldN aim v rest))), σ) := by
  rw [e_Or_leads, q_Or_leads_0, ha, q_Or_leads_1, q_Or_leads_2, q_Or_leads_3, q_Or_leads_4, q_Or_leads_4]
  by_cases a0 : aim = 0
  · rw [a0, jif_t nI_0]
    by_cases z : v ≤ 0
    · rw [jif_t z, b2i_f (fun y => y.elim (fun w => w.2 z) (fun w => w.1 rfl))]; rfl
    · rw [jif_f z, b2i_t (show ldN 0 v rest from Or.inl ⟨rfl, z⟩)]; rfl
  · rw [jif_f (nI_ne0 (by omega) (by omega))]
    by_cases z : v = nI rest
    · rw [jif_t z, b2i_t (show ldN aim v rest from Or.inr ⟨a0, z⟩)]; rfl
    · rw [jif_f z, b2i_f (fun y => y.elim (fun w => a0 w.1) (fun w => z w.2))]; rfl
theorem c_chosen_l (d : Nat) {σ : jS} {m C aim T r P l c rest : Nat} {car hm : Nat → Nat} {st : Nat → Nat → Nat → Prop} (hO : OE σ m C car hm st) (ha : σ.1 71 10 = nI aim) (ha3 : aim ≤ 3) (hT : σ.1 71 11 = nI T) (hT2 : T < 2 ^ 31) (hTB : TBL σ (hdO st) (ovO m hm) m C aim T 0) (hr : pc P + (r + 1) = m) (hP : P < 2 ^ m) (hl : P ≠ 0 → l < m) (hl2 : l < 8) (hc : c = flO C (pc P) ∨ (pc P ≠ 0 ∧ c = flO C (pc P) + 1)) (hc9 : c ≤ 999999) (h : PRM (hdO st) (ovO m hm) m aim T (r + 1) P l c rest) (hn : ¬ ((aim = 2 ∨ aim = 3) ∧ P ≠ 0 ∧ l = T)) : ∀ (n a : Nat), a + n = m → (∃ x, a ≤ x ∧ x < m ∧ P.testBit x = false ∧ ∃ s, s ∈ PL m r (P ||| 2 ^ x) ∧ Qp (hdO st) (ovO m hm) m aim T (m - (r + 1)) P l c rest (x :: s)) →
    ∃ x, a ≤ x ∧ x < m ∧ P.testBit x = false ∧ (∃ s, s ∈ PL m r (P ||| 2 ^ x) ∧ Qp (hdO st) (ovO m hm) m aim T (m - (r + 1)) P l c rest (x :: s)) ∧ (∀ y, a ≤ y → y < x → P.testBit y = false → ¬ ∃ s, s ∈ PL m r (P ||| 2 ^ y) ∧ Qp (hdO st) (ovO m hm) m aim T (m - (r + 1)) P l c rest (y :: s)) ∧ b_Or_chosen_1 (d + 3) (nI P) (nI l) (nI c) (nI rest) (nI a) σ = some (some (.int (nI x)), σ)
  | 0, a, ha', ⟨x, x1, x2, _⟩ => absurd x2 (by omega)
  | n + 1, a, ha', hex => by
    obtain ⟨g1, g2, g3, g4, g5, g6⟩ := id hO
    have h256 := m256 g1 hP
    have hov : ∀ P x, ovO m hm P x ≤ 8 := fun P x => by have := ovN_le (hm := hm) (P := P) (x := x) m 0; unfold ovO; omega
    have ep : m - (r + 1) = pc P := by omega
    have er : m - (pc P + 1) = r := by omega
    rw [q_Or_chosen_1, g3, jif_f (nI_ge (by omega) (by omega)), c_has (d + 2) h256 (by omega), rI_s]
    simp only [Option.bind_some]
    have next : (¬ (P.testBit a = false ∧ ∃ s, s ∈ PL m r (P ||| 2 ^ a) ∧ Qp (hdO st) (ovO m hm) m aim T (m - (r + 1)) P l c rest (a :: s))) → ∃ x, a ≤ x ∧ x < m ∧ P.testBit x = false ∧ (∃ s, s ∈ PL m r (P ||| 2 ^ x) ∧ Qp (hdO st) (ovO m hm) m aim T (m - (r + 1)) P l c rest (x :: s)) ∧ (∀ y, a ≤ y → y < x → P.testBit y = false → ¬ ∃ s, s ∈ PL m r (P ||| 2 ^ y) ∧ Qp (hdO st) (ovO m hm) m aim T (m - (r + 1)) P l c rest (y :: s)) ∧ b_Or_chosen_2 (d + 3) (nI P) (nI l) (nI c) (nI rest) (nI a) σ = some (some (.int (nI x)), σ) := fun hno => by
      rw [q_Or_chosen_2, nI_1]
      obtain ⟨x, x1, x2, x3, x4⟩ := hex
      have hxa : x ≠ a := fun e => hno (by subst e; exact ⟨x3, x4⟩)
      obtain ⟨y, y1, y2, y3, y4, y5, y6⟩ := c_chosen_l d hO ha ha3 hT hT2 hTB hr hP hl hl2 hc hc9 h hn n (a + 1) (by omega) ⟨x, by omega, x2, x3, x4⟩
      refine ⟨y, by omega, y2, y3, y4, fun z z1 z2 z3 => ?_, y6⟩
      by_cases e : z = a
      · subst e; exact fun q => hno ⟨z3, q⟩
      · exact y5 z (by omega) z2 z3
    by_cases b : P.testBit a = true
    · rw [b2i_t b, jif_f (by decide)]
      exact next (fun z => by rw [b] at z; exact absurd z.1 (by decide))
    · have b' : P.testBit a = false := by cases e : P.testBit a <;> simp_all
      have TBP : TBL σ (hdO st) (ovO m hm) m C aim T P := fun P' h1 h2 => hTB P' (by omega) h2
      rw [b2i_f b, jif_t rfl, c_step d hO ha ha3 hT hT2 hP hl hl2 (show a < m by omega) b' (by omega) hc (G := JG (hdO st) (ovO m hm) m aim T (m - (pc P + 1)) (P ||| 2 ^ a) a (hdO st (pc P) l a c)) (fun e he1 he => by rw [he]; exact TBP.x g1 hP (by omega) b' he1), rI_s]
      simp only [Option.bind_some]
      have hld := LD_iff (x := a) g1 ha3 (hdO_le st) hov hr hP hc9 h hn (by omega) b'
      rw [ep] at hld
      rw [c_leads (d + 2) ha ha3, rI_s, er]
      simp only [Option.bind_some]
      by_cases q : ∃ s, s ∈ PL m r (P ||| 2 ^ a) ∧ Qp (hdO st) (ovO m hm) m aim T (pc P) P l c rest (a :: s)
      · rw [b2i_t (hld.mpr q), jif_f (by decide)]
        exact ⟨a, Nat.le_refl _, by omega, b', by rw [ep]; exact q, fun y y1 y2 => absurd y2 (by omega), rfl⟩
      · rw [b2i_f (fun z => q (hld.mp z)), jif_t rfl]
        exact next (fun z => q (by rw [ep] at z; exact z.2))
def plc (T : Nat) : List Nat → Nat
  | [] => 0
  | x :: s => if x = T then 1 else 1 + plc T s
theorem c_lay_l (d : Nat) {m C aim T : Nat} {car hm : Nat → Nat} {st : Nat → Nat → Nat → Prop} (ha3 : aim ≤ 3) (hT2 : T < 2 ^ 31) : ∀ (r P l c rest : Nat) (σ : jS), OE σ m C car hm st → σ.1 71 10 = nI aim → σ.1 71 11 = nI T → TBL σ (hdO st) (ovO m hm) m C aim T 0 → σ.1 71 9 = nI (pc P) → pc P + r = m → P < 2 ^ m → (P ≠ 0 → l < m) → l < 8 → (c = flO C (pc P) ∨ (pc P ≠ 0 ∧ c = flO C (pc P) + 1)) → c ≤ 999999 → PRM (hdO st) (ovO m hm) m aim T r P l c rest →
    ∃ σ' s, b_Or_lay_1 (d + 4) (nI rest) (nI P) (nI l) (nI c) σ = some (none, σ') ∧ jep (fun b k => (b = 77 ∧ pc P ≤ k) ∨ (b = 71 ∧ k = 9)) σ σ' ∧ fN (Qp (hdO st) (ovO m hm) m aim T (m - r) P l c rest) (PL m r P) = some s ∧ (aim ≤ 1 → σ'.1 71 9 = nI m ∧ ∀ i, i < r → σ'.1 77 (pc P + i) = nI (s.getD i 0)) ∧ (2 ≤ aim → σ'.1 71 9 = nI (pc P + (if P ≠ 0 ∧ l = T then 0 else plc T s)))
  | 0, P, l, c, rest, σ, hO, ha, hT, hTB, h9, hr, hP, hl, hl2, hc, hc9, h => by
    obtain ⟨g1, g2, g3, g4, g5, g6⟩ := id hO
    obtain ⟨s, s1, s2⟩ := h.ex ha3
    have es : s = [] := by simpa [PL] using s1
    subst es
    rw [q_Or_lay_1, g3, h9, jif_t (nI_le (by omega) (by omega)), q_Or_lay_3]
    refine ⟨σ, [], rfl, jep.rf, ?_, fun _ => ⟨by rw [h9]; congr 1, fun i hi => absurd hi (by omega)⟩, fun _ => ?_⟩
    · show @ite _ _ (Classical.propDecidable _) (some []) (fN _ []) = _
      rw [if_pos s2]
    · rw [h9]
      by_cases q : P ≠ 0 ∧ l = T
      · rw [if_pos q, Nat.add_zero]
      · rw [if_neg q]; rfl
  | r + 1, P, l, c, rest, σ, hO, ha, hT, hTB, h9, hr, hP, hl, hl2, hc, hc9, h => by
    obtain ⟨g1, g2, g3, g4, g5, g6⟩ := id hO
    have h256 := m256 g1 hP
    have hpz : m - (r + 1) ≠ 0 ↔ P ≠ 0 := by
      have := pc_zero P h256
      constructor
      · intro h e; exact h (by have := this.mpr e; omega)
      · intro h e; exact h (this.mp (by omega))
    have ep : m - (r + 1) = pc P := by omega
    rw [q_Or_lay_1, g3, h9, jif_f (nI_ge (by omega) (by omega)), c_asked (d + 3) ha ha3 hT hT2 h256 (by omega), rI_s]
    simp only [Option.bind_some]
    by_cases hn : (aim = 2 ∨ aim = 3) ∧ P ≠ 0 ∧ l = T
    · rw [b2i_t hn, jif_f (by decide), q_Or_lay_3]
      obtain ⟨s, s1, s2, s3⟩ := fN_some (Q := Qp (hdO st) (ovO m hm) m aim T (m - (r + 1)) P l c rest) (PL m (r + 1) P) (h.ex ha3)
      exact ⟨σ, s, rfl, jep.rf, s1, fun z => absurd hn.1 (by omega), fun _ => by rw [if_pos hn.2, Nat.add_zero]; exact h9⟩
    · rw [b2i_f hn, jif_t rfl]
      have hex : ∃ x, 0 ≤ x ∧ x < m ∧ P.testBit x = false ∧ ∃ s, s ∈ PL m r (P ||| 2 ^ x) ∧ Qp (hdO st) (ovO m hm) m aim T (m - (r + 1)) P l c rest (x :: s) := by
        obtain ⟨s, s1, s2⟩ := h.ex ha3
        obtain ⟨x, s', t1, t2, t3, t4, t5⟩ := (mem_cat m 0).mp s1
        subst t5
        exact ⟨x, by omega, by omega, t3, s', t4, s2⟩
      obtain ⟨x, x1, x2, x3, x4, x5, x6⟩ := c_chosen_l d hO ha ha3 hT hT2 hTB hr hP hl hl2 hc hc9 h hn m 0 (by omega) hex
      have x6' : g_Or_chosen (d + 4) (nI P) (nI l) (nI c) (nI rest) σ = some (some (.int (nI x)), σ) := by
        rw [e_Or_chosen, q_Or_chosen_0]; exact x6
      rw [x6', rI_s]
      simp only [Option.bind_some]
      obtain ⟨ho, hPR⟩ := PRM.step ha3 hpz (by omega) h hn x2 x3 x4
      have go : jif (σ.1 71 10 = 1) ((r_I (g_Or_overtaken (d + 4) (nI P) (nI x) σ)).bind fun q3 => b_Or_lay_2 (d + 4) (nI rest - q3.1) (nI P) (nI l) (nI c) (nI x) q3.2) (b_Or_lay_2 (d + 4) (nI rest) (nI P) (nI l) (nI c) (nI x) σ) = b_Or_lay_2 (d + 4) (nI (rst (ovO m hm) aim P x rest)) (nI P) (nI l) (nI c) (nI x) σ := by
        unfold rst
        rw [ha]
        by_cases a1 : aim = 1
        · rw [jif_t (show nI aim = 1 by rw [a1]; rfl), c_overtaken (d + 2) hO h256 x2, rI_s]
          simp only [Option.bind_some]
          rw [pk_sub (ho a1), if_pos a1]
        · rw [jif_f (show ¬ nI aim = 1 from fun z => a1 (nI_inj (b := 1) (by omega) (by omega) z)), if_neg a1]
      rw [go, q_Or_lay_2, c_handed (d + 2) hO hP hl (by omega) (Or.inl ⟨x2, by omega⟩), rI_s]
      simp only [Option.bind_some]
      rw [h9, wrI_ok (a := 77) (n := 8) rfl rfl (by omega) (by omega)]
      simp only [Option.bind_some]
      rw [setI_ne (by omega), h9, nI_1, or_1 (by omega)]
      have S1 : jep (fun b k => (b = 77 ∧ pc P ≤ k) ∨ (b = 71 ∧ k = 9)) σ (j_setI (j_setI σ 77 (pc P) (nI x)) 71 9 (nI (pc P + 1))) := (jep.rf.sI (Or.inl ⟨rfl, Nat.le_refl _⟩)).sI (Or.inr ⟨rfl, rfl⟩)
      have v77 : (j_setI (j_setI σ 77 (pc P) (nI x)) 71 9 (nI (pc P + 1))).1 77 (pc P) = nI x := by rw [setI_ne (by omega), setI_same]
      have v9 : (j_setI (j_setI σ 77 (pc P) (nI x)) 71 9 (nI (pc P + 1))).1 71 9 = nI (pc P + 1) := setI_same _ _ _ _
      generalize j_setI (j_setI σ 77 (pc P) (nI x)) 71 9 (nI (pc P + 1)) = σ1 at *
      have hpc := pc_or P h256 x (by omega) x3
      have hor := or_lt hP x2
      have hne : P ||| 2 ^ x ≠ 0 := by have := or_gt P h256 x (by omega) x3; omega
      have hle := hdO_le st (pc P) l x c
      obtain ⟨σ', s', p1, p2, p3, p4, p5⟩ := c_lay_l d ha3 hT2 r (P ||| 2 ^ x) x (hdO st (pc P) l x c) (rst (ovO m hm) aim P x rest) σ1 (hO.fr (S1.mono (fun b k q => by unfold or_S; omega))) (by rw [(S1 71 10 (by omega)).1]; exact ha) (by rw [(S1 71 11 (by omega)).1]; exact hT) (fun P' h1 h2 l h3 h4 e h5 => by rw [(S1 76 _ (by omega)).1]; exact hTB P' h1 h2 l h3 h4 e h5) (by rw [hpc]; exact v9) (by omega) hor (fun _ => x2) (by omega) (by
        rw [hpc]
        rcases hd_fl (st := st) (l := l) (x := x) hc with z | z
        · exact Or.inl z
        · exact Or.inr ⟨by omega, z⟩) (by omega) (by rw [ep] at hPR; exact hPR)
      rw [hpc] at p2 p4 p5
      have hfs : fN (Qp (hdO st) (ovO m hm) m aim T (m - (r + 1)) P l c rest) (PL m (r + 1) P) = some (x :: s') := by
        have e1 := fN_cat (Q := Qp (hdO st) (ovO m hm) m aim T (m - (r + 1)) P l c rest) (G := fun x => PL m r (P ||| 2 ^ x)) (P := P) x3 x4 m 0 (by omega) (by omega) x5
        have e2 : fN (fun s => Qp (hdO st) (ovO m hm) m aim T (m - (r + 1)) P l c rest (x :: s)) (PL m r (P ||| 2 ^ x)) = fN (Qp (hdO st) (ovO m hm) m aim T (m - r) (P ||| 2 ^ x) x (hdO st (pc P) l x c) (rst (ovO m hm) aim P x rest)) (PL m r (P ||| 2 ^ x)) := by
          congr 1
          funext s
          have := Qp_step (hd := hdO st) (ov := ovO m hm) (m := m) (T := T) (p := m - (r + 1)) (P := P) (l := l) (c := c) (x := x) (s := s) ha3 (fun z => hn ⟨z.1, hpz.mp z.2.1, z.2.2⟩) ho
          rw [show m - (r + 1) + 1 = m - r by omega, ep] at this
          rw [ep]
          exact propext this
        refine e1.trans ?_
        rw [e2, p3]
        rfl
      refine ⟨σ', x :: s', p1, S1.tr (p2.mono (fun b k q => by omega)), hfs, fun z => ?_, fun z => ?_⟩
      · obtain ⟨y1, y2⟩ := p4 z
        refine ⟨y1, fun i hi => ?_⟩
        by_cases e : i = 0
        · subst e
          rw [Nat.add_zero, (p2 77 (pc P) (by omega)).1, v77]; rfl
        · have := y2 (i - 1) (by omega)
          rw [show pc P + 1 + (i - 1) = pc P + i by omega] at this
          rw [this]
          congr 1
          obtain ⟨j, rfl⟩ : ∃ j, i = j + 1 := ⟨i - 1, by omega⟩
          rfl
      · have epl : plc T (x :: s') = if x = T then 1 else 1 + plc T s' := rfl
        rw [p5 z, if_neg (fun y => hn ⟨by omega, y⟩), epl]
        by_cases e : x = T
        · rw [if_pos ⟨hne, e⟩, if_pos e]
        · rw [if_neg (fun y => e y.2), if_neg e, Nat.add_assoc]
