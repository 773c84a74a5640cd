/-! 19: gains. -/
def isC (k : Nat) (r : Nat → Nat) (y : Int32) : Prop := ∃ j, 1 ≤ j ∧ j ≤ k - 2 ∧ nI (r j) = y
theorem c_placeN (d : Nat) {k : Nat} {r : Nat → Nat} {σ : jS} {y : Int32} (hR : cRow σ k r) : ∀ (c j : Nat), j + c + 1 = k → 1 ≤ j → (∀ i, j ≤ i → i < j + c → ¬ nI (r i) = y) → b_Rw_placeOf_1 d y (nI j) σ = some (some (.int 0), σ)
  | 0, j, hj, h1, hn => by
    obtain ⟨a1, a2, a3, a4⟩ := hR
    have e : nI k - 1 = nI (k - 1) := pk_sub (a := k) (b := 1) (by omega)
    rw [q_Rw_placeOf_1, a3, e, jif_t (nI_le (by omega) (by omega)), q_Rw_placeOf_3]
  | c + 1, j, hj, h1, hn => by
    obtain ⟨a1, a2, a3, a4⟩ := id hR
    have e : nI k - 1 = nI (k - 1) := pk_sub (a := k) (b := 1) (by omega)
    rw [q_Rw_placeOf_1, a3, e, jif_f (nI_ge (by omega) (by omega)), rdI_ok (a := 70) (n := 10) rfl rfl (show j < 10 by omega) (by omega)]
    simp only [Option.bind_some]
    rw [(a4 j (by omega)).1, jif_f (hn j (Nat.le_refl _) (by omega)), q_Rw_placeOf_2, nI_1]
    exact c_placeN d hR c (j + 1) (by omega) (by omega) (fun i h2 h3 => hn i (by omega) (by omega))
theorem c_isC (d : Nat) {k : Nat} {r : Nat → Nat} {σ : jS} (y : Int32) (hR : cRow σ k r) : g_Rw_isCarrier (d + 2) y σ = some (some (.int (b2i (isC k r y))), σ) := by
  by_cases h : isC k r y
  · obtain ⟨j, h1, h2, rfl⟩ := id h
    have hk := hR.2.1
    rw [c_isCarR d hR (hR.2.2.2 j (by omega)).2, b2i_t h, b2i_t]
    rcases plF_r (r := r) (q := r j) (k - 2) 1 with ⟨q1, q2⟩ | ⟨q1, -⟩
    · exact absurd rfl (q2 j h1 (by omega))
    · omega
  · rw [e_Rw_isCarrier, q_Rw_isCarrier_0, e_Rw_placeOf, q_Rw_placeOf_0]
    have hk := hR.1
    have p : b_Rw_placeOf_1 d y 1 σ = some (some (.int 0), σ) := c_placeN d hR (k - 2) 1 (by omega) (by omega) (fun i h1 h2 z => h ⟨i, h1, by omega, z⟩)
    rw [p, rI_s]
    simp only [Option.bind_some]
    rw [jif_t (by decide), q_Rw_isCarrier_1, q_Rw_isCarrier_2, b2i_f h]
    rfl
theorem m_isC (d : Nat) {k : Nat} {r : Nat → Nat} {σ : jS} {l4 y l6 : Int32} (hR : mRow σ k r) : ∀ (c j : Nat) (l7 : Int32), j + c + 1 = k → (l7 = 0 ∨ l7 = 1) → ∃ l7', b_M_gains_3 d (nI k) l4 y l6 l7 (nI j) σ = b_M_gains_6 d l4 y l6 l7' σ ∧ (l7' = 0 ↔ (l7 = 0 ∧ ∀ i, j ≤ i → i < j + c → ¬ nI (r i) = y))
  | 0, j, l7, hj, h7 => by
    have hk := hR.2.1
    have e : nI k - 1 = nI (k - 1) := pk_sub (a := k) (b := 1) (by omega)
    rw [q_M_gains_3, e, jif_t (nI_le (by omega) (by omega))]
    exact ⟨l7, rfl, fun z => ⟨z, fun i h1 h2 => absurd h2 (by omega)⟩, fun z => z.1⟩
  | c + 1, j, l7, hj, h7 => by
    have hk := hR.2.1
    have e : nI k - 1 = nI (k - 1) := pk_sub (a := k) (b := 1) (by omega)
    rw [q_M_gains_3, e, jif_f (nI_ge (by omega) (by omega)), rdI_ok (a := 114) (n := 10) rfl rfl (show j < 10 by omega) (by omega)]
    simp only [Option.bind_some]
    rw [(hR.2.2.2 j (by omega)).1]
    by_cases h : nI (r j) = y
    · rw [jif_t h, q_M_gains_5, nI_1, show l7 ||| 1 = 1 by rcases h7 with rfl | rfl <;> decide]
      obtain ⟨l7', p1, p2⟩ := m_isC d (l4 := l4) (y := y) (l6 := l6) hR c (j + 1) 1 (by omega) (Or.inr rfl)
      refine ⟨l7', p1, fun z => absurd (p2.mp z).1 (by decide), fun z => absurd h (z.2 j (Nat.le_refl _) (by omega))⟩
    · rw [jif_f h, q_M_gains_4, q_M_gains_5, nI_1, show l7 ||| 0 = l7 by rcases h7 with rfl | rfl <;> decide]
      obtain ⟨l7', p1, p2⟩ := m_isC d (l4 := l4) (y := y) (l6 := l6) hR c (j + 1) l7 (by omega) h7
      refine ⟨l7', p1, fun z => ⟨(p2.mp z).1, fun i h1 h2 => ?_⟩, fun z => p2.mpr ⟨z.1, fun i h1 h2 => z.2 i (by omega) (by omega)⟩⟩
      by_cases q : i = j
      · rw [q]; exact h
      · exact (p2.mp z).2 i (by omega) (by omega)
theorem c_number (d : Nat) {m C w : Nat} {car hm : Nat → Nat} {st : Nat → Nat → Nat → Prop} {σ : jS} (hO : OE σ m C car hm st) (hw : w < m) (hc : ∀ i, i < w → car i ≠ car w) : ∀ (c a : Nat), a + c = w → b_Or_numberOf_1 d (nI (car w)) (nI a) σ = some (some (.int (nI w)), σ)
  | 0, a, ha => by
    obtain ⟨g1, g2, g3, g4, -⟩ := hO
    rw [q_Or_numberOf_1, g3, jif_f (nI_ge (by omega) (by omega)), rdI_ok (a := 72) (n := 8) rfl rfl (show a < 8 by omega) (by omega)]
    simp only [Option.bind_some]
    rw [(g4 a (by omega)).1, show a = w by omega, jif_t rfl]
  | c + 1, a, ha => by
    obtain ⟨g1, g2, g3, g4, -⟩ := id hO
    have h1 := (g4 a (by omega)).2.1
    have h2 := (g4 w hw).2.1
    rw [q_Or_numberOf_1, g3, jif_f (nI_ge (by omega) (by omega)), rdI_ok (a := 72) (n := 8) rfl rfl (show a < 8 by omega) (by omega)]
    simp only [Option.bind_some]
    rw [(g4 a (by omega)).1, jif_f (fun z => hc a (by omega) (nI_inj (by omega) (by omega) z)), q_Or_numberOf_2, nI_1]
    exact c_number d hO hw hc c (a + 1) (by omega)
/-- what w gains, most (b = 1) or least (b = 0) -/
noncomputable def gV (hd : Nat → Nat → Nat → Nat → Nat) (m C w b : Nat) : Nat := if b = 1 then xN (fun s => KP hd m w 0 0 C s) (PL m m 0) else mN (fun s => KP hd m w 0 0 C s) 536870912 (PL m m 0)
theorem xN_succ {f : List Nat → Nat} : ∀ l : List (List Nat), l ≠ [] → xN (fun s => f s + 1) l = xN f l + 1
  | [], h => absurd rfl h
  | [s], _ => by show max (f s + 1) 0 = max (f s) 0 + 1; omega
  | s :: s2 :: l, _ => by
    show max (f s + 1) (xN (fun s => f s + 1) (s2 :: l)) = max (f s) (xN f (s2 :: l)) + 1
    rw [xN_succ (s2 :: l) (by simp)]; omega
theorem gV_le {st : Nat → Nat → Nat → Prop} {m C w b : Nat} (hm : m ≤ 8) (hC : C ≤ 999999) : gV (hdO st) m C w b ≤ C := by
  have hK : ∀ s, KP (hdO st) m w 0 0 C s ≤ C := fun s => KP_le (fun p l x c => hdO_le _ p l x c) s 0 0 C
  unfold gV
  by_cases h : b = 1
  · rw [if_pos h]; exact xN_bound _ hK
  · rw [if_neg h]
    obtain ⟨s, hs⟩ := List.exists_mem_of_ne_nil _ (PL_n0 hm)
    exact Nat.le_trans (mN_mem (f := fun s => KP (hdO st) m w 0 0 C s) _ hs) (hK s)
theorem gV_J {st : Nat → Nat → Nat → Prop} {ov : Nat → Nat → Nat} {m C w b : Nat} (hm : m ≤ 8) (hw : w < m) (hb : b ≤ 1) (hC : C ≤ 999999) : JG (hdO st) ov m (3 - b) w m 0 0 C = nI (gV (hdO st) m C w b) ∧ PRM (hdO st) ov m (3 - b) w m 0 0 C (gV (hdO st) m C w b) := by
  have e0 : pc 0 = 0 := by decide
  have hr : relS w 0 0 := Or.inl (Nat.zero_testBit w)
  have hle := gV_le (st := st) (w := w) (b := b) hm hC
  have hb' : b = 0 ∨ b = 1 := by omega
  rcases hb' with rfl | rfl
  · have h := JG3 (hd := hdO st) (ov := ov) hm hw (fun p l x c => hdO_le _ p l x c) m 0 0 C (by omega) (Nat.two_pow_pos _) hC hr
    rw [Nat.sub_self] at h
    exact ⟨h, fun z => absurd z (by decide), fun z => absurd z (by decide), fun z => absurd z (by decide), fun _ => ⟨by omega, hw, hr, by rw [Nat.sub_self]; rfl⟩⟩
  · have h := JG2 (hd := hdO st) (ov := ov) hm hw (fun p l x c => hdO_le _ p l x c) m 0 0 C (by omega) (Nat.two_pow_pos _) hC hr
    rw [Nat.sub_self, xN_succ _ (PL_n0 hm), dI_s] at h
    exact ⟨h, fun z => absurd z (by decide), fun z => absurd z (by decide), fun _ => ⟨by omega, hw, hr, by rw [Nat.sub_self, xN_succ _ (PL_n0 hm)]; rfl⟩, fun z => absurd z (by decide)⟩
theorem c_gain (d : Nat) {m C w b : Nat} {car hm : Nat → Nat} {st : Nat → Nat → Nat → Prop} (hw : w < m) (hb : b ≤ 1) (hc : ∀ i, i < w → car i ≠ car w) (σ : jS) (hO : OE σ m C car hm st) :
    ∃ σ', g_Or_gain (d + 6) (nI (car w)) (nI b) σ = some (some (.int (nI (gV (hdO st) m C w b))), σ') ∧ jep so_S σ σ' ∧ σ'.1 71 10 = nI (3 - b) ∧ σ'.1 71 11 = nI w ∧ TBL σ' (hdO st) (ovO m hm) m C (3 - b) w 0 := by
  have hm8 := hO.1
  obtain ⟨σ', p1, p2, p3, p4, p5⟩ := c_solved d (aim := 3 - b) (T := w) (by omega) (by omega) σ hO
  rw [(gV_J (st := st) (ov := ovO m hm) hm8 hw hb hO.2.1).1] at p1
  refine ⟨σ', ?_, p2, p3, p4, p5⟩
  have hn : g_Or_numberOf (d + 5) (nI (car w)) σ = some (some (.int (nI w)), σ) := by
    rw [e_Or_numberOf, q_Or_numberOf_0]
    exact c_number (d + 4) hO hw hc w 0 (by omega)
  have hb' : b = 0 ∨ b = 1 := by omega
  rw [e_Or_gain, q_Or_gain_0]
  rcases hb' with rfl | rfl
  · have p1' : g_Or_solved (d + 5) 3 (nI w) σ = some (some (.int (nI (gV (hdO st) m C w 0))), σ') := p1
    rw [jif_t nI_0, q_Or_gain_1, q_Or_gain_2, hn, rI_s]
    simp only [Option.bind_some]
    rw [p1', rI_s]
    rfl
  · have p1' : g_Or_solved (d + 5) 2 (nI w) σ = some (some (.int (nI (gV (hdO st) m C w 1))), σ') := p1
    rw [jif_f (by decide), q_Or_gain_2, hn, rI_s]
    simp only [Option.bind_some]
    rw [p1', rI_s]
    rfl
theorem c_gainPlace (d : Nat) {m C w b : Nat} {car hm : Nat → Nat} {st : Nat → Nat → Nat → Prop} (hw : w < m) (hb : b ≤ 1) (hc : ∀ i, i < w → car i ≠ car w) (σ : jS) (hO : OE σ m C car hm st) :
    ∃ σ' s, g_Or_gainPlace (d + 7) (nI (car w)) (nI b) σ = some (some (.int (nI (plc w s))), σ') ∧ jep or_S σ σ' ∧ fN (fun s => KP (hdO st) m w 0 0 C s = gV (hdO st) m C w b) (PL m m 0) = some s := by
  have hm8 := hO.1
  obtain ⟨σ1, p1, p2, p3, p4, p5⟩ := c_gain d hw hb hc σ hO
  have S1 : jep or_S σ σ1 := p2.mono (fun b j h => so_or h)
  obtain ⟨σ2, s, q1, q2, q3, -, q5⟩ := c_layW (d + 1) (aim := 3 - b) (T := w) (by omega) (by omega) σ1 (hO.fr S1) p3 p4 p5 (gV_J (st := st) (ov := ovO m hm) hm8 hw hb hO.2.1).2
  refine ⟨σ2, s, ?_, S1.tr (q2.mono (fun b j h => by unfold or_S; omega)), ?_⟩
  · rw [e_Or_gainPlace, q_Or_gainPlace_0, p1, rI_s]
    simp only [Option.bind_some]
    rw [show g_Or_lay (d + 6) (nI (gV (hdO st) m C w b)) σ1 = _ from q1, rV_s]
    simp only [Option.bind_some]
    rw [q5 (by omega)]
  · have hb' : b = 0 ∨ b = 1 := by omega
    rcases hb' with rfl | rfl <;> exact q3
/-- the reference's -/
theorem see_1 {σ1 σ5 : jS} {t k C w : Nat} {r car hm : Nat → Nat} {aim b1 b2 : Int32} {c1 c2 c3 c4 : Int64} (hk : 2 ≤ k) (hk10 : k ≤ 10) (hC : C ≤ 999999) (r4 : FS σ5 ((PL (k - 2) (k - 2) 0).foldl (seeF (vS σ1 t k C 1 w r car) (aS 1 w) (cS k r car) (hitS σ1 t k C r car aim) (farS k hm)) ((-1, b1, c1), (-1, b2, c2), (0, c3), (-1, c4)))) :
    σ5.1 86 59 = nI (gV (hdC σ1 t k C r car) (k - 2) C w 1) ∧ (∀ s, fN (fun s => KP (hdC σ1 t k C r car) (k - 2) w 0 0 C s = gV (hdC σ1 t k C r car) (k - 2) C w 1) (PL (k - 2) (k - 2) 0) = some s → σ5.1 86 61 = nI (plc w s)) ∧ σ5.1 86 60 = nI (gV (hdC σ1 t k C r car) (k - 2) C w 0) ∧ (∀ s, fN (fun s => KP (hdC σ1 t k C r car) (k - 2) w 0 0 C s = gV (hdC σ1 t k C r car) (k - 2) C w 0) (PL (k - 2) (k - 2) 0) = some s → σ5.1 86 62 = nI (plc w s)) := by
  have ev : vS σ1 t k C 1 w r car = fun s => nI (KP (hdC σ1 t k C r car) (k - 2) w 0 0 C s) := rfl
  have hV : ∀ s, KP (hdC σ1 t k C r car) (k - 2) w 0 0 C s < 536870912 := fun s => by
    have := KP_le (hd := hdC σ1 t k C r car) (m := k - 2) (w := w) (fun p l x c => hdO_le _ p l x c) s 0 0 C
    omega
  have hpl := PL_n0 (m := k - 2) (by omega)
  rw [ev, fold_see] at r4
  obtain ⟨f1, f2, f3, f4, f5, f6, -⟩ := r4
  obtain ⟨s1, x1, x2⟩ := fM_0 (f := fun s => KP (hdC σ1 t k C r car) (k - 2) w 0 0 C s) (a := aS 1 w) (c := cS k r car) (a0 := b1) (c0 := c1) (fun s => by have := hV s; omega) _ hpl
  obtain ⟨s2, y1, y2⟩ := fL_0 (f := fun s => KP (hdC σ1 t k C r car) (k - 2) w 0 0 C s) (a := aS 1 w) (c := cS k r car) (a0 := b2) (c0 := c2) (by omega) hV _ hpl
  refine ⟨?_, fun s hs => ?_, ?_, fun s hs => ?_⟩
  · rw [f1]
    exact (congrArg (fun q : Int32 × Int32 × Int64 => q.1) x2).trans (congrArg nI (fN_p x1).2)
  · rw [f2]
    have : s1 = s := Option.some.inj (x1.symm.trans hs)
    rw [← this]
    exact congrArg (fun q : Int32 × Int32 × Int64 => q.2.1) x2
  · rw [f4]
    exact (congrArg (fun q : Int32 × Int32 × Int64 => q.1) y2).trans (congrArg nI (fN_p y1).2)
  · rw [f5]
    have : s2 = s := Option.some.inj (y1.symm.trans hs)
    rw [← this]
    exact congrArg (fun q : Int32 × Int32 × Int64 => q.2.1) y2
