/-! All orders, the reference's way. -/
noncomputable def seeF (v a : List Nat → Int32) (cd : List Nat → Int64) (hit : List Nat → Prop) (far : List Nat → Int32) (F : jF) (s : List Nat) : jF := (seM (v s) (a s) (cd s) F.1, seL (v s) (a s) (cd s) F.2.1, seO (hit s) (cd s) F.2.2.1, seW (hit s) (far s) (cd s) F.2.2.2)
def RE (σc σ : jS) (t k A C : Nat) (r : Nat → Nat) (task aim wt : Int32) : Prop := lawR σ t 4 0 ∧ σ.1 86 32 = nI 0 ∧ mB σc σ t A ∧ σ.1 86 50 = nI k ∧ (∀ j, j < k → σ.1 116 j = nI (r j)) ∧ σ.1 114 0 = nI (r 0) ∧ σ.1 114 (k - 1) = nI (r (k - 1)) ∧ σ.1 86 55 = task ∧ σ.1 86 56 = nI C ∧ σ.1 86 57 = aim ∧ σ.1 86 58 = wt
def tn_S (k q : Nat) : Nat → Nat → Prop := fun b j => (b = 114 ∧ q ≤ j ∧ j + 1 < k) ∨ ms_S b j ∨ fs_S b j
theorem RE.fr {σc σ σ' : jS} {t k A C q : Nat} {r : Nat → Nat} {task aim wt : Int32} (ht : jTe t) (hq : 1 ≤ q) (hk : 2 ≤ k) (h : jep (tn_S k q) σ σ') (g : RE σc σ t k A C r task aim wt) : RE σc σ' t k A C r task aim wt := by
  have no : ∀ b j, (t ≤ b ∧ b ≤ t + 14) ∨ (88 ≤ b ∧ b ≤ 101) ∨ b = 116 ∨ (b = 114 ∧ (j = 0 ∨ j = k - 1)) ∨ (b = 86 ∧ (j = 30 ∨ j = 32 ∨ j = 50 ∨ (55 ≤ j ∧ j ≤ 58))) → ¬ tn_S k q b j := fun b j hb z => by
    unfold tn_S ms_S fs_S at z
    rcases ht with rfl | rfl <;> omega
  have e : ∀ b j, (t ≤ b ∧ b ≤ t + 14) ∨ (88 ≤ b ∧ b ≤ 101) ∨ b = 116 ∨ (b = 114 ∧ (j = 0 ∨ j = k - 1)) ∨ (b = 86 ∧ (j = 30 ∨ j = 32 ∨ j = 50 ∨ (55 ≤ j ∧ j ≤ 58))) → σ'.1 b j = σ.1 b j := fun b j hb => (h b j (no b j hb)).1
  obtain ⟨g1, g2, g3, g4, g5, g6, g7, g8, g9, g10, g11⟩ := g
  refine ⟨g1.fr h (fun b j p => no b j (by unfold lawP at p; omega)), by rw [e 86 32 (by omega)]; exact g2, g3.fr h (fun b j p => no b j (by omega)), by rw [e 86 50 (by omega)]; exact g4, fun j hj => by rw [e 116 j (by omega)]; exact g5 j hj, by rw [e 114 0 (by omega)]; exact g6, by rw [e 114 (k - 1) (by omega)]; exact g7, by rw [e 86 55 (by omega)]; exact g8, by rw [e 86 56 (by omega)]; exact g9, by rw [e 86 57 (by omega)]; exact g10, by rw [e 86 58 (by omega)]; exact g11⟩
theorem carP.inj {k A : Nat} {r car hm : Nat → Nat} (h : carP k A r car hm) : (∀ a b, a < k - 2 → b < k - 2 → car a = car b → a = b) ∧ (∀ a b, a < k - 2 → b < k - 2 → hm a = hm b → a = b) := by
  have c : ∀ a b, a < k - 2 → b < k - 2 → car a = car b → a = b := fun a b ha hb e => by
    rcases Nat.lt_trichotomy a b with z | z | z
    · have := h.2.1 a b z hb; omega
    · exact z
    · have := h.2.1 b a z ha; omega
  refine ⟨c, fun a b ha hb e => c a b ha hb ?_⟩
  have x := (h.1 a ha).2.2.2
  have y := (h.1 b hb).2.2.2
  rw [← x, ← y, e]
/-- a path's facts -/
theorem path_f {k A : Nat} {r car hm : Nat → Nat} {s : List Nat} (hk : 2 ≤ k) (hk10 : k ≤ 10) (hA : A ≤ 10) (hcp : carP k A r car hm) (hrA : ∀ j, j < k → r j < A) (hrk : ∀ i j, i < j → j < k → r i ≠ r j) (hs : s ∈ PL (k - 2) (k - 2) 0) :
    s.length = k - 2 ∧ (∀ i, i < k - 2 → s.getD i 0 < k - 2) ∧ (∀ i, 1 ≤ i → i ≤ k - 2 → rF k r car s i = car (s.getD (i - 1) 0)) ∧ rF k r car s (k - 2 + 1) = r (k - 1) ∧ (∀ j, j < k → rF k r car s j < A) ∧ (∀ w, w < k - 2 → w ∈ s ∧ 1 ≤ plc w s ∧ plc w s ≤ k - 2 ∧ rF k r car s (plc w s) = car w ∧ ∀ j, j < plc w s → rF k r car s j ≠ car w) ∧ ∃ pos, psE k r (rF k r car s) pos ∧ ∀ x, x < k - 2 → pos (hm x) = plc x s := by
  obtain ⟨hl, hlt⟩ := PL_size _ _ _ hs
  have e0 : pc 0 = 0 := by decide
  obtain ⟨hnd, hmem⟩ := PL_mem (show k - 2 ≤ 8 by omega) (k - 2) 0 s hs (by omega) (Nat.two_pow_pos _)
  have hsi : ∀ i, i < k - 2 → s.getD i 0 < k - 2 := fun i hi => hlt _ (getD_mem s i (by omega))
  have f1 : ∀ i, 1 ≤ i → i ≤ k - 2 → rF k r car s i = car (s.getD (i - 1) 0) := fun i h1 h2 => by unfold rF; rw [if_neg (by omega), if_pos h2]
  have f0 : rF k r car s 0 = r 0 := if_pos rfl
  have f2 : rF k r car s (k - 2 + 1) = r (k - 1) := by unfold rF; rw [if_neg (by omega), if_neg (by omega)]
  have hw : ∀ w, w < k - 2 → w ∈ s ∧ 1 ≤ plc w s ∧ plc w s ≤ k - 2 ∧ rF k r car s (plc w s) = car w ∧ ∀ j, j < plc w s → rF k r car s j ≠ car w := fun w hw => by
    have hws : w ∈ s := (hmem w hw).mpr (Nat.zero_testBit w)
    obtain ⟨q1, q2, q3⟩ := plc_r s hws
    refine ⟨hws, q1, by omega, by rw [f1 _ q1 (by omega), q3], fun j hj => ?_⟩
    by_cases e : j = 0
    · subst e
      rw [f0, ← (hcp.1 w hw).2.2.2]
      exact hrk 0 (hm w) (by have := (hcp.1 w hw).2.1; omega) (by have := (hcp.1 w hw).2.2.1; omega)
    · rw [f1 j (by omega) (by omega)]
      intro z
      exact plc_lt s (j - 1) (by omega) (hcp.inj.1 _ _ (hsi (j - 1) (by omega)) hw z)
  refine ⟨hl, hsi, f1, f2, fun j hj => ?_, hw, ?_⟩
  · by_cases e : j = 0
    · subst e; rw [f0]; exact hrA 0 hj
    · by_cases e2 : j ≤ k - 2
      · rw [f1 j (by omega) e2]; exact (hcp.1 _ (hsi (j - 1) (by omega))).1
      · rw [show j = k - 2 + 1 by omega, f2]; exact hrA _ (by omega)
  · refine ⟨fun i => if h : 1 ≤ i ∧ i ≤ k - 2 then plc (Classical.choose (hcp.2.2 i h.1 h.2)) s else 0, fun i h1 h2 => ?_, fun x hx => ?_⟩
    · obtain ⟨c1, c2⟩ := Classical.choose_spec (hcp.2.2 i h1 h2)
      obtain ⟨-, w2, w3, w4, w5⟩ := hw _ c1
      have er : car (Classical.choose (hcp.2.2 i h1 h2)) = r i := by rw [← (hcp.1 _ c1).2.2.2, c2]
      rw [er] at w4 w5
      have ep : (fun i => if h : 1 ≤ i ∧ i ≤ k - 2 then plc (Classical.choose (hcp.2.2 i h.1 h.2)) s else 0) i = plc (Classical.choose (hcp.2.2 i h1 h2)) s := dif_pos ⟨h1, h2⟩
      exact ⟨ep ▸ w2, ep ▸ w3, ep ▸ w4, ep ▸ w5⟩
    · obtain ⟨x1, x2, x3, -⟩ := hcp.1 x hx
      obtain ⟨c1, c2⟩ := Classical.choose_spec (hcp.2.2 (hm x) x2 x3)
      show (if h : 1 ≤ hm x ∧ hm x ≤ k - 2 then plc (Classical.choose (hcp.2.2 (hm x) h.1 h.2)) s else 0) = _
      rw [dif_pos ⟨x2, x3⟩, hcp.inj.2 _ _ c1 hx c2]
/-- the class's way of halving, by the state where the call began -/
noncomputable def hdC (σc : jS) (t k C : Nat) (r car : Nat → Nat) : Nat → Nat → Nat → Nat → Nat := hdO (stO σc t (k - 2) C car (r (k - 1)))
/-- what is looked at: arrivals (task 0) or what w keeps (task 1) -/
noncomputable def vS (σc : jS) (t k C task w : Nat) (r car : Nat → Nat) (s : List Nat) : Int32 := if task = 0 then nI (AR (hdC σc t k C r car) (k - 2) 0 0 C s) else nI (KP (hdC σc t k C r car) (k - 2) w 0 0 C s)
def aS (task w : Nat) (s : List Nat) : Int32 := if task = 0 then 0 else nI (plc w s)
def cS (k : Nat) (r car : Nat → Nat) (s : List Nat) : Int64 := cdL (rF k r car s) k 0 0
def hitS (σc : jS) (t k C : Nat) (r car : Nat → Nat) (aim : Int32) (s : List Nat) : Prop := nI (AR (hdC σc t k C r car) (k - 2) 0 0 C s) = aim
def farS (k : Nat) (hm : Nat → Nat) (s : List Nat) : Int32 := nI (IV (ovO (k - 2) hm) 0 s)
theorem m_sees (d : Nat) {σc : jS} {t k A C task w : Nat} {r car hm : Nat → Nat} {aim wt : Int32} {s : List Nat} (ht : jTe t) (hk : 2 ≤ k) (hk10 : k ≤ 10) (hA : A ≤ 10) (hC : C ≤ 999999) (hcp : carP k A r car hm) (hrA : ∀ j, j < k → r j < A) (hrk : ∀ i j, i < j → j < k → r i ≠ r j) (htk : task ≤ 1) (hwt : task = 1 → w < k - 2 ∧ wt = nI (car w)) (hs : s ∈ PL (k - 2) (k - 2) 0) (σ : jS) (F : jF) (hE : RE σc σ t k A C r (nI task) aim wt) (hR : mRow σ k (rF k r car s)) (hF : FS σ F) :
    ∃ σ', g_M_sees (d + 6) σ = some (none, σ') ∧ jep (fun b j => ms_S b j ∨ fs_S b j) σ σ' ∧ FS σ' (seeF (vS σc t k C task w r car) (aS task w) (cS k r car) (hitS σc t k C r car aim) (farS k hm) F s) := by
  obtain ⟨hl, hsi, f1, f2, f3, f4, pos, hps, hpos⟩ := path_f hk hk10 hA hcp hrA hrk hs
  obtain ⟨g1, g2, g3, g4, g5, g6, g7, g8, g9, g10, g11⟩ := hE
  have hAR := AR_arN (σ := σc) (t := t) (m := k - 2) (C := C) (get := r (k - 1)) (car := car) (f := rF k r car s) hl hsi f1 f2
  obtain ⟨σ1, p1, p2, p3⟩ := m_snd d (σ0 := σc) (A := A) ht k (rF k r car s) (nI C) σ hR f3 g1 g2 g3
  rw [arr_N _ _ _ (by omega), ← hAR] at p1
  have S1 : jep (fun b j => ms_S b j ∨ fs_S b j) σ σ1 := p2.mono (fun b j q => Or.inl q)
  have k1 : ∀ b j, b ≠ 103 → b ≠ 102 → b ≠ 115 → ¬ (b = 86 ∧ j = 35) → σ1.1 b j = σ.1 b j ∧ σ1.2.1 b j = σ.2.1 b j := fun b j h1 h2 h3 h4 => by
    have := p2 b j (fun q => by rcases q with q | q | q | q <;> omega)
    exact ⟨this.1, this.2.1⟩
  have hR1 : mRow σ1 k (rF k r car s) := hR.fr p2 (fun b j q z => by unfold ms_S at z; omega)
  have hF1 : FS σ1 F := by
    obtain ⟨a1, a2, a3, a4, a5, a6, a7, a8, a9, a10⟩ := hF
    have e := fun j (hj : j ≠ 35) => k1 86 j (by omega) (by omega) (by omega) (by omega)
    exact ⟨by rw [(e 59 (by omega)).1]; exact a1, by rw [(e 61 (by omega)).1]; exact a2, by rw [(e 63 (by omega)).2]; exact a3, by rw [(e 60 (by omega)).1]; exact a4, by rw [(e 62 (by omega)).1]; exact a5, by rw [(e 64 (by omega)).2]; exact a6, by rw [(e 65 (by omega)).1]; exact a7, by rw [(e 66 (by omega)).2]; exact a8, by rw [(e 67 (by omega)).1]; exact a9, by rw [(e 68 (by omega)).2]; exact a10⟩
  -- what is looked at
  have go : (r_I (g_M_sends (d + 5) (nI C) σ)).bind (fun q1 => jif ((q1.2.1 86 55) = 1) (b_M_sees_1 (d + 5) q1.1 0 q1.2) (b_M_sees_3 (d + 5) q1.1 0 q1.1 q1.2)) = b_M_sees_3 (d + 5) (nI (AR (hdC σc t k C r car) (k - 2) 0 0 C s)) (aS task w s) (vS σc t k C task w r car s) σ1 := by
    rw [p1, rI_s]
    simp only [Option.bind_some]
    rw [(k1 86 55 (by omega) (by omega) (by omega) (by omega)).1, g8]
    have htk' : task = 0 ∨ task = 1 := by omega
    rcases htk' with rfl | rfl
    · rw [jif_f (by decide)]
      rfl
    · obtain ⟨hw, ew⟩ := hwt rfl
      obtain ⟨w1, w2, w3, w4, w5⟩ := f4 w hw
      rw [jif_t (show nI 1 = 1 from rfl)]
      have e58 : σ1.1 86 58 = nI (car w) := by rw [(k1 86 58 (by omega) (by omega) (by omega) (by omega)).1, g11, ew]
      have lp : ∀ (c i : Nat), i + c = plc w s → b_M_sees_1 (d + 5) (nI (AR (hdC σc t k C r car) (k - 2) 0 0 C s)) (nI i) σ1 = b_M_sees_2 (d + 5) (nI (AR (hdC σc t k C r car) (k - 2) 0 0 C s)) (nI (plc w s)) σ1 := by
        intro c
        induction c with
        | zero =>
          intro i hi
          have e : i = plc w s := by omega
          rw [e, q_M_sees_1, rdI_ok (a := 114) (n := 10) rfl rfl (by omega) (by omega)]
          simp only [Option.bind_some]
          rw [(hR1.2.2.2 (plc w s) (by omega)).1, e58, jif_t (congrArg nI w4)]
        | succ c ih =>
          intro i hi
          have h10 := f3 i (by omega)
          have hc10 := (hcp.1 w hw).1
          rw [q_M_sees_1, rdI_ok (a := 114) (n := 10) rfl rfl (by omega) (by omega)]
          simp only [Option.bind_some]
          rw [(hR1.2.2.2 i (by omega)).1, e58, jif_f (fun z => w5 i (by omega) (nI_inj (by omega) (by omega) z)), nI_1]
          exact ih (i + 1) (by omega)
      have lp0 : b_M_sees_1 (d + 5) (nI (AR (hdO (stO σc t (k - 2) C car (r (k - 1)))) (k - 2) 0 0 C s)) 0 σ1 = b_M_sees_2 (d + 5) (nI (AR (hdC σc t k C r car) (k - 2) 0 0 C s)) (nI (plc w s)) σ1 := lp (plc w s) 0 (by omega)
      have hK := KP_arN (σ := σc) (t := t) (m := k - 2) (C := C) (get := r (k - 1)) (w := w) (car := car) (f := rF k r car s) hl hsi f1 f2 w1
      have hle := arN_le (odP σc t 4 (rF k r car s)) (plc w s - 1) 1 C
      have e115 : σ1.1 115 (plc w s) = nI (KP (hdC σc t k C r car) (k - 2) w 0 0 C s) := by
        have := p3 (plc w s - 1) (by omega)
        rw [show 1 + (plc w s - 1) = plc w s by omega, arr_N _ _ _ (by omega), cSh_K (by omega)] at this
        rw [this]
        exact congrArg nI hK.symm
      rw [lp0, q_M_sees_2, rdI_ok (a := 115) (n := 10) rfl rfl (by omega) (by omega)]
      simp only [Option.bind_some]
      rw [e115]
      rfl
  rw [e_M_sees, q_M_sees_0, g9, go]
  obtain ⟨σ2, q1, q2, q3⟩ := m_see57 (d + 4) (nI (AR (hdC σc t k C r car) (k - 2) 0 0 C s)) (aS task w s) (vS σc t k C task w r car s) σ1 F hR1 hF1
  have hR2 := hR1.fs q2
  have e116 : ∀ σ', jep fs_S σ2 σ' → ∀ j, j < k → σ'.1 116 j = nI (r j) := fun σ' h j hj => by
    rw [(h 116 j (fun q => by unfold fs_S at q; omega)).1, (q2 116 j (fun q => by unfold fs_S at q; omega)).1, (k1 116 j (by omega) (by omega) (by omega) (by omega)).1]
    exact g5 j hj
  have hIV := IV_ref (m := k - 2) (hm := hm) (pos := pos) (s := s) (by omega) hs (fun i hi => ⟨(hcp.1 i hi).2.1, (hcp.1 i hi).2.2.1⟩) (fun i j h1 h2 e => by have := hcp.inj.2 i j (by omega) h2 e; omega) hpos
  obtain ⟨σ3, v1, v2, v3⟩ := m_see7 (d + 3) (far := IV (ovO (k - 2) hm) 0 s) (nI (AR (hdC σc t k C r car) (k - 2) 0 0 C s)) aim σ2 _ hR2 q3 (by rw [(q2 86 57 (fun q => by unfold fs_S at q; omega)).1, (k1 86 57 (by omega) (by omega) (by omega) (by omega)).1]; exact g10) (fun σ' h => by rw [hIV]; exact m_changesTo (d + 3) (hR2.fs h) (e116 σ' h) hps)
  rw [q1, v1]
  exact ⟨σ3, rfl, (S1.tr (q2.mono (fun b j q => Or.inr q))).tr (v2.mono (fun b j q => Or.inr q)), v3⟩
theorem bit_U {U o : Nat} (hU : U < 2 ^ 31) (ho : o < 31) : ((nI U >>> (nI o &&& 31)) &&& 1 = 0) ↔ U.testBit o = false := by
  rw [pk_shrN hU _ o (s_l o (by omega)), nI_a1, Nat.testBit_eq_decide_div_mod_eq, decide_eq_false_iff_not]
  refine (nI_eq (b := 0) (by omega) (by omega)).trans ?_
  omega
/-- the best one so far among homes below o -/
def fdB (m P a o : Nat) (hm : Nat → Nat) (b : Int32) : Prop := (b = -1 ∧ ∀ x, x < m → P.testBit x = false → a ≤ x → o ≤ hm x) ∨ ∃ x, x < m ∧ P.testBit x = false ∧ a ≤ x ∧ b = nI (hm x) ∧ hm x < o ∧ ∀ y, y < m → P.testBit y = false → a ≤ y → hm y < o → x ≤ y
theorem m_find (d : Nat) {k A P U a : Nat} {r car hm : Nat → Nat} {l1 ahead i : Int32} {σ : jS} (hk : 2 ≤ k) (hk10 : k ≤ 10) (hA : A ≤ 10) (hcp : carP k A r car hm) (hU : U < 2 ^ 31) (hUM : ∀ x, x < k - 2 → (U.testBit (hm x) = P.testBit x)) (h50 : σ.1 86 50 = nI k) (h116 : ∀ j, j < k → σ.1 116 j = nI (r j)) (hah : ∀ x, x < k - 2 → P.testBit x = false → (nI (car x) ≤ ahead ↔ x < a)) : ∀ (n o : Nat) (b : Int32), o + n = k - 1 → 1 ≤ o → fdB (k - 2) P a o hm b → ∃ b', b_M_turns_3 d l1 (nI U) ahead i b (nI o) σ = b_M_turns_6 d l1 (nI U) i b' σ ∧ fdB (k - 2) P a (k - 1) hm b'
  | 0, o, b, ho, h1, hb => by
    have e : nI k - 1 = nI (k - 1) := pk_sub (a := k) (b := 1) (by omega)
    rw [q_M_turns_3, h50, e, jif_t (nI_le (by omega) (by omega))]
    have eo : o = k - 1 := by omega
    subst eo
    exact ⟨b, rfl, hb⟩
  | n + 1, o, b, ho, h1, hb => by
    have e : nI k - 1 = nI (k - 1) := pk_sub (a := k) (b := 1) (by omega)
    obtain ⟨x, hx, hxo⟩ := hcp.2.2 o h1 (by omega)
    have ero : r o = car x := by rw [← hxo]; exact (hcp.1 x hx).2.2.2
    have hcx := (hcp.1 x hx).1
    have uniq : ∀ y, y < k - 2 → hm y = o → y = x := fun y hy e => hcp.inj.2 y x hy hx (e.trans hxo.symm)
    rw [q_M_turns_3, h50, e, jif_f (nI_ge (by omega) (by omega)), q_M_turns_5, nI_1]
    -- keep b
    have keep : (∀ y, y < k - 2 → P.testBit y = false → a ≤ y → hm y = o → ∃ z, z < k - 2 ∧ P.testBit z = false ∧ a ≤ z ∧ b = nI (hm z) ∧ hm z < o ∧ z ≤ y) → ∃ b', b_M_turns_3 d l1 (nI U) ahead i b (nI (o + 1)) σ = b_M_turns_6 d l1 (nI U) i b' σ ∧ fdB (k - 2) P a (k - 1) hm b' := fun hkp => by
      refine m_find d hk hk10 hA hcp hU hUM h50 h116 hah n (o + 1) b (by omega) (by omega) ?_
      rcases hb with ⟨b1, b2⟩ | ⟨z, z1, z2, z3, z4, z5, z6⟩
      · refine Or.inl ⟨b1, fun y y1 y2 y3 => ?_⟩
        have h2 := b2 y y1 y2 y3
        by_cases e : hm y = o
        · obtain ⟨z, z1, z2, z3, z4, -⟩ := hkp y y1 y2 y3 e
          rw [b1] at z4
          have := (hcp.1 z z1).2.2.1
          have hp : ¬ nI (hm z) < 0 := nI_pos (by omega)
          rw [← z4] at hp
          exact absurd (show (-1 : Int32) < 0 by decide) hp
        · omega
      · refine Or.inr ⟨z, z1, z2, z3, z4, by omega, fun y y1 y2 y3 y4 => ?_⟩
        by_cases e : hm y = o
        · obtain ⟨z', q1, q2, q3, q4, q5, q6⟩ := hkp y y1 y2 y3 e
          have := z6 z' q1 q2 q3 q5
          omega
        · exact z6 y y1 y2 y3 (by omega)
    -- take o
    have tak : P.testBit x = false → a ≤ x → (∀ y, y < k - 2 → P.testBit y = false → a ≤ y → hm y < o → x ≤ y) → ∃ b', b_M_turns_4 d l1 (nI U) ahead i (nI o) σ = b_M_turns_6 d l1 (nI U) i b' σ ∧ fdB (k - 2) P a (k - 1) hm b' := fun h2 h3 h4 => by
      rw [q_M_turns_4, q_M_turns_5, nI_1]
      refine m_find d hk hk10 hA hcp hU hUM h50 h116 hah n (o + 1) (nI o) (by omega) (by omega) (Or.inr ⟨x, hx, h2, h3, by rw [hxo], by omega, fun y y1 y2 y3 y4 => ?_⟩)
      by_cases e : hm y = o
      · rw [uniq y y1 e]; exact Nat.le_refl _
      · exact h4 y y1 y2 y3 (by omega)
    have hbU := bit_U hU (show o < 31 by omega)
    rw [← hxo, hUM x hx, hxo] at hbU
    by_cases hP : P.testBit x = false
    · rw [jif_t (hbU.mpr hP), rdI_ok (a := 116) (n := 10) rfl rfl (by omega) (by omega)]
      simp only [Option.bind_some]
      rw [h116 o (by omega), ero]
      by_cases hxa : x < a
      · rw [jif_t ((hah x hx hP).mpr hxa)]
        exact keep (fun y y1 y2 y3 y4 => by have := uniq y y1 y4; omega)
      · rw [jif_f (fun z => hxa ((hah x hx hP).mp z))]
        by_cases hb1 : b = -1
        · rw [jif_t hb1]
          refine tak hP (by omega) (fun y y1 y2 y3 y4 => ?_)
          rcases hb with ⟨b1, b2⟩ | ⟨z, z1, z2, z3, z4, z5, z6⟩
          · have := b2 y y1 y2 y3; omega
          · have := (hcp.1 z z1).2.2.1
            have hp : ¬ nI (hm z) < 0 := nI_pos (by omega)
            rw [← z4, hb1] at hp
            exact absurd (show (-1 : Int32) < 0 by decide) hp
        · rw [jif_f hb1]
          rcases hb with ⟨b1, b2⟩ | ⟨z, z1, z2, z3, z4, z5, z6⟩
          · exact absurd b1 hb1
          · have hz := hcp.1 z z1
            rw [z4, rdI_ok (a := 116) (n := 10) rfl rfl (by omega) (by omega)]
            simp only [Option.bind_some]
            rw [h116 (hm z) (by omega), hz.2.2.2]
            have hzx : z ≠ x := fun e => by subst e; omega
            by_cases q : z < x
            · have := hcp.2.1 z x q hx
              rw [jif_t (nI_le (by omega) (by omega)), ← z4]
              exact keep (fun y y1 y2 y3 y4 => ⟨z, z1, z2, z3, z4, z5, by have := uniq y y1 y4; omega⟩)
            · have := hcp.2.1 x z (by omega) z1
              rw [jif_f (nI_ge this (by omega))]
              refine tak hP (by omega) (fun y y1 y2 y3 y4 => ?_)
              have := z6 y y1 y2 y3 y4
              omega
    · rw [jif_f (fun z => hP (hbU.mp z))]
      exact keep (fun y y1 y2 y3 y4 => by rw [uniq y y1 y4] at y2; exact absurd y2 hP)
