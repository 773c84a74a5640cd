/-! All orders gone through. -/
/-- the row's first places -/
def PF (σ : jS) (car : Nat → Nat) (π : List Nat) : Prop := ∀ i, i < π.length → σ.1 114 (i + 1) = nI (car (π.getD i 0))
theorem PF.fr {σ σ' : jS} {k q : Nat} {car : Nat → Nat} {π : List Nat} (hq : π.length < q) (h : jep (tn_S k q) σ σ') (g : PF σ car π) : PF σ' car π := fun i hi => by
  rw [(h 114 (i + 1) (fun z => by unfold tn_S ms_S fs_S at z; omega)).1]
  exact g i hi
theorem FS.fr {σ σ' : jS} {F : jF} (h : ∀ j, σ'.1 86 j = σ.1 86 j ∧ σ'.2.1 86 j = σ.2.1 86 j) (hF : FS σ F) : FS σ' F := by
  obtain ⟨a1, a2, a3, a4, a5, a6, a7, a8, a9, a10⟩ := hF
  exact ⟨by rw [(h 59).1]; exact a1, by rw [(h 61).1]; exact a2, by rw [(h 63).2]; exact a3, by rw [(h 60).1]; exact a4, by rw [(h 62).1]; exact a5, by rw [(h 64).2]; exact a6, by rw [(h 65).1]; exact a7, by rw [(h 66).2]; exact a8, by rw [(h 67).1]; exact a9, by rw [(h 68).2]; exact a10⟩
/-- a turn at a place with rr carriers left -/
def TN (d : Nat) (σc : jS) (t k A C task w : Nat) (r car hm : Nat → Nat) (aim wt : Int32) (rr : Nat) : Prop := ∀ (P U : Nat) (π : List Nat) (σ : jS) (F : jF), P < 2 ^ (k - 2) → pc P + rr = k - 2 → π.length = pc P → U < 2 ^ 16 → (∀ x, x < k - 2 → (U.testBit (hm x) = P.testBit x)) → (∀ s', s' ∈ PL (k - 2) rr P → π ++ s' ∈ PL (k - 2) (k - 2) 0) → RE σc σ t k A C r (nI task) aim wt → PF σ car π → FS σ F →
    ∃ σ', g_M_turns (d + rr + 7) (nI (π.length + 1)) (nI U) σ = some (none, σ') ∧ jep (tn_S k (π.length + 1)) σ σ' ∧ FS σ' (((PL (k - 2) rr P).map (fun s => π ++ s)).foldl (seeF (vS σc t k C task w r car) (aS task w) (cS k r car) (hitS σc t k C r car aim) (farS k hm)) F)
theorem m_turns2 (d : Nat) {σc : jS} {t k A C task w rr P U : Nat} {r car hm : Nat → Nat} {aim wt : Int32} {π : List Nat} (ht : jTe t) (hk : 2 ≤ k) (hk10 : k ≤ 10) (hA : A ≤ 10) (hcp : carP k A r car hm) (IH : TN d σc t k A C task w r car hm aim wt rr)
    (hP : P < 2 ^ (k - 2)) (hpc : pc P + (rr + 1) = k - 2) (hπ : π.length = pc P) (hU : U < 2 ^ 16) (hUM : ∀ x, x < k - 2 → (U.testBit (hm x) = P.testBit x)) (hin : ∀ s', s' ∈ PL (k - 2) (rr + 1) P → π ++ s' ∈ PL (k - 2) (k - 2) 0) : ∀ (c a i : Nat) (ahead : Int32) (σ : jS) (F : jF), a + c = k - 2 → 1 ≤ i → i ≤ a + 1 → (∀ x, x < k - 2 → P.testBit x = false → (nI (car x) ≤ ahead ↔ x < a)) → RE σc σ t k A C r (nI task) aim wt → PF σ car π → FS σ F →
    ∃ σ', b_M_turns_2 (d + rr + 7) (nI (π.length + 1)) (nI U) ahead (nI i) σ = some (none, σ') ∧ jep (tn_S k (π.length + 1)) σ σ' ∧ FS σ' (((cat (fun x => PL (k - 2) rr (P ||| 2 ^ x)) P c a).map (fun s => π ++ s)).foldl (seeF (vS σc t k C task w r car) (aS task w) (cS k r car) (hitS σc t k C r car aim) (farS k hm)) F)
  | 0, a, i, ahead, σ, F, ha, h1, hi, hah, hE, hp, hF => by
    have e : nI k - 1 = nI (k - 1) := pk_sub (a := k) (b := 1) (by omega)
    rw [q_M_turns_2, hE.2.2.2.1, e]
    by_cases hki : k - 1 ≤ i
    · rw [jif_t (nI_le hki (by omega)), q_M_turns_8]
      exact ⟨σ, rfl, jep.rf, hF⟩
    · rw [jif_f (nI_ge (by omega) (by omega))]
      obtain ⟨b', p1, p2⟩ := m_find (d + rr + 7) (l1 := nI (π.length + 1)) (ahead := ahead) (i := nI i) (a := a) (P := P) hk hk10 hA hcp (show U < 2 ^ 31 by omega) hUM hE.2.2.2.1 hE.2.2.2.2.1 hah (k - 2) 1 (-1) (by omega) (Nat.le_refl 1) (Or.inl ⟨rfl, fun x x1 _ _ => (hcp.1 x x1).2.1⟩)
      have p1' : b_M_turns_3 (d + rr + 7) (nI (π.length + 1)) (nI U) ahead (nI i) (-1) 1 σ = b_M_turns_6 (d + rr + 7) (nI (π.length + 1)) (nI U) (nI i) b' σ := p1
      rw [p1', q_M_turns_6]
      rcases p2 with ⟨q1, -⟩ | ⟨x, q1, q2, q3, -⟩
      · rw [jif_t q1]
        exact ⟨σ, rfl, jep.rf, hF⟩
      · omega
  | c + 1, a, i, ahead, σ, F, ha, h1, hi, hah, hE, hp, hF => by
    have e : nI k - 1 = nI (k - 1) := pk_sub (a := k) (b := 1) (by omega)
    by_cases hPa : P.testBit a = true
    · have ec : cat (fun x => PL (k - 2) rr (P ||| 2 ^ x)) P (c + 1) a = cat (fun x => PL (k - 2) rr (P ||| 2 ^ x)) P c (a + 1) := by
        show (if P.testBit a = true then [] else _) ++ _ = _
        rw [if_pos hPa]; rfl
      rw [ec]
      refine m_turns2 d ht hk hk10 hA hcp IH hP hpc hπ hU hUM hin c (a + 1) i ahead σ F (by omega) h1 (by omega) (fun x x1 x2 => ?_) hE hp hF
      rw [hah x x1 x2]
      have : x ≠ a := fun z => by rw [z, hPa] at x2; exact absurd x2 (by decide)
      omega
    · have hPa' : P.testBit a = false := by cases z : P.testBit a <;> simp_all
      have ec : cat (fun x => PL (k - 2) rr (P ||| 2 ^ x)) P (c + 1) a = (PL (k - 2) rr (P ||| 2 ^ a)).map (fun s => a :: s) ++ cat (fun x => PL (k - 2) rr (P ||| 2 ^ x)) P c (a + 1) := by
        show (if P.testBit a = true then [] else _) ++ _ = _
        rw [if_neg hPa]
      have eF : ∀ (F : jF), ((cat (fun x => PL (k - 2) rr (P ||| 2 ^ x)) P (c + 1) a).map (fun s => π ++ s)).foldl (seeF (vS σc t k C task w r car) (aS task w) (cS k r car) (hitS σc t k C r car aim) (farS k hm)) F = ((cat (fun x => PL (k - 2) rr (P ||| 2 ^ x)) P c (a + 1)).map (fun s => π ++ s)).foldl (seeF (vS σc t k C task w r car) (aS task w) (cS k r car) (hitS σc t k C r car aim) (farS k hm)) (((PL (k - 2) rr (P ||| 2 ^ a)).map (fun s => (π ++ [a]) ++ s)).foldl (seeF (vS σc t k C task w r car) (aS task w) (cS k r car) (hitS σc t k C r car aim) (farS k hm)) F) := fun F => by
        rw [ec, List.map_append, List.foldl_append, List.map_map]
        have : ((fun s => π ++ s) ∘ (fun s => a :: s)) = (fun s => (π ++ [a]) ++ s) := funext fun s => by
          show π ++ (a :: s) = (π ++ [a]) ++ s
          rw [List.append_assoc]; rfl
        rw [this]
      have hca := hcp.1 a (by omega)
      rw [q_M_turns_2, hE.2.2.2.1, e, jif_f (nI_ge (by omega) (by omega))]
      obtain ⟨b', p1, p2⟩ := m_find (d + rr + 7) (l1 := nI (π.length + 1)) (ahead := ahead) (i := nI i) (a := a) (P := P) hk hk10 hA hcp (show U < 2 ^ 31 by omega) hUM hE.2.2.2.1 hE.2.2.2.2.1 hah (k - 2) 1 (-1) (by omega) (Nat.le_refl 1) (Or.inl ⟨rfl, fun x x1 _ _ => (hcp.1 x x1).2.1⟩)
      have p1' : b_M_turns_3 (d + rr + 7) (nI (π.length + 1)) (nI U) ahead (nI i) (-1) 1 σ = b_M_turns_6 (d + rr + 7) (nI (π.length + 1)) (nI U) (nI i) b' σ := p1
      have eb : b' = nI (hm a) := by
        rcases p2 with ⟨q1, q2⟩ | ⟨x, q1, q2, q3, q4, q5, q6⟩
        · have := q2 a (by omega) hPa' (Nat.le_refl a); omega
        · have := q6 a (by omega) hPa' (Nat.le_refl a) (by omega)
          rw [q4, show x = a by omega]
      subst eb
      have hne : ¬ nI (hm a) = (-1 : Int32) := fun z => by
        have hp : ¬ nI (hm a) < 0 := nI_pos (by omega)
        rw [z] at hp
        exact hp (by decide)
      have hlen : π.length + 1 < k - 1 := by omega
      rw [p1', q_M_turns_6, jif_f hne, q_M_turns_7, rdI_ok (a := 116) (n := 10) rfl rfl (show hm a < 10 by omega) (by omega)]
      simp only [Option.bind_some]
      rw [hE.2.2.2.2.1 (hm a) (by omega), hca.2.2.2, wrI_ok (a := 114) (n := 10) rfl rfl (show π.length + 1 < 10 by omega) (by omega)]
      simp only [Option.bind_some]
      rw [nI_1, nI_1, or_bit (show hm a < 31 by omega)]
      have S1 : jep (tn_S k (π.length + 1)) σ (j_setI σ 114 (π.length + 1) (nI (car a))) := jep.rf.sI (Or.inl ⟨rfl, by omega, by omega⟩)
      have hpo := pc_or P (m256 (show k - 2 ≤ 8 by omega) hP) a (by omega) hPa'
      have el : (π ++ [a]).length = π.length + 1 := List.length_append
      obtain ⟨σ3, r1, r2, r3⟩ := IH (P ||| 2 ^ a) (U ||| 2 ^ hm a) (π ++ [a]) (j_setI σ 114 (π.length + 1) (nI (car a))) F (or_lt hP (by omega)) (by omega) (by rw [el]; omega) (or_lt hU (by omega)) (fun x hx => by
          rw [Nat.testBit_or, Nat.testBit_or, hUM x hx, Nat.testBit_two_pow, Nat.testBit_two_pow]
          by_cases z : a = x
          · subst z; simp
          · have z2 : hm a ≠ hm x := fun q => z (hcp.inj.2 a x (by omega) hx q)
            simp [z, z2]) (fun s' hs' => by
          have := hin (a :: s') ((mem_cat (k - 2) 0).mpr ⟨a, s', by omega, by omega, hPa', hs', rfl⟩)
          rw [List.append_assoc]; exact this) (hE.fr ht (by omega) hk S1) (fun j hj => by
          rw [el] at hj
          by_cases z : j = π.length
          · subst z
            rw [setI_same, List.getD_eq_getElem?_getD, List.getElem?_concat_length]; rfl
          · rw [setI_nk (by omega), List.getD_eq_getElem?_getD, List.getElem?_append_left (by omega), ← List.getD_eq_getElem?_getD]
            exact hp j (by omega)) (hF.fr (fun j => ⟨setI_ne (by decide), rfl⟩))
      rw [el] at r1 r2
      have r2' : jep (tn_S k (π.length + 1)) (j_setI σ 114 (π.length + 1) (nI (car a))) σ3 := r2.mono (fun b j z => by
        unfold tn_S at z ⊢
        rcases z with z | z
        · exact Or.inl ⟨z.1, by omega, z.2.2⟩
        · exact Or.inr z)
      rw [r1, rV_s]
      simp only [Option.bind_some]
      obtain ⟨σ4, t1, t2, t3⟩ := m_turns2 d ht hk hk10 hA hcp IH hP hpc hπ hU hUM hin c (a + 1) (i + 1) (nI (car a)) σ3 _ (by omega) (by omega) (by omega) (fun x x1 x2 => by
          have hx := (hcp.1 x x1).1
          constructor
          · intro q
            by_cases z : x < a + 1
            · exact z
            · exact absurd q (nI_ge (hcp.2.1 a x (by omega) x1) (by omega))
          · intro q
            by_cases z : x = a
            · subst z; exact nI_le (Nat.le_refl _) (by omega)
            · have := hcp.2.1 x a (by omega) (by omega)
              exact nI_le (by omega) (by omega)) ((hE.fr ht (by omega) hk S1).fr ht (by omega) hk r2') ((hp.fr (by omega) S1).fr (by omega) r2') r3
      rw [eF]
      exact ⟨σ4, t1, (S1.tr r2').tr t2, t3⟩
theorem m_turns (d : Nat) {σc : jS} {t k A C task w : Nat} {r car hm : Nat → Nat} {aim wt : Int32} (ht : jTe t) (hk : 2 ≤ k) (hk10 : k ≤ 10) (hA : A ≤ 10) (hC : C ≤ 999999) (hcp : carP k A r car hm) (hrA : ∀ j, j < k → r j < A) (hrk : ∀ i j, i < j → j < k → r i ≠ r j) (htk : task ≤ 1) (hwt : task = 1 → w < k - 2 ∧ wt = nI (car w)) : ∀ rr, TN d σc t k A C task w r car hm aim wt rr
  | 0 => fun P U π σ F hP hpc hπ hU hUM hin hE hp hF => by
    have e : nI k - 1 = nI (k - 1) := pk_sub (a := k) (b := 1) (by omega)
    have hs : π ++ [] ∈ PL (k - 2) (k - 2) 0 := hin [] List.mem_cons_self
    have hf := path_f hk hk10 hA hcp hrA hrk hs
    have hR : mRow σ k (rF k r car (π ++ [])) := by
      refine ⟨hk, hk10, hE.2.2.2.1, fun j hj => ⟨?_, by have := hf.2.2.2.2.1 j hj; omega⟩⟩
      unfold rF
      by_cases z : j = 0
      · rw [if_pos z, z]; exact hE.2.2.2.2.2.1
      · rw [if_neg z]
        by_cases z2 : j ≤ k - 2
        · rw [if_pos z2, List.append_nil]
          have := hp (j - 1) (by omega)
          rw [show j - 1 + 1 = j by omega] at this
          exact this
        · rw [if_neg z2, show j = k - 1 by omega]; exact hE.2.2.2.2.2.2.1
    obtain ⟨σ1, p1, p2, p3⟩ := m_sees d (w := w) ht hk hk10 hA hC hcp hrA hrk htk hwt hs σ F hE hR hF
    have e1 : g_M_turns (d + 0 + 7) (nI (π.length + 1)) (nI U) σ = b_M_turns_0 (d + 6) (nI (π.length + 1)) (nI U) σ := e_M_turns _ _ _ _
    rw [e1, q_M_turns_0, hE.2.2.2.1, e, jif_t (congrArg nI (show π.length + 1 = k - 1 by omega)), p1, rV_s]
    exact ⟨σ1, rfl, p2.mono (fun b j q => Or.inr q), p3⟩
  | rr + 1 => fun P U π σ F hP hpc hπ hU hUM hin hE hp hF => by
    have e : nI k - 1 = nI (k - 1) := pk_sub (a := k) (b := 1) (by omega)
    have IH := m_turns d (σc := σc) (aim := aim) ht hk hk10 hA hC hcp hrA hrk htk hwt rr
    have e1 : g_M_turns (d + (rr + 1) + 7) (nI (π.length + 1)) (nI U) σ = b_M_turns_0 (d + rr + 7) (nI (π.length + 1)) (nI U) σ := e_M_turns _ _ _ _
    rw [e1, q_M_turns_0, hE.2.2.2.1, e, jif_f (fun z => by have := nI_inj (by omega) (by omega) z; omega), q_M_turns_1]
    exact m_turns2 d ht hk hk10 hA hcp IH hP hpc hπ hU hUM hin (k - 2) 0 1 (-1) σ F (by omega) (Nat.le_refl 1) (by omega) (fun x x1 _ => ⟨fun z => by
      have hp : ¬ nI (car x) < 0 := nI_pos (by have := (hcp.1 x x1).1; omega)
      exact absurd (Int32.lt_of_le_of_lt z (by decide)) hp, fun z => absurd z (by omega)⟩) hE hp hF
/-- the orders, gone through -/
def gt_S : Nat → Nat → Prop := fun b j => b = 114 ∨ b = 116 ∨ ms_S b j ∨ (b = 86 ∧ 55 ≤ j ∧ j ≤ 68)
theorem gt_a {k : Nat} {r : Nat → Nat} {D : Nat} {l1 l2 l3 l4 : Int32} (hk10 : k ≤ 10) : ∀ (n o : Nat) (σ : jS), o + n = k → mRow σ k r → (∀ j, j < o → σ.1 116 j = nI (r j)) → ∃ σ', b_M_goesThrough_1 D l1 l2 l3 l4 (nI o) σ = b_M_goesThrough_2 D l1 l2 l3 l4 σ' ∧ jep (fun b _ => b = 116) σ σ' ∧ ∀ j, j < k → σ'.1 116 j = nI (r j)
  | 0, o, σ, ho, hR, h => by
    rw [q_M_goesThrough_1, hR.2.2.1, jif_t (nI_le (by omega) (by omega))]
    exact ⟨σ, rfl, jep.rf, fun j hj => h j (by omega)⟩
  | n + 1, o, σ, ho, hR, h => by
    rw [q_M_goesThrough_1, hR.2.2.1, jif_f (nI_ge (by omega) (by omega)), rdI_ok (a := 114) (n := 10) rfl rfl (show o < 10 by omega) (by omega)]
    simp only [Option.bind_some]
    rw [wrI_ok (a := 116) (n := 10) rfl rfl (show o < 10 by omega) (by omega)]
    simp only [Option.bind_some]
    rw [(hR.2.2.2 o (by omega)).1, nI_1]
    have S1 : jep (fun b _ => b = 116) σ (j_setI σ 116 o (nI (r o))) := jep.rf.sI rfl
    obtain ⟨σ', p1, p2, p3⟩ := gt_a hk10 n (o + 1) (j_setI σ 116 o (nI (r o))) (by omega) (hR.fr S1 (fun b j q z => by omega)) (fun j hj => by
      by_cases z : j = o
      · subst z; rw [setI_same]
      · rw [setI_nk z]; exact h j (by omega))
    exact ⟨σ', p1, S1.tr p2, p3⟩
theorem gt_b {k : Nat} {r : Nat → Nat} {D : Nat} (hk10 : k ≤ 10) : ∀ (n o : Nat) (σ : jS), o + n = k → σ.1 86 50 = nI k → (∀ j, j < k → σ.1 116 j = nI (r j)) → (∀ j, j < o → σ.1 114 j = nI (r j)) → ∃ σ', b_M_goesThrough_3 D (nI o) σ = some (none, σ') ∧ jep (fun b _ => b = 114) σ σ' ∧ ∀ j, j < k → σ'.1 114 j = nI (r j)
  | 0, o, σ, ho, hR, h6, h => by
    rw [q_M_goesThrough_3, hR, jif_t (nI_le (by omega) (by omega)), q_M_goesThrough_4]
    exact ⟨σ, rfl, jep.rf, fun j hj => h j (by omega)⟩
  | n + 1, o, σ, ho, hR, h6, h => by
    rw [q_M_goesThrough_3, hR, jif_f (nI_ge (by omega) (by omega)), rdI_ok (a := 116) (n := 10) rfl rfl (show o < 10 by omega) (by omega)]
    simp only [Option.bind_some]
    rw [wrI_ok (a := 114) (n := 10) rfl rfl (show o < 10 by omega) (by omega)]
    simp only [Option.bind_some]
    rw [h6 o (by omega), nI_1]
    have S1 : jep (fun b _ => b = 114) σ (j_setI σ 114 o (nI (r o))) := jep.rf.sI rfl
    obtain ⟨σ', p1, p2, p3⟩ := gt_b hk10 n (o + 1) (j_setI σ 114 o (nI (r o))) (by omega) (by rw [setI_ne (by decide)]; exact hR) (fun j hj => by rw [setI_ne (by decide)]; exact h6 j hj) (fun j hj => by
      by_cases z : j = o
      · subst z; rw [setI_same]
      · rw [setI_nk z]; exact h j (by omega))
    exact ⟨σ', p1, S1.tr p2, p3⟩
theorem m_goesThrough (d : Nat) {σc : jS} {t k A C task w : Nat} {r car hm : Nat → Nat} {aim wt : Int32} (ht : jTe t) (hk : 2 ≤ k) (hk10 : k ≤ 10) (hA : A ≤ 10) (hC : C ≤ 999999) (hcp : carP k A r car hm) (hrA : ∀ j, j < k → r j < A) (hrk : ∀ i j, i < j → j < k → r i ≠ r j) (htk : task ≤ 1) (hwt : task = 1 → w < k - 2 ∧ wt = nI (car w)) (σ : jS) (hL : lawR σ t 4 0) (h32 : σ.1 86 32 = nI 0) (hB : mB σc σ t A) (hR : mRow σ k r) :
    ∃ σ' a1 c1 a2 c2 c3 c4, g_M_goesThrough (d + 16) (nI C) aim (nI task) wt σ = some (none, σ') ∧ jep gt_S σ σ' ∧ mRow σ' k r ∧ FS σ' ((PL (k - 2) (k - 2) 0).foldl (seeF (vS σc t k C task w r car) (aS task w) (cS k r car) (hitS σc t k C r car aim) (farS k hm)) ((-1, a1, c1), (-1, a2, c2), (0, c3), (-1, c4))) := by
  obtain ⟨σ1, p1, p2, p3⟩ := gt_a (D := d + 15) (l1 := nI C) (l2 := aim) (l3 := nI task) (l4 := wt) hk10 k 0 σ (by omega) hR (fun j hj => absurd hj (by omega))
  have p1' : b_M_goesThrough_1 (d + 15) (nI C) aim (nI task) wt 0 σ = b_M_goesThrough_2 (d + 15) (nI C) aim (nI task) wt σ1 := p1
  rw [e_M_goesThrough, q_M_goesThrough_0, p1', q_M_goesThrough_2]
  have ha : ∀ σ2, σ2 = j_setI (j_setI (j_setI (j_setI (j_setI (j_setI (j_setI (j_setI σ1 86 55 (nI task)) 86 56 (nI C)) 86 57 aim) 86 58 wt) 86 59 (-1)) 86 60 (-1)) 86 65 0) 86 67 (-1) → jep (fun b j => b = 86 ∧ 55 ≤ j ∧ j ≤ 68) σ1 σ2 ∧ RE σc σ2 t k A C r (nI task) aim wt ∧ FS σ2 ((-1, σ1.1 86 61, σ1.2.1 86 63), (-1, σ1.1 86 62, σ1.2.1 86 64), (0, σ1.2.1 86 66), (-1, σ1.2.1 86 68)) := fun σ2 e2 => by
    have S2 : jep (fun b j => b = 86 ∧ 55 ≤ j ∧ j ≤ 68) σ1 σ2 := by
      subst e2
      exact (((((((jep.rf.sI ⟨rfl, by omega, by omega⟩).sI ⟨rfl, by omega, by omega⟩).sI ⟨rfl, by omega, by omega⟩).sI ⟨rfl, by omega, by omega⟩).sI ⟨rfl, by omega, by omega⟩).sI ⟨rfl, by omega, by omega⟩).sI ⟨rfl, by omega, by omega⟩).sI ⟨rfl, by omega, by omega⟩
    have ht' := ht
    have S3 : jep (fun b j => b = 116 ∨ (b = 86 ∧ 55 ≤ j ∧ j ≤ 68)) σ σ2 := (p2.mono (fun b j q => Or.inl q)).tr (S2.mono (fun b j q => Or.inr q))
    have R2 : mRow σ2 k r := hR.fr S3 (fun b j q z => by omega)
    refine ⟨S2, ⟨hL.fr S3 (fun b j p q => by unfold lawP at p; rcases ht' with rfl | rfl <;> omega), by rw [(S3 86 32 (by omega)).1]; exact h32, hB.fr S3 (fun b j p q => by rcases ht' with rfl | rfl <;> omega), R2.2.2.1, fun j hj => by rw [(S2 116 j (by omega)).1]; exact p3 j hj, (R2.2.2.2 0 (by omega)).1, (R2.2.2.2 (k - 1) (by omega)).1, ?_, ?_, ?_, ?_⟩, ⟨?_, ?_, ?_, ?_, ?_, ?_, ?_, ?_, ?_, ?_⟩⟩ <;> subst e2 <;> rfl
  obtain ⟨S2, hE, hF⟩ := ha _ rfl
  generalize j_setI (j_setI (j_setI (j_setI (j_setI (j_setI (j_setI (j_setI σ1 86 55 (nI task)) 86 56 (nI C)) 86 57 aim) 86 58 wt) 86 59 (-1)) 86 60 (-1)) 86 65 0) 86 67 (-1) = σ2 at S2 hE hF ⊢
  have e0 : pc 0 = 0 := by decide
  obtain ⟨σ3, q1, q2, q3⟩ := m_turns (d + 8 - (k - 2)) (σc := σc) (aim := aim) ht hk hk10 hA hC hcp hrA hrk htk hwt (k - 2) 0 0 [] σ2 _ (Nat.two_pow_pos _) (by omega) rfl (by omega) (fun x _ => by rw [Nat.zero_testBit, Nat.zero_testBit]) (fun s' h => h) hE (fun i hi => absurd hi (Nat.not_lt_zero _)) hF
  rw [show d + 8 - (k - 2) + (k - 2) + 7 = d + 15 by omega] at q1
  have q1' : g_M_turns (d + 15) 1 0 σ2 = some (none, σ3) := q1
  have q3' : FS σ3 ((PL (k - 2) (k - 2) 0).foldl (seeF (vS σc t k C task w r car) (aS task w) (cS k r car) (hitS σc t k C r car aim) (farS k hm)) ((-1, σ1.1 86 61, σ1.2.1 86 63), (-1, σ1.1 86 62, σ1.2.1 86 64), (0, σ1.2.1 86 66), (-1, σ1.2.1 86 68))) := by
    have em : (PL (k - 2) (k - 2) 0).map (fun s => [] ++ s) = PL (k - 2) (k - 2) 0 := List.map_id' _
    rw [em] at q3
    exact q3
  have hE3 := hE.fr ht (Nat.le_refl 1) hk q2
  rw [q1', rV_s]
  simp only [Option.bind_some]
  obtain ⟨σ4, r1, r2, r3⟩ := gt_b (D := d + 15) hk10 k 0 σ3 (by omega) hE3.2.2.2.1 hE3.2.2.2.2.1 (fun j hj => absurd hj (by omega))
  have r1' : b_M_goesThrough_3 (d + 15) 0 σ3 = some (none, σ4) := r1
  rw [r1']
  refine ⟨σ4, _, _, _, _, _, _, rfl, (((p2.mono (fun b j q => Or.inr (Or.inl q))).tr (S2.mono (fun b j q => Or.inr (Or.inr (Or.inr q))))).tr (q2.mono (fun b j q => ?_))).tr (r2.mono (fun b j q => Or.inl q)), ⟨hk, hk10, by rw [(r2 86 50 (by omega)).1]; exact hE3.2.2.2.1, fun j hj => ⟨r3 j hj, by have := hrA j hj; omega⟩⟩, q3'.fr (fun j => ⟨(r2 86 j (by omega)).1, (r2 86 j (by omega)).2.1⟩)⟩
  rcases q with q | q | q
  · exact Or.inl q.1
  · exact Or.inr (Or.inr (Or.inl q))
  · exact Or.inr (Or.inr (Or.inr ⟨q.1, by have := q.2; omega, by have := q.2; omega⟩))
