/-! 28: fits. -/
/-- which are struck, from the last one on -/
def mkS (tg : Nat → Int32) : Nat → (Nat → Int32) → (Nat → Int32)
  | 0, f => f
  | i + 1, f => mkS tg i (if f i = 0 then (if tg i = -1 then f else jup f (tg i).toNatClampNeg 1) else f)
theorem mkS_congr {tg : Nat → Int32} {K : Nat} : ∀ (i : Nat) (f g : Nat → Int32), i ≤ K → (∀ k, k < K → f k = g k) → ∀ k, k < K → mkS tg i f k = mkS tg i g k
  | 0, _, _, _, h => h
  | i + 1, f, g, hi, h => by
    unfold mkS
    refine mkS_congr i _ _ (by omega) (fun k hk => ?_)
    rw [h i (by omega)]
    by_cases a : g i = 0
    · rw [if_pos a, if_pos a]
      by_cases b : tg i = -1
      · rw [if_pos b, if_pos b]; exact h k hk
      · rw [if_neg b, if_neg b]
        by_cases e : k = (tg i).toNatClampNeg
        · rw [e, jup_s, jup_s]
        · rw [jup_n e, jup_n e]; exact h k hk
    · rw [if_neg a, if_neg a]; exact h k hk
theorem mkS_01 {tg : Nat → Int32} {K : Nat} : ∀ (i : Nat) (f : Nat → Int32), i ≤ K → (∀ k, k < K → f k = 0 ∨ f k = 1) → ∀ k, k < K → mkS tg i f k = 0 ∨ mkS tg i f k = 1
  | 0, _, _, h => h
  | i + 1, f, hi, h => by
    unfold mkS
    refine mkS_01 i _ (by omega) (fun k hk => ?_)
    by_cases a : f i = 0
    · rw [if_pos a]
      by_cases b : tg i = -1
      · rw [if_pos b]; exact h k hk
      · rw [if_neg b]
        by_cases e : k = (tg i).toNatClampNeg
        · rw [e, jup_s]; exact Or.inr rfl
        · rw [jup_n e]; exact h k hk
    · rw [if_neg a]; exact h k hk
theorem mkS_ext {tg tg' : Nat → Int32} : ∀ (i : Nat) (f : Nat → Int32), (∀ k, k < i → tg k = tg' k) → mkS tg i f = mkS tg' i f
  | 0, _, _ => rfl
  | i + 1, f, h => by
    unfold mkS
    rw [h i (by omega), mkS_ext i _ (fun k hk => h k (by omega))]
theorem mkS_jup {tg : Nat → Int32} (i : Nat) (f : Nat → Int32) : mkS tg (i + 1) f = mkS tg i (if f i = 0 then (if tg i = -1 then f else jup f (tg i).toNatClampNeg 1) else f) := rfl
theorem c_mark1 (d : Nat) {S : Nat} (hS : S ≤ 40) : ∀ (c a : Nat) (σ : jS), a + c = S → σ.1 78 0 = nI S → ∃ σ', b_Nt_markStruck_1 d (nI a) σ = b_Nt_markStruck_2 d σ' ∧ jep (fun b k => b = 85 ∧ a ≤ k) σ σ' ∧ ∀ k, a ≤ k → k < S → σ'.1 85 k = 0
  | 0, a, σ, ha, h => by
    rw [q_Nt_markStruck_1, h, jif_t (nI_le (by omega) (by omega))]
    exact ⟨σ, rfl, jep.rf, fun k h1 h2 => absurd h2 (by omega)⟩
  | c + 1, a, σ, ha, h => by
    rw [q_Nt_markStruck_1, h, jif_f (nI_ge (by omega) (by omega)), wrZ_ok (a := 85) (n := 40) rfl rfl (by omega) (by omega) (Or.inl rfl)]
    simp only [Option.bind_some]
    rw [nI_1]
    obtain ⟨σ', g1, g2, g3⟩ := c_mark1 d hS c (a + 1) (j_setI σ 85 a 0) (by omega) (by rw [setI_ne (by omega)]; exact h)
    refine ⟨σ', g1, (jep.rf.sI (S := fun b k => b = 85 ∧ a ≤ k) ⟨rfl, Nat.le_refl _⟩).tr (g2.mono (fun b k q => ⟨q.1, by omega⟩)), fun k h1 h2 => ?_⟩
    by_cases e : k = a
    · subst e; rw [(g2 85 k (by omega)).1, setI_same]
    · exact g3 k (by omega) h2
theorem c_mark3 (d : Nat) {S : Nat} (hS : S ≤ 40) {tg : Nat → Int32} (htg : ∀ j, j < S → tg j = -1 ∨ ∃ q, q < j ∧ tg j = nI q) : ∀ (i : Nat) (σ : jS), i ≤ S → (∀ j, j < S → σ.1 84 j = tg j) → ∃ σ', b_Nt_markStruck_3 d (nI i - 1) σ = some (none, σ') ∧ jep (fun b _ => b = 85) σ σ' ∧ σ'.1 85 = mkS tg i (σ.1 85)
  | 0, σ, hi, ht => by
    rw [q_Nt_markStruck_3, jif_t (show nI 0 - 1 < 0 by decide), q_Nt_markStruck_5]
    exact ⟨σ, rfl, jep.rf, rfl⟩
  | i + 1, σ, hi, ht => by
    rw [nI_pred, q_Nt_markStruck_3, jif_f (nI_pos (by omega)), rdI_ok (a := 85) (n := 40) rfl rfl (by omega) (by omega)]
    simp only [Option.bind_some]
    rw [rdI_ok (a := 84) (n := 40) rfl rfl (by omega) (by omega)]
    simp only [Option.bind_some]
    rw [q_Nt_markStruck_4, ht i (by omega), mkS_jup, ← Int32.sub_eq_add_neg]
    by_cases a : σ.1 85 i = 0
    · rw [jif_t a, if_pos a]
      by_cases b : tg i = -1
      · rw [jif_t b, if_pos b]
        exact c_mark3 d hS htg i σ (by omega) ht
      · rw [jif_f b, if_neg b]
        obtain ⟨q, hq, e⟩ : ∃ q, q < i ∧ tg i = nI q := by
          rcases htg i (by omega) with z | z
          · exact absurd z b
          · exact z
        rw [e, wrZ_ok (a := 85) (n := 40) rfl rfl (by omega) (by omega) (Or.inr rfl), nI_clamp (by omega)]
        simp only [Option.bind_some]
        rw [q_Nt_markStruck_4, ← Int32.sub_eq_add_neg]
        obtain ⟨σ', g1, g2, g3⟩ := c_mark3 d hS htg i (j_setI σ 85 q 1) (by omega) (fun j hj => by rw [setI_ne (by omega)]; exact ht j hj)
        refine ⟨σ', g1, (jep.rf.sI (S := fun b _ => b = 85) rfl).tr g2, ?_⟩
        rw [g3]
        congr 1
        funext k
        by_cases e : k = q
        · subst e; rw [setI_same, jup_s]
        · rw [setI_nk e, jup_n e]
    · rw [jif_f a, if_neg a]
      exact c_mark3 d hS htg i σ (by omega) ht
theorem m_mark1 (d : Nat) {K : Nat} (hK : K ≤ 40) : ∀ (c a : Nat) (σ : jS), a + c = K → (if σ.1 86 70 = -1 then σ.1 86 69 else σ.1 86 70) = nI K → ∃ σ', b_M_fits_1 (d + 1) (nI a) σ = b_M_fits_2 (d + 1) σ' ∧ jep (fun b k => b = 122 ∧ a ≤ k) σ σ' ∧ ∀ k, a ≤ k → k < K → σ'.1 122 k = 0
  | 0, a, σ, ha, h => by
    rw [q_M_fits_1, m_knownMany, rI_s]
    simp only [Option.bind_some]
    rw [h, jif_t (nI_le (by omega) (by omega))]
    exact ⟨σ, rfl, jep.rf, fun k h1 h2 => absurd h2 (by omega)⟩
  | c + 1, a, σ, ha, h => by
    rw [q_M_fits_1, m_knownMany, rI_s]
    simp only [Option.bind_some]
    rw [h, jif_f (nI_ge (by omega) (by omega)), wrZ_ok (a := 122) (n := 40) rfl rfl (by omega) (by omega) (Or.inl rfl)]
    simp only [Option.bind_some]
    rw [nI_1]
    obtain ⟨σ', g1, g2, g3⟩ := m_mark1 d hK c (a + 1) (j_setI σ 122 a 0) (by omega) (by rw [setI_ne (by omega), setI_ne (by omega)]; exact h)
    refine ⟨σ', g1, (jep.rf.sI (S := fun b k => b = 122 ∧ a ≤ k) ⟨rfl, Nat.le_refl _⟩).tr (g2.mono (fun b k q => ⟨q.1, by omega⟩)), fun k h1 h2 => ?_⟩
    by_cases e : k = a
    · subst e; rw [(g2 122 k (by omega)).1, setI_same]
    · exact g3 k (by omega) h2
theorem m_mark3 (d : Nat) {S : Nat} (hS : S ≤ 40) {tg : Nat → Int32} (htg : ∀ j, j < S → tg j = -1 ∨ ∃ q, q < j ∧ tg j = nI q) : ∀ (i : Nat) (σ : jS), i ≤ S → (∀ j, j < S → (σ.1 117 j = -1 ↔ ¬ tg j = -1) ∧ (¬ tg j = -1 → σ.1 119 j = tg j)) → ∃ σ', b_M_fits_3 d (nI i - 1) σ = b_M_fits_5 d σ' ∧ jep (fun b _ => b = 122) σ σ' ∧ σ'.1 122 = mkS tg i (σ.1 122)
  | 0, σ, hi, ht => by
    rw [q_M_fits_3, jif_t (show nI 0 - 1 < 0 by decide)]
    exact ⟨σ, rfl, jep.rf, rfl⟩
  | i + 1, σ, hi, ht => by
    rw [nI_pred, q_M_fits_3, jif_f (nI_pos (by omega)), rdI_ok (a := 122) (n := 40) rfl rfl (by omega) (by omega)]
    simp only [Option.bind_some]
    rw [rdI_ok (a := 117) (n := 40) rfl rfl (by omega) (by omega)]
    simp only [Option.bind_some]
    obtain ⟨t1, t2⟩ := ht i (by omega)
    rw [q_M_fits_4, mkS_jup, ← Int32.sub_eq_add_neg]
    by_cases a : σ.1 122 i = 0
    · rw [jif_t a, if_pos a]
      by_cases b : tg i = -1
      · rw [jif_f (fun z => t1.mp z b), if_pos b]
        exact m_mark3 d hS htg i σ (by omega) ht
      · rw [jif_t (t1.mpr b), if_neg b, rdI_ok (a := 119) (n := 40) rfl rfl (by omega) (by omega)]
        simp only [Option.bind_some]
        obtain ⟨q, hq, e⟩ : ∃ q, q < i ∧ tg i = nI q := by
          rcases htg i (by omega) with z | z
          · exact absurd z b
          · exact z
        rw [t2 b, e, wrZ_ok (a := 122) (n := 40) rfl rfl (by omega) (by omega) (Or.inr rfl), nI_clamp (by omega)]
        simp only [Option.bind_some]
        rw [q_M_fits_4, ← Int32.sub_eq_add_neg]
        obtain ⟨σ', g1, g2, g3⟩ := m_mark3 d hS htg i (j_setI σ 122 q 1) (by omega) (fun j hj => by rw [setI_ne (by omega), setI_ne (by omega)]; exact ht j hj)
        refine ⟨σ', g1, (jep.rf.sI (S := fun b _ => b = 122) rfl).tr g2, ?_⟩
        rw [g3]
        congr 1
        funext k
        by_cases e : k = q
        · subst e; rw [setI_same, jup_s]
        · rw [setI_nk e, jup_n e]
    · rw [jif_f a, if_neg a]
      exact m_mark3 d hS htg i σ (by omega) ht
/-- a note's row as a number, and what arrives by it -/
def nN (σ : jS) (k : Nat) : Nat := (σ.2.1 80 k).toBitVec.toNat
noncomputable def nV (σ : jS) (t L k : Nat) : Int32 := arr (cSh σ t L (nib (nN σ k))) ((σ.1 79 k).toNatClampNeg - 2) 1 (σ.1 81 k)
/-- from a on all that count are so -/
def nOK (σ : jS) (t L K : Nat) (s : Nat → Int32) (a : Nat) : Prop := ∀ k, a ≤ k → k < K → σ.1 84 k = -1 → s k = 0 → σ.1 82 k ≤ nV σ t L k ∧ nV σ t L k ≤ σ.1 83 k
def ag_S (t : Nat) : Nat → Nat → Prop := fun b j => ct_S b j ∨ la_S t b
theorem nOK_s {σ : jS} {t L K a : Nat} {s : Nat → Int32} (h : ¬ (a < K ∧ σ.1 84 a = -1 ∧ s a = 0)) : nOK σ t L K s a ↔ nOK σ t L K s (a + 1) := by
  refine ⟨fun q k h1 h2 => q k (by omega) h2, fun q k h1 h2 h3 h4 => ?_⟩
  by_cases e : k = a
  · subst e; exact absurd ⟨h2, h3, h4⟩ h
  · exact q k (by omega) h2 h3 h4
theorem nOK_c {σ : jS} {t L K a : Nat} {s : Nat → Int32} (h : a < K ∧ σ.1 84 a = -1 ∧ s a = 0) : nOK σ t L K s a ↔ ((σ.1 82 a ≤ nV σ t L a ∧ nV σ t L a ≤ σ.1 83 a) ∧ nOK σ t L K s (a + 1)) := by
  refine ⟨fun q => ⟨q a (Nat.le_refl _) h.1 h.2.1 h.2.2, fun k h1 h2 => q k (by omega) h2⟩, fun q k h1 h2 h3 h4 => ?_⟩
  by_cases e : k = a
  · subst e; exact q.1
  · exact q.2 k (by omega) h2 h3 h4
theorem b2i_iff {p q : Prop} (h : p ↔ q) : b2i p = b2i q := by
  by_cases z : q
  · rw [b2i_t z, b2i_t (h.mpr z)]
  · rw [b2i_f z, b2i_f (fun y => z (h.mp y))]
theorem c_agrees_l (d : Nat) {σ0 : jS} {t L S K A : Nat} {s : Nat → Int32} (ht : jTe t) (hL : L < 5) (hS : S ≤ 40) (hK : K ≤ S) (hA : A ≤ 10) (r2 : σ0.2.2 0 2 = t) (hA0 : σ0.1 t 0 = nI A) (h78 : σ0.1 78 0 = nI S) (hKn : (if σ0.1 78 1 = -1 then σ0.1 78 0 else σ0.1 78 1) = nI K) (hs : ∀ k, k < S → σ0.1 85 k = s k)
    (hr : ∀ k, k < S → σ0.1 84 k = -1 → rowOK (nN σ0 k) (σ0.1 79 k) A) (hla : laW σ0 t L) : ∀ (c a : Nat) (σ : jS), a + c = S → jep (ag_S t) σ0 σ →
    ∃ σ', b_HH_agrees_1 (d + 5) (nI L) (nI a) σ = some (some (.int (b2i (nOK σ0 t L K s a))), σ') ∧ jep (ag_S t) σ0 σ'
  | 0, a, σ, ha, hS' => by
    have e78 : σ.1 78 0 = nI S := by rw [(hS' 78 0 (fun q => by unfold ag_S ct_S la_S at q; rcases ht with rfl | rfl <;> omega)).1]; exact h78
    rw [q_HH_agrees_1, e78, jif_t (nI_le (by omega) (by omega)), q_HH_agrees_3, b2i_t (show nOK σ0 t L K s a from fun k h1 h2 => absurd h2 (by omega))]
    exact ⟨σ, rfl, hS'⟩
  | c + 1, a, σ, ha, hS' => by
    have kI : ∀ b j, (78 ≤ b ∧ b ≤ 85) ∨ (t ≤ b ∧ b ≤ t + 14) → σ.1 b j = σ0.1 b j ∧ σ.2.1 b j = σ0.2.1 b j := fun b j hb => by
      have := hS' b j (fun q => by unfold ag_S ct_S la_S at q; rcases ht with rfl | rfl <;> omega)
      exact ⟨this.1, this.2.1⟩
    have s2 : σ.2.2 0 2 = t := by rw [(hS' 0 2 (fun q => by unfold ag_S ct_S la_S at q; rcases ht with rfl | rfl <;> omega)).2.2]; exact r2
    have hol : g_Nt_holds (d + 5) (nI a) σ = some (some (.int (b2i (a < K ∧ σ0.1 84 a = -1 ∧ s a = 0))), σ) := by
      rw [e_Nt_holds, q_Nt_holds_0, c_knownSize, rI_s, (kI 78 0 (by omega)).1, (kI 78 1 (by omega)).1, hKn]
      simp only [Option.bind_some]
      rw [q_Nt_holds_1, q_Nt_holds_2, q_Nt_holds_2]
      by_cases e1 : a < K
      · rw [jif_f (nI_ge e1 (by omega)), rdI_ok (a := 84) (n := 40) rfl rfl (by omega) (by omega)]
        simp only [Option.bind_some]
        rw [(kI 84 a (by omega)).1, rdI_ok (a := 85) (n := 40) rfl rfl (by omega) (by omega)]
        simp only [Option.bind_some]
        rw [(kI 85 a (by omega)).1, hs a (by omega)]
        by_cases e2 : σ0.1 84 a = -1
        · rw [jif_t e2]
          by_cases e3 : s a = 0
          · rw [jif_t e3, b2i_t ⟨e1, e2, e3⟩]; rfl
          · rw [jif_f e3, b2i_f (fun z => e3 z.2.2)]; rfl
        · rw [jif_f e2, b2i_f (fun z => e2 z.2.1)]; rfl
      · rw [jif_t (nI_le (by omega) (by omega)), b2i_f (fun z => e1 z.1)]; rfl
    rw [q_HH_agrees_1, (kI 78 0 (by omega)).1, h78, jif_f (nI_ge (by omega) (by omega)), hol, rI_s]
    simp only [Option.bind_some]
    by_cases hc : a < K ∧ σ0.1 84 a = -1 ∧ s a = 0
    · rw [b2i_t hc, jif_f (by decide), rdI_ok (a := 79) (n := 40) rfl rfl (by omega) (by omega)]
      simp only [Option.bind_some]
      rw [rdL_ok (a := 80) (n := 40) rfl rfl (by omega) (by omega)]
      simp only [Option.bind_some]
      have hrow := hr a (by omega) hc.2.1
      have hNl : nN σ0 a < 2 ^ 64 := (σ0.2.1 80 a).toBitVec.isLt
      have eN : σ0.2.1 80 a = lN (nN σ0 a) := wb_inj (by rw [wb_tb]; unfold nN; simp)
      obtain ⟨σ1, p1, p2, p3⟩ := c_isRow (d + 2) ht (σ0.1 79 a) hNl hA σ s2 (by rw [(kI t 0 (by omega)).1]; exact hA0)
      rw [(kI 79 a (by omega)).1, (kI 80 a (by omega)).2, eN, p1, rI_s]
      simp only [Option.bind_some]
      rw [b2i_t hrow, jif_f (by decide)]
      have S1 : jep (ag_S t) σ0 σ1 := hS'.tr (p2.mono (fun b j h => Or.inl h))
      have k1 : ∀ b j, (78 ≤ b ∧ b ≤ 85) ∨ (t ≤ b ∧ b ≤ t + 14) → σ1.1 b j = σ0.1 b j := fun b j hb => (S1 b j (fun q => by unfold ag_S ct_S la_S at q; rcases ht with rfl | rfl <;> omega)).1
      have E1 : lawE t σ0 σ1 := lawE.of_jep S1 (fun b j h1 h2 q => by unfold ag_S ct_S la_S at q; rcases ht with rfl | rfl <;> omega)
      obtain ⟨k, e1, hR⟩ := p3 hrow
      rw [rdI_ok (a := 81) (n := 40) rfl rfl (by omega) (by omega)]
      simp only [Option.bind_some]
      obtain ⟨σ2, q1, q2⟩ := c_arv d (σ0 := σ0) ht L hL k (nib (nN σ0 a)) (σ0.1 81 a) σ1 hR (E1.W hla) E1 (funext fun j => k1 (t + 2) j (by omega))
      have hk10 := hR.2.1
      have q1' : g_Rw_arriving (d + 5) t (nI L) (σ0.1 81 a) σ1 = some (some (.int (nV σ0 t L a)), σ2) := by
        rw [q1]
        unfold nV
        rw [cl_n e1 (by omega)]
      have s12 : σ1.2.2 0 2 = t := by rw [(S1 0 2 (fun q => by unfold ag_S ct_S la_S at q; rcases ht with rfl | rfl <;> omega)).2.2]; exact r2
      rw [k1 81 a (by omega), s12, q1', rI_s]
      simp only [Option.bind_some]
      have S2 : jep (ag_S t) σ0 σ2 := S1.tr (jep.of q2 (fun b j h => Or.inr h))
      have k2 : ∀ b j, (78 ≤ b ∧ b ≤ 85) → σ2.1 b j = σ0.1 b j := fun b j hb => (S2 b j (fun q => by unfold ag_S ct_S la_S at q; rcases ht with rfl | rfl <;> omega)).1
      have al : g_Nt_allows (d + 5) (nI a) (nV σ0 t L a) σ2 = some (some (.int (b2i (σ0.1 82 a ≤ nV σ0 t L a ∧ nV σ0 t L a ≤ σ0.1 83 a))), σ2) := by
        rw [e_Nt_allows, q_Nt_allows_0, rdI_ok (a := 82) (n := 40) rfl rfl (by omega) (by omega)]
        simp only [Option.bind_some]
        rw [rdI_ok (a := 83) (n := 40) rfl rfl (by omega) (by omega)]
        simp only [Option.bind_some]
        rw [k2 82 a (by omega), k2 83 a (by omega), c_within, rI_s]
        simp only [Option.bind_some]
        by_cases z : σ0.1 82 a ≤ nV σ0 t L a ∧ nV σ0 t L a ≤ σ0.1 83 a
        · rw [if_pos z, b2i_t z]; rfl
        · rw [if_neg z, b2i_f z]; rfl
      rw [al, rI_s]
      simp only [Option.bind_some]
      rw [b2i_iff (nOK_c hc)]
      by_cases z : σ0.1 82 a ≤ nV σ0 t L a ∧ nV σ0 t L a ≤ σ0.1 83 a
      · rw [b2i_t z, jif_f (by decide), q_HH_agrees_2, nI_1]
        obtain ⟨σ', x1, x2⟩ := c_agrees_l d ht hL hS hK hA r2 hA0 h78 hKn hs hr hla c (a + 1) σ2 (by omega) S2
        refine ⟨σ', ?_, x2⟩
        rw [x1, b2i_iff (show nOK σ0 t L K s (a + 1) ↔ ((σ0.1 82 a ≤ nV σ0 t L a ∧ nV σ0 t L a ≤ σ0.1 83 a) ∧ nOK σ0 t L K s (a + 1)) from ⟨fun y => ⟨z, y⟩, fun y => y.2⟩)]
      · rw [b2i_f z, jif_t rfl, b2i_f (fun y => z y.1)]
        exact ⟨σ2, rfl, S2⟩
    · rw [b2i_f hc, jif_t rfl, q_HH_agrees_2, nI_1, b2i_iff (nOK_s hc)]
      exact c_agrees_l d ht hL hS hK hA r2 hA0 h78 hKn hs hr hla c (a + 1) σ (by omega) hS'
def mg_S : Nat → Nat → Prop := fun b j => ma_S b j ∨ mt_S b j
theorem mg_no {t : Nat} (ht : jTe t) : ∀ b j, (t ≤ b ∧ b ≤ t + 14) ∨ (88 ≤ b ∧ b ≤ 101) ∨ (117 ≤ b ∧ b ≤ 122) ∨ (b = 86 ∧ (j = 30 ∨ j = 69 ∨ j = 70)) → ¬ mg_S b j := fun b j h q => by
  unfold mg_S ma_S ms_S mt_S at q
  rcases ht with rfl | rfl <;> omega
theorem m_noted_l (d : Nat) {σ0 σm : jS} {t L Ls K A : Nat} {s : Nat → Int32} (ht : jTe t) (hK : K ≤ 40) (hA : A ≤ 10) (hA0 : σm.1 88 0 = nI A) (hKn : (if σm.1 86 70 = -1 then σm.1 86 69 else σm.1 86 70) = nI K) (hs : ∀ k, k < K → σm.1 122 k = s k)
    (hr : ∀ k, k < K → (σm.1 117 k = -1 ↔ ¬ σ0.1 84 k = -1) ∧ (σ0.1 84 k = -1 → σm.1 117 k = σ0.1 79 k ∧ σm.2.1 118 k = σ0.2.1 80 k ∧ σm.1 119 k = σ0.1 81 k ∧ σm.1 120 k = σ0.1 82 k ∧ σm.1 121 k = σ0.1 83 k ∧ rowOK (nN σ0 k) (σ0.1 79 k) A)) (hla : lawR σm t L Ls) (hB : mB σ0 σm t A) : ∀ (c a : Nat) (σ : jS), a + c = K → jep mg_S σm σ → σ.1 86 32 = nI Ls →
    ∃ σ', b_M_goesAsNoted_1 (d + 5) (nI a) σ = some (some (.int (b2i (nOK σ0 t L K s a))), σ') ∧ jep mg_S σm σ'
  | 0, a, σ, ha, hS', h32 => by
    have nS := mg_no ht
    rw [q_M_goesAsNoted_1, m_knownMany, rI_s]
    simp only [Option.bind_some]
    rw [(hS' 86 70 (nS _ _ (by omega))).1, (hS' 86 69 (nS _ _ (by omega))).1, hKn, jif_t (nI_le (by omega) (by omega)), q_M_goesAsNoted_5, b2i_t (show nOK σ0 t L K s a from fun k h1 h2 => absurd h2 (by omega))]
    exact ⟨σ, rfl, hS'⟩
  | c + 1, a, σ, ha, hS', h32 => by
    have nS := mg_no ht
    obtain ⟨r1, r2⟩ := hr a (by omega)
    rw [q_M_goesAsNoted_1, m_knownMany, rI_s]
    simp only [Option.bind_some]
    rw [(hS' 86 70 (nS _ _ (by omega))).1, (hS' 86 69 (nS _ _ (by omega))).1, hKn, jif_f (nI_ge (by omega) (by omega)), rdI_ok (a := 117) (n := 40) rfl rfl (by omega) (by omega)]
    simp only [Option.bind_some]
    rw [(hS' 117 a (nS _ _ (by omega))).1, q_M_goesAsNoted_4, nI_1]
    by_cases e2 : σ0.1 84 a = -1
    · rw [jif_f (fun z => r1.mp z e2), rdI_ok (a := 122) (n := 40) rfl rfl (by omega) (by omega)]
      simp only [Option.bind_some]
      rw [(hS' 122 a (nS _ _ (by omega))).1, hs a (by omega)]
      by_cases e3 : s a = 0
      · have hc : a < K ∧ σ0.1 84 a = -1 ∧ s a = 0 := ⟨by omega, e2, e3⟩
        obtain ⟨y1, y2, y3, y4, y5, hrow⟩ := r2 e2
        rw [jif_t e3, q_M_goesAsNoted_2, rdI_ok (a := 117) (n := 40) rfl rfl (by omega) (by omega)]
        simp only [Option.bind_some]
        rw [rdL_ok (a := 118) (n := 40) rfl rfl (by omega) (by omega)]
        simp only [Option.bind_some]
        have hNl : nN σ0 a < 2 ^ 64 := (σ0.2.1 80 a).toBitVec.isLt
        have eN : σ0.2.1 80 a = lN (nN σ0 a) := wb_inj (by rw [wb_tb]; unfold nN; simp)
        obtain ⟨σ1, p1, p2, p3⟩ := m_takes (d + 3) (nN σ0 a) A (σ0.1 79 a) hNl hA σ (by rw [(hS' 88 0 (nS _ _ (by omega))).1]; exact hA0)
        rw [(hS' 117 a (nS _ _ (by omega))).1, y1, (hS' 118 a (nS _ _ (by omega))).2.1, y2, eN, p1, rI_s]
        simp only [Option.bind_some]
        have S1 : jep mg_S σm σ1 := hS'.tr (p2.mono (fun b j h => Or.inr h))
        obtain ⟨k, k1, k2, k3, k4⟩ := hrow.r
        obtain ⟨z1, z2⟩ := p3 k (by omega) k3 hrow
        have hR : mRow σ1 k (nib (nN σ0 a)) := ⟨k1, k2, z2, fun j hj => ⟨z1 j hj, by have := k4 j hj; omega⟩⟩
        rw [rdI_ok (a := 119) (n := 40) rfl rfl (by omega) (by omega)]
        simp only [Option.bind_some]
        obtain ⟨σ2, q1, q2, -⟩ := m_snd d (σ0 := σ0) (A := A) ht k (nib (nN σ0 a)) (σ0.1 81 a) σ1 hR k4 (hla.fr S1 (fun b j p => nS b j (by unfold lawP at p; omega))) (by rw [(p2 86 32 (fun q => by rcases q with q | q <;> omega)).1]; exact h32) (hB.fr S1 (fun b j h => nS b j (by omega)))
        have q1' : g_M_sends (d + 5) (σ0.1 81 a) σ1 = some (some (.int (nV σ0 t L a)), σ2) := by
          rw [q1]
          unfold nV
          rw [cl_n k3 (by omega)]
        rw [(S1 119 a (nS _ _ (by omega))).1, y3, q1', rI_s]
        simp only [Option.bind_some]
        have S2 : jep mg_S σm σ2 := S1.tr (q2.mono (fun b j h => Or.inl (Or.inl h)))
        have e32 : σ2.1 86 32 = nI Ls := by
          rw [(q2 86 32 (fun q => by rcases q with q | q | q | q <;> omega)).1, (p2 86 32 (fun q => by rcases q with q | q <;> omega)).1]; exact h32
        rw [rdI_ok (a := 120) (n := 40) rfl rfl (by omega) (by omega)]
        simp only [Option.bind_some]
        rw [rdI_ok (a := 121) (n := 40) rfl rfl (by omega) (by omega)]
        simp only [Option.bind_some]
        rw [(S2 120 a (nS _ _ (by omega))).1, y4, (S2 121 a (nS _ _ (by omega))).1, y5, b2i_iff (nOK_c hc), q_M_goesAsNoted_3, q_M_goesAsNoted_4, nI_1]
        by_cases z : σ0.1 82 a ≤ nV σ0 t L a ∧ nV σ0 t L a ≤ σ0.1 83 a
        · rw [jif_f (Int32.not_lt.mpr z.1), jif_t z.2]
          obtain ⟨σ', x1, x2⟩ := m_noted_l d ht hK hA hA0 hKn hs hr hla hB c (a + 1) σ2 (by omega) S2 e32
          refine ⟨σ', ?_, x2⟩
          rw [x1, b2i_iff (show nOK σ0 t L K s (a + 1) ↔ ((σ0.1 82 a ≤ nV σ0 t L a ∧ nV σ0 t L a ≤ σ0.1 83 a) ∧ nOK σ0 t L K s (a + 1)) from ⟨fun y => ⟨z, y⟩, fun y => y.2⟩)]
        · rw [b2i_f (fun y => z y.1)]
          by_cases u : nV σ0 t L a < σ0.1 82 a
          · rw [jif_t u]; exact ⟨σ2, rfl, S2⟩
          · rw [jif_f u, jif_f (fun y => z ⟨Int32.not_lt.mp u, y⟩)]; exact ⟨σ2, rfl, S2⟩
      · rw [jif_f e3, b2i_iff (nOK_s (fun z => e3 z.2.2))]
        exact m_noted_l d ht hK hA hA0 hKn hs hr hla hB c (a + 1) σ (by omega) hS' h32
    · rw [jif_t (r1.mpr e2), b2i_iff (nOK_s (fun z => e2 z.2.1))]
      exact m_noted_l d ht hK hA hA0 hKn hs hr hla hB c (a + 1) σ (by omega) hS' h32
/-- the bits of those that are so -/
noncomputable def ftB (ok : Nat → Prop) : Nat → Nat → Int32 → Int32
  | 0, _, b => b
  | c + 1, m, b => ftB ok c (m + 1) (@ite _ (ok m) (Classical.propDecidable _) (b ||| ((1 : Int32) <<< (nI m &&& 31))) b)
theorem c_fits_l (d : Nat) {σ0 : jS} {t S K A M : Nat} {s : Nat → Int32} (ht : jTe t) (hM : M ≤ 4) (hS : S ≤ 40) (hK : K ≤ S) (hA : A ≤ 10) (r2 : σ0.2.2 0 2 = t) (h10 : σ0.1 t 10 = nI M) (hA0 : σ0.1 t 0 = nI A) (h78 : σ0.1 78 0 = nI S) (hKn : (if σ0.1 78 1 = -1 then σ0.1 78 0 else σ0.1 78 1) = nI K) (hs : ∀ k, k < S → σ0.1 85 k = s k)
    (hr : ∀ k, k < S → σ0.1 84 k = -1 → rowOK (nN σ0 k) (σ0.1 79 k) A) (hla : iLaw σ0 t M) : ∀ (c m : Nat) (b : Int32) (σ : jS), m + c = M + 1 → jep (ag_S t) σ0 σ →
    ∃ σ', b_HH_fits_1 (d + 6) b (nI m) σ = some (some (.int (ftB (fun m => nOK σ0 t (lwN M m) K s 0) c m b)), σ') ∧ jep (ag_S t) σ0 σ'
  | 0, m, b, σ, ha, hS' => by
    have s2 : σ.2.2 0 2 = t := by rw [(hS' 0 2 (fun q => by unfold ag_S ct_S la_S at q; rcases ht with rfl | rfl <;> omega)).2.2]; exact r2
    have s10 : σ.1 t 10 = nI M := by rw [(hS' t 10 (fun q => by unfold ag_S ct_S la_S at q; rcases ht with rfl | rfl <;> omega)).1]; exact h10
    rw [q_HH_fits_1, s2, (te_is ht).1, jc_t, s10, jif_t (nI_lt (by omega) (by omega)), q_HH_fits_3]
    exact ⟨σ, rfl, hS'⟩
  | c + 1, m, b, σ, ha, hS' => by
    have s2 : σ.2.2 0 2 = t := by rw [(hS' 0 2 (fun q => by unfold ag_S ct_S la_S at q; rcases ht with rfl | rfl <;> omega)).2.2]; exact r2
    have s10 : σ.1 t 10 = nI M := by rw [(hS' t 10 (fun q => by unfold ag_S ct_S la_S at q; rcases ht with rfl | rfl <;> omega)).1]; exact h10
    rw [q_HH_fits_1, s2, (te_is ht).1, jc_t, s10, jif_f (nI_nlt (by omega) (by omega)), c_lawNumbered (d + 5) ht hM (by omega) σ s2 s10, rI_s]
    simp only [Option.bind_some]
    obtain ⟨σ1, p1, p2⟩ := c_agrees_l d (L := lwN M m) ht (lwN_lt hM (by omega)) hS hK hA r2 hA0 h78 hKn hs hr (lwR hla (by omega)).W S 0 σ (by omega) hS'
    have p1' : g_HH_agrees (d + 6) (nI (lwN M m)) σ = some (some (.int (b2i (nOK σ0 t (lwN M m) K s 0))), σ1) := by
      rw [e_HH_agrees, q_HH_agrees_0]; exact p1
    rw [p1', rI_s]
    simp only [Option.bind_some]
    unfold ftB
    rw [q_HH_fits_2, q_HH_fits_2, nI_1]
    by_cases z : nOK σ0 t (lwN M m) K s 0
    · rw [b2i_t z, jif_f (by decide), if_pos z]
      exact c_fits_l d ht hM hS hK hA r2 h10 hA0 h78 hKn hs hr hla c (m + 1) _ σ1 (by omega) p2
    · rw [b2i_f z, jif_t rfl, if_neg z]
      exact c_fits_l d ht hM hS hK hA r2 h10 hA0 h78 hKn hs hr hla c (m + 1) _ σ1 (by omega) p2
theorem m_fits_l (d : Nat) {σ0 σm : jS} {t K A M : Nat} {s : Nat → Int32} (ht : jTe t) (hM : M ≤ 4) (hK : K ≤ 40) (hA : A ≤ 10) (h88 : σm.1 88 2 = nI M) (hA0 : σm.1 88 0 = nI A) (hKn : (if σm.1 86 70 = -1 then σm.1 86 69 else σm.1 86 70) = nI K) (hs : ∀ k, k < K → σm.1 122 k = s k)
    (hr : ∀ k, k < K → (σm.1 117 k = -1 ↔ ¬ σ0.1 84 k = -1) ∧ (σ0.1 84 k = -1 → σm.1 117 k = σ0.1 79 k ∧ σm.2.1 118 k = σ0.2.1 80 k ∧ σm.1 119 k = σ0.1 81 k ∧ σm.1 120 k = σ0.1 82 k ∧ σm.1 121 k = σ0.1 83 k ∧ rowOK (nN σ0 k) (σ0.1 79 k) A)) (hla : iLaw σm t M) (hB : mB σ0 σm t A) : ∀ (c m : Nat) (b : Int32) (σ : jS), m + c = M + 1 → jep mg_S σm σ →
    ∃ σ', b_M_fits_6 (d + 6) b (nI m) σ = some (some (.int (ftB (fun m => nOK σ0 t (lwN M m) K s 0) c m b)), σ') ∧ jep mg_S σm σ'
  | 0, m, b, σ, ha, hS' => by
    have nS := mg_no ht
    rw [q_M_fits_6, rdI_ok (a := 88) (n := 8) (i := 2) (k := 2) rfl rfl (by omega) (by omega)]
    simp only [Option.bind_some]
    rw [(hS' 88 2 (nS _ _ (by omega))).1, h88, jif_t (nI_lt (by omega) (by omega)), q_M_fits_8]
    exact ⟨σ, rfl, hS'⟩
  | c + 1, m, b, σ, ha, hS' => by
    have nS := mg_no ht
    have s88 : σ.1 88 2 = nI M := by rw [(hS' 88 2 (nS _ _ (by omega))).1]; exact h88
    rw [q_M_fits_6, rdI_ok (a := 88) (n := 8) (i := 2) (k := 2) rfl rfl (by omega) (by omega)]
    simp only [Option.bind_some]
    rw [s88, jif_f (nI_nlt (by omega) (by omega)), m_lawOf (d + 5) hM (by omega) σ s88, rI_s]
    simp only [Option.bind_some]
    have S1 : jep mg_S σm (j_setI σ 86 32 (nI (lwS M m))) := hS'.sI (Or.inl (Or.inr ⟨rfl, rfl⟩))
    obtain ⟨σ1, p1, p2⟩ := m_noted_l d (L := lwN M m) (Ls := lwS M m) ht hK hA hA0 hKn hs hr (lwR hla (by omega)) hB K 0 _ (by omega) S1 (setI_same _ _ _ _)
    have p1' : g_M_goesAsNoted (d + 6) (j_setI σ 86 32 (nI (lwS M m))) = some (some (.int (b2i (nOK σ0 t (lwN M m) K s 0))), σ1) := by
      rw [e_M_goesAsNoted, q_M_goesAsNoted_0]; exact p1
    rw [p1', rI_s]
    simp only [Option.bind_some]
    unfold ftB
    rw [q_M_fits_7, q_M_fits_7, nI_1]
    by_cases z : nOK σ0 t (lwN M m) K s 0
    · rw [b2i_t z, jif_f (by decide), if_pos z]
      exact m_fits_l d ht hM hK hA h88 hA0 hKn hs hr hla hB c (m + 1) _ σ1 (by omega) p2
    · rw [b2i_f z, jif_t rfl, if_neg z]
      exact m_fits_l d ht hM hK hA h88 hA0 hKn hs hr hla hB c (m + 1) _ σ1 (by omega) p2
theorem ag_scr {t b j : Nat} (ht : jTe t) (h : ag_S t b j) : jScr t b j := by
  rcases h with h | h
  · exact ct_scr ht h
  · exact la_scr h
theorem mg_scr {t b j : Nat} (ht : jTe t) (h : mg_S b j) : jScr t b j := by
  rcases h with h | h
  · exact ma_scr ht h
  · exact mt_scr ht h
theorem op_fits (d : Nat) (σ : jS) (t : Nat) (g : jInv σ t) : opI (g_HH_fits (d + 7)) (g_M_fits (d + 7)) σ := by
  obtain ⟨ht, r2, r3, hT, hF, A, Pt, M, Np, hte, hla, h36, hjo, hno, him⟩ := id g
  have hA := hte.1
  have hM := hte.2.2.1
  obtain ⟨S, s1, s2, s3, s4, s5, s6⟩ := hno
  obtain ⟨K, hK, eK⟩ : ∃ K, K ≤ S ∧ (if σ.1 78 1 = -1 then σ.1 78 0 else σ.1 78 1) = nI K := by
    rcases s5 with z | ⟨q, hq, e⟩
    · exact ⟨S, Nat.le_refl _, by rw [if_pos z]; exact s2⟩
    · by_cases z : σ.1 78 1 = -1
      · exact ⟨S, Nat.le_refl _, by rw [if_pos z]; exact s2⟩
      · exact ⟨q, hq, by rw [if_neg z]; exact e⟩
  have eKm : (if σ.1 86 70 = -1 then σ.1 86 69 else σ.1 86 70) = nI K := by rw [← s4, s3, ← s2]; exact eK
  have htg : ∀ j, j < S → σ.1 84 j = -1 ∨ ∃ q, q < j ∧ σ.1 84 j = nI q := fun j hj => by
    rcases s6 j hj with ⟨z, -⟩ | ⟨q, q1, q2, -⟩
    · exact Or.inl z
    · exact Or.inr ⟨q, q1, q2⟩
  have hrow : ∀ k, k < S → σ.1 84 k = -1 → σ.1 117 k = σ.1 79 k ∧ σ.2.1 118 k = σ.2.1 80 k ∧ σ.1 119 k = σ.1 81 k ∧ σ.1 120 k = σ.1 82 k ∧ σ.1 121 k = σ.1 83 k ∧ rowOK (nN σ k) (σ.1 79 k) A := fun k hk e => by
    rcases s6 k hk with ⟨-, y1, y2, y3, y4, y5, N, hN, e1, e2⟩ | ⟨q, q1, q2, -⟩
    · refine ⟨y1.symm, y2.symm, y3.symm, y4.symm, y5.symm, ?_⟩
      have : nN σ k = N := by unfold nN; rw [e1, wb_tn hN]
      rw [this]; exact e2
    · rw [q2] at e
      exact absurd e (fun z => by
        have : ¬ nI q < 0 := nI_pos (by omega)
        rw [z] at this
        exact this (by decide))
  have hmm : ∀ k, k < S → (σ.1 117 k = -1 ↔ ¬ σ.1 84 k = -1) ∧ (¬ σ.1 84 k = -1 → σ.1 119 k = σ.1 84 k) := fun k hk => by
    by_cases e : σ.1 84 k = -1
    · refine ⟨⟨fun z => ?_, fun z => absurd e z⟩, fun z => absurd e z⟩
      obtain ⟨y1, -, -, -, -, kk, k1, k2, k3, -⟩ := hrow k hk e
      rw [y1, k3] at z
      have : ¬ nI kk < 0 := nI_pos (by omega)
      rw [z] at this
      exact absurd (show (-1 : Int32) < 0 by decide) this
    · rcases s6 k hk with ⟨z, -⟩ | ⟨q, q1, q2, q3, q4⟩
      · exact absurd z e
      · exact ⟨⟨fun _ => e, fun _ => q3⟩, fun _ => q4.trans q2.symm⟩
  -- the class
  obtain ⟨σ1, c1, c2, c3⟩ := c_mark1 (d + 5) s1 S 0 σ (by omega) s2
  have k1 : ∀ b j, b ≠ 85 → σ1.1 b j = σ.1 b j ∧ σ1.2.1 b j = σ.2.1 b j ∧ σ1.2.2 b j = σ.2.2 b j := fun b j hb => c2 b j (fun q => hb q.1)
  obtain ⟨σ2, b1, b2, b3⟩ := c_mark3 (d + 5) s1 htg K σ1 hK (fun j hj => (k1 84 j (by omega)).1)
  have k2 : ∀ b j, b ≠ 85 → σ2.1 b j = σ.1 b j ∧ σ2.2.1 b j = σ.2.1 b j ∧ σ2.2.2 b j = σ.2.2 b j := fun b j hb => by
    have z1 := b2 b j hb
    have z2 := k1 b j hb
    exact ⟨z1.1.trans z2.1, z1.2.1.trans z2.2.1, z1.2.2.trans z2.2.2⟩
  have S2 : jep (jScr t) σ σ2 := fun b j hb => k2 b j (fun e => hb (by subst e; rcases ht with rfl | rfl <;> simp [jScr]))
  have g2 := g.scr S2
  have tn : ∀ i, i ≤ 16 → t + i ≠ 85 := fun i hi => by rcases ht with rfl | rfl <;> omega
  have hs2 : ∀ k, k < S → σ2.1 85 k = mkS (σ.1 84) K (fun _ => 0) k := fun k hk => by
    rw [b3]
    exact mkS_congr (K := S) K _ _ hK (fun k hk => c3 k (by omega) hk) k hk
  have en : ∀ k, nN σ2 k = nN σ k := fun k => by unfold nN; rw [(k2 80 k (by omega)).2.1]
  have hr2 : ∀ k, k < S → σ2.1 84 k = -1 → rowOK (nN σ2 k) (σ2.1 79 k) A := fun k hk e => by
    rw [en, (k2 79 k (by omega)).1]
    rw [(k2 84 k (by omega)).1] at e
    exact (hrow k hk e).2.2.2.2.2
  have la2 : iLaw σ2 t M := hla.fr (S := fun b _ => b = 85) (fun b j hb => k2 b j hb) (fun b j p q => by unfold lawP at p; rcases ht with rfl | rfl <;> omega)
  have K2 : (if σ2.1 78 1 = -1 then σ2.1 78 0 else σ2.1 78 1) = nI K := by rw [(k2 78 1 (by omega)).1, (k2 78 0 (by omega)).1]; exact eK
  obtain ⟨σ3, p1, p2⟩ := c_fits_l d (s := mkS (σ.1 84) K (fun _ => 0)) ht hM s1 hK hA g2.2.1 (by rw [(k2 t 10 (tn 0 (by omega))).1]; exact hte.2.2.2.2.2.2.2.1) (by rw [(k2 t 0 (tn 0 (by omega))).1]; exact hte.2.2.2.1) (by rw [(k2 78 0 (by omega)).1]; exact s2) K2 hs2 hr2 la2 (M + 1) 0 0 σ2 (by omega) jep.rf
  have g3 := g2.scr (p2.mono (fun b j h => ag_scr ht h))
  -- the reference
  obtain ⟨σ4, q1, q2, q3, q4⟩ := m_plain0 (d + 5) σ3
  have g4 := g3.scr (q2.mono (fun b j h => mp_scr ht h))
  have k4 : ∀ b j, (t ≤ b ∧ b ≤ t + 14) ∨ (78 ≤ b ∧ b ≤ 84) ∨ (87 ≤ b) ∨ (b = 86 ∧ 33 ≤ j) → σ4.1 b j = σ.1 b j ∧ σ4.2.1 b j = σ.2.1 b j ∧ σ4.2.2 b j = σ.2.2 b j := fun b j hb => by
    have z1 := q2 b j (fun q => by unfold mp_S at q; rcases ht with rfl | rfl <;> omega)
    have z2 := p2 b j (fun q => by unfold ag_S ct_S la_S at q; rcases ht with rfl | rfl <;> omega)
    have z3 := k2 b j (by rcases ht with rfl | rfl <;> omega)
    exact ⟨(z1.1.trans z2.1).trans z3.1, (z1.2.1.trans z2.2.1).trans z3.2.1, (z1.2.2.trans z2.2.2).trans z3.2.2⟩
  have K4 : (if σ4.1 86 70 = -1 then σ4.1 86 69 else σ4.1 86 70) = nI K := by rw [(k4 86 70 (by omega)).1, (k4 86 69 (by omega)).1]; exact eKm
  obtain ⟨σ5, u1, u2, u3⟩ := m_mark1 (d + 5) (K := K) (by omega) K 0 σ4 (by omega) K4
  have k5 : ∀ b j, b ≠ 122 → σ5.1 b j = σ4.1 b j ∧ σ5.2.1 b j = σ4.2.1 b j ∧ σ5.2.2 b j = σ4.2.2 b j := fun b j hb => u2 b j (fun q => hb q.1)
  obtain ⟨σ6, v1, v2, v3⟩ := m_mark3 (d + 6) s1 htg K σ5 hK (fun j hj => by rw [(k5 117 j (by omega)).1, (k4 117 j (by omega)).1, (k5 119 j (by omega)).1, (k4 119 j (by omega)).1]; exact hmm j hj)
  have k6 : ∀ b j, b ≠ 122 → σ6.1 b j = σ4.1 b j ∧ σ6.2.1 b j = σ4.2.1 b j ∧ σ6.2.2 b j = σ4.2.2 b j := fun b j hb => by
    have z1 := v2 b j hb
    have z2 := k5 b j hb
    exact ⟨z1.1.trans z2.1, z1.2.1.trans z2.2.1, z1.2.2.trans z2.2.2⟩
  have S6 : jep (jScr t) σ4 σ6 := fun b j hb => k6 b j (fun e => hb (by subst e; rcases ht with rfl | rfl <;> simp [jScr]))
  have g6 := g4.scr S6
  have tn6 : ∀ i, i ≤ 14 → t + i ≠ 122 := fun i hi => by rcases ht with rfl | rfl <;> omega
  have c26 : ∀ i, i ≤ 14 → σ6.1 (t + i) = σ2.1 (t + i) := fun i hi => funext fun j => by
    rw [(k6 (t + i) j (tn6 i hi)).1, (k4 (t + i) j (by omega)).1, (k2 (t + i) j (tn i (by omega))).1]
  have B6 : mB σ2 σ6 t A := by
    refine ⟨⟨c26 10 (by omega), c26 11 (by omega), c26 12 (by omega), c26 13 (by omega), c26 14 (by omega)⟩, c26 2 (by omega), ?_, fun p hp => ?_⟩
    · rw [(k6 86 30 (by omega)).1]; exact q3
    · rw [(k6 90 p (by omega)).1, (k4 90 p (by omega)).1, (k2 (t + 2) p (tn 2 (by omega))).1]
      exact (hte.2.2.2.2.2.2.2.2.2.2.1 p hp).2.1.symm
  have la6 : iLaw σ6 t M := by
    refine hla.fr (S := fun b j => ¬ ((t ≤ b ∧ b ≤ t + 14) ∨ (87 ≤ b ∧ b ≤ 121))) (fun b j hb => ?_) (fun b j p q => q (by unfold lawP at p; omega))
    have hb' := Decidable.not_not.mp hb
    have z1 := k6 b j (by rcases ht with rfl | rfl <;> omega)
    have z2 := k4 b j (by omega)
    exact ⟨z1.1.trans z2.1, z1.2.1.trans z2.2.1, z1.2.2.trans z2.2.2⟩
  have hr6 : ∀ k, k < K → (σ6.1 117 k = -1 ↔ ¬ σ2.1 84 k = -1) ∧ (σ2.1 84 k = -1 → σ6.1 117 k = σ2.1 79 k ∧ σ6.2.1 118 k = σ2.2.1 80 k ∧ σ6.1 119 k = σ2.1 81 k ∧ σ6.1 120 k = σ2.1 82 k ∧ σ6.1 121 k = σ2.1 83 k ∧ rowOK (nN σ2 k) (σ2.1 79 k) A) := fun k hk => by
    have e6 : ∀ b, 117 ≤ b → b ≤ 121 → σ6.1 b k = σ.1 b k := fun b h1 h2 => by rw [(k6 b k (by omega)).1, (k4 b k (by omega)).1]
    rw [e6 117 (by omega) (by omega), e6 119 (by omega) (by omega), e6 120 (by omega) (by omega), e6 121 (by omega) (by omega), (k6 118 k (by omega)).2.1, (k4 118 k (by omega)).2.1, (k2 84 k (by omega)).1, (k2 79 k (by omega)).1, (k2 80 k (by omega)).2.1, (k2 81 k (by omega)).1, (k2 82 k (by omega)).1, (k2 83 k (by omega)).1, en]
    exact ⟨(hmm k (by omega)).1, hrow k (by omega)⟩
  obtain ⟨σ7, w1, w2⟩ := m_fits_l d (σ0 := σ2) (σm := σ6) (s := mkS (σ.1 84) K (fun _ => 0)) ht hM (K := K) (by omega) hA (by rw [(k6 88 2 (by omega)).1, (k4 88 2 (by omega)).1]; exact hte.2.2.2.2.2.2.2.2.1) (by rw [(k6 88 0 (by omega)).1, (k4 88 0 (by omega)).1]; exact hte.2.2.2.2.1) (by rw [(k6 86 70 (by omega)).1, (k6 86 69 (by omega)).1]; exact K4) (fun k hk => by
    rw [v3]
    exact mkS_congr (K := K) K _ _ (Nat.le_refl _) (fun k hk => u3 k (by omega) hk) k hk) hr6 la6 B6 (M + 1) 0 0 σ6 (by omega) jep.rf
  refine ⟨ftB (fun m => nOK σ2 t (lwN M m) K (mkS (σ.1 84) K (fun _ => 0)) 0) (M + 1) 0 0, σ3, σ7, t, ?_, ?_, g6.scr (w2.mono (fun b j h => mg_scr ht h))⟩
  · show g_HH_fits (d + 7) σ = _
    have c1' : b_Nt_markStruck_1 (d + 5) 0 σ = b_Nt_markStruck_2 (d + 5) σ1 := c1
    have mk : g_Nt_markStruck (d + 6) σ = some (none, σ2) := by
      rw [e_Nt_markStruck, q_Nt_markStruck_0, c1', q_Nt_markStruck_2, c_knownSize, rI_s, (k1 78 1 (by omega)).1, (k1 78 0 (by omega)).1, eK]
      exact b1
    rw [e_HH_fits, q_HH_fits_0, mk, rV_s]
    exact p1
  · show g_M_fits (d + 7) σ3 = _
    have u1' : b_M_fits_1 (d + 6) 0 σ4 = b_M_fits_2 (d + 6) σ5 := u1
    have K5 : (if σ5.1 86 70 = -1 then σ5.1 86 69 else σ5.1 86 70) = nI K := by rw [(k5 86 70 (by omega)).1, (k5 86 69 (by omega)).1]; exact K4
    rw [e_M_fits, q_M_fits_0, q1, rV_s]
    simp only [Option.bind_some]
    rw [u1', q_M_fits_2, m_knownMany, rI_s, K5]
    simp only [Option.bind_some]
    rw [v1, q_M_fits_5]
    exact w1
