/-! What arrives. -/
/-- the law's cells are the same -/
def lawE (t : Nat) (σ σ' : jS) : Prop := σ'.1 (t + 10) = σ.1 (t + 10) ∧ σ'.1 (t + 11) = σ.1 (t + 11) ∧ σ'.1 (t + 12) = σ.1 (t + 12) ∧ σ'.1 (t + 13) = σ.1 (t + 13) ∧ σ'.1 (t + 14) = σ.1 (t + 14)
theorem lawE.tr {t : Nat} {σ σ' σ'' : jS} (h : lawE t σ σ') (g : lawE t σ' σ'') : lawE t σ σ'' := ⟨g.1.trans h.1, g.2.1.trans h.2.1, g.2.2.1.trans h.2.2.1, g.2.2.2.1.trans h.2.2.2.1, g.2.2.2.2.trans h.2.2.2.2⟩
theorem lawE.odd {t L : Nat} {σ σ' : jS} (h : lawE t σ σ') (c a b p q : Int32) : lw_odd σ' t L c a b p q ↔ lw_odd σ t L c a b p q := by
  unfold lw_odd
  rw [h.1, h.2.1, h.2.2.1, h.2.2.2.1, h.2.2.2.2]
theorem lawE.sh {t L : Nat} {σ σ' : jS} (h : lawE t σ σ') (c a b p q : Int32) : lw_sh σ' t L c a b p q = lw_sh σ t L c a b p q := by
  have e : (c - c / 2 * 2 = 0 ∨ ¬ lw_odd σ' t L c a b p q) = (c - c / 2 * 2 = 0 ∨ ¬ lw_odd σ t L c a b p q) := by rw [propext (h.odd c a b p q)]
  unfold lw_sh
  by_cases g : c - c / 2 * 2 = 0 ∨ ¬ lw_odd σ t L c a b p q
  · rw [if_pos g, if_pos (e ▸ g)]
  · rw [if_neg g, if_neg (fun z => g (e ▸ z))]
theorem lawE.W {t L : Nat} {σ σ' : jS} (h : lawE t σ σ') (g : laW σ t L) : laW σ' t L := by
  unfold laW at g ⊢
  rw [h.1, h.2.1, h.2.2.2.1, h.2.2.2.2]
  exact g
theorem lawE.of_jeq {t : Nat} {S : Nat → Prop} {σ σ' : jS} (h : jeq S σ σ') (hS : ∀ b, t + 10 ≤ b → b ≤ t + 14 → ¬ S b) : lawE t σ σ' := ⟨(h _ (hS _ (by omega) (by omega))).1, (h _ (hS _ (by omega) (by omega))).1, (h _ (hS _ (by omega) (by omega))).1, (h _ (hS _ (by omega) (by omega))).1, (h _ (hS _ (by omega) (by omega))).1⟩
theorem lawE.of_jep {t : Nat} {S : Nat → Nat → Prop} {σ σ' : jS} (h : jep S σ σ') (hS : ∀ b j, t + 10 ≤ b → b ≤ t + 14 → ¬ S b j) : lawE t σ σ' := ⟨h.cellI (fun j => hS _ j (by omega) (by omega)), h.cellI (fun j => hS _ j (by omega) (by omega)), h.cellI (fun j => hS _ j (by omega) (by omega)), h.cellI (fun j => hS _ j (by omega) (by omega)), h.cellI (fun j => hS _ j (by omega) (by omega))⟩
/-- m places from p on, with c coins: what is left -/
def arr (sh : Int32 → Nat → Int32) : Nat → Nat → Int32 → Int32
  | 0, _, c => c
  | m + 1, p, c => arr sh m (p + 1) (c - sh c p)
/-- what is there at the m-th place from p on -/
def arrAt (sh : Int32 → Nat → Int32) : Nat → Nat → Int32 → Int32 := fun m p c => arr sh m p c
theorem arr_congr {f g : Int32 → Nat → Int32} : ∀ (m p : Nat) (c : Int32), (∀ c j, p ≤ j → j < p + m → f c j = g c j) → arr f m p c = arr g m p c
  | 0, _, _, _ => rfl
  | m + 1, p, c, h => by
    unfold arr
    rw [h c p (Nat.le_refl _) (by omega), arr_congr m (p + 1) _ (fun c j h1 h2 => h c j (by omega) (by omega))]
/-- the class's row: k people, r their numbers -/
def cRow (σ : jS) (k : Nat) (r : Nat → Nat) : Prop := 2 ≤ k ∧ k ≤ 10 ∧ σ.1 69 0 = nI k ∧ ∀ j, j < k → σ.1 70 j = nI (r j) ∧ r j < 10
noncomputable def cSh (σ : jS) (t L : Nat) (r : Nat → Nat) : Int32 → Nat → Int32 := fun c p => lw_sh σ t L c (σ.1 (t + 2) (r p)) (σ.1 (t + 2) (r (p + 1))) (nI p) 0
theorem c_ageAt (d : Nat) {t : Nat} (ht : jTe t) (p q : Nat) (hp : p < 10) (σ : jS) (h : σ.1 70 p = nI q) (hq : q < 10) : g_Rw_ageAt (d + 1) t (nI p) σ = some (some (.int (σ.1 (t + 2) q)), σ) := by
  rw [e_Rw_ageAt, q_Rw_ageAt_0, (te_is ht).1, jc_t, rdI_ok (a := 70) (n := 10) rfl rfl hp (by omega), h, (te_cr ht).2.1]
  simp only [Option.bind_some]
  rw [rdI_ok (te_len ht).2.1 rfl hq (by omega)]
  rfl
def la_S (t : Nat) : Nat → Prop := fun b => b = t + 15 ∨ b = t + 16
theorem c_arriving_l (d : Nat) {t : Nat} (ht : jTe t) (L : Nat) (hL : L < 5) (k : Nat) (r : Nat → Nat) : ∀ (m p : Nat) (c : Int32) (σ : jS), cRow σ k r → laW σ t L → p + m + 1 = k → 1 ≤ p →
    ∃ σ', b_Rw_arriving_1 (d + 4) t (nI L) c (nI p) σ = some (some (.int (arr (cSh σ t L r) m p c)), σ') ∧ jeq (la_S t) σ σ'
  | 0, p, c, σ, hR, hw, hk, hp => by
    rw [q_Rw_arriving_1, hR.2.2.1]
    have e : nI k - 1 = nI p := by rw [show k = p + 1 by omega]; exact nI_pred p
    rw [e, jif_t (Int32.le_refl _), q_Rw_arriving_2]
    exact ⟨σ, rfl, jeq.rf⟩
  | m + 1, p, c, σ, hR, hw, hk, hp => by
    obtain ⟨hk2, hk10, h69, hrow⟩ := hR
    rw [q_Rw_arriving_1, h69]
    have e : nI k - 1 = nI (p + m + 1) := by rw [show k = (p + m + 1) + 1 by omega]; exact nI_pred _
    rw [e, jif_f (nI_ge (by omega) (by omega)), (te_is ht).1, jc_t, c_ageAt (d + 3) ht p (r p) (by omega) σ (hrow p (by omega)).1 (hrow p (by omega)).2, rI_s]
    simp only [Option.bind_some]
    rw [nI_1, c_ageAt (d + 3) ht (p + 1) (r (p + 1)) (by omega) σ (hrow (p + 1) (by omega)).1 (hrow (p + 1) (by omega)).2, rI_s, (te_cr ht).2.2.2.2.2.2.2.2.2]
    simp only [Option.bind_some]
    rw [(te_is ht).2, jc_t]
    obtain ⟨σ1, g1, g2⟩ := c_share d ht L hL c (σ.1 (t + 2) (r p)) (σ.1 (t + 2) (r (p + 1))) (nI p) 0 σ hw
    rw [g1, rI_s]
    simp only [Option.bind_some]
    have hE : lawE t σ σ1 := lawE.of_jeq g2 (fun b h1 h2 q => by rcases q with q | q <;> omega)
    have hcell : ∀ b, b ≠ t + 15 → b ≠ t + 16 → σ1.1 b = σ.1 b := fun b h1 h2 => (g2 b (fun q => q.elim h1 h2)).1
    have hR1 : cRow σ1 k r := by
      refine ⟨hk2, hk10, ?_, fun j hj => ?_⟩
      · rw [hcell 69 (by rcases ht with rfl | rfl <;> omega) (by rcases ht with rfl | rfl <;> omega)]; exact h69
      · rw [hcell 70 (by rcases ht with rfl | rfl <;> omega) (by rcases ht with rfl | rfl <;> omega)]; exact hrow j hj
    obtain ⟨σ', g3, g4⟩ := c_arriving_l d ht L hL k r m (p + 1) (c - lw_sh σ t L c (σ.1 (t + 2) (r p)) (σ.1 (t + 2) (r (p + 1))) (nI p) 0) σ1 hR1 (hE.W hw) (by omega) (by omega)
    refine ⟨σ', ?_, (g2.mono (fun b h => h)).tr g4⟩
    rw [g3]
    have ec : ∀ c j, cSh σ1 t L r c j = cSh σ t L r c j := fun c j => by
      unfold cSh
      rw [hcell (t + 2) (by omega) (by omega), hE.sh]
    rw [arr_congr m (p + 1) _ (fun c j _ _ => ec c j)]
    rfl
theorem c_arriving (d : Nat) {t : Nat} (ht : jTe t) (L : Nat) (hL : L < 5) (k : Nat) (r : Nat → Nat) (c : Int32) (σ : jS) (hR : cRow σ k r) (hw : laW σ t L) : ∃ σ', g_Rw_arriving (d + 5) t (nI L) c σ = some (some (.int (arr (cSh σ t L r) (k - 2) 1 c)), σ') ∧ jeq (la_S t) σ σ' := by
  rw [e_Rw_arriving, q_Rw_arriving_0]
  exact c_arriving_l d ht L hL k r (k - 2) 1 c σ hR hw (by have := hR.1; omega) (Nat.le_refl _)
/-- the reference's row -/
def mRow (σ : jS) (k : Nat) (r : Nat → Nat) : Prop := 2 ≤ k ∧ k ≤ 10 ∧ σ.1 86 50 = nI k ∧ ∀ j, j < k → σ.1 114 j = nI (r j) ∧ r j < 10
noncomputable def mSh (σ : jS) (t L : Nat) (r : Nat → Nat) : Int32 → Nat → Int32 := fun c p => mk_sh σ t L c (r p) (mk_age σ (r p)) (mk_age σ (r (p + 1))) (nI p) 0
def ms_S : Nat → Nat → Prop := fun b j => b = 103 ∨ b = 102 ∨ b = 115 ∨ (b = 86 ∧ j = 35)
theorem mk_same {t L : Nat} {σ σ' : jS} (h : jep ms_S σ σ') (ht : jTe t) : (∀ P, mk_age σ' P = mk_age σ P) ∧ ∀ c P a b p q, mk_sh σ' t L c P a b p q = mk_sh σ t L c P a b p q := by
  have e30 : σ'.1 86 30 = σ.1 86 30 := (h 86 30 (fun q => by rcases q with q | q | q | q <;> omega)).1
  have e31 : σ'.1 86 31 = σ.1 86 31 := (h 86 31 (fun q => by rcases q with q | q | q | q <;> omega)).1
  have e90 : σ'.1 90 = σ.1 90 := h.cellI (fun j q => by rcases q with q | q | q | q <;> omega)
  have hE : lawE t σ σ' := lawE.of_jep h (fun b j h1 h2 q => by rcases ht with rfl | rfl <;> rcases q with q | q | q | q <;> omega)
  refine ⟨fun P => by unfold mk_age; rw [e30, e90], fun c P a b p q => ?_⟩
  unfold mk_sh
  rw [e30, e31]
  by_cases h1 : c - c / 2 * 2 = 0 ∨ σ.1 86 30 = 4
  · rw [if_pos h1, if_pos h1]
  · rw [if_neg h1, if_neg h1]
    by_cases h2 : σ.1 86 30 = 3 ∧ σ.1 86 31 = nI P
    · rw [if_pos h2, if_pos h2]
    · rw [if_neg h2, if_neg h2]
      by_cases h3 : lw_odd σ t L c a b p q
      · rw [if_pos h3, if_pos ((hE.odd c a b p q).mpr h3)]
      · rw [if_neg h3, if_neg (fun z => h3 ((hE.odd c a b p q).mp z))]
theorem lawR.same {t L Ls : Nat} {σ σ' : jS} (h : jep ms_S σ σ') (ht : jTe t) (g : lawR σ t L Ls) : lawR σ' t L Ls := by
  have hE : lawE t σ σ' := lawE.of_jep h (fun b j h1 h2 q => by rcases ht with rfl | rfl <;> rcases q with q | q | q | q <;> omega)
  have e : ∀ b, b ≠ 103 → b ≠ 102 → b ≠ 115 → b ≠ 86 → σ'.1 b = σ.1 b := fun b h1 h2 h3 h4 => h.cellI (fun j q => by rcases q with q | q | q | q <;> omega)
  unfold lawR at g ⊢
  rw [hE.1, hE.2.1, hE.2.2.1, hE.2.2.2.1, hE.2.2.2.2, e 98 (by omega) (by omega) (by omega) (by omega), e 99 (by omega) (by omega) (by omega) (by omega), e 100 (by omega) (by omega) (by omega) (by omega), e 101 (by omega) (by omega) (by omega) (by omega)]
  exact g
theorem arr_step (sh : Int32 → Nat → Int32) (m p : Nat) (c : Int32) : arr sh (m + 1) p c = arr sh m (p + 1) (c - sh c p) := rfl
theorem m_sends_l (d : Nat) {t L Ls : Nat} (ht : jTe t) (k : Nat) (r : Nat → Nat) : ∀ (m p : Nat) (c : Int32) (σ : jS), mRow σ k r → lawR σ t L Ls → σ.1 86 32 = nI Ls → p + m + 1 = k → 1 ≤ p →
    ∃ σ', b_M_sends_1 (d + 4) c (nI p) σ = some (some (.int (arr (mSh σ t L r) m p c)), σ') ∧ jep ms_S σ σ' ∧ (∀ j, j < m → σ'.1 115 (p + j) = mSh σ t L r (arr (mSh σ t L r) j p c) (p + j)) ∧ ∀ j, j < p → σ'.1 115 j = σ.1 115 j
  | 0, p, c, σ, hR, hl, hby, hk, hp => by
    rw [q_M_sends_1, hR.2.2.1]
    have e : nI k - 1 = nI p := by rw [show k = p + 1 by omega]; exact nI_pred p
    rw [e, jif_t (Int32.le_refl _), q_M_sends_2]
    exact ⟨σ, rfl, jep.rf, fun j hj => by omega, fun _ _ => rfl⟩
  | m + 1, p, c, σ, hR, hl, hby, hk, hp => by
    obtain ⟨hk2, hk10, h50, hrow⟩ := hR
    rw [q_M_sends_1, h50]
    have e : nI k - 1 = nI (p + m + 1) := by rw [show k = (p + m + 1) + 1 by omega]; exact nI_pred _
    rw [e, jif_f (nI_ge (by omega) (by omega)), rdI_ok (a := 114) (n := 10) rfl rfl (by omega) (by omega)]
    simp only [Option.bind_some]
    rw [nI_1, rdI_ok (a := 114) (n := 10) rfl rfl (by omega) (by omega), (hrow p (by omega)).1, (hrow (p + 1) (by omega)).1]
    simp only [Option.bind_some]
    obtain ⟨σ1, g1, g2⟩ := m_kept d ht c (r p) (r (p + 1)) (by have := (hrow p (by omega)).2; omega) (by have := (hrow (p + 1) (by omega)).2; omega) (nI p) 0 σ hl hby
    rw [g1, rI_s]
    simp only [Option.bind_some]
    rw [wrI_ok (a := 115) (n := 10) rfl rfl (by omega) (by omega)]
    simp only [Option.bind_some]
    rw [rdI_ok (a := 115) (n := 10) rfl rfl (by omega) (by omega), setI_same]
    simp only [Option.bind_some]
    have hj : jep ms_S σ (j_setI σ1 115 p (mk_sh σ t L c (r p) (mk_age σ (r p)) (mk_age σ (r (p + 1))) (nI p) 0)) := (g2.mono (fun b j h => by rcases h with h | h | h; exact Or.inl h; exact Or.inr (Or.inl h); exact Or.inr (Or.inr (Or.inr h)))).sI (Or.inr (Or.inr (Or.inl rfl)))
    generalize hσ : j_setI σ1 115 p (mk_sh σ t L c (r p) (mk_age σ (r p)) (mk_age σ (r (p + 1))) (nI p) 0) = σ2 at hj ⊢
    have c114 : σ2.1 114 = σ.1 114 := hj.cellI (fun j q => by rcases q with q | q | q | q <;> omega)
    have c50 : σ2.1 86 50 = σ.1 86 50 := (hj 86 50 (fun q => by rcases q with q | q | q | q <;> omega)).1
    have c32 : σ2.1 86 32 = σ.1 86 32 := (hj 86 32 (fun q => by rcases q with q | q | q | q <;> omega)).1
    have hms := mk_same (L := L) hj ht
    have eS : ∀ c j, mSh σ2 t L r c j = mSh σ t L r c j := fun c j => by unfold mSh; rw [hms.1, hms.1, hms.2]
    have eF : mSh σ2 t L r = mSh σ t L r := funext fun c => funext fun j => eS c j
    have k115 : ∀ j, σ1.1 115 j = σ.1 115 j := fun j => (g2 115 j (fun q => by rcases q with q | q | q <;> omega)).1
    obtain ⟨σ', g3, g4, g5, g6⟩ := m_sends_l d ht k r m (p + 1) (c - mk_sh σ t L c (r p) (mk_age σ (r p)) (mk_age σ (r (p + 1))) (nI p) 0) σ2 ⟨hk2, hk10, by rw [c50]; exact h50, fun j hj => by rw [c114]; exact hrow j hj⟩ (hl.same hj ht) (by rw [c32]; exact hby) (by omega) (by omega)
    rw [eF] at g3 g5
    refine ⟨σ', g3, hj.tr g4, fun j hjm => ?_, fun j hjp => ?_⟩
    · rcases Nat.eq_zero_or_pos j with h0 | h0
      · subst h0
        rw [Nat.add_zero, g6 p (by omega), ← hσ, setI_same]
        rfl
      · have := g5 (j - 1) (by omega)
        rw [show p + 1 + (j - 1) = p + j by omega] at this
        rw [this]
        have e2 : arr (mSh σ t L r) j p c = arr (mSh σ t L r) (j - 1) (p + 1) (c - mSh σ t L r c p) := by
          rw [show j = (j - 1) + 1 by omega]; rfl
        rw [e2]
        rfl
    · rw [g6 j (by omega), ← hσ, setI_nk (by omega), k115]
theorem m_sends (d : Nat) {t L Ls : Nat} (ht : jTe t) (k : Nat) (r : Nat → Nat) (c : Int32) (σ : jS) (hR : mRow σ k r) (hl : lawR σ t L Ls) (hby : σ.1 86 32 = nI Ls) :
    ∃ σ', g_M_sends (d + 5) c σ = some (some (.int (arr (mSh σ t L r) (k - 2) 1 c)), σ') ∧ jep ms_S σ σ' ∧ ∀ j, j < k - 2 → σ'.1 115 (1 + j) = mSh σ t L r (arr (mSh σ t L r) j 1 c) (1 + j) := by
  rw [e_M_sends, q_M_sends_0]
  obtain ⟨σ', g1, g2, g3, -⟩ := m_sends_l d ht k r (k - 2) 1 c σ hR hl hby (by have := hR.1; omega) (Nat.le_refl _)
  exact ⟨σ', g1, g2, g3⟩
/-- where nothing is tried, both shares are the same -/
theorem mSh_cSh {σ : jS} {t L : Nat} {r : Nat → Nat} (h30 : σ.1 86 30 = -1) {A : Nat} (hage : ∀ p, p < A → σ.1 90 p = σ.1 (t + 2) p) {c : Int32} {j : Nat} (h1 : r j < A) (h2 : r (j + 1) < A) : mSh σ t L r c j = cSh σ t L r c j := by
  have hag : ∀ p, p < A → mk_age σ p = σ.1 (t + 2) p := fun p hp => by
    unfold mk_age
    rw [h30, if_neg (by decide), hage p hp]
  unfold mSh cSh mk_sh lw_sh
  rw [hag _ h1, hag _ h2, h30]
  by_cases e : c - c / 2 * 2 = 0
  · rw [if_pos (Or.inl e), if_pos (Or.inl e)]
  · have n1 : ¬ (c - c / 2 * 2 = 0 ∨ (-1 : Int32) = 4) := fun q => q.elim e (fun z => absurd z (by decide))
    have n2 : ¬ ((-1 : Int32) = 3 ∧ σ.1 86 31 = nI (r j)) := fun q => absurd q.1 (by decide)
    rw [if_neg n1, if_neg n2]
    by_cases ho : lw_odd σ t L c (σ.1 (t + 2) (r j)) (σ.1 (t + 2) (r (j + 1))) (nI j) 0
    · rw [if_pos ho, if_neg (fun q => q.elim e (fun z => z ho))]
    · rw [if_neg ho, if_pos (Or.inr ho)]
