/-! What arrives, told by the state where a call began; 29: apart. -/
def mB (σ0 σ : jS) (t A : Nat) : Prop := lawE t σ0 σ ∧ σ.1 (t + 2) = σ0.1 (t + 2) ∧ σ.1 86 30 = -1 ∧ ∀ p, p < A → σ.1 90 p = σ0.1 (t + 2) p
theorem mB.fr {S : Nat → Nat → Prop} {σ0 σ σ' : jS} {t A : Nat} (h : jep S σ σ') (hS : ∀ b j, (t ≤ b ∧ b ≤ t + 14) ∨ b = 90 ∨ (b = 86 ∧ j = 30) → ¬ S b j) (g : mB σ0 σ t A) : mB σ0 σ' t A := by
  obtain ⟨g1, g2, g3, g4⟩ := g
  refine ⟨g1.tr (lawE.of_jep h (fun b j h1 h2 => hS b j (by omega))), ?_, ?_, fun p hp => ?_⟩
  · rw [h.cellI (fun j => hS (t + 2) j (by omega))]; exact g2
  · rw [(h 86 30 (hS _ _ (by omega))).1]; exact g3
  · rw [(h 90 p (hS _ _ (by omega))).1]; exact g4 p hp
theorem m_snd (d : Nat) {σ0 : jS} {t L Ls A : Nat} (ht : jTe t) (k : Nat) (r : Nat → Nat) (c : Int32) (σ : jS) (hR : mRow σ k r) (hrA : ∀ j, j < k → r j < A) (hl : lawR σ t L Ls) (hby : σ.1 86 32 = nI Ls) (hB : mB σ0 σ t A) :
    ∃ σ', g_M_sends (d + 5) c σ = some (some (.int (arr (cSh σ0 t L r) (k - 2) 1 c)), σ') ∧ jep ms_S σ σ' ∧ ∀ j, j < k - 2 → σ'.1 115 (1 + j) = cSh σ0 t L r (arr (cSh σ0 t L r) j 1 c) (1 + j) := by
  obtain ⟨σ', g1, g2, g3⟩ := m_sends d ht k r c σ hR hl hby
  obtain ⟨b1, b2, b3, b4⟩ := hB
  have key : ∀ c j, j + 1 < k → mSh σ t L r c j = cSh σ0 t L r c j := fun c j hj => by
    rw [mSh_cSh b3 (A := A) (fun p hp => by rw [b4 p hp, b2]) (hrA j (by omega)) (hrA (j + 1) hj), cSh_same b1 b2]
  have ha : ∀ m p c, p + m + 1 ≤ k → arr (mSh σ t L r) m p c = arr (cSh σ0 t L r) m p c := fun m p c hm => arr_congr m p c (fun c j h1 h2 => key c j (by omega))
  have hk := hR.1
  refine ⟨σ', by rw [g1, ha _ _ _ (by omega)], g2, fun j hj => ?_⟩
  rw [g3 j hj, ha j 1 c (by omega), key _ _ (by omega)]
theorem c_arv (d : Nat) {σ0 : jS} {t : Nat} (ht : jTe t) (L : Nat) (hL : L < 5) (k : Nat) (r : Nat → Nat) (c : Int32) (σ : jS) (hR : cRow σ k r) (hw : laW σ t L) (hE : lawE t σ0 σ) (h2 : σ.1 (t + 2) = σ0.1 (t + 2)) :
    ∃ σ', g_Rw_arriving (d + 5) t (nI L) c σ = some (some (.int (arr (cSh σ0 t L r) (k - 2) 1 c)), σ') ∧ jeq (la_S t) σ σ' := by
  obtain ⟨σ', g1, g2⟩ := c_arriving d ht L hL k r c σ hR hw
  exact ⟨σ', by rw [g1, cSh_same hE h2], g2⟩
theorem la_E {t : Nat} {σ σ' : jS} (h : jeq (la_S t) σ σ') : lawE t σ σ' ∧ σ'.1 (t + 2) = σ.1 (t + 2) ∧ σ'.1 t = σ.1 t ∧ σ'.2.2 0 = σ.2.2 0 := ⟨lawE.of_jeq h (fun b h1 h2 q => by rcases q with q | q <;> omega), (h (t + 2) (fun q => by rcases q with q | q <;> omega)).1, (h t (fun q => by rcases q with q | q <;> omega)).1, (h 0 (fun q => by rcases q with q | q <;> omega)).2.2⟩
theorem cRow.la {t k : Nat} {r : Nat → Nat} {σ σ' : jS} (ht : jTe t) (h : jeq (la_S t) σ σ') (g : cRow σ k r) : cRow σ' k r := by
  obtain ⟨b1, b2, b3, b4⟩ := g
  exact ⟨b1, b2, by rw [(h 69 (fun q => by rcases ht with rfl | rfl <;> rcases q with q | q <;> omega)).1]; exact b3, fun j hj => by rw [(h 70 (fun q => by rcases ht with rfl | rfl <;> rcases q with q | q <;> omega)).1]; exact b4 j hj⟩
/-- the first number by which f and g are apart -/
def apN (f g : Nat → Int32) : Nat → Nat → Int32
  | 0, _ => -2
  | c + 1, a => if f a = g a then apN f g c (a + 1) else nI a
def lwN (M x : Nat) : Nat := if x = M then 4 else x
def lwS (M x : Nat) : Nat := if M ≤ x then 0 else 1 + x
theorem lwR {σ : jS} {t M x : Nat} (h : iLaw σ t M) (hx : x ≤ M) : lawR σ t (lwN M x) (lwS M x) := by
  unfold lwN lwS
  by_cases e : x = M
  · rw [if_pos e, if_pos (by omega)]; exact h.1
  · rw [if_neg e, if_neg (by omega)]; exact h.2 x (by omega)
theorem lwN_lt {M x : Nat} (hM : M ≤ 4) (hx : x ≤ M) : lwN M x < 5 := by
  unfold lwN
  by_cases e : x = M
  · rw [if_pos e]; omega
  · rw [if_neg e]; omega
theorem c_lawNumbered (d : Nat) {t M x : Nat} (ht : jTe t) (hM : M ≤ 4) (hx : x ≤ M) (σ : jS) (r2 : σ.2.2 0 2 = t) (h10 : σ.1 t 10 = nI M) : g_HH_lawNumbered (d + 1) (nI x) σ = some (some (.int (nI (lwN M x))), σ) := by
  rw [e_HH_lawNumbered, q_HH_lawNumbered_0, r2, (te_is ht).1, jc_t, h10, q_HH_lawNumbered_1, q_HH_lawNumbered_2, q_HH_lawNumbered_2]
  unfold lwN
  by_cases e : x = M
  · rw [jif_t (congrArg nI e), if_pos e]; rfl
  · rw [jif_f (fun z => e (nI_inj (by omega) (by omega) z)), if_neg e]
theorem m_lawOf (d : Nat) {M x : Nat} (hM : M ≤ 4) (hx : x ≤ M) (σ : jS) (h : σ.1 88 2 = nI M) : g_M_lawOf (d + 1) (nI x) σ = some (some (.int (nI (lwS M x))), σ) := by
  rw [e_M_lawOf, q_M_lawOf_0, rdI_ok (a := 88) (n := 8) (i := 2) (k := 2) rfl rfl (by omega) (by omega)]
  simp only [Option.bind_some]
  rw [h, q_M_lawOf_1, q_M_lawOf_2, q_M_lawOf_2]
  unfold lwS
  by_cases e : M ≤ x
  · rw [jif_t (nI_le e (by omega)), if_pos e]; rfl
  · rw [jif_f (nI_ge (by omega) (by omega)), if_neg e, show (1 : Int32) = nI 1 from rfl, nI_add]
theorem c_apart_l (d : Nat) {σ0 : jS} {t M x y k : Nat} {r : Nat → Nat} (ht : jTe t) (hM : M ≤ 4) (hx : x ≤ M) (hy : y ≤ M) (r2 : σ0.2.2 0 2 = t) (h10 : σ0.1 t 10 = nI M) (hR : cRow σ0 k r) (hla : iLaw σ0 t M) : ∀ (c a : Nat) (σ : jS), a + c = 1000 → jeq (la_S t) σ0 σ →
    ∃ σ', b_HH_apart_3 (d + 5) (nI x) (nI y) (nI a) σ = some (some (.int (apN (fun a => arr (cSh σ0 t (lwN M x) r) (k - 2) 1 (nI a)) (fun a => arr (cSh σ0 t (lwN M y) r) (k - 2) 1 (nI a)) c a)), σ') ∧ jeq (la_S t) σ0 σ'
  | 0, a, σ, ha, hS => by
    rw [q_HH_apart_3, jif_t (show (999 : Int32) < nI a from nI_lt (a := 999) (by omega) (by omega)), q_HH_apart_5]
    exact ⟨σ, rfl, hS⟩
  | c + 1, a, σ, ha, hS => by
    obtain ⟨z1, z2, z3, z4⟩ := la_E hS
    have s2 : σ.2.2 0 2 = t := by rw [z4]; exact r2
    have s10 : σ.1 t 10 = nI M := by rw [z3]; exact h10
    rw [q_HH_apart_3, jif_f (show ¬ (999 : Int32) < nI a from nI_nlt (a := 999) (by omega) (by omega)), c_lawNumbered (d + 4) ht hM hx σ s2 s10, rI_s]
    simp only [Option.bind_some]
    obtain ⟨σ1, p1, p2⟩ := c_arv d (σ0 := σ0) ht (lwN M x) (lwN_lt hM hx) k r (nI a) σ (hR.la ht hS) (z1.W (lwR hla hx).W) z1 z2
    have S1 := hS.tr p2
    obtain ⟨y1, y2, y3, y4⟩ := la_E S1
    have t2 : σ1.2.2 0 2 = t := by rw [y4]; exact r2
    have t10 : σ1.1 t 10 = nI M := by rw [y3]; exact h10
    rw [s2, p1, rI_s]
    simp only [Option.bind_some]
    rw [c_lawNumbered (d + 4) ht hM hy σ1 t2 t10, rI_s]
    simp only [Option.bind_some]
    obtain ⟨σ2, q1, q2⟩ := c_arv d (σ0 := σ0) ht (lwN M y) (lwN_lt hM hy) k r (nI a) σ1 (hR.la ht S1) (y1.W (lwR hla hy).W) y1 y2
    rw [t2, q1, rI_s]
    simp only [Option.bind_some]
    unfold apN
    by_cases e : arr (cSh σ0 t (lwN M x) r) (k - 2) 1 (nI a) = arr (cSh σ0 t (lwN M y) r) (k - 2) 1 (nI a)
    · rw [jif_t e, if_pos e, q_HH_apart_4, nI_1]
      exact c_apart_l d ht hM hx hy r2 h10 hR hla c (a + 1) σ2 (by omega) (S1.tr q2)
    · rw [jif_f e, if_neg e]
      exact ⟨σ2, rfl, S1.tr q2⟩
def ma_S : Nat → Nat → Prop := fun b j => ms_S b j ∨ (b = 86 ∧ j = 32)
theorem ma_no {t : Nat} (ht : jTe t) : ∀ b j, (t ≤ b ∧ b ≤ t + 14) ∨ (88 ≤ b ∧ b ≤ 101) ∨ (104 ≤ b ∧ b ≤ 114) ∨ (b = 86 ∧ (j = 30 ∨ j = 50)) → ¬ ma_S b j := fun b j h q => by
  unfold ma_S ms_S at q
  rcases ht with rfl | rfl <;> omega
theorem mRow.fr {S : Nat → Nat → Prop} {σ σ' : jS} {k : Nat} {r : Nat → Nat} (h : jep S σ σ') (hS : ∀ b j, b = 114 ∨ (b = 86 ∧ j = 50) → ¬ S b j) (g : mRow σ k r) : mRow σ' k r := by
  obtain ⟨b1, b2, b3, b4⟩ := g
  exact ⟨b1, b2, by rw [(h 86 50 (hS _ _ (by omega))).1]; exact b3, fun j hj => by rw [(h 114 j (hS _ _ (by omega))).1]; exact b4 j hj⟩
theorem lawP_no {t : Nat} (ht : jTe t) : ∀ b j, lawP t b j → ¬ ma_S b j := fun b j h q => ma_no ht b j (by unfold lawP at h; omega) q
theorem m_apart_l (d : Nat) {σc σ0 : jS} {t M x y k A : Nat} {r : Nat → Nat} (ht : jTe t) (hM : M ≤ 4) (hx : x ≤ M) (hy : y ≤ M) (h88 : σ0.1 88 2 = nI M) (hR : mRow σ0 k r) (hrA : ∀ j, j < k → r j < A) (hla : iLaw σ0 t M) (hB : mB σc σ0 t A) : ∀ (c a : Nat) (σ : jS), a + c = 1000 → jep ma_S σ0 σ →
    ∃ σ', b_M_apart_3 (d + 5) (nI x) (nI y) (nI a) σ = some (some (.int (apN (fun a => arr (cSh σc t (lwN M x) r) (k - 2) 1 (nI a)) (fun a => arr (cSh σc t (lwN M y) r) (k - 2) 1 (nI a)) c a)), σ') ∧ jep ma_S σ0 σ'
  | 0, a, σ, ha, hS => by
    rw [q_M_apart_3, jif_t (show (1000 : Int32) ≤ nI a from nI_le (a := 1000) (by omega) (by omega)), q_M_apart_5]
    exact ⟨σ, rfl, hS⟩
  | c + 1, a, σ, ha, hS => by
    have nS := ma_no ht
    have s88 : σ.1 88 2 = nI M := by rw [(hS 88 2 (nS _ _ (by omega))).1]; exact h88
    rw [q_M_apart_3, jif_f (show ¬ (1000 : Int32) ≤ nI a from nI_ge (b := 1000) (by omega) (by omega)), m_lawOf (d + 4) hM hx σ s88, rI_s]
    simp only [Option.bind_some]
    have S1 : jep ma_S σ0 (j_setI σ 86 32 (nI (lwS M x))) := hS.sI (Or.inr ⟨rfl, rfl⟩)
    obtain ⟨σ1, p1, p2, -⟩ := m_snd d (σ0 := σc) (A := A) ht k r (nI a) _ (hR.fr S1 (fun b j h => nS b j (by omega))) hrA ((lwR hla hx).fr S1 (lawP_no ht)) (setI_same _ _ _ _) (hB.fr S1 (fun b j h => nS b j (by omega)))
    have S2 : jep ma_S σ0 σ1 := S1.tr (p2.mono (fun b j h => Or.inl h))
    rw [p1, rI_s]
    simp only [Option.bind_some]
    rw [m_lawOf (d + 4) hM hy σ1 (by rw [(S2 88 2 (nS _ _ (by omega))).1]; exact h88), rI_s]
    simp only [Option.bind_some]
    have S3 : jep ma_S σ0 (j_setI σ1 86 32 (nI (lwS M y))) := S2.sI (Or.inr ⟨rfl, rfl⟩)
    obtain ⟨σ2, q1, q2, -⟩ := m_snd d (σ0 := σc) (A := A) ht k r (nI a) _ (hR.fr S3 (fun b j h => nS b j (by omega))) hrA ((lwR hla hy).fr S3 (lawP_no ht)) (setI_same _ _ _ _) (hB.fr S3 (fun b j h => nS b j (by omega)))
    have S4 : jep ma_S σ0 σ2 := S3.tr (q2.mono (fun b j h => Or.inl h))
    rw [q1, rI_s]
    simp only [Option.bind_some]
    unfold apN
    by_cases e : arr (cSh σc t (lwN M x) r) (k - 2) 1 (nI a) = arr (cSh σc t (lwN M y) r) (k - 2) 1 (nI a)
    · rw [jif_t e, if_pos e, q_M_apart_4, nI_1]
      exact m_apart_l d ht hM hx hy h88 hR hrA hla hB c (a + 1) σ2 (by omega) S4
    · rw [jif_f e, if_neg e]
      exact ⟨σ2, rfl, S4⟩
theorem ma_scr {t b j : Nat} (ht : jTe t) (h : ma_S b j) : jScr t b j := by
  rcases h with h | ⟨rfl, rfl⟩
  · exact ms_scr ht h
  · exact mp_scr ht ⟨rfl, by omega⟩
/-- the reference takes a row in a call that began where the class stands at σc -/
theorem m_takesB (d : Nat) {σc : jS} {t N A : Nat} (n : Int32) (hN : N < 2 ^ 64) (σ : jS) (g : jInv σ t) (hA0 : σ.1 t 0 = nI A) (hA : A ≤ 10) (h30 : σ.1 86 30 = -1) (hE : lawE t σc σ) (h2 : σ.1 (t + 2) = σc.1 (t + 2)) :
    ∃ σ1, g_M_takes (d + 2) n (lN N) σ = some (some (.int (b2i (rowOK N n A))), σ1) ∧ jep mt_S σ σ1 ∧ jInv σ1 t ∧ mB σc σ1 t A ∧ (rowOK N n A → ∃ k, n = nI k ∧ mRow σ1 k (nib N)) := by
  have ht := g.1
  obtain ⟨A', hA', b1, b2, b3⟩ := g.A
  have e : A' = A := nI_inj (by omega) (by omega) (b1.symm.trans hA0)
  subst e
  obtain ⟨σ1, g1, g2, g3⟩ := m_takes d N A' n hN hA' σ b2
  have B0 : mB σc σ t A' := ⟨hE, h2, h30, fun p hp => by rw [b3 p hp, h2]⟩
  refine ⟨σ1, g1, g2, g.scr (g2.mono (fun b j h => mt_scr ht h)), B0.fr g2 (fun b j h q => by unfold mt_S at q; rcases ht with rfl | rfl <;> omega), fun q => ?_⟩
  obtain ⟨k, k1, k2, k3, k4⟩ := q.r
  obtain ⟨p1, p2⟩ := g3 k (by omega) k3 q
  exact ⟨k, k3, k1, k2, p2, fun j hj => ⟨p1 j hj, by have := k4 j hj; omega⟩⟩
theorem op_apart (d : Nat) (n x y : Int32) (code : Int64) (σ : jS) (t : Nat) (g : jInv σ t) : opI (g_HH_apart (d + 6) n code x y) (g_M_apart (d + 6) n code x y) σ := by
  obtain ⟨N, hN, rfl⟩ := wb_of code
  obtain ⟨ht, r2, r3, hT, hF, A, Pt, M, Np, hte, hla, h36, hjo, hno, him⟩ := id g
  have hA := hte.1
  have hM := hte.2.2.1
  have a1 := hte.2.2.2.1
  have a8 := hte.2.2.2.2.2.2.2.1
  have a9 := hte.2.2.2.2.2.2.2.2.1
  obtain ⟨σ1, c1, c2, c3⟩ := c_isRow (d + 2) ht n hN hA σ r2 a1
  have g1 := g.scr (c2.mono (fun b j h => ct_scr ht h))
  have k1 : ∀ b j, b ≠ 70 → b ≠ 69 → σ1.1 b j = σ.1 b j ∧ σ1.2.1 b j = σ.2.1 b j ∧ σ1.2.2 b j = σ.2.2 b j := fun b j h1 h2 => c2 b j (fun q => by rcases q with q | q <;> omega)
  have tn : ∀ i, i ≤ 16 → t + i ≠ 70 ∧ t + i ≠ 69 := fun i hi => by rcases ht with rfl | rfl <;> omega
  have cT : ∀ i, i ≤ 16 → σ1.1 (t + i) = σ.1 (t + i) := fun i hi => funext fun j => (k1 (t + i) j (tn i hi).1 (tn i hi).2).1
  have s10 : σ1.1 t 10 = nI M := by rw [(k1 t 10 (tn 0 (by omega)).1 (tn 0 (by omega)).2).1]; exact a8
  have s0 : σ1.1 t 0 = nI A := by rw [(k1 t 0 (tn 0 (by omega)).1 (tn 0 (by omega)).2).1]; exact a1
  have la1 : iLaw σ1 t M := hla.fr c2 (fun b j p q => by unfold lawP at p; unfold ct_S at q; rcases ht with rfl | rfl <;> omega)
  have cond : ∀ z : Int32, (0 ≤ z ∧ z ≤ nI M) → ∃ m, m ≤ M ∧ z = nI m := fun z hz => in_nI rfl (by omega) hz
  by_cases h : rowOK N n A ∧ (0 ≤ x ∧ x ≤ nI M) ∧ (0 ≤ y ∧ y ≤ nI M)
  · obtain ⟨h1, h2, h3⟩ := id h
    obtain ⟨x, hx, rfl⟩ := cond x h2
    obtain ⟨y, hy, rfl⟩ := cond y h3
    obtain ⟨k, e1, hR⟩ := c3 h1
    obtain ⟨kk, kk1, kk2, kk3, kk4⟩ := h1.r
    have ekk : kk = k := nI_inj (by omega) (by have := hR.2.1; omega) (kk3.symm.trans e1)
    subst ekk
    subst e1
    obtain ⟨σ2, p1, p2⟩ := c_apart_l d ht hM hx hy g1.2.1 s10 hR la1 999 1 σ1 (by omega) jeq.rf
    have g2 := g1.scr (jep.of p2 (fun b j h => la_scr h))
    obtain ⟨w1, w2, w3, w4⟩ := la_E p2
    obtain ⟨σ3, q1, q2, q3, q4⟩ := m_plain0 (d + 4) σ2
    have g3 := g2.scr (q2.mono (fun b j h => mp_scr ht h))
    have n3 : ∀ b j, b ≠ 86 → σ3.1 b j = σ2.1 b j := fun b j hb => (q2 b j (fun q => hb q.1)).1
    have cT3 : ∀ i, i ≤ 14 → σ3.1 (t + i) = σ2.1 (t + i) := fun i hi => funext fun j => n3 (t + i) j (by rcases ht with rfl | rfl <;> omega)
    have E3 : lawE t σ1 σ3 := w1.tr ⟨cT3 10 (by omega), cT3 11 (by omega), cT3 12 (by omega), cT3 13 (by omega), cT3 14 (by omega)⟩
    have t3 : σ3.1 t = σ1.1 t := (cT3 0 (by omega)).trans w3
    obtain ⟨σ4, m1, m2, m3, m4, m5⟩ := m_takesB (d + 3) (σc := σ1) (nI kk) hN σ3 g3 (by rw [t3]; exact s0) hA q3 E3 ((cT3 2 (by omega)).trans w2)
    obtain ⟨k', e2, hRm⟩ := m5 h1
    have ek : kk = k' := nI_inj (by omega) (by have := hRm.2.1; omega) e2
    subst ek
    have s88 : σ3.1 88 2 = nI M := by
      rw [n3 88 2 (by omega), (p2 88 (fun q => by rcases ht with rfl | rfl <;> rcases q with q | q <;> omega)).1, (k1 88 2 (by omega) (by omega)).1]; exact a9
    have s488 : σ4.1 88 2 = nI M := by rw [(m2 88 2 (fun q => by rcases q with q | q <;> omega)).1]; exact s88
    have la4 : iLaw σ4 t M := by
      have j1 : iLaw σ2 t M := la1.fr (jep.of (T := fun b _ => la_S t b) p2 (fun b j h => h)) (fun b j p q => by unfold lawP at p; unfold la_S at q; rcases ht with rfl | rfl <;> omega)
      have j2 : iLaw σ3 t M := j1.fr q2 (fun b j p q => by unfold lawP at p; unfold mp_S at q; rcases ht with rfl | rfl <;> omega)
      exact j2.fr m2 (fun b j p q => by unfold lawP at p; unfold mt_S at q; rcases ht with rfl | rfl <;> omega)
    obtain ⟨σ5, v1, v2⟩ := m_apart_l d (σc := σ1) ht hM hx hy s488 hRm kk4 la4 m4 999 1 σ4 (by omega) jep.rf
    refine ⟨apN (fun a => arr (cSh σ1 t (lwN M x) (nib N)) (kk - 2) 1 (nI a)) (fun a => arr (cSh σ1 t (lwN M y) (nib N)) (kk - 2) 1 (nI a)) 999 1, σ2, σ5, t, ?_, ?_, m3.scr (v2.mono (fun b j h => ma_scr ht h))⟩
    · show g_HH_apart (d + 6) (nI kk) (lN N) (nI x) (nI y) σ = _
      rw [e_HH_apart, q_HH_apart_0, c1, rI_s]
      simp only [Option.bind_some]
      rw [b2i_t h1, jif_f (by decide), g1.2.1, (te_is ht).1, jc_t, s10, c_within, rI_s]
      simp only [Option.bind_some]
      rw [if_pos h2, jif_f (by decide), g1.2.1, (te_is ht).1, jc_t, s10, c_within, rI_s]
      simp only [Option.bind_some]
      rw [if_pos h3, jif_f (by decide), q_HH_apart_2]
      exact p1
    · show g_M_apart (d + 6) (nI kk) (lN N) (nI x) (nI y) σ2 = _
      rw [e_M_apart, q_M_apart_0, q1, rV_s]
      simp only [Option.bind_some]
      rw [jif_f (Int32.not_lt.mpr h2.1), rdI_ok (a := 88) (n := 8) (i := 2) (k := 2) rfl rfl (by omega) (by omega)]
      simp only [Option.bind_some]
      rw [s88, jif_f (Int32.not_lt.mpr h2.2), jif_f (Int32.not_lt.mpr h3.1), jif_f (Int32.not_lt.mpr h3.2), m1, rI_s]
      simp only [Option.bind_some]
      rw [b2i_t h1, jif_f (by decide), q_M_apart_2]
      exact v1
  · obtain ⟨σ3, q1, q2, q3, q4⟩ := m_plain0 (d + 4) σ1
    have g3 := g1.scr (q2.mono (fun b j h => mp_scr ht h))
    have n3 : ∀ b j, b ≠ 86 → σ3.1 b j = σ1.1 b j := fun b j hb => (q2 b j (fun q => hb q.1)).1
    have cT3 : ∀ i, i ≤ 14 → σ3.1 (t + i) = σ1.1 (t + i) := fun i hi => funext fun j => n3 (t + i) j (by rcases ht with rfl | rfl <;> omega)
    have E3 : lawE t σ1 σ3 := ⟨cT3 10 (by omega), cT3 11 (by omega), cT3 12 (by omega), cT3 13 (by omega), cT3 14 (by omega)⟩
    have t3 : σ3.1 t = σ1.1 t := cT3 0 (by omega)
    obtain ⟨σ4, m1, m2, m3, m4, m5⟩ := m_takesB (d + 3) (σc := σ1) n hN σ3 g3 (by rw [t3]; exact s0) hA q3 E3 (cT3 2 (by omega))
    have s88 : σ3.1 88 2 = nI M := by
      rw [n3 88 2 (by omega), (k1 88 2 (by omega) (by omega)).1]; exact a9
    have hC : g_HH_apart (d + 6) n (lN N) x y σ = some (some (.int (-1)), σ1) := by
      rw [e_HH_apart, q_HH_apart_0, c1, rI_s]
      simp only [Option.bind_some]
      by_cases h1 : rowOK N n A
      · rw [b2i_t h1, jif_f (by decide), g1.2.1, (te_is ht).1, jc_t, s10, c_within, rI_s]
        simp only [Option.bind_some]
        by_cases h2 : 0 ≤ x ∧ x ≤ nI M
        · rw [if_pos h2, jif_f (by decide), g1.2.1, (te_is ht).1, jc_t, s10, c_within, rI_s]
          simp only [Option.bind_some]
          rw [if_neg (fun h3 => h ⟨h1, h2, h3⟩), jif_t rfl, q_HH_apart_1]
        · rw [if_neg h2, jif_t rfl, q_HH_apart_1]
      · rw [b2i_f h1, jif_t rfl, q_HH_apart_1]
    have hM0 : ∃ σ', g_M_apart (d + 6) n (lN N) x y σ1 = some (some (.int (-1)), σ') ∧ jInv σ' t := by
      rw [e_M_apart, q_M_apart_0, q1, rV_s]
      simp only [Option.bind_some]
      by_cases b1 : x < 0
      · rw [jif_t b1, q_M_apart_1]; exact ⟨_, rfl, g3⟩
      rw [jif_f b1, rdI_ok (a := 88) (n := 8) (i := 2) (k := 2) rfl rfl (by omega) (by omega)]
      simp only [Option.bind_some]
      rw [s88]
      by_cases b2 : nI M < x
      · rw [jif_t b2, q_M_apart_1]; exact ⟨_, rfl, g3⟩
      rw [jif_f b2]
      by_cases b3 : y < 0
      · rw [jif_t b3, q_M_apart_1]; exact ⟨_, rfl, g3⟩
      rw [jif_f b3]
      by_cases b4 : nI M < y
      · rw [jif_t b4, q_M_apart_1]; exact ⟨_, rfl, g3⟩
      rw [jif_f b4, m1, rI_s]
      simp only [Option.bind_some]
      rw [b2i_f (fun h1 => h ⟨h1, ⟨Int32.not_lt.mp b1, Int32.not_lt.mp b2⟩, Int32.not_lt.mp b3, Int32.not_lt.mp b4⟩), jif_t rfl, q_M_apart_1]
      exact ⟨_, rfl, m3⟩
    obtain ⟨σ', x1, x2⟩ := hM0
    exact ⟨-1, σ1, σ', t, hC, x1, x2⟩
