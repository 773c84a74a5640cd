/-! Expressions: after a fault the reference does nothing; the levels whose parts join from the left. -/
theorem m_primaryF (d : Nat) (τ : jS) (h : ¬ τ.1 86 23 = 0) : g_M_primary (d + 1) τ = some (none, τ) := by
  rw [e_M_primary, q_M_primary_0, jif_f h]
theorem m_product1F (d : Nat) (τ : jS) (h : ¬ τ.1 86 23 = 0) : b_M_product_1 (d + 1) τ = some (none, τ) := by
  rw [q_M_product_1, m_isSignF _ _ _ h, rI_s]
  simp only [Option.bind_some]
  rw [jif_t trivial, m_isSignF _ _ _ h, rI_s]
  simp only [Option.bind_some]
  rw [jif_t trivial, m_isSignF _ _ _ h, rI_s]
  simp only [Option.bind_some]
  rw [jif_t trivial, q_M_product_3]
theorem m_productF (d : Nat) (τ : jS) (h : ¬ τ.1 86 23 = 0) : g_M_product (d + 2) τ = some (none, τ) := by
  rw [e_M_product, q_M_product_0, m_primaryF _ _ h, rV_s]
  exact m_product1F d τ h
theorem m_sum1F (d : Nat) (τ : jS) (h : ¬ τ.1 86 23 = 0) : b_M_sum_1 (d + 1) τ = some (none, τ) := by
  rw [q_M_sum_1, m_isSignF _ _ _ h, rI_s]
  simp only [Option.bind_some]
  rw [jif_t trivial, m_isSignF _ _ _ h, rI_s]
  simp only [Option.bind_some]
  rw [jif_t trivial, q_M_sum_3]
theorem m_sumF (d : Nat) (τ : jS) (h : ¬ τ.1 86 23 = 0) : g_M_sum (d + 3) τ = some (none, τ) := by
  rw [e_M_sum, q_M_sum_0, m_productF _ _ h, rV_s]
  exact m_sum1F (d + 1) τ h
theorem m_neg1F (d : Nat) (τ : jS) (h : ¬ τ.1 86 23 = 0) : b_M_negation_1 (d + 3) τ = some (none, τ) := by
  rw [q_M_negation_1, m_sumF _ _ h, rV_s]
  simp only [Option.bind_some]
  rw [jif_f h, q_M_negation_2]
theorem m_negationF (d : Nat) (τ : jS) (h : ¬ τ.1 86 23 = 0) : g_M_negation (d + 4) τ = some (none, τ) := by
  rw [e_M_negation, q_M_negation_0, m_isWordF _ _ _ h, rI_s]
  simp only [Option.bind_some]
  rw [jif_t trivial]
  exact m_neg1F d τ h
theorem m_conj1F (d : Nat) (τ : jS) (h : ¬ τ.1 86 23 = 0) : b_M_conjunction_1 (d + 1) τ = some (none, τ) := by
  rw [q_M_conjunction_1, m_isWordF _ _ _ h, rI_s]
  simp only [Option.bind_some]
  rw [jif_t trivial, q_M_conjunction_2]
theorem m_conjF (d : Nat) (τ : jS) (h : ¬ τ.1 86 23 = 0) : g_M_conjunction (d + 5) τ = some (none, τ) := by
  rw [e_M_conjunction, q_M_conjunction_0, m_negationF _ _ h, rV_s]
  exact m_conj1F (d + 3) τ h
theorem m_expr1F (d : Nat) (τ : jS) (h : ¬ τ.1 86 23 = 0) : b_M_expression_1 (d + 1) τ = some (none, τ) := by
  rw [q_M_expression_1, m_isWordF _ _ _ h, rI_s]
  simp only [Option.bind_some]
  rw [jif_t trivial, q_M_expression_2]
theorem m_exprF (d : Nat) (τ : jS) (h : ¬ τ.1 86 23 = 0) : g_M_expression (d + 6) τ = some (none, τ) := by
  rw [e_M_expression, q_M_expression_0, m_conjF _ _ h, rV_s]
  exact m_expr1F (d + 4) τ h
theorem mR.sg {K : Nat} {v k21 k22 : Int32} (h : mR K v k21 k22) (hK : 20 ≤ K) : k21 = 3 ∧ k22 = nI K := by
  rcases h with h | ⟨j, j1, j2, -⟩ | h | h | h | ⟨-, h⟩
  · omega
  · have := cw_lt j j1; omega
  · omega
  · omega
  · omega
  · exact h
theorem mR.ns {K : Nat} {v k21 k22 : Int32} (h : mR K v k21 k22) (hK : K < 20) : ¬ k21 = 3 := by
  rcases h with ⟨-, h⟩ | ⟨j, j1, j2, h, -⟩ | ⟨-, h, -⟩ | ⟨-, h, -⟩ | ⟨-, h⟩ | ⟨h, -⟩
  · rw [h]; decide
  · rw [h]; decide
  · rw [h]; decide
  · rw [h]; decide
  · rw [h]; decide
  · rcases h with h | h
    · have := sgs_r K (by omega) h; omega
    · omega
theorem lw_cd_sg {K : Nat} (h : 20 ≤ K) (h2 : K ≤ 258) : lw_cd (nI K) = nI K := by
  unfold lw_cd
  rw [if_neg (fun z => by have := nI_inj (b := 15) (by omega) (by omega) z; omega), if_neg (fun z => by have := nI_inj (b := 10) (by omega) (by omega) z; omega)]
theorem nI_k {K k : Nat} (h : K ≤ 258) (hk : k ≤ 258) (e : ¬ K = k) : ¬ nI K = nI k := fun z => e (nI_inj (by omega) (by omega) z)
theorem c_joins0 (d : Nat) (σ : jS) (K : Nat) (hK : K ≤ 258) : g_Rd_joins (d + 1) (nI 0) (nI K) σ = some (some (.int (b2i (K = 10))), σ) := by
  rw [e_Rd_joins, q_Rd_joins_0, jif_t (by decide), q_Rd_joins_1]
  by_cases e : K = 10
  · subst e; rw [jif_t (by decide), q_Rd_joins_3, b2i_t rfl]; rfl
  · rw [jif_f (show ¬ _ = (10 : Int32) from nI_k (k := 10) hK (by omega) e), q_Rd_joins_2, q_Rd_joins_3, b2i_f e]; rfl
theorem c_joins1 (d : Nat) (σ : jS) (K : Nat) (hK : K ≤ 258) : g_Rd_joins (d + 1) (nI 1) (nI K) σ = some (some (.int (b2i (K = 15))), σ) := by
  rw [e_Rd_joins, q_Rd_joins_0, jif_f (by decide), jif_t (by decide), q_Rd_joins_4]
  by_cases e : K = 15
  · subst e; rw [jif_t (by decide), q_Rd_joins_6, b2i_t rfl]; rfl
  · rw [jif_f (show ¬ _ = (15 : Int32) from nI_k (k := 15) hK (by omega) e), q_Rd_joins_5, q_Rd_joins_6, b2i_f e]; rfl
theorem c_joins4 (d : Nat) (σ : jS) (K : Nat) (hK : K ≤ 258) : g_Rd_joins (d + 1) (nI 4) (nI K) σ = some (some (.int (b2i (K = 43 ∨ K = 45))), σ) := by
  rw [e_Rd_joins, q_Rd_joins_0, jif_f (by decide), jif_f (by decide), jif_f (by decide), jif_f (by decide), jif_t (by decide), q_Rd_joins_8]
  by_cases e : K = 43
  · subst e; rw [jif_t (by decide), q_Rd_joins_9, q_Rd_joins_11, b2i_t (Or.inl rfl)]; rfl
  · rw [jif_f (show ¬ _ = (43 : Int32) from nI_k (k := 43) hK (by omega) e)]
    by_cases e2 : K = 45
    · subst e2; rw [jif_t (by decide), q_Rd_joins_9, q_Rd_joins_11, b2i_t (Or.inr rfl)]; rfl
    · rw [jif_f (show ¬ _ = (45 : Int32) from nI_k (k := 45) hK (by omega) e2), q_Rd_joins_10, q_Rd_joins_11, b2i_f (by omega)]; rfl
theorem c_joins5 (d : Nat) (σ : jS) (K : Nat) (hK : K ≤ 258) : g_Rd_joins (d + 1) (nI 5) (nI K) σ = some (some (.int (b2i (K = 42 ∨ K = 47 ∨ K = 37))), σ) := by
  rw [e_Rd_joins, q_Rd_joins_0, jif_f (by decide), jif_f (by decide), jif_f (by decide), jif_f (by decide), jif_f (by decide), jif_t (by decide), q_Rd_joins_12]
  by_cases e : K = 42
  · subst e; rw [jif_t (by decide), q_Rd_joins_13, q_Rd_joins_15, b2i_t (Or.inl rfl)]; rfl
  · rw [jif_f (show ¬ _ = (42 : Int32) from nI_k (k := 42) hK (by omega) e)]
    by_cases e2 : K = 47
    · subst e2; rw [jif_t (by decide), q_Rd_joins_13, q_Rd_joins_15, b2i_t (Or.inr (Or.inl rfl))]; rfl
    · rw [jif_f (show ¬ _ = (47 : Int32) from nI_k (k := 47) hK (by omega) e2)]
      by_cases e3 : K = 37
      · subst e3; rw [jif_t (by decide), q_Rd_joins_13, q_Rd_joins_15, b2i_t (Or.inr (Or.inr rfl))]; rfl
      · rw [jif_f (show ¬ _ = (37 : Int32) from nI_k (k := 37) hK (by omega) e3), q_Rd_joins_14, q_Rd_joins_15, b2i_f (by omega)]; rfl
def cmpK (K : Nat) : Prop := (60 ≤ K ∧ K ≤ 62) ∨ (256 ≤ K ∧ K ≤ 258)
theorem c_joins3 (d : Nat) (σ : jS) (K : Nat) (hK : K ≤ 258) : g_Rd_joins (d + 3) (nI 3) (nI K) σ = some (some (.int (b2i (cmpK K))), σ) := by
  have i1 : ((60 : Int32) ≤ nI K ∧ nI K ≤ 62) ↔ (60 ≤ K ∧ K ≤ 62) := and_congr (nI_leI (a := 60) (by omega) (by omega)) (nI_leI (b := 62) (by omega) (by omega))
  have i2 : ((256 : Int32) ≤ nI K ∧ nI K ≤ 258) ↔ (256 ≤ K ∧ K ≤ 258) := and_congr (nI_leI (a := 256) (by omega) (by omega)) (nI_leI (b := 258) (by omega) (by omega))
  rw [e_Rd_joins, q_Rd_joins_0, jif_f (by decide), jif_f (by decide), jif_f (by decide), jif_t (by decide), q_Rd_joins_7, e_Tk_isComparison, q_Tk_isComparison_0, c_within, rI_s]
  simp only [Option.bind_some]
  by_cases e : 60 ≤ K ∧ K ≤ 62
  · rw [if_pos (i1.mpr e), jif_f (by decide), q_Tk_isComparison_1, q_Tk_isComparison_3, b2i_t (show cmpK K from Or.inl e)]; rfl
  · rw [if_neg (fun z => e (i1.mp z)), jif_t rfl, c_within, rI_s]
    simp only [Option.bind_some]
    by_cases e2 : 256 ≤ K ∧ K ≤ 258
    · rw [if_pos (i2.mpr e2), jif_f (by decide), q_Tk_isComparison_1, q_Tk_isComparison_3, b2i_t (show cmpK K from Or.inr e2)]; rfl
    · rw [if_neg (fun z => e2 (i2.mp z)), jif_t rfl, q_Tk_isComparison_2, q_Tk_isComparison_3, b2i_f (fun z => z.elim e e2)]; rfl
/-- a level: its first part, then the loop -/
theorem x_level (dc dm : Nat) {u Ln op W KN : Nat} {B : Nat → Nat} {T : Tok} (hu : jTe u) (lv : Nat) (hl : lv = 0 ∨ lv = 1 ∨ lv = 4 ∨ lv = 5) (sub ml : jS → jR) (J : Nat → Prop) {σ τ : jS} (h : xS σ τ u B Ln T W KN op)
    (hS : ∀ σ τ T W KN', KN ≤ KN' → xS σ τ u B Ln T W KN' op → xO (g_Rd_expression (dc + 3) (nI lv + 1) (nI op) σ) (sub τ) σ τ u B Ln W KN' op)
    (hJ : ∀ σ K, K ≤ 258 → g_Rd_joins (dc + 3) (nI lv) (nI K) σ = some (some (.int (b2i (J K))), σ))
    (hm0 : ∀ τ T, mdS τ B Ln T → T.1 ≤ 258 → ¬ J T.1 → ml τ = some (none, τ))
    (hm1 : ∀ τ T, mdS τ B Ln T → T.1 ≤ 258 → J T.1 → ml τ = (r_V (g_M_knot (dm + 4) τ)).bind fun τ1 => (r_V (g_M_goOn (dm + 4) τ1)).bind fun τ2 => (r_V (sub τ2)).bind fun τ3 => (r_V (g_M_puts (dm + 4) 2 (lw_cd (nI T.1)) τ3)).bind fun τ4 => ml τ4)
    (hmF : ∀ τ : jS, ¬ τ.1 86 23 = 0 → ml τ = some (none, τ)) (hsF : ∀ τ : jS, ¬ τ.1 86 23 = 0 → sub τ = some (none, τ)) (hOp : ∀ K, J K → lw_op (nI K)) :
    xO (g_Rd_expression (dc + 4) (nI lv) (nI op) σ) ((r_V (sub τ)).bind fun τ1 => ml τ1) σ τ u B Ln W KN op := by
  have n2 : ¬ nI lv = 2 := by rcases hl with rfl | rfl | rfl | rfl <;> decide
  have n3 : ¬ nI lv = 3 := by rcases hl with rfl | rfl | rfl | rfl <;> decide
  have n6 : nI lv < 6 := by rcases hl with rfl | rfl | rfl | rfl <;> decide
  rw [e_Rd_expression, q_Rd_expression_0, jif_f n2, q_Rd_expression_1, jif_t n6, q_Rd_expression_2]
  rcases hS σ τ T W KN (Nat.le_refl _) h with ⟨σ2, τ3, T2, W2, b1, b2, b3, b4, b5, b6⟩ | ⟨σ2, τ3, k, pl, b1, b2, b3, b4, b5, b6, b7, b8⟩
  · rw [b1, b2, rI_s, rV_s]
    simp only [Option.bind_some]
    have hW := b6.1
    rw [jif_f (by decide), q_Rd_expression_3, jif_f n3, q_Rd_expression_4, q_Rd_expression_5]
    exact x_loop dc dm hu lv sub ml J hS hJ hm0 hm1 hmF hsF hOp 65 0 W2 (KN + (W2 - W)) σ2 τ3 T2 (by omega) (by omega) rfl b5 b6 b3 b4
  · have hf := b8.ne b5 b6
    rw [b1, b2, rI_s, rV_s]
    simp only [Option.bind_some]
    rw [jif_t trivial, hmF _ hf]
    exact Or.inr ⟨σ2, τ3, k, pl, rfl, rfl, b3, b4, b5, b6, b7, b8⟩
theorem x_expr (dc dm : Nat) {u Ln op W KN : Nat} {B : Nat → Nat} {T : Tok} (hu : jTe u) {σ τ : jS} (h : xS σ τ u B Ln T W KN op)
    (hS : ∀ σ τ T W KN', KN ≤ KN' → xS σ τ u B Ln T W KN' op → xO (g_Rd_expression (dc + 3) 1 (nI op) σ) (g_M_conjunction (dm + 5) τ) σ τ u B Ln W KN' op) :
    xO (g_Rd_expression (dc + 4) 0 (nI op) σ) (g_M_expression (dm + 6) τ) σ τ u B Ln W KN op := by
  rw [e_M_expression, q_M_expression_0]
  refine x_level dc (dm + 1) hu 0 (by omega) (g_M_conjunction (dm + 5)) (b_M_expression_1 (dm + 5)) (fun K => K = 10) h hS (fun σ K hK => c_joins0 _ σ K hK) (fun τ T g gT hj => ?_) (fun τ T g gT hj => ?_) (fun τ hf => m_expr1F _ _ hf) (fun τ hf => m_conjF _ _ hf) (fun K hK => ?_)
  · rw [q_M_expression_1, show g_M_isWord (dm + 5) 7 τ = _ from m_isWord (dm + 4) 7 (by omega) τ g, rI_s]
    simp only [Option.bind_some]
    rw [b2i_f (show ¬ T.1 = cw 7 from hj), jif_t rfl, q_M_expression_2]
  · rw [q_M_expression_1, show g_M_isWord (dm + 5) 7 τ = _ from m_isWord (dm + 4) 7 (by omega) τ g, rI_s]
    simp only [Option.bind_some]
    have hj : T.1 = 10 := hj
    rw [b2i_t (show T.1 = cw 7 from hj), jif_f (by decide), hj]
    rfl
  · have hK : K = 10 := hK
    subst hK; exact Or.inl rfl
theorem x_conj (dc dm : Nat) {u Ln op W KN : Nat} {B : Nat → Nat} {T : Tok} (hu : jTe u) {σ τ : jS} (h : xS σ τ u B Ln T W KN op)
    (hS : ∀ σ τ T W KN', KN ≤ KN' → xS σ τ u B Ln T W KN' op → xO (g_Rd_expression (dc + 3) 2 (nI op) σ) (g_M_negation (dm + 4) τ) σ τ u B Ln W KN' op) :
    xO (g_Rd_expression (dc + 4) 1 (nI op) σ) (g_M_conjunction (dm + 5) τ) σ τ u B Ln W KN op := by
  rw [e_M_conjunction, q_M_conjunction_0]
  refine x_level dc dm hu 1 (by omega) (g_M_negation (dm + 4)) (b_M_conjunction_1 (dm + 4)) (fun K => K = 15) h hS (fun σ K hK => c_joins1 _ σ K hK) (fun τ T g gT hj => ?_) (fun τ T g gT hj => ?_) (fun τ hf => m_conj1F _ _ hf) (fun τ hf => m_negationF _ _ hf) (fun K hK => ?_)
  · rw [q_M_conjunction_1, show g_M_isWord (dm + 4) 8 τ = _ from m_isWord (dm + 3) 8 (by omega) τ g, rI_s]
    simp only [Option.bind_some]
    rw [b2i_f (show ¬ T.1 = cw 8 from hj), jif_t rfl, q_M_conjunction_2]
  · rw [q_M_conjunction_1, show g_M_isWord (dm + 4) 8 τ = _ from m_isWord (dm + 3) 8 (by omega) τ g, rI_s]
    simp only [Option.bind_some]
    have hj : T.1 = 15 := hj
    rw [b2i_t (show T.1 = cw 8 from hj), jif_f (by decide), hj]
    rfl
  · have hK : K = 15 := hK
    subst hK; exact Or.inr (Or.inl rfl)
theorem x_sum (dc dm : Nat) {u Ln op W KN : Nat} {B : Nat → Nat} {T : Tok} (hu : jTe u) {σ τ : jS} (h : xS σ τ u B Ln T W KN op)
    (hS : ∀ σ τ T W KN', KN ≤ KN' → xS σ τ u B Ln T W KN' op → xO (g_Rd_expression (dc + 3) 5 (nI op) σ) (g_M_product (dm + 4) τ) σ τ u B Ln W KN' op) :
    xO (g_Rd_expression (dc + 4) 4 (nI op) σ) (g_M_sum (dm + 5) τ) σ τ u B Ln W KN op := by
  rw [e_M_sum, q_M_sum_0]
  have sg : ∀ τ T, mdS τ B Ln T → T.1 ≤ 258 → ∀ c, (c = 43 ∨ c = 45) → g_M_isSign (dm + 4) (nI c) τ = some (some (.int (b2i (T.1 = c))), τ) := fun τ T g gT c hc => m_isSign (dm + 3) c (by rcases hc with rfl | rfl <;> decide) (by omega) (by omega) τ g
  refine x_level dc dm hu 4 (by omega) (g_M_product (dm + 4)) (b_M_sum_1 (dm + 4)) (fun K => K = 43 ∨ K = 45) h hS (fun σ K hK => c_joins4 _ σ K hK) (fun τ T g gT hj => ?_) (fun τ T g gT hj => ?_) (fun τ hf => m_sum1F _ _ hf) (fun τ hf => m_productF _ _ hf) (fun K hK => ?_)
  · rw [q_M_sum_1, show g_M_isSign (dm + 4) 43 τ = _ from sg τ T g gT 43 (by omega), rI_s]
    simp only [Option.bind_some]
    rw [b2i_f (fun z => hj (Or.inl z)), jif_t rfl, show g_M_isSign (dm + 4) 45 τ = _ from sg τ T g gT 45 (by omega), rI_s]
    simp only [Option.bind_some]
    rw [b2i_f (fun z => hj (Or.inr z)), jif_t rfl, q_M_sum_3]
  · have hj : T.1 = 43 ∨ T.1 = 45 := hj
    have hv : lw_cd (nI T.1) = τ.1 86 22 := by rw [lw_cd_sg (by omega) gT, (g.2.2.2.1.sg (by omega)).2]
    have st : b_M_sum_1 (dm + 4) τ = b_M_sum_2 (dm + 4) τ := by
      rw [q_M_sum_1, show g_M_isSign (dm + 4) 43 τ = _ from sg τ T g gT 43 (by omega), rI_s]
      simp only [Option.bind_some]
      by_cases e : T.1 = 43
      · rw [b2i_t e, jif_f (by decide)]
      · rw [b2i_f e, jif_t rfl, show g_M_isSign (dm + 4) 45 τ = _ from sg τ T g gT 45 (by omega), rI_s]
        simp only [Option.bind_some]
        rw [b2i_t (hj.resolve_left e), jif_f (by decide)]
    rw [st, q_M_sum_2, hv]
  · have hK : K = 43 ∨ K = 45 := hK
    rcases hK with rfl | rfl <;> (unfold lw_op; decide)
theorem x_prod (dc dm : Nat) {u Ln op W KN : Nat} {B : Nat → Nat} {T : Tok} (hu : jTe u) {σ τ : jS} (h : xS σ τ u B Ln T W KN op)
    (hS : ∀ σ τ T W KN', KN ≤ KN' → xS σ τ u B Ln T W KN' op → xO (g_Rd_expression (dc + 3) 6 (nI op) σ) (g_M_primary (dm + 4) τ) σ τ u B Ln W KN' op) :
    xO (g_Rd_expression (dc + 4) 5 (nI op) σ) (g_M_product (dm + 5) τ) σ τ u B Ln W KN op := by
  rw [e_M_product, q_M_product_0]
  have sg : ∀ τ T, mdS τ B Ln T → T.1 ≤ 258 → ∀ c, (c = 42 ∨ c = 47 ∨ c = 37) → g_M_isSign (dm + 4) (nI c) τ = some (some (.int (b2i (T.1 = c))), τ) := fun τ T g gT c hc => m_isSign (dm + 3) c (by rcases hc with rfl | rfl | rfl <;> decide) (by omega) (by omega) τ g
  refine x_level dc dm hu 5 (by omega) (g_M_primary (dm + 4)) (b_M_product_1 (dm + 4)) (fun K => K = 42 ∨ K = 47 ∨ K = 37) h hS (fun σ K hK => c_joins5 _ σ K hK) (fun τ T g gT hj => ?_) (fun τ T g gT hj => ?_) (fun τ hf => m_product1F _ _ hf) (fun τ hf => m_primaryF _ _ hf) (fun K hK => ?_)
  · rw [q_M_product_1, show g_M_isSign (dm + 4) 42 τ = _ from sg τ T g gT 42 (by omega), rI_s]
    simp only [Option.bind_some]
    rw [b2i_f (fun z => hj (Or.inl z)), jif_t rfl, show g_M_isSign (dm + 4) 47 τ = _ from sg τ T g gT 47 (by omega), rI_s]
    simp only [Option.bind_some]
    rw [b2i_f (fun z => hj (Or.inr (Or.inl z))), jif_t rfl, show g_M_isSign (dm + 4) 37 τ = _ from sg τ T g gT 37 (by omega), rI_s]
    simp only [Option.bind_some]
    rw [b2i_f (fun z => hj (Or.inr (Or.inr z))), jif_t rfl, q_M_product_3]
  · have hj : T.1 = 42 ∨ T.1 = 47 ∨ T.1 = 37 := hj
    have hv : lw_cd (nI T.1) = τ.1 86 22 := by rw [lw_cd_sg (by omega) gT, (g.2.2.2.1.sg (by omega)).2]
    have st : b_M_product_1 (dm + 4) τ = b_M_product_2 (dm + 4) τ := by
      rw [q_M_product_1, show g_M_isSign (dm + 4) 42 τ = _ from sg τ T g gT 42 (by omega), rI_s]
      simp only [Option.bind_some]
      by_cases e : T.1 = 42
      · rw [b2i_t e, jif_f (by decide)]
      · rw [b2i_f e, jif_t rfl, show g_M_isSign (dm + 4) 47 τ = _ from sg τ T g gT 47 (by omega), rI_s]
        simp only [Option.bind_some]
        by_cases e2 : T.1 = 47
        · rw [b2i_t e2, jif_f (by decide)]
        · rw [b2i_f e2, jif_t rfl, show g_M_isSign (dm + 4) 37 τ = _ from sg τ T g gT 37 (by omega), rI_s]
          simp only [Option.bind_some]
          rw [b2i_t ((hj.resolve_left e).resolve_left e2), jif_f (by decide)]
    rw [st, q_M_product_2, hv]
  · have hK : K = 42 ∨ K = 47 ∨ K = 37 := hK
    rcases hK with rfl | rfl | rfl <;> (unfold lw_op; decide)
