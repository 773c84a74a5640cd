/-! Tokens, the reference's: words. -/
def WS : List Nat := jST.getD 2 []
def wc (j : Nat) : Nat := WS.getD j 0
def ws (i : Nat) : Nat := [0, 7, 13, 20, 24, 28, 34, 37, 40, 44, 48, 54, 58, 63, 69, 75, 80].getD i 0
def wl (i : Nat) : Nat := [6, 5, 6, 3, 3, 5, 2, 2, 3, 3, 5, 3, 4, 5, 5, 4].getD i 0
theorem ws_f : ∀ i, i < 16 → ws i + wl i < 80 ∧ wc (ws i + wl i) = 32 ∧ ws (i + 1) = ws i + wl i + 1 ∧ wl i ≤ 6 ∧ 2 ≤ wl i := by decide +kernel
theorem wc_f : ∀ i, i < 16 → ∀ j, j < 6 → j < wl i → ¬ wc (ws i + j) = 32 := by decide +kernel
theorem wc_lt : ∀ j, j < 80 → wc j < 128 := by decide +kernel
theorem cl_f : ∀ x, x < 128 → (nI x).toNatClampNeg = x ∧ ¬ nI x < 0 := by decide +kernel
theorem j_str2 : j_str 1002 = some WS := rfl
theorem WS_len : WS.length = 80 := by decide +kernel
def mtW (B : Nat → Nat) (pl e i : Nat) : Prop := e = pl + wl i ∧ ∀ j, j < wl i → B (pl + j) = wc (ws i + j)
theorem rd_W {α : Type} {x : Nat} (hx : x < 80) (f : Nat → Option α) : (if nI x < 0 ∨ WS.length ≤ (nI x).toNatClampNeg then none else f (WS.getD (nI x).toNatClampNeg 0)) = f (wc x) := by
  obtain ⟨h1, h2⟩ := cl_f x (by omega)
  rw [h1, WS_len, if_neg (fun z => by rcases z with z | z; exact h2 z; omega)]
  rfl
theorem m_word4 (d : Nat) {i : Nat} {l1 : Int32} (hi : i < 16) (σ : jS) : ∀ (n k : Nat), k + n = wl i → b_M_word_4 d l1 (nI (ws i + k)) σ = b_M_word_1 d (l1 + 1) (nI (ws (i + 1))) σ
  | 0, k, hk => by
    obtain ⟨f1, f2, f3, f4, f5⟩ := ws_f i hi
    rw [q_M_word_4, j_str2]
    simp only [Option.bind_some]
    rw [rd_W (show ws i + k < 80 by omega) (fun q => jif (Int32.ofNat q = 32) (b_M_word_5 d l1 (nI (ws i + k)) σ) (b_M_word_4 d l1 (nI (ws i + k) + 1) σ)), show ws i + k = ws i + wl i by omega, f2, jif_t (by decide), q_M_word_5, nI_1, f3]
  | n + 1, k, hk => by
    obtain ⟨f1, f2, f3, f4, f5⟩ := ws_f i hi
    have hn := wc_f i hi k (by omega) (by omega)
    have hl := wc_lt (ws i + k) (by omega)
    rw [q_M_word_4, j_str2]
    simp only [Option.bind_some]
    rw [rd_W (show ws i + k < 80 by omega) (fun q => jif (Int32.ofNat q = 32) (b_M_word_5 d l1 (nI (ws i + k)) σ) (b_M_word_4 d l1 (nI (ws i + k) + 1) σ)), jif_f (show ¬ Int32.ofNat (wc (ws i + k)) = 32 from fun z => hn ((nI_eq (a := wc (ws i + k)) (b := 32) (by omega) (by omega)).mp z)), nI_1]
    exact m_word4 d hi σ n (k + 1) (by omega)
theorem m_word3 (d : Nat) {i j : Nat} {l1 : Int32} (hi : i < 16) (hj : j ≤ wl i) {pl e : Nat} {σ : jS} (h19 : σ.1 86 19 = nI e) (h20 : σ.1 86 20 = nI pl) (hpl : pl ≤ 700) (he : e ≤ 700) : ((j = wl i ∧ pl + j = e) → b_M_word_3 d l1 (nI (ws i)) (nI j) σ = some (some (.int l1), σ)) ∧ (¬ (j = wl i ∧ pl + j = e) → b_M_word_3 d l1 (nI (ws i)) (nI j) σ = b_M_word_4 d l1 (nI (ws i)) σ) := by
  obtain ⟨f1, f2, f3, f4, f5⟩ := ws_f i hi
  have hl := wc_lt (ws i + j) (by omega)
  have ee : b_M_word_3 d l1 (nI (ws i)) (nI j) σ = jif (nI (wc (ws i + j)) = 32) (jif (nI (pl + j) = nI e) (some (some (.int l1), σ)) (b_M_word_4 d l1 (nI (ws i)) σ)) (b_M_word_4 d l1 (nI (ws i)) σ) := by
    rw [q_M_word_3, j_str2]
    simp only [Option.bind_some]
    rw [nI_add, h19, h20, nI_add]
    exact rd_W (show ws i + j < 80 by omega) (fun q => jif (Int32.ofNat q = 32) (jif (nI (pl + j) = nI e) (some (some (.int l1), σ)) (b_M_word_4 d l1 (nI (ws i)) σ)) (b_M_word_4 d l1 (nI (ws i)) σ))
  rw [ee]
  refine ⟨fun h => ?_, fun h => ?_⟩
  · rw [h.1, f2, jif_t (by decide), ← h.1, jif_t (congrArg nI h.2)]
  · by_cases q : j = wl i
    · rw [q, f2, jif_t (by decide), ← q, jif_f (fun z => h ⟨q, nI_inj (by omega) (by omega) z⟩)]
    · rw [jif_f (show ¬ nI (wc (ws i + j)) = 32 from fun z => wc_f i hi j (by omega) (by omega) ((nI_eq (b := 32) (by omega) (by omega)).mp z))]
theorem m_word2 (d : Nat) {i Ln pl e : Nat} {l1 : Int32} {B : Nat → Nat} (hi : i < 16) {σ : jS} (hM : MY σ B Ln e) (h20 : σ.1 86 20 = nI pl) (hpe : pl ≤ e) (heL : e ≤ Ln) : ∀ (n j : Nat), j + n = wl i → (∀ k, k < j → pl + k < e ∧ B (pl + k) = wc (ws i + k)) → (mtW B pl e i → b_M_word_2 d l1 (nI (ws i)) (nI j) σ = some (some (.int l1), σ)) ∧ (¬ mtW B pl e i → b_M_word_2 d l1 (nI (ws i)) (nI j) σ = b_M_word_4 d l1 (nI (ws i)) σ)
  | 0, j, hj, hk => by
    have hL := hM.1.1
    obtain ⟨f1, f2, f3, f4, f5⟩ := ws_f i hi
    obtain ⟨a1, a2⟩ := m_word3 d (l1 := l1) hi (show j ≤ wl i by omega) hM.2.2 h20 (by omega) (by omega)
    have ee : b_M_word_2 d l1 (nI (ws i)) (nI j) σ = b_M_word_3 d l1 (nI (ws i)) (nI j) σ := by
      rw [q_M_word_2, j_str2]
      simp only [Option.bind_some]
      rw [nI_add, show ws i + j = ws i + wl i by omega]
      obtain ⟨c1, c2⟩ := cl_f (ws i + wl i) (by omega)
      rw [c1, WS_len, if_neg (fun z => by rcases z with z | z; exact c2 z; omega), jif_t (show Int32.ofNat (WS.getD (ws i + wl i) 0) = 32 from congrArg nI f2)]
    rw [ee]
    refine ⟨fun h => a1 ⟨by omega, by have := h.1; omega⟩, fun h => a2 (fun z => h ⟨by omega, fun k hk2 => (hk k (by omega)).2⟩)⟩
  | n + 1, j, hj, hk => by
    have hL := hM.1.1
    obtain ⟨f1, f2, f3, f4, f5⟩ := ws_f i hi
    have hn := wc_f i hi j (by omega) (by omega)
    have hl := wc_lt (ws i + j) (by omega)
    obtain ⟨-, a2⟩ := m_word3 d (l1 := l1) hi (show j ≤ wl i by omega) hM.2.2 h20 (by omega) (by omega)
    have a3 := a2 (fun z => by omega)
    obtain ⟨c1, c2⟩ := cl_f (ws i + j) (by omega)
    rw [q_M_word_2, j_str2]
    simp only [Option.bind_some]
    rw [nI_add, c1, WS_len, if_neg (fun z => by rcases z with z | z; exact c2 z; omega), jif_f (show ¬ Int32.ofNat (WS.getD (ws i + j) 0) = 32 from fun z => hn ((nI_eq (a := wc (ws i + j)) (b := 32) (by omega) (by omega)).mp z)), hM.2.2, h20, nI_add]
    by_cases h : pl + j < e
    · obtain ⟨e1, e2⟩ := hM.1.2 (pl + j) (by omega)
      rw [jif_f (nI_ge (by omega) (by omega)), rdI_ok (a := 87) (n := 700) rfl rfl (show pl + j < 700 by omega) (by omega)]
      simp only [Option.bind_some]
      rw [e1, if_neg (fun z => by rcases z with z | z; exact c2 z; omega)]
      by_cases q : B (pl + j) = wc (ws i + j)
      · rw [jif_t (show nI (B (pl + j)) = Int32.ofNat (WS.getD (ws i + j) 0) from congrArg nI q), nI_1]
        exact m_word2 d hi hM h20 hpe heL n (j + 1) (by omega) (fun k hk2 => by
          by_cases z : k = j
          · subst z; exact ⟨h, q⟩
          · exact hk k (by omega))
      · rw [jif_f (show ¬ nI (B (pl + j)) = Int32.ofNat (WS.getD (ws i + j) 0) from fun z => q ((nI_eq (b := wc (ws i + j)) (by omega) (by omega)).mp z))]
        exact ⟨fun z => absurd (z.2 j (by omega)) q, fun _ => a3⟩
    · rw [jif_t (nI_le (by omega) (by omega))]
      exact ⟨fun z => absurd z.1 (by omega), fun _ => a3⟩
/-- the first of the language's words that stands there -/
noncomputable def rW (M : Nat → Prop) : Nat → Nat → Int32
  | 0, _ => -1
  | n + 1, i => @ite _ (M i) (Classical.propDecidable _) (nI i) (rW M n (i + 1))
theorem m_word_l (d : Nat) {Ln pl e : Nat} {B : Nat → Nat} {σ : jS} (hM : MY σ B Ln e) (h20 : σ.1 86 20 = nI pl) (hpe : pl ≤ e) (heL : e ≤ Ln) : ∀ (n i : Nat), i + n = 16 → b_M_word_1 d (nI i) (nI (ws i)) σ = some (some (.int (rW (mtW B pl e) n i)), σ)
  | 0, i, hi => by
    rw [q_M_word_1, j_str2]
    simp only [Option.bind_some]
    rw [show i = 16 by omega, jif_t (by decide +kernel), q_M_word_6]
    rfl
  | n + 1, i, hi => by
    obtain ⟨f1, f2, f3, f4, f5⟩ := ws_f i (by omega)
    obtain ⟨a1, a2⟩ := m_word2 d (l1 := nI i) (show i < 16 by omega) hM h20 hpe heL (wl i) 0 (by omega) (fun k hk => absurd hk (by omega))
    have e0 : b_M_word_2 d (nI i) (nI (ws i)) 0 σ = b_M_word_2 d (nI i) (nI (ws i)) (nI 0) σ := rfl
    rw [q_M_word_1, j_str2]
    simp only [Option.bind_some]
    rw [WS_len, jif_f (show ¬ Int32.ofNat 80 ≤ nI (ws i) from nI_ge (b := 80) (by omega) (by omega)), e0]
    unfold rW
    by_cases h : mtW B pl e i
    · rw [a1 h, if_pos h]
    · rw [a2 h, if_neg h]
      have := m_word4 d (l1 := nI i) (show i < 16 by omega) σ (wl i) 0 (by omega)
      rw [Nat.add_zero] at this
      rw [this, nI_1]
      exact m_word_l d hM h20 hpe heL n (i + 1) (by omega)
theorem m_word (d : Nat) {Ln pl e : Nat} {B : Nat → Nat} {σ : jS} (hM : MY σ B Ln e) (h20 : σ.1 86 20 = nI pl) (hpe : pl ≤ e) (heL : e ≤ Ln) : g_M_word (d + 1) σ = some (some (.int (rW (mtW B pl e) 16 0)), σ) := by
  rw [e_M_word, q_M_word_0]
  exact m_word_l d hM h20 hpe heL 16 0 (by omega)
