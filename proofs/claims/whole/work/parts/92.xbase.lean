/-! Expressions: class (state σ) and reference (state τ) side by side; what one small step does to both. -/
theorem wf_app (kk : Nat → Int32) : ∀ (a b i dp : Nat), wf_r kk (a + b) i dp = (wf_r kk a i dp).bind fun e => wf_r kk b (i + a) e
  | 0, b, i, dp => by rw [Nat.zero_add]; rfl
  | a + 1, b, i, dp => by
    rw [show a + 1 + b = (a + b) + 1 by omega]
    show (wf_d (kk i) dp).bind _ = ((wf_d (kk i) dp).bind _).bind _
    cases wf_d (kk i) dp with
    | none => rfl
    | some e =>
      show wf_r kk (a + b) (i + 1) e = (wf_r kk a (i + 1) e).bind _
      rw [wf_app kk a b (i + 1) e, show i + (a + 1) = i + 1 + a by omega]
theorem wf_cg {kk ll : Nat → Int32} (c : Nat) : ∀ (i dp : Nat), (∀ j, i ≤ j → j < i + c → kk j = ll j) → wf_r kk c i dp = wf_r ll c i dp := by
  induction c with
  | zero => intro i dp h; rfl
  | succ c ih =>
    intro i dp h
    show (wf_d (kk i) dp).bind (fun e => wf_r kk c (i + 1) e) = (wf_d (ll i) dp).bind (fun e => wf_r ll c (i + 1) e)
    rw [h i (Nat.le_refl i) (by omega)]
    congr 1
    funext e
    exact ih (i + 1) e (fun j h1 h2 => h j (by omega) (by omega))
theorem wf_one (kk : Nat → Int32) (i dp : Nat) : wf_r kk 1 i dp = wf_d (kk i) dp := by
  show (wf_d (kk i) dp).bind _ = _
  cases wf_d (kk i) dp <;> rfl
theorem wf_d_op {k : Int32} {dp : Nat} (h : lw_op k) (hd : 2 ≤ dp) : wf_d k dp = some (dp - 1) := by
  unfold wf_d
  rw [if_neg, if_neg, if_pos ⟨h, hd⟩]
  · rintro ⟨rfl, -⟩
    unfold lw_op at h
    revert h; decide
  · rintro (q | rfl)
    · unfold lw_op at h
      rcases h with rfl | rfl | rfl | rfl | rfl | rfl | rfl | rfl | rfl | rfl | rfl | rfl | rfl <;> exact absurd q.2 (by decide)
    · unfold lw_op at h
      revert h; decide
theorem wf_d_not {dp : Nat} (hd : 1 ≤ dp) : wf_d 14 dp = some dp := by
  unfold wf_d
  rw [if_neg (by rintro (q | q) <;> revert q <;> decide), if_pos ⟨rfl, hd⟩]
theorem rdS.fr {σ σ' : jS} {u Ln : Nat} {B : Nat → Nat} {T : Tok} (h : rdS σ u B Ln T) (e : ∀ b j, b = 1 ∨ b = 38 ∨ b = 37 ∨ (b = 36 ∧ j ≤ 3) → σ'.1 b j = σ.1 b j ∧ σ'.2.2 b j = σ.2.2 b j) : rdS σ' u B Ln T := by
  obtain ⟨⟨h1, h2, h3, h4, h5, h6, h7, h8, h9⟩, hk, hu, h0, hn, hg⟩ := h
  have e1 : ∀ i, σ'.1 1 i = σ.1 1 i := fun i => (e 1 i (by omega)).1
  have e37 : ∀ i, σ'.1 37 i = σ.1 37 i := fun i => (e 37 i (by omega)).1
  refine ⟨⟨⟨h1.1, fun i hi => by rw [e1]; exact h1.2 i hi⟩, fun i hi => by rw [(e 38 i (by omega)).1]; exact h2 i hi, by rw [e37]; exact h3, by rw [e37]; exact h4, by rw [e37]; exact h5, by rw [e37]; exact h6, by rw [e37]; exact h7, h8, h9⟩, hk, ?_, ?_, ?_, hg⟩
  · rw [(e 36 3 (by omega)).2]; exact hu
  · rw [(e 36 0 (by omega)).1]; exact h0
  · rw [(e 36 1 (by omega)).1]; exact hn
theorem mdS.fr {τ τ' : jS} {Ln : Nat} {B : Nat → Nat} {T : Tok} (h : mdS τ B Ln T) (e : ∀ b j, b = 87 ∨ (b = 86 ∧ 18 ≤ j ∧ j ≤ 24) → τ'.1 b j = τ.1 b j) : mdS τ' B Ln T := by
  obtain ⟨⟨⟨a1, a2⟩, a3, a4⟩, h2, h3, h4, h5⟩ := h
  refine ⟨⟨⟨a1, fun i hi => by rw [e 87 i (by omega)]; exact a2 i hi⟩, by rw [e 86 18 (by omega)]; exact a3, by rw [e 86 19 (by omega)]; exact a4⟩, ⟨h2.1, by rw [e 86 24 (by omega)]; exact h2.2⟩, by rw [e 86 20 (by omega)]; exact h3, by rw [e 86 21 (by omega), e 86 22 (by omega)]; exact h4, by rw [e 86 23 (by omega)]; exact h5⟩
theorem te_r {u : Nat} (hu : jTe u) : 2 ≤ u ∧ u ≤ 19 := by rcases hu with rfl | rfl <;> omega
/-- what the reading of an expression writes, from W knots on -/
def xcS (u W : Nat) : Nat → Nat → Prop := fun b j => rd_S b j ∨ (b = u + 10 ∧ (j = 0 ∨ j = 2)) ∨ (b = u + 11 ∧ W ≤ j) ∨ (b = u + 12 ∧ W ≤ j)
def xmS (W : Nat) : Nat → Nat → Prop := fun b j => (b = 86 ∧ ((19 ≤ j ∧ j ≤ 24) ∨ j = 27 ∨ j = 28)) ∨ (b = 88 ∧ j = 7) ∨ (b = 100 ∧ 64 + W ≤ j) ∨ (b = 101 ∧ 64 + W ≤ j)
theorem xcS.m {u V W : Nat} (h : V ≤ W) : ∀ b j, xcS u W b j → xcS u V b j := fun b j q => by
  rcases q with q | q | q | q
  · exact Or.inl q
  · exact Or.inr (Or.inl q)
  · exact Or.inr (Or.inr (Or.inl ⟨q.1, Nat.le_trans h q.2⟩))
  · exact Or.inr (Or.inr (Or.inr ⟨q.1, Nat.le_trans h q.2⟩))
theorem xmS.m {V W : Nat} (h : V ≤ W) : ∀ b j, xmS W b j → xmS V b j := fun b j q => by
  rcases q with q | q | q | q
  · exact Or.inl q
  · exact Or.inr (Or.inl q)
  · exact Or.inr (Or.inr (Or.inl ⟨q.1, by omega⟩))
  · exact Or.inr (Or.inr (Or.inr ⟨q.1, by omega⟩))
/-- both read, at the same token T; W knots are written, KN counted, op '(' open -/
def xS (σ τ : jS) (u : Nat) (B : Nat → Nat) (Ln : Nat) (T : Tok) (W KN op : Nat) : Prop := rdS σ u B Ln T ∧ mdS τ B Ln T ∧ W ≤ KN ∧ KN ≤ 64 ∧ σ.1 (u + 10) 0 = nI KN ∧ τ.1 86 28 = nI KN ∧ σ.1 (u + 10) 2 = nI W ∧ τ.1 88 7 = nI W ∧ op ≤ 8 ∧ τ.1 86 27 = nI op
/-- from W0 on to W the written knots are the same, and leave one value more -/
def xP (σ τ : jS) (u W0 W : Nat) : Prop := W0 < W ∧ (∀ j, W0 ≤ j → j < W → tokR (σ.1 (u + 11) j) (σ.1 (u + 12) j) (τ.1 100 (64 + j)) (τ.1 101 (64 + j))) ∧ ∀ dp, wf_r (σ.1 (u + 11)) (W - W0) W0 dp = some (dp + 1)
/-- what comes of it: both read on, or both have the same fault -/
def xO (C M : jR) (σ τ : jS) (u : Nat) (B : Nat → Nat) (Ln W0 KN0 op : Nat) : Prop :=
  (∃ σ' τ' T' W', C = some (some (.int 1), σ') ∧ M = some (none, τ') ∧ jep (xcS u W0) σ σ' ∧ jep (xmS W0) τ τ' ∧ xS σ' τ' u B Ln T' W' (KN0 + (W' - W0)) op ∧ xP σ' τ' u W0 W') ∨
  (∃ σ' τ' k pl, C = some (some (.int 0), σ') ∧ M = some (none, τ') ∧ jep (xcS u W0) σ σ' ∧ jep (xmS W0) τ τ' ∧ 1 ≤ k ∧ k ≤ 5 ∧ rdF σ' k pl ∧ mdF τ' k pl)
theorem m_knot (d : Nat) {Ln KN : Nat} {B : Nat → Nat} {T : Tok} (τ : jS) (h : mdS τ B Ln T) (h28 : τ.1 86 28 = nI KN) (hk : KN < 64) : g_M_knot (d + 2) τ = some (none, j_setI τ 86 28 (nI (KN + 1))) := by
  rw [e_M_knot, q_M_knot_0, jif_t h.2.2.2.2, q_M_knot_1, h28, jif_f (fun z => by have := nI_inj (b := 64) (by omega) (by omega) z; omega), q_M_knot_2, q_M_knot_3, h28, nI_1]
theorem m_knotX (d : Nat) {Ln : Nat} {B : Nat → Nat} {T : Tok} (τ : jS) (h : mdS τ B Ln T) (h28 : τ.1 86 28 = nI 64) : ∃ τ', g_M_knot (d + 2) τ = some (none, τ') ∧ jep md_S τ τ' ∧ mdF τ' 2 T.2.1 := by
  obtain ⟨τ', q1, q2, q3⟩ := m_wrong d 2 τ h
  rw [e_M_knot, q_M_knot_0, jif_t h.2.2.2.2, q_M_knot_1, h28, jif_t (by decide), show g_M_wrong (d + 1) 2 τ = _ from q1, rV_s]
  simp only [Option.bind_some]
  rw [q_M_knot_3]
  exact ⟨τ', rfl, q2, q3⟩
theorem m_knotF (d : Nat) (τ : jS) (h : ¬ τ.1 86 23 = 0) : g_M_knot (d + 1) τ = some (none, τ) := by
  rw [e_M_knot, q_M_knot_0, jif_f h]
theorem m_putsF (d : Nat) (x y : Int32) (τ : jS) (h : ¬ τ.1 86 23 = 0) : g_M_puts (d + 1) x y τ = some (none, τ) := by
  rw [e_M_puts, q_M_puts_0, jif_f h]
theorem m_puts (d : Nat) {Ln W : Nat} {B : Nat → Nat} {T : Tok} (x y : Int32) (τ : jS) (h : mdS τ B Ln T) (hW : τ.1 88 7 = nI W) (hk : W < 64) : g_M_puts (d + 2) x y τ = some (none, j_setI (j_setI (j_setI τ 100 (64 + W) x) 101 (64 + W) y) 88 7 (nI (W + 1))) := by
  have f1 := m_fresher d 3 (by omega) τ
  have f2 := m_fresher d 3 (by omega) (j_setI τ 100 (64 + W) x)
  rw [show τ.1 88 (4 + 3) = nI W from hW] at f1
  rw [show (j_setI τ 100 (64 + W) x).1 88 (4 + 3) = nI W from (setI_ne (by decide)).trans hW] at f2
  rw [e_M_puts, q_M_puts_0, jif_t h.2.2.2.2, q_M_puts_1, show g_M_fresher (d + 1) 3 τ = _ from f1, rI_s]
  simp only [Option.bind_some]
  rw [show (64 : Int32) + nI W = nI (64 + W) from nI_add 64 W, wrI_ok (a := 100) (n := 128) rfl rfl (show 64 + W < 128 by omega) (by omega)]
  simp only [Option.bind_some]
  rw [show g_M_fresher (d + 1) 3 (j_setI τ 100 (64 + W) x) = _ from f2, rI_s]
  simp only [Option.bind_some]
  rw [show (64 : Int32) + nI W = nI (64 + W) from nI_add 64 W, wrI_ok (a := 101) (n := 128) rfl rfl (show 64 + W < 128 by omega) (by omega)]
  simp only [Option.bind_some]
  have f3 := m_oneMore d 3 W (by omega) (j_setI (j_setI τ 100 (64 + W) x) 101 (64 + W) y) (by rw [setI_ne (by decide), setI_ne (by decide)]; exact hW)
  rw [show g_M_oneMore (d + 1) 3 _ = _ from f3, rV_s]
  rfl
theorem c_write (d : Nat) {u W : Nat} (hu : jTe u) (k v : Int32) (σ : jS) (h2 : σ.1 (u + 10) 2 = nI W) (hW : W < 64) : g_La_write (d + 1) (u + 10) k v σ = some (none, j_setI (j_setI (j_setI σ (u + 11) W k) (u + 12) W v) (u + 10) 2 (nI (W + 1))) := by
  rw [e_La_write, q_La_write_0, (te_is hu).2, jc_t, h2, jif_f (show ¬ (64 : Int32) ≤ nI W from nI_ge (b := 64) hW (by omega)), jc_t, jc_t, (la_cr hu).1, wrI_ok (la_len hu).1 rfl hW (by omega)]
  simp only [Option.bind_some]
  rw [jc_t, jc_t, setI_ne (by omega), h2, (la_cr hu).2.1, wrI_ok (la_len hu).2.1 rfl hW (by omega)]
  simp only [Option.bind_some]
  rw [jc_t, jc_t, setI_ne (by omega), setI_ne (by omega), h2, q_La_write_1, nI_1]
