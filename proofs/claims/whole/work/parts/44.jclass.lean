/-! Journeys: how the cells hold them; what the class does in an hour. -/
theorem jif_and {a b : Prop} {X Y : jR} : jif a (jif b X Y) Y = jif (a ∧ b) X Y := by
  by_cases h : a
  · rw [jif_t h]
    by_cases q : b
    · rw [jif_t q, jif_t ⟨h, q⟩]
    · rw [jif_f q, jif_f (fun z => q z.2)]
  · rw [jif_f h, jif_f (fun z => h z.1)]
def cJ (σ : jS) (j : Nat) (P : jQ) (J : jJ) : Prop := σ.1 j 0 = nI J.hr ∧ (∀ p, p < P.A → σ.1 (j + 1) p = J.pu p) ∧ (∀ p, p < P.A → σ.1 (j + 2) p = nI (J.tu p)) ∧ (∀ k, k < P.N → σ.1 (j + 6) k = nI (J.st k)) ∧ (∀ k, k < P.N → σ.1 (j + 7) k = nI (J.lf k)) ∧ (∀ k, k < P.N → σ.1 (j + 8) k = nI (J.hd k)) ∧ (∀ k, k < P.N → σ.1 (j + 9) k = J.wo k)
def mJ (σ : jS) (h : Nat) (P : jQ) (J : jJ) : Prop := σ.1 107 h = nI J.hr ∧ (∀ p, p < P.A → σ.1 108 (10 * h + p) = J.pu p) ∧ (∀ p, p < P.A → σ.1 109 (10 * h + p) = nI (J.tu p)) ∧ (∀ k, k < P.N → σ.1 110 (30 * h + k) = nI (J.st k)) ∧ (∀ k, k < P.N → σ.1 111 (30 * h + k) = nI (J.lf k)) ∧ (∀ k, k < P.N → σ.1 112 (30 * h + k) = nI (J.hd k)) ∧ (∀ k, k < P.N → σ.1 113 (30 * h + k) = J.wo k)
theorem cJ.spu {σ : jS} {j : Nat} {P : jQ} {J : jJ} {x : Nat} {v : Int32} (h : cJ σ j P J) : cJ (j_setI σ (j + 1) x (v)) j P (jmk J.hr (jup J.pu x v) J.tu J.st J.lf J.hd J.wo) := by
  obtain ⟨a0, a1, a2, a3, a4, a5, a6⟩ := h
  refine ⟨by rw [setI_ne (by omega)]; exact a0, fun q hq => ?_, fun q hq => by rw [setI_ne (by omega)]; exact a2 q hq, fun q hq => by rw [setI_ne (by omega)]; exact a3 q hq, fun q hq => by rw [setI_ne (by omega)]; exact a4 q hq, fun q hq => by rw [setI_ne (by omega)]; exact a5 q hq, fun q hq => by rw [setI_ne (by omega)]; exact a6 q hq⟩
  show _ = jup J.pu x v q
  by_cases e : q = x
  · subst e; rw [setI_same, jup_s]
  · rw [setI_nk e, jup_n e]; exact a1 q hq
theorem mJ.spu {σ : jS} {h : Nat} {P : jQ} {J : jJ} {x : Nat} {v : Int32} (g : mJ σ h P J) : mJ (j_setI σ 108 (10 * h + x) (v)) h P (jmk J.hr (jup J.pu x v) J.tu J.st J.lf J.hd J.wo) := by
  obtain ⟨a0, a1, a2, a3, a4, a5, a6⟩ := g
  refine ⟨by rw [setI_ne (by omega)]; exact a0, fun q hq => ?_, fun q hq => by rw [setI_ne (by omega)]; exact a2 q hq, fun q hq => by rw [setI_ne (by omega)]; exact a3 q hq, fun q hq => by rw [setI_ne (by omega)]; exact a4 q hq, fun q hq => by rw [setI_ne (by omega)]; exact a5 q hq, fun q hq => by rw [setI_ne (by omega)]; exact a6 q hq⟩
  show _ = jup J.pu x v q
  by_cases e : q = x
  · subst e; rw [setI_same, jup_s]
  · rw [setI_nk (by omega), jup_n e]; exact a1 q hq
theorem cJ.stu {σ : jS} {j : Nat} {P : jQ} {J : jJ} {x : Nat} {v : Nat} (h : cJ σ j P J) : cJ (j_setI σ (j + 2) x (nI v)) j P (jmk J.hr J.pu (jup J.tu x v) J.st J.lf J.hd J.wo) := by
  obtain ⟨a0, a1, a2, a3, a4, a5, a6⟩ := h
  refine ⟨by rw [setI_ne (by omega)]; exact a0, fun q hq => by rw [setI_ne (by omega)]; exact a1 q hq, fun q hq => ?_, fun q hq => by rw [setI_ne (by omega)]; exact a3 q hq, fun q hq => by rw [setI_ne (by omega)]; exact a4 q hq, fun q hq => by rw [setI_ne (by omega)]; exact a5 q hq, fun q hq => by rw [setI_ne (by omega)]; exact a6 q hq⟩
  show _ = nI (jup J.tu x v q)
  by_cases e : q = x
  · subst e; rw [setI_same, jup_s]
  · rw [setI_nk e, jup_n e]; exact a2 q hq
theorem mJ.stu {σ : jS} {h : Nat} {P : jQ} {J : jJ} {x : Nat} {v : Nat} (g : mJ σ h P J) : mJ (j_setI σ 109 (10 * h + x) (nI v)) h P (jmk J.hr J.pu (jup J.tu x v) J.st J.lf J.hd J.wo) := by
  obtain ⟨a0, a1, a2, a3, a4, a5, a6⟩ := g
  refine ⟨by rw [setI_ne (by omega)]; exact a0, fun q hq => by rw [setI_ne (by omega)]; exact a1 q hq, fun q hq => ?_, fun q hq => by rw [setI_ne (by omega)]; exact a3 q hq, fun q hq => by rw [setI_ne (by omega)]; exact a4 q hq, fun q hq => by rw [setI_ne (by omega)]; exact a5 q hq, fun q hq => by rw [setI_ne (by omega)]; exact a6 q hq⟩
  show _ = nI (jup J.tu x v q)
  by_cases e : q = x
  · subst e; rw [setI_same, jup_s]
  · rw [setI_nk (by omega), jup_n e]; exact a2 q hq
theorem cJ.sst {σ : jS} {j : Nat} {P : jQ} {J : jJ} {x : Nat} {v : Nat} (h : cJ σ j P J) : cJ (j_setI σ (j + 6) x (nI v)) j P (jmk J.hr J.pu J.tu (jup J.st x v) J.lf J.hd J.wo) := by
  obtain ⟨a0, a1, a2, a3, a4, a5, a6⟩ := h
  refine ⟨by rw [setI_ne (by omega)]; exact a0, fun q hq => by rw [setI_ne (by omega)]; exact a1 q hq, fun q hq => by rw [setI_ne (by omega)]; exact a2 q hq, fun q hq => ?_, fun q hq => by rw [setI_ne (by omega)]; exact a4 q hq, fun q hq => by rw [setI_ne (by omega)]; exact a5 q hq, fun q hq => by rw [setI_ne (by omega)]; exact a6 q hq⟩
  show _ = nI (jup J.st x v q)
  by_cases e : q = x
  · subst e; rw [setI_same, jup_s]
  · rw [setI_nk e, jup_n e]; exact a3 q hq
theorem mJ.sst {σ : jS} {h : Nat} {P : jQ} {J : jJ} {x : Nat} {v : Nat} (g : mJ σ h P J) : mJ (j_setI σ 110 (30 * h + x) (nI v)) h P (jmk J.hr J.pu J.tu (jup J.st x v) J.lf J.hd J.wo) := by
  obtain ⟨a0, a1, a2, a3, a4, a5, a6⟩ := g
  refine ⟨by rw [setI_ne (by omega)]; exact a0, fun q hq => by rw [setI_ne (by omega)]; exact a1 q hq, fun q hq => by rw [setI_ne (by omega)]; exact a2 q hq, fun q hq => ?_, fun q hq => by rw [setI_ne (by omega)]; exact a4 q hq, fun q hq => by rw [setI_ne (by omega)]; exact a5 q hq, fun q hq => by rw [setI_ne (by omega)]; exact a6 q hq⟩
  show _ = nI (jup J.st x v q)
  by_cases e : q = x
  · subst e; rw [setI_same, jup_s]
  · rw [setI_nk (by omega), jup_n e]; exact a3 q hq
theorem cJ.slf {σ : jS} {j : Nat} {P : jQ} {J : jJ} {x : Nat} {v : Nat} (h : cJ σ j P J) : cJ (j_setI σ (j + 7) x (nI v)) j P (jmk J.hr J.pu J.tu J.st (jup J.lf x v) J.hd J.wo) := by
  obtain ⟨a0, a1, a2, a3, a4, a5, a6⟩ := h
  refine ⟨by rw [setI_ne (by omega)]; exact a0, fun q hq => by rw [setI_ne (by omega)]; exact a1 q hq, fun q hq => by rw [setI_ne (by omega)]; exact a2 q hq, fun q hq => by rw [setI_ne (by omega)]; exact a3 q hq, fun q hq => ?_, fun q hq => by rw [setI_ne (by omega)]; exact a5 q hq, fun q hq => by rw [setI_ne (by omega)]; exact a6 q hq⟩
  show _ = nI (jup J.lf x v q)
  by_cases e : q = x
  · subst e; rw [setI_same, jup_s]
  · rw [setI_nk e, jup_n e]; exact a4 q hq
theorem mJ.slf {σ : jS} {h : Nat} {P : jQ} {J : jJ} {x : Nat} {v : Nat} (g : mJ σ h P J) : mJ (j_setI σ 111 (30 * h + x) (nI v)) h P (jmk J.hr J.pu J.tu J.st (jup J.lf x v) J.hd J.wo) := by
  obtain ⟨a0, a1, a2, a3, a4, a5, a6⟩ := g
  refine ⟨by rw [setI_ne (by omega)]; exact a0, fun q hq => by rw [setI_ne (by omega)]; exact a1 q hq, fun q hq => by rw [setI_ne (by omega)]; exact a2 q hq, fun q hq => by rw [setI_ne (by omega)]; exact a3 q hq, fun q hq => ?_, fun q hq => by rw [setI_ne (by omega)]; exact a5 q hq, fun q hq => by rw [setI_ne (by omega)]; exact a6 q hq⟩
  show _ = nI (jup J.lf x v q)
  by_cases e : q = x
  · subst e; rw [setI_same, jup_s]
  · rw [setI_nk (by omega), jup_n e]; exact a4 q hq
theorem cJ.shd {σ : jS} {j : Nat} {P : jQ} {J : jJ} {x : Nat} {v : Nat} (h : cJ σ j P J) : cJ (j_setI σ (j + 8) x (nI v)) j P (jmk J.hr J.pu J.tu J.st J.lf (jup J.hd x v) J.wo) := by
  obtain ⟨a0, a1, a2, a3, a4, a5, a6⟩ := h
  refine ⟨by rw [setI_ne (by omega)]; exact a0, fun q hq => by rw [setI_ne (by omega)]; exact a1 q hq, fun q hq => by rw [setI_ne (by omega)]; exact a2 q hq, fun q hq => by rw [setI_ne (by omega)]; exact a3 q hq, fun q hq => by rw [setI_ne (by omega)]; exact a4 q hq, fun q hq => ?_, fun q hq => by rw [setI_ne (by omega)]; exact a6 q hq⟩
  show _ = nI (jup J.hd x v q)
  by_cases e : q = x
  · subst e; rw [setI_same, jup_s]
  · rw [setI_nk e, jup_n e]; exact a5 q hq
theorem mJ.shd {σ : jS} {h : Nat} {P : jQ} {J : jJ} {x : Nat} {v : Nat} (g : mJ σ h P J) : mJ (j_setI σ 112 (30 * h + x) (nI v)) h P (jmk J.hr J.pu J.tu J.st J.lf (jup J.hd x v) J.wo) := by
  obtain ⟨a0, a1, a2, a3, a4, a5, a6⟩ := g
  refine ⟨by rw [setI_ne (by omega)]; exact a0, fun q hq => by rw [setI_ne (by omega)]; exact a1 q hq, fun q hq => by rw [setI_ne (by omega)]; exact a2 q hq, fun q hq => by rw [setI_ne (by omega)]; exact a3 q hq, fun q hq => by rw [setI_ne (by omega)]; exact a4 q hq, fun q hq => ?_, fun q hq => by rw [setI_ne (by omega)]; exact a6 q hq⟩
  show _ = nI (jup J.hd x v q)
  by_cases e : q = x
  · subst e; rw [setI_same, jup_s]
  · rw [setI_nk (by omega), jup_n e]; exact a5 q hq
theorem cJ.swo {σ : jS} {j : Nat} {P : jQ} {J : jJ} {x : Nat} {v : Int32} (h : cJ σ j P J) : cJ (j_setI σ (j + 9) x (v)) j P (jmk J.hr J.pu J.tu J.st J.lf J.hd (jup J.wo x v)) := by
  obtain ⟨a0, a1, a2, a3, a4, a5, a6⟩ := h
  refine ⟨by rw [setI_ne (by omega)]; exact a0, fun q hq => by rw [setI_ne (by omega)]; exact a1 q hq, fun q hq => by rw [setI_ne (by omega)]; exact a2 q hq, fun q hq => by rw [setI_ne (by omega)]; exact a3 q hq, fun q hq => by rw [setI_ne (by omega)]; exact a4 q hq, fun q hq => by rw [setI_ne (by omega)]; exact a5 q hq, fun q hq => ?_⟩
  show _ = jup J.wo x v q
  by_cases e : q = x
  · subst e; rw [setI_same, jup_s]
  · rw [setI_nk e, jup_n e]; exact a6 q hq
theorem mJ.swo {σ : jS} {h : Nat} {P : jQ} {J : jJ} {x : Nat} {v : Int32} (g : mJ σ h P J) : mJ (j_setI σ 113 (30 * h + x) (v)) h P (jmk J.hr J.pu J.tu J.st J.lf J.hd (jup J.wo x v)) := by
  obtain ⟨a0, a1, a2, a3, a4, a5, a6⟩ := g
  refine ⟨by rw [setI_ne (by omega)]; exact a0, fun q hq => by rw [setI_ne (by omega)]; exact a1 q hq, fun q hq => by rw [setI_ne (by omega)]; exact a2 q hq, fun q hq => by rw [setI_ne (by omega)]; exact a3 q hq, fun q hq => by rw [setI_ne (by omega)]; exact a4 q hq, fun q hq => by rw [setI_ne (by omega)]; exact a5 q hq, fun q hq => ?_⟩
  show _ = jup J.wo x v q
  by_cases e : q = x
  · subst e; rw [setI_same, jup_s]
  · rw [setI_nk (by omega), jup_n e]; exact a6 q hq
theorem cJ.of {σ σ' : jS} {j : Nat} {P : jQ} {J : jJ} (h : cJ σ j P J) (e : ∀ i k, i ≤ 9 → (i = 0 → k = 0) → σ'.1 (j + i) k = σ.1 (j + i) k) : cJ σ' j P J := by
  obtain ⟨a0, a1, a2, a3, a4, a5, a6⟩ := h
  exact ⟨(e 0 0 (by omega) (fun _ => rfl)).trans a0, fun p hp => (e 1 p (by omega) (by omega)).trans (a1 p hp), fun p hp => (e 2 p (by omega) (by omega)).trans (a2 p hp), fun p hp => (e 6 p (by omega) (by omega)).trans (a3 p hp), fun p hp => (e 7 p (by omega) (by omega)).trans (a4 p hp), fun p hp => (e 8 p (by omega) (by omega)).trans (a5 p hp), fun p hp => (e 9 p (by omega) (by omega)).trans (a6 p hp)⟩
theorem mJ.of {σ σ' : jS} {h : Nat} {P : jQ} {J : jJ} (g : mJ σ h P J) (e : ∀ b k, 107 ≤ b → b ≤ 113 → (b = 107 → k = h) → σ'.1 b k = σ.1 b k) : mJ σ' h P J := by
  obtain ⟨a0, a1, a2, a3, a4, a5, a6⟩ := g
  exact ⟨(e 107 h (by omega) (by omega) (fun _ => rfl)).trans a0, fun p hp => (e 108 _ (by omega) (by omega) (by omega)).trans (a1 p hp), fun p hp => (e 109 _ (by omega) (by omega) (by omega)).trans (a2 p hp), fun p hp => (e 110 _ (by omega) (by omega) (by omega)).trans (a3 p hp), fun p hp => (e 111 _ (by omega) (by omega) (by omega)).trans (a4 p hp), fun p hp => (e 112 _ (by omega) (by omega) (by omega)).trans (a5 p hp), fun p hp => (e 113 _ (by omega) (by omega) (by omega)).trans (a6 p hp)⟩
/-- the age by which one is asked -/
def jAge (σ : jS) (t : Nat) (w : Int32) (p : Nat) : Int32 := if w = 1 then 0 else σ.1 (t + 2) p
/-- the parameters by the telling t and by what is otherwise (w, i) -/
def jPe (σ : jS) (t : Nat) (w i : Int32) (P : jQ) : Prop :=
  (∀ p, p < P.A → ∃ ws, ws ≤ 3 ∧ σ.1 (t + 4) p = nI ws ∧ P.mny p = (if w = 0 ∧ i = nI p then 0 else if w = 2 then min ws 1 else ws) ∧ ∀ u, u < ws → σ.1 (t + 5) (3 * p + u) = nI (P.hei p u)) ∧
  (∀ k, P.out k ↔ w = 5 ∧ i = nI k) ∧
  (∀ c p o n H, p < P.A → o < P.A → (P.od c p o n H ↔ c % 2 = 1 ∧ w ≠ 4 ∧ ((w = 3 ∧ i = nI p) ∨ lw_odd σ t 4 (nI c) (jAge σ t w p) (jAge σ t w o) (nI n) (nI H))))
theorem jPe.w {σ : jS} {t : Nat} {w i : Int32} {P : jQ} (h : jPe σ t w i P) : ∀ p, p < P.A → ∃ ws, ws ≤ 3 ∧ σ.1 (t + 4) p = nI ws ∧ P.mny p = (if w = 0 ∧ i = nI p then 0 else if w = 2 then min ws 1 else ws) ∧ P.mny p ≤ ws ∧ ∀ u, u < ws → σ.1 (t + 5) (3 * p + u) = nI (P.hei p u) := fun p hp => by
  obtain ⟨ws, h1, h2, h3, h4⟩ := h.1 p hp
  refine ⟨ws, h1, h2, h3, ?_, h4⟩
  rw [h3]
  by_cases a : w = 0 ∧ i = nI p
  · rw [if_pos a]; omega
  · rw [if_neg a]
    by_cases b : w = 2
    · rw [if_pos b]; omega
    · rw [if_neg b]; omega
theorem jPe.of {σ σ' : jS} {t : Nat} {w i : Int32} {P : jQ} (h : jPe σ t w i P) (e2 : σ'.1 (t + 2) = σ.1 (t + 2)) (e4 : σ'.1 (t + 4) = σ.1 (t + 4)) (e5 : σ'.1 (t + 5) = σ.1 (t + 5)) (hE : lawE t σ σ') : jPe σ' t w i P := by
  obtain ⟨a, b, c⟩ := h
  refine ⟨by rw [e4, e5]; exact a, b, fun x p o n H hp ho => ?_⟩
  rw [c x p o n H hp ho]
  have ea : ∀ q, jAge σ' t w q = jAge σ t w q := fun q => by unfold jAge; rw [e2]
  rw [ea, ea, hE.odd]
theorem jPe.i {σ : jS} {t : Nat} {i : Int32} {P : jQ} (h : jPe σ t (-1) i P) (i' : Int32) : jPe σ t (-1) i' P := by
  obtain ⟨a, b, c⟩ := h
  refine ⟨fun p hp => ?_, fun k => ?_, fun x p o n H hp ho => ?_⟩
  · obtain ⟨ws, h1, h2, h3, h4⟩ := a p hp
    refine ⟨ws, h1, h2, ?_, h4⟩
    rw [h3, if_neg (fun q : (-1 : Int32) = 0 ∧ i = nI p => absurd q.1 (by decide)), if_neg (fun q : (-1 : Int32) = 0 ∧ i' = nI p => absurd q.1 (by decide))]
  · rw [b k]
    exact ⟨fun q => absurd q.1 (by decide), fun q => absurd q.1 (by decide)⟩
  · rw [c x p o n H hp ho]
    have h3 : ¬ (-1 : Int32) = 3 := by decide
    exact ⟨fun q => ⟨q.1, q.2.1, q.2.2.elim (fun z => absurd z.1 h3) Or.inr⟩, fun q => ⟨q.1, q.2.1, q.2.2.elim (fun z => absurd z.1 h3) Or.inr⟩⟩
/-- where the class's journey at j goes -/
def cE (σ : jS) (j t : Nat) (w i : Int32) (P : jQ) : Prop := σ.2.2 j 11 = t ∧ σ.1 j 12 = w ∧ σ.1 j 13 = i ∧ σ.1 j 3 = nI P.N ∧ σ.1 t 0 = nI P.A ∧ laW σ t 4 ∧ (∀ k, k < P.N → σ.1 (j + 3) k = nI (P.fr k) ∧ σ.1 (j + 4) k = nI (P.wh k) ∧ σ.1 (j + 5) k = nI (P.du k)) ∧ jPe σ t w i P
def cj_S (j t : Nat) : Nat → Nat → Prop := fun b k => (b = j ∧ k = 0) ∨ b = j + 1 ∨ b = j + 2 ∨ b = j + 6 ∨ b = j + 7 ∨ b = j + 8 ∨ b = j + 9 ∨ b = t + 15 ∨ b = t + 16
theorem cj_noT {j t i : Nat} (hj : jJo j) (ht : jTe t) (hi : i ≤ 14) (k : Nat) : ¬ cj_S j t (t + i) k := by
  intro q
  unfold cj_S at q
  rcases hj with rfl | rfl | rfl <;> rcases ht with rfl | rfl <;> omega
theorem cj_noJ {j t i k : Nat} (hj : jJo j) (ht : jTe t) (hi : (i = 0 ∧ k ≠ 0) ∨ (3 ≤ i ∧ i ≤ 5)) : ¬ cj_S j t (j + i) k := by
  intro q
  unfold cj_S at q
  rcases hj with rfl | rfl | rfl <;> rcases ht with rfl | rfl <;> omega
theorem cE.fr {σ σ' : jS} {j t : Nat} {w i : Int32} {P : jQ} (hj : jJo j) (ht : jTe t) (h : jep (cj_S j t) σ σ') (g : cE σ j t w i P) : cE σ' j t w i P := by
  have cT : ∀ i, i ≤ 14 → σ'.1 (t + i) = σ.1 (t + i) := fun i hi => h.cellI (cj_noT hj ht hi)
  have cJ' : ∀ i, 3 ≤ i ∧ i ≤ 5 → σ'.1 (j + i) = σ.1 (j + i) := fun i hi => h.cellI (fun k => cj_noJ hj ht (Or.inr hi))
  have c0 : ∀ k, k ≠ 0 → σ'.1 j k = σ.1 j k := fun k hk => (h (j + 0) k (cj_noJ hj ht (Or.inl ⟨rfl, hk⟩))).1
  have cR : σ'.2.2 j 11 = σ.2.2 j 11 := (h (j + 0) 11 (cj_noJ hj ht (Or.inl ⟨rfl, by omega⟩))).2.2
  have hE : lawE t σ σ' := ⟨cT 10 (by omega), cT 11 (by omega), cT 12 (by omega), cT 13 (by omega), cT 14 (by omega)⟩
  have t0 : σ'.1 t = σ.1 t := cT 0 (by omega)
  obtain ⟨g1, g2, g3, g4, g5, g6, g7, g8⟩ := g
  refine ⟨by rw [cR]; exact g1, by rw [c0 12 (by omega)]; exact g2, by rw [c0 13 (by omega)]; exact g3, by rw [c0 3 (by omega)]; exact g4, by rw [t0]; exact g5, hE.W g6, fun k hk => ?_, g8.of (cT 2 (by omega)) (cT 4 (by omega)) (cT 5 (by omega)) hE⟩
  rw [cJ' 3 (by omega), cJ' 4 (by omega), cJ' 5 (by omega)]
  exact g7 k hk
theorem c_isPersonT (d : Nat) {t A : Nat} (ht : jTe t) (x : Int32) (σ : jS) (h : σ.1 t 0 = nI A) (hA : A ≤ 10) : g_Te_isPerson (d + 2) t x σ = some (some (.int (b2i (0 ≤ x ∧ x < nI A))), σ) := by
  rw [e_Te_isPerson, q_Te_isPerson_0, (te_is ht).1, jc_t, h, c_within, rI_s]
  simp only [Option.bind_some]
  by_cases q : 0 ≤ x ∧ x ≤ nI A - 1
  · rw [if_pos q, b2i_t ⟨q.1, (le_pred (by omega)).mp q.2⟩]; rfl
  · rw [if_neg q, b2i_f (fun z => q ⟨z.1, (le_pred (by omega)).mpr z.2⟩)]; rfl
theorem nI_min1 (n : Nat) (hn : n < 2 ^ 31) : (if (1 : Int32) < nI n then 1 else nI n) = nI (min n 1) := by
  by_cases h : 1 < n
  · rw [if_pos (show (1 : Int32) < nI n from nI_lt h hn), Nat.min_eq_right (by omega)]; rfl
  · rw [if_neg (show ¬ (1 : Int32) < nI n from nI_nlt (a := 1) (b := n) (by omega) (by omega)), Nat.min_eq_left (by omega)]
theorem c_waysOf (d : Nat) {σ : jS} {j t : Nat} {w i : Int32} {P : jQ} (hj : jJo j) (ht : jTe t) (hE : cE σ j t w i P) (hA : P.A ≤ 10) {p : Nat} (hp : p < P.A) : g_Jo_waysOf (d + 1) j (nI p) σ = some (some (.int (nI (P.mny p))), σ) := by
  obtain ⟨e1, e2, e3, e4, e5, e6, e7, e8⟩ := hE
  obtain ⟨ws, w1, w2, w3, -⟩ := e8.1 p hp
  rw [e_Jo_waysOf, q_Jo_waysOf_0, e1, (te_cr ht).2.2.2.1, rdI_ok (te_len ht).2.2.2.1 rfl (by omega) (by omega)]
  simp only [jo_is hj, (te_is ht).1, jc_t, Option.bind_some]
  rw [e2, e3, w2, jif_and, w3]
  by_cases h0 : w = 0 ∧ i = nI p
  · rw [jif_t h0, if_pos h0]; rfl
  · rw [jif_f h0, if_neg h0, q_Jo_waysOf_1, jo_is hj, jc_t, e2]
    by_cases h2 : w = 2
    · rw [jif_t h2, if_pos h2, q_Jo_waysOf_3, nI_min1 ws (by omega)]
    · rw [jif_f h2, if_neg h2, q_Jo_waysOf_2, q_Jo_waysOf_3]
theorem c_heirAt (d : Nat) {σ : jS} {t p u ws : Nat} (ht : jTe t) (hp : p < 10) (hw : σ.1 (t + 4) p = nI ws) (hws : ws ≤ 3) (hu : u < ws) : g_Te_heir (d + 2) t (nI p) (nI u) σ = some (some (.int (σ.1 (t + 5) (3 * p + u))), σ) := by
  rw [e_Te_heir, q_Te_heir_0, (te_is ht).1, jc_t, (te_cr ht).2.2.2.1, rdI_ok (te_len ht).2.2.2.1 rfl (by omega) (by omega)]
  simp only [Option.bind_some]
  rw [hw, c_within, rI_s]
  simp only [Option.bind_some]
  have hi : nI p * 3 + nI u = nI (3 * p + u) := by rw [show (3 : Int32) = nI 3 from rfl, pk_mul, nI_add, Nat.mul_comm]
  rw [if_pos ⟨nI_pos' (by omega), (le_pred (by omega)).mpr (nI_lt hu (by omega))⟩, jif_f (by decide), jc_t, (te_cr ht).2.2.2.2.1, hi, rdI_ok (te_len ht).2.2.2.2.1 rfl (by omega) (by omega)]
  simp only [Option.bind_some]
  rw [q_Te_heir_2]
theorem c_ageOfJ (d : Nat) {σ : jS} {j t : Nat} {w i : Int32} {P : jQ} (hj : jJo j) (ht : jTe t) (hE : cE σ j t w i P) (hA : P.A ≤ 10) {p : Nat} (hp : p < P.A) : g_Jo_ageOf (d + 3) j (nI p) σ = some (some (.int (jAge σ t w p)), σ) := by
  obtain ⟨e1, e2, e3, e4, e5, e6, e7, e8⟩ := hE
  rw [e_Jo_ageOf, q_Jo_ageOf_0, jo_is hj, jc_t, jc_t, e2, e1, (te_is ht).1, jc_t]
  unfold jAge
  by_cases h1 : w = 1
  · rw [jif_t h1, if_pos h1, q_Jo_ageOf_1, q_Jo_ageOf_3]
  · rw [jif_f h1, if_neg h1, c_isPersonT d ht _ σ e5 hA, rI_s]
    simp only [Option.bind_some]
    rw [b2i_t ⟨nI_pos' (by omega), nI_lt hp (by omega)⟩, jif_f (by decide), q_Jo_ageOf_2, jo_is hj, jc_t, e1, (te_is ht).1, jc_t, (te_cr ht).2.1, rdI_ok (te_len ht).2.1 rfl (by omega) (by omega)]
    simp only [Option.bind_some]
    rw [q_Jo_ageOf_3]
theorem nI_half {c : Nat} (hc : c < 2 ^ 31) : nI c / 2 = nI (c / 2) := pk_div (d := 2) hc (by omega) (by omega)
theorem nI_odd {c : Nat} (hc : c < 2 ^ 31) : (nI c - nI c / 2 * 2 = 0) ↔ c % 2 = 0 := by
  have : nI c - nI c / 2 * 2 = nI (c % 2) := pk_rem (a := c) (d := 2) hc (by omega) (by omega)
  rw [this]
  exact nI_eq (b := 0) (by omega) (by omega)
noncomputable def shr (c : Nat) (o : Prop) : Nat := @ite _ o (Classical.propDecidable _) (c / 2 + 1) (c / 2)
theorem c_shareOf (d : Nat) {σ : jS} {j t : Nat} {w i : Int32} {P : jQ} (hj : jJo j) (ht : jTe t) (hE : cE σ j t w i P) (hP : wfP P) {p k u c n H : Nat} (hp : p < P.A) (hk : k < P.N) (hu : u < P.mny p) (hc : c ≤ 99999) (h2 : σ.1 (j + 2) p = nI u) (h7 : σ.1 (j + 7) k = nI c) (h8 : σ.1 (j + 8) k = nI n) (h0 : σ.1 j 0 = nI H) :
    ∃ σ', g_Jo_shareOf (d + 4) j (nI p) (nI k) σ = some (some (.int (nI (shr c (P.od c p (P.hei p u) n H)))), σ') ∧ jeq (la_S t) σ σ' := by
  have hA := hP.A10
  have hN := hP.N30
  have hE' := hE
  obtain ⟨e1, e2, e3, e4, e5, e6, e7, e8⟩ := hE
  obtain ⟨ws, w1, w2, w3, w4, w5⟩ := e8.w p hp
  have ho := hP.hei p u hp hu
  have hod := e8.2.2 c p (P.hei p u) n H hp ho
  unfold shr
  rw [e_Jo_shareOf, q_Jo_shareOf_0, (jo_cr hj).2.2.2.2.2.2.1, rdI_ok (jo_len hj).2.2.2.2.2.2.1 rfl (by omega) (by omega)]
  simp only [jo_is hj, jc_t, Option.bind_some]
  rw [e2, h7, nI_half (by omega)]
  by_cases a4 : w = 4
  · rw [jif_t a4, if_neg (fun q => (hod.mp q).2.1 a4)]
    exact ⟨σ, rfl, jeq.rf⟩
  rw [jif_f a4, q_Jo_shareOf_1]
  simp only [jo_is hj, jc_t]
  rw [e2, e3, jif_and]
  by_cases a3 : w = 3 ∧ i = nI p
  · rw [jif_t a3, nI_half (by omega), pk_sub (by omega)]
    refine ⟨σ, ?_, jeq.rf⟩
    by_cases q : c % 2 = 1
    · rw [if_pos (hod.mpr ⟨q, a4, Or.inl a3⟩), show c - c / 2 = c / 2 + 1 by omega]
    · rw [if_neg (fun z => q (hod.mp z).1), show c - c / 2 = c / 2 by omega]
  rw [jif_f a3, q_Jo_shareOf_2]
  simp only [jo_is hj, jc_t]
  rw [c_ageOfJ d hj ht hE' hA hp, rI_s]
  simp only [Option.bind_some]
  rw [(jo_cr hj).2.1, rdI_ok (jo_len hj).2.1 rfl (by omega) (by omega)]
  simp only [Option.bind_some]
  rw [e1, (te_is ht).1, jc_t, h2, c_heirAt (d + 1) ht (by omega) w2 w1 (by omega), rI_s, w5 u (by omega)]
  simp only [Option.bind_some]
  rw [c_ageOfJ d hj ht hE' hA ho, rI_s]
  simp only [Option.bind_some]
  by_cases q : c % 2 = 0
  · rw [jif_t ((nI_odd (by omega)).mpr q), q_Jo_shareOf_3, q_Jo_shareOf_4, jif_t rfl, q_Jo_shareOf_5, q_Jo_shareOf_6, nI_half (by omega), if_neg (fun z => by have := (hod.mp z).1; omega)]
    exact ⟨σ, rfl, jeq.rf⟩
  rw [jif_f (fun z => q ((nI_odd (by omega)).mp z)), e1, (te_is ht).1, jc_t, (jo_cr hj).2.2.2.2.2.2.2.1, rdI_ok (jo_len hj).2.2.2.2.2.2.2.1 rfl (by omega) (by omega)]
  simp only [Option.bind_some]
  rw [(te_cr ht).2.2.2.2.2.2.2.2.2, (te_is ht).2, jc_t, h8, h0]
  obtain ⟨σ', g1, g2⟩ := c_oddStays d ht 4 (by omega) (nI c) (jAge σ t w p) (jAge σ t w (P.hei p u)) (nI n) (nI H) σ e6
  rw [show (4 : Int32) = nI 4 from rfl, g1, rI_s]
  simp only [Option.bind_some]
  refine ⟨σ', ?_, g2⟩
  by_cases z : lw_odd σ t 4 (nI c) (jAge σ t w p) (jAge σ t w (P.hei p u)) (nI n) (nI H)
  · rw [b2i_t z, jif_f (by decide), q_Jo_shareOf_4, jif_f (by decide), q_Jo_shareOf_6, nI_half (by omega), nI_1, if_pos (hod.mpr ⟨by omega, a4, Or.inr z⟩)]
  · rw [b2i_f z, jif_t rfl, q_Jo_shareOf_3, q_Jo_shareOf_4, jif_t rfl, q_Jo_shareOf_5, q_Jo_shareOf_6, nI_half (by omega), if_neg (fun y => (hod.mp y).2.2.elim a3 z)]
