/-! The invariant's pieces, each by the places that it speaks of. -/
def tapeP : Nat → Nat → Prop := fun b j => b = 1 ∨ b = 87 ∨ (b = 0 ∧ j = 1) ∨ (b = 86 ∧ j = 2) ∨ b = 38
theorem iTape.fr {S : Nat → Nat → Prop} {σ σ' : jS} (h : jep S σ σ') (hS : ∀ b j, tapeP b j → ¬ S b j) (g : iTape σ) : iTape σ' := by
  have c1 : σ'.1 1 = σ.1 1 := h.cellI (fun j => hS 1 j (Or.inl rfl))
  have c2 : σ'.1 87 = σ.1 87 := h.cellI (fun j => hS 87 j (Or.inr (Or.inl rfl)))
  have c38 : σ'.1 38 = σ.1 38 := h.cellI (fun j => hS 38 j (by unfold tapeP; omega))
  unfold iTape iWords
  rw [c38, c1, c2, (h 0 1 (hS 0 1 (by unfold tapeP; omega))).1, (h 86 2 (hS 86 2 (by unfold tapeP; omega))).1]
  exact g
def faultP : Nat → Nat → Prop := fun b j => (b = 0 ∧ (j = 5 ∨ j = 6)) ∨ (b = 86 ∧ (j = 25 ∨ j = 26))
theorem iFault.fr {S : Nat → Nat → Prop} {σ σ' : jS} (h : jep S σ σ') (hS : ∀ b j, faultP b j → ¬ S b j) (g : iFault σ) : iFault σ' := by
  unfold iFault
  rw [(h 0 5 (hS 0 5 (Or.inl ⟨rfl, Or.inl rfl⟩))).1, (h 0 6 (hS 0 6 (Or.inl ⟨rfl, Or.inr rfl⟩))).1, (h 86 25 (hS 86 25 (Or.inr ⟨rfl, Or.inl rfl⟩))).1, (h 86 26 (hS 86 26 (Or.inr ⟨rfl, Or.inr rfl⟩))).1]
  exact g
def tellP (t : Nat) : Nat → Nat → Prop := fun b j => (t ≤ b ∧ b ≤ t + 9) ∨ (b = t + 10 ∧ j = 0) ∨ (b = 88 ∧ j < 4) ∨ (89 ≤ b ∧ b ≤ 92 ∧ j < 10) ∨ (b = 93 ∧ j < 30) ∨ (94 ≤ b ∧ b ≤ 96 ∧ j < 12) ∨ (b = 97 ∧ j < 4)
theorem iTell.fr {S : Nat → Nat → Prop} {σ σ' : jS} {t A Pt M : Nat} (h : jep S σ σ') (hS : ∀ b j, tellP t b j → ¬ S b j) (g : iTell σ t A Pt M) : iTell σ' t A Pt M := by
  have cT : ∀ i, i ≤ 9 → σ'.1 (t + i) = σ.1 (t + i) := fun i hi => h.cellI (fun j => hS _ j (Or.inl ⟨by omega, by omega⟩))
  have c0 : σ'.1 t = σ.1 t := cT 0 (by omega)
  have k10 : σ'.1 (t + 10) 0 = σ.1 (t + 10) 0 := (h _ _ (hS _ _ (Or.inr (Or.inl ⟨rfl, rfl⟩)))).1
  have k88 : ∀ j, j < 4 → σ'.1 88 j = σ.1 88 j := fun j hj => (h _ _ (hS _ _ (Or.inr (Or.inr (Or.inl ⟨rfl, hj⟩))))).1
  have k89 : ∀ b j, 89 ≤ b → b ≤ 92 → j < 10 → σ'.1 b j = σ.1 b j := fun b j h1 h2 hj => (h _ _ (hS _ _ (Or.inr (Or.inr (Or.inr (Or.inl ⟨h1, h2, hj⟩)))))).1
  have k93 : ∀ j, j < 30 → σ'.1 93 j = σ.1 93 j := fun j hj => (h _ _ (hS _ _ (Or.inr (Or.inr (Or.inr (Or.inr (Or.inl ⟨rfl, hj⟩))))))).1
  have k94 : ∀ b j, 94 ≤ b → b ≤ 96 → j < 12 → σ'.1 b j = σ.1 b j := fun b j h1 h2 hj => (h _ _ (hS _ _ (Or.inr (Or.inr (Or.inr (Or.inr (Or.inr (Or.inl ⟨h1, h2, hj⟩)))))))).1
  have k97 : ∀ j, j < 4 → σ'.1 97 j = σ.1 97 j := fun j hj => (h _ _ (hS _ _ (Or.inr (Or.inr (Or.inr (Or.inr (Or.inr (Or.inr ⟨rfl, hj⟩)))))))).1
  obtain ⟨a1, a2, a3, a4, a5, a6, a7, a8, a9, a10, a11, a12, a13⟩ := g
  refine ⟨a1, a2, a3, ?_, ?_, ?_, ?_, ?_, ?_, ?_, fun p hp => ?_, fun q hq => ?_, fun m hm => ?_⟩
  · rw [c0]; exact a4
  · rw [k88 0 (by omega)]; exact a5
  · rw [c0]; exact a6
  · rw [k88 1 (by omega)]; exact a7
  · rw [c0]; exact a8
  · rw [k88 2 (by omega)]; exact a9
  · rw [k10, k88 3 (by omega)]; exact a10
  · rw [cT 1 (by omega), cT 2 (by omega), cT 3 (by omega), cT 4 (by omega), cT 5 (by omega), k89 89 p (by omega) (by omega) (by omega), k89 90 p (by omega) (by omega) (by omega), k89 91 p (by omega) (by omega) (by omega), k89 92 p (by omega) (by omega) (by omega)]
    obtain ⟨b1, b2, b3, b4, w, b5, b6, b7⟩ := a11 p hp
    exact ⟨b1, b2, b3, b4, w, b5, b6, fun u hu => by rw [k93 (3 * p + u) (by omega)]; exact b7 u hu⟩
  · rw [cT 6 (by omega), cT 7 (by omega), cT 8 (by omega), k94 94 q (by omega) (by omega) (by omega), k94 95 q (by omega) (by omega) (by omega), k94 96 q (by omega) (by omega) (by omega)]
    exact a12 q hq
  · rw [cT 9 (by omega), k97 m (by omega)]
    exact a13 m hm
def lawP (t : Nat) : Nat → Nat → Prop := fun b j => (t + 10 ≤ b ∧ b ≤ t + 14) ∨ (98 ≤ b ∧ b ≤ 99 ∧ j < 5) ∨ (100 ≤ b ∧ b ≤ 101 ∧ j < 64)
theorem lawR.fr {S : Nat → Nat → Prop} {σ σ' : jS} {t L Ls : Nat} (h : jep S σ σ') (hS : ∀ b j, lawP t b j → ¬ S b j) (g : lawR σ t L Ls) : lawR σ' t L Ls := by
  have hE : lawE t σ σ' := lawE.of_jep h (fun b j h1 h2 => hS b j (Or.inl ⟨h1, h2⟩))
  have e98 : ∀ b j, 98 ≤ b → b ≤ 99 → j < 5 → σ'.1 b j = σ.1 b j := fun b j h1 h2 hj => (h b j (hS _ _ (Or.inr (Or.inl ⟨h1, h2, hj⟩)))).1
  have e100 : ∀ b j, 100 ≤ b → b ≤ 101 → j < 64 → σ'.1 b j = σ.1 b j := fun b j h1 h2 hj => (h b j (hS _ _ (Or.inr (Or.inr ⟨h1, h2, hj⟩)))).1
  obtain ⟨h1, h2, g⟩ := g
  refine ⟨h1, h2, ?_⟩
  rw [hE.1, hE.2.1, hE.2.2.1, hE.2.2.2.1, hE.2.2.2.2, e98 98 Ls (by omega) (by omega) h1, e98 99 Ls (by omega) (by omega) h1]
  rcases g with g | ⟨g1, s, e, a1, a2, a3, a4, a5, a6, a7, a8⟩
  · exact Or.inl g
  · exact Or.inr ⟨g1, s, e, a1, a2, a3, a4, a5, a6, a7, fun j j1 j2 => by rw [e100 100 j (by omega) (by omega) (by omega), e100 101 j (by omega) (by omega) (by omega)]; exact a8 j j1 j2⟩
theorem iLaw.fr {S : Nat → Nat → Prop} {σ σ' : jS} {t M : Nat} (h : jep S σ σ') (hS : ∀ b j, lawP t b j → ¬ S b j) (g : iLaw σ t M) : iLaw σ' t M := ⟨g.1.fr h hS, fun m hm => (g.2 m hm).fr h hS⟩
def jourP (t j hh fr : Nat) : Nat → Nat → Prop := fun b k => (j ≤ b ∧ b ≤ j + 9) ∨ b = t + 4 ∨ (fr ≤ b ∧ b ≤ fr + 2) ∨ (b = 107 ∧ k = hh) ∨ (108 ≤ b ∧ b ≤ 109 ∧ 10 * hh ≤ k ∧ k < 10 * hh + 10) ∨ (110 ≤ b ∧ b ≤ 113 ∧ 30 * hh ≤ k ∧ k < 30 * hh + 30)
theorem iJour.fr {S : Nat → Nat → Prop} {σ σ' : jS} {t A j hh N fr : Nat} (h : jep S σ σ') (hS : ∀ b k, jourP t j hh fr b k → ¬ S b k) (hA : A ≤ 10) (g : iJour σ t A j hh N fr) : iJour σ' t A j hh N fr := by
  have cj : ∀ i, i ≤ 9 → σ'.1 (j + i) = σ.1 (j + i) := fun i hi => h.cellI (fun k => hS _ k (Or.inl ⟨by omega, by omega⟩))
  have cj0 : σ'.1 j = σ.1 j := cj 0 (by omega)
  have cf : ∀ i, i ≤ 2 → σ'.1 (fr + i) = σ.1 (fr + i) := fun i hi => h.cellI (fun k => hS _ k (Or.inr (Or.inr (Or.inl ⟨by omega, by omega⟩))))
  have cf0 : σ'.1 fr = σ.1 fr := cf 0 (by omega)
  have c4 : σ'.1 (t + 4) = σ.1 (t + 4) := h.cellI (fun k => hS _ k (Or.inr (Or.inl rfl)))
  have rj : σ'.2.2 j 11 = σ.2.2 j 11 := (h _ _ (hS j 11 (Or.inl ⟨by omega, by omega⟩))).2.2
  have k107 : σ'.1 107 hh = σ.1 107 hh := (h _ _ (hS 107 hh (Or.inr (Or.inr (Or.inr (Or.inl ⟨rfl, rfl⟩)))))).1
  have k108 : ∀ b k, 108 ≤ b → b ≤ 109 → k < 10 → σ'.1 b (10 * hh + k) = σ.1 b (10 * hh + k) := fun b k h1 h2 hk => (h _ _ (hS _ _ (Or.inr (Or.inr (Or.inr (Or.inr (Or.inl ⟨h1, h2, by omega, by omega⟩))))))).1
  have k110 : ∀ b k, 110 ≤ b → b ≤ 113 → k < 30 → σ'.1 b (30 * hh + k) = σ.1 b (30 * hh + k) := fun b k h1 h2 hk => (h _ _ (hS _ _ (Or.inr (Or.inr (Or.inr (Or.inr (Or.inr ⟨h1, h2, by omega, by omega⟩))))))).1
  obtain ⟨g1, g2, g3, g4, g5, g6, g7, g8⟩ := g
  refine ⟨g1, by rw [cj0]; exact g2, by rw [cj0, k107]; exact g3, by rw [cj0]; exact g4, by rw [rj]; exact g5, by rw [cj0]; exact g6, fun p hp => ?_, fun q hq => ?_⟩
  · rw [cj 1 (by omega), cj 2 (by omega), k108 108 p (by omega) (by omega) (by omega), k108 109 p (by omega) (by omega) (by omega), c4]
    exact g7 p hp
  · rw [cj0, cj 3 (by omega), cj 4 (by omega), cj 5 (by omega), cj 6 (by omega), cj 7 (by omega), cj 8 (by omega), cj 9 (by omega), cf0, cf 1 (by omega), cf 2 (by omega), k110 110 q (by omega) (by omega) (by omega), k110 111 q (by omega) (by omega) (by omega), k110 112 q (by omega) (by omega) (by omega), k110 113 q (by omega) (by omega) (by omega)]
    exact g8 q hq
def noteP : Nat → Nat → Prop := fun b j => (78 ≤ b ∧ b ≤ 84) ∨ (117 ≤ b ∧ b ≤ 121) ∨ (b = 86 ∧ (j = 69 ∨ j = 70))
theorem iNote.fr {S : Nat → Nat → Prop} {σ σ' : jS} {A : Nat} (h : jep S σ σ') (hS : ∀ b k, noteP b k → ¬ S b k) (g : iNote σ A) : iNote σ' A := by
  have cC : ∀ b, (78 ≤ b ∧ b ≤ 84) ∨ (117 ≤ b ∧ b ≤ 121) → σ'.1 b = σ.1 b := fun b hb => h.cellI (fun k => hS _ k (hb.elim Or.inl (fun z => Or.inr (Or.inl z))))
  have cL : ∀ b, (78 ≤ b ∧ b ≤ 84) ∨ (117 ≤ b ∧ b ≤ 121) → σ'.2.1 b = σ.2.1 b := fun b hb => h.cellL (fun k => hS _ k (hb.elim Or.inl (fun z => Or.inr (Or.inl z))))
  have m69 : σ'.1 86 69 = σ.1 86 69 := (h _ _ (hS 86 69 (Or.inr (Or.inr ⟨rfl, Or.inl rfl⟩)))).1
  have m70 : σ'.1 86 70 = σ.1 86 70 := (h _ _ (hS 86 70 (Or.inr (Or.inr ⟨rfl, Or.inr rfl⟩)))).1
  unfold iNote
  rw [cC 78 (by omega), cC 79 (by omega), cC 81 (by omega), cC 82 (by omega), cC 83 (by omega), cC 84 (by omega), cC 117 (by omega), cC 119 (by omega), cC 120 (by omega), cC 121 (by omega), cL 80 (by omega), cL 118 (by omega), m69, m70]
  exact g
def imgP (t : Nat) : Nat → Nat → Prop := fun b j => jourP t 49 2 123 b j ∨ (b = 0 ∧ j = 9) ∨ (b = 86 ∧ (j = 47 ∨ j = 48))
theorem iImg.fr {S : Nat → Nat → Prop} {σ σ' : jS} {t A : Nat} (h : jep S σ σ') (hS : ∀ b k, imgP t b k → ¬ S b k) (hA : A ≤ 10) (g : iImg σ t A) : iImg σ' t A := by
  have e9 : σ'.1 0 9 = σ.1 0 9 := (h _ _ (hS 0 9 (Or.inr (Or.inl ⟨rfl, rfl⟩)))).1
  have e47 : σ'.1 86 47 = σ.1 86 47 := (h _ _ (hS 86 47 (Or.inr (Or.inr ⟨rfl, Or.inl rfl⟩)))).1
  have e48 : σ'.1 86 48 = σ.1 86 48 := (h _ _ (hS 86 48 (Or.inr (Or.inr ⟨rfl, Or.inr rfl⟩)))).1
  obtain ⟨i1, i2⟩ := g
  refine ⟨by rw [e9, e48]; exact i1, ?_⟩
  rw [e9]
  rcases i2 with i2 | ⟨i2, N', i3, i4⟩
  · exact Or.inl i2
  · exact Or.inr ⟨i2, N', by rw [e47]; exact i3, i4.fr h (fun b k q => hS b k (Or.inl q)) hA⟩
