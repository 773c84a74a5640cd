/-! What touches only scratch keeps the invariant. -/
theorem jInv.scr {σ σ' : jS} {t : Nat} (h : jep (jScr t) σ σ') (g : jInv σ t) : jInv σ' t := by
  obtain ⟨ht, r2, r3, hT, hF, A, Pt, M, N, hte, hla, h36, hjo, hno, him⟩ := g
  have k : ∀ b j, ¬ jScr t b j → σ'.1 b j = σ.1 b j := fun b j q => (h b j q).1
  have kR : ∀ b j, ¬ jScr t b j → σ'.2.2 b j = σ.2.2 b j := fun b j q => (h b j q).2.2
  have kL : ∀ b j, ¬ jScr t b j → σ'.2.1 b j = σ.2.1 b j := fun b j q => (h b j q).2.1
  have cT : ∀ i, i ≤ 14 → σ'.1 (t + i) = σ.1 (t + i) := fun i hi => h.cellI (fun j q => by unfold jScr at q; rcases ht with rfl | rfl <;> omega)
  have c0 : σ'.1 t = σ.1 t := cT 0 (by omega)
  have cC : ∀ b, (b ≤ 1 ∨ b = 38 ∨ (39 ≤ b ∧ b ≤ 58) ∨ (78 ≤ b ∧ b ≤ 84) ∨ b = 87 ∨ (104 ≤ b ∧ b ≤ 106) ∨ (117 ≤ b ∧ b ≤ 121) ∨ (123 ≤ b ∧ b ≤ 125)) → σ'.1 b = σ.1 b := fun b hb => h.cellI (fun j q => by unfold jScr at q; rcases ht with rfl | rfl <;> omega)
  have m86 : ∀ j, (j = 2 ∨ j = 25 ∨ j = 26 ∨ (36 ≤ j ∧ j ≤ 48) ∨ 69 ≤ j) → σ'.1 86 j = σ.1 86 j := fun j hj => k 86 j (fun q => by unfold jScr at q; rcases ht with rfl | rfl <;> omega)
  have lo : ∀ b j, ((b = 88 ∧ j < 4) ∨ (89 ≤ b ∧ b ≤ 92 ∧ j < 10) ∨ (b = 93 ∧ j < 30) ∨ (94 ≤ b ∧ b ≤ 96 ∧ j < 12) ∨ (b = 97 ∧ j < 4) ∨ (b = 107 ∧ j ≠ 1) ∨ (108 ≤ b ∧ b ≤ 109 ∧ (j < 10 ∨ 20 ≤ j)) ∨ (110 ≤ b ∧ b ≤ 113 ∧ (j < 30 ∨ 60 ≤ j))) → σ'.1 b j = σ.1 b j := fun b j hb => k b j (fun q => by unfold jScr at q; rcases ht with rfl | rfl <;> omega)
  have jour : ∀ j hh N fr, (j = 39 ∧ hh = 0 ∧ fr = 104) ∨ (j = 49 ∧ hh = 2 ∧ fr = 123) → A ≤ 10 → iJour σ t A j hh N fr → iJour σ' t A j hh N fr := by
    intro j hh N fr hj hA10 g
    have cj : ∀ i, i ≤ 9 → σ'.1 (j + i) = σ.1 (j + i) := fun i hi => cC (j + i) (by omega)
    have cj0 : σ'.1 j = σ.1 j := cC j (by omega)
    have cf : ∀ i, i ≤ 2 → σ'.1 (fr + i) = σ.1 (fr + i) := fun i hi => cC (fr + i) (by omega)
    have cf0 : σ'.1 fr = σ.1 fr := cC fr (by omega)
    have rj : σ'.2.2 j 11 = σ.2.2 j 11 := kR j 11 (fun q => by unfold jScr at q; rcases ht with rfl | rfl <;> omega)
    obtain ⟨g1, g2, g3, g4, g5, g6, g7, g8⟩ := g
    refine ⟨g1, by rw [cj0]; exact g2, by rw [cj0, lo 107 hh (by omega)]; exact g3, by rw [cj0]; exact g4, by rw [rj]; exact g5, by rw [cj0]; exact g6, fun p hp => ?_, fun q hq => ?_⟩
    · rw [cj 1 (by omega), cj 2 (by omega), lo 108 (10 * hh + p) (by omega), lo 109 (10 * hh + p) (by omega), cT 4 (by omega)]
      exact g7 p hp
    · rw [cj0, cj 3 (by omega), cj 4 (by omega), cj 5 (by omega), cj 6 (by omega), cj 7 (by omega), cj 8 (by omega), cj 9 (by omega), cf0, cf 1 (by omega), cf 2 (by omega), lo 110 (30 * hh + q) (by omega), lo 111 (30 * hh + q) (by omega), lo 112 (30 * hh + q) (by omega), lo 113 (30 * hh + q) (by omega)]
      exact g8 q hq
  have hA10 : A ≤ 10 := hte.1
  refine ⟨ht, ?_, ?_, ?_, ?_, A, Pt, M, N, ?_, ?_, ?_, ?_, ?_, ?_⟩
  · rw [kR 0 2 (fun q => by unfold jScr at q; rcases ht with rfl | rfl <;> omega)]; exact r2
  · rw [kR 0 3 (fun q => by unfold jScr at q; rcases ht with rfl | rfl <;> omega)]; exact r3
  · unfold iTape iWords
    rw [cC 38 (by omega), cC 0 (by omega), cC 1 (by omega), cC 87 (by omega), m86 2 (by omega)]
    exact hT
  · unfold iFault
    rw [cC 0 (by omega), m86 25 (by omega), m86 26 (by omega)]
    exact hF
  · obtain ⟨a1, a2, a3, a4, a5, a6, a7, a8, a9, a10, a11, a12, a13⟩ := hte
    refine ⟨a1, a2, a3, ?_, ?_, ?_, ?_, ?_, ?_, ?_, fun p hp => ?_, fun q hq => ?_, fun m hm => ?_⟩
    · rw [c0]; exact a4
    · rw [lo 88 0 (by omega)]; exact a5
    · rw [c0]; exact a6
    · rw [lo 88 1 (by omega)]; exact a7
    · rw [c0]; exact a8
    · rw [lo 88 2 (by omega)]; exact a9
    · rw [cT 10 (by omega), lo 88 3 (by omega)]; exact a10
    · rw [cT 1 (by omega), cT 2 (by omega), cT 3 (by omega), cT 4 (by omega), cT 5 (by omega), lo 89 p (by omega), lo 90 p (by omega), lo 91 p (by omega), lo 92 p (by omega)]
      obtain ⟨b1, b2, b3, b4, w, b5, b6, b7⟩ := a11 p hp
      refine ⟨b1, b2, b3, b4, w, b5, b6, fun u hu => ?_⟩
      rw [lo 93 (3 * p + u) (by omega)]
      exact b7 u hu
    · rw [cT 6 (by omega), cT 7 (by omega), cT 8 (by omega), lo 94 q (by omega), lo 95 q (by omega), lo 96 q (by omega)]
      exact a12 q hq
    · rw [cT 9 (by omega), lo 97 m (by omega)]
      exact a13 m hm
  · exact ⟨hla.1.scr ht h, fun m hm => (hla.2 m hm).scr ht h⟩
  · rw [m86 36 (by omega)]; exact h36
  · exact jour 39 0 N 104 (Or.inl ⟨rfl, rfl, rfl⟩) hA10 hjo
  · obtain ⟨S, s1, s2, s3, s4, s5, s6⟩ := hno
    refine ⟨S, s1, ?_, ?_, ?_, ?_, fun i hi => ?_⟩
    · rw [cC 78 (by omega)]; exact s2
    · rw [m86 69 (by omega)]; exact s3
    · rw [cC 78 (by omega), m86 70 (by omega)]; exact s4
    · rw [cC 78 (by omega)]; exact s5
    · have l80 : σ'.2.1 80 i = σ.2.1 80 i := kL 80 i (fun q => by unfold jScr at q; rcases ht with rfl | rfl <;> omega)
      have l118 : σ'.2.1 118 i = σ.2.1 118 i := kL 118 i (fun q => by unfold jScr at q; rcases ht with rfl | rfl <;> omega)
      rw [cC 79 (by omega), cC 81 (by omega), cC 82 (by omega), cC 83 (by omega), cC 84 (by omega), cC 117 (by omega), cC 119 (by omega), cC 120 (by omega), cC 121 (by omega), l80, l118]
      exact s6 i hi
  · obtain ⟨i1, i2⟩ := him
    refine ⟨by rw [cC 0 (by omega), m86 48 (by omega)]; exact i1, ?_⟩
    rw [cC 0 (by omega)]
    rcases i2 with i2 | ⟨i2, N', i3, i4⟩
    · exact Or.inl i2
    · exact Or.inr ⟨i2, N', by rw [m86 47 (by omega)]; exact i3, jour 49 2 N' 123 (Or.inr ⟨rfl, rfl, rfl⟩) hA10 i4⟩
