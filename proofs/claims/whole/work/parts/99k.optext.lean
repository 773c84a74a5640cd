/-! 1: text, the call. -/
/-- all that is told, at the end of a text that is read well -/
theorem jInv_text {t u A Pt M W : Nat} {σ1 σ2 τ1 τ2 : jS} (ht : jTe t) (hu : u = 21 - t) (hW : iWords σ2) (hT : rT σ1 τ1 u A Pt M) (hL : rLw σ1 τ1 u M W)
    (hc : ∀ b j, u ≤ b → b ≤ u + 14 → τ2.1 b j = σ1.1 b j) (hc2 : ∀ b j, b < 86 → τ2.1 b j = σ2.1 b j ∧ τ2.2.2 b j = σ2.2.2 b j)
    (s2 : σ2.2.2 0 2 = u) (s3 : σ2.2.2 0 3 = t) (s4 : σ2.1 0 5 = 0) (s5 : σ2.1 0 6 = -1) (s6 : σ2.1 0 9 = 0) (s7 : σ2.1 78 0 = 0) (s8 : σ2.1 78 1 = -1) (s9 : σ2.1 39 0 = 0) (s10 : σ2.1 39 3 = nI Pt) (s11 : σ2.2.2 39 11 = u) (s12 : σ2.1 39 12 = -1) (s13 : ∀ p, p < 10 → σ2.1 40 p = σ1.1 (u + 3) p ∧ σ2.1 41 p = 0) (s14 : ∀ k, k < Pt → σ2.1 42 k = σ1.1 (u + 6) k ∧ σ2.1 43 k = σ1.1 (u + 7) k ∧ σ2.1 44 k = σ1.1 (u + 8) k ∧ σ2.1 45 k = 0 ∧ σ2.1 46 k = 0 ∧ σ2.1 47 k = 0 ∧ σ2.1 48 k = -1) (s15 : σ2.1 0 1 = 0)
    (m2 : τ2.1 86 2 = 0) (m25 : τ2.1 86 25 = 0) (m26 : τ2.1 86 26 = -1) (m69 : τ2.1 86 69 = 0) (m70 : τ2.1 86 70 = -1) (m48 : τ2.1 86 48 = 0) (m36 : τ2.1 86 36 = nI Pt) (mh : ∀ b k, 88 ≤ b → b ≤ 101 → k < hlf b → τ2.1 b k = τ1.1 b (hlf b + k)) (mp : ∀ k, k < Pt → τ2.1 104 k = τ1.1 94 (12 + k) ∧ τ2.1 105 k = τ1.1 95 (12 + k) ∧ τ2.1 106 k = τ1.1 96 (12 + k)) (m107 : τ2.1 107 0 = 0) (m108 : ∀ p, p < A → τ2.1 108 p = τ1.1 91 (10 + p) ∧ τ2.1 109 p = 0) (m110 : ∀ k, k < 30 → τ2.1 110 k = 0 ∧ τ2.1 111 k = 0 ∧ τ2.1 112 k = 0 ∧ τ2.1 113 k = -1) : jInv τ2 u := by
  have hut : jTe u := by
    rcases ht with rfl | rfl
    · subst hu; exact Or.inr rfl
    · subst hu; exact Or.inl rfl
  have hr := te_r hut
  obtain ⟨h1, h2, h3, h4, h5, h6, h7, h8, h9, h10, h11, h12⟩ := hT
  obtain ⟨l1, l2, l3, l4, l5, l6, l7, l8, l9⟩ := hL
  have c11 : τ2.1 (u + 11) = σ1.1 (u + 11) := funext fun j => hc _ j (by omega) (by omega)
  have hA : ∀ b k, b = 89 ∨ b = 90 ∨ b = 91 ∨ b = 92 → k < 10 → τ2.1 b k = τ1.1 b (10 + k) := fun b k q hk => by
    rcases q with rfl | rfl | rfl | rfl
    · exact mh 89 k (by omega) (by omega) (show k < 10 from hk)
    · exact mh 90 k (by omega) (by omega) (show k < 10 from hk)
    · exact mh 91 k (by omega) (by omega) (show k < 10 from hk)
    · exact mh 92 k (by omega) (by omega) (show k < 10 from hk)
  have law : ∀ L Ls, L < 5 → Ls < 5 → (L = 4 → τ2.1 (u + 10) 1 = 1) → lawU σ1 τ1 u L Ls W → lawR τ2 u L Ls := fun L Ls hL hLs h0 g => by
    obtain ⟨s, e, a1, a2, a3, a4, a5, a6, a7⟩ := g
    refine ⟨hLs, hL, Or.inr ⟨h0, s, e, a1, by omega, by rw [hc _ _ (by omega) (by omega)]; exact a3, by rw [hc _ _ (by omega) (by omega)]; exact a4, ?_, ?_, by rw [c11]; exact a7, fun j j1 j2 => ?_⟩⟩
    · rw [mh 98 Ls (by omega) (by omega) (show Ls < 5 from hLs)]; exact a5
    · rw [mh 99 Ls (by omega) (by omega) (show Ls < 5 from hLs)]; exact a6
    · rw [hc _ _ (by omega) (by omega), hc _ _ (by omega) (by omega), mh 100 j (by omega) (by omega) (show j < 64 by omega), mh 101 j (by omega) (by omega) (show j < 64 by omega)]
      exact l7 j (by omega)
  refine ⟨hut, by rw [(hc2 0 2 (by omega)).2]; exact s2, by rw [(hc2 0 3 (by omega)).2, s3, hu]; rcases ht with rfl | rfl <;> rfl, ⟨fun i hi => by rw [(hc2 38 i (by omega)).1]; exact hW i hi, 0, by omega, by rw [(hc2 0 1 (by omega)).1, s15]; rfl, by rw [m2]; rfl, fun i hi => absurd hi (by omega)⟩, ⟨by rw [(hc2 0 5 (by omega)).1, s4, m25], by rw [(hc2 0 6 (by omega)).1, s5, m26]⟩, A, Pt, M, Pt, ?_, ⟨?_, fun m hm => ?_⟩, m36, ?_, ⟨0, by omega, by rw [(hc2 78 0 (by omega)).1, s7]; rfl, by rw [m69]; rfl, by rw [(hc2 78 1 (by omega)).1, s8, m70], Or.inl (by rw [(hc2 78 1 (by omega)).1, s8]), fun i hi => absurd hi (by omega)⟩, ⟨by rw [(hc2 0 9 (by omega)).1, s6, m48], Or.inl (by rw [(hc2 0 9 (by omega)).1, s6])⟩⟩
  · refine ⟨h1, h2, h3, by rw [hc _ _ (by omega) (by omega)]; exact h4, by rw [mh 88 0 (by omega) (by omega) (show 0 < 4 by omega)]; exact h5, by rw [hc _ _ (by omega) (by omega)]; exact h6, by rw [mh 88 1 (by omega) (by omega) (show 1 < 4 by omega)]; exact h7, by rw [hc _ _ (by omega) (by omega)]; exact h8, by rw [mh 88 2 (by omega) (by omega) (show 2 < 4 by omega)]; exact h9, by rw [hc _ _ (by omega) (by omega), mh 88 3 (by omega) (by omega) (show 3 < 4 by omega)]; exact l2.trans l5.symm, fun p hp => ?_, fun k hk => ?_, fun m hm => ?_⟩
    · obtain ⟨a1, a2, a3, a4, w, a5, a6, a7⟩ := h10 p hp
      refine ⟨by rw [hc _ _ (by omega) (by omega), hA 89 p (by omega) (by omega)]; exact a1, by rw [hc _ _ (by omega) (by omega), hA 90 p (by omega) (by omega)]; exact a2, by rw [hc _ _ (by omega) (by omega), hA 91 p (by omega) (by omega)]; exact a3, by rw [hc _ _ (by omega) (by omega), hA 92 p (by omega) (by omega)]; exact a4, w, a5, by rw [hc _ _ (by omega) (by omega)]; exact a6, fun x hx => ?_⟩
      rw [hc _ _ (by omega) (by omega), mh 93 (3 * p + x) (by omega) (by omega) (show 3 * p + x < 30 by omega)]
      exact a7 x hx
    · obtain ⟨a1, a2, a3, -⟩ := h11 k hk
      exact ⟨by rw [hc _ _ (by omega) (by omega), mh 94 k (by omega) (by omega) (show k < 12 by omega)]; exact a1, by rw [hc _ _ (by omega) (by omega), mh 95 k (by omega) (by omega) (show k < 12 by omega)]; exact a2, by rw [hc _ _ (by omega) (by omega), mh 96 k (by omega) (by omega) (show k < 12 by omega)]; exact a3⟩
    · rw [hc _ _ (by omega) (by omega), mh 97 m (by omega) (by omega) (show m < 4 by omega)]; exact h12 m hm
  · rcases l8 with ⟨a1, -, a3, a4⟩ | ⟨a1, -, a3⟩
    · exact ⟨by omega, by omega, Or.inl ⟨rfl, by rw [hc _ _ (by omega) (by omega)]; exact a1, by rw [mh 98 0 (by omega) (by omega) (show 0 < 5 by omega), mh 99 0 (by omega) (by omega) (show 0 < 5 by omega)]; exact a3.trans a4.symm⟩⟩
    · exact law 4 0 (by omega) (by omega) (fun _ => by rw [hc _ _ (by omega) (by omega)]; exact a1) a3
  · exact law m (1 + m) (by omega) (by omega) (fun q => by omega) (l9 m hm)
  · refine ⟨by omega, by rw [(hc2 39 3 (by omega)).1]; exact s10, by rw [(hc2 39 0 (by omega)).1, s9, m107], ⟨0, by omega, by rw [(hc2 39 0 (by omega)).1, s9]; rfl⟩, by rw [(hc2 39 11 (by omega)).2]; exact s11, by rw [(hc2 39 12 (by omega)).1]; exact s12, fun p hp => ?_, fun k hk => ?_⟩
    · obtain ⟨a1, a2, a3, a4, w, a5, a6, a7⟩ := h10 p hp
      obtain ⟨b1, b2⟩ := s13 p (by omega)
      obtain ⟨d1, d2⟩ := m108 p hp
      rw [(hc2 (39 + 1) p (by omega)).1, (hc2 (39 + 2) p (by omega)).1, show 10 * 0 + p = p by omega, d1, d2]
      exact ⟨b1.trans a3, b2, 0, w, b2, by rw [hc _ _ (by omega) (by omega)]; exact a6, by omega, a5, Or.inr rfl⟩
    · obtain ⟨a1, a2, a3, ⟨f, a4, a4'⟩, ⟨w, a5, a5', a5''⟩, ⟨hh, a6, a6'⟩⟩ := h11 k hk
      obtain ⟨b1, b2, b3, b4, b5, b6, b7⟩ := s14 k hk
      obtain ⟨d1, d2, d3⟩ := mp k hk
      obtain ⟨e1, e2, e3, e4⟩ := m110 k (by omega)
      rw [(hc2 (39 + 3) k (by omega)).1, (hc2 (39 + 4) k (by omega)).1, (hc2 (39 + 5) k (by omega)).1, (hc2 (39 + 6) k (by omega)).1, (hc2 (39 + 7) k (by omega)).1, (hc2 (39 + 8) k (by omega)).1, (hc2 (39 + 9) k (by omega)).1, show 30 * 0 + k = k by omega, d1, show τ2.1 (104 + 1) k = _ from d2, show τ2.1 (104 + 2) k = _ from d3, e1, e2, e3, e4]
      exact ⟨b1.trans a1, b2.trans a2, b3.trans a3, b4, b5, b6, b7, ⟨f, a4, b1.trans a4'⟩, ⟨w, a5, a5', b2.trans a5''⟩, ⟨hh, a6, b3.trans a6'⟩, Or.inl ⟨b4, b5⟩, 0, by omega, b6, fun _ => by omega⟩
/-- what may have changed where a text had a fault -/
def tf_S (u : Nat) : Nat → Nat → Prop := fun b j => tcS u b j ∨ tmS b j ∨ (b = 0 ∧ (j = 5 ∨ j = 6)) ∨ (b = 86 ∧ (j = 25 ∨ j = 26))
theorem lm_up {b j : Nat} (h : lmS b j) : (b = 86 ∧ 17 ≤ j ∧ j ≤ 29 ∧ j ≠ 25 ∧ j ≠ 26) ∨ (b = 88 ∧ 4 ≤ j) ∨ (89 ≤ b ∧ b ≤ 92 ∧ 10 ≤ j) ∨ (b = 93 ∧ 30 ≤ j) ∨ (94 ≤ b ∧ b ≤ 96 ∧ 12 ≤ j) ∨ (b = 97 ∧ 4 ≤ j) ∨ (98 ≤ b ∧ b ≤ 99 ∧ 5 ≤ j) ∨ (100 ≤ b ∧ b ≤ 101 ∧ 64 ≤ j) := by
  rcases h with h | ⟨h1, h2, h3⟩
  · exact Or.inl h
  · right
    rcases (show b = 88 ∨ b = 89 ∨ b = 90 ∨ b = 91 ∨ b = 92 ∨ b = 93 ∨ b = 94 ∨ b = 95 ∨ b = 96 ∨ b = 97 ∨ b = 98 ∨ b = 99 ∨ b = 100 ∨ b = 101 by omega) with rfl | rfl | rfl | rfl | rfl | rfl | rfl | rfl | rfl | rfl | rfl | rfl | rfl | rfl
    · exact Or.inl ⟨rfl, h3⟩
    · exact Or.inr (Or.inl ⟨by omega, by omega, h3⟩)
    · exact Or.inr (Or.inl ⟨by omega, by omega, h3⟩)
    · exact Or.inr (Or.inl ⟨by omega, by omega, h3⟩)
    · exact Or.inr (Or.inl ⟨by omega, by omega, h3⟩)
    · exact Or.inr (Or.inr (Or.inl ⟨rfl, h3⟩))
    · exact Or.inr (Or.inr (Or.inr (Or.inl ⟨by omega, by omega, h3⟩)))
    · exact Or.inr (Or.inr (Or.inr (Or.inl ⟨by omega, by omega, h3⟩)))
    · exact Or.inr (Or.inr (Or.inr (Or.inl ⟨by omega, by omega, h3⟩)))
    · exact Or.inr (Or.inr (Or.inr (Or.inr (Or.inl ⟨rfl, h3⟩))))
    · exact Or.inr (Or.inr (Or.inr (Or.inr (Or.inr (Or.inl ⟨by omega, by omega, h3⟩)))))
    · exact Or.inr (Or.inr (Or.inr (Or.inr (Or.inr (Or.inl ⟨by omega, by omega, h3⟩)))))
    · exact Or.inr (Or.inr (Or.inr (Or.inr (Or.inr (Or.inr ⟨by omega, by omega, h3⟩)))))
    · exact Or.inr (Or.inr (Or.inr (Or.inr (Or.inr (Or.inr ⟨by omega, by omega, h3⟩)))))
theorem tf_up {t b j : Nat} (ht : jTe t) (h : tf_S (21 - t) b j) : (b = 36 ∨ b = 37 ∨ (21 - t ≤ b ∧ b ≤ 35 - t)) ∨ (b = 0 ∧ (j = 1 ∨ j = 5 ∨ j = 6)) ∨ (b = 86 ∧ (j = 0 ∨ j = 2 ∨ (17 ≤ j ∧ j ≤ 29))) ∨ (b = 88 ∧ 4 ≤ j) ∨ (89 ≤ b ∧ b ≤ 92 ∧ 10 ≤ j) ∨ (b = 93 ∧ 30 ≤ j) ∨ (94 ≤ b ∧ b ≤ 96 ∧ 12 ≤ j) ∨ (b = 97 ∧ 4 ≤ j) ∨ (98 ≤ b ∧ b ≤ 99 ∧ 5 ≤ j) ∨ (100 ≤ b ∧ b ≤ 101 ∧ 64 ≤ j) := by
  rcases h with (h | h | h | h) | (h | h) | h | h
  · rcases h with h | h
    · left; unfold rd_S at h; omega
    · left; right; right; rcases ht with rfl | rfl <;> omega
  · right; left; omega
  · left; omega
  · left; omega
  · have := lm_up h
    rcases this with q | q | q | q | q | q | q | q
    · right; right; left; omega
    · right; right; right; left; omega
    · right; right; right; right; left; omega
    · right; right; right; right; right; left; omega
    · right; right; right; right; right; right; left; omega
    · right; right; right; right; right; right; right; left; omega
    · right; right; right; right; right; right; right; right; left; omega
    · right; right; right; right; right; right; right; right; right; omega
  · right; right; left; omega
  · right; left; omega
  · right; right; left; omega
theorem jInv.tf {σ σ' : jS} {t : Nat} (g : jInv σ t) (h : jep (tf_S (21 - t)) σ σ') (hT' : iTape σ') (hF' : iFault σ') : jInv σ' t := by
  obtain ⟨ht, r2, r3, hT, hF, A, Pt, M, N, hte, hla, h36, hjo, hno, him⟩ := g
  refine ⟨ht, ?_, ?_, hT', hF', A, Pt, M, N, hte.fr h ?_, hla.fr h ?_, ?_, hjo.fr h ?_ hte.1, hno.fr h ?_, him.fr h ?_ hte.1⟩
  · rw [(h 0 2 (fun q => by have := tf_up ht q; rcases ht with rfl | rfl <;> omega)).2.2]; exact r2
  · rw [(h 0 3 (fun q => by have := tf_up ht q; rcases ht with rfl | rfl <;> omega)).2.2]; exact r3
  · intro b j p q; have := tf_up ht q; unfold tellP at p; rcases ht with rfl | rfl <;> omega
  · intro b j p q; have := tf_up ht q; unfold lawP at p; rcases ht with rfl | rfl <;> omega
  · rw [(h 86 36 (fun q => by have := tf_up ht q; rcases ht with rfl | rfl <;> omega)).1]; exact h36
  · intro b j p q; have := tf_up ht q; unfold jourP at p; rcases ht with rfl | rfl <;> omega
  · intro b j p q; have := tf_up ht q; unfold noteP at p; rcases ht with rfl | rfl <;> omega
  · intro b j p q; have := tf_up ht q; unfold imgP jourP at p; rcases ht with rfl | rfl <;> omega
