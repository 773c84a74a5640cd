/-! What ties the class's cells to the reference's, between two calls. t: the telling that stands. -/
/-- the words of the language, five bits a letter -/
def jWd (i : Nat) : Nat := [116701792, 41058304, 475811840, 180491840, 549489824, 284870656, 542723566, 559500448, 269947488, 686817280, 522190848, 538512556, 404455424, 438075392, 486146048, 48365568].getD i 0
def iWords (σ : jS) : Prop := ∀ i, i < 16 → σ.1 38 i = nI (jWd i)
def iTape (σ : jS) : Prop := iWords σ ∧ ∃ T, T ≤ 700 ∧ σ.1 0 1 = nI T ∧ σ.1 86 2 = nI T ∧ ∀ i, i < T → σ.1 1 i = σ.1 87 i ∧ ∃ b, b < 256 ∧ σ.1 1 i = nI b
def iFault (σ : jS) : Prop := σ.1 0 5 = σ.1 86 25 ∧ σ.1 0 6 = σ.1 86 26
/-- A people, Pt told parcels, M may -/
def iTell (σ : jS) (t A Pt M : Nat) : Prop := A ≤ 10 ∧ Pt ≤ 12 ∧ M ≤ 4 ∧ σ.1 t 0 = nI A ∧ σ.1 88 0 = nI A ∧ σ.1 t 6 = nI Pt ∧ σ.1 88 1 = nI Pt ∧ σ.1 t 10 = nI M ∧ σ.1 88 2 = nI M ∧ σ.1 (t + 10) 0 = σ.1 88 3 ∧
  (∀ p, p < A → σ.1 (t + 1) p = σ.1 89 p ∧ σ.1 (t + 2) p = σ.1 90 p ∧ σ.1 (t + 3) p = σ.1 91 p ∧ σ.1 (t + 4) p = σ.1 92 p ∧ ∃ w, w ≤ 3 ∧ σ.1 (t + 4) p = nI w ∧ ∀ u, u < w → σ.1 (t + 5) (3 * p + u) = σ.1 93 (3 * p + u) ∧ ∃ q, q < A ∧ σ.1 (t + 5) (3 * p + u) = nI q) ∧
  (∀ k, k < Pt → σ.1 (t + 6) k = σ.1 94 k ∧ σ.1 (t + 7) k = σ.1 95 k ∧ σ.1 (t + 8) k = σ.1 96 k) ∧
  (∀ m, m < M → σ.1 (t + 9) m = σ.1 97 m)
def iLaw (σ : jS) (t M : Nat) : Prop := lawR σ t 4 0 ∧ ∀ m, m < M → lawR σ t m (1 + m)
/-- a journey of the class at j and the house h of the reference; fr, wh, du: where the reference has its parcels' beginnings; N: how many they are -/
def iJour (σ : jS) (t A j h N fr : Nat) : Prop := N ≤ 30 ∧ σ.1 j 3 = nI N ∧ σ.1 j 0 = σ.1 107 h ∧ (∃ H, H ≤ 3000 ∧ σ.1 j 0 = nI H) ∧ σ.2.2 j 11 = t ∧ σ.1 j 12 = -1 ∧
  (∀ p, p < A → σ.1 (j + 1) p = σ.1 108 (10 * h + p) ∧ σ.1 (j + 2) p = σ.1 109 (10 * h + p) ∧ ∃ u w, σ.1 (j + 2) p = nI u ∧ σ.1 (t + 4) p = nI w ∧ u ≤ 3 ∧ w ≤ 3 ∧ (u < w ∨ u = 0)) ∧
  (∀ k, k < N → σ.1 (j + 3) k = σ.1 fr k ∧ σ.1 (j + 4) k = σ.1 (fr + 1) k ∧ σ.1 (j + 5) k = σ.1 (fr + 2) k ∧ σ.1 (j + 6) k = σ.1 110 (30 * h + k) ∧ σ.1 (j + 7) k = σ.1 111 (30 * h + k) ∧ σ.1 (j + 8) k = σ.1 112 (30 * h + k) ∧ σ.1 (j + 9) k = σ.1 113 (30 * h + k) ∧
    (∃ f, f < A ∧ σ.1 (j + 3) k = nI f) ∧ (∃ w, 1 ≤ w ∧ w ≤ 99999 ∧ σ.1 (j + 4) k = nI w) ∧ (∃ u, u ≤ 3000 ∧ σ.1 (j + 5) k = nI u) ∧
    ((σ.1 (j + 6) k = 0 ∧ σ.1 (j + 7) k = 0) ∨ (σ.1 (j + 6) k = 2 ∧ σ.1 (j + 7) k = 0) ∨ (σ.1 (j + 6) k = 1 ∧ σ.1 (j + 5) k < σ.1 j 0 ∧ (∃ q, q < A ∧ σ.1 (j + 9) k = nI q) ∧ (∃ l, 1 ≤ l ∧ l ≤ 99999 ∧ σ.1 (j + 7) k = nI l))) ∧ ∃ n, n ≤ 100 ∧ σ.1 (j + 8) k = nI n ∧ (¬ σ.1 (j + 6) k = 2 → n < 100))
def iNote (σ : jS) (A : Nat) : Prop := ∃ S, S ≤ 40 ∧ σ.1 78 0 = nI S ∧ σ.1 86 69 = nI S ∧ σ.1 78 1 = σ.1 86 70 ∧ (σ.1 78 1 = -1 ∨ ∃ q, q ≤ S ∧ σ.1 78 1 = nI q) ∧
  ∀ i, i < S → (σ.1 84 i = -1 ∧ σ.1 79 i = σ.1 117 i ∧ σ.2.1 80 i = σ.2.1 118 i ∧ σ.1 81 i = σ.1 119 i ∧ σ.1 82 i = σ.1 120 i ∧ σ.1 83 i = σ.1 121 i ∧ ∃ N, N < 2 ^ 64 ∧ σ.2.1 80 i = lN N ∧ rowOK N (σ.1 79 i) A) ∨ (∃ q, q < i ∧ σ.1 84 i = nI q ∧ σ.1 117 i = -1 ∧ σ.1 119 i = nI q)
/-- the image -/
def iImg (σ : jS) (t A : Nat) : Prop := σ.1 0 9 = σ.1 86 48 ∧ ((σ.1 0 9 = 0) ∨ (σ.1 0 9 = 1 ∧ ∃ N, σ.1 86 47 = nI N ∧ iJour σ t A 49 2 N 123))
/-- all of it -/
def jInv (σ : jS) (t : Nat) : Prop := jTe t ∧ σ.2.2 0 2 = t ∧ σ.2.2 0 3 = 21 - t ∧ iTape σ ∧ iFault σ ∧ ∃ A Pt M N, iTell σ t A Pt M ∧ iLaw σ t M ∧ σ.1 86 36 = nI N ∧ iJour σ t A 39 0 N 104 ∧ iNote σ A ∧ iImg σ t A
/-- places that no call looks at before it has written them: t' the spare telling -/
def jScr (t : Nat) : Nat → Nat → Prop := fun b j => b = t + 15 ∨ b = t + 16 ∨ (21 - t ≤ b ∧ b ≤ 37 - t) ∨ b = 36 ∨ b = 37 ∨ (59 ≤ b ∧ b ≤ 77) ∨ b = 85 ∨ b = 102 ∨ b = 103 ∨ b = 114 ∨ b = 115 ∨ b = 116 ∨ b = 122 ∨ b = 126 ∨ (b = 86 ∧ (j = 0 ∨ (17 ≤ j ∧ j ≤ 24) ∨ (27 ≤ j ∧ j ≤ 35) ∨ (49 ≤ j ∧ j ≤ 68))) ∨ (b = 88 ∧ 4 ≤ j) ∨ (b = 89 ∧ 10 ≤ j) ∨ (b = 90 ∧ 10 ≤ j) ∨ (b = 91 ∧ 10 ≤ j) ∨ (b = 92 ∧ 10 ≤ j) ∨ (b = 93 ∧ 30 ≤ j) ∨ (b = 94 ∧ 12 ≤ j) ∨ (b = 95 ∧ 12 ≤ j) ∨ (b = 96 ∧ 12 ≤ j) ∨ (b = 97 ∧ 4 ≤ j) ∨ (b = 98 ∧ 5 ≤ j) ∨ (b = 99 ∧ 5 ≤ j) ∨ (b = 100 ∧ 64 ≤ j) ∨ (b = 101 ∧ 64 ≤ j) ∨ (b = 107 ∧ j = 1) ∨ (b = 108 ∧ 10 ≤ j ∧ j < 20) ∨ (b = 109 ∧ 10 ≤ j ∧ j < 20) ∨ (110 ≤ b ∧ b ≤ 113 ∧ 30 ≤ j ∧ j < 60)
theorem lawR.scr {σ σ' : jS} {t L Ls : Nat} (ht : jTe t) (h : jep (jScr t) σ σ') (g : lawR σ t L Ls) : lawR σ' t L Ls := by
  have hE : lawE t σ σ' := by
    refine lawE.of_jep h (fun b j h1 h2 q => ?_)
    unfold jScr at q
    rcases ht with rfl | rfl <;> omega
  have e98 : ∀ j, j < 5 → σ'.1 98 j = σ.1 98 j := fun j hj => (h 98 j (fun q => by unfold jScr at q; rcases ht with rfl | rfl <;> omega)).1
  have e99 : ∀ j, j < 5 → σ'.1 99 j = σ.1 99 j := fun j hj => (h 99 j (fun q => by unfold jScr at q; rcases ht with rfl | rfl <;> omega)).1
  have e100 : ∀ j, j < 64 → σ'.1 100 j = σ.1 100 j := fun j hj => (h 100 j (fun q => by unfold jScr at q; rcases ht with rfl | rfl <;> omega)).1
  have e101 : ∀ j, j < 64 → σ'.1 101 j = σ.1 101 j := fun j hj => (h 101 j (fun q => by unfold jScr at q; rcases ht with rfl | rfl <;> omega)).1
  obtain ⟨h1, h2, g⟩ := g
  refine ⟨h1, h2, ?_⟩
  rw [hE.1, hE.2.1, hE.2.2.1, hE.2.2.2.1, hE.2.2.2.2, e98 Ls h1, e99 Ls h1]
  rcases g with g | ⟨g1, s, e, a1, a2, a3, a4, a5, a6, a7, a8⟩
  · exact Or.inl g
  · exact Or.inr ⟨g1, s, e, a1, a2, a3, a4, a5, a6, a7, fun j j1 j2 => by rw [e100 j (by omega), e101 j (by omega)]; exact a8 j j1 j2⟩
