/-! Orders: a call's begin, on both sides. -/
def oc_S (t : Nat) : Nat → Nat → Prop := fun b _ => (71 ≤ b ∧ b ≤ 77) ∨ b = t + 15 ∨ b = t + 16
theorem oc_scr {t b j : Nat} (ht : jTe t) (h : oc_S t b j) : jScr t b j := by
  rcases h with h | h | h
  · exact tr_scr ht ⟨by omega, h.2⟩
  · exact Or.inl h
  · exact Or.inr (Or.inl h)
theorem gt_scr {t b j : Nat} (ht : jTe t) (h : gt_S b j) : jScr t b j := by
  rcases h with h | h | h | ⟨h, h1, h2⟩
  · exact Or.inr (Or.inr (Or.inr (Or.inr (Or.inr (Or.inr (Or.inr (Or.inr (Or.inr (Or.inl h)))))))))
  · exact Or.inr (Or.inr (Or.inr (Or.inr (Or.inr (Or.inr (Or.inr (Or.inr (Or.inr (Or.inr (Or.inr (Or.inl h)))))))))))
  · exact ms_scr ht h
  · exact Or.inr (Or.inr (Or.inr (Or.inr (Or.inr (Or.inr (Or.inr (Or.inr (Or.inr (Or.inr (Or.inr (Or.inr (Or.inr (Or.inr (Or.inl ⟨h, Or.inr (Or.inr (Or.inr ⟨by omega, h2⟩))⟩))))))))))))))
theorem cRow.fr {S : Nat → Nat → Prop} {σ σ' : jS} {k : Nat} {r : Nat → Nat} (h : jep S σ σ') (hS : ∀ b j, b = 69 ∨ b = 70 → ¬ S b j) (g : cRow σ k r) : cRow σ' k r := by
  obtain ⟨b1, b2, b3, b4⟩ := g
  exact ⟨b1, b2, by rw [(h 69 0 (hS 69 0 (Or.inl rfl))).1]; exact b3, fun j hj => by rw [(h 70 j (hS 70 j (Or.inr rfl))).1]; exact b4 j hj⟩
theorem ord_c (d : Nat) (n x : Int32) {N : Nat} (hN : N < 2 ^ 64) (σ : jS) (t : Nat) (g : jInv σ t) : ∃ A σ1, A ≤ 10 ∧ σ1.1 t 0 = nI A ∧ jInv σ1 t ∧ g_HH_isSent (d + 4) n (lN N) x σ = some (some (.int (b2i (rowOK N n A ∧ 0 ≤ x ∧ x ≤ 999999))), σ1) ∧ (rowOK N n A → ∃ k, n = nI k ∧ cRow σ1 k (nib N) ∧ rowP N k A) := by
  have ht := g.1
  obtain ⟨A, hA, a1, a2, a3⟩ := g.A
  obtain ⟨σ1, c1, c2, c3⟩ := c_isSent d ht n x hN hA σ g.2.1 a1
  refine ⟨A, σ1, hA, by rw [(c2 t 0 (fun q => by rcases ht with rfl | rfl <;> rcases q with q | q <;> omega)).1]; exact a1, g.scr (c2.mono (fun b j h => ct_scr ht h)), c1, fun q => ?_⟩
  obtain ⟨k, e, hR⟩ := c3 q
  obtain ⟨k', h1, h2, h3, h4⟩ := q
  have := hR.2.1
  have e2 : k' = k := nI_inj (by omega) (by omega) (h3.symm.trans e)
  subst e2
  exact ⟨k', e, hR, h4⟩
theorem ord_t (d : Nat) {t k A C N : Nat} (hA : A ≤ 10) (hC : C ≤ 999999) (σ1 : jS) (g1 : jInv σ1 t) (a1 : σ1.1 t 0 = nI A) (hR : cRow σ1 k (nib N)) (hP : rowP N k A) :
    ∃ σ2 car hm, g_Or_take (d + 6) t (nI C) σ1 = some (none, σ2) ∧ jep (oc_S t) σ1 σ2 ∧ cRow σ2 k (nib N) ∧ OE σ2 (k - 2) C car hm (stO σ1 t (k - 2) C car (nib N (k - 1))) ∧ carP k A (nib N) car hm := by
  have ht := g1.1
  obtain ⟨σ2, car, hm, p1, p2, p3, p4⟩ := c_takeO d ht hA hC hP.1 hP.2 σ1 a1 hR g1.law.W
  have S2 : jep (oc_S t) σ1 σ2 := p2.mono (fun b j q => by unfold to_S at q; unfold oc_S; omega)
  exact ⟨σ2, car, hm, p1, S2, hR.fr S2 (fun b j h q => by unfold oc_S at q; rcases ht with rfl | rfl <;> omega), p3, p4⟩
theorem ord_m (d : Nat) {t A N : Nat} (n x : Int32) (hN : N < 2 ^ 64) (hA : A ≤ 10) (σ1 σe : jS) (g1 : jInv σ1 t) (a1 : σ1.1 t 0 = nI A) (hS : jep (oc_S t) σ1 σe) :
    ∃ σ3 σ4, g_M_plain (d + 16) (j_setI σe 86 0 0) = some (none, σ3) ∧ jInv σ3 t ∧ g_M_takesSent (d + 16) n (lN N) x σ3 = some (some (.int (b2i (rowOK N n A ∧ 0 ≤ x ∧ x ≤ 999999))), σ4) ∧ jInv σ4 t ∧
      ∀ (k C : Nat) (car hm : Nat → Nat), n = nI k → x = nI C → 2 ≤ k → k ≤ 10 → C ≤ 999999 → rowP N k A → carP k A (nib N) car hm → rowOK N n A ∧ 0 ≤ x ∧ x ≤ 999999 → mRow σ4 k (nib N) ∧ ∀ (task w : Nat) (aim wt : Int32), task ≤ 1 → (task = 1 → w < k - 2 ∧ wt = nI (car w)) →
        ∃ σ5 b1 c1 b2 c2 c3 c4, g_M_goesThrough (d + 16) (nI C) aim (nI task) wt σ4 = some (none, σ5) ∧ jInv σ5 t ∧ mRow σ5 k (nib N) ∧ FS σ5 ((PL (k - 2) (k - 2) 0).foldl (seeF (vS σ1 t k C task w (nib N) car) (aS task w) (cS k (nib N) car) (hitS σ1 t k C (nib N) car aim) (farS k hm)) ((-1, b1, c1), (-1, b2, c2), (0, c3), (-1, c4))) := by
  have ht := g1.1
  have ge := g1.scr (hS.mono (fun b j h => oc_scr ht h))
  obtain ⟨σ3, q1, q2, q3, q4⟩ := m_plain0 (d + 15) σe
  have g3 := ge.scr (q2.mono (fun b j h => mp_scr ht h))
  have S3 : jep (fun b j => oc_S t b j ∨ mp_S b j) σ1 σ3 := (hS.mono (fun b j h => Or.inl h)).tr (q2.mono (fun b j h => Or.inr h))
  have no : ∀ b j, t ≤ b → b ≤ t + 14 → ¬ (oc_S t b j ∨ mp_S b j) := fun b j h1 h2 q => by
    unfold oc_S mp_S at q
    rcases ht with rfl | rfl <;> omega
  have E3 : lawE t σ1 σ3 := lawE.of_jep S3 (fun b j h1 h2 => no b j (by omega) h2)
  have e3 : σ3.1 (t + 2) = σ1.1 (t + 2) := S3.cellI (fun j => no _ j (by omega) (by omega))
  have t3 : σ3.1 t 0 = nI A := by rw [(S3 t 0 (no _ _ (by omega) (by omega))).1]; exact a1
  obtain ⟨A', hA', b1, b2, b3⟩ := g3.A
  have eA : A' = A := nI_inj (by omega) (by omega) (b1.symm.trans t3)
  subst eA
  obtain ⟨σ4, m1, m2, m3⟩ := m_takesSent (d + 13) n x hN hA σ3 b2
  have g4 := g3.scr (m2.mono (fun b j h => mt_scr ht h))
  have B3 : mB σ1 σ3 t A' := ⟨E3, e3, q3, fun p hp => by rw [b3 p hp, e3]⟩
  have B4 : mB σ1 σ4 t A' := B3.fr m2 (fun b j h q => by unfold mt_S at q; rcases ht with rfl | rfl <;> omega)
  have v32 : σ4.1 86 32 = nI 0 := by rw [(m2 86 32 (fun q => by unfold mt_S at q; omega)).1]; exact q4
  refine ⟨σ3, σ4, q1, g3, m1, g4, fun k C car hm en ex hk hk10 hC hP hcp hh => ?_⟩
  obtain ⟨k', e, hRm⟩ := m3 hh
  have := hRm.2.1
  have e2 : k = k' := nI_inj (by omega) (by omega) (en.symm.trans e)
  subst e2
  refine ⟨hRm, fun task w aim wt htk hwt => ?_⟩
  obtain ⟨σ5, b1, c1, b2, c2, c3, c4, r1, r2, r3, r4⟩ := m_goesThrough d (σc := σ1) (aim := aim) ht hk hk10 hA hC hcp hP.1 hP.2 htk hwt σ4 g4.law v32 B4 hRm
  exact ⟨σ5, b1, c1, b2, c2, c3, c4, r1, g4.scr (r2.mono (fun b j h => gt_scr ht h)), r3, r4⟩
/-- nobody in between keeps more than came -/
theorem AR_le {hd : Nat → Nat → Nat → Nat → Nat} {m : Nat} (hhd : ∀ p l x c, hd p l x c ≤ c) : ∀ (s : List Nat) (p l c : Nat), AR hd m p l c s ≤ c
  | [], p, l, c => hhd p l m c
  | x :: s, p, l, c => Nat.le_trans (AR_le hhd s (p + 1) x _) (hhd p l x c)
theorem hit_eq {σc : jS} {t k C T : Nat} {r car : Nat → Nat} (hC : C ≤ 999999) (hT : T < 2 ^ 31) : hitS σc t k C r car (nI T) = (fun s => AR (hdC σc t k C r car) (k - 2) 0 0 C s = T) := funext fun s => propext (by
  have := AR_le (hd := hdC σc t k C r car) (m := k - 2) (fun p l x c => hdO_le _ p l x c) s 0 0 C
  exact nI_eq (by omega) hT)
theorem IV_lt {ov : Nat → Nat → Nat} (hov : ∀ P x, ov P x ≤ 8) : ∀ (s : List Nat) (P : Nat), IV ov P s ≤ 8 * s.length
  | [], _ => Nat.zero_le _
  | x :: s, P => by
    have h1 := IV_lt hov s (P ||| 2 ^ x)
    have h2 := hov P x
    show ov P x + IV ov (P ||| 2 ^ x) s ≤ 8 * (s.length + 1)
    omega
