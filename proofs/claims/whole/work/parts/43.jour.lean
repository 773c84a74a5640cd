/-! Journeys: what an hour does, as a function. -/
def jJ : Type := Nat × (Nat → Int32) × (Nat → Nat) × (Nat → Nat) × (Nat → Nat) × (Nat → Nat) × (Nat → Int32)
def jmk (hr : Nat) (pu : Nat → Int32) (tu st lf hd : Nat → Nat) (wo : Nat → Int32) : jJ := (hr, pu, tu, st, lf, hd, wo)
/-- the hour, the purses, whose turn it is, states, coins left, hands, to whom -/
def jJ.hr (J : jJ) : Nat := Prod.fst J
def jJ.pu (J : jJ) : Nat → Int32 := Prod.fst (Prod.snd J)
def jJ.tu (J : jJ) : Nat → Nat := Prod.fst (Prod.snd (Prod.snd J))
def jJ.st (J : jJ) : Nat → Nat := Prod.fst (Prod.snd (Prod.snd (Prod.snd J)))
def jJ.lf (J : jJ) : Nat → Nat := Prod.fst (Prod.snd (Prod.snd (Prod.snd (Prod.snd J))))
def jJ.hd (J : jJ) : Nat → Nat := Prod.fst (Prod.snd (Prod.snd (Prod.snd (Prod.snd (Prod.snd J)))))
def jJ.wo (J : jJ) : Nat → Int32 := Prod.snd (Prod.snd (Prod.snd (Prod.snd (Prod.snd (Prod.snd J)))))
/-- what doesn't change: people, parcels, from whom, how many coins, when; to how many each hands, to whom; which parcel is left out; when the odd one is kept (coins, who, next, hand, hour) -/
def jQ : Type := Nat × Nat × (Nat → Nat) × (Nat → Nat) × (Nat → Nat) × (Nat → Nat) × (Nat → Nat → Nat) × (Nat → Prop) × (Nat → Nat → Nat → Nat → Nat → Prop)
def jQmk (A N : Nat) (fr wh du mny : Nat → Nat) (hei : Nat → Nat → Nat) (out : Nat → Prop) (od : Nat → Nat → Nat → Nat → Nat → Prop) : jQ := (A, N, fr, wh, du, mny, hei, out, od)
def jQ.A (P : jQ) : Nat := Prod.fst P
def jQ.N (P : jQ) : Nat := Prod.fst (Prod.snd P)
def jQ.fr (P : jQ) : Nat → Nat := Prod.fst (Prod.snd (Prod.snd P))
def jQ.wh (P : jQ) : Nat → Nat := Prod.fst (Prod.snd (Prod.snd (Prod.snd P)))
def jQ.du (P : jQ) : Nat → Nat := Prod.fst (Prod.snd (Prod.snd (Prod.snd (Prod.snd P))))
def jQ.mny (P : jQ) : Nat → Nat := Prod.fst (Prod.snd (Prod.snd (Prod.snd (Prod.snd (Prod.snd P)))))
def jQ.hei (P : jQ) : Nat → Nat → Nat := Prod.fst (Prod.snd (Prod.snd (Prod.snd (Prod.snd (Prod.snd (Prod.snd P))))))
def jQ.out (P : jQ) : Nat → Prop := Prod.fst (Prod.snd (Prod.snd (Prod.snd (Prod.snd (Prod.snd (Prod.snd (Prod.snd P)))))))
def jQ.od (P : jQ) : Nat → Nat → Nat → Nat → Nat → Prop := Prod.snd (Prod.snd (Prod.snd (Prod.snd (Prod.snd (Prod.snd (Prod.snd (Prod.snd P)))))))
def jup {α : Type} (f : Nat → α) (k : Nat) (v : α) : Nat → α := fun j => if j = k then v else f j
theorem jup_s {α : Type} (f : Nat → α) (k : Nat) (v : α) : jup f k v k = v := if_pos rfl
theorem jup_n {α : Type} {f : Nat → α} {k j : Nat} {v : α} (h : j ≠ k) : jup f k v j = f j := if_neg h
def jRest (J : jJ) (k p c : Nat) : jJ := jmk J.hr (jup J.pu p (J.pu p + nI c)) J.tu (jup J.st k 2) (jup J.lf k 0) J.hd (jup J.wo k (-1))
def jHand (P : jQ) (J : jJ) (k p c : Nat) : jJ := jmk J.hr J.pu (jup J.tu p (if J.tu p + 1 < P.mny p then J.tu p + 1 else 0)) (jup J.st k 1) (jup J.lf k c) J.hd (jup J.wo k (nI (P.hei p (J.tu p))))
noncomputable def jSend (P : jQ) (J : jJ) (k : Nat) : jJ := @ite _ (J.st k = 0 ∧ P.du k = J.hr ∧ ¬ P.out k) (Classical.propDecidable _) (if P.mny (P.fr k) = 0 then jRest J k (P.fr k) (P.wh k) else jHand P J k (P.fr k) (P.wh k)) J
noncomputable def jShr (P : jQ) (J : jJ) (k p : Nat) : Nat := @ite _ (P.od (J.lf k) p (P.hei p (J.tu p)) (J.hd k + 1) J.hr) (Classical.propDecidable _) (J.lf k / 2 + 1) (J.lf k / 2)
noncomputable def jComeB (P : jQ) (J : jJ) (k p : Nat) : jJ :=
  if P.mny p = 0 ∨ 100 ≤ J.hd k + 1 ∨ jShr P J k p = J.lf k then jRest (jmk J.hr J.pu J.tu J.st J.lf (jup J.hd k (J.hd k + 1)) J.wo) k p (J.lf k)
  else jHand P (jmk J.hr (jup J.pu p (J.pu p + nI (jShr P J k p))) J.tu J.st J.lf (jup J.hd k (J.hd k + 1)) J.wo) k p (J.lf k - jShr P J k p)
noncomputable def jCome (P : jQ) (J : jJ) (k : Nat) : jJ := @ite _ (J.st k = 1 ∧ P.du k < J.hr) (Classical.propDecidable _) (jComeB P J k (J.wo k).toNatClampNeg) J
def jFold (f : jJ → Nat → jJ) : Nat → Nat → jJ → jJ
  | 0, _, J => J
  | c + 1, i, J => jFold f c (i + 1) (f J i)
def jTick (J : jJ) : jJ := jmk (J.hr + 1) J.pu J.tu J.st J.lf J.hd J.wo
noncomputable def jPass (P : jQ) (J : jJ) : jJ := jTick (jFold (jCome P) P.N 0 (jFold (jSend P) P.N 0 J))
def wfP (P : jQ) : Prop := P.A ≤ 10 ∧ P.N ≤ 30 ∧ (∀ k, k < P.N → P.fr k < P.A) ∧ (∀ k, k < P.N → 1 ≤ P.wh k ∧ P.wh k ≤ 99999) ∧ (∀ k, k < P.N → P.du k ≤ 3000) ∧ (∀ p, p < P.A → P.mny p ≤ 3) ∧ (∀ p u, p < P.A → u < P.mny p → P.hei p u < P.A) ∧ (∀ c p o n H, P.od c p o n H → c % 2 = 1)
theorem wfP.A10 {P : jQ} (h : wfP P) : P.A ≤ 10 := h.1
theorem wfP.N30 {P : jQ} (h : wfP P) : P.N ≤ 30 := h.2.1
theorem wfP.fr {P : jQ} (h : wfP P) : ∀ k, k < P.N → P.fr k < P.A := h.2.2.1
theorem wfP.wh {P : jQ} (h : wfP P) : ∀ k, k < P.N → 1 ≤ P.wh k ∧ P.wh k ≤ 99999 := h.2.2.2.1
theorem wfP.du {P : jQ} (h : wfP P) : ∀ k, k < P.N → P.du k ≤ 3000 := h.2.2.2.2.1
theorem wfP.mny {P : jQ} (h : wfP P) : ∀ p, p < P.A → P.mny p ≤ 3 := h.2.2.2.2.2.1
theorem wfP.hei {P : jQ} (h : wfP P) : ∀ p u, p < P.A → u < P.mny p → P.hei p u < P.A := h.2.2.2.2.2.2.1
theorem wfP.od {P : jQ} (h : wfP P) : ∀ c p o n H, P.od c p o n H → c % 2 = 1 := h.2.2.2.2.2.2.2
/-- e = 0: between hours; e = 1: within one -/
def wfJ (P : jQ) (J : jJ) (e : Nat) : Prop := (∀ p, p < P.A → J.tu p < P.mny p ∨ J.tu p = 0) ∧ (∀ k, k < P.N → (J.st k = 0 ∧ J.lf k = 0) ∨ (J.st k = 2 ∧ J.lf k = 0) ∨ (J.st k = 1 ∧ P.du k < J.hr + e ∧ (∃ q, q < P.A ∧ J.wo k = nI q) ∧ 1 ≤ J.lf k ∧ J.lf k ≤ 99999)) ∧ (∀ k, k < P.N → J.hd k ≤ 100 ∧ (¬ J.st k = 2 → J.hd k < 100))
theorem wfJ.tu {P : jQ} {J : jJ} {e : Nat} (h : wfJ P J e) : ∀ p, p < P.A → J.tu p < P.mny p ∨ J.tu p = 0 := h.1
theorem wfJ.pa {P : jQ} {J : jJ} {e : Nat} (h : wfJ P J e) : ∀ k, k < P.N → (J.st k = 0 ∧ J.lf k = 0) ∨ (J.st k = 2 ∧ J.lf k = 0) ∨ (J.st k = 1 ∧ P.du k < J.hr + e ∧ (∃ q, q < P.A ∧ J.wo k = nI q) ∧ 1 ≤ J.lf k ∧ J.lf k ≤ 99999) := h.2.1
theorem wfJ.hd {P : jQ} {J : jJ} {e : Nat} (h : wfJ P J e) : ∀ k, k < P.N → J.hd k ≤ 100 ∧ (¬ J.st k = 2 → J.hd k < 100) := h.2.2
theorem wfJ.rest {P : jQ} {J : jJ} {e k p c : Nat} (h : wfJ P J e) : wfJ P (jRest J k p c) e := by
  refine ⟨h.tu, fun i hi => ?_, fun i hi => ?_⟩
  · by_cases q : i = k
    · subst q
      right; left
      exact ⟨jup_s _ _ _, jup_s _ _ _⟩
    · have e1 : (jRest J k p c).st i = J.st i := jup_n q
      have e2 : (jRest J k p c).lf i = J.lf i := jup_n q
      have e3 : (jRest J k p c).wo i = J.wo i := jup_n q
      rw [e1, e2, e3]
      exact h.pa i hi
  · refine ⟨(h.hd i hi).1, fun z => ?_⟩
    by_cases q : i = k
    · subst q
      exact absurd (jup_s _ _ _) z
    · have e1 : (jRest J k p c).st i = J.st i := jup_n q
      rw [e1] at z
      exact (h.hd i hi).2 z
theorem wfJ.hand {P : jQ} (hP : wfP P) {J : jJ} {e k p c : Nat} (h : wfJ P J e) (hp : p < P.A) (hm : P.mny p ≠ 0) (hc : 1 ≤ c ∧ c ≤ 99999) (hd : P.du k < J.hr + e) (hh : J.hd k < 100) : wfJ P (jHand P J k p c) e := by
  refine ⟨fun i hi => ?_, fun i hi => ?_, fun i hi => ?_⟩
  · by_cases q : i = p
    · subst q
      have e1 : (jHand P J k i c).tu i = (if J.tu i + 1 < P.mny i then J.tu i + 1 else 0) := jup_s _ _ _
      rw [e1]
      by_cases z : J.tu i + 1 < P.mny i
      · rw [if_pos z]; exact Or.inl z
      · rw [if_neg z]; exact Or.inr rfl
    · have e1 : (jHand P J k p c).tu i = J.tu i := jup_n q
      rw [e1]; exact h.tu i hi
  · by_cases q : i = k
    · subst q
      right; right
      have e1 : (jHand P J i p c).st i = 1 := jup_s _ _ _
      have e2 : (jHand P J i p c).lf i = c := jup_s _ _ _
      have e3 : (jHand P J i p c).wo i = nI (P.hei p (J.tu p)) := jup_s _ _ _
      rw [e1, e2, e3]
      exact ⟨rfl, hd, ⟨_, hP.hei p _ hp (by rcases h.tu p hp with z | z <;> omega), rfl⟩, hc⟩
    · have e1 : (jHand P J k p c).st i = J.st i := jup_n q
      have e2 : (jHand P J k p c).lf i = J.lf i := jup_n q
      have e3 : (jHand P J k p c).wo i = J.wo i := jup_n q
      rw [e1, e2, e3]
      exact h.pa i hi
  · refine ⟨(h.hd i hi).1, fun z => ?_⟩
    by_cases q : i = k
    · subst q; exact hh
    · have e1 : (jHand P J k p c).st i = J.st i := jup_n q
      rw [e1] at z
      exact (h.hd i hi).2 z
theorem wfJ.send {P : jQ} (hP : wfP P) {J : jJ} {k : Nat} (hk : k < P.N) (h : wfJ P J 1) : wfJ P (jSend P J k) 1 := by
  unfold jSend
  by_cases q : J.st k = 0 ∧ P.du k = J.hr ∧ ¬ P.out k
  · rw [if_pos q]
    by_cases z : P.mny (P.fr k) = 0
    · rw [if_pos z]; exact h.rest
    · rw [if_neg z]
      exact h.hand hP (hP.fr k hk) z (hP.wh k hk) (by omega) ((h.hd k hk).2 (by omega))
  · rw [if_neg q]; exact h
theorem jShr_le {P : jQ} (hP : wfP P) (J : jJ) (k p : Nat) : jShr P J k p ≤ J.lf k := by
  unfold jShr
  by_cases q : P.od (J.lf k) p (P.hei p (J.tu p)) (J.hd k + 1) J.hr
  · have := hP.od _ _ _ _ _ q
    rw [if_pos q]; omega
  · rw [if_neg q]; omega
theorem wfJ.come {P : jQ} (hP : wfP P) {J : jJ} {k : Nat} (hk : k < P.N) (h : wfJ P J 1) : wfJ P (jCome P J k) 1 := by
  unfold jCome
  by_cases q : J.st k = 1 ∧ P.du k < J.hr
  · rw [if_pos q]
    rcases h.pa k hk with z | z | ⟨z1, z2, ⟨p, hp, hw⟩, z3, z4⟩
    · omega
    · omega
    rw [hw, nI_clamp (by have := hP.A10; omega)]
    have hJ : ∀ pu, J.hd k + 1 < 100 → wfJ P (jmk J.hr pu J.tu J.st J.lf (jup J.hd k (J.hd k + 1)) J.wo) 1 := fun pu hlt => by
      refine ⟨h.tu, h.pa, fun i hi => ?_⟩
      show jup J.hd k (J.hd k + 1) i ≤ 100 ∧ (¬ J.st i = 2 → jup J.hd k (J.hd k + 1) i < 100)
      by_cases e : i = k
      · subst e; rw [jup_s]; exact ⟨by omega, fun _ => hlt⟩
      · rw [jup_n e]; exact h.hd i hi
    unfold jComeB
    by_cases c : P.mny p = 0 ∨ 100 ≤ J.hd k + 1 ∨ jShr P J k p = J.lf k
    · rw [if_pos c]
      refine ⟨h.tu, fun i hi => ?_, fun i hi => ?_⟩
      · by_cases e : i = k
        · subst e
          right; left
          exact ⟨jup_s _ _ _, jup_s _ _ _⟩
        · have e1 : (jRest (jmk J.hr J.pu J.tu J.st J.lf (jup J.hd k (J.hd k + 1)) J.wo) k p (J.lf k)).st i = J.st i := jup_n e
          have e2 : (jRest (jmk J.hr J.pu J.tu J.st J.lf (jup J.hd k (J.hd k + 1)) J.wo) k p (J.lf k)).lf i = J.lf i := jup_n e
          have e3 : (jRest (jmk J.hr J.pu J.tu J.st J.lf (jup J.hd k (J.hd k + 1)) J.wo) k p (J.lf k)).wo i = J.wo i := jup_n e
          rw [e1, e2, e3]
          exact h.pa i hi
      · show jup J.hd k (J.hd k + 1) i ≤ 100 ∧ (¬ jup J.st k 2 i = 2 → jup J.hd k (J.hd k + 1) i < 100)
        by_cases e : i = k
        · subst e
          rw [jup_s, jup_s]
          have := (h.hd i hi).2 (by omega)
          exact ⟨by omega, fun z => absurd rfl z⟩
        · rw [jup_n e, jup_n e]; exact h.hd i hi
    · rw [if_neg c]
      have c1 : P.mny p ≠ 0 := fun z => c (Or.inl z)
      have c2 : ¬ 100 ≤ J.hd k + 1 := fun z => c (Or.inr (Or.inl z))
      have c3 : jShr P J k p ≠ J.lf k := fun z => c (Or.inr (Or.inr z))
      have c4 := jShr_le hP J k p
      refine (hJ _ (by omega)).hand hP hp c1 ⟨by omega, by omega⟩ (show P.du k < J.hr + 1 by omega) ?_
      show jup J.hd k (J.hd k + 1) k < 100
      rw [jup_s]; omega
  · rw [if_neg q]; exact h
theorem wfJ.fold {P : jQ} {f : jJ → Nat → jJ} (hf : ∀ J k, k < P.N → wfJ P J 1 → wfJ P (f J k) 1) : ∀ (c i : Nat) (J : jJ), i + c ≤ P.N → wfJ P J 1 → wfJ P (jFold f c i J) 1
  | 0, _, _, _, h => h
  | c + 1, i, J, hi, h => wfJ.fold hf c (i + 1) (f J i) (by omega) (hf J i (by omega) h)
theorem wfJ.pass {P : jQ} (hP : wfP P) {J : jJ} (h : wfJ P J 0) : wfJ P (jPass P J) 0 := by
  have h1 : wfJ P J 1 := ⟨h.tu, fun k hk => by
    rcases h.pa k hk with z | z | ⟨z1, z2, z3⟩
    · exact Or.inl z
    · exact Or.inr (Or.inl z)
    · exact Or.inr (Or.inr ⟨z1, by omega, z3⟩), h.hd⟩
  have h2 := wfJ.fold (fun J k hk => wfJ.come hP hk) P.N 0 _ (by omega) (wfJ.fold (fun J k hk => wfJ.send hP hk) P.N 0 J (by omega) h1)
  refine ⟨h2.tu, fun k hk => ?_, h2.hd⟩
  exact h2.pa k hk
