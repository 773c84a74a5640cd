/-! What the fold over all orders holds at its end. -/
theorem fold_see {v a : List Nat → Int32} {cd : List Nat → Int64} {hit : List Nat → Prop} {far : List Nat → Int32} : ∀ (l : List (List Nat)) (F : jF), l.foldl (seeF v a cd hit far) F = (l.foldl (fun M s => seM (v s) (a s) (cd s) M) F.1, l.foldl (fun M s => seL (v s) (a s) (cd s) M) F.2.1, l.foldl (fun M s => seO (hit s) (cd s) M) F.2.2.1, l.foldl (fun M s => seW (hit s) (far s) (cd s) M) F.2.2.2)
  | [], _ => rfl
  | s :: l, F => by
    show l.foldl (seeF v a cd hit far) (seeF v a cd hit far F s) = _
    rw [fold_see l]
    rfl
theorem nI_m1 {a : Nat} (h : a < 2 ^ 31) : ¬ nI a = (-1 : Int32) := fun z => by
  have hp : ¬ nI a < 0 := nI_pos h
  rw [z] at hp
  exact hp (by decide)
theorem fN_t {Q : List Nat → Prop} {s : List Nat} {l : List (List Nat)} (h : Q s) : fN Q (s :: l) = some s := if_pos h
theorem fN_f {Q : List Nat → Prop} {s : List Nat} {l : List (List Nat)} (h : ¬ Q s) : fN Q (s :: l) = fN Q l := if_neg h
theorem fM_1 {f : List Nat → Nat} {a : List Nat → Int32} {c : List Nat → Int64} (hf : ∀ s, f s < 2 ^ 31) : ∀ (l : List (List Nat)) (s0 : List Nat), ∃ s1, fN (fun s => f s = xN f (s0 :: l)) (s0 :: l) = some s1 ∧ l.foldl (fun M s => seM (nI (f s)) (a s) (c s) M) (nI (f s0), a s0, c s0) = (nI (f s1), a s1, c s1)
  | [], s0 => ⟨s0, fN_t (show f s0 = max (f s0) 0 by omega), rfl⟩
  | s :: l, s0 => by
    have ex : xN f (s0 :: s :: l) = max (f s0) (max (f s) (xN f l)) := rfl
    show ∃ s1, _ ∧ l.foldl _ (seM (nI (f s)) (a s) (c s) (nI (f s0), a s0, c s0)) = _
    by_cases h : f s0 < f s
    · have e : seM (nI (f s)) (a s) (c s) (nI (f s0), a s0, c s0) = (nI (f s), a s, c s) := if_pos (Or.inr (nI_ge h (hf s)))
      rw [e]
      obtain ⟨s1, h1, h2⟩ := fM_1 hf l s
      refine ⟨s1, ?_, h2⟩
      have e2 : xN f (s0 :: s :: l) = xN f (s :: l) := by rw [ex]; show _ = max (f s) (xN f l); omega
      rw [e2, fN_f (show ¬ f s0 = xN f (s :: l) by show ¬ f s0 = max (f s) (xN f l); omega)]
      exact h1
    · have e : seM (nI (f s)) (a s) (c s) (nI (f s0), a s0, c s0) = (nI (f s0), a s0, c s0) := if_neg (fun z => by
        rcases z with z | z
        · exact nI_m1 (hf s0) z
        · exact z (nI_le (by omega) (hf s0)))
      rw [e]
      obtain ⟨s1, h1, h2⟩ := fM_1 hf l s0
      refine ⟨s1, ?_, h2⟩
      have e3 : xN f (s0 :: l) = max (f s0) (xN f l) := rfl
      have e2 : xN f (s0 :: s :: l) = xN f (s0 :: l) := by rw [ex, e3]; omega
      rw [e2]
      by_cases q : f s0 = xN f (s0 :: l)
      · rw [fN_t q] at h1 ⊢; exact h1
      · rw [fN_f q] at h1 ⊢
        rw [fN_f (show ¬ f s = xN f (s0 :: l) by omega)]
        exact h1
theorem fM_0 {f : List Nat → Nat} {a : List Nat → Int32} {c : List Nat → Int64} {a0 : Int32} {c0 : Int64} (hf : ∀ s, f s < 2 ^ 31) : ∀ (l : List (List Nat)), l ≠ [] → ∃ s1, fN (fun s => f s = xN f l) l = some s1 ∧ l.foldl (fun M s => seM (nI (f s)) (a s) (c s) M) (-1, a0, c0) = (nI (f s1), a s1, c s1)
  | [], h => absurd rfl h
  | s :: l, _ => by
    have e : seM (nI (f s)) (a s) (c s) (-1, a0, c0) = (nI (f s), a s, c s) := if_pos (Or.inl rfl)
    show ∃ s1, _ ∧ l.foldl _ (seM (nI (f s)) (a s) (c s) (-1, a0, c0)) = _
    rw [e]
    exact fM_1 hf l s
theorem fL_1 {f : List Nat → Nat} {a : List Nat → Int32} {c : List Nat → Int64} {V : Nat} (hV : V < 2 ^ 31) (hf : ∀ s, f s < V) : ∀ (l : List (List Nat)) (s0 : List Nat), ∃ s1, fN (fun s => f s = mN f V (s0 :: l)) (s0 :: l) = some s1 ∧ l.foldl (fun M s => seL (nI (f s)) (a s) (c s) M) (nI (f s0), a s0, c s0) = (nI (f s1), a s1, c s1)
  | [], s0 => ⟨s0, fN_t (show f s0 = min (f s0) V by have := hf s0; omega), rfl⟩
  | s :: l, s0 => by
    have ex : mN f V (s0 :: s :: l) = min (f s0) (min (f s) (mN f V l)) := rfl
    have b0 := hf s0
    have b1 := hf s
    show ∃ s1, _ ∧ l.foldl _ (seL (nI (f s)) (a s) (c s) (nI (f s0), a s0, c s0)) = _
    by_cases h : f s < f s0
    · have e : seL (nI (f s)) (a s) (c s) (nI (f s0), a s0, c s0) = (nI (f s), a s, c s) := if_pos (Or.inr (nI_ge h (by omega)))
      rw [e]
      obtain ⟨s1, h1, h2⟩ := fL_1 hV hf l s
      refine ⟨s1, ?_, h2⟩
      have e2 : mN f V (s0 :: s :: l) = mN f V (s :: l) := by rw [ex]; show _ = min (f s) (mN f V l); omega
      rw [e2, fN_f (show ¬ f s0 = mN f V (s :: l) by show ¬ f s0 = min (f s) (mN f V l); omega)]
      exact h1
    · have e : seL (nI (f s)) (a s) (c s) (nI (f s0), a s0, c s0) = (nI (f s0), a s0, c s0) := if_neg (fun z => by
        rcases z with z | z
        · exact nI_m1 (by omega) z
        · exact z (nI_le (by omega) (by omega)))
      rw [e]
      obtain ⟨s1, h1, h2⟩ := fL_1 hV hf l s0
      refine ⟨s1, ?_, h2⟩
      have e3 : mN f V (s0 :: l) = min (f s0) (mN f V l) := rfl
      have e2 : mN f V (s0 :: s :: l) = mN f V (s0 :: l) := by rw [ex, e3]; omega
      rw [e2]
      by_cases q : f s0 = mN f V (s0 :: l)
      · rw [fN_t q] at h1 ⊢; exact h1
      · rw [fN_f q] at h1 ⊢
        rw [fN_f (show ¬ f s = mN f V (s0 :: l) by omega)]
        exact h1
theorem fL_0 {f : List Nat → Nat} {a : List Nat → Int32} {c : List Nat → Int64} {a0 : Int32} {c0 : Int64} {V : Nat} (hV : V < 2 ^ 31) (hf : ∀ s, f s < V) : ∀ (l : List (List Nat)), l ≠ [] → ∃ s1, fN (fun s => f s = mN f V l) l = some s1 ∧ l.foldl (fun M s => seL (nI (f s)) (a s) (c s) M) (-1, a0, c0) = (nI (f s1), a s1, c s1)
  | [], h => absurd rfl h
  | s :: l, _ => by
    have e : seL (nI (f s)) (a s) (c s) (-1, a0, c0) = (nI (f s), a s, c s) := if_pos (Or.inl rfl)
    show ∃ s1, _ ∧ l.foldl _ (seL (nI (f s)) (a s) (c s) (-1, a0, c0)) = _
    rw [e]
    exact fL_1 hV hf l s
theorem cN_t {Q : List Nat → Prop} {s : List Nat} {l : List (List Nat)} (h : Q s) : cN Q (s :: l) = 1 + cN Q l := by show _ + _ = _; rw [if_pos h]
theorem cN_f {Q : List Nat → Prop} {s : List Nat} {l : List (List Nat)} (h : ¬ Q s) : cN Q (s :: l) = cN Q l := by show _ + _ = _; rw [if_neg h]; omega
theorem fO_1 {hit : List Nat → Prop} {c : List Nat → Int64} {c0 : Int64} : ∀ (l : List (List Nat)) (n : Nat), 1 ≤ n → n + l.length < 2 ^ 31 → l.foldl (fun M s => seO (hit s) (c s) M) (nI n, c0) = (nI (n + cN hit l), c0)
  | [], n, _, _ => rfl
  | s :: l, n, h1, h2 => by
    have hl : (s :: l).length = l.length + 1 := rfl
    show l.foldl _ (seO (hit s) (c s) (nI n, c0)) = _
    by_cases h : hit s
    · have e : seO (hit s) (c s) (nI n, c0) = (nI (n + 1), c0) := by
        have e0 : seO (hit s) (c s) (nI n, c0) = (nI n + 1, if nI n = 0 then c s else c0) := if_pos h
        rw [e0, nI_1, if_neg (fun z => by have := nI_inj (b := 0) (by omega) (by omega) z; omega)]
      rw [e, fO_1 l (n + 1) (by omega) (by omega), cN_t h, Nat.add_assoc]
    · have e : seO (hit s) (c s) (nI n, c0) = (nI n, c0) := if_neg h
      rw [e, fO_1 l n h1 (by omega), cN_f h]
theorem fO_0 {hit : List Nat → Prop} {c : List Nat → Int64} {c0 : Int64} : ∀ (l : List (List Nat)), l.length < 2 ^ 30 → ∃ c1, l.foldl (fun M s => seO (hit s) (c s) M) (0, c0) = (nI (cN hit l), c1) ∧ ∀ s1, fN hit l = some s1 → c1 = c s1
  | [], _ => ⟨c0, rfl, fun s1 z => absurd z (by show ¬ none = some s1; simp)⟩
  | s :: l, h2 => by
    have hl : (s :: l).length = l.length + 1 := rfl
    show ∃ c1, l.foldl _ (seO (hit s) (c s) (0, c0)) = _ ∧ _
    by_cases h : hit s
    · have e : seO (hit s) (c s) (0, c0) = (nI 1, c s) := if_pos h
      refine ⟨c s, ?_, fun s1 z => ?_⟩
      · rw [e, fO_1 l 1 (by omega) (by omega), cN_t h]
      · rw [fN_t h] at z
        rw [Option.some.inj z]
    · have e : seO (hit s) (c s) (0, c0) = (0, c0) := if_neg h
      obtain ⟨c1, p1, p2⟩ := fO_0 (hit := hit) (c := c) (c0 := c0) l (by omega)
      rw [e, cN_f h, fN_f h]
      exact ⟨c1, p1, p2⟩
noncomputable def gW (hit : List Nat → Prop) (f : List Nat → Nat) (s : List Nat) : Nat := @ite _ (hit s) (Classical.propDecidable _) (f s) 536870912
theorem gW_t {hit : List Nat → Prop} {f : List Nat → Nat} {s : List Nat} (h : hit s) : gW hit f s = f s := if_pos h
theorem gW_f {hit : List Nat → Prop} {f : List Nat → Nat} {s : List Nat} (h : ¬ hit s) : gW hit f s = 536870912 := if_neg h
theorem fW_1 {hit : List Nat → Prop} {f : List Nat → Nat} {c : List Nat → Int64} : ∀ (l : List (List Nat)) (s0 : List Nat), (∀ s, s ∈ s0 :: l → f s < 536870912) → hit s0 → ∃ s1, fN (fun s => hit s ∧ f s = mN (gW hit f) 536870912 (s0 :: l)) (s0 :: l) = some s1 ∧ l.foldl (fun M s => seW (hit s) (nI (f s)) (c s) M) (nI (f s0), c s0) = (nI (f s1), c s1)
  | [], s0, hf, h0 => ⟨s0, fN_t ⟨h0, show f s0 = min (gW hit f s0) 536870912 by rw [gW_t h0]; have := hf s0 List.mem_cons_self; omega⟩, rfl⟩
  | s :: l, s0, hf, h0 => by
    have b0 := hf s0 List.mem_cons_self
    have b1 := hf s (List.mem_cons_of_mem _ List.mem_cons_self)
    have ex : mN (gW hit f) 536870912 (s0 :: s :: l) = min (f s0) (min (gW hit f s) (mN (gW hit f) 536870912 l)) := by
      show min (gW hit f s0) _ = _
      rw [gW_t h0]; rfl
    have e3 : mN (gW hit f) 536870912 (s0 :: l) = min (f s0) (mN (gW hit f) 536870912 l) := by
      show min (gW hit f s0) _ = _
      rw [gW_t h0]
    have e4 : mN (gW hit f) 536870912 (s :: l) = min (gW hit f s) (mN (gW hit f) 536870912 l) := rfl
    show ∃ s1, _ ∧ l.foldl _ (seW (hit s) (nI (f s)) (c s) (nI (f s0), c s0)) = _
    by_cases h : hit s ∧ f s < f s0
    · have e : seW (hit s) (nI (f s)) (c s) (nI (f s0), c s0) = (nI (f s), c s) := if_pos ⟨h.1, Or.inr (nI_lt h.2 (by omega))⟩
      rw [e]
      obtain ⟨s1, h1, h2⟩ := fW_1 (c := c) l s (fun y hy => hf y (List.mem_cons_of_mem _ hy)) h.1
      refine ⟨s1, ?_, h2⟩
      have e5 := gW_t (f := f) h.1
      have e2 : mN (gW hit f) 536870912 (s0 :: s :: l) = mN (gW hit f) 536870912 (s :: l) := by rw [ex, e4]; omega
      rw [e2, fN_f (fun z => by have := z.2; rw [e4] at this; omega)]
      exact h1
    · have e : seW (hit s) (nI (f s)) (c s) (nI (f s0), c s0) = (nI (f s0), c s0) := if_neg (fun z => by
        rcases z.2 with q | q
        · exact nI_m1 (by omega) q
        · by_cases w : f s < f s0
          · exact h ⟨z.1, w⟩
          · exact nI_nlt (by omega) (by omega) q)
      rw [e]
      obtain ⟨s1, h1, h2⟩ := fW_1 (c := c) l s0 (fun y hy => hf y (by
        rcases List.mem_cons.mp hy with rfl | q
        · exact List.mem_cons_self
        · exact List.mem_cons_of_mem _ (List.mem_cons_of_mem _ q))) h0
      refine ⟨s1, ?_, h2⟩
      have hg : f s0 ≤ gW hit f s := by
        by_cases w : hit s
        · have : ¬ f s < f s0 := fun q => h ⟨w, q⟩
          rw [gW_t w]; omega
        · rw [gW_f w]; omega
      have e2 : mN (gW hit f) 536870912 (s0 :: s :: l) = mN (gW hit f) 536870912 (s0 :: l) := by rw [ex, e3]; omega
      rw [e2]
      by_cases q : f s0 = mN (gW hit f) 536870912 (s0 :: l)
      · rw [fN_t ⟨h0, q⟩] at h1 ⊢; exact h1
      · rw [fN_f (fun z => q z.2)] at h1 ⊢
        rw [fN_f (fun z => by have := z.2; have := gW_t (f := f) z.1; omega)]
        exact h1
theorem fW_0 {hit : List Nat → Prop} {f : List Nat → Nat} {c : List Nat → Int64} {c0 : Int64} : ∀ (l : List (List Nat)), (∀ s, s ∈ l → f s < 536870912) → (mN (gW hit f) 536870912 l = 536870912 ∧ l.foldl (fun M s => seW (hit s) (nI (f s)) (c s) M) (-1, c0) = (-1, c0)) ∨ ∃ s1, fN (fun s => hit s ∧ f s = mN (gW hit f) 536870912 l) l = some s1 ∧ mN (gW hit f) 536870912 l = f s1 ∧ l.foldl (fun M s => seW (hit s) (nI (f s)) (c s) M) (-1, c0) = (nI (f s1), c s1)
  | [], _ => Or.inl ⟨rfl, rfl⟩
  | s :: l, hf => by
    have e4 : mN (gW hit f) 536870912 (s :: l) = min (gW hit f s) (mN (gW hit f) 536870912 l) := rfl
    have hle := mN_le (f := gW hit f) (V := 536870912) l
    show (_ ∧ l.foldl _ (seW (hit s) (nI (f s)) (c s) (-1, c0)) = _) ∨ ∃ s1, _ ∧ _ ∧ l.foldl _ (seW (hit s) (nI (f s)) (c s) (-1, c0)) = _
    by_cases h : hit s
    · have e : seW (hit s) (nI (f s)) (c s) (-1, c0) = (nI (f s), c s) := if_pos ⟨h, Or.inl rfl⟩
      rw [e]
      obtain ⟨s1, h1, h2⟩ := fW_1 (c := c) l s hf h
      refine Or.inr ⟨s1, h1, ?_, h2⟩
      obtain ⟨s2, q1, q2, q3⟩ := fN_some (Q := fun s' => hit s' ∧ f s' = mN (gW hit f) 536870912 (s :: l)) (s :: l) (Classical.byContradiction fun z => by rw [fN_none _ z] at h1; exact absurd h1 (by simp))
      rw [h1] at q1
      rw [Option.some.inj q1]
      exact q3.2.symm
    · have e : seW (hit s) (nI (f s)) (c s) (-1, c0) = (-1, c0) := if_neg (fun z => h z.1)
      have e5 := gW_f (f := f) h
      have e6 : mN (gW hit f) 536870912 (s :: l) = mN (gW hit f) 536870912 l := by rw [e4]; omega
      rw [e, e6, fN_f (fun z => h z.1)]
      exact fW_0 l (fun y hy => hf y (List.mem_cons_of_mem _ hy))
