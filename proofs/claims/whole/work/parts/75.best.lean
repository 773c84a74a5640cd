/-! The most and the least that can arrive. -/
theorem arN_lo (od : Nat → Nat → Prop) : ∀ (m p c v : Nat), v * 2 ^ m ≤ c → v ≤ arN od m p c
  | 0, p, c, v, h => by show v ≤ c; rw [Nat.pow_zero, Nat.mul_one] at h; exact h
  | m + 1, p, c, v, h => by
    have h1 := hf_r od p c
    rw [Nat.pow_succ, ← Nat.mul_assoc] at h
    exact arN_lo od m (p + 1) (hf od p c) v (by omega)
theorem arN_up (od : Nat → Nat → Prop) : ∀ (m p c v : Nat), c ≤ v * 2 ^ m → arN od m p c ≤ v
  | 0, p, c, v, h => by show c ≤ v; rw [Nat.pow_zero, Nat.mul_one] at h; exact h
  | m + 1, p, c, v, h => by
    have h1 := hf_r od p c
    rw [Nat.pow_succ, ← Nat.mul_assoc] at h
    exact arN_up od m (p + 1) (hf od p c) v (by omega)
theorem div_ce {C b : Nat} (hb : 0 < b) : C / b ≤ (C + b - 1) / b ∧ (C + b - 1) / b ≤ C / b + 1 ∧ C ≤ (C + b - 1) / b * b ∧ C / b * b ≤ C := by
  have h1 := Nat.div_add_mod (C + b - 1) b
  have h2 := Nat.mod_lt (C + b - 1) hb
  have h3 := Nat.div_add_mod C b
  have h4 := Nat.mod_lt C hb
  refine ⟨Nat.div_le_div_right (by omega), ?_, ?_, Nat.div_mul_le_self C b⟩
  · by_cases q : (C + b - 1) / b ≤ C / b + 1
    · exact q
    · have := Nat.mul_le_mul_left b (show C / b + 2 ≤ (C + b - 1) / b by omega)
      rw [Nat.mul_add] at this
      omega
  · rw [Nat.mul_comm]; omega
/-- what arrives is one of two -/
def twoV (hd : Nat → Nat → Nat → Nat → Nat) (m C : Nat) : Prop := ∀ s, s ∈ PL m m 0 → AR hd m 0 0 C s = C / 2 ^ m ∨ AR hd m 0 0 C s = (C + 2 ^ m - 1) / 2 ^ m
theorem AR_path {σ : jS} {t k A C : Nat} {r car hm : Nat → Nat} {s : List Nat} (hk : 2 ≤ k) (hk10 : k ≤ 10) (hA : A ≤ 10) (hcp : carP k A r car hm) (hrA : ∀ j, j < k → r j < A) (hrk : ∀ i j, i < j → j < k → r i ≠ r j) (hs : s ∈ PL (k - 2) (k - 2) 0) : AR (hdC σ t k C r car) (k - 2) 0 0 C s = arN (odP σ t 4 (rF k r car s)) (k - 2) 1 C := by
  obtain ⟨hl, hsi, f1, f2, -⟩ := path_f hk hk10 hA hcp hrA hrk hs
  exact AR_arN (σ := σ) (t := t) (m := k - 2) (C := C) (get := r (k - 1)) (car := car) (f := rF k r car s) hl hsi f1 f2
theorem two_1 {σ : jS} {t k A C : Nat} {r car hm : Nat → Nat} (hk : 2 ≤ k) (hk10 : k ≤ 10) (hA : A ≤ 10) (hcp : carP k A r car hm) (hrA : ∀ j, j < k → r j < A) (hrk : ∀ i j, i < j → j < k → r i ≠ r j) : twoV (hdC σ t k C r car) (k - 2) C := fun s hs => by
  rw [AR_path hk hk10 hA hcp hrA hrk hs]
  obtain ⟨d1, d2, d3, d4⟩ := div_ce (C := C) (Nat.two_pow_pos (k - 2))
  have h1 := arN_lo (odP σ t 4 (rF k r car s)) (k - 2) 1 C _ d4
  have h2 := arN_up (odP σ t 4 (rF k r car s)) (k - 2) 1 C _ d3
  omega
theorem fN_p {Q : List Nat → Prop} {l : List (List Nat)} {s : List Nat} (h : fN Q l = some s) : s ∈ l ∧ Q s := by
  obtain ⟨s2, u1, u2, u3⟩ := fN_some (Q := Q) l (Classical.byContradiction fun z => by rw [fN_none _ z] at h; exact absurd h (by simp))
  rw [u1] at h
  rw [← Option.some.inj h]
  exact ⟨u2, u3⟩
theorem nB_pos {st : Nat → Nat → Nat → Prop} {k C T : Nat} {s : List Nat} (hs : s ∈ PL (k - 2) (k - 2) 0) (h : AR (hdO st) (k - 2) 0 0 C s = T) : nB st k C T ≠ 0 := by
  have : 0 < nB st k C T := (cN_pos (Q := fun s => AR (hdO st) (k - 2) 0 0 C s = T) _).mpr ⟨s, hs, h⟩
  omega
theorem PL_n0 {m : Nat} (h : m ≤ 8) : PL m m 0 ≠ [] := PL_ne h m 0 (Nat.two_pow_pos _) (by rw [show pc 0 = 0 by decide, Nat.zero_add])
/-- the most, the least -/
def bM (hd : Nat → Nat → Nat → Nat → Nat) (m C : Nat) : Nat := xN (fun s => AR hd m 0 0 C s) (PL m m 0)
def bL (hd : Nat → Nat → Nat → Nat → Nat) (m C : Nat) : Nat := mN (fun s => AR hd m 0 0 C s) 536870912 (PL m m 0)
theorem xN_at {f : List Nat → Nat} {l : List (List Nat)} (hl : l ≠ []) : ∃ s, s ∈ l ∧ f s = xN f l := by
  by_cases h : 0 < xN f l
  · exact xN_att l h
  · obtain ⟨s, hs⟩ := List.exists_mem_of_ne_nil _ hl
    have := xN_mem (f := f) l hs
    exact ⟨s, hs, by omega⟩
theorem mN_at {f : List Nat → Nat} {V : Nat} {l : List (List Nat)} (hV : ∀ s, f s < V) (hl : l ≠ []) : ∃ s, s ∈ l ∧ f s = mN f V l := by
  obtain ⟨s, hs⟩ := List.exists_mem_of_ne_nil _ hl
  have h1 := mN_mem (f := f) (V := V) l hs
  have h2 := hV s
  exact mN_att l (by omega)
theorem c_most (d : Nat) {k C : Nat} {car hm : Nat → Nat} {st : Nat → Nat → Nat → Prop} (hk : k ≤ 10) (hC : C ≤ 999999) (h2 : twoV (hdO st) (k - 2) C) (σ : jS) (hO : OE σ (k - 2) C car hm st) :
    ∃ σ', g_Or_mostArriving (d + 6) σ = some (some (.int (nI (bM (hdO st) (k - 2) C))), σ') ∧ jep so_S σ σ' := by
  obtain ⟨d1, d2, d3, d4⟩ := div_ce (C := C) (Nat.two_pow_pos (k - 2))
  have hpl := PL_n0 (m := k - 2) (by omega)
  have hfl : C / 2 ^ (k - 2) ≤ C := Nat.div_le_self _ _
  obtain ⟨σ', p1, p2, p3, p4, p5⟩ := c_solved d (aim := 0) (T := (C + 2 ^ (k - 2) - 1) / 2 ^ (k - 2)) (by omega) (by omega) σ hO
  rw [JG0 _ _ _ _ (Nat.le_refl _), Nat.sub_self] at p1
  have p1' : g_Or_solved (d + 5) 0 (nI ((C + 2 ^ (k - 2) - 1) / 2 ^ (k - 2))) σ = some (some (.int (nI (nB st k C ((C + 2 ^ (k - 2) - 1) / 2 ^ (k - 2))))), σ') := p1
  have hb := nB_lt (st := st) (C := C) (T := (C + 2 ^ (k - 2) - 1) / 2 ^ (k - 2)) hk
  have O' := hO.fr (p2.mono (fun b j h => so_or h))
  refine ⟨σ', ?_, p2⟩
  rw [e_Or_mostArriving, q_Or_mostArriving_0, rdI_ok (a := 74) (n := 10) (i := 0) (k := 0) rfl rfl (by omega) (by omega)]
  simp only [Option.bind_some]
  rw [hO.2.2.2.2.1 0 (by omega), (flO_01 C).1, hO.2.2.1, c_ceiling (d + 4) hC (by omega), rI_s]
  simp only [Option.bind_some]
  rw [p1', rI_s]
  simp only [Option.bind_some]
  by_cases h : nB st k C ((C + 2 ^ (k - 2) - 1) / 2 ^ (k - 2)) = 0
  · rw [jif_t (show nI (nB st k C ((C + 2 ^ (k - 2) - 1) / 2 ^ (k - 2))) ≤ 0 from nI_le (b := 0) (by omega) (by omega)), q_Or_mostArriving_1, O'.2.2.1, nI_1, rdI_ok (a := 74) (n := 10) rfl rfl (show k - 2 + 1 < 10 by omega) (by omega)]
    simp only [Option.bind_some]
    rw [O'.2.2.2.2.1 (k - 2 + 1) (by omega), q_Or_mostArriving_2]
    have e : flO C (k - 2 + 1) = bM (hdO st) (k - 2) C := by
      obtain ⟨s, hs, e1⟩ := xN_at (f := fun s => AR (hdO st) (k - 2) 0 0 C s) hpl
      rcases h2 s hs with z | z
      · show C / 2 ^ (k - 2 + 1 - 1) = xN _ _
        rw [← e1]
        exact z.symm
      · exact absurd h (nB_pos hs z)
    rw [e]
  · rw [jif_f (show ¬ nI (nB st k C ((C + 2 ^ (k - 2) - 1) / 2 ^ (k - 2))) ≤ 0 from nI_ge (a := 0) (by omega) (by omega)), q_Or_mostArriving_2]
    have e : (C + 2 ^ (k - 2) - 1) / 2 ^ (k - 2) = bM (hdO st) (k - 2) C := by
      obtain ⟨s, hs, e1⟩ := xN_at (f := fun s => AR (hdO st) (k - 2) 0 0 C s) hpl
      obtain ⟨s2, hs2, e2⟩ := (cN_pos _).mp (show 0 < nB st k C ((C + 2 ^ (k - 2) - 1) / 2 ^ (k - 2)) by omega)
      have h3 := xN_mem (f := fun s => AR (hdO st) (k - 2) 0 0 C s) _ hs2
      have h4 : bM (hdO st) (k - 2) C = xN (fun s => AR (hdO st) (k - 2) 0 0 C s) (PL (k - 2) (k - 2) 0) := rfl
      rcases h2 s hs with z | z <;> omega
    rw [e]
theorem c_leastA (d : Nat) {k C : Nat} {car hm : Nat → Nat} {st : Nat → Nat → Nat → Prop} (hk : k ≤ 10) (hC : C ≤ 999999) (h2 : twoV (hdO st) (k - 2) C) (σ : jS) (hO : OE σ (k - 2) C car hm st) :
    ∃ σ', g_Or_leastArriving (d + 6) σ = some (some (.int (nI (bL (hdO st) (k - 2) C))), σ') ∧ jep so_S σ σ' := by
  obtain ⟨d1, d2, d3, d4⟩ := div_ce (C := C) (Nat.two_pow_pos (k - 2))
  have hpl := PL_n0 (m := k - 2) (by omega)
  have hfl : C / 2 ^ (k - 2) ≤ C := Nat.div_le_self _ _
  have hV : ∀ s, AR (hdO st) (k - 2) 0 0 C s < 536870912 := fun s => by
    have := AR_le (hd := hdO st) (m := k - 2) (fun p l x c => hdO_le _ p l x c) s 0 0 C
    omega
  obtain ⟨σ', p1, p2, p3, p4, p5⟩ := c_solved d (aim := 0) (T := C / 2 ^ (k - 2)) (by omega) (by omega) σ hO
  rw [JG0 _ _ _ _ (Nat.le_refl _), Nat.sub_self] at p1
  have p1' : g_Or_solved (d + 5) 0 (nI (C / 2 ^ (k - 2))) σ = some (some (.int (nI (nB st k C (C / 2 ^ (k - 2))))), σ') := p1
  have hb := nB_lt (st := st) (C := C) (T := C / 2 ^ (k - 2)) hk
  have O' := hO.fr (p2.mono (fun b j h => so_or h))
  have ef : flO C (k - 2 + 1) = C / 2 ^ (k - 2) := rfl
  refine ⟨σ', ?_, p2⟩
  rw [e_Or_leastArriving, q_Or_leastArriving_0, hO.2.2.1, nI_1, rdI_ok (a := 74) (n := 10) rfl rfl (show k - 2 + 1 < 10 by omega) (by omega)]
  simp only [Option.bind_some]
  rw [hO.2.2.2.2.1 (k - 2 + 1) (by omega), ef, p1', rI_s]
  simp only [Option.bind_some]
  obtain ⟨s, hs, e1⟩ := mN_at (f := fun s => AR (hdO st) (k - 2) 0 0 C s) hV hpl
  have h4 : bL (hdO st) (k - 2) C = mN (fun s => AR (hdO st) (k - 2) 0 0 C s) 536870912 (PL (k - 2) (k - 2) 0) := rfl
  by_cases h : nB st k C (C / 2 ^ (k - 2)) = 0
  · rw [jif_t (show nI (nB st k C (C / 2 ^ (k - 2))) ≤ 0 from nI_le (b := 0) (by omega) (by omega)), q_Or_leastArriving_1, rdI_ok (a := 74) (n := 10) (i := 0) (k := 0) rfl rfl (by omega) (by omega)]
    simp only [Option.bind_some]
    rw [O'.2.2.2.2.1 0 (by omega), (flO_01 C).1, O'.2.2.1, c_ceiling (d + 4) hC (by omega), rI_s]
    simp only [Option.bind_some]
    rw [q_Or_leastArriving_2]
    have e : (C + 2 ^ (k - 2) - 1) / 2 ^ (k - 2) = bL (hdO st) (k - 2) C := by
      rcases h2 s hs with z | z
      · exact absurd h (nB_pos hs z)
      · rw [h4, ← e1]; exact z.symm
    rw [e]
  · rw [jif_f (show ¬ nI (nB st k C (C / 2 ^ (k - 2))) ≤ 0 from nI_ge (a := 0) (by omega) (by omega)), q_Or_leastArriving_2]
    have e : C / 2 ^ (k - 2) = bL (hdO st) (k - 2) C := by
      obtain ⟨s2, hs2, e2⟩ := (cN_pos _).mp (show 0 < nB st k C (C / 2 ^ (k - 2)) by omega)
      have h3 := mN_mem (f := fun s => AR (hdO st) (k - 2) 0 0 C s) (V := 536870912) _ hs2
      rcases h2 s hs with z | z <;> omega
    rw [e]
/-- the reference's most and least -/
theorem see_0 {σ1 σ5 : jS} {t k C w : Nat} {r car hm : Nat → Nat} {aim b1 b2 : Int32} {c1 c2 c3 c4 : Int64} (hk : 2 ≤ k) (hk10 : k ≤ 10) (hC : C ≤ 999999) (r4 : FS σ5 ((PL (k - 2) (k - 2) 0).foldl (seeF (vS σ1 t k C 0 w r car) (aS 0 w) (cS k r car) (hitS σ1 t k C r car aim) (farS k hm)) ((-1, b1, c1), (-1, b2, c2), (0, c3), (-1, c4)))) :
    σ5.1 86 59 = nI (bM (hdC σ1 t k C r car) (k - 2) C) ∧ (∀ s, fN (fun s => AR (hdC σ1 t k C r car) (k - 2) 0 0 C s = bM (hdC σ1 t k C r car) (k - 2) C) (PL (k - 2) (k - 2) 0) = some s → σ5.2.1 86 63 = cS k r car s) ∧ σ5.1 86 60 = nI (bL (hdC σ1 t k C r car) (k - 2) C) ∧ (∀ s, fN (fun s => AR (hdC σ1 t k C r car) (k - 2) 0 0 C s = bL (hdC σ1 t k C r car) (k - 2) C) (PL (k - 2) (k - 2) 0) = some s → σ5.2.1 86 64 = cS k r car s) := by
  have ev : vS σ1 t k C 0 w r car = fun s => nI (AR (hdC σ1 t k C r car) (k - 2) 0 0 C s) := rfl
  have hV : ∀ s, AR (hdC σ1 t k C r car) (k - 2) 0 0 C s < 536870912 := fun s => by
    have := AR_le (hd := hdC σ1 t k C r car) (m := k - 2) (fun p l x c => hdO_le _ p l x c) s 0 0 C
    omega
  have hpl := PL_n0 (m := k - 2) (by omega)
  rw [ev, fold_see] at r4
  obtain ⟨f1, f2, f3, f4, f5, f6, -⟩ := r4
  obtain ⟨s1, x1, x2⟩ := fM_0 (f := fun s => AR (hdC σ1 t k C r car) (k - 2) 0 0 C s) (a := aS 0 w) (c := cS k r car) (a0 := b1) (c0 := c1) (fun s => by have := hV s; omega) _ hpl
  obtain ⟨s2, y1, y2⟩ := fL_0 (f := fun s => AR (hdC σ1 t k C r car) (k - 2) 0 0 C s) (a := aS 0 w) (c := cS k r car) (a0 := b2) (c0 := c2) (by omega) hV _ hpl
  refine ⟨?_, fun s hs => ?_, ?_, fun s hs => ?_⟩
  · rw [f1]
    exact (congrArg (fun q : Int32 × Int32 × Int64 => q.1) x2).trans (congrArg nI (fN_p x1).2)
  · rw [f3]
    have : s1 = s := Option.some.inj (x1.symm.trans hs)
    rw [← this]
    exact congrArg (fun q : Int32 × Int32 × Int64 => q.2.2) x2
  · rw [f4]
    exact (congrArg (fun q : Int32 × Int32 × Int64 => q.1) y2).trans (congrArg nI (fN_p y1).2)
  · rw [f6]
    have : s2 = s := Option.some.inj (y1.symm.trans hs)
    rw [← this]
    exact congrArg (fun q : Int32 × Int32 × Int64 => q.2.2) y2
theorem op_best (d : Nat) (n x y : Int32) (code : Int64) (σ : jS) (t : Nat) (g : jInv σ t) : opI (g_HH_best (d + 18) n code x y) (g_M_best (d + 18) n code x y) σ := by
  obtain ⟨N, hN, rfl⟩ := wb_of code
  obtain ⟨A, σ1, hA, a1, g1, c1, c3⟩ := ord_c (d + 13) n x hN σ t g
  have ht := g.1
  by_cases h : (rowOK N n A ∧ 0 ≤ x ∧ x ≤ 999999) ∧ 0 ≤ y ∧ y ≤ 1
  · obtain ⟨k, e1, hR, hP⟩ := c3 h.1.1
    subst e1
    obtain ⟨C, hC, rfl⟩ := in_nI (M := 999999) rfl (by omega) h.1.2
    obtain ⟨y, hy, rfl⟩ := in_nI (M := 1) rfl (by omega) h.2
    obtain ⟨σ2, car, hm, p1, p2, p3, p4, p5⟩ := ord_t (d + 11) hA hC σ1 g1 a1 hR hP
    have hk := hR.1
    have hk10 := hR.2.1
    have h2 := two_1 (σ := σ1) (t := t) (C := C) hk hk10 hA p5 hP.1 hP.2
    have hpl := PL_n0 (m := k - 2) (by omega)
    have hV : ∀ s, AR (hdC σ1 t k C (nib N) car) (k - 2) 0 0 C s < 536870912 := fun s => by
      have := AR_le (hd := hdC σ1 t k C (nib N) car) (m := k - 2) (fun p l x c => hdO_le _ p l x c) s 0 0 C
      omega
    have hC0 : g_HH_best (d + 18) (nI k) (lN N) (nI C) (nI y) σ = jif (nI y = 0) ((r_I (g_Or_mostArriving (d + 17) σ2)).bind fun q2 => b_HH_best_4 (d + 17) q2.1 q2.2) (b_HH_best_3 (d + 17) σ2) := by
      rw [e_HH_best, q_HH_best_0, c1, rI_s]
      simp only [Option.bind_some]
      rw [b2i_t h.1, jif_f (by decide), c_within, rI_s]
      simp only [Option.bind_some]
      rw [if_pos h.2, jif_f (by decide), q_HH_best_2, g1.2.1, p1, rV_s]
      simp only [Option.bind_some]
    have hM0 : ∀ σe, jep (oc_S t) σ1 σe → ∃ σ5, g_M_best (d + 18) (nI k) (lN N) (nI C) (nI y) σe = jif (nI y = 0) (b_M_best_4 (d + 17) (σ5.1 86 59) σ5) (b_M_best_3 (d + 17) σ5) ∧ jInv σ5 t ∧ σ5.1 86 59 = nI (bM (hdC σ1 t k C (nib N) car) (k - 2) C) ∧ (∀ s, fN (fun s => AR (hdC σ1 t k C (nib N) car) (k - 2) 0 0 C s = bM (hdC σ1 t k C (nib N) car) (k - 2) C) (PL (k - 2) (k - 2) 0) = some s → σ5.2.1 86 63 = cS k (nib N) car s) ∧ σ5.1 86 60 = nI (bL (hdC σ1 t k C (nib N) car) (k - 2) C) ∧ (∀ s, fN (fun s => AR (hdC σ1 t k C (nib N) car) (k - 2) 0 0 C s = bL (hdC σ1 t k C (nib N) car) (k - 2) C) (PL (k - 2) (k - 2) 0) = some s → σ5.2.1 86 64 = cS k (nib N) car s) := fun σe Se => by
      obtain ⟨σ3, σ4, m1, m2, m3, m4, m5⟩ := ord_m (d + 1) (nI k) (nI C) hN hA σ1 σe g1 a1 Se
      obtain ⟨-, m6⟩ := m5 k C car hm rfl rfl hk hk10 hC hP p5 h.1
      obtain ⟨σ5, b1, c1, b2, c2, c3, c4, r1, r2, r3, r4⟩ := m6 0 0 (-1) (-1) (by omega) (fun z => absurd z (by decide))
      refine ⟨σ5, ?_, r2, see_0 hk hk10 hC r4⟩
      have r1' : g_M_goesThrough (d + 17) (nI C) (-1) 0 (-1) σ4 = some (none, σ5) := r1
      have m1' : g_M_plain (d + 17) (j_setI σe 86 0 0) = some (none, σ3) := m1
      rw [e_M_best, q_M_best_0, m1', rV_s]
      simp only [Option.bind_some]
      rw [jif_f (Int32.not_lt.mpr h.2.1), jif_f (Int32.not_lt.mpr h.2.2), show g_M_takesSent (d + 17) (nI k) (lN N) (nI C) σ3 = _ from m3, rI_s]
      simp only [Option.bind_some]
      rw [b2i_t h.1, jif_f (by decide), q_M_best_2, r1', rV_s]
      simp only [Option.bind_some]
    have hy' : y = 0 ∨ y = 1 := by omega
    rcases hy' with rfl | rfl
    · obtain ⟨σe, u1, u2⟩ := c_most (d + 11) hk10 hC h2 σ2 p4
      rw [jif_t nI_0, show g_Or_mostArriving (d + 17) σ2 = _ from u1, rI_s] at hC0
      simp only [Option.bind_some] at hC0
      rw [q_HH_best_4] at hC0
      obtain ⟨σ5, v1, v2, v3, v4, v5, v6⟩ := hM0 σe (p2.tr (u2.mono (fun b j h => or_oc (so_or h))))
      rw [jif_t nI_0, v3, q_M_best_4] at v1
      exact ⟨_, σe, σ5, t, hC0, v1, v2⟩
    · obtain ⟨σe, u1, u2⟩ := c_leastA (d + 11) hk10 hC h2 σ2 p4
      rw [jif_f (by decide), q_HH_best_3, show g_Or_leastArriving (d + 17) σ2 = _ from u1, rI_s] at hC0
      simp only [Option.bind_some] at hC0
      rw [q_HH_best_4] at hC0
      obtain ⟨σ5, v1, v2, v3, v4, v5, v6⟩ := hM0 σe (p2.tr (u2.mono (fun b j h => or_oc (so_or h))))
      rw [jif_f (by decide), q_M_best_3, v5, q_M_best_4] at v1
      exact ⟨_, σe, σ5, t, hC0, v1, v2⟩
  · refine ⟨-1, σ1, ?_⟩
    obtain ⟨σ3, σ4, m1, m2, m3, m4, -⟩ := ord_m (d + 1) n x hN hA σ1 σ1 g1 a1 jep.rf
    have hC0 : g_HH_best (d + 18) n (lN N) x y σ = some (some (.int (-1)), σ1) := by
      rw [e_HH_best, q_HH_best_0, c1, rI_s]
      simp only [Option.bind_some]
      by_cases h1 : rowOK N n A ∧ 0 ≤ x ∧ x ≤ 999999
      · rw [b2i_t h1, jif_f (by decide), c_within, rI_s]
        simp only [Option.bind_some]
        rw [if_neg (fun h3 => h ⟨h1, h3⟩), jif_t rfl, q_HH_best_1]
      · rw [b2i_f h1, jif_t rfl, q_HH_best_1]
    have hM0 : ∃ σ5, g_M_best (d + 18) n (lN N) x y σ1 = some (some (.int (-1)), σ5) ∧ jInv σ5 t := by
      rw [e_M_best, q_M_best_0, show g_M_plain (d + 17) (j_setI σ1 86 0 0) = _ from m1, rV_s]
      simp only [Option.bind_some]
      by_cases b1 : y < 0
      · rw [jif_t b1, q_M_best_1]; exact ⟨_, rfl, m2⟩
      rw [jif_f b1]
      by_cases b2 : 1 < y
      · rw [jif_t b2, q_M_best_1]; exact ⟨_, rfl, m2⟩
      rw [jif_f b2, show g_M_takesSent (d + 17) n (lN N) x σ3 = _ from m3, rI_s]
      simp only [Option.bind_some]
      rw [b2i_f (fun h1 => h ⟨h1, Int32.not_lt.mp b1, Int32.not_lt.mp b2⟩), jif_t rfl, q_M_best_1]
      exact ⟨_, rfl, m4⟩
    obtain ⟨σ5, v1, v2⟩ := hM0
    exact ⟨σ5, t, hC0, v1, v2⟩
theorem op_order (d : Nat) (n x y : Int32) (code : Int64) (σ : jS) (t : Nat) (g : jInv σ t) : opL (g_HH_order (d + 18) n code x y) (g_M_order (d + 18) n code x y) σ := by
  obtain ⟨N, hN, rfl⟩ := wb_of code
  obtain ⟨A, σ1, hA, a1, g1, c1, c3⟩ := ord_c (d + 13) n x hN σ t g
  have ht := g.1
  by_cases h : (rowOK N n A ∧ 0 ≤ x ∧ x ≤ 999999) ∧ 0 ≤ y ∧ y ≤ 1
  · obtain ⟨k, e1, hR, hP⟩ := c3 h.1.1
    subst e1
    obtain ⟨C, hC, rfl⟩ := in_nI (M := 999999) rfl (by omega) h.1.2
    obtain ⟨y, hy, rfl⟩ := in_nI (M := 1) rfl (by omega) h.2
    obtain ⟨σ2, car, hm, p1, p2, p3, p4, p5⟩ := ord_t (d + 11) hA hC σ1 g1 a1 hR hP
    have hk := hR.1
    have hk10 := hR.2.1
    have h2 := two_1 (σ := σ1) (t := t) (C := C) hk hk10 hA p5 hP.1 hP.2
    have hpl := PL_n0 (m := k - 2) (by omega)
    have hV : ∀ s, AR (hdC σ1 t k C (nib N) car) (k - 2) 0 0 C s < 536870912 := fun s => by
      have := AR_le (hd := hdC σ1 t k C (nib N) car) (m := k - 2) (fun p l x c => hdO_le _ p l x c) s 0 0 C
      omega
    have hC0 : g_HH_order (d + 18) (nI k) (lN N) (nI C) (nI y) σ = jif (nI y = 0) ((r_I (g_Or_mostArriving (d + 17) σ2)).bind fun q2 => b_HH_order_4 (d + 17) q2.1 q2.2) (b_HH_order_3 (d + 17) σ2) := by
      rw [e_HH_order, q_HH_order_0, c1, rI_s]
      simp only [Option.bind_some]
      rw [b2i_t h.1, jif_f (by decide), c_within, rI_s]
      simp only [Option.bind_some]
      rw [if_pos h.2, jif_f (by decide), q_HH_order_2, g1.2.1, p1, rV_s]
      simp only [Option.bind_some]
    have hM0 : ∀ σe, jep (oc_S t) σ1 σe → ∃ σ5, g_M_order (d + 18) (nI k) (lN N) (nI C) (nI y) σe = jif (nI y = 0) (b_M_order_4 (d + 17) (σ5.2.1 86 63) σ5) (b_M_order_3 (d + 17) σ5) ∧ jInv σ5 t ∧ σ5.1 86 59 = nI (bM (hdC σ1 t k C (nib N) car) (k - 2) C) ∧ (∀ s, fN (fun s => AR (hdC σ1 t k C (nib N) car) (k - 2) 0 0 C s = bM (hdC σ1 t k C (nib N) car) (k - 2) C) (PL (k - 2) (k - 2) 0) = some s → σ5.2.1 86 63 = cS k (nib N) car s) ∧ σ5.1 86 60 = nI (bL (hdC σ1 t k C (nib N) car) (k - 2) C) ∧ (∀ s, fN (fun s => AR (hdC σ1 t k C (nib N) car) (k - 2) 0 0 C s = bL (hdC σ1 t k C (nib N) car) (k - 2) C) (PL (k - 2) (k - 2) 0) = some s → σ5.2.1 86 64 = cS k (nib N) car s) := fun σe Se => by
      obtain ⟨σ3, σ4, m1, m2, m3, m4, m5⟩ := ord_m (d + 1) (nI k) (nI C) hN hA σ1 σe g1 a1 Se
      obtain ⟨-, m6⟩ := m5 k C car hm rfl rfl hk hk10 hC hP p5 h.1
      obtain ⟨σ5, b1, c1, b2, c2, c3, c4, r1, r2, r3, r4⟩ := m6 0 0 (-1) (-1) (by omega) (fun z => absurd z (by decide))
      refine ⟨σ5, ?_, r2, see_0 hk hk10 hC r4⟩
      have r1' : g_M_goesThrough (d + 17) (nI C) (-1) 0 (-1) σ4 = some (none, σ5) := r1
      have m1' : g_M_plain (d + 17) (j_setI σe 86 0 0) = some (none, σ3) := m1
      rw [e_M_order, q_M_order_0, m1', rV_s]
      simp only [Option.bind_some]
      rw [jif_f (Int32.not_lt.mpr h.2.1), jif_f (Int32.not_lt.mpr h.2.2), show g_M_takesSent (d + 17) (nI k) (lN N) (nI C) σ3 = _ from m3, rI_s]
      simp only [Option.bind_some]
      rw [b2i_t h.1, jif_f (by decide), q_M_order_2, r1', rV_s]
      simp only [Option.bind_some]
    have hy' : y = 0 ∨ y = 1 := by omega
    rcases hy' with rfl | rfl
    · obtain ⟨σe, u1, u2⟩ := c_most (d + 11) hk10 hC h2 σ2 p4
      rw [jif_t nI_0, show g_Or_mostArriving (d + 17) σ2 = _ from u1, rI_s] at hC0
      simp only [Option.bind_some] at hC0
      have S1 : jep or_S σ2 σe := u2.mono (fun b j h => so_or h)
      obtain ⟨s0, hs0, e0⟩ := xN_at (f := fun s => AR (hdC σ1 t k C (nib N) car) (k - 2) 0 0 C s) hpl
      have hlt : bM (hdC σ1 t k C (nib N) car) (k - 2) C < 2 ^ 31 := by
        have := hV s0
        have e9 : bM (hdC σ1 t k C (nib N) car) (k - 2) C = AR (hdC σ1 t k C (nib N) car) (k - 2) 0 0 C s0 := e0.symm
        omega
      obtain ⟨v, σf, w1, w2, w3⟩ := c_firstB (d + 10) (T := bM (hdC σ1 t k C (nib N) car) (k - 2) C) hk10 hlt σe (p3.fr S1 (fun b j h q => by unfold or_S at q; omega)) (p4.fr S1)
      rw [q_HH_order_4, show g_Or_firstBringing (d + 17) (nI (bM (hdO (stO σ1 t (k - 2) C car (nib N (k - 1)))) (k - 2) C)) σe = _ from w1, rL_s] at hC0
      simp only [Option.bind_some] at hC0
      obtain ⟨σ5, v1, v2, v3, v4, v5, v6⟩ := hM0 σf ((p2.tr (S1.mono (fun b j h => or_oc h))).tr (w2.mono (fun b j h => or_oc h)))
      rcases w3 with ⟨z1, -⟩ | ⟨-, s, z2, z3⟩
      · exact absurd z1 (nB_pos hs0 e0)
      · rw [jif_t nI_0, q_M_order_4, v4 s z2, ← z3] at v1
        exact ⟨_, σf, σ5, t, hC0, v1, v2⟩
    · obtain ⟨σe, u1, u2⟩ := c_leastA (d + 11) hk10 hC h2 σ2 p4
      rw [jif_f (by decide), q_HH_order_3, show g_Or_leastArriving (d + 17) σ2 = _ from u1, rI_s] at hC0
      simp only [Option.bind_some] at hC0
      have S1 : jep or_S σ2 σe := u2.mono (fun b j h => so_or h)
      obtain ⟨s0, hs0, e0⟩ := mN_at (f := fun s => AR (hdC σ1 t k C (nib N) car) (k - 2) 0 0 C s) hV hpl
      have hlt : bL (hdC σ1 t k C (nib N) car) (k - 2) C < 2 ^ 31 := by
        have := hV s0
        have e9 : bL (hdC σ1 t k C (nib N) car) (k - 2) C = AR (hdC σ1 t k C (nib N) car) (k - 2) 0 0 C s0 := e0.symm
        omega
      obtain ⟨v, σf, w1, w2, w3⟩ := c_firstB (d + 10) (T := bL (hdC σ1 t k C (nib N) car) (k - 2) C) hk10 hlt σe (p3.fr S1 (fun b j h q => by unfold or_S at q; omega)) (p4.fr S1)
      rw [q_HH_order_4, show g_Or_firstBringing (d + 17) (nI (bL (hdO (stO σ1 t (k - 2) C car (nib N (k - 1)))) (k - 2) C)) σe = _ from w1, rL_s] at hC0
      simp only [Option.bind_some] at hC0
      obtain ⟨σ5, v1, v2, v3, v4, v5, v6⟩ := hM0 σf ((p2.tr (S1.mono (fun b j h => or_oc h))).tr (w2.mono (fun b j h => or_oc h)))
      rcases w3 with ⟨z1, -⟩ | ⟨-, s, z2, z3⟩
      · exact absurd z1 (nB_pos hs0 e0)
      · rw [jif_f (by decide), q_M_order_3, q_M_order_4, v6 s z2, ← z3] at v1
        exact ⟨_, σf, σ5, t, hC0, v1, v2⟩
  · refine ⟨-1, σ1, ?_⟩
    obtain ⟨σ3, σ4, m1, m2, m3, m4, -⟩ := ord_m (d + 1) n x hN hA σ1 σ1 g1 a1 jep.rf
    have hC0 : g_HH_order (d + 18) n (lN N) x y σ = some (some (.long (-1)), σ1) := by
      rw [e_HH_order, q_HH_order_0, c1, rI_s]
      simp only [Option.bind_some]
      by_cases h1 : rowOK N n A ∧ 0 ≤ x ∧ x ≤ 999999
      · rw [b2i_t h1, jif_f (by decide), c_within, rI_s]
        simp only [Option.bind_some]
        rw [if_neg (fun h3 => h ⟨h1, h3⟩), jif_t rfl, q_HH_order_1]
      · rw [b2i_f h1, jif_t rfl, q_HH_order_1]
    have hM0 : ∃ σ5, g_M_order (d + 18) n (lN N) x y σ1 = some (some (.long (-1)), σ5) ∧ jInv σ5 t := by
      rw [e_M_order, q_M_order_0, show g_M_plain (d + 17) (j_setI σ1 86 0 0) = _ from m1, rV_s]
      simp only [Option.bind_some]
      by_cases b1 : y < 0
      · rw [jif_t b1, q_M_order_1]; exact ⟨_, rfl, m2⟩
      rw [jif_f b1]
      by_cases b2 : 1 < y
      · rw [jif_t b2, q_M_order_1]; exact ⟨_, rfl, m2⟩
      rw [jif_f b2, show g_M_takesSent (d + 17) n (lN N) x σ3 = _ from m3, rI_s]
      simp only [Option.bind_some]
      rw [b2i_f (fun h1 => h ⟨h1, Int32.not_lt.mp b1, Int32.not_lt.mp b2⟩), jif_t rfl, q_M_order_1]
      exact ⟨_, rfl, m4⟩
    obtain ⟨σ5, v1, v2⟩ := hM0
    exact ⟨σ5, t, hC0, v1, v2⟩
