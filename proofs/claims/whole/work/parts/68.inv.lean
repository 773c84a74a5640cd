/-! Paths against rows. -/
theorem PL_mem {m : Nat} (hm : m ≤ 8) : ∀ (r P : Nat) (s : List Nat), s ∈ PL m r P → pc P + r = m → P < 2 ^ m → s.Nodup ∧ ∀ y, y < m → (y ∈ s ↔ P.testBit y = false)
  | 0, P, s, hs, hr, hP => by
    have es : s = [] := by simpa [PL] using hs
    subst es
    refine ⟨List.nodup_nil, fun y hy => ⟨fun z => absurd z List.not_mem_nil, fun z => ?_⟩⟩
    rw [full_bit hm hP (by omega) hy] at z
    exact absurd z (by decide)
  | r + 1, P, s, hs, hr, hP => by
    obtain ⟨x, s', h1, h2, h3, h4, h5⟩ := (mem_cat m 0).mp hs
    subst h5
    have hpc := pc_or P (m256 hm hP) x (by omega) h3
    obtain ⟨i1, i2⟩ := PL_mem hm r (P ||| 2 ^ x) s' h4 (by omega) (or_lt hP (by omega))
    have key : ∀ y, y < m → (y ∈ s' ↔ P.testBit y = false ∧ y ≠ x) := fun y hy => by
      rw [i2 y hy, Nat.testBit_or]
      by_cases e : y = x
      · subst e; rw [Nat.testBit_two_pow_self, Bool.or_true]; simp
      · rw [Nat.testBit_two_pow_of_ne (by omega), Bool.or_false]; simp [e]
    refine ⟨List.nodup_cons.mpr ⟨fun z => ((key x (by omega)).mp z).2 rfl, i1⟩, fun y hy => ?_⟩
    rw [List.mem_cons, key y hy]
    refine ⟨fun z => ?_, fun z => ?_⟩
    · rcases z with rfl | z
      · exact h3
      · exact z.1
    · by_cases e : y = x
      · exact Or.inl e
      · exact Or.inr ⟨z, e⟩
/-- both halve alike -/
theorem hd_hf {σ : jS} {t m C get p l x c : Nat} {car f : Nat → Nat} (hp : p ≠ 0) (hc : c = flO C p ∨ c = flO C p + 1) (e1 : f p = car l) (e2 : f (p + 1) = if x < m then car x else get) : hdO (stO σ t m C car get) p l x c = hf (odP σ t 4 f) p c := by
  unfold hdO hf
  rw [if_neg hp]
  have key : c % 2 = 1 → (stO σ t m C car get p l x ↔ odP σ t 4 f p c) := fun ho => by
    unfold stO odP
    rw [e1, e2]
    have : o1 (flO C p) = c := by
      unfold o1
      by_cases z : flO C p % 2 = 0
      · rw [if_pos z]; omega
      · rw [if_neg z]; omega
    rw [this]
  by_cases ho : c % 2 = 1
  · by_cases q : stO σ t m C car get p l x
    · rw [if_neg (fun z => z.2 q), if_neg (fun z => z.2 ((key ho).mp q))]
    · rw [if_pos ⟨ho, q⟩, if_pos ⟨ho, fun z => q ((key ho).mpr z)⟩]
  · rw [if_neg (fun z => ho z.1), if_neg (fun z => ho z.1)]
theorem drop_cons : ∀ (s : List Nat) (p : Nat), p < s.length → s.drop p = s.getD p 0 :: s.drop (p + 1)
  | [], p, h => absurd h (Nat.not_lt_zero _)
  | x :: s, 0, _ => rfl
  | x :: s, p + 1, h => drop_cons s p (by rw [List.length_cons] at h; omega)
theorem AR_l {σ : jS} {t m C get : Nat} {car f : Nat → Nat} {s : List Nat} (hl : s.length = m) (hs : ∀ i, i < m → s.getD i 0 < m) (hf1 : ∀ i, 1 ≤ i → i ≤ m → f i = car (s.getD (i - 1) 0)) (hf2 : f (m + 1) = get) : ∀ (n p c : Nat), p + n = m → 1 ≤ p → (c = flO C p ∨ c = flO C p + 1) → AR (hdO (stO σ t m C car get)) m p (s.getD (p - 1) 0) c (s.drop p) = arN (odP σ t 4 f) (n + 1) p c
  | 0, p, c, hp, h1, hc => by
    have hd : s.drop p = [] := List.drop_eq_nil_of_le (by omega)
    rw [hd]
    show hdO _ p _ m c = hf _ p c
    exact hd_hf (by omega) hc (hf1 p h1 (by omega)) (by rw [show p + 1 = m + 1 by omega, hf2, if_neg (by omega)])
  | n + 1, p, c, hp, h1, hc => by
    rw [drop_cons s p (by omega)]
    have e := hd_hf (σ := σ) (t := t) (m := m) (C := C) (get := get) (p := p) (l := s.getD (p - 1) 0) (x := s.getD p 0) (c := c) (car := car) (f := f) (by omega) hc (hf1 p h1 (by omega)) (by rw [hf1 (p + 1) (by omega) (by omega), Nat.add_sub_cancel, if_pos (hs p (by omega))])
    show AR _ m (p + 1) (s.getD p 0) (hdO _ p (s.getD (p - 1) 0) (s.getD p 0) c) (s.drop (p + 1)) = arN _ (n + 1) (p + 1) (hf _ p c)
    have hc2 := hd_fl (st := stO σ t m C car get) (C := C) (p := p) (l := s.getD (p - 1) 0) (x := s.getD p 0) (c := c) (hc.imp id (fun z => ⟨by omega, z⟩))
    rw [← e]
    have := AR_l (σ := σ) (t := t) hl hs hf1 hf2 n (p + 1) (hdO (stO σ t m C car get) p (s.getD (p - 1) 0) (s.getD p 0) c) (by omega) (by omega) hc2
    rw [Nat.add_sub_cancel] at this
    exact this
theorem AR_arN {σ : jS} {t m C get : Nat} {car f : Nat → Nat} {s : List Nat} (hl : s.length = m) (hs : ∀ i, i < m → s.getD i 0 < m) (hf1 : ∀ i, 1 ≤ i → i ≤ m → f i = car (s.getD (i - 1) 0)) (hf2 : f (m + 1) = get) : AR (hdO (stO σ t m C car get)) m 0 0 C s = arN (odP σ t 4 f) m 1 C := by
  by_cases e : m = 0
  · subst e
    have : s = [] := List.eq_nil_of_length_eq_zero hl
    subst this
    show hdO _ 0 0 0 C = C
    unfold hdO; rw [if_pos rfl]
  · have hd0 : s = s.getD 0 0 :: s.drop 1 := by
      have := drop_cons s 0 (by omega)
      rw [List.drop_zero] at this
      exact this
    have h := AR_l (σ := σ) (t := t) (C := C) hl hs hf1 hf2 (m - 1) 1 C (by omega) (Nat.le_refl _) (Or.inl (flO_01 C).2.symm)
    rw [show m - 1 + 1 = m by omega] at h
    rw [← h]
    conv => lhs; rw [hd0]
    show AR _ m 1 (s.getD 0 0) (hdO _ 0 0 (s.getD 0 0) C) (s.drop 1) = _
    have e0 : hdO (stO σ t m C car get) 0 0 (s.getD 0 0) C = C := by unfold hdO; rw [if_pos rfl]
    rw [e0]
theorem plc_r {w : Nat} : ∀ (s : List Nat), w ∈ s → 1 ≤ plc w s ∧ plc w s ≤ s.length ∧ s.getD (plc w s - 1) 0 = w
  | [], h => absurd h List.not_mem_nil
  | x :: s, h => by
    unfold plc
    by_cases e : x = w
    · rw [if_pos e]; exact ⟨Nat.le_refl _, by rw [List.length_cons]; omega, e⟩
    · rw [if_neg e]
      rcases List.mem_cons.mp h with h | h
      · exact absurd h.symm e
      · obtain ⟨a, b, c⟩ := plc_r s h
        refine ⟨by omega, by rw [List.length_cons]; omega, ?_⟩
        rw [show 1 + plc w s - 1 = (plc w s - 1) + 1 by omega]
        exact c
theorem plc_lt {w : Nat} : ∀ (s : List Nat) (i : Nat), i + 1 < plc w s → s.getD i 0 ≠ w
  | [], i, h => absurd h (Nat.not_lt_zero _)
  | x :: s, i, h => by
    unfold plc at h
    by_cases e : x = w
    · rw [if_pos e] at h; omega
    · rw [if_neg e] at h
      cases i with
      | zero => exact e
      | succ i => exact plc_lt s i (by omega)
theorem KP_l {σ : jS} {t m C get w q : Nat} {car f : Nat → Nat} {s : List Nat} (hl : s.length = m) (hs : ∀ i, i < m → s.getD i 0 < m) (hf1 : ∀ i, 1 ≤ i → i ≤ m → f i = car (s.getD (i - 1) 0)) (hf2 : f (m + 1) = get) (hq : q ≤ m) (hq1 : 1 ≤ q) (hqw : s.getD (q - 1) 0 = w) (hqn : ∀ i, i + 1 < q → s.getD i 0 ≠ w) : ∀ (n p c : Nat), p + n = q → 1 ≤ p → (c = flO C p ∨ c = flO C p + 1) → KP (hdO (stO σ t m C car get)) m w p (s.getD (p - 1) 0) c (s.drop p) = arN (odP σ t 4 f) n p c - hf (odP σ t 4 f) q (arN (odP σ t 4 f) n p c)
  | 0, p, c, hp, h1, hc => by
    have ep : p = q := by omega
    subst ep
    show _ = c - hf (odP σ t 4 f) p c
    by_cases e : p = m
    · have hd : s.drop p = [] := List.drop_eq_nil_of_le (by omega)
      rw [hd]
      unfold KP
      rw [if_pos ⟨by omega, hqw⟩, hd_hf (by omega) hc (hf1 p h1 (by omega)) (by rw [show p + 1 = m + 1 by omega, hf2, if_neg (by omega)])]
    · rw [drop_cons s p (by omega)]
      unfold KP
      rw [if_pos ⟨by omega, hqw⟩, hd_hf (by omega) hc (hf1 p h1 (by omega)) (by rw [hf1 (p + 1) (by omega) (by omega), Nat.add_sub_cancel, if_pos (hs p (by omega))])]
  | n + 1, p, c, hp, h1, hc => by
    rw [drop_cons s p (by omega)]
    have e := hd_hf (σ := σ) (t := t) (m := m) (C := C) (get := get) (p := p) (l := s.getD (p - 1) 0) (x := s.getD p 0) (c := c) (car := car) (f := f) (by omega) hc (hf1 p h1 (by omega)) (by rw [hf1 (p + 1) (by omega) (by omega), Nat.add_sub_cancel, if_pos (hs p (by omega))])
    have hc2 := hd_fl (st := stO σ t m C car get) (C := C) (p := p) (l := s.getD (p - 1) 0) (x := s.getD p 0) (c := c) (hc.imp id (fun z => ⟨by omega, z⟩))
    rw [KP_cons (fun z => hqn (p - 1) (by omega) z.2)]
    have := KP_l (σ := σ) (t := t) hl hs hf1 hf2 hq hq1 hqw hqn n (p + 1) (hdO (stO σ t m C car get) p (s.getD (p - 1) 0) (s.getD p 0) c) (by omega) (by omega) hc2
    rw [Nat.add_sub_cancel] at this
    rw [this, e]
    rfl
theorem KP_arN {σ : jS} {t m C get w : Nat} {car f : Nat → Nat} {s : List Nat} (hl : s.length = m) (hs : ∀ i, i < m → s.getD i 0 < m) (hf1 : ∀ i, 1 ≤ i → i ≤ m → f i = car (s.getD (i - 1) 0)) (hf2 : f (m + 1) = get) (hw : w ∈ s) : KP (hdO (stO σ t m C car get)) m w 0 0 C s = arN (odP σ t 4 f) (plc w s - 1) 1 C - hf (odP σ t 4 f) (plc w s) (arN (odP σ t 4 f) (plc w s - 1) 1 C) := by
  obtain ⟨q1, q2, q3⟩ := plc_r s hw
  have hd0 : s = s.getD 0 0 :: s.drop 1 := by
    have := drop_cons s 0 (by omega)
    rw [List.drop_zero] at this
    exact this
  have h := KP_l (σ := σ) (t := t) (C := C) (w := w) (q := plc w s) hl hs hf1 hf2 (by omega) q1 q3 (fun i hi => plc_lt s i hi) (plc w s - 1) 1 C (by omega) (Nat.le_refl _) (Or.inl (flO_01 C).2.symm)
  rw [← h]
  conv => lhs; rw [hd0]
  rw [KP_cons (fun z => z.1 rfl)]
  have e0 : hdO (stO σ t m C car get) 0 0 (s.getD 0 0) C = C := by unfold hdO; rw [if_pos rfl]
  rw [e0]
theorem cSh_K {σ : jS} {t L : Nat} {r : Nat → Nat} {c p : Nat} (hc : c < 2 ^ 31) : cSh σ t L r (nI c) p = nI (c - hf (odP σ t L r) p c) := by
  unfold cSh lw_sh hf
  have h0 := nI_odd hc
  rw [nI_half hc] at h0 ⊢
  by_cases a : c % 2 = 0
  · rw [if_pos (Or.inl (h0.mpr a)), if_neg (fun z => by have := z.1; omega)]
    congr 1; omega
  · by_cases b : odP σ t L r p c
    · rw [if_neg (fun z => z.elim (fun y => a (h0.mp y)) (fun y => y b)), if_neg (fun z => z.2 b), nI_1]
      congr 1; omega
    · rw [if_pos (Or.inr (show ¬ lw_odd σ t L (nI c) (σ.1 (t + 2) (r p)) (σ.1 (t + 2) (r (p + 1))) (nI p) 0 from b)), if_pos ⟨by omega, b⟩]
      congr 1; omega
/-! Changes of neighbours, counted both ways. -/
def sm (l : List Nat) (f : Nat → Nat) : Nat := (l.map f).sum
theorem sm_nil (f : Nat → Nat) : sm [] f = 0 := rfl
theorem sm_cons (x : Nat) (l : List Nat) (f : Nat → Nat) : sm (x :: l) f = f x + sm l f := by unfold sm; rw [List.map_cons, List.sum_cons]
theorem sm_cong {f g : Nat → Nat} : ∀ l, (∀ x, x ∈ l → f x = g x) → sm l f = sm l g
  | [], _ => rfl
  | x :: l, h => by rw [sm_cons, sm_cons, h x List.mem_cons_self, sm_cong l (fun y hy => h y (List.mem_cons_of_mem _ hy))]
theorem sm_perm {l l' : List Nat} (h : l.Perm l') (f : Nat → Nat) : sm l f = sm l' f := (h.map f).sum_nat
theorem sm_add {f g : Nat → Nat} : ∀ l, sm l (fun x => f x + g x) = sm l f + sm l g
  | [] => rfl
  | x :: l => by rw [sm_cons, sm_cons, sm_cons, sm_add l]; omega
theorem sm_zero : ∀ l, sm l (fun _ => 0) = 0
  | [] => rfl
  | x :: l => by rw [sm_cons, sm_zero l]
theorem sm_swap {f : Nat → Nat → Nat} {l' : List Nat} : ∀ l, sm l (fun x => sm l' (fun y => f x y)) = sm l' (fun y => sm l (fun x => f x y))
  | [] => by rw [sm_nil]; show 0 = sm l' (fun _ => 0); rw [sm_zero]
  | x :: l => by
    rw [sm_cons, sm_swap l]
    have : (fun y => sm (x :: l) (fun x => f x y)) = fun y => f x y + sm l (fun x => f x y) := funext fun y => sm_cons _ _ _
    rw [this, sm_add]
theorem sm_map {f g : Nat → Nat} : ∀ l, sm (l.map g) f = sm l (fun x => f (g x))
  | [] => rfl
  | x :: l => by rw [List.map_cons, sm_cons, sm_cons, sm_map l]
/-- numbers a .. a + c - 1 -/
def rg : Nat → Nat → List Nat
  | 0, _ => []
  | c + 1, a => a :: rg c (a + 1)
theorem mem_rg : ∀ (c a y : Nat), y ∈ rg c a ↔ a ≤ y ∧ y < a + c
  | 0, a, y => ⟨fun h => absurd h List.not_mem_nil, fun h => absurd h.2 (by omega)⟩
  | c + 1, a, y => by
    unfold rg
    rw [List.mem_cons, mem_rg c (a + 1) y]
    omega
theorem rg_nodup : ∀ (c a : Nat), (rg c a).Nodup
  | 0, _ => List.nodup_nil
  | c + 1, a => List.nodup_cons.mpr ⟨fun h => by have := (mem_rg c (a + 1) a).mp h; omega, rg_nodup c (a + 1)⟩
noncomputable def i01 (p : Prop) : Nat := @ite _ p (Classical.propDecidable p) 1 0
theorem i01_t {p : Prop} (h : p) : i01 p = 1 := @if_pos _ (Classical.propDecidable p) h _ _ _
theorem i01_f {p : Prop} (h : ¬ p) : i01 p = 0 := @if_neg _ (Classical.propDecidable p) h _ _ _
theorem i01_iff {p q : Prop} (h : p ↔ q) : i01 p = i01 q := by
  by_cases z : q
  · rw [i01_t z, i01_t (h.mpr z)]
  · rw [i01_f z, i01_f (fun y => z (h.mp y))]
theorem ovN_sm {hm : Nat → Nat} {P x : Nat} : ∀ (c a : Nat), ovN hm P x c a = sm (rg c a) (fun y => i01 (P.testBit y = false ∧ hm y < hm x))
  | 0, _ => rfl
  | c + 1, a => by
    unfold ovN rg
    rw [sm_cons, ovN_sm c (a + 1)]
    congr 1
    by_cases h : P.testBit a = false ∧ hm a < hm x
    · rw [if_pos h, i01_t h]
    · rw [if_neg h, i01_f h]
theorem plc_cons {w x : Nat} {s : List Nat} (h : x ≠ w) : plc w (x :: s) = 1 + plc w s := if_neg h
theorem IV_sm {m : Nat} {hm : Nat → Nat} (hm8 : m ≤ 8) : ∀ (r P : Nat) (s : List Nat), s ∈ PL m r P → pc P + r = m → P < 2 ^ m → IV (ovO m hm) P s = sm s (fun x => sm (rg m 0) (fun y => i01 (P.testBit y = false ∧ hm y < hm x ∧ plc x s < plc y s)))
  | 0, P, s, hs, hr, hP => by
    have es : s = [] := by simpa [PL] using hs
    subst es
    rfl
  | r + 1, P, s, hs, hr, hP => by
    obtain ⟨_, hmem0⟩ := PL_mem hm8 (r + 1) P s hs hr hP
    obtain ⟨x, s', h1, h2, h3, h4, h5⟩ := (mem_cat m 0).mp hs
    subst h5
    have hpc := pc_or P (m256 hm8 hP) x (by omega) h3
    have hor := or_lt hP (show x < m by omega)
    obtain ⟨hnd, hmem⟩ := PL_mem hm8 r (P ||| 2 ^ x) s' h4 (by omega) hor
    have hbit : ∀ y, (P ||| 2 ^ x).testBit y = false ↔ (P.testBit y = false ∧ y ≠ x) := fun y => by
      rw [Nat.testBit_or]
      by_cases e : y = x
      · subst e; rw [Nat.testBit_two_pow_self, Bool.or_true]; simp
      · rw [Nat.testBit_two_pow_of_ne (by omega), Bool.or_false]; simp [e]
    have ih := IV_sm (hm := hm) hm8 r (P ||| 2 ^ x) s' h4 (by omega) hor
    have hlt' : ∀ y, y ∈ s' → y < m := (PL_size r _ s' h4).2
    show ovO m hm P x + IV (ovO m hm) (P ||| 2 ^ x) s' = _
    rw [ih, sm_cons]
    congr 1
    · unfold ovO
      rw [ovN_sm]
      refine sm_cong _ (fun y hy => i01_iff ?_)
      have hym := (mem_rg m 0 y).mp hy
      refine ⟨fun z => ⟨z.1, z.2, ?_⟩, fun z => ⟨z.1, z.2.1⟩⟩
      have hxy : x ≠ y := fun e => by subst e; have := z.2; omega
      have e1 : plc x (x :: s') = 1 := if_pos rfl
      have hy' : y ∈ s' := (hmem y (by omega)).mpr ((hbit y).mpr ⟨z.1, fun e => hxy e.symm⟩)
      have := (plc_r s' hy').1
      rw [e1, plc_cons hxy]
      omega
    · refine sm_cong _ (fun z hz => sm_cong _ (fun y hy => i01_iff ?_))
      have hym := (mem_rg m 0 y).mp hy
      have hzx : x ≠ z := fun e => by
        subst e
        have := (hbit x).mp ((hmem x (by omega)).mp hz)
        exact this.2 rfl
      have hz1 := (plc_r s' hz).1
      rw [hbit, plc_cons hzx]
      by_cases e : y = x
      · subst e
        have e1 : plc y (y :: s') = 1 := if_pos rfl
        rw [e1]
        exact ⟨fun q => absurd rfl q.1.2, fun q => by have := q.2.2; omega⟩
      · rw [plc_cons (fun q => e q.symm)]
        exact ⟨fun q => ⟨q.1.1, q.2.1, by omega⟩, fun q => ⟨⟨q.1, e⟩, q.2.1, by omega⟩⟩
/-- as the reference counts them: over places of the row itself -/
theorem IV_ref {m : Nat} {hm : Nat → Nat} {pos : Nat → Nat} {s : List Nat} (hm8 : m ≤ 8) (hs : s ∈ PL m m 0) (hmr : ∀ i, i < m → 1 ≤ hm i ∧ hm i ≤ m) (hmi : ∀ i j, i < j → j < m → hm i ≠ hm j) (hpos : ∀ x, x < m → pos (hm x) = plc x s) :
    IV (ovO m hm) 0 s = sm (rg m 1) (fun i => sm (rg m 1) (fun o => i01 (i < o ∧ pos o < pos i))) := by
  have e0 : pc 0 = 0 := by decide
  have h0 : (0 : Nat) < 2 ^ m := Nat.two_pow_pos m
  obtain ⟨hnd, hmem⟩ := PL_mem hm8 m 0 s hs (by omega) h0
  have hlt : ∀ y, y ∈ s → y < m := (PL_size m _ s hs).2
  rw [IV_sm hm8 m 0 s hs (by omega) h0]
  have hp1 : s.Perm (rg m 0) := (List.perm_ext_iff_of_nodup hnd (rg_nodup m 0)).mpr (fun a => by
    rw [mem_rg]
    refine ⟨fun h => ⟨by omega, by have := hlt a h; omega⟩, fun h => (hmem a (by omega)).mpr (Nat.zero_testBit a)⟩)
  have hinj : ∀ a b, a < m → b < m → hm a = hm b → a = b := fun a b ha hb e => by
    rcases Nat.lt_trichotomy a b with h | h | h
    · exact absurd e (hmi a b h hb)
    · exact h
    · exact absurd e.symm (hmi b a h ha)
  have hnd2 : ((rg m 0).map hm).Nodup := by
    have : ∀ (c a : Nat), a + c = m → ((rg c a).map hm).Nodup := by
      intro c
      induction c with
      | zero => intro a _; exact List.nodup_nil
      | succ c ih =>
        intro a ha
        show (hm a :: (rg c (a + 1)).map hm).Nodup
        refine List.nodup_cons.mpr ⟨fun h => ?_, ih (a + 1) (by omega)⟩
        obtain ⟨y, y1, y2⟩ := List.mem_map.mp h
        have := (mem_rg c (a + 1) y).mp y1
        exact hmi a y (by omega) (by omega) y2.symm
    exact this m 0 (by omega)
  have hsub : ∀ a, a ∈ (rg m 0).map hm → a ∈ rg m 1 := fun a h => by
    obtain ⟨y, y1, y2⟩ := List.mem_map.mp h
    have := (mem_rg m 0 y).mp y1
    have := hmr y (by omega)
    rw [mem_rg]
    omega
  have hp2 : ((rg m 0).map hm).Perm (rg m 1) := by
    refine (List.perm_ext_iff_of_nodup hnd2 (rg_nodup m 1)).mpr (fun a => ⟨hsub a, fun h => ?_⟩)
    -- all homes are taken
    have ha := (mem_rg m 1 a).mp h
    apply Classical.byContradiction
    intro hno
    have hne : ∀ i, i < m → hm i ≠ a := fun i hi e => hno (List.mem_map.mpr ⟨i, (mem_rg m 0 i).mpr ⟨by omega, by omega⟩, e⟩)
    have : m ≤ m - 1 := pigeon (m - 1) m (fun i => if hm i < a then hm i - 1 else hm i - 2) (fun i hi => by
      have h1 := hmr i hi
      have h2 := hne i hi
      show (if hm i < a then hm i - 1 else hm i - 2) < m - 1
      by_cases z : hm i < a
      · rw [if_pos z]; omega
      · rw [if_neg z]; omega) (fun i j h1 h2 e => by
      have a1 := hmr i (by omega)
      have a2 := hmr j h2
      have b1 := hne i (by omega)
      have b2 := hne j h2
      have c1 := hmi i j h1 h2
      have e' : (if hm i < a then hm i - 1 else hm i - 2) = (if hm j < a then hm j - 1 else hm j - 2) := e
      by_cases z1 : hm i < a
      · by_cases z2 : hm j < a
        · rw [if_pos z1, if_pos z2] at e'; omega
        · rw [if_pos z1, if_neg z2] at e'; omega
      · by_cases z2 : hm j < a
        · rw [if_neg z1, if_pos z2] at e'; omega
        · rw [if_neg z1, if_neg z2] at e'; omega)
    omega
  rw [sm_perm hp1]
  have step1 : sm (rg m 0) (fun x => sm (rg m 0) (fun y => i01 (Nat.testBit 0 y = false ∧ hm y < hm x ∧ plc x s < plc y s))) = sm (rg m 0) (fun x => sm (rg m 0) (fun y => i01 (hm y < hm x ∧ pos (hm x) < pos (hm y)))) :=
    sm_cong _ (fun x hx => sm_cong _ (fun y hy => i01_iff (by
      have hxm := (mem_rg m 0 x).mp hx
      have hym := (mem_rg m 0 y).mp hy
      rw [hpos x (by omega), hpos y (by omega)]
      exact ⟨fun z => z.2, fun z => ⟨Nat.zero_testBit y, z⟩⟩)))
  rw [step1]
  have step2 : sm (rg m 0) (fun x => sm (rg m 0) (fun y => i01 (hm y < hm x ∧ pos (hm x) < pos (hm y)))) = sm ((rg m 0).map hm) (fun o => sm ((rg m 0).map hm) (fun i => i01 (i < o ∧ pos o < pos i))) := by
    rw [sm_map]
    refine sm_cong _ (fun x _ => ?_)
    rw [sm_map]
  rw [step2, sm_perm hp2]
  have step3 : sm (rg m 1) (fun o => sm ((rg m 0).map hm) (fun i => i01 (i < o ∧ pos o < pos i))) = sm (rg m 1) (fun o => sm (rg m 1) (fun i => i01 (i < o ∧ pos o < pos i))) := sm_cong _ (fun o _ => sm_perm hp2 _)
  rw [step3]
  exact sm_swap (f := fun o i => i01 (i < o ∧ pos o < pos i)) (rg m 1)
