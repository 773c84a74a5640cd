/-! What the table tells: as the class works it out, and as a matter of paths. -/
def jEnd (hd : Nat → Nat → Nat → Nat → Nat) (m aim T p P l c : Nat) : Int32 :=
  if (aim = 2 ∨ aim = 3) ∧ P ≠ 0 ∧ l = T then nI (c - hd p l m c) else if aim = 0 then (if hd p l m c = T then 1 else 0) else if aim = 1 ∧ hd p l m c = T then 0 else 536870912
def jJoin (aim : Nat) (a b : Int32) : Int32 := if aim = 0 then a + b else if aim = 2 then (if a < b then b else a) else (if b < a then b else a)
def jIni (aim : Nat) : Int32 := if aim = 0 then 0 else if aim = 2 then -1 else 536870912
def jLoop (aim P : Nat) (S : Nat → Int32) : Nat → Nat → Int32 → Int32
  | 0, _, k => k
  | c + 1, a, k => jLoop aim P S c (a + 1) (if P.testBit a = true then k else jJoin aim k (S a))
def jStp (hd : Nat → Nat → Nat → Nat → Nat) (ov : Nat → Nat → Nat) (aim T p P l c x : Nat) (G : Int32) : Int32 :=
  if (aim = 2 ∨ aim = 3) ∧ P ≠ 0 ∧ l = T then nI (c - hd p l x c) else if aim = 1 then G + nI (ov P x) else G
def JG (hd : Nat → Nat → Nat → Nat → Nat) (ov : Nat → Nat → Nat) (m aim T : Nat) : Nat → Nat → Nat → Nat → Int32
  | 0, P, l, c => jEnd hd m aim T m P l c
  | r + 1, P, l, c => jLoop aim P (fun x => jStp hd ov aim T (m - (r + 1)) P l c x (JG hd ov m aim T r (P ||| 2 ^ x) x (hd (m - (r + 1)) l x c))) m 0 (jIni aim)
theorem jLoop_cong {aim P : Nat} {S S' : Nat → Int32} : ∀ (c a : Nat) (k : Int32), (∀ x, a ≤ x → x < a + c → P.testBit x = false → S x = S' x) → jLoop aim P S c a k = jLoop aim P S' c a k
  | 0, _, _, _ => rfl
  | c + 1, a, k, h => by
    unfold jLoop
    by_cases q : P.testBit a = true
    · rw [if_pos q, if_pos q]; exact jLoop_cong c (a + 1) k (fun x h1 h2 h3 => h x (by omega) (by omega) h3)
    · rw [if_neg q, if_neg q, h a (Nat.le_refl _) (by omega) (by cases e : P.testBit a <;> simp_all)]
      exact jLoop_cong c (a + 1) _ (fun x h1 h2 h3 => h x (by omega) (by omega) h3)
theorem jLoop0 {P : Nat} {Q : List Nat → Prop} {G : Nat → List (List Nat)} {S : Nat → Int32} : ∀ (c a k : Nat), (∀ x, a ≤ x → x < a + c → P.testBit x = false → S x = nI (cN (fun s => Q (x :: s)) (G x))) → jLoop 0 P S c a (nI k) = nI (k + cN Q (cat G P c a))
  | 0, _, _, _ => rfl
  | c + 1, a, k, h => by
    unfold jLoop cat
    rw [cN_app]
    by_cases q : P.testBit a = true
    · rw [if_pos q, if_pos q, jLoop0 c (a + 1) k (fun x h1 h2 h3 => h x (by omega) (by omega) h3)]
      congr 1
      show _ = k + (0 + _)
      omega
    · rw [if_neg q, if_neg q, h a (Nat.le_refl _) (by omega) (by cases e : P.testBit a <;> simp_all)]
      show jLoop 0 P S c (a + 1) (nI k + nI _) = _
      rw [nI_add, jLoop0 c (a + 1) _ (fun x h1 h2 h3 => h x (by omega) (by omega) h3), cN_map]
      congr 1
      omega
theorem nI_minI {a b : Nat} (ha : a < 2 ^ 31) (hb : b < 2 ^ 31) : (if nI b < nI a then nI b else nI a) = nI (min a b) := by
  by_cases h : b < a
  · rw [if_pos (nI_lt h ha), Nat.min_eq_right (by omega)]
  · rw [if_neg (nI_nlt (by omega) hb), Nat.min_eq_left (by omega)]
theorem jLoopm {aim P : Nat} (ha : aim = 1 ∨ aim = 3) {f : List Nat → Nat} {G : Nat → List (List Nat)} {S : Nat → Int32} : ∀ (c a k : Nat), k ≤ 536870912 → (∀ x, a ≤ x → x < a + c → P.testBit x = false → ∃ v, v < 2 ^ 31 ∧ S x = nI v ∧ min 536870912 v = mN (fun s => f (x :: s)) 536870912 (G x)) → jLoop aim P S c a (nI k) = nI (min k (mN f 536870912 (cat G P c a)))
  | 0, a, k, hk, _ => by
    show nI k = nI (min k 536870912)
    rw [Nat.min_eq_left hk]
  | c + 1, a, k, hk, h => by
    unfold jLoop cat
    rw [mN_app]
    by_cases q : P.testBit a = true
    · rw [if_pos q, if_pos q, jLoopm ha c (a + 1) k hk (fun x h1 h2 h3 => h x (by omega) (by omega) h3)]
      congr 1
      show _ = min k (min 536870912 _)
      have := mN_le (f := f) (V := 536870912) (cat G P c (a + 1))
      omega
    · obtain ⟨v, v1, v2, v3⟩ := h a (Nat.le_refl _) (by omega) (by cases e : P.testBit a <;> simp_all)
      have ej : jJoin aim (nI k) (S a) = nI (min k v) := by
        unfold jJoin
        rw [if_neg (by omega), if_neg (by omega), v2, nI_minI (by omega) v1]
      rw [if_neg q, if_neg q, ej, jLoopm ha c (a + 1) (min k v) (by omega) (fun x h1 h2 h3 => h x (by omega) (by omega) h3), mN_map, ← v3]
      congr 1
      omega
def dI (X : Nat) : Int32 := nI X - 1
theorem dI_toInt {X : Nat} (h : X < 2 ^ 30) : (dI X).toInt = (X : Int) - 1 := pk_sub_toInt (a := X) (b := 1) h (by omega)
theorem dI_lt {X Y : Nat} (hX : X < 2 ^ 30) (hY : Y < 2 ^ 30) : dI X < dI Y ↔ X < Y := by
  rw [Int32.lt_iff_toInt_lt, dI_toInt hX, dI_toInt hY]
  omega
theorem dI_s (X : Nat) : dI (X + 1) = nI X := nI_pred X
theorem dI_max {a b : Nat} (ha : a < 2 ^ 30) (hb : b < 2 ^ 30) : (if dI a < dI b then dI b else dI a) = dI (max a b) := by
  by_cases h : a < b
  · rw [if_pos ((dI_lt ha hb).mpr h), Nat.max_eq_right (by omega)]
  · rw [if_neg (fun z => h ((dI_lt ha hb).mp z)), Nat.max_eq_left (by omega)]
theorem jLoopx {P : Nat} {f : List Nat → Nat} {G : Nat → List (List Nat)} {S : Nat → Int32} : ∀ (c a k : Nat), k < 2 ^ 30 → (∀ x, a ≤ x → x < a + c → P.testBit x = false → S x = dI (xN (fun s => f (x :: s)) (G x)) ∧ xN (fun s => f (x :: s)) (G x) < 2 ^ 30) → jLoop 2 P S c a (dI k) = dI (max k (xN f (cat G P c a)))
  | 0, a, k, _, _ => by
    show dI k = dI (max k 0)
    rw [Nat.max_eq_left (by omega)]
  | c + 1, a, k, hk, h => by
    unfold jLoop cat
    rw [xN_app]
    by_cases q : P.testBit a = true
    · rw [if_pos q, if_pos q, jLoopx c (a + 1) k hk (fun x h1 h2 h3 => h x (by omega) (by omega) h3)]
      congr 1
    · obtain ⟨v1, v2⟩ := h a (Nat.le_refl _) (by omega) (by cases e : P.testBit a <;> simp_all)
      have ej : jJoin 2 (dI k) (S a) = dI (max k (xN (fun s => f (a :: s)) (G a))) := by
        unfold jJoin
        rw [if_neg (by omega), if_pos rfl, v1, dI_max hk v2]
      rw [if_neg q, if_neg q, ej, jLoopx c (a + 1) _ (by omega) (fun x h1 h2 h3 => h x (by omega) (by omega) h3), xN_map]
      congr 1
      omega
theorem cN_cong {Q Q' : List Nat → Prop} : ∀ l, (∀ s, Q s ↔ Q' s) → cN Q l = cN Q' l
  | [], _ => rfl
  | s :: l, h => by
    unfold cN
    rw [cN_cong l h]
    by_cases q : Q s
    · rw [if_pos q, if_pos ((h s).mp q)]
    · rw [if_neg q, if_neg (fun z => q ((h s).mpr z))]
theorem JG0 {hd : Nat → Nat → Nat → Nat → Nat} {ov : Nat → Nat → Nat} {m T : Nat} : ∀ (r P l c : Nat), r ≤ m → JG hd ov m 0 T r P l c = nI (cN (fun s => AR hd m (m - r) l c s = T) (PL m r P))
  | 0, P, l, c, _ => by
    show jEnd hd m 0 T m P l c = nI ((@ite _ (hd (m - 0) l m c = T) (Classical.propDecidable _) 1 0) + 0)
    unfold jEnd
    rw [if_neg (fun z => absurd z.1 (by omega)), if_pos rfl, Nat.sub_zero]
    by_cases h : hd m l m c = T
    · rw [if_pos h, if_pos h]; rfl
    · rw [if_neg h, if_neg h]; rfl
  | r + 1, P, l, c, hr => by
    show jLoop 0 P _ m 0 (jIni 0) = _
    have := jLoop0 (P := P) (Q := fun s => AR hd m (m - (r + 1)) l c s = T) (G := fun x => PL m r (P ||| 2 ^ x)) (S := fun x => jStp hd ov 0 T (m - (r + 1)) P l c x (JG hd ov m 0 T r (P ||| 2 ^ x) x (hd (m - (r + 1)) l x c))) m 0 0 (fun x _ _ _ => by
      show jStp hd ov 0 T (m - (r + 1)) P l c x _ = _
      unfold jStp
      rw [if_neg (fun z => absurd z.1 (by omega)), if_neg (by omega), JG0 r _ _ _ (by omega), show m - r = m - (r + 1) + 1 by omega]
      rfl)
    rw [Nat.zero_add] at this
    exact this
/-- paths that bring T, by their changes -/
noncomputable def fw (hd : Nat → Nat → Nat → Nat → Nat) (ov : Nat → Nat → Nat) (m T p P l c : Nat) (s : List Nat) : Nat := if AR hd m p l c s = T then IV ov P s else 536870912
theorem mN_shift {Q : List Nat → Prop} {iv : List Nat → Nat} {o : Nat} (dq : ∀ s, Decidable (Q s)) : ∀ l, min 536870912 (mN (fun s => @ite _ (Q s) (dq s) (iv s) 536870912) 536870912 l + o) = mN (fun s => @ite _ (Q s) (dq s) (o + iv s) 536870912) 536870912 l
  | [] => by show min 536870912 (536870912 + o) = 536870912; omega
  | s :: l => by
    have ih := mN_shift (Q := Q) (iv := iv) (o := o) dq l
    show min 536870912 (min (@ite _ (Q s) (dq s) (iv s) 536870912) (mN _ 536870912 l) + o) = min (@ite _ (Q s) (dq s) (o + iv s) 536870912) (mN _ 536870912 l)
    rw [← ih]
    by_cases q : Q s
    · rw [if_pos q, if_pos q]; omega
    · rw [if_neg q, if_neg q]; omega
theorem JG1 {hd : Nat → Nat → Nat → Nat → Nat} {ov : Nat → Nat → Nat} {m T : Nat} (hov : ∀ P x, ov P x ≤ 8) : ∀ (r P l c : Nat), r ≤ m → JG hd ov m 1 T r P l c = nI (mN (fw hd ov m T (m - r) P l c) 536870912 (PL m r P))
  | 0, P, l, c, _ => by
    show jEnd hd m 1 T m P l c = nI (min (fw hd ov m T (m - 0) P l c []) 536870912)
    unfold jEnd fw
    rw [if_neg (fun z => absurd z.1 (by omega)), if_neg (by omega), Nat.sub_zero]
    show _ = nI (min (if hd m l m c = T then 0 else 536870912) 536870912)
    by_cases h : hd m l m c = T
    · rw [if_pos ⟨rfl, h⟩, if_pos h]; rfl
    · rw [if_neg (fun z => h z.2), if_neg h]; rfl
  | r + 1, P, l, c, hr => by
    show jLoop 1 P _ m 0 (jIni 1) = _
    have := jLoopm (aim := 1) (Or.inl rfl) (P := P) (f := fw hd ov m T (m - (r + 1)) P l c) (G := fun x => PL m r (P ||| 2 ^ x)) (S := fun x => jStp hd ov 1 T (m - (r + 1)) P l c x (JG hd ov m 1 T r (P ||| 2 ^ x) x (hd (m - (r + 1)) l x c))) m 0 536870912 (Nat.le_refl _) (fun x _ _ _ => by
      have hle := mN_le (f := fw hd ov m T (m - r) (P ||| 2 ^ x) x (hd (m - (r + 1)) l x c)) (V := 536870912) (PL m r (P ||| 2 ^ x))
      have h8 := hov P x
      refine ⟨mN (fw hd ov m T (m - r) (P ||| 2 ^ x) x (hd (m - (r + 1)) l x c)) 536870912 (PL m r (P ||| 2 ^ x)) + ov P x, by omega, ?_, ?_⟩
      · show jStp hd ov 1 T (m - (r + 1)) P l c x _ = _
        unfold jStp
        rw [if_neg (fun z => absurd z.1 (by omega)), if_pos rfl, JG1 hov r _ _ _ (by omega), nI_add]
      · have sh := mN_shift (Q := fun s => AR hd m (m - r) x (hd (m - (r + 1)) l x c) s = T) (iv := IV ov (P ||| 2 ^ x)) (o := ov P x) (fun s => inferInstance) (PL m r (P ||| 2 ^ x))
        refine sh.trans (mN_cong _ (fun s _ => ?_))
        unfold fw
        show _ = if AR hd m (m - (r + 1) + 1) x (hd (m - (r + 1)) l x c) s = T then ov P x + IV ov (P ||| 2 ^ x) s else 536870912
        rw [show m - (r + 1) + 1 = m - r by omega])
    have hle := mN_le (f := fw hd ov m T (m - (r + 1)) P l c) (V := 536870912) (cat (fun x => PL m r (P ||| 2 ^ x)) P m 0)
    rw [Nat.min_eq_right hle] at this
    exact this
/-- states that count where coins of T are asked for -/
def relS (T P l : Nat) : Prop := P.testBit T = false ∨ (P ≠ 0 ∧ l = T)
theorem relS_step {T P l x : Nat} (h : relS T P l) (hn : ¬ (P ≠ 0 ∧ l = T)) : relS T (P ||| 2 ^ x) x := by
  have h0 : P.testBit T = false := h.elim id (fun z => absurd z hn)
  by_cases e : x = T
  · right
    refine ⟨fun z => ?_, e⟩
    have : (P ||| 2 ^ x).testBit x = true := by rw [Nat.testBit_or, Nat.testBit_two_pow_self, Bool.or_true]
    rw [z, Nat.zero_testBit] at this
    exact absurd this (by decide)
  · left
    rw [Nat.testBit_or, h0, Nat.testBit_two_pow_of_ne e]
    rfl
theorem full_bit {m P T : Nat} (hm : m ≤ 8) (hP : P < 2 ^ m) (hpc : pc P = m) (hT : T < m) : P.testBit T = true := by
  have e := (pc_full m (by omega) P (m256 hm hP) hP).mp hpc
  subst e
  rw [Nat.testBit_two_pow_sub_one]
  simp [hT]
theorem KP_le {hd : Nat → Nat → Nat → Nat → Nat} {m w : Nat} (hhd : ∀ p l x c, hd p l x c ≤ c) : ∀ (s : List Nat) (p l c : Nat), KP hd m w p l c s ≤ c
  | [], p, l, c => by unfold KP; by_cases h : p ≠ 0 ∧ l = w <;> simp [h]
  | x :: s, p, l, c => by
    unfold KP
    by_cases h : p ≠ 0 ∧ l = w
    · rw [if_pos h]; omega
    · rw [if_neg h]
      exact Nat.le_trans (KP_le hhd s (p + 1) x _) (hhd p l x c)
theorem xN_bound {f : List Nat → Nat} {B : Nat} : ∀ l, (∀ s, f s ≤ B) → xN f l ≤ B
  | [], _ => Nat.zero_le _
  | s :: l, h => by show max (f s) (xN f l) ≤ B; have := h s; have := xN_bound (f := f) l h; omega
theorem JG2 {hd : Nat → Nat → Nat → Nat → Nat} {ov : Nat → Nat → Nat} {m T : Nat} (hm : m ≤ 8) (hT : T < m) (hhd : ∀ p l x c, hd p l x c ≤ c) : ∀ (r P l c : Nat), pc P + r = m → P < 2 ^ m → c ≤ 999999 → relS T P l → JG hd ov m 2 T r P l c = dI (xN (fun s => KP hd m T (m - r) l c s + 1) (PL m r P))
  | 0, P, l, c, hr, hP, hc, hrel => by
    have hl : P ≠ 0 ∧ l = T := hrel.elim (fun z => by rw [full_bit hm hP hr hT] at z; exact absurd z (by decide)) id
    show jEnd hd m 2 T m P l c = dI (max (KP hd m T (m - 0) l c [] + 1) 0)
    unfold jEnd
    rw [if_pos ⟨Or.inl rfl, hl⟩, Nat.sub_zero, Nat.max_eq_left (by omega), dI_s]
    unfold KP
    rw [if_pos ⟨by omega, hl.2⟩]
  | r + 1, P, l, c, hr, hP, hc, hrel => by
    have hpm : m - (r + 1) ≠ 0 ↔ P ≠ 0 := by
      have := pc_zero P (m256 hm hP)
      constructor
      · intro h e; exact h (by have := this.mpr e; omega)
      · intro h e; exact h (this.mp (by omega))
    show jLoop 2 P _ m 0 (jIni 2) = _
    have := jLoopx (P := P) (f := fun s => KP hd m T (m - (r + 1)) l c s + 1) (G := fun x => PL m r (P ||| 2 ^ x)) (S := fun x => jStp hd ov 2 T (m - (r + 1)) P l c x (JG hd ov m 2 T r (P ||| 2 ^ x) x (hd (m - (r + 1)) l x c))) m 0 0 (by omega) (fun x _ hx hb => by
      have hbd : xN (fun s => KP hd m T (m - (r + 1)) l c (x :: s) + 1) (PL m r (P ||| 2 ^ x)) ≤ 1000000 := xN_bound _ (fun s => by have := KP_le (m := m) (w := T) hhd (x :: s) (m - (r + 1)) l c; omega)
      refine ⟨?_, by omega⟩
      have hpc := pc_or P (m256 hm hP) x (by omega) hb
      show jStp hd ov 2 T (m - (r + 1)) P l c x _ = _
      unfold jStp
      by_cases hl : P ≠ 0 ∧ l = T
      · rw [if_pos ⟨Or.inl rfl, hl⟩]
        have e : xN (fun s => KP hd m T (m - (r + 1)) l c (x :: s) + 1) (PL m r (P ||| 2 ^ x)) = c - hd (m - (r + 1)) l x c + 1 := by
          rw [xN_cong _ (g := fun _ => c - hd (m - (r + 1)) l x c + 1) (fun s _ => by
            show (if m - (r + 1) ≠ 0 ∧ l = T then _ else _) + 1 = _
            rw [if_pos ⟨hpm.mpr hl.1, hl.2⟩])]
          exact xN_const _ (PL_ne hm r _ (or_lt hP (by omega)) (by omega))
        rw [e, dI_s]
      · rw [if_neg (fun z => hl z.2), if_neg (by omega), JG2 hm hT hhd r _ _ _ (by omega) (or_lt hP (by omega)) (by have := hhd (m - (r + 1)) l x c; omega) (relS_step hrel hl)]
        congr 1
        refine xN_cong _ (fun s _ => ?_)
        show _ = (if m - (r + 1) ≠ 0 ∧ l = T then _ else KP hd m T (m - (r + 1) + 1) x (hd (m - (r + 1)) l x c) s) + 1
        rw [if_neg (fun z => hl ⟨hpm.mp z.1, z.2⟩), show m - (r + 1) + 1 = m - r by omega])
    rw [Nat.max_eq_right (Nat.zero_le _)] at this
    exact this
theorem JG3 {hd : Nat → Nat → Nat → Nat → Nat} {ov : Nat → Nat → Nat} {m T : Nat} (hm : m ≤ 8) (hT : T < m) (hhd : ∀ p l x c, hd p l x c ≤ c) : ∀ (r P l c : Nat), pc P + r = m → P < 2 ^ m → c ≤ 999999 → relS T P l → JG hd ov m 3 T r P l c = nI (mN (fun s => KP hd m T (m - r) l c s) 536870912 (PL m r P))
  | 0, P, l, c, hr, hP, hc, hrel => by
    have hl : P ≠ 0 ∧ l = T := hrel.elim (fun z => by rw [full_bit hm hP hr hT] at z; exact absurd z (by decide)) id
    have hk := KP_le (m := m) (w := T) hhd [] m l c
    show jEnd hd m 3 T m P l c = nI (min (KP hd m T (m - 0) l c []) 536870912)
    unfold jEnd
    rw [if_pos ⟨Or.inr rfl, hl⟩, Nat.sub_zero, Nat.min_eq_left (by omega)]
    unfold KP
    rw [if_pos ⟨by omega, hl.2⟩]
  | r + 1, P, l, c, hr, hP, hc, hrel => by
    have hpm : m - (r + 1) ≠ 0 ↔ P ≠ 0 := by
      have := pc_zero P (m256 hm hP)
      constructor
      · intro h e; exact h (by have := this.mpr e; omega)
      · intro h e; exact h (this.mp (by omega))
    show jLoop 3 P _ m 0 (jIni 3) = _
    have := jLoopm (aim := 3) (Or.inr rfl) (P := P) (f := fun s => KP hd m T (m - (r + 1)) l c s) (G := fun x => PL m r (P ||| 2 ^ x)) (S := fun x => jStp hd ov 3 T (m - (r + 1)) P l c x (JG hd ov m 3 T r (P ||| 2 ^ x) x (hd (m - (r + 1)) l x c))) m 0 536870912 (Nat.le_refl _) (fun x _ hx hb => by
      have hpc := pc_or P (m256 hm hP) x (by omega) hb
      have hle := mN_le (f := fun s => KP hd m T (m - (r + 1)) l c (x :: s)) (V := 536870912) (PL m r (P ||| 2 ^ x))
      refine ⟨mN (fun s => KP hd m T (m - (r + 1)) l c (x :: s)) 536870912 (PL m r (P ||| 2 ^ x)), by omega, ?_, Nat.min_eq_right hle⟩
      show jStp hd ov 3 T (m - (r + 1)) P l c x _ = _
      unfold jStp
      by_cases hl : P ≠ 0 ∧ l = T
      · rw [if_pos ⟨Or.inr rfl, hl⟩]
        have e : mN (fun s => KP hd m T (m - (r + 1)) l c (x :: s)) 536870912 (PL m r (P ||| 2 ^ x)) = c - hd (m - (r + 1)) l x c := by
          rw [mN_cong _ (g := fun _ => c - hd (m - (r + 1)) l x c) (fun s _ => by
            show (if m - (r + 1) ≠ 0 ∧ l = T then _ else _) = _
            rw [if_pos ⟨hpm.mpr hl.1, hl.2⟩])]
          exact mN_const (by omega) _ (PL_ne hm r _ (or_lt hP (by omega)) (by omega))
        rw [e]
      · rw [if_neg (fun z => hl z.2), if_neg (by omega), JG3 hm hT hhd r _ _ _ (by omega) (or_lt hP (by omega)) (by have := hhd (m - (r + 1)) l x c; omega) (relS_step hrel hl)]
        congr 1
        refine mN_cong _ (fun s _ => ?_)
        show _ = (if m - (r + 1) ≠ 0 ∧ l = T then _ else KP hd m T (m - (r + 1) + 1) x (hd (m - (r + 1)) l x c) s)
        rw [if_neg (fun z => hl ⟨hpm.mp z.1, z.2⟩), show m - (r + 1) + 1 = m - r by omega])
    have hle := mN_le (f := fun s => KP hd m T (m - (r + 1)) l c s) (V := 536870912) (cat (fun x => PL m r (P ||| 2 ^ x)) P m 0)
    rw [Nat.min_eq_right hle] at this
    exact this
