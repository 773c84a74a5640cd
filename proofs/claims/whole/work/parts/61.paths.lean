/-! Orders as lists of paths; how many, the least, the greatest, the first. -/
def cat (G : Nat → List (List Nat)) (P : Nat) : Nat → Nat → List (List Nat)
  | 0, _ => []
  | c + 1, a => (if P.testBit a = true then [] else (G a).map (fun s => a :: s)) ++ cat G P c (a + 1)
def PL (m : Nat) : Nat → Nat → List (List Nat)
  | 0, _ => [[]]
  | r + 1, P => cat (fun x => PL m r (P ||| 2 ^ x)) P m 0
theorem mem_cat {G : Nat → List (List Nat)} {P : Nat} {s : List Nat} : ∀ (c a : Nat), s ∈ cat G P c a ↔ ∃ x s', a ≤ x ∧ x < a + c ∧ P.testBit x = false ∧ s' ∈ G x ∧ s = x :: s'
  | 0, a => ⟨fun h => absurd h List.not_mem_nil, fun ⟨x, s', h1, h2, _⟩ => absurd h2 (by omega)⟩
  | c + 1, a => by
    unfold cat
    rw [List.mem_append, mem_cat c (a + 1)]
    by_cases h : P.testBit a = true
    · rw [if_pos h]
      refine ⟨fun q => ?_, fun q => ?_⟩
      · rcases q with q | ⟨x, s', h1, h2, h3⟩
        · exact absurd q List.not_mem_nil
        · exact ⟨x, s', by omega, by omega, h3⟩
      · obtain ⟨x, s', h1, h2, h3, h4⟩ := q
        refine Or.inr ⟨x, s', ?_, by omega, h3, h4⟩
        by_cases e : x = a
        · subst e; rw [h] at h3; exact absurd h3 (by decide)
        · omega
    · have h' : P.testBit a = false := by cases e : P.testBit a <;> simp_all
      rw [if_neg h, List.mem_map]
      refine ⟨fun q => ?_, fun q => ?_⟩
      · rcases q with ⟨s', h1, h2⟩ | ⟨x, s', h1, h2, h3⟩
        · exact ⟨a, s', Nat.le_refl _, by omega, h', h1, h2.symm⟩
        · exact ⟨x, s', by omega, by omega, h3⟩
      · obtain ⟨x, s', h1, h2, h3, h4, h5⟩ := q
        by_cases e : x = a
        · subst e; exact Or.inl ⟨s', h4, h5.symm⟩
        · exact Or.inr ⟨x, s', by omega, by omega, h3, h4, h5⟩
noncomputable def cN (Q : List Nat → Prop) : List (List Nat) → Nat
  | [] => 0
  | s :: l => (@ite _ (Q s) (Classical.propDecidable _) 1 0) + cN Q l
theorem cN_app {Q : List Nat → Prop} {l2 : List (List Nat)} : ∀ l1, cN Q (l1 ++ l2) = cN Q l1 + cN Q l2
  | [] => by show cN Q l2 = 0 + cN Q l2; omega
  | s :: l1 => by show _ + cN Q (l1 ++ l2) = _ + cN Q l1 + cN Q l2; rw [cN_app l1]; omega
theorem cN_map {Q : List Nat → Prop} {a : Nat} : ∀ l, cN Q (l.map (fun s => a :: s)) = cN (fun s => Q (a :: s)) l
  | [] => rfl
  | s :: l => by show _ + cN Q (l.map (fun s => a :: s)) = _ + cN _ l; rw [cN_map l]
theorem cN_pos {Q : List Nat → Prop} : ∀ l, 0 < cN Q l ↔ ∃ s, s ∈ l ∧ Q s
  | [] => ⟨fun h => absurd h (Nat.lt_irrefl 0), fun ⟨s, h, _⟩ => absurd h List.not_mem_nil⟩
  | s :: l => by
    have ih := cN_pos (Q := Q) l
    unfold cN
    by_cases h : Q s
    · rw [if_pos h]
      exact ⟨fun _ => ⟨s, List.mem_cons_self, h⟩, fun _ => by omega⟩
    · rw [if_neg h, Nat.zero_add, ih]
      refine ⟨fun ⟨x, h1, h2⟩ => ⟨x, List.mem_cons_of_mem _ h1, h2⟩, fun ⟨x, h1, h2⟩ => ?_⟩
      rcases List.mem_cons.mp h1 with rfl | h1
      · exact absurd h2 h
      · exact ⟨x, h1, h2⟩
theorem cN_le {Q : List Nat → Prop} : ∀ l, cN Q l ≤ l.length
  | [] => Nat.le_refl _
  | s :: l => by
    have ih := cN_le (Q := Q) l
    unfold cN
    rw [List.length_cons]
    by_cases h : Q s
    · rw [if_pos h]; omega
    · rw [if_neg h]; omega
noncomputable def fN (Q : List Nat → Prop) : List (List Nat) → Option (List Nat)
  | [] => none
  | s :: l => @ite _ (Q s) (Classical.propDecidable _) (some s) (fN Q l)
theorem fN_some {Q : List Nat → Prop} : ∀ l, (∃ s, s ∈ l ∧ Q s) → ∃ s, fN Q l = some s ∧ s ∈ l ∧ Q s
  | [], ⟨s, h, _⟩ => absurd h List.not_mem_nil
  | s :: l, h => by
    unfold fN
    by_cases q : Q s
    · rw [if_pos q]; exact ⟨s, rfl, List.mem_cons_self, q⟩
    · rw [if_neg q]
      obtain ⟨x, h1, h2⟩ := h
      rcases List.mem_cons.mp h1 with rfl | h1
      · exact absurd h2 q
      · obtain ⟨y, y1, y2, y3⟩ := fN_some l ⟨x, h1, h2⟩
        exact ⟨y, y1, List.mem_cons_of_mem _ y2, y3⟩
theorem fN_none {Q : List Nat → Prop} : ∀ l, (¬ ∃ s, s ∈ l ∧ Q s) → fN Q l = none
  | [], _ => rfl
  | s :: l, h => by
    unfold fN
    rw [if_neg (fun q => h ⟨s, List.mem_cons_self, q⟩), fN_none l (fun ⟨x, h1, h2⟩ => h ⟨x, List.mem_cons_of_mem _ h1, h2⟩)]
theorem fN_app1 {Q : List Nat → Prop} {l2 : List (List Nat)} : ∀ l1, (∃ s, s ∈ l1 ∧ Q s) → fN Q (l1 ++ l2) = fN Q l1
  | [], ⟨s, h, _⟩ => absurd h List.not_mem_nil
  | s :: l, h => by
    show @ite _ (Q s) (Classical.propDecidable _) (some s) (fN Q (l ++ l2)) = @ite _ (Q s) (Classical.propDecidable _) (some s) (fN Q l)
    by_cases q : Q s
    · rw [if_pos q, if_pos q]
    · rw [if_neg q, if_neg q]
      obtain ⟨x, h1, h2⟩ := h
      rcases List.mem_cons.mp h1 with rfl | h1
      · exact absurd h2 q
      · exact fN_app1 l ⟨x, h1, h2⟩
theorem fN_app2 {Q : List Nat → Prop} {l2 : List (List Nat)} : ∀ l1, (¬ ∃ s, s ∈ l1 ∧ Q s) → fN Q (l1 ++ l2) = fN Q l2
  | [], _ => rfl
  | s :: l, h => by
    show @ite _ (Q s) (Classical.propDecidable _) (some s) (fN Q (l ++ l2)) = _
    rw [if_neg (fun q => h ⟨s, List.mem_cons_self, q⟩), fN_app2 l (fun ⟨x, h1, h2⟩ => h ⟨x, List.mem_cons_of_mem _ h1, h2⟩)]
theorem fN_map {Q : List Nat → Prop} {a : Nat} : ∀ l, fN Q (l.map (fun s => a :: s)) = (fN (fun s => Q (a :: s)) l).map (fun s => a :: s)
  | [] => rfl
  | s :: l => by
    show @ite _ (Q (a :: s)) (Classical.propDecidable _) (some (a :: s)) (fN Q (l.map (fun s => a :: s))) = Option.map _ (@ite _ (Q (a :: s)) (Classical.propDecidable _) (some s) (fN _ l))
    by_cases q : Q (a :: s)
    · rw [if_pos q, if_pos q]; rfl
    · rw [if_neg q, if_neg q, fN_map l]
def mN (f : List Nat → Nat) (V : Nat) : List (List Nat) → Nat
  | [] => V
  | s :: l => min (f s) (mN f V l)
theorem mN_le {f : List Nat → Nat} {V : Nat} : ∀ l, mN f V l ≤ V
  | [] => Nat.le_refl _
  | s :: l => by show min (f s) (mN f V l) ≤ V; have := mN_le (f := f) (V := V) l; omega
theorem mN_app {f : List Nat → Nat} {V : Nat} {l2 : List (List Nat)} : ∀ l1, mN f V (l1 ++ l2) = min (mN f V l1) (mN f V l2)
  | [] => by show mN f V l2 = min V (mN f V l2); have := mN_le (f := f) (V := V) l2; omega
  | s :: l1 => by show min (f s) (mN f V (l1 ++ l2)) = min (min (f s) (mN f V l1)) (mN f V l2); rw [mN_app l1]; omega
theorem mN_map {f : List Nat → Nat} {V a : Nat} : ∀ l, mN f V (l.map (fun s => a :: s)) = mN (fun s => f (a :: s)) V l
  | [] => rfl
  | s :: l => by show min _ (mN f V (l.map (fun s => a :: s))) = min _ (mN _ V l); rw [mN_map l]
theorem mN_mem {f : List Nat → Nat} {V : Nat} {s : List Nat} : ∀ l, s ∈ l → mN f V l ≤ f s
  | [], h => absurd h List.not_mem_nil
  | x :: l, h => by
    show min (f x) (mN f V l) ≤ f s
    rcases List.mem_cons.mp h with rfl | h
    · omega
    · have := mN_mem (f := f) (V := V) l h; omega
theorem mN_att {f : List Nat → Nat} {V : Nat} : ∀ l, mN f V l < V → ∃ s, s ∈ l ∧ f s = mN f V l
  | [], h => absurd h (Nat.lt_irrefl _)
  | x :: l, h => by
    have e : mN f V (x :: l) = min (f x) (mN f V l) := rfl
    by_cases q : f x ≤ mN f V l
    · exact ⟨x, List.mem_cons_self, by omega⟩
    · obtain ⟨s, h1, h2⟩ := mN_att (f := f) (V := V) l (by omega)
      exact ⟨s, List.mem_cons_of_mem _ h1, by omega⟩
theorem mN_cong {f g : List Nat → Nat} {V : Nat} : ∀ l, (∀ s, s ∈ l → f s = g s) → mN f V l = mN g V l
  | [], _ => rfl
  | x :: l, h => by show min (f x) (mN f V l) = min (g x) (mN g V l); rw [h x List.mem_cons_self, mN_cong l (fun s hs => h s (List.mem_cons_of_mem _ hs))]
theorem mN_const {v V : Nat} (hv : v ≤ V) : ∀ l, l ≠ [] → mN (fun _ => v) V l = v
  | [], h => absurd rfl h
  | [x], _ => by show min v V = v; omega
  | x :: y :: l, _ => by show min v (mN (fun _ => v) V (y :: l)) = v; rw [mN_const hv (y :: l) (by simp)]; omega
def xN (f : List Nat → Nat) : List (List Nat) → Nat
  | [] => 0
  | s :: l => max (f s) (xN f l)
theorem xN_app {f : List Nat → Nat} {l2 : List (List Nat)} : ∀ l1, xN f (l1 ++ l2) = max (xN f l1) (xN f l2)
  | [] => by show xN f l2 = max 0 (xN f l2); omega
  | s :: l1 => by show max (f s) (xN f (l1 ++ l2)) = max (max (f s) (xN f l1)) (xN f l2); rw [xN_app l1]; omega
theorem xN_map {f : List Nat → Nat} {a : Nat} : ∀ l, xN f (l.map (fun s => a :: s)) = xN (fun s => f (a :: s)) l
  | [] => rfl
  | s :: l => by show max _ (xN f (l.map (fun s => a :: s))) = max _ (xN _ l); rw [xN_map l]
theorem xN_mem {f : List Nat → Nat} {s : List Nat} : ∀ l, s ∈ l → f s ≤ xN f l
  | [], h => absurd h List.not_mem_nil
  | x :: l, h => by
    show f s ≤ max (f x) (xN f l)
    rcases List.mem_cons.mp h with rfl | h
    · omega
    · have := xN_mem (f := f) l h; omega
theorem xN_att {f : List Nat → Nat} : ∀ l, 0 < xN f l → ∃ s, s ∈ l ∧ f s = xN f l
  | [], h => absurd h (Nat.lt_irrefl _)
  | x :: l, h => by
    have e : xN f (x :: l) = max (f x) (xN f l) := rfl
    by_cases q : xN f l ≤ f x
    · exact ⟨x, List.mem_cons_self, by omega⟩
    · obtain ⟨s, h1, h2⟩ := xN_att (f := f) l (by omega)
      exact ⟨s, List.mem_cons_of_mem _ h1, by omega⟩
theorem xN_cong {f g : List Nat → Nat} : ∀ l, (∀ s, s ∈ l → f s = g s) → xN f l = xN g l
  | [], _ => rfl
  | x :: l, h => by show max (f x) (xN f l) = max (g x) (xN g l); rw [h x List.mem_cons_self, xN_cong l (fun s hs => h s (List.mem_cons_of_mem _ hs))]
theorem xN_const {v : Nat} : ∀ l : List (List Nat), l ≠ [] → xN (fun _ => v) l = v
  | [], h => absurd rfl h
  | [x], _ => by show max v 0 = v; omega
  | x :: y :: l, _ => by show max v (xN (fun _ => v) (y :: l)) = v; rw [xN_const (y :: l) (by simp)]; omega
/-- how many bits -/
def pc (P : Nat) : Nat := P % 2 + P / 2 % 2 + P / 4 % 2 + P / 8 % 2 + P / 16 % 2 + P / 32 % 2 + P / 64 % 2 + P / 128 % 2
theorem pc_or : ∀ P, P < 256 → ∀ x, x < 8 → P.testBit x = false → pc (P ||| 2 ^ x) = pc P + 1 := by decide +kernel
theorem pc_full : ∀ m, m < 9 → ∀ P, P < 256 → P < 2 ^ m → (pc P = m ↔ P = 2 ^ m - 1) := by decide +kernel
theorem pc_zero : ∀ P, P < 256 → (pc P = 0 ↔ P = 0) := by decide +kernel
theorem pc_le : ∀ m, m < 9 → ∀ P, P < 256 → P < 2 ^ m → pc P ≤ m := by decide +kernel
theorem or_lt {m P x : Nat} (hP : P < 2 ^ m) (hx : x < m) : P ||| 2 ^ x < 2 ^ m := Nat.or_lt_two_pow hP (Nat.pow_lt_pow_right (by decide) hx)
theorem or_gt : ∀ P, P < 256 → ∀ x, x < 8 → P.testBit x = false → P < P ||| 2 ^ x := by decide +kernel
theorem m256 {m P : Nat} (hm : m ≤ 8) (h : P < 2 ^ m) : P < 256 := by have := (pow8 hm).2; omega
/-- somebody is left, if not all are placed -/
theorem free_x {m P : Nat} (hm : m ≤ 8) (hP : P < 2 ^ m) (h : pc P < m) : ∃ x, x < m ∧ P.testBit x = false := by
  have key : ∀ m, m < 9 → ∀ P, P < 256 → P < 2 ^ m → pc P < m → ∃ x, x < 8 ∧ x < m ∧ P.testBit x = false := by
    have k2 : ∀ m, m < 9 → ∀ P, P < 256 → P < 2 ^ m → pc P < m → (List.range m).any (fun x => !P.testBit x) = true := by decide +kernel
    intro m hm P hP h1 h2
    have := k2 m hm P hP h1 h2
    rw [List.any_eq_true] at this
    obtain ⟨x, hx, hx2⟩ := this
    have hx' := List.mem_range.mp hx
    exact ⟨x, by omega, hx', by simpa using hx2⟩
  obtain ⟨x, -, h1, h2⟩ := key m (by omega) P (m256 hm hP) hP h
  exact ⟨x, h1, h2⟩
theorem PL_ne {m : Nat} (hm : m ≤ 8) : ∀ (r P : Nat), P < 2 ^ m → pc P + r = m → PL m r P ≠ []
  | 0, P, _, _ => by show [[]] ≠ []; simp
  | r + 1, P, hP, h => by
    obtain ⟨x, hx, hb⟩ := free_x hm hP (by omega)
    have hp := pc_or P (m256 hm hP) x (by omega) hb
    have ih := PL_ne hm r (P ||| 2 ^ x) (or_lt hP hx) (by omega)
    obtain ⟨s, hs⟩ := List.exists_mem_of_ne_nil _ ih
    have : (x :: s) ∈ PL m (r + 1) P := (mem_cat m 0).mpr ⟨x, s, by omega, by omega, hb, hs, rfl⟩
    intro e
    rw [e] at this
    exact absurd this List.not_mem_nil
/-- what arrives along a path, from the carrier at place p on who gets c -/
def AR (hd : Nat → Nat → Nat → Nat → Nat) (m : Nat) : Nat → Nat → Nat → List Nat → Nat
  | p, l, c, [] => hd p l m c
  | p, l, c, x :: s => AR hd m (p + 1) x (hd p l x c) s
/-- what w keeps along it -/
def KP (hd : Nat → Nat → Nat → Nat → Nat) (m w : Nat) : Nat → Nat → Nat → List Nat → Nat
  | p, l, c, [] => if p ≠ 0 ∧ l = w then c - hd p l m c else 0
  | p, l, c, x :: s => if p ≠ 0 ∧ l = w then c - hd p l x c else KP hd m w (p + 1) x (hd p l x c) s
/-- changes of neighbours -/
def IV (ov : Nat → Nat → Nat) : Nat → List Nat → Nat
  | _, [] => 0
  | P, x :: s => ov P x + IV ov (P ||| 2 ^ x) s
