/-! Orders that bring just so much: how many, the first, the nearest. -/
theorem ovO_8 {m : Nat} {hm : Nat → Nat} (h : m ≤ 8) (P x : Nat) : ovO m hm P x ≤ 8 := by
  have := ovN_le (hm := hm) (P := P) (x := x) m 0
  unfold ovO; omega
/-- so many orders bring T -/
noncomputable def nB (st : Nat → Nat → Nat → Prop) (k C T : Nat) : Nat := cN (fun s => AR (hdO st) (k - 2) 0 0 C s = T) (PL (k - 2) (k - 2) 0)
/-- the fewest changes -/
noncomputable def wB (st : Nat → Nat → Nat → Prop) (k C T : Nat) (hm : Nat → Nat) : Nat := mN (fw (hdO st) (ovO (k - 2) hm) (k - 2) T 0 0 0 C) 536870912 (PL (k - 2) (k - 2) 0)
theorem nB_lt {st : Nat → Nat → Nat → Prop} {k C T : Nat} (hk : k ≤ 10) : nB st k C T < 2 ^ 30 := Nat.lt_of_le_of_lt (cN_le _) (PL_2 (by omega) (Nat.le_refl _))
theorem c_howMany (d : Nat) {k C T : Nat} {car hm : Nat → Nat} {st : Nat → Nat → Nat → Prop} (hT : T < 2 ^ 31) (σ : jS) (hO : OE σ (k - 2) C car hm st) :
    ∃ σ', g_Or_howManyBring (d + 6) (nI T) σ = some (some (.int (nI (nB st k C T))), σ') ∧ jep so_S σ σ' ∧ σ'.1 71 10 = nI 0 ∧ σ'.1 71 11 = nI T ∧ TBL σ' (hdO st) (ovO (k - 2) hm) (k - 2) C 0 T 0 := by
  obtain ⟨σ', p1, p2, p3, p4, p5⟩ := c_solved d (aim := 0) (T := T) (by omega) hT σ hO
  rw [JG0 _ _ _ _ (Nat.le_refl _), Nat.sub_self] at p1
  have p1' : g_Or_solved (d + 5) 0 (nI T) σ = some (some (.int (nI (nB st k C T))), σ') := p1
  refine ⟨σ', ?_, p2, p3, p4, p5⟩
  rw [e_Or_howManyBring, q_Or_howManyBring_0, p1', rI_s]
  rfl
theorem so_or {b j : Nat} (h : so_S b j) : or_S b j := by
  unfold so_S at h
  unfold or_S
  omega
theorem c_firstB (d : Nat) {k C T : Nat} {r car hm : Nat → Nat} {st : Nat → Nat → Nat → Prop} (hk : k ≤ 10) (hT : T < 2 ^ 31) (σ : jS) (hR : cRow σ k r) (hO : OE σ (k - 2) C car hm st) :
    ∃ v σ', g_Or_firstBringing (d + 7) (nI T) σ = some (some (.long v), σ') ∧ jep or_S σ σ' ∧ ((nB st k C T = 0 ∧ v = -2) ∨ (nB st k C T ≠ 0 ∧ ∃ s, fN (fun s => AR (hdO st) (k - 2) 0 0 C s = T) (PL (k - 2) (k - 2) 0) = some s ∧ v = cS k r car s)) := by
  obtain ⟨σ1, p1, p2, p3, p4, p5⟩ := c_howMany d (T := T) hT σ hO
  have S1 : jep or_S σ σ1 := p2.mono (fun b j h => so_or h)
  have hb := nB_lt (st := st) (C := C) (T := T) hk
  rw [e_Or_firstBringing, q_Or_firstBringing_0, p1, rI_s]
  simp only [Option.bind_some]
  by_cases h : nB st k C T = 0
  · rw [jif_t (show nI (nB st k C T) ≤ 0 from nI_le (b := 0) (by omega) (by omega)), q_Or_firstBringing_1, q_Or_firstBringing_2]
    exact ⟨_, σ1, rfl, S1, Or.inl ⟨h, rfl⟩⟩
  · rw [jif_f (show ¬ nI (nB st k C T) ≤ 0 from nI_ge (a := 0) (by omega) (by omega))]
    have hex : ∃ s, s ∈ PL (k - 2) (k - 2) 0 ∧ AR (hdO st) (k - 2) 0 0 C s = T := (cN_pos _).mp (Nat.pos_of_ne_zero h)
    have R1 : cRow σ1 k r := hR.fr S1 (fun b j h q => by unfold or_S at q; omega)
    obtain ⟨σ2, s, q1, q2, q3⟩ := c_laidRow d (aim := 0) (T := T) (rest := 0) (by omega) hT σ1 R1 (hO.fr S1) p3 p4 p5 ⟨fun _ => by rw [Nat.sub_self]; exact hex, fun z => absurd z (by decide), fun z => absurd z (by decide), fun z => absurd z (by decide)⟩
    have q1' : g_Or_laidRow (d + 6) 0 σ1 = some (some (.long (cS k r car s)), σ2) := q1
    rw [q1', rL_s]
    simp only [Option.bind_some]
    rw [q_Or_firstBringing_2]
    exact ⟨_, σ2, rfl, S1.tr (q2.mono (fun b j h => by unfold or_S; omega)), Or.inr ⟨h, s, q3, rfl⟩⟩
theorem c_fewest (d : Nat) {k C T : Nat} {car hm : Nat → Nat} {st : Nat → Nat → Nat → Prop} (hk : k ≤ 10) (hT : T < 2 ^ 31) (σ : jS) (hO : OE σ (k - 2) C car hm st) :
    ∃ σ', g_Or_fewestSwaps (d + 6) (nI T) σ = some (some (.int (if wB st k C T hm < 536870912 then nI (wB st k C T hm) else -2)), σ') ∧ jep so_S σ σ' ∧ σ'.1 71 10 = nI 1 ∧ σ'.1 71 11 = nI T ∧ TBL σ' (hdO st) (ovO (k - 2) hm) (k - 2) C 1 T 0 := by
  obtain ⟨σ', p1, p2, p3, p4, p5⟩ := c_solved d (aim := 1) (T := T) (by omega) hT σ hO
  rw [JG1 (ovO_8 (by omega)) _ _ _ _ (Nat.le_refl _), Nat.sub_self] at p1
  have p1' : g_Or_solved (d + 5) 1 (nI T) σ = some (some (.int (nI (wB st k C T hm))), σ') := p1
  have hle : wB st k C T hm ≤ 536870912 := mN_le _
  refine ⟨σ', ?_, p2, p3, p4, p5⟩
  rw [e_Or_fewestSwaps, q_Or_fewestSwaps_0, p1', rI_s]
  simp only [Option.bind_some]
  by_cases h : wB st k C T hm < 536870912
  · rw [jif_f (show ¬ (536870912 : Int32) ≤ nI (wB st k C T hm) from nI_ge (b := 536870912) h (by omega)), q_Or_fewestSwaps_2, if_pos h]
  · rw [jif_t (show (536870912 : Int32) ≤ nI (wB st k C T hm) from nI_le (a := 536870912) (by omega) (by omega)), q_Or_fewestSwaps_1, q_Or_fewestSwaps_2, if_neg h]
theorem c_nearest (d : Nat) {k C T : Nat} {r car hm : Nat → Nat} {st : Nat → Nat → Nat → Prop} (hk : k ≤ 10) (hT : T < 2 ^ 31) (σ : jS) (hR : cRow σ k r) (hO : OE σ (k - 2) C car hm st) :
    ∃ v σ', g_Or_nearestBringing (d + 7) (nI T) σ = some (some (.long v), σ') ∧ jep or_S σ σ' ∧ ((wB st k C T hm = 536870912 ∧ v = -2) ∨ (wB st k C T hm < 536870912 ∧ ∃ s, fN (fun s => AR (hdO st) (k - 2) 0 0 C s = T ∧ IV (ovO (k - 2) hm) 0 s = wB st k C T hm) (PL (k - 2) (k - 2) 0) = some s ∧ v = cS k r car s)) := by
  obtain ⟨σ1, p1, p2, p3, p4, p5⟩ := c_fewest d (T := T) hk hT σ hO
  have S1 : jep or_S σ σ1 := p2.mono (fun b j h => so_or h)
  have hle : wB st k C T hm ≤ 536870912 := mN_le _
  rw [e_Or_nearestBringing, q_Or_nearestBringing_0, p1, rI_s]
  simp only [Option.bind_some]
  by_cases h : wB st k C T hm < 536870912
  · rw [if_pos h, jif_f (nI_pos (by omega))]
    have R1 : cRow σ1 k r := hR.fr S1 (fun b j h q => by unfold or_S at q; omega)
    obtain ⟨σ2, s, q1, q2, q3⟩ := c_laidRow d (aim := 1) (T := T) (rest := wB st k C T hm) (by omega) hT σ1 R1 (hO.fr S1) p3 p4 p5 ⟨fun z => absurd z (by decide), fun _ => ⟨h, by rw [Nat.sub_self]; rfl⟩, fun z => absurd z (by decide), fun z => absurd z (by decide)⟩
    have q1' : g_Or_laidRow (d + 6) (nI (wB st k C T hm)) σ1 = some (some (.long (cS k r car s)), σ2) := q1
    rw [q1', rL_s]
    simp only [Option.bind_some]
    rw [q_Or_nearestBringing_2]
    exact ⟨_, σ2, rfl, S1.tr (q2.mono (fun b j h => by unfold or_S; omega)), Or.inr ⟨h, s, q3, rfl⟩⟩
  · rw [if_neg h, jif_t (by decide), q_Or_nearestBringing_1, q_Or_nearestBringing_2]
    exact ⟨_, σ1, rfl, S1, Or.inl ⟨by omega, rfl⟩⟩
theorem or_oc {t b j : Nat} (h : or_S b j) : oc_S t b j := by
  unfold or_S at h
  unfold oc_S
  omega
/-- the reference's aim -/
theorem ord_aim (d : Nat) {t A N k C T : Nat} {car hm : Nat → Nat} (hN : N < 2 ^ 64) (hA : A ≤ 10) (hk : 2 ≤ k) (hk10 : k ≤ 10) (hC : C ≤ 999999) (hT : T ≤ 999999) (σ1 σe : jS) (g1 : jInv σ1 t) (a1 : σ1.1 t 0 = nI A) (hS : jep (oc_S t) σ1 σe) (hP : rowP N k A) (hcp : carP k A (nib N) car hm) (hh : rowOK N (nI k) A ∧ 0 ≤ nI C ∧ nI C ≤ 999999) (hy : 0 ≤ nI T ∧ nI T ≤ 999999) :
    ∃ σ5, g_M_isAimed (d + 17) (nI k) (lN N) (nI C) (nI T) (j_setI σe 86 0 0) = some (some (.int 1), σ5) ∧ jInv σ5 t ∧ σ5.1 86 65 = nI (nB (stO σ1 t (k - 2) C car (nib N (k - 1))) k C T) ∧
      (∀ s, fN (fun s => AR (hdC σ1 t k C (nib N) car) (k - 2) 0 0 C s = T) (PL (k - 2) (k - 2) 0) = some s → σ5.2.1 86 66 = cS k (nib N) car s) ∧
      ((wB (stO σ1 t (k - 2) C car (nib N (k - 1))) k C T hm = 536870912 ∧ σ5.1 86 67 = -1) ∨ (wB (stO σ1 t (k - 2) C car (nib N (k - 1))) k C T hm < 536870912 ∧ σ5.1 86 67 = nI (wB (stO σ1 t (k - 2) C car (nib N (k - 1))) k C T hm) ∧ ∀ s, fN (fun s => AR (hdC σ1 t k C (nib N) car) (k - 2) 0 0 C s = T ∧ IV (ovO (k - 2) hm) 0 s = wB (stO σ1 t (k - 2) C car (nib N (k - 1))) k C T hm) (PL (k - 2) (k - 2) 0) = some s → σ5.2.1 86 68 = cS k (nib N) car s)) := by
  obtain ⟨σ3, σ4, m1, m2, m3, m4, m5⟩ := ord_m d (nI k) (nI C) hN hA σ1 σe g1 a1 hS
  obtain ⟨-, m6⟩ := m5 k C car hm rfl rfl hk hk10 hC hP hcp hh
  obtain ⟨σ5, b1, c1, b2, c2, c3, c4, r1, r2, r3, r4⟩ := m6 0 0 (nI T) (-1) (by omega) (fun z => absurd z (by decide))
  rw [hit_eq hC (by omega), fold_see] at r4
  obtain ⟨-, -, -, -, -, -, f7, f8, f9, f10⟩ := r4
  have hl := PL_2 (m := k - 2) (r := k - 2) (P := 0) (by omega) (Nat.le_refl _)
  obtain ⟨z1, o1, o2⟩ := fO_0 (hit := fun s => AR (hdC σ1 t k C (nib N) car) (k - 2) 0 0 C s = T) (c := cS k (nib N) car) (c0 := c3) (PL (k - 2) (k - 2) 0) hl
  have hiv : ∀ s, s ∈ PL (k - 2) (k - 2) 0 → IV (ovO (k - 2) hm) 0 s < 536870912 := fun s hs => by
    have h1 := IV_lt (ovO_8 (m := k - 2) (hm := hm) (by omega)) s 0
    rw [(PL_size _ _ _ hs).1] at h1
    omega
  have hw := fW_0 (hit := fun s => AR (hdC σ1 t k C (nib N) car) (k - 2) 0 0 C s = T) (f := fun s => IV (ovO (k - 2) hm) 0 s) (c := cS k (nib N) car) (c0 := c4) (PL (k - 2) (k - 2) 0) hiv
  have eW : mN (gW (fun s => AR (hdC σ1 t k C (nib N) car) (k - 2) 0 0 C s = T) (fun s => IV (ovO (k - 2) hm) 0 s)) 536870912 (PL (k - 2) (k - 2) 0) = wB (stO σ1 t (k - 2) C car (nib N (k - 1))) k C T hm := mN_cong _ (fun s _ => by
    by_cases q : AR (hdC σ1 t k C (nib N) car) (k - 2) 0 0 C s = T
    · rw [gW_t q]; exact (if_pos q).symm
    · rw [gW_f q]; exact (if_neg q).symm)
  rw [eW] at hw
  refine ⟨σ5, ?_, r2, ?_, fun s hs => ?_, ?_⟩
  · have r1' : g_M_goesThrough (d + 16) (nI C) (nI T) 0 (-1) σ4 = some (none, σ5) := r1
    rw [e_M_isAimed, q_M_isAimed_0, m1, rV_s]
    simp only [Option.bind_some]
    rw [jif_f (Int32.not_lt.mpr hy.1), jif_f (Int32.not_lt.mpr hy.2), m3, rI_s]
    simp only [Option.bind_some]
    rw [b2i_t hh, jif_f (by decide), q_M_isAimed_2, r1', rV_s]
    rfl
  · rw [f7]
    exact congrArg (fun q : Int32 × Int64 => q.1) o1
  · rw [f8]
    exact (congrArg (fun q : Int32 × Int64 => q.2) o1).trans (o2 s hs)
  · rcases hw with ⟨w1, w2⟩ | ⟨s1, w1, w2, w3⟩
    · refine Or.inl ⟨w1, ?_⟩
      rw [f9]
      exact congrArg (fun q : Int32 × Int64 => q.1) w2
    · have hs1 : s1 ∈ PL (k - 2) (k - 2) 0 := by
        obtain ⟨s2, u1, u2, u3⟩ := fN_some (Q := fun s => AR (hdC σ1 t k C (nib N) car) (k - 2) 0 0 C s = T ∧ IV (ovO (k - 2) hm) 0 s = wB (stO σ1 t (k - 2) C car (nib N (k - 1))) k C T hm) (PL (k - 2) (k - 2) 0) (Classical.byContradiction fun z => by rw [fN_none _ z] at w1; exact absurd w1 (by simp))
        rw [u1] at w1
        rw [← Option.some.inj w1]; exact u2
      have := hiv s1 hs1
      refine Or.inr ⟨by rw [w2]; exact this, ?_, fun s hs => ?_⟩
      · rw [f9, w2]
        exact congrArg (fun q : Int32 × Int64 => q.1) w3
      · rw [w1] at hs
        rw [f10, ← Option.some.inj hs]
        exact congrArg (fun q : Int32 × Int64 => q.2) w3
/-- and where it is no aim -/
theorem ord_noaim (d : Nat) {t A N : Nat} (n x y : Int32) (hN : N < 2 ^ 64) (hA : A ≤ 10) (σ1 : jS) (g1 : jInv σ1 t) (a1 : σ1.1 t 0 = nI A) (h : ¬ ((rowOK N n A ∧ 0 ≤ x ∧ x ≤ 999999) ∧ 0 ≤ y ∧ y ≤ 999999)) :
    ∃ σ5, g_M_isAimed (d + 17) n (lN N) x y (j_setI σ1 86 0 0) = some (some (.int 0), σ5) ∧ jInv σ5 t := by
  obtain ⟨σ3, σ4, m1, m2, m3, m4, -⟩ := ord_m d n x hN hA σ1 σ1 g1 a1 jep.rf
  rw [e_M_isAimed, q_M_isAimed_0, m1, rV_s]
  simp only [Option.bind_some]
  by_cases b1 : y < 0
  · rw [jif_t b1, q_M_isAimed_1]; exact ⟨_, rfl, m2⟩
  rw [jif_f b1]
  by_cases b2 : 999999 < y
  · rw [jif_t b2, q_M_isAimed_1]; exact ⟨_, rfl, m2⟩
  rw [jif_f b2, m3, rI_s]
  simp only [Option.bind_some]
  rw [b2i_f (fun h1 => h ⟨h1, Int32.not_lt.mp b1, Int32.not_lt.mp b2⟩), jif_t rfl, q_M_isAimed_1]
  exact ⟨_, rfl, m4⟩
theorem op_just (d : Nat) (n x y : Int32) (code : Int64) (σ : jS) (t : Nat) (g : jInv σ t) : opI (g_HH_just (d + 18) n code x y) (g_M_just (d + 18) n code x y) σ := by
  obtain ⟨N, hN, rfl⟩ := wb_of code
  obtain ⟨A, σ1, hA, a1, g1, c1, c3⟩ := ord_c (d + 13) n x hN σ t g
  have ht := g.1
  by_cases h : (rowOK N n A ∧ 0 ≤ x ∧ x ≤ 999999) ∧ 0 ≤ y ∧ y ≤ 999999
  · obtain ⟨k, e1, hR, hP⟩ := c3 h.1.1
    subst e1
    obtain ⟨C, hC, rfl⟩ := in_nI (M := 999999) rfl (by omega) h.1.2
    obtain ⟨T, hT, rfl⟩ := in_nI (M := 999999) rfl (by omega) h.2
    obtain ⟨σ2, car, hm, p1, p2, p3, p4, p5⟩ := ord_t (d + 11) hA hC σ1 g1 a1 hR hP
    have hk := hR.1
    have hk10 := hR.2.1
    obtain ⟨σe, u1, u2, -⟩ := c_howMany (d + 11) (T := T) (by omega) σ2 p4
    have Se : jep (oc_S t) σ1 σe := p2.tr (u2.mono (fun b j h => or_oc (so_or h)))
    obtain ⟨σ5, v1, v2, v3, v4, v5⟩ := ord_aim d hN hA hk hk10 hC hT σ1 σe g1 a1 Se hP p5 h.1 h.2
    have hC0 : g_HH_just (d + 18) (nI k) (lN N) (nI C) (nI T) σ = some (some (.int (nI (nB (stO σ1 t (k - 2) C car (nib N (k - 1))) k C T))), σe) := by
      rw [e_HH_just, q_HH_just_0, c1, rI_s]
      simp only [Option.bind_some]
      rw [b2i_t h.1, jif_f (by decide), c_within, rI_s]
      simp only [Option.bind_some]
      rw [if_pos h.2, jif_f (by decide), q_HH_just_2, g1.2.1, p1, rV_s]
      simp only [Option.bind_some]
      rw [u1, rI_s]
      rfl
    have hM0 : g_M_just (d + 18) (nI k) (lN N) (nI C) (nI T) σe = b_M_just_2 (d + 17) (σ5.1 86 65) σ5 := by
      rw [e_M_just, q_M_just_0, v1, rI_s]
      simp only [Option.bind_some]
      rw [jif_f (by decide)]
    refine ⟨_, σe, σ5, t, hC0, hM0.trans ?_, v2⟩
    rw [q_M_just_2, v3]
  · obtain ⟨σ5, v1, v2⟩ := ord_noaim d n x y hN hA σ1 g1 a1 h
    refine ⟨-1, σ1, σ5, t, ?_, ?_, v2⟩
    · show g_HH_just (d + 18) n (lN N) x y σ = _
      rw [e_HH_just, q_HH_just_0, c1, rI_s]
      simp only [Option.bind_some]
      by_cases h1 : rowOK N n A ∧ 0 ≤ x ∧ x ≤ 999999
      · rw [b2i_t h1, jif_f (by decide), c_within, rI_s]
        simp only [Option.bind_some]
        rw [if_neg (fun h3 => h ⟨h1, h3⟩), jif_t rfl, q_HH_just_1]
      · rw [b2i_f h1, jif_t rfl, q_HH_just_1]
    · show g_M_just (d + 18) n (lN N) x y σ1 = _
      rw [e_M_just, q_M_just_0, v1, rI_s]
      simp only [Option.bind_some]
      rw [jif_t trivial, q_M_just_1, q_M_just_2]
theorem op_first (d : Nat) (n x y : Int32) (code : Int64) (σ : jS) (t : Nat) (g : jInv σ t) : opL (g_HH_first (d + 18) n code x y) (g_M_first (d + 18) n code x y) σ := by
  obtain ⟨N, hN, rfl⟩ := wb_of code
  obtain ⟨A, σ1, hA, a1, g1, c1, c3⟩ := ord_c (d + 13) n x hN σ t g
  have ht := g.1
  by_cases h : (rowOK N n A ∧ 0 ≤ x ∧ x ≤ 999999) ∧ 0 ≤ y ∧ y ≤ 999999
  · obtain ⟨k, e1, hR, hP⟩ := c3 h.1.1
    subst e1
    obtain ⟨C, hC, rfl⟩ := in_nI (M := 999999) rfl (by omega) h.1.2
    obtain ⟨T, hT, rfl⟩ := in_nI (M := 999999) rfl (by omega) h.2
    obtain ⟨σ2, car, hm, p1, p2, p3, p4, p5⟩ := ord_t (d + 11) hA hC σ1 g1 a1 hR hP
    have hk := hR.1
    have hk10 := hR.2.1
    obtain ⟨v, σe, u1, u2, u3⟩ := c_firstB (d + 10) (T := T) hk10 (by omega) σ2 p3 p4
    have Se : jep (oc_S t) σ1 σe := p2.tr (u2.mono (fun b j h => or_oc h))
    obtain ⟨σ5, v1, v2, v3, v4, v5⟩ := ord_aim d hN hA hk hk10 hC hT σ1 σe g1 a1 Se hP p5 h.1 h.2
    have hC0 : g_HH_first (d + 18) (nI k) (lN N) (nI C) (nI T) σ = some (some (.long (v)), σe) := by
      rw [e_HH_first, q_HH_first_0, c1, rI_s]
      simp only [Option.bind_some]
      rw [b2i_t h.1, jif_f (by decide), c_within, rI_s]
      simp only [Option.bind_some]
      rw [if_pos h.2, jif_f (by decide), q_HH_first_2, g1.2.1, p1, rV_s]
      simp only [Option.bind_some]
      rw [u1, rL_s]
      rfl
    have hM0 : g_M_first (d + 18) (nI k) (lN N) (nI C) (nI T) σe = b_M_first_1 (d + 17) σ5 := by
      rw [e_M_first, q_M_first_0, v1, rI_s]
      simp only [Option.bind_some]
      rw [jif_f (by decide)]
    refine ⟨_, σe, σ5, t, hC0, hM0.trans ?_, v2⟩
    have hb := nB_lt (st := stO σ1 t (k - 2) C car (nib N (k - 1))) (C := C) (T := T) hk10
    rcases u3 with ⟨w1, w2⟩ | ⟨w1, s, w2, w3⟩
    · rw [q_M_first_1, v3, w1, jif_t nI_0, q_M_first_3, w2]
    · rw [q_M_first_1, v3, jif_f (show ¬ nI (nB (stO σ1 t (k - 2) C car (nib N (k - 1))) k C T) = (0 : Int32) from fun z => w1 (nI_inj (b := 0) (by omega) (by omega) z)), q_M_first_2, q_M_first_3, v4 s w2, w3]
  · obtain ⟨σ5, v1, v2⟩ := ord_noaim d n x y hN hA σ1 g1 a1 h
    refine ⟨-1, σ1, σ5, t, ?_, ?_, v2⟩
    · show g_HH_first (d + 18) n (lN N) x y σ = _
      rw [e_HH_first, q_HH_first_0, c1, rI_s]
      simp only [Option.bind_some]
      by_cases h1 : rowOK N n A ∧ 0 ≤ x ∧ x ≤ 999999
      · rw [b2i_t h1, jif_f (by decide), c_within, rI_s]
        simp only [Option.bind_some]
        rw [if_neg (fun h3 => h ⟨h1, h3⟩), jif_t rfl, q_HH_first_1]
      · rw [b2i_f h1, jif_t rfl, q_HH_first_1]
    · show g_M_first (d + 18) n (lN N) x y σ1 = _
      rw [e_M_first, q_M_first_0, v1, rI_s]
      simp only [Option.bind_some]
      rw [jif_t trivial, q_M_first_3]
theorem op_changes (d : Nat) (n x y : Int32) (code : Int64) (σ : jS) (t : Nat) (g : jInv σ t) : opI (g_HH_changes (d + 18) n code x y) (g_M_changes (d + 18) n code x y) σ := by
  obtain ⟨N, hN, rfl⟩ := wb_of code
  obtain ⟨A, σ1, hA, a1, g1, c1, c3⟩ := ord_c (d + 13) n x hN σ t g
  have ht := g.1
  by_cases h : (rowOK N n A ∧ 0 ≤ x ∧ x ≤ 999999) ∧ 0 ≤ y ∧ y ≤ 999999
  · obtain ⟨k, e1, hR, hP⟩ := c3 h.1.1
    subst e1
    obtain ⟨C, hC, rfl⟩ := in_nI (M := 999999) rfl (by omega) h.1.2
    obtain ⟨T, hT, rfl⟩ := in_nI (M := 999999) rfl (by omega) h.2
    obtain ⟨σ2, car, hm, p1, p2, p3, p4, p5⟩ := ord_t (d + 11) hA hC σ1 g1 a1 hR hP
    have hk := hR.1
    have hk10 := hR.2.1
    obtain ⟨σe, u1, u2, -⟩ := c_fewest (d + 11) (T := T) hk10 (by omega) σ2 p4
    have Se : jep (oc_S t) σ1 σe := p2.tr (u2.mono (fun b j h => or_oc (so_or h)))
    obtain ⟨σ5, v1, v2, v3, v4, v5⟩ := ord_aim d hN hA hk hk10 hC hT σ1 σe g1 a1 Se hP p5 h.1 h.2
    have hC0 : g_HH_changes (d + 18) (nI k) (lN N) (nI C) (nI T) σ = some (some (.int (if wB (stO σ1 t (k - 2) C car (nib N (k - 1))) k C T hm < 536870912 then nI (wB (stO σ1 t (k - 2) C car (nib N (k - 1))) k C T hm) else -2)), σe) := by
      rw [e_HH_changes, q_HH_changes_0, c1, rI_s]
      simp only [Option.bind_some]
      rw [b2i_t h.1, jif_f (by decide), c_within, rI_s]
      simp only [Option.bind_some]
      rw [if_pos h.2, jif_f (by decide), q_HH_changes_2, g1.2.1, p1, rV_s]
      simp only [Option.bind_some]
      rw [u1, rI_s]
      rfl
    have hM0 : g_M_changes (d + 18) (nI k) (lN N) (nI C) (nI T) σe = b_M_changes_1 (d + 17) σ5 := by
      rw [e_M_changes, q_M_changes_0, v1, rI_s]
      simp only [Option.bind_some]
      rw [jif_f (by decide)]
    refine ⟨_, σe, σ5, t, hC0, hM0.trans ?_, v2⟩
    rcases v5 with ⟨w1, w2⟩ | ⟨w1, w2, -⟩
    · rw [q_M_changes_1, w2, jif_t rfl, q_M_changes_3, if_neg (by rw [w1]; omega)]
    · rw [q_M_changes_1, w2, jif_f (nI_m1 (by omega)), q_M_changes_2, q_M_changes_3, if_pos w1, w2]
  · obtain ⟨σ5, v1, v2⟩ := ord_noaim d n x y hN hA σ1 g1 a1 h
    refine ⟨-1, σ1, σ5, t, ?_, ?_, v2⟩
    · show g_HH_changes (d + 18) n (lN N) x y σ = _
      rw [e_HH_changes, q_HH_changes_0, c1, rI_s]
      simp only [Option.bind_some]
      by_cases h1 : rowOK N n A ∧ 0 ≤ x ∧ x ≤ 999999
      · rw [b2i_t h1, jif_f (by decide), c_within, rI_s]
        simp only [Option.bind_some]
        rw [if_neg (fun h3 => h ⟨h1, h3⟩), jif_t rfl, q_HH_changes_1]
      · rw [b2i_f h1, jif_t rfl, q_HH_changes_1]
    · show g_M_changes (d + 18) n (lN N) x y σ1 = _
      rw [e_M_changes, q_M_changes_0, v1, rI_s]
      simp only [Option.bind_some]
      rw [jif_t trivial, q_M_changes_3]
theorem op_changed (d : Nat) (n x y : Int32) (code : Int64) (σ : jS) (t : Nat) (g : jInv σ t) : opL (g_HH_changed (d + 18) n code x y) (g_M_changed (d + 18) n code x y) σ := by
  obtain ⟨N, hN, rfl⟩ := wb_of code
  obtain ⟨A, σ1, hA, a1, g1, c1, c3⟩ := ord_c (d + 13) n x hN σ t g
  have ht := g.1
  by_cases h : (rowOK N n A ∧ 0 ≤ x ∧ x ≤ 999999) ∧ 0 ≤ y ∧ y ≤ 999999
  · obtain ⟨k, e1, hR, hP⟩ := c3 h.1.1
    subst e1
    obtain ⟨C, hC, rfl⟩ := in_nI (M := 999999) rfl (by omega) h.1.2
    obtain ⟨T, hT, rfl⟩ := in_nI (M := 999999) rfl (by omega) h.2
    obtain ⟨σ2, car, hm, p1, p2, p3, p4, p5⟩ := ord_t (d + 11) hA hC σ1 g1 a1 hR hP
    have hk := hR.1
    have hk10 := hR.2.1
    obtain ⟨v, σe, u1, u2, u3⟩ := c_nearest (d + 10) (T := T) hk10 (by omega) σ2 p3 p4
    have Se : jep (oc_S t) σ1 σe := p2.tr (u2.mono (fun b j h => or_oc h))
    obtain ⟨σ5, v1, v2, v3, v4, v5⟩ := ord_aim d hN hA hk hk10 hC hT σ1 σe g1 a1 Se hP p5 h.1 h.2
    have hC0 : g_HH_changed (d + 18) (nI k) (lN N) (nI C) (nI T) σ = some (some (.long (v)), σe) := by
      rw [e_HH_changed, q_HH_changed_0, c1, rI_s]
      simp only [Option.bind_some]
      rw [b2i_t h.1, jif_f (by decide), c_within, rI_s]
      simp only [Option.bind_some]
      rw [if_pos h.2, jif_f (by decide), q_HH_changed_2, g1.2.1, p1, rV_s]
      simp only [Option.bind_some]
      rw [u1, rL_s]
      rfl
    have hM0 : g_M_changed (d + 18) (nI k) (lN N) (nI C) (nI T) σe = b_M_changed_1 (d + 17) σ5 := by
      rw [e_M_changed, q_M_changed_0, v1, rI_s]
      simp only [Option.bind_some]
      rw [jif_f (by decide)]
    refine ⟨_, σe, σ5, t, hC0, hM0.trans ?_, v2⟩
    rcases v5 with ⟨w1, w2⟩ | ⟨w1, w2, w3⟩
    · rcases u3 with ⟨-, z2⟩ | ⟨z1, -⟩
      · rw [q_M_changed_1, w2, jif_t rfl, q_M_changed_3, z2]
      · exact absurd z1 (by rw [w1]; omega)
    · rcases u3 with ⟨z1, -⟩ | ⟨z1, s, z2, z3⟩
      · exact absurd w1 (by rw [z1]; omega)
      · rw [q_M_changed_1, w2, jif_f (nI_m1 (by omega)), q_M_changed_2, q_M_changed_3, w3 s z2, z3]
  · obtain ⟨σ5, v1, v2⟩ := ord_noaim d n x y hN hA σ1 g1 a1 h
    refine ⟨-1, σ1, σ5, t, ?_, ?_, v2⟩
    · show g_HH_changed (d + 18) n (lN N) x y σ = _
      rw [e_HH_changed, q_HH_changed_0, c1, rI_s]
      simp only [Option.bind_some]
      by_cases h1 : rowOK N n A ∧ 0 ≤ x ∧ x ≤ 999999
      · rw [b2i_t h1, jif_f (by decide), c_within, rI_s]
        simp only [Option.bind_some]
        rw [if_neg (fun h3 => h ⟨h1, h3⟩), jif_t rfl, q_HH_changed_1]
      · rw [b2i_f h1, jif_t rfl, q_HH_changed_1]
    · show g_M_changed (d + 18) n (lN N) x y σ1 = _
      rw [e_M_changed, q_M_changed_0, v1, rI_s]
      simp only [Option.bind_some]
      rw [jif_t trivial, q_M_changed_3]
