/-! The law's loop. Printed by wip/gen/lawr.py. -/
/-! THE CLAIM OUT OF ONE WALK OF THE LAW'S BODY. Your part is whole_start (and what it stands on); all else here is the same for every law, but numbers. -/
def R_law : String := "HalfHandsLaw"
def lw_P (b : Addr) (xs : List Int32) (args : Array Value) (s : State) : Prop := args = #[.ref b] ∧ s.IntsAt b xs ∧ xs.length ≤ 3584 ∧ (Jvm.Cond.and given_1 narrow_1).before args s = true
def lw_Q (_ : Array Value) (s : State) (o : Outcome) (t : State) : Prop := o = .returned (some (.int 1)) ∧ Framed s o t [] 601024 7293034
def lw_Z (below : List Frame) (a : Array Value) (s : State) : State → Prop := fun t => ∃ o, t.status = .running ∧ Ended t below o ∧ lw_Q a s o t
/-- the law's own end, with 1 on the stack, nothing written that was there before, its room as the claim has it -/
theorem lw_ret {p : Program} {l : Launch} {e : Env} {s : State} {m : MethodId} {below : List Frame} {meth : Method} {c : Code} {b : Nat} (hx : p.tables.exec = Jvm.exec) (hb : c.code = code) (hr : meth.sig.returnType = ret) (hlocks : meth.locks = false) {pc : Nat} {H : Heap} {ls : Array Slot} (hdg : decode code pc = .ok (.ireturn, 1)) : W p l e room_1 s m #[Value.ref b] below meth c H [] 601024 7293034 (lw_Z below #[Value.ref b] s) (F0 m pc ls [.int 1]) := by
  intro T hT X
  obtain ⟨fs, hret, hrun, hended, hW, hframe⟩ := X.leave (v := some (.int 1)) (hlocks := hlocks) (fun h => by rw [hr] at h; cases h)
  have hmeth' : T.vm.method? m = some meth := X.method'
  refine ⟨T.setFrames fs, ?_, .returned (some (.int 1)), hrun, hended, rfl, ⟨_, rfl⟩, hW, hframe⟩
  jvm_step X.here [X.here.top, hx, hb, hdg, hmeth', hr, ret, narrow_b1]
  (try refine ⟨rfl, ?_⟩); (try refine ⟨rfl, ?_⟩)
  first | (intro acts; rw [hret _ acts rfl rfl rfl]) | rw [hret _ _ rfl rfl rfl]
  exact Steps.refl _
/-- what holds at the law's entry: the machine, the code, the tables' words (any of lw_tbl by 'hts w (by decide +kernel)'), the script of L ints xs at the cell b, what the Statement gives of the start (any of its parts by flat_of_before) -/
def lw_At (p : Program) (s : State) (m : MethodId) (meth : Method) (c : Code) (b L : Nat) (xs : Nat → Int32) : Prop :=
  p.tables.exec = Jvm.exec ∧ c.code = code ∧ meth.sig.returnType = ret ∧ c.maxLocals = 7 ∧ s.vm.findClass R_law = some m.cls ∧ (∀ w ∈ lw_tbl, w.before #[Value.ref b] s = true) ∧ va_X b L xs s s.heap ∧ b < s.heap.size ∧ meth.locks = false ∧ (Jvm.Cond.and given_1 narrow_1).before #[Value.ref b] s = true
/-- what holds along the law's loop: the world of class and reference stands, nothing older is written -/
def lwC (p : Program) (s : State) (m : MethodId) (meth : Method) (c : Code) (b L : Nat) (xs : Nat → Int32) (D : va_G) (G : jG) (α adV : Nat → Nat) : Prop :=
  p.tables.exec = Jvm.exec ∧ c.code = code ∧ c.maxLocals = 7 ∧ meth.sig.returnType = ret ∧ meth.locks = false ∧ s.vm.findClass R_law = some m.cls ∧ (∀ w ∈ jws, w.before #[Value.ref b] s = true) ∧ va_K D jcl (jtys G) s ∧ jZ α adV s ∧ (∀ a a', a < jSH.length → a' < jSH.length → α a = α a' → a = a') ∧ va_X b L xs s s.heap ∧ α 2000 = b ∧ b < s.heap.size ∧ (∀ a, a < jSH.length → s.heap.size ≤ α a) ∧ L ≤ 3584
theorem lwC.F {p : Program} {s : State} {m : MethodId} {meth : Method} {c : Code} {b L : Nat} {xs : Nat → Int32} {D : va_G} {G : jG} {α adV : Nat → Nat} {cells slots : Nat} (h : lwC p s m meth c b L xs D G α adV) (h1 : cells ≤ 601024) (h2 : slots ≤ 7293034) : jFx p room_1 s m #[Value.ref b] c code 7 13 D G α (jZ α adV) 136 cells slots := by
  obtain ⟨c1, c2, c3, c4, c5, c6, c7, c8, c9, c10, c11, c12, c13, c14, c15⟩ := h
  exact ⟨c1, c2, c3, c6, c7, c8, c9, jZ_ok α adV, c10, by decide, by decide, h1, h2⟩
theorem jMM_lt {y : Nat} {M : jM} (h : jMM[y]? = some M) : y < 9998 := by
  have h1 := (List.getElem?_eq_some_iff.mp h).1
  rw [jMM_len] at h1
  omega
theorem jCL_jd {d L y : Nat} {xs : Nat → Int32} (h : y < 9998) (a : List Value) (σ : jS) : jCL d L xs y a σ = jd jMT d y a σ := by
  unfold jCL
  rw [show (y == 9998) = false from beq_eq_false_iff_ne.mpr (by omega), show (y == 9999) = false from beq_eq_false_iff_ne.mpr (by omega)]
  rfl
theorem lwC.C {p : Program} {l : Launch} {s : State} {m : MethodId} {meth : Method} {c : Code} {b L : Nat} {xs : Nat → Int32} {D : va_G} {G : jG} {α adV : Nat → Nat} (h : lwC p s m meth c b L xs D G α adV) : jHC l α G D (jZ α adV) 136 (jCL 136 L xs) := by
  intro y M a σ v σ2 hM hv
  rw [jCL_jd (jMM_lt hM)] at hv
  exact jd_ok jMT_ok h.2.2.2.2.2.2.2.2.2.1 (jZ_ok α adV) (jStrs_ok l) 136 y M a σ v σ2 hM hv
theorem lwC.S {p : Program} {s : State} {m : MethodId} {meth : Method} {c : Code} {b L : Nat} {xs : Nat → Int32} {D : va_G} {G : jG} {α adV : Nat → Nat} (h : lwC p s m meth c b L xs D G α adV) : jHS s α true (jCL 136 L xs) := by
  intro _
  obtain ⟨c1, c2, c3, c4, c5, c6, c7, c8, c9, c10, c11, c12, c13, c14, c15⟩ := h
  refine ⟨L, xs, by rw [c12]; exact c11, by rw [c12]; exact c13, ?_, fun i σ w hw => ?_, fun σ w hw => ?_⟩
  · rintro ⟨a, ha, e⟩
    have := c14 a ha
    rw [c12] at e
    omega
  · have hw : r_I (@ite _ (vp_in i L) (Classical.propDecidable _) (some (some (.int (xs i.toNatClampNeg)), σ)) none) = some w := hw
    by_cases q : vp_in i L
    · rw [if_pos q, rI_s] at hw
      exact ⟨q, (Option.some.inj hw).symm⟩
    · rw [if_neg q] at hw; cases hw
  · exact (Option.some.inj (show some (Int32.ofNat L, σ) = some w from hw)).symm
/-- a block of the law, whatever block it goes on to -/
noncomputable def lwK (W1 : Nat → jL → List Value → jS → Prop) (σ0 : jS) : Nat → jL → List Value → jS → jR := fun j lv st σ => @ite _ (∀ q, jpc lwBk j = some q → W1 q lv st σ) (Classical.propDecidable _) (some (none, σ0)) none
theorem lwK_t {W1 : Nat → jL → List Value → jS → Prop} {σ0 σ : jS} {j q : Nat} {lv : jL} {st : List Value} (hq : jpc lwBk j = some q) (h : W1 q lv st σ) : lwK W1 σ0 j lv st σ = some (none, σ0) := by
  unfold lwK
  exact if_pos (fun q' h' => by rw [hq] at h'; cases h'; exact h)
theorem lw_blk {p : Program} {l : Launch} {e : Env} {s : State} {m : MethodId} {below : List Frame} {meth : Method} {c : Code} {b L : Nat} {xs : Nat → Int32} {D : va_G} {G : jG} {α adV : Nat → Nat} {cells slots : Nat} (h : lwC p s m meth c b L xs D G α adV) (h1 : cells ≤ 601024) (h2 : slots ≤ 7293034) {σ0 : jS} {nx pc : Nat} {is : List jN} {lv : jL} {st : List Value} {σ : jS} (hc : chkB true 13 7 lwBk code nx is pc = true)
    (hj : jb (jCL 136 L xs) 2 (lwK (jWk p l e room_1 s m #[Value.ref b] below meth c cells slots (lw_Z below #[Value.ref b] s) 7 D G α) σ0) nx is lv st σ = some (none, σ0)) : jWk p l e room_1 s m #[Value.ref b] below meth c cells slots (lw_Z below #[Value.ref b] s) 7 D G α pc lv st σ :=
  jb_ok (h.F h1 h2) h.C h.S (jStrs_ok l p e _ s m _ below meth c cells slots _ _ _ _ _ (h.F h1 h2)) (r := (none, σ0)) (fun pc ls H locs _ _ => ⟨fun v hv => (by cases hv), fun v hv => (by cases hv), fun _ h0 => (by cases h0)⟩) (K := lwK (jWk p l e room_1 s m #[Value.ref b] below meth c cells slots (lw_Z below #[Value.ref b] s) 7 D G α) σ0)
    (fun j lv st σ q hk hq => by
      unfold lwK at hk
      by_cases z : ∀ q, jpc lwBk j = some q → jWk p l e room_1 s m #[Value.ref b] below meth c cells slots (lw_Z below #[Value.ref b] s) 7 D G α q lv st σ
      · exact z q hq
      · rw [if_neg z] at hk; cases hk) is pc lv st σ hc hj
theorem lw_d2254 : decode code 2254 = .ok (.iconst 1, 1) := by decide +kernel
theorem lw_d2255 : decode code 2255 = .ok (.ireturn, 1) := by decide +kernel
theorem lw_end {p : Program} {l : Launch} {e : Env} {s : State} {m : MethodId} {below : List Frame} {meth : Method} {c : Code} {b L : Nat} {xs : Nat → Int32} {D : va_G} {G : jG} {α adV : Nat → Nat} {cells slots : Nat} (h : lwC p s m meth c b L xs D G α adV) (h1 : cells ≤ 601024) (h2 : slots ≤ 7293034) (lv : jL) (σ : jS) : jWk p l e room_1 s m #[Value.ref b] below meth c cells slots (lw_Z below #[Value.ref b] s) 7 D G α 2254 lv [] σ := by
  intro ls H locs hl hP hS
  obtain ⟨c1, c2, c3, c4, c5, c6, c7, c8, c9, c10, c11, c12, c13, c14, c15⟩ := h
  refine lv_iconst c1 c2 lw_d2254 (v := 1) rfl ?_
  refine va_forget (fun q hq => ?_) ?_
  · obtain ⟨a, ha, e⟩ := hS.2.2 q hq
    rw [e]; exact c14 a ha
  refine W.widen (k := 601024) (n := 7293034) h1 h2 ?_
  exact lw_ret c1 c2 c4 c5 lw_d2255
theorem lw_len {d L : Nat} {xs : Nat → Int32} (σ : jS) : r_I (jCL d L xs 9999 [] σ) = some (nI L, σ) := rfl
theorem lw_cmp {L k : Nat} (hL : L ≤ 3584) (hk : k ≤ 4000) : (nI L - 7 < nI k) ↔ L < k + 7 := by
  rw [Int32.lt_iff_toInt_lt, show (7 : Int32) = nI 7 from rfl, pk_sub_toInt (by omega) (by omega), nI_toInt (by omega)]
  omega
/-- behind a call: the next seven ints -/
theorem lw_next {p : Program} {l : Launch} {e : Env} {s : State} {m : MethodId} {below : List Frame} {meth : Method} {c : Code} {b L : Nat} {xs : Nat → Int32} {D : va_G} {G : jG} {α adV : Nat → Nat} {cells slots : Nat} (h : lwC p s m meth c b L xs D G α adV) (h1 : cells ≤ 601024) (h2 : slots ≤ 7293034) {k : Nat} (σ : jS) (hn : jWk p l e room_1 s m #[Value.ref b] below meth c cells slots (lw_Z below #[Value.ref b] s) 7 D G α 23 [(4, .int (nI (k + 7))), (0, .ref 2000), (1, .ref 0), (2, .ref 86), (3, .ref 126)] [] σ) : jWk p l e room_1 s m #[Value.ref b] below meth c cells slots (lw_Z below #[Value.ref b] s) 7 D G α 2248 [(4, .int (nI k)), (0, .ref 2000), (1, .ref 0), (2, .ref 86), (3, .ref 126)] [] σ := by
  refine lw_blk h h1 h2 (σ0 := σ) lwc_39 ?_
  rw [lwq_39, show nI k + 7 = nI (k + 7) from nI_add k 7]
  exact lwK_t (q := 23) rfl hn
/-- the loop's head: one call, or the end -/
theorem lw_head {p : Program} {l : Launch} {e : Env} {s : State} {m : MethodId} {below : List Frame} {meth : Method} {c : Code} {b L : Nat} {xs : Nat → Int32} {D : va_G} {G : jG} {α adV : Nat → Nat} {cells slots : Nat} (h : lwC p s m meth c b L xs D G α adV) (h1 : cells ≤ 601024) (h2 : slots ≤ 7293034) {k : Nat} (hk4 : k ≤ 4000) (σ : jS) (t : Nat) (g : jInv σ t)
    (hn : ∀ σ' t', jInv σ' t' → jWk p l e room_1 s m #[Value.ref b] below meth c cells slots (lw_Z below #[Value.ref b] s) 7 D G α 23 [(4, .int (nI (k + 7))), (0, .ref 2000), (1, .ref 0), (2, .ref 86), (3, .ref 126)] [] σ')
    (hlook : k + 7 ≤ L → ∀ σ' t', jInv σ' t' → jWk p l e room_1 s m #[Value.ref b] below meth c cells slots (lw_Z below #[Value.ref b] s) 7 D G α 352 [(4, .int (nI k)), (0, .ref 2000), (1, .ref 0), (2, .ref 86), (3, .ref 126)] [] σ') : jWk p l e room_1 s m #[Value.ref b] below meth c cells slots (lw_Z below #[Value.ref b] s) 7 D G α 23 [(4, .int (nI k)), (0, .ref 2000), (1, .ref 0), (2, .ref 86), (3, .ref 126)] [] σ := by
  have hL : L ≤ 3584 := h.2.2.2.2.2.2.2.2.2.2.2.2.2.2
  refine lw_blk h h1 h2 (σ0 := σ) lwc_0 ?_
  rw [lwq_0, lw_len]
  simp only [Option.bind_some]
  by_cases hkL : L < k + 7
  · rw [jif_t ((lw_cmp hL hk4).mpr hkL)]
    exact lwK_t (q := 2254) rfl (lw_end h h1 h2 _ σ)
  rw [jif_f (fun z => hkL ((lw_cmp hL hk4).mp z)), show r_I (jCL 136 L xs 9998 [Value.int (nI k)] σ) = some (xs k, σ) from lrd (c := 0) rfl (Nat.le_of_not_lt hkL) hL (by omega) σ]
  simp only [Option.bind_some]
  have hkL : k + 7 ≤ L := Nat.le_of_not_lt hkL
  by_cases q0 : (xs k &&& 63) = 0
  · rw [jif_t q0]
    refine lwK_t (q := 192) rfl (lw_blk h h1 h2 (σ0 := σ) lwc_1 ?_)
    obtain ⟨σ', t', g', e'⟩ := lwp_1 (xs := xs) hkL hL σ t g (lwK (jWk p l e room_1 s m #[Value.ref b] below meth c cells slots (lw_Z below #[Value.ref b] s) 7 D G α) σ)
    rw [e']
    exact lwK_t (q := 2248) rfl (lw_next h h1 h2 σ' (hn _ _ g'))
  rw [jif_f q0]
  by_cases q1 : (xs k &&& 63) = 1
  · rw [jif_t q1]
    refine lwK_t (q := 265) rfl (lw_blk h h1 h2 (σ0 := σ) lwc_2 ?_)
    obtain ⟨σ', t', g', e'⟩ := lwp_2 (xs := xs) hkL hL σ t g (lwK (jWk p l e room_1 s m #[Value.ref b] below meth c cells slots (lw_Z below #[Value.ref b] s) 7 D G α) σ)
    rw [e']
    exact lwK_t (q := 2248) rfl (lw_next h h1 h2 σ' (hn _ _ g'))
  rw [jif_f q1]
  by_cases q2 : (xs k &&& 63) = 2
  · rw [jif_t q2]
    refine lwK_t (q := 290) rfl (lw_blk h h1 h2 (σ0 := σ) lwc_3 ?_)
    obtain ⟨σ', t', g', e'⟩ := lwp_3 (xs := xs) hkL hL σ t g (lwK (jWk p l e room_1 s m #[Value.ref b] below meth c cells slots (lw_Z below #[Value.ref b] s) 7 D G α) σ)
    rw [e']
    exact lwK_t (q := 2248) rfl (lw_next h h1 h2 σ' (hn _ _ g'))
  rw [jif_f q2]
  by_cases q3 : (xs k &&& 63) = 3
  · rw [jif_t q3]
    refine lwK_t (q := 315) rfl (lw_blk h h1 h2 (σ0 := σ) lwc_4 ?_)
    obtain ⟨σ', t', g', e'⟩ := lwp_4 (xs := xs) hkL hL σ t g (lwK (jWk p l e room_1 s m #[Value.ref b] below meth c cells slots (lw_Z below #[Value.ref b] s) 7 D G α) σ)
    rw [e']
    exact lwK_t (q := 2248) rfl (lw_next h h1 h2 σ' (hn _ _ g'))
  rw [jif_f q3]
  by_cases q4 : (xs k &&& 63) = 4
  · rw [jif_t q4]
    exact lwK_t (q := 352) rfl (hlook hkL _ _ g)
  rw [jif_f q4]
  by_cases q5 : (xs k &&& 63) = 5
  · rw [jif_t q5]
    refine lwK_t (q := 420) rfl (lw_blk h h1 h2 (σ0 := σ) lwc_10 ?_)
    obtain ⟨σ', t', g', e'⟩ := lwp_10 (xs := xs) hkL hL σ t g (lwK (jWk p l e room_1 s m #[Value.ref b] below meth c cells slots (lw_Z below #[Value.ref b] s) 7 D G α) σ)
    rw [e']
    exact lwK_t (q := 2248) rfl (lw_next h h1 h2 σ' (hn _ _ g'))
  rw [jif_f q5]
  by_cases q6 : (xs k &&& 63) = 6
  · rw [jif_t q6]
    refine lwK_t (q := 445) rfl (lw_blk h h1 h2 (σ0 := σ) lwc_11 ?_)
    obtain ⟨σ', t', g', e'⟩ := lwp_11 (xs := xs) hkL hL σ t g (lwK (jWk p l e room_1 s m #[Value.ref b] below meth c cells slots (lw_Z below #[Value.ref b] s) 7 D G α) σ)
    rw [e']
    exact lwK_t (q := 2248) rfl (lw_next h h1 h2 σ' (hn _ _ g'))
  rw [jif_f q6]
  by_cases q7 : (xs k &&& 63) = 7
  · rw [jif_t q7]
    refine lwK_t (q := 482) rfl (lw_blk h h1 h2 (σ0 := σ) lwc_12 ?_)
    obtain ⟨σ', t', g', e'⟩ := lwp_12 (xs := xs) hkL hL σ t g (lwK (jWk p l e room_1 s m #[Value.ref b] below meth c cells slots (lw_Z below #[Value.ref b] s) 7 D G α) σ)
    rw [e']
    exact lwK_t (q := 2248) rfl (lw_next h h1 h2 σ' (hn _ _ g'))
  rw [jif_f q7]
  by_cases q8 : (xs k &&& 63) = 8
  · rw [jif_t q8]
    refine lwK_t (q := 519) rfl (lw_blk h h1 h2 (σ0 := σ) lwc_13 ?_)
    obtain ⟨σ', t', g', e'⟩ := lwp_13 (xs := xs) hkL hL σ t g (lwK (jWk p l e room_1 s m #[Value.ref b] below meth c cells slots (lw_Z below #[Value.ref b] s) 7 D G α) σ)
    rw [e']
    exact lwK_t (q := 2248) rfl (lw_next h h1 h2 σ' (hn _ _ g'))
  rw [jif_f q8]
  by_cases q9 : (xs k &&& 63) = 9
  · rw [jif_t q9]
    refine lwK_t (q := 533) rfl (lw_blk h h1 h2 (σ0 := σ) lwc_14 ?_)
    obtain ⟨σ', t', g', e'⟩ := lwp_14 (xs := xs) hkL hL σ t g (lwK (jWk p l e room_1 s m #[Value.ref b] below meth c cells slots (lw_Z below #[Value.ref b] s) 7 D G α) σ)
    rw [e']
    exact lwK_t (q := 2248) rfl (lw_next h h1 h2 σ' (hn _ _ g'))
  rw [jif_f q9]
  by_cases q10 : (xs k &&& 63) = 10
  · rw [jif_t q10]
    refine lwK_t (q := 546) rfl (lw_blk h h1 h2 (σ0 := σ) lwc_15 ?_)
    obtain ⟨σ', t', g', e'⟩ := lwp_15 (xs := xs) hkL hL σ t g (lwK (jWk p l e room_1 s m #[Value.ref b] below meth c cells slots (lw_Z below #[Value.ref b] s) 7 D G α) σ)
    rw [e']
    exact lwK_t (q := 2248) rfl (lw_next h h1 h2 σ' (hn _ _ g'))
  rw [jif_f q10]
  by_cases q11 : (xs k &&& 63) = 11
  · rw [jif_t q11]
    refine lwK_t (q := 627) rfl (lw_blk h h1 h2 (σ0 := σ) lwc_16 ?_)
    obtain ⟨σ', t', g', e'⟩ := lwp_16 (xs := xs) hkL hL σ t g (lwK (jWk p l e room_1 s m #[Value.ref b] below meth c cells slots (lw_Z below #[Value.ref b] s) 7 D G α) σ)
    rw [e']
    exact lwK_t (q := 2248) rfl (lw_next h h1 h2 σ' (hn _ _ g'))
  rw [jif_f q11]
  by_cases q12 : (xs k &&& 63) = 12
  · rw [jif_t q12]
    refine lwK_t (q := 720) rfl (lw_blk h h1 h2 (σ0 := σ) lwc_17 ?_)
    obtain ⟨σ', t', g', e'⟩ := lwp_17 (xs := xs) hkL hL σ t g (lwK (jWk p l e room_1 s m #[Value.ref b] below meth c cells slots (lw_Z below #[Value.ref b] s) 7 D G α) σ)
    rw [e']
    exact lwK_t (q := 2248) rfl (lw_next h h1 h2 σ' (hn _ _ g'))
  rw [jif_f q12]
  by_cases q13 : (xs k &&& 63) = 13
  · rw [jif_t q13]
    refine lwK_t (q := 813) rfl (lw_blk h h1 h2 (σ0 := σ) lwc_18 ?_)
    obtain ⟨σ', t', g', e'⟩ := lwp_18 (xs := xs) hkL hL σ t g (lwK (jWk p l e room_1 s m #[Value.ref b] below meth c cells slots (lw_Z below #[Value.ref b] s) 7 D G α) σ)
    rw [e']
    exact lwK_t (q := 2248) rfl (lw_next h h1 h2 σ' (hn _ _ g'))
  rw [jif_f q13]
  by_cases q14 : (xs k &&& 63) = 14
  · rw [jif_t q14]
    refine lwK_t (q := 920) rfl (lw_blk h h1 h2 (σ0 := σ) lwc_19 ?_)
    obtain ⟨σ', t', g', e'⟩ := lwp_19 (xs := xs) hkL hL σ t g (lwK (jWk p l e room_1 s m #[Value.ref b] below meth c cells slots (lw_Z below #[Value.ref b] s) 7 D G α) σ)
    rw [e']
    exact lwK_t (q := 2248) rfl (lw_next h h1 h2 σ' (hn _ _ g'))
  rw [jif_f q14]
  by_cases q15 : (xs k &&& 63) = 15
  · rw [jif_t q15]
    refine lwK_t (q := 1013) rfl (lw_blk h h1 h2 (σ0 := σ) lwc_20 ?_)
    obtain ⟨σ', t', g', e'⟩ := lwp_20 (xs := xs) hkL hL σ t g (lwK (jWk p l e room_1 s m #[Value.ref b] below meth c cells slots (lw_Z below #[Value.ref b] s) 7 D G α) σ)
    rw [e']
    exact lwK_t (q := 2248) rfl (lw_next h h1 h2 σ' (hn _ _ g'))
  rw [jif_f q15]
  by_cases q16 : (xs k &&& 63) = 16
  · rw [jif_t q16]
    refine lwK_t (q := 1107) rfl (lw_blk h h1 h2 (σ0 := σ) lwc_21 ?_)
    obtain ⟨σ', t', g', e'⟩ := lwp_21 (xs := xs) hkL hL σ t g (lwK (jWk p l e room_1 s m #[Value.ref b] below meth c cells slots (lw_Z below #[Value.ref b] s) 7 D G α) σ)
    rw [e']
    exact lwK_t (q := 2248) rfl (lw_next h h1 h2 σ' (hn _ _ g'))
  rw [jif_f q16]
  by_cases q17 : (xs k &&& 63) = 17
  · rw [jif_t q17]
    refine lwK_t (q := 1200) rfl (lw_blk h h1 h2 (σ0 := σ) lwc_22 ?_)
    obtain ⟨σ', t', g', e'⟩ := lwp_22 (xs := xs) hkL hL σ t g (lwK (jWk p l e room_1 s m #[Value.ref b] below meth c cells slots (lw_Z below #[Value.ref b] s) 7 D G α) σ)
    rw [e']
    exact lwK_t (q := 2248) rfl (lw_next h h1 h2 σ' (hn _ _ g'))
  rw [jif_f q17]
  by_cases q18 : (xs k &&& 63) = 18
  · rw [jif_t q18]
    refine lwK_t (q := 1294) rfl (lw_blk h h1 h2 (σ0 := σ) lwc_23 ?_)
    obtain ⟨σ', t', g', e'⟩ := lwp_23 (xs := xs) hkL hL σ t g (lwK (jWk p l e room_1 s m #[Value.ref b] below meth c cells slots (lw_Z below #[Value.ref b] s) 7 D G α) σ)
    rw [e']
    exact lwK_t (q := 2248) rfl (lw_next h h1 h2 σ' (hn _ _ g'))
  rw [jif_f q18]
  by_cases q19 : (xs k &&& 63) = 19
  · rw [jif_t q19]
    refine lwK_t (q := 1343) rfl (lw_blk h h1 h2 (σ0 := σ) lwc_24 ?_)
    obtain ⟨σ', t', g', e'⟩ := lwp_24 (xs := xs) hkL hL σ t g (lwK (jWk p l e room_1 s m #[Value.ref b] below meth c cells slots (lw_Z below #[Value.ref b] s) 7 D G α) σ)
    rw [e']
    exact lwK_t (q := 2248) rfl (lw_next h h1 h2 σ' (hn _ _ g'))
  rw [jif_f q19]
  by_cases q20 : (xs k &&& 63) = 20
  · rw [jif_t q20]
    refine lwK_t (q := 1450) rfl (lw_blk h h1 h2 (σ0 := σ) lwc_25 ?_)
    obtain ⟨σ', t', g', e'⟩ := lwp_25 (xs := xs) hkL hL σ t g (lwK (jWk p l e room_1 s m #[Value.ref b] below meth c cells slots (lw_Z below #[Value.ref b] s) 7 D G α) σ)
    rw [e']
    exact lwK_t (q := 2248) rfl (lw_next h h1 h2 σ' (hn _ _ g'))
  rw [jif_f q20]
  by_cases q21 : (xs k &&& 63) = 21
  · rw [jif_t q21]
    refine lwK_t (q := 1543) rfl (lw_blk h h1 h2 (σ0 := σ) lwc_26 ?_)
    obtain ⟨σ', t', g', e'⟩ := lwp_26 (xs := xs) hkL hL σ t g (lwK (jWk p l e room_1 s m #[Value.ref b] below meth c cells slots (lw_Z below #[Value.ref b] s) 7 D G α) σ)
    rw [e']
    exact lwK_t (q := 2248) rfl (lw_next h h1 h2 σ' (hn _ _ g'))
  rw [jif_f q21]
  by_cases q22 : (xs k &&& 63) = 22
  · rw [jif_t q22]
    refine lwK_t (q := 1637) rfl (lw_blk h h1 h2 (σ0 := σ) lwc_27 ?_)
    obtain ⟨σ', t', g', e'⟩ := lwp_27 (xs := xs) hkL hL σ t g (lwK (jWk p l e room_1 s m #[Value.ref b] below meth c cells slots (lw_Z below #[Value.ref b] s) 7 D G α) σ)
    rw [e']
    exact lwK_t (q := 2248) rfl (lw_next h h1 h2 σ' (hn _ _ g'))
  rw [jif_f q22]
  by_cases q23 : (xs k &&& 63) = 23
  · rw [jif_t q23]
    refine lwK_t (q := 1730) rfl (lw_blk h h1 h2 (σ0 := σ) lwc_28 ?_)
    obtain ⟨σ', t', g', e'⟩ := lwp_28 (xs := xs) hkL hL σ t g (lwK (jWk p l e room_1 s m #[Value.ref b] below meth c cells slots (lw_Z below #[Value.ref b] s) 7 D G α) σ)
    rw [e']
    exact lwK_t (q := 2248) rfl (lw_next h h1 h2 σ' (hn _ _ g'))
  rw [jif_f q23]
  by_cases q24 : (xs k &&& 63) = 24
  · rw [jif_t q24]
    refine lwK_t (q := 1811) rfl (lw_blk h h1 h2 (σ0 := σ) lwc_29 ?_)
    obtain ⟨σ', t', g', e'⟩ := lwp_29 (xs := xs) hkL hL σ t g (lwK (jWk p l e room_1 s m #[Value.ref b] below meth c cells slots (lw_Z below #[Value.ref b] s) 7 D G α) σ)
    rw [e']
    exact lwK_t (q := 2248) rfl (lw_next h h1 h2 σ' (hn _ _ g'))
  rw [jif_f q24]
  by_cases q25 : (xs k &&& 63) = 25
  · rw [jif_t q25]
    refine lwK_t (q := 1885) rfl (lw_blk h h1 h2 (σ0 := σ) lwc_30 ?_)
    obtain ⟨σ', t', g', e'⟩ := lwp_30 (xs := xs) hkL hL σ t g (lwK (jWk p l e room_1 s m #[Value.ref b] below meth c cells slots (lw_Z below #[Value.ref b] s) 7 D G α) σ)
    rw [e']
    exact lwK_t (q := 2248) rfl (lw_next h h1 h2 σ' (hn _ _ g'))
  rw [jif_f q25]
  by_cases q26 : (xs k &&& 63) = 26
  · rw [jif_t q26]
    refine lwK_t (q := 1992) rfl (lw_blk h h1 h2 (σ0 := σ) lwc_31 ?_)
    obtain ⟨σ', t', g', e'⟩ := lwp_31 (xs := xs) hkL hL σ t g (lwK (jWk p l e room_1 s m #[Value.ref b] below meth c cells slots (lw_Z below #[Value.ref b] s) 7 D G α) σ)
    rw [e']
    exact lwK_t (q := 2248) rfl (lw_next h h1 h2 σ' (hn _ _ g'))
  rw [jif_f q26]
  by_cases q27 : (xs k &&& 63) = 27
  · rw [jif_t q27]
    refine lwK_t (q := 2017) rfl (lw_blk h h1 h2 (σ0 := σ) lwc_32 ?_)
    obtain ⟨σ', t', g', e'⟩ := lwp_32 (xs := xs) hkL hL σ t g (lwK (jWk p l e room_1 s m #[Value.ref b] below meth c cells slots (lw_Z below #[Value.ref b] s) 7 D G α) σ)
    rw [e']
    exact lwK_t (q := 2248) rfl (lw_next h h1 h2 σ' (hn _ _ g'))
  rw [jif_f q27]
  by_cases q28 : (xs k &&& 63) = 28
  · rw [jif_t q28]
    refine lwK_t (q := 2042) rfl (lw_blk h h1 h2 (σ0 := σ) lwc_33 ?_)
    obtain ⟨σ', t', g', e'⟩ := lwp_33 (xs := xs) hkL hL σ t g (lwK (jWk p l e room_1 s m #[Value.ref b] below meth c cells slots (lw_Z below #[Value.ref b] s) 7 D G α) σ)
    rw [e']
    exact lwK_t (q := 2248) rfl (lw_next h h1 h2 σ' (hn _ _ g'))
  rw [jif_f q28]
  by_cases q29 : (xs k &&& 63) = 29
  · rw [jif_t q29]
    refine lwK_t (q := 2055) rfl (lw_blk h h1 h2 (σ0 := σ) lwc_34 ?_)
    obtain ⟨σ', t', g', e'⟩ := lwp_34 (xs := xs) hkL hL σ t g (lwK (jWk p l e room_1 s m #[Value.ref b] below meth c cells slots (lw_Z below #[Value.ref b] s) 7 D G α) σ)
    rw [e']
    exact lwK_t (q := 2248) rfl (lw_next h h1 h2 σ' (hn _ _ g'))
  rw [jif_f q29]
  by_cases q30 : (xs k &&& 63) = 30
  · rw [jif_t q30]
    refine lwK_t (q := 2148) rfl (lw_blk h h1 h2 (σ0 := σ) lwc_35 ?_)
    obtain ⟨σ', t', g', e'⟩ := lwp_35 (xs := xs) hkL hL σ t g (lwK (jWk p l e room_1 s m #[Value.ref b] below meth c cells slots (lw_Z below #[Value.ref b] s) 7 D G α) σ)
    rw [e']
    exact lwK_t (q := 2248) rfl (lw_next h h1 h2 σ' (hn _ _ g'))
  rw [jif_f q30]
  by_cases q31 : (xs k &&& 63) = 31
  · rw [jif_t q31]
    refine lwK_t (q := 2197) rfl (lw_blk h h1 h2 (σ0 := σ) lwc_36 ?_)
    obtain ⟨σ', t', g', e'⟩ := lwp_36 (xs := xs) hkL hL σ t g (lwK (jWk p l e room_1 s m #[Value.ref b] below meth c cells slots (lw_Z below #[Value.ref b] s) 7 D G α) σ)
    rw [e']
    exact lwK_t (q := 2248) rfl (lw_next h h1 h2 σ' (hn _ _ g'))
  rw [jif_f q31]
  by_cases q32 : (xs k &&& 63) = 32
  · rw [jif_t q32]
    refine lwK_t (q := 2210) rfl (lw_blk h h1 h2 (σ0 := σ) lwc_37 ?_)
    obtain ⟨σ', t', g', e'⟩ := lwp_37 (xs := xs) hkL hL σ t g (lwK (jWk p l e room_1 s m #[Value.ref b] below meth c cells slots (lw_Z below #[Value.ref b] s) 7 D G α) σ)
    rw [e']
    exact lwK_t (q := 2248) rfl (lw_next h h1 h2 σ' (hn _ _ g'))
  rw [jif_f q32]
  by_cases q33 : (xs k &&& 63) = 33
  · rw [jif_t q33]
    refine lwK_t (q := 2223) rfl (lw_blk h h1 h2 (σ0 := σ) lwc_38 ?_)
    obtain ⟨σ', t', g', e'⟩ := lwp_38 (xs := xs) hkL hL σ t g (lwK (jWk p l e room_1 s m #[Value.ref b] below meth c cells slots (lw_Z below #[Value.ref b] s) 7 D G α) σ)
    rw [e']
    exact lwK_t (q := 2248) rfl (lw_next h h1 h2 σ' (hn _ _ g'))
  rw [jif_f q33]
  exact lwK_t (q := 2248) rfl (lw_next h h1 h2 σ (hn _ _ g))
