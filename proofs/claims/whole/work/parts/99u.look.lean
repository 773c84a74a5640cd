/-! look, continued. -/
theorem lk_warmD {x : MethodName} {s U : State} (hW : s.WarmedH U.vm) (hZ : va_Nw (.declares x) s) : va_Nw (.declares x) U := va_tabs rfl (rfl : (s.setVm U.vm).vm = U.vm) (by rw [Cond.declares_setVm hW.alike]; exact hZ)
/-- what a throw needs of the state -/
def jX (α : Nat → Nat) (U : State) : Prop := vx_Zq Bundle.tN "UNASSIGNED_STACK" Bundle.steD (jA α) U U.heap ∧ vx_Zq Bundle.tN "SUPPRESSED_SENTINEL" Bundle.listD (jA α) U U.heap ∧ va_Nc lk_N lk_I U ∧ va_Nw (.castable lk_I lk_I) U ∧ va_Nw (.castable lk_N lk_N) U ∧ va_Nw (.declares (Bundle.init0 "java/lang/RuntimeException")) U ∧ va_Nw (.declares (Bundle.init0 "java/lang/Exception")) U ∧ va_Nw (.declares (Bundle.init0 Bundle.tN)) U
def jZx (α adV : Nat → Nat) (U : State) : Prop := jZ α adV U ∧ jX α U
theorem jZx_ok (α adV : Nat → Nat) : jZok α (jZx α adV) :=
  ⟨fun U V h hW hs hq => ⟨(jZ_ok α adV).1 U V h.1 hW hs hq, vx_Zq.moved hW.alike (h.2.1.kept hq), vx_Zq.moved hW.alike (h.2.2.1.kept hq), va_Nc.moved hW.alike h.2.2.2.1, va_Nw.warmC hW h.2.2.2.2.1, va_Nw.warmC hW h.2.2.2.2.2.1, lk_warmD hW h.2.2.2.2.2.2.1, lk_warmD hW h.2.2.2.2.2.2.2.1, lk_warmD hW h.2.2.2.2.2.2.2.2⟩, fun U h => h.1.1⟩
def lkrm (d : Nat) : Room := { frames := d + 8, cells := 1, slots := 6, locals := 60 * d + 480 }
/-- it threw E0, and the world stands as it stood -/
def lkX (α : Nat → Nat) (G : jG) (D : va_G) (σ : jS) (E0 : String) : String → State → State → Prop := fun E st t => E = E0 ∧ va_P D jcl (jP α G σ) t.heap ∧ va_F (jA α) st t
noncomputable def lkK (B : List jB) (W1 : Nat → jL → List Value → jS → Prop) (σ0 : jS) : Nat → jL → List Value → jS → jR := fun j lv st σ => @ite _ (∀ q, jpc B j = some q → W1 q lv st σ) (Classical.propDecidable _) (some (none, σ0)) none
theorem lkK_t {B : List jB} {W1 : Nat → jL → List Value → jS → Prop} {σ0 σ : jS} {j q : Nat} {lv : jL} {st : List Value} (hq : jpc B j = some q) (h : W1 q lv st σ) : lkK B W1 σ0 j lv st σ = some (none, σ0) := by
  unfold lkK
  exact if_pos (fun q' h' => by rw [hq] at h'; cases h'; exact h)
/-- a block of a method that answers an int, whatever block it goes on to -/
theorem lk_blk {p : Program} {l : Launch} {e : Env} {R : Room} {s : State} {m : MethodId} {args : Array Value} {below : List Frame} {meth : Method} {c : Code} {cells slots : Nat} {Q : State → Prop} {cc : ByteArray} {nL own : Nat} {D : va_G} {G : jG} {α adV : Nat → Nat} {dd : Nat} {B : List jB} {C : Nat → List Value → jS → jR}
    (F : jFx p R s m args c cc nL own D G α (jZ α adV) dd cells slots) (hC : jHC l α G D (jZ α adV) dd C) {σ0 : jS} {nx pc : Nat} {is : List jN} {lv : jL} {st : List Value} {σ : jS} (hc : chkB false own nL B cc nx is pc = true)
    (hj : jb C 1 (lkK B (jWk p l e R s m args below meth c cells slots Q nL D G α) σ0) nx is lv st σ = some (none, σ0)) : jWk p l e R s m args below meth c cells slots Q nL D G α pc lv st σ :=
  jb_ok F hC (fun h => (by cases h)) (jStrs_ok l p e _ s m _ below meth c cells slots _ _ _ _ _ F) (r := (none, σ0)) (fun pc ls H locs _ _ => ⟨fun v hv => (by cases hv), fun v hv => (by cases hv), fun _ h0 => (by cases h0)⟩) (K := lkK B (jWk p l e R s m args below meth c cells slots Q nL D G α) σ0)
    (fun j lv st σ q hk hq => by
      unfold lkK at hk
      by_cases z : ∀ q, jpc B j = some q → jWk p l e R s m args below meth c cells slots Q nL D G α q lv st σ
      · exact z q hq
      · rw [if_neg z] at hk; cases hk) is pc lv st σ hc hj
def lkI_0 : List jN := [(.aload_n 0, []), (.getfield 16, [8, 2, 3]), (.iload_n 1, []), (.invokevirtual 115, [93, 1, 6, 1]), (.ifCond .ne 11, [2])]
def lkI_2 : List jN := [(.iload_n 2, []), (.tableswitch 96 0 6 #[44, 54, 64, 74, 74, 74, 86], [3, 4, 5, 6, 7, 7, 7, 8])]
def lkB : List jB := [(0, [0, 1, 2], lkI_0, 1), (11, [0, 1, 2], [], 1), (19, [0, 1, 2], lkI_2, 0), (116, [0, 1, 2], [], 3), (64, [], [], 4), (74, [], [], 5), (84, [], [], 6), (94, [], [], 7), (106, [], [], 8)]
theorem lkc_0 : chkB false 8 3 lkB prog_1_method_7_code 1 lkI_0 0 = true := by decide +kernel
theorem lkc_2 : chkB false 8 3 lkB prog_1_method_7_code 0 lkI_2 19 = true := by decide +kernel
theorem lkq_0 (C : Nat → List Value → jS → jR) (K : Nat → jL → List Value → jS → jR) (a b : Int32) (σ : jS) : jb C 1 K 1 lkI_0 [(0, .ref 0), (1, .int a), (2, .int b)] [] σ = jc (j_is 6 (σ.2.2 0 2)) ((r_I (C 93 [.ref (σ.2.2 0 2), .int a] σ)).bind fun q1 => jif (q1.1 = 0) (K 1 [(0, .ref 0), (1, .int a), (2, .int b)] [] q1.2) (K 2 [(0, .ref 0), (1, .int a), (2, .int b)] [] q1.2)) := rfl
theorem lkq_2 (C : Nat → List Value → jS → jR) (K : Nat → jL → List Value → jS → jR) (a b : Int32) (σ : jS) : jb C 1 K 0 lkI_2 [(0, .ref 0), (1, .int a), (2, .int b)] [] σ = jif (b = 0) (K 4 [(0, .ref 0), (1, .int a), (2, .int b)] [] σ) (jif (b = 1) (K 5 [(0, .ref 0), (1, .int a), (2, .int b)] [] σ) (jif (b = 2) (K 6 [(0, .ref 0), (1, .int a), (2, .int b)] [] σ) (jif (b = 3) (K 7 [(0, .ref 0), (1, .int a), (2, .int b)] [] σ) (jif (b = 4) (K 7 [(0, .ref 0), (1, .int a), (2, .int b)] [] σ) (jif (b = 5) (K 7 [(0, .ref 0), (1, .int a), (2, .int b)] [] σ) (jif (b = 6) (K 8 [(0, .ref 0), (1, .int a), (2, .int b)] [] σ) (K 3 [(0, .ref 0), (1, .int a), (2, .int b)] [] σ))))))) := rfl
/-- where look throws E -/
def lkE (d : Nat) (E : String) (σ : jS) (a b : Int32) : Prop := j_is 6 (σ.2.2 0 2) = true ∧ ∃ ib : Int32, r_I (jd jMT d 93 [.ref (σ.2.2 0 2), .int a] σ) = some (ib, σ) ∧ (ib = 0 ∧ E = lk_I ∨ ib ≠ 0 ∧ E = lk_N ∧ ¬ (0 ≤ b ∧ b ≤ 6))
theorem lk_throw {l : Launch} (hst : l.stackTraces = false) {D : va_G} {G : jG} {α adV : Nat → Nat} (hα : ∀ a b, a < jSH.length → b < jSH.length → α a = α b → a = b) {d : Nat} {E : String} {σ : jS} {a b : Int32} (hE : lkE d E σ a b) :
    vx_Met l jm_115.1 (jwk jm_115 :: jws) (lkrm (d + 1)) (jPc α G D (jZx α adV) σ [.ref (α 0), .int a, .int b]) (fun _ _ _ _ => False) (lkX α G D σ E) 1 6 (jA α) := by
  obtain ⟨hi, ib, hp, hE⟩ := hE
  refine vx_ofW (cc := prog_1_method_7_code) (maxL := 3) (ret := some .int) (by decide +kernel) rfl ?_
  intro p e s m args below meth c s₁ Bd hml htab hv
  obtain ⟨rfl, hP, hK, hZ⟩ := hv
  have hts := atoms_spec (ws := jwk jm_115 :: jws) Bd.pre
  have hts' : ∀ w ∈ jws, w.before [Value.ref (α 0), .int a, .int b].toArray s = true := fun w hw => hts w (List.mem_cons_of_mem _ hw)
  have hown : s.vm.findClass "HalfHands" = some m.cls := findClass_of_methodNamed Bd.named
  have hlocks := Bd.notSynchronized
  have F : jFx p (headSpec (jwk jm_115 :: jws) (lkrm (d + 1))).room s m [Value.ref (α 0), .int a, .int b].toArray c prog_1_method_7_code 3 8 D G α (jZ α adV) d 0 0 :=
    ⟨Bd.exec, Bd.bytes, hml, hown, hts', hK, hZ.1, jZ_ok α adV, hα, (by show d + 9 ≤ d + 1 + 8; omega), (by show 60 * d + 540 ≤ 60 * (d + 1) + 480; omega), Nat.zero_le _, Nat.zero_le _⟩
  have hl := lv_entry [Value.ref (α 0), .int a, .int b] (n := 3) (Nat.le_refl 3)
  have hC := jd_ok jMT_ok hα (jZ_ok α adV) (jStrs_ok (adV := adV) (G := G) (D := D) l) d
  rw [lg_entry_eq]
  have hend : ∀ {t : State} {H : Heap} {locs : List Loc}, va_P D jcl (jP α G σ) H → va_S (jA α) s.heap H locs → H.size ≤ t.heap.size → (∀ q : Nat, q < H.size → t.heap[q]? = H[q]?) → va_P D jcl (jP α G σ) t.heap ∧ va_F (jA α) s t := fun hP hS h1 h2 =>
    ⟨hP.kept (fun k q hk => h2 q.1 (vx_lt hP hk)), Nat.le_trans hS.1 h1, fun q hq hn => (h2 q (Nat.lt_of_lt_of_le hq hS.1)).trans (hS.2.1 q hq hn)⟩
  refine (lk_blk (σ0 := σ) (B := lkB) F hC lkc_0 ?_ : jWk p l e _ s m _ below meth c 0 0 _ 3 D G α 0 [(0, .ref 0), (1, .int a), (2, .int b)] [] σ) _ s.heap [] hl hP va_S.rf
  rw [lkq_0, hi, jc_t, hp]
  simp only [Option.bind_some]
  rcases hE with ⟨h0, rfl⟩ | ⟨h0, rfl, hb⟩
  · rw [jif_t h0]
    refine lkK_t (q := 11) rfl ?_
    intro ls H locs hl hP hS
    exact vx_throw0 (A := jA α) (own := "HalfHands") (cls := lk_I) (names := lk_n) (ik := 119) (ic := 121) Bd.exec Bd.bytes hst hown (by decide +kernel) (by decide +kernel) (hts' _ (lk_w (k := 7) rfl)) (hts' _ (lk_w (k := 8) rfl)) (vx_hat (fun w hw => hts' w (lk_g1 w hw)) lk_b1 (vx_c (va_Nw.use rfl hZ.2.2.2.2.1) (vx_c (va_Nw.use rfl hZ.2.2.2.2.2.2.1) (vx_c (va_Nw.use rfl hZ.2.2.2.2.2.2.2.1) (vx_c (va_Nw.use rfl hZ.2.2.2.2.2.2.2.2) vx_n))))) lk_o1 hZ.2.1 hZ.2.2.1 hS (hl.1.trans hml.symm) lk_d11 lk_d14 lk_d15 lk_d18
      (fun x hx => (htab x hx).elim) (by show 2 + 3 < d + 1 + 8; omega) (by show 0 + (13 * (2 + 1) + 42) ≤ 60 * (d + 1) + 480; omega) (Nat.le_refl 1) (Nat.le_refl 6) hlocks (fun t _ h1 h2 => ⟨rfl, hend hP hS h1 h2⟩) hS.2.2 (Nat.le_refl 1) (Nat.le_refl 6)
  · rw [jif_f h0]
    refine lkK_t (q := 19) rfl (lk_blk (σ0 := σ) (B := lkB) F hC lkc_2 ?_)
    rw [lkq_2]
    have nb : ∀ k : Int32, (0 ≤ k ∧ k ≤ 6) → b ≠ k := fun k hk e => hb (by rw [e]; exact hk)
    rw [jif_f (nb 0 (by decide)), jif_f (nb 1 (by decide)), jif_f (nb 2 (by decide)), jif_f (nb 3 (by decide)), jif_f (nb 4 (by decide)), jif_f (nb 5 (by decide)), jif_f (nb 6 (by decide))]
    refine lkK_t (q := 116) rfl ?_
    intro ls H locs hl hP hS
    exact vx_throw0 (A := jA α) (own := "HalfHands") (cls := lk_N) (names := lk_n) (ik := 138) (ic := 140) Bd.exec Bd.bytes hst hown (by decide +kernel) (by decide +kernel) (hts' _ (lk_w (k := 9) rfl)) (hts' _ (lk_w (k := 10) rfl)) (vx_hat (fun w hw => hts' w (lk_g2 w hw)) lk_b2 (vx_c (va_Nw.use rfl hZ.2.2.2.2.2.1) (vx_c (va_Nw.use rfl hZ.2.2.2.2.2.2.1) (vx_c (va_Nw.use rfl hZ.2.2.2.2.2.2.2.1) (vx_c (va_Nw.use rfl hZ.2.2.2.2.2.2.2.2) vx_n))))) lk_o2 hZ.2.1 hZ.2.2.1 hS (hl.1.trans hml.symm) lk_d116 lk_d119 lk_d120 lk_d123
      (fun x hx => (htab x hx).elim) (by show 2 + 3 < d + 1 + 8; omega) (by show 0 + (13 * (2 + 1) + 42) ≤ 60 * (d + 1) + 480; omega) (Nat.le_refl 1) (Nat.le_refl 6) hlocks (fun t _ h1 h2 => ⟨rfl, hend hP hS h1 h2⟩) hS.2.2 (Nat.le_refl 1) (Nat.le_refl 6)
/-! The law's look. -/
theorem lk_ofWH {l : Launch} {y : MethodName} {ws ws' : List Cond} {rm : Room} {Pc : Array Value → State → Prop} {Qc : Array Value → State → Outcome → State → Prop} {mc ms : Nat} {free : Addr → Prop} {cc : ByteArray} {maxL : Nat} {ret : Option FieldType} {hh : List (Nat × Nat × Nat × Nat)}
    (hy : plainName y.cls = true) (hw : ws = Cond.codeWith y cc maxL ret hh :: ws')
    (body : ∀ p e s m args below meth c s₁, BodyLoose p l y (headSpec ws rm) cc maxL ret e s m args below meth c s₁ → c.maxLocals = maxL → Pc args s →
      W p l e (headSpec ws rm).room s m args below meth c s.heap [] 0 0 (MQ below Qc args s mc ms free) (entryFrame m args maxL)) : Met l y ws rm Pc Qc mc ms free := by
  refine MetFree.of_bodyS (code := cc) (maxLocals := maxL) (ret := ret) hy ?_ ?_
  · intro args s m h hn
    obtain ⟨m9, meth, c, hn9, h1, h2, h3, h4, -, h5, h6, -⟩ := Cond.codeWith_spec (atoms_spec (ws := ws) h _ (by rw [hw]; exact List.mem_cons_self))
    cases hn.symm.trans hn9
    exact ⟨meth, c, h1, h2, h3, h4, h5, h6⟩
  · intro p e s m args below meth c s₁ B hml hP _
    have hh0 : s₁.heap = s.heap := by rw [B.state]; rfl
    obtain ⟨t, a1, o, b1, b2, b3⟩ := body p e s m args below meth c s₁ B hml hP s₁ hh0 (Stand.of_body B)
    exact ⟨t, o, a1, b1, b2, b3⟩
def lmI_0 : List jN := [(.aload_n 3, []), (.iconst 0, []), (.aload_n 0, []), (.iload_n 1, []), (.iload_n 2, [])]
def lmI_2 : List jN := [(.i2l, []), (.lastore, []), (.goto 11, [3])]
def lmB : List jB := [(0, [0, 1, 2, 3], lmI_0, 1), (5, [0, 1, 2, 3], [], 1), (8, [], lmI_2, 0), (21, [], [], 3)]
theorem lmc_0 : chkB false 13 5 lmB method_3_code 1 lmI_0 0 = true := by decide +kernel
theorem lmc_2 : chkB false 13 5 lmB method_3_code 0 lmI_2 8 = true := by decide +kernel
theorem lmq_0 (C : Nat → List Value → jS → jR) (K : Nat → jL → List Value → jS → jR) (a b : Int32) (σ : jS) : jb C 1 K 1 lmI_0 [(0, .ref 0), (1, .int a), (2, .int b), (3, .ref 126)] [] σ = K 1 [(0, .ref 0), (1, .int a), (2, .int b), (3, .ref 126)] [.int b, .int a, .ref 0, .int 0, .ref 126] σ := rfl
theorem lmq_2 (C : Nat → List Value → jS → jR) (K : Nat → jL → List Value → jS → jR) (lv : jL) (r : Int32) (σ : jS) : jb C 1 K 0 lmI_2 lv [.int r, .int 0, .ref 126] σ = (j_wrL σ 126 0 r.toInt64).bind fun t => K 3 lv [] t := rfl
theorem lk_m21 : decode method_3_code 21 = .ok (.iconst 0, 1) := by decide +kernel
theorem lk_m22 : decode method_3_code 22 = .ok (.ireturn, 1) := by decide +kernel
theorem lk_115 : jMM[115]? = some jm_115 := rfl
/-- what the law's look does: it answers kk and leaves σ1 -/
def lkR (d : Nat) (a b : Int32) (σ : jS) (kk : Int32) (σ1 : jS) : Prop := (kk = 0 ∧ ∃ r : Int32, jd jMT (d + 1) 115 [.ref 0, .int a, .int b] σ = some (some (.int r), σ) ∧ j_wrL σ 126 0 r.toInt64 = some σ1) ∨ (σ1 = σ ∧ (kk = 1 ∧ lkE d lk_I σ a b ∨ kk = 2 ∧ lkE d lk_N σ a b))
theorem lk_met {l : Launch} (hst : l.stackTraces = false) {D : va_G} {G : jG} {α adV : Nat → Nat} (hα : ∀ a b, a < jSH.length → b < jSH.length → α a = α b → a = b) {d : Nat} {a b kk : Int32} {σ σ1 : jS} (hk : lkR d a b σ kk σ1) :
    Met l lk_y (Cond.codeWith lk_y method_3_code 5 (some .int) lk_h :: jws) (lkrm (d + 2)) (jPc α G D (jZx α adV) σ [.ref (α 0), .int a, .int b, .ref (α 126)]) (jQc α G D (some (.int kk)) σ1) 1 6 (jA α) := by
  refine lk_ofWH (cc := method_3_code) (maxL := 5) (ret := some .int) (hh := lk_h) (by decide +kernel) rfl ?_
  intro p e s m args below meth c s₁ Bd hml hv
  obtain ⟨rfl, hP, hK, hZ⟩ := hv
  have hts := atoms_spec (ws := Cond.codeWith lk_y method_3_code 5 (some .int) lk_h :: jws) Bd.pre
  have hts' : ∀ w ∈ jws, w.before [Value.ref (α 0), .int a, .int b, .ref (α 126)].toArray s = true := fun w hw => hts w (List.mem_cons_of_mem _ hw)
  have hown : s.vm.findClass "HalfHandsLaw" = some m.cls := findClass_of_methodNamed Bd.named
  have hF : ∀ Z : State → Prop, Z s → jZok α Z → jFx p (headSpec (Cond.codeWith lk_y method_3_code 5 (some .int) lk_h :: jws) (lkrm (d + 2))).room s m [Value.ref (α 0), .int a, .int b, .ref (α 126)].toArray c method_3_code 5 13 D G α Z d 0 0 := fun Z hZ hz =>
    ⟨Bd.exec, Bd.bytes, hml, hown, hts', hK, hZ, hz, hα, (by show d + 9 ≤ d + 2 + 8; omega), (by show 60 * d + 540 ≤ 60 * (d + 2) + 480; omega), Nat.zero_le _, Nat.zero_le _⟩
  have F := hF (jZ α adV) hZ.1 (jZ_ok α adV)
  have F2 := hF (jZx α adV) hZ (jZx_ok α adV)
  have hl := lv_entry [Value.ref (α 0), .int a, .int b, .ref (α 126)] (n := 5) (Nat.le_succ 4)
  have hC := fun d => jd_ok jMT_ok hα (jZ_ok α adV) (jStrs_ok (adV := adV) (G := G) (D := D) l) d
  have hr := Bd.returns
  rw [lg_entry_eq]
  refine (lk_blk (σ0 := σ) (B := lmB) F (hC d) lmc_0 ?_ : jWk p l e _ s m _ below meth c 0 0 _ 5 D G α 0 [(0, .ref 0), (1, .int a), (2, .int b), (3, .ref 126)] [] σ) _ s.heap [] hl hP va_S.rf
  rw [lmq_0]
  refine lkK_t (q := 5) rfl ?_
  intro ls H locs hl hP hS
  have S : CallFix p m c method_3_code 5 s [Value.ref (α 0), .int a, .int b, .ref (α 126)].toArray jws "HalfHandsLaw" := ⟨Bd.exec, Bd.bytes, hml, hown, hts'⟩
  obtain ⟨k1, k2, k3, k4, k5, k6, k7⟩ := jm_ok lk_115
  obtain ⟨v1, v2⟩ := jm_virt lk_115 rfl
  obtain ⟨c1, c2, c3, c4, c5⟩ := jc_ok 8 (by decide)
  have hPa := jP_get (α := α) (G := G) (σ := σ) (j_is_sh (show j_is 8 0 = true from rfl))
  have hrec := va_recv F.2.2.2.2.2.1 hP c1 hPa
  have hroom : 2 * (F0 m 5 ls [.int b, .int a, .ref (α 0), .int 0, .ref (α 126)]).monitorRoom + (([.int 0, .ref (α 126)] : List Value).map fun v => v.category).sum ≤ 8 := lv_room (show 1 + (1 + 0) ≤ 8 by decide)
  rcases hk with ⟨rfl, r, hcall, hwr⟩ | ⟨rfl, hk⟩
  · have hM := hC (d + 1) 115 jm_115 [.ref 0, .int a, .int b] σ (some (.int r)) σ lk_115 hcall
    have hpv : PreV s H jm_115.1.cls (α 0) (jPc α G D (jZ α adV) σ [.ref (α 0), .int a, .int b]) [.int a, .int b] := ⟨jPc_blind (jZ_ok α adV) _ _, hrec, fun U hU hW => jPre F hS hP [.ref (α 0), .int a, .int b] U hU hW⟩
    have cb : CallB (headSpec (Cond.codeWith lk_y method_3_code 5 (some .int) lk_h :: jws) (lkrm (d + 2))).room s [Value.ref (α 0), .int a, .int b, .ref (α 126)].toArray "HalfHandsLaw" 7 jm_115.1 prog_1_method_7_code 3 (some .int) (jwk jm_115 :: jws) (jrm (d + 1)) 0 0 2 :=
      callB_of 2 hts' (jws_in lk_115) rfl rfl rfl (hts' _ (jm_init lk_115)) (hts' _ (lk_w (k := 6) rfl)) ⟨k2, k3, k4⟩ ⟨(by show d + 1 + 8 + 1 ≤ d + 2 + 8; omega), (by show 8 + (3 + 11) + (60 * (d + 1) + 480) ≤ 60 * (d + 2) + 480; omega)⟩
    refine j_call (r := some (.int r)) (va_runV (As := [.int a, .int b]) (rest := [.int 0, .ref (α 126)]) S hM ⟨cb, hts' _ v1, hts' _ v2⟩ hpv rfl rfl hl.1 rfl hroom lk_m5 ⟨Nat.zero_le _, Nat.zero_le _⟩) hS ?_
    intro H1 locs1 hP1 hS1
    refine (lk_blk (σ0 := σ) (B := lmB) F (hC d) lmc_2 ?_ : jWk p l e _ s m _ below meth c 0 0 _ 5 D G α 8 [(0, .ref 0), (1, .int a), (2, .int b), (3, .ref 126)] [.int r, .int 0, .ref 126] σ) ls H1 locs1 hl hP1 hS1
    rw [lmq_2, hwr]
    refine lkK_t (q := 21) rfl ?_
    intro ls H locs hl hP hS
    refine lv_iconst Bd.exec Bd.bytes lk_m21 (v := 0) rfl ?_
    refine W.widen (k := 1) (n := 6) (Nat.zero_le _) (Nat.zero_le _) ?_
    exact W.iret Bd.exec Bd.bytes hr (fun t ht _ => ⟨rfl, by rw [ht]; exact hP, hS.F ht⟩) hS.2.2 lk_m22
  have hpv : PreV s H jm_115.1.cls (α 0) (jPc α G D (jZx α adV) σ1 [.ref (α 0), .int a, .int b]) [.int a, .int b] := ⟨jPc_blind (jZx_ok α adV) _ _, hrec, fun U hU hW => jPre F2 hS hP [.ref (α 0), .int a, .int b] U hU hW⟩
  have cb : CallB (headSpec (Cond.codeWith lk_y method_3_code 5 (some .int) lk_h :: jws) (lkrm (d + 2))).room s [Value.ref (α 0), .int a, .int b, .ref (α 126)].toArray "HalfHandsLaw" 7 jm_115.1 prog_1_method_7_code 3 (some .int) (jwk jm_115 :: jws) (lkrm (d + 1)) 1 6 2 :=
    callB_of 2 hts' (jws_in lk_115) rfl rfl rfl (hts' _ (jm_init lk_115)) (hts' _ (lk_w (k := 6) rfl)) ⟨k2, k3, k4⟩ ⟨(by show d + 1 + 8 + 1 ≤ d + 2 + 8; omega), (by show 8 + (3 + 11) + (60 * (d + 1) + 480) ≤ 60 * (d + 2) + 480; omega)⟩
  have htb := vx_table (x := lk_y) Bd (hts _ List.mem_cons_self)
  have hrun : ∀ E : String, lkE d E σ1 a b → _ := fun E hE => vx_runV (g := F0 m 5 ls [.int b, .int a, .ref (α 0), .int 0, .ref (α 126)]) (As := [.int a, .int b]) (rest := [.int 0, .ref (α 126)]) (p := p) (e := e) (below := below) (meth := meth) (locs := locs) (cells := 0) (slots := 0) S (lk_throw (adV := adV) (D := D) (G := G) hst hα hE) ⟨cb, hts' _ v1, hts' _ v2⟩ hpv rfl rfl hl.1 rfl hroom lk_m5 ⟨Nat.le_refl 1, Nat.le_refl 6⟩
  rcases hk with ⟨rfl, hE⟩ | ⟨rfl, hE⟩
  · intro T hT X
    rcases hrun _ hE T hT X with ⟨v, st₀, t, T', L, h0, X', hL, e1, e2, hq, st⟩ | ⟨q, st₀, t, T', L, E', ce, h0, X', hL, e1, e2, ⟨rfl, hp, hz, hk⟩, hce, hcv, hcl, st⟩
    · exact hq.elim
    · rw [h0] at hz hk
      have hS1 : va_S (jA α) s.heap T'.heap (locs ++ L) := ⟨Nat.le_trans hS.1 (by rw [e1]; exact hz), fun q h1 h2 => by rw [e1, hk q (Nat.lt_of_lt_of_le h1 hS.1) h2]; exact hS.2.1 q h1 h2, fun q hq => (List.mem_append.mp hq).elim (hS.2.2 q) (hL q)⟩
      have hP1 : va_P D jcl (jP α G σ1) T'.heap := by rw [e1]; exact hp
      have hw := vx_catch (R := (headSpec (Cond.codeWith lk_y method_3_code 5 (some .int) lk_h :: jws) (lkrm (d + 2))).room) (own := "HalfHandsLaw") (name := lk_I) (rest := [.int 0, .ref (α 126)]) (pc := 5) (ls := ls) (p := p) (l := l) (e := e) (below := below) (meth := meth) (cells := 0 + 1) (slots := 0 + 6) (Q := MQ below (jQc α G D (some (.int 1)) σ1) [Value.ref (α 0), .int a, .int b, .ref (α 126)].toArray s 1 6 (jA α)) (locs := locs ++ L) hown [] ⟨0, 10, 13, 13⟩ [⟨0, 10, 17, 15⟩] (htb.trans rfl) (fun z hz => nomatch hz) (by decide) (by decide) (hts' _ (lk_w (k := 4) rfl)) (va_Nw.use rfl hZ.2.2.2.2.1) (by rw [e1]; exact hce) hcv hcl
        (lv_astore Bd.exec Bd.bytes lk_m13 hl (by decide) rfl fun ls' hl' => lv_iconst Bd.exec Bd.bytes lk_m15 (v := 1) rfl (W.iret Bd.exec Bd.bytes hr (fun t ht _ => ⟨rfl, by rw [ht]; exact hP1, hS1.F ht⟩) hS1.2.2 lk_m16))
      obtain ⟨t2, a1, b1⟩ := hw T' rfl X'
      exact ⟨t2, st.trans a1, b1⟩
  · intro T hT X
    rcases hrun _ hE T hT X with ⟨v, st₀, t, T', L, h0, X', hL, e1, e2, hq, st⟩ | ⟨q, st₀, t, T', L, E', ce, h0, X', hL, e1, e2, ⟨rfl, hp, hz, hk⟩, hce, hcv, hcl, st⟩
    · exact hq.elim
    · rw [h0] at hz hk
      have hS1 : va_S (jA α) s.heap T'.heap (locs ++ L) := ⟨Nat.le_trans hS.1 (by rw [e1]; exact hz), fun q h1 h2 => by rw [e1, hk q (Nat.lt_of_lt_of_le h1 hS.1) h2]; exact hS.2.1 q h1 h2, fun q hq => (List.mem_append.mp hq).elim (hS.2.2 q) (hL q)⟩
      have hP1 : va_P D jcl (jP α G σ1) T'.heap := by rw [e1]; exact hp
      have hw := vx_catch (R := (headSpec (Cond.codeWith lk_y method_3_code 5 (some .int) lk_h :: jws) (lkrm (d + 2))).room) (own := "HalfHandsLaw") (name := lk_N) (rest := [.int 0, .ref (α 126)]) (pc := 5) (ls := ls) (p := p) (l := l) (e := e) (below := below) (meth := meth) (cells := 0 + 1) (slots := 0 + 6) (Q := MQ below (jQc α G D (some (.int 2)) σ1) [Value.ref (α 0), .int a, .int b, .ref (α 126)].toArray s 1 6 (jA α)) (locs := locs ++ L) hown [⟨0, 10, 13, 13⟩] ⟨0, 10, 17, 15⟩ [] (htb.trans rfl) (fun z hz => by
          rcases List.mem_cons.mp hz with rfl | hz
          · exact Or.inr ⟨by decide, lk_I, hts' _ (lk_w (k := 4) rfl), hZ.2.2.2.1⟩
          · cases hz) (by decide) (by decide) (hts' _ (lk_w (k := 5) rfl)) (va_Nw.use rfl hZ.2.2.2.2.2.1) (by rw [e1]; exact hce) hcv hcl
        (lv_astore Bd.exec Bd.bytes lk_m17 hl (by decide) rfl fun ls' hl' => lv_iconst Bd.exec Bd.bytes lk_m19 (v := 2) rfl (W.iret Bd.exec Bd.bytes hr (fun t ht _ => ⟨rfl, by rw [ht]; exact hP1, hS1.F ht⟩) hS1.2.2 lk_m20))
      obtain ⟨t2, a1, b1⟩ := hw T' rfl X'
      exact ⟨t2, st.trans a1, b1⟩
