/-! A method's contract over the machine's state; the call. -/
def jrm (d : Nat) : Room := { frames := d + 8, cells := 0, slots := 0, locals := 60 * d + 480 }
def jPc (α : Nat → Nat) (G : jG) (D : va_G) (Z : State → Prop) (σ : jS) (av : List Value) : Array Value → State → Prop := fun v U => v = av.toArray ∧ va_P D jcl (jP α G σ) U.heap ∧ va_K D jcl (jtys G) U ∧ Z U
def jQc (α : Nat → Nat) (G : jG) (D : va_G) (r : Option Value) (σ : jS) : Array Value → State → Outcome → State → Prop := fun _ st oc t => oc = .returned (r.map (tv α)) ∧ va_P D jcl (jP α G σ) t.heap ∧ va_F (jA α) st t
/-- what is true of the state and stays true, whatever happens to the world's cells -/
def jZok (α : Nat → Nat) (Z : State → Prop) : Prop := (∀ U V : State, Z U → U.WarmedH V.vm → U.heap.size ≤ V.heap.size → (∀ q : Nat, q < U.heap.size → ¬ jA α q → V.heap[q]? = U.heap[q]?) → Z V) ∧ (∀ U : State, Z U → ∀ q ∈ jLN, va_Nw (jwN q) U)
def jMt (l : Launch) (α : Nat → Nat) (G : jG) (D : va_G) (Z : State → Prop) (d : Nat) (M : jM) (a : List Value) (σ : jS) (r : Option Value) (σ' : jS) : Prop :=
  Met l M.1 (jwk M :: jws) (jrm d) (jPc α G D Z σ (a.map (tv α))) (jQc α G D r σ') 0 0 (jA α)
theorem jZ_call {α : Nat → Nat} {Z : State → Prop} (hz : jZok α Z) {U : State} (h : Z U) (g : JFrame) (mk : MethodId) (a : Array Value) : Z (U.calling g mk a) :=
  hz.1 U (U.calling g mk a) h (State.WarmedH.refl U) (Nat.le_refl _) (fun _ _ _ => rfl)
theorem jPc_blind {α : Nat → Nat} {G : jG} {D : va_G} {Z : State → Prop} (hz : jZok α Z) (σ : jS) (av : List Value) : FrameBlind (jPc α G D Z σ av) := by
  intro a U g mk h
  obtain ⟨h1, h2, h3, h4⟩ := h
  exact ⟨h1, h2, va_K.moved (u := U) (U := U.calling g mk a) (Vm.Alike.refl U.vm) h3, jZ_call hz h4 g mk a⟩
theorem jws_good {w : Cond} (h : w ∈ jws) : w ∈ jws ∧ ((w.onTables && w.keeps) = true ∨ ∃ ty, w = .arrayClass ty) := ⟨h, good_of_word (List.mem_filter.mp h).2⟩
theorem jws_in {y : Nat} {M : jM} (h : jMM[y]? = some M) : GoodIn jws (jwk M :: jws) := by
  intro w hw
  rcases List.mem_cons.mp hw with rfl | hw
  · exact jws_good (jm_code h)
  · exact jws_good hw
section JCALL
variable {p : Program} {l : Launch} {e : Env} {R : Room} {s : State} {m : MethodId} {args : Array Value} {below : List Frame} {meth : Method} {c : Code} {H : Heap} {locs : List Loc} {cells slots : Nat} {Q : State → Prop}
variable {cc : ByteArray} {nL own : Nat} {D : va_G} {G : jG} {α : Nat → Nat} {Z : State → Prop} {dd : Nat}
/-- what stays the same along a method's walk -/
def jFx (p : Program) (R : Room) (s : State) (m : MethodId) (args : Array Value) (c : Code) (cc : ByteArray) (nL own : Nat) (D : va_G) (G : jG) (α : Nat → Nat) (Z : State → Prop) (dd cells slots : Nat) : Prop :=
  p.tables.exec = Jvm.exec ∧ c.code = cc ∧ c.maxLocals = nL ∧ s.vm.findClass (jon own) = some m.cls ∧ (∀ w ∈ jws, w.before args s = true) ∧ va_K D jcl (jtys G) s ∧ Z s ∧ jZok α Z ∧ (∀ a b, a < jSH.length → b < jSH.length → α a = α b → a = b) ∧ dd + 9 ≤ R.frames ∧ 60 * dd + 540 ≤ R.locals ∧ cells ≤ R.cells ∧ slots ≤ R.slots
theorem j_call {pc : Nat} {ls : Array Slot} {rest st0 : List Value} {aa : Array Value} {r : Option Value} {σ' : jS} {H0 : Heap} (hr : va_Run p l e R s m args below meth c H locs cells slots 0 0 (F0 m pc ls st0) rest (jQc α G D r σ' aa) (jA α)) (hS : va_S (jA α) H0 H locs)
    (kk : ∀ (H1 : Heap) (locs1 : List Loc), va_P D jcl (jP α G σ') H1 → va_S (jA α) H0 H1 locs1 → W p l e R s m args below meth c H1 locs1 cells slots Q (F0 m (pc + 3) ls ((r.map (tv α)).toList ++ rest))) : W p l e R s m args below meth c H locs cells slots Q (F0 m pc ls st0) := by
  intro T hT X
  obtain ⟨v, st₀, t, T', L, h0, X', hL, e1, e2, ⟨hv, hp, hz, hk⟩, st⟩ := hr T hT X
  cases hv
  rw [h0] at hz hk
  obtain ⟨t2, a1, b1⟩ := kk T'.heap (locs ++ L) (by rw [e1]; exact hp)
    ⟨Nat.le_trans hS.1 (by rw [e1]; exact hz), fun q h1 h2 => by rw [e1, hk q (Nat.lt_of_lt_of_le h1 hS.1) h2]; exact hS.2.1 q h1 h2, fun q hq => by
      rcases List.mem_append.mp hq with h | h
      · exact hS.2.2 q h
      · exact hL q h⟩ T' rfl X'
  exact ⟨t2, st t2 a1, b1⟩
theorem jZ_at (F : jFx p R s m args c cc nL own D G α Z dd cells slots) (hS : va_S (jA α) s.heap H locs) {U : State} (hU : U.heap = H) (hW : s.WarmedH U.vm) : Z U := by
  obtain ⟨-, -, -, -, -, -, hZ, hz, -⟩ := F
  exact hz.1 s U hZ hW (by rw [hU]; exact hS.1) (fun q h1 h2 => by rw [hU]; exact hS.2.1 q h1 h2)
theorem jPre (F : jFx p R s m args c cc nL own D G α Z dd cells slots) (hS : va_S (jA α) s.heap H locs) {σ : jS} (hP : va_P D jcl (jP α G σ) H) (av : List Value) : ∀ U : State, U.heap = H → s.WarmedH U.vm → jPc α G D Z σ av av.toArray U := by
  intro U hU hW
  have hZ := jZ_at F hS hU hW
  obtain ⟨-, -, -, -, -, hK, -⟩ := F
  exact ⟨rfl, by rw [hU]; exact hP, va_K.moved hW.alike hK, hZ⟩
theorem jCB (F : jFx p R s m args c cc nL own D G α Z dd cells slots) {y : Nat} {M : jM} (h : jMM[y]? = some M) : (jrm dd).cells = 0 ∧ (jrm dd).slots = 0 ∧ (jrm dd).frames + 1 ≤ R.frames ∧ 8 + (M.2.2.1 + 11) + (jrm dd).locals ≤ R.locals := by
  obtain ⟨-, -, -, -, -, -, -, -, -, h1, h2, -⟩ := F
  obtain ⟨-, -, -, -, -, h3, -⟩ := jm_ok h
  refine ⟨rfl, rfl, h1, ?_⟩
  show 8 + (M.2.2.1 + 11) + (60 * dd + 480) ≤ R.locals
  refine Nat.le_trans ?_ h2
  revert h3
  clear h1 h2 h
  generalize M.2.2.1 = x
  intro h3
  omega
theorem jCallB (F : jFx p R s m args c cc nL own D G α Z dd cells slots) {y idx : Nat} {M : jM} (h : jMM[y]? = some M) (hl : (own, idx, y) ∈ jLM) : CallB R s args (jon own) idx M.1 M.2.1 M.2.2.1 (j_rt M.2.2.2.1) (jwk M :: jws) (jrm dd) 0 0 M.2.2.2.2.2.1 := by
  obtain ⟨b1, b2, b3, b4⟩ := jCB F h
  have hts := F.2.2.2.2.1
  obtain ⟨k1, k2, k3, k4, k5, k6, k7⟩ := jm_ok h
  have hw := jwM_g _ (List.mem_map.mpr ⟨_, hl, rfl⟩)
  have hw2 : Cond.methodLink (jon own) idx M.1 ∈ jws := by
    have e : jwM (own, idx, y) = Cond.methodLink (jon own) idx (jmn y) := rfl
    rw [e] at hw
    unfold jmn at hw
    rw [jmn_eq h] at hw
    exact hw
  exact callB_of M.2.2.2.2.2.1 hts (jws_in h) rfl b1 b2 (hts _ (jm_init h)) (hts _ hw2) ⟨k2, k3, k4⟩ ⟨b3, b4⟩
theorem jCallN (F : jFx p R s m args c cc nL own D G α Z dd cells slots) {y idx : Nat} {M : jM} (h : jMM[y]? = some M) (hl : (own, idx, y) ∈ jLN) : va_CN R s args (jon own) idx M.1 "HalfHands" M.2.1 M.2.2.1 (j_rt M.2.2.2.1) (jwk M :: jws) (jrm dd) 0 0 M.2.2.2.2.2.1 := by
  obtain ⟨b1, b2, b3, b4⟩ := jCB F h
  have hts := F.2.2.2.2.1
  obtain ⟨k1, k2, k3, k4, k5, k6, k7⟩ := jm_ok h
  have hZ := F.2.2.2.2.2.2.1
  have hz := F.2.2.2.2.2.2.2.1
  have hw := hz.2 s hZ _ hl
  have hw2 : va_Nw (Cond.methodLinkNest (jon own) idx M.1 "HalfHands") s := by
    have e : jwN (own, idx, y) = Cond.methodLinkNest (jon own) idx (jmn y) "HalfHands" := rfl
    rw [e] at hw
    unfold jmn at hw
    rw [jmn_eq h] at hw
    exact hw
  exact va_cnB M.2.2.2.2.2.1 hts (jws_in h) rfl b1 b2 hw2 (hts _ (jm_init h)) ⟨k2, k3, k4⟩ ⟨b3, b4⟩
/-- a virtual call of a method of the table -/
theorem j_callV (F : jFx p R s m args c cc nL own D G α Z dd cells slots) {pc idx y : Nat} {M : jM} {a ci : Nat} {av rest : List Value} {ls : Array Slot} {σ σ' : jS} {r : Option Value} (h : jMM[y]? = some M) (hs : M.2.2.2.2.2.2 = 0) (hl : (own, idx, y) ∈ jLM ∨ (own, idx, y) ∈ jLN) (hn : M.2.2.2.2.2.1 = av.length) (hci : M.2.2.2.2.1 = ci) (hc10 : ci < 10) (hi : j_is ci a = true)
    (hM : jMt l α G D Z dd M (.ref a :: av) σ r σ') (hrm : (rest.map fun v => v.category).sum ≤ 8) (hsz : ls.size = nL) (hdg : decode cc pc = .ok (.invokevirtual idx, 3)) (hP : va_P D jcl (jP α G σ) H) (hS : va_S (jA α) s.heap H locs)
    (kk : ∀ (H1 : Heap) (locs1 : List Loc), va_P D jcl (jP α G σ') H1 → va_S (jA α) s.heap H1 locs1 → W p l e R s m args below meth c H1 locs1 cells slots Q (F0 m (pc + 3) ls ((r.map (tv α)).toList ++ rest.map (tv α)))) :
    W p l e R s m args below meth c H locs cells slots Q (F0 m pc ls ((av.map (tv α)).reverse ++ .ref (α a) :: rest.map (tv α))) := by
  have hsh := j_is_sh hi
  have hPa := jP_get (α := α) (G := G) (σ := σ) hsh
  obtain ⟨c1, c2, c3, c4, c5⟩ := jc_ok ci hc10
  obtain ⟨k1, k2, k3, k4, k5, k6, k7⟩ := jm_ok h
  have hcls : M.1.cls = jrr ci := by rw [← k5, hci, c5]
  obtain ⟨v1, v2⟩ := jm_virt h hs
  have hfit : cells + 0 ≤ R.cells ∧ slots + 0 ≤ R.slots := ⟨F.2.2.2.2.2.2.2.2.2.2.2.1, F.2.2.2.2.2.2.2.2.2.2.2.2⟩
  have hpv : PreV s H M.1.cls (α a) (jPc α G D Z σ ((Value.ref a :: av).map (tv α))) (av.map (tv α)) := by
    refine ⟨jPc_blind F.2.2.2.2.2.2.2.1 _ _, ?_, fun U hU hW => jPre F hS hP ((Value.ref a :: av).map (tv α)) U hU hW⟩
    rw [hcls]
    exact va_recv F.2.2.2.2.2.1 hP c1 hPa
  have hts := F.2.2.2.2.1
  have S : CallFix p m c cc nL s args jws (jon own) := ⟨F.1, F.2.1, F.2.2.1, F.2.2.2.1, hts⟩
  have hroom : 2 * (F0 m pc ls ((av.map (tv α)).reverse ++ .ref (α a) :: rest.map (tv α))).monitorRoom + ((rest.map (tv α)).map fun v => v.category).sum ≤ 8 := lv_room (by rw [tv_cats]; exact hrm)
  rcases hl with hl | hl
  · refine j_call (r := r) (va_runV (As := av.map (tv α)) (rest := rest.map (tv α)) S hM ⟨jCallB F h hl, hts _ v1, hts _ v2⟩ hpv rfl (by rw [List.length_map, hn]) hsz rfl hroom hdg hfit) hS kk
  · refine j_call (r := r) (va_runVN (As := av.map (tv α)) (rest := rest.map (tv α)) S hM ⟨jCallN F h hl, hts _ v1, hts _ v2⟩ hpv rfl (by rw [List.length_map, hn]) hsz rfl hroom hdg hfit) hS kk
/-- a static call of a method of the table -/
theorem j_callS (F : jFx p R s m args c cc nL own D G α Z dd cells slots) {pc idx y : Nat} {M : jM} {av rest : List Value} {ls : Array Slot} {σ σ' : jS} {r : Option Value} (h : jMM[y]? = some M) (hs : M.2.2.2.2.2.2 = 1) (hl : (own, idx, y) ∈ jLM ∨ (own, idx, y) ∈ jLN) (hn : M.2.2.2.2.2.1 = av.length)
    (hM : jMt l α G D Z dd M av σ r σ') (hrm : (rest.map fun v => v.category).sum ≤ 8) (hsz : ls.size = nL) (hdg : decode cc pc = .ok (.invokestatic idx, 3)) (hP : va_P D jcl (jP α G σ) H) (hS : va_S (jA α) s.heap H locs)
    (kk : ∀ (H1 : Heap) (locs1 : List Loc), va_P D jcl (jP α G σ') H1 → va_S (jA α) s.heap H1 locs1 → W p l e R s m args below meth c H1 locs1 cells slots Q (F0 m (pc + 3) ls ((r.map (tv α)).toList ++ rest.map (tv α)))) :
    W p l e R s m args below meth c H locs cells slots Q (F0 m pc ls ((av.map (tv α)).reverse ++ rest.map (tv α))) := by
  have v1 := jm_stat h hs
  have hfit : cells + 0 ≤ R.cells ∧ slots + 0 ≤ R.slots := ⟨F.2.2.2.2.2.2.2.2.2.2.2.1, F.2.2.2.2.2.2.2.2.2.2.2.2⟩
  have hpv : PreS s H (jPc α G D Z σ (av.map (tv α))) (av.map (tv α)) := ⟨jPc_blind F.2.2.2.2.2.2.2.1 _ _, fun U hU hW => jPre F hS hP (av.map (tv α)) U hU hW⟩
  have hts := F.2.2.2.2.1
  have S : CallFix p m c cc nL s args jws (jon own) := ⟨F.1, F.2.1, F.2.2.1, F.2.2.2.1, hts⟩
  have hroom : 2 * (F0 m pc ls ((av.map (tv α)).reverse ++ rest.map (tv α))).monitorRoom + ((rest.map (tv α)).map fun v => v.category).sum ≤ 8 := lv_room (by rw [tv_cats]; exact hrm)
  rcases hl with hl | hl
  · refine j_call (r := r) (va_runS (As := av.map (tv α)) (rest := rest.map (tv α)) S hM ⟨jCallB F h hl, hts _ v1⟩ hpv rfl (by rw [List.length_map, hn]) hsz rfl hroom hdg hfit) hS kk
  · refine j_call (r := r) (va_runSN (As := av.map (tv α)) (rest := rest.map (tv α)) S hM ⟨jCallN F h hl, hts _ v1, trivial⟩ hpv rfl (by rw [List.length_map, hn]) hsz rfl hroom hdg hfit) hS kk
end JCALL
