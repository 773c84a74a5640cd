/-! Blocks, loops and calls of the small machine are the Jvm's: jd_ok. -/
section JRUN
variable {p : Program} {l : Launch} {e : Env} {R : Room} {s : State} {m : MethodId} {args : Array Value} {below : List Frame} {meth : Method} {c : Code} {cells slots : Nat} {Q : State → Prop}
variable {cc : ByteArray} {nL own rt : Nat} {D : va_G} {G : jG} {α : Nat → Nat} {Z : State → Prop} {dd : Nat} {B : List jB} {C : Nat → List Value → jS → jR} {r : Option Value × jS} {scr : Bool}
theorem jb_ok (F : jFx p R s m args c cc nL own D G α Z dd cells slots) (hC : jHC l α G D Z dd C) (hSc : jHS s α scr C) (hT : jHT p l e R s m args below meth c cells slots Q cc nL own α) (hR : jHR p l e R s m args below meth c cells slots Q cc rt D G α r)
    {K : Nat → jL → List Value → jS → jR} (hK : ∀ j lv st σ q, K j lv st σ = some r → jpc B j = some q → jWk p l e R s m args below meth c cells slots Q nL D G α q lv st σ) {nx : Nat} :
    ∀ (is : List jN) (pc : Nat) (lv : jL) (st : List Value) (σ : jS), chkB scr own nL B cc nx is pc = true → jb C rt K nx is lv st σ = some r → jWk p l e R s m args below meth c cells slots Q nL D G α pc lv st σ := by
  intro is
  induction is with
  | nil =>
    intro pc lv st σ hc h
    exact hK nx lv st σ pc h (decide_eq_true_eq.mp hc)
  | cons i is ih =>
    intro pc lv st σ hc h
    obtain ⟨i, ex⟩ := i
    obtain ⟨c1, c2, c3, c4⟩ := chk_cons hc
    exact js_ok F hC hSc hT hR hK c2 c1 c3 h (fun hs ht lv st σ h => ih (pc + jlen i) lv st σ (c4 hs ht) h)
def jchk (scr : Bool) (own nL : Nat) (B : List jB) (cc : ByteArray) : Bool := B.all fun b => chkB scr own nL B cc b.2.2.2 b.2.2.1 b.1
theorem jrun_ok (F : jFx p R s m args c cc nL own D G α Z dd cells slots) (hC : jHC l α G D Z dd C) (hSc : jHS s α scr C) (hT : jHT p l e R s m args below meth c cells slots Q cc nL own α) (hR : jHR p l e R s m args below meth c cells slots Q cc rt D G α r) (hB : jchk scr own nL B cc = true) :
    ∀ (n j : Nat) (lv : jL) (st : List Value) (σ : jS) (q : Nat), jrun C rt B n j lv st σ = some r → jpc B j = some q → jWk p l e R s m args below meth c cells slots Q nL D G α q lv st σ := by
  intro n
  induction n with
  | zero => intro j lv st σ q h; cases h
  | succ n ih =>
    intro j lv st σ q h hq
    have h : jstep C rt B (jrun C rt B n) j lv st σ = some r := h
    unfold jstep at h
    obtain ⟨b, hb, h⟩ := Option.bind_eq_some_iff.mp h
    unfold jpc at hq
    rw [hb] at hq
    cases hq
    refine jb_ok F hC hSc hT hR (K := j_go B (jrun C rt B n)) ?_ b.2.2.1 b.1 lv st σ (List.all_eq_true.mp hB b (List.mem_of_getElem? hb)) h
    intro j' lv' st' σ' q' h' hq'
    unfold j_go at h'
    obtain ⟨b', hb', h'⟩ := Option.bind_eq_some_iff.mp h'
    obtain ⟨l', hl', h'⟩ := Option.bind_eq_some_iff.mp h'
    intro ls H locs hl hP hS
    exact ih j' l' st' σ' q' h' hq' ls H locs (j_pick_has hl _ hl') hP hS
theorem db_ok (F : jFx p R s m args c cc nL own D G α Z dd cells slots) (hC : jHC l α G D Z dd C) (hSc : jHS s α scr C) (hT : jHT p l e R s m args below meth c cells slots Q cc nL own α) (hR : jHR p l e R s m args below meth c cells slots Q cc rt D G α r) (hB : jchk scr own nL B cc = true)
    {j : Nat} {lv : jL} {st : List Value} {σ : jS} {q : Nat} (h : j_go B (db C rt B) j lv st σ = some r) (hq : jpc B j = some q) : jWk p l e R s m args below meth c cells slots Q nL D G α q lv st σ := by
  unfold j_go at h
  obtain ⟨b, hb, h⟩ := Option.bind_eq_some_iff.mp h
  obtain ⟨l', hl', h⟩ := Option.bind_eq_some_iff.mp h
  obtain ⟨n, hn⟩ := (db_iff C rt B j l' st σ r).mp h
  intro ls H locs hl hP hS
  exact jrun_ok F hC hSc hT hR hB n j l' st σ q hn hq ls H locs (j_pick_has hl _ hl') hP hS
end JRUN
/-- methods by number: what they answer, their locals, their blocks -/
noncomputable def jd (MT : List (Nat × Nat × List jB)) : Nat → Nat → List Value → jS → jR
  | 0 => fun _ _ _ => none
  | d + 1 => fun y a σ => (MT[y]?).bind fun q => cond (Nat.ble (a.map fun v => v.category).sum q.2.1) (j_go q.2.2 (db (jd MT d) q.1 q.2.2) 0 (lv_args 0 a) [] σ) none
theorem lg_sl_len (vs : List Value) : (lg_sl vs).length = (vs.map fun v => v.category).sum := by
  induction vs with
  | nil => rfl
  | cons v vs ih =>
    have e : lg_sl (v :: vs) = (if v.category = 2 then [Slot.val v, Slot.second] else [Slot.val v]) ++ lg_sl vs := rfl
    rw [e, List.length_append, ih, List.map_cons, List.sum_cons]
    congr 1
    cases v <;> rfl
theorem tl_args (α : Nat → Nat) : ∀ (i : Nat) (vs : List Value), tl α (lv_args i vs) = lv_args i (vs.map (tv α))
  | _, [] => rfl
  | i, v :: vs => by
    have h := tl_args α (if v.category = 2 then i + 2 else i + 1) vs
    show (i, tv α v) :: tl α (lv_args _ vs) = (i, tv α v) :: lv_args (if (tv α v).category = 2 then i + 2 else i + 1) (vs.map (tv α))
    rw [tv_cat, h]
/-- the table of blocks is that of the methods -/
def jMTok (MT : List (Nat × Nat × List jB)) : Prop := ∀ (y : Nat) (M : jM) (q : Nat × Nat × List jB), jMM[y]? = some M → MT[y]? = some q → q.1 = M.2.2.2.1 ∧ q.2.1 = M.2.2.1 ∧ jpc q.2.2 0 = some 0 ∧ jchk false M.2.2.2.2.1 M.2.2.1 q.2.2 M.2.1 = true
def jStrs (l : Launch) (α : Nat → Nat) (G : jG) (D : va_G) (Z : State → Prop) : Prop := ∀ (p : Program) (e : Env) (R : Room) (s : State) (m : MethodId) (args : Array Value) (below : List Frame) (meth : Method) (c : Code) (cells slots : Nat) (Q : State → Prop) (cc : ByteArray) (nL own dd : Nat), jFx p R s m args c cc nL own D G α Z dd cells slots → jHT p l e R s m args below meth c cells slots Q cc nL own α
theorem jd_ok {l : Launch} {D : va_G} {G : jG} {α : Nat → Nat} {Z : State → Prop} {MT : List (Nat × Nat × List jB)} (hMT : jMTok MT) (hα : ∀ a b, a < jSH.length → b < jSH.length → α a = α b → a = b) (hz : jZok α Z) (hst : jStrs l α G D Z) : ∀ d : Nat, jHC l α G D Z d (jd MT d) := by
  intro d
  induction d with
  | zero => intro y M a σ v σ2 hM h; cases h
  | succ d ih =>
    intro y M a σ v σ2 hM h
    have h : ((MT[y]?).bind fun q => cond (Nat.ble (a.map fun v => v.category).sum q.2.1) (j_go q.2.2 (db (jd MT d) q.1 q.2.2) 0 (lv_args 0 a) [] σ) none) = some (v, σ2) := h
    obtain ⟨q, hq, h⟩ := Option.bind_eq_some_iff.mp h
    obtain ⟨hle, h⟩ := cond_s h
    obtain ⟨e1, e2, hp0, hB⟩ := hMT y M q hM hq
    obtain ⟨k1, k2, k3, k4, k5, k6, k7⟩ := jm_ok hM
    refine Met.ofW (cc := M.2.1) (maxL := M.2.2.1) (ret := j_rt M.2.2.2.1) k1 rfl ?_
    intro p e s m args below meth c s₁ Bd hml hv
    obtain ⟨rfl, hP, hK, hZ⟩ := hv
    have hts := atoms_spec (ws := jwk M :: jws) Bd.pre
    have hown : s.vm.findClass M.1.cls = some m.cls := findClass_of_methodNamed Bd.named
    have hlocks := Bd.notSynchronized
    have F : jFx p (headSpec (jwk M :: jws) (jrm (d + 1))).room s m (a.map (tv α)).toArray c M.2.1 M.2.2.1 M.2.2.2.2.1 D G α Z d 0 0 := by
      refine ⟨Bd.exec, Bd.bytes, hml, by rw [k5]; exact hown, fun w hw => hts w (List.mem_cons_of_mem _ hw), hK, hZ, hz, hα, ?_, ?_, Nat.zero_le _, Nat.zero_le _⟩
      · show d + 9 ≤ d + 1 + 8; omega
      · show 60 * d + 540 ≤ 60 * (d + 1) + 480; omega
    have hlen : (lg_sl (a.map (tv α))).length ≤ M.2.2.1 := by
      rw [lg_sl_len, tv_cats, ← e2]
      exact ble_s hle
    have hl := lv_entry (a.map (tv α)) (n := M.2.2.1) hlen
    rw [lg_entry_eq]
    have hR : jHR p l e (headSpec (jwk M :: jws) (jrm (d + 1))).room s m (a.map (tv α)).toArray below meth c 0 0 (MQ below (jQc α G D v σ2) (a.map (tv α)).toArray s 0 0 (jA α)) M.2.1 q.1 D G α (v, σ2) := by
      intro pc ls H locs hP hS
      have hr := Bd.returns
      refine ⟨fun x hx h12 hdg => ?_, fun x hx h3 hdg => ?_, fun hx h0 hdg => ?_⟩
      · have hx : v = some (.int x) := hx
        subst hx
        rcases h12 with h1 | ⟨h2, h01⟩
        · rw [← e1, h1] at hr
          exact W.iret Bd.exec Bd.bytes hr (fun t ht _ => ⟨rfl, by rw [ht]; exact hP, hS.F ht⟩) hS.2.2 hdg
        · rw [← e1, h2] at hr
          exact W.zret Bd.exec Bd.bytes hr (vp_nar_b h01).2.1 (fun t ht _ => ⟨rfl, by rw [ht]; exact hP, hS.F ht⟩) hS.2.2 hdg
      · have hx : v = some (.long x) := hx
        subst hx
        rw [← e1, h3] at hr
        exact W.lret Bd.exec Bd.bytes hr (fun t ht _ => ⟨rfl, by rw [ht]; exact hP, hS.F ht⟩) hS.2.2 hdg
      · have hx : v = none := hx
        subst hx
        rw [← e1, h0] at hr
        exact W.vret Bd.exec Bd.bytes hr (fun t ht _ => ⟨rfl, by rw [ht]; exact hP, hS.F ht⟩) hS.2.2 hdg
    have hSc : jHS s α false (jd MT d) := fun h => by cases h
    exact db_ok F ih hSc (hst p e _ s m _ below meth c 0 0 _ _ _ _ d F) hR hB h hp0 _ s.heap [] (by rw [tl_args]; exact hl) hP va_S.rf
