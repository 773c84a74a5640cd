/-! The constructors' machine is the Jvm's: kd_ok. Printed by wip/gen/ctors.py. -/
section KS
variable {p : Program} {l : Launch} {e : Env} {R : Room} {s : State} {m : MethodId} {args : Array Value} {below : List Frame} {meth : Method} {c : Code} {Q : State → Prop}
variable {own : Nat} {D : va_G} {G : jG} {α adV : Nat → Nat} {sz dd : Nat} {C : Nat → List Value → List kC → kO} {es' : List kC} {L0 S0 : Nat}
def kFx (p : Program) (R : Room) (s : State) (m : MethodId) (args : Array Value) (meth : Method) (c : Code) (own : Nat) (D : va_G) (G : jG) (α adV : Nat → Nat) (sz dd : Nat) (es' : List kC) (L0 S0 : Nat) : Prop :=
  p.tables.exec = Jvm.exec ∧ c.code = kcode own ∧ c.maxLocals = kmaxL own ∧ s.vm.findClass (jrr own) = some m.cls ∧ (∀ w ∈ jws, w.before args s = true) ∧ va_K D jcl (jtys G) s ∧ kZ α adV sz s ∧ (∀ a, a < 127 → α a = sz + a) ∧ dd + 9 ≤ R.frames ∧ 60 * dd + 540 ≤ R.locals ∧ es'.length ≤ 127 ∧ es'.length ≤ R.cells + L0 ∧ ksl es' ≤ R.slots + S0 ∧ sz ≤ s.heap.size ∧ meth.name = "<init>"
def kWk (p : Program) (l : Launch) (e : Env) (R : Room) (s : State) (m : MethodId) (args : Array Value) (below : List Frame) (meth : Method) (c : Code) (Q : State → Prop) (own : Nat) (D : va_G) (G : jG) (α : Nat → Nat) (sz : Nat) (es' : List kC) (L0 S0 : Nat) (pc : Nat) (lv : jL) (st : List Value) (es : List kC) : Prop :=
  es.length ≤ es'.length ∧ ksl es ≤ ksl es' ∧ ∀ (ls : Array Slot) (H : Heap) (locs : List Loc) (cells slots : Nat), lv_has ls (kmaxL own) (tl α lv) → va_P D jcl (kW α G es) H → H.size = sz + es.length → va_S (kA sz) s.heap H locs → cells + L0 = es.length → slots + S0 = ksl es → W p l e R s m args below meth c H locs cells slots Q (F0 m pc ls (st.map (tv α)))
theorem kPre (F : kFx p R s m args meth c own D G α adV sz dd es' L0 S0) {H : Heap} {locs : List Loc} (hS : va_S (kA sz) s.heap H locs) {es : List kC} (hP : va_P D jcl (kW α G es) H) (hz : H.size = sz + es.length) (av : List Value) : ∀ U : State, U.heap = H → s.WarmedH U.vm → kPc α adV G D sz es av av.toArray U := by
  intro U hU hW
  obtain ⟨-, -, -, -, -, hK, hZ, -⟩ := F
  exact ⟨rfl, by rw [hU]; exact hP, by rw [hU]; exact hz, va_K.moved hW.alike hK, kZ_ok s U hZ hW (by rw [hU]; exact hS.1) (fun q h1 h2 => by rw [hU]; exact hS.2.1 q h1 h2)⟩
theorem k_call {H H0 : Heap} {locs : List Loc} {cells slots mc ms : Nat} {pc : Nat} {ls : Array Slot} {rest st0 : List Value} {aa : Array Value} {es2 : List kC} (hr : va_Run p l e R s m args below meth c H locs cells slots mc ms (F0 m pc ls st0) rest (kQc α G D sz es2 aa) (kA sz)) (hS : va_S (kA sz) H0 H locs)
    (kk : ∀ (H1 : Heap) (locs1 : List Loc), va_P D jcl (kW α G es2) H1 → H1.size = sz + es2.length → va_S (kA sz) H0 H1 locs1 → W p l e R s m args below meth c H1 locs1 (cells + mc) (slots + ms) Q (F0 m (pc + 3) ls rest)) : W p l e R s m args below meth c H locs cells slots Q (F0 m pc ls st0) := by
  intro T hT X
  obtain ⟨v, st₀, t, T', L, h0, X', hL, e1, e2, ⟨hv, hp, hsz, hz, hk⟩, st⟩ := hr T hT X
  cases hv
  rw [h0] at hz hk
  obtain ⟨t2, a1, b1⟩ := kk T'.heap (locs ++ L) (by rw [e1]; exact hp) (by rw [e1]; exact hsz)
    ⟨Nat.le_trans hS.1 (by rw [e1]; exact hz), fun q h1 h2 => by rw [e1, hk q (Nat.lt_of_lt_of_le h1 hS.1) h2]; exact hS.2.1 q h1 h2, fun q hq => by
      rcases List.mem_append.mp hq with h | h
      · exact hS.2.2 q h
      · exact hL q h⟩ T' rfl X'
  exact ⟨t2, st t2 a1, b1⟩
/-- String's methods in the constructor of Tokens -/
theorem k_len (F : kFx p R s m args meth c 7 D G α adV sz dd es' L0 S0) {H : Heap} {locs : List Loc} {cells slots pc a : Nat} {z : List Nat} {ls : Array Slot} {rest : List Value} (hsz : ls.size = kmaxL 7) (hz : j_str a = some z) (hrs : (rest.map fun v => v.category).sum ≤ 8) (hce : cells + 0 ≤ R.cells ∧ slots + 0 ≤ R.slots) (hdg : decode (kcode 7) pc = .ok (.invokevirtual 20, 3)) (hS : va_S (kA sz) s.heap H locs) (k : W p l e R s m args below meth c H locs cells slots Q (F0 m (pc + 3) ls (.int (Int32.ofNat z.length) :: rest))) : W p l e R s m args below meth c H locs cells slots Q (F0 m pc ls (.ref (α a) :: rest)) := by
  obtain ⟨hx, hb, hml, hown, hw, hK, hZ, hα, hfr, hlo, -⟩ := F
  obtain ⟨cell, g1, g2, g3, -⟩ := (hZ.2.1 a z hz).1.kept hS.2.1
  exact s_call (va_runV (As := []) (rest := rest) (C := "java/lang/String") ⟨hx, hb, hml, hown, hw⟩ (s_len l (α a) (adV a) z.length (sF z) 0) ⟨callB_of 0 hw (sG (sW_g _ (List.mem_of_getElem? (i := 0) rfl))) rfl rfl rfl (hw _ (sW_g _ (List.mem_of_getElem? (i := 30) rfl))) (hw _ (sW_g _ (List.mem_of_getElem? (i := 33) rfl))) (by decide +kernel) ⟨by show 1 + 1 ≤ R.frames; omega, by show 8 + (1 + 11) + 40 * 1 ≤ R.locals; omega⟩, hw _ (sW_g _ (List.mem_of_getElem? (i := 1) rfl)), hw _ (sW_g _ (List.mem_of_getElem? (i := 2) rfl))⟩ ⟨sPc_b, ⟨cell, g1, g2, g3⟩, fun U hU hW => ⟨rfl, (kZ_ok s U hZ hW (by rw [hU]; exact hS.1) (fun q h1 h2 => by rw [hU]; exact hS.2.1 q h1 h2)).sE hz⟩⟩ rfl rfl hsz rfl (lv_room hrs) hdg hce) k
theorem k_chr (F : kFx p R s m args meth c 7 D G α adV sz dd es' L0 S0) {H : Heap} {locs : List Loc} {cells slots pc a : Nat} {z : List Nat} {i : Int32} {x : Nat} {ls : Array Slot} {rest : List Value} (hsz : ls.size = kmaxL 7) (hz : j_str a = some z) (hrs : (rest.map fun v => v.category).sum ≤ 8) (hi : ¬ i < 0) (hxz : z[i.toNatClampNeg]? = some x) (hce : cells + 0 ≤ R.cells ∧ slots + 0 ≤ R.slots) (hdg : decode (kcode 7) pc = .ok (.invokevirtual 26, 3)) (hS : va_S (kA sz) s.heap H locs) (k : W p l e R s m args below meth c H locs cells slots Q (F0 m (pc + 3) ls (.int (Int32.ofNat x) :: rest))) : W p l e R s m args below meth c H locs cells slots Q (F0 m pc ls (.int i :: .ref (α a) :: rest)) := by
  obtain ⟨hx, hb, hml, hown, hw, hK, hZ, hα, hfr, hlo, -⟩ := F
  obtain ⟨cell, g1, g2, g3, -⟩ := (hZ.2.1 a z hz).1.kept hS.2.1
  have hzl := (jst_ok z (j_str_in hz)).1
  obtain ⟨j, hj, rfl⟩ := nI_of hi
  rw [nI_clamp hj] at hxz
  have hjz : j < z.length := (List.getElem?_eq_some_iff.mp hxz).1
  have hv : sF z (nI j).toNatClampNeg &&& 255 = Int32.ofNat x := by
    rw [nI_clamp hj]
    have e1 : z.getD j 0 = x := by rw [List.getD_eq_getElem?_getD, hxz]; rfl
    rw [← e1]
    exact (nI_255 _ (sF_lt (jst_ok z (j_str_in hz)).2.2 j)).1
  rw [← hv] at k
  exact s_call (va_runV (As := [.int (nI j)]) (rest := rest) (C := "java/lang/String") ⟨hx, hb, hml, hown, hw⟩ (s_chr l (α a) (adV a) z.length (sF z) (nI j) hi (nI_lt hjz (by omega)) 0) ⟨callB_of 1 hw (sG (sW_g _ (List.mem_of_getElem? (i := 9) rfl))) rfl rfl rfl (hw _ (sW_g _ (List.mem_of_getElem? (i := 30) rfl))) (hw _ (sW_g _ (List.mem_of_getElem? (i := 36) rfl))) (by decide +kernel) ⟨by show 3 + 1 ≤ R.frames; omega, by show 8 + (2 + 11) + 40 * 3 ≤ R.locals; omega⟩, hw _ (sW_g _ (List.mem_of_getElem? (i := 10) rfl)), hw _ (sW_g _ (List.mem_of_getElem? (i := 11) rfl))⟩ ⟨sPc_b, ⟨cell, g1, g2, g3⟩, fun U hU hW => ⟨rfl, (kZ_ok s U hZ hW (by rw [hU]; exact hS.1) (fun q h1 h2 => by rw [hU]; exact hS.2.1 q h1 h2)).sE hz⟩⟩ rfl rfl hsz rfl (lv_room hrs) hdg hce) k
theorem krm_f (d x y : Nat) : (krm d x y).frames = d + 8 := rfl
theorem krm_l (d x y : Nat) : (krm d x y).locals = 60 * d + 480 := rfl
theorem krm_fit {d x y k n o : Nat} (h1 : d + 9 ≤ n) (h2 : 60 * d + 540 ≤ o) (h3 : k ≤ 6) : (krm d x y).frames + 1 ≤ n ∧ 8 + (k + 11) + (krm d x y).locals ≤ o := by
  rw [krm_f, krm_l]
  omega
/-- a call of a constructor -/
theorem k_init (F : kFx p R s m args meth c own D G α adV sz dd es' L0 S0) {H : Heap} {locs : List Loc} {cells slots pc n ci a : Nat} {av rest : List Value} {ls : Array Slot} {es es2 : List kC} (hM : kMt l α adV G D sz dd ci (.ref a :: av) es es2) (hl : (own, n, ci) ∈ kLI) (hn : av.length = kargs ci) (hrm : (rest.map fun v => v.category).sum ≤ 8) (hsz : ls.size = kmaxL own) (hfit : cells + (es2.length - es.length) ≤ R.cells ∧ slots + (ksl es2 - ksl es) ≤ R.slots) (hdg : decode (kcode own) pc = .ok (.invokespecial n, 3)) (hP : va_P D jcl (kW α G es) H) (hz : H.size = sz + es.length) (hS : va_S (kA sz) s.heap H locs)
    (kk : ∀ (H1 : Heap) (locs1 : List Loc), va_P D jcl (kW α G es2) H1 → H1.size = sz + es2.length → va_S (kA sz) s.heap H1 locs1 → W p l e R s m args below meth c H1 locs1 (cells + (es2.length - es.length)) (slots + (ksl es2 - ksl es)) Q (F0 m (pc + 3) ls (rest.map (tv α)))) :
    W p l e R s m args below meth c H locs cells slots Q (F0 m pc ls ((av.map (tv α)).reverse ++ .ref (α a) :: rest.map (tv α))) := by
  obtain ⟨hx, hb, hml, hown, hts, hK, hZ, hα, hfr, hlo, -⟩ := id F
  have hci := kLI_ok _ hl
  obtain ⟨-, n1, n2, n3, n4⟩ := kn_ok ci hci
  have S : CallFix p m c (kcode own) (kmaxL own) s args jws (jrr own) := ⟨hx, hb, hml, hown, hts⟩
  have hpv : PreS s H (kPc α adV G D sz es ((Value.ref a :: av).map (tv α))) (.ref (α a) :: av.map (tv α)) := ⟨kPc_blind _ _, fun U hU hW => kPre F hS hP hz ((Value.ref a :: av).map (tv α)) U hU hW⟩
  have hroom : 2 * (F0 m pc ls ((av.map (tv α)).reverse ++ .ref (α a) :: rest.map (tv α))).monitorRoom + ((rest.map (tv α)).map fun v => v.category).sum ≤ 8 := lv_room (by rw [tv_cats]; exact hrm)
  have hrR : (krm dd (es2.length - es.length) (ksl es2 - ksl es)).frames + 1 ≤ R.frames ∧ 8 + (kmaxL ci + 11) + (krm dd (es2.length - es.length) (ksl es2 - ksl es)).locals ≤ R.locals := krm_fit hfr hlo n4
  rcases kLI_in _ hl with hp | hp
  · have hw : Cond.methodLink (jrr own) n (kname ci) ∈ jws := kwI_g _ (List.mem_map.mpr ⟨_, hp, rfl⟩)
    exact k_call (va_runI (As := av.map (tv α)) (rest := rest.map (tv α)) S hM ⟨callB_of (kargs ci) hts (kws_in hci) rfl rfl rfl (hts _ (kwZ_g _ (kr10 hci))) (hts _ hw) ⟨n1, n2, n3⟩ hrR, rfl, hts _ (kwM_g _ (kr10 hci))⟩ hpv rfl (by rw [List.length_map, hn]) hsz rfl hroom hdg hfit) hS kk
  · have hw : va_Nw (Cond.methodLinkNest (jrr own) n (kname ci) "HalfHands") s := hZ.1 _ hp
    exact k_call (va_runIN (As := av.map (tv α)) (rest := rest.map (tv α)) S hM ⟨va_cnB (kargs ci) hts (kws_in hci) rfl rfl rfl hw (hts _ (kwZ_g _ (kr10 hci))) ⟨n1, n2, n3⟩ hrR, rfl, hts _ (kwM_g _ (kr10 hci))⟩ hpv rfl (by rw [List.length_map, hn]) hsz rfl hroom hdg hfit) hS kk
set_option maxHeartbeats 8000000 in
theorem kstep_ok (F : kFx p R s m args meth c own D G α adV sz dd es' L0 S0) (hC : kHC l α adV G D sz dd C) {i : Instr} {pc : Nat} (hd : decode (kcode own) pc = .ok (i, klen i)) {k : Nat → jL → List Value → List kC → kO} (hk : ∀ pc' lv' st' es1, k pc' lv' st' es1 = some es' → kWk p l e R s m args below meth c Q own D G α sz es' L0 S0 pc' lv' st' es1) {lv : jL} {st : List Value} {es : List kC} (h : kstep C own pc (klen i) i lv st es k = some es') : kWk p l e R s m args below meth c Q own D G α sz es' L0 S0 pc lv st es := by
  obtain ⟨hx, hb, hml, hown, hts, hK, hZ, hα, hfr, hlo, h127, hRc, hRs, hsz0, hnm⟩ := id F
  cases i
  case aload_n n =>
    unfold kstep at h
    dsimp only at h
    split at h
    · rename_i x hq
      obtain ⟨g1, g2, g⟩ := hk _ _ _ _ h
      exact ⟨g1, g2, fun ls H locs cells slots hl hP hz hS hc hs => lv_aload_n hx hb hd rfl (j_at_ls (j_atR_s hq) hl) (g ls H locs cells slots hl hP hz hS hc hs)⟩
    · cases h
  case iload_n n =>
    unfold kstep at h
    dsimp only at h
    split at h
    · rename_i x hq
      obtain ⟨g1, g2, g⟩ := hk _ _ _ _ h
      exact ⟨g1, g2, fun ls H locs cells slots hl hP hz hS hc hs => lv_iload_n hx hb hd rfl (j_at_ls (j_atI_s hq) hl) (g ls H locs cells slots hl hP hz hS hc hs)⟩
    · cases h
  case iload n =>
    unfold kstep at h
    dsimp only at h
    split at h
    · rename_i x hq
      obtain ⟨g1, g2, g⟩ := hk _ _ _ _ h
      exact ⟨g1, g2, fun ls H locs cells slots hl hP hz hS hc hs => lv_iload hx hb hd (j_at_ls (j_atI_s hq) hl) (g ls H locs cells slots hl hP hz hS hc hs)⟩
    · cases h
  case istore_n n =>
    unfold kstep at h
    dsimp only at h
    split at h
    · rename_i x r
      obtain ⟨hlt, h2⟩ := cond_s h
      rw [kfL_eq kfQ_eq] at h2
      obtain ⟨g1, g2, g⟩ := hk _ _ _ _ h2
      exact ⟨g1, g2, fun ls H locs cells slots hl hP hz hS hc hs => lv_istore_n hx hb hd rfl hl (ble_s hlt) (tl_st1 α lv _ (.int x)) (fun ls' hl' => g ls' H locs cells slots hl' hP hz hS hc hs)⟩
    · cases h
  case istore n =>
    unfold kstep at h
    dsimp only at h
    split at h
    · rename_i x r
      obtain ⟨hlt, h2⟩ := cond_s h
      rw [kfL_eq kfQ_eq] at h2
      obtain ⟨g1, g2, g⟩ := hk _ _ _ _ h2
      exact ⟨g1, g2, fun ls H locs cells slots hl hP hz hS hc hs => lv_istore hx hb hd hl (ble_s hlt) (tl_st1 α lv _ (.int x)) (fun ls' hl' => g ls' H locs cells slots hl' hP hz hS hc hs)⟩
    · cases h
  case iinc n cst =>
    unfold kstep at h
    dsimp only at h
    split at h
    · rename_i x hq
      obtain ⟨hlt, h2⟩ := cond_s h
      rw [kfL_eq kfQ_eq] at h2
      obtain ⟨g1, g2, g⟩ := hk _ _ _ _ h2
      have hm2 : (n, Value.int x) ∈ tl α lv := List.mem_map.mpr ⟨_, j_at_mem (j_atI_s hq), rfl⟩
      obtain ⟨kk, hkk⟩ := List.getElem?_of_mem hm2
      exact ⟨g1, g2, fun ls H locs cells slots hl hP hz hS hc hs => lv_iinc hx hb hd hl hkk rfl (ble_s hlt) (tl_st1 α lv _ (.int (x + Int32.ofInt cst))) (fun ls' hl' => g ls' H locs cells slots hl' hP hz hS hc hs)⟩
    · cases h
  case iconst n =>
    unfold kstep at h
    dsimp only at h
    rw [kfI_eq] at h
    obtain ⟨g1, g2, g⟩ := hk _ _ _ _ h
    exact ⟨g1, g2, fun ls H locs cells slots hl hP hz hS hc hs => lv_iconst hx hb hd rfl (g ls H locs cells slots hl hP hz hS hc hs)⟩
  case bipush n =>
    unfold kstep at h
    dsimp only at h
    rw [kfI_eq] at h
    obtain ⟨g1, g2, g⟩ := hk _ _ _ _ h
    exact ⟨g1, g2, fun ls H locs cells slots hl hP hz hS hc hs => lv_bipush hx hb hd rfl (g ls H locs cells slots hl hP hz hS hc hs)⟩
  case sipush n =>
    unfold kstep at h
    dsimp only at h
    rw [kfI_eq] at h
    obtain ⟨g1, g2, g⟩ := hk _ _ _ _ h
    exact ⟨g1, g2, fun ls H locs cells slots hl hP hz hS hc hs => lv_sipush hx hb hd rfl (g ls H locs cells slots hl hP hz hS hc hs)⟩
  case iadd =>
    unfold kstep at h
    dsimp only at h
    split at h
    · rename_i y x r
      rw [kfI_eq] at h
      obtain ⟨g1, g2, g⟩ := hk _ _ _ _ h
      exact ⟨g1, g2, fun ls H locs cells slots hl hP hz hS hc hs => lv_iadd hx hb hd (g ls H locs cells slots hl hP hz hS hc hs)⟩
    · cases h
  case isub =>
    unfold kstep at h
    dsimp only at h
    split at h
    · rename_i y x r
      rw [kfI_eq] at h
      obtain ⟨g1, g2, g⟩ := hk _ _ _ _ h
      exact ⟨g1, g2, fun ls H locs cells slots hl hP hz hS hc hs => lv_isub hx hb hd (g ls H locs cells slots hl hP hz hS hc hs)⟩
    · cases h
  case imul =>
    unfold kstep at h
    dsimp only at h
    split at h
    · rename_i y x r
      rw [kfI_eq] at h
      obtain ⟨g1, g2, g⟩ := hk _ _ _ _ h
      exact ⟨g1, g2, fun ls H locs cells slots hl hP hz hS hc hs => lv_imul hx hb hd (g ls H locs cells slots hl hP hz hS hc hs)⟩
    · cases h
  case ishl =>
    unfold kstep at h
    dsimp only at h
    split at h
    · rename_i y x r
      rw [kfI_eq] at h
      obtain ⟨g1, g2, g⟩ := hk _ _ _ _ h
      exact ⟨g1, g2, fun ls H locs cells slots hl hP hz hS hc hs => lv_ishl hx hb hd (g ls H locs cells slots hl hP hz hS hc hs)⟩
    · cases h
  case ior =>
    unfold kstep at h
    dsimp only at h
    split at h
    · rename_i y x r
      rw [kfI_eq] at h
      obtain ⟨g1, g2, g⟩ := hk _ _ _ _ h
      exact ⟨g1, g2, fun ls H locs cells slots hl hP hz hS hc hs => lv_ior hx hb hd (g ls H locs cells slots hl hP hz hS hc hs)⟩
    · cases h
  case dup =>
    unfold kstep at h
    dsimp only at h
    split at h
    · rename_i a r
      obtain ⟨g1, g2, g⟩ := hk _ _ _ _ h
      exact ⟨g1, g2, fun ls H locs cells slots hl hP hz hS hc hs => lv_dup hx hb hd rfl (g ls H locs cells slots hl hP hz hS hc hs)⟩
    · cases h
  case goto off =>
    unfold kstep at h
    dsimp only at h
    obtain ⟨h0, h2⟩ := cond_s h
    obtain ⟨g1, g2, g⟩ := hk _ _ _ _ h2
    exact ⟨g1, g2, fun ls H locs cells slots hl hP hz hS hc hs => lv_goto hx hb hd (Int.toNat_of_nonneg (of_decide_eq_true h0)).symm (g ls H locs cells slots hl hP hz hS hc hs)⟩
  case if_icmp cnd off =>
    unfold kstep at h
    dsimp only at h
    split at h
    · rename_i y x r
      split at h
      · obtain ⟨h0, h2⟩ := cond_s h
        have ht := (Int.toNat_of_nonneg (of_decide_eq_true h0)).symm
        by_cases hxy : x < y
        · rw [if_pos hxy] at h2
          obtain ⟨g1, g2, g⟩ := hk _ _ _ _ h2
          exact ⟨g1, g2, fun ls H locs cells slots hl hP hz hS hc hs => lv_icmp_ge hx hb hd ht (fun q => absurd hxy (by rw [Int32.lt_iff_toInt_lt]; have := Int32.le_iff_toInt_le.mp q; omega)) (fun _ => (g ls H locs cells slots hl hP hz hS hc hs))⟩
        · rw [if_neg hxy] at h2
          obtain ⟨g1, g2, g⟩ := hk _ _ _ _ h2
          exact ⟨g1, g2, fun ls H locs cells slots hl hP hz hS hc hs => lv_icmp_ge hx hb hd ht (fun _ => (g ls H locs cells slots hl hP hz hS hc hs)) (fun q => absurd (Int32.le_iff_toInt_le.mpr (by have hq : ¬ x.toInt < y.toInt := fun z => hxy (Int32.lt_iff_toInt_lt.mpr z); omega)) q)⟩
      · obtain ⟨h0, h2⟩ := cond_s h
        have ht := (Int.toNat_of_nonneg (of_decide_eq_true h0)).symm
        by_cases hxy : x = y
        · rw [if_pos hxy] at h2
          obtain ⟨g1, g2, g⟩ := hk _ _ _ _ h2
          exact ⟨g1, g2, fun ls H locs cells slots hl hP hz hS hc hs => lv_icmp_ne hx hb hd ht (fun q => absurd hxy q) (fun _ => (g ls H locs cells slots hl hP hz hS hc hs))⟩
        · rw [if_neg hxy] at h2
          obtain ⟨g1, g2, g⟩ := hk _ _ _ _ h2
          exact ⟨g1, g2, fun ls H locs cells slots hl hP hz hS hc hs => lv_icmp_ne hx hb hd ht (fun _ => (g ls H locs cells slots hl hP hz hS hc hs)) (fun q => absurd q hxy)⟩
      · cases h
    · cases h
  case ldc n =>
    unfold kstep at h
    dsimp only at h
    by_cases c1 : own = 7 ∧ n = 18
    · rw [if_pos c1] at h
      obtain ⟨rfl, rfl⟩ := c1
      obtain ⟨g1, g2, g⟩ := hk _ _ _ _ h
      exact ⟨g1, g2, fun ls H locs cells slots hl hP hz hS hc hs => va_ldcS hx hb hown hZ.2.2.1 hd (g ls H locs cells slots hl hP hz hS hc hs)⟩
    · rw [if_neg c1] at h; cases h
  case invokevirtual n =>
    unfold kstep at h
    dsimp only at h
    by_cases c1 : own = 7 ∧ n = 20
    · rw [if_pos c1] at h
      obtain ⟨rfl, rfl⟩ := c1
      split at h
      · rename_i a r
        split at h
        · rename_i z hjz
          obtain ⟨hrm, h2⟩ := cond_s h
          rw [kfI_eq] at h2
          obtain ⟨g1, g2, g⟩ := hk _ _ _ _ h2
          exact ⟨g1, g2, fun ls H locs cells slots hl hP hz hS hc hs => k_len F hl.1 hjz (by rw [tv_cats]; exact ble_s hrm) ⟨by omega, by omega⟩ hd hS (g ls H locs cells slots hl hP hz hS hc hs)⟩
        · cases h
      · cases h
    rw [if_neg c1] at h
    by_cases c2 : own = 7 ∧ n = 26
    · rw [if_pos c2] at h
      obtain ⟨rfl, rfl⟩ := c2
      split at h
      · rename_i i a r
        split at h
        · rename_i z hjz
          by_cases hi : i < 0
          · rw [if_pos hi] at h; cases h
          rw [if_neg hi] at h
          split at h
          · rename_i x hxz
            obtain ⟨hrm, h2⟩ := cond_s h
            rw [kfI_eq] at h2
            obtain ⟨g1, g2, g⟩ := hk _ _ _ _ h2
            exact ⟨g1, g2, fun ls H locs cells slots hl hP hz hS hc hs => k_chr F hl.1 hjz (by rw [tv_cats]; exact ble_s hrm) hi hxz ⟨by omega, by omega⟩ hd hS (g ls H locs cells slots hl hP hz hS hc hs)⟩
          · cases h
        · cases h
      · cases h
    · rw [if_neg c2] at h; cases h
  case newarray t =>
    unfold kstep at h
    dsimp only at h
    split at h
    · rename_i z hzt
      split at h
      · rename_i x r
        by_cases hx0 : x < 0
        · rw [if_pos hx0] at h; cases h
        rw [if_neg hx0, kfN_eq] at h
        obtain ⟨hn, h2⟩ := cond_s h
        have hn := ble_s hn
        rw [kfN_eq, kfL_eq kfX_eq] at h2
        obtain ⟨g1, g2, g⟩ := hk _ _ _ _ h2
        rw [List.length_append] at g1
        rw [ksl_app] at g2
        have g1 : es.length + 1 ≤ es'.length := g1
        have g2 : ksl es + x.toNatClampNeg ≤ ksl es' := g2
        refine ⟨by omega, by omega, fun ls H locs cells slots hl hP hz hS hc hs => ?_⟩
        have hae : α es.length = H.size := by rw [hα _ (by omega), hz]
        have hDD : va_D (kA sz) (kW α G es) := kW_D hα (by omega)
        have hA : ∀ q, s.heap.size ≤ q → kA sz q := fun q hq => Nat.le_trans hsz0 hq
        rcases kat_s hzt with ⟨rfl, rfl⟩ | ⟨rfl, rfl⟩ | ⟨rfl, rfl⟩
        · have g3 := fun (H1 : Heap) (hz1 : H1.size = H.size + 1) hP1 hS1 => g ls H1 locs (cells + 1) (slots + x.toNatClampNeg) hl hP1 (by rw [hz1, hz, List.length_append]; rfl) hS1 (by rw [List.length_append]; show cells + 1 + L0 = es.length + 1; omega) (by rw [ksl_app]; show slots + x.toNatClampNeg + S0 = ksl es + x.toNatClampNeg; omega)
          refine k_newa hx hb (atype := .int) (hts _ (kwB_g _ (List.mem_of_getElem? (i := 2) rfl))) (hK.2 0 _ rfl).2 hP hDD hS hA (a0 := (x.toNatClampNeg, .inl (fun k => kget [] k))) (fun cA => rfl) hx0 rfl (by show x.toNatClampNeg * 4 ≤ 536870912; omega) (by omega) (by omega) hd (fun H1 hz1 hP1 _ hS1 => ?_)
          have g4 := g3 H1 hz1 (by rw [kW_app, hae]; exact hP1) hS1
          rw [List.map_cons, show tv α (.ref es.length) = .ref H.size from congrArg Value.ref hae] at g4
          exact g4
        · have g3 := fun (H1 : Heap) (hz1 : H1.size = H.size + 1) hP1 hS1 => g ls H1 locs (cells + 1) (slots + x.toNatClampNeg) hl hP1 (by rw [hz1, hz, List.length_append]; rfl) hS1 (by rw [List.length_append]; show cells + 1 + L0 = es.length + 1; omega) (by rw [ksl_app]; show slots + x.toNatClampNeg + S0 = ksl es + x.toNatClampNeg; omega)
          refine k_newa hx hb (atype := .boolean) (hts _ (kwB_g _ (List.mem_of_getElem? (i := 3) rfl))) (hK.2 1 _ rfl).2 hP hDD hS hA (a0 := (x.toNatClampNeg, .inl (fun k => kget [] k))) (fun cA => rfl) hx0 rfl (by show x.toNatClampNeg * 1 ≤ 536870912; omega) (by omega) (by omega) hd (fun H1 hz1 hP1 _ hS1 => ?_)
          have g4 := g3 H1 hz1 (by rw [kW_app, hae]; exact hP1) hS1
          rw [List.map_cons, show tv α (.ref es.length) = .ref H.size from congrArg Value.ref hae] at g4
          exact g4
        · have g3 := fun (H1 : Heap) (hz1 : H1.size = H.size + 1) hP1 hS1 => g ls H1 locs (cells + 1) (slots + x.toNatClampNeg) hl hP1 (by rw [hz1, hz, List.length_append]; rfl) hS1 (by rw [List.length_append]; show cells + 1 + L0 = es.length + 1; omega) (by rw [ksl_app]; show slots + x.toNatClampNeg + S0 = ksl es + x.toNatClampNeg; omega)
          refine k_newa hx hb (atype := .long) (hts _ (kwB_g _ (List.mem_of_getElem? (i := 4) rfl))) (hK.2 2 _ rfl).2 hP hDD hS hA (a0 := (x.toNatClampNeg, .inr (.inl (fun _ => 0)))) (fun cA => rfl) hx0 rfl (by show x.toNatClampNeg * 8 ≤ 536870912; omega) (by omega) (by omega) hd (fun H1 hz1 hP1 _ hS1 => ?_)
          have g4 := g3 H1 hz1 (by rw [kW_app, hae]; exact hP1) hS1
          rw [List.map_cons, show tv α (.ref es.length) = .ref H.size from congrArg Value.ref hae] at g4
          exact g4
      · cases h
    · cases h
  case new n =>
    unfold kstep at h
    dsimp only at h
    split at h
    · rename_i ci hci0
      have hmem := kL3_s hci0
      have hci := kLC_ok _ hmem
      rw [kfN_eq, kfL_eq kfV_eq, kfL_eq kfX_eq] at h
      obtain ⟨g1, g2, g⟩ := hk _ _ _ _ h
      rw [List.length_append] at g1
      rw [ksl_app] at g2
      have g1 : es.length + 1 ≤ es'.length := g1
      have g2 : ksl es + jnn ci ≤ ksl es' := g2
      refine ⟨by omega, by omega, fun ls H locs cells slots hl hP hz hS hc hs => ?_⟩
      have hae : α es.length = H.size := by rw [hα _ (by omega), hz]
      have hDD : va_D (kA sz) (kW α G es) := kW_D hα (by omega)
      have hA : ∀ q, s.heap.size ≤ q → kA sz q := fun q hq => Nat.le_trans hsz0 hq
      obtain ⟨c1, c2, c3, c4, c5⟩ := jc_ok ci hci
      have g3 := fun (H1 : Heap) (hz1 : H1.size = H.size + 1) hP1 hS1 => g ls H1 locs (cells + 1) (slots + jnn ci) hl hP1 (by rw [hz1, hz, List.length_append]; rfl) hS1 (by rw [List.length_append]; show cells + 1 + L0 = es.length + 1; omega) (by rw [ksl_app]; show slots + jnn ci + S0 = ksl es + jnn ci; omega)
      refine k_new hx hb hts c2 (jyy ci) c4 hown (hts _ (kwC_g _ (List.mem_map.mpr ⟨_, hmem, rfl⟩))) (hts _ (kwT_g _ (kr10 hci))) (hts _ (kwZ_g _ (kr10 hci))) hK hP hDD hS hA c1 (fs := (kdef ci).map (tv α)) (fun j hj => kdef_V α ci j hj) (by omega) (by omega) hd (fun H1 hz1 hP1 _ hS1 => ?_)
      have g4 := g3 H1 hz1 (by rw [kW_app, hae]; exact hP1) hS1
      rw [List.map_cons, show tv α (.ref es.length) = .ref H.size from congrArg Value.ref hae] at g4
      exact g4
    · cases h
  case putfield n =>
    unfold kstep at h
    dsimp only at h
    split at h
    · rename_i f hf0
      have hmem := kL4_s hf0
      obtain ⟨f1, f2, f3, f4⟩ := kLF_ok _ hmem
      have f1 : own = f.1 := f1
      have f2 : f.1 < 10 := f2
      have f3 : f.2 < jnn f.1 := f3
      have f4 : (jtt f.1 f.2).1 = jrr f.1 := f4
      split at h
      · rename_i v a r
        obtain ⟨hty, h2⟩ := cond_s h
        obtain ⟨fs, ha, hlf, h3⟩ := kput_s h2
        obtain ⟨g1, g2, g⟩ := hk _ _ _ _ h3
        rw [List.length_set] at g1
        rw [ksl_set es a (.inr (f.1, fs)) (.inr (f.1, fs.set f.2 v)) ha rfl] at g2
        refine ⟨g1, g2, fun ls H locs cells slots hl hP hz hS hc hs => ?_⟩
        obtain ⟨c1, c2, c3, c4, c5⟩ := jc_ok f.1 f2
        obtain ⟨t1, t2⟩ := ktyp_s (α := α) hty
        have hw : Cond.fieldLink (jrr own) n (jtt f.1 f.2).1 (jtt f.1 f.2).2.1 (jtt f.1 f.2).2.2.1 ∈ jws := by
          rw [f4]
          exact kwF_g _ (List.mem_map.mpr ⟨_, hmem, rfl⟩)
        refine k_put hx hb hts c2 (jyy f.1) c4 c3 hown hK hP (kW_D hα (by omega)) hS a (kW_get ha) c1 f.2 f3 (hts _ hw) hnm (by rw [f4, ← f1]) (c4 f.2 f3) t1 t2 (by rw [List.length_map]; exact hlf) hd (fun H1 locs1 hP1 hS1 hz1 => ?_)
        refine g ls H1 locs1 cells slots hl ?_ (by rw [List.length_set, hz1]; exact hz) hS1 (by rw [List.length_set]; exact hc) (by rw [ksl_set es a (.inr (f.1, fs)) (.inr (f.1, fs.set f.2 v)) ha rfl]; exact hs)
        rw [kW_set, show kE α G (.inr (f.1, fs.set f.2 v)) = .inr (f.1, (fs.map (tv α)).set f.2 (tv α v)) from by show Sum.inr (f.1, (fs.set f.2 v).map (tv α)) = _; rw [List.map_set]]
        exact hP1
      · cases h
    · cases h
  case getfield n =>
    unfold kstep at h
    dsimp only at h
    split at h
    · rename_i f hf0
      have hmem := kL4_s hf0
      obtain ⟨f1, f2, f3, f4⟩ := kLF_ok _ hmem
      have f2 : f.1 < 10 := f2
      have f3 : f.2 < jnn f.1 := f3
      have f4 : (jtt f.1 f.2).1 = jrr f.1 := f4
      split at h
      · rename_i a r
        split at h
        · rename_i v hv
          rw [kfV_eq] at h
          obtain ⟨fs, ha, hfv⟩ := kfld_s hv
          obtain ⟨g1, g2, g⟩ := hk _ _ _ _ h
          obtain ⟨c1, c2, c3, c4, c5⟩ := jc_ok f.1 f2
          have hw : Cond.fieldLink (jrr own) n (jtt f.1 f.2).1 (jtt f.1 f.2).2.1 (jtt f.1 f.2).2.2.1 ∈ jws := by
            rw [f4]
            exact kwF_g _ (List.mem_map.mpr ⟨_, hmem, rfl⟩)
          exact ⟨g1, g2, fun ls H locs cells slots hl hP hz hS hc hs => va_get hx hb hts c2 hown hK hP a (kW_get ha) c1 f.2 f3 (hts _ hw) (fun _ h => h) (by rw [List.getElem?_map, hfv]; rfl) hd (g ls H locs cells slots hl hP hz hS hc hs)⟩
        · cases h
      · cases h
    · cases h
  case iastore =>
    unfold kstep at h
    dsimp only at h
    split at h
    · rename_i x i a r
      obtain ⟨n, w, ha, hin, h2⟩ := kast_s h
      obtain ⟨g1, g2, g⟩ := hk _ _ _ _ h2
      rw [List.length_set] at g1
      rw [ksl_set es a (.inl (0, n, w)) (.inl (0, n, (i.toNatClampNeg, x) :: w)) ha rfl] at g2
      refine ⟨g1, g2, fun ls H locs cells slots hl hP hz hS hc hs => ?_⟩
      refine k_iast hx hb hK hP (kW_D hα (by omega)) hS a 0 (kW_get ha) rfl hin hd (fun H1 locs1 hP1 hS1 hz1 => ?_)
      refine g ls H1 locs1 cells slots hl ?_ (by rw [List.length_set, hz1]; exact hz) hS1 (by rw [List.length_set]; exact hc) (by rw [ksl_set es a (.inl (0, n, w)) (.inl (0, n, (i.toNatClampNeg, x) :: w)) ha rfl]; exact hs)
      rw [kW_set, show kE α G (.inl (0, n, (i.toNatClampNeg, x) :: w)) = .inl (j_ac G 0, n, .inl (upd (fun k => kget w k) i.toNatClampNeg x)) from by show Sum.inl (j_ac G 0, n, Sum.inl (fun k => kget ((i.toNatClampNeg, x) :: w) k)) = _; rw [kget_upd]]
      exact hP1
    · cases h
  case invokespecial n =>
    unfold kstep at h
    dsimp only at h
    split at h
    · rename_i x hO
      have hmem := kL3_s hO
      split at h
      · rename_i a r
        obtain ⟨hrm, h2⟩ := cond_s h
        have hrm := ble_s hrm
        obtain ⟨g1, g2, g⟩ := hk _ _ _ _ h2
        exact ⟨g1, g2, fun ls H locs cells slots hl hP hz hS hc hs => W.objInit hx hb hown (hts _ (kwO_g _ (List.mem_map.mpr ⟨_, hmem, rfl⟩))) (hts _ (kwB_g _ (List.mem_of_getElem? (i := 0) rfl))) (hts _ (kwB_g _ (List.mem_of_getElem? (i := 1) rfl))) rfl (by rw [hml]; exact hl.1) rfl hd (by omega) (by show 2 * 0 + ((r.map (tv α)).map fun v => v.category).sum + 12 ≤ R.locals; rw [tv_cats]; have : (r.map fun v => v.category).sum ≤ 8 := hrm; omega) (g ls H locs cells slots hl hP hz hS hc hs)⟩
      · cases h
    · split at h
      · rename_i ci hI
        have hmem := kL3_s hI
        have hci := kLI_ok _ hmem
        split at h
        · rename_i q hq
          obtain ⟨hrm, h2⟩ := cond_s h
          have hrm := ble_s hrm
          split at h2
          · rename_i es1 hcl
            obtain ⟨hmo, h3⟩ := cond_s h2
            rw [Bool.and_eq_true] at hmo
            have m1 := ble_s hmo.1
            have m2 := ble_s hmo.2
            rw [kfL_eq kfV_eq] at h3
            obtain ⟨g1, g2, g⟩ := hk _ _ _ _ h3
            obtain ⟨e1, e2⟩ := kcall_s hq
            have hM := hC ci _ es es1 hci (by omega) hcl
            refine ⟨by omega, by omega, fun ls H locs cells slots hl hP hz hS hc hs => ?_⟩
            rw [e1, List.map_append, List.map_reverse, List.map_cons]
            exact k_init F hM hmem e2 hrm hl.1 ⟨by omega, by omega⟩ hd hP hz hS (fun H1 locs1 hP1 hz1 hS1 => g ls H1 locs1 _ _ hl hP1 hz1 hS1 (by omega) (by omega))
          · cases h2
        · cases h
      · cases h
  all_goals (exfalso; revert h; intro h; cases h)
theorem krun_ok (F : kFx p R s m args meth c own D G α adV sz dd es' L0 S0) (hC : kHC l α adV G D sz dd C) (hR : ∀ (pc : Nat) (ls : Array Slot) (H : Heap) (locs : List Loc) (cells slots : Nat), decode (kcode own) pc = .ok (.return_, 1) → va_P D jcl (kW α G es') H → H.size = sz + es'.length → va_S (kA sz) s.heap H locs → cells + L0 = es'.length → slots + S0 = ksl es' → W p l e R s m args below meth c H locs cells slots Q (F0 m pc ls [])) : ∀ (f pc : Nat) (lv : jL) (st : List Value) (es : List kC), krun C own (kcode own) f pc lv st es = some es' → kWk p l e R s m args below meth c Q own D G α sz es' L0 S0 pc lv st es := by
  intro f
  induction f with
  | zero => intro pc lv st es h; cases h
  | succ f ih =>
    intro pc lv st es h
    unfold krun at h
    split at h
    · rename_i i n hdc
      obtain ⟨hn, h2⟩ := cond_s h
      have en : n = klen i := Nat.eq_of_beq_eq_true hn
      subst en
      split at h2
      · rename_i hr
        have e := kret_s hr
        subst e
        split at h2
        · cases h2
          exact ⟨Nat.le_refl _, Nat.le_refl _, fun ls H locs cells slots hl hP hz hS hc hs => hR pc ls H locs cells slots hdc hP hz hS hc hs⟩
        · cases h2
      · exact kstep_ok F hC hdc (fun pc' lv' st' es1 hk => by rw [kfN_eq] at hk; exact ih pc' lv' st' es1 hk) h2
    · cases h
end KS
theorem kd_ok {l : Launch} {D : va_G} {G : jG} {α adV : Nat → Nat} {sz : Nat} (hα : ∀ a, a < 127 → α a = sz + a) : ∀ d : Nat, kHC l α adV G D sz d (kd d) := by
  intro d
  induction d with
  | zero => intro ci a es es2 hci h127 h; cases h
  | succ d ih =>
    intro ci a es es2 hci h127 h
    have h : cond (Nat.ble (kcat a) (kmaxL ci)) (kfL kfQ (lv_args 0 a) fun lv => krun (kd d) ci (kcode ci) 4000 0 lv [] es) none = some es2 := h
    obtain ⟨hle, h2⟩ := cond_s h
    rw [kfL_eq kfQ_eq] at h2
    have hle := ble_s hle
    refine Met.ofW (cc := kcode ci) (maxL := kmaxL ci) (ret := none) (kn_ok ci hci).1 rfl ?_
    intro p e s m args below meth c s₁ Bd hml hv
    obtain ⟨rfl, hP, hz, hK, hZ⟩ := hv
    have hts := atoms_spec (ws := kwK ci :: jws) Bd.pre
    have hown : s.vm.findClass (jrr ci) = some m.cls := findClass_of_methodNamed Bd.named
    have hlocks := Bd.notSynchronized
    have F : kFx p (headSpec (kwK ci :: jws) (krm (d + 1) (es2.length - es.length) (ksl es2 - ksl es))).room s m (a.map (tv α)).toArray meth c ci D G α adV sz d es2 es.length (ksl es) := by
      refine ⟨Bd.exec, Bd.bytes, hml, hown, fun w hw => hts w (List.mem_cons_of_mem _ hw), hK, hZ, hα, ?_, ?_, h127, ?_, ?_, by omega, (name_of_methodNamed Bd.named Bd.method).1⟩
      · show d + 9 ≤ d + 1 + 8; omega
      · show 60 * d + 540 ≤ 60 * (d + 1) + 480; omega
      · show es2.length ≤ es2.length - es.length + es.length; omega
      · show ksl es2 ≤ ksl es2 - ksl es + ksl es; omega
    have hlen : (lg_sl (a.map (tv α))).length ≤ kmaxL ci := by
      rw [lg_sl_len, tv_cats]
      exact hle
    have hl := lv_entry (a.map (tv α)) (n := kmaxL ci) hlen
    rw [lg_entry_eq]
    have hw := krun_ok (l := l) (e := e) (below := below) (Q := MQ below (kQc α G D sz es2) (a.map (tv α)).toArray s (es2.length - es.length) (ksl es2 - ksl es) (kA sz)) F ih ?_ 4000 0 (lv_args 0 a) [] es h2
    · exact hw.2.2 _ s.heap [] 0 0 (by rw [tl_args]; exact hl) hP hz va_S.rf (Nat.zero_add _) (Nat.zero_add _)
    · intro pc ls H locs cells slots hdg hP1 hz1 hS1 hc1 hs1
      have ec : cells = es2.length - es.length := by omega
      have esl : slots = ksl es2 - ksl es := by omega
      subst ec
      subst esl
      exact W.vret Bd.exec Bd.bytes Bd.returns (fun t ht _ => ⟨rfl, by rw [ht]; exact hP1, by rw [ht]; exact hz1, hS1.F ht⟩) hS1.2.2 hdg
