/-! The law's start: two objects and a row are made, then the loop. -/
def kadd (es : List kC) (ci : Nat) : List kC := es ++ [.inr (ci, kdef ci)]
theorem ka1 {x : Nat} (h : x ≤ 86) : 0 + 1 + x ≤ 601024 := by omega
theorem ka2 {j x : Nat} (hj : j = 14) (h : x ≤ 1000000) : 0 + j + x ≤ 7293034 := by omega
theorem ka3 {x y : Nat} (h : x ≤ 86) (h2 : y ≤ 126) : 0 + 1 + x + 1 + y ≤ 601024 := by omega
theorem ka4 {j x k y : Nat} (hj : j = 14) (h : x ≤ 1000000) (hk : k = 80) (h2 : y ≤ 1000000) : 0 + j + x + k + y ≤ 7293034 := by omega
theorem ka5 {x y : Nat} (h : x ≤ 86) (h2 : y ≤ 126) : 0 + 1 + x + 1 + y + 1 ≤ 601024 := by omega
theorem ka6 {j x k y : Nat} (hj : j = 14) (h : x ≤ 1000000) (hk : k = 80) (h2 : y ≤ 1000000) : 0 + j + x + k + y + 1 ≤ 7293034 := by omega
theorem ka7 {x y : Nat} (h : x ≤ 86) (h2 : y ≤ 126) : 0 + 1 + x + 1 + y + 1 + 512 ≤ 601024 := by omega
theorem ka8 {j x k y : Nat} (hj : j = 14) (h : x ≤ 1000000) (hk : k = 80) (h2 : y ≤ 1000000) : 0 + j + x + k + y + 1 + 6 * 512 ≤ 7293034 := by omega
theorem ka9 {L : Nat} (h : L ≤ 3584) : L ≤ 0 + 7 * 512 := by omega
section KL
variable {p : Program} {l : Launch} {e : Env} {s : State} {m : MethodId} {below : List Frame} {meth : Method} {c : Code} {Q : State → Prop} {b : Nat}
variable {D : va_G} {G : jG} {α adV : Nat → Nat}
theorem kl_make (hx : p.tables.exec = Jvm.exec) (hb : c.code = code) (hml : c.maxLocals = 7) (hown : s.vm.findClass R_law = some m.cls) (hws : ∀ w ∈ jws, w.before #[Value.ref b] s = true) (hK : va_K D jcl (jtys G) s) (hZ : kZ α adV s.heap.size s) (hα : ∀ a, a < 127 → α a = s.heap.size + a) {ci i1 i2 pc : Nat} (hci : ci < 10) (hcl : (Cond.classLink R_law i1 (jrr ci)).before #[Value.ref b] s = true) (hlk : (Cond.methodLink R_law i2 (kname ci)).before #[Value.ref b] s = true) (h0 : kargs ci = 0)
    (hd1 : decode code pc = .ok (.new i1, 3)) (hd2 : decode code (pc + 3) = .ok (.dup, 1)) (hd3 : decode code (pc + 4) = .ok (.invokespecial i2, 3)) {es es2 : List kC} (hM : kMt l α adV G D s.heap.size 4 ci [.ref es.length] (kadd es ci) es2) (h127 : es.length < 127) {ls : Array Slot} {H : Heap} {locs : List Loc} {cells slots : Nat} (hsz : ls.size = 7) (hP : va_P D jcl (kW α G es) H) (hz : H.size = s.heap.size + es.length) (hS : va_S (kA s.heap.size) s.heap H locs)
    (hc : cells + 1 + (es2.length - (kadd es ci).length) ≤ 601024) (hs : slots + jnn ci + (ksl es2 - ksl (kadd es ci)) ≤ 7293034)
    (kk : ∀ (H1 : Heap) (locs1 : List Loc), va_P D jcl (kW α G es2) H1 → H1.size = s.heap.size + es2.length → va_S (kA s.heap.size) s.heap H1 locs1 → W p l e room_1 s m #[Value.ref b] below meth c H1 locs1 (cells + 1 + (es2.length - (kadd es ci).length)) (slots + jnn ci + (ksl es2 - ksl (kadd es ci))) Q (F0 m (pc + 7) ls [.ref (α es.length)])) :
    W p l e room_1 s m #[Value.ref b] below meth c H locs cells slots Q (F0 m pc ls []) := by
  have hrc : room_1.cells = 601024 := rfl
  have hrs : room_1.slots = 7293034 := rfl
  obtain ⟨c1, c2, c3, c4, c5⟩ := jc_ok ci hci
  obtain ⟨-, n1, n2, n3, n4⟩ := kn_ok ci hci
  have hae : α es.length = H.size := by rw [hα _ h127, hz]
  refine k_new hx hb hws c2 (jyy ci) c4 hown hcl (hws _ (kwT_g _ (kr10 hci))) (hws _ (kwZ_g _ (kr10 hci))) hK hP (kW_D hα (Nat.le_of_lt h127)) hS (fun q hq => hq) c1 (fs := (kdef ci).map (tv α)) (fun j hj => kdef_V α ci j hj) (by rw [hrc]; exact Nat.le_trans (Nat.le_add_right _ _) hc) (by rw [hrs]; exact Nat.le_trans (Nat.le_add_right _ _) hs) hd1 (fun H1 hz1 hP1 _ hS1 => ?_)
  have hP2 : va_P D jcl (kW α G (kadd es ci)) H1 := by unfold kadd; rw [kW_app, hae]; exact hP1
  have hz2 : H1.size = s.heap.size + (kadd es ci).length := by unfold kadd; rw [hz1, hz, List.length_append]; rfl
  refine lv_dup hx hb hd2 rfl ?_
  rw [← hae]
  have hpv : PreS s H1 (kPc α adV G D s.heap.size (kadd es ci) ([Value.ref es.length].map (tv α))) [.ref (α es.length)] := ⟨kPc_blind _ _, fun U hU hW => ⟨rfl, by rw [hU]; exact hP2, by rw [hU]; exact hz2, va_K.moved hW.alike hK, kZ_ok s U hZ hW (by rw [hU]; exact hS1.1) (fun q h1 h2 => by rw [hU]; exact hS1.2.1 q h1 h2)⟩⟩
  have hfit := krm_fit (d := 4) (x := es2.length - (kadd es ci).length) (y := ksl es2 - ksl (kadd es ci)) (n := room_1.frames) (o := room_1.locals) (by decide) (by decide) n4
  exact k_call (va_runI (As := []) (rest := [.ref (α es.length)]) ⟨hx, hb, hml, hown, hws⟩ hM ⟨callB_of 0 hws (kws_in hci) rfl rfl rfl (hws _ (kwZ_g _ (kr10 hci))) hlk ⟨n1, n2, by rw [n3, h0]⟩ hfit, rfl, hws _ (kwM_g _ (kr10 hci))⟩ hpv rfl rfl hsz rfl (lv_room (by show 1 ≤ 8; decide)) hd3 ⟨by rw [hrc]; exact hc, by rw [hrs]; exact hs⟩) hS1 kk
end KL
def klW : List Cond := [.classLink "HalfHandsLaw" 8 (jrr 8), .methodLink "HalfHandsLaw" 17 (kname 8), .classLink "HalfHandsLaw" 18 (jrr 9), .methodLink "HalfHandsLaw" 20 (kname 9)]
set_option maxRecDepth 100000 in
theorem klW_t : ∀ w ∈ klW, w ∈ lw_tbl := by decide +kernel
theorem kl_d0 : decode code 0 = .ok (.new 8, 3) := by decide +kernel
theorem kl_d3 : decode code 3 = .ok (.dup, 1) := by decide +kernel
theorem kl_d4 : decode code 4 = .ok (.invokespecial 17, 3) := by decide +kernel
theorem kl_d7 : decode code 7 = .ok (.astore_n 1, 1) := by decide +kernel
theorem kl_d8 : decode code 8 = .ok (.new 18, 3) := by decide +kernel
theorem kl_d11 : decode code 11 = .ok (.dup, 1) := by decide +kernel
theorem kl_d12 : decode code 12 = .ok (.invokespecial 20, 3) := by decide +kernel
theorem kl_d15 : decode code 15 = .ok (.astore_n 2, 1) := by decide +kernel
theorem kl_d16 : decode code 16 = .ok (.iconst 1, 1) := by decide +kernel
theorem kl_d17 : decode code 17 = .ok (.newarray .long, 2) := by decide +kernel
theorem kl_d19 : decode code 19 = .ok (.astore_n 3, 1) := by decide +kernel
theorem kl_d20 : decode code 20 = .ok (.iconst 0, 1) := by decide +kernel
theorem kl_d21 : decode code 21 = .ok (.istore 4, 2) := by decide +kernel
theorem kFin_len : kFin.length = 127 := by
  unfold kFin
  rw [List.length_mapIdx, jSH_127]
set_option maxRecDepth 100000 in
theorem kFin_sl : ksl kFin ≤ 1000000 := by
  have h : Nat.ble (ksl kFin) 1000000 = true := by decide +kernel
  exact Nat.le_of_ble_eq_true h
/-- the three worlds -/
theorem kE_all : ∃ E1 E2 : List kC, kd 4 8 [.ref 0] (kadd [] 8) = some E1 ∧ kd 4 9 [.ref 86] (kadd E1 9) = some E2 ∧ E2 ++ [.inl (2, 1, [])] = kFin ∧ E1.length = 86 ∧ ksl E1 ≤ 1000000 ∧ E2.length = 126 ∧ ksl E2 ≤ 1000000 := by
  have h := kE3_fin
  unfold kE3 at h
  obtain ⟨E2, h2, h3⟩ := Option.map_eq_some_iff.mp h
  unfold kE2 at h2
  obtain ⟨E1, h1, h4⟩ := Option.bind_eq_some_iff.mp h2
  have h5 := kE1_len
  rw [h1] at h5
  dsimp only at h5
  rw [Bool.and_eq_true, Bool.and_eq_true] at h5
  have h6 : (E2 ++ [Sum.inl (2, 1, [])] : List kC).length = 127 := by rw [h3]; exact kFin_len
  have h7 : ksl (E2 ++ [Sum.inl (2, 1, [])] : List kC) ≤ 1000000 := by rw [h3]; exact kFin_sl
  rw [List.length_append] at h6
  rw [ksl_app] at h7
  have h6 : E2.length + 1 = 127 := h6
  exact ⟨E1, E2, h1, h4, h3, Nat.eq_of_beq_eq_true h5.1.1, Nat.le_of_ble_eq_true h5.2, by omega, by omega⟩
set_option maxHeartbeats 4000000 in
/-- from the entry, for every script of at most 3584 ints, the law comes to its end with true -/
theorem whole_start {p : Program} {e : Env} {s : State} {m : MethodId} {below : List Frame} {meth : Method} {c : Code} (l : Launch) (hst : l.stackTraces = false) {b L : Nat} {xs : Nat → Int32} (hL : L ≤ 3584) (C0 : lw_At p s m meth c b L xs) : W p l e room_1 s m #[Value.ref b] below meth c s.heap [] 0 0 (lw_Z below #[Value.ref b] s) (entryFrame m ([Value.ref b] : List Value).toArray 7) := by
  obtain ⟨hx, hb, hr, hml, hown, hts, hXX, hbl, hlocks, hgv⟩ := C0
  have hws : ∀ w ∈ jws, w.before #[Value.ref b] s = true := fun w hw => hts w (List.mem_filter.mp hw).1
  obtain ⟨D, G, hK⟩ := st_K hws
  obtain ⟨α, adV, hα, h20, hkZ, hjZ, hjX⟩ := st_start hts hgv
  obtain ⟨E1, E2, hE1, hE2, hE3, hn1, hs1, hn2, hs2⟩ := kE_all
  have hkw := fun w hw => hts w (klW_t w hw)
  have hl0 := lv_entry [Value.ref b] (n := 7) (by show 1 ≤ 7; decide)
  rw [lg_entry_eq]
  have hrc : room_1.cells = 601024 := rfl
  have hrs : room_1.slots = 7293034 := rfl
  have j8 : jnn 8 = 14 := by decide +kernel
  have j9 : jnn 9 = 80 := by decide +kernel
  have hP0 : va_P D jcl (kW α G []) s.heap := fun k q hk => by cases hk
  have hl1 : lv_has ((lg_sl [Value.ref b] ++ List.replicate (7 - (lg_sl [Value.ref b]).length) Slot.unset).toArray) 7 (tl α [(0, .ref 2000)]) := by
    have e1 : tl α [(0, .ref 2000)] = lv_args 0 [Value.ref b] := by
      show [(0, Value.ref (α 2000))] = [(0, Value.ref b)]
      rw [h20]
    rw [e1]
    exact hl0
  have hM1 := kd_ok (l := l) (D := D) (G := G) (adV := adV) hα 4 8 [.ref 0] (kadd [] 8) E1 (by decide) (by rw [hn1]; decide) hE1
  have hM2 := kd_ok (l := l) (D := D) (G := G) (adV := adV) hα 4 9 [.ref 86] (kadd E1 9) E2 (by decide) (by rw [hn2]; decide) hE2
  rw [← hn1] at hM2
  have b1 : E1.length - (kadd [] 8).length ≤ 86 := Nat.le_trans (Nat.sub_le _ _) (Nat.le_of_eq hn1)
  have b2 : ksl E1 - ksl (kadd [] 8) ≤ 1000000 := Nat.le_trans (Nat.sub_le _ _) hs1
  have b3 : E2.length - (kadd E1 9).length ≤ 126 := Nat.le_trans (Nat.sub_le _ _) (Nat.le_of_eq hn2)
  have b4 : ksl E2 - ksl (kadd E1 9) ≤ 1000000 := Nat.le_trans (Nat.sub_le _ _) hs2
  refine kl_make hx hb hml hown hws hK hkZ hα (ci := 8) (i1 := 8) (i2 := 17) (pc := 0) (by decide) (hkw _ (List.mem_of_getElem? (i := 0) rfl)) (hkw _ (List.mem_of_getElem? (i := 1) rfl)) rfl kl_d0 kl_d3 kl_d4 (es := []) (es2 := E1) hM1 (by decide) hl1.1 hP0 rfl va_S.rf (ka1 b1) (ka2 j8 b2) (fun H1 locs1 hP1 hz1 hS1 => ?_)
  refine lv_astore_n hx hb kl_d7 rfl hl1 (by decide) (tl_st1 α _ 1 (.ref 0)) (fun ls2 hl2 => ?_)
  refine kl_make hx hb hml hown hws hK hkZ hα (ci := 9) (i1 := 18) (i2 := 20) (pc := 8) (by decide) (hkw _ (List.mem_of_getElem? (i := 2) rfl)) (hkw _ (List.mem_of_getElem? (i := 3) rfl)) rfl kl_d8 kl_d11 kl_d12 (es := E1) (es2 := E2) hM2 (by rw [hn1]; decide) hl2.1 hP1 hz1 hS1 (ka3 b1 b3) (ka4 j8 b2 j9 b4) (fun H2 locs2 hP2 hz2 hS2 => ?_)
  rw [show Value.ref (α E1.length) = Value.ref (α 86) by rw [hn1]]
  refine lv_astore_n hx hb kl_d15 rfl hl2 (by decide) (tl_st1 α _ 2 (.ref 86)) (fun ls3 hl3 => ?_)
  refine lv_iconst hx hb kl_d16 (v := 1) rfl ?_
  have hae : α E2.length = H2.size := by rw [hα _ (by rw [hn2]; decide), hz2]
  refine k_newa hx hb (atype := .long) (hws _ (kwB_g _ (List.mem_of_getElem? (i := 4) rfl))) (hK.2 2 _ rfl).2 hP2 (kW_D hα (by rw [hn2]; decide)) hS2 (fun q hq => hq) (n := 1) (N' := 1) (a0 := (1, .inr (.inl (fun _ => 0)))) (fun cA => rfl) (by decide) (by decide) (by decide) (by rw [hrc]; exact ka5 b1 b3) (by rw [hrs]; exact ka6 j8 b2 j9 b4) kl_d17 (fun H3 hz3 hP3 _ hS3 => ?_)
  have hP4 : va_P D jcl (jP α G kS) H3 := by
    rw [← kFin_W, ← hE3, kW_app, hae]
    exact hP3
  have e126 : α 126 = H2.size := by rw [← hae, hn2]
  rw [← e126]
  refine lv_astore_n hx hb kl_d19 rfl hl3 (by decide) (tl_st1 α _ 3 (.ref 126)) (fun ls4 hl4 => ?_)
  refine lv_iconst hx hb kl_d20 (v := 0) rfl ?_
  refine lv_istore hx hb kl_d21 hl4 (by decide) (tl_st1 α _ 4 (.int 0)) (fun ls5 hl5 => ?_)
  have hl6 := j_pick_has hl5 [4, 0, 1, 2, 3] (l := [(4, .int (nI 0)), (0, .ref 2000), (1, .ref 0), (2, .ref 86), (3, .ref 126)]) rfl
  refine va_forget (fun q hq => hS3.2.2 q hq) ?_
  have hC : lwC p s m meth c b L xs D G α adV := ⟨hx, hb, hml, hr, hlocks, hown, hws, hK, hjZ, fun a a' h1 h2 h3 => by rw [jSH_127] at h1 h2; rw [hα a h1, hα a' h2] at h3; exact Nat.add_left_cancel h3, hXX, h20, hbl, fun a ha => by rw [jSH_127] at ha; rw [hα a ha]; exact Nat.le_add_right _ _, hL⟩
  have hS5 : va_S (jA α) s.heap H3 [] := ⟨hS3.1, fun q h1 h2 => hS3.2.1 q h1 (fun z => absurd h1 (Nat.not_lt.mpr z)), fun q hq => by cases hq⟩
  exact lw_loop hst hjX hC 512 0 _ _ (ka9 hL) (by decide) (ka7 b1 b3) (ka8 j8 b2 j9 b4) kS 2 kS_inv ls5 H3 [] hl6 hP4 hS5
