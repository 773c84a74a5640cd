/-! Strings: contracts of the methods that are called. Printed by wip/gen/strc.py. -/
def sr (k : Nat) : Room := { frames := k, cells := 0, slots := 0, locals := 40 * k }
def sQ (v : Int32) : Array Value → State → Outcome → State → Prop := fun _ st o t => o = .returned (some (.int v)) ∧ t.heap = st.heap
def sQv : Array Value → State → Outcome → State → Prop := fun _ st o t => o = .returned none ∧ t.heap = st.heap
def sN : Nat → Prop := fun _ => False
/-- a String of N bytes f stands at q -/
def sE (q t N : Nat) (f : Nat → Int32) (U : State) : Prop := va_O "java/lang/String" q sN U U.heap ∧ va_OF "java/lang/String" "coder" "B" (.int 0) q sN U U.heap ∧ va_OF "java/lang/String" "value" "[B" (.ref t) q sN U U.heap ∧ va_T .byte t N (fun j => .int (f j)) sN U U.heap ∧ va_Z "java/lang/String" "COMPACT_STRINGS" "Z" (.int 1) sN U U.heap ∧ va_Zq "jdk/internal/util/Preconditions" "SIOOBE_FORMATTER" "Ljava/util/function/BiFunction;" sN U U.heap ∧ N < 2 ^ 31
def sPc (av : List Value) (q t N : Nat) (f : Nat → Int32) : Array Value → State → Prop := fun v U => v = av.toArray ∧ sE q t N f U
def sPa (av : List Value) : Array Value → State → Prop := fun v _ => v = av.toArray ∧ True
theorem sE.mv {q t N : Nat} {f : Nat → Int32} {s U : State} (h : sE q t N f s) (hU : U.heap = s.heap) (hA : s.vm.Alike U.vm) : sE q t N f U := by
  obtain ⟨h1, h2, h3, h4, h5, h6, h7⟩ := h
  unfold sE
  rw [hU]
  exact ⟨va_O.moved hA h1, va_OF.moved hA h2, va_OF.moved hA h3, va_T.moved hA h4, va_Z.moved hA h5, va_Zq.moved hA h6, h7⟩
theorem sPc_b {av : List Value} {q t N : Nat} {f : Nat → Int32} : FrameBlind (sPc av q t N f) := by
  intro a U g mk h
  exact ⟨h.1, h.2.mv (U := U.calling g mk a) rfl (Vm.Alike.refl U.vm)⟩
theorem sPa_b {av : List Value} : FrameBlind (sPa av) := fun _ _ _ _ h => h
theorem sRecv {q t N : Nat} {f : Nat → Int32} {s : State} (h : sE q t N f s) : ∃ cellB : Cell, s.heap[q]? = some cellB ∧ cellB.vm.isStatics = false ∧ s.vm.findClass "java/lang/String" = some cellB.cls := by
  obtain ⟨cell, h1, h2, h3, -⟩ := h.1
  exact ⟨cell, h1, h2, h3⟩
theorem sG {w : Cond} (h : w ∈ jws) : GoodIn jws (w :: jws) := by
  intro w' hw
  rcases List.mem_cons.mp hw with rfl | hw
  · exact jws_good h
  · exact jws_good hw
theorem sr_ok {k n : Nat} {ws : List Cond} (h : n ≤ 21) : (sr k).frames + 1 ≤ (headSpec ws (sr (k + 1))).room.frames ∧ 8 + (n + 11) + (sr k).locals ≤ (headSpec ws (sr (k + 1))).room.locals := by
  refine ⟨Nat.le_refl _, ?_⟩
  show 8 + (n + 11) + 40 * k ≤ 40 * (k + 1)
  omega
section SCALL
variable {p : Program} {l : Launch} {e : Env} {R : Room} {s : State} {m : MethodId} {args : Array Value} {below : List Frame} {meth : Method} {c : Code} {H : Heap} {locs : List Loc} {cells slots : Nat} {Q : State → Prop}
theorem s_call {pc : Nat} {ls : Array Slot} {rest st0 : List Value} {aa : Array Value} {v : Int32} (hr : va_Run p l e R s m args below meth c H locs cells slots 0 0 (F0 m pc ls st0) rest (sQ v aa) sN) (kk : W p l e R s m args below meth c H locs cells slots Q (F0 m (pc + 3) ls (.int v :: rest))) : W p l e R s m args below meth c H locs cells slots Q (F0 m pc ls st0) := by
  intro T hT X
  obtain ⟨v', st₀, t, T', L, h0, X', hL, e1, -, ⟨hv, hh⟩, st⟩ := hr T hT X
  cases hv
  obtain ⟨t2, a1, b1⟩ := kk T' (by rw [e1, hh, h0]) (Stand.forget X' (fun q h => (hL q h).elim))
  exact ⟨t2, st t2 a1, b1⟩
theorem s_callv {pc : Nat} {ls : Array Slot} {rest st0 : List Value} {aa : Array Value} (hr : va_Run p l e R s m args below meth c H locs cells slots 0 0 (F0 m pc ls st0) rest (sQv aa) sN) (kk : W p l e R s m args below meth c H locs cells slots Q (F0 m (pc + 3) ls rest)) : W p l e R s m args below meth c H locs cells slots Q (F0 m pc ls st0) := by
  intro T hT X
  obtain ⟨v', st₀, t, T', L, h0, X', hL, e1, -, ⟨hv, hh⟩, st⟩ := hr T hT X
  cases hv
  obtain ⟨t2, a1, b1⟩ := kk T' (by rw [e1, hh, h0]) (Stand.forget X' (fun q h => (hL q h).elim))
  exact ⟨t2, st t2 a1, b1⟩
end SCALL
theorem s_coder (l : Launch) (q t N : Nat) (f : Nat → Int32) (k : Nat) : Met l sy_coder (.code sy_coder sc_coder 1 (some .byte) :: jws) (sr (k)) (sPc [.ref q] q t N f) (sQ 0) 0 0 sN := by
  refine Met.ofW (cc := sc_coder) (maxL := 1) (ret := (some .byte)) (by decide) rfl ?_
  intro p e s m args below meth c s₁ B hml hv
  obtain ⟨rfl, hE⟩ := hv
  have hx := B.exec
  have hb := B.bytes
  have hr := B.returns
  have hts := atoms_spec (ws := .code sy_coder sc_coder 1 (some .byte) :: jws) B.pre
  have hw := fun (w : Cond) (h : w ∈ jws) => hts w (List.mem_cons_of_mem _ h)
  have hown : s.vm.findClass "java/lang/String" = some m.cls := findClass_of_methodNamed B.named
  have hlocks := B.notSynchronized
  have hS : va_S sN s.heap s.heap [] := va_S.rf
  have hl := lv_entry ([.ref q]) (n := 1) (Nat.le_of_ble_eq_true rfl)
  rw [lg_entry_eq]
  generalize (lg_sl ([.ref q]) ++ List.replicate (1 - (lg_sl ([.ref q])).length) Slot.unset).toArray = ls at hl ⊢
  have hl : lv_has ls 1 [(0, .ref q)] := hl
  obtain ⟨h1, h2, h3, h4, h5, h6, h7⟩ := id hE
  refine va_gets hx hb h5 hS hown (hw _ (sW_g _ (List.mem_of_getElem? (i := 35) rfl))) (fun _ h => h) sd_coder_0 ?_
  refine lv_if_eq hx hb sd_coder_3 (tgt := 13) (by decide) (fun h => absurd h (by decide)) (fun _ => ?_)
  refine lv_aload_n hx hb sd_coder_6 rfl (lv_at hl 0 rfl) ?_
  refine vk_getf hx hb h2 hS hown (hw _ (sW_g _ (List.mem_of_getElem? (i := 53) rfl))) (fun _ h => h) sd_coder_7 ?_
  refine lv_goto hx hb sd_coder_10 (tgt := 14) (by decide) ?_
  exact W.zret hx hb hr (by decide) (fun t ht _ => ⟨rfl, ht⟩) hS.2.2 sd_coder_14
theorem s_lat (l : Launch) (q t N : Nat) (f : Nat → Int32) (k : Nat) : Met l sy_lat (.code sy_lat sc_lat 1 (some .boolean) :: jws) (sr (k)) (sPc [.ref q] q t N f) (sQ 1) 0 0 sN := by
  refine Met.ofW (cc := sc_lat) (maxL := 1) (ret := (some .boolean)) (by decide) rfl ?_
  intro p e s m args below meth c s₁ B hml hv
  obtain ⟨rfl, hE⟩ := hv
  have hx := B.exec
  have hb := B.bytes
  have hr := B.returns
  have hts := atoms_spec (ws := .code sy_lat sc_lat 1 (some .boolean) :: jws) B.pre
  have hw := fun (w : Cond) (h : w ∈ jws) => hts w (List.mem_cons_of_mem _ h)
  have hown : s.vm.findClass "java/lang/String" = some m.cls := findClass_of_methodNamed B.named
  have hlocks := B.notSynchronized
  have hS : va_S sN s.heap s.heap [] := va_S.rf
  have hl := lv_entry ([.ref q]) (n := 1) (Nat.le_of_ble_eq_true rfl)
  rw [lg_entry_eq]
  generalize (lg_sl ([.ref q]) ++ List.replicate (1 - (lg_sl ([.ref q])).length) Slot.unset).toArray = ls at hl ⊢
  have hl : lv_has ls 1 [(0, .ref q)] := hl
  obtain ⟨h1, h2, h3, h4, h5, h6, h7⟩ := id hE
  refine va_gets hx hb h5 hS hown (hw _ (sW_g _ (List.mem_of_getElem? (i := 35) rfl))) (fun _ h => h) sd_lat_0 ?_
  refine lv_if_eq hx hb sd_lat_3 (tgt := 17) (by decide) (fun h => absurd h (by decide)) (fun _ => ?_)
  refine lv_aload_n hx hb sd_lat_6 rfl (lv_at hl 0 rfl) ?_
  refine vk_getf hx hb h2 hS hown (hw _ (sW_g _ (List.mem_of_getElem? (i := 53) rfl))) (fun _ h => h) sd_lat_7 ?_
  refine lv_if_ne hx hb sd_lat_10 (tgt := 17) (by decide) (fun h => absurd rfl h) (fun _ => ?_)
  refine lv_iconst hx hb sd_lat_13 rfl ?_
  refine lv_goto hx hb sd_lat_14 (tgt := 18) (by decide) ?_
  exact W.zret hx hb hr (by decide) (fun t ht _ => ⟨rfl, ht⟩) hS.2.2 sd_lat_18
theorem s_len (l : Launch) (q t N : Nat) (f : Nat → Int32) (k : Nat) : Met l sy_len (.code sy_len sc_len 1 (some .int) :: jws) (sr (k + 1)) (sPc [.ref q] q t N f) (sQ (nI N)) 0 0 sN := by
  refine Met.ofW (cc := sc_len) (maxL := 1) (ret := (some .int)) (by decide) rfl ?_
  intro p e s m args below meth c s₁ B hml hv
  obtain ⟨rfl, hE⟩ := hv
  have hx := B.exec
  have hb := B.bytes
  have hr := B.returns
  have hts := atoms_spec (ws := .code sy_len sc_len 1 (some .int) :: jws) B.pre
  have hw := fun (w : Cond) (h : w ∈ jws) => hts w (List.mem_cons_of_mem _ h)
  have hown : s.vm.findClass "java/lang/String" = some m.cls := findClass_of_methodNamed B.named
  have hlocks := B.notSynchronized
  have hS : va_S sN s.heap s.heap [] := va_S.rf
  have hl := lv_entry ([.ref q]) (n := 1) (Nat.le_of_ble_eq_true rfl)
  rw [lg_entry_eq]
  generalize (lg_sl ([.ref q]) ++ List.replicate (1 - (lg_sl ([.ref q])).length) Slot.unset).toArray = ls at hl ⊢
  have hl : lv_has ls 1 [(0, .ref q)] := hl
  obtain ⟨h1, h2, h3, h4, h5, h6, h7⟩ := id hE
  refine lv_aload_n hx hb sd_len_0 rfl (lv_at hl 0 rfl) ?_
  refine vk_getf hx hb h3 hS hown (hw _ (sW_g _ (List.mem_of_getElem? (i := 52) rfl))) (fun _ h => h) sd_len_1 ?_
  refine va_tlen hx hb h4 hS (v := nI N) rfl sd_len_4 ?_
  refine lv_aload_n hx hb sd_len_5 rfl (lv_at hl 0 rfl) ?_
  refine s_call (va_runV (As := []) (rest := [.int (nI N)]) ⟨hx, hb, hml, hown, hw⟩ (s_coder l q t N f k) ⟨(callB_of 0 hw (sG (sW_g _ (List.mem_of_getElem? (i := 3) rfl))) rfl rfl rfl (hw _ (sW_g _ (List.mem_of_getElem? (i := 30) rfl))) (hw _ (sW_g _ (List.mem_of_getElem? (i := 34) rfl))) (by decide +kernel) (sr_ok (by decide))), (hw _ (sW_g _ (List.mem_of_getElem? (i := 4) rfl))), (hw _ (sW_g _ (List.mem_of_getElem? (i := 5) rfl)))⟩ ⟨sPc_b, sRecv hE, fun U hU hW => ⟨rfl, hE.mv hU hW.alike⟩⟩ rfl rfl hl.1 rfl (lv_room (Nat.le_of_ble_eq_true rfl)) sd_len_6 ⟨Nat.zero_le _, Nat.zero_le _⟩) ?_
  refine lv_ishr hx hb sd_len_9 ?_
  rw [sc_shr0 h7]
  exact W.iret hx hb hr (fun t ht _ => ⟨rfl, ht⟩) hS.2.2 sd_len_10
theorem s_pchkn (l : Launch) (i n : Int32) (h0 : ¬ i < 0) (h9 : i < n) (k : Nat) : Met l sy_pchk (.code sy_pchk sc_pchk 3 (some .int) :: jws) (sr (k)) (sPa [.int i, .int n, .null]) (sQ i) 0 0 sN := by
  refine Met.ofW (cc := sc_pchk) (maxL := 3) (ret := (some .int)) (by decide) rfl ?_
  intro p e s m args below meth c s₁ B hml hv
  obtain ⟨rfl, hE⟩ := hv
  have hx := B.exec
  have hb := B.bytes
  have hr := B.returns
  have hts := atoms_spec (ws := .code sy_pchk sc_pchk 3 (some .int) :: jws) B.pre
  have hw := fun (w : Cond) (h : w ∈ jws) => hts w (List.mem_cons_of_mem _ h)
  have hown : s.vm.findClass "jdk/internal/util/Preconditions" = some m.cls := findClass_of_methodNamed B.named
  have hlocks := B.notSynchronized
  have hS : va_S sN s.heap s.heap [] := va_S.rf
  have hl := lv_entry ([.int i, .int n, .null]) (n := 3) (Nat.le_of_ble_eq_true rfl)
  rw [lg_entry_eq]
  generalize (lg_sl ([.int i, .int n, .null]) ++ List.replicate (3 - (lg_sl ([.int i, .int n, .null])).length) Slot.unset).toArray = ls at hl ⊢
  have hl : lv_has ls 3 [(0, .int i), (1, .int n), (2, .null)] := hl
  refine lv_iload_n hx hb sd_pchk_0 rfl (lv_at hl 0 rfl) ?_
  refine lv_if_lt hx hb sd_pchk_1 (tgt := 9) (by decide) (fun h => absurd h h0) (fun _ => ?_)
  refine lv_iload_n hx hb sd_pchk_4 rfl (lv_at hl 0 rfl) ?_
  refine lv_iload_n hx hb sd_pchk_5 rfl (lv_at hl 1 rfl) ?_
  refine lv_icmp_lt hx hb sd_pchk_6 (tgt := 16) (by decide) (fun _ => ?_) (fun h => absurd h9 h)
  refine lv_iload_n hx hb sd_pchk_16 rfl (lv_at hl 0 rfl) ?_
  exact W.iret hx hb hr (fun t ht _ => ⟨rfl, ht⟩) hS.2.2 sd_pchk_17
theorem s_pchkr (l : Launch) (i n : Int32) (z : Nat) (h0 : ¬ i < 0) (h9 : i < n) (k : Nat) : Met l sy_pchk (.code sy_pchk sc_pchk 3 (some .int) :: jws) (sr (k)) (sPa [.int i, .int n, .ref z]) (sQ i) 0 0 sN := by
  refine Met.ofW (cc := sc_pchk) (maxL := 3) (ret := (some .int)) (by decide) rfl ?_
  intro p e s m args below meth c s₁ B hml hv
  obtain ⟨rfl, hE⟩ := hv
  have hx := B.exec
  have hb := B.bytes
  have hr := B.returns
  have hts := atoms_spec (ws := .code sy_pchk sc_pchk 3 (some .int) :: jws) B.pre
  have hw := fun (w : Cond) (h : w ∈ jws) => hts w (List.mem_cons_of_mem _ h)
  have hown : s.vm.findClass "jdk/internal/util/Preconditions" = some m.cls := findClass_of_methodNamed B.named
  have hlocks := B.notSynchronized
  have hS : va_S sN s.heap s.heap [] := va_S.rf
  have hl := lv_entry ([.int i, .int n, .ref z]) (n := 3) (Nat.le_of_ble_eq_true rfl)
  rw [lg_entry_eq]
  generalize (lg_sl ([.int i, .int n, .ref z]) ++ List.replicate (3 - (lg_sl ([.int i, .int n, .ref z])).length) Slot.unset).toArray = ls at hl ⊢
  have hl : lv_has ls 3 [(0, .int i), (1, .int n), (2, .ref z)] := hl
  refine lv_iload_n hx hb sd_pchk_0 rfl (lv_at hl 0 rfl) ?_
  refine lv_if_lt hx hb sd_pchk_1 (tgt := 9) (by decide) (fun h => absurd h h0) (fun _ => ?_)
  refine lv_iload_n hx hb sd_pchk_4 rfl (lv_at hl 0 rfl) ?_
  refine lv_iload_n hx hb sd_pchk_5 rfl (lv_at hl 1 rfl) ?_
  refine lv_icmp_lt hx hb sd_pchk_6 (tgt := 16) (by decide) (fun _ => ?_) (fun h => absurd h9 h)
  refine lv_iload_n hx hb sd_pchk_16 rfl (lv_at hl 0 rfl) ?_
  exact W.iret hx hb hr (fun t ht _ => ⟨rfl, ht⟩) hS.2.2 sd_pchk_17
theorem s_chk (l : Launch) (q t N : Nat) (f : Nat → Int32) (i n : Int32) (h0 : ¬ i < 0) (h9 : i < n) (k : Nat) : Met l sy_chk (.code sy_chk sc_chk 2 none :: jws) (sr (k + 1)) (sPc [.int i, .int n] q t N f) (sQv) 0 0 sN := by
  refine Met.ofW (cc := sc_chk) (maxL := 2) (ret := none) (by decide) rfl ?_
  intro p e s m args below meth c s₁ B hml hv
  obtain ⟨rfl, hE⟩ := hv
  have hx := B.exec
  have hb := B.bytes
  have hr := B.returns
  have hts := atoms_spec (ws := .code sy_chk sc_chk 2 none :: jws) B.pre
  have hw := fun (w : Cond) (h : w ∈ jws) => hts w (List.mem_cons_of_mem _ h)
  have hown : s.vm.findClass "java/lang/String" = some m.cls := findClass_of_methodNamed B.named
  have hlocks := B.notSynchronized
  have hS : va_S sN s.heap s.heap [] := va_S.rf
  have hl := lv_entry ([.int i, .int n]) (n := 2) (Nat.le_of_ble_eq_true rfl)
  rw [lg_entry_eq]
  generalize (lg_sl ([.int i, .int n]) ++ List.replicate (2 - (lg_sl ([.int i, .int n])).length) Slot.unset).toArray = ls at hl ⊢
  have hl : lv_has ls 2 [(0, .int i), (1, .int n)] := hl
  obtain ⟨h1, h2, h3, h4, h5, h6, h7⟩ := id hE
  refine lv_iload_n hx hb sd_chk_0 rfl (lv_at hl 0 rfl) ?_
  refine lv_iload_n hx hb sd_chk_1 rfl (lv_at hl 1 rfl) ?_
  rcases h6 with h6 | ⟨z, h6⟩
  · refine va_gets hx hb h6 hS hown (hw _ (sW_g _ (List.mem_of_getElem? (i := 40) rfl))) (fun _ h => h) sd_chk_2 ?_
    refine s_call (va_runS (As := [.int i, .int n, .null]) (rest := []) ⟨hx, hb, hml, hown, hw⟩ (s_pchkn l i n h0 h9 k) ⟨(callB_of 3 hw (sG (sW_g _ (List.mem_of_getElem? (i := 14) rfl))) rfl rfl rfl (hw _ (sW_g _ (List.mem_of_getElem? (i := 32) rfl))) (hw _ (sW_g _ (List.mem_of_getElem? (i := 41) rfl))) (by decide +kernel) (sr_ok (by decide))), (hw _ (sW_g _ (List.mem_of_getElem? (i := 15) rfl)))⟩ ⟨sPa_b, fun U hU hW => ⟨rfl, trivial⟩⟩ rfl rfl hl.1 rfl (lv_room (Nat.le_of_ble_eq_true rfl)) sd_chk_5 ⟨Nat.zero_le _, Nat.zero_le _⟩) ?_
    refine lv_pop hx hb sd_chk_8 rfl ?_
    exact W.vret hx hb hr (fun t ht _ => ⟨rfl, ht⟩) hS.2.2 sd_chk_9
  · refine va_gets hx hb h6 hS hown (hw _ (sW_g _ (List.mem_of_getElem? (i := 40) rfl))) (fun _ h => h) sd_chk_2 ?_
    refine s_call (va_runS (As := [.int i, .int n, .ref z]) (rest := []) ⟨hx, hb, hml, hown, hw⟩ (s_pchkr l i n z h0 h9 k) ⟨(callB_of 3 hw (sG (sW_g _ (List.mem_of_getElem? (i := 14) rfl))) rfl rfl rfl (hw _ (sW_g _ (List.mem_of_getElem? (i := 32) rfl))) (hw _ (sW_g _ (List.mem_of_getElem? (i := 41) rfl))) (by decide +kernel) (sr_ok (by decide))), (hw _ (sW_g _ (List.mem_of_getElem? (i := 15) rfl)))⟩ ⟨sPa_b, fun U hU hW => ⟨rfl, trivial⟩⟩ rfl rfl hl.1 rfl (lv_room (Nat.le_of_ble_eq_true rfl)) sd_chk_5 ⟨Nat.zero_le _, Nat.zero_le _⟩) ?_
    refine lv_pop hx hb sd_chk_8 rfl ?_
    exact W.vret hx hb hr (fun t ht _ => ⟨rfl, ht⟩) hS.2.2 sd_chk_9
theorem s_chr1 (l : Launch) (q t N : Nat) (f : Nat → Int32) (i : Int32) (h0 : ¬ i < 0) (h9 : i < nI N) (k : Nat) : Met l sy_chr1 (.code sy_chr1 sc_chr1 2 (some .char) :: jws) (sr (k + 2)) (sPc [.ref t, .int i] q t N f) (sQ (f i.toNatClampNeg &&& 255)) 0 0 sN := by
  refine Met.ofW (cc := sc_chr1) (maxL := 2) (ret := (some .char)) (by decide) rfl ?_
  intro p e s m args below meth c s₁ B hml hv
  obtain ⟨rfl, hE⟩ := hv
  have hx := B.exec
  have hb := B.bytes
  have hr := B.returns
  have hts := atoms_spec (ws := .code sy_chr1 sc_chr1 2 (some .char) :: jws) B.pre
  have hw := fun (w : Cond) (h : w ∈ jws) => hts w (List.mem_cons_of_mem _ h)
  have hown : s.vm.findClass "java/lang/StringLatin1" = some m.cls := findClass_of_methodNamed B.named
  have hlocks := B.notSynchronized
  have hS : va_S sN s.heap s.heap [] := va_S.rf
  have hl := lv_entry ([.ref t, .int i]) (n := 2) (Nat.le_of_ble_eq_true rfl)
  rw [lg_entry_eq]
  generalize (lg_sl ([.ref t, .int i]) ++ List.replicate (2 - (lg_sl ([.ref t, .int i])).length) Slot.unset).toArray = ls at hl ⊢
  have hl : lv_has ls 2 [(0, .ref t), (1, .int i)] := hl
  obtain ⟨h1, h2, h3, h4, h5, h6, h7⟩ := id hE
  have hin : vp_in i N := fun z => z.elim h0 (fun z => by
    obtain ⟨j, hj, rfl⟩ := nI_of h0
    rw [nI_clamp hj] at z
    exact nI_nlt z hj h9)
  refine lv_iload_n hx hb sd_chr1_0 rfl (lv_at hl 1 rfl) ?_
  refine lv_aload_n hx hb sd_chr1_1 rfl (lv_at hl 0 rfl) ?_
  refine va_tlen hx hb h4 hS (v := nI N) rfl sd_chr1_2 ?_
  refine s_callv (va_runS (As := [.int i, .int (nI N)]) (rest := []) ⟨hx, hb, hml, hown, hw⟩ (s_chk l q t N f i (nI N) h0 h9 k) ⟨(callB_of 2 hw (sG (sW_g _ (List.mem_of_getElem? (i := 12) rfl))) rfl rfl rfl (hw _ (sW_g _ (List.mem_of_getElem? (i := 30) rfl))) (hw _ (sW_g _ (List.mem_of_getElem? (i := 39) rfl))) (by decide +kernel) (sr_ok (by decide))), (hw _ (sW_g _ (List.mem_of_getElem? (i := 13) rfl)))⟩ ⟨sPc_b, fun U hU hW => ⟨rfl, hE.mv hU hW.alike⟩⟩ rfl rfl hl.1 rfl (lv_room (Nat.le_of_ble_eq_true rfl)) sd_chr1_3 ⟨Nat.zero_le _, Nat.zero_le _⟩) ?_
  refine lv_aload_n hx hb sd_chr1_6 rfl (lv_at hl 0 rfl) ?_
  refine lv_iload_n hx hb sd_chr1_7 rfl (lv_at hl 1 rfl) ?_
  refine va_tb hx hb h4 hS hin rfl sd_chr1_8 ?_
  refine lv_sipush hx hb sd_chr1_9 (v := 255) rfl ?_
  refine lv_iand hx hb sd_chr1_12 ?_
  refine lv_i2c hx hb sd_chr1_13 (v := f i.toNatClampNeg &&& 255) (sc_c2 _) ?_
  exact W.zret hx hb hr (sc_nar _) (fun t ht _ => ⟨rfl, ht⟩) hS.2.2 sd_chr1_14
theorem s_chr (l : Launch) (q t N : Nat) (f : Nat → Int32) (i : Int32) (h0 : ¬ i < 0) (h9 : i < nI N) (k : Nat) : Met l sy_chr (.code sy_chr sc_chr 2 (some .char) :: jws) (sr (k + 3)) (sPc [.ref q, .int i] q t N f) (sQ (f i.toNatClampNeg &&& 255)) 0 0 sN := by
  refine Met.ofW (cc := sc_chr) (maxL := 2) (ret := (some .char)) (by decide) rfl ?_
  intro p e s m args below meth c s₁ B hml hv
  obtain ⟨rfl, hE⟩ := hv
  have hx := B.exec
  have hb := B.bytes
  have hr := B.returns
  have hts := atoms_spec (ws := .code sy_chr sc_chr 2 (some .char) :: jws) B.pre
  have hw := fun (w : Cond) (h : w ∈ jws) => hts w (List.mem_cons_of_mem _ h)
  have hown : s.vm.findClass "java/lang/String" = some m.cls := findClass_of_methodNamed B.named
  have hlocks := B.notSynchronized
  have hS : va_S sN s.heap s.heap [] := va_S.rf
  have hl := lv_entry ([.ref q, .int i]) (n := 2) (Nat.le_of_ble_eq_true rfl)
  rw [lg_entry_eq]
  generalize (lg_sl ([.ref q, .int i]) ++ List.replicate (2 - (lg_sl ([.ref q, .int i])).length) Slot.unset).toArray = ls at hl ⊢
  have hl : lv_has ls 2 [(0, .ref q), (1, .int i)] := hl
  obtain ⟨h1, h2, h3, h4, h5, h6, h7⟩ := id hE
  refine lv_aload_n hx hb sd_chr_0 rfl (lv_at hl 0 rfl) ?_
  refine s_call (va_runV (As := []) (rest := []) ⟨hx, hb, hml, hown, hw⟩ (s_lat l q t N f (k + 2)) ⟨(callB_of 0 hw (sG (sW_g _ (List.mem_of_getElem? (i := 6) rfl))) rfl rfl rfl (hw _ (sW_g _ (List.mem_of_getElem? (i := 30) rfl))) (hw _ (sW_g _ (List.mem_of_getElem? (i := 37) rfl))) (by decide +kernel) (sr_ok (by decide))), (hw _ (sW_g _ (List.mem_of_getElem? (i := 7) rfl))), (hw _ (sW_g _ (List.mem_of_getElem? (i := 8) rfl)))⟩ ⟨sPc_b, sRecv hE, fun U hU hW => ⟨rfl, hE.mv hU hW.alike⟩⟩ rfl rfl hl.1 rfl (lv_room (Nat.le_of_ble_eq_true rfl)) sd_chr_1 ⟨Nat.zero_le _, Nat.zero_le _⟩) ?_
  refine lv_if_eq hx hb sd_chr_4 (tgt := 16) (by decide) (fun h => absurd h (by decide)) (fun _ => ?_)
  refine lv_aload_n hx hb sd_chr_7 rfl (lv_at hl 0 rfl) ?_
  refine vk_getf hx hb h3 hS hown (hw _ (sW_g _ (List.mem_of_getElem? (i := 52) rfl))) (fun _ h => h) sd_chr_8 ?_
  refine lv_iload_n hx hb sd_chr_11 rfl (lv_at hl 1 rfl) ?_
  refine s_call (va_runS (As := [.ref t, .int i]) (rest := []) ⟨hx, hb, hml, hown, hw⟩ (s_chr1 l q t N f i h0 h9 k) ⟨(callB_of 2 hw (sG (sW_g _ (List.mem_of_getElem? (i := 16) rfl))) rfl rfl rfl (hw _ (sW_g _ (List.mem_of_getElem? (i := 31) rfl))) (hw _ (sW_g _ (List.mem_of_getElem? (i := 38) rfl))) (by decide +kernel) (sr_ok (by decide))), (hw _ (sW_g _ (List.mem_of_getElem? (i := 17) rfl)))⟩ ⟨sPc_b, fun U hU hW => ⟨rfl, hE.mv hU hW.alike⟩⟩ rfl rfl hl.1 rfl (lv_room (Nat.le_of_ble_eq_true rfl)) sd_chr_12 ⟨Nat.zero_le _, Nat.zero_le _⟩) ?_
  exact W.zret hx hb hr (sc_nar _) (fun t ht _ => ⟨rfl, ht⟩) hS.2.2 sd_chr_15
theorem s_enc1 (l : Launch) (x : Int32) (h0 : ¬ x < 0) (h9 : ¬ 255 < x) (k : Nat) : Met l sy_enc (.code sy_enc sc_enc 1 (some .boolean) :: jws) (sr (k)) (sPa [.int x]) (sQ 1) 0 0 sN := by
  refine Met.ofW (cc := sc_enc) (maxL := 1) (ret := (some .boolean)) (by decide) rfl ?_
  intro p e s m args below meth c s₁ B hml hv
  obtain ⟨rfl, hE⟩ := hv
  have hx := B.exec
  have hb := B.bytes
  have hr := B.returns
  have hts := atoms_spec (ws := .code sy_enc sc_enc 1 (some .boolean) :: jws) B.pre
  have hw := fun (w : Cond) (h : w ∈ jws) => hts w (List.mem_cons_of_mem _ h)
  have hown : s.vm.findClass "java/lang/StringLatin1" = some m.cls := findClass_of_methodNamed B.named
  have hlocks := B.notSynchronized
  have hS : va_S sN s.heap s.heap [] := va_S.rf
  have hl := lv_entry ([.int x]) (n := 1) (Nat.le_of_ble_eq_true rfl)
  rw [lg_entry_eq]
  generalize (lg_sl ([.int x]) ++ List.replicate (1 - (lg_sl ([.int x])).length) Slot.unset).toArray = ls at hl ⊢
  have hl : lv_has ls 1 [(0, .int x)] := hl
  refine lv_iload_n hx hb sd_enc_0 rfl (lv_at hl 0 rfl) ?_
  refine lv_if_lt hx hb sd_enc_1 (tgt := 15) (by decide) (fun h => absurd h h0) (fun _ => ?_)
  refine lv_iload_n hx hb sd_enc_4 rfl (lv_at hl 0 rfl) ?_
  refine lv_sipush hx hb sd_enc_5 (v := 255) rfl ?_
  refine lv_icmp_gt hx hb sd_enc_8 (tgt := 15) (by decide) (fun h => absurd h h9) (fun _ => ?_)
  refine lv_iconst hx hb sd_enc_11 rfl ?_
  refine lv_goto hx hb sd_enc_12 (tgt := 16) (by decide) ?_
  exact W.zret hx hb hr (by decide) (fun t ht _ => ⟨rfl, ht⟩) hS.2.2 sd_enc_16
theorem s_enc0 (l : Launch) (x : Int32) (h0 : x < 0 ∨ 255 < x) (k : Nat) : Met l sy_enc (.code sy_enc sc_enc 1 (some .boolean) :: jws) (sr (k)) (sPa [.int x]) (sQ 0) 0 0 sN := by
  refine Met.ofW (cc := sc_enc) (maxL := 1) (ret := (some .boolean)) (by decide) rfl ?_
  intro p e s m args below meth c s₁ B hml hv
  obtain ⟨rfl, hE⟩ := hv
  have hx := B.exec
  have hb := B.bytes
  have hr := B.returns
  have hts := atoms_spec (ws := .code sy_enc sc_enc 1 (some .boolean) :: jws) B.pre
  have hw := fun (w : Cond) (h : w ∈ jws) => hts w (List.mem_cons_of_mem _ h)
  have hown : s.vm.findClass "java/lang/StringLatin1" = some m.cls := findClass_of_methodNamed B.named
  have hlocks := B.notSynchronized
  have hS : va_S sN s.heap s.heap [] := va_S.rf
  have hl := lv_entry ([.int x]) (n := 1) (Nat.le_of_ble_eq_true rfl)
  rw [lg_entry_eq]
  generalize (lg_sl ([.int x]) ++ List.replicate (1 - (lg_sl ([.int x])).length) Slot.unset).toArray = ls at hl ⊢
  have hl : lv_has ls 1 [(0, .int x)] := hl
  have fin : W p l e (headSpec (.code sy_enc sc_enc 1 (some .boolean) :: jws) (sr k)).room s m #[.int x] below meth c s.heap [] 0 0 (MQ below (sQ 0) #[.int x] s 0 0 sN) (F0 m 15 ls []) := by
    refine lv_iconst hx hb sd_enc_15 rfl ?_
    exact W.zret hx hb hr (by decide) (fun t ht _ => ⟨rfl, ht⟩) hS.2.2 sd_enc_16
  refine lv_iload_n hx hb sd_enc_0 rfl (lv_at hl 0 rfl) ?_
  refine lv_if_lt hx hb sd_enc_1 (tgt := 15) (by decide) (fun _ => fin) (fun h1 => ?_)
  refine lv_iload_n hx hb sd_enc_4 rfl (lv_at hl 0 rfl) ?_
  refine lv_sipush hx hb sd_enc_5 (v := 255) rfl ?_
  refine lv_icmp_gt hx hb sd_enc_8 (tgt := 15) (by decide) (fun _ => fin) (fun h2 => absurd h0 (fun z => z.elim h1 h2))
/-- the first place from k on, of n, that holds b -/
def ixF (b : Int32) (f : Nat → Int32) : Nat → Nat → Int32
  | 0, _ => -1
  | n + 1, k => if f k = b then nI k else ixF b f n (k + 1)
theorem s_ixc (l : Launch) (q t N : Nat) (f : Nat → Int32) (x : Int32) (k : Nat) : Met l sy_ixc (.code sy_ixc sc_ixc 6 (some .int) :: jws) (sr (k)) (sPc [.ref t, .int x, .int 0, .int (nI N)] q t N f) (sQ (ixF x.toInt8.toInt32 f N 0)) 0 0 sN := by
  refine Met.ofW (cc := sc_ixc) (maxL := 6) (ret := (some .int)) (by decide) rfl ?_
  intro p e s m args below meth c s₁ B hml hv
  obtain ⟨rfl, hE⟩ := hv
  have hx := B.exec
  have hb := B.bytes
  have hr := B.returns
  have hts := atoms_spec (ws := .code sy_ixc sc_ixc 6 (some .int) :: jws) B.pre
  have hw := fun (w : Cond) (h : w ∈ jws) => hts w (List.mem_cons_of_mem _ h)
  have hown : s.vm.findClass "java/lang/StringLatin1" = some m.cls := findClass_of_methodNamed B.named
  have hlocks := B.notSynchronized
  have hS : va_S sN s.heap s.heap [] := va_S.rf
  have hl := lv_entry ([.ref t, .int x, .int 0, .int (nI N)]) (n := 6) (Nat.le_of_ble_eq_true rfl)
  rw [lg_entry_eq]
  generalize (lg_sl ([.ref t, .int x, .int 0, .int (nI N)]) ++ List.replicate (6 - (lg_sl ([.ref t, .int x, .int 0, .int (nI N)])).length) Slot.unset).toArray = ls at hl ⊢
  have hl : lv_has ls 6 [(0, .ref t), (1, .int x), (2, .int 0), (3, .int (nI N))] := hl
  obtain ⟨h1, h2, h3, h4, h5, h6, h7⟩ := id hE
  have loop : ∀ (n j : Nat) (ls : Array Slot), j + n = N → lv_has ls 6 [(5, .int (nI j)), (4, .int x.toInt8.toInt32), (0, .ref t), (1, .int x), (2, .int 0), (3, .int (nI N))] → ixF x.toInt8.toInt32 f N 0 = ixF x.toInt8.toInt32 f n j → W p l e (headSpec (.code sy_ixc sc_ixc 6 (some .int) :: jws) (sr k)).room s m #[.ref t, .int x, .int 0, .int (nI N)] below meth c s.heap [] 0 0 (MQ below (sQ (ixF x.toInt8.toInt32 f N 0)) #[.ref t, .int x, .int 0, .int (nI N)] s 0 0 sN) (F0 m 7 ls []) := by
    intro n
    induction n with
    | zero =>
      intro j ls hj hl he
      refine lv_iload hx hb sd_ixc_7 (lv_at hl 0 rfl) ?_
      refine lv_iload_n hx hb sd_ixc_9 rfl (lv_at hl 5 rfl) ?_
      refine lv_icmp_ge hx hb sd_ixc_10 (tgt := 31) (by decide) (fun _ => ?_) (fun h => absurd (nI_le (by omega) (by omega)) h)
      refine lv_iconst hx hb sd_ixc_31 (v := -1) rfl ?_
      exact W.iret hx hb hr (fun t ht _ => ⟨by rw [he]; rfl, ht⟩) hS.2.2 sd_ixc_32
    | succ n ih =>
      intro j ls hj hl he
      refine lv_iload hx hb sd_ixc_7 (lv_at hl 0 rfl) ?_
      refine lv_iload_n hx hb sd_ixc_9 rfl (lv_at hl 5 rfl) ?_
      refine lv_icmp_ge hx hb sd_ixc_10 (tgt := 31) (by decide) (fun h => absurd h (nI_ge (by omega) (by omega))) (fun _ => ?_)
      refine lv_aload_n hx hb sd_ixc_13 rfl (lv_at hl 2 rfl) ?_
      refine lv_iload hx hb sd_ixc_14 (lv_at hl 0 rfl) ?_
      refine va_tb hx hb h4 hS (nI_in (by omega) (by omega)) (v := .int (f j)) (by rw [nI_clamp (by omega)]) sd_ixc_16 ?_
      refine lv_iload hx hb sd_ixc_17 (lv_at hl 1 rfl) ?_
      refine lv_icmp_ne hx hb sd_ixc_19 (tgt := 25) (by decide) (fun hn => ?_) (fun hy => ?_)
      · refine lv_iinc (v := nI (j + 1)) hx hb sd_ixc_25 hl (k := 0) rfl (nI_1 j) (by decide) rfl (fun ls hl => ?_)
        refine lv_goto hx hb sd_ixc_28 (tgt := 7) (by decide) ?_
        refine ih (j + 1) ls (by omega) hl (he.trans ?_)
        show (if f j = x.toInt8.toInt32 then nI j else ixF x.toInt8.toInt32 f n (j + 1)) = _
        rw [if_neg hn]
      · refine lv_iload hx hb sd_ixc_22 (lv_at hl 0 rfl) ?_
        refine W.iret hx hb hr (fun t ht _ => ⟨?_, ht⟩) hS.2.2 sd_ixc_24
        rw [he]
        show _ = Outcome.returned (some (.int (if f j = x.toInt8.toInt32 then nI j else ixF x.toInt8.toInt32 f n (j + 1))))
        rw [if_pos hy]
  refine lv_iload_n hx hb sd_ixc_0 rfl (lv_at hl 1 rfl) ?_
  refine lv_i2b hx hb sd_ixc_1 (v := x.toInt8.toInt32) rfl ?_
  refine lv_istore hx hb sd_ixc_2 hl (by decide) rfl (fun ls hl => ?_)
  refine lv_iload_n hx hb sd_ixc_4 rfl (lv_at hl 3 rfl) ?_
  refine lv_istore hx hb sd_ixc_5 hl (by decide) rfl (fun ls hl => ?_)
  exact loop N 0 ls (by omega) hl rfl
theorem s_ix1 (l : Launch) (q t N : Nat) (f : Nat → Int32) (x v : Int32) (hN : 1 ≤ N) (hv : ((x < 0 ∨ 255 < x) ∧ v = -1) ∨ (¬ x < 0 ∧ ¬ 255 < x ∧ v = ixF x.toInt8.toInt32 f N 0)) (k : Nat) : Met l sy_ix1 (.code sy_ix1 sc_ix1 4 (some .int) :: jws) (sr (k + 1)) (sPc [.ref t, .int x, .int 0, .int (nI N)] q t N f) (sQ v) 0 0 sN := by
  refine Met.ofW (cc := sc_ix1) (maxL := 4) (ret := (some .int)) (by decide) rfl ?_
  intro p e s m args below meth c s₁ B hml hv
  obtain ⟨rfl, hE⟩ := hv
  have hx := B.exec
  have hb := B.bytes
  have hr := B.returns
  have hts := atoms_spec (ws := .code sy_ix1 sc_ix1 4 (some .int) :: jws) B.pre
  have hw := fun (w : Cond) (h : w ∈ jws) => hts w (List.mem_cons_of_mem _ h)
  have hown : s.vm.findClass "java/lang/StringLatin1" = some m.cls := findClass_of_methodNamed B.named
  have hlocks := B.notSynchronized
  have hS : va_S sN s.heap s.heap [] := va_S.rf
  have hl := lv_entry ([.ref t, .int x, .int 0, .int (nI N)]) (n := 4) (Nat.le_of_ble_eq_true rfl)
  rw [lg_entry_eq]
  generalize (lg_sl ([.ref t, .int x, .int 0, .int (nI N)]) ++ List.replicate (4 - (lg_sl ([.ref t, .int x, .int 0, .int (nI N)])).length) Slot.unset).toArray = ls at hl ⊢
  have hl : lv_has ls 4 [(0, .ref t), (1, .int x), (2, .int 0), (3, .int (nI N))] := hl
  obtain ⟨h1, h2, h3, h4, h5, h6, h7⟩ := id hE
  refine lv_iload_n hx hb sd_ix1_0 rfl (lv_at hl 1 rfl) ?_
  rcases hv with ⟨ho, rfl⟩ | ⟨ho1, ho2, rfl⟩
  · refine s_call (va_runS (As := [.int x]) (rest := []) ⟨hx, hb, hml, hown, hw⟩ (s_enc0 l x ho k) ⟨(callB_of 1 hw (sG (sW_g _ (List.mem_of_getElem? (i := 18) rfl))) rfl rfl rfl (hw _ (sW_g _ (List.mem_of_getElem? (i := 31) rfl))) (hw _ (sW_g _ (List.mem_of_getElem? (i := 46) rfl))) (by decide +kernel) (sr_ok (by decide))), (hw _ (sW_g _ (List.mem_of_getElem? (i := 19) rfl)))⟩ ⟨sPa_b, fun U hU hW => ⟨rfl, trivial⟩⟩ rfl rfl hl.1 rfl (lv_room (Nat.le_of_ble_eq_true rfl)) sd_ix1_1 ⟨Nat.zero_le _, Nat.zero_le _⟩) ?_
    refine lv_if_ne hx hb sd_ix1_4 (tgt := 9) (by decide) (fun h => absurd rfl h) (fun _ => ?_)
    refine lv_iconst hx hb sd_ix1_7 (v := -1) rfl ?_
    exact W.iret hx hb hr (fun t ht _ => ⟨rfl, ht⟩) hS.2.2 sd_ix1_8
  · refine s_call (va_runS (As := [.int x]) (rest := []) ⟨hx, hb, hml, hown, hw⟩ (s_enc1 l x ho1 ho2 k) ⟨(callB_of 1 hw (sG (sW_g _ (List.mem_of_getElem? (i := 18) rfl))) rfl rfl rfl (hw _ (sW_g _ (List.mem_of_getElem? (i := 31) rfl))) (hw _ (sW_g _ (List.mem_of_getElem? (i := 46) rfl))) (by decide +kernel) (sr_ok (by decide))), (hw _ (sW_g _ (List.mem_of_getElem? (i := 19) rfl)))⟩ ⟨sPa_b, fun U hU hW => ⟨rfl, trivial⟩⟩ rfl rfl hl.1 rfl (lv_room (Nat.le_of_ble_eq_true rfl)) sd_ix1_1 ⟨Nat.zero_le _, Nat.zero_le _⟩) ?_
    refine lv_if_ne hx hb sd_ix1_4 (tgt := 9) (by decide) (fun _ => ?_) (fun h => absurd h (by decide))
    refine lv_iload_n hx hb sd_ix1_9 rfl (lv_at hl 2 rfl) ?_
    refine lv_iconst hx hb sd_ix1_10 (v := 0) rfl ?_
    refine va_mmax hx hb (by rw [hml]; exact hl.1.symm) hown (hw _ (sW_g _ (List.mem_of_getElem? (i := 47) rfl))) (hw _ (jwX_g _ (List.mem_of_getElem? (i := 0) rfl))) (hw _ (jwX_g _ (List.mem_of_getElem? (i := 4) rfl))) (hw _ (jwX_g _ (List.mem_of_getElem? (i := 5) rfl))) (Nat.succ_le_succ (Nat.zero_le _)) (by show 0 + 13 ≤ 40 * (k + 1); omega) (Nat.zero_le _) (Nat.zero_le _) sd_ix1_11 ?_
    rw [show (if (0 : Int32) < 0 then (0 : Int32) else 0) = 0 from rfl]
    refine lv_istore_n hx hb sd_ix1_14 rfl hl (by decide) rfl (fun ls hl => ?_)
    refine lv_iload_n hx hb sd_ix1_15 rfl (lv_at hl 3 rfl) ?_
    refine lv_aload_n hx hb sd_ix1_16 rfl (lv_at hl 1 rfl) ?_
    refine va_tlen hx hb h4 hS (v := nI N) rfl sd_ix1_17 ?_
    refine va_mmin hx hb (by rw [hml]; exact hl.1.symm) hown (hw _ (sW_g _ (List.mem_of_getElem? (i := 48) rfl))) (hw _ (jwX_g _ (List.mem_of_getElem? (i := 1) rfl))) (hw _ (jwX_g _ (List.mem_of_getElem? (i := 4) rfl))) (hw _ (jwX_g _ (List.mem_of_getElem? (i := 6) rfl))) (Nat.succ_le_succ (Nat.zero_le _)) (by show 0 + 13 ≤ 40 * (k + 1); omega) (Nat.zero_le _) (Nat.zero_le _) sd_ix1_18 ?_
    rw [ite_self]
    refine lv_istore_n hx hb sd_ix1_21 rfl hl (by decide) rfl (fun ls hl => ?_)
    refine lv_iload_n hx hb sd_ix1_22 rfl (lv_at hl 1 rfl) ?_
    refine lv_iload_n hx hb sd_ix1_23 rfl (lv_at hl 0 rfl) ?_
    refine lv_icmp_lt hx hb sd_ix1_24 (tgt := 29) (by decide) (fun _ => ?_) (fun h => absurd (nI_lt (a := 0) (b := N) hN h7) h)
    refine lv_aload_n hx hb sd_ix1_29 rfl (lv_at hl 2 rfl) ?_
    refine lv_iload_n hx hb sd_ix1_30 rfl (lv_at hl 3 rfl) ?_
    refine lv_iload_n hx hb sd_ix1_31 rfl (lv_at hl 1 rfl) ?_
    refine lv_iload_n hx hb sd_ix1_32 rfl (lv_at hl 0 rfl) ?_
    refine s_call (va_runS (As := [.ref t, .int x, .int 0, .int (nI N)]) (rest := []) ⟨hx, hb, hml, hown, hw⟩ (s_ixc l q t N f x k) ⟨(callB_of 4 hw (sG (sW_g _ (List.mem_of_getElem? (i := 20) rfl))) rfl rfl rfl (hw _ (sW_g _ (List.mem_of_getElem? (i := 31) rfl))) (hw _ (sW_g _ (List.mem_of_getElem? (i := 49) rfl))) (by decide +kernel) (sr_ok (by decide))), (hw _ (sW_g _ (List.mem_of_getElem? (i := 21) rfl)))⟩ ⟨sPc_b, fun U hU hW => ⟨rfl, hE.mv hU hW.alike⟩⟩ rfl rfl hl.1 rfl (lv_room (Nat.le_of_ble_eq_true rfl)) sd_ix1_33 ⟨Nat.zero_le _, Nat.zero_le _⟩) ?_
    exact W.iret hx hb hr (fun t ht _ => ⟨rfl, ht⟩) hS.2.2 sd_ix1_36
theorem s_ix2 (l : Launch) (q t N : Nat) (f : Nat → Int32) (x v : Int32) (hN : 1 ≤ N) (hv : ((x < 0 ∨ 255 < x) ∧ v = -1) ∨ (¬ x < 0 ∧ ¬ 255 < x ∧ v = ixF x.toInt8.toInt32 f N 0)) (k : Nat) : Met l sy_ix2 (.code sy_ix2 sc_ix2 3 (some .int) :: jws) (sr (k + 2)) (sPc [.ref q, .int x, .int 0] q t N f) (sQ v) 0 0 sN := by
  refine Met.ofW (cc := sc_ix2) (maxL := 3) (ret := (some .int)) (by decide) rfl ?_
  intro p e s m args below meth c s₁ B hml hv
  obtain ⟨rfl, hE⟩ := hv
  have hx := B.exec
  have hb := B.bytes
  have hr := B.returns
  have hts := atoms_spec (ws := .code sy_ix2 sc_ix2 3 (some .int) :: jws) B.pre
  have hw := fun (w : Cond) (h : w ∈ jws) => hts w (List.mem_cons_of_mem _ h)
  have hown : s.vm.findClass "java/lang/String" = some m.cls := findClass_of_methodNamed B.named
  have hlocks := B.notSynchronized
  have hS : va_S sN s.heap s.heap [] := va_S.rf
  have hl := lv_entry ([.ref q, .int x, .int 0]) (n := 3) (Nat.le_of_ble_eq_true rfl)
  rw [lg_entry_eq]
  generalize (lg_sl ([.ref q, .int x, .int 0]) ++ List.replicate (3 - (lg_sl ([.ref q, .int x, .int 0])).length) Slot.unset).toArray = ls at hl ⊢
  have hl : lv_has ls 3 [(0, .ref q), (1, .int x), (2, .int 0)] := hl
  obtain ⟨h1, h2, h3, h4, h5, h6, h7⟩ := id hE
  refine lv_aload_n hx hb sd_ix2_0 rfl (lv_at hl 0 rfl) ?_
  refine s_call (va_runV (As := []) (rest := []) ⟨hx, hb, hml, hown, hw⟩ (s_lat l q t N f (k + 1)) ⟨(callB_of 0 hw (sG (sW_g _ (List.mem_of_getElem? (i := 6) rfl))) rfl rfl rfl (hw _ (sW_g _ (List.mem_of_getElem? (i := 30) rfl))) (hw _ (sW_g _ (List.mem_of_getElem? (i := 37) rfl))) (by decide +kernel) (sr_ok (by decide))), (hw _ (sW_g _ (List.mem_of_getElem? (i := 7) rfl))), (hw _ (sW_g _ (List.mem_of_getElem? (i := 8) rfl)))⟩ ⟨sPc_b, sRecv hE, fun U hU hW => ⟨rfl, hE.mv hU hW.alike⟩⟩ rfl rfl hl.1 rfl (lv_room (Nat.le_of_ble_eq_true rfl)) sd_ix2_1 ⟨Nat.zero_le _, Nat.zero_le _⟩) ?_
  refine lv_if_eq hx hb sd_ix2_4 (tgt := 23) (by decide) (fun h => absurd h (by decide)) (fun _ => ?_)
  refine lv_aload_n hx hb sd_ix2_7 rfl (lv_at hl 0 rfl) ?_
  refine vk_getf hx hb h3 hS hown (hw _ (sW_g _ (List.mem_of_getElem? (i := 52) rfl))) (fun _ h => h) sd_ix2_8 ?_
  refine lv_iload_n hx hb sd_ix2_11 rfl (lv_at hl 1 rfl) ?_
  refine lv_iload_n hx hb sd_ix2_12 rfl (lv_at hl 2 rfl) ?_
  refine lv_aload_n hx hb sd_ix2_13 rfl (lv_at hl 0 rfl) ?_
  refine s_call (va_runV (As := []) (rest := [.int 0, .int x, .ref t]) ⟨hx, hb, hml, hown, hw⟩ (s_len l q t N f k) ⟨(callB_of 0 hw (sG (sW_g _ (List.mem_of_getElem? (i := 0) rfl))) rfl rfl rfl (hw _ (sW_g _ (List.mem_of_getElem? (i := 30) rfl))) (hw _ (sW_g _ (List.mem_of_getElem? (i := 44) rfl))) (by decide +kernel) (sr_ok (by decide))), (hw _ (sW_g _ (List.mem_of_getElem? (i := 1) rfl))), (hw _ (sW_g _ (List.mem_of_getElem? (i := 2) rfl)))⟩ ⟨sPc_b, sRecv hE, fun U hU hW => ⟨rfl, hE.mv hU hW.alike⟩⟩ rfl rfl hl.1 rfl (lv_room (Nat.le_of_ble_eq_true rfl)) sd_ix2_14 ⟨Nat.zero_le _, Nat.zero_le _⟩) ?_
  refine s_call (va_runS (As := [.ref t, .int x, .int 0, .int (nI N)]) (rest := []) ⟨hx, hb, hml, hown, hw⟩ (s_ix1 l q t N f x v hN hv k) ⟨(callB_of 4 hw (sG (sW_g _ (List.mem_of_getElem? (i := 22) rfl))) rfl rfl rfl (hw _ (sW_g _ (List.mem_of_getElem? (i := 31) rfl))) (hw _ (sW_g _ (List.mem_of_getElem? (i := 45) rfl))) (by decide +kernel) (sr_ok (by decide))), (hw _ (sW_g _ (List.mem_of_getElem? (i := 23) rfl)))⟩ ⟨sPc_b, fun U hU hW => ⟨rfl, hE.mv hU hW.alike⟩⟩ rfl rfl hl.1 rfl (lv_room (Nat.le_of_ble_eq_true rfl)) sd_ix2_17 ⟨Nat.zero_le _, Nat.zero_le _⟩) ?_
  refine lv_goto hx hb sd_ix2_20 (tgt := 36) (by decide) ?_
  exact W.iret hx hb hr (fun t ht _ => ⟨rfl, ht⟩) hS.2.2 sd_ix2_36
theorem s_ix (l : Launch) (q t N : Nat) (f : Nat → Int32) (x v : Int32) (hN : 1 ≤ N) (hv : ((x < 0 ∨ 255 < x) ∧ v = -1) ∨ (¬ x < 0 ∧ ¬ 255 < x ∧ v = ixF x.toInt8.toInt32 f N 0)) (k : Nat) : Met l sy_ix (.code sy_ix sc_ix 2 (some .int) :: jws) (sr (k + 3)) (sPc [.ref q, .int x] q t N f) (sQ v) 0 0 sN := by
  refine Met.ofW (cc := sc_ix) (maxL := 2) (ret := (some .int)) (by decide) rfl ?_
  intro p e s m args below meth c s₁ B hml hv
  obtain ⟨rfl, hE⟩ := hv
  have hx := B.exec
  have hb := B.bytes
  have hr := B.returns
  have hts := atoms_spec (ws := .code sy_ix sc_ix 2 (some .int) :: jws) B.pre
  have hw := fun (w : Cond) (h : w ∈ jws) => hts w (List.mem_cons_of_mem _ h)
  have hown : s.vm.findClass "java/lang/String" = some m.cls := findClass_of_methodNamed B.named
  have hlocks := B.notSynchronized
  have hS : va_S sN s.heap s.heap [] := va_S.rf
  have hl := lv_entry ([.ref q, .int x]) (n := 2) (Nat.le_of_ble_eq_true rfl)
  rw [lg_entry_eq]
  generalize (lg_sl ([.ref q, .int x]) ++ List.replicate (2 - (lg_sl ([.ref q, .int x])).length) Slot.unset).toArray = ls at hl ⊢
  have hl : lv_has ls 2 [(0, .ref q), (1, .int x)] := hl
  obtain ⟨h1, h2, h3, h4, h5, h6, h7⟩ := id hE
  refine lv_aload_n hx hb sd_ix_0 rfl (lv_at hl 0 rfl) ?_
  refine lv_iload_n hx hb sd_ix_1 rfl (lv_at hl 1 rfl) ?_
  refine lv_iconst hx hb sd_ix_2 (v := 0) rfl ?_
  refine s_call (va_runV (As := [.int x, .int 0]) (rest := []) ⟨hx, hb, hml, hown, hw⟩ (s_ix2 l q t N f x v hN hv k) ⟨(callB_of 2 hw (sG (sW_g _ (List.mem_of_getElem? (i := 24) rfl))) rfl rfl rfl (hw _ (sW_g _ (List.mem_of_getElem? (i := 30) rfl))) (hw _ (sW_g _ (List.mem_of_getElem? (i := 43) rfl))) (by decide +kernel) (sr_ok (by decide))), (hw _ (sW_g _ (List.mem_of_getElem? (i := 25) rfl))), (hw _ (sW_g _ (List.mem_of_getElem? (i := 26) rfl)))⟩ ⟨sPc_b, sRecv hE, fun U hU hW => ⟨rfl, hE.mv hU hW.alike⟩⟩ rfl rfl hl.1 rfl (lv_room (Nat.le_of_ble_eq_true rfl)) sd_ix_3 ⟨Nat.zero_le _, Nat.zero_le _⟩) ?_
  exact W.iret hx hb hr (fun t ht _ => ⟨rfl, ht⟩) hS.2.2 sd_ix_6
