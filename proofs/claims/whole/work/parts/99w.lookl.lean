/-! look in the law's loop, and the loop. Printed by wip/gen/lk3.py. -/
theorem lk_call {p : Program} {l : Launch} {e : Env} {R : Room} {s : State} {m : MethodId} {args : Array Value} {below : List Frame} {meth : Method} {c : Code} {H : Heap} {locs : List Loc} {cells slots mc ms : Nat} {Q : State → Prop} {D : va_G} {G : jG} {α : Nat → Nat}
    {pc : Nat} {ls : Array Slot} {rest st0 : List Value} {aa : Array Value} {r : Option Value} {σ' : jS} {H0 : Heap} (hr : va_Run p l e R s m args below meth c H locs cells slots mc ms (F0 m pc ls st0) rest (jQc α G D r σ' aa) (jA α)) (hS : va_S (jA α) H0 H locs)
    (kk : ∀ (H1 : Heap) (locs1 : List Loc), va_P D jcl (jP α G σ') H1 → va_S (jA α) H0 H1 locs1 → W p l e R s m args below meth c H1 locs1 (cells + mc) (slots + ms) Q (F0 m (pc + 3) ls ((r.map (tv α)).toList ++ rest))) : W p l e R s m args below meth c H locs cells slots Q (F0 m pc ls st0) := by
  intro T hT X
  obtain ⟨v, st₀, t, T', L, h0, X', hL, e1, e2, ⟨hv, hp, hz, hk⟩, st⟩ := hr T hT X
  cases hv
  rw [h0] at hz hk
  obtain ⟨t2, a1, b1⟩ := kk T'.heap (locs ++ L) (by rw [e1]; exact hp)
    ⟨Nat.le_trans hS.1 (by rw [e1]; exact hz), fun q h1 h2 => by rw [e1, hk q (Nat.lt_of_lt_of_le h1 hS.1) h2]; exact hS.2.1 q h1 h2, fun q hq => by
      rcases List.mem_append.mp hq with h | h
      · exact hS.2.2 q h
      · exact hL q h⟩ T' rfl X'
  exact ⟨t2, st t2 a1, b1⟩
theorem lk_gi : GoodIn jws (va_wsS "HalfHandsLaw" 39 lk_y (Cond.codeWith lk_y method_3_code 5 (some .int) lk_h :: jws)) := by
  intro w hw
  unfold va_wsS at hw
  rcases List.mem_append.mp hw with hw | hw
  · rcases List.mem_cons.mp hw with rfl | hw
    · exact jws_good (lk_w (k := 2) rfl)
    rcases List.mem_cons.mp hw with rfl | hw
    · exact jws_good (lk_w (k := 1) rfl)
    rcases List.mem_cons.mp hw with rfl | hw
    · exact jws_good (lk_w (k := 3) rfl)
    · cases hw
  · rcases List.mem_cons.mp hw with rfl | hw
    · exact jws_good (lk_w (k := 0) rfl)
    · exact jws_good hw
theorem lk_d366 : decode code 366 = .ok (.invokestatic 39, 3) := by decide +kernel
theorem lk_room : (lkrm 137).frames + 1 ≤ room_1.frames ∧ 8 + (5 + 11) + (lkrm 137).locals ≤ room_1.locals := by decide
theorem lw_look {p : Program} {l : Launch} {e : Env} {s : State} {m : MethodId} {below : List Frame} {meth : Method} {c : Code} {b L : Nat} {xs : Nat → Int32} {D : va_G} {G : jG} {α adV : Nat → Nat} {cells slots : Nat} (hst : l.stackTraces = false) (hX : jX α s) (h : lwC p s m meth c b L xs D G α adV) (h1 : cells + 1 ≤ 601024) (h2 : slots + 6 ≤ 7293034) {k : Nat} (hkL : k + 7 ≤ L) (σ : jS) (t : Nat) (g : jInv σ t)
    (hn : ∀ σ' t', jInv σ' t' → jWk p l e room_1 s m #[Value.ref b] below meth c (cells + 1) (slots + 6) (lw_Z below #[Value.ref b] s) 7 D G α 23 [(4, .int (nI (k + 7))), (0, .ref 2000), (1, .ref 0), (2, .ref 86), (3, .ref 126)] [] σ') : jWk p l e room_1 s m #[Value.ref b] below meth c cells slots (lw_Z below #[Value.ref b] s) 7 D G α 352 [(4, .int (nI k)), (0, .ref 2000), (1, .ref 0), (2, .ref 86), (3, .ref 126)] [] σ := by
  have hL : L ≤ 3584 := h.2.2.2.2.2.2.2.2.2.2.2.2.2.2
  refine lw_blk h (by omega) (by omega) (σ0 := σ) lwc_5 ?_
  rw [lwq_5, lrd_1 hkL hL]
  simp only [Option.bind_some]
  rw [lrd_2 hkL hL]
  simp only [Option.bind_some]
  refine lwK_t (q := 366) rfl ?_
  obtain ⟨kk, σ1, r2, σ2, hR, hm, h0, g2, hr⟩ := lk_pure g (xs (k + 1)) (xs (k + 2))
  intro ls H locs hl hP hS
  obtain ⟨c1, c2, c3, c4, c5, c6, c7, c8, c9, c10, c11, c12, c13, c14, c15⟩ := id h
  have F2 : jFx p room_1 s m #[Value.ref b] c code 7 13 D G α (jZx α adV) 136 cells slots := ⟨c1, c2, c3, c6, c7, c8, ⟨c9, hX⟩, jZx_ok α adV, c10, by decide, by decide, by show cells ≤ 601024; omega, by show slots ≤ 7293034; omega⟩
  have S : CallFix p m c code 7 s #[Value.ref b] jws "HalfHandsLaw" := ⟨c1, c2, c3, c6, c7⟩
  have hpv : PreS s H (jPc α G D (jZx α adV) σ [.ref (α 0), .int (xs (k + 1)), .int (xs (k + 2)), .ref (α 126)]) [.ref (α 0), .int (xs (k + 1)), .int (xs (k + 2)), .ref (α 126)] := ⟨jPc_blind (jZx_ok α adV) _ _, fun U hU hW => jPre F2 hS hP [.ref (α 0), .int (xs (k + 1)), .int (xs (k + 2)), .ref (α 126)] U hU hW⟩
  have cw : vx_CSW room_1 s #[Value.ref b] "HalfHandsLaw" 39 lk_y method_3_code 5 (some .int) lk_h (Cond.codeWith lk_y method_3_code 5 (some .int) lk_h :: jws) (lkrm 137) 1 6 4 := vx_cwSW 4 c7 lk_gi rfl rfl rfl ⟨by decide +kernel, by decide +kernel, by decide +kernel⟩ lk_room
  refine lk_call (r := some (.int kk)) (vx_runSW (As := [.ref (α 0), .int (xs (k + 1)), .int (xs (k + 2)), .ref (α 126)]) (rest := []) S (lk_met (adV := adV) (D := D) (G := G) hst c10 hR) cw hpv rfl rfl hl.1 rfl (lv_room (show 0 ≤ 8 by decide)) lk_d366 ⟨h1, h2⟩) hS ?_
  intro H1 locs1 hP1 hS1
  refine (lw_blk h h1 h2 (σ0 := σ) lwc_7 ?_ : jWk p l e room_1 s m #[Value.ref b] below meth c (cells + 1) (slots + 6) (lw_Z below #[Value.ref b] s) 7 D G α 369 [(4, .int (nI k)), (0, .ref 2000), (1, .ref 0), (2, .ref 86), (3, .ref 126)] [.int kk] σ1) ls H1 locs1 hl hP1 hS1
  rw [lwq_7, lrd_1 hkL hL]
  simp only [Option.bind_some]
  rw [lrd_2 hkL hL]
  simp only [Option.bind_some]
  rw [show r_I (jCL 136 L xs 208 [.ref 86, .int (xs (k + 1)), .int (xs (k + 2))] σ1) = some (r2, σ2) from congrArg r_I hm]
  simp only [Option.bind_some]
  rw [show r_I (jCL 136 L xs 154 [.ref 86] σ2) = some (kk, σ2) from (congrArg r_I (show g_M_thrown 136 σ2 = some (some (.int kk), σ2) by rw [e_M_thrown 135, q_M_thrown_0, h0]))]
  simp only [Option.bind_some]
  rw [jif_t trivial]
  refine lwK_t (q := 400) rfl (lw_blk h h1 h2 (σ0 := σ) lwc_8 ?_)
  rw [lwq_8]
  have h9 : lwK (jWk p l e room_1 s m #[Value.ref b] below meth c (cells + 1) (slots + 6) (lw_Z below #[Value.ref b] s) 7 D G α) σ 9 [(6, .int r2), (5, .int kk), (4, .int (nI k)), (0, .ref 2000), (1, .ref 0), (2, .ref 86), (3, .ref 126)] [] σ2 = some (none, σ) := by
    refine lwK_t (q := 417) rfl (lw_blk h h1 h2 (σ0 := σ) lwc_9 ?_)
    rw [lwq_9]
    refine lwK_t (q := 2248) rfl ?_
    intro ls H locs hl hP hS
    exact lw_next h h1 h2 σ2 (hn _ _ g2) ls H locs ⟨hl.1, hl.2.1, fun q hq => hl.2.2 q (List.mem_cons_of_mem _ (List.mem_cons_of_mem _ hq))⟩ hP hS
  by_cases z : kk = 0
  · rw [jif_t z, hr z]
    simp only [Option.bind_some]
    rw [jif_t ((lg_cmp_eq _ _).mpr rfl)]
    exact h9
  · rw [jif_f z]; exact h9
/-- the loop, from the k-th int on -/
theorem lw_loop {p : Program} {l : Launch} {e : Env} {s : State} {m : MethodId} {below : List Frame} {meth : Method} {c : Code} {b L : Nat} {xs : Nat → Int32} {D : va_G} {G : jG} {α adV : Nat → Nat} (hst : l.stackTraces = false) (hX : jX α s) (h : lwC p s m meth c b L xs D G α adV) : ∀ (n k cells slots : Nat), L ≤ k + 7 * n → k ≤ 4000 → cells + n ≤ 601024 → slots + 6 * n ≤ 7293034 → ∀ (σ : jS) (t : Nat), jInv σ t → jWk p l e room_1 s m #[Value.ref b] below meth c cells slots (lw_Z below #[Value.ref b] s) 7 D G α 23 [(4, .int (nI k)), (0, .ref 2000), (1, .ref 0), (2, .ref 86), (3, .ref 126)] [] σ := by
  have hL : L ≤ 3584 := h.2.2.2.2.2.2.2.2.2.2.2.2.2.2
  intro n
  induction n with
  | zero =>
    intro k cells slots hk hk4 h1 h2 σ t g
    refine lw_blk h (by omega) (by omega) (σ0 := σ) lwc_0 ?_
    rw [lwq_0, lw_len]
    simp only [Option.bind_some]
    rw [jif_t ((lw_cmp hL hk4).mpr (by omega))]
    exact lwK_t (q := 2254) rfl (lw_end h (by omega) (by omega) _ σ)
  | succ n ih =>
    intro k cells slots hk hk4 h1 h2 σ t g
    by_cases hkL : k + 7 ≤ L
    · exact lw_head h (by omega) (by omega) hk4 σ t g (fun σ' t' g' => ih (k + 7) cells slots (by omega) (by omega) (by omega) (by omega) σ' t' g')
        (fun hk7 σ' t' g' => lw_look hst hX h (by omega) (by omega) hk7 σ' t' g' (fun σ2 t2 g2 => ih (k + 7) (cells + 1) (slots + 6) (by omega) (by omega) (by omega) (by omega) σ2 t2 g2))
    · refine lw_blk h (by omega) (by omega) (σ0 := σ) lwc_0 ?_
      rw [lwq_0, lw_len]
      simp only [Option.bind_some]
      rw [jif_t ((lw_cmp hL hk4).mpr (by omega))]
      exact lwK_t (q := 2254) rfl (lw_end h (by omega) (by omega) _ σ)
