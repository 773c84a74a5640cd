/-! look. Printed by wip/gen/lk.py out of lk0.txt, lk1.txt. -/
def lk_I : String := "java/lang/IndexOutOfBoundsException"
def lk_N : String := "java/util/NoSuchElementException"
def lk_n : List String := ["java/lang/RuntimeException", "java/lang/Exception"]
def lk_y : MethodName := ⟨"HalfHandsLaw", "look", "(LHalfHands;II[J)I"⟩
def lk_h : List (Nat × Nat × Nat × Nat) := [(0, 10, 13, 13), (0, 10, 17, 15)]
def lk_W : List Cond := [.codeWith lk_y method_3_code 5 (some .int) lk_h, .static lk_y, .methodLink "HalfHandsLaw" 39 lk_y, .initialized "HalfHandsLaw", .classLink "HalfHandsLaw" 13 lk_I, .classLink "HalfHandsLaw" 15 lk_N, .methodLink "HalfHandsLaw" 7 jm_115.1, .classLink "HalfHands" 119 lk_I, .initialized lk_I, .classLink "HalfHands" 138 lk_N, .initialized lk_N]
set_option maxRecDepth 100000 in
theorem lk_Wt : ∀ w ∈ lk_W, w ∈ lw_tbl := jw_of [1285, 1284, 1283, 116, 1286, 1287, 1288, 1292, 138, 1355, 139] rfl
theorem lk_Wg : ∀ w ∈ lk_W, w ∈ jws := jws_of lk_Wt (by decide +kernel)
theorem lk_w {k : Nat} {w : Cond} (h : lk_W[k]? = some w) : w ∈ jws := lk_Wg w (List.mem_of_getElem? h)
set_option maxRecDepth 100000 in
theorem lk_t1 : ∀ w ∈ vx_at0 "HalfHands" 121 lk_I lk_n, w ∈ lw_tbl := by decide +kernel
set_option maxRecDepth 100000 in
theorem lk_t2 : ∀ w ∈ vx_at0 "HalfHands" 140 lk_N lk_n, w ∈ lw_tbl := by decide +kernel
theorem lk_g1 : ∀ w ∈ (vx_at0 "HalfHands" 121 lk_I lk_n).filter goodWord, w ∈ jws := fun w hw => List.mem_filter.mpr ⟨lk_t1 w (List.mem_filter.mp hw).1, (List.mem_filter.mp hw).2⟩
theorem lk_g2 : ∀ w ∈ (vx_at0 "HalfHands" 140 lk_N lk_n).filter goodWord, w ∈ jws := fun w hw => List.mem_filter.mpr ⟨lk_t2 w (List.mem_filter.mp hw).1, (List.mem_filter.mp hw).2⟩
theorem lk_b1 : ∀ w ∈ (vx_at0 "HalfHands" 121 lk_I lk_n).filter (fun w => !goodWord w), w ∈ [Cond.castable lk_I lk_I, .declares (Bundle.init0 "java/lang/RuntimeException"), .declares (Bundle.init0 "java/lang/Exception"), .declares (Bundle.init0 Bundle.tN)] := by decide +kernel
theorem lk_b2 : ∀ w ∈ (vx_at0 "HalfHands" 140 lk_N lk_n).filter (fun w => !goodWord w), w ∈ [Cond.castable lk_N lk_N, .declares (Bundle.init0 "java/lang/RuntimeException"), .declares (Bundle.init0 "java/lang/Exception"), .declares (Bundle.init0 Bundle.tN)] := by decide +kernel
theorem lk_o1 : ∀ w ∈ Cond.classLink "HalfHands" 119 lk_I :: Cond.initialized lk_I :: vx_at0 "HalfHands" 121 lk_I lk_n, vx_ot w = true := by decide +kernel
theorem lk_o2 : ∀ w ∈ Cond.classLink "HalfHands" 138 lk_N :: Cond.initialized lk_N :: vx_at0 "HalfHands" 140 lk_N lk_n, vx_ot w = true := by decide +kernel
theorem lk_m5 : decode method_3_code 5 = .ok (.invokevirtual 7, 3) := by decide +kernel
theorem lk_m13 : decode method_3_code 13 = .ok (.astore 4, 2) := by decide +kernel
theorem lk_m15 : decode method_3_code 15 = .ok (.iconst 1, 1) := by decide +kernel
theorem lk_m16 : decode method_3_code 16 = .ok (.ireturn, 1) := by decide +kernel
theorem lk_m17 : decode method_3_code 17 = .ok (.astore 4, 2) := by decide +kernel
theorem lk_m19 : decode method_3_code 19 = .ok (.iconst 2, 1) := by decide +kernel
theorem lk_m20 : decode method_3_code 20 = .ok (.ireturn, 1) := by decide +kernel
theorem lk_d11 : decode prog_1_method_7_code 11 = .ok (.new 119, 3) := by decide +kernel
theorem lk_d14 : decode prog_1_method_7_code 14 = .ok (.dup, 1) := by decide +kernel
theorem lk_d15 : decode prog_1_method_7_code 15 = .ok (.invokespecial 121, 3) := by decide +kernel
theorem lk_d18 : decode prog_1_method_7_code 18 = .ok (.athrow, 1) := by decide +kernel
theorem lk_d116 : decode prog_1_method_7_code 116 = .ok (.new 138, 3) := by decide +kernel
theorem lk_d119 : decode prog_1_method_7_code 119 = .ok (.dup, 1) := by decide +kernel
theorem lk_d120 : decode prog_1_method_7_code 120 = .ok (.invokespecial 140, 3) := by decide +kernel
theorem lk_d123 : decode prog_1_method_7_code 123 = .ok (.athrow, 1) := by decide +kernel
