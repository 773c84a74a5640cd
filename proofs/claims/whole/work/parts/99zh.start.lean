/-! What stands at the law's start. -/
def stm (i : Nat) : Term := ([.string "HalfHands$Tokens" 18, .string "HalfHands$Tokens" 68, .string "HalfHandsModel" 181] : List Term).getD i (.int 0)
def stC : List Cond := flatC (Jvm.Cond.and given_1 narrow_1)
def stL : List Nat := jST.map List.length
def stB : List (List Int32) := jST.map fun z => z.map Int32.ofNat
set_option maxRecDepth 100000 in
theorem st_ex : ∀ i, i < 3 → Cond.exactly (stm i) "java/lang/String" ∈ stC := by decide +kernel
set_option maxRecDepth 100000 in
theorem st_co : ∀ i, i < 3 → Cond.eq (.field (stm i) "java/lang/String" "coder" "B") (.int 0) ∈ stC := by decide +kernel
set_option maxRecDepth 100000 in
theorem st_ar : ∀ i, i < 3 → Cond.arrayOf (.field (stm i) "java/lang/String" "value" "[B") .byte ∈ stC := by decide +kernel
set_option maxRecDepth 100000 in
theorem st_le : ∀ i, i < 3 → Cond.eq (.length (.field (stm i) "java/lang/String" "value" "[B")) (.int (Int32.ofNat (stL.getD i 0))) ∈ stC := by decide +kernel
theorem st_of {ws : List Cond} (ps : List Nat) (h : ws = ps.filterMap (fun i => stC[i]?)) : ∀ w ∈ ws, w ∈ stC := by
  intro w hw
  rw [h] at hw
  obtain ⟨i, -, hi⟩ := List.mem_filterMap.mp hw
  exact List.mem_of_getElem? hi
def stE (i : Nat) : List Cond := (List.range (stL.getD i 0)).map fun j => Cond.eq (.elem (.field (stm i) "java/lang/String" "value" "[B") (.int (Int32.ofNat j))) (.int ((stB.getD i []).getD j 0))
set_option maxRecDepth 100000 in
theorem stE_0 : ∀ w ∈ stE 0, w ∈ stC := st_of [37, 38, 39, 40, 41, 42, 43, 44, 45, 46, 47, 48, 49, 50, 51, 52, 53, 54, 55, 56, 57, 58, 59, 60, 61, 62, 63, 64, 65, 66, 67, 68, 69, 70, 71, 72, 73, 74, 75, 76, 77, 78, 79, 80, 81, 82, 83, 84, 85, 86, 87, 88, 89, 90, 91, 92, 93, 94, 95, 96, 97, 98, 99, 100, 101, 102, 103, 104, 105, 106, 107, 108, 109, 110, 111, 112, 113, 114, 115, 116] (by decide +kernel)
set_option maxRecDepth 100000 in
theorem stE_1 : ∀ w ∈ stE 1, w ∈ stC := st_of [121, 122, 123, 124, 125, 126, 127, 128, 129, 130, 131] (by decide +kernel)
set_option maxRecDepth 100000 in
theorem stE_2 : ∀ w ∈ stE 2, w ∈ stC := st_of [137, 138, 139, 140, 141, 142, 143, 144, 145, 146, 147, 148, 149, 150, 151, 152, 153, 154, 155, 156, 157, 158, 159, 160, 161, 162, 163, 164, 165, 166, 167, 168, 169, 170, 171, 172, 173, 174, 175, 176, 177, 178, 179, 180, 181, 182, 183, 184, 185, 186, 187, 188, 189, 190, 191, 192, 193, 194, 195, 196, 197, 198, 199, 200, 201, 202, 203, 204, 205, 206, 207, 208, 209, 210, 211, 212, 213, 214, 215, 216] (by decide +kernel)
theorem st_el : ∀ i, i < 3 → ∀ j, j < stL.getD i 0 → Cond.eq (.elem (.field (stm i) "java/lang/String" "value" "[B") (.int (Int32.ofNat j))) (.int ((stB.getD i []).getD j 0)) ∈ stC := by
  intro i hi j hj
  have hm : Cond.eq (.elem (.field (stm i) "java/lang/String" "value" "[B") (.int (Int32.ofNat j))) (.int ((stB.getD i []).getD j 0)) ∈ stE i := List.mem_map.mpr ⟨j, List.mem_range.mpr hj, rfl⟩
  match i, hi with
  | 0, _ => exact stE_0 _ hm
  | 1, _ => exact stE_1 _ hm
  | 2, _ => exact stE_2 _ hm
  | n + 3, h => omega
set_option maxRecDepth 100000 in
theorem st_ne : ∀ i, i < 3 → ∀ j, j < 3 → i ≠ j → Cond.not (Cond.eq (stm i) (stm j)) ∈ stC ∨ Cond.not (Cond.eq (stm j) (stm i)) ∈ stC := by decide +kernel
set_option maxRecDepth 100000 in
theorem st_cs : Cond.eq (.static "java/lang/String" "COMPACT_STRINGS" "Z") (.int 1) ∈ stC ∧ Cond.isRef (.static "jdk/internal/util/Preconditions" "SIOOBE_FORMATTER" "Ljava/util/function/BiFunction;") ∈ stC ∧ Cond.isRef (.static Bundle.tN "UNASSIGNED_STACK" Bundle.steD) ∈ stC ∧ Cond.isRef (.static Bundle.tN "SUPPRESSED_SENTINEL" Bundle.listD) ∈ stC ∧ Cond.not (.castable lk_N lk_I) ∈ stC := by decide +kernel
def stX : List Cond := [.laysStatic Bundle.tN "UNASSIGNED_STACK" Bundle.steD, .laysStatic Bundle.tN "SUPPRESSED_SENTINEL" Bundle.listD, .initialized Bundle.tN, .castable lk_I lk_I, .castable lk_N lk_N, .declares (Bundle.init0 "java/lang/RuntimeException"), .declares (Bundle.init0 "java/lang/Exception"), .declares (Bundle.init0 Bundle.tN)]
set_option maxRecDepth 100000 in
theorem stX_t : ∀ w ∈ stX, w ∈ lw_tbl := by decide +kernel
theorem jSH_127 : jSH.length = 127 := by decide +kernel
theorem j_str_i {a : Nat} {z : List Nat} (h : j_str a = some z) : ∃ i, i < 3 ∧ a = 1000 + i ∧ jST[i]? = some z := by
  unfold j_str at h
  split at h
  · cases h; exact ⟨0, by omega, rfl, rfl⟩
  · cases h; exact ⟨1, by omega, rfl, rfl⟩
  · cases h; exact ⟨2, by omega, rfl, rfl⟩
  · cases h
theorem st_get (z : List Nat) (j : Nat) : (z.map Int32.ofNat).getD j 0 = sF z j := by
  unfold sF
  rw [List.getD_eq_getElem?_getD, List.getD_eq_getElem?_getD, List.getElem?_map]
  cases z[j]? <;> rfl
def stα (sz b : Nat) (adK : Nat → Nat) (a : Nat) : Nat := if a < 127 then sz + a else if a = 2000 then b else adK (a - 1000)
theorem st_start {s : State} {b : Nat} (hts : ∀ w ∈ lw_tbl, w.before #[Value.ref b] s = true) (hgv : (Jvm.Cond.and given_1 narrow_1).before #[Value.ref b] s = true) : ∃ α adV : Nat → Nat, (∀ a, a < 127 → α a = s.heap.size + a) ∧ α 2000 = b ∧ kZ α adV s.heap.size s ∧ jZ α adV s ∧ jX α s := by
  have hs : ∀ c ∈ stC, c.before #[Value.ref b] s = true := flat_of_before _ hgv
  have hA : ∀ a : Nat, a < s.heap.size → ¬ kA s.heap.size a := fun a ha => Nat.not_le.mpr ha
  obtain ⟨adK, adV, hv, he⟩ := vk_Sof (args := #[Value.ref b]) (s := s) (N := 3) (tm := stm) (len := stL) (byt := stB) (A := kA s.heap.size) (by decide) (fun i hi => hs _ (st_ex i hi)) (fun i hi => hs _ (st_co i hi)) (fun i hi => hs _ (st_ar i hi)) (fun i hi => hs _ (st_le i hi)) (fun i hi j hj => hs _ (st_el i hi j hj)) (fun i j hi hj hij => (st_ne i hi j hj hij).imp (hs _) (hs _)) hA
  have hα : ∀ a, a < 127 → stα s.heap.size b adK a = s.heap.size + a := fun a ha => if_pos ha
  have hα1 : ∀ i, i < 3 → stα s.heap.size b adK (1000 + i) = adK i := fun i hi => by
    unfold stα
    rw [if_neg (by omega), if_neg (by omega), show 1000 + i - 1000 = i by omega]
  have hjA : ∀ q, jA (stα s.heap.size b adK) q → kA s.heap.size q := by
    rintro q ⟨a, ha, rfl⟩
    rw [jSH_127] at ha
    show s.heap.size ≤ _
    rw [hα a ha]
    omega
  have hz : ∀ a z, j_str a = some z → zA (kA s.heap.size) (stα s.heap.size b adK) (fun a => adV (a - 1000)) a z s := by
    intro a z hz
    obtain ⟨i, hi, rfl, hzi⟩ := j_str_i hz
    obtain ⟨g1, g2, g3, g4⟩ := hv.1 i hi
    have e1 : stL.getD i 0 = z.length := by
      unfold stL
      rw [List.getD_eq_getElem?_getD, List.getElem?_map, hzi]; rfl
    have e2 : stB.getD i [] = z.map Int32.ofNat := by
      unfold stB
      rw [List.getD_eq_getElem?_getD, List.getElem?_map, hzi]; rfl
    rw [e1, e2, show (fun j => Value.int ((z.map Int32.ofNat).getD j 0)) = (fun j => Value.int (sF z j)) from funext fun j => by rw [st_get]] at g4
    unfold zA
    have e3 : (fun a => adV (a - 1000)) (1000 + i) = adV i := by
      show adV (1000 + i - 1000) = adV i
      rw [show 1000 + i - 1000 = i by omega]
    rw [hα1 i hi, e3]
    exact ⟨g1, g2, g3, g4⟩
  have hR : ∀ i, i < 3 → ∀ own k tx, stm i = .string own k → (Cond.stringRef own k tx).before #[Value.ref b] s = true → vk_R own k tx (stα s.heap.size b adK (1000 + i)) s := by
    intro i hi own k tx hm h1
    have h2 := he i hi
    rw [hm] at h2
    rw [hα1 i hi]
    exact vk_R.of h1 h2
  have hl := fun w hw => hts w (sV_t w hw)
  have hZc : va_Z "java/lang/String" "COMPACT_STRINGS" "Z" (.int 1) (kA s.heap.size) s s.heap := va_Zof (hl _ (List.mem_of_getElem? (i := 1) rfl)) (hts _ (sW_t _ (List.mem_of_getElem? (i := 30) rfl))) (va_eqt (hs _ st_cs.1)) hA
  have hZq : va_Zq "jdk/internal/util/Preconditions" "SIOOBE_FORMATTER" "Ljava/util/function/BiFunction;" (kA s.heap.size) s s.heap := va_Zqof (hl _ (List.mem_of_getElem? (i := 2) rfl)) (hts _ (sW_t _ (List.mem_of_getElem? (i := 32) rfl))) (hs _ st_cs.2.1) hA
  have hA2 : ∀ a : Nat, a < s.heap.size → ¬ jA (stα s.heap.size b adK) a := fun a ha q => hA a ha (hjA a q)
  have hx := fun w hw => hts w (stX_t w hw)
  refine ⟨stα s.heap.size b adK, fun a => adV (a - 1000), hα, ?_, ⟨?_, hz, hR 0 (by omega) _ _ _ rfl (hl _ (List.mem_of_getElem? (i := 0) rfl)), hZc, hZq⟩, ⟨?_, ?_, ?_, hZc.narrow hjA, hZq.narrow hjA⟩, ?_⟩
  · unfold stα
    rw [if_neg (by omega), if_pos rfl]
  · intro q hq
    exact va_Nw.of rfl (hts _ (kwN_t _ (List.mem_map.mpr ⟨q, hq, rfl⟩)))
  · intro q hq
    exact va_Nw.of rfl (hts _ (jwN_t _ (List.mem_map.mpr ⟨q, hq, rfl⟩)))
  · intro a z hz1
    obtain ⟨g1, g2, g3, g4⟩ := hz a z hz1
    exact ⟨g1.narrow hjA, g2.narrow hjA, g3.narrow hjA, g4.narrow hjA⟩
  · intro q hq
    unfold jLS at hq
    rcases List.mem_cons.mp hq with rfl | hq
    · exact hR 1 (by omega) _ _ _ rfl (hl _ (List.mem_of_getElem? (i := 3) rfl))
    · rcases List.mem_cons.mp hq with rfl | hq
      · exact hR 2 (by omega) _ _ _ rfl (hl _ (List.mem_of_getElem? (i := 4) rfl))
      · cases hq
  · exact ⟨vx_Zqof (hx _ (List.mem_of_getElem? (i := 0) rfl)) (hx _ (List.mem_of_getElem? (i := 2) rfl)) (hs _ st_cs.2.2.1) hA2, vx_Zqof (hx _ (List.mem_of_getElem? (i := 1) rfl)) (hx _ (List.mem_of_getElem? (i := 2) rfl)) (hs _ st_cs.2.2.2.1) hA2, va_Nc.of (hs _ st_cs.2.2.2.2), va_Nw.of rfl (hx _ (List.mem_of_getElem? (i := 3) rfl)), va_Nw.of rfl (hx _ (List.mem_of_getElem? (i := 4) rfl)), va_Nw.of rfl (hx _ (List.mem_of_getElem? (i := 5) rfl)), va_Nw.of rfl (hx _ (List.mem_of_getElem? (i := 6) rfl)), va_Nw.of rfl (hx _ (List.mem_of_getElem? (i := 7) rfl))⟩
/-- the classes, known by number -/
theorem st_K {s : State} {args : Array Value} (hts : ∀ w ∈ jws, w.before args s = true) : ∃ (D : va_G) (G : jG), va_K D jcl (jtys G) s := by
  have h0 : ∀ ci : Nat, ∃ q : ClassId × (Nat → Nat), ci < 10 → u_Kn s (jrr ci) (jtt ci) (jnn ci) q.1 q.2 := by
    intro ci
    by_cases hci : ci < 10
    · obtain ⟨cC, iS, h⟩ := u_known hts (jc_ok ci hci).2.1 (hts _ (kwT_g _ (kr10 hci)))
      exact ⟨(cC, iS), fun _ => h⟩
    · exact ⟨(0, fun _ => 0), fun h => absurd h hci⟩
  obtain ⟨ad, had⟩ := Classical.axiomOfChoice h0
  have ha : ∀ ty : FieldType, (Cond.arrayClass ty).before args s = true → ∃ cA, ArrOfT s cA ty ∧ s.vm.findClass ("[" ++ ty.toString) = some cA := by
    intro ty h
    obtain ⟨cA, kA, comp, h1, h2, h3⟩ := Cond.arrayClass_spec h
    exact ⟨cA, fun n z => ⟨fun k h => (by cases h), kA, h2, comp, h3⟩, h1⟩
  obtain ⟨c0, i1, i2⟩ := ha .int (hts _ (kwB_g _ (List.mem_of_getElem? (i := 2) rfl)))
  obtain ⟨c1, z1, z2⟩ := ha .boolean (hts _ (kwB_g _ (List.mem_of_getElem? (i := 3) rfl)))
  obtain ⟨c2, l1, l2⟩ := ha .long (hts _ (kwB_g _ (List.mem_of_getElem? (i := 4) rfl)))
  refine ⟨(fun ci => (ad ci).1, fun ci => (ad ci).2), (c0, c1, c2), ?_, ?_⟩
  · intro ci q hq
    have hl := (List.getElem?_eq_some_iff.mp hq).1
    have hci : ci < 10 := hl
    have e := (jc_ok ci hci).1
    rw [hq] at e
    cases e
    exact had ci hci
  · intro k q hk
    match k, hk with
    | 0, hk => cases hk; exact ⟨i1, i2⟩
    | 1, hk => cases hk; exact ⟨z1, z2⟩
    | 2, hk => cases hk; exact ⟨l1, l2⟩
    | n + 3, hk => cases hk
