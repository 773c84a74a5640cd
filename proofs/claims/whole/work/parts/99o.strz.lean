/-! Strings: what stands at the start and stays (jZ), and jStrs. -/
def jtx (a : Nat) : String := match a with
  | 1000 => "coins age next elder place hour person purse hands to or parcel law may not and "
  | 1001 => ";()+-*/%<=>"
  | _ => "person hands parcel law may purse to or and not coins age next elder place hour "
def sF (z : List Nat) (j : Nat) : Int32 := Int32.ofNat (z.getD j 0)
/-- the String a stands, with its bytes -/
def sA (α adV : Nat → Nat) (a : Nat) (z : List Nat) (U : State) : Prop := va_O "java/lang/String" (α a) (jA α) U U.heap ∧ va_OF "java/lang/String" "coder" "B" (.int 0) (α a) (jA α) U U.heap ∧ va_OF "java/lang/String" "value" "[B" (.ref (adV a)) (α a) (jA α) U U.heap ∧ va_T .byte (adV a) z.length (fun j => .int (sF z j)) (jA α) U U.heap
def jZ (α adV : Nat → Nat) (U : State) : Prop := (∀ q ∈ jLN, va_Nw (jwN q) U) ∧ (∀ a z, j_str a = some z → sA α adV a z U) ∧ (∀ q ∈ jLS, vk_R (jon q.1) q.2.1 (jtx q.2.2) (α q.2.2) U) ∧ va_Z "java/lang/String" "COMPACT_STRINGS" "Z" (.int 1) (jA α) U U.heap ∧ va_Zq "jdk/internal/util/Preconditions" "SIOOBE_FORMATTER" "Ljava/util/function/BiFunction;" (jA α) U U.heap
theorem jZ_ok (α adV : Nat → Nat) : jZok α (jZ α adV) := by
  refine ⟨fun U V h hW hs hq => ?_, fun U h => h.1⟩
  obtain ⟨h1, h2, h3, h4, h5⟩ := h
  refine ⟨fun q hq' => (h1 q hq').warmM hW, fun a z hz => ?_, fun q hq' => (h3 q hq').warm hW, va_Z.moved hW.alike (h4.kept hq), va_Zq.moved hW.alike (h5.kept hq)⟩
  obtain ⟨g1, g2, g3, g4⟩ := h2 a z hz
  exact ⟨va_O.moved hW.alike (g1.kept hq), va_OF.moved hW.alike (g2.kept hq), va_OF.moved hW.alike (g3.kept hq), va_T.moved hW.alike (g4.kept hq)⟩
theorem jst_ok : ∀ z ∈ jST, z.length < 200 ∧ 1 ≤ z.length ∧ ∀ x ∈ z, x < 128 := by decide +kernel
theorem j_str_in {a : Nat} {z : List Nat} (h : j_str a = some z) : z ∈ jST := by
  unfold j_str at h
  split at h
  · cases h; decide
  · cases h; decide
  · cases h; decide
  · cases h
theorem jZ.sE {α adV : Nat → Nat} {U : State} (h : jZ α adV U) {a : Nat} {z : List Nat} (hz : j_str a = some z) : sE (α a) (adV a) z.length (sF z) U := by
  obtain ⟨-, h2, -, h4, h5⟩ := h
  obtain ⟨g1, g2, g3, g4⟩ := h2 a z hz
  have := (jst_ok z (j_str_in hz)).1
  exact ⟨g1.narrow (fun q w => w.elim), g2.narrow (fun q w => w.elim), g3.narrow (fun q w => w.elim), g4.narrow (fun q w => w.elim), h4.narrow (fun q w => w.elim), h5.narrow (fun q w => w.elim), by omega⟩
theorem nI_255 : ∀ n, n < 128 → nI n &&& 255 = nI n ∧ (nI n).toInt8.toInt32 = nI n := by decide +kernel
theorem sF_lt {z : List Nat} (h : ∀ x ∈ z, x < 128) (j : Nat) : z.getD j 0 < 128 := by
  rw [List.getD_eq_getElem?_getD]
  cases e : z[j]? with
  | none => show 0 < 128; omega
  | some x => exact h x (List.mem_of_getElem? e)
theorem ixF_idx {z : List Nat} (h : ∀ x ∈ z, x < 128) {x : Int32} {n : Nat} (hx : x = nI n) (hn : n < 256) : ∀ (r : List Nat) (k : Nat), z.drop k = r → ixF x.toInt8.toInt32 (sF z) r.length k = j_idx x r k := by
  intro r
  induction r with
  | nil => intro k e; rfl
  | cons b r ih =>
    intro k e
    have hk : z.getD k 0 = b := by
      rw [List.getD_eq_getElem?_getD, ← List.head?_drop, e]; rfl
    have hb : b < 128 := by rw [← hk]; exact sF_lt h k
    have hd : z.drop (k + 1) = r := by rw [← List.tail_drop, e]; rfl
    show (if sF z k = x.toInt8.toInt32 then nI k else ixF x.toInt8.toInt32 (sF z) r.length (k + 1)) = (if Int32.ofNat b = x then Int32.ofNat k else j_idx x r (k + 1))
    have hiff : (sF z k = x.toInt8.toInt32) ↔ (Int32.ofNat b = x) := by
      unfold sF
      rw [hk, hx]
      have e1 := sc_eq (b := nI b) (nI_255 b hb).2 hn
      rw [(nI_255 b hb).1] at e1
      exact e1
    rw [ih (k + 1) hd]
    by_cases q : Int32.ofNat b = x
    · rw [if_pos q, if_pos (hiff.mpr q)]; rfl
    · rw [if_neg q, if_neg (fun w => q (hiff.mp w))]
theorem j_idx_out {z : List Nat} (h : ∀ x ∈ z, x < 128) {x : Int32} (hx : x < 0 ∨ 255 < x) : ∀ (r : List Nat) (k : Nat), (∀ y ∈ r, y < 128) → j_idx x r k = -1 := by
  intro r
  induction r with
  | nil => intro k _; rfl
  | cons b r ih =>
    intro k hr
    show (if Int32.ofNat b = x then Int32.ofNat k else j_idx x r (k + 1)) = -1
    have hb := hr b List.mem_cons_self
    rw [if_neg, ih (k + 1) (fun y hy => hr y (List.mem_cons_of_mem _ hy))]
    intro e
    rcases hx with q | q
    · rw [← e] at q; exact nI_pos (n := b) (by omega) q
    · rw [← e] at q; exact nI_nlt (a := 255) (b := b) (by omega) (by omega) q
theorem jStrs_ok (l : Launch) {α adV : Nat → Nat} {G : jG} {D : va_G} : jStrs l α G D (jZ α adV) := by
  intro p e R s m args below meth c cells slots Q cc nL own dd F
  have hx := F.1
  have hb := F.2.1
  have hml := F.2.2.1
  have hown := F.2.2.2.1
  have hw := F.2.2.2.2.1
  have hZ := F.2.2.2.2.2.2.1
  have hfr : dd + 9 ≤ R.frames := F.2.2.2.2.2.2.2.2.2.1
  have hlo : 60 * dd + 540 ≤ R.locals := F.2.2.2.2.2.2.2.2.2.2.1
  have hce : cells + 0 ≤ R.cells ∧ slots + 0 ≤ R.slots := ⟨F.2.2.2.2.2.2.2.2.2.2.2.1, F.2.2.2.2.2.2.2.2.2.2.2.2⟩
  have rc : ∀ {H : Heap} {locs : List Loc} {a : Nat} {z : List Nat}, j_str a = some z → va_S (jA α) s.heap H locs → ∃ cellB : Cell, H[α a]? = some cellB ∧ cellB.vm.isStatics = false ∧ s.vm.findClass "java/lang/String" = some cellB.cls := fun {H locs a z} hz hS => by
    obtain ⟨cell, g1, g2, g3, -⟩ := (hZ.2.1 a z hz).1.kept hS.2.1
    exact ⟨cell, g1, g2, g3⟩
  have se : ∀ {H : Heap} {locs : List Loc} {a : Nat} {z : List Nat}, j_str a = some z → va_S (jA α) s.heap H locs → ∀ U : State, U.heap = H → s.WarmedH U.vm → sE (α a) (adV a) z.length (sF z) U := fun {H locs a z} hz hS U hU hW => (jZ_at F hS hU hW).sE hz
  refine ⟨fun pc idx a ls H locs rest hsz hin hdg hS k => ?_, fun pc idx a z ls H locs rest hsz hin hz hrs hdg hS k => ?_, fun pc idx a z i ls H locs rest hsz hin hz hrs hi hdg hS k => ?_, fun pc idx a z i ls H locs rest hsz hin hz hrs hdg hS k => ?_⟩
  · exact va_ldcS hx hb hown (hZ.2.2.1 (own, idx, a) hin) hdg k
  · have h9 : own = 9 ∧ idx = 183 := by
      unfold jLX at hin
      simp only [List.mem_cons, Prod.mk.injEq, List.not_mem_nil, or_false] at hin
      omega
    obtain ⟨rfl, rfl⟩ := h9
    exact s_call (va_runV (As := []) (rest := rest) (C := "java/lang/String") ⟨hx, hb, hml, hown, hw⟩ (s_len l (α a) (adV a) z.length (sF z) 0) ⟨callB_of 0 hw (sG (sW_g _ (List.mem_of_getElem? (i := 0) rfl))) rfl rfl rfl (hw _ (sW_g _ (List.mem_of_getElem? (i := 30) rfl))) (hw _ (sW_g _ (List.mem_of_getElem? (i := 50) rfl))) (by decide +kernel) ⟨by show 1 + 1 ≤ R.frames; omega, by show 8 + (1 + 11) + 40 * 1 ≤ R.locals; omega⟩, hw _ (sW_g _ (List.mem_of_getElem? (i := 1) rfl)), hw _ (sW_g _ (List.mem_of_getElem? (i := 2) rfl))⟩ ⟨sPc_b, rc hz hS, fun U hU hW => ⟨rfl, se hz hS U hU hW⟩⟩ rfl rfl hsz rfl (lv_room hrs) hdg hce) k
  · have h9 : own = 9 ∧ idx = 188 := by
      unfold jLX at hin
      simp only [List.mem_cons, Prod.mk.injEq, List.not_mem_nil, or_false] at hin
      omega
    obtain ⟨rfl, rfl⟩ := h9
    have h0 : ¬ i < 0 := fun w => hi (Or.inl w)
    have hzl := (jst_ok z (j_str_in hz)).1
    obtain ⟨j, hj, rfl⟩ := nI_of h0
    rw [nI_clamp hj] at hi k
    have hjz : j < z.length := by omega
    have hv : sF z (nI j).toNatClampNeg &&& 255 = Int32.ofNat (z.getD j 0) := by
      rw [nI_clamp hj]; exact (nI_255 _ (sF_lt (jst_ok z (j_str_in hz)).2.2 j)).1
    rw [← hv] at k
    exact s_call (va_runV (As := [.int (nI j)]) (rest := rest) (C := "java/lang/String") ⟨hx, hb, hml, hown, hw⟩ (s_chr l (α a) (adV a) z.length (sF z) (nI j) h0 (nI_lt hjz (by omega)) 0) ⟨callB_of 1 hw (sG (sW_g _ (List.mem_of_getElem? (i := 9) rfl))) rfl rfl rfl (hw _ (sW_g _ (List.mem_of_getElem? (i := 30) rfl))) (hw _ (sW_g _ (List.mem_of_getElem? (i := 51) rfl))) (by decide +kernel) ⟨by show 3 + 1 ≤ R.frames; omega, by show 8 + (2 + 11) + 40 * 3 ≤ R.locals; omega⟩, hw _ (sW_g _ (List.mem_of_getElem? (i := 10) rfl)), hw _ (sW_g _ (List.mem_of_getElem? (i := 11) rfl))⟩ ⟨sPc_b, rc hz hS, fun U hU hW => ⟨rfl, se hz hS U hU hW⟩⟩ rfl rfl hsz rfl (lv_room hrs) hdg hce) k
  · have h9 : own = 7 ∧ idx = 70 := by
      unfold jLX at hin
      simp only [List.mem_cons, Prod.mk.injEq, List.not_mem_nil, or_false] at hin
      omega
    obtain ⟨rfl, rfl⟩ := h9
    have hzz := jst_ok z (j_str_in hz)
    have hv : ((i < 0 ∨ 255 < i) ∧ j_idx i z 0 = -1) ∨ (¬ i < 0 ∧ ¬ 255 < i ∧ j_idx i z 0 = ixF i.toInt8.toInt32 (sF z) z.length 0) := by
      by_cases q : i < 0 ∨ 255 < i
      · exact Or.inl ⟨q, j_idx_out hzz.2.2 q z 0 hzz.2.2⟩
      · have q1 : ¬ i < 0 := fun w => q (Or.inl w)
        have q2 : ¬ 255 < i := fun w => q (Or.inr w)
        obtain ⟨n, hn, rfl⟩ := nI_of q1
        have h256 : n < 256 := by
          rcases Nat.lt_or_ge n 256 with w | w
          · exact w
          · exact absurd (nI_lt (a := 255) (b := n) (by omega) hn) q2
        exact Or.inr ⟨q1, q2, (ixF_idx hzz.2.2 rfl h256 z 0 rfl).symm⟩
    exact s_call (va_runV (As := [.int i]) (rest := rest) (C := "java/lang/String") ⟨hx, hb, hml, hown, hw⟩ (s_ix l (α a) (adV a) z.length (sF z) i (j_idx i z 0) hzz.2.1 hv 0) ⟨callB_of 1 hw (sG (sW_g _ (List.mem_of_getElem? (i := 27) rfl))) rfl rfl rfl (hw _ (sW_g _ (List.mem_of_getElem? (i := 30) rfl))) (hw _ (sW_g _ (List.mem_of_getElem? (i := 42) rfl))) (by decide +kernel) ⟨by show 3 + 1 ≤ R.frames; omega, by show 8 + (2 + 11) + 40 * 3 ≤ R.locals; omega⟩, hw _ (sW_g _ (List.mem_of_getElem? (i := 28) rfl)), hw _ (sW_g _ (List.mem_of_getElem? (i := 29) rfl))⟩ ⟨sPc_b, rc hz hS, fun U hU hW => ⟨rfl, se hz hS U hU hW⟩⟩ rfl rfl hsz rfl (lv_room hrs) hdg hce) k
