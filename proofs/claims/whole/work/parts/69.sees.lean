/-! The reference looks at an order. -/
noncomputable def seM (v a : Int32) (c : Int64) (M : Int32 × Int32 × Int64) : Int32 × Int32 × Int64 := @ite _ (M.1 = -1 ∨ ¬ v ≤ M.1) (Classical.propDecidable _) (v, a, c) M
noncomputable def seL (v a : Int32) (c : Int64) (M : Int32 × Int32 × Int64) : Int32 × Int32 × Int64 := @ite _ (M.1 = -1 ∨ ¬ M.1 ≤ v) (Classical.propDecidable _) (v, a, c) M
noncomputable def seO (hit : Prop) (c : Int64) (O : Int32 × Int64) : Int32 × Int64 := @ite _ hit (Classical.propDecidable _) (O.1 + 1, if O.1 = 0 then c else O.2) O
noncomputable def seW (hit : Prop) (far : Int32) (c : Int64) (W : Int32 × Int64) : Int32 × Int64 := @ite _ (hit ∧ (W.1 = -1 ∨ far < W.1)) (Classical.propDecidable _) (far, c) W
abbrev jF : Type := (Int32 × Int32 × Int64) × (Int32 × Int32 × Int64) × (Int32 × Int64) × (Int32 × Int64)
def FS (σ : jS) (F : jF) : Prop := σ.1 86 59 = F.1.1 ∧ σ.1 86 61 = F.1.2.1 ∧ σ.2.1 86 63 = F.1.2.2 ∧ σ.1 86 60 = F.2.1.1 ∧ σ.1 86 62 = F.2.1.2.1 ∧ σ.2.1 86 64 = F.2.1.2.2 ∧ σ.1 86 65 = F.2.2.1.1 ∧ σ.2.1 86 66 = F.2.2.1.2 ∧ σ.1 86 67 = F.2.2.2.1 ∧ σ.2.1 86 68 = F.2.2.2.2
def fs_S : Nat → Nat → Prop := fun b j => b = 86 ∧ 59 ≤ j ∧ j ≤ 68
theorem mRow.fs {σ σ' : jS} {k : Nat} {r : Nat → Nat} (h : jep fs_S σ σ') (g : mRow σ k r) : mRow σ' k r := g.fr h (fun b j q z => by unfold fs_S at z; omega)
/-- most and least -/
theorem m_see57 (d : Nat) {k : Nat} {f : Nat → Nat} (c a v : Int32) (σ : jS) (F : jF) (hR : mRow σ k f) (hF : FS σ F) : ∃ σ', b_M_sees_3 (d + 1) c a v σ = b_M_sees_7 (d + 1) c σ' ∧ jep fs_S σ σ' ∧ FS σ' (seM v a (cdL f k 0 0) F.1, seL v a (cdL f k 0 0) F.2.1, F.2.2) := by
  obtain ⟨f1, f2, f3, f4, f5, f6, f7, f8, f9, f10⟩ := hF
  have step1 : ∃ σ1, b_M_sees_3 (d + 1) c a v σ = b_M_sees_5 (d + 1) c a v σ1 ∧ jep fs_S σ σ1 ∧ FS σ1 (seM v a (cdL f k 0 0) F.1, F.2.1, F.2.2) := by
    have go4 : (F.1.1 = -1 ∨ ¬ v ≤ F.1.1) → ∃ σ1, b_M_sees_4 (d + 1) c a v σ = b_M_sees_5 (d + 1) c a v σ1 ∧ jep fs_S σ σ1 ∧ FS σ1 (seM v a (cdL f k 0 0) F.1, F.2.1, F.2.2) := fun h => by
      have S1 : jep fs_S σ (j_setI (j_setI σ 86 59 v) 86 61 a) := (jep.rf.sI ⟨rfl, by omega, by omega⟩).sI ⟨rfl, by omega, by omega⟩
      rw [q_M_sees_4, m_rowAsLong d (hR.fs S1), rL_s]
      simp only [Option.bind_some]
      unfold seM
      rw [if_pos h]
      refine ⟨_, rfl, S1.sL ⟨rfl, by omega, by omega⟩, ?_, ?_, ?_, ?_, ?_, ?_, ?_, ?_, ?_, ?_⟩
      · rw [setL_I, setI_nk (by omega), setI_same]
      · rw [setL_I, setI_same]
      · rw [setL_get, if_pos ⟨rfl, rfl⟩]
      · rw [setL_I, setI_nk (by omega), setI_nk (by omega)]; exact f4
      · rw [setL_I, setI_nk (by omega), setI_nk (by omega)]; exact f5
      · rw [setL_get, if_neg (by omega)]; exact f6
      · rw [setL_I, setI_nk (by omega), setI_nk (by omega)]; exact f7
      · rw [setL_get, if_neg (by omega)]; exact f8
      · rw [setL_I, setI_nk (by omega), setI_nk (by omega)]; exact f9
      · rw [setL_get, if_neg (by omega)]; exact f10
    rw [q_M_sees_3, f1]
    by_cases h1 : F.1.1 = -1
    · rw [jif_t h1]; exact go4 (Or.inl h1)
    · rw [jif_f h1]
      by_cases h2 : v ≤ F.1.1
      · rw [jif_t h2]
        unfold seM
        rw [if_neg (fun z => z.elim h1 (fun y => y h2))]
        exact ⟨σ, rfl, jep.rf, f1, f2, f3, f4, f5, f6, f7, f8, f9, f10⟩
      · rw [jif_f h2]; exact go4 (Or.inr h2)
  obtain ⟨σ1, g1, S1, f1, f2, f3, f4, f5, f6, f7, f8, f9, f10⟩ := step1
  rw [g1]
  have go6 : (F.2.1.1 = -1 ∨ ¬ F.2.1.1 ≤ v) → ∃ σ', b_M_sees_6 (d + 1) c a v σ1 = b_M_sees_7 (d + 1) c σ' ∧ jep fs_S σ σ' ∧ FS σ' (seM v a (cdL f k 0 0) F.1, seL v a (cdL f k 0 0) F.2.1, F.2.2) := fun h => by
    have S2 : jep fs_S σ (j_setI (j_setI σ1 86 60 v) 86 62 a) := (S1.sI ⟨rfl, by omega, by omega⟩).sI ⟨rfl, by omega, by omega⟩
    rw [q_M_sees_6, m_rowAsLong d (hR.fs S2), rL_s]
    simp only [Option.bind_some]
    unfold seL
    rw [if_pos h]
    refine ⟨_, rfl, S2.sL ⟨rfl, by omega, by omega⟩, ?_, ?_, ?_, ?_, ?_, ?_, ?_, ?_, ?_, ?_⟩
    · rw [setL_I, setI_nk (by omega), setI_nk (by omega)]; exact f1
    · rw [setL_I, setI_nk (by omega), setI_nk (by omega)]; exact f2
    · rw [setL_get, if_neg (by omega)]; exact f3
    · rw [setL_I, setI_nk (by omega), setI_same]
    · rw [setL_I, setI_same]
    · rw [setL_get, if_pos ⟨rfl, rfl⟩]
    · rw [setL_I, setI_nk (by omega), setI_nk (by omega)]; exact f7
    · rw [setL_get, if_neg (by omega)]; exact f8
    · rw [setL_I, setI_nk (by omega), setI_nk (by omega)]; exact f9
    · rw [setL_get, if_neg (by omega)]; exact f10
  rw [q_M_sees_5, f4]
  by_cases h1 : F.2.1.1 = -1
  · rw [jif_t h1]; exact go6 (Or.inl h1)
  · rw [jif_f h1]
    by_cases h2 : F.2.1.1 ≤ v
    · rw [jif_t h2]
      refine ⟨σ1, rfl, S1, f1, f2, f3, ?_⟩
      unfold seL
      rw [if_neg (fun z => z.elim h1 (fun y => y h2))]
      exact ⟨f4, f5, f6, f7, f8, f9, f10⟩
    · rw [jif_f h2]; exact go6 (Or.inr h2)
theorem m_placeOf_l (d : Nat) {k n q : Nat} {f : Nat → Nat} {σ : jS} (hR : mRow σ k f) (hn : n < k) (hq : f n = q) (hno : ∀ j, j < n → f j ≠ q) : ∀ (c i : Nat), i + c = n → b_M_placeOf_1 d (nI q) (nI i) σ = some (some (.int (nI n)), σ)
  | 0, i, hi => by
    have hk := hR.2.1
    have e : i = n := by omega
    subst e
    rw [q_M_placeOf_1, rdI_ok (a := 114) (n := 10) rfl rfl (by omega) (by omega)]
    simp only [Option.bind_some]
    rw [(hR.2.2.2 i hn).1, jif_t (congrArg nI hq), q_M_placeOf_2]
  | c + 1, i, hi => by
    have hk := hR.2.1
    have h10 := (hR.2.2.2 i (by omega)).2
    have hq10 := (hR.2.2.2 n hn).2
    rw [q_M_placeOf_1, rdI_ok (a := 114) (n := 10) rfl rfl (by omega) (by omega)]
    simp only [Option.bind_some]
    rw [(hR.2.2.2 i (by omega)).1, jif_f (fun z => hno i (by omega) (nI_inj (by omega) (by omega) z)), nI_1]
    exact m_placeOf_l d hR hn hq hno c (i + 1) (by omega)
theorem m_placeOf (d : Nat) {k n q : Nat} {f : Nat → Nat} {σ : jS} (hR : mRow σ k f) (hn : n < k) (hq : f n = q) (hno : ∀ j, j < n → f j ≠ q) : g_M_placeOf (d + 1) (nI q) σ = some (some (.int (nI n)), σ) := by
  rw [e_M_placeOf, q_M_placeOf_0]
  exact m_placeOf_l d hR hn hq hno n 0 (by omega)
/-- where the people of the row itself are now -/
def psE (k : Nat) (r f pos : Nat → Nat) : Prop := ∀ i, 1 ≤ i → i ≤ k - 2 → 1 ≤ pos i ∧ pos i ≤ k - 2 ∧ f (pos i) = r i ∧ ∀ j, j < pos i → f j ≠ r i
theorem m_chg2 (d : Nat) {k i : Nat} {r f pos : Nat → Nat} {σ : jS} (hR : mRow σ k f) (h116 : ∀ j, j < k → σ.1 116 j = nI (r j)) (hps : psE k r f pos) (hi : 1 ≤ i) (him : i ≤ k - 2) : ∀ (c o a : Nat), o + c = k - 1 → 1 ≤ o → b_M_changesTo_2 (d + 1) (nI a) (nI i) (nI o) σ = b_M_changesTo_5 (d + 1) (nI (a + sm (rg c o) (fun o => i01 (pos o < pos i)))) (nI i) σ
  | 0, o, a, ho, h1 => by
    have hk := hR.2.1
    have e : nI k - 1 = nI (k - 1) := pk_sub (a := k) (b := 1) (by have := hR.1; omega)
    rw [q_M_changesTo_2, hR.2.2.1, e, jif_t (nI_le (by omega) (by omega))]; rfl
  | c + 1, o, a, ho, h1 => by
    have hk := hR.2.1
    have e : nI k - 1 = nI (k - 1) := pk_sub (a := k) (b := 1) (by have := hR.1; omega)
    obtain ⟨a1, a2, a3, a4⟩ := hps i hi him
    obtain ⟨b1, b2, b3, b4⟩ := hps o h1 (by omega)
    rw [q_M_changesTo_2, hR.2.2.1, e, jif_f (nI_ge (by omega) (by omega)), rdI_ok (a := 116) (n := 10) rfl rfl (by omega) (by omega)]
    simp only [Option.bind_some]
    rw [h116 i (by omega), m_placeOf d hR (by omega) a3 a4, rI_s]
    simp only [Option.bind_some]
    rw [rdI_ok (a := 116) (n := 10) rfl rfl (by omega) (by omega)]
    simp only [Option.bind_some]
    rw [h116 o (by omega), m_placeOf d hR (by omega) b3 b4, rI_s]
    simp only [Option.bind_some]
    have er : sm (rg (c + 1) o) (fun o => i01 (pos o < pos i)) = i01 (pos o < pos i) + sm (rg c (o + 1)) (fun o => i01 (pos o < pos i)) := sm_cons _ _ _
    rw [er]
    by_cases q : pos o < pos i
    · rw [jif_f (nI_ge q (by omega)), q_M_changesTo_4, nI_1, nI_1, m_chg2 d hR h116 hps hi him c (o + 1) (a + 1) (by omega) (by omega), i01_t q, Nat.add_assoc]
    · rw [jif_t (nI_le (by omega) (by omega)), q_M_changesTo_3, q_M_changesTo_4, Int32.add_zero, nI_1, m_chg2 d hR h116 hps hi him c (o + 1) a (by omega) (by omega), i01_f q, Nat.zero_add]
theorem m_chg1 (d : Nat) {k : Nat} {r f pos : Nat → Nat} {σ : jS} (hR : mRow σ k f) (h116 : ∀ j, j < k → σ.1 116 j = nI (r j)) (hps : psE k r f pos) : ∀ (c i a : Nat), i + c = k - 1 → 1 ≤ i → b_M_changesTo_1 (d + 1) (nI a) (nI i) σ = some (some (.int (nI (a + sm (rg c i) (fun i => sm (rg (k - 2 - i) (i + 1)) (fun o => i01 (pos o < pos i)))))), σ)
  | 0, i, a, hi, h1 => by
    have hk := hR.2.1
    have e : nI k - 1 = nI (k - 1) := pk_sub (a := k) (b := 1) (by have := hR.1; omega)
    rw [q_M_changesTo_1, hR.2.2.1, e, jif_t (nI_le (by omega) (by omega)), q_M_changesTo_6]; rfl
  | c + 1, i, a, hi, h1 => by
    have hk := hR.2.1
    have e : nI k - 1 = nI (k - 1) := pk_sub (a := k) (b := 1) (by have := hR.1; omega)
    have er : sm (rg (c + 1) i) (fun i => sm (rg (k - 2 - i) (i + 1)) (fun o => i01 (pos o < pos i))) = sm (rg (k - 2 - i) (i + 1)) (fun o => i01 (pos o < pos i)) + sm (rg c (i + 1)) (fun i => sm (rg (k - 2 - i) (i + 1)) (fun o => i01 (pos o < pos i))) := sm_cons _ _ _
    rw [q_M_changesTo_1, hR.2.2.1, e, jif_f (nI_ge (by omega) (by omega)), nI_1, m_chg2 d hR h116 hps h1 (by omega) (k - 2 - i) (i + 1) a (by omega) (by omega), q_M_changesTo_5, nI_1, m_chg1 d hR h116 hps c (i + 1) _ (by omega) (by omega), er, Nat.add_assoc]
theorem rg_app : ∀ (a b s : Nat), rg (a + b) s = rg a s ++ rg b (s + a)
  | 0, b, s => by rw [Nat.zero_add, Nat.add_zero]; rfl
  | a + 1, b, s => by
    rw [show a + 1 + b = (a + b) + 1 by omega]
    show s :: rg (a + b) (s + 1) = s :: (rg a (s + 1) ++ rg b (s + (a + 1)))
    rw [rg_app a b (s + 1), show s + 1 + a = s + (a + 1) by omega]
theorem sm_app {f : Nat → Nat} {l2 : List Nat} : ∀ l1, sm (l1 ++ l2) f = sm l1 f + sm l2 f
  | [] => by rw [sm_nil, Nat.zero_add]; rfl
  | x :: l1 => by rw [List.cons_append, sm_cons, sm_cons, sm_app l1]; omega
theorem chg_eq {m : Nat} {pos : Nat → Nat} : sm (rg m 1) (fun i => sm (rg (m - i) (i + 1)) (fun o => i01 (pos o < pos i))) = sm (rg m 1) (fun i => sm (rg m 1) (fun o => i01 (i < o ∧ pos o < pos i))) := by
  refine sm_cong _ (fun i hi => ?_)
  have him := (mem_rg m 1 i).mp hi
  have e : rg m 1 = rg i 1 ++ rg (m - i) (1 + i) := by rw [← rg_app, show i + (m - i) = m by omega]
  rw [e, sm_app]
  have z : sm (rg i 1) (fun o => i01 (i < o ∧ pos o < pos i)) = 0 := by
    rw [sm_cong (g := fun _ => 0) _ (fun o ho => i01_f (fun q => by have := (mem_rg i 1 o).mp ho; omega)), sm_zero]
  rw [z, Nat.zero_add, show 1 + i = i + 1 by omega]
  refine sm_cong _ (fun o ho => i01_iff ?_)
  have := (mem_rg (m - i) (i + 1) o).mp ho
  exact ⟨fun q => ⟨by omega, q⟩, fun q => q.2⟩
theorem m_changesTo (d : Nat) {k : Nat} {r f pos : Nat → Nat} {σ : jS} (hR : mRow σ k f) (h116 : ∀ j, j < k → σ.1 116 j = nI (r j)) (hps : psE k r f pos) : g_M_changesTo (d + 2) σ = some (some (.int (nI (sm (rg (k - 2) 1) (fun i => sm (rg (k - 2) 1) (fun o => i01 (i < o ∧ pos o < pos i)))))), σ) := by
  rw [e_M_changesTo, q_M_changesTo_0]
  have := m_chg1 d hR h116 hps (k - 2) 1 0 (by have := hR.1; omega) (Nat.le_refl _)
  rw [Nat.zero_add, chg_eq] at this
  exact this
/-- the rest of what is seen -/
theorem m_see7 (d : Nat) {k far : Nat} {f : Nat → Nat} (c aim : Int32) (σ : jS) (F : jF) (hR : mRow σ k f) (hF : FS σ F) (ha : σ.1 86 57 = aim) (hch : ∀ σ', jep fs_S σ σ' → g_M_changesTo (d + 2) σ' = some (some (.int (nI far)), σ')) : ∃ σ', b_M_sees_7 (d + 2) c σ = some (none, σ') ∧ jep fs_S σ σ' ∧ FS σ' (F.1, F.2.1, seO (c = aim) (cdL f k 0 0) F.2.2.1, seW (c = aim) (nI far) (cdL f k 0 0) F.2.2.2) := by
  obtain ⟨f1, f2, f3, f4, f5, f6, f7, f8, f9, f10⟩ := hF
  rw [q_M_sees_7, ha]
  unfold seO seW
  by_cases h : c = aim
  · rw [jif_t h, if_pos h]
    -- the first one
    have step1 : ∃ σ1, b_M_sees_8 (d + 2) σ = b_M_sees_9 (d + 2) σ1 ∧ jep fs_S σ σ1 ∧ FS σ1 (F.1, F.2.1, (F.2.2.1.1, if F.2.2.1.1 = 0 then cdL f k 0 0 else F.2.2.1.2), F.2.2.2) := by
      rw [q_M_sees_8, f7]
      by_cases z : F.2.2.1.1 = 0
      · rw [jif_t z, m_rowAsLong (d + 1) hR, rL_s]
        simp only [Option.bind_some]
        rw [if_pos z]
        refine ⟨_, rfl, jep.rf.sL ⟨rfl, by omega, by omega⟩, f1, f2, ?_, f4, f5, ?_, f7, ?_, f9, ?_⟩
        · rw [setL_get, if_neg (by omega)]; exact f3
        · rw [setL_get, if_neg (by omega)]; exact f6
        · rw [setL_get, if_pos ⟨rfl, rfl⟩]
        · rw [setL_get, if_neg (by omega)]; exact f10
      · rw [jif_f z, if_neg z]
        exact ⟨σ, rfl, jep.rf, f1, f2, f3, f4, f5, f6, f7, f8, f9, f10⟩
    obtain ⟨σ1, g1, S1, f1, f2, f3, f4, f5, f6, f7, f8, f9, f10⟩ := step1
    have f7' : σ1.1 86 65 = F.2.2.1.1 := f7
    have S2 : jep fs_S σ (j_setI σ1 86 65 (F.2.2.1.1 + 1)) := S1.sI ⟨rfl, by omega, by omega⟩
    rw [g1, q_M_sees_9, f7', hch _ S2, rI_s]
    simp only [Option.bind_some]
    have f9' : (j_setI σ1 86 65 (F.2.2.1.1 + 1)).1 86 67 = F.2.2.2.1 := by rw [setI_nk (by omega)]; exact f9
    rw [f9']
    have go10 : (F.2.2.2.1 = -1 ∨ nI far < F.2.2.2.1) → ∃ σ', b_M_sees_10 (d + 2) (nI far) (j_setI σ1 86 65 (F.2.2.1.1 + 1)) = some (none, σ') ∧ jep fs_S σ σ' ∧ FS σ' (F.1, F.2.1, (F.2.2.1.1 + 1, if F.2.2.1.1 = 0 then cdL f k 0 0 else F.2.2.1.2), (nI far, cdL f k 0 0)) := fun q => by
      have S3 : jep fs_S σ (j_setI (j_setI σ1 86 65 (F.2.2.1.1 + 1)) 86 67 (nI far)) := S2.sI ⟨rfl, by omega, by omega⟩
      rw [q_M_sees_10, m_rowAsLong (d + 1) (hR.fs S3), rL_s]
      simp only [Option.bind_some]
      refine ⟨_, rfl, S3.sL ⟨rfl, by omega, by omega⟩, ?_, ?_, ?_, ?_, ?_, ?_, ?_, ?_, ?_, ?_⟩
      · rw [setL_I, setI_nk (by omega), setI_nk (by omega)]; exact f1
      · rw [setL_I, setI_nk (by omega), setI_nk (by omega)]; exact f2
      · rw [setL_get, if_neg (by omega)]; exact f3
      · rw [setL_I, setI_nk (by omega), setI_nk (by omega)]; exact f4
      · rw [setL_I, setI_nk (by omega), setI_nk (by omega)]; exact f5
      · rw [setL_get, if_neg (by omega)]; exact f6
      · rw [setL_I, setI_nk (by omega), setI_same]
      · rw [setL_get, if_neg (by omega)]; exact f8
      · rw [setL_I, setI_same]
      · rw [setL_get, if_pos ⟨rfl, rfl⟩]
    by_cases w1 : F.2.2.2.1 = -1
    · rw [jif_t w1, if_pos (show c = aim ∧ (F.2.2.2.1 = -1 ∨ nI far < F.2.2.2.1) from ⟨h, Or.inl w1⟩)]; exact go10 (Or.inl w1)
    · rw [jif_f w1]
      by_cases w2 : nI far < F.2.2.2.1
      · rw [jif_t w2, if_pos (show c = aim ∧ (F.2.2.2.1 = -1 ∨ nI far < F.2.2.2.1) from ⟨h, Or.inr w2⟩)]; exact go10 (Or.inr w2)
      · rw [jif_f w2, if_neg (show ¬ (c = aim ∧ (F.2.2.2.1 = -1 ∨ nI far < F.2.2.2.1)) from fun z => z.2.elim w1 w2)]
        refine ⟨_, rfl, S2, ?_, ?_, f3, ?_, ?_, f6, setI_same _ _ _ _, f8, ?_, f10⟩
        · rw [setI_nk (by omega)]; exact f1
        · rw [setI_nk (by omega)]; exact f2
        · rw [setI_nk (by omega)]; exact f4
        · rw [setI_nk (by omega)]; exact f5
        · rw [setI_nk (by omega)]; exact f9
  · rw [jif_f h, if_neg h, if_neg (show ¬ (c = aim ∧ (F.2.2.2.1 = -1 ∨ nI far < F.2.2.2.1)) from fun z => h z.1)]
    exact ⟨σ, rfl, jep.rf, f1, f2, f3, f4, f5, f6, f7, f8, f9, f10⟩
