/-! The laws' programs: the reference's side. -/
/-- outside the places of S all is as it was -/
def jep (S : Nat → Nat → Prop) (σ σ' : jS) : Prop := ∀ b j, ¬ S b j → σ'.1 b j = σ.1 b j ∧ σ'.2.1 b j = σ.2.1 b j ∧ σ'.2.2 b j = σ.2.2 b j
theorem jep.rf {S : Nat → Nat → Prop} {σ : jS} : jep S σ σ := fun _ _ _ => ⟨rfl, rfl, rfl⟩
theorem jep.tr {S : Nat → Nat → Prop} {σ σ' σ'' : jS} (h1 : jep S σ σ') (h2 : jep S σ' σ'') : jep S σ σ'' := fun b j hb => ⟨(h2 b j hb).1.trans (h1 b j hb).1, (h2 b j hb).2.1.trans (h1 b j hb).2.1, (h2 b j hb).2.2.trans (h1 b j hb).2.2⟩
theorem jep.mono {S T : Nat → Nat → Prop} {σ σ' : jS} (h : jep S σ σ') (hst : ∀ b j, S b j → T b j) : jep T σ σ' := fun b j hb => h b j (fun q => hb (hst b j q))
theorem jep.sI {S : Nat → Nat → Prop} {σ σ' : jS} {a k : Nat} {v : Int32} (h : jep S σ σ') (ha : S a k) : jep S σ (j_setI σ' a k v) := h.tr fun b j hb => ⟨by
  rw [setI_get]
  exact if_neg (fun q => hb (by rw [q.1, q.2]; exact ha)), rfl, rfl⟩
theorem jep.sL {S : Nat → Nat → Prop} {σ σ' : jS} {a k : Nat} {v : Int64} (h : jep S σ σ') (ha : S a k) : jep S σ (j_setL σ' a k v) := h.tr fun b j hb => ⟨rfl, by
  rw [setL_get]
  exact if_neg (fun q => hb (by rw [q.1, q.2]; exact ha)), rfl⟩
theorem jep.sR {S : Nat → Nat → Prop} {σ σ' : jS} {a k v : Nat} (h : jep S σ σ') (ha : S a k) : jep S σ (j_setR σ' a k v) := h.tr fun b j hb => ⟨rfl, rfl, by
  rw [setR_get]
  exact if_neg (fun q => hb (by rw [q.1, q.2]; exact ha))⟩
theorem jep.of {S : Nat → Prop} {T : Nat → Nat → Prop} {σ σ' : jS} (h : jeq S σ σ') (hst : ∀ b j, S b → T b j) : jep T σ σ' := fun b j hb => ⟨congrFun (h b (fun q => hb (hst b j q))).1 j, congrFun (h b (fun q => hb (hst b j q))).2.1 j, congrFun (h b (fun q => hb (hst b j q))).2.2 j⟩
theorem jep.cellI {S : Nat → Nat → Prop} {σ σ' : jS} (h : jep S σ σ') {b : Nat} (hb : ∀ j, ¬ S b j) : σ'.1 b = σ.1 b := funext fun j => (h b j (hb j)).1
theorem jep.cellL {S : Nat → Nat → Prop} {σ σ' : jS} (h : jep S σ σ') {b : Nat} (hb : ∀ j, ¬ S b j) : σ'.2.1 b = σ.2.1 b := funext fun j => (h b j (hb j)).2.1
theorem m_is (d : Nat) (x : Int32) (σ : jS) : g_M_is (d + 1) x σ = some (some (.long (if x = 0 then 0 else 1)), σ) := by
  rw [e_M_is, q_M_is_0, q_M_is_1, q_M_is_2, q_M_is_2]
  by_cases h : x = 0
  · rw [jif_t h, if_pos h]
  · rw [jif_f h, if_neg h]
def lw_ab2 (x : Int64) : Int64 := if 0 < x then x else -x
/-- the reference's joining: none: it gives up ahead of the store -/
def lw_m (w : Int32) (x y : Int64) : Option Int64 :=
  if w = 37 then (if y = 0 then none else some (x - x / y * y))
  else if w = 42 then (if x = 0 then some (x * y) else if lw_ab2 x = 0 then none else if lw_ab2 y ≤ lw_top / lw_ab2 x then some (x * y) else none)
  else if w = 43 then some (x + y)
  else if w = 45 then some (x - y)
  else if w = 47 then (if y = 0 then none else some (x / y))
  else if w = 60 then some (if x < y then 1 else 0)
  else if w = 61 then some (if x = y then 1 else 0)
  else if w = 62 then some (if y < x then 1 else 0)
  else if w = 256 then some (if x ≤ y then 1 else 0)
  else if w = 257 then some (if x = y then 0 else 1)
  else if w = 258 then some (if y ≤ x then 1 else 0)
  else if w = 261 then some (if x = 0 ∨ y = 0 then 0 else 1)
  else some (if x = 0 ∧ y = 0 then 0 else 1)
def lw_cd (k : Int32) : Int32 := if k = 15 then 261 else if k = 10 then 262 else k
theorem abs_b {x : Int64} (h : lw_in x) : lw_ab2 x = lw_abs x ∧ (lw_abs x ≤ 0 ↔ x = 0) ∧ (lw_ab2 x = 0 ↔ x = 0) := by
  obtain ⟨h1, h2⟩ := h
  have t1 : lw_top.toInt = 1000000000000 := rfl
  have t2 : (-lw_top).toInt = -1000000000000 := rfl
  rw [Int64.lt_iff_toInt_lt, t1] at h1
  rw [Int64.lt_iff_toInt_lt, t2] at h2
  have z0 : (0 : Int64).toInt = 0 := rfl
  have hneg : (-x).toInt = -x.toInt := by
    rw [Int64.toInt_neg]
    apply Int.bmod_eq_of_le <;> omega
  have zz : x = 0 ↔ x.toInt = 0 := by rw [← Int64.toInt_inj, z0]
  unfold lw_ab2 lw_abs
  by_cases hp : 0 < x
  · have hp2 := hp
    rw [Int64.lt_iff_toInt_lt, z0] at hp2
    have h0 : 0 ≤ x := Int64.le_of_lt hp
    rw [if_pos hp, if_pos h0]
    refine ⟨rfl, ?_, Iff.rfl⟩
    rw [Int64.le_iff_toInt_le, z0, zz]
    omega
  · have hp2 := hp
    rw [Int64.lt_iff_toInt_lt, z0] at hp2
    rw [if_neg hp]
    by_cases h0 : 0 ≤ x
    · have h00 := h0
      rw [Int64.le_iff_toInt_le, z0] at h00
      have e0 : x = 0 := by rw [zz]; omega
      rw [if_pos h0, e0]
      exact ⟨rfl, by decide, by decide⟩
    · have h00 := h0
      rw [Int64.le_iff_toInt_le, z0] at h00
      rw [if_neg h0]
      have k1 : (-x ≤ 0 ↔ x = 0) := by rw [Int64.le_iff_toInt_le, hneg, z0, zz]; omega
      have k2 : (-x = 0 ↔ x = 0) := by rw [← Int64.toInt_inj, hneg, z0, zz]; omega
      exact ⟨rfl, k1, k2⟩
/-- both joinings come to the same -/
theorem lw_m_j {k : Int32} (h : lw_op k) {x y : Int64} (hx : lw_in x) (hy : lw_in y) : (lw_m (lw_cd k) x y = none ∧ lw_j k x y = lw_err) ∨ lw_m (lw_cd k) x y = some (lw_j k x y) := by
  obtain ⟨a1, a2, a3⟩ := abs_b hx
  obtain ⟨b1, -, -⟩ := abs_b hy
  unfold lw_op at h
  rcases h with rfl | rfl | rfl | rfl | rfl | rfl | rfl | rfl | rfl | rfl | rfl | rfl | rfl
  · right; simp [lw_m, lw_j, lw_cd]
  · right; simp [lw_m, lw_j, lw_cd]
  · have e1 : lw_m (lw_cd 37) x y = if y = 0 then none else some (x - x / y * y) := by simp [lw_m, lw_cd]
    have e2 : lw_j 37 x y = if y = 0 then lw_err else x - x / y * y := by simp [lw_j]
    rw [e1, e2]
    by_cases e : y = 0
    · rw [if_pos e, if_pos e]; exact Or.inl ⟨rfl, rfl⟩
    · rw [if_neg e, if_neg e]; exact Or.inr rfl
  · have e1 : lw_m (lw_cd 42) x y = if x = 0 then some (x * y) else if lw_ab2 x = 0 then none else if lw_ab2 y ≤ lw_top / lw_ab2 x then some (x * y) else none := by simp [lw_m, lw_cd]
    have e2 : lw_j 42 x y = lw_mul x y := by simp [lw_j]
    rw [e1, e2]
    unfold lw_mul
    by_cases e : x = 0
    · rw [if_pos e, if_pos (a2.mpr e)]; exact Or.inr rfl
    · rw [if_neg e, if_neg (fun q => e (a2.mp q)), if_neg (fun q => e (a3.mp q)), a1, b1]
      by_cases f : lw_abs y ≤ lw_top / lw_abs x
      · rw [if_pos f, if_pos f]; exact Or.inr rfl
      · rw [if_neg f, if_neg f]; exact Or.inl ⟨rfl, rfl⟩
  · right; simp [lw_m, lw_j, lw_cd]
  · right; simp [lw_m, lw_j, lw_cd]
  · have e1 : lw_m (lw_cd 47) x y = if y = 0 then none else some (x / y) := by simp [lw_m, lw_cd]
    have e2 : lw_j 47 x y = if y = 0 then lw_err else x / y := by simp [lw_j]
    rw [e1, e2]
    by_cases e : y = 0
    · rw [if_pos e, if_pos e]; exact Or.inl ⟨rfl, rfl⟩
    · rw [if_neg e, if_neg e]; exact Or.inr rfl
  all_goals (right; simp [lw_m, lw_j, lw_cd])
def mw_S : Nat → Nat → Prop := fun b j => b = 103 ∨ (b = 86 ∧ j = 35)
noncomputable def mw_T (w : Int32) (x y : Int64) (d : Nat) (σ : jS) : jR := match lw_m w x y with
  | none => some (some (.int 0), σ)
  | some v => b_M_works_37 d v σ
theorem m_is10 (d : Nat) (σ : jS) : g_M_is (d + 1) 1 σ = some (some (.long 1), σ) ∧ g_M_is (d + 1) 0 σ = some (some (.long 0), σ) := by
  rw [m_is, m_is, if_neg (by decide), if_pos rfl]
  exact ⟨rfl, rfl⟩
/-- a block that answers c as a long: the reference asks 'is' -/
theorem m_pick (d : Nat) (c : Prop) (dc : Decidable c) (f : Int32 → jS → jR) (σ : jS) (hf : ∀ z, f z σ = (r_L (g_M_is (d + 1) z σ)).bind fun q => b_M_works_37 (d + 1) q.1 q.2) : jif c (f 0 σ) (f 1 σ) = b_M_works_37 (d + 1) (@ite _ c dc 0 1) σ ∧ jif c (f 1 σ) (f 0 σ) = b_M_works_37 (d + 1) (@ite _ c dc 1 0) σ := by
  rw [hf, hf, (m_is10 d σ).1, (m_is10 d σ).2, rL_s, rL_s]
  simp only [Option.bind_some]
  by_cases h : c
  · rw [jif_t h, jif_t h, if_pos h, if_pos h]; exact ⟨rfl, rfl⟩
  · rw [jif_f h, jif_f h, if_neg h, if_neg h]; exact ⟨rfl, rfl⟩
theorem m_works3 (d : Nat) (w : Int32) (x y : Int64) (n : Nat) (hn : n + 2 ≤ 64) (σ : jS) (hm : σ.1 86 35 = nI (n + 2)) (hx : σ.2.1 103 n = x) (hz : lw_ab2 x = 0 ↔ x = 0) : b_M_works_3 (d + 1) w y σ = mw_T w x y (d + 1) (j_setI σ 86 35 (nI (n + 1))) := by
  have e2 : nI (n + 2) - 2 = nI n := pk_sub (a := n + 2) (b := 2) (by omega)
  have e1 : nI (n + 2) - 1 = nI (n + 1) := nI_pred (n + 1)
  rw [q_M_works_3, hm, e2, e1, rdL_ok (a := 103) (n := 64) rfl rfl (by omega) (by omega), hx]
  simp only [Option.bind_some]
  generalize j_setI σ 86 35 (nI (n + 1)) = τ
  unfold mw_T lw_m
  by_cases h : w = 37
  · rw [jif_t h, if_pos h, q_M_works_8]
    simp only [lg_cmp_eq]
    by_cases e : y = 0
    · rw [jif_t e, if_pos e]
    · rw [jif_f e, if_neg e, q_M_works_9, jif_f (by rw [h]; decide), q_M_works_10, if_neg e, q_M_works_11]
  rw [jif_f h, if_neg h]
  by_cases g : w = 42
  · rw [jif_t g, if_pos g, q_M_works_6]
    simp only [lg_cmp_eq, lg_cmp_le]
    by_cases e : x = 0
    · rw [jif_t e, if_pos e, q_M_works_7]
    · rw [jif_f e, if_neg e]
      show (if lw_ab2 x = 0 then none else jif (lw_ab2 y ≤ lw_top / lw_ab2 x) _ _) = _
      by_cases z : lw_ab2 x = 0
      · exact absurd (hz.mp z) e
      · rw [if_neg z, if_neg z]
        by_cases q : lw_ab2 y ≤ lw_top / lw_ab2 x
        · rw [jif_t q, if_pos q, q_M_works_7]
        · rw [jif_f q, if_neg q]
  rw [jif_f g, if_neg g]; clear g
  by_cases g : w = 43
  · rw [jif_t g, if_pos g, q_M_works_4]
  rw [jif_f g, if_neg g]; clear g
  by_cases g : w = 45
  · rw [jif_t g, if_pos g, q_M_works_5]
  rw [jif_f g, if_neg g]; clear g
  by_cases g : w = 47
  · rw [jif_t g, if_pos g, q_M_works_8]
    simp only [lg_cmp_eq]
    by_cases e : y = 0
    · rw [jif_t e, if_pos e]
    · rw [jif_f e, if_neg e, q_M_works_9, jif_t g, if_neg e, q_M_works_11]
  rw [jif_f g, if_neg g]; clear g
  by_cases g : w = 60
  · rw [jif_t g, if_pos g, q_M_works_12, q_M_works_13, (m_pick d (0 ≤ lg_cmp x y) (Classical.propDecidable _) (b_M_works_14 (d + 1)) τ (fun z => q_M_works_14 (d + 1) z τ)).1]
    simp only [lg_cmp_ge]
    by_cases e : y ≤ x
    · rw [if_pos e, if_neg (Int64.not_lt.mpr e)]
    · rw [if_neg e, if_pos (Int64.not_le.mp e)]
  rw [jif_f g, if_neg g]; clear g
  by_cases g : w = 61
  · rw [jif_t g, if_pos g, q_M_works_18, q_M_works_19, (m_pick d (lg_cmp x y = 0) (Classical.propDecidable _) (b_M_works_20 (d + 1)) τ (fun z => q_M_works_20 (d + 1) z τ)).2]
    simp only [lg_cmp_eq]
  rw [jif_f g, if_neg g]; clear g
  by_cases g : w = 62
  · rw [jif_t g, if_pos g, q_M_works_15, q_M_works_16, (m_pick d (lg_cmp x y ≤ 0) (Classical.propDecidable _) (b_M_works_17 (d + 1)) τ (fun z => q_M_works_17 (d + 1) z τ)).1]
    simp only [lg_cmp_le]
    by_cases e : x ≤ y
    · rw [if_pos e, if_neg (Int64.not_lt.mpr e)]
    · rw [if_neg e, if_pos (Int64.not_le.mp e)]
  rw [jif_f g, if_neg g]; clear g
  by_cases g : w = 256
  · rw [jif_t g, if_pos g, q_M_works_21, q_M_works_22, (m_pick d (0 < lg_cmp x y) (Classical.propDecidable _) (b_M_works_23 (d + 1)) τ (fun z => q_M_works_23 (d + 1) z τ)).1]
    simp only [lg_cmp_gt]
    by_cases e : y < x
    · rw [if_pos e, if_neg (Int64.not_le.mpr e)]
    · rw [if_neg e, if_pos (Int64.not_lt.mp e)]
  rw [jif_f g, if_neg g]; clear g
  by_cases g : w = 257
  · rw [jif_t g, if_pos g, q_M_works_27, q_M_works_28, (m_pick d (lg_cmp x y = 0) (Classical.propDecidable _) (b_M_works_29 (d + 1)) τ (fun z => q_M_works_29 (d + 1) z τ)).1]
    simp only [lg_cmp_eq]
  rw [jif_f g, if_neg g]; clear g
  by_cases g : w = 258
  · rw [jif_t g, if_pos g, q_M_works_24, q_M_works_25, (m_pick d (lg_cmp x y < 0) (Classical.propDecidable _) (b_M_works_26 (d + 1)) τ (fun z => q_M_works_26 (d + 1) z τ)).1]
    simp only [lg_cmp_lt]
    by_cases e : x < y
    · rw [if_pos e, if_neg (Int64.not_le.mpr e)]
    · rw [if_neg e, if_pos (Int64.not_lt.mp e)]
  rw [jif_f g, if_neg g]; clear g
  by_cases g : w = 261
  · rw [jif_t g, if_pos g, q_M_works_30, q_M_works_31]
    simp only [lg_cmp_eq]
    have hj : jif (x = 0) (b_M_works_32 (d + 1) 0 τ) (jif (y = 0) (b_M_works_32 (d + 1) 0 τ) (b_M_works_32 (d + 1) 1 τ)) = jif (x = 0 ∨ y = 0) (b_M_works_32 (d + 1) 0 τ) (b_M_works_32 (d + 1) 1 τ) := by
      by_cases e : x = 0
      · rw [jif_t e, jif_t (Or.inl e)]
      · rw [jif_f e]
        by_cases f : y = 0
        · rw [jif_t f, jif_t (Or.inr f)]
        · rw [jif_f f, jif_f (fun q => q.elim e f)]
    rw [hj, (m_pick d (x = 0 ∨ y = 0) inferInstance (b_M_works_32 (d + 1)) τ (fun z => q_M_works_32 (d + 1) z τ)).1]
  rw [jif_f g, if_neg g]; clear g
  rw [q_M_works_33, q_M_works_34, q_M_works_35]
  simp only [lg_cmp_eq]
  have hj : jif (x = 0) (jif (y = 0) (b_M_works_36 (d + 1) 0 τ) (b_M_works_36 (d + 1) 1 τ)) (b_M_works_36 (d + 1) 1 τ) = jif (x = 0 ∧ y = 0) (b_M_works_36 (d + 1) 0 τ) (b_M_works_36 (d + 1) 1 τ) := by
    by_cases e : x = 0
    · rw [jif_t e]
      by_cases f : y = 0
      · rw [jif_t f, jif_t ⟨e, f⟩]
      · rw [jif_f f, jif_f (fun q => f q.2)]
    · rw [jif_f e, jif_f (fun q => e q.1)]
  rw [hj, (m_pick d (x = 0 ∧ y = 0) inferInstance (b_M_works_36 (d + 1)) τ (fun z => q_M_works_36 (d + 1) z τ)).1]
theorem setI_86 {σ : jS} {n : Nat} : (j_setI σ 86 35 (nI n)).1 86 35 = nI n := setI_same σ 86 35 _
theorem m_w37 (d : Nat) (v : Int64) (n : Nat) (hn : n < 64) (σ : jS) (hm : σ.1 86 35 = nI (n + 1)) : b_M_works_37 d v σ = some (some (.int (b2i (¬ (lw_top < v ∨ v < -lw_top)))), j_setL σ 103 n v) := by
  rw [q_M_works_37, hm, nI_pred, wrL_ok (a := 103) (n := 64) rfl rfl hn (by omega)]
  simp only [Option.bind_some, lg_cmp_gt, lg_cmp_lt]
  by_cases h1 : lw_top < v
  · rw [show jif ((1000000000000 : Int64) < v) _ _ = _ from jif_t h1, q_M_works_38, q_M_works_39, b2i_f (fun q => q (Or.inl h1))]; rfl
  · rw [show jif ((1000000000000 : Int64) < v) _ _ = _ from jif_f h1]
    by_cases h2 : v < -lw_top
    · rw [show jif (v < (-1000000000000 : Int64)) _ _ = _ from jif_t h2, q_M_works_38, q_M_works_39, b2i_f (fun q => q (Or.inr h2))]; rfl
    · rw [show jif (v < (-1000000000000 : Int64)) _ _ = _ from jif_f h2, q_M_works_39, b2i_t (fun q => q.elim h1 h2)]; rfl
/-- the reference's stack -/
def mst (σ : jS) (st : List Int64) : Prop := σ.1 86 35 = nI st.length ∧ stk (σ.2.1 103) st
theorem m_works_not (d : Nat) (y : Int64) (s : List Int64) (hs : s.length < 64) (σ : jS) (h : mst σ (y :: s)) : g_M_works (d + 2) 260 σ = some (some (.int 1), j_setL σ 103 s.length (if y = 0 then 1 else 0)) ∧ mst (j_setL σ 103 s.length (if y = 0 then 1 else 0)) ((if y = 0 then 1 else 0) :: s) := by
  obtain ⟨h1, h2, h3⟩ := h
  have h1 : σ.1 86 35 = nI (s.length + 1) := h1
  refine ⟨?_, h1, by rw [setL_up]; exact stk_push h3⟩
  rw [e_M_works, q_M_works_0, h1, nI_pred, rdL_ok (a := 103) (n := 64) rfl rfl hs (by omega), h2]
  simp only [Option.bind_some, lg_cmp_eq]
  rw [jif_t trivial, q_M_works_1, jif_pick (y = 0) inferInstance (fun z => b_M_works_2 (d + 1) (nI s.length) z σ) 1 0, q_M_works_2, m_is, rL_s]
  simp only [Option.bind_some]
  rw [wrL_ok (a := 103) (n := 64) rfl rfl hs (by omega)]
  by_cases e : y = 0
  · rw [if_pos e, if_pos e, if_neg (by decide)]; rfl
  · rw [if_neg e, if_neg e, if_pos rfl]; rfl
theorem m_works_op (d : Nat) {k : Int32} (hk : lw_op k) (x y : Int64) (s : List Int64) (hs : s.length + 2 ≤ 64) (hx : lw_in x) (hy : lw_in y) (σ : jS) (h : mst σ (y :: x :: s)) : ∃ σ', g_M_works (d + 2) (lw_cd k) σ = some (some (.int (b2i (¬ (lw_top < lw_j k x y ∨ lw_j k x y < -lw_top)))), σ') ∧ jep mw_S σ σ' ∧ (¬ (lw_top < lw_j k x y ∨ lw_j k x y < -lw_top) → mst σ' (lw_j k x y :: s)) := by
  obtain ⟨h1, h2, h3, h4⟩ := h
  have h1 : σ.1 86 35 = nI (s.length + 2) := h1
  have h2 : σ.2.1 103 (s.length + 1) = y := h2
  have ecd : ¬ lw_cd k = 260 := by
    unfold lw_op at hk
    rcases hk with rfl | rfl | rfl | rfl | rfl | rfl | rfl | rfl | rfl | rfl | rfl | rfl | rfl <;> decide
  rw [e_M_works, q_M_works_0, h1, show nI (s.length + 2) - 1 = nI (s.length + 1) from nI_pred _, rdL_ok (a := 103) (n := 64) rfl rfl (by omega) (by omega), h2]
  simp only [Option.bind_some]
  rw [jif_f ecd, m_works3 d (lw_cd k) x y s.length hs σ h1 h3 (abs_b hx).2.2]
  unfold mw_T
  rcases lw_m_j hk hx hy with ⟨e1, e2⟩ | e1
  · rw [e1]
    have hb : lw_top < lw_j k x y ∨ lw_j k x y < -lw_top := by rw [e2]; exact Or.inr (by decide)
    rw [b2i_f (fun q => q hb)]
    exact ⟨_, rfl, jep.rf.sI (Or.inr ⟨rfl, rfl⟩), fun q => absurd hb q⟩
  · rw [e1]
    show ∃ σ', b_M_works_37 (d + 1) (lw_j k x y) (j_setI σ 86 35 (nI (s.length + 1))) = _ ∧ _
    rw [m_w37 (d + 1) (lw_j k x y) s.length (by omega) _ setI_86]
    refine ⟨_, rfl, (jep.rf.sI (Or.inr ⟨rfl, rfl⟩)).sL (Or.inl rfl), fun _ => ⟨setI_86 (σ := σ), ?_⟩⟩
    rw [setL_up]
    exact stk_push h4
