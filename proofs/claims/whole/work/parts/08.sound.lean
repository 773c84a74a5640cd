/-! Each instruction of the small machine is the Jvm's. -/
def jlen (i : Instr) : Nat := match i with
  | .bipush _ => 2
  | .sipush _ => 3
  | .ldc _ => 2
  | .ldc_w _ => 3
  | .ldc2_w _ => 3
  | .iload _ => 2
  | .lload _ => 2
  | .aload _ => 2
  | .istore _ => 2
  | .lstore _ => 2
  | .astore _ => 2
  | .iinc _ _ => 3
  | .getfield _ => 3
  | .putfield _ => 3
  | .goto _ => 3
  | .ifCond _ _ => 3
  | .if_icmp _ _ => 3
  | .invokevirtual _ => 3
  | .invokestatic _ => 3
  | .new _ => 3
  | .invokespecial _ => 3
  | _ => 1
def j_switch (i : Instr) : Bool := match i with
  | .tableswitch _ _ _ _ => true
  | .lookupswitch _ _ => true
  | _ => false
def j_term (i : Instr) : Bool := match i with
  | .goto _ => true
  | .tableswitch _ _ _ _ => true
  | .lookupswitch _ _ => true
  | .ireturn => true
  | .lreturn => true
  | .return_ => true
  | .athrow => true
  | _ => false
def jpc (B : List jB) (j : Nat) : Option Nat := (B[j]?).map fun b => b.1
def j_tgt (B : List jB) (t pc : Nat) (off : Int) : Bool := match jpc B t with
  | some q => decide ((pc : Int) + off = (q : Int))
  | none => false
def j_tgts (B : List jB) (pc : Nat) : List Nat → List Int → Bool
  | [], [] => true
  | t :: ts, o :: os => j_tgt B t pc o && j_tgts B pc ts os
  | _, _ => false
def j_rk (rt : Nat) : Nat := match rt with
  | 0 => 0
  | 1 => 1
  | 2 => 1
  | _ => 2
/-- what is asked of an instruction: own, the class of the method by number; nL, its locals -/
def okI (scr : Bool) (own nL : Nat) (B : List jB) (pc : Nat) (i : Instr) (ex : List Nat) : Bool := match i with
  | .ldc idx => match ex with
    | [v] => jLC.contains (own, idx, v)
    | [v, _] => jLS.contains (own, idx, v)
    | _ => false
  | .ldc_w idx => match ex with
    | [v] => jLC.contains (own, idx, v)
    | _ => false
  | .ldc2_w idx => match ex with
    | [v] => jLJ.contains (own, idx, v)
    | _ => false
  | .istore_n n => decide ((n : Nat) < nL)
  | .istore n => decide (n < nL)
  | .astore_n n => decide ((n : Nat) < nL)
  | .astore n => decide (n < nL)
  | .iinc n _ => decide (n < nL)
  | .lstore_n n => decide ((n : Nat) + 1 < nL)
  | .lstore n => decide (n + 1 < nL)
  | .iaload => match ex with
    | [] => true
    | [y] => scr && decide (y = 9998)
    | _ => false
  | .arraylength => match ex with
    | [] => true
    | [y] => scr && decide (y = 9999)
    | _ => false
  | .getfield idx => match ex with
    | [ci, f, k] => jLF.contains (own, idx, ci, f) && decide ((j_fk ci)[f]? = some k)
    | _ => false
  | .putfield idx => match ex with
    | [ci, f, k] => jLF.contains (own, idx, ci, f) && decide ((j_fk ci)[f]? = some k)
    | _ => false
  | .goto off => match ex with
    | [t] => j_tgt B t pc off
    | _ => false
  | .ifCond _ off => match ex with
    | [t] => j_tgt B t pc off
    | _ => false
  | .if_icmp _ off => match ex with
    | [t] => j_tgt B t pc off
    | _ => false
  | .tableswitch d lo hi offs => match ex with
    | t :: ts => j_tgt B t pc d && j_tgts B pc ts offs.toList && decide (hi + 1 = lo + ts.length) && decide (-2147483648 ≤ lo) && decide (hi < 2147483648)
    | _ => false
  | .lookupswitch d ps => match ex with
    | t :: ts => j_tgt B t pc d && j_tgts B pc ts (ps.toList.map fun q => q.2) && ((ps.toList.zip (ps.toList.drop 1)).all (fun (a, next) => a.1 < next.1)) && ps.toList.all (fun q => decide (-2147483648 ≤ q.1) && decide (q.1 < 2147483648))
    | _ => false
  | .invokevirtual idx => match ex with
    | [x] => decide (x = 901) && jLX.contains (own, idx, 901)
    | [x, _] => decide (x = 902) && jLX.contains (own, idx, 902)
    | [x, _, _] => decide (x = 903) && jLX.contains (own, idx, 903)
    | [y, n, ci, rk] => match jMM[y]? with
      | some M => (jLM.contains (own, idx, y) || jLN.contains (own, idx, y)) && decide (M.2.2.2.2.2.2 = 0) && decide (M.2.2.2.2.2.1 = n) && decide (M.2.2.2.2.1 = ci) && decide (j_rk M.2.2.2.1 = rk) && decide (ci < 10)
      | none => false
    | _ => false
  | .invokestatic idx => match ex with
    | [_] => jLA.contains (own, idx)
    | [x, _] => jLH.contains (own, idx, x)
    | [y, n, rk] => match jMM[y]? with
      | some M => (jLM.contains (own, idx, y) || jLN.contains (own, idx, y)) && decide (M.2.2.2.2.2.2 = 1) && decide (M.2.2.2.2.2.1 = n) && decide (j_rk M.2.2.2.1 = rk)
      | none => false
    | _ => false
  | _ => true
def chkB (scr : Bool) (own nL : Nat) (B : List jB) (cc : ByteArray) (nx : Nat) : List jN → Nat → Bool
  | [], pc => decide (jpc B nx = some pc)
  | (i, ex) :: r, pc => match decode cc pc with
    | .ok (i', len) => decide (i' = i) && (decide (len = jlen i) || j_switch i) && okI scr own nL B pc i ex && (j_term i || chkB scr own nL B cc nx r (pc + len))
    | .error _ => false
theorem chk_cons {scr : Bool} {own nL : Nat} {B : List jB} {cc : ByteArray} {nx pc : Nat} {i : Instr} {ex : List Nat} {r : List jN} (h : chkB scr own nL B cc nx ((i, ex) :: r) pc = true) :
    (∃ len, decode cc pc = .ok (i, len)) ∧ okI scr own nL B pc i ex = true ∧ (j_switch i = false → decode cc pc = .ok (i, jlen i)) ∧ (j_switch i = false → j_term i = false → chkB scr own nL B cc nx r (pc + jlen i) = true) := by
  unfold chkB at h
  split at h
  · rename_i i' len hd
    simp only [Bool.and_eq_true, Bool.or_eq_true, decide_eq_true_eq] at h
    obtain ⟨⟨⟨rfl, h2⟩, h3⟩, h4⟩ := h
    refine ⟨⟨len, hd⟩, h3, fun hs => ?_, fun hs ht => ?_⟩
    · rcases h2 with h2 | h2
      · rw [hd, h2]
      · rw [hs] at h2; cases h2
    · rcases h2 with h2 | h2
      · rcases h4 with h4 | h4
        · rw [ht] at h4; cases h4
        · rw [← h2]; exact h4
      · rw [hs] at h2; cases h2
  · cases h
theorem j_tgt_s {B : List jB} {t pc : Nat} {off : Int} (h : j_tgt B t pc off = true) : ∃ q, jpc B t = some q ∧ (pc : Int) + off = (q : Int) := by
  unfold j_tgt at h
  split at h
  · rename_i q hq
    exact ⟨q, hq, decide_eq_true_eq.mp h⟩
  · cases h
theorem j_tgts_s {B : List jB} {pc : Nat} : ∀ (ts : List Nat) (os : List Int), j_tgts B pc ts os = true → ts.length = os.length ∧ ∀ (k t : Nat), ts[k]? = some t → ∃ o, os[k]? = some o ∧ j_tgt B t pc o = true
  | [], [], _ => ⟨rfl, fun k t h => by cases h⟩
  | [], _ :: _, h => by cases h
  | _ :: _, [], h => by cases h
  | t :: ts, o :: os, h => by
    unfold j_tgts at h
    rw [Bool.and_eq_true] at h
    obtain ⟨h1, h2⟩ := j_tgts_s ts os h.2
    refine ⟨by rw [List.length_cons, List.length_cons, h1], fun k t' hk => ?_⟩
    cases k with
    | zero =>
      cases hk
      exact ⟨o, rfl, h.1⟩
    | succ k => exact h2 k t' hk
theorem toInt_ofI {n : Int} (h1 : -2147483648 ≤ n) (h2 : n < 2147483648) : (Int32.ofInt n).toInt = n := Int32.toInt_ofInt_of_le (by omega) (by omega)
theorem sw_table {x : Int32} {d : jR} {f : Nat → jR} {r : Option Value × jS} : ∀ (bs : List Nat) (lo : Int), -2147483648 ≤ lo → lo + bs.length ≤ 2147483648 → j_sw x d f (j_keys lo bs) = some r →
    (∃ k b : Nat, bs[k]? = some b ∧ x.toInt = lo + k ∧ f b = some r) ∨ ((x.toInt < lo ∨ lo + bs.length ≤ x.toInt) ∧ d = some r)
  | [], lo, _, _, h => by
    refine Or.inr ⟨?_, h⟩
    simp only [List.length_nil]
    omega
  | b :: bs, lo, h1, h2, h => by
    simp only [List.length_cons] at h2
    unfold j_keys j_sw jif at h
    have e0 := toInt_ofI h1 (by omega)
    by_cases hx : x = Int32.ofInt lo
    · rw [if_pos hx] at h
      refine Or.inl ⟨0, b, rfl, ?_, h⟩
      rw [hx, e0]
      simp
    · rw [if_neg hx] at h
      have hne : ¬ x.toInt = lo := fun q => hx (Int32.toInt_inj.mp (by rw [e0]; exact q))
      rcases sw_table bs (lo + 1) (by omega) (by omega) h with ⟨k, b', hk, e, hf⟩ | ⟨e, hd⟩
      · exact Or.inl ⟨k + 1, b', hk, by rw [e]; simp only [Int.natCast_add, Int.cast_ofNat_Int]; omega, hf⟩
      · refine Or.inr ⟨?_, hd⟩
        simp only [List.length_cons]
        omega
theorem sw_look {x : Int32} {d : jR} {f : Nat → jR} {r : Option Value × jS} {dflt : Int} : ∀ (ps : List (Int × Int)) (bs : List Nat), bs.length = ps.length → ps.all (fun q => decide (-2147483648 ≤ q.1) && decide (q.1 < 2147483648)) = true → j_sw x d f ((ps.map fun z => z.1).zip bs) = some r →
    (∃ (k b : Nat) (o : Int), bs[k]? = some b ∧ (ps.map fun z => z.2)[k]? = some o ∧ Op.lookupswitch.offset ps dflt x.toInt = o ∧ f b = some r) ∨ (Op.lookupswitch.offset ps dflt x.toInt = dflt ∧ d = some r)
  | [], [], _, _, h => Or.inr ⟨rfl, h⟩
  | [], _ :: _, hl, _, _ => by cases hl
  | _ :: _, [], hl, _, _ => by cases hl
  | (a, o) :: ps, b :: bs, hl, ha, h => by
    simp only [List.all_cons, Bool.and_eq_true, decide_eq_true_eq] at ha
    have h : j_sw x d f ((a, b) :: ((ps.map fun z => z.1).zip bs)) = some r := h
    unfold j_sw jif at h
    have e0 := toInt_ofI ha.1.1 ha.1.2
    by_cases hx : x = Int32.ofInt a
    · rw [if_pos hx] at h
      refine Or.inl ⟨0, b, o, rfl, rfl, ?_, h⟩
      rw [Op.lookupswitch.offset_cons, if_pos]
      rw [hx, e0]
    · rw [if_neg hx] at h
      rw [lv_osw hx e0]
      rcases sw_look (dflt := dflt) ps bs (by simpa using hl) (by simpa using ha.2) h with ⟨k, b', o', h1, h2, h3, h4⟩ | h1
      · exact Or.inl ⟨k + 1, b', o', h1, h2, h3, h4⟩
      · exact Or.inr h1
