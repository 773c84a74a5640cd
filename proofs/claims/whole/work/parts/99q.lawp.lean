/-! The calls of the law's switch, out of op_X. Printed by wip/gen/lawp.py. -/
noncomputable def jSr (L : Nat) (xs : Nat → Int32) (a : List Value) (σ : jS) : jR := match a with
  | [.int i] => @ite _ (vp_in i L) (Classical.propDecidable _) (some (some (.int (xs i.toNatClampNeg)), σ)) none
  | _ => none
/-- the methods, the script's elements and its length -/
noncomputable def jCL (d L : Nat) (xs : Nat → Int32) (y : Nat) (a : List Value) (σ : jS) : jR := cond (y == 9998) (jSr L xs a σ) (cond (y == 9999) (some (some (.int (Int32.ofNat L)), σ)) (jd jMT d y a σ))
theorem lg_self (x : Int64) : lg_cmp x x = 0 := by
  unfold lg_cmp
  simp
theorem lrd {d L k c : Nat} {xs : Nat → Int32} {i : Int32} (hi : i = nI (k + c)) (hk : k + 7 ≤ L) (hL : L ≤ 3584) (hc : c ≤ 6) (σ : jS) : r_I (jCL d L xs 9998 [.int i] σ) = some (xs (k + c), σ) := by
  show r_I (@ite _ (vp_in i L) (Classical.propDecidable _) (some (some (.int (xs i.toNatClampNeg)), σ)) none) = _
  rw [hi, if_pos (show vp_in (nI (k + c)) L from nI_in (by omega) (by omega)), nI_clamp (by omega)]
  rfl
theorem lrd_1 {d L k : Nat} {xs : Nat → Int32} (hk : k + 7 ≤ L) (hL : L ≤ 3584) (σ : jS) : r_I (jCL d L xs 9998 [.int (nI k + 1)] σ) = some (xs (k + 1), σ) := lrd (nI_add k 1) hk hL (by omega) σ
theorem lrd_2 {d L k : Nat} {xs : Nat → Int32} (hk : k + 7 ≤ L) (hL : L ≤ 3584) (σ : jS) : r_I (jCL d L xs 9998 [.int (nI k + 2)] σ) = some (xs (k + 2), σ) := lrd (nI_add k 2) hk hL (by omega) σ
theorem lrd_3 {d L k : Nat} {xs : Nat → Int32} (hk : k + 7 ≤ L) (hL : L ≤ 3584) (σ : jS) : r_I (jCL d L xs 9998 [.int (nI k + 3)] σ) = some (xs (k + 3), σ) := lrd (nI_add k 3) hk hL (by omega) σ
theorem lrd_4 {d L k : Nat} {xs : Nat → Int32} (hk : k + 7 ≤ L) (hL : L ≤ 3584) (σ : jS) : r_I (jCL d L xs 9998 [.int (nI k + 4)] σ) = some (xs (k + 4), σ) := lrd (nI_add k 4) hk hL (by omega) σ
theorem lrd_5 {d L k : Nat} {xs : Nat → Int32} (hk : k + 7 ≤ L) (hL : L ≤ 3584) (σ : jS) : r_I (jCL d L xs 9998 [.int (nI k + 5)] σ) = some (xs (k + 5), σ) := lrd (nI_add k 5) hk hL (by omega) σ
theorem lrd_6 {d L k : Nat} {xs : Nat → Int32} (hk : k + 7 ≤ L) (hL : L ≤ 3584) (σ : jS) : r_I (jCL d L xs 9998 [.int (nI k + 6)] σ) = some (xs (k + 6), σ) := lrd (nI_add k 6) hk hL (by omega) σ
theorem lwp_1 {L k : Nat} {xs : Nat → Int32} (hk : k + 7 ≤ L) (hL : L ≤ 3584) (σ : jS) (t : Nat) (g : jInv σ t) (K : Nat → jL → List Value → jS → jR) : ∃ σ' t', jInv σ' t' ∧ jb (jCL 136 L xs) 2 K 0 lwI_1 [(4, .int (nI k)), (0, .ref 2000), (1, .ref 0), (2, .ref 86), (3, .ref 126)] [] σ = K 39 [(4, .int (nI k)), (0, .ref 2000), (1, .ref 0), (2, .ref 86), (3, .ref 126)] [] σ' := by
  obtain ⟨r, σ1, σ2, t', h1, h2, h3⟩ := op_feed (d := 134) (a := (xs (k + 1))) (b := (xs (k + 2))) (c := (xs (k + 3))) (e := (xs (k + 4))) (f := (xs (k + 5))) (σ := σ) (t := t) (g := g)
  refine ⟨σ2, t', h3, ?_⟩
  rw [lwq_1]
  simp only [lrd_1 hk hL, lrd_2 hk hL, lrd_3 hk hL, lrd_4 hk hL, lrd_5 hk hL, Option.bind_some]
  rw [show jCL 136 L xs 110 [.ref 0, .int (xs (k + 1)), .int (xs (k + 2)), .int (xs (k + 3)), .int (xs (k + 4)), .int (xs (k + 5))] σ = some (some (.int r), σ1) from h1, rI_s]
  simp only [lrd_1 hk hL, lrd_2 hk hL, lrd_3 hk hL, lrd_4 hk hL, lrd_5 hk hL, Option.bind_some]
  rw [show jCL 136 L xs 155 [.ref 86, .int (xs (k + 1)), .int (xs (k + 2)), .int (xs (k + 3)), .int (xs (k + 4)), .int (xs (k + 5))] σ1 = some (some (.int r), σ2) from h2, rI_s]
  simp only [Option.bind_some]
  exact jif_t (by first | exact trivial | exact rfl)
theorem lwp_2 {L k : Nat} {xs : Nat → Int32} (hk : k + 7 ≤ L) (hL : L ≤ 3584) (σ : jS) (t : Nat) (g : jInv σ t) (K : Nat → jL → List Value → jS → jR) : ∃ σ' t', jInv σ' t' ∧ jb (jCL 136 L xs) 2 K 0 lwI_2 [(4, .int (nI k)), (0, .ref 2000), (1, .ref 0), (2, .ref 86), (3, .ref 126)] [] σ = K 39 [(4, .int (nI k)), (0, .ref 2000), (1, .ref 0), (2, .ref 86), (3, .ref 126)] [] σ' := by
  obtain ⟨r, σ1, σ2, t', h1, h2, h3⟩ := op_text (d := 0) (n := (xs (k + 1))) (σ := σ) (t := t) (g := g)
  refine ⟨σ2, t', h3, ?_⟩
  rw [lwq_2]
  simp only [lrd_1 hk hL, Option.bind_some]
  rw [show jCL 136 L xs 112 [.ref 0, .int (xs (k + 1))] σ = some (some (.int r), σ1) from h1, rI_s]
  simp only [lrd_1 hk hL, Option.bind_some]
  rw [show jCL 136 L xs 187 [.ref 86, .int (xs (k + 1))] σ1 = some (some (.int r), σ2) from h2, rI_s]
  simp only [Option.bind_some]
  exact jif_t (by first | exact trivial | exact rfl)
theorem lwp_3 {L k : Nat} {xs : Nat → Int32} (hk : k + 7 ≤ L) (hL : L ≤ 3584) (σ : jS) (t : Nat) (g : jInv σ t) (K : Nat → jL → List Value → jS → jR) : ∃ σ' t', jInv σ' t' ∧ jb (jCL 136 L xs) 2 K 0 lwI_3 [(4, .int (nI k)), (0, .ref 2000), (1, .ref 0), (2, .ref 86), (3, .ref 126)] [] σ = K 39 [(4, .int (nI k)), (0, .ref 2000), (1, .ref 0), (2, .ref 86), (3, .ref 126)] [] σ' := by
  obtain ⟨r, σ1, σ2, t', h1, h2, h3⟩ := op_fault (d := 135) (w := (xs (k + 1))) (σ := σ) (t := t) (g := g)
  refine ⟨σ2, t', h3, ?_⟩
  rw [lwq_3]
  simp only [lrd_1 hk hL, Option.bind_some]
  rw [show jCL 136 L xs 113 [.ref 0, .int (xs (k + 1))] σ = some (some (.int r), σ1) from h1, rI_s]
  simp only [lrd_1 hk hL, Option.bind_some]
  rw [show jCL 136 L xs 188 [.ref 86, .int (xs (k + 1))] σ1 = some (some (.int r), σ2) from h2, rI_s]
  simp only [Option.bind_some]
  exact jif_t (by first | exact trivial | exact rfl)
theorem lwp_4 {L k : Nat} {xs : Nat → Int32} (hk : k + 7 ≤ L) (hL : L ≤ 3584) (σ : jS) (t : Nat) (g : jInv σ t) (K : Nat → jL → List Value → jS → jR) : ∃ σ' t', jInv σ' t' ∧ jb (jCL 136 L xs) 2 K 0 lwI_4 [(4, .int (nI k)), (0, .ref 2000), (1, .ref 0), (2, .ref 86), (3, .ref 126)] [] σ = K 39 [(4, .int (nI k)), (0, .ref 2000), (1, .ref 0), (2, .ref 86), (3, .ref 126)] [] σ' := by
  obtain ⟨r, σ1, σ2, t', h1, h2, h3⟩ := op_named (d := 133) (w := (xs (k + 1))) (x := (xs (k + 2))) (σ := σ) (t := t) (g := g)
  refine ⟨σ2, t', h3, ?_⟩
  rw [lwq_4]
  simp only [lrd_1 hk hL, lrd_2 hk hL, Option.bind_some]
  rw [show jCL 136 L xs 114 [.ref 0, .int (xs (k + 1)), .int (xs (k + 2))] σ = some (some (.int r), σ1) from h1, rI_s]
  simp only [lrd_1 hk hL, lrd_2 hk hL, Option.bind_some]
  rw [show jCL 136 L xs 189 [.ref 86, .int (xs (k + 1)), .int (xs (k + 2))] σ1 = some (some (.int r), σ2) from h2, rI_s]
  simp only [Option.bind_some]
  exact jif_t (by first | exact trivial | exact rfl)
theorem lwp_10 {L k : Nat} {xs : Nat → Int32} (hk : k + 7 ≤ L) (hL : L ≤ 3584) (σ : jS) (t : Nat) (g : jInv σ t) (K : Nat → jL → List Value → jS → jR) : ∃ σ' t', jInv σ' t' ∧ jb (jCL 136 L xs) 2 K 0 lwI_10 [(4, .int (nI k)), (0, .ref 2000), (1, .ref 0), (2, .ref 86), (3, .ref 126)] [] σ = K 39 [(4, .int (nI k)), (0, .ref 2000), (1, .ref 0), (2, .ref 86), (3, .ref 126)] [] σ' := by
  obtain ⟨r, σ1, σ2, t', h1, h2, h3⟩ := op_hours (d := 128) (n := (xs (k + 1))) (σ := σ) (t := t) (g := g)
  refine ⟨σ2, t', h3, ?_⟩
  rw [lwq_10]
  simp only [lrd_1 hk hL, Option.bind_some]
  rw [show jCL 136 L xs 116 [.ref 0, .int (xs (k + 1))] σ = some (some (.int r), σ1) from h1, rI_s]
  simp only [lrd_1 hk hL, Option.bind_some]
  rw [show jCL 136 L xs 209 [.ref 86, .int (xs (k + 1))] σ1 = some (some (.int r), σ2) from h2, rI_s]
  simp only [Option.bind_some]
  exact jif_t (by first | exact trivial | exact rfl)
theorem lwp_11 {L k : Nat} {xs : Nat → Int32} (hk : k + 7 ≤ L) (hL : L ≤ 3584) (σ : jS) (t : Nat) (g : jInv σ t) (K : Nat → jL → List Value → jS → jR) : ∃ σ' t', jInv σ' t' ∧ jb (jCL 136 L xs) 2 K 0 lwI_11 [(4, .int (nI k)), (0, .ref 2000), (1, .ref 0), (2, .ref 86), (3, .ref 126)] [] σ = K 39 [(4, .int (nI k)), (0, .ref 2000), (1, .ref 0), (2, .ref 86), (3, .ref 126)] [] σ' := by
  obtain ⟨r, σ1, σ2, t', h1, h2, h3⟩ := op_send (d := 133) (x := (xs (k + 1))) (y := (xs (k + 2))) (σ := σ) (t := t) (g := g)
  refine ⟨σ2, t', h3, ?_⟩
  rw [lwq_11]
  simp only [lrd_1 hk hL, lrd_2 hk hL, Option.bind_some]
  rw [show jCL 136 L xs 117 [.ref 0, .int (xs (k + 1)), .int (xs (k + 2))] σ = some (some (.int r), σ1) from h1, rI_s]
  simp only [lrd_1 hk hL, lrd_2 hk hL, Option.bind_some]
  rw [show jCL 136 L xs 210 [.ref 86, .int (xs (k + 1)), .int (xs (k + 2))] σ1 = some (some (.int r), σ2) from h2, rI_s]
  simp only [Option.bind_some]
  exact jif_t (by first | exact trivial | exact rfl)
theorem lwp_12 {L k : Nat} {xs : Nat → Int32} (hk : k + 7 ≤ L) (hL : L ≤ 3584) (σ : jS) (t : Nat) (g : jInv σ t) (K : Nat → jL → List Value → jS → jR) : ∃ σ' t', jInv σ' t' ∧ jb (jCL 136 L xs) 2 K 0 lwI_12 [(4, .int (nI k)), (0, .ref 2000), (1, .ref 0), (2, .ref 86), (3, .ref 126)] [] σ = K 39 [(4, .int (nI k)), (0, .ref 2000), (1, .ref 0), (2, .ref 86), (3, .ref 126)] [] σ' := by
  obtain ⟨r, σ1, σ2, t', h1, h2, h3⟩ := op_parcel (d := 133) (x := (xs (k + 1))) (w := (xs (k + 2))) (σ := σ) (t := t) (g := g)
  refine ⟨σ2, t', h3, ?_⟩
  rw [lwq_12]
  simp only [lrd_1 hk hL, lrd_2 hk hL, Option.bind_some]
  rw [show jCL 136 L xs 118 [.ref 0, .int (xs (k + 1)), .int (xs (k + 2))] σ = some (some (.int r), σ1) from h1, rI_s]
  simp only [lrd_1 hk hL, lrd_2 hk hL, Option.bind_some]
  rw [show jCL 136 L xs 212 [.ref 86, .int (xs (k + 1)), .int (xs (k + 2))] σ1 = some (some (.int r), σ2) from h2, rI_s]
  simp only [Option.bind_some]
  exact jif_t (by first | exact trivial | exact rfl)
theorem lwp_13 {L k : Nat} {xs : Nat → Int32} (hk : k + 7 ≤ L) (hL : L ≤ 3584) (σ : jS) (t : Nat) (g : jInv σ t) (K : Nat → jL → List Value → jS → jR) : ∃ σ' t', jInv σ' t' ∧ jb (jCL 136 L xs) 2 K 0 lwI_13 [(4, .int (nI k)), (0, .ref 2000), (1, .ref 0), (2, .ref 86), (3, .ref 126)] [] σ = K 39 [(4, .int (nI k)), (0, .ref 2000), (1, .ref 0), (2, .ref 86), (3, .ref 126)] [] σ' := by
  obtain ⟨r, σ1, σ2, t', h1, h2, h3⟩ := op_coins (d := 134)  (σ := σ) (t := t) (g := g)
  refine ⟨σ2, t', h3, ?_⟩
  rw [lwq_13]
  skip
  rw [show jCL 136 L xs 119 [.ref 0] σ = some (some (.long r), σ1) from h1, rL_s]
  simp only [Option.bind_some]
  rw [show jCL 136 L xs 213 [.ref 86] σ1 = some (some (.long r), σ2) from h2, rL_s]
  simp only [Option.bind_some]
  exact jif_t (lg_self r)
theorem lwp_14 {L k : Nat} {xs : Nat → Int32} (hk : k + 7 ≤ L) (hL : L ≤ 3584) (σ : jS) (t : Nat) (g : jInv σ t) (K : Nat → jL → List Value → jS → jR) : ∃ σ' t', jInv σ' t' ∧ jb (jCL 136 L xs) 2 K 0 lwI_14 [(4, .int (nI k)), (0, .ref 2000), (1, .ref 0), (2, .ref 86), (3, .ref 126)] [] σ = K 39 [(4, .int (nI k)), (0, .ref 2000), (1, .ref 0), (2, .ref 86), (3, .ref 126)] [] σ' := by
  obtain ⟨r, σ1, σ2, t', h1, h2, h3⟩ := op_rest (d := 128)  (σ := σ) (t := t) (g := g)
  refine ⟨σ2, t', h3, ?_⟩
  rw [lwq_14]
  skip
  rw [show jCL 136 L xs 120 [.ref 0] σ = some (some (.int r), σ1) from h1, rI_s]
  simp only [Option.bind_some]
  rw [show jCL 136 L xs 215 [.ref 86] σ1 = some (some (.int r), σ2) from h2, rI_s]
  simp only [Option.bind_some]
  exact jif_t (by first | exact trivial | exact rfl)
theorem lwp_15 {L k : Nat} {xs : Nat → Int32} (hk : k + 7 ≤ L) (hL : L ≤ 3584) (σ : jS) (t : Nat) (g : jInv σ t) (K : Nat → jL → List Value → jS → jR) : ∃ σ' t', jInv σ' t' ∧ jb (jCL 136 L xs) 2 K 0 lwI_15 [(4, .int (nI k)), (0, .ref 2000), (1, .ref 0), (2, .ref 86), (3, .ref 126)] [] σ = K 39 [(4, .int (nI k)), (0, .ref 2000), (1, .ref 0), (2, .ref 86), (3, .ref 126)] [] σ' := by
  obtain ⟨r, σ1, σ2, t', h1, h2, h3⟩ := op_arrives (d := 130) (n := (xs (k + 1))) (code := ((((Int32.toInt64 (xs (k + 2))) : Int64) <<< (Int32.toInt64 32 &&& 63)) ||| ((Int32.toInt64 (xs (k + 3))) &&& 4294967295))) (coins := (xs (k + 4))) (σ := σ) (t := t) (g := g)
  refine ⟨σ2, t', h3, ?_⟩
  rw [lwq_15]
  simp only [lrd_1 hk hL, lrd_2 hk hL, lrd_3 hk hL, lrd_4 hk hL, Option.bind_some]
  rw [show jCL 136 L xs 121 [.ref 0, .int (xs (k + 1)), .long ((((Int32.toInt64 (xs (k + 2))) : Int64) <<< (Int32.toInt64 32 &&& 63)) ||| ((Int32.toInt64 (xs (k + 3))) &&& 4294967295)), .int (xs (k + 4))] σ = some (some (.int r), σ1) from h1, rI_s]
  simp only [lrd_1 hk hL, lrd_2 hk hL, lrd_3 hk hL, lrd_4 hk hL, Option.bind_some]
  rw [show jCL 136 L xs 220 [.ref 86, .int (xs (k + 1)), .long ((((Int32.toInt64 (xs (k + 2))) : Int64) <<< (Int32.toInt64 32 &&& 63)) ||| ((Int32.toInt64 (xs (k + 3))) &&& 4294967295)), .int (xs (k + 4))] σ1 = some (some (.int r), σ2) from h2, rI_s]
  simp only [Option.bind_some]
  exact jif_t (by first | exact trivial | exact rfl)
theorem lwp_16 {L k : Nat} {xs : Nat → Int32} (hk : k + 7 ≤ L) (hL : L ≤ 3584) (σ : jS) (t : Nat) (g : jInv σ t) (K : Nat → jL → List Value → jS → jR) : ∃ σ' t', jInv σ' t' ∧ jb (jCL 136 L xs) 2 K 0 lwI_16 [(4, .int (nI k)), (0, .ref 2000), (1, .ref 0), (2, .ref 86), (3, .ref 126)] [] σ = K 39 [(4, .int (nI k)), (0, .ref 2000), (1, .ref 0), (2, .ref 86), (3, .ref 126)] [] σ' := by
  obtain ⟨r, σ1, σ2, t', h1, h2, h3⟩ := op_keeps (d := 130) (n := (xs (k + 1))) (code := ((((Int32.toInt64 (xs (k + 2))) : Int64) <<< (Int32.toInt64 32 &&& 63)) ||| ((Int32.toInt64 (xs (k + 3))) &&& 4294967295))) (coins := (xs (k + 4))) (w := (xs (k + 5))) (σ := σ) (t := t) (g := g)
  refine ⟨σ2, t', h3, ?_⟩
  rw [lwq_16]
  simp only [lrd_1 hk hL, lrd_2 hk hL, lrd_3 hk hL, lrd_4 hk hL, lrd_5 hk hL, Option.bind_some]
  rw [show jCL 136 L xs 122 [.ref 0, .int (xs (k + 1)), .long ((((Int32.toInt64 (xs (k + 2))) : Int64) <<< (Int32.toInt64 32 &&& 63)) ||| ((Int32.toInt64 (xs (k + 3))) &&& 4294967295)), .int (xs (k + 4)), .int (xs (k + 5))] σ = some (some (.int r), σ1) from h1, rI_s]
  simp only [lrd_1 hk hL, lrd_2 hk hL, lrd_3 hk hL, lrd_4 hk hL, lrd_5 hk hL, Option.bind_some]
  rw [show jCL 136 L xs 221 [.ref 86, .int (xs (k + 1)), .long ((((Int32.toInt64 (xs (k + 2))) : Int64) <<< (Int32.toInt64 32 &&& 63)) ||| ((Int32.toInt64 (xs (k + 3))) &&& 4294967295)), .int (xs (k + 4)), .int (xs (k + 5))] σ1 = some (some (.int r), σ2) from h2, rI_s]
  simp only [Option.bind_some]
  exact jif_t (by first | exact trivial | exact rfl)
theorem lwp_17 {L k : Nat} {xs : Nat → Int32} (hk : k + 7 ≤ L) (hL : L ≤ 3584) (σ : jS) (t : Nat) (g : jInv σ t) (K : Nat → jL → List Value → jS → jR) : ∃ σ' t', jInv σ' t' ∧ jb (jCL 136 L xs) 2 K 0 lwI_17 [(4, .int (nI k)), (0, .ref 2000), (1, .ref 0), (2, .ref 86), (3, .ref 126)] [] σ = K 39 [(4, .int (nI k)), (0, .ref 2000), (1, .ref 0), (2, .ref 86), (3, .ref 126)] [] σ' := by
  obtain ⟨r, σ1, σ2, t', h1, h2, h3⟩ := op_back (d := 128) (n := (xs (k + 1))) (code := ((((Int32.toInt64 (xs (k + 2))) : Int64) <<< (Int32.toInt64 32 &&& 63)) ||| ((Int32.toInt64 (xs (k + 3))) &&& 4294967295))) (T := (xs (k + 4))) (w := (xs (k + 5))) (σ := σ) (t := t) (g := g)
  refine ⟨σ2, t', h3, ?_⟩
  rw [lwq_17]
  simp only [lrd_1 hk hL, lrd_2 hk hL, lrd_3 hk hL, lrd_4 hk hL, lrd_5 hk hL, Option.bind_some]
  rw [show jCL 136 L xs 123 [.ref 0, .int (xs (k + 1)), .long ((((Int32.toInt64 (xs (k + 2))) : Int64) <<< (Int32.toInt64 32 &&& 63)) ||| ((Int32.toInt64 (xs (k + 3))) &&& 4294967295)), .int (xs (k + 4)), .int (xs (k + 5))] σ = some (some (.int r), σ1) from h1, rI_s]
  simp only [lrd_1 hk hL, lrd_2 hk hL, lrd_3 hk hL, lrd_4 hk hL, lrd_5 hk hL, Option.bind_some]
  rw [show jCL 136 L xs 225 [.ref 86, .int (xs (k + 1)), .long ((((Int32.toInt64 (xs (k + 2))) : Int64) <<< (Int32.toInt64 32 &&& 63)) ||| ((Int32.toInt64 (xs (k + 3))) &&& 4294967295)), .int (xs (k + 4)), .int (xs (k + 5))] σ1 = some (some (.int r), σ2) from h2, rI_s]
  simp only [Option.bind_some]
  exact jif_t (by first | exact trivial | exact rfl)
theorem lwp_18 {L k : Nat} {xs : Nat → Int32} (hk : k + 7 ≤ L) (hL : L ≤ 3584) (σ : jS) (t : Nat) (g : jInv σ t) (K : Nat → jL → List Value → jS → jR) : ∃ σ' t', jInv σ' t' ∧ jb (jCL 136 L xs) 2 K 0 lwI_18 [(4, .int (nI k)), (0, .ref 2000), (1, .ref 0), (2, .ref 86), (3, .ref 126)] [] σ = K 39 [(4, .int (nI k)), (0, .ref 2000), (1, .ref 0), (2, .ref 86), (3, .ref 126)] [] σ' := by
  obtain ⟨r, σ1, σ2, t', h1, h2, h3⟩ := op_span (d := 128) (n := (xs (k + 1))) (code := ((((Int32.toInt64 (xs (k + 2))) : Int64) <<< (Int32.toInt64 32 &&& 63)) ||| ((Int32.toInt64 (xs (k + 3))) &&& 4294967295))) (T := (xs (k + 4))) (x := (xs (k + 5))) (w := (xs (k + 6))) (σ := σ) (t := t) (g := g)
  refine ⟨σ2, t', h3, ?_⟩
  rw [lwq_18]
  simp only [lrd_1 hk hL, lrd_2 hk hL, lrd_3 hk hL, lrd_4 hk hL, lrd_5 hk hL, lrd_6 hk hL, Option.bind_some]
  rw [show jCL 136 L xs 124 [.ref 0, .int (xs (k + 1)), .long ((((Int32.toInt64 (xs (k + 2))) : Int64) <<< (Int32.toInt64 32 &&& 63)) ||| ((Int32.toInt64 (xs (k + 3))) &&& 4294967295)), .int (xs (k + 4)), .int (xs (k + 5)), .int (xs (k + 6))] σ = some (some (.int r), σ1) from h1, rI_s]
  simp only [lrd_1 hk hL, lrd_2 hk hL, lrd_3 hk hL, lrd_4 hk hL, lrd_5 hk hL, lrd_6 hk hL, Option.bind_some]
  rw [show jCL 136 L xs 226 [.ref 86, .int (xs (k + 1)), .long ((((Int32.toInt64 (xs (k + 2))) : Int64) <<< (Int32.toInt64 32 &&& 63)) ||| ((Int32.toInt64 (xs (k + 3))) &&& 4294967295)), .int (xs (k + 4)), .int (xs (k + 5)), .int (xs (k + 6))] σ1 = some (some (.int r), σ2) from h2, rI_s]
  simp only [Option.bind_some]
  exact jif_t (by first | exact trivial | exact rfl)
theorem lwp_19 {L k : Nat} {xs : Nat → Int32} (hk : k + 7 ≤ L) (hL : L ≤ 3584) (σ : jS) (t : Nat) (g : jInv σ t) (K : Nat → jL → List Value → jS → jR) : ∃ σ' t', jInv σ' t' ∧ jb (jCL 136 L xs) 2 K 0 lwI_19 [(4, .int (nI k)), (0, .ref 2000), (1, .ref 0), (2, .ref 86), (3, .ref 126)] [] σ = K 39 [(4, .int (nI k)), (0, .ref 2000), (1, .ref 0), (2, .ref 86), (3, .ref 126)] [] σ' := by
  obtain ⟨r, σ1, σ2, t', h1, h2, h3⟩ := op_best (d := 118) (n := (xs (k + 1))) (code := ((((Int32.toInt64 (xs (k + 2))) : Int64) <<< (Int32.toInt64 32 &&& 63)) ||| ((Int32.toInt64 (xs (k + 3))) &&& 4294967295))) (x := (xs (k + 4))) (y := (xs (k + 5))) (σ := σ) (t := t) (g := g)
  refine ⟨σ2, t', h3, ?_⟩
  rw [lwq_19]
  simp only [lrd_1 hk hL, lrd_2 hk hL, lrd_3 hk hL, lrd_4 hk hL, lrd_5 hk hL, Option.bind_some]
  rw [show jCL 136 L xs 126 [.ref 0, .int (xs (k + 1)), .long ((((Int32.toInt64 (xs (k + 2))) : Int64) <<< (Int32.toInt64 32 &&& 63)) ||| ((Int32.toInt64 (xs (k + 3))) &&& 4294967295)), .int (xs (k + 4)), .int (xs (k + 5))] σ = some (some (.int r), σ1) from h1, rI_s]
  simp only [lrd_1 hk hL, lrd_2 hk hL, lrd_3 hk hL, lrd_4 hk hL, lrd_5 hk hL, Option.bind_some]
  rw [show jCL 136 L xs 232 [.ref 86, .int (xs (k + 1)), .long ((((Int32.toInt64 (xs (k + 2))) : Int64) <<< (Int32.toInt64 32 &&& 63)) ||| ((Int32.toInt64 (xs (k + 3))) &&& 4294967295)), .int (xs (k + 4)), .int (xs (k + 5))] σ1 = some (some (.int r), σ2) from h2, rI_s]
  simp only [Option.bind_some]
  exact jif_t (by first | exact trivial | exact rfl)
theorem lwp_20 {L k : Nat} {xs : Nat → Int32} (hk : k + 7 ≤ L) (hL : L ≤ 3584) (σ : jS) (t : Nat) (g : jInv σ t) (K : Nat → jL → List Value → jS → jR) : ∃ σ' t', jInv σ' t' ∧ jb (jCL 136 L xs) 2 K 0 lwI_20 [(4, .int (nI k)), (0, .ref 2000), (1, .ref 0), (2, .ref 86), (3, .ref 126)] [] σ = K 39 [(4, .int (nI k)), (0, .ref 2000), (1, .ref 0), (2, .ref 86), (3, .ref 126)] [] σ' := by
  obtain ⟨r, σ1, σ2, t', h1, h2, h3⟩ := op_order (d := 118) (n := (xs (k + 1))) (code := ((((Int32.toInt64 (xs (k + 2))) : Int64) <<< (Int32.toInt64 32 &&& 63)) ||| ((Int32.toInt64 (xs (k + 3))) &&& 4294967295))) (x := (xs (k + 4))) (y := (xs (k + 5))) (σ := σ) (t := t) (g := g)
  refine ⟨σ2, t', h3, ?_⟩
  rw [lwq_20]
  simp only [lrd_1 hk hL, lrd_2 hk hL, lrd_3 hk hL, lrd_4 hk hL, lrd_5 hk hL, Option.bind_some]
  rw [show jCL 136 L xs 127 [.ref 0, .int (xs (k + 1)), .long ((((Int32.toInt64 (xs (k + 2))) : Int64) <<< (Int32.toInt64 32 &&& 63)) ||| ((Int32.toInt64 (xs (k + 3))) &&& 4294967295)), .int (xs (k + 4)), .int (xs (k + 5))] σ = some (some (.long r), σ1) from h1, rL_s]
  simp only [lrd_1 hk hL, lrd_2 hk hL, lrd_3 hk hL, lrd_4 hk hL, lrd_5 hk hL, Option.bind_some]
  rw [show jCL 136 L xs 233 [.ref 86, .int (xs (k + 1)), .long ((((Int32.toInt64 (xs (k + 2))) : Int64) <<< (Int32.toInt64 32 &&& 63)) ||| ((Int32.toInt64 (xs (k + 3))) &&& 4294967295)), .int (xs (k + 4)), .int (xs (k + 5))] σ1 = some (some (.long r), σ2) from h2, rL_s]
  simp only [Option.bind_some]
  exact jif_t (lg_self r)
theorem lwp_21 {L k : Nat} {xs : Nat → Int32} (hk : k + 7 ≤ L) (hL : L ≤ 3584) (σ : jS) (t : Nat) (g : jInv σ t) (K : Nat → jL → List Value → jS → jR) : ∃ σ' t', jInv σ' t' ∧ jb (jCL 136 L xs) 2 K 0 lwI_21 [(4, .int (nI k)), (0, .ref 2000), (1, .ref 0), (2, .ref 86), (3, .ref 126)] [] σ = K 39 [(4, .int (nI k)), (0, .ref 2000), (1, .ref 0), (2, .ref 86), (3, .ref 126)] [] σ' := by
  obtain ⟨r, σ1, σ2, t', h1, h2, h3⟩ := op_just (d := 118) (n := (xs (k + 1))) (code := ((((Int32.toInt64 (xs (k + 2))) : Int64) <<< (Int32.toInt64 32 &&& 63)) ||| ((Int32.toInt64 (xs (k + 3))) &&& 4294967295))) (x := (xs (k + 4))) (y := (xs (k + 5))) (σ := σ) (t := t) (g := g)
  refine ⟨σ2, t', h3, ?_⟩
  rw [lwq_21]
  simp only [lrd_1 hk hL, lrd_2 hk hL, lrd_3 hk hL, lrd_4 hk hL, lrd_5 hk hL, Option.bind_some]
  rw [show jCL 136 L xs 128 [.ref 0, .int (xs (k + 1)), .long ((((Int32.toInt64 (xs (k + 2))) : Int64) <<< (Int32.toInt64 32 &&& 63)) ||| ((Int32.toInt64 (xs (k + 3))) &&& 4294967295)), .int (xs (k + 4)), .int (xs (k + 5))] σ = some (some (.int r), σ1) from h1, rI_s]
  simp only [lrd_1 hk hL, lrd_2 hk hL, lrd_3 hk hL, lrd_4 hk hL, lrd_5 hk hL, Option.bind_some]
  rw [show jCL 136 L xs 235 [.ref 86, .int (xs (k + 1)), .long ((((Int32.toInt64 (xs (k + 2))) : Int64) <<< (Int32.toInt64 32 &&& 63)) ||| ((Int32.toInt64 (xs (k + 3))) &&& 4294967295)), .int (xs (k + 4)), .int (xs (k + 5))] σ1 = some (some (.int r), σ2) from h2, rI_s]
  simp only [Option.bind_some]
  exact jif_t (by first | exact trivial | exact rfl)
theorem lwp_22 {L k : Nat} {xs : Nat → Int32} (hk : k + 7 ≤ L) (hL : L ≤ 3584) (σ : jS) (t : Nat) (g : jInv σ t) (K : Nat → jL → List Value → jS → jR) : ∃ σ' t', jInv σ' t' ∧ jb (jCL 136 L xs) 2 K 0 lwI_22 [(4, .int (nI k)), (0, .ref 2000), (1, .ref 0), (2, .ref 86), (3, .ref 126)] [] σ = K 39 [(4, .int (nI k)), (0, .ref 2000), (1, .ref 0), (2, .ref 86), (3, .ref 126)] [] σ' := by
  obtain ⟨r, σ1, σ2, t', h1, h2, h3⟩ := op_first (d := 118) (n := (xs (k + 1))) (code := ((((Int32.toInt64 (xs (k + 2))) : Int64) <<< (Int32.toInt64 32 &&& 63)) ||| ((Int32.toInt64 (xs (k + 3))) &&& 4294967295))) (x := (xs (k + 4))) (y := (xs (k + 5))) (σ := σ) (t := t) (g := g)
  refine ⟨σ2, t', h3, ?_⟩
  rw [lwq_22]
  simp only [lrd_1 hk hL, lrd_2 hk hL, lrd_3 hk hL, lrd_4 hk hL, lrd_5 hk hL, Option.bind_some]
  rw [show jCL 136 L xs 129 [.ref 0, .int (xs (k + 1)), .long ((((Int32.toInt64 (xs (k + 2))) : Int64) <<< (Int32.toInt64 32 &&& 63)) ||| ((Int32.toInt64 (xs (k + 3))) &&& 4294967295)), .int (xs (k + 4)), .int (xs (k + 5))] σ = some (some (.long r), σ1) from h1, rL_s]
  simp only [lrd_1 hk hL, lrd_2 hk hL, lrd_3 hk hL, lrd_4 hk hL, lrd_5 hk hL, Option.bind_some]
  rw [show jCL 136 L xs 236 [.ref 86, .int (xs (k + 1)), .long ((((Int32.toInt64 (xs (k + 2))) : Int64) <<< (Int32.toInt64 32 &&& 63)) ||| ((Int32.toInt64 (xs (k + 3))) &&& 4294967295)), .int (xs (k + 4)), .int (xs (k + 5))] σ1 = some (some (.long r), σ2) from h2, rL_s]
  simp only [Option.bind_some]
  exact jif_t (lg_self r)
theorem lwp_23 {L k : Nat} {xs : Nat → Int32} (hk : k + 7 ≤ L) (hL : L ≤ 3584) (σ : jS) (t : Nat) (g : jInv σ t) (K : Nat → jL → List Value → jS → jR) : ∃ σ' t', jInv σ' t' ∧ jb (jCL 136 L xs) 2 K 0 lwI_23 [(4, .int (nI k)), (0, .ref 2000), (1, .ref 0), (2, .ref 86), (3, .ref 126)] [] σ = K 39 [(4, .int (nI k)), (0, .ref 2000), (1, .ref 0), (2, .ref 86), (3, .ref 126)] [] σ' := by
  obtain ⟨r, σ1, σ2, t', h1, h2, h3⟩ := op_bound (d := 134) (n := (xs (k + 1))) (c := (xs (k + 2))) (w := (xs (k + 3))) (σ := σ) (t := t) (g := g)
  refine ⟨σ2, t', h3, ?_⟩
  rw [lwq_23]
  simp only [lrd_1 hk hL, lrd_2 hk hL, lrd_3 hk hL, Option.bind_some]
  rw [show jCL 136 L xs 130 [.ref 0, .int (xs (k + 1)), .int (xs (k + 2)), .int (xs (k + 3))] σ = some (some (.int r), σ1) from h1, rI_s]
  simp only [lrd_1 hk hL, lrd_2 hk hL, lrd_3 hk hL, Option.bind_some]
  rw [show jCL 136 L xs 237 [.ref 86, .int (xs (k + 1)), .int (xs (k + 2)), .int (xs (k + 3))] σ1 = some (some (.int r), σ2) from h2, rI_s]
  simp only [Option.bind_some]
  exact jif_t (by first | exact trivial | exact rfl)
theorem lwp_24 {L k : Nat} {xs : Nat → Int32} (hk : k + 7 ≤ L) (hL : L ≤ 3584) (σ : jS) (t : Nat) (g : jInv σ t) (K : Nat → jL → List Value → jS → jR) : ∃ σ' t', jInv σ' t' ∧ jb (jCL 136 L xs) 2 K 0 lwI_24 [(4, .int (nI k)), (0, .ref 2000), (1, .ref 0), (2, .ref 86), (3, .ref 126)] [] σ = K 39 [(4, .int (nI k)), (0, .ref 2000), (1, .ref 0), (2, .ref 86), (3, .ref 126)] [] σ' := by
  obtain ⟨r, σ1, σ2, t', h1, h2, h3⟩ := op_gains (d := 118) (n := (xs (k + 1))) (code := ((((Int32.toInt64 (xs (k + 2))) : Int64) <<< (Int32.toInt64 32 &&& 63)) ||| ((Int32.toInt64 (xs (k + 3))) &&& 4294967295))) (x := (xs (k + 4))) (y := (xs (k + 5))) (z := (xs (k + 6))) (σ := σ) (t := t) (g := g)
  refine ⟨σ2, t', h3, ?_⟩
  rw [lwq_24]
  simp only [lrd_1 hk hL, lrd_2 hk hL, lrd_3 hk hL, lrd_4 hk hL, lrd_5 hk hL, lrd_6 hk hL, Option.bind_some]
  rw [show jCL 136 L xs 131 [.ref 0, .int (xs (k + 1)), .long ((((Int32.toInt64 (xs (k + 2))) : Int64) <<< (Int32.toInt64 32 &&& 63)) ||| ((Int32.toInt64 (xs (k + 3))) &&& 4294967295)), .int (xs (k + 4)), .int (xs (k + 5)), .int (xs (k + 6))] σ = some (some (.int r), σ1) from h1, rI_s]
  simp only [lrd_1 hk hL, lrd_2 hk hL, lrd_3 hk hL, lrd_4 hk hL, lrd_5 hk hL, lrd_6 hk hL, Option.bind_some]
  rw [show jCL 136 L xs 238 [.ref 86, .int (xs (k + 1)), .long ((((Int32.toInt64 (xs (k + 2))) : Int64) <<< (Int32.toInt64 32 &&& 63)) ||| ((Int32.toInt64 (xs (k + 3))) &&& 4294967295)), .int (xs (k + 4)), .int (xs (k + 5)), .int (xs (k + 6))] σ1 = some (some (.int r), σ2) from h2, rI_s]
  simp only [Option.bind_some]
  exact jif_t (by first | exact trivial | exact rfl)
theorem lwp_25 {L k : Nat} {xs : Nat → Int32} (hk : k + 7 ≤ L) (hL : L ≤ 3584) (σ : jS) (t : Nat) (g : jInv σ t) (K : Nat → jL → List Value → jS → jR) : ∃ σ' t', jInv σ' t' ∧ jb (jCL 136 L xs) 2 K 0 lwI_25 [(4, .int (nI k)), (0, .ref 2000), (1, .ref 0), (2, .ref 86), (3, .ref 126)] [] σ = K 39 [(4, .int (nI k)), (0, .ref 2000), (1, .ref 0), (2, .ref 86), (3, .ref 126)] [] σ' := by
  obtain ⟨r, σ1, σ2, t', h1, h2, h3⟩ := op_changes (d := 118) (n := (xs (k + 1))) (code := ((((Int32.toInt64 (xs (k + 2))) : Int64) <<< (Int32.toInt64 32 &&& 63)) ||| ((Int32.toInt64 (xs (k + 3))) &&& 4294967295))) (x := (xs (k + 4))) (y := (xs (k + 5))) (σ := σ) (t := t) (g := g)
  refine ⟨σ2, t', h3, ?_⟩
  rw [lwq_25]
  simp only [lrd_1 hk hL, lrd_2 hk hL, lrd_3 hk hL, lrd_4 hk hL, lrd_5 hk hL, Option.bind_some]
  rw [show jCL 136 L xs 132 [.ref 0, .int (xs (k + 1)), .long ((((Int32.toInt64 (xs (k + 2))) : Int64) <<< (Int32.toInt64 32 &&& 63)) ||| ((Int32.toInt64 (xs (k + 3))) &&& 4294967295)), .int (xs (k + 4)), .int (xs (k + 5))] σ = some (some (.int r), σ1) from h1, rI_s]
  simp only [lrd_1 hk hL, lrd_2 hk hL, lrd_3 hk hL, lrd_4 hk hL, lrd_5 hk hL, Option.bind_some]
  rw [show jCL 136 L xs 239 [.ref 86, .int (xs (k + 1)), .long ((((Int32.toInt64 (xs (k + 2))) : Int64) <<< (Int32.toInt64 32 &&& 63)) ||| ((Int32.toInt64 (xs (k + 3))) &&& 4294967295)), .int (xs (k + 4)), .int (xs (k + 5))] σ1 = some (some (.int r), σ2) from h2, rI_s]
  simp only [Option.bind_some]
  exact jif_t (by first | exact trivial | exact rfl)
theorem lwp_26 {L k : Nat} {xs : Nat → Int32} (hk : k + 7 ≤ L) (hL : L ≤ 3584) (σ : jS) (t : Nat) (g : jInv σ t) (K : Nat → jL → List Value → jS → jR) : ∃ σ' t', jInv σ' t' ∧ jb (jCL 136 L xs) 2 K 0 lwI_26 [(4, .int (nI k)), (0, .ref 2000), (1, .ref 0), (2, .ref 86), (3, .ref 126)] [] σ = K 39 [(4, .int (nI k)), (0, .ref 2000), (1, .ref 0), (2, .ref 86), (3, .ref 126)] [] σ' := by
  obtain ⟨r, σ1, σ2, t', h1, h2, h3⟩ := op_changed (d := 118) (n := (xs (k + 1))) (code := ((((Int32.toInt64 (xs (k + 2))) : Int64) <<< (Int32.toInt64 32 &&& 63)) ||| ((Int32.toInt64 (xs (k + 3))) &&& 4294967295))) (x := (xs (k + 4))) (y := (xs (k + 5))) (σ := σ) (t := t) (g := g)
  refine ⟨σ2, t', h3, ?_⟩
  rw [lwq_26]
  simp only [lrd_1 hk hL, lrd_2 hk hL, lrd_3 hk hL, lrd_4 hk hL, lrd_5 hk hL, Option.bind_some]
  rw [show jCL 136 L xs 133 [.ref 0, .int (xs (k + 1)), .long ((((Int32.toInt64 (xs (k + 2))) : Int64) <<< (Int32.toInt64 32 &&& 63)) ||| ((Int32.toInt64 (xs (k + 3))) &&& 4294967295)), .int (xs (k + 4)), .int (xs (k + 5))] σ = some (some (.long r), σ1) from h1, rL_s]
  simp only [lrd_1 hk hL, lrd_2 hk hL, lrd_3 hk hL, lrd_4 hk hL, lrd_5 hk hL, Option.bind_some]
  rw [show jCL 136 L xs 240 [.ref 86, .int (xs (k + 1)), .long ((((Int32.toInt64 (xs (k + 2))) : Int64) <<< (Int32.toInt64 32 &&& 63)) ||| ((Int32.toInt64 (xs (k + 3))) &&& 4294967295)), .int (xs (k + 4)), .int (xs (k + 5))] σ1 = some (some (.long r), σ2) from h2, rL_s]
  simp only [Option.bind_some]
  exact jif_t (lg_self r)
theorem lwp_27 {L k : Nat} {xs : Nat → Int32} (hk : k + 7 ≤ L) (hL : L ≤ 3584) (σ : jS) (t : Nat) (g : jInv σ t) (K : Nat → jL → List Value → jS → jR) : ∃ σ' t', jInv σ' t' ∧ jb (jCL 136 L xs) 2 K 0 lwI_27 [(4, .int (nI k)), (0, .ref 2000), (1, .ref 0), (2, .ref 86), (3, .ref 126)] [] σ = K 39 [(4, .int (nI k)), (0, .ref 2000), (1, .ref 0), (2, .ref 86), (3, .ref 126)] [] σ' := by
  obtain ⟨r, σ1, σ2, t', h1, h2, h3⟩ := op_worth (d := 130) (n := (xs (k + 1))) (code := ((((Int32.toInt64 (xs (k + 2))) : Int64) <<< (Int32.toInt64 32 &&& 63)) ||| ((Int32.toInt64 (xs (k + 3))) &&& 4294967295))) (coins := (xs (k + 4))) (x := (xs (k + 5))) (σ := σ) (t := t) (g := g)
  refine ⟨σ2, t', h3, ?_⟩
  rw [lwq_27]
  simp only [lrd_1 hk hL, lrd_2 hk hL, lrd_3 hk hL, lrd_4 hk hL, lrd_5 hk hL, Option.bind_some]
  rw [show jCL 136 L xs 134 [.ref 0, .int (xs (k + 1)), .long ((((Int32.toInt64 (xs (k + 2))) : Int64) <<< (Int32.toInt64 32 &&& 63)) ||| ((Int32.toInt64 (xs (k + 3))) &&& 4294967295)), .int (xs (k + 4)), .int (xs (k + 5))] σ = some (some (.int r), σ1) from h1, rI_s]
  simp only [lrd_1 hk hL, lrd_2 hk hL, lrd_3 hk hL, lrd_4 hk hL, lrd_5 hk hL, Option.bind_some]
  rw [show jCL 136 L xs 241 [.ref 86, .int (xs (k + 1)), .long ((((Int32.toInt64 (xs (k + 2))) : Int64) <<< (Int32.toInt64 32 &&& 63)) ||| ((Int32.toInt64 (xs (k + 3))) &&& 4294967295)), .int (xs (k + 4)), .int (xs (k + 5))] σ1 = some (some (.int r), σ2) from h2, rI_s]
  simp only [Option.bind_some]
  exact jif_t (by first | exact trivial | exact rfl)
theorem lwp_28 {L k : Nat} {xs : Nat → Int32} (hk : k + 7 ≤ L) (hL : L ≤ 3584) (σ : jS) (t : Nat) (g : jInv σ t) (K : Nat → jL → List Value → jS → jR) : ∃ σ' t', jInv σ' t' ∧ jb (jCL 136 L xs) 2 K 0 lwI_28 [(4, .int (nI k)), (0, .ref 2000), (1, .ref 0), (2, .ref 86), (3, .ref 126)] [] σ = K 39 [(4, .int (nI k)), (0, .ref 2000), (1, .ref 0), (2, .ref 86), (3, .ref 126)] [] σ' := by
  obtain ⟨r, σ1, σ2, t', h1, h2, h3⟩ := op_serves (d := 118) (n := (xs (k + 1))) (code := ((((Int32.toInt64 (xs (k + 2))) : Int64) <<< (Int32.toInt64 32 &&& 63)) ||| ((Int32.toInt64 (xs (k + 3))) &&& 4294967295))) (y := (xs (k + 4))) (σ := σ) (t := t) (g := g)
  refine ⟨σ2, t', h3, ?_⟩
  rw [lwq_28]
  simp only [lrd_1 hk hL, lrd_2 hk hL, lrd_3 hk hL, lrd_4 hk hL, Option.bind_some]
  rw [show jCL 136 L xs 135 [.ref 0, .int (xs (k + 1)), .long ((((Int32.toInt64 (xs (k + 2))) : Int64) <<< (Int32.toInt64 32 &&& 63)) ||| ((Int32.toInt64 (xs (k + 3))) &&& 4294967295)), .int (xs (k + 4))] σ = some (some (.int r), σ1) from h1, rI_s]
  simp only [lrd_1 hk hL, lrd_2 hk hL, lrd_3 hk hL, lrd_4 hk hL, Option.bind_some]
  rw [show jCL 136 L xs 242 [.ref 86, .int (xs (k + 1)), .long ((((Int32.toInt64 (xs (k + 2))) : Int64) <<< (Int32.toInt64 32 &&& 63)) ||| ((Int32.toInt64 (xs (k + 3))) &&& 4294967295)), .int (xs (k + 4))] σ1 = some (some (.int r), σ2) from h2, rI_s]
  simp only [Option.bind_some]
  exact jif_t (by first | exact trivial | exact rfl)
theorem lwp_29 {L k : Nat} {xs : Nat → Int32} (hk : k + 7 ≤ L) (hL : L ≤ 3584) (σ : jS) (t : Nat) (g : jInv σ t) (K : Nat → jL → List Value → jS → jR) : ∃ σ' t', jInv σ' t' ∧ jb (jCL 136 L xs) 2 K 0 lwI_29 [(4, .int (nI k)), (0, .ref 2000), (1, .ref 0), (2, .ref 86), (3, .ref 126)] [] σ = K 39 [(4, .int (nI k)), (0, .ref 2000), (1, .ref 0), (2, .ref 86), (3, .ref 126)] [] σ' := by
  obtain ⟨r, σ1, σ2, t', h1, h2, h3⟩ := op_law (d := 132) (c := (xs (k + 1))) (a := (xs (k + 2))) (n := (xs (k + 3))) (p := (xs (k + 4))) (h := (xs (k + 5))) (σ := σ) (t := t) (g := g)
  refine ⟨σ2, t', h3, ?_⟩
  rw [lwq_29]
  simp only [lrd_1 hk hL, lrd_2 hk hL, lrd_3 hk hL, lrd_4 hk hL, lrd_5 hk hL, Option.bind_some]
  rw [show jCL 136 L xs 137 [.ref 0, .int (xs (k + 1)), .int (xs (k + 2)), .int (xs (k + 3)), .int (xs (k + 4)), .int (xs (k + 5))] σ = some (some (.long r), σ1) from h1, rL_s]
  simp only [lrd_1 hk hL, lrd_2 hk hL, lrd_3 hk hL, lrd_4 hk hL, lrd_5 hk hL, Option.bind_some]
  rw [show jCL 136 L xs 199 [.ref 86, .int (xs (k + 1)), .int (xs (k + 2)), .int (xs (k + 3)), .int (xs (k + 4)), .int (xs (k + 5))] σ1 = some (some (.long r), σ2) from h2, rL_s]
  simp only [Option.bind_some]
  exact jif_t (lg_self r)
theorem lwp_30 {L k : Nat} {xs : Nat → Int32} (hk : k + 7 ≤ L) (hL : L ≤ 3584) (σ : jS) (t : Nat) (g : jInv σ t) (K : Nat → jL → List Value → jS → jR) : ∃ σ' t', jInv σ' t' ∧ jb (jCL 136 L xs) 2 K 0 lwI_30 [(4, .int (nI k)), (0, .ref 2000), (1, .ref 0), (2, .ref 86), (3, .ref 126)] [] σ = K 39 [(4, .int (nI k)), (0, .ref 2000), (1, .ref 0), (2, .ref 86), (3, .ref 126)] [] σ' := by
  obtain ⟨r, σ1, σ2, t', h1, h2, h3⟩ := op_note (d := 131) (n := (xs (k + 1))) (code := ((((Int32.toInt64 (xs (k + 2))) : Int64) <<< (Int32.toInt64 32 &&& 63)) ||| ((Int32.toInt64 (xs (k + 3))) &&& 4294967295))) (coins := (xs (k + 4))) (lo := (xs (k + 5))) (hi := (xs (k + 6))) (σ := σ) (t := t) (g := g)
  refine ⟨σ2, t', h3, ?_⟩
  rw [lwq_30]
  simp only [lrd_1 hk hL, lrd_2 hk hL, lrd_3 hk hL, lrd_4 hk hL, lrd_5 hk hL, lrd_6 hk hL, Option.bind_some]
  rw [show jCL 136 L xs 138 [.ref 0, .int (xs (k + 1)), .long ((((Int32.toInt64 (xs (k + 2))) : Int64) <<< (Int32.toInt64 32 &&& 63)) ||| ((Int32.toInt64 (xs (k + 3))) &&& 4294967295)), .int (xs (k + 4)), .int (xs (k + 5)), .int (xs (k + 6))] σ = some (some (.int r), σ1) from h1, rI_s]
  simp only [lrd_1 hk hL, lrd_2 hk hL, lrd_3 hk hL, lrd_4 hk hL, lrd_5 hk hL, lrd_6 hk hL, Option.bind_some]
  rw [show jCL 136 L xs 243 [.ref 86, .int (xs (k + 1)), .long ((((Int32.toInt64 (xs (k + 2))) : Int64) <<< (Int32.toInt64 32 &&& 63)) ||| ((Int32.toInt64 (xs (k + 3))) &&& 4294967295)), .int (xs (k + 4)), .int (xs (k + 5)), .int (xs (k + 6))] σ1 = some (some (.int r), σ2) from h2, rI_s]
  simp only [Option.bind_some]
  exact jif_t (by first | exact trivial | exact rfl)
theorem lwp_31 {L k : Nat} {xs : Nat → Int32} (hk : k + 7 ≤ L) (hL : L ≤ 3584) (σ : jS) (t : Nat) (g : jInv σ t) (K : Nat → jL → List Value → jS → jR) : ∃ σ' t', jInv σ' t' ∧ jb (jCL 136 L xs) 2 K 0 lwI_31 [(4, .int (nI k)), (0, .ref 2000), (1, .ref 0), (2, .ref 86), (3, .ref 126)] [] σ = K 39 [(4, .int (nI k)), (0, .ref 2000), (1, .ref 0), (2, .ref 86), (3, .ref 126)] [] σ' := by
  obtain ⟨r, σ1, σ2, t', h1, h2, h3⟩ := op_strike (d := 134) (n := (xs (k + 1))) (σ := σ) (t := t) (g := g)
  refine ⟨σ2, t', h3, ?_⟩
  rw [lwq_31]
  simp only [lrd_1 hk hL, Option.bind_some]
  rw [show jCL 136 L xs 139 [.ref 0, .int (xs (k + 1))] σ = some (some (.int r), σ1) from h1, rI_s]
  simp only [lrd_1 hk hL, Option.bind_some]
  rw [show jCL 136 L xs 244 [.ref 86, .int (xs (k + 1))] σ1 = some (some (.int r), σ2) from h2, rI_s]
  simp only [Option.bind_some]
  exact jif_t (by first | exact trivial | exact rfl)
theorem lwp_32 {L k : Nat} {xs : Nat → Int32} (hk : k + 7 ≤ L) (hL : L ≤ 3584) (σ : jS) (t : Nat) (g : jInv σ t) (K : Nat → jL → List Value → jS → jR) : ∃ σ' t', jInv σ' t' ∧ jb (jCL 136 L xs) 2 K 0 lwI_32 [(4, .int (nI k)), (0, .ref 2000), (1, .ref 0), (2, .ref 86), (3, .ref 126)] [] σ = K 39 [(4, .int (nI k)), (0, .ref 2000), (1, .ref 0), (2, .ref 86), (3, .ref 126)] [] σ' := by
  obtain ⟨r, σ1, σ2, t', h1, h2, h3⟩ := op_known (d := 134) (n := (xs (k + 1))) (σ := σ) (t := t) (g := g)
  refine ⟨σ2, t', h3, ?_⟩
  rw [lwq_32]
  simp only [lrd_1 hk hL, Option.bind_some]
  rw [show jCL 136 L xs 140 [.ref 0, .int (xs (k + 1))] σ = some (some (.int r), σ1) from h1, rI_s]
  simp only [lrd_1 hk hL, Option.bind_some]
  rw [show jCL 136 L xs 245 [.ref 86, .int (xs (k + 1))] σ1 = some (some (.int r), σ2) from h2, rI_s]
  simp only [Option.bind_some]
  exact jif_t (by first | exact trivial | exact rfl)
theorem lwp_33 {L k : Nat} {xs : Nat → Int32} (hk : k + 7 ≤ L) (hL : L ≤ 3584) (σ : jS) (t : Nat) (g : jInv σ t) (K : Nat → jL → List Value → jS → jR) : ∃ σ' t', jInv σ' t' ∧ jb (jCL 136 L xs) 2 K 0 lwI_33 [(4, .int (nI k)), (0, .ref 2000), (1, .ref 0), (2, .ref 86), (3, .ref 126)] [] σ = K 39 [(4, .int (nI k)), (0, .ref 2000), (1, .ref 0), (2, .ref 86), (3, .ref 126)] [] σ' := by
  obtain ⟨r, σ1, σ2, t', h1, h2, h3⟩ := op_fits (d := 129)  (σ := σ) (t := t) (g := g)
  refine ⟨σ2, t', h3, ?_⟩
  rw [lwq_33]
  skip
  rw [show jCL 136 L xs 141 [.ref 0] σ = some (some (.int r), σ1) from h1, rI_s]
  simp only [Option.bind_some]
  rw [show jCL 136 L xs 249 [.ref 86] σ1 = some (some (.int r), σ2) from h2, rI_s]
  simp only [Option.bind_some]
  exact jif_t (by first | exact trivial | exact rfl)
theorem lwp_34 {L k : Nat} {xs : Nat → Int32} (hk : k + 7 ≤ L) (hL : L ≤ 3584) (σ : jS) (t : Nat) (g : jInv σ t) (K : Nat → jL → List Value → jS → jR) : ∃ σ' t', jInv σ' t' ∧ jb (jCL 136 L xs) 2 K 0 lwI_34 [(4, .int (nI k)), (0, .ref 2000), (1, .ref 0), (2, .ref 86), (3, .ref 126)] [] σ = K 39 [(4, .int (nI k)), (0, .ref 2000), (1, .ref 0), (2, .ref 86), (3, .ref 126)] [] σ' := by
  obtain ⟨r, σ1, σ2, t', h1, h2, h3⟩ := op_apart (d := 130) (n := (xs (k + 1))) (code := ((((Int32.toInt64 (xs (k + 2))) : Int64) <<< (Int32.toInt64 32 &&& 63)) ||| ((Int32.toInt64 (xs (k + 3))) &&& 4294967295))) (x := (xs (k + 4))) (y := (xs (k + 5))) (σ := σ) (t := t) (g := g)
  refine ⟨σ2, t', h3, ?_⟩
  rw [lwq_34]
  simp only [lrd_1 hk hL, lrd_2 hk hL, lrd_3 hk hL, lrd_4 hk hL, lrd_5 hk hL, Option.bind_some]
  rw [show jCL 136 L xs 144 [.ref 0, .int (xs (k + 1)), .long ((((Int32.toInt64 (xs (k + 2))) : Int64) <<< (Int32.toInt64 32 &&& 63)) ||| ((Int32.toInt64 (xs (k + 3))) &&& 4294967295)), .int (xs (k + 4)), .int (xs (k + 5))] σ = some (some (.int r), σ1) from h1, rI_s]
  simp only [lrd_1 hk hL, lrd_2 hk hL, lrd_3 hk hL, lrd_4 hk hL, lrd_5 hk hL, Option.bind_some]
  rw [show jCL 136 L xs 250 [.ref 86, .int (xs (k + 1)), .long ((((Int32.toInt64 (xs (k + 2))) : Int64) <<< (Int32.toInt64 32 &&& 63)) ||| ((Int32.toInt64 (xs (k + 3))) &&& 4294967295)), .int (xs (k + 4)), .int (xs (k + 5))] σ1 = some (some (.int r), σ2) from h2, rI_s]
  simp only [Option.bind_some]
  exact jif_t (by first | exact trivial | exact rfl)
theorem lwp_35 {L k : Nat} {xs : Nat → Int32} (hk : k + 7 ≤ L) (hL : L ≤ 3584) (σ : jS) (t : Nat) (g : jInv σ t) (K : Nat → jL → List Value → jS → jR) : ∃ σ' t', jInv σ' t' ∧ jb (jCL 136 L xs) 2 K 0 lwI_35 [(4, .int (nI k)), (0, .ref 2000), (1, .ref 0), (2, .ref 86), (3, .ref 126)] [] σ = K 39 [(4, .int (nI k)), (0, .ref 2000), (1, .ref 0), (2, .ref 86), (3, .ref 126)] [] σ' := by
  obtain ⟨r, σ1, σ2, t', h1, h2, h3⟩ := op_tried (d := 128) (w := (xs (k + 1))) (i := (xs (k + 2))) (x := (xs (k + 3))) (σ := σ) (t := t) (g := g)
  refine ⟨σ2, t', h3, ?_⟩
  rw [lwq_35]
  simp only [lrd_1 hk hL, lrd_2 hk hL, lrd_3 hk hL, Option.bind_some]
  rw [show jCL 136 L xs 145 [.ref 0, .int (xs (k + 1)), .int (xs (k + 2)), .int (xs (k + 3))] σ = some (some (.int r), σ1) from h1, rI_s]
  simp only [lrd_1 hk hL, lrd_2 hk hL, lrd_3 hk hL, Option.bind_some]
  rw [show jCL 136 L xs 251 [.ref 86, .int (xs (k + 1)), .int (xs (k + 2)), .int (xs (k + 3))] σ1 = some (some (.int r), σ2) from h2, rI_s]
  simp only [Option.bind_some]
  exact jif_t (by first | exact trivial | exact rfl)
theorem lwp_36 {L k : Nat} {xs : Nat → Int32} (hk : k + 7 ≤ L) (hL : L ≤ 3584) (σ : jS) (t : Nat) (g : jInv σ t) (K : Nat → jL → List Value → jS → jR) : ∃ σ' t', jInv σ' t' ∧ jb (jCL 136 L xs) 2 K 0 lwI_36 [(4, .int (nI k)), (0, .ref 2000), (1, .ref 0), (2, .ref 86), (3, .ref 126)] [] σ = K 39 [(4, .int (nI k)), (0, .ref 2000), (1, .ref 0), (2, .ref 86), (3, .ref 126)] [] σ' := by
  obtain ⟨r, σ1, σ2, t', h1, h2, h3⟩ := op_keep (d := 134)  (σ := σ) (t := t) (g := g)
  refine ⟨σ2, t', h3, ?_⟩
  rw [lwq_36]
  skip
  rw [show jCL 136 L xs 147 [.ref 0] σ = some (some (.int r), σ1) from h1, rI_s]
  simp only [Option.bind_some]
  rw [show jCL 136 L xs 252 [.ref 86] σ1 = some (some (.int r), σ2) from h2, rI_s]
  simp only [Option.bind_some]
  exact jif_t (by first | exact trivial | exact rfl)
theorem lwp_37 {L k : Nat} {xs : Nat → Int32} (hk : k + 7 ≤ L) (hL : L ≤ 3584) (σ : jS) (t : Nat) (g : jInv σ t) (K : Nat → jL → List Value → jS → jR) : ∃ σ' t', jInv σ' t' ∧ jb (jCL 136 L xs) 2 K 0 lwI_37 [(4, .int (nI k)), (0, .ref 2000), (1, .ref 0), (2, .ref 86), (3, .ref 126)] [] σ = K 39 [(4, .int (nI k)), (0, .ref 2000), (1, .ref 0), (2, .ref 86), (3, .ref 126)] [] σ' := by
  obtain ⟨r, σ1, σ2, t', h1, h2, h3⟩ := op_again (d := 134)  (σ := σ) (t := t) (g := g)
  refine ⟨σ2, t', h3, ?_⟩
  rw [lwq_37]
  skip
  rw [show jCL 136 L xs 148 [.ref 0] σ = some (some (.int r), σ1) from h1, rI_s]
  simp only [Option.bind_some]
  rw [show jCL 136 L xs 253 [.ref 86] σ1 = some (some (.int r), σ2) from h2, rI_s]
  simp only [Option.bind_some]
  exact jif_t (by first | exact trivial | exact rfl)
theorem lwp_38 {L k : Nat} {xs : Nat → Int32} (hk : k + 7 ≤ L) (hL : L ≤ 3584) (σ : jS) (t : Nat) (g : jInv σ t) (K : Nat → jL → List Value → jS → jR) : ∃ σ' t', jInv σ' t' ∧ jb (jCL 136 L xs) 2 K 0 lwI_38 [(4, .int (nI k)), (0, .ref 2000), (1, .ref 0), (2, .ref 86), (3, .ref 126)] [] σ = K 39 [(4, .int (nI k)), (0, .ref 2000), (1, .ref 0), (2, .ref 86), (3, .ref 126)] [] σ' := by
  obtain ⟨r, σ1, σ2, t', h1, h2, h3⟩ := op_count (d := 134) (w := (xs (k + 1))) (σ := σ) (t := t) (g := g)
  refine ⟨σ2, t', h3, ?_⟩
  rw [lwq_38]
  simp only [lrd_1 hk hL, Option.bind_some]
  rw [show jCL 136 L xs 149 [.ref 0, .int (xs (k + 1))] σ = some (some (.int r), σ1) from h1, rI_s]
  simp only [lrd_1 hk hL, Option.bind_some]
  rw [show jCL 136 L xs 254 [.ref 86, .int (xs (k + 1))] σ1 = some (some (.int r), σ2) from h2, rI_s]
  simp only [Option.bind_some]
  exact jif_t (by first | exact trivial | exact rfl)
