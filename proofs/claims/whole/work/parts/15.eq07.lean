/-! The methods as functions of the cells: an equation a block. Printed by wip/gen/eqs.py. -/
noncomputable def b_M_keep_0 (d : Nat) (σ : jS) : jR := db (jd jMT d) 1 k_M_keep 0 [(0, .ref 86)] [] σ
noncomputable def b_M_keep_1 (d : Nat) (l1 : Int32) (σ : jS) : jR := db (jd jMT d) 1 k_M_keep 1 [(0, .ref 86), (1, .int l1)] [] σ
noncomputable def b_M_keep_2 (d : Nat) (σ : jS) : jR := db (jd jMT d) 1 k_M_keep 2 [(0, .ref 86)] [] σ
theorem e_M_keep (d : Nat) (σ : jS) : g_M_keep (d + 1) σ = b_M_keep_0 d σ := rfl
set_option maxRecDepth 100000 in
theorem q_M_keep_0 (d : Nat) (σ : jS) : b_M_keep_0 d σ = ((r_V (g_M_copies d 2 0 (j_setI σ 86 0 0))).bind fun σ1 => b_M_keep_1 d 0 (j_setI σ1 86 47 (σ1.1 86 36))) := (db_eq _ _ _ _ _ _ _).trans rfl
set_option maxRecDepth 100000 in
theorem q_M_keep_1 (d : Nat) (l1 : Int32) (σ : jS) : b_M_keep_1 d l1 σ = (jif ((σ.1 86 36) ≤ l1) (b_M_keep_2 d σ) ((j_rdI 0 σ 104 l1).bind fun x1 => (j_wrI σ 123 l1 x1).bind fun σ2 => (j_rdI 0 σ2 105 l1).bind fun x3 => (j_wrI σ2 124 l1 x3).bind fun σ4 => (j_rdI 0 σ4 106 l1).bind fun x5 => (j_wrI σ4 125 l1 x5).bind fun σ6 => b_M_keep_1 d (l1 + 1) σ6)) := (db_eq _ _ _ _ _ _ _).trans rfl
set_option maxRecDepth 100000 in
theorem q_M_keep_2 (d : Nat) (σ : jS) : b_M_keep_2 d σ = ((j_rdI 0 (j_setI σ 86 48 1) 107 0).bind fun x1 => some (some (.int x1), (j_setI σ 86 48 1))) := (db_eq _ _ _ _ _ _ _).trans rfl
noncomputable def b_M_again_0 (d : Nat) (σ : jS) : jR := db (jd jMT d) 1 k_M_again 0 [(0, .ref 86)] [] σ
noncomputable def b_M_again_1 (d : Nat) (σ : jS) : jR := db (jd jMT d) 1 k_M_again 1 [(0, .ref 86)] [] σ
noncomputable def b_M_again_2 (d : Nat) (l1 : Int32) (σ : jS) : jR := db (jd jMT d) 1 k_M_again 2 [(0, .ref 86), (1, .int l1)] [] σ
noncomputable def b_M_again_3 (d : Nat) (σ : jS) : jR := db (jd jMT d) 1 k_M_again 3 [(0, .ref 86)] [] σ
theorem e_M_again (d : Nat) (σ : jS) : g_M_again (d + 1) σ = b_M_again_0 d σ := rfl
set_option maxRecDepth 100000 in
theorem q_M_again_0 (d : Nat) (σ : jS) : b_M_again_0 d σ = (jif (((j_setI σ 86 0 0).1 86 48) = 0) (some (some (.int (-1)), (j_setI σ 86 0 0))) (b_M_again_1 d (j_setI σ 86 0 0))) := (db_eq _ _ _ _ _ _ _).trans rfl
set_option maxRecDepth 100000 in
theorem q_M_again_1 (d : Nat) (σ : jS) : b_M_again_1 d σ = ((r_V (g_M_copies d 0 2 σ)).bind fun σ1 => b_M_again_2 d 0 (j_setI σ1 86 36 (σ1.1 86 47))) := (db_eq _ _ _ _ _ _ _).trans rfl
set_option maxRecDepth 100000 in
theorem q_M_again_2 (d : Nat) (l1 : Int32) (σ : jS) : b_M_again_2 d l1 σ = (jif ((σ.1 86 36) ≤ l1) (b_M_again_3 d σ) ((j_rdI 0 σ 123 l1).bind fun x1 => (j_wrI σ 104 l1 x1).bind fun σ2 => (j_rdI 0 σ2 124 l1).bind fun x3 => (j_wrI σ2 105 l1 x3).bind fun σ4 => (j_rdI 0 σ4 125 l1).bind fun x5 => (j_wrI σ4 106 l1 x5).bind fun σ6 => b_M_again_2 d (l1 + 1) σ6)) := (db_eq _ _ _ _ _ _ _).trans rfl
set_option maxRecDepth 100000 in
theorem q_M_again_3 (d : Nat) (σ : jS) : b_M_again_3 d σ = ((j_rdI 0 σ 107 0).bind fun x1 => some (some (.int x1), σ)) := (db_eq _ _ _ _ _ _ _).trans rfl
noncomputable def b_M_count_0 (d : Nat) (l1 : Int32) (σ : jS) : jR := db (jd jMT d) 1 k_M_count 0 [(0, .ref 86), (1, .int l1)] [] σ
noncomputable def b_M_count_1 (d : Nat) (σ : jS) : jR := db (jd jMT d) 1 k_M_count 1 [(0, .ref 86)] [] σ
noncomputable def b_M_count_2 (d : Nat) (σ : jS) : jR := db (jd jMT d) 1 k_M_count 2 [(0, .ref 86)] [] σ
noncomputable def b_M_count_3 (d : Nat) (σ : jS) : jR := db (jd jMT d) 1 k_M_count 3 [(0, .ref 86)] [] σ
noncomputable def b_M_count_4 (d : Nat) (σ : jS) : jR := db (jd jMT d) 1 k_M_count 4 [(0, .ref 86)] [] σ
noncomputable def b_M_count_5 (d : Nat) (σ : jS) : jR := db (jd jMT d) 1 k_M_count 5 [(0, .ref 86)] [] σ
noncomputable def b_M_count_6 (d : Nat) (σ : jS) : jR := db (jd jMT d) 1 k_M_count 6 [(0, .ref 86)] [] σ
noncomputable def b_M_count_7 (d : Nat) (σ : jS) : jR := db (jd jMT d) 1 k_M_count 7 [(0, .ref 86)] [] σ
noncomputable def b_M_count_8 (d : Nat) (l1 : Int32) (l2 : Int32) (σ : jS) : jR := db (jd jMT d) 1 k_M_count 8 [(0, .ref 86), (1, .int l1), (2, .int l2)] [] σ
noncomputable def b_M_count_9 (d : Nat) (l1 : Int32) (l2 : Int32) (l3 : Int32) (σ : jS) : jR := db (jd jMT d) 1 k_M_count 9 [(0, .ref 86), (1, .int l1), (2, .int l2), (3, .int l3)] [] σ
noncomputable def b_M_count_10 (d : Nat) (l1 : Int32) (l3 : Int32) (s0 : Int32) (σ : jS) : jR := db (jd jMT d) 1 k_M_count 10 [(0, .ref 86), (1, .int l1), (3, .int l3)] [.int s0] σ
noncomputable def b_M_count_11 (d : Nat) (l1 : Int32) (l3 : Int32) (s0 : Int32) (s1 : Int32) (σ : jS) : jR := db (jd jMT d) 1 k_M_count 11 [(0, .ref 86), (1, .int l1), (3, .int l3)] [.int s1, .int s0] σ
noncomputable def b_M_count_12 (d : Nat) (l2 : Int32) (σ : jS) : jR := db (jd jMT d) 1 k_M_count 12 [(2, .int l2)] [] σ
noncomputable def b_M_count_13 (d : Nat) (σ : jS) : jR := db (jd jMT d) 1 k_M_count 13 [(0, .ref 86)] [] σ
noncomputable def b_M_count_14 (d : Nat) (σ : jS) : jR := db (jd jMT d) 1 k_M_count 14 [] [] σ
theorem e_M_count (d : Nat) (l1 : Int32) (σ : jS) : g_M_count (d + 1) l1 σ = b_M_count_0 d l1 σ := rfl
set_option maxRecDepth 100000 in
theorem q_M_count_0 (d : Nat) (l1 : Int32) (σ : jS) : b_M_count_0 d l1 σ = (jif (l1 = 0) (b_M_count_1 d (j_setI σ 86 0 0)) (jif (l1 = 1) (b_M_count_2 d (j_setI σ 86 0 0)) (jif (l1 = 2) (b_M_count_3 d (j_setI σ 86 0 0)) (jif (l1 = 3) (b_M_count_4 d (j_setI σ 86 0 0)) (jif (l1 = 4) (b_M_count_5 d (j_setI σ 86 0 0)) (jif (l1 = 5) (b_M_count_6 d (j_setI σ 86 0 0)) (jif (l1 = 6) (b_M_count_7 d (j_setI σ 86 0 0)) (jif (l1 = 7) (b_M_count_8 d l1 0 (j_setI σ 86 0 0)) (jif (l1 = 8) (b_M_count_8 d l1 0 (j_setI σ 86 0 0)) (jif (l1 = 9) (b_M_count_13 d (j_setI σ 86 0 0)) (b_M_count_14 d (j_setI σ 86 0 0)))))))))))) := (db_eq _ _ _ _ _ _ _).trans rfl
set_option maxRecDepth 100000 in
theorem q_M_count_1 (d : Nat) (σ : jS) : b_M_count_1 d σ = ((j_rdI 0 σ 88 0).bind fun x1 => some (some (.int x1), σ)) := (db_eq _ _ _ _ _ _ _).trans rfl
set_option maxRecDepth 100000 in
theorem q_M_count_2 (d : Nat) (σ : jS) : b_M_count_2 d σ = (some (some (.int (σ.1 86 36)), σ)) := (db_eq _ _ _ _ _ _ _).trans rfl
set_option maxRecDepth 100000 in
theorem q_M_count_3 (d : Nat) (σ : jS) : b_M_count_3 d σ = ((j_rdI 0 σ 88 2).bind fun x1 => some (some (.int x1), σ)) := (db_eq _ _ _ _ _ _ _).trans rfl
set_option maxRecDepth 100000 in
theorem q_M_count_4 (d : Nat) (σ : jS) : b_M_count_4 d σ = ((j_rdI 0 σ 88 3).bind fun x1 => some (some (.int x1), σ)) := (db_eq _ _ _ _ _ _ _).trans rfl
set_option maxRecDepth 100000 in
theorem q_M_count_5 (d : Nat) (σ : jS) : b_M_count_5 d σ = ((j_rdI 0 σ 107 0).bind fun x1 => some (some (.int x1), σ)) := (db_eq _ _ _ _ _ _ _).trans rfl
set_option maxRecDepth 100000 in
theorem q_M_count_6 (d : Nat) (σ : jS) : b_M_count_6 d σ = (some (some (.int (σ.1 86 69)), σ)) := (db_eq _ _ _ _ _ _ _).trans rfl
set_option maxRecDepth 100000 in
theorem q_M_count_7 (d : Nat) (σ : jS) : b_M_count_7 d σ = ((r_I (g_M_knownMany d σ)).bind fun q1 => some (some (.int q1.1), q1.2)) := (db_eq _ _ _ _ _ _ _).trans rfl
set_option maxRecDepth 100000 in
theorem q_M_count_8 (d : Nat) (l1 : Int32) (l2 : Int32) (σ : jS) : b_M_count_8 d l1 l2 σ = (b_M_count_9 d l1 l2 0 σ) := (db_eq _ _ _ _ _ _ _).trans rfl
set_option maxRecDepth 100000 in
theorem q_M_count_9 (d : Nat) (l1 : Int32) (l2 : Int32) (l3 : Int32) (σ : jS) : b_M_count_9 d l1 l2 l3 σ = (jif ((σ.1 86 36) ≤ l3) (b_M_count_12 d l2 σ) ((j_rdI 0 σ 110 l3).bind fun x1 => jif (x1 = (l1 - 6)) (b_M_count_11 d l1 l3 l2 1 σ) (b_M_count_10 d l1 l3 l2 σ))) := (db_eq _ _ _ _ _ _ _).trans rfl
set_option maxRecDepth 100000 in
theorem q_M_count_10 (d : Nat) (l1 : Int32) (l3 : Int32) (s0 : Int32) (σ : jS) : b_M_count_10 d l1 l3 s0 σ = (b_M_count_11 d l1 l3 s0 0 σ) := (db_eq _ _ _ _ _ _ _).trans rfl
set_option maxRecDepth 100000 in
theorem q_M_count_11 (d : Nat) (l1 : Int32) (l3 : Int32) (s0 : Int32) (s1 : Int32) (σ : jS) : b_M_count_11 d l1 l3 s0 s1 σ = (b_M_count_9 d l1 (s0 + s1) (l3 + 1) σ) := (db_eq _ _ _ _ _ _ _).trans rfl
set_option maxRecDepth 100000 in
theorem q_M_count_12 (d : Nat) (l2 : Int32) (σ : jS) : b_M_count_12 d l2 σ = (some (some (.int l2), σ)) := (db_eq _ _ _ _ _ _ _).trans rfl
set_option maxRecDepth 100000 in
theorem q_M_count_13 (d : Nat) (σ : jS) : b_M_count_13 d σ = ((j_rdI 0 σ 88 1).bind fun x1 => some (some (.int x1), σ)) := (db_eq _ _ _ _ _ _ _).trans rfl
set_option maxRecDepth 100000 in
theorem q_M_count_14 (d : Nat) (σ : jS) : b_M_count_14 d σ = (some (some (.int (-1)), σ)) := (db_eq _ _ _ _ _ _ _).trans rfl
noncomputable def b_Ji_bitCount_0 (d : Nat) (l0 : Int32) (σ : jS) : jR := db (jd jMT d) 1 k_Ji_bitCount 0 [(0, .int l0)] [] σ
theorem e_Ji_bitCount (d : Nat) (l0 : Int32) (σ : jS) : g_Ji_bitCount (d + 1) l0 σ = b_Ji_bitCount_0 d l0 σ := rfl
set_option maxRecDepth 100000 in
theorem q_Ji_bitCount_0 (d : Nat) (l0 : Int32) (σ : jS) : b_Ji_bitCount_0 d l0 σ = (some (some (.int ((((((((l0 - ((Int32.toUInt32 l0 >>> (Int32.toUInt32 1 &&& Int32.toUInt32 31)).toInt32 &&& 1431655765)) &&& 858993459) + ((Int32.toUInt32 (l0 - ((Int32.toUInt32 l0 >>> (Int32.toUInt32 1 &&& Int32.toUInt32 31)).toInt32 &&& 1431655765)) >>> (Int32.toUInt32 2 &&& Int32.toUInt32 31)).toInt32 &&& 858993459)) + (Int32.toUInt32 (((l0 - ((Int32.toUInt32 l0 >>> (Int32.toUInt32 1 &&& Int32.toUInt32 31)).toInt32 &&& 1431655765)) &&& 858993459) + ((Int32.toUInt32 (l0 - ((Int32.toUInt32 l0 >>> (Int32.toUInt32 1 &&& Int32.toUInt32 31)).toInt32 &&& 1431655765)) >>> (Int32.toUInt32 2 &&& Int32.toUInt32 31)).toInt32 &&& 858993459)) >>> (Int32.toUInt32 4 &&& Int32.toUInt32 31)).toInt32) &&& 252645135) + (Int32.toUInt32 (((((l0 - ((Int32.toUInt32 l0 >>> (Int32.toUInt32 1 &&& Int32.toUInt32 31)).toInt32 &&& 1431655765)) &&& 858993459) + ((Int32.toUInt32 (l0 - ((Int32.toUInt32 l0 >>> (Int32.toUInt32 1 &&& Int32.toUInt32 31)).toInt32 &&& 1431655765)) >>> (Int32.toUInt32 2 &&& Int32.toUInt32 31)).toInt32 &&& 858993459)) + (Int32.toUInt32 (((l0 - ((Int32.toUInt32 l0 >>> (Int32.toUInt32 1 &&& Int32.toUInt32 31)).toInt32 &&& 1431655765)) &&& 858993459) + ((Int32.toUInt32 (l0 - ((Int32.toUInt32 l0 >>> (Int32.toUInt32 1 &&& Int32.toUInt32 31)).toInt32 &&& 1431655765)) >>> (Int32.toUInt32 2 &&& Int32.toUInt32 31)).toInt32 &&& 858993459)) >>> (Int32.toUInt32 4 &&& Int32.toUInt32 31)).toInt32) &&& 252645135) >>> (Int32.toUInt32 8 &&& Int32.toUInt32 31)).toInt32) + (Int32.toUInt32 ((((((l0 - ((Int32.toUInt32 l0 >>> (Int32.toUInt32 1 &&& Int32.toUInt32 31)).toInt32 &&& 1431655765)) &&& 858993459) + ((Int32.toUInt32 (l0 - ((Int32.toUInt32 l0 >>> (Int32.toUInt32 1 &&& Int32.toUInt32 31)).toInt32 &&& 1431655765)) >>> (Int32.toUInt32 2 &&& Int32.toUInt32 31)).toInt32 &&& 858993459)) + (Int32.toUInt32 (((l0 - ((Int32.toUInt32 l0 >>> (Int32.toUInt32 1 &&& Int32.toUInt32 31)).toInt32 &&& 1431655765)) &&& 858993459) + ((Int32.toUInt32 (l0 - ((Int32.toUInt32 l0 >>> (Int32.toUInt32 1 &&& Int32.toUInt32 31)).toInt32 &&& 1431655765)) >>> (Int32.toUInt32 2 &&& Int32.toUInt32 31)).toInt32 &&& 858993459)) >>> (Int32.toUInt32 4 &&& Int32.toUInt32 31)).toInt32) &&& 252645135) + (Int32.toUInt32 (((((l0 - ((Int32.toUInt32 l0 >>> (Int32.toUInt32 1 &&& Int32.toUInt32 31)).toInt32 &&& 1431655765)) &&& 858993459) + ((Int32.toUInt32 (l0 - ((Int32.toUInt32 l0 >>> (Int32.toUInt32 1 &&& Int32.toUInt32 31)).toInt32 &&& 1431655765)) >>> (Int32.toUInt32 2 &&& Int32.toUInt32 31)).toInt32 &&& 858993459)) + (Int32.toUInt32 (((l0 - ((Int32.toUInt32 l0 >>> (Int32.toUInt32 1 &&& Int32.toUInt32 31)).toInt32 &&& 1431655765)) &&& 858993459) + ((Int32.toUInt32 (l0 - ((Int32.toUInt32 l0 >>> (Int32.toUInt32 1 &&& Int32.toUInt32 31)).toInt32 &&& 1431655765)) >>> (Int32.toUInt32 2 &&& Int32.toUInt32 31)).toInt32 &&& 858993459)) >>> (Int32.toUInt32 4 &&& Int32.toUInt32 31)).toInt32) &&& 252645135) >>> (Int32.toUInt32 8 &&& Int32.toUInt32 31)).toInt32) >>> (Int32.toUInt32 16 &&& Int32.toUInt32 31)).toInt32) &&& 63)), σ)) := (db_eq _ _ _ _ _ _ _).trans rfl
noncomputable def b_Ja_fill_0 (d : Nat) (l0 : Nat) (l1 : Int32) (σ : jS) : jR := db (jd jMT d) 0 k_Ja_fill 0 [(0, .ref l0), (1, .int l1)] [] σ
noncomputable def b_Ja_fill_1 (d : Nat) (l0 : Nat) (l1 : Int32) (l2 : Int32) (l3 : Int32) (σ : jS) : jR := db (jd jMT d) 0 k_Ja_fill 1 [(0, .ref l0), (1, .int l1), (2, .int l2), (3, .int l3)] [] σ
noncomputable def b_Ja_fill_2 (d : Nat) (σ : jS) : jR := db (jd jMT d) 0 k_Ja_fill 2 [] [] σ
theorem e_Ja_fill (d : Nat) (l0 : Nat) (l1 : Int32) (σ : jS) : g_Ja_fill (d + 1) l0 l1 σ = b_Ja_fill_0 d l0 l1 σ := rfl
set_option maxRecDepth 100000 in
theorem q_Ja_fill_0 (d : Nat) (l0 : Nat) (l1 : Int32) (σ : jS) : b_Ja_fill_0 d l0 l1 σ = ((j_len 0 l0).bind fun n1 => b_Ja_fill_1 d l0 l1 0 (Int32.ofNat n1) σ) := (db_eq _ _ _ _ _ _ _).trans rfl
set_option maxRecDepth 100000 in
theorem q_Ja_fill_1 (d : Nat) (l0 : Nat) (l1 : Int32) (l2 : Int32) (l3 : Int32) (σ : jS) : b_Ja_fill_1 d l0 l1 l2 l3 σ = (jif (l3 ≤ l2) (b_Ja_fill_2 d σ) ((j_wrI σ l0 l2 l1).bind fun σ1 => b_Ja_fill_1 d l0 l1 (l2 + 1) l3 σ1)) := (db_eq _ _ _ _ _ _ _).trans rfl
set_option maxRecDepth 100000 in
theorem q_Ja_fill_2 (d : Nat) (σ : jS) : b_Ja_fill_2 d σ = (some (none, σ)) := (db_eq _ _ _ _ _ _ _).trans rfl
