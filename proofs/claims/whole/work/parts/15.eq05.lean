/-! The methods as functions of the cells: an equation a block. Printed by wip/gen/eqs.py. -/
noncomputable def b_M_half_0 (d : Nat) (l0 : Nat) (σ : jS) : jR := db (jd jMT d) 0 k_M_half 0 [(0, .ref l0)] [] σ
noncomputable def b_M_half_1 (d : Nat) (l0 : Nat) (l1 : Int32) (l2 : Int32) (σ : jS) : jR := db (jd jMT d) 0 k_M_half 1 [(0, .ref l0), (1, .int l1), (2, .int l2)] [] σ
noncomputable def b_M_half_2 (d : Nat) (σ : jS) : jR := db (jd jMT d) 0 k_M_half 2 [] [] σ
theorem e_M_half (d : Nat) (l0 : Nat) (σ : jS) : g_M_half (d + 1) l0 σ = b_M_half_0 d l0 σ := rfl
set_option maxRecDepth 100000 in
theorem q_M_half_0 (d : Nat) (l0 : Nat) (σ : jS) : b_M_half_0 d l0 σ = ((j_len 0 l0).bind fun n1 => b_M_half_1 d l0 ((Int32.ofNat n1) / 2) 0 σ) := (db_eq _ _ _ _ _ _ _).trans rfl
set_option maxRecDepth 100000 in
theorem q_M_half_1 (d : Nat) (l0 : Nat) (l1 : Int32) (l2 : Int32) (σ : jS) : b_M_half_1 d l0 l1 l2 σ = (jif (l1 ≤ l2) (b_M_half_2 d σ) ((j_rdI 0 σ l0 (l1 + l2)).bind fun x1 => (j_wrI σ l0 l2 x1).bind fun σ2 => b_M_half_1 d l0 l1 (l2 + 1) σ2)) := (db_eq _ _ _ _ _ _ _).trans rfl
set_option maxRecDepth 100000 in
theorem q_M_half_2 (d : Nat) (σ : jS) : b_M_half_2 d σ = (some (none, σ)) := (db_eq _ _ _ _ _ _ _).trans rfl
noncomputable def b_M_text_0 (d : Nat) (l1 : Int32) (σ : jS) : jR := db (jd jMT d) 1 k_M_text 0 [(0, .ref 86), (1, .int l1)] [] σ
noncomputable def b_M_text_1 (d : Nat) (σ : jS) : jR := db (jd jMT d) 1 k_M_text 1 [] [] σ
noncomputable def b_M_text_2 (d : Nat) (l1 : Int32) (σ : jS) : jR := db (jd jMT d) 1 k_M_text 2 [(0, .ref 86), (1, .int l1)] [] σ
noncomputable def b_M_text_3 (d : Nat) (l2 : Int32) (σ : jS) : jR := db (jd jMT d) 1 k_M_text 3 [(0, .ref 86), (2, .int l2)] [] σ
noncomputable def b_M_text_4 (d : Nat) (σ : jS) : jR := db (jd jMT d) 1 k_M_text 4 [(0, .ref 86)] [] σ
noncomputable def b_M_text_5 (d : Nat) (l2 : Int32) (σ : jS) : jR := db (jd jMT d) 1 k_M_text 5 [(0, .ref 86), (2, .int l2)] [] σ
noncomputable def b_M_text_6 (d : Nat) (σ : jS) : jR := db (jd jMT d) 1 k_M_text 6 [(0, .ref 86)] [] σ
noncomputable def b_M_text_7 (d : Nat) (σ : jS) : jR := db (jd jMT d) 1 k_M_text 7 [(0, .ref 86)] [] σ
noncomputable def b_M_text_8 (d : Nat) (σ : jS) : jR := db (jd jMT d) 1 k_M_text 8 [(0, .ref 86)] [] σ
noncomputable def b_M_text_9 (d : Nat) (σ : jS) : jR := db (jd jMT d) 1 k_M_text 9 [(0, .ref 86)] [] σ
noncomputable def b_M_text_10 (d : Nat) (l2 : Int32) (σ : jS) : jR := db (jd jMT d) 1 k_M_text 10 [(0, .ref 86), (2, .int l2)] [] σ
noncomputable def b_M_text_11 (d : Nat) (σ : jS) : jR := db (jd jMT d) 1 k_M_text 11 [(0, .ref 86)] [] σ
theorem e_M_text (d : Nat) (l1 : Int32) (σ : jS) : g_M_text (d + 1) l1 σ = b_M_text_0 d l1 σ := rfl
set_option maxRecDepth 100000 in
theorem q_M_text_0 (d : Nat) (l1 : Int32) (σ : jS) : b_M_text_0 d l1 σ = (jif (l1 < 0) (b_M_text_1 d (j_setI σ 86 0 0)) (jif (l1 ≤ ((j_setI σ 86 0 0).1 86 2)) (b_M_text_2 d l1 (j_setI σ 86 0 0)) (b_M_text_1 d (j_setI σ 86 0 0)))) := (db_eq _ _ _ _ _ _ _).trans rfl
set_option maxRecDepth 100000 in
theorem q_M_text_1 (d : Nat) (σ : jS) : b_M_text_1 d σ = (some (some (.int (-2)), σ)) := (db_eq _ _ _ _ _ _ _).trans rfl
set_option maxRecDepth 100000 in
theorem q_M_text_2 (d : Nat) (l1 : Int32) (σ : jS) : b_M_text_2 d l1 σ = (b_M_text_3 d 0 (j_setI (j_setI (j_setI (j_setI (j_setI σ 86 18 l1) 86 2 0) 86 19 0) 86 23 0) 86 24 (-1))) := (db_eq _ _ _ _ _ _ _).trans rfl
set_option maxRecDepth 100000 in
theorem q_M_text_3 (d : Nat) (l2 : Int32) (σ : jS) : b_M_text_3 d l2 σ = (jif (4 ≤ l2) (b_M_text_4 d σ) ((j_wrI σ 88 (4 + l2) 0).bind fun σ1 => b_M_text_3 d (l2 + 1) σ1)) := (db_eq _ _ _ _ _ _ _).trans rfl
set_option maxRecDepth 100000 in
theorem q_M_text_4 (d : Nat) (σ : jS) : b_M_text_4 d σ = (b_M_text_5 d 5 σ) := (db_eq _ _ _ _ _ _ _).trans rfl
set_option maxRecDepth 100000 in
theorem q_M_text_5 (d : Nat) (l2 : Int32) (σ : jS) : b_M_text_5 d l2 σ = (jif (10 ≤ l2) (b_M_text_6 d σ) ((j_wrI σ 98 l2 0).bind fun σ1 => (j_wrI σ1 99 l2 0).bind fun σ2 => b_M_text_5 d (l2 + 1) σ2)) := (db_eq _ _ _ _ _ _ _).trans rfl
set_option maxRecDepth 100000 in
theorem q_M_text_6 (d : Nat) (σ : jS) : b_M_text_6 d σ = ((r_V (g_M_token d (j_setI (j_setI (j_setI (j_setI σ 86 29 0) 86 17 0) 86 27 0) 86 28 0))).bind fun σ1 => b_M_text_7 d σ1) := (db_eq _ _ _ _ _ _ _).trans rfl
set_option maxRecDepth 100000 in
theorem q_M_text_7 (d : Nat) (σ : jS) : b_M_text_7 d σ = (jif ((σ.1 86 23) = 0) (jif ((σ.1 86 21) = 4) (b_M_text_8 d σ) ((r_V (g_M_line d σ)).bind fun σ1 => b_M_text_7 d σ1)) (b_M_text_8 d σ)) := (db_eq _ _ _ _ _ _ _).trans rfl
set_option maxRecDepth 100000 in
theorem q_M_text_8 (d : Nat) (σ : jS) : b_M_text_8 d σ = (jif (((j_setI (j_setI σ 86 25 (σ.1 86 23)) 86 26 ((j_setI σ 86 25 (σ.1 86 23)).1 86 24)).1 86 23) = 0) (b_M_text_9 d (j_setI (j_setI σ 86 25 (σ.1 86 23)) 86 26 ((j_setI σ 86 25 (σ.1 86 23)).1 86 24))) (some (some (.int (-1)), (j_setI (j_setI σ 86 25 (σ.1 86 23)) 86 26 ((j_setI σ 86 25 (σ.1 86 23)).1 86 24))))) := (db_eq _ _ _ _ _ _ _).trans rfl
set_option maxRecDepth 100000 in
theorem q_M_text_9 (d : Nat) (σ : jS) : b_M_text_9 d σ = ((r_V (g_M_half d 88 σ)).bind fun σ1 => (r_V (g_M_half d 89 σ1)).bind fun σ2 => (r_V (g_M_half d 90 σ2)).bind fun σ3 => (r_V (g_M_half d 91 σ3)).bind fun σ4 => (r_V (g_M_half d 92 σ4)).bind fun σ5 => (r_V (g_M_half d 93 σ5)).bind fun σ6 => (r_V (g_M_half d 94 σ6)).bind fun σ7 => (r_V (g_M_half d 95 σ7)).bind fun σ8 => (r_V (g_M_half d 96 σ8)).bind fun σ9 => (r_V (g_M_half d 97 σ9)).bind fun σ10 => (r_V (g_M_half d 98 σ10)).bind fun σ11 => (r_V (g_M_half d 99 σ11)).bind fun σ12 => (r_V (g_M_half d 100 σ12)).bind fun σ13 => (r_V (g_M_half d 101 σ13)).bind fun σ14 => (j_rdI 0 (j_setI (j_setI (j_setI σ14 86 69 0) 86 70 (-1)) 86 48 0) 88 1).bind fun x15 => b_M_text_10 d 0 (j_setI (j_setI (j_setI (j_setI σ14 86 69 0) 86 70 (-1)) 86 48 0) 86 36 x15)) := (db_eq _ _ _ _ _ _ _).trans rfl
set_option maxRecDepth 100000 in
theorem q_M_text_10 (d : Nat) (l2 : Int32) (σ : jS) : b_M_text_10 d l2 σ = (jif ((σ.1 86 36) ≤ l2) (b_M_text_11 d σ) ((j_rdI 0 σ 94 l2).bind fun x1 => (j_wrI σ 104 l2 x1).bind fun σ2 => (j_rdI 0 σ2 95 l2).bind fun x3 => (j_wrI σ2 105 l2 x3).bind fun σ4 => (j_rdI 0 σ4 96 l2).bind fun x5 => (j_wrI σ4 106 l2 x5).bind fun σ6 => b_M_text_10 d (l2 + 1) σ6)) := (db_eq _ _ _ _ _ _ _).trans rfl
set_option maxRecDepth 100000 in
theorem q_M_text_11 (d : Nat) (σ : jS) : b_M_text_11 d σ = ((r_V (g_M_plain d σ)).bind fun σ1 => (r_V (g_M_begins d 0 σ1)).bind fun σ2 => some (some (.int (σ2.1 86 17)), σ2)) := (db_eq _ _ _ _ _ _ _).trans rfl
noncomputable def b_M_fault_0 (d : Nat) (l1 : Int32) (σ : jS) : jR := db (jd jMT d) 1 k_M_fault 0 [(0, .ref 86), (1, .int l1)] [] σ
noncomputable def b_M_fault_1 (d : Nat) (l1 : Int32) (σ : jS) : jR := db (jd jMT d) 1 k_M_fault 1 [(0, .ref 86), (1, .int l1)] [] σ
noncomputable def b_M_fault_2 (d : Nat) (σ : jS) : jR := db (jd jMT d) 1 k_M_fault 2 [] [] σ
noncomputable def b_M_fault_3 (d : Nat) (s0 : Int32) (σ : jS) : jR := db (jd jMT d) 1 k_M_fault 3 [] [.int s0] σ
theorem e_M_fault (d : Nat) (l1 : Int32) (σ : jS) : g_M_fault (d + 1) l1 σ = b_M_fault_0 d l1 σ := rfl
set_option maxRecDepth 100000 in
theorem q_M_fault_0 (d : Nat) (l1 : Int32) (σ : jS) : b_M_fault_0 d l1 σ = (jif (l1 = 0) (b_M_fault_3 d ((j_setI σ 86 0 0).1 86 25) (j_setI σ 86 0 0)) (b_M_fault_1 d l1 (j_setI σ 86 0 0))) := (db_eq _ _ _ _ _ _ _).trans rfl
set_option maxRecDepth 100000 in
theorem q_M_fault_1 (d : Nat) (l1 : Int32) (σ : jS) : b_M_fault_1 d l1 σ = (jif (l1 = 1) (b_M_fault_3 d (σ.1 86 26) σ) (b_M_fault_2 d σ)) := (db_eq _ _ _ _ _ _ _).trans rfl
set_option maxRecDepth 100000 in
theorem q_M_fault_2 (d : Nat) (σ : jS) : b_M_fault_2 d σ = (b_M_fault_3 d (-1) σ) := (db_eq _ _ _ _ _ _ _).trans rfl
set_option maxRecDepth 100000 in
theorem q_M_fault_3 (d : Nat) (s0 : Int32) (σ : jS) : b_M_fault_3 d s0 σ = (some (some (.int s0), σ)) := (db_eq _ _ _ _ _ _ _).trans rfl
noncomputable def b_M_named_0 (d : Nat) (l1 : Int32) (l2 : Int32) (σ : jS) : jR := db (jd jMT d) 1 k_M_named 0 [(0, .ref 86), (1, .int l1), (2, .int l2)] [] σ
noncomputable def b_M_named_1 (d : Nat) (l1 : Int32) (l2 : Int32) (σ : jS) : jR := db (jd jMT d) 1 k_M_named 1 [(0, .ref 86), (1, .int l1), (2, .int l2)] [] σ
noncomputable def b_M_named_2 (d : Nat) (σ : jS) : jR := db (jd jMT d) 1 k_M_named 2 [] [] σ
noncomputable def b_M_named_3 (d : Nat) (s0 : Int32) (σ : jS) : jR := db (jd jMT d) 1 k_M_named 3 [] [.int s0] σ
theorem e_M_named (d : Nat) (l1 : Int32) (l2 : Int32) (σ : jS) : g_M_named (d + 1) l1 l2 σ = b_M_named_0 d l1 l2 σ := rfl
set_option maxRecDepth 100000 in
theorem q_M_named_0 (d : Nat) (l1 : Int32) (l2 : Int32) (σ : jS) : b_M_named_0 d l1 l2 σ = (jif (l1 = 0) ((j_rdI 0 (j_setI σ 86 0 0) 88 0).bind fun x1 => (r_I (g_M_found d 89 0 x1 l2 (j_setI σ 86 0 0))).bind fun q2 => b_M_named_3 d q2.1 q2.2) (b_M_named_1 d l1 l2 (j_setI σ 86 0 0))) := (db_eq _ _ _ _ _ _ _).trans rfl
set_option maxRecDepth 100000 in
theorem q_M_named_1 (d : Nat) (l1 : Int32) (l2 : Int32) (σ : jS) : b_M_named_1 d l1 l2 σ = (jif (l1 = 1) ((j_rdI 0 σ 88 2).bind fun x1 => (r_I (g_M_found d 97 0 x1 l2 σ)).bind fun q2 => b_M_named_3 d q2.1 q2.2) (b_M_named_2 d σ)) := (db_eq _ _ _ _ _ _ _).trans rfl
set_option maxRecDepth 100000 in
theorem q_M_named_2 (d : Nat) (σ : jS) : b_M_named_2 d σ = (b_M_named_3 d (-1) σ) := (db_eq _ _ _ _ _ _ _).trans rfl
set_option maxRecDepth 100000 in
theorem q_M_named_3 (d : Nat) (s0 : Int32) (σ : jS) : b_M_named_3 d s0 σ = (some (some (.int s0), σ)) := (db_eq _ _ _ _ _ _ _).trans rfl
noncomputable def b_M_isPerson_0 (d : Nat) (l1 : Int32) (σ : jS) : jR := db (jd jMT d) 2 k_M_isPerson 0 [(0, .ref 86), (1, .int l1)] [] σ
noncomputable def b_M_isPerson_1 (d : Nat) (σ : jS) : jR := db (jd jMT d) 2 k_M_isPerson 1 [] [] σ
noncomputable def b_M_isPerson_2 (d : Nat) (s0 : Int32) (σ : jS) : jR := db (jd jMT d) 2 k_M_isPerson 2 [] [.int s0] σ
theorem e_M_isPerson (d : Nat) (l1 : Int32) (σ : jS) : g_M_isPerson (d + 1) l1 σ = b_M_isPerson_0 d l1 σ := rfl
set_option maxRecDepth 100000 in
theorem q_M_isPerson_0 (d : Nat) (l1 : Int32) (σ : jS) : b_M_isPerson_0 d l1 σ = (jif (l1 < 0) (b_M_isPerson_1 d σ) ((j_rdI 0 σ 88 0).bind fun x1 => jif (x1 ≤ l1) (b_M_isPerson_1 d σ) (b_M_isPerson_2 d 1 σ))) := (db_eq _ _ _ _ _ _ _).trans rfl
set_option maxRecDepth 100000 in
theorem q_M_isPerson_1 (d : Nat) (σ : jS) : b_M_isPerson_1 d σ = (b_M_isPerson_2 d 0 σ) := (db_eq _ _ _ _ _ _ _).trans rfl
set_option maxRecDepth 100000 in
theorem q_M_isPerson_2 (d : Nat) (s0 : Int32) (σ : jS) : b_M_isPerson_2 d s0 σ = (if s0 = 0 ∨ s0 = 1 then some (some (.int s0), σ) else none) := (db_eq _ _ _ _ _ _ _).trans rfl
noncomputable def b_M_plain_0 (d : Nat) (σ : jS) : jR := db (jd jMT d) 0 k_M_plain 0 [(0, .ref 86)] [] σ
theorem e_M_plain (d : Nat) (σ : jS) : g_M_plain (d + 1) σ = b_M_plain_0 d σ := rfl
set_option maxRecDepth 100000 in
theorem q_M_plain_0 (d : Nat) (σ : jS) : b_M_plain_0 d σ = (some (none, (j_setI (j_setI (j_setI σ 86 30 (-1)) 86 31 (-1)) 86 32 0))) := (db_eq _ _ _ _ _ _ _).trans rfl
noncomputable def b_M_ageOf_0 (d : Nat) (l1 : Int32) (σ : jS) : jR := db (jd jMT d) 1 k_M_ageOf 0 [(0, .ref 86), (1, .int l1)] [] σ
noncomputable def b_M_ageOf_1 (d : Nat) (l1 : Int32) (σ : jS) : jR := db (jd jMT d) 1 k_M_ageOf 1 [(0, .ref 86), (1, .int l1)] [] σ
noncomputable def b_M_ageOf_2 (d : Nat) (s0 : Int32) (σ : jS) : jR := db (jd jMT d) 1 k_M_ageOf 2 [] [.int s0] σ
theorem e_M_ageOf (d : Nat) (l1 : Int32) (σ : jS) : g_M_ageOf (d + 1) l1 σ = b_M_ageOf_0 d l1 σ := rfl
set_option maxRecDepth 100000 in
theorem q_M_ageOf_0 (d : Nat) (l1 : Int32) (σ : jS) : b_M_ageOf_0 d l1 σ = (jif ((σ.1 86 30) = 1) (b_M_ageOf_2 d 0 σ) (b_M_ageOf_1 d l1 σ)) := (db_eq _ _ _ _ _ _ _).trans rfl
set_option maxRecDepth 100000 in
theorem q_M_ageOf_1 (d : Nat) (l1 : Int32) (σ : jS) : b_M_ageOf_1 d l1 σ = ((j_rdI 0 σ 90 l1).bind fun x1 => b_M_ageOf_2 d x1 σ) := (db_eq _ _ _ _ _ _ _).trans rfl
set_option maxRecDepth 100000 in
theorem q_M_ageOf_2 (d : Nat) (s0 : Int32) (σ : jS) : b_M_ageOf_2 d s0 σ = (some (some (.int s0), σ)) := (db_eq _ _ _ _ _ _ _).trans rfl
noncomputable def b_M_manyOf_0 (d : Nat) (l1 : Int32) (σ : jS) : jR := db (jd jMT d) 1 k_M_manyOf 0 [(0, .ref 86), (1, .int l1)] [] σ
noncomputable def b_M_manyOf_1 (d : Nat) (l1 : Int32) (σ : jS) : jR := db (jd jMT d) 1 k_M_manyOf 1 [(0, .ref 86), (1, .int l1)] [] σ
noncomputable def b_M_manyOf_2 (d : Nat) (l1 : Int32) (σ : jS) : jR := db (jd jMT d) 1 k_M_manyOf 2 [(0, .ref 86), (1, .int l1)] [] σ
noncomputable def b_M_manyOf_3 (d : Nat) (s0 : Int32) (σ : jS) : jR := db (jd jMT d) 1 k_M_manyOf 3 [] [.int s0] σ
theorem e_M_manyOf (d : Nat) (l1 : Int32) (σ : jS) : g_M_manyOf (d + 1) l1 σ = b_M_manyOf_0 d l1 σ := rfl
set_option maxRecDepth 100000 in
theorem q_M_manyOf_0 (d : Nat) (l1 : Int32) (σ : jS) : b_M_manyOf_0 d l1 σ = (jif ((σ.1 86 30) = 0) (jif ((σ.1 86 31) = l1) (some (some (.int 0), σ)) (b_M_manyOf_1 d l1 σ)) (b_M_manyOf_1 d l1 σ)) := (db_eq _ _ _ _ _ _ _).trans rfl
set_option maxRecDepth 100000 in
theorem q_M_manyOf_1 (d : Nat) (l1 : Int32) (σ : jS) : b_M_manyOf_1 d l1 σ = (jif ((σ.1 86 30) = 2) ((j_rdI 0 σ 92 l1).bind fun x1 => b_M_manyOf_3 d (if (x1 : Int32) < 1 then x1 else 1) σ) (b_M_manyOf_2 d l1 σ)) := (db_eq _ _ _ _ _ _ _).trans rfl
set_option maxRecDepth 100000 in
theorem q_M_manyOf_2 (d : Nat) (l1 : Int32) (σ : jS) : b_M_manyOf_2 d l1 σ = ((j_rdI 0 σ 92 l1).bind fun x1 => b_M_manyOf_3 d x1 σ) := (db_eq _ _ _ _ _ _ _).trans rfl
set_option maxRecDepth 100000 in
theorem q_M_manyOf_3 (d : Nat) (s0 : Int32) (σ : jS) : b_M_manyOf_3 d s0 σ = (some (some (.int s0), σ)) := (db_eq _ _ _ _ _ _ _).trans rfl
noncomputable def b_M_is_0 (d : Nat) (l0 : Int32) (σ : jS) : jR := db (jd jMT d) 3 k_M_is 0 [(0, .int l0)] [] σ
noncomputable def b_M_is_1 (d : Nat) (σ : jS) : jR := db (jd jMT d) 3 k_M_is 1 [] [] σ
noncomputable def b_M_is_2 (d : Nat) (s0 : Int64) (σ : jS) : jR := db (jd jMT d) 3 k_M_is 2 [] [.long s0] σ
theorem e_M_is (d : Nat) (l0 : Int32) (σ : jS) : g_M_is (d + 1) l0 σ = b_M_is_0 d l0 σ := rfl
set_option maxRecDepth 100000 in
theorem q_M_is_0 (d : Nat) (l0 : Int32) (σ : jS) : b_M_is_0 d l0 σ = (jif (l0 = 0) (b_M_is_1 d σ) (b_M_is_2 d 1 σ)) := (db_eq _ _ _ _ _ _ _).trans rfl
set_option maxRecDepth 100000 in
theorem q_M_is_1 (d : Nat) (σ : jS) : b_M_is_1 d σ = (b_M_is_2 d 0 σ) := (db_eq _ _ _ _ _ _ _).trans rfl
set_option maxRecDepth 100000 in
theorem q_M_is_2 (d : Nat) (s0 : Int64) (σ : jS) : b_M_is_2 d s0 σ = (some (some (.long s0), σ)) := (db_eq _ _ _ _ _ _ _).trans rfl
noncomputable def b_M_works_0 (d : Nat) (l1 : Int32) (σ : jS) : jR := db (jd jMT d) 2 k_M_works 0 [(0, .ref 86), (1, .int l1)] [] σ
noncomputable def b_M_works_1 (d : Nat) (s1 : Int32) (σ : jS) : jR := db (jd jMT d) 2 k_M_works 1 [] [.int s1, .ref 103] σ
noncomputable def b_M_works_2 (d : Nat) (s1 : Int32) (s2 : Int32) (σ : jS) : jR := db (jd jMT d) 2 k_M_works 2 [] [.int s2, .int s1, .ref 103] σ
noncomputable def b_M_works_3 (d : Nat) (l1 : Int32) (l2 : Int64) (σ : jS) : jR := db (jd jMT d) 2 k_M_works 3 [(0, .ref 86), (1, .int l1), (2, .long l2)] [] σ
noncomputable def b_M_works_4 (d : Nat) (l2 : Int64) (l4 : Int64) (σ : jS) : jR := db (jd jMT d) 2 k_M_works 4 [(0, .ref 86), (2, .long l2), (4, .long l4)] [] σ
noncomputable def b_M_works_5 (d : Nat) (l2 : Int64) (l4 : Int64) (σ : jS) : jR := db (jd jMT d) 2 k_M_works 5 [(0, .ref 86), (2, .long l2), (4, .long l4)] [] σ
noncomputable def b_M_works_6 (d : Nat) (l2 : Int64) (l4 : Int64) (σ : jS) : jR := db (jd jMT d) 2 k_M_works 6 [(0, .ref 86), (2, .long l2), (4, .long l4)] [] σ
noncomputable def b_M_works_7 (d : Nat) (l2 : Int64) (l4 : Int64) (σ : jS) : jR := db (jd jMT d) 2 k_M_works 7 [(0, .ref 86), (2, .long l2), (4, .long l4)] [] σ
noncomputable def b_M_works_8 (d : Nat) (l1 : Int32) (l2 : Int64) (l4 : Int64) (σ : jS) : jR := db (jd jMT d) 2 k_M_works 8 [(0, .ref 86), (1, .int l1), (2, .long l2), (4, .long l4)] [] σ
noncomputable def b_M_works_9 (d : Nat) (l1 : Int32) (l2 : Int64) (l4 : Int64) (σ : jS) : jR := db (jd jMT d) 2 k_M_works 9 [(0, .ref 86), (1, .int l1), (2, .long l2), (4, .long l4)] [] σ
noncomputable def b_M_works_10 (d : Nat) (l2 : Int64) (l4 : Int64) (σ : jS) : jR := db (jd jMT d) 2 k_M_works 10 [(0, .ref 86), (2, .long l2), (4, .long l4)] [] σ
noncomputable def b_M_works_11 (d : Nat) (s0 : Int64) (σ : jS) : jR := db (jd jMT d) 2 k_M_works 11 [(0, .ref 86)] [.long s0] σ
noncomputable def b_M_works_12 (d : Nat) (l2 : Int64) (l4 : Int64) (σ : jS) : jR := db (jd jMT d) 2 k_M_works 12 [(0, .ref 86), (2, .long l2), (4, .long l4)] [] σ
noncomputable def b_M_works_13 (d : Nat) (σ : jS) : jR := db (jd jMT d) 2 k_M_works 13 [(0, .ref 86)] [] σ
noncomputable def b_M_works_14 (d : Nat) (s0 : Int32) (σ : jS) : jR := db (jd jMT d) 2 k_M_works 14 [(0, .ref 86)] [.int s0] σ
noncomputable def b_M_works_15 (d : Nat) (l2 : Int64) (l4 : Int64) (σ : jS) : jR := db (jd jMT d) 2 k_M_works 15 [(0, .ref 86), (2, .long l2), (4, .long l4)] [] σ
noncomputable def b_M_works_16 (d : Nat) (σ : jS) : jR := db (jd jMT d) 2 k_M_works 16 [(0, .ref 86)] [] σ
noncomputable def b_M_works_17 (d : Nat) (s0 : Int32) (σ : jS) : jR := db (jd jMT d) 2 k_M_works 17 [(0, .ref 86)] [.int s0] σ
noncomputable def b_M_works_18 (d : Nat) (l2 : Int64) (l4 : Int64) (σ : jS) : jR := db (jd jMT d) 2 k_M_works 18 [(0, .ref 86), (2, .long l2), (4, .long l4)] [] σ
noncomputable def b_M_works_19 (d : Nat) (σ : jS) : jR := db (jd jMT d) 2 k_M_works 19 [(0, .ref 86)] [] σ
noncomputable def b_M_works_20 (d : Nat) (s0 : Int32) (σ : jS) : jR := db (jd jMT d) 2 k_M_works 20 [(0, .ref 86)] [.int s0] σ
noncomputable def b_M_works_21 (d : Nat) (l2 : Int64) (l4 : Int64) (σ : jS) : jR := db (jd jMT d) 2 k_M_works 21 [(0, .ref 86), (2, .long l2), (4, .long l4)] [] σ
noncomputable def b_M_works_22 (d : Nat) (σ : jS) : jR := db (jd jMT d) 2 k_M_works 22 [(0, .ref 86)] [] σ
noncomputable def b_M_works_23 (d : Nat) (s0 : Int32) (σ : jS) : jR := db (jd jMT d) 2 k_M_works 23 [(0, .ref 86)] [.int s0] σ
noncomputable def b_M_works_24 (d : Nat) (l2 : Int64) (l4 : Int64) (σ : jS) : jR := db (jd jMT d) 2 k_M_works 24 [(0, .ref 86), (2, .long l2), (4, .long l4)] [] σ
noncomputable def b_M_works_25 (d : Nat) (σ : jS) : jR := db (jd jMT d) 2 k_M_works 25 [(0, .ref 86)] [] σ
noncomputable def b_M_works_26 (d : Nat) (s0 : Int32) (σ : jS) : jR := db (jd jMT d) 2 k_M_works 26 [(0, .ref 86)] [.int s0] σ
noncomputable def b_M_works_27 (d : Nat) (l2 : Int64) (l4 : Int64) (σ : jS) : jR := db (jd jMT d) 2 k_M_works 27 [(0, .ref 86), (2, .long l2), (4, .long l4)] [] σ
noncomputable def b_M_works_28 (d : Nat) (σ : jS) : jR := db (jd jMT d) 2 k_M_works 28 [(0, .ref 86)] [] σ
noncomputable def b_M_works_29 (d : Nat) (s0 : Int32) (σ : jS) : jR := db (jd jMT d) 2 k_M_works 29 [(0, .ref 86)] [.int s0] σ
noncomputable def b_M_works_30 (d : Nat) (l2 : Int64) (l4 : Int64) (σ : jS) : jR := db (jd jMT d) 2 k_M_works 30 [(0, .ref 86), (2, .long l2), (4, .long l4)] [] σ
noncomputable def b_M_works_31 (d : Nat) (σ : jS) : jR := db (jd jMT d) 2 k_M_works 31 [(0, .ref 86)] [] σ
noncomputable def b_M_works_32 (d : Nat) (s0 : Int32) (σ : jS) : jR := db (jd jMT d) 2 k_M_works 32 [(0, .ref 86)] [.int s0] σ
noncomputable def b_M_works_33 (d : Nat) (l2 : Int64) (l4 : Int64) (σ : jS) : jR := db (jd jMT d) 2 k_M_works 33 [(0, .ref 86), (2, .long l2), (4, .long l4)] [] σ
noncomputable def b_M_works_34 (d : Nat) (σ : jS) : jR := db (jd jMT d) 2 k_M_works 34 [(0, .ref 86)] [] σ
noncomputable def b_M_works_35 (d : Nat) (σ : jS) : jR := db (jd jMT d) 2 k_M_works 35 [(0, .ref 86)] [] σ
noncomputable def b_M_works_36 (d : Nat) (s0 : Int32) (σ : jS) : jR := db (jd jMT d) 2 k_M_works 36 [(0, .ref 86)] [.int s0] σ
noncomputable def b_M_works_37 (d : Nat) (l6 : Int64) (σ : jS) : jR := db (jd jMT d) 2 k_M_works 37 [(0, .ref 86), (6, .long l6)] [] σ
noncomputable def b_M_works_38 (d : Nat) (σ : jS) : jR := db (jd jMT d) 2 k_M_works 38 [] [] σ
noncomputable def b_M_works_39 (d : Nat) (s0 : Int32) (σ : jS) : jR := db (jd jMT d) 2 k_M_works 39 [] [.int s0] σ
theorem e_M_works (d : Nat) (l1 : Int32) (σ : jS) : g_M_works (d + 1) l1 σ = b_M_works_0 d l1 σ := rfl
set_option maxRecDepth 100000 in
theorem q_M_works_0 (d : Nat) (l1 : Int32) (σ : jS) : b_M_works_0 d l1 σ = ((j_rdL σ 103 ((σ.1 86 35) - 1)).bind fun x1 => jif (l1 = 260) (jif ((lg_cmp x1 0) = 0) (b_M_works_2 d ((σ.1 86 35) - 1) 1 σ) (b_M_works_1 d ((σ.1 86 35) - 1) σ)) (b_M_works_3 d l1 x1 σ)) := (db_eq _ _ _ _ _ _ _).trans rfl
set_option maxRecDepth 100000 in
theorem q_M_works_1 (d : Nat) (s1 : Int32) (σ : jS) : b_M_works_1 d s1 σ = (b_M_works_2 d s1 0 σ) := (db_eq _ _ _ _ _ _ _).trans rfl
set_option maxRecDepth 100000 in
theorem q_M_works_2 (d : Nat) (s1 : Int32) (s2 : Int32) (σ : jS) : b_M_works_2 d s1 s2 σ = ((r_L (g_M_is d s2 σ)).bind fun q1 => (j_wrL q1.2 103 s1 q1.1).bind fun σ2 => some (some (.int 1), σ2)) := (db_eq _ _ _ _ _ _ _).trans rfl
set_option maxRecDepth 100000 in
theorem q_M_works_3 (d : Nat) (l1 : Int32) (l2 : Int64) (σ : jS) : b_M_works_3 d l1 l2 σ = ((j_rdL σ 103 ((σ.1 86 35) - 2)).bind fun x1 => jif (l1 = 37) (b_M_works_8 d l1 l2 x1 (j_setI σ 86 35 ((σ.1 86 35) - 1))) (jif (l1 = 42) (b_M_works_6 d l2 x1 (j_setI σ 86 35 ((σ.1 86 35) - 1))) (jif (l1 = 43) (b_M_works_4 d l2 x1 (j_setI σ 86 35 ((σ.1 86 35) - 1))) (jif (l1 = 45) (b_M_works_5 d l2 x1 (j_setI σ 86 35 ((σ.1 86 35) - 1))) (jif (l1 = 47) (b_M_works_8 d l1 l2 x1 (j_setI σ 86 35 ((σ.1 86 35) - 1))) (jif (l1 = 60) (b_M_works_12 d l2 x1 (j_setI σ 86 35 ((σ.1 86 35) - 1))) (jif (l1 = 61) (b_M_works_18 d l2 x1 (j_setI σ 86 35 ((σ.1 86 35) - 1))) (jif (l1 = 62) (b_M_works_15 d l2 x1 (j_setI σ 86 35 ((σ.1 86 35) - 1))) (jif (l1 = 256) (b_M_works_21 d l2 x1 (j_setI σ 86 35 ((σ.1 86 35) - 1))) (jif (l1 = 257) (b_M_works_27 d l2 x1 (j_setI σ 86 35 ((σ.1 86 35) - 1))) (jif (l1 = 258) (b_M_works_24 d l2 x1 (j_setI σ 86 35 ((σ.1 86 35) - 1))) (jif (l1 = 261) (b_M_works_30 d l2 x1 (j_setI σ 86 35 ((σ.1 86 35) - 1))) (b_M_works_33 d l2 x1 (j_setI σ 86 35 ((σ.1 86 35) - 1))))))))))))))) := (db_eq _ _ _ _ _ _ _).trans rfl
set_option maxRecDepth 100000 in
theorem q_M_works_4 (d : Nat) (l2 : Int64) (l4 : Int64) (σ : jS) : b_M_works_4 d l2 l4 σ = (b_M_works_37 d (l4 + l2) σ) := (db_eq _ _ _ _ _ _ _).trans rfl
set_option maxRecDepth 100000 in
theorem q_M_works_5 (d : Nat) (l2 : Int64) (l4 : Int64) (σ : jS) : b_M_works_5 d l2 l4 σ = (b_M_works_37 d (l4 - l2) σ) := (db_eq _ _ _ _ _ _ _).trans rfl
set_option maxRecDepth 100000 in
theorem q_M_works_6 (d : Nat) (l2 : Int64) (l4 : Int64) (σ : jS) : b_M_works_6 d l2 l4 σ = (jif ((lg_cmp l4 0) = 0) (b_M_works_7 d l2 l4 σ) (if (if 0 < l4 then l4 else -l4) = 0 then none else (jif ((lg_cmp (if 0 < l2 then l2 else -l2) (1000000000000 / (if 0 < l4 then l4 else -l4))) ≤ 0) (b_M_works_7 d l2 l4 σ) (some (some (.int 0), σ))))) := (db_eq _ _ _ _ _ _ _).trans rfl
set_option maxRecDepth 100000 in
theorem q_M_works_7 (d : Nat) (l2 : Int64) (l4 : Int64) (σ : jS) : b_M_works_7 d l2 l4 σ = (b_M_works_37 d (l4 * l2) σ) := (db_eq _ _ _ _ _ _ _).trans rfl
set_option maxRecDepth 100000 in
theorem q_M_works_8 (d : Nat) (l1 : Int32) (l2 : Int64) (l4 : Int64) (σ : jS) : b_M_works_8 d l1 l2 l4 σ = (jif ((lg_cmp l2 0) = 0) (some (some (.int 0), σ)) (b_M_works_9 d l1 l2 l4 σ)) := (db_eq _ _ _ _ _ _ _).trans rfl
set_option maxRecDepth 100000 in
theorem q_M_works_9 (d : Nat) (l1 : Int32) (l2 : Int64) (l4 : Int64) (σ : jS) : b_M_works_9 d l1 l2 l4 σ = (jif (l1 = 47) (if l2 = 0 then none else (b_M_works_11 d (l4 / l2) σ)) (b_M_works_10 d l2 l4 σ)) := (db_eq _ _ _ _ _ _ _).trans rfl
set_option maxRecDepth 100000 in
theorem q_M_works_10 (d : Nat) (l2 : Int64) (l4 : Int64) (σ : jS) : b_M_works_10 d l2 l4 σ = (if l2 = 0 then none else (b_M_works_11 d (l4 - l4 / l2 * l2) σ)) := (db_eq _ _ _ _ _ _ _).trans rfl
set_option maxRecDepth 100000 in
theorem q_M_works_11 (d : Nat) (s0 : Int64) (σ : jS) : b_M_works_11 d s0 σ = (b_M_works_37 d s0 σ) := (db_eq _ _ _ _ _ _ _).trans rfl
set_option maxRecDepth 100000 in
theorem q_M_works_12 (d : Nat) (l2 : Int64) (l4 : Int64) (σ : jS) : b_M_works_12 d l2 l4 σ = (jif (0 ≤ (lg_cmp l4 l2)) (b_M_works_13 d σ) (b_M_works_14 d 1 σ)) := (db_eq _ _ _ _ _ _ _).trans rfl
set_option maxRecDepth 100000 in
theorem q_M_works_13 (d : Nat) (σ : jS) : b_M_works_13 d σ = (b_M_works_14 d 0 σ) := (db_eq _ _ _ _ _ _ _).trans rfl
set_option maxRecDepth 100000 in
theorem q_M_works_14 (d : Nat) (s0 : Int32) (σ : jS) : b_M_works_14 d s0 σ = ((r_L (g_M_is d s0 σ)).bind fun q1 => b_M_works_37 d q1.1 q1.2) := (db_eq _ _ _ _ _ _ _).trans rfl
set_option maxRecDepth 100000 in
theorem q_M_works_15 (d : Nat) (l2 : Int64) (l4 : Int64) (σ : jS) : b_M_works_15 d l2 l4 σ = (jif ((lg_cmp l4 l2) ≤ 0) (b_M_works_16 d σ) (b_M_works_17 d 1 σ)) := (db_eq _ _ _ _ _ _ _).trans rfl
set_option maxRecDepth 100000 in
theorem q_M_works_16 (d : Nat) (σ : jS) : b_M_works_16 d σ = (b_M_works_17 d 0 σ) := (db_eq _ _ _ _ _ _ _).trans rfl
set_option maxRecDepth 100000 in
theorem q_M_works_17 (d : Nat) (s0 : Int32) (σ : jS) : b_M_works_17 d s0 σ = ((r_L (g_M_is d s0 σ)).bind fun q1 => b_M_works_37 d q1.1 q1.2) := (db_eq _ _ _ _ _ _ _).trans rfl
set_option maxRecDepth 100000 in
theorem q_M_works_18 (d : Nat) (l2 : Int64) (l4 : Int64) (σ : jS) : b_M_works_18 d l2 l4 σ = (jif ((lg_cmp l4 l2) = 0) (b_M_works_20 d 1 σ) (b_M_works_19 d σ)) := (db_eq _ _ _ _ _ _ _).trans rfl
set_option maxRecDepth 100000 in
theorem q_M_works_19 (d : Nat) (σ : jS) : b_M_works_19 d σ = (b_M_works_20 d 0 σ) := (db_eq _ _ _ _ _ _ _).trans rfl
set_option maxRecDepth 100000 in
theorem q_M_works_20 (d : Nat) (s0 : Int32) (σ : jS) : b_M_works_20 d s0 σ = ((r_L (g_M_is d s0 σ)).bind fun q1 => b_M_works_37 d q1.1 q1.2) := (db_eq _ _ _ _ _ _ _).trans rfl
set_option maxRecDepth 100000 in
theorem q_M_works_21 (d : Nat) (l2 : Int64) (l4 : Int64) (σ : jS) : b_M_works_21 d l2 l4 σ = (jif (0 < (lg_cmp l4 l2)) (b_M_works_22 d σ) (b_M_works_23 d 1 σ)) := (db_eq _ _ _ _ _ _ _).trans rfl
set_option maxRecDepth 100000 in
theorem q_M_works_22 (d : Nat) (σ : jS) : b_M_works_22 d σ = (b_M_works_23 d 0 σ) := (db_eq _ _ _ _ _ _ _).trans rfl
set_option maxRecDepth 100000 in
theorem q_M_works_23 (d : Nat) (s0 : Int32) (σ : jS) : b_M_works_23 d s0 σ = ((r_L (g_M_is d s0 σ)).bind fun q1 => b_M_works_37 d q1.1 q1.2) := (db_eq _ _ _ _ _ _ _).trans rfl
set_option maxRecDepth 100000 in
theorem q_M_works_24 (d : Nat) (l2 : Int64) (l4 : Int64) (σ : jS) : b_M_works_24 d l2 l4 σ = (jif ((lg_cmp l4 l2) < 0) (b_M_works_25 d σ) (b_M_works_26 d 1 σ)) := (db_eq _ _ _ _ _ _ _).trans rfl
set_option maxRecDepth 100000 in
theorem q_M_works_25 (d : Nat) (σ : jS) : b_M_works_25 d σ = (b_M_works_26 d 0 σ) := (db_eq _ _ _ _ _ _ _).trans rfl
set_option maxRecDepth 100000 in
theorem q_M_works_26 (d : Nat) (s0 : Int32) (σ : jS) : b_M_works_26 d s0 σ = ((r_L (g_M_is d s0 σ)).bind fun q1 => b_M_works_37 d q1.1 q1.2) := (db_eq _ _ _ _ _ _ _).trans rfl
set_option maxRecDepth 100000 in
theorem q_M_works_27 (d : Nat) (l2 : Int64) (l4 : Int64) (σ : jS) : b_M_works_27 d l2 l4 σ = (jif ((lg_cmp l4 l2) = 0) (b_M_works_28 d σ) (b_M_works_29 d 1 σ)) := (db_eq _ _ _ _ _ _ _).trans rfl
set_option maxRecDepth 100000 in
theorem q_M_works_28 (d : Nat) (σ : jS) : b_M_works_28 d σ = (b_M_works_29 d 0 σ) := (db_eq _ _ _ _ _ _ _).trans rfl
set_option maxRecDepth 100000 in
theorem q_M_works_29 (d : Nat) (s0 : Int32) (σ : jS) : b_M_works_29 d s0 σ = ((r_L (g_M_is d s0 σ)).bind fun q1 => b_M_works_37 d q1.1 q1.2) := (db_eq _ _ _ _ _ _ _).trans rfl
set_option maxRecDepth 100000 in
theorem q_M_works_30 (d : Nat) (l2 : Int64) (l4 : Int64) (σ : jS) : b_M_works_30 d l2 l4 σ = (jif ((lg_cmp l4 0) = 0) (b_M_works_31 d σ) (jif ((lg_cmp l2 0) = 0) (b_M_works_31 d σ) (b_M_works_32 d 1 σ))) := (db_eq _ _ _ _ _ _ _).trans rfl
set_option maxRecDepth 100000 in
theorem q_M_works_31 (d : Nat) (σ : jS) : b_M_works_31 d σ = (b_M_works_32 d 0 σ) := (db_eq _ _ _ _ _ _ _).trans rfl
set_option maxRecDepth 100000 in
theorem q_M_works_32 (d : Nat) (s0 : Int32) (σ : jS) : b_M_works_32 d s0 σ = ((r_L (g_M_is d s0 σ)).bind fun q1 => b_M_works_37 d q1.1 q1.2) := (db_eq _ _ _ _ _ _ _).trans rfl
set_option maxRecDepth 100000 in
theorem q_M_works_33 (d : Nat) (l2 : Int64) (l4 : Int64) (σ : jS) : b_M_works_33 d l2 l4 σ = (jif ((lg_cmp l4 0) = 0) (jif ((lg_cmp l2 0) = 0) (b_M_works_35 d σ) (b_M_works_34 d σ)) (b_M_works_34 d σ)) := (db_eq _ _ _ _ _ _ _).trans rfl
set_option maxRecDepth 100000 in
theorem q_M_works_34 (d : Nat) (σ : jS) : b_M_works_34 d σ = (b_M_works_36 d 1 σ) := (db_eq _ _ _ _ _ _ _).trans rfl
set_option maxRecDepth 100000 in
theorem q_M_works_35 (d : Nat) (σ : jS) : b_M_works_35 d σ = (b_M_works_36 d 0 σ) := (db_eq _ _ _ _ _ _ _).trans rfl
set_option maxRecDepth 100000 in
theorem q_M_works_36 (d : Nat) (s0 : Int32) (σ : jS) : b_M_works_36 d s0 σ = ((r_L (g_M_is d s0 σ)).bind fun q1 => b_M_works_37 d q1.1 q1.2) := (db_eq _ _ _ _ _ _ _).trans rfl
set_option maxRecDepth 100000 in
theorem q_M_works_37 (d : Nat) (l6 : Int64) (σ : jS) : b_M_works_37 d l6 σ = ((j_wrL σ 103 ((σ.1 86 35) - 1) l6).bind fun σ1 => jif (0 < (lg_cmp l6 1000000000000)) (b_M_works_38 d σ1) (jif ((lg_cmp l6 (-1000000000000)) < 0) (b_M_works_38 d σ1) (b_M_works_39 d 1 σ1))) := (db_eq _ _ _ _ _ _ _).trans rfl
set_option maxRecDepth 100000 in
theorem q_M_works_38 (d : Nat) (σ : jS) : b_M_works_38 d σ = (b_M_works_39 d 0 σ) := (db_eq _ _ _ _ _ _ _).trans rfl
set_option maxRecDepth 100000 in
theorem q_M_works_39 (d : Nat) (s0 : Int32) (σ : jS) : b_M_works_39 d s0 σ = (if s0 = 0 ∨ s0 = 1 then some (some (.int s0), σ) else none) := (db_eq _ _ _ _ _ _ _).trans rfl
noncomputable def b_M_goes_0 (d : Nat) (l1 : Int32) (σ : jS) : jR := db (jd jMT d) 2 k_M_goes 0 [(0, .ref 86), (1, .int l1)] [] σ
noncomputable def b_M_goes_1 (d : Nat) (l1 : Int32) (l2 : Int32) (σ : jS) : jR := db (jd jMT d) 2 k_M_goes 1 [(0, .ref 86), (1, .int l1), (2, .int l2)] [] σ
noncomputable def b_M_goes_2 (d : Nat) (l1 : Int32) (l2 : Int32) (σ : jS) : jR := db (jd jMT d) 2 k_M_goes 2 [(0, .ref 86), (1, .int l1), (2, .int l2)] [] σ
noncomputable def b_M_goes_3 (d : Nat) (l1 : Int32) (l2 : Int32) (s1 : Int32) (σ : jS) : jR := db (jd jMT d) 2 k_M_goes 3 [(0, .ref 86), (1, .int l1), (2, .int l2)] [.int s1, .ref 103] σ
noncomputable def b_M_goes_4 (d : Nat) (l1 : Int32) (l2 : Int32) (s1 : Int32) (s2 : Int64) (σ : jS) : jR := db (jd jMT d) 2 k_M_goes 4 [(0, .ref 86), (1, .int l1), (2, .int l2)] [.long s2, .int s1, .ref 103] σ
noncomputable def b_M_goes_5 (d : Nat) (l1 : Int32) (l2 : Int32) (σ : jS) : jR := db (jd jMT d) 2 k_M_goes 5 [(0, .ref 86), (1, .int l1), (2, .int l2)] [] σ
noncomputable def b_M_goes_6 (d : Nat) (σ : jS) : jR := db (jd jMT d) 2 k_M_goes 6 [] [] σ
theorem e_M_goes (d : Nat) (l1 : Int32) (σ : jS) : g_M_goes (d + 1) l1 σ = b_M_goes_0 d l1 σ := rfl
set_option maxRecDepth 100000 in
theorem q_M_goes_0 (d : Nat) (l1 : Int32) (σ : jS) : b_M_goes_0 d l1 σ = ((j_rdI 0 (j_setI σ 86 35 0) 98 l1).bind fun x1 => b_M_goes_1 d l1 x1 (j_setI σ 86 35 0)) := (db_eq _ _ _ _ _ _ _).trans rfl
set_option maxRecDepth 100000 in
theorem q_M_goes_1 (d : Nat) (l1 : Int32) (l2 : Int32) (σ : jS) : b_M_goes_1 d l1 l2 σ = ((j_rdI 0 σ 99 l1).bind fun x1 => jif (x1 ≤ l2) (b_M_goes_6 d σ) ((j_rdI 0 σ 100 l2).bind fun x2 => jif (x2 = 2) ((j_rdI 0 σ 101 l2).bind fun x3 => (r_I (g_M_works d x3 σ)).bind fun q4 => jif (q4.1 = 0) (some (some (.int 0), q4.2)) (b_M_goes_5 d l1 l2 q4.2)) (b_M_goes_2 d l1 l2 σ))) := (db_eq _ _ _ _ _ _ _).trans rfl
set_option maxRecDepth 100000 in
theorem q_M_goes_2 (d : Nat) (l1 : Int32) (l2 : Int32) (σ : jS) : b_M_goes_2 d l1 l2 σ = ((j_rdI 0 σ 100 l2).bind fun x1 => jif (x1 = 0) ((j_rdI 0 σ 101 l2).bind fun x2 => b_M_goes_4 d l1 l2 (σ.1 86 35) (Int32.toInt64 x2) σ) (b_M_goes_3 d l1 l2 (σ.1 86 35) σ)) := (db_eq _ _ _ _ _ _ _).trans rfl
set_option maxRecDepth 100000 in
theorem q_M_goes_3 (d : Nat) (l1 : Int32) (l2 : Int32) (s1 : Int32) (σ : jS) : b_M_goes_3 d l1 l2 s1 σ = ((j_rdI 0 σ 101 l2).bind fun x1 => (j_rdL σ 102 x1).bind fun x2 => b_M_goes_4 d l1 l2 s1 x2 σ) := (db_eq _ _ _ _ _ _ _).trans rfl
set_option maxRecDepth 100000 in
theorem q_M_goes_4 (d : Nat) (l1 : Int32) (l2 : Int32) (s1 : Int32) (s2 : Int64) (σ : jS) : b_M_goes_4 d l1 l2 s1 s2 σ = ((j_wrL σ 103 s1 s2).bind fun σ1 => b_M_goes_5 d l1 l2 (j_setI σ1 86 35 ((σ1.1 86 35) + 1))) := (db_eq _ _ _ _ _ _ _).trans rfl
set_option maxRecDepth 100000 in
theorem q_M_goes_5 (d : Nat) (l1 : Int32) (l2 : Int32) (σ : jS) : b_M_goes_5 d l1 l2 σ = (b_M_goes_1 d l1 (l2 + 1) σ) := (db_eq _ _ _ _ _ _ _).trans rfl
set_option maxRecDepth 100000 in
theorem q_M_goes_6 (d : Nat) (σ : jS) : b_M_goes_6 d σ = (some (some (.int 1), σ)) := (db_eq _ _ _ _ _ _ _).trans rfl
noncomputable def b_M_lays_0 (d : Nat) (l1 : Int32) (l2 : Int32) (l3 : Int32) (l4 : Int32) (l5 : Int32) (σ : jS) : jR := db (jd jMT d) 0 k_M_lays 0 [(0, .ref 86), (1, .int l1), (2, .int l2), (3, .int l3), (4, .int l4), (5, .int l5)] [] σ
noncomputable def b_M_lays_1 (d : Nat) (l4 : Int32) (l5 : Int32) (s1 : Int32) (σ : jS) : jR := db (jd jMT d) 0 k_M_lays 1 [(0, .ref 86), (4, .int l4), (5, .int l5)] [.int s1, .ref 102] σ
noncomputable def b_M_lays_2 (d : Nat) (l4 : Int32) (l5 : Int32) (s1 : Int32) (s2 : Int32) (σ : jS) : jR := db (jd jMT d) 0 k_M_lays 2 [(0, .ref 86), (4, .int l4), (5, .int l5)] [.int s2, .int s1, .ref 102] σ
theorem e_M_lays (d : Nat) (l1 : Int32) (l2 : Int32) (l3 : Int32) (l4 : Int32) (l5 : Int32) (σ : jS) : g_M_lays (d + 1) l1 l2 l3 l4 l5 σ = b_M_lays_0 d l1 l2 l3 l4 l5 σ := rfl
set_option maxRecDepth 100000 in
theorem q_M_lays_0 (d : Nat) (l1 : Int32) (l2 : Int32) (l3 : Int32) (l4 : Int32) (l5 : Int32) (σ : jS) : b_M_lays_0 d l1 l2 l3 l4 l5 σ = ((j_wrL σ 102 0 (Int32.toInt64 l1)).bind fun σ1 => (j_wrL σ1 102 1 (Int32.toInt64 l2)).bind fun σ2 => (j_wrL σ2 102 2 (Int32.toInt64 l3)).bind fun σ3 => jif (l2 ≤ l3) (b_M_lays_1 d l4 l5 3 σ3) (b_M_lays_2 d l4 l5 3 1 σ3)) := (db_eq _ _ _ _ _ _ _).trans rfl
set_option maxRecDepth 100000 in
theorem q_M_lays_1 (d : Nat) (l4 : Int32) (l5 : Int32) (s1 : Int32) (σ : jS) : b_M_lays_1 d l4 l5 s1 σ = (b_M_lays_2 d l4 l5 s1 0 σ) := (db_eq _ _ _ _ _ _ _).trans rfl
set_option maxRecDepth 100000 in
theorem q_M_lays_2 (d : Nat) (l4 : Int32) (l5 : Int32) (s1 : Int32) (s2 : Int32) (σ : jS) : b_M_lays_2 d l4 l5 s1 s2 σ = ((r_L (g_M_is d s2 σ)).bind fun q1 => (j_wrL q1.2 102 s1 q1.1).bind fun σ2 => (j_wrL σ2 102 4 (Int32.toInt64 l4)).bind fun σ3 => (j_wrL σ3 102 5 (Int32.toInt64 l5)).bind fun σ4 => some (none, σ4)) := (db_eq _ _ _ _ _ _ _).trans rfl
noncomputable def b_M_kept_0 (d : Nat) (l1 : Int32) (l2 : Int32) (l3 : Int32) (l4 : Int32) (l5 : Int32) (σ : jS) : jR := db (jd jMT d) 1 k_M_kept 0 [(0, .ref 86), (1, .int l1), (2, .int l2), (3, .int l3), (4, .int l4), (5, .int l5)] [] σ
noncomputable def b_M_kept_1 (d : Nat) (l6 : Int32) (σ : jS) : jR := db (jd jMT d) 1 k_M_kept 1 [(6, .int l6)] [] σ
noncomputable def b_M_kept_2 (d : Nat) (l1 : Int32) (l2 : Int32) (l3 : Int32) (l4 : Int32) (l5 : Int32) (l6 : Int32) (σ : jS) : jR := db (jd jMT d) 1 k_M_kept 2 [(0, .ref 86), (1, .int l1), (2, .int l2), (3, .int l3), (4, .int l4), (5, .int l5), (6, .int l6)] [] σ
noncomputable def b_M_kept_3 (d : Nat) (l1 : Int32) (l2 : Int32) (l3 : Int32) (l4 : Int32) (l5 : Int32) (l6 : Int32) (σ : jS) : jR := db (jd jMT d) 1 k_M_kept 3 [(0, .ref 86), (1, .int l1), (2, .int l2), (3, .int l3), (4, .int l4), (5, .int l5), (6, .int l6)] [] σ
noncomputable def b_M_kept_4 (d : Nat) (l6 : Int32) (σ : jS) : jR := db (jd jMT d) 1 k_M_kept 4 [(6, .int l6)] [] σ
noncomputable def b_M_kept_5 (d : Nat) (s0 : Int32) (σ : jS) : jR := db (jd jMT d) 1 k_M_kept 5 [] [.int s0] σ
noncomputable def b_M_kept_6 (d : Nat) (l1 : Int32) (l2 : Int32) (l3 : Int32) (l4 : Int32) (l5 : Int32) (l6 : Int32) (σ : jS) : jR := db (jd jMT d) 1 k_M_kept 6 [(0, .ref 86), (1, .int l1), (2, .int l2), (3, .int l3), (4, .int l4), (5, .int l5), (6, .int l6)] [] σ
noncomputable def b_M_kept_7 (d : Nat) (l6 : Int32) (σ : jS) : jR := db (jd jMT d) 1 k_M_kept 7 [(6, .int l6)] [] σ
noncomputable def b_M_kept_8 (d : Nat) (s0 : Int32) (σ : jS) : jR := db (jd jMT d) 1 k_M_kept 8 [] [.int s0] σ
theorem e_M_kept (d : Nat) (l1 : Int32) (l2 : Int32) (l3 : Int32) (l4 : Int32) (l5 : Int32) (σ : jS) : g_M_kept (d + 1) l1 l2 l3 l4 l5 σ = b_M_kept_0 d l1 l2 l3 l4 l5 σ := rfl
set_option maxRecDepth 100000 in
theorem q_M_kept_0 (d : Nat) (l1 : Int32) (l2 : Int32) (l3 : Int32) (l4 : Int32) (l5 : Int32) (σ : jS) : b_M_kept_0 d l1 l2 l3 l4 l5 σ = (jif ((l1 - l1 / 2 * 2) = 0) (b_M_kept_1 d (l1 / 2) σ) (jif ((σ.1 86 30) = 4) (b_M_kept_1 d (l1 / 2) σ) (b_M_kept_2 d l1 l2 l3 l4 l5 (l1 / 2) σ))) := (db_eq _ _ _ _ _ _ _).trans rfl
set_option maxRecDepth 100000 in
theorem q_M_kept_1 (d : Nat) (l6 : Int32) (σ : jS) : b_M_kept_1 d l6 σ = (some (some (.int l6), σ)) := (db_eq _ _ _ _ _ _ _).trans rfl
set_option maxRecDepth 100000 in
theorem q_M_kept_2 (d : Nat) (l1 : Int32) (l2 : Int32) (l3 : Int32) (l4 : Int32) (l5 : Int32) (l6 : Int32) (σ : jS) : b_M_kept_2 d l1 l2 l3 l4 l5 l6 σ = (jif ((σ.1 86 30) = 3) (jif ((σ.1 86 31) = l2) (some (some (.int (l6 + 1)), σ)) (b_M_kept_3 d l1 l2 l3 l4 l5 l6 σ)) (b_M_kept_3 d l1 l2 l3 l4 l5 l6 σ)) := (db_eq _ _ _ _ _ _ _).trans rfl
set_option maxRecDepth 100000 in
theorem q_M_kept_3 (d : Nat) (l1 : Int32) (l2 : Int32) (l3 : Int32) (l4 : Int32) (l5 : Int32) (l6 : Int32) (σ : jS) : b_M_kept_3 d l1 l2 l3 l4 l5 l6 σ = ((j_rdI 0 σ 99 (σ.1 86 32)).bind fun x1 => (j_rdI 0 σ 98 (σ.1 86 32)).bind fun x2 => jif (x1 = x2) ((r_I (g_M_ageOf d l2 σ)).bind fun q3 => (r_I (g_M_ageOf d l3 q3.2)).bind fun q4 => jif (q3.1 ≤ q4.1) (b_M_kept_4 d l6 q4.2) (b_M_kept_5 d (l6 + 1) q4.2)) (b_M_kept_6 d l1 l2 l3 l4 l5 l6 σ)) := (db_eq _ _ _ _ _ _ _).trans rfl
set_option maxRecDepth 100000 in
theorem q_M_kept_4 (d : Nat) (l6 : Int32) (σ : jS) : b_M_kept_4 d l6 σ = (b_M_kept_5 d l6 σ) := (db_eq _ _ _ _ _ _ _).trans rfl
set_option maxRecDepth 100000 in
theorem q_M_kept_5 (d : Nat) (s0 : Int32) (σ : jS) : b_M_kept_5 d s0 σ = (some (some (.int s0), σ)) := (db_eq _ _ _ _ _ _ _).trans rfl
set_option maxRecDepth 100000 in
theorem q_M_kept_6 (d : Nat) (l1 : Int32) (l2 : Int32) (l3 : Int32) (l4 : Int32) (l5 : Int32) (l6 : Int32) (σ : jS) : b_M_kept_6 d l1 l2 l3 l4 l5 l6 σ = ((r_I (g_M_ageOf d l2 σ)).bind fun q1 => (r_I (g_M_ageOf d l3 q1.2)).bind fun q2 => (r_V (g_M_lays d l1 q1.1 q2.1 l4 l5 q2.2)).bind fun σ3 => (r_I (g_M_goes d (σ3.1 86 32) σ3)).bind fun q4 => jif (q4.1 = 0) (b_M_kept_7 d l6 q4.2) ((j_rdL q4.2 103 0).bind fun x5 => jif ((lg_cmp x5 0) = 0) (b_M_kept_7 d l6 q4.2) (b_M_kept_8 d (l6 + 1) q4.2))) := (db_eq _ _ _ _ _ _ _).trans rfl
set_option maxRecDepth 100000 in
theorem q_M_kept_7 (d : Nat) (l6 : Int32) (σ : jS) : b_M_kept_7 d l6 σ = (b_M_kept_8 d l6 σ) := (db_eq _ _ _ _ _ _ _).trans rfl
set_option maxRecDepth 100000 in
theorem q_M_kept_8 (d : Nat) (s0 : Int32) (σ : jS) : b_M_kept_8 d s0 σ = (some (some (.int s0), σ)) := (db_eq _ _ _ _ _ _ _).trans rfl
noncomputable def b_M_law_0 (d : Nat) (l1 : Int32) (l2 : Int32) (l3 : Int32) (l4 : Int32) (l5 : Int32) (σ : jS) : jR := db (jd jMT d) 3 k_M_law 0 [(0, .ref 86), (1, .int l1), (2, .int l2), (3, .int l3), (4, .int l4), (5, .int l5)] [] σ
noncomputable def b_M_law_1 (d : Nat) (l1 : Int32) (l2 : Int32) (l3 : Int32) (l4 : Int32) (l5 : Int32) (σ : jS) : jR := db (jd jMT d) 3 k_M_law 1 [(0, .ref 86), (1, .int l1), (2, .int l2), (3, .int l3), (4, .int l4), (5, .int l5)] [] σ
noncomputable def b_M_law_2 (d : Nat) (l1 : Int32) (l2 : Int32) (l3 : Int32) (l4 : Int32) (l5 : Int32) (s0 : Int32) (σ : jS) : jR := db (jd jMT d) 3 k_M_law 2 [(0, .ref 86), (1, .int l1), (2, .int l2), (3, .int l3), (4, .int l4), (5, .int l5)] [.int s0] σ
noncomputable def b_M_law_3 (d : Nat) (σ : jS) : jR := db (jd jMT d) 3 k_M_law 3 [] [] σ
noncomputable def b_M_law_4 (d : Nat) (l1 : Int32) (l2 : Int32) (l3 : Int32) (l4 : Int32) (l5 : Int32) (σ : jS) : jR := db (jd jMT d) 3 k_M_law 4 [(0, .ref 86), (1, .int l1), (2, .int l2), (3, .int l3), (4, .int l4), (5, .int l5)] [] σ
noncomputable def b_M_law_5 (d : Nat) (σ : jS) : jR := db (jd jMT d) 3 k_M_law 5 [] [] σ
noncomputable def b_M_law_6 (d : Nat) (s0 : Int64) (σ : jS) : jR := db (jd jMT d) 3 k_M_law 6 [] [.long s0] σ
theorem e_M_law (d : Nat) (l1 : Int32) (l2 : Int32) (l3 : Int32) (l4 : Int32) (l5 : Int32) (σ : jS) : g_M_law (d + 1) l1 l2 l3 l4 l5 σ = b_M_law_0 d l1 l2 l3 l4 l5 σ := rfl
set_option maxRecDepth 100000 in
theorem q_M_law_0 (d : Nat) (l1 : Int32) (l2 : Int32) (l3 : Int32) (l4 : Int32) (l5 : Int32) (σ : jS) : b_M_law_0 d l1 l2 l3 l4 l5 σ = (jif (l1 < 0) (b_M_law_1 d l1 l2 l3 l4 l5 (j_setI σ 86 0 0)) (jif (9999 < l1) (b_M_law_1 d l1 l2 l3 l4 l5 (j_setI σ 86 0 0)) (jif (l4 < 0) (b_M_law_1 d l1 l2 l3 l4 l5 (j_setI σ 86 0 0)) (jif (9999 < l4) (b_M_law_1 d l1 l2 l3 l4 l5 (j_setI σ 86 0 0)) (jif (l5 < 0) (b_M_law_1 d l1 l2 l3 l4 l5 (j_setI σ 86 0 0)) (jif (9999 < l5) (b_M_law_1 d l1 l2 l3 l4 l5 (j_setI σ 86 0 0)) (jif (l2 < 0) (b_M_law_1 d l1 l2 l3 l4 l5 (j_setI σ 86 0 0)) (jif (99 < l2) (b_M_law_1 d l1 l2 l3 l4 l5 (j_setI σ 86 0 0)) (jif (l3 < 0) (b_M_law_1 d l1 l2 l3 l4 l5 (j_setI σ 86 0 0)) (jif (99 < l3) (b_M_law_1 d l1 l2 l3 l4 l5 (j_setI σ 86 0 0)) (b_M_law_2 d l1 l2 l3 l4 l5 1 (j_setI σ 86 0 0)))))))))))) := (db_eq _ _ _ _ _ _ _).trans rfl
set_option maxRecDepth 100000 in
theorem q_M_law_1 (d : Nat) (l1 : Int32) (l2 : Int32) (l3 : Int32) (l4 : Int32) (l5 : Int32) (σ : jS) : b_M_law_1 d l1 l2 l3 l4 l5 σ = (b_M_law_2 d l1 l2 l3 l4 l5 0 σ) := (db_eq _ _ _ _ _ _ _).trans rfl
set_option maxRecDepth 100000 in
theorem q_M_law_2 (d : Nat) (l1 : Int32) (l2 : Int32) (l3 : Int32) (l4 : Int32) (l5 : Int32) (s0 : Int32) (σ : jS) : b_M_law_2 d l1 l2 l3 l4 l5 s0 σ = (jif (s0 = 0) (b_M_law_3 d σ) ((j_rdI 0 σ 99 0).bind fun x1 => (j_rdI 0 σ 98 0).bind fun x2 => jif (x1 = x2) (b_M_law_3 d σ) (b_M_law_4 d l1 l2 l3 l4 l5 σ))) := (db_eq _ _ _ _ _ _ _).trans rfl
set_option maxRecDepth 100000 in
theorem q_M_law_3 (d : Nat) (σ : jS) : b_M_law_3 d σ = (some (some (.long (-9223372036854775808)), σ)) := (db_eq _ _ _ _ _ _ _).trans rfl
set_option maxRecDepth 100000 in
theorem q_M_law_4 (d : Nat) (l1 : Int32) (l2 : Int32) (l3 : Int32) (l4 : Int32) (l5 : Int32) (σ : jS) : b_M_law_4 d l1 l2 l3 l4 l5 σ = ((r_V (g_M_lays d l1 l2 l3 l4 l5 σ)).bind fun σ1 => (r_I (g_M_goes d 0 σ1)).bind fun q2 => jif (q2.1 = 0) (b_M_law_5 d q2.2) ((j_rdL q2.2 103 0).bind fun x3 => b_M_law_6 d x3 q2.2)) := (db_eq _ _ _ _ _ _ _).trans rfl
set_option maxRecDepth 100000 in
theorem q_M_law_5 (d : Nat) (σ : jS) : b_M_law_5 d σ = (b_M_law_6 d (-9223372036854775808) σ) := (db_eq _ _ _ _ _ _ _).trans rfl
set_option maxRecDepth 100000 in
theorem q_M_law_6 (d : Nat) (s0 : Int64) (σ : jS) : b_M_law_6 d s0 σ = (some (some (.long s0), σ)) := (db_eq _ _ _ _ _ _ _).trans rfl
noncomputable def b_M_begins_0 (d : Nat) (l1 : Int32) (σ : jS) : jR := db (jd jMT d) 0 k_M_begins 0 [(0, .ref 86), (1, .int l1)] [] σ
noncomputable def b_M_begins_1 (d : Nat) (l1 : Int32) (l2 : Int32) (σ : jS) : jR := db (jd jMT d) 0 k_M_begins 1 [(0, .ref 86), (1, .int l1), (2, .int l2)] [] σ
noncomputable def b_M_begins_2 (d : Nat) (l1 : Int32) (σ : jS) : jR := db (jd jMT d) 0 k_M_begins 2 [(0, .ref 86), (1, .int l1)] [] σ
noncomputable def b_M_begins_3 (d : Nat) (l1 : Int32) (l2 : Int32) (σ : jS) : jR := db (jd jMT d) 0 k_M_begins 3 [(0, .ref 86), (1, .int l1), (2, .int l2)] [] σ
noncomputable def b_M_begins_4 (d : Nat) (σ : jS) : jR := db (jd jMT d) 0 k_M_begins 4 [] [] σ
theorem e_M_begins (d : Nat) (l1 : Int32) (σ : jS) : g_M_begins (d + 1) l1 σ = b_M_begins_0 d l1 σ := rfl
set_option maxRecDepth 100000 in
theorem q_M_begins_0 (d : Nat) (l1 : Int32) (σ : jS) : b_M_begins_0 d l1 σ = ((j_wrI σ 107 l1 0).bind fun σ1 => b_M_begins_1 d l1 0 σ1) := (db_eq _ _ _ _ _ _ _).trans rfl
set_option maxRecDepth 100000 in
theorem q_M_begins_1 (d : Nat) (l1 : Int32) (l2 : Int32) (σ : jS) : b_M_begins_1 d l1 l2 σ = ((j_rdI 0 σ 88 0).bind fun x1 => jif (x1 ≤ l2) (b_M_begins_2 d l1 σ) ((j_rdI 0 σ 91 l2).bind fun x2 => (j_wrI σ 108 ((10 * l1) + l2) x2).bind fun σ3 => (j_wrI σ3 109 ((10 * l1) + l2) 0).bind fun σ4 => b_M_begins_1 d l1 (l2 + 1) σ4)) := (db_eq _ _ _ _ _ _ _).trans rfl
set_option maxRecDepth 100000 in
theorem q_M_begins_2 (d : Nat) (l1 : Int32) (σ : jS) : b_M_begins_2 d l1 σ = (b_M_begins_3 d l1 0 σ) := (db_eq _ _ _ _ _ _ _).trans rfl
set_option maxRecDepth 100000 in
theorem q_M_begins_3 (d : Nat) (l1 : Int32) (l2 : Int32) (σ : jS) : b_M_begins_3 d l1 l2 σ = (jif (30 ≤ l2) (b_M_begins_4 d σ) ((r_V (g_M_newParcel d ((30 * l1) + l2) σ)).bind fun σ1 => b_M_begins_3 d l1 (l2 + 1) σ1)) := (db_eq _ _ _ _ _ _ _).trans rfl
set_option maxRecDepth 100000 in
theorem q_M_begins_4 (d : Nat) (σ : jS) : b_M_begins_4 d σ = (some (none, σ)) := (db_eq _ _ _ _ _ _ _).trans rfl
noncomputable def b_M_newParcel_0 (d : Nat) (l1 : Int32) (σ : jS) : jR := db (jd jMT d) 0 k_M_newParcel 0 [(0, .ref 86), (1, .int l1)] [] σ
theorem e_M_newParcel (d : Nat) (l1 : Int32) (σ : jS) : g_M_newParcel (d + 1) l1 σ = b_M_newParcel_0 d l1 σ := rfl
set_option maxRecDepth 100000 in
theorem q_M_newParcel_0 (d : Nat) (l1 : Int32) (σ : jS) : b_M_newParcel_0 d l1 σ = ((j_wrI σ 110 l1 0).bind fun σ1 => (j_wrI σ1 111 l1 0).bind fun σ2 => (j_wrI σ2 112 l1 0).bind fun σ3 => (j_wrI σ3 113 l1 (-1)).bind fun σ4 => some (none, σ4)) := (db_eq _ _ _ _ _ _ _).trans rfl
noncomputable def b_M_copies_0 (d : Nat) (l1 : Int32) (l2 : Int32) (σ : jS) : jR := db (jd jMT d) 0 k_M_copies 0 [(0, .ref 86), (1, .int l1), (2, .int l2)] [] σ
noncomputable def b_M_copies_1 (d : Nat) (l1 : Int32) (l2 : Int32) (l3 : Int32) (σ : jS) : jR := db (jd jMT d) 0 k_M_copies 1 [(0, .ref 86), (1, .int l1), (2, .int l2), (3, .int l3)] [] σ
noncomputable def b_M_copies_2 (d : Nat) (l1 : Int32) (l2 : Int32) (σ : jS) : jR := db (jd jMT d) 0 k_M_copies 2 [(0, .ref 86), (1, .int l1), (2, .int l2)] [] σ
noncomputable def b_M_copies_3 (d : Nat) (l1 : Int32) (l2 : Int32) (l3 : Int32) (σ : jS) : jR := db (jd jMT d) 0 k_M_copies 3 [(0, .ref 86), (1, .int l1), (2, .int l2), (3, .int l3)] [] σ
noncomputable def b_M_copies_4 (d : Nat) (σ : jS) : jR := db (jd jMT d) 0 k_M_copies 4 [] [] σ
theorem e_M_copies (d : Nat) (l1 : Int32) (l2 : Int32) (σ : jS) : g_M_copies (d + 1) l1 l2 σ = b_M_copies_0 d l1 l2 σ := rfl
set_option maxRecDepth 100000 in
theorem q_M_copies_0 (d : Nat) (l1 : Int32) (l2 : Int32) (σ : jS) : b_M_copies_0 d l1 l2 σ = ((j_rdI 0 σ 107 l2).bind fun x1 => (j_wrI σ 107 l1 x1).bind fun σ2 => b_M_copies_1 d l1 l2 0 σ2) := (db_eq _ _ _ _ _ _ _).trans rfl
set_option maxRecDepth 100000 in
theorem q_M_copies_1 (d : Nat) (l1 : Int32) (l2 : Int32) (l3 : Int32) (σ : jS) : b_M_copies_1 d l1 l2 l3 σ = (jif (10 ≤ l3) (b_M_copies_2 d l1 l2 σ) ((j_rdI 0 σ 108 ((10 * l2) + l3)).bind fun x1 => (j_wrI σ 108 ((10 * l1) + l3) x1).bind fun σ2 => (j_rdI 0 σ2 109 ((10 * l2) + l3)).bind fun x3 => (j_wrI σ2 109 ((10 * l1) + l3) x3).bind fun σ4 => b_M_copies_1 d l1 l2 (l3 + 1) σ4)) := (db_eq _ _ _ _ _ _ _).trans rfl
set_option maxRecDepth 100000 in
theorem q_M_copies_2 (d : Nat) (l1 : Int32) (l2 : Int32) (σ : jS) : b_M_copies_2 d l1 l2 σ = (b_M_copies_3 d l1 l2 0 σ) := (db_eq _ _ _ _ _ _ _).trans rfl
set_option maxRecDepth 100000 in
theorem q_M_copies_3 (d : Nat) (l1 : Int32) (l2 : Int32) (l3 : Int32) (σ : jS) : b_M_copies_3 d l1 l2 l3 σ = (jif (30 ≤ l3) (b_M_copies_4 d σ) ((j_rdI 0 σ 110 ((30 * l2) + l3)).bind fun x1 => (j_wrI σ 110 ((30 * l1) + l3) x1).bind fun σ2 => (j_rdI 0 σ2 111 ((30 * l2) + l3)).bind fun x3 => (j_wrI σ2 111 ((30 * l1) + l3) x3).bind fun σ4 => (j_rdI 0 σ4 112 ((30 * l2) + l3)).bind fun x5 => (j_wrI σ4 112 ((30 * l1) + l3) x5).bind fun σ6 => (j_rdI 0 σ6 113 ((30 * l2) + l3)).bind fun x7 => (j_wrI σ6 113 ((30 * l1) + l3) x7).bind fun σ8 => b_M_copies_3 d l1 l2 (l3 + 1) σ8)) := (db_eq _ _ _ _ _ _ _).trans rfl
set_option maxRecDepth 100000 in
theorem q_M_copies_4 (d : Nat) (σ : jS) : b_M_copies_4 d σ = (some (none, σ)) := (db_eq _ _ _ _ _ _ _).trans rfl
noncomputable def b_M_nextOf_0 (d : Nat) (l1 : Int32) (l2 : Int32) (σ : jS) : jR := db (jd jMT d) 1 k_M_nextOf 0 [(0, .ref 86), (1, .int l1), (2, .int l2)] [] σ
theorem e_M_nextOf (d : Nat) (l1 : Int32) (l2 : Int32) (σ : jS) : g_M_nextOf (d + 1) l1 l2 σ = b_M_nextOf_0 d l1 l2 σ := rfl
set_option maxRecDepth 100000 in
theorem q_M_nextOf_0 (d : Nat) (l1 : Int32) (l2 : Int32) (σ : jS) : b_M_nextOf_0 d l1 l2 σ = ((j_rdI 0 σ 109 ((10 * l1) + l2)).bind fun x1 => (r_I (g_M_manyOf d l2 σ)).bind fun q2 => if q2.1 = 0 then none else ((j_rdI 0 q2.2 93 ((3 * l2) + (x1 - x1 / q2.1 * q2.1))).bind fun x3 => some (some (.int x3), q2.2))) := (db_eq _ _ _ _ _ _ _).trans rfl
noncomputable def b_M_handsOn_0 (d : Nat) (l1 : Int32) (l2 : Int32) (l3 : Int32) (l4 : Int32) (σ : jS) : jR := db (jd jMT d) 0 k_M_handsOn 0 [(0, .ref 86), (1, .int l1), (2, .int l2), (3, .int l3), (4, .int l4)] [] σ
theorem e_M_handsOn (d : Nat) (l1 : Int32) (l2 : Int32) (l3 : Int32) (l4 : Int32) (σ : jS) : g_M_handsOn (d + 1) l1 l2 l3 l4 σ = b_M_handsOn_0 d l1 l2 l3 l4 σ := rfl
set_option maxRecDepth 100000 in
theorem q_M_handsOn_0 (d : Nat) (l1 : Int32) (l2 : Int32) (l3 : Int32) (l4 : Int32) (σ : jS) : b_M_handsOn_0 d l1 l2 l3 l4 σ = ((j_wrI σ 110 ((30 * l1) + l2) 1).bind fun σ1 => (j_wrI σ1 111 ((30 * l1) + l2) l4).bind fun σ2 => (r_I (g_M_nextOf d l1 l3 σ2)).bind fun q3 => (j_wrI q3.2 113 ((30 * l1) + l2) q3.1).bind fun σ4 => (j_rdI 0 σ4 109 ((10 * l1) + l3)).bind fun x5 => (r_I (g_M_manyOf d l3 σ4)).bind fun q6 => if q6.1 = 0 then none else ((j_wrI q6.2 109 ((10 * l1) + l3) ((x5 + 1) - (x5 + 1) / q6.1 * q6.1)).bind fun σ7 => some (none, σ7))) := (db_eq _ _ _ _ _ _ _).trans rfl
noncomputable def b_M_rests_0 (d : Nat) (l1 : Int32) (l2 : Int32) (l3 : Int32) (l4 : Int32) (σ : jS) : jR := db (jd jMT d) 0 k_M_rests 0 [(0, .ref 86), (1, .int l1), (2, .int l2), (3, .int l3), (4, .int l4)] [] σ
theorem e_M_rests (d : Nat) (l1 : Int32) (l2 : Int32) (l3 : Int32) (l4 : Int32) (σ : jS) : g_M_rests (d + 1) l1 l2 l3 l4 σ = b_M_rests_0 d l1 l2 l3 l4 σ := rfl
set_option maxRecDepth 100000 in
theorem q_M_rests_0 (d : Nat) (l1 : Int32) (l2 : Int32) (l3 : Int32) (l4 : Int32) (σ : jS) : b_M_rests_0 d l1 l2 l3 l4 σ = ((j_rdI 0 σ 108 ((10 * l1) + l3)).bind fun x1 => (j_wrI σ 108 ((10 * l1) + l3) (x1 + l4)).bind fun σ2 => (j_wrI σ2 110 ((30 * l1) + l2) 2).bind fun σ3 => (j_wrI σ3 111 ((30 * l1) + l2) 0).bind fun σ4 => (j_wrI σ4 113 ((30 * l1) + l2) (-1)).bind fun σ5 => some (none, σ5)) := (db_eq _ _ _ _ _ _ _).trans rfl
noncomputable def b_M_passes_0 (d : Nat) (l1 : Int32) (σ : jS) : jR := db (jd jMT d) 0 k_M_passes 0 [(0, .ref 86), (1, .int l1)] [] σ
noncomputable def b_M_passes_1 (d : Nat) (l1 : Int32) (l2 : Int32) (l3 : Int32) (σ : jS) : jR := db (jd jMT d) 0 k_M_passes 1 [(0, .ref 86), (1, .int l1), (2, .int l2), (3, .int l3)] [] σ
noncomputable def b_M_passes_2 (d : Nat) (l1 : Int32) (l3 : Int32) (s0 : Int32) (σ : jS) : jR := db (jd jMT d) 0 k_M_passes 2 [(0, .ref 86), (1, .int l1), (3, .int l3)] [.int s0] σ
noncomputable def b_M_passes_3 (d : Nat) (l1 : Int32) (l3 : Int32) (s0 : Int32) (s1 : Int32) (σ : jS) : jR := db (jd jMT d) 0 k_M_passes 3 [(0, .ref 86), (1, .int l1), (3, .int l3)] [.int s1, .int s0] σ
noncomputable def b_M_passes_4 (d : Nat) (l1 : Int32) (l2 : Int32) (σ : jS) : jR := db (jd jMT d) 0 k_M_passes 4 [(0, .ref 86), (1, .int l1), (2, .int l2)] [] σ
noncomputable def b_M_passes_5 (d : Nat) (l1 : Int32) (l2 : Int32) (l3 : Int32) (σ : jS) : jR := db (jd jMT d) 0 k_M_passes 5 [(0, .ref 86), (1, .int l1), (2, .int l2), (3, .int l3)] [] σ
noncomputable def b_M_passes_6 (d : Nat) (l1 : Int32) (l2 : Int32) (l3 : Int32) (σ : jS) : jR := db (jd jMT d) 0 k_M_passes 6 [(0, .ref 86), (1, .int l1), (2, .int l2), (3, .int l3)] [] σ
noncomputable def b_M_passes_7 (d : Nat) (l1 : Int32) (l2 : Int32) (l3 : Int32) (σ : jS) : jR := db (jd jMT d) 0 k_M_passes 7 [(0, .ref 86), (1, .int l1), (2, .int l2), (3, .int l3)] [] σ
noncomputable def b_M_passes_8 (d : Nat) (l1 : Int32) (l2 : Int32) (l3 : Int32) (σ : jS) : jR := db (jd jMT d) 0 k_M_passes 8 [(0, .ref 86), (1, .int l1), (2, .int l2), (3, .int l3)] [] σ
noncomputable def b_M_passes_9 (d : Nat) (l1 : Int32) (l2 : Int32) (σ : jS) : jR := db (jd jMT d) 0 k_M_passes 9 [(0, .ref 86), (1, .int l1), (2, .int l2)] [] σ
noncomputable def b_M_passes_10 (d : Nat) (l1 : Int32) (l2 : Int32) (l3 : Int32) (σ : jS) : jR := db (jd jMT d) 0 k_M_passes 10 [(0, .ref 86), (1, .int l1), (2, .int l2), (3, .int l3)] [] σ
noncomputable def b_M_passes_11 (d : Nat) (l1 : Int32) (l2 : Int32) (l3 : Int32) (σ : jS) : jR := db (jd jMT d) 0 k_M_passes 11 [(0, .ref 86), (1, .int l1), (2, .int l2), (3, .int l3)] [] σ
noncomputable def b_M_passes_12 (d : Nat) (l1 : Int32) (σ : jS) : jR := db (jd jMT d) 0 k_M_passes 12 [(0, .ref 86), (1, .int l1)] [] σ
theorem e_M_passes (d : Nat) (l1 : Int32) (σ : jS) : g_M_passes (d + 1) l1 σ = b_M_passes_0 d l1 σ := rfl
set_option maxRecDepth 100000 in
theorem q_M_passes_0 (d : Nat) (l1 : Int32) (σ : jS) : b_M_passes_0 d l1 σ = (b_M_passes_1 d l1 0 0 σ) := (db_eq _ _ _ _ _ _ _).trans rfl
set_option maxRecDepth 100000 in
theorem q_M_passes_1 (d : Nat) (l1 : Int32) (l2 : Int32) (l3 : Int32) (σ : jS) : b_M_passes_1 d l1 l2 l3 σ = (jif ((σ.1 86 36) ≤ l3) (b_M_passes_4 d l1 l2 σ) ((j_rdI 0 σ 110 ((30 * l1) + l3)).bind fun x1 => jif (x1 = 1) (b_M_passes_3 d l1 l3 l2 ((1 : Int32) <<< ((l3 : Int32) &&& 31)) σ) (b_M_passes_2 d l1 l3 l2 σ))) := (db_eq _ _ _ _ _ _ _).trans rfl
set_option maxRecDepth 100000 in
theorem q_M_passes_2 (d : Nat) (l1 : Int32) (l3 : Int32) (s0 : Int32) (σ : jS) : b_M_passes_2 d l1 l3 s0 σ = (b_M_passes_3 d l1 l3 s0 0 σ) := (db_eq _ _ _ _ _ _ _).trans rfl
set_option maxRecDepth 100000 in
theorem q_M_passes_3 (d : Nat) (l1 : Int32) (l3 : Int32) (s0 : Int32) (s1 : Int32) (σ : jS) : b_M_passes_3 d l1 l3 s0 s1 σ = (b_M_passes_1 d l1 (s0 ||| s1) (l3 + 1) σ) := (db_eq _ _ _ _ _ _ _).trans rfl
set_option maxRecDepth 100000 in
theorem q_M_passes_4 (d : Nat) (l1 : Int32) (l2 : Int32) (σ : jS) : b_M_passes_4 d l1 l2 σ = (b_M_passes_5 d l1 l2 0 σ) := (db_eq _ _ _ _ _ _ _).trans rfl
set_option maxRecDepth 100000 in
theorem q_M_passes_5 (d : Nat) (l1 : Int32) (l2 : Int32) (l3 : Int32) (σ : jS) : b_M_passes_5 d l1 l2 l3 σ = (jif ((σ.1 86 36) ≤ l3) (b_M_passes_9 d l1 l2 σ) ((j_rdI 0 σ 106 l3).bind fun x1 => (j_rdI 0 σ 107 l1).bind fun x2 => jif (x1 = x2) ((j_rdI 0 σ 110 ((30 * l1) + l3)).bind fun x3 => jif (x3 = 0) (jif ((σ.1 86 30) = 5) (jif ((σ.1 86 31) = l3) (b_M_passes_8 d l1 l2 l3 σ) (b_M_passes_6 d l1 l2 l3 σ)) (b_M_passes_6 d l1 l2 l3 σ)) (b_M_passes_8 d l1 l2 l3 σ)) (b_M_passes_8 d l1 l2 l3 σ))) := (db_eq _ _ _ _ _ _ _).trans rfl
set_option maxRecDepth 100000 in
theorem q_M_passes_6 (d : Nat) (l1 : Int32) (l2 : Int32) (l3 : Int32) (σ : jS) : b_M_passes_6 d l1 l2 l3 σ = ((j_rdI 0 σ 104 l3).bind fun x1 => (r_I (g_M_manyOf d x1 σ)).bind fun q2 => jif (q2.1 = 0) ((j_rdI 0 q2.2 104 l3).bind fun x3 => (j_rdI 0 q2.2 105 l3).bind fun x4 => (r_V (g_M_rests d l1 l3 x3 x4 q2.2)).bind fun σ5 => b_M_passes_8 d l1 l2 l3 σ5) (b_M_passes_7 d l1 l2 l3 q2.2)) := (db_eq _ _ _ _ _ _ _).trans rfl
set_option maxRecDepth 100000 in
theorem q_M_passes_7 (d : Nat) (l1 : Int32) (l2 : Int32) (l3 : Int32) (σ : jS) : b_M_passes_7 d l1 l2 l3 σ = ((j_rdI 0 σ 104 l3).bind fun x1 => (j_rdI 0 σ 105 l3).bind fun x2 => (r_V (g_M_handsOn d l1 l3 x1 x2 σ)).bind fun σ3 => b_M_passes_8 d l1 l2 l3 σ3) := (db_eq _ _ _ _ _ _ _).trans rfl
set_option maxRecDepth 100000 in
theorem q_M_passes_8 (d : Nat) (l1 : Int32) (l2 : Int32) (l3 : Int32) (σ : jS) : b_M_passes_8 d l1 l2 l3 σ = (b_M_passes_5 d l1 l2 (l3 + 1) σ) := (db_eq _ _ _ _ _ _ _).trans rfl
set_option maxRecDepth 100000 in
theorem q_M_passes_9 (d : Nat) (l1 : Int32) (l2 : Int32) (σ : jS) : b_M_passes_9 d l1 l2 σ = (b_M_passes_10 d l1 l2 0 σ) := (db_eq _ _ _ _ _ _ _).trans rfl
set_option maxRecDepth 100000 in
theorem q_M_passes_10 (d : Nat) (l1 : Int32) (l2 : Int32) (l3 : Int32) (σ : jS) : b_M_passes_10 d l1 l2 l3 σ = (jif ((σ.1 86 36) ≤ l3) (b_M_passes_12 d l1 σ) (jif ((((l2 : Int32) >>> ((l3 : Int32) &&& 31)) &&& 1) = 1) ((r_V (g_M_comes d l1 l3 σ)).bind fun σ1 => b_M_passes_11 d l1 l2 l3 σ1) (b_M_passes_11 d l1 l2 l3 σ))) := (db_eq _ _ _ _ _ _ _).trans rfl
set_option maxRecDepth 100000 in
theorem q_M_passes_11 (d : Nat) (l1 : Int32) (l2 : Int32) (l3 : Int32) (σ : jS) : b_M_passes_11 d l1 l2 l3 σ = (b_M_passes_10 d l1 l2 (l3 + 1) σ) := (db_eq _ _ _ _ _ _ _).trans rfl
set_option maxRecDepth 100000 in
theorem q_M_passes_12 (d : Nat) (l1 : Int32) (σ : jS) : b_M_passes_12 d l1 σ = ((j_rdI 0 σ 107 l1).bind fun x1 => (j_wrI σ 107 l1 (x1 + 1)).bind fun σ2 => some (none, σ2)) := (db_eq _ _ _ _ _ _ _).trans rfl
noncomputable def b_M_comes_0 (d : Nat) (l1 : Int32) (l2 : Int32) (σ : jS) : jR := db (jd jMT d) 0 k_M_comes 0 [(0, .ref 86), (1, .int l1), (2, .int l2)] [] σ
noncomputable def b_M_comes_1 (d : Nat) (l1 : Int32) (l2 : Int32) (l4 : Int32) (l5 : Int32) (σ : jS) : jR := db (jd jMT d) 0 k_M_comes 1 [(0, .ref 86), (1, .int l1), (2, .int l2), (4, .int l4), (5, .int l5)] [] σ
noncomputable def b_M_comes_2 (d : Nat) (l1 : Int32) (l2 : Int32) (l3 : Int32) (l4 : Int32) (l5 : Int32) (σ : jS) : jR := db (jd jMT d) 0 k_M_comes 2 [(0, .ref 86), (1, .int l1), (2, .int l2), (3, .int l3), (4, .int l4), (5, .int l5)] [] σ
noncomputable def b_M_comes_3 (d : Nat) (l1 : Int32) (l2 : Int32) (l4 : Int32) (l5 : Int32) (l6 : Int32) (σ : jS) : jR := db (jd jMT d) 0 k_M_comes 3 [(0, .ref 86), (1, .int l1), (2, .int l2), (4, .int l4), (5, .int l5), (6, .int l6)] [] σ
theorem e_M_comes (d : Nat) (l1 : Int32) (l2 : Int32) (σ : jS) : g_M_comes (d + 1) l1 l2 σ = b_M_comes_0 d l1 l2 σ := rfl
set_option maxRecDepth 100000 in
theorem q_M_comes_0 (d : Nat) (l1 : Int32) (l2 : Int32) (σ : jS) : b_M_comes_0 d l1 l2 σ = ((j_rdI 0 σ 113 ((30 * l1) + l2)).bind fun x1 => (j_rdI 0 σ 111 ((30 * l1) + l2)).bind fun x2 => (j_rdI 0 σ 112 ((30 * l1) + l2)).bind fun x3 => (j_wrI σ 112 ((30 * l1) + l2) (x3 + 1)).bind fun σ4 => (r_I (g_M_manyOf d x1 σ4)).bind fun q5 => jif (q5.1 = 0) (b_M_comes_1 d l1 l2 x1 x2 q5.2) ((j_rdI 0 q5.2 112 ((30 * l1) + l2)).bind fun x6 => jif (x6 = 100) (b_M_comes_1 d l1 l2 x1 x2 q5.2) (b_M_comes_2 d l1 l2 ((30 * l1) + l2) x1 x2 q5.2))) := (db_eq _ _ _ _ _ _ _).trans rfl
set_option maxRecDepth 100000 in
theorem q_M_comes_1 (d : Nat) (l1 : Int32) (l2 : Int32) (l4 : Int32) (l5 : Int32) (σ : jS) : b_M_comes_1 d l1 l2 l4 l5 σ = ((r_V (g_M_rests d l1 l2 l4 l5 σ)).bind fun σ1 => some (none, σ1)) := (db_eq _ _ _ _ _ _ _).trans rfl
set_option maxRecDepth 100000 in
theorem q_M_comes_2 (d : Nat) (l1 : Int32) (l2 : Int32) (l3 : Int32) (l4 : Int32) (l5 : Int32) (σ : jS) : b_M_comes_2 d l1 l2 l3 l4 l5 σ = ((r_I (g_M_nextOf d l1 l4 σ)).bind fun q1 => (j_rdI 0 q1.2 112 l3).bind fun x2 => (j_rdI 0 q1.2 107 l1).bind fun x3 => (r_I (g_M_kept d l5 l4 q1.1 x2 x3 q1.2)).bind fun q4 => jif (q4.1 = l5) ((r_V (g_M_rests d l1 l2 l4 l5 q4.2)).bind fun σ5 => some (none, σ5)) (b_M_comes_3 d l1 l2 l4 l5 q4.1 q4.2)) := (db_eq _ _ _ _ _ _ _).trans rfl
set_option maxRecDepth 100000 in
theorem q_M_comes_3 (d : Nat) (l1 : Int32) (l2 : Int32) (l4 : Int32) (l5 : Int32) (l6 : Int32) (σ : jS) : b_M_comes_3 d l1 l2 l4 l5 l6 σ = ((j_rdI 0 σ 108 ((10 * l1) + l4)).bind fun x1 => (j_wrI σ 108 ((10 * l1) + l4) (x1 + l6)).bind fun σ2 => (r_V (g_M_handsOn d l1 l2 l4 (l5 - l6) σ2)).bind fun σ3 => some (none, σ3)) := (db_eq _ _ _ _ _ _ _).trans rfl
noncomputable def b_M_look_0 (d : Nat) (l1 : Int32) (l2 : Int32) (σ : jS) : jR := db (jd jMT d) 1 k_M_look 0 [(0, .ref 86), (1, .int l1), (2, .int l2)] [] σ
noncomputable def b_M_look_1 (d : Nat) (l1 : Int32) (l2 : Int32) (σ : jS) : jR := db (jd jMT d) 1 k_M_look 1 [(0, .ref 86), (1, .int l1), (2, .int l2)] [.ref 86] σ
noncomputable def b_M_look_2 (d : Nat) (l1 : Int32) (l2 : Int32) (σ : jS) : jR := db (jd jMT d) 1 k_M_look 2 [(0, .ref 86), (1, .int l1), (2, .int l2)] [.ref 86] σ
noncomputable def b_M_look_3 (d : Nat) (l1 : Int32) (l2 : Int32) (σ : jS) : jR := db (jd jMT d) 1 k_M_look 3 [(0, .ref 86), (1, .int l1), (2, .int l2)] [.ref 86] σ
noncomputable def b_M_look_4 (d : Nat) (l1 : Int32) (l2 : Int32) (s1 : Int32) (σ : jS) : jR := db (jd jMT d) 1 k_M_look 4 [(0, .ref 86), (1, .int l1), (2, .int l2)] [.int s1, .ref 86] σ
noncomputable def b_M_look_5 (d : Nat) (l1 : Int32) (l2 : Int32) (σ : jS) : jR := db (jd jMT d) 1 k_M_look 5 [(0, .ref 86), (1, .int l1), (2, .int l2)] [] σ
noncomputable def b_M_look_6 (d : Nat) (l1 : Int32) (σ : jS) : jR := db (jd jMT d) 1 k_M_look 6 [(0, .ref 86), (1, .int l1)] [] σ
noncomputable def b_M_look_7 (d : Nat) (l1 : Int32) (σ : jS) : jR := db (jd jMT d) 1 k_M_look 7 [(0, .ref 86), (1, .int l1)] [] σ
noncomputable def b_M_look_8 (d : Nat) (l1 : Int32) (σ : jS) : jR := db (jd jMT d) 1 k_M_look 8 [(0, .ref 86), (1, .int l1)] [] σ
noncomputable def b_M_look_9 (d : Nat) (l1 : Int32) (σ : jS) : jR := db (jd jMT d) 1 k_M_look 9 [(0, .ref 86), (1, .int l1)] [] σ
noncomputable def b_M_look_10 (d : Nat) (l1 : Int32) (l2 : Int32) (σ : jS) : jR := db (jd jMT d) 1 k_M_look 10 [(0, .ref 86), (1, .int l1), (2, .int l2)] [] σ
noncomputable def b_M_look_11 (d : Nat) (σ : jS) : jR := db (jd jMT d) 1 k_M_look 11 [] [] σ
noncomputable def b_M_look_12 (d : Nat) (s0 : Int32) (σ : jS) : jR := db (jd jMT d) 1 k_M_look 12 [] [.int s0] σ
theorem e_M_look (d : Nat) (l1 : Int32) (l2 : Int32) (σ : jS) : g_M_look (d + 1) l1 l2 σ = b_M_look_0 d l1 l2 σ := rfl
set_option maxRecDepth 100000 in
theorem q_M_look_0 (d : Nat) (l1 : Int32) (l2 : Int32) (σ : jS) : b_M_look_0 d l1 l2 σ = ((r_I (g_M_isPerson d l1 σ)).bind fun q1 => jif (q1.1 = 0) (b_M_look_4 d l1 l2 1 q1.2) (b_M_look_1 d l1 l2 q1.2)) := (db_eq _ _ _ _ _ _ _).trans rfl
set_option maxRecDepth 100000 in
theorem q_M_look_1 (d : Nat) (l1 : Int32) (l2 : Int32) (σ : jS) : b_M_look_1 d l1 l2 σ = (jif (l2 < 0) (b_M_look_2 d l1 l2 σ) (jif (l2 ≤ 6) (b_M_look_3 d l1 l2 σ) (b_M_look_2 d l1 l2 σ))) := (db_eq _ _ _ _ _ _ _).trans rfl
set_option maxRecDepth 100000 in
theorem q_M_look_2 (d : Nat) (l1 : Int32) (l2 : Int32) (σ : jS) : b_M_look_2 d l1 l2 σ = (b_M_look_4 d l1 l2 2 σ) := (db_eq _ _ _ _ _ _ _).trans rfl
set_option maxRecDepth 100000 in
theorem q_M_look_3 (d : Nat) (l1 : Int32) (l2 : Int32) (σ : jS) : b_M_look_3 d l1 l2 σ = (b_M_look_4 d l1 l2 0 σ) := (db_eq _ _ _ _ _ _ _).trans rfl
set_option maxRecDepth 100000 in
theorem q_M_look_4 (d : Nat) (l1 : Int32) (l2 : Int32) (s1 : Int32) (σ : jS) : b_M_look_4 d l1 l2 s1 σ = (jif (((j_setI σ 86 0 s1).1 86 0) = 0) (b_M_look_5 d l1 l2 (j_setI σ 86 0 s1)) (some (some (.int 0), (j_setI σ 86 0 s1)))) := (db_eq _ _ _ _ _ _ _).trans rfl
set_option maxRecDepth 100000 in
theorem q_M_look_5 (d : Nat) (l1 : Int32) (l2 : Int32) (σ : jS) : b_M_look_5 d l1 l2 σ = (jif (l2 = 0) (b_M_look_6 d l1 σ) (jif (l2 = 1) (b_M_look_7 d l1 σ) (jif (l2 = 2) (b_M_look_8 d l1 σ) (jif (l2 = 3) (b_M_look_10 d l1 l2 σ) (jif (l2 = 4) (b_M_look_10 d l1 l2 σ) (jif (l2 = 5) (b_M_look_10 d l1 l2 σ) (jif (l2 = 6) (b_M_look_9 d l1 σ) (b_M_look_10 d l1 l2 σ)))))))) := (db_eq _ _ _ _ _ _ _).trans rfl
set_option maxRecDepth 100000 in
theorem q_M_look_6 (d : Nat) (l1 : Int32) (σ : jS) : b_M_look_6 d l1 σ = ((j_rdI 0 σ 90 l1).bind fun x1 => some (some (.int x1), σ)) := (db_eq _ _ _ _ _ _ _).trans rfl
set_option maxRecDepth 100000 in
theorem q_M_look_7 (d : Nat) (l1 : Int32) (σ : jS) : b_M_look_7 d l1 σ = ((j_rdI 0 σ 108 l1).bind fun x1 => some (some (.int x1), σ)) := (db_eq _ _ _ _ _ _ _).trans rfl
set_option maxRecDepth 100000 in
theorem q_M_look_8 (d : Nat) (l1 : Int32) (σ : jS) : b_M_look_8 d l1 σ = ((j_rdI 0 σ 92 l1).bind fun x1 => some (some (.int x1), σ)) := (db_eq _ _ _ _ _ _ _).trans rfl
set_option maxRecDepth 100000 in
theorem q_M_look_9 (d : Nat) (l1 : Int32) (σ : jS) : b_M_look_9 d l1 σ = ((j_rdI 0 σ 109 l1).bind fun x1 => some (some (.int x1), σ)) := (db_eq _ _ _ _ _ _ _).trans rfl
set_option maxRecDepth 100000 in
theorem q_M_look_10 (d : Nat) (l1 : Int32) (l2 : Int32) (σ : jS) : b_M_look_10 d l1 l2 σ = ((j_rdI 0 σ 92 l1).bind fun x1 => jif (x1 ≤ (l2 - 3)) (b_M_look_11 d σ) ((j_rdI 0 σ 93 (((3 * l1) + l2) - 3)).bind fun x2 => b_M_look_12 d x2 σ)) := (db_eq _ _ _ _ _ _ _).trans rfl
set_option maxRecDepth 100000 in
theorem q_M_look_11 (d : Nat) (σ : jS) : b_M_look_11 d σ = (b_M_look_12 d (-1) σ) := (db_eq _ _ _ _ _ _ _).trans rfl
set_option maxRecDepth 100000 in
theorem q_M_look_12 (d : Nat) (s0 : Int32) (σ : jS) : b_M_look_12 d s0 σ = (some (some (.int s0), σ)) := (db_eq _ _ _ _ _ _ _).trans rfl
noncomputable def b_M_hours_0 (d : Nat) (l1 : Int32) (σ : jS) : jR := db (jd jMT d) 1 k_M_hours 0 [(0, .ref 86), (1, .int l1)] [] σ
noncomputable def b_M_hours_1 (d : Nat) (σ : jS) : jR := db (jd jMT d) 1 k_M_hours 1 [] [] σ
noncomputable def b_M_hours_2 (d : Nat) (l1 : Int32) (σ : jS) : jR := db (jd jMT d) 1 k_M_hours 2 [(0, .ref 86), (1, .int l1)] [] σ
noncomputable def b_M_hours_3 (d : Nat) (l1 : Int32) (l2 : Int32) (σ : jS) : jR := db (jd jMT d) 1 k_M_hours 3 [(0, .ref 86), (1, .int l1), (2, .int l2)] [] σ
noncomputable def b_M_hours_4 (d : Nat) (σ : jS) : jR := db (jd jMT d) 1 k_M_hours 4 [(0, .ref 86)] [] σ
theorem e_M_hours (d : Nat) (l1 : Int32) (σ : jS) : g_M_hours (d + 1) l1 σ = b_M_hours_0 d l1 σ := rfl
set_option maxRecDepth 100000 in
theorem q_M_hours_0 (d : Nat) (l1 : Int32) (σ : jS) : b_M_hours_0 d l1 σ = (jif (l1 < 0) (b_M_hours_1 d (j_setI σ 86 0 0)) (jif (300 < l1) (b_M_hours_1 d (j_setI σ 86 0 0)) ((j_rdI 0 (j_setI σ 86 0 0) 107 0).bind fun x1 => jif ((x1 + l1) ≤ 3000) (b_M_hours_2 d l1 (j_setI σ 86 0 0)) (b_M_hours_1 d (j_setI σ 86 0 0))))) := (db_eq _ _ _ _ _ _ _).trans rfl
set_option maxRecDepth 100000 in
theorem q_M_hours_1 (d : Nat) (σ : jS) : b_M_hours_1 d σ = (some (some (.int (-1)), σ)) := (db_eq _ _ _ _ _ _ _).trans rfl
set_option maxRecDepth 100000 in
theorem q_M_hours_2 (d : Nat) (l1 : Int32) (σ : jS) : b_M_hours_2 d l1 σ = ((r_V (g_M_plain d σ)).bind fun σ1 => b_M_hours_3 d l1 0 σ1) := (db_eq _ _ _ _ _ _ _).trans rfl
set_option maxRecDepth 100000 in
theorem q_M_hours_3 (d : Nat) (l1 : Int32) (l2 : Int32) (σ : jS) : b_M_hours_3 d l1 l2 σ = (jif (l1 ≤ l2) (b_M_hours_4 d σ) ((r_V (g_M_passes d 0 σ)).bind fun σ1 => b_M_hours_3 d l1 (l2 + 1) σ1)) := (db_eq _ _ _ _ _ _ _).trans rfl
set_option maxRecDepth 100000 in
theorem q_M_hours_4 (d : Nat) (σ : jS) : b_M_hours_4 d σ = ((j_rdI 0 σ 107 0).bind fun x1 => some (some (.int x1), σ)) := (db_eq _ _ _ _ _ _ _).trans rfl
noncomputable def b_M_send_0 (d : Nat) (l1 : Int32) (l2 : Int32) (σ : jS) : jR := db (jd jMT d) 1 k_M_send 0 [(0, .ref 86), (1, .int l1), (2, .int l2)] [] σ
noncomputable def b_M_send_1 (d : Nat) (σ : jS) : jR := db (jd jMT d) 1 k_M_send 1 [] [] σ
noncomputable def b_M_send_2 (d : Nat) (l1 : Int32) (l2 : Int32) (σ : jS) : jR := db (jd jMT d) 1 k_M_send 2 [(0, .ref 86), (1, .int l1), (2, .int l2)] [] σ
theorem e_M_send (d : Nat) (l1 : Int32) (l2 : Int32) (σ : jS) : g_M_send (d + 1) l1 l2 σ = b_M_send_0 d l1 l2 σ := rfl
set_option maxRecDepth 100000 in
theorem q_M_send_0 (d : Nat) (l1 : Int32) (l2 : Int32) (σ : jS) : b_M_send_0 d l1 l2 σ = ((r_I (g_M_isPerson d l1 (j_setI σ 86 0 0))).bind fun q1 => jif (q1.1 = 0) (b_M_send_1 d q1.2) (jif (l2 < 1) (b_M_send_1 d q1.2) (jif (99999 < l2) (b_M_send_1 d q1.2) (jif ((q1.2.1 86 36) = 30) (b_M_send_1 d q1.2) (b_M_send_2 d l1 l2 q1.2))))) := (db_eq _ _ _ _ _ _ _).trans rfl
set_option maxRecDepth 100000 in
theorem q_M_send_1 (d : Nat) (σ : jS) : b_M_send_1 d σ = (some (some (.int (-1)), σ)) := (db_eq _ _ _ _ _ _ _).trans rfl
set_option maxRecDepth 100000 in
theorem q_M_send_2 (d : Nat) (l1 : Int32) (l2 : Int32) (σ : jS) : b_M_send_2 d l1 l2 σ = ((j_wrI σ 104 (σ.1 86 36) l1).bind fun σ1 => (j_wrI σ1 105 (σ1.1 86 36) l2).bind fun σ2 => (j_rdI 0 σ2 107 0).bind fun x3 => (j_wrI σ2 106 (σ2.1 86 36) x3).bind fun σ4 => (r_V (g_M_newParcel d (σ4.1 86 36) σ4)).bind fun σ5 => some (some (.int (((j_setI σ5 86 36 ((σ5.1 86 36) + 1)).1 86 36) - 1)), (j_setI σ5 86 36 ((σ5.1 86 36) + 1)))) := (db_eq _ _ _ _ _ _ _).trans rfl
noncomputable def b_M_isParcel_0 (d : Nat) (l1 : Int32) (σ : jS) : jR := db (jd jMT d) 2 k_M_isParcel 0 [(0, .ref 86), (1, .int l1)] [] σ
noncomputable def b_M_isParcel_1 (d : Nat) (σ : jS) : jR := db (jd jMT d) 2 k_M_isParcel 1 [] [] σ
noncomputable def b_M_isParcel_2 (d : Nat) (s0 : Int32) (σ : jS) : jR := db (jd jMT d) 2 k_M_isParcel 2 [] [.int s0] σ
theorem e_M_isParcel (d : Nat) (l1 : Int32) (σ : jS) : g_M_isParcel (d + 1) l1 σ = b_M_isParcel_0 d l1 σ := rfl
set_option maxRecDepth 100000 in
theorem q_M_isParcel_0 (d : Nat) (l1 : Int32) (σ : jS) : b_M_isParcel_0 d l1 σ = (jif (l1 < 0) (b_M_isParcel_1 d σ) (jif ((σ.1 86 36) ≤ l1) (b_M_isParcel_1 d σ) (b_M_isParcel_2 d 1 σ))) := (db_eq _ _ _ _ _ _ _).trans rfl
set_option maxRecDepth 100000 in
theorem q_M_isParcel_1 (d : Nat) (σ : jS) : b_M_isParcel_1 d σ = (b_M_isParcel_2 d 0 σ) := (db_eq _ _ _ _ _ _ _).trans rfl
set_option maxRecDepth 100000 in
theorem q_M_isParcel_2 (d : Nat) (s0 : Int32) (σ : jS) : b_M_isParcel_2 d s0 σ = (if s0 = 0 ∨ s0 = 1 then some (some (.int s0), σ) else none) := (db_eq _ _ _ _ _ _ _).trans rfl
noncomputable def b_M_parcel_0 (d : Nat) (l1 : Int32) (l2 : Int32) (σ : jS) : jR := db (jd jMT d) 1 k_M_parcel 0 [(0, .ref 86), (1, .int l1), (2, .int l2)] [] σ
noncomputable def b_M_parcel_1 (d : Nat) (l1 : Int32) (l2 : Int32) (σ : jS) : jR := db (jd jMT d) 1 k_M_parcel 1 [(0, .ref 86), (1, .int l1), (2, .int l2)] [] σ
noncomputable def b_M_parcel_2 (d : Nat) (l1 : Int32) (σ : jS) : jR := db (jd jMT d) 1 k_M_parcel 2 [(0, .ref 86), (1, .int l1)] [] σ
noncomputable def b_M_parcel_3 (d : Nat) (l1 : Int32) (σ : jS) : jR := db (jd jMT d) 1 k_M_parcel 3 [(0, .ref 86), (1, .int l1)] [] σ
noncomputable def b_M_parcel_4 (d : Nat) (l1 : Int32) (σ : jS) : jR := db (jd jMT d) 1 k_M_parcel 4 [(0, .ref 86), (1, .int l1)] [] σ
noncomputable def b_M_parcel_5 (d : Nat) (l1 : Int32) (σ : jS) : jR := db (jd jMT d) 1 k_M_parcel 5 [(0, .ref 86), (1, .int l1)] [] σ
noncomputable def b_M_parcel_6 (d : Nat) (l1 : Int32) (σ : jS) : jR := db (jd jMT d) 1 k_M_parcel 6 [(0, .ref 86), (1, .int l1)] [] σ
noncomputable def b_M_parcel_7 (d : Nat) (l1 : Int32) (σ : jS) : jR := db (jd jMT d) 1 k_M_parcel 7 [(0, .ref 86), (1, .int l1)] [] σ
noncomputable def b_M_parcel_8 (d : Nat) (l1 : Int32) (σ : jS) : jR := db (jd jMT d) 1 k_M_parcel 8 [(0, .ref 86), (1, .int l1)] [] σ
noncomputable def b_M_parcel_9 (d : Nat) (σ : jS) : jR := db (jd jMT d) 1 k_M_parcel 9 [] [] σ
theorem e_M_parcel (d : Nat) (l1 : Int32) (l2 : Int32) (σ : jS) : g_M_parcel (d + 1) l1 l2 σ = b_M_parcel_0 d l1 l2 σ := rfl
set_option maxRecDepth 100000 in
theorem q_M_parcel_0 (d : Nat) (l1 : Int32) (l2 : Int32) (σ : jS) : b_M_parcel_0 d l1 l2 σ = ((r_I (g_M_isParcel d l1 (j_setI σ 86 0 0))).bind fun q1 => jif (q1.1 = 0) (some (some (.int (-1)), q1.2)) (b_M_parcel_1 d l1 l2 q1.2)) := (db_eq _ _ _ _ _ _ _).trans rfl
set_option maxRecDepth 100000 in
theorem q_M_parcel_1 (d : Nat) (l1 : Int32) (l2 : Int32) (σ : jS) : b_M_parcel_1 d l1 l2 σ = (jif (l2 = 0) (b_M_parcel_2 d l1 σ) (jif (l2 = 1) (b_M_parcel_3 d l1 σ) (jif (l2 = 2) (b_M_parcel_4 d l1 σ) (jif (l2 = 3) (b_M_parcel_5 d l1 σ) (jif (l2 = 4) (b_M_parcel_6 d l1 σ) (jif (l2 = 5) (b_M_parcel_7 d l1 σ) (jif (l2 = 6) (b_M_parcel_8 d l1 σ) (b_M_parcel_9 d σ)))))))) := (db_eq _ _ _ _ _ _ _).trans rfl
set_option maxRecDepth 100000 in
theorem q_M_parcel_2 (d : Nat) (l1 : Int32) (σ : jS) : b_M_parcel_2 d l1 σ = ((j_rdI 0 σ 104 l1).bind fun x1 => some (some (.int x1), σ)) := (db_eq _ _ _ _ _ _ _).trans rfl
set_option maxRecDepth 100000 in
theorem q_M_parcel_3 (d : Nat) (l1 : Int32) (σ : jS) : b_M_parcel_3 d l1 σ = ((j_rdI 0 σ 105 l1).bind fun x1 => some (some (.int x1), σ)) := (db_eq _ _ _ _ _ _ _).trans rfl
set_option maxRecDepth 100000 in
theorem q_M_parcel_4 (d : Nat) (l1 : Int32) (σ : jS) : b_M_parcel_4 d l1 σ = ((j_rdI 0 σ 106 l1).bind fun x1 => some (some (.int x1), σ)) := (db_eq _ _ _ _ _ _ _).trans rfl
set_option maxRecDepth 100000 in
theorem q_M_parcel_5 (d : Nat) (l1 : Int32) (σ : jS) : b_M_parcel_5 d l1 σ = ((j_rdI 0 σ 110 l1).bind fun x1 => some (some (.int x1), σ)) := (db_eq _ _ _ _ _ _ _).trans rfl
set_option maxRecDepth 100000 in
theorem q_M_parcel_6 (d : Nat) (l1 : Int32) (σ : jS) : b_M_parcel_6 d l1 σ = ((j_rdI 0 σ 111 l1).bind fun x1 => some (some (.int x1), σ)) := (db_eq _ _ _ _ _ _ _).trans rfl
set_option maxRecDepth 100000 in
theorem q_M_parcel_7 (d : Nat) (l1 : Int32) (σ : jS) : b_M_parcel_7 d l1 σ = ((j_rdI 0 σ 112 l1).bind fun x1 => some (some (.int x1), σ)) := (db_eq _ _ _ _ _ _ _).trans rfl
set_option maxRecDepth 100000 in
theorem q_M_parcel_8 (d : Nat) (l1 : Int32) (σ : jS) : b_M_parcel_8 d l1 σ = ((j_rdI 0 σ 113 l1).bind fun x1 => some (some (.int x1), σ)) := (db_eq _ _ _ _ _ _ _).trans rfl
set_option maxRecDepth 100000 in
theorem q_M_parcel_9 (d : Nat) (σ : jS) : b_M_parcel_9 d σ = (some (some (.int (-1)), σ)) := (db_eq _ _ _ _ _ _ _).trans rfl
noncomputable def b_M_coins_0 (d : Nat) (σ : jS) : jR := db (jd jMT d) 3 k_M_coins 0 [(0, .ref 86)] [] σ
noncomputable def b_M_coins_1 (d : Nat) (l1 : Int64) (l3 : Int32) (σ : jS) : jR := db (jd jMT d) 3 k_M_coins 1 [(0, .ref 86), (1, .long l1), (3, .int l3)] [] σ
noncomputable def b_M_coins_2 (d : Nat) (l1 : Int64) (σ : jS) : jR := db (jd jMT d) 3 k_M_coins 2 [(0, .ref 86), (1, .long l1)] [] σ
noncomputable def b_M_coins_3 (d : Nat) (l1 : Int64) (l3 : Int32) (σ : jS) : jR := db (jd jMT d) 3 k_M_coins 3 [(0, .ref 86), (1, .long l1), (3, .int l3)] [] σ
noncomputable def b_M_coins_4 (d : Nat) (l1 : Int64) (σ : jS) : jR := db (jd jMT d) 3 k_M_coins 4 [(1, .long l1)] [] σ
theorem e_M_coins (d : Nat) (σ : jS) : g_M_coins (d + 1) σ = b_M_coins_0 d σ := rfl
set_option maxRecDepth 100000 in
theorem q_M_coins_0 (d : Nat) (σ : jS) : b_M_coins_0 d σ = (b_M_coins_1 d 0 0 (j_setI σ 86 0 0)) := (db_eq _ _ _ _ _ _ _).trans rfl
set_option maxRecDepth 100000 in
theorem q_M_coins_1 (d : Nat) (l1 : Int64) (l3 : Int32) (σ : jS) : b_M_coins_1 d l1 l3 σ = ((j_rdI 0 σ 88 0).bind fun x1 => jif (x1 ≤ l3) (b_M_coins_2 d l1 σ) ((j_rdI 0 σ 108 l3).bind fun x2 => b_M_coins_1 d (l1 + (Int32.toInt64 x2)) (l3 + 1) σ)) := (db_eq _ _ _ _ _ _ _).trans rfl
set_option maxRecDepth 100000 in
theorem q_M_coins_2 (d : Nat) (l1 : Int64) (σ : jS) : b_M_coins_2 d l1 σ = (b_M_coins_3 d l1 0 σ) := (db_eq _ _ _ _ _ _ _).trans rfl
set_option maxRecDepth 100000 in
theorem q_M_coins_3 (d : Nat) (l1 : Int64) (l3 : Int32) (σ : jS) : b_M_coins_3 d l1 l3 σ = (jif ((σ.1 86 36) ≤ l3) (b_M_coins_4 d l1 σ) ((j_rdI 0 σ 111 l3).bind fun x1 => b_M_coins_3 d (l1 + (Int32.toInt64 x1)) (l3 + 1) σ)) := (db_eq _ _ _ _ _ _ _).trans rfl
set_option maxRecDepth 100000 in
theorem q_M_coins_4 (d : Nat) (l1 : Int64) (σ : jS) : b_M_coins_4 d l1 σ = (some (some (.long l1), σ)) := (db_eq _ _ _ _ _ _ _).trans rfl
