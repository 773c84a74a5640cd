/-! The methods as functions of the cells: an equation a block. Printed by wip/gen/eqs.py. -/
noncomputable def b_M_isAllRest_0 (d : Nat) (l1 : Int32) (σ : jS) : jR := db (jd jMT d) 2 k_M_isAllRest 0 [(0, .ref 86), (1, .int l1)] [] σ
noncomputable def b_M_isAllRest_1 (d : Nat) (l1 : Int32) (l2 : Int32) (σ : jS) : jR := db (jd jMT d) 2 k_M_isAllRest 1 [(0, .ref 86), (1, .int l1), (2, .int l2)] [] σ
noncomputable def b_M_isAllRest_2 (d : Nat) (l1 : Int32) (l2 : Int32) (σ : jS) : jR := db (jd jMT d) 2 k_M_isAllRest 2 [(0, .ref 86), (1, .int l1), (2, .int l2)] [] σ
noncomputable def b_M_isAllRest_3 (d : Nat) (σ : jS) : jR := db (jd jMT d) 2 k_M_isAllRest 3 [] [] σ
theorem e_M_isAllRest (d : Nat) (l1 : Int32) (σ : jS) : g_M_isAllRest (d + 1) l1 σ = b_M_isAllRest_0 d l1 σ := rfl
set_option maxRecDepth 100000 in
theorem q_M_isAllRest_0 (d : Nat) (l1 : Int32) (σ : jS) : b_M_isAllRest_0 d l1 σ = (b_M_isAllRest_1 d l1 0 σ) := (db_eq _ _ _ _ _ _ _).trans rfl
set_option maxRecDepth 100000 in
theorem q_M_isAllRest_1 (d : Nat) (l1 : Int32) (l2 : Int32) (σ : jS) : b_M_isAllRest_1 d l1 l2 σ = (jif ((σ.1 86 36) ≤ l2) (b_M_isAllRest_3 d σ) ((j_rdI 0 σ 110 ((30 * l1) + l2)).bind fun x1 => jif (x1 = 2) (b_M_isAllRest_2 d l1 l2 σ) (some (some (.int 0), σ)))) := (db_eq _ _ _ _ _ _ _).trans rfl
set_option maxRecDepth 100000 in
theorem q_M_isAllRest_2 (d : Nat) (l1 : Int32) (l2 : Int32) (σ : jS) : b_M_isAllRest_2 d l1 l2 σ = (b_M_isAllRest_1 d l1 (l2 + 1) σ) := (db_eq _ _ _ _ _ _ _).trans rfl
set_option maxRecDepth 100000 in
theorem q_M_isAllRest_3 (d : Nat) (σ : jS) : b_M_isAllRest_3 d σ = (some (some (.int 1), σ)) := (db_eq _ _ _ _ _ _ _).trans rfl
noncomputable def b_M_rest_0 (d : Nat) (σ : jS) : jR := db (jd jMT d) 1 k_M_rest 0 [(0, .ref 86)] [] σ
noncomputable def b_M_rest_1 (d : Nat) (l1 : Int32) (σ : jS) : jR := db (jd jMT d) 1 k_M_rest 1 [(0, .ref 86), (1, .int l1)] [] σ
noncomputable def b_M_rest_2 (d : Nat) (l1 : Int32) (σ : jS) : jR := db (jd jMT d) 1 k_M_rest 2 [(0, .ref 86), (1, .int l1)] [] σ
noncomputable def b_M_rest_3 (d : Nat) (σ : jS) : jR := db (jd jMT d) 1 k_M_rest 3 [] [] σ
theorem e_M_rest (d : Nat) (σ : jS) : g_M_rest (d + 1) σ = b_M_rest_0 d σ := rfl
set_option maxRecDepth 100000 in
theorem q_M_rest_0 (d : Nat) (σ : jS) : b_M_rest_0 d σ = ((r_V (g_M_plain d (j_setI σ 86 0 0))).bind fun σ1 => (r_V (g_M_copies d 1 0 σ1)).bind fun σ2 => b_M_rest_1 d 0 σ2) := (db_eq _ _ _ _ _ _ _).trans rfl
set_option maxRecDepth 100000 in
theorem q_M_rest_1 (d : Nat) (l1 : Int32) (σ : jS) : b_M_rest_1 d l1 σ = (jif (3000 < l1) (b_M_rest_3 d σ) ((r_I (g_M_isAllRest d 1 σ)).bind fun q1 => jif (q1.1 = 0) (b_M_rest_2 d l1 q1.2) (some (some (.int l1), q1.2)))) := (db_eq _ _ _ _ _ _ _).trans rfl
set_option maxRecDepth 100000 in
theorem q_M_rest_2 (d : Nat) (l1 : Int32) (σ : jS) : b_M_rest_2 d l1 σ = ((r_V (g_M_passes d 1 σ)).bind fun σ1 => b_M_rest_1 d (l1 + 1) σ1) := (db_eq _ _ _ _ _ _ _).trans rfl
set_option maxRecDepth 100000 in
theorem q_M_rest_3 (d : Nat) (σ : jS) : b_M_rest_3 d σ = (some (some (.int (-2)), σ)) := (db_eq _ _ _ _ _ _ _).trans rfl
noncomputable def b_M_takes_0 (d : Nat) (l1 : Int32) (l2 : Int64) (σ : jS) : jR := db (jd jMT d) 2 k_M_takes 0 [(0, .ref 86), (1, .int l1), (2, .long l2)] [] σ
noncomputable def b_M_takes_1 (d : Nat) (σ : jS) : jR := db (jd jMT d) 2 k_M_takes 1 [] [] σ
noncomputable def b_M_takes_2 (d : Nat) (l1 : Int32) (l2 : Int64) (σ : jS) : jR := db (jd jMT d) 2 k_M_takes 2 [(0, .ref 86), (1, .int l1), (2, .long l2)] [] σ
noncomputable def b_M_takes_3 (d : Nat) (l1 : Int32) (l2 : Int64) (l4 : Int32) (l5 : Int32) (σ : jS) : jR := db (jd jMT d) 2 k_M_takes 3 [(0, .ref 86), (1, .int l1), (2, .long l2), (4, .int l4), (5, .int l5)] [] σ
noncomputable def b_M_takes_4 (d : Nat) (σ : jS) : jR := db (jd jMT d) 2 k_M_takes 4 [] [] σ
noncomputable def b_M_takes_5 (d : Nat) (l1 : Int32) (l2 : Int64) (l4 : Int32) (l5 : Int32) (l6 : Int32) (σ : jS) : jR := db (jd jMT d) 2 k_M_takes 5 [(0, .ref 86), (1, .int l1), (2, .long l2), (4, .int l4), (5, .int l5), (6, .int l6)] [] σ
noncomputable def b_M_takes_6 (d : Nat) (l1 : Int32) (σ : jS) : jR := db (jd jMT d) 2 k_M_takes 6 [(0, .ref 86), (1, .int l1)] [] σ
theorem e_M_takes (d : Nat) (l1 : Int32) (l2 : Int64) (σ : jS) : g_M_takes (d + 1) l1 l2 σ = b_M_takes_0 d l1 l2 σ := rfl
set_option maxRecDepth 100000 in
theorem q_M_takes_0 (d : Nat) (l1 : Int32) (l2 : Int64) (σ : jS) : b_M_takes_0 d l1 l2 σ = (jif (l1 < 2) (b_M_takes_1 d σ) ((j_rdI 0 σ 88 0).bind fun x1 => jif (l1 ≤ x1) (b_M_takes_2 d l1 l2 σ) (b_M_takes_1 d σ))) := (db_eq _ _ _ _ _ _ _).trans rfl
set_option maxRecDepth 100000 in
theorem q_M_takes_1 (d : Nat) (σ : jS) : b_M_takes_1 d σ = (some (some (.int 0), σ)) := (db_eq _ _ _ _ _ _ _).trans rfl
set_option maxRecDepth 100000 in
theorem q_M_takes_2 (d : Nat) (l1 : Int32) (l2 : Int64) (σ : jS) : b_M_takes_2 d l1 l2 σ = (b_M_takes_3 d l1 l2 0 0 σ) := (db_eq _ _ _ _ _ _ _).trans rfl
set_option maxRecDepth 100000 in
theorem q_M_takes_3 (d : Nat) (l1 : Int32) (l2 : Int64) (l4 : Int32) (l5 : Int32) (σ : jS) : b_M_takes_3 d l1 l2 l4 l5 σ = (jif (l1 ≤ l5) (b_M_takes_6 d l1 σ) ((r_I (g_M_isPerson d (Int64.toInt32 (((l2 : Int64) >>> (Int32.toInt64 (4 * l5) &&& 63)) &&& 15)) σ)).bind fun q1 => jif (q1.1 = 0) (b_M_takes_4 d q1.2) (jif ((((l4 : Int32) >>> (((Int64.toInt32 (((l2 : Int64) >>> (Int32.toInt64 (4 * l5) &&& 63)) &&& 15)) : Int32) &&& 31)) &&& 1) = 1) (b_M_takes_4 d q1.2) (b_M_takes_5 d l1 l2 l4 l5 (Int64.toInt32 (((l2 : Int64) >>> (Int32.toInt64 (4 * l5) &&& 63)) &&& 15)) q1.2)))) := (db_eq _ _ _ _ _ _ _).trans rfl
set_option maxRecDepth 100000 in
theorem q_M_takes_4 (d : Nat) (σ : jS) : b_M_takes_4 d σ = (some (some (.int 0), σ)) := (db_eq _ _ _ _ _ _ _).trans rfl
set_option maxRecDepth 100000 in
theorem q_M_takes_5 (d : Nat) (l1 : Int32) (l2 : Int64) (l4 : Int32) (l5 : Int32) (l6 : Int32) (σ : jS) : b_M_takes_5 d l1 l2 l4 l5 l6 σ = ((j_wrI σ 114 l5 l6).bind fun σ1 => b_M_takes_3 d l1 l2 (l4 ||| ((1 : Int32) <<< ((l6 : Int32) &&& 31))) (l5 + 1) σ1) := (db_eq _ _ _ _ _ _ _).trans rfl
set_option maxRecDepth 100000 in
theorem q_M_takes_6 (d : Nat) (l1 : Int32) (σ : jS) : b_M_takes_6 d l1 σ = (some (some (.int 1), (j_setI σ 86 50 l1))) := (db_eq _ _ _ _ _ _ _).trans rfl
noncomputable def b_M_takesSent_0 (d : Nat) (l1 : Int32) (l2 : Int64) (l4 : Int32) (σ : jS) : jR := db (jd jMT d) 2 k_M_takesSent 0 [(0, .ref 86), (1, .int l1), (2, .long l2), (4, .int l4)] [] σ
noncomputable def b_M_takesSent_1 (d : Nat) (σ : jS) : jR := db (jd jMT d) 2 k_M_takesSent 1 [] [] σ
noncomputable def b_M_takesSent_2 (d : Nat) (s0 : Int32) (σ : jS) : jR := db (jd jMT d) 2 k_M_takesSent 2 [] [.int s0] σ
theorem e_M_takesSent (d : Nat) (l1 : Int32) (l2 : Int64) (l4 : Int32) (σ : jS) : g_M_takesSent (d + 1) l1 l2 l4 σ = b_M_takesSent_0 d l1 l2 l4 σ := rfl
set_option maxRecDepth 100000 in
theorem q_M_takesSent_0 (d : Nat) (l1 : Int32) (l2 : Int64) (l4 : Int32) (σ : jS) : b_M_takesSent_0 d l1 l2 l4 σ = (jif (l4 < 0) (b_M_takesSent_1 d σ) (jif (999999 < l4) (b_M_takesSent_1 d σ) ((r_I (g_M_takes d l1 l2 σ)).bind fun q1 => jif (q1.1 = 0) (b_M_takesSent_1 d q1.2) (b_M_takesSent_2 d 1 q1.2)))) := (db_eq _ _ _ _ _ _ _).trans rfl
set_option maxRecDepth 100000 in
theorem q_M_takesSent_1 (d : Nat) (σ : jS) : b_M_takesSent_1 d σ = (b_M_takesSent_2 d 0 σ) := (db_eq _ _ _ _ _ _ _).trans rfl
set_option maxRecDepth 100000 in
theorem q_M_takesSent_2 (d : Nat) (s0 : Int32) (σ : jS) : b_M_takesSent_2 d s0 σ = (if s0 = 0 ∨ s0 = 1 then some (some (.int s0), σ) else none) := (db_eq _ _ _ _ _ _ _).trans rfl
noncomputable def b_M_sends_0 (d : Nat) (l1 : Int32) (σ : jS) : jR := db (jd jMT d) 1 k_M_sends 0 [(0, .ref 86), (1, .int l1)] [] σ
noncomputable def b_M_sends_1 (d : Nat) (l2 : Int32) (l3 : Int32) (σ : jS) : jR := db (jd jMT d) 1 k_M_sends 1 [(0, .ref 86), (2, .int l2), (3, .int l3)] [] σ
noncomputable def b_M_sends_2 (d : Nat) (l2 : Int32) (σ : jS) : jR := db (jd jMT d) 1 k_M_sends 2 [(2, .int l2)] [] σ
theorem e_M_sends (d : Nat) (l1 : Int32) (σ : jS) : g_M_sends (d + 1) l1 σ = b_M_sends_0 d l1 σ := rfl
set_option maxRecDepth 100000 in
theorem q_M_sends_0 (d : Nat) (l1 : Int32) (σ : jS) : b_M_sends_0 d l1 σ = (b_M_sends_1 d l1 1 σ) := (db_eq _ _ _ _ _ _ _).trans rfl
set_option maxRecDepth 100000 in
theorem q_M_sends_1 (d : Nat) (l2 : Int32) (l3 : Int32) (σ : jS) : b_M_sends_1 d l2 l3 σ = (jif (((σ.1 86 50) - 1) ≤ l3) (b_M_sends_2 d l2 σ) ((j_rdI 0 σ 114 l3).bind fun x1 => (j_rdI 0 σ 114 (l3 + 1)).bind fun x2 => (r_I (g_M_kept d l2 x1 x2 l3 0 σ)).bind fun q3 => (j_wrI q3.2 115 l3 q3.1).bind fun σ4 => (j_rdI 0 σ4 115 l3).bind fun x5 => b_M_sends_1 d (l2 - x5) (l3 + 1) σ4)) := (db_eq _ _ _ _ _ _ _).trans rfl
set_option maxRecDepth 100000 in
theorem q_M_sends_2 (d : Nat) (l2 : Int32) (σ : jS) : b_M_sends_2 d l2 σ = (some (some (.int l2), σ)) := (db_eq _ _ _ _ _ _ _).trans rfl
noncomputable def b_M_rowAsLong_0 (d : Nat) (σ : jS) : jR := db (jd jMT d) 3 k_M_rowAsLong 0 [(0, .ref 86)] [] σ
noncomputable def b_M_rowAsLong_1 (d : Nat) (l1 : Int64) (l3 : Int32) (σ : jS) : jR := db (jd jMT d) 3 k_M_rowAsLong 1 [(0, .ref 86), (1, .long l1), (3, .int l3)] [] σ
noncomputable def b_M_rowAsLong_2 (d : Nat) (l1 : Int64) (σ : jS) : jR := db (jd jMT d) 3 k_M_rowAsLong 2 [(1, .long l1)] [] σ
theorem e_M_rowAsLong (d : Nat) (σ : jS) : g_M_rowAsLong (d + 1) σ = b_M_rowAsLong_0 d σ := rfl
set_option maxRecDepth 100000 in
theorem q_M_rowAsLong_0 (d : Nat) (σ : jS) : b_M_rowAsLong_0 d σ = (b_M_rowAsLong_1 d 0 0 σ) := (db_eq _ _ _ _ _ _ _).trans rfl
set_option maxRecDepth 100000 in
theorem q_M_rowAsLong_1 (d : Nat) (l1 : Int64) (l3 : Int32) (σ : jS) : b_M_rowAsLong_1 d l1 l3 σ = (jif ((σ.1 86 50) ≤ l3) (b_M_rowAsLong_2 d l1 σ) ((j_rdI 0 σ 114 l3).bind fun x1 => b_M_rowAsLong_1 d (l1 ||| (((Int32.toInt64 x1) : Int64) <<< (Int32.toInt64 (4 * l3) &&& 63))) (l3 + 1) σ)) := (db_eq _ _ _ _ _ _ _).trans rfl
set_option maxRecDepth 100000 in
theorem q_M_rowAsLong_2 (d : Nat) (l1 : Int64) (σ : jS) : b_M_rowAsLong_2 d l1 σ = (some (some (.long l1), σ)) := (db_eq _ _ _ _ _ _ _).trans rfl
noncomputable def b_M_arrives_0 (d : Nat) (l1 : Int32) (l2 : Int64) (l4 : Int32) (σ : jS) : jR := db (jd jMT d) 1 k_M_arrives 0 [(0, .ref 86), (1, .int l1), (2, .long l2), (4, .int l4)] [] σ
noncomputable def b_M_arrives_1 (d : Nat) (σ : jS) : jR := db (jd jMT d) 1 k_M_arrives 1 [] [] σ
noncomputable def b_M_arrives_2 (d : Nat) (s0 : Int32) (σ : jS) : jR := db (jd jMT d) 1 k_M_arrives 2 [] [.int s0] σ
theorem e_M_arrives (d : Nat) (l1 : Int32) (l2 : Int64) (l4 : Int32) (σ : jS) : g_M_arrives (d + 1) l1 l2 l4 σ = b_M_arrives_0 d l1 l2 l4 σ := rfl
set_option maxRecDepth 100000 in
theorem q_M_arrives_0 (d : Nat) (l1 : Int32) (l2 : Int64) (l4 : Int32) (σ : jS) : b_M_arrives_0 d l1 l2 l4 σ = ((r_V (g_M_plain d (j_setI σ 86 0 0))).bind fun σ1 => (r_I (g_M_takesSent d l1 l2 l4 σ1)).bind fun q2 => jif (q2.1 = 0) (b_M_arrives_1 d q2.2) ((r_I (g_M_sends d l4 q2.2)).bind fun q3 => b_M_arrives_2 d q3.1 q3.2)) := (db_eq _ _ _ _ _ _ _).trans rfl
set_option maxRecDepth 100000 in
theorem q_M_arrives_1 (d : Nat) (σ : jS) : b_M_arrives_1 d σ = (b_M_arrives_2 d (-1) σ) := (db_eq _ _ _ _ _ _ _).trans rfl
set_option maxRecDepth 100000 in
theorem q_M_arrives_2 (d : Nat) (s0 : Int32) (σ : jS) : b_M_arrives_2 d s0 σ = (some (some (.int s0), σ)) := (db_eq _ _ _ _ _ _ _).trans rfl
noncomputable def b_M_keeps_0 (d : Nat) (l1 : Int32) (l2 : Int64) (l4 : Int32) (l5 : Int32) (σ : jS) : jR := db (jd jMT d) 1 k_M_keeps 0 [(0, .ref 86), (1, .int l1), (2, .long l2), (4, .int l4), (5, .int l5)] [] σ
noncomputable def b_M_keeps_1 (d : Nat) (σ : jS) : jR := db (jd jMT d) 1 k_M_keeps 1 [] [] σ
noncomputable def b_M_keeps_2 (d : Nat) (l4 : Int32) (l5 : Int32) (σ : jS) : jR := db (jd jMT d) 1 k_M_keeps 2 [(0, .ref 86), (4, .int l4), (5, .int l5)] [] σ
theorem e_M_keeps (d : Nat) (l1 : Int32) (l2 : Int64) (l4 : Int32) (l5 : Int32) (σ : jS) : g_M_keeps (d + 1) l1 l2 l4 l5 σ = b_M_keeps_0 d l1 l2 l4 l5 σ := rfl
set_option maxRecDepth 100000 in
theorem q_M_keeps_0 (d : Nat) (l1 : Int32) (l2 : Int64) (l4 : Int32) (l5 : Int32) (σ : jS) : b_M_keeps_0 d l1 l2 l4 l5 σ = ((r_V (g_M_plain d (j_setI σ 86 0 0))).bind fun σ1 => (r_I (g_M_takesSent d l1 l2 l4 σ1)).bind fun q2 => jif (q2.1 = 0) (b_M_keeps_1 d q2.2) (jif (l5 < 1) (b_M_keeps_1 d q2.2) (jif (l5 ≤ (l1 - 2)) (b_M_keeps_2 d l4 l5 q2.2) (b_M_keeps_1 d q2.2)))) := (db_eq _ _ _ _ _ _ _).trans rfl
set_option maxRecDepth 100000 in
theorem q_M_keeps_1 (d : Nat) (σ : jS) : b_M_keeps_1 d σ = (some (some (.int (-1)), σ)) := (db_eq _ _ _ _ _ _ _).trans rfl
set_option maxRecDepth 100000 in
theorem q_M_keeps_2 (d : Nat) (l4 : Int32) (l5 : Int32) (σ : jS) : b_M_keeps_2 d l4 l5 σ = ((r_I (g_M_sends d l4 σ)).bind fun q1 => (j_rdI 0 q1.2 115 l5).bind fun x2 => some (some (.int x2), q1.2)) := (db_eq _ _ _ _ _ _ _).trans rfl
noncomputable def b_M_goesOn_0 (d : Nat) (l1 : Int64) (l3 : Int32) (σ : jS) : jR := db (jd jMT d) 1 k_M_goesOn 0 [(0, .ref 86), (1, .long l1), (3, .int l3)] [] σ
theorem e_M_goesOn (d : Nat) (l1 : Int64) (l3 : Int32) (σ : jS) : g_M_goesOn (d + 1) l1 l3 σ = b_M_goesOn_0 d l1 l3 σ := rfl
set_option maxRecDepth 100000 in
theorem q_M_goesOn_0 (d : Nat) (l1 : Int64) (l3 : Int32) (σ : jS) : b_M_goesOn_0 d l1 l3 σ = ((j_rdI 0 σ 114 l3).bind fun x1 => (j_rdI 0 σ 114 (l3 + 1)).bind fun x2 => (r_I (g_M_kept d (Int64.toInt32 l1) x1 x2 l3 0 σ)).bind fun q3 => some (some (.int ((Int64.toInt32 l1) - q3.1)), q3.2)) := (db_eq _ _ _ _ _ _ _).trans rfl
noncomputable def b_M_backs_0 (d : Nat) (l1 : Int32) (σ : jS) : jR := db (jd jMT d) 0 k_M_backs 0 [(0, .ref 86), (1, .int l1)] [] σ
noncomputable def b_M_backs_1 (d : Nat) (l2 : Int32) (σ : jS) : jR := db (jd jMT d) 0 k_M_backs 1 [(0, .ref 86), (2, .int l2)] [] σ
noncomputable def b_M_backs_2 (d : Nat) (l2 : Int32) (l3 : Int64) (l5 : Int64) (σ : jS) : jR := db (jd jMT d) 0 k_M_backs 2 [(0, .ref 86), (2, .int l2), (3, .long l3), (5, .long l5)] [] σ
noncomputable def b_M_backs_3 (d : Nat) (l2 : Int32) (l3 : Int64) (l5 : Int64) (σ : jS) : jR := db (jd jMT d) 0 k_M_backs 3 [(0, .ref 86), (2, .int l2), (3, .long l3), (5, .long l5)] [.ref 86] σ
noncomputable def b_M_backs_4 (d : Nat) (l2 : Int32) (l5 : Int64) (s1 : Int64) (σ : jS) : jR := db (jd jMT d) 0 k_M_backs 4 [(0, .ref 86), (2, .int l2), (5, .long l5)] [.long s1, .ref 86] σ
noncomputable def b_M_backs_5 (d : Nat) (l2 : Int32) (l5 : Int64) (σ : jS) : jR := db (jd jMT d) 0 k_M_backs 5 [(0, .ref 86), (2, .int l2), (5, .long l5)] [.ref 86] σ
noncomputable def b_M_backs_6 (d : Nat) (l2 : Int32) (s1 : Int64) (σ : jS) : jR := db (jd jMT d) 0 k_M_backs 6 [(0, .ref 86), (2, .int l2)] [.long s1, .ref 86] σ
noncomputable def b_M_backs_7 (d : Nat) (σ : jS) : jR := db (jd jMT d) 0 k_M_backs 7 [] [] σ
theorem e_M_backs (d : Nat) (l1 : Int32) (σ : jS) : g_M_backs (d + 1) l1 σ = b_M_backs_0 d l1 σ := rfl
set_option maxRecDepth 100000 in
theorem q_M_backs_0 (d : Nat) (l1 : Int32) (σ : jS) : b_M_backs_0 d l1 σ = (b_M_backs_1 d (((j_setL (j_setL σ 86 52 (Int32.toInt64 l1)) 86 53 (Int32.toInt64 l1)).1 86 50) - 2) (j_setL (j_setL σ 86 52 (Int32.toInt64 l1)) 86 53 (Int32.toInt64 l1))) := (db_eq _ _ _ _ _ _ _).trans rfl
set_option maxRecDepth 100000 in
theorem q_M_backs_1 (d : Nat) (l2 : Int32) (σ : jS) : b_M_backs_1 d l2 σ = (jif (l2 ≤ 0) (b_M_backs_7 d σ) (jif ((lg_cmp (2 * (σ.2.1 86 52)) 1999998) ≤ 0) (b_M_backs_2 d l2 (2 * (σ.2.1 86 52)) (2 * (σ.2.1 86 53)) σ) (some (none, (j_setL (j_setL σ 86 52 (2 * (σ.2.1 86 52))) 86 53 (2 * (σ.2.1 86 52))))))) := (db_eq _ _ _ _ _ _ _).trans rfl
set_option maxRecDepth 100000 in
theorem q_M_backs_2 (d : Nat) (l2 : Int32) (l3 : Int64) (l5 : Int64) (σ : jS) : b_M_backs_2 d l2 l3 l5 σ = (jif ((lg_cmp l3 0) ≤ 0) (b_M_backs_3 d l2 l3 l5 σ) ((r_I (g_M_goesOn d (l3 - 1) l2 σ)).bind fun q1 => jif (q1.1 = (Int64.toInt32 (l3 / 2))) (b_M_backs_4 d l2 l5 (l3 - 1) q1.2) (b_M_backs_3 d l2 l3 l5 q1.2))) := (db_eq _ _ _ _ _ _ _).trans rfl
set_option maxRecDepth 100000 in
theorem q_M_backs_3 (d : Nat) (l2 : Int32) (l3 : Int64) (l5 : Int64) (σ : jS) : b_M_backs_3 d l2 l3 l5 σ = (b_M_backs_4 d l2 l5 l3 σ) := (db_eq _ _ _ _ _ _ _).trans rfl
set_option maxRecDepth 100000 in
theorem q_M_backs_4 (d : Nat) (l2 : Int32) (l5 : Int64) (s1 : Int64) (σ : jS) : b_M_backs_4 d l2 l5 s1 σ = ((r_I (g_M_goesOn d (l5 + 1) l2 (j_setL σ 86 52 s1))).bind fun q1 => jif (q1.1 = (Int64.toInt32 (l5 / 2))) (b_M_backs_6 d l2 (l5 + 1) q1.2) (b_M_backs_5 d l2 l5 q1.2)) := (db_eq _ _ _ _ _ _ _).trans rfl
set_option maxRecDepth 100000 in
theorem q_M_backs_5 (d : Nat) (l2 : Int32) (l5 : Int64) (σ : jS) : b_M_backs_5 d l2 l5 σ = (b_M_backs_6 d l2 l5 σ) := (db_eq _ _ _ _ _ _ _).trans rfl
set_option maxRecDepth 100000 in
theorem q_M_backs_6 (d : Nat) (l2 : Int32) (s1 : Int64) (σ : jS) : b_M_backs_6 d l2 s1 σ = (b_M_backs_1 d (l2 + (-1)) (j_setL (j_setL σ 86 53 s1) 86 53 (if (1999998 : Int64) < ((j_setL σ 86 53 s1).2.1 86 53) then 1999998 else ((j_setL σ 86 53 s1).2.1 86 53)))) := (db_eq _ _ _ _ _ _ _).trans rfl
set_option maxRecDepth 100000 in
theorem q_M_backs_7 (d : Nat) (σ : jS) : b_M_backs_7 d σ = (some (none, σ)) := (db_eq _ _ _ _ _ _ _).trans rfl
noncomputable def b_M_laysBack_0 (d : Nat) (l1 : Int32) (l2 : Int64) (l4 : Int32) (σ : jS) : jR := db (jd jMT d) 2 k_M_laysBack 0 [(0, .ref 86), (1, .int l1), (2, .long l2), (4, .int l4)] [] σ
noncomputable def b_M_laysBack_1 (d : Nat) (σ : jS) : jR := db (jd jMT d) 2 k_M_laysBack 1 [] [] σ
noncomputable def b_M_laysBack_2 (d : Nat) (l4 : Int32) (σ : jS) : jR := db (jd jMT d) 2 k_M_laysBack 2 [(0, .ref 86), (4, .int l4)] [] σ
theorem e_M_laysBack (d : Nat) (l1 : Int32) (l2 : Int64) (l4 : Int32) (σ : jS) : g_M_laysBack (d + 1) l1 l2 l4 σ = b_M_laysBack_0 d l1 l2 l4 σ := rfl
set_option maxRecDepth 100000 in
theorem q_M_laysBack_0 (d : Nat) (l1 : Int32) (l2 : Int64) (l4 : Int32) (σ : jS) : b_M_laysBack_0 d l1 l2 l4 σ = ((r_V (g_M_plain d σ)).bind fun σ1 => jif (l4 < 0) (b_M_laysBack_1 d σ1) (jif (99999 < l4) (b_M_laysBack_1 d σ1) ((r_I (g_M_takes d l1 l2 σ1)).bind fun q2 => jif (q2.1 = 0) (b_M_laysBack_1 d q2.2) (b_M_laysBack_2 d l4 q2.2)))) := (db_eq _ _ _ _ _ _ _).trans rfl
set_option maxRecDepth 100000 in
theorem q_M_laysBack_1 (d : Nat) (σ : jS) : b_M_laysBack_1 d σ = (some (some (.int 0), σ)) := (db_eq _ _ _ _ _ _ _).trans rfl
set_option maxRecDepth 100000 in
theorem q_M_laysBack_2 (d : Nat) (l4 : Int32) (σ : jS) : b_M_laysBack_2 d l4 σ = ((r_V (g_M_backs d l4 σ)).bind fun σ1 => some (some (.int 1), (j_setL σ1 86 53 (if (999999 : Int64) < (σ1.2.1 86 53) then 999999 else (σ1.2.1 86 53))))) := (db_eq _ _ _ _ _ _ _).trans rfl
noncomputable def b_M_back_0 (d : Nat) (l1 : Int32) (l2 : Int64) (l4 : Int32) (l5 : Int32) (σ : jS) : jR := db (jd jMT d) 1 k_M_back 0 [(0, .ref 86), (1, .int l1), (2, .long l2), (4, .int l4), (5, .int l5)] [] σ
noncomputable def b_M_back_1 (d : Nat) (σ : jS) : jR := db (jd jMT d) 1 k_M_back 1 [] [] σ
noncomputable def b_M_back_2 (d : Nat) (l5 : Int32) (σ : jS) : jR := db (jd jMT d) 1 k_M_back 2 [(0, .ref 86), (5, .int l5)] [] σ
noncomputable def b_M_back_3 (d : Nat) (l5 : Int32) (σ : jS) : jR := db (jd jMT d) 1 k_M_back 3 [(0, .ref 86), (5, .int l5)] [] σ
noncomputable def b_M_back_4 (d : Nat) (l5 : Int32) (s0 : Int32) (σ : jS) : jR := db (jd jMT d) 1 k_M_back 4 [(0, .ref 86), (5, .int l5)] [.int s0] σ
noncomputable def b_M_back_5 (d : Nat) (l6 : Int32) (σ : jS) : jR := db (jd jMT d) 1 k_M_back 5 [(0, .ref 86), (6, .int l6)] [] σ
noncomputable def b_M_back_6 (d : Nat) (σ : jS) : jR := db (jd jMT d) 1 k_M_back 6 [] [] σ
noncomputable def b_M_back_7 (d : Nat) (s0 : Int32) (σ : jS) : jR := db (jd jMT d) 1 k_M_back 7 [] [.int s0] σ
noncomputable def b_M_back_8 (d : Nat) (l6 : Int32) (σ : jS) : jR := db (jd jMT d) 1 k_M_back 8 [(0, .ref 86), (6, .int l6)] [] σ
noncomputable def b_M_back_9 (d : Nat) (σ : jS) : jR := db (jd jMT d) 1 k_M_back 9 [] [] σ
noncomputable def b_M_back_10 (d : Nat) (s0 : Int32) (σ : jS) : jR := db (jd jMT d) 1 k_M_back 10 [] [.int s0] σ
noncomputable def b_M_back_11 (d : Nat) (l6 : Int32) (σ : jS) : jR := db (jd jMT d) 1 k_M_back 11 [(0, .ref 86), (6, .int l6)] [] σ
noncomputable def b_M_back_12 (d : Nat) (σ : jS) : jR := db (jd jMT d) 1 k_M_back 12 [] [] σ
noncomputable def b_M_back_13 (d : Nat) (s0 : Int32) (σ : jS) : jR := db (jd jMT d) 1 k_M_back 13 [] [.int s0] σ
noncomputable def b_M_back_14 (d : Nat) (l6 : Int32) (σ : jS) : jR := db (jd jMT d) 1 k_M_back 14 [(6, .int l6)] [] σ
noncomputable def b_M_back_15 (d : Nat) (σ : jS) : jR := db (jd jMT d) 1 k_M_back 15 [] [] σ
noncomputable def b_M_back_16 (d : Nat) (s0 : Int32) (σ : jS) : jR := db (jd jMT d) 1 k_M_back 16 [] [.int s0] σ
theorem e_M_back (d : Nat) (l1 : Int32) (l2 : Int64) (l4 : Int32) (l5 : Int32) (σ : jS) : g_M_back (d + 1) l1 l2 l4 l5 σ = b_M_back_0 d l1 l2 l4 l5 σ := rfl
set_option maxRecDepth 100000 in
theorem q_M_back_0 (d : Nat) (l1 : Int32) (l2 : Int64) (l4 : Int32) (l5 : Int32) (σ : jS) : b_M_back_0 d l1 l2 l4 l5 σ = (jif (l5 < 0) (b_M_back_1 d (j_setI σ 86 0 0)) (jif (3 < l5) (b_M_back_1 d (j_setI σ 86 0 0)) ((r_I (g_M_laysBack d l1 l2 l4 (j_setI σ 86 0 0))).bind fun q1 => jif (q1.1 = 0) (b_M_back_1 d q1.2) (b_M_back_2 d l5 q1.2)))) := (db_eq _ _ _ _ _ _ _).trans rfl
set_option maxRecDepth 100000 in
theorem q_M_back_1 (d : Nat) (σ : jS) : b_M_back_1 d σ = (some (some (.int (-1)), σ)) := (db_eq _ _ _ _ _ _ _).trans rfl
set_option maxRecDepth 100000 in
theorem q_M_back_2 (d : Nat) (l5 : Int32) (σ : jS) : b_M_back_2 d l5 σ = (jif (0 < (lg_cmp (σ.2.1 86 52) (σ.2.1 86 53))) (b_M_back_3 d l5 σ) (b_M_back_4 d l5 1 σ)) := (db_eq _ _ _ _ _ _ _).trans rfl
set_option maxRecDepth 100000 in
theorem q_M_back_3 (d : Nat) (l5 : Int32) (σ : jS) : b_M_back_3 d l5 σ = (b_M_back_4 d l5 0 σ) := (db_eq _ _ _ _ _ _ _).trans rfl
set_option maxRecDepth 100000 in
theorem q_M_back_4 (d : Nat) (l5 : Int32) (s0 : Int32) (σ : jS) : b_M_back_4 d l5 s0 σ = (jif (l5 = 0) (b_M_back_5 d s0 σ) (jif (l5 = 1) (b_M_back_8 d s0 σ) (jif (l5 = 2) (b_M_back_11 d s0 σ) (b_M_back_14 d s0 σ)))) := (db_eq _ _ _ _ _ _ _).trans rfl
set_option maxRecDepth 100000 in
theorem q_M_back_5 (d : Nat) (l6 : Int32) (σ : jS) : b_M_back_5 d l6 σ = (jif (l6 = 0) (b_M_back_6 d σ) (b_M_back_7 d (Int64.toInt32 (((σ.2.1 86 53) - (σ.2.1 86 52)) + 1)) σ)) := (db_eq _ _ _ _ _ _ _).trans rfl
set_option maxRecDepth 100000 in
theorem q_M_back_6 (d : Nat) (σ : jS) : b_M_back_6 d σ = (b_M_back_7 d 0 σ) := (db_eq _ _ _ _ _ _ _).trans rfl
set_option maxRecDepth 100000 in
theorem q_M_back_7 (d : Nat) (s0 : Int32) (σ : jS) : b_M_back_7 d s0 σ = (some (some (.int s0), σ)) := (db_eq _ _ _ _ _ _ _).trans rfl
set_option maxRecDepth 100000 in
theorem q_M_back_8 (d : Nat) (l6 : Int32) (σ : jS) : b_M_back_8 d l6 σ = (jif (l6 = 0) (b_M_back_9 d σ) (b_M_back_10 d (Int64.toInt32 (σ.2.1 86 52)) σ)) := (db_eq _ _ _ _ _ _ _).trans rfl
set_option maxRecDepth 100000 in
theorem q_M_back_9 (d : Nat) (σ : jS) : b_M_back_9 d σ = (b_M_back_10 d (-1) σ) := (db_eq _ _ _ _ _ _ _).trans rfl
set_option maxRecDepth 100000 in
theorem q_M_back_10 (d : Nat) (s0 : Int32) (σ : jS) : b_M_back_10 d s0 σ = (some (some (.int s0), σ)) := (db_eq _ _ _ _ _ _ _).trans rfl
set_option maxRecDepth 100000 in
theorem q_M_back_11 (d : Nat) (l6 : Int32) (σ : jS) : b_M_back_11 d l6 σ = (jif (l6 = 0) (b_M_back_12 d σ) (b_M_back_13 d (Int64.toInt32 (σ.2.1 86 53)) σ)) := (db_eq _ _ _ _ _ _ _).trans rfl
set_option maxRecDepth 100000 in
theorem q_M_back_12 (d : Nat) (σ : jS) : b_M_back_12 d σ = (b_M_back_13 d (-1) σ) := (db_eq _ _ _ _ _ _ _).trans rfl
set_option maxRecDepth 100000 in
theorem q_M_back_13 (d : Nat) (s0 : Int32) (σ : jS) : b_M_back_13 d s0 σ = (some (some (.int s0), σ)) := (db_eq _ _ _ _ _ _ _).trans rfl
set_option maxRecDepth 100000 in
theorem q_M_back_14 (d : Nat) (l6 : Int32) (σ : jS) : b_M_back_14 d l6 σ = (jif (l6 = 0) (b_M_back_15 d σ) (b_M_back_16 d 1 σ)) := (db_eq _ _ _ _ _ _ _).trans rfl
set_option maxRecDepth 100000 in
theorem q_M_back_15 (d : Nat) (σ : jS) : b_M_back_15 d σ = (b_M_back_16 d 0 σ) := (db_eq _ _ _ _ _ _ _).trans rfl
set_option maxRecDepth 100000 in
theorem q_M_back_16 (d : Nat) (s0 : Int32) (σ : jS) : b_M_back_16 d s0 σ = (some (some (.int s0), σ)) := (db_eq _ _ _ _ _ _ _).trans rfl
noncomputable def b_M_span_0 (d : Nat) (l1 : Int32) (l2 : Int64) (l4 : Int32) (l5 : Int32) (l6 : Int32) (σ : jS) : jR := db (jd jMT d) 1 k_M_span 0 [(0, .ref 86), (1, .int l1), (2, .long l2), (4, .int l4), (5, .int l5), (6, .int l6)] [] σ
noncomputable def b_M_span_1 (d : Nat) (σ : jS) : jR := db (jd jMT d) 1 k_M_span 1 [] [] σ
noncomputable def b_M_span_2 (d : Nat) (l6 : Int32) (σ : jS) : jR := db (jd jMT d) 1 k_M_span 2 [(0, .ref 86), (6, .int l6)] [] σ
noncomputable def b_M_span_3 (d : Nat) (σ : jS) : jR := db (jd jMT d) 1 k_M_span 3 [(0, .ref 86)] [] σ
noncomputable def b_M_span_4 (d : Nat) (s0 : Int64) (σ : jS) : jR := db (jd jMT d) 1 k_M_span 4 [] [.long s0] σ
theorem e_M_span (d : Nat) (l1 : Int32) (l2 : Int64) (l4 : Int32) (l5 : Int32) (l6 : Int32) (σ : jS) : g_M_span (d + 1) l1 l2 l4 l5 l6 σ = b_M_span_0 d l1 l2 l4 l5 l6 σ := rfl
set_option maxRecDepth 100000 in
theorem q_M_span_0 (d : Nat) (l1 : Int32) (l2 : Int64) (l4 : Int32) (l5 : Int32) (l6 : Int32) (σ : jS) : b_M_span_0 d l1 l2 l4 l5 l6 σ = (jif (l6 < 0) (b_M_span_1 d (j_setI σ 86 0 0)) (jif (1 < l6) (b_M_span_1 d (j_setI σ 86 0 0)) (jif (l5 = 0) ((r_I (g_M_laysBack d l1 l2 l4 (j_setI σ 86 0 0))).bind fun q1 => jif (q1.1 = 0) (b_M_span_1 d q1.2) (jif ((lg_cmp (q1.2.2.1 86 52) (q1.2.2.1 86 53)) ≤ 0) (b_M_span_2 d l6 q1.2) (b_M_span_1 d q1.2))) (b_M_span_1 d (j_setI σ 86 0 0))))) := (db_eq _ _ _ _ _ _ _).trans rfl
set_option maxRecDepth 100000 in
theorem q_M_span_1 (d : Nat) (σ : jS) : b_M_span_1 d σ = (some (some (.int (-1)), σ)) := (db_eq _ _ _ _ _ _ _).trans rfl
set_option maxRecDepth 100000 in
theorem q_M_span_2 (d : Nat) (l6 : Int32) (σ : jS) : b_M_span_2 d l6 σ = (jif (l6 = 0) (b_M_span_4 d (σ.2.1 86 52) σ) (b_M_span_3 d σ)) := (db_eq _ _ _ _ _ _ _).trans rfl
set_option maxRecDepth 100000 in
theorem q_M_span_3 (d : Nat) (σ : jS) : b_M_span_3 d σ = (b_M_span_4 d (σ.2.1 86 53) σ) := (db_eq _ _ _ _ _ _ _).trans rfl
set_option maxRecDepth 100000 in
theorem q_M_span_4 (d : Nat) (s0 : Int64) (σ : jS) : b_M_span_4 d s0 σ = (some (some (.int (Int64.toInt32 s0)), σ)) := (db_eq _ _ _ _ _ _ _).trans rfl
noncomputable def b_M_turns_0 (d : Nat) (l1 : Int32) (l2 : Int32) (σ : jS) : jR := db (jd jMT d) 0 k_M_turns 0 [(0, .ref 86), (1, .int l1), (2, .int l2)] [] σ
noncomputable def b_M_turns_1 (d : Nat) (l1 : Int32) (l2 : Int32) (σ : jS) : jR := db (jd jMT d) 0 k_M_turns 1 [(0, .ref 86), (1, .int l1), (2, .int l2)] [] σ
noncomputable def b_M_turns_2 (d : Nat) (l1 : Int32) (l2 : Int32) (l3 : Int32) (l4 : Int32) (σ : jS) : jR := db (jd jMT d) 0 k_M_turns 2 [(0, .ref 86), (1, .int l1), (2, .int l2), (3, .int l3), (4, .int l4)] [] σ
noncomputable def b_M_turns_3 (d : Nat) (l1 : Int32) (l2 : Int32) (l3 : Int32) (l4 : Int32) (l5 : Int32) (l6 : Int32) (σ : jS) : jR := db (jd jMT d) 0 k_M_turns 3 [(0, .ref 86), (1, .int l1), (2, .int l2), (3, .int l3), (4, .int l4), (5, .int l5), (6, .int l6)] [] σ
noncomputable def b_M_turns_4 (d : Nat) (l1 : Int32) (l2 : Int32) (l3 : Int32) (l4 : Int32) (l6 : Int32) (σ : jS) : jR := db (jd jMT d) 0 k_M_turns 4 [(0, .ref 86), (1, .int l1), (2, .int l2), (3, .int l3), (4, .int l4), (6, .int l6)] [] σ
noncomputable def b_M_turns_5 (d : Nat) (l1 : Int32) (l2 : Int32) (l3 : Int32) (l4 : Int32) (l5 : Int32) (l6 : Int32) (σ : jS) : jR := db (jd jMT d) 0 k_M_turns 5 [(0, .ref 86), (1, .int l1), (2, .int l2), (3, .int l3), (4, .int l4), (5, .int l5), (6, .int l6)] [] σ
noncomputable def b_M_turns_6 (d : Nat) (l1 : Int32) (l2 : Int32) (l4 : Int32) (l5 : Int32) (σ : jS) : jR := db (jd jMT d) 0 k_M_turns 6 [(0, .ref 86), (1, .int l1), (2, .int l2), (4, .int l4), (5, .int l5)] [] σ
noncomputable def b_M_turns_7 (d : Nat) (l1 : Int32) (l2 : Int32) (l4 : Int32) (l5 : Int32) (σ : jS) : jR := db (jd jMT d) 0 k_M_turns 7 [(0, .ref 86), (1, .int l1), (2, .int l2), (4, .int l4), (5, .int l5)] [] σ
noncomputable def b_M_turns_8 (d : Nat) (σ : jS) : jR := db (jd jMT d) 0 k_M_turns 8 [] [] σ
theorem e_M_turns (d : Nat) (l1 : Int32) (l2 : Int32) (σ : jS) : g_M_turns (d + 1) l1 l2 σ = b_M_turns_0 d l1 l2 σ := rfl
set_option maxRecDepth 100000 in
theorem q_M_turns_0 (d : Nat) (l1 : Int32) (l2 : Int32) (σ : jS) : b_M_turns_0 d l1 l2 σ = (jif (l1 = ((σ.1 86 50) - 1)) ((r_V (g_M_sees d σ)).bind fun σ1 => some (none, σ1)) (b_M_turns_1 d l1 l2 σ)) := (db_eq _ _ _ _ _ _ _).trans rfl
set_option maxRecDepth 100000 in
theorem q_M_turns_1 (d : Nat) (l1 : Int32) (l2 : Int32) (σ : jS) : b_M_turns_1 d l1 l2 σ = (b_M_turns_2 d l1 l2 (-1) 1 σ) := (db_eq _ _ _ _ _ _ _).trans rfl
set_option maxRecDepth 100000 in
theorem q_M_turns_2 (d : Nat) (l1 : Int32) (l2 : Int32) (l3 : Int32) (l4 : Int32) (σ : jS) : b_M_turns_2 d l1 l2 l3 l4 σ = (jif (((σ.1 86 50) - 1) ≤ l4) (b_M_turns_8 d σ) (b_M_turns_3 d l1 l2 l3 l4 (-1) 1 σ)) := (db_eq _ _ _ _ _ _ _).trans rfl
set_option maxRecDepth 100000 in
theorem q_M_turns_3 (d : Nat) (l1 : Int32) (l2 : Int32) (l3 : Int32) (l4 : Int32) (l5 : Int32) (l6 : Int32) (σ : jS) : b_M_turns_3 d l1 l2 l3 l4 l5 l6 σ = (jif (((σ.1 86 50) - 1) ≤ l6) (b_M_turns_6 d l1 l2 l4 l5 σ) (jif ((((l2 : Int32) >>> ((l6 : Int32) &&& 31)) &&& 1) = 0) ((j_rdI 0 σ 116 l6).bind fun x1 => jif (x1 ≤ l3) (b_M_turns_5 d l1 l2 l3 l4 l5 l6 σ) (jif (l5 = (-1)) (b_M_turns_4 d l1 l2 l3 l4 l6 σ) ((j_rdI 0 σ 116 l6).bind fun x2 => (j_rdI 0 σ 116 l5).bind fun x3 => jif (x3 ≤ x2) (b_M_turns_5 d l1 l2 l3 l4 l5 l6 σ) (b_M_turns_4 d l1 l2 l3 l4 l6 σ)))) (b_M_turns_5 d l1 l2 l3 l4 l5 l6 σ))) := (db_eq _ _ _ _ _ _ _).trans rfl
set_option maxRecDepth 100000 in
theorem q_M_turns_4 (d : Nat) (l1 : Int32) (l2 : Int32) (l3 : Int32) (l4 : Int32) (l6 : Int32) (σ : jS) : b_M_turns_4 d l1 l2 l3 l4 l6 σ = (b_M_turns_5 d l1 l2 l3 l4 l6 l6 σ) := (db_eq _ _ _ _ _ _ _).trans rfl
set_option maxRecDepth 100000 in
theorem q_M_turns_5 (d : Nat) (l1 : Int32) (l2 : Int32) (l3 : Int32) (l4 : Int32) (l5 : Int32) (l6 : Int32) (σ : jS) : b_M_turns_5 d l1 l2 l3 l4 l5 l6 σ = (b_M_turns_3 d l1 l2 l3 l4 l5 (l6 + 1) σ) := (db_eq _ _ _ _ _ _ _).trans rfl
set_option maxRecDepth 100000 in
theorem q_M_turns_6 (d : Nat) (l1 : Int32) (l2 : Int32) (l4 : Int32) (l5 : Int32) (σ : jS) : b_M_turns_6 d l1 l2 l4 l5 σ = (jif (l5 = (-1)) (some (none, σ)) (b_M_turns_7 d l1 l2 l4 l5 σ)) := (db_eq _ _ _ _ _ _ _).trans rfl
set_option maxRecDepth 100000 in
theorem q_M_turns_7 (d : Nat) (l1 : Int32) (l2 : Int32) (l4 : Int32) (l5 : Int32) (σ : jS) : b_M_turns_7 d l1 l2 l4 l5 σ = ((j_rdI 0 σ 116 l5).bind fun x1 => (j_wrI σ 114 l1 x1).bind fun σ2 => (r_V (g_M_turns d (l1 + 1) (l2 ||| ((1 : Int32) <<< ((l5 : Int32) &&& 31))) σ2)).bind fun σ3 => b_M_turns_2 d l1 l2 x1 (l4 + 1) σ3) := (db_eq _ _ _ _ _ _ _).trans rfl
set_option maxRecDepth 100000 in
theorem q_M_turns_8 (d : Nat) (σ : jS) : b_M_turns_8 d σ = (some (none, σ)) := (db_eq _ _ _ _ _ _ _).trans rfl
noncomputable def b_M_sees_0 (d : Nat) (σ : jS) : jR := db (jd jMT d) 0 k_M_sees 0 [(0, .ref 86)] [] σ
noncomputable def b_M_sees_1 (d : Nat) (l1 : Int32) (l2 : Int32) (σ : jS) : jR := db (jd jMT d) 0 k_M_sees 1 [(0, .ref 86), (1, .int l1), (2, .int l2)] [] σ
noncomputable def b_M_sees_2 (d : Nat) (l1 : Int32) (l2 : Int32) (σ : jS) : jR := db (jd jMT d) 0 k_M_sees 2 [(0, .ref 86), (1, .int l1), (2, .int l2)] [] σ
noncomputable def b_M_sees_3 (d : Nat) (l1 : Int32) (l2 : Int32) (l3 : Int32) (σ : jS) : jR := db (jd jMT d) 0 k_M_sees 3 [(0, .ref 86), (1, .int l1), (2, .int l2), (3, .int l3)] [] σ
noncomputable def b_M_sees_4 (d : Nat) (l1 : Int32) (l2 : Int32) (l3 : Int32) (σ : jS) : jR := db (jd jMT d) 0 k_M_sees 4 [(0, .ref 86), (1, .int l1), (2, .int l2), (3, .int l3)] [] σ
noncomputable def b_M_sees_5 (d : Nat) (l1 : Int32) (l2 : Int32) (l3 : Int32) (σ : jS) : jR := db (jd jMT d) 0 k_M_sees 5 [(0, .ref 86), (1, .int l1), (2, .int l2), (3, .int l3)] [] σ
noncomputable def b_M_sees_6 (d : Nat) (l1 : Int32) (l2 : Int32) (l3 : Int32) (σ : jS) : jR := db (jd jMT d) 0 k_M_sees 6 [(0, .ref 86), (1, .int l1), (2, .int l2), (3, .int l3)] [] σ
noncomputable def b_M_sees_7 (d : Nat) (l1 : Int32) (σ : jS) : jR := db (jd jMT d) 0 k_M_sees 7 [(0, .ref 86), (1, .int l1)] [] σ
noncomputable def b_M_sees_8 (d : Nat) (σ : jS) : jR := db (jd jMT d) 0 k_M_sees 8 [(0, .ref 86)] [] σ
noncomputable def b_M_sees_9 (d : Nat) (σ : jS) : jR := db (jd jMT d) 0 k_M_sees 9 [(0, .ref 86)] [] σ
noncomputable def b_M_sees_10 (d : Nat) (l4 : Int32) (σ : jS) : jR := db (jd jMT d) 0 k_M_sees 10 [(0, .ref 86), (4, .int l4)] [] σ
theorem e_M_sees (d : Nat) (σ : jS) : g_M_sees (d + 1) σ = b_M_sees_0 d σ := rfl
set_option maxRecDepth 100000 in
theorem q_M_sees_0 (d : Nat) (σ : jS) : b_M_sees_0 d σ = ((r_I (g_M_sends d (σ.1 86 56) σ)).bind fun q1 => jif ((q1.2.1 86 55) = 1) (b_M_sees_1 d q1.1 0 q1.2) (b_M_sees_3 d q1.1 0 q1.1 q1.2)) := (db_eq _ _ _ _ _ _ _).trans rfl
set_option maxRecDepth 100000 in
theorem q_M_sees_1 (d : Nat) (l1 : Int32) (l2 : Int32) (σ : jS) : b_M_sees_1 d l1 l2 σ = ((j_rdI 0 σ 114 l2).bind fun x1 => jif (x1 = (σ.1 86 58)) (b_M_sees_2 d l1 l2 σ) (b_M_sees_1 d l1 (l2 + 1) σ)) := (db_eq _ _ _ _ _ _ _).trans rfl
set_option maxRecDepth 100000 in
theorem q_M_sees_2 (d : Nat) (l1 : Int32) (l2 : Int32) (σ : jS) : b_M_sees_2 d l1 l2 σ = ((j_rdI 0 σ 115 l2).bind fun x1 => b_M_sees_3 d l1 l2 x1 σ) := (db_eq _ _ _ _ _ _ _).trans rfl
set_option maxRecDepth 100000 in
theorem q_M_sees_3 (d : Nat) (l1 : Int32) (l2 : Int32) (l3 : Int32) (σ : jS) : b_M_sees_3 d l1 l2 l3 σ = (jif ((σ.1 86 59) = (-1)) (b_M_sees_4 d l1 l2 l3 σ) (jif (l3 ≤ (σ.1 86 59)) (b_M_sees_5 d l1 l2 l3 σ) (b_M_sees_4 d l1 l2 l3 σ))) := (db_eq _ _ _ _ _ _ _).trans rfl
set_option maxRecDepth 100000 in
theorem q_M_sees_4 (d : Nat) (l1 : Int32) (l2 : Int32) (l3 : Int32) (σ : jS) : b_M_sees_4 d l1 l2 l3 σ = ((r_L (g_M_rowAsLong d (j_setI (j_setI σ 86 59 l3) 86 61 l2))).bind fun q1 => b_M_sees_5 d l1 l2 l3 (j_setL q1.2 86 63 q1.1)) := (db_eq _ _ _ _ _ _ _).trans rfl
set_option maxRecDepth 100000 in
theorem q_M_sees_5 (d : Nat) (l1 : Int32) (l2 : Int32) (l3 : Int32) (σ : jS) : b_M_sees_5 d l1 l2 l3 σ = (jif ((σ.1 86 60) = (-1)) (b_M_sees_6 d l1 l2 l3 σ) (jif ((σ.1 86 60) ≤ l3) (b_M_sees_7 d l1 σ) (b_M_sees_6 d l1 l2 l3 σ))) := (db_eq _ _ _ _ _ _ _).trans rfl
set_option maxRecDepth 100000 in
theorem q_M_sees_6 (d : Nat) (l1 : Int32) (l2 : Int32) (l3 : Int32) (σ : jS) : b_M_sees_6 d l1 l2 l3 σ = ((r_L (g_M_rowAsLong d (j_setI (j_setI σ 86 60 l3) 86 62 l2))).bind fun q1 => b_M_sees_7 d l1 (j_setL q1.2 86 64 q1.1)) := (db_eq _ _ _ _ _ _ _).trans rfl
set_option maxRecDepth 100000 in
theorem q_M_sees_7 (d : Nat) (l1 : Int32) (σ : jS) : b_M_sees_7 d l1 σ = (jif (l1 = (σ.1 86 57)) (b_M_sees_8 d σ) (some (none, σ))) := (db_eq _ _ _ _ _ _ _).trans rfl
set_option maxRecDepth 100000 in
theorem q_M_sees_8 (d : Nat) (σ : jS) : b_M_sees_8 d σ = (jif ((σ.1 86 65) = 0) ((r_L (g_M_rowAsLong d σ)).bind fun q1 => b_M_sees_9 d (j_setL q1.2 86 66 q1.1)) (b_M_sees_9 d σ)) := (db_eq _ _ _ _ _ _ _).trans rfl
set_option maxRecDepth 100000 in
theorem q_M_sees_9 (d : Nat) (σ : jS) : b_M_sees_9 d σ = ((r_I (g_M_changesTo d (j_setI σ 86 65 ((σ.1 86 65) + 1)))).bind fun q1 => jif ((q1.2.1 86 67) = (-1)) (b_M_sees_10 d q1.1 q1.2) (jif (q1.1 < (q1.2.1 86 67)) (b_M_sees_10 d q1.1 q1.2) (some (none, q1.2)))) := (db_eq _ _ _ _ _ _ _).trans rfl
set_option maxRecDepth 100000 in
theorem q_M_sees_10 (d : Nat) (l4 : Int32) (σ : jS) : b_M_sees_10 d l4 σ = ((r_L (g_M_rowAsLong d (j_setI σ 86 67 l4))).bind fun q1 => some (none, (j_setL q1.2 86 68 q1.1))) := (db_eq _ _ _ _ _ _ _).trans rfl
noncomputable def b_M_changesTo_0 (d : Nat) (σ : jS) : jR := db (jd jMT d) 1 k_M_changesTo 0 [(0, .ref 86)] [] σ
noncomputable def b_M_changesTo_1 (d : Nat) (l1 : Int32) (l2 : Int32) (σ : jS) : jR := db (jd jMT d) 1 k_M_changesTo 1 [(0, .ref 86), (1, .int l1), (2, .int l2)] [] σ
noncomputable def b_M_changesTo_2 (d : Nat) (l1 : Int32) (l2 : Int32) (l3 : Int32) (σ : jS) : jR := db (jd jMT d) 1 k_M_changesTo 2 [(0, .ref 86), (1, .int l1), (2, .int l2), (3, .int l3)] [] σ
noncomputable def b_M_changesTo_3 (d : Nat) (l2 : Int32) (l3 : Int32) (s0 : Int32) (σ : jS) : jR := db (jd jMT d) 1 k_M_changesTo 3 [(0, .ref 86), (2, .int l2), (3, .int l3)] [.int s0] σ
noncomputable def b_M_changesTo_4 (d : Nat) (l2 : Int32) (l3 : Int32) (s0 : Int32) (s1 : Int32) (σ : jS) : jR := db (jd jMT d) 1 k_M_changesTo 4 [(0, .ref 86), (2, .int l2), (3, .int l3)] [.int s1, .int s0] σ
noncomputable def b_M_changesTo_5 (d : Nat) (l1 : Int32) (l2 : Int32) (σ : jS) : jR := db (jd jMT d) 1 k_M_changesTo 5 [(0, .ref 86), (1, .int l1), (2, .int l2)] [] σ
noncomputable def b_M_changesTo_6 (d : Nat) (l1 : Int32) (σ : jS) : jR := db (jd jMT d) 1 k_M_changesTo 6 [(1, .int l1)] [] σ
theorem e_M_changesTo (d : Nat) (σ : jS) : g_M_changesTo (d + 1) σ = b_M_changesTo_0 d σ := rfl
set_option maxRecDepth 100000 in
theorem q_M_changesTo_0 (d : Nat) (σ : jS) : b_M_changesTo_0 d σ = (b_M_changesTo_1 d 0 1 σ) := (db_eq _ _ _ _ _ _ _).trans rfl
set_option maxRecDepth 100000 in
theorem q_M_changesTo_1 (d : Nat) (l1 : Int32) (l2 : Int32) (σ : jS) : b_M_changesTo_1 d l1 l2 σ = (jif (((σ.1 86 50) - 1) ≤ l2) (b_M_changesTo_6 d l1 σ) (b_M_changesTo_2 d l1 l2 (l2 + 1) σ)) := (db_eq _ _ _ _ _ _ _).trans rfl
set_option maxRecDepth 100000 in
theorem q_M_changesTo_2 (d : Nat) (l1 : Int32) (l2 : Int32) (l3 : Int32) (σ : jS) : b_M_changesTo_2 d l1 l2 l3 σ = (jif (((σ.1 86 50) - 1) ≤ l3) (b_M_changesTo_5 d l1 l2 σ) ((j_rdI 0 σ 116 l2).bind fun x1 => (r_I (g_M_placeOf d x1 σ)).bind fun q2 => (j_rdI 0 q2.2 116 l3).bind fun x3 => (r_I (g_M_placeOf d x3 q2.2)).bind fun q4 => jif (q2.1 ≤ q4.1) (b_M_changesTo_3 d l2 l3 l1 q4.2) (b_M_changesTo_4 d l2 l3 l1 1 q4.2))) := (db_eq _ _ _ _ _ _ _).trans rfl
set_option maxRecDepth 100000 in
theorem q_M_changesTo_3 (d : Nat) (l2 : Int32) (l3 : Int32) (s0 : Int32) (σ : jS) : b_M_changesTo_3 d l2 l3 s0 σ = (b_M_changesTo_4 d l2 l3 s0 0 σ) := (db_eq _ _ _ _ _ _ _).trans rfl
set_option maxRecDepth 100000 in
theorem q_M_changesTo_4 (d : Nat) (l2 : Int32) (l3 : Int32) (s0 : Int32) (s1 : Int32) (σ : jS) : b_M_changesTo_4 d l2 l3 s0 s1 σ = (b_M_changesTo_2 d (s0 + s1) l2 (l3 + 1) σ) := (db_eq _ _ _ _ _ _ _).trans rfl
set_option maxRecDepth 100000 in
theorem q_M_changesTo_5 (d : Nat) (l1 : Int32) (l2 : Int32) (σ : jS) : b_M_changesTo_5 d l1 l2 σ = (b_M_changesTo_1 d l1 (l2 + 1) σ) := (db_eq _ _ _ _ _ _ _).trans rfl
set_option maxRecDepth 100000 in
theorem q_M_changesTo_6 (d : Nat) (l1 : Int32) (σ : jS) : b_M_changesTo_6 d l1 σ = (some (some (.int l1), σ)) := (db_eq _ _ _ _ _ _ _).trans rfl
noncomputable def b_M_placeOf_0 (d : Nat) (l1 : Int32) (σ : jS) : jR := db (jd jMT d) 1 k_M_placeOf 0 [(0, .ref 86), (1, .int l1)] [] σ
noncomputable def b_M_placeOf_1 (d : Nat) (l1 : Int32) (l2 : Int32) (σ : jS) : jR := db (jd jMT d) 1 k_M_placeOf 1 [(0, .ref 86), (1, .int l1), (2, .int l2)] [] σ
noncomputable def b_M_placeOf_2 (d : Nat) (l2 : Int32) (σ : jS) : jR := db (jd jMT d) 1 k_M_placeOf 2 [(2, .int l2)] [] σ
theorem e_M_placeOf (d : Nat) (l1 : Int32) (σ : jS) : g_M_placeOf (d + 1) l1 σ = b_M_placeOf_0 d l1 σ := rfl
set_option maxRecDepth 100000 in
theorem q_M_placeOf_0 (d : Nat) (l1 : Int32) (σ : jS) : b_M_placeOf_0 d l1 σ = (b_M_placeOf_1 d l1 0 σ) := (db_eq _ _ _ _ _ _ _).trans rfl
set_option maxRecDepth 100000 in
theorem q_M_placeOf_1 (d : Nat) (l1 : Int32) (l2 : Int32) (σ : jS) : b_M_placeOf_1 d l1 l2 σ = ((j_rdI 0 σ 114 l2).bind fun x1 => jif (x1 = l1) (b_M_placeOf_2 d l2 σ) (b_M_placeOf_1 d l1 (l2 + 1) σ)) := (db_eq _ _ _ _ _ _ _).trans rfl
set_option maxRecDepth 100000 in
theorem q_M_placeOf_2 (d : Nat) (l2 : Int32) (σ : jS) : b_M_placeOf_2 d l2 σ = (some (some (.int l2), σ)) := (db_eq _ _ _ _ _ _ _).trans rfl
noncomputable def b_M_goesThrough_0 (d : Nat) (l1 : Int32) (l2 : Int32) (l3 : Int32) (l4 : Int32) (σ : jS) : jR := db (jd jMT d) 0 k_M_goesThrough 0 [(0, .ref 86), (1, .int l1), (2, .int l2), (3, .int l3), (4, .int l4)] [] σ
noncomputable def b_M_goesThrough_1 (d : Nat) (l1 : Int32) (l2 : Int32) (l3 : Int32) (l4 : Int32) (l5 : Int32) (σ : jS) : jR := db (jd jMT d) 0 k_M_goesThrough 1 [(0, .ref 86), (1, .int l1), (2, .int l2), (3, .int l3), (4, .int l4), (5, .int l5)] [] σ
noncomputable def b_M_goesThrough_2 (d : Nat) (l1 : Int32) (l2 : Int32) (l3 : Int32) (l4 : Int32) (σ : jS) : jR := db (jd jMT d) 0 k_M_goesThrough 2 [(0, .ref 86), (1, .int l1), (2, .int l2), (3, .int l3), (4, .int l4)] [] σ
noncomputable def b_M_goesThrough_3 (d : Nat) (l5 : Int32) (σ : jS) : jR := db (jd jMT d) 0 k_M_goesThrough 3 [(0, .ref 86), (5, .int l5)] [] σ
noncomputable def b_M_goesThrough_4 (d : Nat) (σ : jS) : jR := db (jd jMT d) 0 k_M_goesThrough 4 [] [] σ
theorem e_M_goesThrough (d : Nat) (l1 : Int32) (l2 : Int32) (l3 : Int32) (l4 : Int32) (σ : jS) : g_M_goesThrough (d + 1) l1 l2 l3 l4 σ = b_M_goesThrough_0 d l1 l2 l3 l4 σ := rfl
set_option maxRecDepth 100000 in
theorem q_M_goesThrough_0 (d : Nat) (l1 : Int32) (l2 : Int32) (l3 : Int32) (l4 : Int32) (σ : jS) : b_M_goesThrough_0 d l1 l2 l3 l4 σ = (b_M_goesThrough_1 d l1 l2 l3 l4 0 σ) := (db_eq _ _ _ _ _ _ _).trans rfl
set_option maxRecDepth 100000 in
theorem q_M_goesThrough_1 (d : Nat) (l1 : Int32) (l2 : Int32) (l3 : Int32) (l4 : Int32) (l5 : Int32) (σ : jS) : b_M_goesThrough_1 d l1 l2 l3 l4 l5 σ = (jif ((σ.1 86 50) ≤ l5) (b_M_goesThrough_2 d l1 l2 l3 l4 σ) ((j_rdI 0 σ 114 l5).bind fun x1 => (j_wrI σ 116 l5 x1).bind fun σ2 => b_M_goesThrough_1 d l1 l2 l3 l4 (l5 + 1) σ2)) := (db_eq _ _ _ _ _ _ _).trans rfl
set_option maxRecDepth 100000 in
theorem q_M_goesThrough_2 (d : Nat) (l1 : Int32) (l2 : Int32) (l3 : Int32) (l4 : Int32) (σ : jS) : b_M_goesThrough_2 d l1 l2 l3 l4 σ = ((r_V (g_M_turns d 1 0 (j_setI (j_setI (j_setI (j_setI (j_setI (j_setI (j_setI (j_setI σ 86 55 l3) 86 56 l1) 86 57 l2) 86 58 l4) 86 59 (-1)) 86 60 (-1)) 86 65 0) 86 67 (-1)))).bind fun σ1 => b_M_goesThrough_3 d 0 σ1) := (db_eq _ _ _ _ _ _ _).trans rfl
set_option maxRecDepth 100000 in
theorem q_M_goesThrough_3 (d : Nat) (l5 : Int32) (σ : jS) : b_M_goesThrough_3 d l5 σ = (jif ((σ.1 86 50) ≤ l5) (b_M_goesThrough_4 d σ) ((j_rdI 0 σ 116 l5).bind fun x1 => (j_wrI σ 114 l5 x1).bind fun σ2 => b_M_goesThrough_3 d (l5 + 1) σ2)) := (db_eq _ _ _ _ _ _ _).trans rfl
set_option maxRecDepth 100000 in
theorem q_M_goesThrough_4 (d : Nat) (σ : jS) : b_M_goesThrough_4 d σ = (some (none, σ)) := (db_eq _ _ _ _ _ _ _).trans rfl
noncomputable def b_M_best_0 (d : Nat) (l1 : Int32) (l2 : Int64) (l4 : Int32) (l5 : Int32) (σ : jS) : jR := db (jd jMT d) 1 k_M_best 0 [(0, .ref 86), (1, .int l1), (2, .long l2), (4, .int l4), (5, .int l5)] [] σ
noncomputable def b_M_best_1 (d : Nat) (σ : jS) : jR := db (jd jMT d) 1 k_M_best 1 [] [] σ
noncomputable def b_M_best_2 (d : Nat) (l4 : Int32) (l5 : Int32) (σ : jS) : jR := db (jd jMT d) 1 k_M_best 2 [(0, .ref 86), (4, .int l4), (5, .int l5)] [] σ
noncomputable def b_M_best_3 (d : Nat) (σ : jS) : jR := db (jd jMT d) 1 k_M_best 3 [(0, .ref 86)] [] σ
noncomputable def b_M_best_4 (d : Nat) (s0 : Int32) (σ : jS) : jR := db (jd jMT d) 1 k_M_best 4 [] [.int s0] σ
theorem e_M_best (d : Nat) (l1 : Int32) (l2 : Int64) (l4 : Int32) (l5 : Int32) (σ : jS) : g_M_best (d + 1) l1 l2 l4 l5 σ = b_M_best_0 d l1 l2 l4 l5 σ := rfl
set_option maxRecDepth 100000 in
theorem q_M_best_0 (d : Nat) (l1 : Int32) (l2 : Int64) (l4 : Int32) (l5 : Int32) (σ : jS) : b_M_best_0 d l1 l2 l4 l5 σ = ((r_V (g_M_plain d (j_setI σ 86 0 0))).bind fun σ1 => jif (l5 < 0) (b_M_best_1 d σ1) (jif (1 < l5) (b_M_best_1 d σ1) ((r_I (g_M_takesSent d l1 l2 l4 σ1)).bind fun q2 => jif (q2.1 = 0) (b_M_best_1 d q2.2) (b_M_best_2 d l4 l5 q2.2)))) := (db_eq _ _ _ _ _ _ _).trans rfl
set_option maxRecDepth 100000 in
theorem q_M_best_1 (d : Nat) (σ : jS) : b_M_best_1 d σ = (some (some (.int (-1)), σ)) := (db_eq _ _ _ _ _ _ _).trans rfl
set_option maxRecDepth 100000 in
theorem q_M_best_2 (d : Nat) (l4 : Int32) (l5 : Int32) (σ : jS) : b_M_best_2 d l4 l5 σ = ((r_V (g_M_goesThrough d l4 (-1) 0 (-1) σ)).bind fun σ1 => jif (l5 = 0) (b_M_best_4 d (σ1.1 86 59) σ1) (b_M_best_3 d σ1)) := (db_eq _ _ _ _ _ _ _).trans rfl
set_option maxRecDepth 100000 in
theorem q_M_best_3 (d : Nat) (σ : jS) : b_M_best_3 d σ = (b_M_best_4 d (σ.1 86 60) σ) := (db_eq _ _ _ _ _ _ _).trans rfl
set_option maxRecDepth 100000 in
theorem q_M_best_4 (d : Nat) (s0 : Int32) (σ : jS) : b_M_best_4 d s0 σ = (some (some (.int s0), σ)) := (db_eq _ _ _ _ _ _ _).trans rfl
noncomputable def b_M_order_0 (d : Nat) (l1 : Int32) (l2 : Int64) (l4 : Int32) (l5 : Int32) (σ : jS) : jR := db (jd jMT d) 3 k_M_order 0 [(0, .ref 86), (1, .int l1), (2, .long l2), (4, .int l4), (5, .int l5)] [] σ
noncomputable def b_M_order_1 (d : Nat) (σ : jS) : jR := db (jd jMT d) 3 k_M_order 1 [] [] σ
noncomputable def b_M_order_2 (d : Nat) (l4 : Int32) (l5 : Int32) (σ : jS) : jR := db (jd jMT d) 3 k_M_order 2 [(0, .ref 86), (4, .int l4), (5, .int l5)] [] σ
noncomputable def b_M_order_3 (d : Nat) (σ : jS) : jR := db (jd jMT d) 3 k_M_order 3 [(0, .ref 86)] [] σ
noncomputable def b_M_order_4 (d : Nat) (s0 : Int64) (σ : jS) : jR := db (jd jMT d) 3 k_M_order 4 [] [.long s0] σ
theorem e_M_order (d : Nat) (l1 : Int32) (l2 : Int64) (l4 : Int32) (l5 : Int32) (σ : jS) : g_M_order (d + 1) l1 l2 l4 l5 σ = b_M_order_0 d l1 l2 l4 l5 σ := rfl
set_option maxRecDepth 100000 in
theorem q_M_order_0 (d : Nat) (l1 : Int32) (l2 : Int64) (l4 : Int32) (l5 : Int32) (σ : jS) : b_M_order_0 d l1 l2 l4 l5 σ = ((r_V (g_M_plain d (j_setI σ 86 0 0))).bind fun σ1 => jif (l5 < 0) (b_M_order_1 d σ1) (jif (1 < l5) (b_M_order_1 d σ1) ((r_I (g_M_takesSent d l1 l2 l4 σ1)).bind fun q2 => jif (q2.1 = 0) (b_M_order_1 d q2.2) (b_M_order_2 d l4 l5 q2.2)))) := (db_eq _ _ _ _ _ _ _).trans rfl
set_option maxRecDepth 100000 in
theorem q_M_order_1 (d : Nat) (σ : jS) : b_M_order_1 d σ = (some (some (.long (-1)), σ)) := (db_eq _ _ _ _ _ _ _).trans rfl
set_option maxRecDepth 100000 in
theorem q_M_order_2 (d : Nat) (l4 : Int32) (l5 : Int32) (σ : jS) : b_M_order_2 d l4 l5 σ = ((r_V (g_M_goesThrough d l4 (-1) 0 (-1) σ)).bind fun σ1 => jif (l5 = 0) (b_M_order_4 d (σ1.2.1 86 63) σ1) (b_M_order_3 d σ1)) := (db_eq _ _ _ _ _ _ _).trans rfl
set_option maxRecDepth 100000 in
theorem q_M_order_3 (d : Nat) (σ : jS) : b_M_order_3 d σ = (b_M_order_4 d (σ.2.1 86 64) σ) := (db_eq _ _ _ _ _ _ _).trans rfl
set_option maxRecDepth 100000 in
theorem q_M_order_4 (d : Nat) (s0 : Int64) (σ : jS) : b_M_order_4 d s0 σ = (some (some (.long s0), σ)) := (db_eq _ _ _ _ _ _ _).trans rfl
noncomputable def b_M_isAimed_0 (d : Nat) (l1 : Int32) (l2 : Int64) (l4 : Int32) (l5 : Int32) (σ : jS) : jR := db (jd jMT d) 2 k_M_isAimed 0 [(0, .ref 86), (1, .int l1), (2, .long l2), (4, .int l4), (5, .int l5)] [] σ
noncomputable def b_M_isAimed_1 (d : Nat) (σ : jS) : jR := db (jd jMT d) 2 k_M_isAimed 1 [] [] σ
noncomputable def b_M_isAimed_2 (d : Nat) (l4 : Int32) (l5 : Int32) (σ : jS) : jR := db (jd jMT d) 2 k_M_isAimed 2 [(0, .ref 86), (4, .int l4), (5, .int l5)] [] σ
theorem e_M_isAimed (d : Nat) (l1 : Int32) (l2 : Int64) (l4 : Int32) (l5 : Int32) (σ : jS) : g_M_isAimed (d + 1) l1 l2 l4 l5 σ = b_M_isAimed_0 d l1 l2 l4 l5 σ := rfl
set_option maxRecDepth 100000 in
theorem q_M_isAimed_0 (d : Nat) (l1 : Int32) (l2 : Int64) (l4 : Int32) (l5 : Int32) (σ : jS) : b_M_isAimed_0 d l1 l2 l4 l5 σ = ((r_V (g_M_plain d σ)).bind fun σ1 => jif (l5 < 0) (b_M_isAimed_1 d σ1) (jif (999999 < l5) (b_M_isAimed_1 d σ1) ((r_I (g_M_takesSent d l1 l2 l4 σ1)).bind fun q2 => jif (q2.1 = 0) (b_M_isAimed_1 d q2.2) (b_M_isAimed_2 d l4 l5 q2.2)))) := (db_eq _ _ _ _ _ _ _).trans rfl
set_option maxRecDepth 100000 in
theorem q_M_isAimed_1 (d : Nat) (σ : jS) : b_M_isAimed_1 d σ = (some (some (.int 0), σ)) := (db_eq _ _ _ _ _ _ _).trans rfl
set_option maxRecDepth 100000 in
theorem q_M_isAimed_2 (d : Nat) (l4 : Int32) (l5 : Int32) (σ : jS) : b_M_isAimed_2 d l4 l5 σ = ((r_V (g_M_goesThrough d l4 l5 0 (-1) σ)).bind fun σ1 => some (some (.int 1), σ1)) := (db_eq _ _ _ _ _ _ _).trans rfl
noncomputable def b_M_just_0 (d : Nat) (l1 : Int32) (l2 : Int64) (l4 : Int32) (l5 : Int32) (σ : jS) : jR := db (jd jMT d) 1 k_M_just 0 [(0, .ref 86), (1, .int l1), (2, .long l2), (4, .int l4), (5, .int l5)] [] σ
noncomputable def b_M_just_1 (d : Nat) (σ : jS) : jR := db (jd jMT d) 1 k_M_just 1 [] [] σ
noncomputable def b_M_just_2 (d : Nat) (s0 : Int32) (σ : jS) : jR := db (jd jMT d) 1 k_M_just 2 [] [.int s0] σ
theorem e_M_just (d : Nat) (l1 : Int32) (l2 : Int64) (l4 : Int32) (l5 : Int32) (σ : jS) : g_M_just (d + 1) l1 l2 l4 l5 σ = b_M_just_0 d l1 l2 l4 l5 σ := rfl
set_option maxRecDepth 100000 in
theorem q_M_just_0 (d : Nat) (l1 : Int32) (l2 : Int64) (l4 : Int32) (l5 : Int32) (σ : jS) : b_M_just_0 d l1 l2 l4 l5 σ = ((r_I (g_M_isAimed d l1 l2 l4 l5 (j_setI σ 86 0 0))).bind fun q1 => jif (q1.1 = 0) (b_M_just_1 d q1.2) (b_M_just_2 d (q1.2.1 86 65) q1.2)) := (db_eq _ _ _ _ _ _ _).trans rfl
set_option maxRecDepth 100000 in
theorem q_M_just_1 (d : Nat) (σ : jS) : b_M_just_1 d σ = (b_M_just_2 d (-1) σ) := (db_eq _ _ _ _ _ _ _).trans rfl
set_option maxRecDepth 100000 in
theorem q_M_just_2 (d : Nat) (s0 : Int32) (σ : jS) : b_M_just_2 d s0 σ = (some (some (.int s0), σ)) := (db_eq _ _ _ _ _ _ _).trans rfl
noncomputable def b_M_first_0 (d : Nat) (l1 : Int32) (l2 : Int64) (l4 : Int32) (l5 : Int32) (σ : jS) : jR := db (jd jMT d) 3 k_M_first 0 [(0, .ref 86), (1, .int l1), (2, .long l2), (4, .int l4), (5, .int l5)] [] σ
noncomputable def b_M_first_1 (d : Nat) (σ : jS) : jR := db (jd jMT d) 3 k_M_first 1 [(0, .ref 86)] [] σ
noncomputable def b_M_first_2 (d : Nat) (σ : jS) : jR := db (jd jMT d) 3 k_M_first 2 [(0, .ref 86)] [] σ
noncomputable def b_M_first_3 (d : Nat) (s0 : Int64) (σ : jS) : jR := db (jd jMT d) 3 k_M_first 3 [] [.long s0] σ
theorem e_M_first (d : Nat) (l1 : Int32) (l2 : Int64) (l4 : Int32) (l5 : Int32) (σ : jS) : g_M_first (d + 1) l1 l2 l4 l5 σ = b_M_first_0 d l1 l2 l4 l5 σ := rfl
set_option maxRecDepth 100000 in
theorem q_M_first_0 (d : Nat) (l1 : Int32) (l2 : Int64) (l4 : Int32) (l5 : Int32) (σ : jS) : b_M_first_0 d l1 l2 l4 l5 σ = ((r_I (g_M_isAimed d l1 l2 l4 l5 (j_setI σ 86 0 0))).bind fun q1 => jif (q1.1 = 0) (b_M_first_3 d (-1) q1.2) (b_M_first_1 d q1.2)) := (db_eq _ _ _ _ _ _ _).trans rfl
set_option maxRecDepth 100000 in
theorem q_M_first_1 (d : Nat) (σ : jS) : b_M_first_1 d σ = (jif ((σ.1 86 65) = 0) (b_M_first_3 d (-2) σ) (b_M_first_2 d σ)) := (db_eq _ _ _ _ _ _ _).trans rfl
set_option maxRecDepth 100000 in
theorem q_M_first_2 (d : Nat) (σ : jS) : b_M_first_2 d σ = (b_M_first_3 d (σ.2.1 86 66) σ) := (db_eq _ _ _ _ _ _ _).trans rfl
set_option maxRecDepth 100000 in
theorem q_M_first_3 (d : Nat) (s0 : Int64) (σ : jS) : b_M_first_3 d s0 σ = (some (some (.long s0), σ)) := (db_eq _ _ _ _ _ _ _).trans rfl
noncomputable def b_M_bound_0 (d : Nat) (l1 : Int32) (l2 : Int32) (l3 : Int32) (σ : jS) : jR := db (jd jMT d) 1 k_M_bound 0 [(0, .ref 86), (1, .int l1), (2, .int l2), (3, .int l3)] [] σ
noncomputable def b_M_bound_1 (d : Nat) (σ : jS) : jR := db (jd jMT d) 1 k_M_bound 1 [] [] σ
noncomputable def b_M_bound_2 (d : Nat) (l1 : Int32) (l2 : Int32) (l3 : Int32) (σ : jS) : jR := db (jd jMT d) 1 k_M_bound 2 [(1, .int l1), (2, .int l2), (3, .int l3)] [] σ
noncomputable def b_M_bound_3 (d : Nat) (l1 : Int32) (l3 : Int32) (l4 : Int32) (l5 : Int32) (σ : jS) : jR := db (jd jMT d) 1 k_M_bound 3 [(1, .int l1), (3, .int l3), (4, .int l4), (5, .int l5)] [] σ
noncomputable def b_M_bound_4 (d : Nat) (l1 : Int32) (l3 : Int32) (l4 : Int32) (l5 : Int32) (σ : jS) : jR := db (jd jMT d) 1 k_M_bound 4 [(1, .int l1), (3, .int l3), (4, .int l4), (5, .int l5)] [] σ
noncomputable def b_M_bound_5 (d : Nat) (l1 : Int32) (l3 : Int32) (l5 : Int32) (s0 : Int32) (σ : jS) : jR := db (jd jMT d) 1 k_M_bound 5 [(1, .int l1), (3, .int l3), (5, .int l5)] [.int s0] σ
noncomputable def b_M_bound_6 (d : Nat) (l4 : Int32) (σ : jS) : jR := db (jd jMT d) 1 k_M_bound 6 [(4, .int l4)] [] σ
theorem e_M_bound (d : Nat) (l1 : Int32) (l2 : Int32) (l3 : Int32) (σ : jS) : g_M_bound (d + 1) l1 l2 l3 σ = b_M_bound_0 d l1 l2 l3 σ := rfl
set_option maxRecDepth 100000 in
theorem q_M_bound_0 (d : Nat) (l1 : Int32) (l2 : Int32) (l3 : Int32) (σ : jS) : b_M_bound_0 d l1 l2 l3 σ = (jif (l1 < 0) (b_M_bound_1 d (j_setI σ 86 0 0)) (jif (8 < l1) (b_M_bound_1 d (j_setI σ 86 0 0)) (jif (l2 < 0) (b_M_bound_1 d (j_setI σ 86 0 0)) (jif (999999 < l2) (b_M_bound_1 d (j_setI σ 86 0 0)) (jif (l3 < 0) (b_M_bound_1 d (j_setI σ 86 0 0)) (jif (l3 ≤ 1) (b_M_bound_2 d l1 l2 l3 (j_setI σ 86 0 0)) (b_M_bound_1 d (j_setI σ 86 0 0)))))))) := (db_eq _ _ _ _ _ _ _).trans rfl
set_option maxRecDepth 100000 in
theorem q_M_bound_1 (d : Nat) (σ : jS) : b_M_bound_1 d σ = (some (some (.int (-1)), σ)) := (db_eq _ _ _ _ _ _ _).trans rfl
set_option maxRecDepth 100000 in
theorem q_M_bound_2 (d : Nat) (l1 : Int32) (l2 : Int32) (l3 : Int32) (σ : jS) : b_M_bound_2 d l1 l2 l3 σ = (b_M_bound_3 d l1 l3 l2 0 σ) := (db_eq _ _ _ _ _ _ _).trans rfl
set_option maxRecDepth 100000 in
theorem q_M_bound_3 (d : Nat) (l1 : Int32) (l3 : Int32) (l4 : Int32) (l5 : Int32) (σ : jS) : b_M_bound_3 d l1 l3 l4 l5 σ = (jif (l1 ≤ l5) (b_M_bound_6 d l4 σ) (jif (l3 = 0) (b_M_bound_5 d l1 l3 l5 ((l4 + 1) / 2) σ) (b_M_bound_4 d l1 l3 l4 l5 σ))) := (db_eq _ _ _ _ _ _ _).trans rfl
set_option maxRecDepth 100000 in
theorem q_M_bound_4 (d : Nat) (l1 : Int32) (l3 : Int32) (l4 : Int32) (l5 : Int32) (σ : jS) : b_M_bound_4 d l1 l3 l4 l5 σ = (b_M_bound_5 d l1 l3 l5 (l4 / 2) σ) := (db_eq _ _ _ _ _ _ _).trans rfl
set_option maxRecDepth 100000 in
theorem q_M_bound_5 (d : Nat) (l1 : Int32) (l3 : Int32) (l5 : Int32) (s0 : Int32) (σ : jS) : b_M_bound_5 d l1 l3 l5 s0 σ = (b_M_bound_3 d l1 l3 s0 (l5 + 1) σ) := (db_eq _ _ _ _ _ _ _).trans rfl
set_option maxRecDepth 100000 in
theorem q_M_bound_6 (d : Nat) (l4 : Int32) (σ : jS) : b_M_bound_6 d l4 σ = (some (some (.int l4), σ)) := (db_eq _ _ _ _ _ _ _).trans rfl
noncomputable def b_M_gains_0 (d : Nat) (l1 : Int32) (l2 : Int64) (l4 : Int32) (l5 : Int32) (l6 : Int32) (σ : jS) : jR := db (jd jMT d) 1 k_M_gains 0 [(0, .ref 86), (1, .int l1), (2, .long l2), (4, .int l4), (5, .int l5), (6, .int l6)] [] σ
noncomputable def b_M_gains_1 (d : Nat) (σ : jS) : jR := db (jd jMT d) 1 k_M_gains 1 [] [] σ
noncomputable def b_M_gains_2 (d : Nat) (l1 : Int32) (l4 : Int32) (l5 : Int32) (l6 : Int32) (σ : jS) : jR := db (jd jMT d) 1 k_M_gains 2 [(0, .ref 86), (1, .int l1), (4, .int l4), (5, .int l5), (6, .int l6)] [] σ
noncomputable def b_M_gains_3 (d : Nat) (l1 : Int32) (l4 : Int32) (l5 : Int32) (l6 : Int32) (l7 : Int32) (l8 : Int32) (σ : jS) : jR := db (jd jMT d) 1 k_M_gains 3 [(0, .ref 86), (1, .int l1), (4, .int l4), (5, .int l5), (6, .int l6), (7, .int l7), (8, .int l8)] [] σ
noncomputable def b_M_gains_4 (d : Nat) (l1 : Int32) (l4 : Int32) (l5 : Int32) (l6 : Int32) (l8 : Int32) (s0 : Int32) (σ : jS) : jR := db (jd jMT d) 1 k_M_gains 4 [(0, .ref 86), (1, .int l1), (4, .int l4), (5, .int l5), (6, .int l6), (8, .int l8)] [.int s0] σ
noncomputable def b_M_gains_5 (d : Nat) (l1 : Int32) (l4 : Int32) (l5 : Int32) (l6 : Int32) (l8 : Int32) (s0 : Int32) (s1 : Int32) (σ : jS) : jR := db (jd jMT d) 1 k_M_gains 5 [(0, .ref 86), (1, .int l1), (4, .int l4), (5, .int l5), (6, .int l6), (8, .int l8)] [.int s1, .int s0] σ
noncomputable def b_M_gains_6 (d : Nat) (l4 : Int32) (l5 : Int32) (l6 : Int32) (l7 : Int32) (σ : jS) : jR := db (jd jMT d) 1 k_M_gains 6 [(0, .ref 86), (4, .int l4), (5, .int l5), (6, .int l6), (7, .int l7)] [] σ
noncomputable def b_M_gains_7 (d : Nat) (l4 : Int32) (l5 : Int32) (l6 : Int32) (σ : jS) : jR := db (jd jMT d) 1 k_M_gains 7 [(0, .ref 86), (4, .int l4), (5, .int l5), (6, .int l6)] [] σ
noncomputable def b_M_gains_8 (d : Nat) (l6 : Int32) (σ : jS) : jR := db (jd jMT d) 1 k_M_gains 8 [(0, .ref 86), (6, .int l6)] [] σ
noncomputable def b_M_gains_9 (d : Nat) (l6 : Int32) (σ : jS) : jR := db (jd jMT d) 1 k_M_gains 9 [(0, .ref 86), (6, .int l6)] [] σ
noncomputable def b_M_gains_10 (d : Nat) (σ : jS) : jR := db (jd jMT d) 1 k_M_gains 10 [(0, .ref 86)] [] σ
noncomputable def b_M_gains_11 (d : Nat) (s0 : Int32) (σ : jS) : jR := db (jd jMT d) 1 k_M_gains 11 [] [.int s0] σ
theorem e_M_gains (d : Nat) (l1 : Int32) (l2 : Int64) (l4 : Int32) (l5 : Int32) (l6 : Int32) (σ : jS) : g_M_gains (d + 1) l1 l2 l4 l5 l6 σ = b_M_gains_0 d l1 l2 l4 l5 l6 σ := rfl
set_option maxRecDepth 100000 in
theorem q_M_gains_0 (d : Nat) (l1 : Int32) (l2 : Int64) (l4 : Int32) (l5 : Int32) (l6 : Int32) (σ : jS) : b_M_gains_0 d l1 l2 l4 l5 l6 σ = ((r_V (g_M_plain d (j_setI σ 86 0 0))).bind fun σ1 => jif (l6 < 0) (b_M_gains_1 d σ1) (jif (3 < l6) (b_M_gains_1 d σ1) ((r_I (g_M_takesSent d l1 l2 l4 σ1)).bind fun q2 => jif (q2.1 = 0) (b_M_gains_1 d q2.2) (b_M_gains_2 d l1 l4 l5 l6 q2.2)))) := (db_eq _ _ _ _ _ _ _).trans rfl
set_option maxRecDepth 100000 in
theorem q_M_gains_1 (d : Nat) (σ : jS) : b_M_gains_1 d σ = (some (some (.int (-1)), σ)) := (db_eq _ _ _ _ _ _ _).trans rfl
set_option maxRecDepth 100000 in
theorem q_M_gains_2 (d : Nat) (l1 : Int32) (l4 : Int32) (l5 : Int32) (l6 : Int32) (σ : jS) : b_M_gains_2 d l1 l4 l5 l6 σ = (b_M_gains_3 d l1 l4 l5 l6 0 1 σ) := (db_eq _ _ _ _ _ _ _).trans rfl
set_option maxRecDepth 100000 in
theorem q_M_gains_3 (d : Nat) (l1 : Int32) (l4 : Int32) (l5 : Int32) (l6 : Int32) (l7 : Int32) (l8 : Int32) (σ : jS) : b_M_gains_3 d l1 l4 l5 l6 l7 l8 σ = (jif ((l1 - 1) ≤ l8) (b_M_gains_6 d l4 l5 l6 l7 σ) ((j_rdI 0 σ 114 l8).bind fun x1 => jif (x1 = l5) (b_M_gains_5 d l1 l4 l5 l6 l8 l7 1 σ) (b_M_gains_4 d l1 l4 l5 l6 l8 l7 σ))) := (db_eq _ _ _ _ _ _ _).trans rfl
set_option maxRecDepth 100000 in
theorem q_M_gains_4 (d : Nat) (l1 : Int32) (l4 : Int32) (l5 : Int32) (l6 : Int32) (l8 : Int32) (s0 : Int32) (σ : jS) : b_M_gains_4 d l1 l4 l5 l6 l8 s0 σ = (b_M_gains_5 d l1 l4 l5 l6 l8 s0 0 σ) := (db_eq _ _ _ _ _ _ _).trans rfl
set_option maxRecDepth 100000 in
theorem q_M_gains_5 (d : Nat) (l1 : Int32) (l4 : Int32) (l5 : Int32) (l6 : Int32) (l8 : Int32) (s0 : Int32) (s1 : Int32) (σ : jS) : b_M_gains_5 d l1 l4 l5 l6 l8 s0 s1 σ = (b_M_gains_3 d l1 l4 l5 l6 (s0 ||| s1) (l8 + 1) σ) := (db_eq _ _ _ _ _ _ _).trans rfl
set_option maxRecDepth 100000 in
theorem q_M_gains_6 (d : Nat) (l4 : Int32) (l5 : Int32) (l6 : Int32) (l7 : Int32) (σ : jS) : b_M_gains_6 d l4 l5 l6 l7 σ = (jif (l7 = 0) (some (some (.int (-1)), σ)) (b_M_gains_7 d l4 l5 l6 σ)) := (db_eq _ _ _ _ _ _ _).trans rfl
set_option maxRecDepth 100000 in
theorem q_M_gains_7 (d : Nat) (l4 : Int32) (l5 : Int32) (l6 : Int32) (σ : jS) : b_M_gains_7 d l4 l5 l6 σ = ((r_V (g_M_goesThrough d l4 (-1) 1 l5 σ)).bind fun σ1 => jif (l6 = 0) (b_M_gains_11 d (σ1.1 86 59) σ1) (b_M_gains_8 d l6 σ1)) := (db_eq _ _ _ _ _ _ _).trans rfl
set_option maxRecDepth 100000 in
theorem q_M_gains_8 (d : Nat) (l6 : Int32) (σ : jS) : b_M_gains_8 d l6 σ = (jif (l6 = 1) (b_M_gains_11 d (σ.1 86 61) σ) (b_M_gains_9 d l6 σ)) := (db_eq _ _ _ _ _ _ _).trans rfl
set_option maxRecDepth 100000 in
theorem q_M_gains_9 (d : Nat) (l6 : Int32) (σ : jS) : b_M_gains_9 d l6 σ = (jif (l6 = 2) (b_M_gains_11 d (σ.1 86 60) σ) (b_M_gains_10 d σ)) := (db_eq _ _ _ _ _ _ _).trans rfl
set_option maxRecDepth 100000 in
theorem q_M_gains_10 (d : Nat) (σ : jS) : b_M_gains_10 d σ = (b_M_gains_11 d (σ.1 86 62) σ) := (db_eq _ _ _ _ _ _ _).trans rfl
set_option maxRecDepth 100000 in
theorem q_M_gains_11 (d : Nat) (s0 : Int32) (σ : jS) : b_M_gains_11 d s0 σ = (some (some (.int s0), σ)) := (db_eq _ _ _ _ _ _ _).trans rfl
noncomputable def b_M_changes_0 (d : Nat) (l1 : Int32) (l2 : Int64) (l4 : Int32) (l5 : Int32) (σ : jS) : jR := db (jd jMT d) 1 k_M_changes 0 [(0, .ref 86), (1, .int l1), (2, .long l2), (4, .int l4), (5, .int l5)] [] σ
noncomputable def b_M_changes_1 (d : Nat) (σ : jS) : jR := db (jd jMT d) 1 k_M_changes 1 [(0, .ref 86)] [] σ
noncomputable def b_M_changes_2 (d : Nat) (σ : jS) : jR := db (jd jMT d) 1 k_M_changes 2 [(0, .ref 86)] [] σ
noncomputable def b_M_changes_3 (d : Nat) (s0 : Int32) (σ : jS) : jR := db (jd jMT d) 1 k_M_changes 3 [] [.int s0] σ
theorem e_M_changes (d : Nat) (l1 : Int32) (l2 : Int64) (l4 : Int32) (l5 : Int32) (σ : jS) : g_M_changes (d + 1) l1 l2 l4 l5 σ = b_M_changes_0 d l1 l2 l4 l5 σ := rfl
set_option maxRecDepth 100000 in
theorem q_M_changes_0 (d : Nat) (l1 : Int32) (l2 : Int64) (l4 : Int32) (l5 : Int32) (σ : jS) : b_M_changes_0 d l1 l2 l4 l5 σ = ((r_I (g_M_isAimed d l1 l2 l4 l5 (j_setI σ 86 0 0))).bind fun q1 => jif (q1.1 = 0) (b_M_changes_3 d (-1) q1.2) (b_M_changes_1 d q1.2)) := (db_eq _ _ _ _ _ _ _).trans rfl
set_option maxRecDepth 100000 in
theorem q_M_changes_1 (d : Nat) (σ : jS) : b_M_changes_1 d σ = (jif ((σ.1 86 67) = (-1)) (b_M_changes_3 d (-2) σ) (b_M_changes_2 d σ)) := (db_eq _ _ _ _ _ _ _).trans rfl
set_option maxRecDepth 100000 in
theorem q_M_changes_2 (d : Nat) (σ : jS) : b_M_changes_2 d σ = (b_M_changes_3 d (σ.1 86 67) σ) := (db_eq _ _ _ _ _ _ _).trans rfl
set_option maxRecDepth 100000 in
theorem q_M_changes_3 (d : Nat) (s0 : Int32) (σ : jS) : b_M_changes_3 d s0 σ = (some (some (.int s0), σ)) := (db_eq _ _ _ _ _ _ _).trans rfl
noncomputable def b_M_changed_0 (d : Nat) (l1 : Int32) (l2 : Int64) (l4 : Int32) (l5 : Int32) (σ : jS) : jR := db (jd jMT d) 3 k_M_changed 0 [(0, .ref 86), (1, .int l1), (2, .long l2), (4, .int l4), (5, .int l5)] [] σ
noncomputable def b_M_changed_1 (d : Nat) (σ : jS) : jR := db (jd jMT d) 3 k_M_changed 1 [(0, .ref 86)] [] σ
noncomputable def b_M_changed_2 (d : Nat) (σ : jS) : jR := db (jd jMT d) 3 k_M_changed 2 [(0, .ref 86)] [] σ
noncomputable def b_M_changed_3 (d : Nat) (s0 : Int64) (σ : jS) : jR := db (jd jMT d) 3 k_M_changed 3 [] [.long s0] σ
theorem e_M_changed (d : Nat) (l1 : Int32) (l2 : Int64) (l4 : Int32) (l5 : Int32) (σ : jS) : g_M_changed (d + 1) l1 l2 l4 l5 σ = b_M_changed_0 d l1 l2 l4 l5 σ := rfl
set_option maxRecDepth 100000 in
theorem q_M_changed_0 (d : Nat) (l1 : Int32) (l2 : Int64) (l4 : Int32) (l5 : Int32) (σ : jS) : b_M_changed_0 d l1 l2 l4 l5 σ = ((r_I (g_M_isAimed d l1 l2 l4 l5 (j_setI σ 86 0 0))).bind fun q1 => jif (q1.1 = 0) (b_M_changed_3 d (-1) q1.2) (b_M_changed_1 d q1.2)) := (db_eq _ _ _ _ _ _ _).trans rfl
set_option maxRecDepth 100000 in
theorem q_M_changed_1 (d : Nat) (σ : jS) : b_M_changed_1 d σ = (jif ((σ.1 86 67) = (-1)) (b_M_changed_3 d (-2) σ) (b_M_changed_2 d σ)) := (db_eq _ _ _ _ _ _ _).trans rfl
set_option maxRecDepth 100000 in
theorem q_M_changed_2 (d : Nat) (σ : jS) : b_M_changed_2 d σ = (b_M_changed_3 d (σ.2.1 86 68) σ) := (db_eq _ _ _ _ _ _ _).trans rfl
set_option maxRecDepth 100000 in
theorem q_M_changed_3 (d : Nat) (s0 : Int64) (σ : jS) : b_M_changed_3 d s0 σ = (some (some (.long s0), σ)) := (db_eq _ _ _ _ _ _ _).trans rfl
noncomputable def b_M_worth_0 (d : Nat) (l1 : Int32) (l2 : Int64) (l4 : Int32) (l5 : Int32) (σ : jS) : jR := db (jd jMT d) 1 k_M_worth 0 [(0, .ref 86), (1, .int l1), (2, .long l2), (4, .int l4), (5, .int l5)] [] σ
noncomputable def b_M_worth_1 (d : Nat) (σ : jS) : jR := db (jd jMT d) 1 k_M_worth 1 [] [] σ
noncomputable def b_M_worth_2 (d : Nat) (l4 : Int32) (l5 : Int32) (σ : jS) : jR := db (jd jMT d) 1 k_M_worth 2 [(0, .ref 86), (4, .int l4), (5, .int l5)] [] σ
theorem e_M_worth (d : Nat) (l1 : Int32) (l2 : Int64) (l4 : Int32) (l5 : Int32) (σ : jS) : g_M_worth (d + 1) l1 l2 l4 l5 σ = b_M_worth_0 d l1 l2 l4 l5 σ := rfl
set_option maxRecDepth 100000 in
theorem q_M_worth_0 (d : Nat) (l1 : Int32) (l2 : Int64) (l4 : Int32) (l5 : Int32) (σ : jS) : b_M_worth_0 d l1 l2 l4 l5 σ = ((r_V (g_M_plain d (j_setI σ 86 0 0))).bind fun σ1 => (r_I (g_M_takesSent d l1 l2 l4 σ1)).bind fun q2 => jif (q2.1 = 0) (b_M_worth_1 d q2.2) (jif (l5 < 1) (b_M_worth_1 d q2.2) (jif (l5 ≤ (l1 - 3)) (b_M_worth_2 d l4 l5 q2.2) (b_M_worth_1 d q2.2)))) := (db_eq _ _ _ _ _ _ _).trans rfl
set_option maxRecDepth 100000 in
theorem q_M_worth_1 (d : Nat) (σ : jS) : b_M_worth_1 d σ = (some (some (.int (-2147483648)), σ)) := (db_eq _ _ _ _ _ _ _).trans rfl
set_option maxRecDepth 100000 in
theorem q_M_worth_2 (d : Nat) (l4 : Int32) (l5 : Int32) (σ : jS) : b_M_worth_2 d l4 l5 σ = ((r_I (g_M_sends d l4 σ)).bind fun q1 => (j_rdI 0 q1.2 114 l5).bind fun x2 => (j_rdI 0 q1.2 114 (l5 + 1)).bind fun x3 => (j_wrI q1.2 114 l5 x3).bind fun σ4 => (j_wrI σ4 114 (l5 + 1) x2).bind fun σ5 => (r_I (g_M_sends d l4 σ5)).bind fun q6 => some (some (.int (q6.1 - q1.1)), q6.2)) := (db_eq _ _ _ _ _ _ _).trans rfl
noncomputable def b_M_serves_0 (d : Nat) (l1 : Int32) (l2 : Int64) (l4 : Int32) (σ : jS) : jR := db (jd jMT d) 1 k_M_serves 0 [(0, .ref 86), (1, .int l1), (2, .long l2), (4, .int l4)] [] σ
noncomputable def b_M_serves_1 (d : Nat) (σ : jS) : jR := db (jd jMT d) 1 k_M_serves 1 [] [] σ
noncomputable def b_M_serves_2 (d : Nat) (l4 : Int32) (σ : jS) : jR := db (jd jMT d) 1 k_M_serves 2 [(0, .ref 86), (4, .int l4)] [] σ
noncomputable def b_M_serves_3 (d : Nat) (l4 : Int32) (l5 : Int32) (σ : jS) : jR := db (jd jMT d) 1 k_M_serves 3 [(0, .ref 86), (4, .int l4), (5, .int l5)] [] σ
noncomputable def b_M_serves_4 (d : Nat) (l4 : Int32) (l5 : Int32) (σ : jS) : jR := db (jd jMT d) 1 k_M_serves 4 [(0, .ref 86), (4, .int l4), (5, .int l5)] [] σ
noncomputable def b_M_serves_5 (d : Nat) (σ : jS) : jR := db (jd jMT d) 1 k_M_serves 5 [] [] σ
theorem e_M_serves (d : Nat) (l1 : Int32) (l2 : Int64) (l4 : Int32) (σ : jS) : g_M_serves (d + 1) l1 l2 l4 σ = b_M_serves_0 d l1 l2 l4 σ := rfl
set_option maxRecDepth 100000 in
theorem q_M_serves_0 (d : Nat) (l1 : Int32) (l2 : Int64) (l4 : Int32) (σ : jS) : b_M_serves_0 d l1 l2 l4 σ = ((r_V (g_M_plain d (j_setI σ 86 0 0))).bind fun σ1 => jif (l4 < 1) (b_M_serves_1 d σ1) (jif (50 < l4) (b_M_serves_1 d σ1) ((r_I (g_M_takes d l1 l2 σ1)).bind fun q2 => jif (q2.1 = 0) (b_M_serves_1 d q2.2) (b_M_serves_2 d l4 q2.2)))) := (db_eq _ _ _ _ _ _ _).trans rfl
set_option maxRecDepth 100000 in
theorem q_M_serves_1 (d : Nat) (σ : jS) : b_M_serves_1 d σ = (some (some (.int (-1)), σ)) := (db_eq _ _ _ _ _ _ _).trans rfl
set_option maxRecDepth 100000 in
theorem q_M_serves_2 (d : Nat) (l4 : Int32) (σ : jS) : b_M_serves_2 d l4 σ = (b_M_serves_3 d l4 1 σ) := (db_eq _ _ _ _ _ _ _).trans rfl
set_option maxRecDepth 100000 in
theorem q_M_serves_3 (d : Nat) (l4 : Int32) (l5 : Int32) (σ : jS) : b_M_serves_3 d l4 l5 σ = (jif (l4 < l5) (b_M_serves_5 d σ) ((r_V (g_M_goesThrough d l5 (-1) 0 (-1) σ)).bind fun σ1 => (r_I (g_M_sends d l5 σ1)).bind fun q2 => jif ((σ1.1 86 59) ≤ q2.1) (b_M_serves_4 d l4 l5 q2.2) (some (some (.int l5), q2.2)))) := (db_eq _ _ _ _ _ _ _).trans rfl
set_option maxRecDepth 100000 in
theorem q_M_serves_4 (d : Nat) (l4 : Int32) (l5 : Int32) (σ : jS) : b_M_serves_4 d l4 l5 σ = (b_M_serves_3 d l4 (l5 + 1) σ) := (db_eq _ _ _ _ _ _ _).trans rfl
set_option maxRecDepth 100000 in
theorem q_M_serves_5 (d : Nat) (σ : jS) : b_M_serves_5 d σ = (some (some (.int 0), σ)) := (db_eq _ _ _ _ _ _ _).trans rfl
noncomputable def b_M_note_0 (d : Nat) (l1 : Int32) (l2 : Int64) (l4 : Int32) (l5 : Int32) (l6 : Int32) (σ : jS) : jR := db (jd jMT d) 1 k_M_note 0 [(0, .ref 86), (1, .int l1), (2, .long l2), (4, .int l4), (5, .int l5), (6, .int l6)] [] σ
noncomputable def b_M_note_1 (d : Nat) (σ : jS) : jR := db (jd jMT d) 1 k_M_note 1 [] [] σ
noncomputable def b_M_note_2 (d : Nat) (l1 : Int32) (l2 : Int64) (l4 : Int32) (l5 : Int32) (l6 : Int32) (σ : jS) : jR := db (jd jMT d) 1 k_M_note 2 [(0, .ref 86), (1, .int l1), (2, .long l2), (4, .int l4), (5, .int l5), (6, .int l6)] [] σ
theorem e_M_note (d : Nat) (l1 : Int32) (l2 : Int64) (l4 : Int32) (l5 : Int32) (l6 : Int32) (σ : jS) : g_M_note (d + 1) l1 l2 l4 l5 l6 σ = b_M_note_0 d l1 l2 l4 l5 l6 σ := rfl
set_option maxRecDepth 100000 in
theorem q_M_note_0 (d : Nat) (l1 : Int32) (l2 : Int64) (l4 : Int32) (l5 : Int32) (l6 : Int32) (σ : jS) : b_M_note_0 d l1 l2 l4 l5 l6 σ = ((r_I (g_M_takesSent d l1 l2 l4 (j_setI σ 86 0 0))).bind fun q1 => jif (q1.1 = 0) (b_M_note_1 d q1.2) (jif (l5 < 0) (b_M_note_1 d q1.2) (jif (l6 < l5) (b_M_note_1 d q1.2) (jif (999999 < l6) (b_M_note_1 d q1.2) (jif ((q1.2.1 86 69) = 40) (b_M_note_1 d q1.2) (b_M_note_2 d l1 l2 l4 l5 l6 q1.2)))))) := (db_eq _ _ _ _ _ _ _).trans rfl
set_option maxRecDepth 100000 in
theorem q_M_note_1 (d : Nat) (σ : jS) : b_M_note_1 d σ = (some (some (.int (-1)), σ)) := (db_eq _ _ _ _ _ _ _).trans rfl
set_option maxRecDepth 100000 in
theorem q_M_note_2 (d : Nat) (l1 : Int32) (l2 : Int64) (l4 : Int32) (l5 : Int32) (l6 : Int32) (σ : jS) : b_M_note_2 d l1 l2 l4 l5 l6 σ = ((j_wrI σ 117 (σ.1 86 69) l1).bind fun σ1 => (j_wrL σ1 118 (σ1.1 86 69) l2).bind fun σ2 => (j_wrI σ2 119 (σ2.1 86 69) l4).bind fun σ3 => (j_wrI σ3 120 (σ3.1 86 69) l5).bind fun σ4 => (j_wrI σ4 121 (σ4.1 86 69) l6).bind fun σ5 => some (some (.int (((j_setI σ5 86 69 ((σ5.1 86 69) + 1)).1 86 69) - 1)), (j_setI σ5 86 69 ((σ5.1 86 69) + 1)))) := (db_eq _ _ _ _ _ _ _).trans rfl
noncomputable def b_M_strike_0 (d : Nat) (l1 : Int32) (σ : jS) : jR := db (jd jMT d) 1 k_M_strike 0 [(0, .ref 86), (1, .int l1)] [] σ
noncomputable def b_M_strike_1 (d : Nat) (σ : jS) : jR := db (jd jMT d) 1 k_M_strike 1 [] [] σ
noncomputable def b_M_strike_2 (d : Nat) (l1 : Int32) (σ : jS) : jR := db (jd jMT d) 1 k_M_strike 2 [(0, .ref 86), (1, .int l1)] [] σ
theorem e_M_strike (d : Nat) (l1 : Int32) (σ : jS) : g_M_strike (d + 1) l1 σ = b_M_strike_0 d l1 σ := rfl
set_option maxRecDepth 100000 in
theorem q_M_strike_0 (d : Nat) (l1 : Int32) (σ : jS) : b_M_strike_0 d l1 σ = (jif (l1 < 0) (b_M_strike_1 d (j_setI σ 86 0 0)) (jif (((j_setI σ 86 0 0).1 86 69) ≤ l1) (b_M_strike_1 d (j_setI σ 86 0 0)) (jif (((j_setI σ 86 0 0).1 86 69) = 40) (b_M_strike_1 d (j_setI σ 86 0 0)) (b_M_strike_2 d l1 (j_setI σ 86 0 0))))) := (db_eq _ _ _ _ _ _ _).trans rfl
set_option maxRecDepth 100000 in
theorem q_M_strike_1 (d : Nat) (σ : jS) : b_M_strike_1 d σ = (some (some (.int (-1)), σ)) := (db_eq _ _ _ _ _ _ _).trans rfl
set_option maxRecDepth 100000 in
theorem q_M_strike_2 (d : Nat) (l1 : Int32) (σ : jS) : b_M_strike_2 d l1 σ = ((j_wrI σ 117 (σ.1 86 69) (-1)).bind fun σ1 => (j_wrI σ1 119 (σ1.1 86 69) l1).bind fun σ2 => some (some (.int (((j_setI σ2 86 69 ((σ2.1 86 69) + 1)).1 86 69) - 1)), (j_setI σ2 86 69 ((σ2.1 86 69) + 1)))) := (db_eq _ _ _ _ _ _ _).trans rfl
noncomputable def b_M_known_0 (d : Nat) (l1 : Int32) (σ : jS) : jR := db (jd jMT d) 2 k_M_known 0 [(0, .ref 86), (1, .int l1)] [] σ
noncomputable def b_M_known_1 (d : Nat) (σ : jS) : jR := db (jd jMT d) 2 k_M_known 1 [] [] σ
noncomputable def b_M_known_2 (d : Nat) (l1 : Int32) (σ : jS) : jR := db (jd jMT d) 2 k_M_known 2 [(0, .ref 86), (1, .int l1)] [] σ
theorem e_M_known (d : Nat) (l1 : Int32) (σ : jS) : g_M_known (d + 1) l1 σ = b_M_known_0 d l1 σ := rfl
set_option maxRecDepth 100000 in
theorem q_M_known_0 (d : Nat) (l1 : Int32) (σ : jS) : b_M_known_0 d l1 σ = (jif (l1 < (-1)) (b_M_known_1 d (j_setI σ 86 0 0)) (jif (l1 ≤ ((j_setI σ 86 0 0).1 86 69)) (b_M_known_2 d l1 (j_setI σ 86 0 0)) (b_M_known_1 d (j_setI σ 86 0 0)))) := (db_eq _ _ _ _ _ _ _).trans rfl
set_option maxRecDepth 100000 in
theorem q_M_known_1 (d : Nat) (σ : jS) : b_M_known_1 d σ = (some (some (.int 0), σ)) := (db_eq _ _ _ _ _ _ _).trans rfl
set_option maxRecDepth 100000 in
theorem q_M_known_2 (d : Nat) (l1 : Int32) (σ : jS) : b_M_known_2 d l1 σ = (some (some (.int 1), (j_setI σ 86 70 l1))) := (db_eq _ _ _ _ _ _ _).trans rfl
noncomputable def b_M_knownMany_0 (d : Nat) (σ : jS) : jR := db (jd jMT d) 1 k_M_knownMany 0 [(0, .ref 86)] [] σ
noncomputable def b_M_knownMany_1 (d : Nat) (σ : jS) : jR := db (jd jMT d) 1 k_M_knownMany 1 [(0, .ref 86)] [] σ
noncomputable def b_M_knownMany_2 (d : Nat) (s0 : Int32) (σ : jS) : jR := db (jd jMT d) 1 k_M_knownMany 2 [] [.int s0] σ
theorem e_M_knownMany (d : Nat) (σ : jS) : g_M_knownMany (d + 1) σ = b_M_knownMany_0 d σ := rfl
set_option maxRecDepth 100000 in
theorem q_M_knownMany_0 (d : Nat) (σ : jS) : b_M_knownMany_0 d σ = (jif ((σ.1 86 70) = (-1)) (b_M_knownMany_2 d (σ.1 86 69) σ) (b_M_knownMany_1 d σ)) := (db_eq _ _ _ _ _ _ _).trans rfl
set_option maxRecDepth 100000 in
theorem q_M_knownMany_1 (d : Nat) (σ : jS) : b_M_knownMany_1 d σ = (b_M_knownMany_2 d (σ.1 86 70) σ) := (db_eq _ _ _ _ _ _ _).trans rfl
set_option maxRecDepth 100000 in
theorem q_M_knownMany_2 (d : Nat) (s0 : Int32) (σ : jS) : b_M_knownMany_2 d s0 σ = (some (some (.int s0), σ)) := (db_eq _ _ _ _ _ _ _).trans rfl
noncomputable def b_M_goesAsNoted_0 (d : Nat) (σ : jS) : jR := db (jd jMT d) 2 k_M_goesAsNoted 0 [(0, .ref 86)] [] σ
noncomputable def b_M_goesAsNoted_1 (d : Nat) (l1 : Int32) (σ : jS) : jR := db (jd jMT d) 2 k_M_goesAsNoted 1 [(0, .ref 86), (1, .int l1)] [] σ
noncomputable def b_M_goesAsNoted_2 (d : Nat) (l1 : Int32) (σ : jS) : jR := db (jd jMT d) 2 k_M_goesAsNoted 2 [(0, .ref 86), (1, .int l1)] [] σ
noncomputable def b_M_goesAsNoted_3 (d : Nat) (σ : jS) : jR := db (jd jMT d) 2 k_M_goesAsNoted 3 [] [] σ
noncomputable def b_M_goesAsNoted_4 (d : Nat) (l1 : Int32) (σ : jS) : jR := db (jd jMT d) 2 k_M_goesAsNoted 4 [(0, .ref 86), (1, .int l1)] [] σ
noncomputable def b_M_goesAsNoted_5 (d : Nat) (σ : jS) : jR := db (jd jMT d) 2 k_M_goesAsNoted 5 [] [] σ
theorem e_M_goesAsNoted (d : Nat) (σ : jS) : g_M_goesAsNoted (d + 1) σ = b_M_goesAsNoted_0 d σ := rfl
set_option maxRecDepth 100000 in
theorem q_M_goesAsNoted_0 (d : Nat) (σ : jS) : b_M_goesAsNoted_0 d σ = (b_M_goesAsNoted_1 d 0 σ) := (db_eq _ _ _ _ _ _ _).trans rfl
set_option maxRecDepth 100000 in
theorem q_M_goesAsNoted_1 (d : Nat) (l1 : Int32) (σ : jS) : b_M_goesAsNoted_1 d l1 σ = ((r_I (g_M_knownMany d σ)).bind fun q1 => jif (q1.1 ≤ l1) (b_M_goesAsNoted_5 d q1.2) ((j_rdI 0 q1.2 117 l1).bind fun x2 => jif (x2 = (-1)) (b_M_goesAsNoted_4 d l1 q1.2) ((j_rdI 1 q1.2 122 l1).bind fun x3 => jif (x3 = 0) (b_M_goesAsNoted_2 d l1 q1.2) (b_M_goesAsNoted_4 d l1 q1.2)))) := (db_eq _ _ _ _ _ _ _).trans rfl
set_option maxRecDepth 100000 in
theorem q_M_goesAsNoted_2 (d : Nat) (l1 : Int32) (σ : jS) : b_M_goesAsNoted_2 d l1 σ = ((j_rdI 0 σ 117 l1).bind fun x1 => (j_rdL σ 118 l1).bind fun x2 => (r_I (g_M_takes d x1 x2 σ)).bind fun q3 => (j_rdI 0 q3.2 119 l1).bind fun x4 => (r_I (g_M_sends d x4 q3.2)).bind fun q5 => (j_rdI 0 q5.2 120 l1).bind fun x6 => jif (q5.1 < x6) (b_M_goesAsNoted_3 d q5.2) ((j_rdI 0 q5.2 121 l1).bind fun x7 => jif (q5.1 ≤ x7) (b_M_goesAsNoted_4 d l1 q5.2) (b_M_goesAsNoted_3 d q5.2))) := (db_eq _ _ _ _ _ _ _).trans rfl
set_option maxRecDepth 100000 in
theorem q_M_goesAsNoted_3 (d : Nat) (σ : jS) : b_M_goesAsNoted_3 d σ = (some (some (.int 0), σ)) := (db_eq _ _ _ _ _ _ _).trans rfl
set_option maxRecDepth 100000 in
theorem q_M_goesAsNoted_4 (d : Nat) (l1 : Int32) (σ : jS) : b_M_goesAsNoted_4 d l1 σ = (b_M_goesAsNoted_1 d (l1 + 1) σ) := (db_eq _ _ _ _ _ _ _).trans rfl
set_option maxRecDepth 100000 in
theorem q_M_goesAsNoted_5 (d : Nat) (σ : jS) : b_M_goesAsNoted_5 d σ = (some (some (.int 1), σ)) := (db_eq _ _ _ _ _ _ _).trans rfl
noncomputable def b_M_lawOf_0 (d : Nat) (l1 : Int32) (σ : jS) : jR := db (jd jMT d) 1 k_M_lawOf 0 [(0, .ref 86), (1, .int l1)] [] σ
noncomputable def b_M_lawOf_1 (d : Nat) (σ : jS) : jR := db (jd jMT d) 1 k_M_lawOf 1 [] [] σ
noncomputable def b_M_lawOf_2 (d : Nat) (s0 : Int32) (σ : jS) : jR := db (jd jMT d) 1 k_M_lawOf 2 [] [.int s0] σ
theorem e_M_lawOf (d : Nat) (l1 : Int32) (σ : jS) : g_M_lawOf (d + 1) l1 σ = b_M_lawOf_0 d l1 σ := rfl
set_option maxRecDepth 100000 in
theorem q_M_lawOf_0 (d : Nat) (l1 : Int32) (σ : jS) : b_M_lawOf_0 d l1 σ = ((j_rdI 0 σ 88 2).bind fun x1 => jif (x1 ≤ l1) (b_M_lawOf_1 d σ) (b_M_lawOf_2 d (1 + l1) σ)) := (db_eq _ _ _ _ _ _ _).trans rfl
set_option maxRecDepth 100000 in
theorem q_M_lawOf_1 (d : Nat) (σ : jS) : b_M_lawOf_1 d σ = (b_M_lawOf_2 d 0 σ) := (db_eq _ _ _ _ _ _ _).trans rfl
set_option maxRecDepth 100000 in
theorem q_M_lawOf_2 (d : Nat) (s0 : Int32) (σ : jS) : b_M_lawOf_2 d s0 σ = (some (some (.int s0), σ)) := (db_eq _ _ _ _ _ _ _).trans rfl
noncomputable def b_M_fits_0 (d : Nat) (σ : jS) : jR := db (jd jMT d) 1 k_M_fits 0 [(0, .ref 86)] [] σ
noncomputable def b_M_fits_1 (d : Nat) (l1 : Int32) (σ : jS) : jR := db (jd jMT d) 1 k_M_fits 1 [(0, .ref 86), (1, .int l1)] [] σ
noncomputable def b_M_fits_2 (d : Nat) (σ : jS) : jR := db (jd jMT d) 1 k_M_fits 2 [(0, .ref 86)] [] σ
noncomputable def b_M_fits_3 (d : Nat) (l1 : Int32) (σ : jS) : jR := db (jd jMT d) 1 k_M_fits 3 [(0, .ref 86), (1, .int l1)] [] σ
noncomputable def b_M_fits_4 (d : Nat) (l1 : Int32) (σ : jS) : jR := db (jd jMT d) 1 k_M_fits 4 [(0, .ref 86), (1, .int l1)] [] σ
noncomputable def b_M_fits_5 (d : Nat) (σ : jS) : jR := db (jd jMT d) 1 k_M_fits 5 [(0, .ref 86)] [] σ
noncomputable def b_M_fits_6 (d : Nat) (l1 : Int32) (l2 : Int32) (σ : jS) : jR := db (jd jMT d) 1 k_M_fits 6 [(0, .ref 86), (1, .int l1), (2, .int l2)] [] σ
noncomputable def b_M_fits_7 (d : Nat) (l1 : Int32) (l2 : Int32) (σ : jS) : jR := db (jd jMT d) 1 k_M_fits 7 [(0, .ref 86), (1, .int l1), (2, .int l2)] [] σ
noncomputable def b_M_fits_8 (d : Nat) (l1 : Int32) (σ : jS) : jR := db (jd jMT d) 1 k_M_fits 8 [(1, .int l1)] [] σ
theorem e_M_fits (d : Nat) (σ : jS) : g_M_fits (d + 1) σ = b_M_fits_0 d σ := rfl
set_option maxRecDepth 100000 in
theorem q_M_fits_0 (d : Nat) (σ : jS) : b_M_fits_0 d σ = ((r_V (g_M_plain d (j_setI σ 86 0 0))).bind fun σ1 => b_M_fits_1 d 0 σ1) := (db_eq _ _ _ _ _ _ _).trans rfl
set_option maxRecDepth 100000 in
theorem q_M_fits_1 (d : Nat) (l1 : Int32) (σ : jS) : b_M_fits_1 d l1 σ = ((r_I (g_M_knownMany d σ)).bind fun q1 => jif (q1.1 ≤ l1) (b_M_fits_2 d q1.2) ((j_wrZ q1.2 122 l1 0).bind fun σ2 => b_M_fits_1 d (l1 + 1) σ2)) := (db_eq _ _ _ _ _ _ _).trans rfl
set_option maxRecDepth 100000 in
theorem q_M_fits_2 (d : Nat) (σ : jS) : b_M_fits_2 d σ = ((r_I (g_M_knownMany d σ)).bind fun q1 => b_M_fits_3 d (q1.1 - 1) q1.2) := (db_eq _ _ _ _ _ _ _).trans rfl
set_option maxRecDepth 100000 in
theorem q_M_fits_3 (d : Nat) (l1 : Int32) (σ : jS) : b_M_fits_3 d l1 σ = (jif (l1 < 0) (b_M_fits_5 d σ) ((j_rdI 1 σ 122 l1).bind fun x1 => jif (x1 = 0) ((j_rdI 0 σ 117 l1).bind fun x2 => jif (x2 = (-1)) ((j_rdI 0 σ 119 l1).bind fun x3 => (j_wrZ σ 122 x3 1).bind fun σ4 => b_M_fits_4 d l1 σ4) (b_M_fits_4 d l1 σ)) (b_M_fits_4 d l1 σ))) := (db_eq _ _ _ _ _ _ _).trans rfl
set_option maxRecDepth 100000 in
theorem q_M_fits_4 (d : Nat) (l1 : Int32) (σ : jS) : b_M_fits_4 d l1 σ = (b_M_fits_3 d (l1 + (-1)) σ) := (db_eq _ _ _ _ _ _ _).trans rfl
set_option maxRecDepth 100000 in
theorem q_M_fits_5 (d : Nat) (σ : jS) : b_M_fits_5 d σ = (b_M_fits_6 d 0 0 σ) := (db_eq _ _ _ _ _ _ _).trans rfl
set_option maxRecDepth 100000 in
theorem q_M_fits_6 (d : Nat) (l1 : Int32) (l2 : Int32) (σ : jS) : b_M_fits_6 d l1 l2 σ = ((j_rdI 0 σ 88 2).bind fun x1 => jif (x1 < l2) (b_M_fits_8 d l1 σ) ((r_I (g_M_lawOf d l2 σ)).bind fun q2 => (r_I (g_M_goesAsNoted d (j_setI q2.2 86 32 q2.1))).bind fun q3 => jif (q3.1 = 0) (b_M_fits_7 d l1 l2 q3.2) (b_M_fits_7 d (l1 ||| ((1 : Int32) <<< ((l2 : Int32) &&& 31))) l2 q3.2))) := (db_eq _ _ _ _ _ _ _).trans rfl
set_option maxRecDepth 100000 in
theorem q_M_fits_7 (d : Nat) (l1 : Int32) (l2 : Int32) (σ : jS) : b_M_fits_7 d l1 l2 σ = (b_M_fits_6 d l1 (l2 + 1) σ) := (db_eq _ _ _ _ _ _ _).trans rfl
set_option maxRecDepth 100000 in
theorem q_M_fits_8 (d : Nat) (l1 : Int32) (σ : jS) : b_M_fits_8 d l1 σ = (some (some (.int l1), σ)) := (db_eq _ _ _ _ _ _ _).trans rfl
noncomputable def b_M_apart_0 (d : Nat) (l1 : Int32) (l2 : Int64) (l4 : Int32) (l5 : Int32) (σ : jS) : jR := db (jd jMT d) 1 k_M_apart 0 [(0, .ref 86), (1, .int l1), (2, .long l2), (4, .int l4), (5, .int l5)] [] σ
noncomputable def b_M_apart_1 (d : Nat) (σ : jS) : jR := db (jd jMT d) 1 k_M_apart 1 [] [] σ
noncomputable def b_M_apart_2 (d : Nat) (l4 : Int32) (l5 : Int32) (σ : jS) : jR := db (jd jMT d) 1 k_M_apart 2 [(0, .ref 86), (4, .int l4), (5, .int l5)] [] σ
noncomputable def b_M_apart_3 (d : Nat) (l4 : Int32) (l5 : Int32) (l6 : Int32) (σ : jS) : jR := db (jd jMT d) 1 k_M_apart 3 [(0, .ref 86), (4, .int l4), (5, .int l5), (6, .int l6)] [] σ
noncomputable def b_M_apart_4 (d : Nat) (l4 : Int32) (l5 : Int32) (l6 : Int32) (σ : jS) : jR := db (jd jMT d) 1 k_M_apart 4 [(0, .ref 86), (4, .int l4), (5, .int l5), (6, .int l6)] [] σ
noncomputable def b_M_apart_5 (d : Nat) (σ : jS) : jR := db (jd jMT d) 1 k_M_apart 5 [] [] σ
theorem e_M_apart (d : Nat) (l1 : Int32) (l2 : Int64) (l4 : Int32) (l5 : Int32) (σ : jS) : g_M_apart (d + 1) l1 l2 l4 l5 σ = b_M_apart_0 d l1 l2 l4 l5 σ := rfl
set_option maxRecDepth 100000 in
theorem q_M_apart_0 (d : Nat) (l1 : Int32) (l2 : Int64) (l4 : Int32) (l5 : Int32) (σ : jS) : b_M_apart_0 d l1 l2 l4 l5 σ = ((r_V (g_M_plain d (j_setI σ 86 0 0))).bind fun σ1 => jif (l4 < 0) (b_M_apart_1 d σ1) ((j_rdI 0 σ1 88 2).bind fun x2 => jif (x2 < l4) (b_M_apart_1 d σ1) (jif (l5 < 0) (b_M_apart_1 d σ1) ((j_rdI 0 σ1 88 2).bind fun x3 => jif (x3 < l5) (b_M_apart_1 d σ1) ((r_I (g_M_takes d l1 l2 σ1)).bind fun q4 => jif (q4.1 = 0) (b_M_apart_1 d q4.2) (b_M_apart_2 d l4 l5 q4.2)))))) := (db_eq _ _ _ _ _ _ _).trans rfl
set_option maxRecDepth 100000 in
theorem q_M_apart_1 (d : Nat) (σ : jS) : b_M_apart_1 d σ = (some (some (.int (-1)), σ)) := (db_eq _ _ _ _ _ _ _).trans rfl
set_option maxRecDepth 100000 in
theorem q_M_apart_2 (d : Nat) (l4 : Int32) (l5 : Int32) (σ : jS) : b_M_apart_2 d l4 l5 σ = (b_M_apart_3 d l4 l5 1 σ) := (db_eq _ _ _ _ _ _ _).trans rfl
set_option maxRecDepth 100000 in
theorem q_M_apart_3 (d : Nat) (l4 : Int32) (l5 : Int32) (l6 : Int32) (σ : jS) : b_M_apart_3 d l4 l5 l6 σ = (jif (1000 ≤ l6) (b_M_apart_5 d σ) ((r_I (g_M_lawOf d l4 σ)).bind fun q1 => (r_I (g_M_sends d l6 (j_setI q1.2 86 32 q1.1))).bind fun q2 => (r_I (g_M_lawOf d l5 q2.2)).bind fun q3 => (r_I (g_M_sends d l6 (j_setI q3.2 86 32 q3.1))).bind fun q4 => jif (q2.1 = q4.1) (b_M_apart_4 d l4 l5 l6 q4.2) (some (some (.int l6), q4.2)))) := (db_eq _ _ _ _ _ _ _).trans rfl
set_option maxRecDepth 100000 in
theorem q_M_apart_4 (d : Nat) (l4 : Int32) (l5 : Int32) (l6 : Int32) (σ : jS) : b_M_apart_4 d l4 l5 l6 σ = (b_M_apart_3 d l4 l5 (l6 + 1) σ) := (db_eq _ _ _ _ _ _ _).trans rfl
set_option maxRecDepth 100000 in
theorem q_M_apart_5 (d : Nat) (σ : jS) : b_M_apart_5 d σ = (some (some (.int (-2)), σ)) := (db_eq _ _ _ _ _ _ _).trans rfl
noncomputable def b_M_tried_0 (d : Nat) (l1 : Int32) (l2 : Int32) (l3 : Int32) (σ : jS) : jR := db (jd jMT d) 1 k_M_tried 0 [(0, .ref 86), (1, .int l1), (2, .int l2), (3, .int l3)] [] σ
noncomputable def b_M_tried_1 (d : Nat) (l1 : Int32) (l2 : Int32) (l3 : Int32) (σ : jS) : jR := db (jd jMT d) 1 k_M_tried 1 [(0, .ref 86), (1, .int l1), (2, .int l2), (3, .int l3)] [] σ
noncomputable def b_M_tried_2 (d : Nat) (l1 : Int32) (l2 : Int32) (l3 : Int32) (σ : jS) : jR := db (jd jMT d) 1 k_M_tried 2 [(0, .ref 86), (1, .int l1), (2, .int l2), (3, .int l3)] [] σ
noncomputable def b_M_tried_3 (d : Nat) (l1 : Int32) (l2 : Int32) (l3 : Int32) (σ : jS) : jR := db (jd jMT d) 1 k_M_tried 3 [(0, .ref 86), (1, .int l1), (2, .int l2), (3, .int l3)] [] σ
noncomputable def b_M_tried_4 (d : Nat) (l1 : Int32) (l2 : Int32) (l3 : Int32) (σ : jS) : jR := db (jd jMT d) 1 k_M_tried 4 [(0, .ref 86), (1, .int l1), (2, .int l2), (3, .int l3)] [] σ
noncomputable def b_M_tried_5 (d : Nat) (l1 : Int32) (l2 : Int32) (l3 : Int32) (σ : jS) : jR := db (jd jMT d) 1 k_M_tried 5 [(0, .ref 86), (1, .int l1), (2, .int l2), (3, .int l3)] [] σ
noncomputable def b_M_tried_6 (d : Nat) (l1 : Int32) (l2 : Int32) (l3 : Int32) (s0 : Int32) (σ : jS) : jR := db (jd jMT d) 1 k_M_tried 6 [(0, .ref 86), (1, .int l1), (2, .int l2), (3, .int l3)] [.int s0] σ
noncomputable def b_M_tried_7 (d : Nat) (σ : jS) : jR := db (jd jMT d) 1 k_M_tried 7 [] [] σ
noncomputable def b_M_tried_8 (d : Nat) (l1 : Int32) (l2 : Int32) (l3 : Int32) (σ : jS) : jR := db (jd jMT d) 1 k_M_tried 8 [(0, .ref 86), (1, .int l1), (2, .int l2), (3, .int l3)] [] σ
noncomputable def b_M_tried_9 (d : Nat) (l3 : Int32) (l5 : Int32) (σ : jS) : jR := db (jd jMT d) 1 k_M_tried 9 [(0, .ref 86), (3, .int l3), (5, .int l5)] [] σ
noncomputable def b_M_tried_10 (d : Nat) (l3 : Int32) (σ : jS) : jR := db (jd jMT d) 1 k_M_tried 10 [(0, .ref 86), (3, .int l3)] [] σ
theorem e_M_tried (d : Nat) (l1 : Int32) (l2 : Int32) (l3 : Int32) (σ : jS) : g_M_tried (d + 1) l1 l2 l3 σ = b_M_tried_0 d l1 l2 l3 σ := rfl
set_option maxRecDepth 100000 in
theorem q_M_tried_0 (d : Nat) (l1 : Int32) (l2 : Int32) (l3 : Int32) (σ : jS) : b_M_tried_0 d l1 l2 l3 σ = (jif (l1 = 0) (b_M_tried_1 d l1 l2 l3 (j_setI σ 86 0 0)) (jif (l1 = 3) (b_M_tried_1 d l1 l2 l3 (j_setI σ 86 0 0)) (b_M_tried_2 d l1 l2 l3 (j_setI σ 86 0 0)))) := (db_eq _ _ _ _ _ _ _).trans rfl
set_option maxRecDepth 100000 in
theorem q_M_tried_1 (d : Nat) (l1 : Int32) (l2 : Int32) (l3 : Int32) (σ : jS) : b_M_tried_1 d l1 l2 l3 σ = ((r_I (g_M_isPerson d l2 σ)).bind fun q1 => b_M_tried_6 d l1 l2 l3 q1.1 q1.2) := (db_eq _ _ _ _ _ _ _).trans rfl
set_option maxRecDepth 100000 in
theorem q_M_tried_2 (d : Nat) (l1 : Int32) (l2 : Int32) (l3 : Int32) (σ : jS) : b_M_tried_2 d l1 l2 l3 σ = (jif (l1 = 5) ((r_I (g_M_isParcel d l2 σ)).bind fun q1 => b_M_tried_6 d l1 l2 l3 q1.1 q1.2) (b_M_tried_3 d l1 l2 l3 σ)) := (db_eq _ _ _ _ _ _ _).trans rfl
set_option maxRecDepth 100000 in
theorem q_M_tried_3 (d : Nat) (l1 : Int32) (l2 : Int32) (l3 : Int32) (σ : jS) : b_M_tried_3 d l1 l2 l3 σ = (jif (l1 = 1) (b_M_tried_4 d l1 l2 l3 σ) (jif (l1 = 2) (b_M_tried_4 d l1 l2 l3 σ) (jif (l1 = 4) (b_M_tried_4 d l1 l2 l3 σ) (b_M_tried_5 d l1 l2 l3 σ)))) := (db_eq _ _ _ _ _ _ _).trans rfl
set_option maxRecDepth 100000 in
theorem q_M_tried_4 (d : Nat) (l1 : Int32) (l2 : Int32) (l3 : Int32) (σ : jS) : b_M_tried_4 d l1 l2 l3 σ = (jif (l2 = 0) (b_M_tried_6 d l1 l2 l3 1 σ) (b_M_tried_5 d l1 l2 l3 σ)) := (db_eq _ _ _ _ _ _ _).trans rfl
set_option maxRecDepth 100000 in
theorem q_M_tried_5 (d : Nat) (l1 : Int32) (l2 : Int32) (l3 : Int32) (σ : jS) : b_M_tried_5 d l1 l2 l3 σ = (b_M_tried_6 d l1 l2 l3 0 σ) := (db_eq _ _ _ _ _ _ _).trans rfl
set_option maxRecDepth 100000 in
theorem q_M_tried_6 (d : Nat) (l1 : Int32) (l2 : Int32) (l3 : Int32) (s0 : Int32) (σ : jS) : b_M_tried_6 d l1 l2 l3 s0 σ = (jif (s0 = 0) (b_M_tried_7 d σ) ((r_I (g_M_isPerson d l3 σ)).bind fun q1 => jif (q1.1 = 0) (b_M_tried_7 d q1.2) (b_M_tried_8 d l1 l2 l3 q1.2))) := (db_eq _ _ _ _ _ _ _).trans rfl
set_option maxRecDepth 100000 in
theorem q_M_tried_7 (d : Nat) (σ : jS) : b_M_tried_7 d σ = (some (some (.int (-1)), σ)) := (db_eq _ _ _ _ _ _ _).trans rfl
set_option maxRecDepth 100000 in
theorem q_M_tried_8 (d : Nat) (l1 : Int32) (l2 : Int32) (l3 : Int32) (σ : jS) : b_M_tried_8 d l1 l2 l3 σ = ((r_V (g_M_plain d σ)).bind fun σ1 => (r_V (g_M_begins d 1 (j_setI (j_setI σ1 86 30 l1) 86 31 l2))).bind fun σ2 => b_M_tried_9 d l3 0 σ2) := (db_eq _ _ _ _ _ _ _).trans rfl
set_option maxRecDepth 100000 in
theorem q_M_tried_9 (d : Nat) (l3 : Int32) (l5 : Int32) (σ : jS) : b_M_tried_9 d l3 l5 σ = ((j_rdI 0 σ 107 0).bind fun x1 => jif (x1 ≤ l5) (b_M_tried_10 d l3 σ) ((r_V (g_M_passes d 1 σ)).bind fun σ2 => b_M_tried_9 d l3 (l5 + 1) σ2)) := (db_eq _ _ _ _ _ _ _).trans rfl
set_option maxRecDepth 100000 in
theorem q_M_tried_10 (d : Nat) (l3 : Int32) (σ : jS) : b_M_tried_10 d l3 σ = ((j_rdI 0 σ 108 (10 + l3)).bind fun x1 => some (some (.int x1), σ)) := (db_eq _ _ _ _ _ _ _).trans rfl
