/-! The methods as functions of the cells: an equation a block. Printed by wip/gen/eqs.py. -/
noncomputable def b_Or_nearestBringing_0 (d : Nat) (l1 : Int32) (σ : jS) : jR := db (jd jMT d) 3 k_Or_nearestBringing 0 [(0, .ref 71), (1, .int l1)] [] σ
noncomputable def b_Or_nearestBringing_1 (d : Nat) (σ : jS) : jR := db (jd jMT d) 3 k_Or_nearestBringing 1 [] [] σ
noncomputable def b_Or_nearestBringing_2 (d : Nat) (s0 : Int64) (σ : jS) : jR := db (jd jMT d) 3 k_Or_nearestBringing 2 [] [.long s0] σ
theorem e_Or_nearestBringing (d : Nat) (l1 : Int32) (σ : jS) : g_Or_nearestBringing (d + 1) l1 σ = b_Or_nearestBringing_0 d l1 σ := rfl
set_option maxRecDepth 100000 in
theorem q_Or_nearestBringing_0 (d : Nat) (l1 : Int32) (σ : jS) : b_Or_nearestBringing_0 d l1 σ = ((r_I (g_Or_fewestSwaps d l1 σ)).bind fun q1 => jif (q1.1 < 0) (b_Or_nearestBringing_1 d q1.2) ((r_L (g_Or_laidRow d q1.1 q1.2)).bind fun q2 => b_Or_nearestBringing_2 d q2.1 q2.2)) := (db_eq _ _ _ _ _ _ _).trans rfl
set_option maxRecDepth 100000 in
theorem q_Or_nearestBringing_1 (d : Nat) (σ : jS) : b_Or_nearestBringing_1 d σ = (b_Or_nearestBringing_2 d (-2) σ) := (db_eq _ _ _ _ _ _ _).trans rfl
set_option maxRecDepth 100000 in
theorem q_Or_nearestBringing_2 (d : Nat) (s0 : Int64) (σ : jS) : b_Or_nearestBringing_2 d s0 σ = (some (some (.long s0), σ)) := (db_eq _ _ _ _ _ _ _).trans rfl
noncomputable def b_Or_gain_0 (d : Nat) (l1 : Int32) (l2 : Int32) (σ : jS) : jR := db (jd jMT d) 1 k_Or_gain 0 [(0, .ref 71), (1, .int l1), (2, .int l2)] [] σ
noncomputable def b_Or_gain_1 (d : Nat) (l1 : Int32) (σ : jS) : jR := db (jd jMT d) 1 k_Or_gain 1 [(0, .ref 71), (1, .int l1)] [.ref 71] σ
noncomputable def b_Or_gain_2 (d : Nat) (l1 : Int32) (s1 : Int32) (σ : jS) : jR := db (jd jMT d) 1 k_Or_gain 2 [(0, .ref 71), (1, .int l1)] [.int s1, .ref 71] σ
theorem e_Or_gain (d : Nat) (l1 : Int32) (l2 : Int32) (σ : jS) : g_Or_gain (d + 1) l1 l2 σ = b_Or_gain_0 d l1 l2 σ := rfl
set_option maxRecDepth 100000 in
theorem q_Or_gain_0 (d : Nat) (l1 : Int32) (l2 : Int32) (σ : jS) : b_Or_gain_0 d l1 l2 σ = (jif (l2 = 0) (b_Or_gain_1 d l1 σ) (b_Or_gain_2 d l1 2 σ)) := (db_eq _ _ _ _ _ _ _).trans rfl
set_option maxRecDepth 100000 in
theorem q_Or_gain_1 (d : Nat) (l1 : Int32) (σ : jS) : b_Or_gain_1 d l1 σ = (b_Or_gain_2 d l1 3 σ) := (db_eq _ _ _ _ _ _ _).trans rfl
set_option maxRecDepth 100000 in
theorem q_Or_gain_2 (d : Nat) (l1 : Int32) (s1 : Int32) (σ : jS) : b_Or_gain_2 d l1 s1 σ = ((r_I (g_Or_numberOf d l1 σ)).bind fun q1 => (r_I (g_Or_solved d s1 q1.1 q1.2)).bind fun q2 => some (some (.int q2.1), q2.2)) := (db_eq _ _ _ _ _ _ _).trans rfl
noncomputable def b_Or_gainPlace_0 (d : Nat) (l1 : Int32) (l2 : Int32) (σ : jS) : jR := db (jd jMT d) 1 k_Or_gainPlace 0 [(0, .ref 71), (1, .int l1), (2, .int l2)] [] σ
theorem e_Or_gainPlace (d : Nat) (l1 : Int32) (l2 : Int32) (σ : jS) : g_Or_gainPlace (d + 1) l1 l2 σ = b_Or_gainPlace_0 d l1 l2 σ := rfl
set_option maxRecDepth 100000 in
theorem q_Or_gainPlace_0 (d : Nat) (l1 : Int32) (l2 : Int32) (σ : jS) : b_Or_gainPlace_0 d l1 l2 σ = ((r_I (g_Or_gain d l1 l2 σ)).bind fun q1 => (r_V (g_Or_lay d q1.1 q1.2)).bind fun σ2 => some (some (.int (σ2.1 71 9)), σ2)) := (db_eq _ _ _ _ _ _ _).trans rfl
noncomputable def b_Or_numberOf_0 (d : Nat) (l1 : Int32) (σ : jS) : jR := db (jd jMT d) 1 k_Or_numberOf 0 [(0, .ref 71), (1, .int l1)] [] σ
noncomputable def b_Or_numberOf_1 (d : Nat) (l1 : Int32) (l2 : Int32) (σ : jS) : jR := db (jd jMT d) 1 k_Or_numberOf 1 [(0, .ref 71), (1, .int l1), (2, .int l2)] [] σ
noncomputable def b_Or_numberOf_2 (d : Nat) (l1 : Int32) (l2 : Int32) (σ : jS) : jR := db (jd jMT d) 1 k_Or_numberOf 2 [(0, .ref 71), (1, .int l1), (2, .int l2)] [] σ
noncomputable def b_Or_numberOf_3 (d : Nat) (σ : jS) : jR := db (jd jMT d) 1 k_Or_numberOf 3 [] [] σ
theorem e_Or_numberOf (d : Nat) (l1 : Int32) (σ : jS) : g_Or_numberOf (d + 1) l1 σ = b_Or_numberOf_0 d l1 σ := rfl
set_option maxRecDepth 100000 in
theorem q_Or_numberOf_0 (d : Nat) (l1 : Int32) (σ : jS) : b_Or_numberOf_0 d l1 σ = (b_Or_numberOf_1 d l1 0 σ) := (db_eq _ _ _ _ _ _ _).trans rfl
set_option maxRecDepth 100000 in
theorem q_Or_numberOf_1 (d : Nat) (l1 : Int32) (l2 : Int32) (σ : jS) : b_Or_numberOf_1 d l1 l2 σ = (jif ((σ.1 71 2) ≤ l2) (b_Or_numberOf_3 d σ) ((j_rdI 0 σ 72 l2).bind fun x1 => jif (x1 = l1) (some (some (.int l2), σ)) (b_Or_numberOf_2 d l1 l2 σ))) := (db_eq _ _ _ _ _ _ _).trans rfl
set_option maxRecDepth 100000 in
theorem q_Or_numberOf_2 (d : Nat) (l1 : Int32) (l2 : Int32) (σ : jS) : b_Or_numberOf_2 d l1 l2 σ = (b_Or_numberOf_1 d l1 (l2 + 1) σ) := (db_eq _ _ _ _ _ _ _).trans rfl
set_option maxRecDepth 100000 in
theorem q_Or_numberOf_3 (d : Nat) (σ : jS) : b_Or_numberOf_3 d σ = (some (some (.int (-1)), σ)) := (db_eq _ _ _ _ _ _ _).trans rfl
noncomputable def b_Or_solved_0 (d : Nat) (l1 : Int32) (l2 : Int32) (σ : jS) : jR := db (jd jMT d) 1 k_Or_solved 0 [(0, .ref 71), (1, .int l1), (2, .int l2)] [] σ
noncomputable def b_Or_solved_1 (d : Nat) (l3 : Int32) (σ : jS) : jR := db (jd jMT d) 1 k_Or_solved 1 [(0, .ref 71), (3, .int l3)] [] σ
noncomputable def b_Or_solved_2 (d : Nat) (l3 : Int32) (l4 : Int32) (σ : jS) : jR := db (jd jMT d) 1 k_Or_solved 2 [(0, .ref 71), (3, .int l3), (4, .int l4)] [] σ
noncomputable def b_Or_solved_3 (d : Nat) (l3 : Int32) (l4 : Int32) (σ : jS) : jR := db (jd jMT d) 1 k_Or_solved 3 [(0, .ref 71), (3, .int l3), (4, .int l4)] [] σ
noncomputable def b_Or_solved_4 (d : Nat) (l3 : Int32) (σ : jS) : jR := db (jd jMT d) 1 k_Or_solved 4 [(0, .ref 71), (3, .int l3)] [] σ
noncomputable def b_Or_solved_5 (d : Nat) (σ : jS) : jR := db (jd jMT d) 1 k_Or_solved 5 [(0, .ref 71)] [] σ
theorem e_Or_solved (d : Nat) (l1 : Int32) (l2 : Int32) (σ : jS) : g_Or_solved (d + 1) l1 l2 σ = b_Or_solved_0 d l1 l2 σ := rfl
set_option maxRecDepth 100000 in
theorem q_Or_solved_0 (d : Nat) (l1 : Int32) (l2 : Int32) (σ : jS) : b_Or_solved_0 d l1 l2 σ = ((r_I (g_Or_everybody d (j_setI (j_setI σ 71 10 l1) 71 11 l2))).bind fun q1 => b_Or_solved_1 d q1.1 q1.2) := (db_eq _ _ _ _ _ _ _).trans rfl
set_option maxRecDepth 100000 in
theorem q_Or_solved_1 (d : Nat) (l3 : Int32) (σ : jS) : b_Or_solved_1 d l3 σ = (jif (l3 ≤ 0) (b_Or_solved_5 d σ) (b_Or_solved_2 d l3 0 σ)) := (db_eq _ _ _ _ _ _ _).trans rfl
set_option maxRecDepth 100000 in
theorem q_Or_solved_2 (d : Nat) (l3 : Int32) (l4 : Int32) (σ : jS) : b_Or_solved_2 d l3 l4 σ = (jif ((σ.1 71 2) ≤ l4) (b_Or_solved_4 d l3 σ) ((r_I (g_Or_has d l3 l4 σ)).bind fun q1 => jif (q1.1 = 0) (b_Or_solved_3 d l3 l4 q1.2) ((r_I (g_Or_state d l3 l4 0 q1.2)).bind fun q2 => (r_I (g_Or_judged d l3 l4 0 q2.2)).bind fun q3 => (j_wrI q3.2 76 q2.1 q3.1).bind fun σ4 => (r_I (g_Or_state d l3 l4 1 σ4)).bind fun q5 => (r_I (g_Or_judged d l3 l4 1 q5.2)).bind fun q6 => (j_wrI q6.2 76 q5.1 q6.1).bind fun σ7 => b_Or_solved_3 d l3 l4 σ7))) := (db_eq _ _ _ _ _ _ _).trans rfl
set_option maxRecDepth 100000 in
theorem q_Or_solved_3 (d : Nat) (l3 : Int32) (l4 : Int32) (σ : jS) : b_Or_solved_3 d l3 l4 σ = (b_Or_solved_2 d l3 (l4 + 1) σ) := (db_eq _ _ _ _ _ _ _).trans rfl
set_option maxRecDepth 100000 in
theorem q_Or_solved_4 (d : Nat) (l3 : Int32) (σ : jS) : b_Or_solved_4 d l3 σ = (b_Or_solved_1 d (l3 + (-1)) σ) := (db_eq _ _ _ _ _ _ _).trans rfl
set_option maxRecDepth 100000 in
theorem q_Or_solved_5 (d : Nat) (σ : jS) : b_Or_solved_5 d σ = ((r_I (g_Or_judged d 0 0 0 σ)).bind fun q1 => some (some (.int q1.1), q1.2)) := (db_eq _ _ _ _ _ _ _).trans rfl
noncomputable def b_Or_everybody_0 (d : Nat) (σ : jS) : jR := db (jd jMT d) 1 k_Or_everybody 0 [(0, .ref 71)] [] σ
theorem e_Or_everybody (d : Nat) (σ : jS) : g_Or_everybody (d + 1) σ = b_Or_everybody_0 d σ := rfl
set_option maxRecDepth 100000 in
theorem q_Or_everybody_0 (d : Nat) (σ : jS) : b_Or_everybody_0 d σ = (some (some (.int (((1 : Int32) <<< (((σ.1 71 2) : Int32) &&& 31)) - 1)), σ)) := (db_eq _ _ _ _ _ _ _).trans rfl
noncomputable def b_Or_has_0 (d : Nat) (l0 : Int32) (l1 : Int32) (σ : jS) : jR := db (jd jMT d) 2 k_Or_has 0 [(0, .int l0), (1, .int l1)] [] σ
noncomputable def b_Or_has_1 (d : Nat) (σ : jS) : jR := db (jd jMT d) 2 k_Or_has 1 [] [] σ
noncomputable def b_Or_has_2 (d : Nat) (s0 : Int32) (σ : jS) : jR := db (jd jMT d) 2 k_Or_has 2 [] [.int s0] σ
theorem e_Or_has (d : Nat) (l0 : Int32) (l1 : Int32) (σ : jS) : g_Or_has (d + 1) l0 l1 σ = b_Or_has_0 d l0 l1 σ := rfl
set_option maxRecDepth 100000 in
theorem q_Or_has_0 (d : Nat) (l0 : Int32) (l1 : Int32) (σ : jS) : b_Or_has_0 d l0 l1 σ = (jif ((((l0 : Int32) >>> ((l1 : Int32) &&& 31)) &&& 1) = 0) (b_Or_has_1 d σ) (b_Or_has_2 d 1 σ)) := (db_eq _ _ _ _ _ _ _).trans rfl
set_option maxRecDepth 100000 in
theorem q_Or_has_1 (d : Nat) (σ : jS) : b_Or_has_1 d σ = (b_Or_has_2 d 0 σ) := (db_eq _ _ _ _ _ _ _).trans rfl
set_option maxRecDepth 100000 in
theorem q_Or_has_2 (d : Nat) (s0 : Int32) (σ : jS) : b_Or_has_2 d s0 σ = (if s0 = 0 ∨ s0 = 1 then some (some (.int s0), σ) else none) := (db_eq _ _ _ _ _ _ _).trans rfl
noncomputable def b_Or_state_0 (d : Nat) (l0 : Int32) (l1 : Int32) (l2 : Int32) (σ : jS) : jR := db (jd jMT d) 1 k_Or_state 0 [(0, .int l0), (1, .int l1), (2, .int l2)] [] σ
theorem e_Or_state (d : Nat) (l0 : Int32) (l1 : Int32) (l2 : Int32) (σ : jS) : g_Or_state (d + 1) l0 l1 l2 σ = b_Or_state_0 d l0 l1 l2 σ := rfl
set_option maxRecDepth 100000 in
theorem q_Or_state_0 (d : Nat) (l0 : Int32) (l1 : Int32) (l2 : Int32) (σ : jS) : b_Or_state_0 d l0 l1 l2 σ = (some (some (.int ((((l0 * 8) + l1) * 2) + l2)), σ)) := (db_eq _ _ _ _ _ _ _).trans rfl
noncomputable def b_Or_judged_0 (d : Nat) (l1 : Int32) (l2 : Int32) (l3 : Int32) (σ : jS) : jR := db (jd jMT d) 1 k_Or_judged 0 [(0, .ref 71), (1, .int l1), (2, .int l2), (3, .int l3)] [] σ
noncomputable def b_Or_judged_1 (d : Nat) (l1 : Int32) (l2 : Int32) (l4 : Int32) (σ : jS) : jR := db (jd jMT d) 1 k_Or_judged 1 [(0, .ref 71), (1, .int l1), (2, .int l2), (4, .int l4)] [] σ
noncomputable def b_Or_judged_2 (d : Nat) (l1 : Int32) (l2 : Int32) (l4 : Int32) (σ : jS) : jR := db (jd jMT d) 1 k_Or_judged 2 [(0, .ref 71), (1, .int l1), (2, .int l2), (4, .int l4)] [] σ
noncomputable def b_Or_judged_3 (d : Nat) (l1 : Int32) (l2 : Int32) (l4 : Int32) (σ : jS) : jR := db (jd jMT d) 1 k_Or_judged 3 [(0, .ref 71), (1, .int l1), (2, .int l2), (4, .int l4)] [] σ
noncomputable def b_Or_judged_4 (d : Nat) (l1 : Int32) (l2 : Int32) (l4 : Int32) (s0 : Int32) (σ : jS) : jR := db (jd jMT d) 1 k_Or_judged 4 [(0, .ref 71), (1, .int l1), (2, .int l2), (4, .int l4)] [.int s0] σ
noncomputable def b_Or_judged_5 (d : Nat) (l1 : Int32) (l2 : Int32) (l4 : Int32) (l5 : Int32) (l6 : Int32) (σ : jS) : jR := db (jd jMT d) 1 k_Or_judged 5 [(0, .ref 71), (1, .int l1), (2, .int l2), (4, .int l4), (5, .int l5), (6, .int l6)] [] σ
noncomputable def b_Or_judged_6 (d : Nat) (l1 : Int32) (l2 : Int32) (l4 : Int32) (l5 : Int32) (l6 : Int32) (σ : jS) : jR := db (jd jMT d) 1 k_Or_judged 6 [(0, .ref 71), (1, .int l1), (2, .int l2), (4, .int l4), (5, .int l5), (6, .int l6)] [] σ
noncomputable def b_Or_judged_7 (d : Nat) (l5 : Int32) (σ : jS) : jR := db (jd jMT d) 1 k_Or_judged 7 [(5, .int l5)] [] σ
theorem e_Or_judged (d : Nat) (l1 : Int32) (l2 : Int32) (l3 : Int32) (σ : jS) : g_Or_judged (d + 1) l1 l2 l3 σ = b_Or_judged_0 d l1 l2 l3 σ := rfl
set_option maxRecDepth 100000 in
theorem q_Or_judged_0 (d : Nat) (l1 : Int32) (l2 : Int32) (l3 : Int32) (σ : jS) : b_Or_judged_0 d l1 l2 l3 σ = ((r_I (g_Ji_bitCount d l1 σ)).bind fun q1 => (j_rdI 0 q1.2 74 q1.1).bind fun x2 => (r_I (g_Or_everybody d q1.2)).bind fun q3 => jif (l1 = q3.1) ((r_I (g_Or_judgedEnd d l1 l2 (x2 + l3) q3.2)).bind fun q4 => some (some (.int q4.1), q4.2)) (b_Or_judged_1 d l1 l2 (x2 + l3) q3.2)) := (db_eq _ _ _ _ _ _ _).trans rfl
set_option maxRecDepth 100000 in
theorem q_Or_judged_1 (d : Nat) (l1 : Int32) (l2 : Int32) (l4 : Int32) (σ : jS) : b_Or_judged_1 d l1 l2 l4 σ = (jif ((σ.1 71 10) = 0) (b_Or_judged_4 d l1 l2 l4 0 σ) (b_Or_judged_2 d l1 l2 l4 σ)) := (db_eq _ _ _ _ _ _ _).trans rfl
set_option maxRecDepth 100000 in
theorem q_Or_judged_2 (d : Nat) (l1 : Int32) (l2 : Int32) (l4 : Int32) (σ : jS) : b_Or_judged_2 d l1 l2 l4 σ = (jif ((σ.1 71 10) = 2) (b_Or_judged_4 d l1 l2 l4 (-1) σ) (b_Or_judged_3 d l1 l2 l4 σ)) := (db_eq _ _ _ _ _ _ _).trans rfl
set_option maxRecDepth 100000 in
theorem q_Or_judged_3 (d : Nat) (l1 : Int32) (l2 : Int32) (l4 : Int32) (σ : jS) : b_Or_judged_3 d l1 l2 l4 σ = (b_Or_judged_4 d l1 l2 l4 536870912 σ) := (db_eq _ _ _ _ _ _ _).trans rfl
set_option maxRecDepth 100000 in
theorem q_Or_judged_4 (d : Nat) (l1 : Int32) (l2 : Int32) (l4 : Int32) (s0 : Int32) (σ : jS) : b_Or_judged_4 d l1 l2 l4 s0 σ = (b_Or_judged_5 d l1 l2 l4 s0 0 σ) := (db_eq _ _ _ _ _ _ _).trans rfl
set_option maxRecDepth 100000 in
theorem q_Or_judged_5 (d : Nat) (l1 : Int32) (l2 : Int32) (l4 : Int32) (l5 : Int32) (l6 : Int32) (σ : jS) : b_Or_judged_5 d l1 l2 l4 l5 l6 σ = (jif ((σ.1 71 2) ≤ l6) (b_Or_judged_7 d l5 σ) ((r_I (g_Or_has d l1 l6 σ)).bind fun q1 => jif (q1.1 = 0) ((r_I (g_Or_judgedStep d l1 l2 l4 l6 q1.2)).bind fun q2 => (r_I (g_Or_joined d l5 q2.1 q2.2)).bind fun q3 => b_Or_judged_6 d l1 l2 l4 q3.1 l6 q3.2) (b_Or_judged_6 d l1 l2 l4 l5 l6 q1.2))) := (db_eq _ _ _ _ _ _ _).trans rfl
set_option maxRecDepth 100000 in
theorem q_Or_judged_6 (d : Nat) (l1 : Int32) (l2 : Int32) (l4 : Int32) (l5 : Int32) (l6 : Int32) (σ : jS) : b_Or_judged_6 d l1 l2 l4 l5 l6 σ = (b_Or_judged_5 d l1 l2 l4 l5 (l6 + 1) σ) := (db_eq _ _ _ _ _ _ _).trans rfl
set_option maxRecDepth 100000 in
theorem q_Or_judged_7 (d : Nat) (l5 : Int32) (σ : jS) : b_Or_judged_7 d l5 σ = (some (some (.int l5), σ)) := (db_eq _ _ _ _ _ _ _).trans rfl
noncomputable def b_Or_judgedEnd_0 (d : Nat) (l1 : Int32) (l2 : Int32) (l3 : Int32) (σ : jS) : jR := db (jd jMT d) 1 k_Or_judgedEnd 0 [(0, .ref 71), (1, .int l1), (2, .int l2), (3, .int l3)] [] σ
noncomputable def b_Or_judgedEnd_1 (d : Nat) (l4 : Int32) (σ : jS) : jR := db (jd jMT d) 1 k_Or_judgedEnd 1 [(0, .ref 71), (4, .int l4)] [] σ
noncomputable def b_Or_judgedEnd_2 (d : Nat) (σ : jS) : jR := db (jd jMT d) 1 k_Or_judgedEnd 2 [(0, .ref 71)] [] σ
noncomputable def b_Or_judgedEnd_3 (d : Nat) (s0 : Int32) (σ : jS) : jR := db (jd jMT d) 1 k_Or_judgedEnd 3 [(0, .ref 71)] [.int s0] σ
noncomputable def b_Or_judgedEnd_4 (d : Nat) (σ : jS) : jR := db (jd jMT d) 1 k_Or_judgedEnd 4 [] [] σ
noncomputable def b_Or_judgedEnd_5 (d : Nat) (s0 : Int32) (σ : jS) : jR := db (jd jMT d) 1 k_Or_judgedEnd 5 [] [.int s0] σ
noncomputable def b_Or_judgedEnd_6 (d : Nat) (l5 : Int32) (σ : jS) : jR := db (jd jMT d) 1 k_Or_judgedEnd 6 [(0, .ref 71), (5, .int l5)] [] σ
noncomputable def b_Or_judgedEnd_7 (d : Nat) (σ : jS) : jR := db (jd jMT d) 1 k_Or_judgedEnd 7 [] [] σ
noncomputable def b_Or_judgedEnd_8 (d : Nat) (s0 : Int32) (σ : jS) : jR := db (jd jMT d) 1 k_Or_judgedEnd 8 [] [.int s0] σ
theorem e_Or_judgedEnd (d : Nat) (l1 : Int32) (l2 : Int32) (l3 : Int32) (σ : jS) : g_Or_judgedEnd (d + 1) l1 l2 l3 σ = b_Or_judgedEnd_0 d l1 l2 l3 σ := rfl
set_option maxRecDepth 100000 in
theorem q_Or_judgedEnd_0 (d : Nat) (l1 : Int32) (l2 : Int32) (l3 : Int32) (σ : jS) : b_Or_judgedEnd_0 d l1 l2 l3 σ = ((r_I (g_Or_handed d l1 l2 l3 (σ.1 71 2) σ)).bind fun q1 => (r_I (g_Or_isAskedOf d l1 l2 q1.2)).bind fun q2 => jif (q2.1 = 0) (b_Or_judgedEnd_1 d q1.1 q2.2) (some (some (.int (l3 - q1.1)), q2.2))) := (db_eq _ _ _ _ _ _ _).trans rfl
set_option maxRecDepth 100000 in
theorem q_Or_judgedEnd_1 (d : Nat) (l4 : Int32) (σ : jS) : b_Or_judgedEnd_1 d l4 σ = (jif (l4 = (σ.1 71 11)) (b_Or_judgedEnd_3 d 1 σ) (b_Or_judgedEnd_2 d σ)) := (db_eq _ _ _ _ _ _ _).trans rfl
set_option maxRecDepth 100000 in
theorem q_Or_judgedEnd_2 (d : Nat) (σ : jS) : b_Or_judgedEnd_2 d σ = (b_Or_judgedEnd_3 d 0 σ) := (db_eq _ _ _ _ _ _ _).trans rfl
set_option maxRecDepth 100000 in
theorem q_Or_judgedEnd_3 (d : Nat) (s0 : Int32) (σ : jS) : b_Or_judgedEnd_3 d s0 σ = (jif ((σ.1 71 10) = 0) (jif (s0 = 0) (b_Or_judgedEnd_4 d σ) (b_Or_judgedEnd_5 d 1 σ)) (b_Or_judgedEnd_6 d s0 σ)) := (db_eq _ _ _ _ _ _ _).trans rfl
set_option maxRecDepth 100000 in
theorem q_Or_judgedEnd_4 (d : Nat) (σ : jS) : b_Or_judgedEnd_4 d σ = (b_Or_judgedEnd_5 d 0 σ) := (db_eq _ _ _ _ _ _ _).trans rfl
set_option maxRecDepth 100000 in
theorem q_Or_judgedEnd_5 (d : Nat) (s0 : Int32) (σ : jS) : b_Or_judgedEnd_5 d s0 σ = (some (some (.int s0), σ)) := (db_eq _ _ _ _ _ _ _).trans rfl
set_option maxRecDepth 100000 in
theorem q_Or_judgedEnd_6 (d : Nat) (l5 : Int32) (σ : jS) : b_Or_judgedEnd_6 d l5 σ = (jif ((σ.1 71 10) = 1) (jif (l5 = 0) (b_Or_judgedEnd_7 d σ) (b_Or_judgedEnd_8 d 0 σ)) (b_Or_judgedEnd_7 d σ)) := (db_eq _ _ _ _ _ _ _).trans rfl
set_option maxRecDepth 100000 in
theorem q_Or_judgedEnd_7 (d : Nat) (σ : jS) : b_Or_judgedEnd_7 d σ = (b_Or_judgedEnd_8 d 536870912 σ) := (db_eq _ _ _ _ _ _ _).trans rfl
set_option maxRecDepth 100000 in
theorem q_Or_judgedEnd_8 (d : Nat) (s0 : Int32) (σ : jS) : b_Or_judgedEnd_8 d s0 σ = (some (some (.int s0), σ)) := (db_eq _ _ _ _ _ _ _).trans rfl
noncomputable def b_Or_judgedStep_0 (d : Nat) (l1 : Int32) (l2 : Int32) (l3 : Int32) (l4 : Int32) (σ : jS) : jR := db (jd jMT d) 1 k_Or_judgedStep 0 [(0, .ref 71), (1, .int l1), (2, .int l2), (3, .int l3), (4, .int l4)] [] σ
noncomputable def b_Or_judgedStep_1 (d : Nat) (l1 : Int32) (l4 : Int32) (l5 : Int32) (σ : jS) : jR := db (jd jMT d) 1 k_Or_judgedStep 1 [(0, .ref 71), (1, .int l1), (4, .int l4), (5, .int l5)] [] σ
noncomputable def b_Or_judgedStep_2 (d : Nat) (l1 : Int32) (l4 : Int32) (σ : jS) : jR := db (jd jMT d) 1 k_Or_judgedStep 2 [(0, .ref 71), (1, .int l1), (4, .int l4)] [] σ
noncomputable def b_Or_judgedStep_3 (d : Nat) (l1 : Int32) (l4 : Int32) (s0 : Int32) (σ : jS) : jR := db (jd jMT d) 1 k_Or_judgedStep 3 [(0, .ref 71), (1, .int l1), (4, .int l4)] [.int s0] σ
noncomputable def b_Or_judgedStep_4 (d : Nat) (l7 : Int32) (σ : jS) : jR := db (jd jMT d) 1 k_Or_judgedStep 4 [(7, .int l7)] [] σ
noncomputable def b_Or_judgedStep_5 (d : Nat) (s0 : Int32) (σ : jS) : jR := db (jd jMT d) 1 k_Or_judgedStep 5 [] [.int s0] σ
theorem e_Or_judgedStep (d : Nat) (l1 : Int32) (l2 : Int32) (l3 : Int32) (l4 : Int32) (σ : jS) : g_Or_judgedStep (d + 1) l1 l2 l3 l4 σ = b_Or_judgedStep_0 d l1 l2 l3 l4 σ := rfl
set_option maxRecDepth 100000 in
theorem q_Or_judgedStep_0 (d : Nat) (l1 : Int32) (l2 : Int32) (l3 : Int32) (l4 : Int32) (σ : jS) : b_Or_judgedStep_0 d l1 l2 l3 l4 σ = ((r_I (g_Or_handed d l1 l2 l3 l4 σ)).bind fun q1 => (r_I (g_Or_isAskedOf d l1 l2 q1.2)).bind fun q2 => jif (q2.1 = 0) (b_Or_judgedStep_1 d l1 l4 q1.1 q2.2) (some (some (.int (l3 - q1.1)), q2.2))) := (db_eq _ _ _ _ _ _ _).trans rfl
set_option maxRecDepth 100000 in
theorem q_Or_judgedStep_1 (d : Nat) (l1 : Int32) (l4 : Int32) (l5 : Int32) (σ : jS) : b_Or_judgedStep_1 d l1 l4 l5 σ = ((r_I (g_Ji_bitCount d l1 σ)).bind fun q1 => (j_rdI 0 q1.2 74 (q1.1 + 1)).bind fun x2 => jif (l5 ≤ x2) (b_Or_judgedStep_2 d l1 l4 q1.2) (b_Or_judgedStep_3 d l1 l4 1 q1.2)) := (db_eq _ _ _ _ _ _ _).trans rfl
set_option maxRecDepth 100000 in
theorem q_Or_judgedStep_2 (d : Nat) (l1 : Int32) (l4 : Int32) (σ : jS) : b_Or_judgedStep_2 d l1 l4 σ = (b_Or_judgedStep_3 d l1 l4 0 σ) := (db_eq _ _ _ _ _ _ _).trans rfl
set_option maxRecDepth 100000 in
theorem q_Or_judgedStep_3 (d : Nat) (l1 : Int32) (l4 : Int32) (s0 : Int32) (σ : jS) : b_Or_judgedStep_3 d l1 l4 s0 σ = ((r_I (g_Or_state d (l1 ||| ((1 : Int32) <<< ((l4 : Int32) &&& 31))) l4 s0 σ)).bind fun q1 => (j_rdI 0 q1.2 76 q1.1).bind fun x2 => jif ((q1.2.1 71 10) = 1) ((r_I (g_Or_overtaken d l1 l4 q1.2)).bind fun q3 => b_Or_judgedStep_5 d (x2 + q3.1) q3.2) (b_Or_judgedStep_4 d x2 q1.2)) := (db_eq _ _ _ _ _ _ _).trans rfl
set_option maxRecDepth 100000 in
theorem q_Or_judgedStep_4 (d : Nat) (l7 : Int32) (σ : jS) : b_Or_judgedStep_4 d l7 σ = (b_Or_judgedStep_5 d l7 σ) := (db_eq _ _ _ _ _ _ _).trans rfl
set_option maxRecDepth 100000 in
theorem q_Or_judgedStep_5 (d : Nat) (s0 : Int32) (σ : jS) : b_Or_judgedStep_5 d s0 σ = (some (some (.int s0), σ)) := (db_eq _ _ _ _ _ _ _).trans rfl
noncomputable def b_Or_isAskedOf_0 (d : Nat) (l1 : Int32) (l2 : Int32) (σ : jS) : jR := db (jd jMT d) 2 k_Or_isAskedOf 0 [(0, .ref 71), (1, .int l1), (2, .int l2)] [] σ
noncomputable def b_Or_isAskedOf_1 (d : Nat) (l1 : Int32) (l2 : Int32) (σ : jS) : jR := db (jd jMT d) 2 k_Or_isAskedOf 1 [(0, .ref 71), (1, .int l1), (2, .int l2)] [] σ
noncomputable def b_Or_isAskedOf_2 (d : Nat) (σ : jS) : jR := db (jd jMT d) 2 k_Or_isAskedOf 2 [] [] σ
noncomputable def b_Or_isAskedOf_3 (d : Nat) (s0 : Int32) (σ : jS) : jR := db (jd jMT d) 2 k_Or_isAskedOf 3 [] [.int s0] σ
theorem e_Or_isAskedOf (d : Nat) (l1 : Int32) (l2 : Int32) (σ : jS) : g_Or_isAskedOf (d + 1) l1 l2 σ = b_Or_isAskedOf_0 d l1 l2 σ := rfl
set_option maxRecDepth 100000 in
theorem q_Or_isAskedOf_0 (d : Nat) (l1 : Int32) (l2 : Int32) (σ : jS) : b_Or_isAskedOf_0 d l1 l2 σ = (jif ((σ.1 71 10) = 2) (b_Or_isAskedOf_1 d l1 l2 σ) (jif ((σ.1 71 10) = 3) (b_Or_isAskedOf_1 d l1 l2 σ) (b_Or_isAskedOf_2 d σ))) := (db_eq _ _ _ _ _ _ _).trans rfl
set_option maxRecDepth 100000 in
theorem q_Or_isAskedOf_1 (d : Nat) (l1 : Int32) (l2 : Int32) (σ : jS) : b_Or_isAskedOf_1 d l1 l2 σ = (jif (l1 = 0) (b_Or_isAskedOf_2 d σ) (jif (l2 = (σ.1 71 11)) (b_Or_isAskedOf_3 d 1 σ) (b_Or_isAskedOf_2 d σ))) := (db_eq _ _ _ _ _ _ _).trans rfl
set_option maxRecDepth 100000 in
theorem q_Or_isAskedOf_2 (d : Nat) (σ : jS) : b_Or_isAskedOf_2 d σ = (b_Or_isAskedOf_3 d 0 σ) := (db_eq _ _ _ _ _ _ _).trans rfl
set_option maxRecDepth 100000 in
theorem q_Or_isAskedOf_3 (d : Nat) (s0 : Int32) (σ : jS) : b_Or_isAskedOf_3 d s0 σ = (if s0 = 0 ∨ s0 = 1 then some (some (.int s0), σ) else none) := (db_eq _ _ _ _ _ _ _).trans rfl
noncomputable def b_Or_joined_0 (d : Nat) (l1 : Int32) (l2 : Int32) (σ : jS) : jR := db (jd jMT d) 1 k_Or_joined 0 [(0, .ref 71), (1, .int l1), (2, .int l2)] [] σ
noncomputable def b_Or_joined_1 (d : Nat) (l1 : Int32) (l2 : Int32) (σ : jS) : jR := db (jd jMT d) 1 k_Or_joined 1 [(1, .int l1), (2, .int l2)] [] σ
noncomputable def b_Or_joined_2 (d : Nat) (l1 : Int32) (l2 : Int32) (σ : jS) : jR := db (jd jMT d) 1 k_Or_joined 2 [(1, .int l1), (2, .int l2)] [] σ
noncomputable def b_Or_joined_3 (d : Nat) (l1 : Int32) (l2 : Int32) (σ : jS) : jR := db (jd jMT d) 1 k_Or_joined 3 [(1, .int l1), (2, .int l2)] [] σ
theorem e_Or_joined (d : Nat) (l1 : Int32) (l2 : Int32) (σ : jS) : g_Or_joined (d + 1) l1 l2 σ = b_Or_joined_0 d l1 l2 σ := rfl
set_option maxRecDepth 100000 in
theorem q_Or_joined_0 (d : Nat) (l1 : Int32) (l2 : Int32) (σ : jS) : b_Or_joined_0 d l1 l2 σ = (jif ((σ.1 71 10) = 0) (b_Or_joined_1 d l1 l2 σ) (jif ((σ.1 71 10) = 2) (b_Or_joined_2 d l1 l2 σ) (b_Or_joined_3 d l1 l2 σ))) := (db_eq _ _ _ _ _ _ _).trans rfl
set_option maxRecDepth 100000 in
theorem q_Or_joined_1 (d : Nat) (l1 : Int32) (l2 : Int32) (σ : jS) : b_Or_joined_1 d l1 l2 σ = (some (some (.int (l1 + l2)), σ)) := (db_eq _ _ _ _ _ _ _).trans rfl
set_option maxRecDepth 100000 in
theorem q_Or_joined_2 (d : Nat) (l1 : Int32) (l2 : Int32) (σ : jS) : b_Or_joined_2 d l1 l2 σ = (some (some (.int (if (l1 : Int32) < l2 then l2 else l1)), σ)) := (db_eq _ _ _ _ _ _ _).trans rfl
set_option maxRecDepth 100000 in
theorem q_Or_joined_3 (d : Nat) (l1 : Int32) (l2 : Int32) (σ : jS) : b_Or_joined_3 d l1 l2 σ = (some (some (.int (if (l2 : Int32) < l1 then l2 else l1)), σ)) := (db_eq _ _ _ _ _ _ _).trans rfl
noncomputable def b_Or_handed_0 (d : Nat) (l1 : Int32) (l2 : Int32) (l3 : Int32) (l4 : Int32) (σ : jS) : jR := db (jd jMT d) 1 k_Or_handed 0 [(0, .ref 71), (1, .int l1), (2, .int l2), (3, .int l3), (4, .int l4)] [] σ
noncomputable def b_Or_handed_1 (d : Nat) (l1 : Int32) (l2 : Int32) (l3 : Int32) (l4 : Int32) (σ : jS) : jR := db (jd jMT d) 1 k_Or_handed 1 [(0, .ref 71), (1, .int l1), (2, .int l2), (3, .int l3), (4, .int l4)] [] σ
noncomputable def b_Or_handed_2 (d : Nat) (l3 : Int32) (σ : jS) : jR := db (jd jMT d) 1 k_Or_handed 2 [(3, .int l3)] [] σ
noncomputable def b_Or_handed_3 (d : Nat) (l3 : Int32) (s0 : Int32) (σ : jS) : jR := db (jd jMT d) 1 k_Or_handed 3 [(3, .int l3)] [.int s0] σ
noncomputable def b_Or_handed_4 (d : Nat) (l3 : Int32) (σ : jS) : jR := db (jd jMT d) 1 k_Or_handed 4 [(3, .int l3)] [] σ
noncomputable def b_Or_handed_5 (d : Nat) (s0 : Int32) (σ : jS) : jR := db (jd jMT d) 1 k_Or_handed 5 [] [.int s0] σ
theorem e_Or_handed (d : Nat) (l1 : Int32) (l2 : Int32) (l3 : Int32) (l4 : Int32) (σ : jS) : g_Or_handed (d + 1) l1 l2 l3 l4 σ = b_Or_handed_0 d l1 l2 l3 l4 σ := rfl
set_option maxRecDepth 100000 in
theorem q_Or_handed_0 (d : Nat) (l1 : Int32) (l2 : Int32) (l3 : Int32) (l4 : Int32) (σ : jS) : b_Or_handed_0 d l1 l2 l3 l4 σ = (jif (l1 = 0) (some (some (.int l3), σ)) (b_Or_handed_1 d l1 l2 l3 l4 σ)) := (db_eq _ _ _ _ _ _ _).trans rfl
set_option maxRecDepth 100000 in
theorem q_Or_handed_1 (d : Nat) (l1 : Int32) (l2 : Int32) (l3 : Int32) (l4 : Int32) (σ : jS) : b_Or_handed_1 d l1 l2 l3 l4 σ = (jif ((l3 - l3 / 2 * 2) = 0) (b_Or_handed_2 d l3 σ) ((r_I (g_Ji_bitCount d l1 σ)).bind fun q1 => (r_I (g_Or_way d q1.1 l2 l4 q1.2)).bind fun q2 => (j_rdI 1 q2.2 75 q2.1).bind fun x3 => jif (x3 = 0) (b_Or_handed_3 d l3 1 q2.2) (b_Or_handed_2 d l3 q2.2))) := (db_eq _ _ _ _ _ _ _).trans rfl
set_option maxRecDepth 100000 in
theorem q_Or_handed_2 (d : Nat) (l3 : Int32) (σ : jS) : b_Or_handed_2 d l3 σ = (b_Or_handed_3 d l3 0 σ) := (db_eq _ _ _ _ _ _ _).trans rfl
set_option maxRecDepth 100000 in
theorem q_Or_handed_3 (d : Nat) (l3 : Int32) (s0 : Int32) (σ : jS) : b_Or_handed_3 d l3 s0 σ = (jif (s0 = 0) (b_Or_handed_4 d l3 σ) (b_Or_handed_5 d ((l3 / 2) + 1) σ)) := (db_eq _ _ _ _ _ _ _).trans rfl
set_option maxRecDepth 100000 in
theorem q_Or_handed_4 (d : Nat) (l3 : Int32) (σ : jS) : b_Or_handed_4 d l3 σ = (b_Or_handed_5 d (l3 / 2) σ) := (db_eq _ _ _ _ _ _ _).trans rfl
set_option maxRecDepth 100000 in
theorem q_Or_handed_5 (d : Nat) (s0 : Int32) (σ : jS) : b_Or_handed_5 d s0 σ = (some (some (.int s0), σ)) := (db_eq _ _ _ _ _ _ _).trans rfl
noncomputable def b_Or_overtaken_0 (d : Nat) (l1 : Int32) (l2 : Int32) (σ : jS) : jR := db (jd jMT d) 1 k_Or_overtaken 0 [(0, .ref 71), (1, .int l1), (2, .int l2)] [] σ
noncomputable def b_Or_overtaken_1 (d : Nat) (l1 : Int32) (l2 : Int32) (l3 : Int32) (l4 : Int32) (σ : jS) : jR := db (jd jMT d) 1 k_Or_overtaken 1 [(0, .ref 71), (1, .int l1), (2, .int l2), (3, .int l3), (4, .int l4)] [] σ
noncomputable def b_Or_overtaken_2 (d : Nat) (l1 : Int32) (l2 : Int32) (l3 : Int32) (l4 : Int32) (σ : jS) : jR := db (jd jMT d) 1 k_Or_overtaken 2 [(0, .ref 71), (1, .int l1), (2, .int l2), (3, .int l3), (4, .int l4)] [] σ
noncomputable def b_Or_overtaken_3 (d : Nat) (l3 : Int32) (σ : jS) : jR := db (jd jMT d) 1 k_Or_overtaken 3 [(3, .int l3)] [] σ
theorem e_Or_overtaken (d : Nat) (l1 : Int32) (l2 : Int32) (σ : jS) : g_Or_overtaken (d + 1) l1 l2 σ = b_Or_overtaken_0 d l1 l2 σ := rfl
set_option maxRecDepth 100000 in
theorem q_Or_overtaken_0 (d : Nat) (l1 : Int32) (l2 : Int32) (σ : jS) : b_Or_overtaken_0 d l1 l2 σ = (b_Or_overtaken_1 d l1 l2 0 0 σ) := (db_eq _ _ _ _ _ _ _).trans rfl
set_option maxRecDepth 100000 in
theorem q_Or_overtaken_1 (d : Nat) (l1 : Int32) (l2 : Int32) (l3 : Int32) (l4 : Int32) (σ : jS) : b_Or_overtaken_1 d l1 l2 l3 l4 σ = (jif ((σ.1 71 2) ≤ l4) (b_Or_overtaken_3 d l3 σ) ((r_I (g_Or_has d l1 l4 σ)).bind fun q1 => jif (q1.1 = 0) ((j_rdI 0 q1.2 73 l4).bind fun x2 => (j_rdI 0 q1.2 73 l2).bind fun x3 => jif (x3 ≤ x2) (b_Or_overtaken_2 d l1 l2 l3 l4 q1.2) (b_Or_overtaken_2 d l1 l2 (l3 + 1) l4 q1.2)) (b_Or_overtaken_2 d l1 l2 l3 l4 q1.2))) := (db_eq _ _ _ _ _ _ _).trans rfl
set_option maxRecDepth 100000 in
theorem q_Or_overtaken_2 (d : Nat) (l1 : Int32) (l2 : Int32) (l3 : Int32) (l4 : Int32) (σ : jS) : b_Or_overtaken_2 d l1 l2 l3 l4 σ = (b_Or_overtaken_1 d l1 l2 l3 (l4 + 1) σ) := (db_eq _ _ _ _ _ _ _).trans rfl
set_option maxRecDepth 100000 in
theorem q_Or_overtaken_3 (d : Nat) (l3 : Int32) (σ : jS) : b_Or_overtaken_3 d l3 σ = (some (some (.int l3), σ)) := (db_eq _ _ _ _ _ _ _).trans rfl
noncomputable def b_Or_laidRow_0 (d : Nat) (l1 : Int32) (σ : jS) : jR := db (jd jMT d) 3 k_Or_laidRow 0 [(0, .ref 71), (1, .int l1)] [] σ
noncomputable def b_Or_laidRow_1 (d : Nat) (l2 : Int64) (l4 : Int32) (σ : jS) : jR := db (jd jMT d) 3 k_Or_laidRow 1 [(0, .ref 71), (2, .long l2), (4, .int l4)] [] σ
noncomputable def b_Or_laidRow_2 (d : Nat) (l2 : Int64) (σ : jS) : jR := db (jd jMT d) 3 k_Or_laidRow 2 [(0, .ref 71), (2, .long l2)] [] σ
theorem e_Or_laidRow (d : Nat) (l1 : Int32) (σ : jS) : g_Or_laidRow (d + 1) l1 σ = b_Or_laidRow_0 d l1 σ := rfl
set_option maxRecDepth 100000 in
theorem q_Or_laidRow_0 (d : Nat) (l1 : Int32) (σ : jS) : b_Or_laidRow_0 d l1 σ = ((r_V (g_Or_lay d l1 σ)).bind fun σ1 => (j_rdI 0 σ1 70 0).bind fun x2 => (r_L (g_Rw_placed d x2 0 σ1)).bind fun q3 => b_Or_laidRow_1 d q3.1 0 q3.2) := (db_eq _ _ _ _ _ _ _).trans rfl
set_option maxRecDepth 100000 in
theorem q_Or_laidRow_1 (d : Nat) (l2 : Int64) (l4 : Int32) (σ : jS) : b_Or_laidRow_1 d l2 l4 σ = (jif ((σ.1 71 9) ≤ l4) (b_Or_laidRow_2 d l2 σ) ((j_rdI 0 σ 77 l4).bind fun x1 => (j_rdI 0 σ 72 x1).bind fun x2 => (r_L (g_Rw_placed d x2 (l4 + 1) σ)).bind fun q3 => b_Or_laidRow_1 d (l2 ||| q3.1) (l4 + 1) q3.2)) := (db_eq _ _ _ _ _ _ _).trans rfl
set_option maxRecDepth 100000 in
theorem q_Or_laidRow_2 (d : Nat) (l2 : Int64) (σ : jS) : b_Or_laidRow_2 d l2 σ = ((j_rdI 0 σ 70 ((σ.1 69 0) - 1)).bind fun x1 => (r_L (g_Rw_placed d x1 ((σ.1 69 0) - 1) σ)).bind fun q2 => some (some (.long (l2 ||| q2.1)), q2.2)) := (db_eq _ _ _ _ _ _ _).trans rfl
noncomputable def b_Or_lay_0 (d : Nat) (l1 : Int32) (σ : jS) : jR := db (jd jMT d) 0 k_Or_lay 0 [(0, .ref 71), (1, .int l1)] [] σ
noncomputable def b_Or_lay_1 (d : Nat) (l2 : Int32) (l3 : Int32) (l4 : Int32) (l5 : Int32) (σ : jS) : jR := db (jd jMT d) 0 k_Or_lay 1 [(0, .ref 71), (2, .int l2), (3, .int l3), (4, .int l4), (5, .int l5)] [] σ
noncomputable def b_Or_lay_2 (d : Nat) (l2 : Int32) (l3 : Int32) (l4 : Int32) (l5 : Int32) (l6 : Int32) (σ : jS) : jR := db (jd jMT d) 0 k_Or_lay 2 [(0, .ref 71), (2, .int l2), (3, .int l3), (4, .int l4), (5, .int l5), (6, .int l6)] [] σ
noncomputable def b_Or_lay_3 (d : Nat) (σ : jS) : jR := db (jd jMT d) 0 k_Or_lay 3 [] [] σ
theorem e_Or_lay (d : Nat) (l1 : Int32) (σ : jS) : g_Or_lay (d + 1) l1 σ = b_Or_lay_0 d l1 σ := rfl
set_option maxRecDepth 100000 in
theorem q_Or_lay_0 (d : Nat) (l1 : Int32) (σ : jS) : b_Or_lay_0 d l1 σ = ((j_rdI 0 σ 74 0).bind fun x1 => b_Or_lay_1 d l1 0 0 x1 (j_setI σ 71 9 0)) := (db_eq _ _ _ _ _ _ _).trans rfl
set_option maxRecDepth 100000 in
theorem q_Or_lay_1 (d : Nat) (l2 : Int32) (l3 : Int32) (l4 : Int32) (l5 : Int32) (σ : jS) : b_Or_lay_1 d l2 l3 l4 l5 σ = (jif ((σ.1 71 2) ≤ (σ.1 71 9)) (b_Or_lay_3 d σ) ((r_I (g_Or_isAskedOf d l3 l4 σ)).bind fun q1 => jif (q1.1 = 0) ((r_I (g_Or_chosen d l3 l4 l5 l2 q1.2)).bind fun q2 => jif ((q2.2.1 71 10) = 1) ((r_I (g_Or_overtaken d l3 q2.1 q2.2)).bind fun q3 => b_Or_lay_2 d (l2 - q3.1) l3 l4 l5 q2.1 q3.2) (b_Or_lay_2 d l2 l3 l4 l5 q2.1 q2.2)) (b_Or_lay_3 d q1.2))) := (db_eq _ _ _ _ _ _ _).trans rfl
set_option maxRecDepth 100000 in
theorem q_Or_lay_2 (d : Nat) (l2 : Int32) (l3 : Int32) (l4 : Int32) (l5 : Int32) (l6 : Int32) (σ : jS) : b_Or_lay_2 d l2 l3 l4 l5 l6 σ = ((r_I (g_Or_handed d l3 l4 l5 l6 σ)).bind fun q1 => (j_wrI q1.2 77 (q1.2.1 71 9) l6).bind fun σ2 => b_Or_lay_1 d l2 (l3 ||| ((1 : Int32) <<< ((l6 : Int32) &&& 31))) l6 q1.1 (j_setI σ2 71 9 ((σ2.1 71 9) + 1))) := (db_eq _ _ _ _ _ _ _).trans rfl
set_option maxRecDepth 100000 in
theorem q_Or_lay_3 (d : Nat) (σ : jS) : b_Or_lay_3 d σ = (some (none, σ)) := (db_eq _ _ _ _ _ _ _).trans rfl
noncomputable def b_Or_chosen_0 (d : Nat) (l1 : Int32) (l2 : Int32) (l3 : Int32) (l4 : Int32) (σ : jS) : jR := db (jd jMT d) 1 k_Or_chosen 0 [(0, .ref 71), (1, .int l1), (2, .int l2), (3, .int l3), (4, .int l4)] [] σ
noncomputable def b_Or_chosen_1 (d : Nat) (l1 : Int32) (l2 : Int32) (l3 : Int32) (l4 : Int32) (l5 : Int32) (σ : jS) : jR := db (jd jMT d) 1 k_Or_chosen 1 [(0, .ref 71), (1, .int l1), (2, .int l2), (3, .int l3), (4, .int l4), (5, .int l5)] [] σ
noncomputable def b_Or_chosen_2 (d : Nat) (l1 : Int32) (l2 : Int32) (l3 : Int32) (l4 : Int32) (l5 : Int32) (σ : jS) : jR := db (jd jMT d) 1 k_Or_chosen 2 [(0, .ref 71), (1, .int l1), (2, .int l2), (3, .int l3), (4, .int l4), (5, .int l5)] [] σ
noncomputable def b_Or_chosen_3 (d : Nat) (σ : jS) : jR := db (jd jMT d) 1 k_Or_chosen 3 [] [] σ
theorem e_Or_chosen (d : Nat) (l1 : Int32) (l2 : Int32) (l3 : Int32) (l4 : Int32) (σ : jS) : g_Or_chosen (d + 1) l1 l2 l3 l4 σ = b_Or_chosen_0 d l1 l2 l3 l4 σ := rfl
set_option maxRecDepth 100000 in
theorem q_Or_chosen_0 (d : Nat) (l1 : Int32) (l2 : Int32) (l3 : Int32) (l4 : Int32) (σ : jS) : b_Or_chosen_0 d l1 l2 l3 l4 σ = (b_Or_chosen_1 d l1 l2 l3 l4 0 σ) := (db_eq _ _ _ _ _ _ _).trans rfl
set_option maxRecDepth 100000 in
theorem q_Or_chosen_1 (d : Nat) (l1 : Int32) (l2 : Int32) (l3 : Int32) (l4 : Int32) (l5 : Int32) (σ : jS) : b_Or_chosen_1 d l1 l2 l3 l4 l5 σ = (jif ((σ.1 71 2) ≤ l5) (b_Or_chosen_3 d σ) ((r_I (g_Or_has d l1 l5 σ)).bind fun q1 => jif (q1.1 = 0) ((r_I (g_Or_judgedStep d l1 l2 l3 l5 q1.2)).bind fun q2 => (r_I (g_Or_leads d q2.1 l4 q2.2)).bind fun q3 => jif (q3.1 = 0) (b_Or_chosen_2 d l1 l2 l3 l4 l5 q3.2) (some (some (.int l5), q3.2))) (b_Or_chosen_2 d l1 l2 l3 l4 l5 q1.2))) := (db_eq _ _ _ _ _ _ _).trans rfl
set_option maxRecDepth 100000 in
theorem q_Or_chosen_2 (d : Nat) (l1 : Int32) (l2 : Int32) (l3 : Int32) (l4 : Int32) (l5 : Int32) (σ : jS) : b_Or_chosen_2 d l1 l2 l3 l4 l5 σ = (b_Or_chosen_1 d l1 l2 l3 l4 (l5 + 1) σ) := (db_eq _ _ _ _ _ _ _).trans rfl
set_option maxRecDepth 100000 in
theorem q_Or_chosen_3 (d : Nat) (σ : jS) : b_Or_chosen_3 d σ = (some (some (.int 0), σ)) := (db_eq _ _ _ _ _ _ _).trans rfl
noncomputable def b_Or_leads_0 (d : Nat) (l1 : Int32) (l2 : Int32) (σ : jS) : jR := db (jd jMT d) 2 k_Or_leads 0 [(0, .ref 71), (1, .int l1), (2, .int l2)] [] σ
noncomputable def b_Or_leads_1 (d : Nat) (σ : jS) : jR := db (jd jMT d) 2 k_Or_leads 1 [] [] σ
noncomputable def b_Or_leads_2 (d : Nat) (l1 : Int32) (l2 : Int32) (σ : jS) : jR := db (jd jMT d) 2 k_Or_leads 2 [(1, .int l1), (2, .int l2)] [] σ
noncomputable def b_Or_leads_3 (d : Nat) (σ : jS) : jR := db (jd jMT d) 2 k_Or_leads 3 [] [] σ
noncomputable def b_Or_leads_4 (d : Nat) (s0 : Int32) (σ : jS) : jR := db (jd jMT d) 2 k_Or_leads 4 [] [.int s0] σ
theorem e_Or_leads (d : Nat) (l1 : Int32) (l2 : Int32) (σ : jS) : g_Or_leads (d + 1) l1 l2 σ = b_Or_leads_0 d l1 l2 σ := rfl
set_option maxRecDepth 100000 in
theorem q_Or_leads_0 (d : Nat) (l1 : Int32) (l2 : Int32) (σ : jS) : b_Or_leads_0 d l1 l2 σ = (jif ((σ.1 71 10) = 0) (jif (l1 ≤ 0) (b_Or_leads_1 d σ) (b_Or_leads_4 d 1 σ)) (b_Or_leads_2 d l1 l2 σ)) := (db_eq _ _ _ _ _ _ _).trans rfl
set_option maxRecDepth 100000 in
theorem q_Or_leads_1 (d : Nat) (σ : jS) : b_Or_leads_1 d σ = (b_Or_leads_4 d 0 σ) := (db_eq _ _ _ _ _ _ _).trans rfl
set_option maxRecDepth 100000 in
theorem q_Or_leads_2 (d : Nat) (l1 : Int32) (l2 : Int32) (σ : jS) : b_Or_leads_2 d l1 l2 σ = (jif (l1 = l2) (b_Or_leads_4 d 1 σ) (b_Or_leads_3 d σ)) := (db_eq _ _ _ _ _ _ _).trans rfl
set_option maxRecDepth 100000 in
theorem q_Or_leads_3 (d : Nat) (σ : jS) : b_Or_leads_3 d σ = (b_Or_leads_4 d 0 σ) := (db_eq _ _ _ _ _ _ _).trans rfl
set_option maxRecDepth 100000 in
theorem q_Or_leads_4 (d : Nat) (s0 : Int32) (σ : jS) : b_Or_leads_4 d s0 σ = (if s0 = 0 ∨ s0 = 1 then some (some (.int s0), σ) else none) := (db_eq _ _ _ _ _ _ _).trans rfl
noncomputable def b_Rd_begin_0 (d : Nat) (l1 : Int32) (l2 : Nat) (σ : jS) : jR := db (jd jMT d) 0 k_Rd_begin 0 [(0, .ref 36), (1, .int l1), (2, .ref l2)] [] σ
theorem e_Rd_begin (d : Nat) (l1 : Int32) (l2 : Nat) (σ : jS) : g_Rd_begin (d + 1) l1 l2 σ = b_Rd_begin_0 d l1 l2 σ := rfl
set_option maxRecDepth 100000 in
theorem q_Rd_begin_0 (d : Nat) (l1 : Int32) (l2 : Nat) (σ : jS) : b_Rd_begin_0 d l1 l2 σ = (jc (j_is 6 ((j_setR (j_setI (j_setI σ 36 0 0) 36 1 (-1)) 36 3 l2).2.2 36 3)) ((r_V (g_Te_clear d ((j_setR (j_setI (j_setI σ 36 0 0) 36 1 (-1)) 36 3 l2).2.2 36 3) (j_setR (j_setI (j_setI σ 36 0 0) 36 1 (-1)) 36 3 l2))).bind fun σ1 => (r_V (g_Tk_begin d l1 σ1)).bind fun σ2 => some (none, σ2))) := (db_eq _ _ _ _ _ _ _).trans rfl
noncomputable def b_Rd_goesOn_0 (d : Nat) (σ : jS) : jR := db (jd jMT d) 2 k_Rd_goesOn 0 [(0, .ref 36)] [] σ
noncomputable def b_Rd_goesOn_1 (d : Nat) (σ : jS) : jR := db (jd jMT d) 2 k_Rd_goesOn 1 [] [] σ
noncomputable def b_Rd_goesOn_2 (d : Nat) (s0 : Int32) (σ : jS) : jR := db (jd jMT d) 2 k_Rd_goesOn 2 [] [.int s0] σ
theorem e_Rd_goesOn (d : Nat) (σ : jS) : g_Rd_goesOn (d + 1) σ = b_Rd_goesOn_0 d σ := rfl
set_option maxRecDepth 100000 in
theorem q_Rd_goesOn_0 (d : Nat) (σ : jS) : b_Rd_goesOn_0 d σ = (jif ((σ.1 36 0) = 0) (jif ((σ.1 37 0) = 18) (b_Rd_goesOn_1 d σ) (b_Rd_goesOn_2 d 1 σ)) (b_Rd_goesOn_1 d σ)) := (db_eq _ _ _ _ _ _ _).trans rfl
set_option maxRecDepth 100000 in
theorem q_Rd_goesOn_1 (d : Nat) (σ : jS) : b_Rd_goesOn_1 d σ = (b_Rd_goesOn_2 d 0 σ) := (db_eq _ _ _ _ _ _ _).trans rfl
set_option maxRecDepth 100000 in
theorem q_Rd_goesOn_2 (d : Nat) (s0 : Int32) (σ : jS) : b_Rd_goesOn_2 d s0 σ = (if s0 = 0 ∨ s0 = 1 then some (some (.int s0), σ) else none) := (db_eq _ _ _ _ _ _ _).trans rfl
noncomputable def b_Rd_fails_0 (d : Nat) (l1 : Int32) (σ : jS) : jR := db (jd jMT d) 2 k_Rd_fails 0 [(0, .ref 36), (1, .int l1)] [] σ
theorem e_Rd_fails (d : Nat) (l1 : Int32) (σ : jS) : g_Rd_fails (d + 1) l1 σ = b_Rd_fails_0 d l1 σ := rfl
set_option maxRecDepth 100000 in
theorem q_Rd_fails_0 (d : Nat) (l1 : Int32) (σ : jS) : b_Rd_fails_0 d l1 σ = (some (some (.int 0), (j_setI (j_setI σ 36 0 l1) 36 1 ((j_setI σ 36 0 l1).1 37 1)))) := (db_eq _ _ _ _ _ _ _).trans rfl
noncomputable def b_Rd_passes_0 (d : Nat) (l1 : Int32) (σ : jS) : jR := db (jd jMT d) 2 k_Rd_passes 0 [(0, .ref 36), (1, .int l1)] [] σ
noncomputable def b_Rd_passes_1 (d : Nat) (σ : jS) : jR := db (jd jMT d) 2 k_Rd_passes 1 [(0, .ref 36)] [] σ
theorem e_Rd_passes (d : Nat) (l1 : Int32) (σ : jS) : g_Rd_passes (d + 1) l1 σ = b_Rd_passes_0 d l1 σ := rfl
set_option maxRecDepth 100000 in
theorem q_Rd_passes_0 (d : Nat) (l1 : Int32) (σ : jS) : b_Rd_passes_0 d l1 σ = (jif ((σ.1 37 0) = l1) (b_Rd_passes_1 d σ) ((r_I (g_Rd_fails d 1 σ)).bind fun q1 => if q1.1 = 0 ∨ q1.1 = 1 then some (some (.int q1.1), q1.2) else none)) := (db_eq _ _ _ _ _ _ _).trans rfl
set_option maxRecDepth 100000 in
theorem q_Rd_passes_1 (d : Nat) (σ : jS) : b_Rd_passes_1 d σ = ((r_V (g_Tk_advance d σ)).bind fun σ1 => some (some (.int 1), σ1)) := (db_eq _ _ _ _ _ _ _).trans rfl
noncomputable def b_Rd_readLine_0 (d : Nat) (σ : jS) : jR := db (jd jMT d) 2 k_Rd_readLine 0 [(0, .ref 36)] [] σ
noncomputable def b_Rd_readLine_1 (d : Nat) (σ : jS) : jR := db (jd jMT d) 2 k_Rd_readLine 1 [(0, .ref 36)] [] σ
noncomputable def b_Rd_readLine_2 (d : Nat) (σ : jS) : jR := db (jd jMT d) 2 k_Rd_readLine 2 [] [] σ
noncomputable def b_Rd_readLine_3 (d : Nat) (s0 : Int32) (σ : jS) : jR := db (jd jMT d) 2 k_Rd_readLine 3 [] [.int s0] σ
noncomputable def b_Rd_readLine_4 (d : Nat) (σ : jS) : jR := db (jd jMT d) 2 k_Rd_readLine 4 [(0, .ref 36)] [] σ
noncomputable def b_Rd_readLine_5 (d : Nat) (σ : jS) : jR := db (jd jMT d) 2 k_Rd_readLine 5 [] [] σ
noncomputable def b_Rd_readLine_6 (d : Nat) (s0 : Int32) (σ : jS) : jR := db (jd jMT d) 2 k_Rd_readLine 6 [] [.int s0] σ
noncomputable def b_Rd_readLine_7 (d : Nat) (σ : jS) : jR := db (jd jMT d) 2 k_Rd_readLine 7 [(0, .ref 36)] [] σ
noncomputable def b_Rd_readLine_8 (d : Nat) (σ : jS) : jR := db (jd jMT d) 2 k_Rd_readLine 8 [] [] σ
noncomputable def b_Rd_readLine_9 (d : Nat) (s0 : Int32) (σ : jS) : jR := db (jd jMT d) 2 k_Rd_readLine 9 [] [.int s0] σ
noncomputable def b_Rd_readLine_10 (d : Nat) (σ : jS) : jR := db (jd jMT d) 2 k_Rd_readLine 10 [(0, .ref 36)] [] σ
noncomputable def b_Rd_readLine_11 (d : Nat) (σ : jS) : jR := db (jd jMT d) 2 k_Rd_readLine 11 [] [] σ
noncomputable def b_Rd_readLine_12 (d : Nat) (s0 : Int32) (σ : jS) : jR := db (jd jMT d) 2 k_Rd_readLine 12 [] [.int s0] σ
noncomputable def b_Rd_readLine_13 (d : Nat) (σ : jS) : jR := db (jd jMT d) 2 k_Rd_readLine 13 [(0, .ref 36)] [] σ
noncomputable def b_Rd_readLine_14 (d : Nat) (σ : jS) : jR := db (jd jMT d) 2 k_Rd_readLine 14 [] [] σ
noncomputable def b_Rd_readLine_15 (d : Nat) (s0 : Int32) (σ : jS) : jR := db (jd jMT d) 2 k_Rd_readLine 15 [] [.int s0] σ
noncomputable def b_Rd_readLine_16 (d : Nat) (σ : jS) : jR := db (jd jMT d) 2 k_Rd_readLine 16 [(0, .ref 36)] [] σ
theorem e_Rd_readLine (d : Nat) (σ : jS) : g_Rd_readLine (d + 1) σ = b_Rd_readLine_0 d σ := rfl
set_option maxRecDepth 100000 in
theorem q_Rd_readLine_0 (d : Nat) (σ : jS) : b_Rd_readLine_0 d σ = (jif ((σ.1 37 0) = 6) (b_Rd_readLine_1 d σ) (jif ((σ.1 37 0) = 7) (b_Rd_readLine_16 d σ) (jif ((σ.1 37 0) = 8) (b_Rd_readLine_4 d σ) (jif ((σ.1 37 0) = 9) (b_Rd_readLine_16 d σ) (jif ((σ.1 37 0) = 10) (b_Rd_readLine_16 d σ) (jif ((σ.1 37 0) = 11) (b_Rd_readLine_7 d σ) (jif ((σ.1 37 0) = 12) (b_Rd_readLine_10 d σ) (jif ((σ.1 37 0) = 13) (b_Rd_readLine_13 d σ) (b_Rd_readLine_16 d σ))))))))) := (db_eq _ _ _ _ _ _ _).trans rfl
set_option maxRecDepth 100000 in
theorem q_Rd_readLine_1 (d : Nat) (σ : jS) : b_Rd_readLine_1 d σ = ((r_I (g_Rd_personLine d σ)).bind fun q1 => jif (q1.1 = 0) (b_Rd_readLine_2 d q1.2) ((r_I (g_Rd_passes d 59 q1.2)).bind fun q2 => jif (q2.1 = 0) (b_Rd_readLine_2 d q2.2) (b_Rd_readLine_3 d 1 q2.2))) := (db_eq _ _ _ _ _ _ _).trans rfl
set_option maxRecDepth 100000 in
theorem q_Rd_readLine_2 (d : Nat) (σ : jS) : b_Rd_readLine_2 d σ = (b_Rd_readLine_3 d 0 σ) := (db_eq _ _ _ _ _ _ _).trans rfl
set_option maxRecDepth 100000 in
theorem q_Rd_readLine_3 (d : Nat) (s0 : Int32) (σ : jS) : b_Rd_readLine_3 d s0 σ = (if s0 = 0 ∨ s0 = 1 then some (some (.int s0), σ) else none) := (db_eq _ _ _ _ _ _ _).trans rfl
set_option maxRecDepth 100000 in
theorem q_Rd_readLine_4 (d : Nat) (σ : jS) : b_Rd_readLine_4 d σ = ((r_I (g_Rd_handsLine d σ)).bind fun q1 => jif (q1.1 = 0) (b_Rd_readLine_5 d q1.2) ((r_I (g_Rd_passes d 59 q1.2)).bind fun q2 => jif (q2.1 = 0) (b_Rd_readLine_5 d q2.2) (b_Rd_readLine_6 d 1 q2.2))) := (db_eq _ _ _ _ _ _ _).trans rfl
set_option maxRecDepth 100000 in
theorem q_Rd_readLine_5 (d : Nat) (σ : jS) : b_Rd_readLine_5 d σ = (b_Rd_readLine_6 d 0 σ) := (db_eq _ _ _ _ _ _ _).trans rfl
set_option maxRecDepth 100000 in
theorem q_Rd_readLine_6 (d : Nat) (s0 : Int32) (σ : jS) : b_Rd_readLine_6 d s0 σ = (if s0 = 0 ∨ s0 = 1 then some (some (.int s0), σ) else none) := (db_eq _ _ _ _ _ _ _).trans rfl
set_option maxRecDepth 100000 in
theorem q_Rd_readLine_7 (d : Nat) (σ : jS) : b_Rd_readLine_7 d σ = ((r_I (g_Rd_parcelLine d σ)).bind fun q1 => jif (q1.1 = 0) (b_Rd_readLine_8 d q1.2) ((r_I (g_Rd_passes d 59 q1.2)).bind fun q2 => jif (q2.1 = 0) (b_Rd_readLine_8 d q2.2) (b_Rd_readLine_9 d 1 q2.2))) := (db_eq _ _ _ _ _ _ _).trans rfl
set_option maxRecDepth 100000 in
theorem q_Rd_readLine_8 (d : Nat) (σ : jS) : b_Rd_readLine_8 d σ = (b_Rd_readLine_9 d 0 σ) := (db_eq _ _ _ _ _ _ _).trans rfl
set_option maxRecDepth 100000 in
theorem q_Rd_readLine_9 (d : Nat) (s0 : Int32) (σ : jS) : b_Rd_readLine_9 d s0 σ = (if s0 = 0 ∨ s0 = 1 then some (some (.int s0), σ) else none) := (db_eq _ _ _ _ _ _ _).trans rfl
set_option maxRecDepth 100000 in
theorem q_Rd_readLine_10 (d : Nat) (σ : jS) : b_Rd_readLine_10 d σ = ((r_I (g_Rd_lawLine d σ)).bind fun q1 => jif (q1.1 = 0) (b_Rd_readLine_11 d q1.2) ((r_I (g_Rd_passes d 59 q1.2)).bind fun q2 => jif (q2.1 = 0) (b_Rd_readLine_11 d q2.2) (b_Rd_readLine_12 d 1 q2.2))) := (db_eq _ _ _ _ _ _ _).trans rfl
set_option maxRecDepth 100000 in
theorem q_Rd_readLine_11 (d : Nat) (σ : jS) : b_Rd_readLine_11 d σ = (b_Rd_readLine_12 d 0 σ) := (db_eq _ _ _ _ _ _ _).trans rfl
set_option maxRecDepth 100000 in
theorem q_Rd_readLine_12 (d : Nat) (s0 : Int32) (σ : jS) : b_Rd_readLine_12 d s0 σ = (if s0 = 0 ∨ s0 = 1 then some (some (.int s0), σ) else none) := (db_eq _ _ _ _ _ _ _).trans rfl
set_option maxRecDepth 100000 in
theorem q_Rd_readLine_13 (d : Nat) (σ : jS) : b_Rd_readLine_13 d σ = ((r_I (g_Rd_mayLine d σ)).bind fun q1 => jif (q1.1 = 0) (b_Rd_readLine_14 d q1.2) ((r_I (g_Rd_passes d 59 q1.2)).bind fun q2 => jif (q2.1 = 0) (b_Rd_readLine_14 d q2.2) (b_Rd_readLine_15 d 1 q2.2))) := (db_eq _ _ _ _ _ _ _).trans rfl
set_option maxRecDepth 100000 in
theorem q_Rd_readLine_14 (d : Nat) (σ : jS) : b_Rd_readLine_14 d σ = (b_Rd_readLine_15 d 0 σ) := (db_eq _ _ _ _ _ _ _).trans rfl
set_option maxRecDepth 100000 in
theorem q_Rd_readLine_15 (d : Nat) (s0 : Int32) (σ : jS) : b_Rd_readLine_15 d s0 σ = (if s0 = 0 ∨ s0 = 1 then some (some (.int s0), σ) else none) := (db_eq _ _ _ _ _ _ _).trans rfl
set_option maxRecDepth 100000 in
theorem q_Rd_readLine_16 (d : Nat) (σ : jS) : b_Rd_readLine_16 d σ = ((r_I (g_Rd_fails d 1 σ)).bind fun q1 => if q1.1 = 0 ∨ q1.1 = 1 then some (some (.int q1.1), q1.2) else none) := (db_eq _ _ _ _ _ _ _).trans rfl
noncomputable def b_Rd_personLine_0 (d : Nat) (σ : jS) : jR := db (jd jMT d) 2 k_Rd_personLine 0 [(0, .ref 36)] [] σ
noncomputable def b_Rd_personLine_1 (d : Nat) (σ : jS) : jR := db (jd jMT d) 2 k_Rd_personLine 1 [(0, .ref 36)] [] σ
noncomputable def b_Rd_personLine_2 (d : Nat) (σ : jS) : jR := db (jd jMT d) 2 k_Rd_personLine 2 [] [] σ
noncomputable def b_Rd_personLine_3 (d : Nat) (l1 : Int32) (σ : jS) : jR := db (jd jMT d) 2 k_Rd_personLine 3 [(0, .ref 36), (1, .int l1)] [] σ
noncomputable def b_Rd_personLine_4 (d : Nat) (l2 : Int32) (σ : jS) : jR := db (jd jMT d) 2 k_Rd_personLine 4 [(0, .ref 36), (2, .int l2)] [] σ
noncomputable def b_Rd_personLine_5 (d : Nat) (l2 : Int32) (σ : jS) : jR := db (jd jMT d) 2 k_Rd_personLine 5 [(0, .ref 36), (2, .int l2)] [] σ
theorem e_Rd_personLine (d : Nat) (σ : jS) : g_Rd_personLine (d + 1) σ = b_Rd_personLine_0 d σ := rfl
set_option maxRecDepth 100000 in
theorem q_Rd_personLine_0 (d : Nat) (σ : jS) : b_Rd_personLine_0 d σ = (jc (j_is 6 (σ.2.2 36 3)) (jif ((σ.1 (σ.2.2 36 3) 0) < 10) (b_Rd_personLine_1 d σ) ((r_I (g_Rd_fails d 2 σ)).bind fun q1 => if q1.1 = 0 ∨ q1.1 = 1 then some (some (.int q1.1), q1.2) else none))) := (db_eq _ _ _ _ _ _ _).trans rfl
set_option maxRecDepth 100000 in
theorem q_Rd_personLine_1 (d : Nat) (σ : jS) : b_Rd_personLine_1 d σ = ((r_V (g_Tk_advance d σ)).bind fun σ1 => jc (j_is 6 (σ1.2.2 36 3)) ((r_I (g_Te_personNamed d (σ1.2.2 36 3) (σ1.1 37 2) σ1)).bind fun q2 => (r_I (g_Rd_newName d q2.1 q2.2)).bind fun q3 => jif (q3.1 = 0) (b_Rd_personLine_2 d q3.2) ((r_I (g_Rd_readNumber d 0 99 q3.2)).bind fun q4 => jif (q4.1 = 0) (b_Rd_personLine_2 d q4.2) (b_Rd_personLine_3 d (σ1.1 37 2) q4.2)))) := (db_eq _ _ _ _ _ _ _).trans rfl
set_option maxRecDepth 100000 in
theorem q_Rd_personLine_2 (d : Nat) (σ : jS) : b_Rd_personLine_2 d σ = (some (some (.int 0), σ)) := (db_eq _ _ _ _ _ _ _).trans rfl
set_option maxRecDepth 100000 in
theorem q_Rd_personLine_3 (d : Nat) (l1 : Int32) (σ : jS) : b_Rd_personLine_3 d l1 σ = (jc (j_is 6 (σ.2.2 36 3)) (jc (j_is 6 (σ.2.2 36 3)) ((r_V (g_Te_addPerson d (σ.2.2 36 3) l1 (σ.1 36 4) σ)).bind fun σ1 => jif ((σ1.1 37 0) = 7) (b_Rd_personLine_4 d (σ.1 (σ.2.2 36 3) 0) σ1) (some (some (.int 1), σ1))))) := (db_eq _ _ _ _ _ _ _).trans rfl
set_option maxRecDepth 100000 in
theorem q_Rd_personLine_4 (d : Nat) (l2 : Int32) (σ : jS) : b_Rd_personLine_4 d l2 σ = ((r_V (g_Tk_advance d σ)).bind fun σ1 => (r_I (g_Rd_readNumber d 0 99999 σ1)).bind fun q2 => jif (q2.1 = 0) (some (some (.int 0), q2.2)) (b_Rd_personLine_5 d l2 q2.2)) := (db_eq _ _ _ _ _ _ _).trans rfl
set_option maxRecDepth 100000 in
theorem q_Rd_personLine_5 (d : Nat) (l2 : Int32) (σ : jS) : b_Rd_personLine_5 d l2 σ = (jc (j_is 6 (σ.2.2 36 3)) ((j_wrI σ (j_cr (σ.2.2 36 3) 3) l2 (σ.1 36 4)).bind fun σ1 => some (some (.int 1), σ1))) := (db_eq _ _ _ _ _ _ _).trans rfl
noncomputable def b_Rd_newName_0 (d : Nat) (l1 : Int32) (σ : jS) : jR := db (jd jMT d) 2 k_Rd_newName 0 [(0, .ref 36), (1, .int l1)] [] σ
noncomputable def b_Rd_newName_1 (d : Nat) (l1 : Int32) (σ : jS) : jR := db (jd jMT d) 2 k_Rd_newName 1 [(0, .ref 36), (1, .int l1)] [] σ
noncomputable def b_Rd_newName_2 (d : Nat) (σ : jS) : jR := db (jd jMT d) 2 k_Rd_newName 2 [(0, .ref 36)] [] σ
theorem e_Rd_newName (d : Nat) (l1 : Int32) (σ : jS) : g_Rd_newName (d + 1) l1 σ = b_Rd_newName_0 d l1 σ := rfl
set_option maxRecDepth 100000 in
theorem q_Rd_newName_0 (d : Nat) (l1 : Int32) (σ : jS) : b_Rd_newName_0 d l1 σ = (jif ((σ.1 37 0) = 16) (b_Rd_newName_1 d l1 σ) ((r_I (g_Rd_fails d 1 σ)).bind fun q1 => if q1.1 = 0 ∨ q1.1 = 1 then some (some (.int q1.1), q1.2) else none)) := (db_eq _ _ _ _ _ _ _).trans rfl
set_option maxRecDepth 100000 in
theorem q_Rd_newName_1 (d : Nat) (l1 : Int32) (σ : jS) : b_Rd_newName_1 d l1 σ = (jif (l1 = (-1)) (b_Rd_newName_2 d σ) ((r_I (g_Rd_fails d 3 σ)).bind fun q1 => if q1.1 = 0 ∨ q1.1 = 1 then some (some (.int q1.1), q1.2) else none)) := (db_eq _ _ _ _ _ _ _).trans rfl
set_option maxRecDepth 100000 in
theorem q_Rd_newName_2 (d : Nat) (σ : jS) : b_Rd_newName_2 d σ = ((r_V (g_Tk_advance d σ)).bind fun σ1 => some (some (.int 1), σ1)) := (db_eq _ _ _ _ _ _ _).trans rfl
noncomputable def b_Rd_readNumber_0 (d : Nat) (l1 : Int32) (l2 : Int32) (σ : jS) : jR := db (jd jMT d) 2 k_Rd_readNumber 0 [(0, .ref 36), (1, .int l1), (2, .int l2)] [] σ
noncomputable def b_Rd_readNumber_1 (d : Nat) (l1 : Int32) (l2 : Int32) (σ : jS) : jR := db (jd jMT d) 2 k_Rd_readNumber 1 [(0, .ref 36), (1, .int l1), (2, .int l2)] [] σ
noncomputable def b_Rd_readNumber_2 (d : Nat) (σ : jS) : jR := db (jd jMT d) 2 k_Rd_readNumber 2 [(0, .ref 36)] [] σ
theorem e_Rd_readNumber (d : Nat) (l1 : Int32) (l2 : Int32) (σ : jS) : g_Rd_readNumber (d + 1) l1 l2 σ = b_Rd_readNumber_0 d l1 l2 σ := rfl
set_option maxRecDepth 100000 in
theorem q_Rd_readNumber_0 (d : Nat) (l1 : Int32) (l2 : Int32) (σ : jS) : b_Rd_readNumber_0 d l1 l2 σ = (jif ((σ.1 37 0) = 17) (b_Rd_readNumber_1 d l1 l2 σ) ((r_I (g_Rd_fails d 1 σ)).bind fun q1 => if q1.1 = 0 ∨ q1.1 = 1 then some (some (.int q1.1), q1.2) else none)) := (db_eq _ _ _ _ _ _ _).trans rfl
set_option maxRecDepth 100000 in
theorem q_Rd_readNumber_1 (d : Nat) (l1 : Int32) (l2 : Int32) (σ : jS) : b_Rd_readNumber_1 d l1 l2 σ = ((r_I (g_HH_within d (σ.1 37 2) l1 l2 σ)).bind fun q1 => jif (q1.1 = 0) ((r_I (g_Rd_fails d 2 q1.2)).bind fun q2 => if q2.1 = 0 ∨ q2.1 = 1 then some (some (.int q2.1), q2.2) else none) (b_Rd_readNumber_2 d q1.2)) := (db_eq _ _ _ _ _ _ _).trans rfl
set_option maxRecDepth 100000 in
theorem q_Rd_readNumber_2 (d : Nat) (σ : jS) : b_Rd_readNumber_2 d σ = ((r_V (g_Tk_advance d (j_setI σ 36 4 (σ.1 37 2)))).bind fun σ1 => some (some (.int 1), σ1)) := (db_eq _ _ _ _ _ _ _).trans rfl
noncomputable def b_Rd_handsLine_0 (d : Nat) (σ : jS) : jR := db (jd jMT d) 2 k_Rd_handsLine 0 [(0, .ref 36)] [] σ
noncomputable def b_Rd_handsLine_1 (d : Nat) (l1 : Int32) (σ : jS) : jR := db (jd jMT d) 2 k_Rd_handsLine 1 [(0, .ref 36), (1, .int l1)] [] σ
noncomputable def b_Rd_handsLine_2 (d : Nat) (l1 : Int32) (σ : jS) : jR := db (jd jMT d) 2 k_Rd_handsLine 2 [(0, .ref 36), (1, .int l1)] [] σ
noncomputable def b_Rd_handsLine_3 (d : Nat) (σ : jS) : jR := db (jd jMT d) 2 k_Rd_handsLine 3 [] [] σ
noncomputable def b_Rd_handsLine_4 (d : Nat) (l1 : Int32) (σ : jS) : jR := db (jd jMT d) 2 k_Rd_handsLine 4 [(0, .ref 36), (1, .int l1)] [] σ
noncomputable def b_Rd_handsLine_5 (d : Nat) (l1 : Int32) (l2 : Int32) (σ : jS) : jR := db (jd jMT d) 2 k_Rd_handsLine 5 [(0, .ref 36), (1, .int l1), (2, .int l2)] [] σ
noncomputable def b_Rd_handsLine_6 (d : Nat) (l1 : Int32) (l2 : Int32) (σ : jS) : jR := db (jd jMT d) 2 k_Rd_handsLine 6 [(0, .ref 36), (1, .int l1), (2, .int l2)] [] σ
noncomputable def b_Rd_handsLine_7 (d : Nat) (σ : jS) : jR := db (jd jMT d) 2 k_Rd_handsLine 7 [] [] σ
theorem e_Rd_handsLine (d : Nat) (σ : jS) : g_Rd_handsLine (d + 1) σ = b_Rd_handsLine_0 d σ := rfl
set_option maxRecDepth 100000 in
theorem q_Rd_handsLine_0 (d : Nat) (σ : jS) : b_Rd_handsLine_0 d σ = ((r_V (g_Tk_advance d σ)).bind fun σ1 => (r_I (g_Rd_toldPerson d σ1)).bind fun q2 => jif (q2.1 = (-1)) (some (some (.int 0), q2.2)) (b_Rd_handsLine_1 d q2.1 q2.2)) := (db_eq _ _ _ _ _ _ _).trans rfl
set_option maxRecDepth 100000 in
theorem q_Rd_handsLine_1 (d : Nat) (l1 : Int32) (σ : jS) : b_Rd_handsLine_1 d l1 σ = (jc (j_is 6 (σ.2.2 36 3)) ((j_rdI 0 σ (j_cr (σ.2.2 36 3) 4) l1).bind fun x1 => jif (x1 ≤ 0) (b_Rd_handsLine_2 d l1 σ) ((r_I (g_Rd_fails d 3 σ)).bind fun q2 => if q2.1 = 0 ∨ q2.1 = 1 then some (some (.int q2.1), q2.2) else none))) := (db_eq _ _ _ _ _ _ _).trans rfl
set_option maxRecDepth 100000 in
theorem q_Rd_handsLine_2 (d : Nat) (l1 : Int32) (σ : jS) : b_Rd_handsLine_2 d l1 σ = ((r_V (g_Tk_advance d σ)).bind fun σ1 => (r_I (g_Rd_passes d 9 σ1)).bind fun q2 => jif (q2.1 = 0) (b_Rd_handsLine_3 d q2.2) ((r_I (g_Rd_heirOf d l1 q2.2)).bind fun q3 => jif (q3.1 = 0) (b_Rd_handsLine_3 d q3.2) (b_Rd_handsLine_4 d l1 q3.2))) := (db_eq _ _ _ _ _ _ _).trans rfl
set_option maxRecDepth 100000 in
theorem q_Rd_handsLine_3 (d : Nat) (σ : jS) : b_Rd_handsLine_3 d σ = (some (some (.int 0), σ)) := (db_eq _ _ _ _ _ _ _).trans rfl
set_option maxRecDepth 100000 in
theorem q_Rd_handsLine_4 (d : Nat) (l1 : Int32) (σ : jS) : b_Rd_handsLine_4 d l1 σ = (b_Rd_handsLine_5 d l1 0 σ) := (db_eq _ _ _ _ _ _ _).trans rfl
set_option maxRecDepth 100000 in
theorem q_Rd_handsLine_5 (d : Nat) (l1 : Int32) (l2 : Int32) (σ : jS) : b_Rd_handsLine_5 d l1 l2 σ = (jif (3 ≤ l2) (b_Rd_handsLine_7 d σ) (jif ((σ.1 37 0) = 10) ((r_V (g_Tk_advance d σ)).bind fun σ1 => (r_I (g_Rd_heirOf d l1 σ1)).bind fun q2 => jif (q2.1 = 0) (some (some (.int 0), q2.2)) (b_Rd_handsLine_6 d l1 l2 q2.2)) (b_Rd_handsLine_7 d σ))) := (db_eq _ _ _ _ _ _ _).trans rfl
set_option maxRecDepth 100000 in
theorem q_Rd_handsLine_6 (d : Nat) (l1 : Int32) (l2 : Int32) (σ : jS) : b_Rd_handsLine_6 d l1 l2 σ = (b_Rd_handsLine_5 d l1 (l2 + 1) σ) := (db_eq _ _ _ _ _ _ _).trans rfl
set_option maxRecDepth 100000 in
theorem q_Rd_handsLine_7 (d : Nat) (σ : jS) : b_Rd_handsLine_7 d σ = (some (some (.int 1), σ)) := (db_eq _ _ _ _ _ _ _).trans rfl
noncomputable def b_Rd_toldPerson_0 (d : Nat) (σ : jS) : jR := db (jd jMT d) 1 k_Rd_toldPerson 0 [(0, .ref 36)] [] σ
noncomputable def b_Rd_toldPerson_1 (d : Nat) (σ : jS) : jR := db (jd jMT d) 1 k_Rd_toldPerson 1 [(0, .ref 36)] [] σ
noncomputable def b_Rd_toldPerson_2 (d : Nat) (s0 : Int32) (σ : jS) : jR := db (jd jMT d) 1 k_Rd_toldPerson 2 [(0, .ref 36)] [.int s0] σ
noncomputable def b_Rd_toldPerson_3 (d : Nat) (l1 : Int32) (σ : jS) : jR := db (jd jMT d) 1 k_Rd_toldPerson 3 [(1, .int l1)] [.ref 36] σ
noncomputable def b_Rd_toldPerson_4 (d : Nat) (l1 : Int32) (s1 : Int32) (σ : jS) : jR := db (jd jMT d) 1 k_Rd_toldPerson 4 [(1, .int l1)] [.int s1, .ref 36] σ
noncomputable def b_Rd_toldPerson_5 (d : Nat) (l1 : Int32) (σ : jS) : jR := db (jd jMT d) 1 k_Rd_toldPerson 5 [(1, .int l1)] [] σ
theorem e_Rd_toldPerson (d : Nat) (σ : jS) : g_Rd_toldPerson (d + 1) σ = b_Rd_toldPerson_0 d σ := rfl
set_option maxRecDepth 100000 in
theorem q_Rd_toldPerson_0 (d : Nat) (σ : jS) : b_Rd_toldPerson_0 d σ = (jif ((σ.1 37 0) = 16) (jc (j_is 6 (σ.2.2 36 3)) ((r_I (g_Te_personNamed d (σ.2.2 36 3) (σ.1 37 2) σ)).bind fun q1 => b_Rd_toldPerson_2 d q1.1 q1.2)) (b_Rd_toldPerson_1 d σ)) := (db_eq _ _ _ _ _ _ _).trans rfl
set_option maxRecDepth 100000 in
theorem q_Rd_toldPerson_1 (d : Nat) (σ : jS) : b_Rd_toldPerson_1 d σ = (b_Rd_toldPerson_2 d (-1) σ) := (db_eq _ _ _ _ _ _ _).trans rfl
set_option maxRecDepth 100000 in
theorem q_Rd_toldPerson_2 (d : Nat) (s0 : Int32) (σ : jS) : b_Rd_toldPerson_2 d s0 σ = (jif (s0 = (-1)) (jif ((σ.1 37 0) = 16) (b_Rd_toldPerson_4 d s0 4 σ) (b_Rd_toldPerson_3 d s0 σ)) (b_Rd_toldPerson_5 d s0 σ)) := (db_eq _ _ _ _ _ _ _).trans rfl
set_option maxRecDepth 100000 in
theorem q_Rd_toldPerson_3 (d : Nat) (l1 : Int32) (σ : jS) : b_Rd_toldPerson_3 d l1 σ = (b_Rd_toldPerson_4 d l1 1 σ) := (db_eq _ _ _ _ _ _ _).trans rfl
set_option maxRecDepth 100000 in
theorem q_Rd_toldPerson_4 (d : Nat) (l1 : Int32) (s1 : Int32) (σ : jS) : b_Rd_toldPerson_4 d l1 s1 σ = ((r_I (g_Rd_fails d s1 σ)).bind fun q1 => b_Rd_toldPerson_5 d l1 q1.2) := (db_eq _ _ _ _ _ _ _).trans rfl
set_option maxRecDepth 100000 in
theorem q_Rd_toldPerson_5 (d : Nat) (l1 : Int32) (σ : jS) : b_Rd_toldPerson_5 d l1 σ = (some (some (.int l1), σ)) := (db_eq _ _ _ _ _ _ _).trans rfl
noncomputable def b_Rd_heirOf_0 (d : Nat) (l1 : Int32) (σ : jS) : jR := db (jd jMT d) 2 k_Rd_heirOf 0 [(0, .ref 36), (1, .int l1)] [] σ
noncomputable def b_Rd_heirOf_1 (d : Nat) (l1 : Int32) (σ : jS) : jR := db (jd jMT d) 2 k_Rd_heirOf 1 [(0, .ref 36), (1, .int l1)] [] σ
noncomputable def b_Rd_heirOf_2 (d : Nat) (l1 : Int32) (σ : jS) : jR := db (jd jMT d) 2 k_Rd_heirOf 2 [(0, .ref 36), (1, .int l1)] [] σ
noncomputable def b_Rd_heirOf_3 (d : Nat) (l1 : Int32) (l2 : Int32) (σ : jS) : jR := db (jd jMT d) 2 k_Rd_heirOf 3 [(0, .ref 36), (1, .int l1), (2, .int l2)] [] σ
noncomputable def b_Rd_heirOf_4 (d : Nat) (l1 : Int32) (l2 : Int32) (σ : jS) : jR := db (jd jMT d) 2 k_Rd_heirOf 4 [(0, .ref 36), (1, .int l1), (2, .int l2)] [] σ
noncomputable def b_Rd_heirOf_5 (d : Nat) (l1 : Int32) (l2 : Int32) (σ : jS) : jR := db (jd jMT d) 2 k_Rd_heirOf 5 [(0, .ref 36), (1, .int l1), (2, .int l2)] [] σ
theorem e_Rd_heirOf (d : Nat) (l1 : Int32) (σ : jS) : g_Rd_heirOf (d + 1) l1 σ = b_Rd_heirOf_0 d l1 σ := rfl
set_option maxRecDepth 100000 in
theorem q_Rd_heirOf_0 (d : Nat) (l1 : Int32) (σ : jS) : b_Rd_heirOf_0 d l1 σ = (jif ((σ.1 37 0) = 16) (b_Rd_heirOf_1 d l1 σ) ((r_I (g_Rd_fails d 1 σ)).bind fun q1 => if q1.1 = 0 ∨ q1.1 = 1 then some (some (.int q1.1), q1.2) else none)) := (db_eq _ _ _ _ _ _ _).trans rfl
set_option maxRecDepth 100000 in
theorem q_Rd_heirOf_1 (d : Nat) (l1 : Int32) (σ : jS) : b_Rd_heirOf_1 d l1 σ = (jc (j_is 6 (σ.2.2 36 3)) ((j_rdI 0 σ (j_cr (σ.2.2 36 3) 4) l1).bind fun x1 => jif (x1 < 3) (b_Rd_heirOf_2 d l1 σ) ((r_I (g_Rd_fails d 2 σ)).bind fun q2 => if q2.1 = 0 ∨ q2.1 = 1 then some (some (.int q2.1), q2.2) else none))) := (db_eq _ _ _ _ _ _ _).trans rfl
set_option maxRecDepth 100000 in
theorem q_Rd_heirOf_2 (d : Nat) (l1 : Int32) (σ : jS) : b_Rd_heirOf_2 d l1 σ = (jc (j_is 6 (σ.2.2 36 3)) ((r_I (g_Te_personNamed d (σ.2.2 36 3) (σ.1 37 2) σ)).bind fun q1 => jif (q1.1 = (-1)) ((r_I (g_Rd_fails d 4 q1.2)).bind fun q2 => if q2.1 = 0 ∨ q2.1 = 1 then some (some (.int q2.1), q2.2) else none) (b_Rd_heirOf_3 d l1 q1.1 q1.2))) := (db_eq _ _ _ _ _ _ _).trans rfl
set_option maxRecDepth 100000 in
theorem q_Rd_heirOf_3 (d : Nat) (l1 : Int32) (l2 : Int32) (σ : jS) : b_Rd_heirOf_3 d l1 l2 σ = (jc (j_is 6 (σ.2.2 36 3)) ((r_I (g_Te_handsTo d (σ.2.2 36 3) l1 l2 σ)).bind fun q1 => jif (q1.1 = 0) (b_Rd_heirOf_4 d l1 l2 q1.2) ((r_I (g_Rd_fails d 3 q1.2)).bind fun q2 => if q2.1 = 0 ∨ q2.1 = 1 then some (some (.int q2.1), q2.2) else none))) := (db_eq _ _ _ _ _ _ _).trans rfl
set_option maxRecDepth 100000 in
theorem q_Rd_heirOf_4 (d : Nat) (l1 : Int32) (l2 : Int32) (σ : jS) : b_Rd_heirOf_4 d l1 l2 σ = (jif (l2 = l1) ((r_I (g_Rd_fails d 5 σ)).bind fun q1 => if q1.1 = 0 ∨ q1.1 = 1 then some (some (.int q1.1), q1.2) else none) (b_Rd_heirOf_5 d l1 l2 σ)) := (db_eq _ _ _ _ _ _ _).trans rfl
set_option maxRecDepth 100000 in
theorem q_Rd_heirOf_5 (d : Nat) (l1 : Int32) (l2 : Int32) (σ : jS) : b_Rd_heirOf_5 d l1 l2 σ = (jc (j_is 6 (σ.2.2 36 3)) ((r_V (g_Te_addHeir d (σ.2.2 36 3) l1 l2 σ)).bind fun σ1 => (r_V (g_Tk_advance d σ1)).bind fun σ2 => some (some (.int 1), σ2))) := (db_eq _ _ _ _ _ _ _).trans rfl
noncomputable def b_Rd_parcelLine_0 (d : Nat) (σ : jS) : jR := db (jd jMT d) 2 k_Rd_parcelLine 0 [(0, .ref 36)] [] σ
noncomputable def b_Rd_parcelLine_1 (d : Nat) (σ : jS) : jR := db (jd jMT d) 2 k_Rd_parcelLine 1 [(0, .ref 36)] [] σ
noncomputable def b_Rd_parcelLine_2 (d : Nat) (l1 : Int32) (σ : jS) : jR := db (jd jMT d) 2 k_Rd_parcelLine 2 [(0, .ref 36), (1, .int l1)] [] σ
noncomputable def b_Rd_parcelLine_3 (d : Nat) (l1 : Int32) (σ : jS) : jR := db (jd jMT d) 2 k_Rd_parcelLine 3 [(0, .ref 36), (1, .int l1)] [] σ
noncomputable def b_Rd_parcelLine_4 (d : Nat) (l1 : Int32) (l2 : Int32) (σ : jS) : jR := db (jd jMT d) 2 k_Rd_parcelLine 4 [(0, .ref 36), (1, .int l1), (2, .int l2)] [] σ
theorem e_Rd_parcelLine (d : Nat) (σ : jS) : g_Rd_parcelLine (d + 1) σ = b_Rd_parcelLine_0 d σ := rfl
set_option maxRecDepth 100000 in
theorem q_Rd_parcelLine_0 (d : Nat) (σ : jS) : b_Rd_parcelLine_0 d σ = (jc (j_is 6 (σ.2.2 36 3)) (jif ((σ.1 (σ.2.2 36 3) 6) < 12) (b_Rd_parcelLine_1 d σ) ((r_I (g_Rd_fails d 2 σ)).bind fun q1 => if q1.1 = 0 ∨ q1.1 = 1 then some (some (.int q1.1), q1.2) else none))) := (db_eq _ _ _ _ _ _ _).trans rfl
set_option maxRecDepth 100000 in
theorem q_Rd_parcelLine_1 (d : Nat) (σ : jS) : b_Rd_parcelLine_1 d σ = ((r_V (g_Tk_advance d σ)).bind fun σ1 => (r_I (g_Rd_toldPerson d σ1)).bind fun q2 => jif (q2.1 = (-1)) (some (some (.int 0), q2.2)) (b_Rd_parcelLine_2 d q2.1 q2.2)) := (db_eq _ _ _ _ _ _ _).trans rfl
set_option maxRecDepth 100000 in
theorem q_Rd_parcelLine_2 (d : Nat) (l1 : Int32) (σ : jS) : b_Rd_parcelLine_2 d l1 σ = ((r_V (g_Tk_advance d σ)).bind fun σ1 => (r_I (g_Rd_readNumber d 1 99999 σ1)).bind fun q2 => jif (q2.1 = 0) (some (some (.int 0), q2.2)) (b_Rd_parcelLine_3 d l1 q2.2)) := (db_eq _ _ _ _ _ _ _).trans rfl
set_option maxRecDepth 100000 in
theorem q_Rd_parcelLine_3 (d : Nat) (l1 : Int32) (σ : jS) : b_Rd_parcelLine_3 d l1 σ = ((r_I (g_Rd_readNumber d 0 999 σ)).bind fun q1 => jif (q1.1 = 0) (some (some (.int 0), q1.2)) (b_Rd_parcelLine_4 d l1 (σ.1 36 4) q1.2)) := (db_eq _ _ _ _ _ _ _).trans rfl
set_option maxRecDepth 100000 in
theorem q_Rd_parcelLine_4 (d : Nat) (l1 : Int32) (l2 : Int32) (σ : jS) : b_Rd_parcelLine_4 d l1 l2 σ = (jc (j_is 6 (σ.2.2 36 3)) ((r_V (g_Te_addParcel d (σ.2.2 36 3) l1 l2 (σ.1 36 4) σ)).bind fun σ1 => some (some (.int 1), σ1))) := (db_eq _ _ _ _ _ _ _).trans rfl
noncomputable def b_Rd_lawLine_0 (d : Nat) (σ : jS) : jR := db (jd jMT d) 2 k_Rd_lawLine 0 [(0, .ref 36)] [] σ
noncomputable def b_Rd_lawLine_1 (d : Nat) (σ : jS) : jR := db (jd jMT d) 2 k_Rd_lawLine 1 [(0, .ref 36)] [] σ
theorem e_Rd_lawLine (d : Nat) (σ : jS) : g_Rd_lawLine (d + 1) σ = b_Rd_lawLine_0 d σ := rfl
set_option maxRecDepth 100000 in
theorem q_Rd_lawLine_0 (d : Nat) (σ : jS) : b_Rd_lawLine_0 d σ = (jc (j_is 6 (σ.2.2 36 3)) (jc (j_is 1 (j_cr (σ.2.2 36 3) 12)) (jif ((σ.1 (j_cr (σ.2.2 36 3) 12) 1) = 0) (b_Rd_lawLine_1 d σ) ((r_I (g_Rd_fails d 3 σ)).bind fun q1 => if q1.1 = 0 ∨ q1.1 = 1 then some (some (.int q1.1), q1.2) else none)))) := (db_eq _ _ _ _ _ _ _).trans rfl
set_option maxRecDepth 100000 in
theorem q_Rd_lawLine_1 (d : Nat) (σ : jS) : b_Rd_lawLine_1 d σ = ((r_V (g_Tk_advance d σ)).bind fun σ1 => jc (j_is 6 (σ1.2.2 36 3)) (jc (j_is 1 (j_cr (σ1.2.2 36 3) 12)) (jc (j_is 6 ((j_setI σ1 (j_cr (σ1.2.2 36 3) 12) 1 1).2.2 36 3)) (jc (j_is 1 (j_cr ((j_setI σ1 (j_cr (σ1.2.2 36 3) 12) 1 1).2.2 36 3) 12)) ((r_V (g_La_open d (j_cr ((j_setI σ1 (j_cr (σ1.2.2 36 3) 12) 1 1).2.2 36 3) 12) 4 (j_setI σ1 (j_cr (σ1.2.2 36 3) 12) 1 1))).bind fun σ2 => (r_I (g_Rd_expression d 0 0 σ2)).bind fun q3 => jc (j_is 6 (q3.2.2.2 36 3)) (jc (j_is 1 (j_cr (q3.2.2.2 36 3) 12)) ((r_V (g_La_close d (j_cr (q3.2.2.2 36 3) 12) 4 q3.2)).bind fun σ4 => if q3.1 = 0 ∨ q3.1 = 1 then some (some (.int q3.1), σ4) else none))))))) := (db_eq _ _ _ _ _ _ _).trans rfl
noncomputable def b_Rd_mayLine_0 (d : Nat) (σ : jS) : jR := db (jd jMT d) 2 k_Rd_mayLine 0 [(0, .ref 36)] [] σ
noncomputable def b_Rd_mayLine_1 (d : Nat) (σ : jS) : jR := db (jd jMT d) 2 k_Rd_mayLine 1 [(0, .ref 36)] [] σ
noncomputable def b_Rd_mayLine_2 (d : Nat) (l1 : Int32) (σ : jS) : jR := db (jd jMT d) 2 k_Rd_mayLine 2 [(0, .ref 36), (1, .int l1)] [] σ
theorem e_Rd_mayLine (d : Nat) (σ : jS) : g_Rd_mayLine (d + 1) σ = b_Rd_mayLine_0 d σ := rfl
set_option maxRecDepth 100000 in
theorem q_Rd_mayLine_0 (d : Nat) (σ : jS) : b_Rd_mayLine_0 d σ = (jc (j_is 6 (σ.2.2 36 3)) (jif ((σ.1 (σ.2.2 36 3) 10) < 4) (b_Rd_mayLine_1 d σ) ((r_I (g_Rd_fails d 2 σ)).bind fun q1 => if q1.1 = 0 ∨ q1.1 = 1 then some (some (.int q1.1), q1.2) else none))) := (db_eq _ _ _ _ _ _ _).trans rfl
set_option maxRecDepth 100000 in
theorem q_Rd_mayLine_1 (d : Nat) (σ : jS) : b_Rd_mayLine_1 d σ = ((r_V (g_Tk_advance d σ)).bind fun σ1 => jc (j_is 6 (σ1.2.2 36 3)) ((r_I (g_Te_mayNamed d (σ1.2.2 36 3) (σ1.1 37 2) σ1)).bind fun q2 => (r_I (g_Rd_newName d q2.1 q2.2)).bind fun q3 => jif (q3.1 = 0) (some (some (.int 0), q3.2)) (b_Rd_mayLine_2 d (σ1.1 37 2) q3.2))) := (db_eq _ _ _ _ _ _ _).trans rfl
set_option maxRecDepth 100000 in
theorem q_Rd_mayLine_2 (d : Nat) (l1 : Int32) (σ : jS) : b_Rd_mayLine_2 d l1 σ = (jc (j_is 6 (σ.2.2 36 3)) (jc (j_is 6 (σ.2.2 36 3)) (jc (j_is 1 (j_cr (σ.2.2 36 3) 12)) ((r_V (g_La_open d (j_cr (σ.2.2 36 3) 12) (σ.1 (σ.2.2 36 3) 10) σ)).bind fun σ1 => (r_I (g_Rd_expression d 0 0 σ1)).bind fun q2 => jc (j_is 6 (q2.2.2.2 36 3)) (jc (j_is 6 (q2.2.2.2 36 3)) (jc (j_is 1 (j_cr (q2.2.2.2 36 3) 12)) ((r_V (g_La_close d (j_cr (q2.2.2.2 36 3) 12) (q2.2.1 (q2.2.2.2 36 3) 10) q2.2)).bind fun σ3 => jc (j_is 6 (σ3.2.2 36 3)) ((r_V (g_Te_addMay d (σ3.2.2 36 3) l1 σ3)).bind fun σ4 => if q2.1 = 0 ∨ q2.1 = 1 then some (some (.int q2.1), σ4) else none)))))))) := (db_eq _ _ _ _ _ _ _).trans rfl
noncomputable def b_Rd_expression_0 (d : Nat) (l1 : Int32) (l2 : Int32) (σ : jS) : jR := db (jd jMT d) 2 k_Rd_expression 0 [(0, .ref 36), (1, .int l1), (2, .int l2)] [] σ
noncomputable def b_Rd_expression_1 (d : Nat) (l1 : Int32) (l2 : Int32) (σ : jS) : jR := db (jd jMT d) 2 k_Rd_expression 1 [(0, .ref 36), (1, .int l1), (2, .int l2)] [] σ
noncomputable def b_Rd_expression_2 (d : Nat) (l1 : Int32) (l2 : Int32) (σ : jS) : jR := db (jd jMT d) 2 k_Rd_expression 2 [(0, .ref 36), (1, .int l1), (2, .int l2)] [] σ
noncomputable def b_Rd_expression_3 (d : Nat) (l1 : Int32) (l2 : Int32) (σ : jS) : jR := db (jd jMT d) 2 k_Rd_expression 3 [(0, .ref 36), (1, .int l1), (2, .int l2)] [] σ
noncomputable def b_Rd_expression_4 (d : Nat) (l1 : Int32) (l2 : Int32) (σ : jS) : jR := db (jd jMT d) 2 k_Rd_expression 4 [(0, .ref 36), (1, .int l1), (2, .int l2)] [] σ
noncomputable def b_Rd_expression_5 (d : Nat) (l1 : Int32) (l2 : Int32) (s0 : Int32) (σ : jS) : jR := db (jd jMT d) 2 k_Rd_expression 5 [(0, .ref 36), (1, .int l1), (2, .int l2)] [.int s0] σ
noncomputable def b_Rd_expression_6 (d : Nat) (l1 : Int32) (l2 : Int32) (l3 : Int32) (l4 : Int32) (σ : jS) : jR := db (jd jMT d) 2 k_Rd_expression 6 [(0, .ref 36), (1, .int l1), (2, .int l2), (3, .int l3), (4, .int l4)] [] σ
noncomputable def b_Rd_expression_7 (d : Nat) (σ : jS) : jR := db (jd jMT d) 2 k_Rd_expression 7 [] [] σ
noncomputable def b_Rd_expression_8 (d : Nat) (l1 : Int32) (l2 : Int32) (l3 : Int32) (l4 : Int32) (l5 : Int32) (σ : jS) : jR := db (jd jMT d) 2 k_Rd_expression 8 [(0, .ref 36), (1, .int l1), (2, .int l2), (3, .int l3), (4, .int l4), (5, .int l5)] [] σ
noncomputable def b_Rd_expression_9 (d : Nat) (σ : jS) : jR := db (jd jMT d) 2 k_Rd_expression 9 [] [] σ
theorem e_Rd_expression (d : Nat) (l1 : Int32) (l2 : Int32) (σ : jS) : g_Rd_expression (d + 1) l1 l2 σ = b_Rd_expression_0 d l1 l2 σ := rfl
set_option maxRecDepth 100000 in
theorem q_Rd_expression_0 (d : Nat) (l1 : Int32) (l2 : Int32) (σ : jS) : b_Rd_expression_0 d l1 l2 σ = (jif (l1 = 2) ((r_I (g_Rd_denial d l2 σ)).bind fun q1 => if q1.1 = 0 ∨ q1.1 = 1 then some (some (.int q1.1), q1.2) else none) (b_Rd_expression_1 d l1 l2 σ)) := (db_eq _ _ _ _ _ _ _).trans rfl
set_option maxRecDepth 100000 in
theorem q_Rd_expression_1 (d : Nat) (l1 : Int32) (l2 : Int32) (σ : jS) : b_Rd_expression_1 d l1 l2 σ = (jif (l1 < 6) (b_Rd_expression_2 d l1 l2 σ) ((r_I (g_Rd_operand d l2 σ)).bind fun q1 => if q1.1 = 0 ∨ q1.1 = 1 then some (some (.int q1.1), q1.2) else none)) := (db_eq _ _ _ _ _ _ _).trans rfl
set_option maxRecDepth 100000 in
theorem q_Rd_expression_2 (d : Nat) (l1 : Int32) (l2 : Int32) (σ : jS) : b_Rd_expression_2 d l1 l2 σ = ((r_I (g_Rd_expression d (l1 + 1) l2 σ)).bind fun q1 => jif (q1.1 = 0) (some (some (.int 0), q1.2)) (b_Rd_expression_3 d l1 l2 q1.2)) := (db_eq _ _ _ _ _ _ _).trans rfl
set_option maxRecDepth 100000 in
theorem q_Rd_expression_3 (d : Nat) (l1 : Int32) (l2 : Int32) (σ : jS) : b_Rd_expression_3 d l1 l2 σ = (jif (l1 = 3) (b_Rd_expression_5 d l1 l2 1 σ) (b_Rd_expression_4 d l1 l2 σ)) := (db_eq _ _ _ _ _ _ _).trans rfl
set_option maxRecDepth 100000 in
theorem q_Rd_expression_4 (d : Nat) (l1 : Int32) (l2 : Int32) (σ : jS) : b_Rd_expression_4 d l1 l2 σ = (b_Rd_expression_5 d l1 l2 64 σ) := (db_eq _ _ _ _ _ _ _).trans rfl
set_option maxRecDepth 100000 in
theorem q_Rd_expression_5 (d : Nat) (l1 : Int32) (l2 : Int32) (s0 : Int32) (σ : jS) : b_Rd_expression_5 d l1 l2 s0 σ = (b_Rd_expression_6 d l1 l2 s0 0 σ) := (db_eq _ _ _ _ _ _ _).trans rfl
set_option maxRecDepth 100000 in
theorem q_Rd_expression_6 (d : Nat) (l1 : Int32) (l2 : Int32) (l3 : Int32) (l4 : Int32) (σ : jS) : b_Rd_expression_6 d l1 l2 l3 l4 σ = (jif (l3 ≤ l4) (b_Rd_expression_9 d σ) ((r_I (g_Rd_joins d l1 (σ.1 37 0) σ)).bind fun q1 => jif (q1.1 = 0) (b_Rd_expression_9 d q1.2) ((r_I (g_Rd_passKnot d q1.2)).bind fun q2 => jif (q2.1 = 0) (b_Rd_expression_7 d q2.2) ((r_I (g_Rd_expression d (l1 + 1) l2 q2.2)).bind fun q3 => jif (q3.1 = 0) (b_Rd_expression_7 d q3.2) (b_Rd_expression_8 d l1 l2 l3 l4 (q1.2.1 37 0) q3.2))))) := (db_eq _ _ _ _ _ _ _).trans rfl
set_option maxRecDepth 100000 in
theorem q_Rd_expression_7 (d : Nat) (σ : jS) : b_Rd_expression_7 d σ = (some (some (.int 0), σ)) := (db_eq _ _ _ _ _ _ _).trans rfl
set_option maxRecDepth 100000 in
theorem q_Rd_expression_8 (d : Nat) (l1 : Int32) (l2 : Int32) (l3 : Int32) (l4 : Int32) (l5 : Int32) (σ : jS) : b_Rd_expression_8 d l1 l2 l3 l4 l5 σ = (jc (j_is 6 (σ.2.2 36 3)) (jc (j_is 1 (j_cr (σ.2.2 36 3) 12)) ((r_V (g_La_write d (j_cr (σ.2.2 36 3) 12) l5 0 σ)).bind fun σ1 => b_Rd_expression_6 d l1 l2 l3 (l4 + 1) σ1))) := (db_eq _ _ _ _ _ _ _).trans rfl
set_option maxRecDepth 100000 in
theorem q_Rd_expression_9 (d : Nat) (σ : jS) : b_Rd_expression_9 d σ = (some (some (.int 1), σ)) := (db_eq _ _ _ _ _ _ _).trans rfl
noncomputable def b_Rd_joins_0 (d : Nat) (l0 : Int32) (l1 : Int32) (σ : jS) : jR := db (jd jMT d) 2 k_Rd_joins 0 [(0, .int l0), (1, .int l1)] [] σ
noncomputable def b_Rd_joins_1 (d : Nat) (l1 : Int32) (σ : jS) : jR := db (jd jMT d) 2 k_Rd_joins 1 [(1, .int l1)] [] σ
noncomputable def b_Rd_joins_2 (d : Nat) (σ : jS) : jR := db (jd jMT d) 2 k_Rd_joins 2 [] [] σ
noncomputable def b_Rd_joins_3 (d : Nat) (s0 : Int32) (σ : jS) : jR := db (jd jMT d) 2 k_Rd_joins 3 [] [.int s0] σ
noncomputable def b_Rd_joins_4 (d : Nat) (l1 : Int32) (σ : jS) : jR := db (jd jMT d) 2 k_Rd_joins 4 [(1, .int l1)] [] σ
noncomputable def b_Rd_joins_5 (d : Nat) (σ : jS) : jR := db (jd jMT d) 2 k_Rd_joins 5 [] [] σ
noncomputable def b_Rd_joins_6 (d : Nat) (s0 : Int32) (σ : jS) : jR := db (jd jMT d) 2 k_Rd_joins 6 [] [.int s0] σ
noncomputable def b_Rd_joins_7 (d : Nat) (l1 : Int32) (σ : jS) : jR := db (jd jMT d) 2 k_Rd_joins 7 [(1, .int l1)] [] σ
noncomputable def b_Rd_joins_8 (d : Nat) (l1 : Int32) (σ : jS) : jR := db (jd jMT d) 2 k_Rd_joins 8 [(1, .int l1)] [] σ
noncomputable def b_Rd_joins_9 (d : Nat) (σ : jS) : jR := db (jd jMT d) 2 k_Rd_joins 9 [] [] σ
noncomputable def b_Rd_joins_10 (d : Nat) (σ : jS) : jR := db (jd jMT d) 2 k_Rd_joins 10 [] [] σ
noncomputable def b_Rd_joins_11 (d : Nat) (s0 : Int32) (σ : jS) : jR := db (jd jMT d) 2 k_Rd_joins 11 [] [.int s0] σ
noncomputable def b_Rd_joins_12 (d : Nat) (l1 : Int32) (σ : jS) : jR := db (jd jMT d) 2 k_Rd_joins 12 [(1, .int l1)] [] σ
noncomputable def b_Rd_joins_13 (d : Nat) (σ : jS) : jR := db (jd jMT d) 2 k_Rd_joins 13 [] [] σ
noncomputable def b_Rd_joins_14 (d : Nat) (σ : jS) : jR := db (jd jMT d) 2 k_Rd_joins 14 [] [] σ
noncomputable def b_Rd_joins_15 (d : Nat) (s0 : Int32) (σ : jS) : jR := db (jd jMT d) 2 k_Rd_joins 15 [] [.int s0] σ
noncomputable def b_Rd_joins_16 (d : Nat) (σ : jS) : jR := db (jd jMT d) 2 k_Rd_joins 16 [] [] σ
theorem e_Rd_joins (d : Nat) (l0 : Int32) (l1 : Int32) (σ : jS) : g_Rd_joins (d + 1) l0 l1 σ = b_Rd_joins_0 d l0 l1 σ := rfl
set_option maxRecDepth 100000 in
theorem q_Rd_joins_0 (d : Nat) (l0 : Int32) (l1 : Int32) (σ : jS) : b_Rd_joins_0 d l0 l1 σ = (jif (l0 = 0) (b_Rd_joins_1 d l1 σ) (jif (l0 = 1) (b_Rd_joins_4 d l1 σ) (jif (l0 = 2) (b_Rd_joins_16 d σ) (jif (l0 = 3) (b_Rd_joins_7 d l1 σ) (jif (l0 = 4) (b_Rd_joins_8 d l1 σ) (jif (l0 = 5) (b_Rd_joins_12 d l1 σ) (b_Rd_joins_16 d σ))))))) := (db_eq _ _ _ _ _ _ _).trans rfl
set_option maxRecDepth 100000 in
theorem q_Rd_joins_1 (d : Nat) (l1 : Int32) (σ : jS) : b_Rd_joins_1 d l1 σ = (jif (l1 = 10) (b_Rd_joins_3 d 1 σ) (b_Rd_joins_2 d σ)) := (db_eq _ _ _ _ _ _ _).trans rfl
set_option maxRecDepth 100000 in
theorem q_Rd_joins_2 (d : Nat) (σ : jS) : b_Rd_joins_2 d σ = (b_Rd_joins_3 d 0 σ) := (db_eq _ _ _ _ _ _ _).trans rfl
set_option maxRecDepth 100000 in
theorem q_Rd_joins_3 (d : Nat) (s0 : Int32) (σ : jS) : b_Rd_joins_3 d s0 σ = (if s0 = 0 ∨ s0 = 1 then some (some (.int s0), σ) else none) := (db_eq _ _ _ _ _ _ _).trans rfl
set_option maxRecDepth 100000 in
theorem q_Rd_joins_4 (d : Nat) (l1 : Int32) (σ : jS) : b_Rd_joins_4 d l1 σ = (jif (l1 = 15) (b_Rd_joins_6 d 1 σ) (b_Rd_joins_5 d σ)) := (db_eq _ _ _ _ _ _ _).trans rfl
set_option maxRecDepth 100000 in
theorem q_Rd_joins_5 (d : Nat) (σ : jS) : b_Rd_joins_5 d σ = (b_Rd_joins_6 d 0 σ) := (db_eq _ _ _ _ _ _ _).trans rfl
set_option maxRecDepth 100000 in
theorem q_Rd_joins_6 (d : Nat) (s0 : Int32) (σ : jS) : b_Rd_joins_6 d s0 σ = (if s0 = 0 ∨ s0 = 1 then some (some (.int s0), σ) else none) := (db_eq _ _ _ _ _ _ _).trans rfl
set_option maxRecDepth 100000 in
theorem q_Rd_joins_7 (d : Nat) (l1 : Int32) (σ : jS) : b_Rd_joins_7 d l1 σ = ((r_I (g_Tk_isComparison d l1 σ)).bind fun q1 => if q1.1 = 0 ∨ q1.1 = 1 then some (some (.int q1.1), q1.2) else none) := (db_eq _ _ _ _ _ _ _).trans rfl
set_option maxRecDepth 100000 in
theorem q_Rd_joins_8 (d : Nat) (l1 : Int32) (σ : jS) : b_Rd_joins_8 d l1 σ = (jif (l1 = 43) (b_Rd_joins_9 d σ) (jif (l1 = 45) (b_Rd_joins_9 d σ) (b_Rd_joins_10 d σ))) := (db_eq _ _ _ _ _ _ _).trans rfl
set_option maxRecDepth 100000 in
theorem q_Rd_joins_9 (d : Nat) (σ : jS) : b_Rd_joins_9 d σ = (b_Rd_joins_11 d 1 σ) := (db_eq _ _ _ _ _ _ _).trans rfl
set_option maxRecDepth 100000 in
theorem q_Rd_joins_10 (d : Nat) (σ : jS) : b_Rd_joins_10 d σ = (b_Rd_joins_11 d 0 σ) := (db_eq _ _ _ _ _ _ _).trans rfl
set_option maxRecDepth 100000 in
theorem q_Rd_joins_11 (d : Nat) (s0 : Int32) (σ : jS) : b_Rd_joins_11 d s0 σ = (if s0 = 0 ∨ s0 = 1 then some (some (.int s0), σ) else none) := (db_eq _ _ _ _ _ _ _).trans rfl
set_option maxRecDepth 100000 in
theorem q_Rd_joins_12 (d : Nat) (l1 : Int32) (σ : jS) : b_Rd_joins_12 d l1 σ = (jif (l1 = 42) (b_Rd_joins_13 d σ) (jif (l1 = 47) (b_Rd_joins_13 d σ) (jif (l1 = 37) (b_Rd_joins_13 d σ) (b_Rd_joins_14 d σ)))) := (db_eq _ _ _ _ _ _ _).trans rfl
set_option maxRecDepth 100000 in
theorem q_Rd_joins_13 (d : Nat) (σ : jS) : b_Rd_joins_13 d σ = (b_Rd_joins_15 d 1 σ) := (db_eq _ _ _ _ _ _ _).trans rfl
set_option maxRecDepth 100000 in
theorem q_Rd_joins_14 (d : Nat) (σ : jS) : b_Rd_joins_14 d σ = (b_Rd_joins_15 d 0 σ) := (db_eq _ _ _ _ _ _ _).trans rfl
set_option maxRecDepth 100000 in
theorem q_Rd_joins_15 (d : Nat) (s0 : Int32) (σ : jS) : b_Rd_joins_15 d s0 σ = (if s0 = 0 ∨ s0 = 1 then some (some (.int s0), σ) else none) := (db_eq _ _ _ _ _ _ _).trans rfl
set_option maxRecDepth 100000 in
theorem q_Rd_joins_16 (d : Nat) (σ : jS) : b_Rd_joins_16 d σ = (some (some (.int 0), σ)) := (db_eq _ _ _ _ _ _ _).trans rfl
noncomputable def b_Rd_passKnot_0 (d : Nat) (σ : jS) : jR := db (jd jMT d) 2 k_Rd_passKnot 0 [(0, .ref 36)] [] σ
noncomputable def b_Rd_passKnot_1 (d : Nat) (σ : jS) : jR := db (jd jMT d) 2 k_Rd_passKnot 1 [(0, .ref 36)] [] σ
theorem e_Rd_passKnot (d : Nat) (σ : jS) : g_Rd_passKnot (d + 1) σ = b_Rd_passKnot_0 d σ := rfl
set_option maxRecDepth 100000 in
theorem q_Rd_passKnot_0 (d : Nat) (σ : jS) : b_Rd_passKnot_0 d σ = (jc (j_is 6 (σ.2.2 36 3)) (jc (j_is 1 (j_cr (σ.2.2 36 3) 12)) (jif ((σ.1 (j_cr (σ.2.2 36 3) 12) 0) < 64) (b_Rd_passKnot_1 d σ) ((r_I (g_Rd_fails d 2 σ)).bind fun q1 => if q1.1 = 0 ∨ q1.1 = 1 then some (some (.int q1.1), q1.2) else none)))) := (db_eq _ _ _ _ _ _ _).trans rfl
set_option maxRecDepth 100000 in
theorem q_Rd_passKnot_1 (d : Nat) (σ : jS) : b_Rd_passKnot_1 d σ = (jc (j_is 6 (σ.2.2 36 3)) (jc (j_is 1 (j_cr (σ.2.2 36 3) 12)) (jc (j_is 1 (j_cr (σ.2.2 36 3) 12)) ((r_V (g_Tk_advance d (j_setI σ (j_cr (σ.2.2 36 3) 12) 0 ((σ.1 (j_cr (σ.2.2 36 3) 12) 0) + 1)))).bind fun σ1 => some (some (.int 1), σ1))))) := (db_eq _ _ _ _ _ _ _).trans rfl
noncomputable def b_Rd_denial_0 (d : Nat) (l1 : Int32) (σ : jS) : jR := db (jd jMT d) 2 k_Rd_denial 0 [(0, .ref 36), (1, .int l1)] [] σ
noncomputable def b_Rd_denial_1 (d : Nat) (l1 : Int32) (l2 : Int32) (σ : jS) : jR := db (jd jMT d) 2 k_Rd_denial 1 [(0, .ref 36), (1, .int l1), (2, .int l2)] [] σ
noncomputable def b_Rd_denial_2 (d : Nat) (l1 : Int32) (l2 : Int32) (σ : jS) : jR := db (jd jMT d) 2 k_Rd_denial 2 [(0, .ref 36), (1, .int l1), (2, .int l2)] [] σ
noncomputable def b_Rd_denial_3 (d : Nat) (l1 : Int32) (l2 : Int32) (σ : jS) : jR := db (jd jMT d) 2 k_Rd_denial 3 [(0, .ref 36), (1, .int l1), (2, .int l2)] [] σ
noncomputable def b_Rd_denial_4 (d : Nat) (l2 : Int32) (σ : jS) : jR := db (jd jMT d) 2 k_Rd_denial 4 [(0, .ref 36), (2, .int l2)] [] σ
noncomputable def b_Rd_denial_5 (d : Nat) (l2 : Int32) (l3 : Int32) (σ : jS) : jR := db (jd jMT d) 2 k_Rd_denial 5 [(0, .ref 36), (2, .int l2), (3, .int l3)] [] σ
noncomputable def b_Rd_denial_6 (d : Nat) (σ : jS) : jR := db (jd jMT d) 2 k_Rd_denial 6 [] [] σ
theorem e_Rd_denial (d : Nat) (l1 : Int32) (σ : jS) : g_Rd_denial (d + 1) l1 σ = b_Rd_denial_0 d l1 σ := rfl
set_option maxRecDepth 100000 in
theorem q_Rd_denial_0 (d : Nat) (l1 : Int32) (σ : jS) : b_Rd_denial_0 d l1 σ = (b_Rd_denial_1 d l1 0 σ) := (db_eq _ _ _ _ _ _ _).trans rfl
set_option maxRecDepth 100000 in
theorem q_Rd_denial_1 (d : Nat) (l1 : Int32) (l2 : Int32) (σ : jS) : b_Rd_denial_1 d l1 l2 σ = (jif (64 < l2) (b_Rd_denial_3 d l1 l2 σ) (jif ((σ.1 37 0) = 14) ((r_I (g_Rd_passKnot d σ)).bind fun q1 => jif (q1.1 = 0) (some (some (.int 0), q1.2)) (b_Rd_denial_2 d l1 l2 q1.2)) (b_Rd_denial_3 d l1 l2 σ))) := (db_eq _ _ _ _ _ _ _).trans rfl
set_option maxRecDepth 100000 in
theorem q_Rd_denial_2 (d : Nat) (l1 : Int32) (l2 : Int32) (σ : jS) : b_Rd_denial_2 d l1 l2 σ = (b_Rd_denial_1 d l1 (l2 + 1) σ) := (db_eq _ _ _ _ _ _ _).trans rfl
set_option maxRecDepth 100000 in
theorem q_Rd_denial_3 (d : Nat) (l1 : Int32) (l2 : Int32) (σ : jS) : b_Rd_denial_3 d l1 l2 σ = ((r_I (g_Rd_expression d 3 l1 σ)).bind fun q1 => jif (q1.1 = 0) (some (some (.int 0), q1.2)) (b_Rd_denial_4 d l2 q1.2)) := (db_eq _ _ _ _ _ _ _).trans rfl
set_option maxRecDepth 100000 in
theorem q_Rd_denial_4 (d : Nat) (l2 : Int32) (σ : jS) : b_Rd_denial_4 d l2 σ = (b_Rd_denial_5 d l2 0 σ) := (db_eq _ _ _ _ _ _ _).trans rfl
set_option maxRecDepth 100000 in
theorem q_Rd_denial_5 (d : Nat) (l2 : Int32) (l3 : Int32) (σ : jS) : b_Rd_denial_5 d l2 l3 σ = (jif (l2 ≤ l3) (b_Rd_denial_6 d σ) (jc (j_is 6 (σ.2.2 36 3)) (jc (j_is 1 (j_cr (σ.2.2 36 3) 12)) ((r_V (g_La_write d (j_cr (σ.2.2 36 3) 12) 14 0 σ)).bind fun σ1 => b_Rd_denial_5 d l2 (l3 + 1) σ1)))) := (db_eq _ _ _ _ _ _ _).trans rfl
set_option maxRecDepth 100000 in
theorem q_Rd_denial_6 (d : Nat) (σ : jS) : b_Rd_denial_6 d σ = (some (some (.int 1), σ)) := (db_eq _ _ _ _ _ _ _).trans rfl
noncomputable def b_Rd_operand_0 (d : Nat) (l1 : Int32) (σ : jS) : jR := db (jd jMT d) 2 k_Rd_operand 0 [(0, .ref 36), (1, .int l1)] [] σ
noncomputable def b_Rd_operand_1 (d : Nat) (σ : jS) : jR := db (jd jMT d) 2 k_Rd_operand 1 [(0, .ref 36)] [] σ
noncomputable def b_Rd_operand_2 (d : Nat) (σ : jS) : jR := db (jd jMT d) 2 k_Rd_operand 2 [(0, .ref 36)] [] σ
noncomputable def b_Rd_operand_3 (d : Nat) (σ : jS) : jR := db (jd jMT d) 2 k_Rd_operand 3 [(0, .ref 36)] [] σ
noncomputable def b_Rd_operand_4 (d : Nat) (l2 : Int32) (l3 : Int32) (σ : jS) : jR := db (jd jMT d) 2 k_Rd_operand 4 [(0, .ref 36), (2, .int l2), (3, .int l3)] [] σ
theorem e_Rd_operand (d : Nat) (l1 : Int32) (σ : jS) : g_Rd_operand (d + 1) l1 σ = b_Rd_operand_0 d l1 σ := rfl
set_option maxRecDepth 100000 in
theorem q_Rd_operand_0 (d : Nat) (l1 : Int32) (σ : jS) : b_Rd_operand_0 d l1 σ = (jif ((σ.1 37 0) = 40) ((r_I (g_Rd_enclosed d l1 σ)).bind fun q1 => if q1.1 = 0 ∨ q1.1 = 1 then some (some (.int q1.1), q1.2) else none) (b_Rd_operand_1 d σ)) := (db_eq _ _ _ _ _ _ _).trans rfl
set_option maxRecDepth 100000 in
theorem q_Rd_operand_1 (d : Nat) (σ : jS) : b_Rd_operand_1 d σ = (jif ((σ.1 37 0) = 17) (b_Rd_operand_2 d σ) ((r_I (g_Tk_isName d (σ.1 37 0) σ)).bind fun q1 => jif (q1.1 = 0) ((r_I (g_Rd_fails d 1 q1.2)).bind fun q2 => if q2.1 = 0 ∨ q2.1 = 1 then some (some (.int q2.1), q2.2) else none) (b_Rd_operand_2 d q1.2))) := (db_eq _ _ _ _ _ _ _).trans rfl
set_option maxRecDepth 100000 in
theorem q_Rd_operand_2 (d : Nat) (σ : jS) : b_Rd_operand_2 d σ = (jif ((σ.1 37 0) = 17) (jif ((σ.1 37 2) ≤ 9999) (b_Rd_operand_3 d σ) ((r_I (g_Rd_fails d 2 σ)).bind fun q1 => if q1.1 = 0 ∨ q1.1 = 1 then some (some (.int q1.1), q1.2) else none)) (b_Rd_operand_3 d σ)) := (db_eq _ _ _ _ _ _ _).trans rfl
set_option maxRecDepth 100000 in
theorem q_Rd_operand_3 (d : Nat) (σ : jS) : b_Rd_operand_3 d σ = ((r_I (g_Rd_passKnot d σ)).bind fun q1 => jif (q1.1 = 0) (some (some (.int 0), q1.2)) (b_Rd_operand_4 d (σ.1 37 0) (σ.1 37 2) q1.2)) := (db_eq _ _ _ _ _ _ _).trans rfl
set_option maxRecDepth 100000 in
theorem q_Rd_operand_4 (d : Nat) (l2 : Int32) (l3 : Int32) (σ : jS) : b_Rd_operand_4 d l2 l3 σ = (jc (j_is 6 (σ.2.2 36 3)) (jc (j_is 1 (j_cr (σ.2.2 36 3) 12)) ((r_V (g_La_write d (j_cr (σ.2.2 36 3) 12) l2 l3 σ)).bind fun σ1 => some (some (.int 1), σ1)))) := (db_eq _ _ _ _ _ _ _).trans rfl
noncomputable def b_Rd_enclosed_0 (d : Nat) (l1 : Int32) (σ : jS) : jR := db (jd jMT d) 2 k_Rd_enclosed 0 [(0, .ref 36), (1, .int l1)] [] σ
noncomputable def b_Rd_enclosed_1 (d : Nat) (l1 : Int32) (σ : jS) : jR := db (jd jMT d) 2 k_Rd_enclosed 1 [(0, .ref 36), (1, .int l1)] [] σ
noncomputable def b_Rd_enclosed_2 (d : Nat) (σ : jS) : jR := db (jd jMT d) 2 k_Rd_enclosed 2 [] [] σ
noncomputable def b_Rd_enclosed_3 (d : Nat) (s0 : Int32) (σ : jS) : jR := db (jd jMT d) 2 k_Rd_enclosed 3 [] [.int s0] σ
theorem e_Rd_enclosed (d : Nat) (l1 : Int32) (σ : jS) : g_Rd_enclosed (d + 1) l1 σ = b_Rd_enclosed_0 d l1 σ := rfl
set_option maxRecDepth 100000 in
theorem q_Rd_enclosed_0 (d : Nat) (l1 : Int32) (σ : jS) : b_Rd_enclosed_0 d l1 σ = (jif (l1 < 8) (b_Rd_enclosed_1 d l1 σ) ((r_I (g_Rd_fails d 2 σ)).bind fun q1 => if q1.1 = 0 ∨ q1.1 = 1 then some (some (.int q1.1), q1.2) else none)) := (db_eq _ _ _ _ _ _ _).trans rfl
set_option maxRecDepth 100000 in
theorem q_Rd_enclosed_1 (d : Nat) (l1 : Int32) (σ : jS) : b_Rd_enclosed_1 d l1 σ = ((r_V (g_Tk_advance d σ)).bind fun σ1 => (r_I (g_Rd_expression d 0 (l1 + 1) σ1)).bind fun q2 => jif (q2.1 = 0) (b_Rd_enclosed_2 d q2.2) ((r_I (g_Rd_passes d 41 q2.2)).bind fun q3 => jif (q3.1 = 0) (b_Rd_enclosed_2 d q3.2) (b_Rd_enclosed_3 d 1 q3.2))) := (db_eq _ _ _ _ _ _ _).trans rfl
set_option maxRecDepth 100000 in
theorem q_Rd_enclosed_2 (d : Nat) (σ : jS) : b_Rd_enclosed_2 d σ = (b_Rd_enclosed_3 d 0 σ) := (db_eq _ _ _ _ _ _ _).trans rfl
set_option maxRecDepth 100000 in
theorem q_Rd_enclosed_3 (d : Nat) (s0 : Int32) (σ : jS) : b_Rd_enclosed_3 d s0 σ = (if s0 = 0 ∨ s0 = 1 then some (some (.int s0), σ) else none) := (db_eq _ _ _ _ _ _ _).trans rfl
noncomputable def b_Rw_take_0 (d : Nat) (l1 : Int32) (l2 : Int64) (l4 : Int32) (σ : jS) : jR := db (jd jMT d) 2 k_Rw_take 0 [(0, .ref 69), (1, .int l1), (2, .long l2), (4, .int l4)] [] σ
noncomputable def b_Rw_take_1 (d : Nat) (l1 : Int32) (l2 : Int64) (l4 : Int32) (σ : jS) : jR := db (jd jMT d) 2 k_Rw_take 1 [(0, .ref 69), (1, .int l1), (2, .long l2), (4, .int l4)] [] σ
noncomputable def b_Rw_take_2 (d : Nat) (l1 : Int32) (l2 : Int64) (l4 : Int32) (l5 : Int32) (l6 : Int32) (σ : jS) : jR := db (jd jMT d) 2 k_Rw_take 2 [(0, .ref 69), (1, .int l1), (2, .long l2), (4, .int l4), (5, .int l5), (6, .int l6)] [] σ
noncomputable def b_Rw_take_3 (d : Nat) (σ : jS) : jR := db (jd jMT d) 2 k_Rw_take 3 [] [] σ
noncomputable def b_Rw_take_4 (d : Nat) (l1 : Int32) (l2 : Int64) (l4 : Int32) (l5 : Int32) (l6 : Int32) (l7 : Int32) (σ : jS) : jR := db (jd jMT d) 2 k_Rw_take 4 [(0, .ref 69), (1, .int l1), (2, .long l2), (4, .int l4), (5, .int l5), (6, .int l6), (7, .int l7)] [] σ
noncomputable def b_Rw_take_5 (d : Nat) (l1 : Int32) (σ : jS) : jR := db (jd jMT d) 2 k_Rw_take 5 [(0, .ref 69), (1, .int l1)] [] σ
theorem e_Rw_take (d : Nat) (l1 : Int32) (l2 : Int64) (l4 : Int32) (σ : jS) : g_Rw_take (d + 1) l1 l2 l4 σ = b_Rw_take_0 d l1 l2 l4 σ := rfl
set_option maxRecDepth 100000 in
theorem q_Rw_take_0 (d : Nat) (l1 : Int32) (l2 : Int64) (l4 : Int32) (σ : jS) : b_Rw_take_0 d l1 l2 l4 σ = ((r_I (g_HH_within d l1 2 10 σ)).bind fun q1 => jif (q1.1 = 0) (some (some (.int 0), q1.2)) (b_Rw_take_1 d l1 l2 l4 q1.2)) := (db_eq _ _ _ _ _ _ _).trans rfl
set_option maxRecDepth 100000 in
theorem q_Rw_take_1 (d : Nat) (l1 : Int32) (l2 : Int64) (l4 : Int32) (σ : jS) : b_Rw_take_1 d l1 l2 l4 σ = (b_Rw_take_2 d l1 l2 l4 0 0 σ) := (db_eq _ _ _ _ _ _ _).trans rfl
set_option maxRecDepth 100000 in
theorem q_Rw_take_2 (d : Nat) (l1 : Int32) (l2 : Int64) (l4 : Int32) (l5 : Int32) (l6 : Int32) (σ : jS) : b_Rw_take_2 d l1 l2 l4 l5 l6 σ = (jif (l1 ≤ l6) (b_Rw_take_5 d l1 σ) (jif (l4 ≤ ((Int64.toInt32 (Int64.toUInt64 l2 >>> (Int64.toUInt64 (Int32.toInt64 (4 * l6)) &&& Int64.toUInt64 63)).toInt64) &&& 15)) (b_Rw_take_3 d σ) (jif ((((l5 : Int32) >>> ((((Int64.toInt32 (Int64.toUInt64 l2 >>> (Int64.toUInt64 (Int32.toInt64 (4 * l6)) &&& Int64.toUInt64 63)).toInt64) &&& 15) : Int32) &&& 31)) &&& 1) = 0) (b_Rw_take_4 d l1 l2 l4 l5 l6 ((Int64.toInt32 (Int64.toUInt64 l2 >>> (Int64.toUInt64 (Int32.toInt64 (4 * l6)) &&& Int64.toUInt64 63)).toInt64) &&& 15) σ) (b_Rw_take_3 d σ)))) := (db_eq _ _ _ _ _ _ _).trans rfl
set_option maxRecDepth 100000 in
theorem q_Rw_take_3 (d : Nat) (σ : jS) : b_Rw_take_3 d σ = (some (some (.int 0), σ)) := (db_eq _ _ _ _ _ _ _).trans rfl
set_option maxRecDepth 100000 in
theorem q_Rw_take_4 (d : Nat) (l1 : Int32) (l2 : Int64) (l4 : Int32) (l5 : Int32) (l6 : Int32) (l7 : Int32) (σ : jS) : b_Rw_take_4 d l1 l2 l4 l5 l6 l7 σ = ((j_wrI σ 70 l6 l7).bind fun σ1 => b_Rw_take_2 d l1 l2 l4 (l5 ||| ((1 : Int32) <<< ((l7 : Int32) &&& 31))) (l6 + 1) σ1) := (db_eq _ _ _ _ _ _ _).trans rfl
set_option maxRecDepth 100000 in
theorem q_Rw_take_5 (d : Nat) (l1 : Int32) (σ : jS) : b_Rw_take_5 d l1 σ = (some (some (.int 1), (j_setI σ 69 0 l1))) := (db_eq _ _ _ _ _ _ _).trans rfl
noncomputable def b_Rw_placed_0 (d : Nat) (l0 : Int32) (l1 : Int32) (σ : jS) : jR := db (jd jMT d) 3 k_Rw_placed 0 [(0, .int l0), (1, .int l1)] [] σ
theorem e_Rw_placed (d : Nat) (l0 : Int32) (l1 : Int32) (σ : jS) : g_Rw_placed (d + 1) l0 l1 σ = b_Rw_placed_0 d l0 l1 σ := rfl
set_option maxRecDepth 100000 in
theorem q_Rw_placed_0 (d : Nat) (l0 : Int32) (l1 : Int32) (σ : jS) : b_Rw_placed_0 d l0 l1 σ = (some (some (.long (((Int32.toInt64 l0) : Int64) <<< (Int32.toInt64 (4 * l1) &&& 63))), σ)) := (db_eq _ _ _ _ _ _ _).trans rfl
noncomputable def b_Rw_carriers_0 (d : Nat) (σ : jS) : jR := db (jd jMT d) 1 k_Rw_carriers 0 [(0, .ref 69)] [] σ
theorem e_Rw_carriers (d : Nat) (σ : jS) : g_Rw_carriers (d + 1) σ = b_Rw_carriers_0 d σ := rfl
set_option maxRecDepth 100000 in
theorem q_Rw_carriers_0 (d : Nat) (σ : jS) : b_Rw_carriers_0 d σ = (some (some (.int ((σ.1 69 0) - 2)), σ)) := (db_eq _ _ _ _ _ _ _).trans rfl
noncomputable def b_Rw_placeOf_0 (d : Nat) (l1 : Int32) (σ : jS) : jR := db (jd jMT d) 1 k_Rw_placeOf 0 [(0, .ref 69), (1, .int l1)] [] σ
noncomputable def b_Rw_placeOf_1 (d : Nat) (l1 : Int32) (l2 : Int32) (σ : jS) : jR := db (jd jMT d) 1 k_Rw_placeOf 1 [(0, .ref 69), (1, .int l1), (2, .int l2)] [] σ
noncomputable def b_Rw_placeOf_2 (d : Nat) (l1 : Int32) (l2 : Int32) (σ : jS) : jR := db (jd jMT d) 1 k_Rw_placeOf 2 [(0, .ref 69), (1, .int l1), (2, .int l2)] [] σ
noncomputable def b_Rw_placeOf_3 (d : Nat) (σ : jS) : jR := db (jd jMT d) 1 k_Rw_placeOf 3 [] [] σ
theorem e_Rw_placeOf (d : Nat) (l1 : Int32) (σ : jS) : g_Rw_placeOf (d + 1) l1 σ = b_Rw_placeOf_0 d l1 σ := rfl
set_option maxRecDepth 100000 in
theorem q_Rw_placeOf_0 (d : Nat) (l1 : Int32) (σ : jS) : b_Rw_placeOf_0 d l1 σ = (b_Rw_placeOf_1 d l1 1 σ) := (db_eq _ _ _ _ _ _ _).trans rfl
set_option maxRecDepth 100000 in
theorem q_Rw_placeOf_1 (d : Nat) (l1 : Int32) (l2 : Int32) (σ : jS) : b_Rw_placeOf_1 d l1 l2 σ = (jif (((σ.1 69 0) - 1) ≤ l2) (b_Rw_placeOf_3 d σ) ((j_rdI 0 σ 70 l2).bind fun x1 => jif (x1 = l1) (some (some (.int l2), σ)) (b_Rw_placeOf_2 d l1 l2 σ))) := (db_eq _ _ _ _ _ _ _).trans rfl
set_option maxRecDepth 100000 in
theorem q_Rw_placeOf_2 (d : Nat) (l1 : Int32) (l2 : Int32) (σ : jS) : b_Rw_placeOf_2 d l1 l2 σ = (b_Rw_placeOf_1 d l1 (l2 + 1) σ) := (db_eq _ _ _ _ _ _ _).trans rfl
set_option maxRecDepth 100000 in
theorem q_Rw_placeOf_3 (d : Nat) (σ : jS) : b_Rw_placeOf_3 d σ = (some (some (.int 0), σ)) := (db_eq _ _ _ _ _ _ _).trans rfl
noncomputable def b_Rw_isCarrier_0 (d : Nat) (l1 : Int32) (σ : jS) : jR := db (jd jMT d) 2 k_Rw_isCarrier 0 [(0, .ref 69), (1, .int l1)] [] σ
noncomputable def b_Rw_isCarrier_1 (d : Nat) (σ : jS) : jR := db (jd jMT d) 2 k_Rw_isCarrier 1 [] [] σ
noncomputable def b_Rw_isCarrier_2 (d : Nat) (s0 : Int32) (σ : jS) : jR := db (jd jMT d) 2 k_Rw_isCarrier 2 [] [.int s0] σ
theorem e_Rw_isCarrier (d : Nat) (l1 : Int32) (σ : jS) : g_Rw_isCarrier (d + 1) l1 σ = b_Rw_isCarrier_0 d l1 σ := rfl
set_option maxRecDepth 100000 in
theorem q_Rw_isCarrier_0 (d : Nat) (l1 : Int32) (σ : jS) : b_Rw_isCarrier_0 d l1 σ = ((r_I (g_Rw_placeOf d l1 σ)).bind fun q1 => jif (q1.1 ≤ 0) (b_Rw_isCarrier_1 d q1.2) (b_Rw_isCarrier_2 d 1 q1.2)) := (db_eq _ _ _ _ _ _ _).trans rfl
set_option maxRecDepth 100000 in
theorem q_Rw_isCarrier_1 (d : Nat) (σ : jS) : b_Rw_isCarrier_1 d σ = (b_Rw_isCarrier_2 d 0 σ) := (db_eq _ _ _ _ _ _ _).trans rfl
set_option maxRecDepth 100000 in
theorem q_Rw_isCarrier_2 (d : Nat) (s0 : Int32) (σ : jS) : b_Rw_isCarrier_2 d s0 σ = (if s0 = 0 ∨ s0 = 1 then some (some (.int s0), σ) else none) := (db_eq _ _ _ _ _ _ _).trans rfl
noncomputable def b_Rw_swapAt_0 (d : Nat) (l1 : Int32) (σ : jS) : jR := db (jd jMT d) 0 k_Rw_swapAt 0 [(0, .ref 69), (1, .int l1)] [] σ
theorem e_Rw_swapAt (d : Nat) (l1 : Int32) (σ : jS) : g_Rw_swapAt (d + 1) l1 σ = b_Rw_swapAt_0 d l1 σ := rfl
set_option maxRecDepth 100000 in
theorem q_Rw_swapAt_0 (d : Nat) (l1 : Int32) (σ : jS) : b_Rw_swapAt_0 d l1 σ = ((j_rdI 0 σ 70 l1).bind fun x1 => (j_rdI 0 σ 70 (l1 + 1)).bind fun x2 => (j_wrI σ 70 l1 x2).bind fun σ3 => (j_wrI σ3 70 (l1 + 1) x1).bind fun σ4 => some (none, σ4)) := (db_eq _ _ _ _ _ _ _).trans rfl
noncomputable def b_Rw_arriving_0 (d : Nat) (l1 : Nat) (l2 : Int32) (l3 : Int32) (σ : jS) : jR := db (jd jMT d) 1 k_Rw_arriving 0 [(0, .ref 69), (1, .ref l1), (2, .int l2), (3, .int l3)] [] σ
noncomputable def b_Rw_arriving_1 (d : Nat) (l1 : Nat) (l2 : Int32) (l4 : Int32) (l5 : Int32) (σ : jS) : jR := db (jd jMT d) 1 k_Rw_arriving 1 [(0, .ref 69), (1, .ref l1), (2, .int l2), (4, .int l4), (5, .int l5)] [] σ
noncomputable def b_Rw_arriving_2 (d : Nat) (l4 : Int32) (σ : jS) : jR := db (jd jMT d) 1 k_Rw_arriving 2 [(4, .int l4)] [] σ
theorem e_Rw_arriving (d : Nat) (l1 : Nat) (l2 : Int32) (l3 : Int32) (σ : jS) : g_Rw_arriving (d + 1) l1 l2 l3 σ = b_Rw_arriving_0 d l1 l2 l3 σ := rfl
set_option maxRecDepth 100000 in
theorem q_Rw_arriving_0 (d : Nat) (l1 : Nat) (l2 : Int32) (l3 : Int32) (σ : jS) : b_Rw_arriving_0 d l1 l2 l3 σ = (b_Rw_arriving_1 d l1 l2 l3 1 σ) := (db_eq _ _ _ _ _ _ _).trans rfl
set_option maxRecDepth 100000 in
theorem q_Rw_arriving_1 (d : Nat) (l1 : Nat) (l2 : Int32) (l4 : Int32) (l5 : Int32) (σ : jS) : b_Rw_arriving_1 d l1 l2 l4 l5 σ = (jif (((σ.1 69 0) - 1) ≤ l5) (b_Rw_arriving_2 d l4 σ) (jc (j_is 6 l1) ((r_I (g_Rw_ageAt d l1 l5 σ)).bind fun q1 => (r_I (g_Rw_ageAt d l1 (l5 + 1) q1.2)).bind fun q2 => jc (j_is 1 (j_cr l1 12)) ((r_I (g_La_share d (j_cr l1 12) l2 l4 q1.1 q2.1 l5 0 q2.2)).bind fun q3 => b_Rw_arriving_1 d l1 l2 (l4 - q3.1) (l5 + 1) q3.2)))) := (db_eq _ _ _ _ _ _ _).trans rfl
set_option maxRecDepth 100000 in
theorem q_Rw_arriving_2 (d : Nat) (l4 : Int32) (σ : jS) : b_Rw_arriving_2 d l4 σ = (some (some (.int l4), σ)) := (db_eq _ _ _ _ _ _ _).trans rfl
noncomputable def b_Rw_keptAt_0 (d : Nat) (l1 : Nat) (l2 : Int32) (l3 : Int32) (σ : jS) : jR := db (jd jMT d) 1 k_Rw_keptAt 0 [(0, .ref 69), (1, .ref l1), (2, .int l2), (3, .int l3)] [] σ
noncomputable def b_Rw_keptAt_1 (d : Nat) (l1 : Nat) (l3 : Int32) (l4 : Int32) (l5 : Int32) (l6 : Int32) (σ : jS) : jR := db (jd jMT d) 1 k_Rw_keptAt 1 [(0, .ref 69), (1, .ref l1), (3, .int l3), (4, .int l4), (5, .int l5), (6, .int l6)] [] σ
noncomputable def b_Rw_keptAt_2 (d : Nat) (l5 : Int32) (σ : jS) : jR := db (jd jMT d) 1 k_Rw_keptAt 2 [(5, .int l5)] [] σ
theorem e_Rw_keptAt (d : Nat) (l1 : Nat) (l2 : Int32) (l3 : Int32) (σ : jS) : g_Rw_keptAt (d + 1) l1 l2 l3 σ = b_Rw_keptAt_0 d l1 l2 l3 σ := rfl
set_option maxRecDepth 100000 in
theorem q_Rw_keptAt_0 (d : Nat) (l1 : Nat) (l2 : Int32) (l3 : Int32) (σ : jS) : b_Rw_keptAt_0 d l1 l2 l3 σ = (b_Rw_keptAt_1 d l1 l3 l2 0 1 σ) := (db_eq _ _ _ _ _ _ _).trans rfl
set_option maxRecDepth 100000 in
theorem q_Rw_keptAt_1 (d : Nat) (l1 : Nat) (l3 : Int32) (l4 : Int32) (l5 : Int32) (l6 : Int32) (σ : jS) : b_Rw_keptAt_1 d l1 l3 l4 l5 l6 σ = (jif (l3 < l6) (b_Rw_keptAt_2 d l5 σ) (jif (((σ.1 69 0) - 1) ≤ l6) (b_Rw_keptAt_2 d l5 σ) (jc (j_is 6 l1) ((r_I (g_Rw_ageAt d l1 l6 σ)).bind fun q1 => (r_I (g_Rw_ageAt d l1 (l6 + 1) q1.2)).bind fun q2 => jc (j_is 1 (j_cr l1 12)) ((r_I (g_La_share d (j_cr l1 12) 4 l4 q1.1 q2.1 l6 0 q2.2)).bind fun q3 => b_Rw_keptAt_1 d l1 l3 (l4 - q3.1) q3.1 (l6 + 1) q3.2))))) := (db_eq _ _ _ _ _ _ _).trans rfl
set_option maxRecDepth 100000 in
theorem q_Rw_keptAt_2 (d : Nat) (l5 : Int32) (σ : jS) : b_Rw_keptAt_2 d l5 σ = (some (some (.int l5), σ)) := (db_eq _ _ _ _ _ _ _).trans rfl
