/-! The methods as functions of the cells: an equation a block. Printed by wip/gen/eqs.py. -/
noncomputable def b_HH_agrees_0 (d : Nat) (l1 : Int32) (σ : jS) : jR := db (jd jMT d) 2 k_HH_agrees 0 [(0, .ref 0), (1, .int l1)] [] σ
noncomputable def b_HH_agrees_1 (d : Nat) (l1 : Int32) (l2 : Int32) (σ : jS) : jR := db (jd jMT d) 2 k_HH_agrees 1 [(0, .ref 0), (1, .int l1), (2, .int l2)] [] σ
noncomputable def b_HH_agrees_2 (d : Nat) (l1 : Int32) (l2 : Int32) (σ : jS) : jR := db (jd jMT d) 2 k_HH_agrees 2 [(0, .ref 0), (1, .int l1), (2, .int l2)] [] σ
noncomputable def b_HH_agrees_3 (d : Nat) (σ : jS) : jR := db (jd jMT d) 2 k_HH_agrees 3 [] [] σ
theorem e_HH_agrees (d : Nat) (l1 : Int32) (σ : jS) : g_HH_agrees (d + 1) l1 σ = b_HH_agrees_0 d l1 σ := rfl
set_option maxRecDepth 100000 in
theorem q_HH_agrees_0 (d : Nat) (l1 : Int32) (σ : jS) : b_HH_agrees_0 d l1 σ = (b_HH_agrees_1 d l1 0 σ) := (db_eq _ _ _ _ _ _ _).trans rfl
set_option maxRecDepth 100000 in
theorem q_HH_agrees_1 (d : Nat) (l1 : Int32) (l2 : Int32) (σ : jS) : b_HH_agrees_1 d l1 l2 σ = (jif ((σ.1 78 0) ≤ l2) (b_HH_agrees_3 d σ) ((r_I (g_Nt_holds d l2 σ)).bind fun q1 => jif (q1.1 = 0) (b_HH_agrees_2 d l1 l2 q1.2) ((j_rdI 0 q1.2 79 l2).bind fun x2 => (j_rdL q1.2 80 l2).bind fun x3 => (r_I (g_HH_isRow d x2 x3 q1.2)).bind fun q4 => jif (q4.1 = 0) (b_HH_agrees_2 d l1 l2 q4.2) ((j_rdI 0 q4.2 81 l2).bind fun x5 => (r_I (g_Rw_arriving d (q4.2.2.2 0 2) l1 x5 q4.2)).bind fun q6 => (r_I (g_Nt_allows d l2 q6.1 q6.2)).bind fun q7 => jif (q7.1 = 0) (some (some (.int 0), q7.2)) (b_HH_agrees_2 d l1 l2 q7.2))))) := (db_eq _ _ _ _ _ _ _).trans rfl
set_option maxRecDepth 100000 in
theorem q_HH_agrees_2 (d : Nat) (l1 : Int32) (l2 : Int32) (σ : jS) : b_HH_agrees_2 d l1 l2 σ = (b_HH_agrees_1 d l1 (l2 + 1) σ) := (db_eq _ _ _ _ _ _ _).trans rfl
set_option maxRecDepth 100000 in
theorem q_HH_agrees_3 (d : Nat) (σ : jS) : b_HH_agrees_3 d σ = (some (some (.int 1), σ)) := (db_eq _ _ _ _ _ _ _).trans rfl
noncomputable def b_HH_lawNumbered_0 (d : Nat) (l1 : Int32) (σ : jS) : jR := db (jd jMT d) 1 k_HH_lawNumbered 0 [(0, .ref 0), (1, .int l1)] [] σ
noncomputable def b_HH_lawNumbered_1 (d : Nat) (l1 : Int32) (σ : jS) : jR := db (jd jMT d) 1 k_HH_lawNumbered 1 [(1, .int l1)] [] σ
noncomputable def b_HH_lawNumbered_2 (d : Nat) (s0 : Int32) (σ : jS) : jR := db (jd jMT d) 1 k_HH_lawNumbered 2 [] [.int s0] σ
theorem e_HH_lawNumbered (d : Nat) (l1 : Int32) (σ : jS) : g_HH_lawNumbered (d + 1) l1 σ = b_HH_lawNumbered_0 d l1 σ := rfl
set_option maxRecDepth 100000 in
theorem q_HH_lawNumbered_0 (d : Nat) (l1 : Int32) (σ : jS) : b_HH_lawNumbered_0 d l1 σ = (jc (j_is 6 (σ.2.2 0 2)) (jif (l1 = (σ.1 (σ.2.2 0 2) 10)) (b_HH_lawNumbered_2 d 4 σ) (b_HH_lawNumbered_1 d l1 σ))) := (db_eq _ _ _ _ _ _ _).trans rfl
set_option maxRecDepth 100000 in
theorem q_HH_lawNumbered_1 (d : Nat) (l1 : Int32) (σ : jS) : b_HH_lawNumbered_1 d l1 σ = (b_HH_lawNumbered_2 d l1 σ) := (db_eq _ _ _ _ _ _ _).trans rfl
set_option maxRecDepth 100000 in
theorem q_HH_lawNumbered_2 (d : Nat) (s0 : Int32) (σ : jS) : b_HH_lawNumbered_2 d s0 σ = (some (some (.int s0), σ)) := (db_eq _ _ _ _ _ _ _).trans rfl
noncomputable def b_HH_apart_0 (d : Nat) (l1 : Int32) (l2 : Int64) (l4 : Int32) (l5 : Int32) (σ : jS) : jR := db (jd jMT d) 1 k_HH_apart 0 [(0, .ref 0), (1, .int l1), (2, .long l2), (4, .int l4), (5, .int l5)] [] σ
noncomputable def b_HH_apart_1 (d : Nat) (σ : jS) : jR := db (jd jMT d) 1 k_HH_apart 1 [] [] σ
noncomputable def b_HH_apart_2 (d : Nat) (l4 : Int32) (l5 : Int32) (σ : jS) : jR := db (jd jMT d) 1 k_HH_apart 2 [(0, .ref 0), (4, .int l4), (5, .int l5)] [] σ
noncomputable def b_HH_apart_3 (d : Nat) (l4 : Int32) (l5 : Int32) (l6 : Int32) (σ : jS) : jR := db (jd jMT d) 1 k_HH_apart 3 [(0, .ref 0), (4, .int l4), (5, .int l5), (6, .int l6)] [] σ
noncomputable def b_HH_apart_4 (d : Nat) (l4 : Int32) (l5 : Int32) (l6 : Int32) (σ : jS) : jR := db (jd jMT d) 1 k_HH_apart 4 [(0, .ref 0), (4, .int l4), (5, .int l5), (6, .int l6)] [] σ
noncomputable def b_HH_apart_5 (d : Nat) (σ : jS) : jR := db (jd jMT d) 1 k_HH_apart 5 [] [] σ
theorem e_HH_apart (d : Nat) (l1 : Int32) (l2 : Int64) (l4 : Int32) (l5 : Int32) (σ : jS) : g_HH_apart (d + 1) l1 l2 l4 l5 σ = b_HH_apart_0 d l1 l2 l4 l5 σ := rfl
set_option maxRecDepth 100000 in
theorem q_HH_apart_0 (d : Nat) (l1 : Int32) (l2 : Int64) (l4 : Int32) (l5 : Int32) (σ : jS) : b_HH_apart_0 d l1 l2 l4 l5 σ = ((r_I (g_HH_isRow d l1 l2 σ)).bind fun q1 => jif (q1.1 = 0) (b_HH_apart_1 d q1.2) (jc (j_is 6 (q1.2.2.2 0 2)) ((r_I (g_HH_within d l4 0 (q1.2.1 (q1.2.2.2 0 2) 10) q1.2)).bind fun q2 => jif (q2.1 = 0) (b_HH_apart_1 d q2.2) (jc (j_is 6 (q2.2.2.2 0 2)) ((r_I (g_HH_within d l5 0 (q2.2.1 (q2.2.2.2 0 2) 10) q2.2)).bind fun q3 => jif (q3.1 = 0) (b_HH_apart_1 d q3.2) (b_HH_apart_2 d l4 l5 q3.2)))))) := (db_eq _ _ _ _ _ _ _).trans rfl
set_option maxRecDepth 100000 in
theorem q_HH_apart_1 (d : Nat) (σ : jS) : b_HH_apart_1 d σ = (some (some (.int (-1)), σ)) := (db_eq _ _ _ _ _ _ _).trans rfl
set_option maxRecDepth 100000 in
theorem q_HH_apart_2 (d : Nat) (l4 : Int32) (l5 : Int32) (σ : jS) : b_HH_apart_2 d l4 l5 σ = (b_HH_apart_3 d l4 l5 1 σ) := (db_eq _ _ _ _ _ _ _).trans rfl
set_option maxRecDepth 100000 in
theorem q_HH_apart_3 (d : Nat) (l4 : Int32) (l5 : Int32) (l6 : Int32) (σ : jS) : b_HH_apart_3 d l4 l5 l6 σ = (jif (999 < l6) (b_HH_apart_5 d σ) ((r_I (g_HH_lawNumbered d l4 σ)).bind fun q1 => (r_I (g_Rw_arriving d (σ.2.2 0 2) q1.1 l6 q1.2)).bind fun q2 => (r_I (g_HH_lawNumbered d l5 q2.2)).bind fun q3 => (r_I (g_Rw_arriving d (q2.2.2.2 0 2) q3.1 l6 q3.2)).bind fun q4 => jif (q2.1 = q4.1) (b_HH_apart_4 d l4 l5 l6 q4.2) (some (some (.int l6), q4.2)))) := (db_eq _ _ _ _ _ _ _).trans rfl
set_option maxRecDepth 100000 in
theorem q_HH_apart_4 (d : Nat) (l4 : Int32) (l5 : Int32) (l6 : Int32) (σ : jS) : b_HH_apart_4 d l4 l5 l6 σ = (b_HH_apart_3 d l4 l5 (l6 + 1) σ) := (db_eq _ _ _ _ _ _ _).trans rfl
set_option maxRecDepth 100000 in
theorem q_HH_apart_5 (d : Nat) (σ : jS) : b_HH_apart_5 d σ = (some (some (.int (-2)), σ)) := (db_eq _ _ _ _ _ _ _).trans rfl
noncomputable def b_HH_tried_0 (d : Nat) (l1 : Int32) (l2 : Int32) (l3 : Int32) (σ : jS) : jR := db (jd jMT d) 1 k_HH_tried 0 [(0, .ref 0), (1, .int l1), (2, .int l2), (3, .int l3)] [] σ
noncomputable def b_HH_tried_1 (d : Nat) (σ : jS) : jR := db (jd jMT d) 1 k_HH_tried 1 [] [] σ
noncomputable def b_HH_tried_2 (d : Nat) (l1 : Int32) (l2 : Int32) (l3 : Int32) (σ : jS) : jR := db (jd jMT d) 1 k_HH_tried 2 [(0, .ref 0), (1, .int l1), (2, .int l2), (3, .int l3)] [] σ
theorem e_HH_tried (d : Nat) (l1 : Int32) (l2 : Int32) (l3 : Int32) (σ : jS) : g_HH_tried (d + 1) l1 l2 l3 σ = b_HH_tried_0 d l1 l2 l3 σ := rfl
set_option maxRecDepth 100000 in
theorem q_HH_tried_0 (d : Nat) (l1 : Int32) (l2 : Int32) (l3 : Int32) (σ : jS) : b_HH_tried_0 d l1 l2 l3 σ = ((r_I (g_HH_isTrial d l1 l2 σ)).bind fun q1 => jif (q1.1 = 0) (b_HH_tried_1 d q1.2) (jc (j_is 6 (q1.2.2.2 0 2)) ((r_I (g_Te_isPerson d (q1.2.2.2 0 2) l3 q1.2)).bind fun q2 => jif (q2.1 = 0) (b_HH_tried_1 d q2.2) (b_HH_tried_2 d l1 l2 l3 q2.2)))) := (db_eq _ _ _ _ _ _ _).trans rfl
set_option maxRecDepth 100000 in
theorem q_HH_tried_1 (d : Nat) (σ : jS) : b_HH_tried_1 d σ = (some (some (.int (-1)), σ)) := (db_eq _ _ _ _ _ _ _).trans rfl
set_option maxRecDepth 100000 in
theorem q_HH_tried_2 (d : Nat) (l1 : Int32) (l2 : Int32) (l3 : Int32) (σ : jS) : b_HH_tried_2 d l1 l2 l3 σ = ((r_V (g_Jo_beginLike d 59 39 l1 l2 σ)).bind fun σ1 => (r_V (g_Jo_passTo d 59 (σ1.1 39 0) σ1)).bind fun σ2 => (j_rdI 0 σ2 60 l3).bind fun x3 => some (some (.int x3), σ2)) := (db_eq _ _ _ _ _ _ _).trans rfl
noncomputable def b_HH_isTrial_0 (d : Nat) (l1 : Int32) (l2 : Int32) (σ : jS) : jR := db (jd jMT d) 2 k_HH_isTrial 0 [(0, .ref 0), (1, .int l1), (2, .int l2)] [] σ
noncomputable def b_HH_isTrial_1 (d : Nat) (l2 : Int32) (σ : jS) : jR := db (jd jMT d) 2 k_HH_isTrial 1 [(0, .ref 0), (2, .int l2)] [] σ
noncomputable def b_HH_isTrial_2 (d : Nat) (l2 : Int32) (σ : jS) : jR := db (jd jMT d) 2 k_HH_isTrial 2 [(2, .int l2)] [] σ
noncomputable def b_HH_isTrial_3 (d : Nat) (σ : jS) : jR := db (jd jMT d) 2 k_HH_isTrial 3 [] [] σ
noncomputable def b_HH_isTrial_4 (d : Nat) (s0 : Int32) (σ : jS) : jR := db (jd jMT d) 2 k_HH_isTrial 4 [] [.int s0] σ
noncomputable def b_HH_isTrial_5 (d : Nat) (l2 : Int32) (σ : jS) : jR := db (jd jMT d) 2 k_HH_isTrial 5 [(0, .ref 0), (2, .int l2)] [] σ
noncomputable def b_HH_isTrial_6 (d : Nat) (σ : jS) : jR := db (jd jMT d) 2 k_HH_isTrial 6 [] [] σ
theorem e_HH_isTrial (d : Nat) (l1 : Int32) (l2 : Int32) (σ : jS) : g_HH_isTrial (d + 1) l1 l2 σ = b_HH_isTrial_0 d l1 l2 σ := rfl
set_option maxRecDepth 100000 in
theorem q_HH_isTrial_0 (d : Nat) (l1 : Int32) (l2 : Int32) (σ : jS) : b_HH_isTrial_0 d l1 l2 σ = (jif (l1 = 0) (b_HH_isTrial_1 d l2 σ) (jif (l1 = 1) (b_HH_isTrial_2 d l2 σ) (jif (l1 = 2) (b_HH_isTrial_2 d l2 σ) (jif (l1 = 3) (b_HH_isTrial_1 d l2 σ) (jif (l1 = 4) (b_HH_isTrial_2 d l2 σ) (jif (l1 = 5) (b_HH_isTrial_5 d l2 σ) (b_HH_isTrial_6 d σ))))))) := (db_eq _ _ _ _ _ _ _).trans rfl
set_option maxRecDepth 100000 in
theorem q_HH_isTrial_1 (d : Nat) (l2 : Int32) (σ : jS) : b_HH_isTrial_1 d l2 σ = (jc (j_is 6 (σ.2.2 0 2)) ((r_I (g_Te_isPerson d (σ.2.2 0 2) l2 σ)).bind fun q1 => if q1.1 = 0 ∨ q1.1 = 1 then some (some (.int q1.1), q1.2) else none)) := (db_eq _ _ _ _ _ _ _).trans rfl
set_option maxRecDepth 100000 in
theorem q_HH_isTrial_2 (d : Nat) (l2 : Int32) (σ : jS) : b_HH_isTrial_2 d l2 σ = (jif (l2 = 0) (b_HH_isTrial_4 d 1 σ) (b_HH_isTrial_3 d σ)) := (db_eq _ _ _ _ _ _ _).trans rfl
set_option maxRecDepth 100000 in
theorem q_HH_isTrial_3 (d : Nat) (σ : jS) : b_HH_isTrial_3 d σ = (b_HH_isTrial_4 d 0 σ) := (db_eq _ _ _ _ _ _ _).trans rfl
set_option maxRecDepth 100000 in
theorem q_HH_isTrial_4 (d : Nat) (s0 : Int32) (σ : jS) : b_HH_isTrial_4 d s0 σ = (if s0 = 0 ∨ s0 = 1 then some (some (.int s0), σ) else none) := (db_eq _ _ _ _ _ _ _).trans rfl
set_option maxRecDepth 100000 in
theorem q_HH_isTrial_5 (d : Nat) (l2 : Int32) (σ : jS) : b_HH_isTrial_5 d l2 σ = ((r_I (g_Jo_isParcel d 39 l2 σ)).bind fun q1 => if q1.1 = 0 ∨ q1.1 = 1 then some (some (.int q1.1), q1.2) else none) := (db_eq _ _ _ _ _ _ _).trans rfl
set_option maxRecDepth 100000 in
theorem q_HH_isTrial_6 (d : Nat) (σ : jS) : b_HH_isTrial_6 d σ = (some (some (.int 0), σ)) := (db_eq _ _ _ _ _ _ _).trans rfl
noncomputable def b_HH_keep_0 (d : Nat) (σ : jS) : jR := db (jd jMT d) 1 k_HH_keep 0 [(0, .ref 0)] [] σ
theorem e_HH_keep (d : Nat) (σ : jS) : g_HH_keep (d + 1) σ = b_HH_keep_0 d σ := rfl
set_option maxRecDepth 100000 in
theorem q_HH_keep_0 (d : Nat) (σ : jS) : b_HH_keep_0 d σ = ((r_V (g_Jo_copyFrom d 49 39 σ)).bind fun σ1 => some (some (.int ((j_setI σ1 0 9 1).1 39 0)), (j_setI σ1 0 9 1))) := (db_eq _ _ _ _ _ _ _).trans rfl
noncomputable def b_HH_again_0 (d : Nat) (σ : jS) : jR := db (jd jMT d) 1 k_HH_again 0 [(0, .ref 0)] [] σ
noncomputable def b_HH_again_1 (d : Nat) (σ : jS) : jR := db (jd jMT d) 1 k_HH_again 1 [(0, .ref 0)] [] σ
theorem e_HH_again (d : Nat) (σ : jS) : g_HH_again (d + 1) σ = b_HH_again_0 d σ := rfl
set_option maxRecDepth 100000 in
theorem q_HH_again_0 (d : Nat) (σ : jS) : b_HH_again_0 d σ = (jif ((σ.1 0 9) = 0) (some (some (.int (-1)), σ)) (b_HH_again_1 d σ)) := (db_eq _ _ _ _ _ _ _).trans rfl
set_option maxRecDepth 100000 in
theorem q_HH_again_1 (d : Nat) (σ : jS) : b_HH_again_1 d σ = ((r_V (g_Jo_copyFrom d 39 49 σ)).bind fun σ1 => some (some (.int (σ1.1 39 0)), σ1)) := (db_eq _ _ _ _ _ _ _).trans rfl
noncomputable def b_HH_count_0 (d : Nat) (l1 : Int32) (σ : jS) : jR := db (jd jMT d) 1 k_HH_count 0 [(0, .ref 0), (1, .int l1)] [] σ
noncomputable def b_HH_count_1 (d : Nat) (σ : jS) : jR := db (jd jMT d) 1 k_HH_count 1 [(0, .ref 0)] [] σ
noncomputable def b_HH_count_2 (d : Nat) (σ : jS) : jR := db (jd jMT d) 1 k_HH_count 2 [(0, .ref 0)] [] σ
noncomputable def b_HH_count_3 (d : Nat) (σ : jS) : jR := db (jd jMT d) 1 k_HH_count 3 [(0, .ref 0)] [] σ
noncomputable def b_HH_count_4 (d : Nat) (σ : jS) : jR := db (jd jMT d) 1 k_HH_count 4 [(0, .ref 0)] [] σ
noncomputable def b_HH_count_5 (d : Nat) (σ : jS) : jR := db (jd jMT d) 1 k_HH_count 5 [(0, .ref 0)] [] σ
noncomputable def b_HH_count_6 (d : Nat) (σ : jS) : jR := db (jd jMT d) 1 k_HH_count 6 [(0, .ref 0)] [] σ
noncomputable def b_HH_count_7 (d : Nat) (σ : jS) : jR := db (jd jMT d) 1 k_HH_count 7 [(0, .ref 0)] [] σ
noncomputable def b_HH_count_8 (d : Nat) (σ : jS) : jR := db (jd jMT d) 1 k_HH_count 8 [(0, .ref 0)] [] σ
noncomputable def b_HH_count_9 (d : Nat) (σ : jS) : jR := db (jd jMT d) 1 k_HH_count 9 [(0, .ref 0)] [] σ
noncomputable def b_HH_count_10 (d : Nat) (σ : jS) : jR := db (jd jMT d) 1 k_HH_count 10 [(0, .ref 0)] [] σ
noncomputable def b_HH_count_11 (d : Nat) (σ : jS) : jR := db (jd jMT d) 1 k_HH_count 11 [] [] σ
theorem e_HH_count (d : Nat) (l1 : Int32) (σ : jS) : g_HH_count (d + 1) l1 σ = b_HH_count_0 d l1 σ := rfl
set_option maxRecDepth 100000 in
theorem q_HH_count_0 (d : Nat) (l1 : Int32) (σ : jS) : b_HH_count_0 d l1 σ = (jif (l1 = 0) (b_HH_count_1 d σ) (jif (l1 = 1) (b_HH_count_2 d σ) (jif (l1 = 2) (b_HH_count_3 d σ) (jif (l1 = 3) (b_HH_count_4 d σ) (jif (l1 = 4) (b_HH_count_5 d σ) (jif (l1 = 5) (b_HH_count_6 d σ) (jif (l1 = 6) (b_HH_count_7 d σ) (jif (l1 = 7) (b_HH_count_8 d σ) (jif (l1 = 8) (b_HH_count_9 d σ) (jif (l1 = 9) (b_HH_count_10 d σ) (b_HH_count_11 d σ))))))))))) := (db_eq _ _ _ _ _ _ _).trans rfl
set_option maxRecDepth 100000 in
theorem q_HH_count_1 (d : Nat) (σ : jS) : b_HH_count_1 d σ = (jc (j_is 6 (σ.2.2 0 2)) (some (some (.int (σ.1 (σ.2.2 0 2) 0)), σ))) := (db_eq _ _ _ _ _ _ _).trans rfl
set_option maxRecDepth 100000 in
theorem q_HH_count_2 (d : Nat) (σ : jS) : b_HH_count_2 d σ = (some (some (.int (σ.1 39 3)), σ)) := (db_eq _ _ _ _ _ _ _).trans rfl
set_option maxRecDepth 100000 in
theorem q_HH_count_3 (d : Nat) (σ : jS) : b_HH_count_3 d σ = (jc (j_is 6 (σ.2.2 0 2)) (some (some (.int (σ.1 (σ.2.2 0 2) 10)), σ))) := (db_eq _ _ _ _ _ _ _).trans rfl
set_option maxRecDepth 100000 in
theorem q_HH_count_4 (d : Nat) (σ : jS) : b_HH_count_4 d σ = (jc (j_is 6 (σ.2.2 0 2)) (jc (j_is 1 (j_cr (σ.2.2 0 2) 12)) (some (some (.int (σ.1 (j_cr (σ.2.2 0 2) 12) 0)), σ)))) := (db_eq _ _ _ _ _ _ _).trans rfl
set_option maxRecDepth 100000 in
theorem q_HH_count_5 (d : Nat) (σ : jS) : b_HH_count_5 d σ = (some (some (.int (σ.1 39 0)), σ)) := (db_eq _ _ _ _ _ _ _).trans rfl
set_option maxRecDepth 100000 in
theorem q_HH_count_6 (d : Nat) (σ : jS) : b_HH_count_6 d σ = (some (some (.int (σ.1 78 0)), σ)) := (db_eq _ _ _ _ _ _ _).trans rfl
set_option maxRecDepth 100000 in
theorem q_HH_count_7 (d : Nat) (σ : jS) : b_HH_count_7 d σ = ((r_I (g_Nt_knownSize d σ)).bind fun q1 => some (some (.int q1.1), q1.2)) := (db_eq _ _ _ _ _ _ _).trans rfl
set_option maxRecDepth 100000 in
theorem q_HH_count_8 (d : Nat) (σ : jS) : b_HH_count_8 d σ = ((r_I (g_Jo_inState d 39 1 σ)).bind fun q1 => some (some (.int q1.1), q1.2)) := (db_eq _ _ _ _ _ _ _).trans rfl
set_option maxRecDepth 100000 in
theorem q_HH_count_9 (d : Nat) (σ : jS) : b_HH_count_9 d σ = ((r_I (g_Jo_inState d 39 2 σ)).bind fun q1 => some (some (.int q1.1), q1.2)) := (db_eq _ _ _ _ _ _ _).trans rfl
set_option maxRecDepth 100000 in
theorem q_HH_count_10 (d : Nat) (σ : jS) : b_HH_count_10 d σ = (jc (j_is 6 (σ.2.2 0 2)) (some (some (.int (σ.1 (σ.2.2 0 2) 6)), σ))) := (db_eq _ _ _ _ _ _ _).trans rfl
set_option maxRecDepth 100000 in
theorem q_HH_count_11 (d : Nat) (σ : jS) : b_HH_count_11 d σ = (some (some (.int (-1)), σ)) := (db_eq _ _ _ _ _ _ _).trans rfl
noncomputable def b_HH_isRow_0 (d : Nat) (l1 : Int32) (l2 : Int64) (σ : jS) : jR := db (jd jMT d) 2 k_HH_isRow 0 [(0, .ref 0), (1, .int l1), (2, .long l2)] [] σ
theorem e_HH_isRow (d : Nat) (l1 : Int32) (l2 : Int64) (σ : jS) : g_HH_isRow (d + 1) l1 l2 σ = b_HH_isRow_0 d l1 l2 σ := rfl
set_option maxRecDepth 100000 in
theorem q_HH_isRow_0 (d : Nat) (l1 : Int32) (l2 : Int64) (σ : jS) : b_HH_isRow_0 d l1 l2 σ = (jc (j_is 6 (σ.2.2 0 2)) ((r_I (g_Rw_take d l1 l2 (σ.1 (σ.2.2 0 2) 0) σ)).bind fun q1 => if q1.1 = 0 ∨ q1.1 = 1 then some (some (.int q1.1), q1.2) else none)) := (db_eq _ _ _ _ _ _ _).trans rfl
noncomputable def b_HH_isSent_0 (d : Nat) (l1 : Int32) (l2 : Int64) (l4 : Int32) (σ : jS) : jR := db (jd jMT d) 2 k_HH_isSent 0 [(0, .ref 0), (1, .int l1), (2, .long l2), (4, .int l4)] [] σ
noncomputable def b_HH_isSent_1 (d : Nat) (σ : jS) : jR := db (jd jMT d) 2 k_HH_isSent 1 [] [] σ
noncomputable def b_HH_isSent_2 (d : Nat) (s0 : Int32) (σ : jS) : jR := db (jd jMT d) 2 k_HH_isSent 2 [] [.int s0] σ
theorem e_HH_isSent (d : Nat) (l1 : Int32) (l2 : Int64) (l4 : Int32) (σ : jS) : g_HH_isSent (d + 1) l1 l2 l4 σ = b_HH_isSent_0 d l1 l2 l4 σ := rfl
set_option maxRecDepth 100000 in
theorem q_HH_isSent_0 (d : Nat) (l1 : Int32) (l2 : Int64) (l4 : Int32) (σ : jS) : b_HH_isSent_0 d l1 l2 l4 σ = ((r_I (g_HH_isRow d l1 l2 σ)).bind fun q1 => jif (q1.1 = 0) (b_HH_isSent_1 d q1.2) ((r_I (g_HH_within d l4 0 999999 q1.2)).bind fun q2 => jif (q2.1 = 0) (b_HH_isSent_1 d q2.2) (b_HH_isSent_2 d 1 q2.2))) := (db_eq _ _ _ _ _ _ _).trans rfl
set_option maxRecDepth 100000 in
theorem q_HH_isSent_1 (d : Nat) (σ : jS) : b_HH_isSent_1 d σ = (b_HH_isSent_2 d 0 σ) := (db_eq _ _ _ _ _ _ _).trans rfl
set_option maxRecDepth 100000 in
theorem q_HH_isSent_2 (d : Nat) (s0 : Int32) (σ : jS) : b_HH_isSent_2 d s0 σ = (if s0 = 0 ∨ s0 = 1 then some (some (.int s0), σ) else none) := (db_eq _ _ _ _ _ _ _).trans rfl
noncomputable def b_HH_within_0 (d : Nat) (l0 : Int32) (l1 : Int32) (l2 : Int32) (σ : jS) : jR := db (jd jMT d) 2 k_HH_within 0 [(0, .int l0), (1, .int l1), (2, .int l2)] [] σ
noncomputable def b_HH_within_1 (d : Nat) (σ : jS) : jR := db (jd jMT d) 2 k_HH_within 1 [] [] σ
noncomputable def b_HH_within_2 (d : Nat) (s0 : Int32) (σ : jS) : jR := db (jd jMT d) 2 k_HH_within 2 [] [.int s0] σ
theorem e_HH_within (d : Nat) (l0 : Int32) (l1 : Int32) (l2 : Int32) (σ : jS) : g_HH_within (d + 1) l0 l1 l2 σ = b_HH_within_0 d l0 l1 l2 σ := rfl
set_option maxRecDepth 100000 in
theorem q_HH_within_0 (d : Nat) (l0 : Int32) (l1 : Int32) (l2 : Int32) (σ : jS) : b_HH_within_0 d l0 l1 l2 σ = (jif (l0 < l1) (b_HH_within_1 d σ) (jif (l2 < l0) (b_HH_within_1 d σ) (b_HH_within_2 d 1 σ))) := (db_eq _ _ _ _ _ _ _).trans rfl
set_option maxRecDepth 100000 in
theorem q_HH_within_1 (d : Nat) (σ : jS) : b_HH_within_1 d σ = (b_HH_within_2 d 0 σ) := (db_eq _ _ _ _ _ _ _).trans rfl
set_option maxRecDepth 100000 in
theorem q_HH_within_2 (d : Nat) (s0 : Int32) (σ : jS) : b_HH_within_2 d s0 σ = (if s0 = 0 ∨ s0 = 1 then some (some (.int s0), σ) else none) := (db_eq _ _ _ _ _ _ _).trans rfl
noncomputable def b_HH_ceiling_0 (d : Nat) (l0 : Int32) (l1 : Int32) (σ : jS) : jR := db (jd jMT d) 1 k_HH_ceiling 0 [(0, .int l0), (1, .int l1)] [] σ
theorem e_HH_ceiling (d : Nat) (l0 : Int32) (l1 : Int32) (σ : jS) : g_HH_ceiling (d + 1) l0 l1 σ = b_HH_ceiling_0 d l0 l1 σ := rfl
set_option maxRecDepth 100000 in
theorem q_HH_ceiling_0 (d : Nat) (l0 : Int32) (l1 : Int32) (σ : jS) : b_HH_ceiling_0 d l0 l1 σ = (some (some (.int ((((l0 + ((1 : Int32) <<< ((l1 : Int32) &&& 31))) - 1) : Int32) >>> ((l1 : Int32) &&& 31))), σ)) := (db_eq _ _ _ _ _ _ _).trans rfl
noncomputable def b_M_thrown_0 (d : Nat) (σ : jS) : jR := db (jd jMT d) 1 k_M_thrown 0 [(0, .ref 86)] [] σ
theorem e_M_thrown (d : Nat) (σ : jS) : g_M_thrown (d + 1) σ = b_M_thrown_0 d σ := rfl
set_option maxRecDepth 100000 in
theorem q_M_thrown_0 (d : Nat) (σ : jS) : b_M_thrown_0 d σ = (some (some (.int (σ.1 86 0)), σ)) := (db_eq _ _ _ _ _ _ _).trans rfl
noncomputable def b_M_feed_0 (d : Nat) (l1 : Int32) (l2 : Int32) (l3 : Int32) (l4 : Int32) (l5 : Int32) (σ : jS) : jR := db (jd jMT d) 1 k_M_feed 0 [(0, .ref 86), (1, .int l1), (2, .int l2), (3, .int l3), (4, .int l4), (5, .int l5)] [] σ
noncomputable def b_M_feed_1 (d : Nat) (l1 : Int32) (l2 : Int32) (l3 : Int32) (l4 : Int32) (l5 : Int32) (σ : jS) : jR := db (jd jMT d) 1 k_M_feed 1 [(0, .ref 86), (1, .int l1), (2, .int l2), (3, .int l3), (4, .int l4), (5, .int l5)] [] σ
noncomputable def b_M_feed_2 (d : Nat) (l1 : Int32) (l2 : Int32) (l3 : Int32) (l4 : Int32) (l5 : Int32) (l6 : Int32) (σ : jS) : jR := db (jd jMT d) 1 k_M_feed 2 [(0, .ref 86), (1, .int l1), (2, .int l2), (3, .int l3), (4, .int l4), (5, .int l5), (6, .int l6)] [] σ
noncomputable def b_M_feed_3 (d : Nat) (l1 : Int32) (l2 : Int32) (l3 : Int32) (l4 : Int32) (l5 : Int32) (l6 : Int32) (σ : jS) : jR := db (jd jMT d) 1 k_M_feed 3 [(0, .ref 86), (1, .int l1), (2, .int l2), (3, .int l3), (4, .int l4), (5, .int l5), (6, .int l6)] [] σ
noncomputable def b_M_feed_4 (d : Nat) (l1 : Int32) (l2 : Int32) (l3 : Int32) (l4 : Int32) (l5 : Int32) (l6 : Int32) (σ : jS) : jR := db (jd jMT d) 1 k_M_feed 4 [(0, .ref 86), (1, .int l1), (2, .int l2), (3, .int l3), (4, .int l4), (5, .int l5), (6, .int l6)] [] σ
noncomputable def b_M_feed_5 (d : Nat) (l1 : Int32) (l2 : Int32) (l3 : Int32) (l4 : Int32) (l5 : Int32) (l6 : Int32) (σ : jS) : jR := db (jd jMT d) 1 k_M_feed 5 [(0, .ref 86), (1, .int l1), (2, .int l2), (3, .int l3), (4, .int l4), (5, .int l5), (6, .int l6)] [] σ
noncomputable def b_M_feed_6 (d : Nat) (l1 : Int32) (l2 : Int32) (l3 : Int32) (l4 : Int32) (l5 : Int32) (l6 : Int32) (σ : jS) : jR := db (jd jMT d) 1 k_M_feed 6 [(0, .ref 86), (1, .int l1), (2, .int l2), (3, .int l3), (4, .int l4), (5, .int l5), (6, .int l6)] [] σ
noncomputable def b_M_feed_7 (d : Nat) (l1 : Int32) (l2 : Int32) (l3 : Int32) (l4 : Int32) (l5 : Int32) (l6 : Int32) (s0 : Int32) (σ : jS) : jR := db (jd jMT d) 1 k_M_feed 7 [(0, .ref 86), (1, .int l1), (2, .int l2), (3, .int l3), (4, .int l4), (5, .int l5), (6, .int l6)] [.int s0] σ
noncomputable def b_M_feed_8 (d : Nat) (σ : jS) : jR := db (jd jMT d) 1 k_M_feed 8 [(0, .ref 86)] [] σ
theorem e_M_feed (d : Nat) (l1 : Int32) (l2 : Int32) (l3 : Int32) (l4 : Int32) (l5 : Int32) (σ : jS) : g_M_feed (d + 1) l1 l2 l3 l4 l5 σ = b_M_feed_0 d l1 l2 l3 l4 l5 σ := rfl
set_option maxRecDepth 100000 in
theorem q_M_feed_0 (d : Nat) (l1 : Int32) (l2 : Int32) (l3 : Int32) (l4 : Int32) (l5 : Int32) (σ : jS) : b_M_feed_0 d l1 l2 l3 l4 l5 σ = (jif (((j_setI σ 86 0 0).1 86 2) ≤ 680) (b_M_feed_1 d l1 l2 l3 l4 l5 (j_setI σ 86 0 0)) (some (some (.int (-1)), (j_setI σ 86 0 0)))) := (db_eq _ _ _ _ _ _ _).trans rfl
set_option maxRecDepth 100000 in
theorem q_M_feed_1 (d : Nat) (l1 : Int32) (l2 : Int32) (l3 : Int32) (l4 : Int32) (l5 : Int32) (σ : jS) : b_M_feed_1 d l1 l2 l3 l4 l5 σ = (b_M_feed_2 d l1 l2 l3 l4 l5 0 σ) := (db_eq _ _ _ _ _ _ _).trans rfl
set_option maxRecDepth 100000 in
theorem q_M_feed_2 (d : Nat) (l1 : Int32) (l2 : Int32) (l3 : Int32) (l4 : Int32) (l5 : Int32) (l6 : Int32) (σ : jS) : b_M_feed_2 d l1 l2 l3 l4 l5 l6 σ = (jif (20 ≤ l6) (b_M_feed_8 d σ) (jif (4 ≤ l6) (b_M_feed_3 d l1 l2 l3 l4 l5 l6 σ) (b_M_feed_7 d l1 l2 l3 l4 l5 l6 l1 σ))) := (db_eq _ _ _ _ _ _ _).trans rfl
set_option maxRecDepth 100000 in
theorem q_M_feed_3 (d : Nat) (l1 : Int32) (l2 : Int32) (l3 : Int32) (l4 : Int32) (l5 : Int32) (l6 : Int32) (σ : jS) : b_M_feed_3 d l1 l2 l3 l4 l5 l6 σ = (jif (8 ≤ l6) (b_M_feed_4 d l1 l2 l3 l4 l5 l6 σ) (b_M_feed_7 d l1 l2 l3 l4 l5 l6 l2 σ)) := (db_eq _ _ _ _ _ _ _).trans rfl
set_option maxRecDepth 100000 in
theorem q_M_feed_4 (d : Nat) (l1 : Int32) (l2 : Int32) (l3 : Int32) (l4 : Int32) (l5 : Int32) (l6 : Int32) (σ : jS) : b_M_feed_4 d l1 l2 l3 l4 l5 l6 σ = (jif (12 ≤ l6) (b_M_feed_5 d l1 l2 l3 l4 l5 l6 σ) (b_M_feed_7 d l1 l2 l3 l4 l5 l6 l3 σ)) := (db_eq _ _ _ _ _ _ _).trans rfl
set_option maxRecDepth 100000 in
theorem q_M_feed_5 (d : Nat) (l1 : Int32) (l2 : Int32) (l3 : Int32) (l4 : Int32) (l5 : Int32) (l6 : Int32) (σ : jS) : b_M_feed_5 d l1 l2 l3 l4 l5 l6 σ = (jif (16 ≤ l6) (b_M_feed_6 d l1 l2 l3 l4 l5 l6 σ) (b_M_feed_7 d l1 l2 l3 l4 l5 l6 l4 σ)) := (db_eq _ _ _ _ _ _ _).trans rfl
set_option maxRecDepth 100000 in
theorem q_M_feed_6 (d : Nat) (l1 : Int32) (l2 : Int32) (l3 : Int32) (l4 : Int32) (l5 : Int32) (l6 : Int32) (σ : jS) : b_M_feed_6 d l1 l2 l3 l4 l5 l6 σ = (b_M_feed_7 d l1 l2 l3 l4 l5 l6 l5 σ) := (db_eq _ _ _ _ _ _ _).trans rfl
set_option maxRecDepth 100000 in
theorem q_M_feed_7 (d : Nat) (l1 : Int32) (l2 : Int32) (l3 : Int32) (l4 : Int32) (l5 : Int32) (l6 : Int32) (s0 : Int32) (σ : jS) : b_M_feed_7 d l1 l2 l3 l4 l5 l6 s0 σ = ((j_wrI σ 87 ((σ.1 86 2) + l6) (((s0 : Int32) >>> (((24 - (8 * (l6 - l6 / 4 * 4))) : Int32) &&& 31)) &&& 255)).bind fun σ1 => b_M_feed_2 d l1 l2 l3 l4 l5 (l6 + 1) σ1) := (db_eq _ _ _ _ _ _ _).trans rfl
set_option maxRecDepth 100000 in
theorem q_M_feed_8 (d : Nat) (σ : jS) : b_M_feed_8 d σ = (some (some (.int ((j_setI σ 86 2 ((σ.1 86 2) + 20)).1 86 2)), (j_setI σ 86 2 ((σ.1 86 2) + 20)))) := (db_eq _ _ _ _ _ _ _).trans rfl
noncomputable def b_M_here_0 (d : Nat) (σ : jS) : jR := db (jd jMT d) 1 k_M_here 0 [(0, .ref 86)] [] σ
noncomputable def b_M_here_1 (d : Nat) (σ : jS) : jR := db (jd jMT d) 1 k_M_here 1 [] [] σ
noncomputable def b_M_here_2 (d : Nat) (s0 : Int32) (σ : jS) : jR := db (jd jMT d) 1 k_M_here 2 [] [.int s0] σ
theorem e_M_here (d : Nat) (σ : jS) : g_M_here (d + 1) σ = b_M_here_0 d σ := rfl
set_option maxRecDepth 100000 in
theorem q_M_here_0 (d : Nat) (σ : jS) : b_M_here_0 d σ = (jif ((σ.1 86 18) ≤ (σ.1 86 19)) (b_M_here_1 d σ) ((j_rdI 0 σ 87 (σ.1 86 19)).bind fun x1 => b_M_here_2 d x1 σ)) := (db_eq _ _ _ _ _ _ _).trans rfl
set_option maxRecDepth 100000 in
theorem q_M_here_1 (d : Nat) (σ : jS) : b_M_here_1 d σ = (b_M_here_2 d (-1) σ) := (db_eq _ _ _ _ _ _ _).trans rfl
set_option maxRecDepth 100000 in
theorem q_M_here_2 (d : Nat) (s0 : Int32) (σ : jS) : b_M_here_2 d s0 σ = (some (some (.int s0), σ)) := (db_eq _ _ _ _ _ _ _).trans rfl
noncomputable def b_M_isSmall_0 (d : Nat) (l0 : Int32) (σ : jS) : jR := db (jd jMT d) 2 k_M_isSmall 0 [(0, .int l0)] [] σ
noncomputable def b_M_isSmall_1 (d : Nat) (σ : jS) : jR := db (jd jMT d) 2 k_M_isSmall 1 [] [] σ
noncomputable def b_M_isSmall_2 (d : Nat) (s0 : Int32) (σ : jS) : jR := db (jd jMT d) 2 k_M_isSmall 2 [] [.int s0] σ
theorem e_M_isSmall (d : Nat) (l0 : Int32) (σ : jS) : g_M_isSmall (d + 1) l0 σ = b_M_isSmall_0 d l0 σ := rfl
set_option maxRecDepth 100000 in
theorem q_M_isSmall_0 (d : Nat) (l0 : Int32) (σ : jS) : b_M_isSmall_0 d l0 σ = (jif (l0 < 97) (b_M_isSmall_1 d σ) (jif (122 < l0) (b_M_isSmall_1 d σ) (b_M_isSmall_2 d 1 σ))) := (db_eq _ _ _ _ _ _ _).trans rfl
set_option maxRecDepth 100000 in
theorem q_M_isSmall_1 (d : Nat) (σ : jS) : b_M_isSmall_1 d σ = (b_M_isSmall_2 d 0 σ) := (db_eq _ _ _ _ _ _ _).trans rfl
set_option maxRecDepth 100000 in
theorem q_M_isSmall_2 (d : Nat) (s0 : Int32) (σ : jS) : b_M_isSmall_2 d s0 σ = (if s0 = 0 ∨ s0 = 1 then some (some (.int s0), σ) else none) := (db_eq _ _ _ _ _ _ _).trans rfl
noncomputable def b_M_isDigit_0 (d : Nat) (l0 : Int32) (σ : jS) : jR := db (jd jMT d) 2 k_M_isDigit 0 [(0, .int l0)] [] σ
noncomputable def b_M_isDigit_1 (d : Nat) (σ : jS) : jR := db (jd jMT d) 2 k_M_isDigit 1 [] [] σ
noncomputable def b_M_isDigit_2 (d : Nat) (s0 : Int32) (σ : jS) : jR := db (jd jMT d) 2 k_M_isDigit 2 [] [.int s0] σ
theorem e_M_isDigit (d : Nat) (l0 : Int32) (σ : jS) : g_M_isDigit (d + 1) l0 σ = b_M_isDigit_0 d l0 σ := rfl
set_option maxRecDepth 100000 in
theorem q_M_isDigit_0 (d : Nat) (l0 : Int32) (σ : jS) : b_M_isDigit_0 d l0 σ = (jif (l0 < 48) (b_M_isDigit_1 d σ) (jif (57 < l0) (b_M_isDigit_1 d σ) (b_M_isDigit_2 d 1 σ))) := (db_eq _ _ _ _ _ _ _).trans rfl
set_option maxRecDepth 100000 in
theorem q_M_isDigit_1 (d : Nat) (σ : jS) : b_M_isDigit_1 d σ = (b_M_isDigit_2 d 0 σ) := (db_eq _ _ _ _ _ _ _).trans rfl
set_option maxRecDepth 100000 in
theorem q_M_isDigit_2 (d : Nat) (s0 : Int32) (σ : jS) : b_M_isDigit_2 d s0 σ = (if s0 = 0 ∨ s0 = 1 then some (some (.int s0), σ) else none) := (db_eq _ _ _ _ _ _ _).trans rfl
noncomputable def b_M_token_0 (d : Nat) (σ : jS) : jR := db (jd jMT d) 0 k_M_token 0 [(0, .ref 86)] [] σ
noncomputable def b_M_token_1 (d : Nat) (σ : jS) : jR := db (jd jMT d) 0 k_M_token 1 [(0, .ref 86)] [] σ
noncomputable def b_M_token_2 (d : Nat) (σ : jS) : jR := db (jd jMT d) 0 k_M_token 2 [(0, .ref 86)] [] σ
noncomputable def b_M_token_3 (d : Nat) (l1 : Int32) (σ : jS) : jR := db (jd jMT d) 0 k_M_token 3 [(0, .ref 86), (1, .int l1)] [] σ
noncomputable def b_M_token_4 (d : Nat) (σ : jS) : jR := db (jd jMT d) 0 k_M_token 4 [(0, .ref 86)] [] σ
noncomputable def b_M_token_5 (d : Nat) (σ : jS) : jR := db (jd jMT d) 0 k_M_token 5 [(0, .ref 86)] [] σ
noncomputable def b_M_token_6 (d : Nat) (σ : jS) : jR := db (jd jMT d) 0 k_M_token 6 [(0, .ref 86)] [.ref 86] σ
noncomputable def b_M_token_7 (d : Nat) (σ : jS) : jR := db (jd jMT d) 0 k_M_token 7 [(0, .ref 86)] [.ref 86] σ
noncomputable def b_M_token_8 (d : Nat) (s1 : Int32) (σ : jS) : jR := db (jd jMT d) 0 k_M_token 8 [(0, .ref 86)] [.int s1, .ref 86] σ
noncomputable def b_M_token_9 (d : Nat) (l1 : Int32) (σ : jS) : jR := db (jd jMT d) 0 k_M_token 9 [(0, .ref 86), (1, .int l1)] [] σ
noncomputable def b_M_token_10 (d : Nat) (σ : jS) : jR := db (jd jMT d) 0 k_M_token 10 [(0, .ref 86)] [] σ
noncomputable def b_M_token_11 (d : Nat) (σ : jS) : jR := db (jd jMT d) 0 k_M_token 11 [(0, .ref 86)] [.ref 86] σ
noncomputable def b_M_token_12 (d : Nat) (s1 : Int32) (σ : jS) : jR := db (jd jMT d) 0 k_M_token 12 [(0, .ref 86)] [.int s1, .ref 86] σ
noncomputable def b_M_token_13 (d : Nat) (l1 : Int32) (σ : jS) : jR := db (jd jMT d) 0 k_M_token 13 [(0, .ref 86), (1, .int l1)] [] σ
noncomputable def b_M_token_14 (d : Nat) (σ : jS) : jR := db (jd jMT d) 0 k_M_token 14 [] [] σ
theorem e_M_token (d : Nat) (σ : jS) : g_M_token (d + 1) σ = b_M_token_0 d σ := rfl
set_option maxRecDepth 100000 in
theorem q_M_token_0 (d : Nat) (σ : jS) : b_M_token_0 d σ = ((r_I (g_M_here d σ)).bind fun q1 => jif (q1.1 = 10) (b_M_token_1 d q1.2) ((r_I (g_M_here d q1.2)).bind fun q2 => jif (q2.1 = 32) (b_M_token_1 d q2.2) (b_M_token_2 d q2.2))) := (db_eq _ _ _ _ _ _ _).trans rfl
set_option maxRecDepth 100000 in
theorem q_M_token_1 (d : Nat) (σ : jS) : b_M_token_1 d σ = (b_M_token_0 d (j_setI σ 86 19 ((σ.1 86 19) + 1))) := (db_eq _ _ _ _ _ _ _).trans rfl
set_option maxRecDepth 100000 in
theorem q_M_token_2 (d : Nat) (σ : jS) : b_M_token_2 d σ = ((r_I (g_M_here d (j_setI σ 86 20 (σ.1 86 19)))).bind fun q1 => jif (q1.1 = (-1)) (b_M_token_14 d (j_setI q1.2 86 21 4)) (b_M_token_3 d q1.1 q1.2)) := (db_eq _ _ _ _ _ _ _).trans rfl
set_option maxRecDepth 100000 in
theorem q_M_token_3 (d : Nat) (l1 : Int32) (σ : jS) : b_M_token_3 d l1 σ = ((r_I (g_M_isSmall d l1 σ)).bind fun q1 => jif (q1.1 = 0) (b_M_token_9 d l1 q1.2) (b_M_token_4 d q1.2)) := (db_eq _ _ _ _ _ _ _).trans rfl
set_option maxRecDepth 100000 in
theorem q_M_token_4 (d : Nat) (σ : jS) : b_M_token_4 d σ = ((r_I (g_M_here d σ)).bind fun q1 => (r_I (g_M_isSmall d q1.1 q1.2)).bind fun q2 => jif (q2.1 = 0) (b_M_token_5 d q2.2) (b_M_token_4 d (j_setI q2.2 86 19 ((q2.2.1 86 19) + 1)))) := (db_eq _ _ _ _ _ _ _).trans rfl
set_option maxRecDepth 100000 in
theorem q_M_token_5 (d : Nat) (σ : jS) : b_M_token_5 d σ = ((r_I (g_M_word d σ)).bind fun q1 => jif (((j_setI q1.2 86 22 q1.1).1 86 22) = (-1)) (b_M_token_6 d (j_setI q1.2 86 22 q1.1)) (b_M_token_8 d 0 (j_setI q1.2 86 22 q1.1))) := (db_eq _ _ _ _ _ _ _).trans rfl
set_option maxRecDepth 100000 in
theorem q_M_token_6 (d : Nat) (σ : jS) : b_M_token_6 d σ = (jif (((σ.1 86 19) - (σ.1 86 20)) ≤ 6) (b_M_token_7 d σ) (b_M_token_8 d 5 σ)) := (db_eq _ _ _ _ _ _ _).trans rfl
set_option maxRecDepth 100000 in
theorem q_M_token_7 (d : Nat) (σ : jS) : b_M_token_7 d σ = (b_M_token_8 d 1 σ) := (db_eq _ _ _ _ _ _ _).trans rfl
set_option maxRecDepth 100000 in
theorem q_M_token_8 (d : Nat) (s1 : Int32) (σ : jS) : b_M_token_8 d s1 σ = (jif (((j_setI σ 86 21 s1).1 86 21) = 1) ((r_V (g_M_name d (j_setI σ 86 21 s1))).bind fun σ1 => b_M_token_14 d σ1) (b_M_token_14 d (j_setI σ 86 21 s1))) := (db_eq _ _ _ _ _ _ _).trans rfl
set_option maxRecDepth 100000 in
theorem q_M_token_9 (d : Nat) (l1 : Int32) (σ : jS) : b_M_token_9 d l1 σ = ((r_I (g_M_isDigit d l1 σ)).bind fun q1 => jif (q1.1 = 0) (b_M_token_13 d l1 q1.2) (b_M_token_10 d (j_setI (j_setI q1.2 86 21 2) 86 22 0))) := (db_eq _ _ _ _ _ _ _).trans rfl
set_option maxRecDepth 100000 in
theorem q_M_token_10 (d : Nat) (σ : jS) : b_M_token_10 d σ = ((r_I (g_M_here d σ)).bind fun q1 => (r_I (g_M_isDigit d q1.1 q1.2)).bind fun q2 => jif (q2.1 = 0) (b_M_token_14 d q2.2) (jif ((q2.2.1 86 22) ≤ 99999) (b_M_token_11 d q2.2) (b_M_token_12 d (q2.2.1 86 22) q2.2))) := (db_eq _ _ _ _ _ _ _).trans rfl
set_option maxRecDepth 100000 in
theorem q_M_token_11 (d : Nat) (σ : jS) : b_M_token_11 d σ = ((r_I (g_M_here d σ)).bind fun q1 => b_M_token_12 d (((10 * (σ.1 86 22)) + q1.1) - 48) q1.2) := (db_eq _ _ _ _ _ _ _).trans rfl
set_option maxRecDepth 100000 in
theorem q_M_token_12 (d : Nat) (s1 : Int32) (σ : jS) : b_M_token_12 d s1 σ = (b_M_token_10 d (j_setI (j_setI σ 86 22 s1) 86 19 (((j_setI σ 86 22 s1).1 86 19) + 1))) := (db_eq _ _ _ _ _ _ _).trans rfl
set_option maxRecDepth 100000 in
theorem q_M_token_13 (d : Nat) (l1 : Int32) (σ : jS) : b_M_token_13 d l1 σ = ((r_V (g_M_sign d l1 σ)).bind fun σ1 => b_M_token_14 d σ1) := (db_eq _ _ _ _ _ _ _).trans rfl
set_option maxRecDepth 100000 in
theorem q_M_token_14 (d : Nat) (σ : jS) : b_M_token_14 d σ = (some (none, σ)) := (db_eq _ _ _ _ _ _ _).trans rfl
noncomputable def b_M_sign_0 (d : Nat) (l1 : Int32) (σ : jS) : jR := db (jd jMT d) 0 k_M_sign 0 [(0, .ref 86), (1, .int l1)] [] σ
noncomputable def b_M_sign_1 (d : Nat) (l1 : Int32) (σ : jS) : jR := db (jd jMT d) 0 k_M_sign 1 [(0, .ref 86), (1, .int l1)] [.ref 86] σ
noncomputable def b_M_sign_2 (d : Nat) (l1 : Int32) (σ : jS) : jR := db (jd jMT d) 0 k_M_sign 2 [(0, .ref 86), (1, .int l1)] [.ref 86] σ
noncomputable def b_M_sign_3 (d : Nat) (l1 : Int32) (s1 : Int32) (σ : jS) : jR := db (jd jMT d) 0 k_M_sign 3 [(0, .ref 86), (1, .int l1)] [.int s1, .ref 86] σ
noncomputable def b_M_sign_4 (d : Nat) (l1 : Int32) (σ : jS) : jR := db (jd jMT d) 0 k_M_sign 4 [(0, .ref 86), (1, .int l1)] [] σ
noncomputable def b_M_sign_5 (d : Nat) (l1 : Int32) (σ : jS) : jR := db (jd jMT d) 0 k_M_sign 5 [(0, .ref 86), (1, .int l1)] [] σ
noncomputable def b_M_sign_6 (d : Nat) (σ : jS) : jR := db (jd jMT d) 0 k_M_sign 6 [(0, .ref 86)] [] σ
noncomputable def b_M_sign_7 (d : Nat) (σ : jS) : jR := db (jd jMT d) 0 k_M_sign 7 [] [] σ
theorem e_M_sign (d : Nat) (l1 : Int32) (σ : jS) : g_M_sign (d + 1) l1 σ = b_M_sign_0 d l1 σ := rfl
set_option maxRecDepth 100000 in
theorem q_M_sign_0 (d : Nat) (l1 : Int32) (σ : jS) : b_M_sign_0 d l1 σ = (jif (l1 = 59) (b_M_sign_1 d l1 (j_setI σ 86 19 ((σ.1 86 19) + 1))) (jif (l1 = 40) (b_M_sign_1 d l1 (j_setI σ 86 19 ((σ.1 86 19) + 1))) (jif (l1 = 41) (b_M_sign_1 d l1 (j_setI σ 86 19 ((σ.1 86 19) + 1))) (jif (l1 = 43) (b_M_sign_1 d l1 (j_setI σ 86 19 ((σ.1 86 19) + 1))) (jif (l1 = 45) (b_M_sign_1 d l1 (j_setI σ 86 19 ((σ.1 86 19) + 1))) (jif (l1 = 42) (b_M_sign_1 d l1 (j_setI σ 86 19 ((σ.1 86 19) + 1))) (jif (l1 = 47) (b_M_sign_1 d l1 (j_setI σ 86 19 ((σ.1 86 19) + 1))) (jif (l1 = 37) (b_M_sign_1 d l1 (j_setI σ 86 19 ((σ.1 86 19) + 1))) (jif (l1 = 60) (b_M_sign_1 d l1 (j_setI σ 86 19 ((σ.1 86 19) + 1))) (jif (l1 = 61) (b_M_sign_1 d l1 (j_setI σ 86 19 ((σ.1 86 19) + 1))) (jif (l1 = 62) (b_M_sign_1 d l1 (j_setI σ 86 19 ((σ.1 86 19) + 1))) (b_M_sign_2 d l1 (j_setI σ 86 19 ((σ.1 86 19) + 1)))))))))))))) := (db_eq _ _ _ _ _ _ _).trans rfl
set_option maxRecDepth 100000 in
theorem q_M_sign_1 (d : Nat) (l1 : Int32) (σ : jS) : b_M_sign_1 d l1 σ = (b_M_sign_3 d l1 3 σ) := (db_eq _ _ _ _ _ _ _).trans rfl
set_option maxRecDepth 100000 in
theorem q_M_sign_2 (d : Nat) (l1 : Int32) (σ : jS) : b_M_sign_2 d l1 σ = (b_M_sign_3 d l1 5 σ) := (db_eq _ _ _ _ _ _ _).trans rfl
set_option maxRecDepth 100000 in
theorem q_M_sign_3 (d : Nat) (l1 : Int32) (s1 : Int32) (σ : jS) : b_M_sign_3 d l1 s1 σ = (jif (l1 = 60) ((r_I (g_M_here d (j_setI (j_setI σ 86 21 s1) 86 22 l1))).bind fun q1 => jif (q1.1 = 61) (b_M_sign_4 d l1 (j_setI q1.2 86 22 256)) (b_M_sign_4 d l1 q1.2)) (b_M_sign_4 d l1 (j_setI (j_setI σ 86 21 s1) 86 22 l1))) := (db_eq _ _ _ _ _ _ _).trans rfl
set_option maxRecDepth 100000 in
theorem q_M_sign_4 (d : Nat) (l1 : Int32) (σ : jS) : b_M_sign_4 d l1 σ = (jif (l1 = 60) ((r_I (g_M_here d σ)).bind fun q1 => jif (q1.1 = 62) (b_M_sign_5 d l1 (j_setI q1.2 86 22 257)) (b_M_sign_5 d l1 q1.2)) (b_M_sign_5 d l1 σ)) := (db_eq _ _ _ _ _ _ _).trans rfl
set_option maxRecDepth 100000 in
theorem q_M_sign_5 (d : Nat) (l1 : Int32) (σ : jS) : b_M_sign_5 d l1 σ = (jif (l1 = 62) ((r_I (g_M_here d σ)).bind fun q1 => jif (q1.1 = 61) (b_M_sign_6 d (j_setI q1.2 86 22 258)) (b_M_sign_6 d q1.2)) (b_M_sign_6 d σ)) := (db_eq _ _ _ _ _ _ _).trans rfl
set_option maxRecDepth 100000 in
theorem q_M_sign_6 (d : Nat) (σ : jS) : b_M_sign_6 d σ = (jif ((σ.1 86 22) < 256) (b_M_sign_7 d σ) (b_M_sign_7 d (j_setI σ 86 19 ((σ.1 86 19) + 1)))) := (db_eq _ _ _ _ _ _ _).trans rfl
set_option maxRecDepth 100000 in
theorem q_M_sign_7 (d : Nat) (σ : jS) : b_M_sign_7 d σ = (some (none, σ)) := (db_eq _ _ _ _ _ _ _).trans rfl
noncomputable def b_M_word_0 (d : Nat) (σ : jS) : jR := db (jd jMT d) 1 k_M_word 0 [(0, .ref 86)] [] σ
noncomputable def b_M_word_1 (d : Nat) (l1 : Int32) (l2 : Int32) (σ : jS) : jR := db (jd jMT d) 1 k_M_word 1 [(0, .ref 86), (1, .int l1), (2, .int l2)] [] σ
noncomputable def b_M_word_2 (d : Nat) (l1 : Int32) (l2 : Int32) (l3 : Int32) (σ : jS) : jR := db (jd jMT d) 1 k_M_word 2 [(0, .ref 86), (1, .int l1), (2, .int l2), (3, .int l3)] [] σ
noncomputable def b_M_word_3 (d : Nat) (l1 : Int32) (l2 : Int32) (l3 : Int32) (σ : jS) : jR := db (jd jMT d) 1 k_M_word 3 [(0, .ref 86), (1, .int l1), (2, .int l2), (3, .int l3)] [] σ
noncomputable def b_M_word_4 (d : Nat) (l1 : Int32) (l2 : Int32) (σ : jS) : jR := db (jd jMT d) 1 k_M_word 4 [(0, .ref 86), (1, .int l1), (2, .int l2)] [] σ
noncomputable def b_M_word_5 (d : Nat) (l1 : Int32) (l2 : Int32) (σ : jS) : jR := db (jd jMT d) 1 k_M_word 5 [(0, .ref 86), (1, .int l1), (2, .int l2)] [] σ
noncomputable def b_M_word_6 (d : Nat) (σ : jS) : jR := db (jd jMT d) 1 k_M_word 6 [] [] σ
theorem e_M_word (d : Nat) (σ : jS) : g_M_word (d + 1) σ = b_M_word_0 d σ := rfl
set_option maxRecDepth 100000 in
theorem q_M_word_0 (d : Nat) (σ : jS) : b_M_word_0 d σ = (b_M_word_1 d 0 0 σ) := (db_eq _ _ _ _ _ _ _).trans rfl
set_option maxRecDepth 100000 in
theorem q_M_word_1 (d : Nat) (l1 : Int32) (l2 : Int32) (σ : jS) : b_M_word_1 d l1 l2 σ = ((j_str 1002).bind fun z1 => jif ((Int32.ofNat z1.length) ≤ l2) (b_M_word_6 d σ) (b_M_word_2 d l1 l2 0 σ)) := (db_eq _ _ _ _ _ _ _).trans rfl
set_option maxRecDepth 100000 in
theorem q_M_word_2 (d : Nat) (l1 : Int32) (l2 : Int32) (l3 : Int32) (σ : jS) : b_M_word_2 d l1 l2 l3 σ = ((j_str 1002).bind fun z1 => if (l2 + l3) < 0 ∨ z1.length ≤ ((l2 + l3) : Int32).toNatClampNeg then none else jif ((Int32.ofNat (z1.getD ((l2 + l3) : Int32).toNatClampNeg 0)) = 32) (b_M_word_3 d l1 l2 l3 σ) (jif ((σ.1 86 19) ≤ ((σ.1 86 20) + l3)) (b_M_word_3 d l1 l2 l3 σ) ((j_rdI 0 σ 87 ((σ.1 86 20) + l3)).bind fun x2 => (j_str 1002).bind fun z3 => if (l2 + l3) < 0 ∨ z3.length ≤ ((l2 + l3) : Int32).toNatClampNeg then none else jif (x2 = (Int32.ofNat (z3.getD ((l2 + l3) : Int32).toNatClampNeg 0))) (b_M_word_2 d l1 l2 (l3 + 1) σ) (b_M_word_3 d l1 l2 l3 σ)))) := (db_eq _ _ _ _ _ _ _).trans rfl
set_option maxRecDepth 100000 in
theorem q_M_word_3 (d : Nat) (l1 : Int32) (l2 : Int32) (l3 : Int32) (σ : jS) : b_M_word_3 d l1 l2 l3 σ = ((j_str 1002).bind fun z1 => if (l2 + l3) < 0 ∨ z1.length ≤ ((l2 + l3) : Int32).toNatClampNeg then none else jif ((Int32.ofNat (z1.getD ((l2 + l3) : Int32).toNatClampNeg 0)) = 32) (jif (((σ.1 86 20) + l3) = (σ.1 86 19)) (some (some (.int l1), σ)) (b_M_word_4 d l1 l2 σ)) (b_M_word_4 d l1 l2 σ)) := (db_eq _ _ _ _ _ _ _).trans rfl
set_option maxRecDepth 100000 in
theorem q_M_word_4 (d : Nat) (l1 : Int32) (l2 : Int32) (σ : jS) : b_M_word_4 d l1 l2 σ = ((j_str 1002).bind fun z1 => if l2 < 0 ∨ z1.length ≤ (l2 : Int32).toNatClampNeg then none else jif ((Int32.ofNat (z1.getD (l2 : Int32).toNatClampNeg 0)) = 32) (b_M_word_5 d l1 l2 σ) (b_M_word_4 d l1 (l2 + 1) σ)) := (db_eq _ _ _ _ _ _ _).trans rfl
set_option maxRecDepth 100000 in
theorem q_M_word_5 (d : Nat) (l1 : Int32) (l2 : Int32) (σ : jS) : b_M_word_5 d l1 l2 σ = (b_M_word_1 d (l1 + 1) (l2 + 1) σ) := (db_eq _ _ _ _ _ _ _).trans rfl
set_option maxRecDepth 100000 in
theorem q_M_word_6 (d : Nat) (σ : jS) : b_M_word_6 d σ = (some (some (.int (-1)), σ)) := (db_eq _ _ _ _ _ _ _).trans rfl
noncomputable def b_M_name_0 (d : Nat) (σ : jS) : jR := db (jd jMT d) 0 k_M_name 0 [(0, .ref 86)] [] σ
noncomputable def b_M_name_1 (d : Nat) (l1 : Int32) (σ : jS) : jR := db (jd jMT d) 0 k_M_name 1 [(0, .ref 86), (1, .int l1)] [] σ
noncomputable def b_M_name_2 (d : Nat) (l1 : Int32) (s1 : Int32) (σ : jS) : jR := db (jd jMT d) 0 k_M_name 2 [(0, .ref 86), (1, .int l1)] [.int s1, .ref 86] σ
noncomputable def b_M_name_3 (d : Nat) (l1 : Int32) (s1 : Int32) (s2 : Int32) (σ : jS) : jR := db (jd jMT d) 0 k_M_name 3 [(0, .ref 86), (1, .int l1)] [.int s2, .int s1, .ref 86] σ
noncomputable def b_M_name_4 (d : Nat) (σ : jS) : jR := db (jd jMT d) 0 k_M_name 4 [] [] σ
theorem e_M_name (d : Nat) (σ : jS) : g_M_name (d + 1) σ = b_M_name_0 d σ := rfl
set_option maxRecDepth 100000 in
theorem q_M_name_0 (d : Nat) (σ : jS) : b_M_name_0 d σ = (b_M_name_1 d 0 (j_setI σ 86 22 0)) := (db_eq _ _ _ _ _ _ _).trans rfl
set_option maxRecDepth 100000 in
theorem q_M_name_1 (d : Nat) (l1 : Int32) (σ : jS) : b_M_name_1 d l1 σ = (jif (6 ≤ l1) (b_M_name_4 d σ) (jif ((σ.1 86 19) ≤ ((σ.1 86 20) + l1)) (b_M_name_2 d l1 (((σ.1 86 22) : Int32) <<< ((5 : Int32) &&& 31)) σ) ((j_rdI 0 σ 87 ((σ.1 86 20) + l1)).bind fun x1 => b_M_name_3 d l1 (((σ.1 86 22) : Int32) <<< ((5 : Int32) &&& 31)) ((x1 - 97) + 1) σ))) := (db_eq _ _ _ _ _ _ _).trans rfl
set_option maxRecDepth 100000 in
theorem q_M_name_2 (d : Nat) (l1 : Int32) (s1 : Int32) (σ : jS) : b_M_name_2 d l1 s1 σ = (b_M_name_3 d l1 s1 0 σ) := (db_eq _ _ _ _ _ _ _).trans rfl
set_option maxRecDepth 100000 in
theorem q_M_name_3 (d : Nat) (l1 : Int32) (s1 : Int32) (s2 : Int32) (σ : jS) : b_M_name_3 d l1 s1 s2 σ = (b_M_name_1 d (l1 + 1) (j_setI σ 86 22 (s1 ||| s2))) := (db_eq _ _ _ _ _ _ _).trans rfl
set_option maxRecDepth 100000 in
theorem q_M_name_4 (d : Nat) (σ : jS) : b_M_name_4 d σ = (some (none, σ)) := (db_eq _ _ _ _ _ _ _).trans rfl
noncomputable def b_M_wrong_0 (d : Nat) (l1 : Int32) (σ : jS) : jR := db (jd jMT d) 0 k_M_wrong 0 [(0, .ref 86), (1, .int l1)] [] σ
noncomputable def b_M_wrong_1 (d : Nat) (l1 : Int32) (σ : jS) : jR := db (jd jMT d) 0 k_M_wrong 1 [(0, .ref 86), (1, .int l1)] [] σ
theorem e_M_wrong (d : Nat) (l1 : Int32) (σ : jS) : g_M_wrong (d + 1) l1 σ = b_M_wrong_0 d l1 σ := rfl
set_option maxRecDepth 100000 in
theorem q_M_wrong_0 (d : Nat) (l1 : Int32) (σ : jS) : b_M_wrong_0 d l1 σ = (jif ((σ.1 86 23) = 0) (b_M_wrong_1 d l1 σ) (some (none, σ))) := (db_eq _ _ _ _ _ _ _).trans rfl
set_option maxRecDepth 100000 in
theorem q_M_wrong_1 (d : Nat) (l1 : Int32) (σ : jS) : b_M_wrong_1 d l1 σ = (some (none, (j_setI (j_setI σ 86 23 l1) 86 24 ((j_setI σ 86 23 l1).1 86 20)))) := (db_eq _ _ _ _ _ _ _).trans rfl
noncomputable def b_M_isWord_0 (d : Nat) (l1 : Int32) (σ : jS) : jR := db (jd jMT d) 2 k_M_isWord 0 [(0, .ref 86), (1, .int l1)] [] σ
noncomputable def b_M_isWord_1 (d : Nat) (σ : jS) : jR := db (jd jMT d) 2 k_M_isWord 1 [] [] σ
noncomputable def b_M_isWord_2 (d : Nat) (s0 : Int32) (σ : jS) : jR := db (jd jMT d) 2 k_M_isWord 2 [] [.int s0] σ
theorem e_M_isWord (d : Nat) (l1 : Int32) (σ : jS) : g_M_isWord (d + 1) l1 σ = b_M_isWord_0 d l1 σ := rfl
set_option maxRecDepth 100000 in
theorem q_M_isWord_0 (d : Nat) (l1 : Int32) (σ : jS) : b_M_isWord_0 d l1 σ = (jif ((σ.1 86 23) = 0) (jif ((σ.1 86 21) = 0) (jif ((σ.1 86 22) = l1) (b_M_isWord_2 d 1 σ) (b_M_isWord_1 d σ)) (b_M_isWord_1 d σ)) (b_M_isWord_1 d σ)) := (db_eq _ _ _ _ _ _ _).trans rfl
set_option maxRecDepth 100000 in
theorem q_M_isWord_1 (d : Nat) (σ : jS) : b_M_isWord_1 d σ = (b_M_isWord_2 d 0 σ) := (db_eq _ _ _ _ _ _ _).trans rfl
set_option maxRecDepth 100000 in
theorem q_M_isWord_2 (d : Nat) (s0 : Int32) (σ : jS) : b_M_isWord_2 d s0 σ = (if s0 = 0 ∨ s0 = 1 then some (some (.int s0), σ) else none) := (db_eq _ _ _ _ _ _ _).trans rfl
noncomputable def b_M_isSign_0 (d : Nat) (l1 : Int32) (σ : jS) : jR := db (jd jMT d) 2 k_M_isSign 0 [(0, .ref 86), (1, .int l1)] [] σ
noncomputable def b_M_isSign_1 (d : Nat) (σ : jS) : jR := db (jd jMT d) 2 k_M_isSign 1 [] [] σ
noncomputable def b_M_isSign_2 (d : Nat) (s0 : Int32) (σ : jS) : jR := db (jd jMT d) 2 k_M_isSign 2 [] [.int s0] σ
theorem e_M_isSign (d : Nat) (l1 : Int32) (σ : jS) : g_M_isSign (d + 1) l1 σ = b_M_isSign_0 d l1 σ := rfl
set_option maxRecDepth 100000 in
theorem q_M_isSign_0 (d : Nat) (l1 : Int32) (σ : jS) : b_M_isSign_0 d l1 σ = (jif ((σ.1 86 23) = 0) (jif ((σ.1 86 21) = 3) (jif ((σ.1 86 22) = l1) (b_M_isSign_2 d 1 σ) (b_M_isSign_1 d σ)) (b_M_isSign_1 d σ)) (b_M_isSign_1 d σ)) := (db_eq _ _ _ _ _ _ _).trans rfl
set_option maxRecDepth 100000 in
theorem q_M_isSign_1 (d : Nat) (σ : jS) : b_M_isSign_1 d σ = (b_M_isSign_2 d 0 σ) := (db_eq _ _ _ _ _ _ _).trans rfl
set_option maxRecDepth 100000 in
theorem q_M_isSign_2 (d : Nat) (s0 : Int32) (σ : jS) : b_M_isSign_2 d s0 σ = (if s0 = 0 ∨ s0 = 1 then some (some (.int s0), σ) else none) := (db_eq _ _ _ _ _ _ _).trans rfl
noncomputable def b_M_goOn_0 (d : Nat) (σ : jS) : jR := db (jd jMT d) 0 k_M_goOn 0 [(0, .ref 86)] [] σ
noncomputable def b_M_goOn_1 (d : Nat) (σ : jS) : jR := db (jd jMT d) 0 k_M_goOn 1 [] [] σ
theorem e_M_goOn (d : Nat) (σ : jS) : g_M_goOn (d + 1) σ = b_M_goOn_0 d σ := rfl
set_option maxRecDepth 100000 in
theorem q_M_goOn_0 (d : Nat) (σ : jS) : b_M_goOn_0 d σ = (jif ((σ.1 86 23) = 0) ((r_V (g_M_token d σ)).bind fun σ1 => b_M_goOn_1 d σ1) (b_M_goOn_1 d σ)) := (db_eq _ _ _ _ _ _ _).trans rfl
set_option maxRecDepth 100000 in
theorem q_M_goOn_1 (d : Nat) (σ : jS) : b_M_goOn_1 d σ = (some (none, σ)) := (db_eq _ _ _ _ _ _ _).trans rfl
noncomputable def b_M_numeral_0 (d : Nat) (l1 : Int32) (l2 : Int32) (σ : jS) : jR := db (jd jMT d) 1 k_M_numeral 0 [(0, .ref 86), (1, .int l1), (2, .int l2)] [] σ
noncomputable def b_M_numeral_1 (d : Nat) (l1 : Int32) (l2 : Int32) (σ : jS) : jR := db (jd jMT d) 1 k_M_numeral 1 [(0, .ref 86), (1, .int l1), (2, .int l2)] [] σ
noncomputable def b_M_numeral_2 (d : Nat) (l1 : Int32) (l2 : Int32) (σ : jS) : jR := db (jd jMT d) 1 k_M_numeral 2 [(0, .ref 86), (1, .int l1), (2, .int l2)] [] σ
noncomputable def b_M_numeral_3 (d : Nat) (l1 : Int32) (σ : jS) : jR := db (jd jMT d) 1 k_M_numeral 3 [(0, .ref 86), (1, .int l1)] [] σ
noncomputable def b_M_numeral_4 (d : Nat) (l1 : Int32) (σ : jS) : jR := db (jd jMT d) 1 k_M_numeral 4 [(0, .ref 86), (1, .int l1)] [] σ
noncomputable def b_M_numeral_5 (d : Nat) (σ : jS) : jR := db (jd jMT d) 1 k_M_numeral 5 [(0, .ref 86)] [] σ
theorem e_M_numeral (d : Nat) (l1 : Int32) (l2 : Int32) (σ : jS) : g_M_numeral (d + 1) l1 l2 σ = b_M_numeral_0 d l1 l2 σ := rfl
set_option maxRecDepth 100000 in
theorem q_M_numeral_0 (d : Nat) (l1 : Int32) (l2 : Int32) (σ : jS) : b_M_numeral_0 d l1 l2 σ = (jif ((σ.1 86 23) = 0) (b_M_numeral_1 d l1 l2 σ) (some (some (.int l1), σ))) := (db_eq _ _ _ _ _ _ _).trans rfl
set_option maxRecDepth 100000 in
theorem q_M_numeral_1 (d : Nat) (l1 : Int32) (l2 : Int32) (σ : jS) : b_M_numeral_1 d l1 l2 σ = (jif ((σ.1 86 21) = 2) (b_M_numeral_2 d l1 l2 σ) ((r_V (g_M_wrong d 1 σ)).bind fun σ1 => b_M_numeral_4 d l1 σ1)) := (db_eq _ _ _ _ _ _ _).trans rfl
set_option maxRecDepth 100000 in
theorem q_M_numeral_2 (d : Nat) (l1 : Int32) (l2 : Int32) (σ : jS) : b_M_numeral_2 d l1 l2 σ = (jif ((σ.1 86 22) < l1) (b_M_numeral_3 d l1 σ) (jif ((σ.1 86 22) ≤ l2) (b_M_numeral_4 d l1 σ) (b_M_numeral_3 d l1 σ))) := (db_eq _ _ _ _ _ _ _).trans rfl
set_option maxRecDepth 100000 in
theorem q_M_numeral_3 (d : Nat) (l1 : Int32) (σ : jS) : b_M_numeral_3 d l1 σ = ((r_V (g_M_wrong d 2 σ)).bind fun σ1 => b_M_numeral_4 d l1 σ1) := (db_eq _ _ _ _ _ _ _).trans rfl
set_option maxRecDepth 100000 in
theorem q_M_numeral_4 (d : Nat) (l1 : Int32) (σ : jS) : b_M_numeral_4 d l1 σ = (jif ((σ.1 86 23) = 0) (b_M_numeral_5 d σ) (some (some (.int l1), σ))) := (db_eq _ _ _ _ _ _ _).trans rfl
set_option maxRecDepth 100000 in
theorem q_M_numeral_5 (d : Nat) (σ : jS) : b_M_numeral_5 d σ = ((r_V (g_M_token d σ)).bind fun σ1 => some (some (.int (σ.1 86 22)), σ1)) := (db_eq _ _ _ _ _ _ _).trans rfl
noncomputable def b_M_found_0 (d : Nat) (l0 : Nat) (l1 : Int32) (l2 : Int32) (l3 : Int32) (σ : jS) : jR := db (jd jMT d) 1 k_M_found 0 [(0, .ref l0), (1, .int l1), (2, .int l2), (3, .int l3)] [] σ
noncomputable def b_M_found_1 (d : Nat) (l0 : Nat) (l1 : Int32) (l2 : Int32) (l3 : Int32) (l4 : Int32) (σ : jS) : jR := db (jd jMT d) 1 k_M_found 1 [(0, .ref l0), (1, .int l1), (2, .int l2), (3, .int l3), (4, .int l4)] [] σ
noncomputable def b_M_found_2 (d : Nat) (l0 : Nat) (l1 : Int32) (l2 : Int32) (l3 : Int32) (l4 : Int32) (σ : jS) : jR := db (jd jMT d) 1 k_M_found 2 [(0, .ref l0), (1, .int l1), (2, .int l2), (3, .int l3), (4, .int l4)] [] σ
noncomputable def b_M_found_3 (d : Nat) (σ : jS) : jR := db (jd jMT d) 1 k_M_found 3 [] [] σ
theorem e_M_found (d : Nat) (l0 : Nat) (l1 : Int32) (l2 : Int32) (l3 : Int32) (σ : jS) : g_M_found (d + 1) l0 l1 l2 l3 σ = b_M_found_0 d l0 l1 l2 l3 σ := rfl
set_option maxRecDepth 100000 in
theorem q_M_found_0 (d : Nat) (l0 : Nat) (l1 : Int32) (l2 : Int32) (l3 : Int32) (σ : jS) : b_M_found_0 d l0 l1 l2 l3 σ = (b_M_found_1 d l0 l1 l2 l3 0 σ) := (db_eq _ _ _ _ _ _ _).trans rfl
set_option maxRecDepth 100000 in
theorem q_M_found_1 (d : Nat) (l0 : Nat) (l1 : Int32) (l2 : Int32) (l3 : Int32) (l4 : Int32) (σ : jS) : b_M_found_1 d l0 l1 l2 l3 l4 σ = (jif (l2 ≤ l4) (b_M_found_3 d σ) ((j_rdI 0 σ l0 (l1 + l4)).bind fun x1 => jif (x1 = l3) (some (some (.int l4), σ)) (b_M_found_2 d l0 l1 l2 l3 l4 σ))) := (db_eq _ _ _ _ _ _ _).trans rfl
set_option maxRecDepth 100000 in
theorem q_M_found_2 (d : Nat) (l0 : Nat) (l1 : Int32) (l2 : Int32) (l3 : Int32) (l4 : Int32) (σ : jS) : b_M_found_2 d l0 l1 l2 l3 l4 σ = (b_M_found_1 d l0 l1 l2 l3 (l4 + 1) σ) := (db_eq _ _ _ _ _ _ _).trans rfl
set_option maxRecDepth 100000 in
theorem q_M_found_3 (d : Nat) (σ : jS) : b_M_found_3 d σ = (some (some (.int (-1)), σ)) := (db_eq _ _ _ _ _ _ _).trans rfl
noncomputable def b_M_fresh_0 (d : Nat) (l1 : Nat) (l2 : Int32) (l3 : Int32) (σ : jS) : jR := db (jd jMT d) 1 k_M_fresh 0 [(0, .ref 86), (1, .ref l1), (2, .int l2), (3, .int l3)] [] σ
noncomputable def b_M_fresh_1 (d : Nat) (l1 : Nat) (l2 : Int32) (l3 : Int32) (σ : jS) : jR := db (jd jMT d) 1 k_M_fresh 1 [(0, .ref 86), (1, .ref l1), (2, .int l2), (3, .int l3)] [] σ
noncomputable def b_M_fresh_2 (d : Nat) (l1 : Nat) (l2 : Int32) (l3 : Int32) (σ : jS) : jR := db (jd jMT d) 1 k_M_fresh 2 [(0, .ref 86), (1, .ref l1), (2, .int l2), (3, .int l3)] [] σ
noncomputable def b_M_fresh_3 (d : Nat) (σ : jS) : jR := db (jd jMT d) 1 k_M_fresh 3 [(0, .ref 86)] [] σ
noncomputable def b_M_fresh_4 (d : Nat) (σ : jS) : jR := db (jd jMT d) 1 k_M_fresh 4 [(0, .ref 86)] [] σ
theorem e_M_fresh (d : Nat) (l1 : Nat) (l2 : Int32) (l3 : Int32) (σ : jS) : g_M_fresh (d + 1) l1 l2 l3 σ = b_M_fresh_0 d l1 l2 l3 σ := rfl
set_option maxRecDepth 100000 in
theorem q_M_fresh_0 (d : Nat) (l1 : Nat) (l2 : Int32) (l3 : Int32) (σ : jS) : b_M_fresh_0 d l1 l2 l3 σ = (jif ((σ.1 86 23) = 0) (b_M_fresh_1 d l1 l2 l3 σ) (some (some (.int 0), σ))) := (db_eq _ _ _ _ _ _ _).trans rfl
set_option maxRecDepth 100000 in
theorem q_M_fresh_1 (d : Nat) (l1 : Nat) (l2 : Int32) (l3 : Int32) (σ : jS) : b_M_fresh_1 d l1 l2 l3 σ = (jif ((σ.1 86 21) = 1) (b_M_fresh_2 d l1 l2 l3 σ) ((r_V (g_M_wrong d 1 σ)).bind fun σ1 => b_M_fresh_3 d σ1)) := (db_eq _ _ _ _ _ _ _).trans rfl
set_option maxRecDepth 100000 in
theorem q_M_fresh_2 (d : Nat) (l1 : Nat) (l2 : Int32) (l3 : Int32) (σ : jS) : b_M_fresh_2 d l1 l2 l3 σ = ((r_I (g_M_found d l1 l2 l3 (σ.1 86 22) σ)).bind fun q1 => jif (q1.1 = (-1)) (b_M_fresh_3 d q1.2) ((r_V (g_M_wrong d 3 q1.2)).bind fun σ2 => b_M_fresh_3 d σ2)) := (db_eq _ _ _ _ _ _ _).trans rfl
set_option maxRecDepth 100000 in
theorem q_M_fresh_3 (d : Nat) (σ : jS) : b_M_fresh_3 d σ = (jif ((σ.1 86 23) = 0) (b_M_fresh_4 d σ) (some (some (.int 0), σ))) := (db_eq _ _ _ _ _ _ _).trans rfl
set_option maxRecDepth 100000 in
theorem q_M_fresh_4 (d : Nat) (σ : jS) : b_M_fresh_4 d σ = ((r_V (g_M_token d σ)).bind fun σ1 => some (some (.int (σ.1 86 22)), σ1)) := (db_eq _ _ _ _ _ _ _).trans rfl
noncomputable def b_M_person_0 (d : Nat) (σ : jS) : jR := db (jd jMT d) 1 k_M_person 0 [(0, .ref 86)] [] σ
noncomputable def b_M_person_1 (d : Nat) (σ : jS) : jR := db (jd jMT d) 1 k_M_person 1 [(0, .ref 86)] [] σ
noncomputable def b_M_person_2 (d : Nat) (σ : jS) : jR := db (jd jMT d) 1 k_M_person 2 [(0, .ref 86)] [] σ
noncomputable def b_M_person_3 (d : Nat) (σ : jS) : jR := db (jd jMT d) 1 k_M_person 3 [(0, .ref 86)] [] σ
noncomputable def b_M_person_4 (d : Nat) (σ : jS) : jR := db (jd jMT d) 1 k_M_person 4 [(0, .ref 86)] [] σ
noncomputable def b_M_person_5 (d : Nat) (s0 : Int32) (σ : jS) : jR := db (jd jMT d) 1 k_M_person 5 [] [.int s0] σ
theorem e_M_person (d : Nat) (σ : jS) : g_M_person (d + 1) σ = b_M_person_0 d σ := rfl
set_option maxRecDepth 100000 in
theorem q_M_person_0 (d : Nat) (σ : jS) : b_M_person_0 d σ = (jif ((σ.1 86 23) = 0) (b_M_person_1 d σ) (some (some (.int 0), σ))) := (db_eq _ _ _ _ _ _ _).trans rfl
set_option maxRecDepth 100000 in
theorem q_M_person_1 (d : Nat) (σ : jS) : b_M_person_1 d σ = (jif ((σ.1 86 21) = 1) (b_M_person_2 d σ) ((r_V (g_M_wrong d 1 σ)).bind fun σ1 => b_M_person_3 d σ1)) := (db_eq _ _ _ _ _ _ _).trans rfl
set_option maxRecDepth 100000 in
theorem q_M_person_2 (d : Nat) (σ : jS) : b_M_person_2 d σ = ((r_I (g_M_fresher d 0 σ)).bind fun q1 => (r_I (g_M_found d 89 10 q1.1 (q1.2.1 86 22) q1.2)).bind fun q2 => jif (q2.1 = (-1)) ((r_V (g_M_wrong d 4 q2.2)).bind fun σ3 => b_M_person_3 d σ3) (b_M_person_3 d q2.2)) := (db_eq _ _ _ _ _ _ _).trans rfl
set_option maxRecDepth 100000 in
theorem q_M_person_3 (d : Nat) (σ : jS) : b_M_person_3 d σ = (jif ((σ.1 86 23) = 0) (b_M_person_4 d σ) (b_M_person_5 d 0 σ)) := (db_eq _ _ _ _ _ _ _).trans rfl
set_option maxRecDepth 100000 in
theorem q_M_person_4 (d : Nat) (σ : jS) : b_M_person_4 d σ = ((r_I (g_M_fresher d 0 σ)).bind fun q1 => (r_I (g_M_found d 89 10 q1.1 (q1.2.1 86 22) q1.2)).bind fun q2 => b_M_person_5 d q2.1 q2.2) := (db_eq _ _ _ _ _ _ _).trans rfl
set_option maxRecDepth 100000 in
theorem q_M_person_5 (d : Nat) (s0 : Int32) (σ : jS) : b_M_person_5 d s0 σ = (some (some (.int s0), σ)) := (db_eq _ _ _ _ _ _ _).trans rfl
noncomputable def b_M_fresher_0 (d : Nat) (l1 : Int32) (σ : jS) : jR := db (jd jMT d) 1 k_M_fresher 0 [(0, .ref 86), (1, .int l1)] [] σ
theorem e_M_fresher (d : Nat) (l1 : Int32) (σ : jS) : g_M_fresher (d + 1) l1 σ = b_M_fresher_0 d l1 σ := rfl
set_option maxRecDepth 100000 in
theorem q_M_fresher_0 (d : Nat) (l1 : Int32) (σ : jS) : b_M_fresher_0 d l1 σ = ((j_rdI 0 σ 88 (4 + l1)).bind fun x1 => some (some (.int x1), σ)) := (db_eq _ _ _ _ _ _ _).trans rfl
noncomputable def b_M_oneMore_0 (d : Nat) (l1 : Int32) (σ : jS) : jR := db (jd jMT d) 0 k_M_oneMore 0 [(0, .ref 86), (1, .int l1)] [] σ
theorem e_M_oneMore (d : Nat) (l1 : Int32) (σ : jS) : g_M_oneMore (d + 1) l1 σ = b_M_oneMore_0 d l1 σ := rfl
set_option maxRecDepth 100000 in
theorem q_M_oneMore_0 (d : Nat) (l1 : Int32) (σ : jS) : b_M_oneMore_0 d l1 σ = ((j_rdI 0 σ 88 (4 + l1)).bind fun x1 => (j_wrI σ 88 (4 + l1) (x1 + 1)).bind fun σ2 => some (none, σ2)) := (db_eq _ _ _ _ _ _ _).trans rfl
noncomputable def b_M_line_0 (d : Nat) (σ : jS) : jR := db (jd jMT d) 0 k_M_line 0 [(0, .ref 86)] [] σ
noncomputable def b_M_line_1 (d : Nat) (σ : jS) : jR := db (jd jMT d) 0 k_M_line 1 [(0, .ref 86)] [] σ
noncomputable def b_M_line_2 (d : Nat) (σ : jS) : jR := db (jd jMT d) 0 k_M_line 2 [(0, .ref 86)] [] σ
noncomputable def b_M_line_3 (d : Nat) (l1 : Int32) (σ : jS) : jR := db (jd jMT d) 0 k_M_line 3 [(0, .ref 86), (1, .int l1)] [] σ
noncomputable def b_M_line_4 (d : Nat) (l1 : Int32) (σ : jS) : jR := db (jd jMT d) 0 k_M_line 4 [(0, .ref 86), (1, .int l1)] [] σ
noncomputable def b_M_line_5 (d : Nat) (l1 : Int32) (σ : jS) : jR := db (jd jMT d) 0 k_M_line 5 [(0, .ref 86), (1, .int l1)] [] σ
noncomputable def b_M_line_6 (d : Nat) (l1 : Int32) (σ : jS) : jR := db (jd jMT d) 0 k_M_line 6 [(0, .ref 86), (1, .int l1)] [] σ
noncomputable def b_M_line_7 (d : Nat) (l1 : Int32) (σ : jS) : jR := db (jd jMT d) 0 k_M_line 7 [(0, .ref 86), (1, .int l1)] [] σ
noncomputable def b_M_line_8 (d : Nat) (l1 : Int32) (σ : jS) : jR := db (jd jMT d) 0 k_M_line 8 [(0, .ref 86), (1, .int l1)] [] σ
noncomputable def b_M_line_9 (d : Nat) (σ : jS) : jR := db (jd jMT d) 0 k_M_line 9 [(0, .ref 86)] [] σ
noncomputable def b_M_line_10 (d : Nat) (σ : jS) : jR := db (jd jMT d) 0 k_M_line 10 [(0, .ref 86)] [] σ
noncomputable def b_M_line_11 (d : Nat) (σ : jS) : jR := db (jd jMT d) 0 k_M_line 11 [(0, .ref 86)] [] σ
noncomputable def b_M_line_12 (d : Nat) (σ : jS) : jR := db (jd jMT d) 0 k_M_line 12 [(0, .ref 86)] [] σ
noncomputable def b_M_line_13 (d : Nat) (σ : jS) : jR := db (jd jMT d) 0 k_M_line 13 [(0, .ref 86)] [] σ
noncomputable def b_M_line_14 (d : Nat) (σ : jS) : jR := db (jd jMT d) 0 k_M_line 14 [(0, .ref 86)] [] σ
noncomputable def b_M_line_15 (d : Nat) (σ : jS) : jR := db (jd jMT d) 0 k_M_line 15 [(0, .ref 86)] [] σ
noncomputable def b_M_line_16 (d : Nat) (σ : jS) : jR := db (jd jMT d) 0 k_M_line 16 [(0, .ref 86)] [] σ
noncomputable def b_M_line_17 (d : Nat) (σ : jS) : jR := db (jd jMT d) 0 k_M_line 17 [(0, .ref 86)] [] σ
theorem e_M_line (d : Nat) (σ : jS) : g_M_line (d + 1) σ = b_M_line_0 d σ := rfl
set_option maxRecDepth 100000 in
theorem q_M_line_0 (d : Nat) (σ : jS) : b_M_line_0 d σ = (jif ((σ.1 86 21) = 0) (jif ((σ.1 86 22) ≤ 4) (b_M_line_2 d σ) (b_M_line_1 d σ)) (b_M_line_1 d σ)) := (db_eq _ _ _ _ _ _ _).trans rfl
set_option maxRecDepth 100000 in
theorem q_M_line_1 (d : Nat) (σ : jS) : b_M_line_1 d σ = ((r_V (g_M_wrong d 1 σ)).bind fun σ1 => some (none, σ1)) := (db_eq _ _ _ _ _ _ _).trans rfl
set_option maxRecDepth 100000 in
theorem q_M_line_2 (d : Nat) (σ : jS) : b_M_line_2 d σ = (jif ((σ.1 86 22) = 0) ((r_I (g_M_fresher d 0 σ)).bind fun q1 => jif (q1.1 = 10) (b_M_line_5 d (σ.1 86 22) q1.2) (b_M_line_3 d (σ.1 86 22) q1.2)) (b_M_line_3 d (σ.1 86 22) σ)) := (db_eq _ _ _ _ _ _ _).trans rfl
set_option maxRecDepth 100000 in
theorem q_M_line_3 (d : Nat) (l1 : Int32) (σ : jS) : b_M_line_3 d l1 σ = (jif (l1 = 2) ((r_I (g_M_fresher d 1 σ)).bind fun q1 => jif (q1.1 = 12) (b_M_line_5 d l1 q1.2) (b_M_line_4 d l1 q1.2)) (b_M_line_4 d l1 σ)) := (db_eq _ _ _ _ _ _ _).trans rfl
set_option maxRecDepth 100000 in
theorem q_M_line_4 (d : Nat) (l1 : Int32) (σ : jS) : b_M_line_4 d l1 σ = (jif (l1 = 4) ((r_I (g_M_fresher d 2 σ)).bind fun q1 => jif (q1.1 = 4) (b_M_line_5 d l1 q1.2) (b_M_line_6 d l1 q1.2)) (b_M_line_6 d l1 σ)) := (db_eq _ _ _ _ _ _ _).trans rfl
set_option maxRecDepth 100000 in
theorem q_M_line_5 (d : Nat) (l1 : Int32) (σ : jS) : b_M_line_5 d l1 σ = ((r_V (g_M_wrong d 2 σ)).bind fun σ1 => b_M_line_7 d l1 σ1) := (db_eq _ _ _ _ _ _ _).trans rfl
set_option maxRecDepth 100000 in
theorem q_M_line_6 (d : Nat) (l1 : Int32) (σ : jS) : b_M_line_6 d l1 σ = (jif (l1 = 3) (jif ((σ.1 86 29) = 0) (b_M_line_7 d l1 σ) ((r_V (g_M_wrong d 3 σ)).bind fun σ1 => b_M_line_7 d l1 σ1)) (b_M_line_7 d l1 σ)) := (db_eq _ _ _ _ _ _ _).trans rfl
set_option maxRecDepth 100000 in
theorem q_M_line_7 (d : Nat) (l1 : Int32) (σ : jS) : b_M_line_7 d l1 σ = (jif ((σ.1 86 23) = 0) (b_M_line_8 d l1 σ) (some (none, σ))) := (db_eq _ _ _ _ _ _ _).trans rfl
set_option maxRecDepth 100000 in
theorem q_M_line_8 (d : Nat) (l1 : Int32) (σ : jS) : b_M_line_8 d l1 σ = ((r_V (g_M_token d σ)).bind fun σ1 => jif (l1 = 0) (b_M_line_9 d σ1) (jif (l1 = 1) (b_M_line_10 d σ1) (jif (l1 = 2) (b_M_line_11 d σ1) (jif (l1 = 3) (b_M_line_12 d σ1) (b_M_line_13 d σ1))))) := (db_eq _ _ _ _ _ _ _).trans rfl
set_option maxRecDepth 100000 in
theorem q_M_line_9 (d : Nat) (σ : jS) : b_M_line_9 d σ = ((r_I (g_M_fresher d 0 σ)).bind fun q1 => (r_V (g_M_personLine d (10 + q1.1) q1.2)).bind fun σ2 => b_M_line_14 d σ2) := (db_eq _ _ _ _ _ _ _).trans rfl
set_option maxRecDepth 100000 in
theorem q_M_line_10 (d : Nat) (σ : jS) : b_M_line_10 d σ = ((r_V (g_M_handsLine d σ)).bind fun σ1 => b_M_line_14 d σ1) := (db_eq _ _ _ _ _ _ _).trans rfl
set_option maxRecDepth 100000 in
theorem q_M_line_11 (d : Nat) (σ : jS) : b_M_line_11 d σ = ((r_I (g_M_fresher d 1 σ)).bind fun q1 => (r_V (g_M_parcelLine d (12 + q1.1) q1.2)).bind fun σ2 => b_M_line_14 d σ2) := (db_eq _ _ _ _ _ _ _).trans rfl
set_option maxRecDepth 100000 in
theorem q_M_line_12 (d : Nat) (σ : jS) : b_M_line_12 d σ = ((r_I (g_M_fresher d 3 (j_setI σ 86 29 1))).bind fun q1 => (j_wrI q1.2 98 5 q1.1).bind fun σ2 => (r_V (g_M_expression d σ2)).bind fun σ3 => (r_I (g_M_fresher d 3 σ3)).bind fun q4 => (j_wrI q4.2 99 5 q4.1).bind fun σ5 => b_M_line_14 d σ5) := (db_eq _ _ _ _ _ _ _).trans rfl
set_option maxRecDepth 100000 in
theorem q_M_line_13 (d : Nat) (σ : jS) : b_M_line_13 d σ = ((r_I (g_M_fresher d 2 σ)).bind fun q1 => (r_I (g_M_fresh d 97 4 q1.1 q1.2)).bind fun q2 => (j_wrI q2.2 97 (4 + q1.1) q2.1).bind fun σ3 => (r_I (g_M_fresher d 3 σ3)).bind fun q4 => (j_wrI q4.2 98 (6 + q1.1) q4.1).bind fun σ5 => (r_V (g_M_expression d σ5)).bind fun σ6 => (r_I (g_M_fresher d 3 σ6)).bind fun q7 => (j_wrI q7.2 99 (6 + q1.1) q7.1).bind fun σ8 => (r_V (g_M_oneMore d 2 σ8)).bind fun σ9 => b_M_line_14 d σ9) := (db_eq _ _ _ _ _ _ _).trans rfl
set_option maxRecDepth 100000 in
theorem q_M_line_14 (d : Nat) (σ : jS) : b_M_line_14 d σ = (jif ((σ.1 86 23) = 0) (b_M_line_15 d σ) (some (none, σ))) := (db_eq _ _ _ _ _ _ _).trans rfl
set_option maxRecDepth 100000 in
theorem q_M_line_15 (d : Nat) (σ : jS) : b_M_line_15 d σ = ((r_I (g_M_isSign d 59 σ)).bind fun q1 => jif (q1.1 = 0) ((r_V (g_M_wrong d 1 q1.2)).bind fun σ2 => b_M_line_17 d σ2) (b_M_line_16 d q1.2)) := (db_eq _ _ _ _ _ _ _).trans rfl
set_option maxRecDepth 100000 in
theorem q_M_line_16 (d : Nat) (σ : jS) : b_M_line_16 d σ = ((r_V (g_M_token d σ)).bind fun σ1 => b_M_line_17 d σ1) := (db_eq _ _ _ _ _ _ _).trans rfl
set_option maxRecDepth 100000 in
theorem q_M_line_17 (d : Nat) (σ : jS) : b_M_line_17 d σ = (some (none, (j_setI σ 86 17 ((σ.1 86 17) + 1)))) := (db_eq _ _ _ _ _ _ _).trans rfl
noncomputable def b_M_personLine_0 (d : Nat) (l1 : Int32) (σ : jS) : jR := db (jd jMT d) 0 k_M_personLine 0 [(0, .ref 86), (1, .int l1)] [] σ
noncomputable def b_M_personLine_1 (d : Nat) (σ : jS) : jR := db (jd jMT d) 0 k_M_personLine 1 [(0, .ref 86)] [] σ
theorem e_M_personLine (d : Nat) (l1 : Int32) (σ : jS) : g_M_personLine (d + 1) l1 σ = b_M_personLine_0 d l1 σ := rfl
set_option maxRecDepth 100000 in
theorem q_M_personLine_0 (d : Nat) (l1 : Int32) (σ : jS) : b_M_personLine_0 d l1 σ = ((r_I (g_M_fresher d 0 σ)).bind fun q1 => (r_I (g_M_fresh d 89 10 q1.1 q1.2)).bind fun q2 => (j_wrI q2.2 89 l1 q2.1).bind fun σ3 => (r_I (g_M_numeral d 0 99 σ3)).bind fun q4 => (j_wrI q4.2 90 l1 q4.1).bind fun σ5 => (j_wrI σ5 91 l1 0).bind fun σ6 => (j_wrI σ6 92 l1 0).bind fun σ7 => (r_I (g_M_isWord d 5 σ7)).bind fun q8 => jif (q8.1 = 0) (b_M_personLine_1 d q8.2) ((r_V (g_M_token d q8.2)).bind fun σ9 => (r_I (g_M_numeral d 0 99999 σ9)).bind fun q10 => (j_wrI q10.2 91 l1 q10.1).bind fun σ11 => b_M_personLine_1 d σ11)) := (db_eq _ _ _ _ _ _ _).trans rfl
set_option maxRecDepth 100000 in
theorem q_M_personLine_1 (d : Nat) (σ : jS) : b_M_personLine_1 d σ = ((r_V (g_M_oneMore d 0 σ)).bind fun σ1 => some (none, σ1)) := (db_eq _ _ _ _ _ _ _).trans rfl
noncomputable def b_M_handsLine_0 (d : Nat) (σ : jS) : jR := db (jd jMT d) 0 k_M_handsLine 0 [(0, .ref 86)] [] σ
noncomputable def b_M_handsLine_1 (d : Nat) (l1 : Int32) (σ : jS) : jR := db (jd jMT d) 0 k_M_handsLine 1 [(0, .ref 86), (1, .int l1)] [] σ
noncomputable def b_M_handsLine_2 (d : Nat) (l1 : Int32) (σ : jS) : jR := db (jd jMT d) 0 k_M_handsLine 2 [(0, .ref 86), (1, .int l1)] [] σ
noncomputable def b_M_handsLine_3 (d : Nat) (l1 : Int32) (σ : jS) : jR := db (jd jMT d) 0 k_M_handsLine 3 [(0, .ref 86), (1, .int l1)] [] σ
noncomputable def b_M_handsLine_4 (d : Nat) (l1 : Int32) (s0 : Int32) (σ : jS) : jR := db (jd jMT d) 0 k_M_handsLine 4 [(0, .ref 86), (1, .int l1)] [.int s0] σ
noncomputable def b_M_handsLine_5 (d : Nat) (l1 : Int32) (l2 : Int32) (σ : jS) : jR := db (jd jMT d) 0 k_M_handsLine 5 [(0, .ref 86), (1, .int l1), (2, .int l2)] [] σ
noncomputable def b_M_handsLine_6 (d : Nat) (σ : jS) : jR := db (jd jMT d) 0 k_M_handsLine 6 [] [] σ
theorem e_M_handsLine (d : Nat) (σ : jS) : g_M_handsLine (d + 1) σ = b_M_handsLine_0 d σ := rfl
set_option maxRecDepth 100000 in
theorem q_M_handsLine_0 (d : Nat) (σ : jS) : b_M_handsLine_0 d σ = ((r_I (g_M_person d σ)).bind fun q1 => jif ((q1.2.1 86 23) = 0) ((j_rdI 0 q1.2 92 (10 + q1.1)).bind fun x2 => jif (x2 ≤ 0) (b_M_handsLine_1 d q1.1 q1.2) ((r_V (g_M_wrong d 3 q1.2)).bind fun σ3 => b_M_handsLine_1 d q1.1 σ3)) (b_M_handsLine_1 d q1.1 q1.2)) := (db_eq _ _ _ _ _ _ _).trans rfl
set_option maxRecDepth 100000 in
theorem q_M_handsLine_1 (d : Nat) (l1 : Int32) (σ : jS) : b_M_handsLine_1 d l1 σ = ((r_V (g_M_goOn d σ)).bind fun σ1 => jif ((σ1.1 86 23) = 0) ((r_I (g_M_isWord d 6 σ1)).bind fun q2 => jif (q2.1 = 0) ((r_V (g_M_wrong d 1 q2.2)).bind fun σ3 => b_M_handsLine_2 d l1 σ3) (b_M_handsLine_2 d l1 q2.2)) (b_M_handsLine_2 d l1 σ1)) := (db_eq _ _ _ _ _ _ _).trans rfl
set_option maxRecDepth 100000 in
theorem q_M_handsLine_2 (d : Nat) (l1 : Int32) (σ : jS) : b_M_handsLine_2 d l1 σ = (jif ((σ.1 86 23) = 0) (b_M_handsLine_4 d l1 1 σ) (b_M_handsLine_3 d l1 σ)) := (db_eq _ _ _ _ _ _ _).trans rfl
set_option maxRecDepth 100000 in
theorem q_M_handsLine_3 (d : Nat) (l1 : Int32) (σ : jS) : b_M_handsLine_3 d l1 σ = (b_M_handsLine_4 d l1 0 σ) := (db_eq _ _ _ _ _ _ _).trans rfl
set_option maxRecDepth 100000 in
theorem q_M_handsLine_4 (d : Nat) (l1 : Int32) (s0 : Int32) (σ : jS) : b_M_handsLine_4 d l1 s0 σ = (b_M_handsLine_5 d l1 s0 σ) := (db_eq _ _ _ _ _ _ _).trans rfl
set_option maxRecDepth 100000 in
theorem q_M_handsLine_5 (d : Nat) (l1 : Int32) (l2 : Int32) (σ : jS) : b_M_handsLine_5 d l1 l2 σ = (jif (l2 = 0) (b_M_handsLine_6 d σ) ((r_V (g_M_token d σ)).bind fun σ1 => (r_V (g_M_handsOne d l1 σ1)).bind fun σ2 => (r_I (g_M_isWord d 7 σ2)).bind fun q3 => b_M_handsLine_5 d l1 q3.1 q3.2)) := (db_eq _ _ _ _ _ _ _).trans rfl
set_option maxRecDepth 100000 in
theorem q_M_handsLine_6 (d : Nat) (σ : jS) : b_M_handsLine_6 d σ = (some (none, σ)) := (db_eq _ _ _ _ _ _ _).trans rfl
noncomputable def b_M_handsOne_0 (d : Nat) (l1 : Int32) (σ : jS) : jR := db (jd jMT d) 0 k_M_handsOne 0 [(0, .ref 86), (1, .int l1)] [] σ
noncomputable def b_M_handsOne_1 (d : Nat) (l1 : Int32) (l2 : Int32) (σ : jS) : jR := db (jd jMT d) 0 k_M_handsOne 1 [(0, .ref 86), (1, .int l1), (2, .int l2)] [] σ
noncomputable def b_M_handsOne_2 (d : Nat) (l1 : Int32) (l2 : Int32) (l3 : Int32) (l4 : Int32) (σ : jS) : jR := db (jd jMT d) 0 k_M_handsOne 2 [(0, .ref 86), (1, .int l1), (2, .int l2), (3, .int l3), (4, .int l4)] [] σ
noncomputable def b_M_handsOne_3 (d : Nat) (l1 : Int32) (l2 : Int32) (l3 : Int32) (l4 : Int32) (σ : jS) : jR := db (jd jMT d) 0 k_M_handsOne 3 [(0, .ref 86), (1, .int l1), (2, .int l2), (3, .int l3), (4, .int l4)] [] σ
noncomputable def b_M_handsOne_4 (d : Nat) (l1 : Int32) (l2 : Int32) (l3 : Int32) (σ : jS) : jR := db (jd jMT d) 0 k_M_handsOne 4 [(0, .ref 86), (1, .int l1), (2, .int l2), (3, .int l3)] [] σ
noncomputable def b_M_handsOne_5 (d : Nat) (l1 : Int32) (l2 : Int32) (l3 : Int32) (σ : jS) : jR := db (jd jMT d) 0 k_M_handsOne 5 [(0, .ref 86), (1, .int l1), (2, .int l2), (3, .int l3)] [] σ
noncomputable def b_M_handsOne_6 (d : Nat) (l1 : Int32) (l2 : Int32) (l3 : Int32) (σ : jS) : jR := db (jd jMT d) 0 k_M_handsOne 6 [(0, .ref 86), (1, .int l1), (2, .int l2), (3, .int l3)] [] σ
theorem e_M_handsOne (d : Nat) (l1 : Int32) (σ : jS) : g_M_handsOne (d + 1) l1 σ = b_M_handsOne_0 d l1 σ := rfl
set_option maxRecDepth 100000 in
theorem q_M_handsOne_0 (d : Nat) (l1 : Int32) (σ : jS) : b_M_handsOne_0 d l1 σ = ((j_rdI 0 σ 92 (10 + l1)).bind fun x1 => jif ((σ.1 86 21) = 1) (jif (x1 = 3) ((r_V (g_M_wrong d 2 σ)).bind fun σ2 => b_M_handsOne_1 d l1 x1 σ2) (b_M_handsOne_1 d l1 x1 σ)) (b_M_handsOne_1 d l1 x1 σ)) := (db_eq _ _ _ _ _ _ _).trans rfl
set_option maxRecDepth 100000 in
theorem q_M_handsOne_1 (d : Nat) (l1 : Int32) (l2 : Int32) (σ : jS) : b_M_handsOne_1 d l1 l2 σ = ((r_I (g_M_person d σ)).bind fun q1 => b_M_handsOne_2 d l1 l2 q1.1 0 q1.2) := (db_eq _ _ _ _ _ _ _).trans rfl
set_option maxRecDepth 100000 in
theorem q_M_handsOne_2 (d : Nat) (l1 : Int32) (l2 : Int32) (l3 : Int32) (l4 : Int32) (σ : jS) : b_M_handsOne_2 d l1 l2 l3 l4 σ = (jif (l2 ≤ l4) (b_M_handsOne_4 d l1 l2 l3 σ) (jif ((σ.1 86 23) = 0) ((j_rdI 0 σ 93 ((3 * (10 + l1)) + l4)).bind fun x1 => jif (x1 = l3) ((r_V (g_M_wrong d 3 σ)).bind fun σ2 => b_M_handsOne_3 d l1 l2 l3 l4 σ2) (b_M_handsOne_3 d l1 l2 l3 l4 σ)) (b_M_handsOne_3 d l1 l2 l3 l4 σ))) := (db_eq _ _ _ _ _ _ _).trans rfl
set_option maxRecDepth 100000 in
theorem q_M_handsOne_3 (d : Nat) (l1 : Int32) (l2 : Int32) (l3 : Int32) (l4 : Int32) (σ : jS) : b_M_handsOne_3 d l1 l2 l3 l4 σ = (b_M_handsOne_2 d l1 l2 l3 (l4 + 1) σ) := (db_eq _ _ _ _ _ _ _).trans rfl
set_option maxRecDepth 100000 in
theorem q_M_handsOne_4 (d : Nat) (l1 : Int32) (l2 : Int32) (l3 : Int32) (σ : jS) : b_M_handsOne_4 d l1 l2 l3 σ = (jif ((σ.1 86 23) = 0) (jif (l3 = l1) ((r_V (g_M_wrong d 5 σ)).bind fun σ1 => b_M_handsOne_5 d l1 l2 l3 σ1) (b_M_handsOne_5 d l1 l2 l3 σ)) (b_M_handsOne_5 d l1 l2 l3 σ)) := (db_eq _ _ _ _ _ _ _).trans rfl
set_option maxRecDepth 100000 in
theorem q_M_handsOne_5 (d : Nat) (l1 : Int32) (l2 : Int32) (l3 : Int32) (σ : jS) : b_M_handsOne_5 d l1 l2 l3 σ = (jif ((σ.1 86 23) = 0) (b_M_handsOne_6 d l1 l2 l3 σ) (some (none, σ))) := (db_eq _ _ _ _ _ _ _).trans rfl
set_option maxRecDepth 100000 in
theorem q_M_handsOne_6 (d : Nat) (l1 : Int32) (l2 : Int32) (l3 : Int32) (σ : jS) : b_M_handsOne_6 d l1 l2 l3 σ = ((j_wrI σ 93 ((3 * (10 + l1)) + l2) l3).bind fun σ1 => (j_rdI 0 σ1 92 (10 + l1)).bind fun x2 => (j_wrI σ1 92 (10 + l1) (x2 + 1)).bind fun σ3 => (r_V (g_M_token d σ3)).bind fun σ4 => some (none, σ4)) := (db_eq _ _ _ _ _ _ _).trans rfl
noncomputable def b_M_parcelLine_0 (d : Nat) (l1 : Int32) (σ : jS) : jR := db (jd jMT d) 0 k_M_parcelLine 0 [(0, .ref 86), (1, .int l1)] [] σ
theorem e_M_parcelLine (d : Nat) (l1 : Int32) (σ : jS) : g_M_parcelLine (d + 1) l1 σ = b_M_parcelLine_0 d l1 σ := rfl
set_option maxRecDepth 100000 in
theorem q_M_parcelLine_0 (d : Nat) (l1 : Int32) (σ : jS) : b_M_parcelLine_0 d l1 σ = ((r_I (g_M_person d σ)).bind fun q1 => (j_wrI q1.2 94 l1 q1.1).bind fun σ2 => (r_V (g_M_goOn d σ2)).bind fun σ3 => (r_I (g_M_numeral d 1 99999 σ3)).bind fun q4 => (j_wrI q4.2 95 l1 q4.1).bind fun σ5 => (r_I (g_M_numeral d 0 999 σ5)).bind fun q6 => (j_wrI q6.2 96 l1 q6.1).bind fun σ7 => (r_V (g_M_oneMore d 1 σ7)).bind fun σ8 => some (none, σ8)) := (db_eq _ _ _ _ _ _ _).trans rfl
noncomputable def b_M_puts_0 (d : Nat) (l1 : Int32) (l2 : Int32) (σ : jS) : jR := db (jd jMT d) 0 k_M_puts 0 [(0, .ref 86), (1, .int l1), (2, .int l2)] [] σ
noncomputable def b_M_puts_1 (d : Nat) (l1 : Int32) (l2 : Int32) (σ : jS) : jR := db (jd jMT d) 0 k_M_puts 1 [(0, .ref 86), (1, .int l1), (2, .int l2)] [] σ
theorem e_M_puts (d : Nat) (l1 : Int32) (l2 : Int32) (σ : jS) : g_M_puts (d + 1) l1 l2 σ = b_M_puts_0 d l1 l2 σ := rfl
set_option maxRecDepth 100000 in
theorem q_M_puts_0 (d : Nat) (l1 : Int32) (l2 : Int32) (σ : jS) : b_M_puts_0 d l1 l2 σ = (jif ((σ.1 86 23) = 0) (b_M_puts_1 d l1 l2 σ) (some (none, σ))) := (db_eq _ _ _ _ _ _ _).trans rfl
set_option maxRecDepth 100000 in
theorem q_M_puts_1 (d : Nat) (l1 : Int32) (l2 : Int32) (σ : jS) : b_M_puts_1 d l1 l2 σ = ((r_I (g_M_fresher d 3 σ)).bind fun q1 => (j_wrI q1.2 100 (64 + q1.1) l1).bind fun σ2 => (r_I (g_M_fresher d 3 σ2)).bind fun q3 => (j_wrI q3.2 101 (64 + q3.1) l2).bind fun σ4 => (r_V (g_M_oneMore d 3 σ4)).bind fun σ5 => some (none, σ5)) := (db_eq _ _ _ _ _ _ _).trans rfl
noncomputable def b_M_knot_0 (d : Nat) (σ : jS) : jR := db (jd jMT d) 0 k_M_knot 0 [(0, .ref 86)] [] σ
noncomputable def b_M_knot_1 (d : Nat) (σ : jS) : jR := db (jd jMT d) 0 k_M_knot 1 [(0, .ref 86)] [] σ
noncomputable def b_M_knot_2 (d : Nat) (σ : jS) : jR := db (jd jMT d) 0 k_M_knot 2 [(0, .ref 86)] [] σ
noncomputable def b_M_knot_3 (d : Nat) (σ : jS) : jR := db (jd jMT d) 0 k_M_knot 3 [] [] σ
theorem e_M_knot (d : Nat) (σ : jS) : g_M_knot (d + 1) σ = b_M_knot_0 d σ := rfl
set_option maxRecDepth 100000 in
theorem q_M_knot_0 (d : Nat) (σ : jS) : b_M_knot_0 d σ = (jif ((σ.1 86 23) = 0) (b_M_knot_1 d σ) (some (none, σ))) := (db_eq _ _ _ _ _ _ _).trans rfl
set_option maxRecDepth 100000 in
theorem q_M_knot_1 (d : Nat) (σ : jS) : b_M_knot_1 d σ = (jif ((σ.1 86 28) = 64) ((r_V (g_M_wrong d 2 σ)).bind fun σ1 => b_M_knot_3 d σ1) (b_M_knot_2 d σ)) := (db_eq _ _ _ _ _ _ _).trans rfl
set_option maxRecDepth 100000 in
theorem q_M_knot_2 (d : Nat) (σ : jS) : b_M_knot_2 d σ = (b_M_knot_3 d (j_setI σ 86 28 ((σ.1 86 28) + 1))) := (db_eq _ _ _ _ _ _ _).trans rfl
set_option maxRecDepth 100000 in
theorem q_M_knot_3 (d : Nat) (σ : jS) : b_M_knot_3 d σ = (some (none, σ)) := (db_eq _ _ _ _ _ _ _).trans rfl
noncomputable def b_M_expression_0 (d : Nat) (σ : jS) : jR := db (jd jMT d) 0 k_M_expression 0 [(0, .ref 86)] [] σ
noncomputable def b_M_expression_1 (d : Nat) (σ : jS) : jR := db (jd jMT d) 0 k_M_expression 1 [(0, .ref 86)] [] σ
noncomputable def b_M_expression_2 (d : Nat) (σ : jS) : jR := db (jd jMT d) 0 k_M_expression 2 [] [] σ
theorem e_M_expression (d : Nat) (σ : jS) : g_M_expression (d + 1) σ = b_M_expression_0 d σ := rfl
set_option maxRecDepth 100000 in
theorem q_M_expression_0 (d : Nat) (σ : jS) : b_M_expression_0 d σ = ((r_V (g_M_conjunction d σ)).bind fun σ1 => b_M_expression_1 d σ1) := (db_eq _ _ _ _ _ _ _).trans rfl
set_option maxRecDepth 100000 in
theorem q_M_expression_1 (d : Nat) (σ : jS) : b_M_expression_1 d σ = ((r_I (g_M_isWord d 7 σ)).bind fun q1 => jif (q1.1 = 0) (b_M_expression_2 d q1.2) ((r_V (g_M_knot d q1.2)).bind fun σ2 => (r_V (g_M_goOn d σ2)).bind fun σ3 => (r_V (g_M_conjunction d σ3)).bind fun σ4 => (r_V (g_M_puts d 2 262 σ4)).bind fun σ5 => b_M_expression_1 d σ5)) := (db_eq _ _ _ _ _ _ _).trans rfl
set_option maxRecDepth 100000 in
theorem q_M_expression_2 (d : Nat) (σ : jS) : b_M_expression_2 d σ = (some (none, σ)) := (db_eq _ _ _ _ _ _ _).trans rfl
noncomputable def b_M_conjunction_0 (d : Nat) (σ : jS) : jR := db (jd jMT d) 0 k_M_conjunction 0 [(0, .ref 86)] [] σ
noncomputable def b_M_conjunction_1 (d : Nat) (σ : jS) : jR := db (jd jMT d) 0 k_M_conjunction 1 [(0, .ref 86)] [] σ
noncomputable def b_M_conjunction_2 (d : Nat) (σ : jS) : jR := db (jd jMT d) 0 k_M_conjunction 2 [] [] σ
theorem e_M_conjunction (d : Nat) (σ : jS) : g_M_conjunction (d + 1) σ = b_M_conjunction_0 d σ := rfl
set_option maxRecDepth 100000 in
theorem q_M_conjunction_0 (d : Nat) (σ : jS) : b_M_conjunction_0 d σ = ((r_V (g_M_negation d σ)).bind fun σ1 => b_M_conjunction_1 d σ1) := (db_eq _ _ _ _ _ _ _).trans rfl
set_option maxRecDepth 100000 in
theorem q_M_conjunction_1 (d : Nat) (σ : jS) : b_M_conjunction_1 d σ = ((r_I (g_M_isWord d 8 σ)).bind fun q1 => jif (q1.1 = 0) (b_M_conjunction_2 d q1.2) ((r_V (g_M_knot d q1.2)).bind fun σ2 => (r_V (g_M_goOn d σ2)).bind fun σ3 => (r_V (g_M_negation d σ3)).bind fun σ4 => (r_V (g_M_puts d 2 261 σ4)).bind fun σ5 => b_M_conjunction_1 d σ5)) := (db_eq _ _ _ _ _ _ _).trans rfl
set_option maxRecDepth 100000 in
theorem q_M_conjunction_2 (d : Nat) (σ : jS) : b_M_conjunction_2 d σ = (some (none, σ)) := (db_eq _ _ _ _ _ _ _).trans rfl
noncomputable def b_M_negation_0 (d : Nat) (σ : jS) : jR := db (jd jMT d) 0 k_M_negation 0 [(0, .ref 86)] [] σ
noncomputable def b_M_negation_1 (d : Nat) (σ : jS) : jR := db (jd jMT d) 0 k_M_negation 1 [(0, .ref 86)] [] σ
noncomputable def b_M_negation_2 (d : Nat) (σ : jS) : jR := db (jd jMT d) 0 k_M_negation 2 [] [] σ
noncomputable def b_M_negation_3 (d : Nat) (σ : jS) : jR := db (jd jMT d) 0 k_M_negation 3 [(0, .ref 86)] [] σ
theorem e_M_negation (d : Nat) (σ : jS) : g_M_negation (d + 1) σ = b_M_negation_0 d σ := rfl
set_option maxRecDepth 100000 in
theorem q_M_negation_0 (d : Nat) (σ : jS) : b_M_negation_0 d σ = ((r_I (g_M_isWord d 9 σ)).bind fun q1 => jif (q1.1 = 0) (b_M_negation_1 d q1.2) ((r_V (g_M_knot d q1.2)).bind fun σ2 => (r_V (g_M_goOn d σ2)).bind fun σ3 => (r_V (g_M_negation d σ3)).bind fun σ4 => (r_V (g_M_puts d 2 260 σ4)).bind fun σ5 => some (none, σ5))) := (db_eq _ _ _ _ _ _ _).trans rfl
set_option maxRecDepth 100000 in
theorem q_M_negation_1 (d : Nat) (σ : jS) : b_M_negation_1 d σ = ((r_V (g_M_sum d σ)).bind fun σ1 => jif ((σ1.1 86 23) = 0) (jif ((σ1.1 86 21) = 3) (jif ((σ1.1 86 22) = 60) (b_M_negation_3 d σ1) (jif ((σ1.1 86 22) = 62) (b_M_negation_3 d σ1) (jif ((σ1.1 86 22) = 61) (b_M_negation_3 d σ1) (jif (256 ≤ (σ1.1 86 22)) (b_M_negation_3 d σ1) (b_M_negation_2 d σ1))))) (b_M_negation_2 d σ1)) (b_M_negation_2 d σ1)) := (db_eq _ _ _ _ _ _ _).trans rfl
set_option maxRecDepth 100000 in
theorem q_M_negation_2 (d : Nat) (σ : jS) : b_M_negation_2 d σ = (some (none, σ)) := (db_eq _ _ _ _ _ _ _).trans rfl
set_option maxRecDepth 100000 in
theorem q_M_negation_3 (d : Nat) (σ : jS) : b_M_negation_3 d σ = ((r_V (g_M_knot d σ)).bind fun σ1 => (r_V (g_M_goOn d σ1)).bind fun σ2 => (r_V (g_M_sum d σ2)).bind fun σ3 => (r_V (g_M_puts d 2 (σ.1 86 22) σ3)).bind fun σ4 => some (none, σ4)) := (db_eq _ _ _ _ _ _ _).trans rfl
noncomputable def b_M_sum_0 (d : Nat) (σ : jS) : jR := db (jd jMT d) 0 k_M_sum 0 [(0, .ref 86)] [] σ
noncomputable def b_M_sum_1 (d : Nat) (σ : jS) : jR := db (jd jMT d) 0 k_M_sum 1 [(0, .ref 86)] [] σ
noncomputable def b_M_sum_2 (d : Nat) (σ : jS) : jR := db (jd jMT d) 0 k_M_sum 2 [(0, .ref 86)] [] σ
noncomputable def b_M_sum_3 (d : Nat) (σ : jS) : jR := db (jd jMT d) 0 k_M_sum 3 [] [] σ
theorem e_M_sum (d : Nat) (σ : jS) : g_M_sum (d + 1) σ = b_M_sum_0 d σ := rfl
set_option maxRecDepth 100000 in
theorem q_M_sum_0 (d : Nat) (σ : jS) : b_M_sum_0 d σ = ((r_V (g_M_product d σ)).bind fun σ1 => b_M_sum_1 d σ1) := (db_eq _ _ _ _ _ _ _).trans rfl
set_option maxRecDepth 100000 in
theorem q_M_sum_1 (d : Nat) (σ : jS) : b_M_sum_1 d σ = ((r_I (g_M_isSign d 43 σ)).bind fun q1 => jif (q1.1 = 0) ((r_I (g_M_isSign d 45 q1.2)).bind fun q2 => jif (q2.1 = 0) (b_M_sum_3 d q2.2) (b_M_sum_2 d q2.2)) (b_M_sum_2 d q1.2)) := (db_eq _ _ _ _ _ _ _).trans rfl
set_option maxRecDepth 100000 in
theorem q_M_sum_2 (d : Nat) (σ : jS) : b_M_sum_2 d σ = ((r_V (g_M_knot d σ)).bind fun σ1 => (r_V (g_M_goOn d σ1)).bind fun σ2 => (r_V (g_M_product d σ2)).bind fun σ3 => (r_V (g_M_puts d 2 (σ.1 86 22) σ3)).bind fun σ4 => b_M_sum_1 d σ4) := (db_eq _ _ _ _ _ _ _).trans rfl
set_option maxRecDepth 100000 in
theorem q_M_sum_3 (d : Nat) (σ : jS) : b_M_sum_3 d σ = (some (none, σ)) := (db_eq _ _ _ _ _ _ _).trans rfl
noncomputable def b_M_product_0 (d : Nat) (σ : jS) : jR := db (jd jMT d) 0 k_M_product 0 [(0, .ref 86)] [] σ
noncomputable def b_M_product_1 (d : Nat) (σ : jS) : jR := db (jd jMT d) 0 k_M_product 1 [(0, .ref 86)] [] σ
noncomputable def b_M_product_2 (d : Nat) (σ : jS) : jR := db (jd jMT d) 0 k_M_product 2 [(0, .ref 86)] [] σ
noncomputable def b_M_product_3 (d : Nat) (σ : jS) : jR := db (jd jMT d) 0 k_M_product 3 [] [] σ
theorem e_M_product (d : Nat) (σ : jS) : g_M_product (d + 1) σ = b_M_product_0 d σ := rfl
set_option maxRecDepth 100000 in
theorem q_M_product_0 (d : Nat) (σ : jS) : b_M_product_0 d σ = ((r_V (g_M_primary d σ)).bind fun σ1 => b_M_product_1 d σ1) := (db_eq _ _ _ _ _ _ _).trans rfl
set_option maxRecDepth 100000 in
theorem q_M_product_1 (d : Nat) (σ : jS) : b_M_product_1 d σ = ((r_I (g_M_isSign d 42 σ)).bind fun q1 => jif (q1.1 = 0) ((r_I (g_M_isSign d 47 q1.2)).bind fun q2 => jif (q2.1 = 0) ((r_I (g_M_isSign d 37 q2.2)).bind fun q3 => jif (q3.1 = 0) (b_M_product_3 d q3.2) (b_M_product_2 d q3.2)) (b_M_product_2 d q2.2)) (b_M_product_2 d q1.2)) := (db_eq _ _ _ _ _ _ _).trans rfl
set_option maxRecDepth 100000 in
theorem q_M_product_2 (d : Nat) (σ : jS) : b_M_product_2 d σ = ((r_V (g_M_knot d σ)).bind fun σ1 => (r_V (g_M_goOn d σ1)).bind fun σ2 => (r_V (g_M_primary d σ2)).bind fun σ3 => (r_V (g_M_puts d 2 (σ.1 86 22) σ3)).bind fun σ4 => b_M_product_1 d σ4) := (db_eq _ _ _ _ _ _ _).trans rfl
set_option maxRecDepth 100000 in
theorem q_M_product_3 (d : Nat) (σ : jS) : b_M_product_3 d σ = (some (none, σ)) := (db_eq _ _ _ _ _ _ _).trans rfl
noncomputable def b_M_primary_0 (d : Nat) (σ : jS) : jR := db (jd jMT d) 0 k_M_primary 0 [(0, .ref 86)] [] σ
noncomputable def b_M_primary_1 (d : Nat) (σ : jS) : jR := db (jd jMT d) 0 k_M_primary 1 [(0, .ref 86)] [] σ
noncomputable def b_M_primary_2 (d : Nat) (σ : jS) : jR := db (jd jMT d) 0 k_M_primary 2 [(0, .ref 86)] [] σ
noncomputable def b_M_primary_3 (d : Nat) (σ : jS) : jR := db (jd jMT d) 0 k_M_primary 3 [(0, .ref 86)] [] σ
noncomputable def b_M_primary_4 (d : Nat) (σ : jS) : jR := db (jd jMT d) 0 k_M_primary 4 [(0, .ref 86)] [] σ
noncomputable def b_M_primary_5 (d : Nat) (σ : jS) : jR := db (jd jMT d) 0 k_M_primary 5 [(0, .ref 86)] [] σ
noncomputable def b_M_primary_6 (d : Nat) (σ : jS) : jR := db (jd jMT d) 0 k_M_primary 6 [(0, .ref 86)] [] σ
noncomputable def b_M_primary_7 (d : Nat) (σ : jS) : jR := db (jd jMT d) 0 k_M_primary 7 [(0, .ref 86)] [] σ
noncomputable def b_M_primary_8 (d : Nat) (s0 : Int32) (σ : jS) : jR := db (jd jMT d) 0 k_M_primary 8 [(0, .ref 86)] [.int s0] σ
noncomputable def b_M_primary_9 (d : Nat) (l1 : Int32) (σ : jS) : jR := db (jd jMT d) 0 k_M_primary 9 [(0, .ref 86), (1, .int l1)] [] σ
noncomputable def b_M_primary_10 (d : Nat) (l1 : Int32) (σ : jS) : jR := db (jd jMT d) 0 k_M_primary 10 [(0, .ref 86), (1, .int l1)] [] σ
noncomputable def b_M_primary_11 (d : Nat) (l1 : Int32) (σ : jS) : jR := db (jd jMT d) 0 k_M_primary 11 [(0, .ref 86), (1, .int l1)] [] σ
noncomputable def b_M_primary_12 (d : Nat) (l1 : Int32) (σ : jS) : jR := db (jd jMT d) 0 k_M_primary 12 [(0, .ref 86), (1, .int l1)] [.ref 86] σ
noncomputable def b_M_primary_13 (d : Nat) (l1 : Int32) (s1 : Int32) (σ : jS) : jR := db (jd jMT d) 0 k_M_primary 13 [(0, .ref 86), (1, .int l1)] [.int s1, .ref 86] σ
noncomputable def b_M_primary_14 (d : Nat) (s1 : Int32) (σ : jS) : jR := db (jd jMT d) 0 k_M_primary 14 [(0, .ref 86)] [.int s1, .ref 86] σ
noncomputable def b_M_primary_15 (d : Nat) (s1 : Int32) (s2 : Int32) (σ : jS) : jR := db (jd jMT d) 0 k_M_primary 15 [(0, .ref 86)] [.int s2, .int s1, .ref 86] σ
theorem e_M_primary (d : Nat) (σ : jS) : g_M_primary (d + 1) σ = b_M_primary_0 d σ := rfl
set_option maxRecDepth 100000 in
theorem q_M_primary_0 (d : Nat) (σ : jS) : b_M_primary_0 d σ = (jif ((σ.1 86 23) = 0) (b_M_primary_1 d σ) (some (none, σ))) := (db_eq _ _ _ _ _ _ _).trans rfl
set_option maxRecDepth 100000 in
theorem q_M_primary_1 (d : Nat) (σ : jS) : b_M_primary_1 d σ = ((r_I (g_M_isSign d 40 σ)).bind fun q1 => jif (q1.1 = 0) (b_M_primary_6 d q1.2) (jif ((q1.2.1 86 27) = 8) ((r_V (g_M_wrong d 2 q1.2)).bind fun σ2 => b_M_primary_2 d σ2) (b_M_primary_2 d q1.2))) := (db_eq _ _ _ _ _ _ _).trans rfl
set_option maxRecDepth 100000 in
theorem q_M_primary_2 (d : Nat) (σ : jS) : b_M_primary_2 d σ = (jif ((σ.1 86 23) = 0) (b_M_primary_3 d σ) (some (none, σ))) := (db_eq _ _ _ _ _ _ _).trans rfl
set_option maxRecDepth 100000 in
theorem q_M_primary_3 (d : Nat) (σ : jS) : b_M_primary_3 d σ = ((r_V (g_M_token d (j_setI σ 86 27 ((σ.1 86 27) + 1)))).bind fun σ1 => (r_V (g_M_expression d σ1)).bind fun σ2 => jif ((σ2.1 86 23) = 0) ((r_I (g_M_isSign d 41 σ2)).bind fun q3 => jif (q3.1 = 0) ((r_V (g_M_wrong d 1 q3.2)).bind fun σ4 => b_M_primary_4 d σ4) (b_M_primary_4 d q3.2)) (b_M_primary_4 d σ2)) := (db_eq _ _ _ _ _ _ _).trans rfl
set_option maxRecDepth 100000 in
theorem q_M_primary_4 (d : Nat) (σ : jS) : b_M_primary_4 d σ = (jif ((σ.1 86 23) = 0) (b_M_primary_5 d σ) (some (none, σ))) := (db_eq _ _ _ _ _ _ _).trans rfl
set_option maxRecDepth 100000 in
theorem q_M_primary_5 (d : Nat) (σ : jS) : b_M_primary_5 d σ = ((r_V (g_M_token d (j_setI σ 86 27 ((σ.1 86 27) - 1)))).bind fun σ1 => some (none, σ1)) := (db_eq _ _ _ _ _ _ _).trans rfl
set_option maxRecDepth 100000 in
theorem q_M_primary_6 (d : Nat) (σ : jS) : b_M_primary_6 d σ = (jif ((σ.1 86 21) = 2) (b_M_primary_8 d 1 σ) (b_M_primary_7 d σ)) := (db_eq _ _ _ _ _ _ _).trans rfl
set_option maxRecDepth 100000 in
theorem q_M_primary_7 (d : Nat) (σ : jS) : b_M_primary_7 d σ = (b_M_primary_8 d 0 σ) := (db_eq _ _ _ _ _ _ _).trans rfl
set_option maxRecDepth 100000 in
theorem q_M_primary_8 (d : Nat) (s0 : Int32) (σ : jS) : b_M_primary_8 d s0 σ = (jif (s0 = 0) (b_M_primary_9 d s0 σ) (jif ((σ.1 86 22) ≤ 9999) (b_M_primary_9 d s0 σ) ((r_V (g_M_wrong d 2 σ)).bind fun σ1 => b_M_primary_11 d s0 σ1))) := (db_eq _ _ _ _ _ _ _).trans rfl
set_option maxRecDepth 100000 in
theorem q_M_primary_9 (d : Nat) (l1 : Int32) (σ : jS) : b_M_primary_9 d l1 σ = (jif (l1 = 0) (jif ((σ.1 86 21) = 0) (jif (10 ≤ (σ.1 86 22)) (b_M_primary_11 d l1 σ) (b_M_primary_10 d l1 σ)) (b_M_primary_10 d l1 σ)) (b_M_primary_11 d l1 σ)) := (db_eq _ _ _ _ _ _ _).trans rfl
set_option maxRecDepth 100000 in
theorem q_M_primary_10 (d : Nat) (l1 : Int32) (σ : jS) : b_M_primary_10 d l1 σ = ((r_V (g_M_wrong d 1 σ)).bind fun σ1 => b_M_primary_11 d l1 σ1) := (db_eq _ _ _ _ _ _ _).trans rfl
set_option maxRecDepth 100000 in
theorem q_M_primary_11 (d : Nat) (l1 : Int32) (σ : jS) : b_M_primary_11 d l1 σ = ((r_V (g_M_knot d σ)).bind fun σ1 => jif (l1 = 0) (b_M_primary_12 d l1 σ1) (b_M_primary_13 d l1 0 σ1)) := (db_eq _ _ _ _ _ _ _).trans rfl
set_option maxRecDepth 100000 in
theorem q_M_primary_12 (d : Nat) (l1 : Int32) (σ : jS) : b_M_primary_12 d l1 σ = (b_M_primary_13 d l1 1 σ) := (db_eq _ _ _ _ _ _ _).trans rfl
set_option maxRecDepth 100000 in
theorem q_M_primary_13 (d : Nat) (l1 : Int32) (s1 : Int32) (σ : jS) : b_M_primary_13 d l1 s1 σ = (jif (l1 = 0) (b_M_primary_14 d s1 σ) (b_M_primary_15 d s1 (σ.1 86 22) σ)) := (db_eq _ _ _ _ _ _ _).trans rfl
set_option maxRecDepth 100000 in
theorem q_M_primary_14 (d : Nat) (s1 : Int32) (σ : jS) : b_M_primary_14 d s1 σ = (b_M_primary_15 d s1 ((σ.1 86 22) - 10) σ) := (db_eq _ _ _ _ _ _ _).trans rfl
set_option maxRecDepth 100000 in
theorem q_M_primary_15 (d : Nat) (s1 : Int32) (s2 : Int32) (σ : jS) : b_M_primary_15 d s1 s2 σ = ((r_V (g_M_puts d s1 s2 σ)).bind fun σ1 => (r_V (g_M_goOn d σ1)).bind fun σ2 => some (none, σ2)) := (db_eq _ _ _ _ _ _ _).trans rfl
