/-! The methods as functions of the cells: an equation a block. Printed by wip/gen/eqs.py. -/
noncomputable def b_Rw_ageAt_0 (d : Nat) (l1 : Nat) (l2 : Int32) (σ : jS) : jR := db (jd jMT d) 1 k_Rw_ageAt 0 [(0, .ref 69), (1, .ref l1), (2, .int l2)] [] σ
theorem e_Rw_ageAt (d : Nat) (l1 : Nat) (l2 : Int32) (σ : jS) : g_Rw_ageAt (d + 1) l1 l2 σ = b_Rw_ageAt_0 d l1 l2 σ := rfl
set_option maxRecDepth 100000 in
theorem q_Rw_ageAt_0 (d : Nat) (l1 : Nat) (l2 : Int32) (σ : jS) : b_Rw_ageAt_0 d l1 l2 σ = (jc (j_is 6 l1) ((j_rdI 0 σ 70 l2).bind fun x1 => (j_rdI 0 σ (j_cr l1 2) x1).bind fun x2 => some (some (.int x2), σ))) := (db_eq _ _ _ _ _ _ _).trans rfl
noncomputable def b_Rw_leastBringing_0 (d : Nat) (l1 : Nat) (l2 : Int32) (σ : jS) : jR := db (jd jMT d) 1 k_Rw_leastBringing 0 [(0, .ref 69), (1, .ref l1), (2, .int l2)] [] σ
noncomputable def b_Rw_leastBringing_1 (d : Nat) (l1 : Nat) (l2 : Int32) (l4 : Int32) (l5 : Int32) (l6 : Int32) (σ : jS) : jR := db (jd jMT d) 1 k_Rw_leastBringing 1 [(0, .ref 69), (1, .ref l1), (2, .int l2), (4, .int l4), (5, .int l5), (6, .int l6)] [] σ
noncomputable def b_Rw_leastBringing_2 (d : Nat) (l1 : Nat) (l2 : Int32) (l5 : Int32) (l6 : Int32) (l7 : Int32) (σ : jS) : jR := db (jd jMT d) 1 k_Rw_leastBringing 2 [(0, .ref 69), (1, .ref l1), (2, .int l2), (5, .int l5), (6, .int l6), (7, .int l7)] [] σ
noncomputable def b_Rw_leastBringing_3 (d : Nat) (l1 : Nat) (l2 : Int32) (l4 : Int32) (l5 : Int32) (l6 : Int32) (σ : jS) : jR := db (jd jMT d) 1 k_Rw_leastBringing 3 [(0, .ref 69), (1, .ref l1), (2, .int l2), (4, .int l4), (5, .int l5), (6, .int l6)] [] σ
noncomputable def b_Rw_leastBringing_4 (d : Nat) (l5 : Int32) (σ : jS) : jR := db (jd jMT d) 1 k_Rw_leastBringing 4 [(5, .int l5)] [] σ
theorem e_Rw_leastBringing (d : Nat) (l1 : Nat) (l2 : Int32) (σ : jS) : g_Rw_leastBringing (d + 1) l1 l2 σ = b_Rw_leastBringing_0 d l1 l2 σ := rfl
set_option maxRecDepth 100000 in
theorem q_Rw_leastBringing_0 (d : Nat) (l1 : Nat) (l2 : Int32) (σ : jS) : b_Rw_leastBringing_0 d l1 l2 σ = ((r_I (g_Rw_carriers d σ)).bind fun q1 => b_Rw_leastBringing_1 d l1 l2 (if (0 : Int32) < (((l2 - 1) * ((1 : Int32) <<< ((q1.1 : Int32) &&& 31))) + 1) then (((l2 - 1) * ((1 : Int32) <<< ((q1.1 : Int32) &&& 31))) + 1) else 0) (l2 * ((1 : Int32) <<< ((q1.1 : Int32) &&& 31))) 0 q1.2) := (db_eq _ _ _ _ _ _ _).trans rfl
set_option maxRecDepth 100000 in
theorem q_Rw_leastBringing_1 (d : Nat) (l1 : Nat) (l2 : Int32) (l4 : Int32) (l5 : Int32) (l6 : Int32) (σ : jS) : b_Rw_leastBringing_1 d l1 l2 l4 l5 l6 σ = ((r_I (g_Rw_carriers d σ)).bind fun q1 => jif (q1.1 < l6) (b_Rw_leastBringing_4 d l5 q1.2) (jif (l5 ≤ l4) (b_Rw_leastBringing_4 d l5 q1.2) ((r_I (g_Rw_arriving d l1 4 ((l4 + l5) / 2) q1.2)).bind fun q2 => jif (q2.1 < l2) (b_Rw_leastBringing_2 d l1 l2 l5 l6 ((l4 + l5) / 2) q2.2) (b_Rw_leastBringing_3 d l1 l2 l4 ((l4 + l5) / 2) l6 q2.2)))) := (db_eq _ _ _ _ _ _ _).trans rfl
set_option maxRecDepth 100000 in
theorem q_Rw_leastBringing_2 (d : Nat) (l1 : Nat) (l2 : Int32) (l5 : Int32) (l6 : Int32) (l7 : Int32) (σ : jS) : b_Rw_leastBringing_2 d l1 l2 l5 l6 l7 σ = (b_Rw_leastBringing_3 d l1 l2 (l7 + 1) l5 l6 σ) := (db_eq _ _ _ _ _ _ _).trans rfl
set_option maxRecDepth 100000 in
theorem q_Rw_leastBringing_3 (d : Nat) (l1 : Nat) (l2 : Int32) (l4 : Int32) (l5 : Int32) (l6 : Int32) (σ : jS) : b_Rw_leastBringing_3 d l1 l2 l4 l5 l6 σ = (b_Rw_leastBringing_1 d l1 l2 l4 l5 (l6 + 1) σ) := (db_eq _ _ _ _ _ _ _).trans rfl
set_option maxRecDepth 100000 in
theorem q_Rw_leastBringing_4 (d : Nat) (l5 : Int32) (σ : jS) : b_Rw_leastBringing_4 d l5 σ = (some (some (.int l5), σ)) := (db_eq _ _ _ _ _ _ _).trans rfl
noncomputable def b_Te_clear_0 (d : Nat) (l0 : Nat) (σ : jS) : jR := db (jd jMT d) 0 k_Te_clear 0 [(0, .ref l0)] [] σ
theorem e_Te_clear (d : Nat) (l0 : Nat) (σ : jS) : g_Te_clear (d + 1) l0 σ = b_Te_clear_0 d l0 σ := rfl
set_option maxRecDepth 100000 in
theorem q_Te_clear_0 (d : Nat) (l0 : Nat) (σ : jS) : b_Te_clear_0 d l0 σ = (jc (j_is 6 l0) (jc (j_is 6 l0) (jc (j_is 6 l0) (jc (j_is 6 l0) (jc (j_is 1 (j_cr l0 12)) ((r_V (g_La_clear d (j_cr l0 12) (j_setI (j_setI (j_setI σ l0 0 0) l0 6 0) l0 10 0))).bind fun σ1 => some (none, σ1))))))) := (db_eq _ _ _ _ _ _ _).trans rfl
noncomputable def b_Te_isPerson_0 (d : Nat) (l0 : Nat) (l1 : Int32) (σ : jS) : jR := db (jd jMT d) 2 k_Te_isPerson 0 [(0, .ref l0), (1, .int l1)] [] σ
theorem e_Te_isPerson (d : Nat) (l0 : Nat) (l1 : Int32) (σ : jS) : g_Te_isPerson (d + 1) l0 l1 σ = b_Te_isPerson_0 d l0 l1 σ := rfl
set_option maxRecDepth 100000 in
theorem q_Te_isPerson_0 (d : Nat) (l0 : Nat) (l1 : Int32) (σ : jS) : b_Te_isPerson_0 d l0 l1 σ = (jc (j_is 6 l0) ((r_I (g_HH_within d l1 0 ((σ.1 l0 0) - 1) σ)).bind fun q1 => if q1.1 = 0 ∨ q1.1 = 1 then some (some (.int q1.1), q1.2) else none)) := (db_eq _ _ _ _ _ _ _).trans rfl
noncomputable def b_Te_personNamed_0 (d : Nat) (l0 : Nat) (l1 : Int32) (σ : jS) : jR := db (jd jMT d) 1 k_Te_personNamed 0 [(0, .ref l0), (1, .int l1)] [] σ
theorem e_Te_personNamed (d : Nat) (l0 : Nat) (l1 : Int32) (σ : jS) : g_Te_personNamed (d + 1) l0 l1 σ = b_Te_personNamed_0 d l0 l1 σ := rfl
set_option maxRecDepth 100000 in
theorem q_Te_personNamed_0 (d : Nat) (l0 : Nat) (l1 : Int32) (σ : jS) : b_Te_personNamed_0 d l0 l1 σ = (jc (j_is 6 l0) (jc (j_is 6 l0) ((r_I (g_Te_placeOf d l1 (j_cr l0 1) (σ.1 l0 0) σ)).bind fun q1 => some (some (.int q1.1), q1.2)))) := (db_eq _ _ _ _ _ _ _).trans rfl
noncomputable def b_Te_mayNamed_0 (d : Nat) (l0 : Nat) (l1 : Int32) (σ : jS) : jR := db (jd jMT d) 1 k_Te_mayNamed 0 [(0, .ref l0), (1, .int l1)] [] σ
theorem e_Te_mayNamed (d : Nat) (l0 : Nat) (l1 : Int32) (σ : jS) : g_Te_mayNamed (d + 1) l0 l1 σ = b_Te_mayNamed_0 d l0 l1 σ := rfl
set_option maxRecDepth 100000 in
theorem q_Te_mayNamed_0 (d : Nat) (l0 : Nat) (l1 : Int32) (σ : jS) : b_Te_mayNamed_0 d l0 l1 σ = (jc (j_is 6 l0) (jc (j_is 6 l0) ((r_I (g_Te_placeOf d l1 (j_cr l0 11) (σ.1 l0 10) σ)).bind fun q1 => some (some (.int q1.1), q1.2)))) := (db_eq _ _ _ _ _ _ _).trans rfl
noncomputable def b_Te_placeOf_0 (d : Nat) (l0 : Int32) (l1 : Nat) (l2 : Int32) (σ : jS) : jR := db (jd jMT d) 1 k_Te_placeOf 0 [(0, .int l0), (1, .ref l1), (2, .int l2)] [] σ
noncomputable def b_Te_placeOf_1 (d : Nat) (l0 : Int32) (l1 : Nat) (l2 : Int32) (l3 : Int32) (σ : jS) : jR := db (jd jMT d) 1 k_Te_placeOf 1 [(0, .int l0), (1, .ref l1), (2, .int l2), (3, .int l3)] [] σ
noncomputable def b_Te_placeOf_2 (d : Nat) (l0 : Int32) (l1 : Nat) (l2 : Int32) (l3 : Int32) (σ : jS) : jR := db (jd jMT d) 1 k_Te_placeOf 2 [(0, .int l0), (1, .ref l1), (2, .int l2), (3, .int l3)] [] σ
noncomputable def b_Te_placeOf_3 (d : Nat) (σ : jS) : jR := db (jd jMT d) 1 k_Te_placeOf 3 [] [] σ
theorem e_Te_placeOf (d : Nat) (l0 : Int32) (l1 : Nat) (l2 : Int32) (σ : jS) : g_Te_placeOf (d + 1) l0 l1 l2 σ = b_Te_placeOf_0 d l0 l1 l2 σ := rfl
set_option maxRecDepth 100000 in
theorem q_Te_placeOf_0 (d : Nat) (l0 : Int32) (l1 : Nat) (l2 : Int32) (σ : jS) : b_Te_placeOf_0 d l0 l1 l2 σ = (b_Te_placeOf_1 d l0 l1 l2 0 σ) := (db_eq _ _ _ _ _ _ _).trans rfl
set_option maxRecDepth 100000 in
theorem q_Te_placeOf_1 (d : Nat) (l0 : Int32) (l1 : Nat) (l2 : Int32) (l3 : Int32) (σ : jS) : b_Te_placeOf_1 d l0 l1 l2 l3 σ = (jif (l2 ≤ l3) (b_Te_placeOf_3 d σ) ((j_len 0 l1).bind fun n1 => jif ((Int32.ofNat n1) ≤ l3) (b_Te_placeOf_3 d σ) ((j_rdI 0 σ l1 l3).bind fun x2 => jif (x2 = l0) (some (some (.int l3), σ)) (b_Te_placeOf_2 d l0 l1 l2 l3 σ)))) := (db_eq _ _ _ _ _ _ _).trans rfl
set_option maxRecDepth 100000 in
theorem q_Te_placeOf_2 (d : Nat) (l0 : Int32) (l1 : Nat) (l2 : Int32) (l3 : Int32) (σ : jS) : b_Te_placeOf_2 d l0 l1 l2 l3 σ = (b_Te_placeOf_1 d l0 l1 l2 (l3 + 1) σ) := (db_eq _ _ _ _ _ _ _).trans rfl
set_option maxRecDepth 100000 in
theorem q_Te_placeOf_3 (d : Nat) (σ : jS) : b_Te_placeOf_3 d σ = (some (some (.int (-1)), σ)) := (db_eq _ _ _ _ _ _ _).trans rfl
noncomputable def b_Te_addPerson_0 (d : Nat) (l0 : Nat) (l1 : Int32) (l2 : Int32) (σ : jS) : jR := db (jd jMT d) 0 k_Te_addPerson 0 [(0, .ref l0), (1, .int l1), (2, .int l2)] [] σ
noncomputable def b_Te_addPerson_1 (d : Nat) (σ : jS) : jR := db (jd jMT d) 0 k_Te_addPerson 1 [] [] σ
theorem e_Te_addPerson (d : Nat) (l0 : Nat) (l1 : Int32) (l2 : Int32) (σ : jS) : g_Te_addPerson (d + 1) l0 l1 l2 σ = b_Te_addPerson_0 d l0 l1 l2 σ := rfl
set_option maxRecDepth 100000 in
theorem q_Te_addPerson_0 (d : Nat) (l0 : Nat) (l1 : Int32) (l2 : Int32) (σ : jS) : b_Te_addPerson_0 d l0 l1 l2 σ = (jc (j_is 6 l0) (jif (10 ≤ (σ.1 l0 0)) (b_Te_addPerson_1 d σ) (jc (j_is 6 l0) (jc (j_is 6 l0) ((j_wrI σ (j_cr l0 1) (σ.1 l0 0) l1).bind fun σ1 => jc (j_is 6 l0) (jc (j_is 6 l0) ((j_wrI σ1 (j_cr l0 2) (σ1.1 l0 0) l2).bind fun σ2 => jc (j_is 6 l0) (jc (j_is 6 l0) ((j_wrI σ2 (j_cr l0 3) (σ2.1 l0 0) 0).bind fun σ3 => jc (j_is 6 l0) (jc (j_is 6 l0) ((j_wrI σ3 (j_cr l0 4) (σ3.1 l0 0) 0).bind fun σ4 => jc (j_is 6 l0) (jc (j_is 6 l0) (b_Te_addPerson_1 d (j_setI σ4 l0 0 ((σ4.1 l0 0) + 1))))))))))))))) := (db_eq _ _ _ _ _ _ _).trans rfl
set_option maxRecDepth 100000 in
theorem q_Te_addPerson_1 (d : Nat) (σ : jS) : b_Te_addPerson_1 d σ = (some (none, σ)) := (db_eq _ _ _ _ _ _ _).trans rfl
noncomputable def b_Te_addHeir_0 (d : Nat) (l0 : Nat) (l1 : Int32) (l2 : Int32) (σ : jS) : jR := db (jd jMT d) 0 k_Te_addHeir 0 [(0, .ref l0), (1, .int l1), (2, .int l2)] [] σ
noncomputable def b_Te_addHeir_1 (d : Nat) (σ : jS) : jR := db (jd jMT d) 0 k_Te_addHeir 1 [] [] σ
theorem e_Te_addHeir (d : Nat) (l0 : Nat) (l1 : Int32) (l2 : Int32) (σ : jS) : g_Te_addHeir (d + 1) l0 l1 l2 σ = b_Te_addHeir_0 d l0 l1 l2 σ := rfl
set_option maxRecDepth 100000 in
theorem q_Te_addHeir_0 (d : Nat) (l0 : Nat) (l1 : Int32) (l2 : Int32) (σ : jS) : b_Te_addHeir_0 d l0 l1 l2 σ = (jc (j_is 6 l0) ((j_rdI 0 σ (j_cr l0 4) l1).bind fun x1 => jif (3 ≤ x1) (b_Te_addHeir_1 d σ) (jc (j_is 6 l0) (jc (j_is 6 l0) ((j_rdI 0 σ (j_cr l0 4) l1).bind fun x2 => (j_wrI σ (j_cr l0 5) ((l1 * 3) + x2) l2).bind fun σ3 => jc (j_is 6 l0) ((j_rdI 0 σ3 (j_cr l0 4) l1).bind fun x4 => (j_wrI σ3 (j_cr l0 4) l1 (x4 + 1)).bind fun σ5 => b_Te_addHeir_1 d σ5)))))) := (db_eq _ _ _ _ _ _ _).trans rfl
set_option maxRecDepth 100000 in
theorem q_Te_addHeir_1 (d : Nat) (σ : jS) : b_Te_addHeir_1 d σ = (some (none, σ)) := (db_eq _ _ _ _ _ _ _).trans rfl
noncomputable def b_Te_addParcel_0 (d : Nat) (l0 : Nat) (l1 : Int32) (l2 : Int32) (l3 : Int32) (σ : jS) : jR := db (jd jMT d) 0 k_Te_addParcel 0 [(0, .ref l0), (1, .int l1), (2, .int l2), (3, .int l3)] [] σ
noncomputable def b_Te_addParcel_1 (d : Nat) (σ : jS) : jR := db (jd jMT d) 0 k_Te_addParcel 1 [] [] σ
theorem e_Te_addParcel (d : Nat) (l0 : Nat) (l1 : Int32) (l2 : Int32) (l3 : Int32) (σ : jS) : g_Te_addParcel (d + 1) l0 l1 l2 l3 σ = b_Te_addParcel_0 d l0 l1 l2 l3 σ := rfl
set_option maxRecDepth 100000 in
theorem q_Te_addParcel_0 (d : Nat) (l0 : Nat) (l1 : Int32) (l2 : Int32) (l3 : Int32) (σ : jS) : b_Te_addParcel_0 d l0 l1 l2 l3 σ = (jc (j_is 6 l0) (jif (12 ≤ (σ.1 l0 6)) (b_Te_addParcel_1 d σ) (jc (j_is 6 l0) (jc (j_is 6 l0) ((j_wrI σ (j_cr l0 7) (σ.1 l0 6) l1).bind fun σ1 => jc (j_is 6 l0) (jc (j_is 6 l0) ((j_wrI σ1 (j_cr l0 8) (σ1.1 l0 6) l2).bind fun σ2 => jc (j_is 6 l0) (jc (j_is 6 l0) ((j_wrI σ2 (j_cr l0 9) (σ2.1 l0 6) l3).bind fun σ3 => jc (j_is 6 l0) (jc (j_is 6 l0) (b_Te_addParcel_1 d (j_setI σ3 l0 6 ((σ3.1 l0 6) + 1))))))))))))) := (db_eq _ _ _ _ _ _ _).trans rfl
set_option maxRecDepth 100000 in
theorem q_Te_addParcel_1 (d : Nat) (σ : jS) : b_Te_addParcel_1 d σ = (some (none, σ)) := (db_eq _ _ _ _ _ _ _).trans rfl
noncomputable def b_Te_addMay_0 (d : Nat) (l0 : Nat) (l1 : Int32) (σ : jS) : jR := db (jd jMT d) 0 k_Te_addMay 0 [(0, .ref l0), (1, .int l1)] [] σ
noncomputable def b_Te_addMay_1 (d : Nat) (σ : jS) : jR := db (jd jMT d) 0 k_Te_addMay 1 [] [] σ
theorem e_Te_addMay (d : Nat) (l0 : Nat) (l1 : Int32) (σ : jS) : g_Te_addMay (d + 1) l0 l1 σ = b_Te_addMay_0 d l0 l1 σ := rfl
set_option maxRecDepth 100000 in
theorem q_Te_addMay_0 (d : Nat) (l0 : Nat) (l1 : Int32) (σ : jS) : b_Te_addMay_0 d l0 l1 σ = (jc (j_is 6 l0) (jif (4 ≤ (σ.1 l0 10)) (b_Te_addMay_1 d σ) (jc (j_is 6 l0) (jc (j_is 6 l0) ((j_wrI σ (j_cr l0 11) (σ.1 l0 10) l1).bind fun σ1 => jc (j_is 6 l0) (jc (j_is 6 l0) (b_Te_addMay_1 d (j_setI σ1 l0 10 ((σ1.1 l0 10) + 1))))))))) := (db_eq _ _ _ _ _ _ _).trans rfl
set_option maxRecDepth 100000 in
theorem q_Te_addMay_1 (d : Nat) (σ : jS) : b_Te_addMay_1 d σ = (some (none, σ)) := (db_eq _ _ _ _ _ _ _).trans rfl
noncomputable def b_Te_heir_0 (d : Nat) (l0 : Nat) (l1 : Int32) (l2 : Int32) (σ : jS) : jR := db (jd jMT d) 1 k_Te_heir 0 [(0, .ref l0), (1, .int l1), (2, .int l2)] [] σ
noncomputable def b_Te_heir_1 (d : Nat) (σ : jS) : jR := db (jd jMT d) 1 k_Te_heir 1 [] [] σ
noncomputable def b_Te_heir_2 (d : Nat) (s0 : Int32) (σ : jS) : jR := db (jd jMT d) 1 k_Te_heir 2 [] [.int s0] σ
theorem e_Te_heir (d : Nat) (l0 : Nat) (l1 : Int32) (l2 : Int32) (σ : jS) : g_Te_heir (d + 1) l0 l1 l2 σ = b_Te_heir_0 d l0 l1 l2 σ := rfl
set_option maxRecDepth 100000 in
theorem q_Te_heir_0 (d : Nat) (l0 : Nat) (l1 : Int32) (l2 : Int32) (σ : jS) : b_Te_heir_0 d l0 l1 l2 σ = (jc (j_is 6 l0) ((j_rdI 0 σ (j_cr l0 4) l1).bind fun x1 => (r_I (g_HH_within d l2 0 (x1 - 1) σ)).bind fun q2 => jif (q2.1 = 0) (b_Te_heir_1 d q2.2) (jc (j_is 6 l0) ((j_rdI 0 q2.2 (j_cr l0 5) ((l1 * 3) + l2)).bind fun x3 => b_Te_heir_2 d x3 q2.2)))) := (db_eq _ _ _ _ _ _ _).trans rfl
set_option maxRecDepth 100000 in
theorem q_Te_heir_1 (d : Nat) (σ : jS) : b_Te_heir_1 d σ = (b_Te_heir_2 d (-1) σ) := (db_eq _ _ _ _ _ _ _).trans rfl
set_option maxRecDepth 100000 in
theorem q_Te_heir_2 (d : Nat) (s0 : Int32) (σ : jS) : b_Te_heir_2 d s0 σ = (some (some (.int s0), σ)) := (db_eq _ _ _ _ _ _ _).trans rfl
noncomputable def b_Te_handsTo_0 (d : Nat) (l0 : Nat) (l1 : Int32) (l2 : Int32) (σ : jS) : jR := db (jd jMT d) 2 k_Te_handsTo 0 [(0, .ref l0), (1, .int l1), (2, .int l2)] [] σ
noncomputable def b_Te_handsTo_1 (d : Nat) (l0 : Nat) (l1 : Int32) (l2 : Int32) (l3 : Int32) (σ : jS) : jR := db (jd jMT d) 2 k_Te_handsTo 1 [(0, .ref l0), (1, .int l1), (2, .int l2), (3, .int l3)] [] σ
noncomputable def b_Te_handsTo_2 (d : Nat) (l0 : Nat) (l1 : Int32) (l2 : Int32) (l3 : Int32) (σ : jS) : jR := db (jd jMT d) 2 k_Te_handsTo 2 [(0, .ref l0), (1, .int l1), (2, .int l2), (3, .int l3)] [] σ
noncomputable def b_Te_handsTo_3 (d : Nat) (σ : jS) : jR := db (jd jMT d) 2 k_Te_handsTo 3 [] [] σ
theorem e_Te_handsTo (d : Nat) (l0 : Nat) (l1 : Int32) (l2 : Int32) (σ : jS) : g_Te_handsTo (d + 1) l0 l1 l2 σ = b_Te_handsTo_0 d l0 l1 l2 σ := rfl
set_option maxRecDepth 100000 in
theorem q_Te_handsTo_0 (d : Nat) (l0 : Nat) (l1 : Int32) (l2 : Int32) (σ : jS) : b_Te_handsTo_0 d l0 l1 l2 σ = (b_Te_handsTo_1 d l0 l1 l2 0 σ) := (db_eq _ _ _ _ _ _ _).trans rfl
set_option maxRecDepth 100000 in
theorem q_Te_handsTo_1 (d : Nat) (l0 : Nat) (l1 : Int32) (l2 : Int32) (l3 : Int32) (σ : jS) : b_Te_handsTo_1 d l0 l1 l2 l3 σ = (jc (j_is 6 l0) ((j_rdI 0 σ (j_cr l0 4) l1).bind fun x1 => jif (x1 ≤ l3) (b_Te_handsTo_3 d σ) (jc (j_is 6 l0) ((r_I (g_Te_heir d l0 l1 l3 σ)).bind fun q2 => jif (q2.1 = l2) (some (some (.int 1), q2.2)) (b_Te_handsTo_2 d l0 l1 l2 l3 q2.2))))) := (db_eq _ _ _ _ _ _ _).trans rfl
set_option maxRecDepth 100000 in
theorem q_Te_handsTo_2 (d : Nat) (l0 : Nat) (l1 : Int32) (l2 : Int32) (l3 : Int32) (σ : jS) : b_Te_handsTo_2 d l0 l1 l2 l3 σ = (b_Te_handsTo_1 d l0 l1 l2 (l3 + 1) σ) := (db_eq _ _ _ _ _ _ _).trans rfl
set_option maxRecDepth 100000 in
theorem q_Te_handsTo_3 (d : Nat) (σ : jS) : b_Te_handsTo_3 d σ = (some (some (.int 0), σ)) := (db_eq _ _ _ _ _ _ _).trans rfl
noncomputable def b_Tk_isName_0 (d : Nat) (l0 : Int32) (σ : jS) : jR := db (jd jMT d) 2 k_Tk_isName 0 [(0, .int l0)] [] σ
theorem e_Tk_isName (d : Nat) (l0 : Int32) (σ : jS) : g_Tk_isName (d + 1) l0 σ = b_Tk_isName_0 d l0 σ := rfl
set_option maxRecDepth 100000 in
theorem q_Tk_isName_0 (d : Nat) (l0 : Int32) (σ : jS) : b_Tk_isName_0 d l0 σ = ((r_I (g_HH_within d l0 0 5 σ)).bind fun q1 => if q1.1 = 0 ∨ q1.1 = 1 then some (some (.int q1.1), q1.2) else none) := (db_eq _ _ _ _ _ _ _).trans rfl
noncomputable def b_Tk_isComparison_0 (d : Nat) (l0 : Int32) (σ : jS) : jR := db (jd jMT d) 2 k_Tk_isComparison 0 [(0, .int l0)] [] σ
noncomputable def b_Tk_isComparison_1 (d : Nat) (σ : jS) : jR := db (jd jMT d) 2 k_Tk_isComparison 1 [] [] σ
noncomputable def b_Tk_isComparison_2 (d : Nat) (σ : jS) : jR := db (jd jMT d) 2 k_Tk_isComparison 2 [] [] σ
noncomputable def b_Tk_isComparison_3 (d : Nat) (s0 : Int32) (σ : jS) : jR := db (jd jMT d) 2 k_Tk_isComparison 3 [] [.int s0] σ
theorem e_Tk_isComparison (d : Nat) (l0 : Int32) (σ : jS) : g_Tk_isComparison (d + 1) l0 σ = b_Tk_isComparison_0 d l0 σ := rfl
set_option maxRecDepth 100000 in
theorem q_Tk_isComparison_0 (d : Nat) (l0 : Int32) (σ : jS) : b_Tk_isComparison_0 d l0 σ = ((r_I (g_HH_within d l0 60 62 σ)).bind fun q1 => jif (q1.1 = 0) ((r_I (g_HH_within d l0 256 258 q1.2)).bind fun q2 => jif (q2.1 = 0) (b_Tk_isComparison_2 d q2.2) (b_Tk_isComparison_1 d q2.2)) (b_Tk_isComparison_1 d q1.2)) := (db_eq _ _ _ _ _ _ _).trans rfl
set_option maxRecDepth 100000 in
theorem q_Tk_isComparison_1 (d : Nat) (σ : jS) : b_Tk_isComparison_1 d σ = (b_Tk_isComparison_3 d 1 σ) := (db_eq _ _ _ _ _ _ _).trans rfl
set_option maxRecDepth 100000 in
theorem q_Tk_isComparison_2 (d : Nat) (σ : jS) : b_Tk_isComparison_2 d σ = (b_Tk_isComparison_3 d 0 σ) := (db_eq _ _ _ _ _ _ _).trans rfl
set_option maxRecDepth 100000 in
theorem q_Tk_isComparison_3 (d : Nat) (s0 : Int32) (σ : jS) : b_Tk_isComparison_3 d s0 σ = (if s0 = 0 ∨ s0 = 1 then some (some (.int s0), σ) else none) := (db_eq _ _ _ _ _ _ _).trans rfl
noncomputable def b_Tk_begin_0 (d : Nat) (l1 : Int32) (σ : jS) : jR := db (jd jMT d) 0 k_Tk_begin 0 [(0, .ref 37), (1, .int l1)] [] σ
theorem e_Tk_begin (d : Nat) (l1 : Int32) (σ : jS) : g_Tk_begin (d + 1) l1 σ = b_Tk_begin_0 d l1 σ := rfl
set_option maxRecDepth 100000 in
theorem q_Tk_begin_0 (d : Nat) (l1 : Int32) (σ : jS) : b_Tk_begin_0 d l1 σ = ((r_V (g_Tk_advance d (j_setI (j_setI σ 37 4 (if (700 : Int32) < l1 then 700 else l1)) 37 3 0))).bind fun σ1 => some (none, σ1)) := (db_eq _ _ _ _ _ _ _).trans rfl
noncomputable def b_Tk_advance_0 (d : Nat) (σ : jS) : jR := db (jd jMT d) 0 k_Tk_advance 0 [(0, .ref 37)] [] σ
noncomputable def b_Tk_advance_1 (d : Nat) (σ : jS) : jR := db (jd jMT d) 0 k_Tk_advance 1 [(0, .ref 37)] [] σ
noncomputable def b_Tk_advance_2 (d : Nat) (σ : jS) : jR := db (jd jMT d) 0 k_Tk_advance 2 [(0, .ref 37)] [] σ
noncomputable def b_Tk_advance_3 (d : Nat) (σ : jS) : jR := db (jd jMT d) 0 k_Tk_advance 3 [(0, .ref 37)] [] σ
noncomputable def b_Tk_advance_4 (d : Nat) (σ : jS) : jR := db (jd jMT d) 0 k_Tk_advance 4 [(0, .ref 37)] [] σ
noncomputable def b_Tk_advance_5 (d : Nat) (σ : jS) : jR := db (jd jMT d) 0 k_Tk_advance 5 [(0, .ref 37)] [] σ
noncomputable def b_Tk_advance_6 (d : Nat) (σ : jS) : jR := db (jd jMT d) 0 k_Tk_advance 6 [(0, .ref 37)] [] σ
noncomputable def b_Tk_advance_7 (d : Nat) (σ : jS) : jR := db (jd jMT d) 0 k_Tk_advance 7 [] [] σ
theorem e_Tk_advance (d : Nat) (σ : jS) : g_Tk_advance (d + 1) σ = b_Tk_advance_0 d σ := rfl
set_option maxRecDepth 100000 in
theorem q_Tk_advance_0 (d : Nat) (σ : jS) : b_Tk_advance_0 d σ = (b_Tk_advance_1 d (j_setI σ 37 1 (σ.1 37 3))) := (db_eq _ _ _ _ _ _ _).trans rfl
set_option maxRecDepth 100000 in
theorem q_Tk_advance_1 (d : Nat) (σ : jS) : b_Tk_advance_1 d σ = (jif ((σ.1 37 4) ≤ (σ.1 37 1)) (b_Tk_advance_3 d σ) ((j_rdI 0 σ 1 (σ.1 37 1)).bind fun x1 => jif (x1 = 32) (b_Tk_advance_2 d σ) ((j_rdI 0 σ 1 (σ.1 37 1)).bind fun x2 => jif (x2 = 10) (b_Tk_advance_2 d σ) (b_Tk_advance_3 d σ)))) := (db_eq _ _ _ _ _ _ _).trans rfl
set_option maxRecDepth 100000 in
theorem q_Tk_advance_2 (d : Nat) (σ : jS) : b_Tk_advance_2 d σ = (b_Tk_advance_1 d (j_setI σ 37 1 ((σ.1 37 1) + 1))) := (db_eq _ _ _ _ _ _ _).trans rfl
set_option maxRecDepth 100000 in
theorem q_Tk_advance_3 (d : Nat) (σ : jS) : b_Tk_advance_3 d σ = (jif (((j_setI σ 37 3 (σ.1 37 1)).1 37 1) < ((j_setI σ 37 3 (σ.1 37 1)).1 37 4)) (b_Tk_advance_4 d (j_setI σ 37 3 (σ.1 37 1))) (b_Tk_advance_7 d (j_setI (j_setI σ 37 3 (σ.1 37 1)) 37 0 18))) := (db_eq _ _ _ _ _ _ _).trans rfl
set_option maxRecDepth 100000 in
theorem q_Tk_advance_4 (d : Nat) (σ : jS) : b_Tk_advance_4 d σ = ((j_rdI 0 σ 1 (σ.1 37 1)).bind fun x1 => (r_I (g_HH_within d x1 97 122 σ)).bind fun q2 => jif (q2.1 = 0) (b_Tk_advance_5 d q2.2) ((r_V (g_Tk_readWord d q2.2)).bind fun σ3 => b_Tk_advance_7 d σ3)) := (db_eq _ _ _ _ _ _ _).trans rfl
set_option maxRecDepth 100000 in
theorem q_Tk_advance_5 (d : Nat) (σ : jS) : b_Tk_advance_5 d σ = ((j_rdI 0 σ 1 (σ.1 37 1)).bind fun x1 => (r_I (g_HH_within d x1 48 57 σ)).bind fun q2 => jif (q2.1 = 0) (b_Tk_advance_6 d q2.2) ((r_V (g_Tk_readNumber d q2.2)).bind fun σ3 => b_Tk_advance_7 d σ3)) := (db_eq _ _ _ _ _ _ _).trans rfl
set_option maxRecDepth 100000 in
theorem q_Tk_advance_6 (d : Nat) (σ : jS) : b_Tk_advance_6 d σ = ((r_V (g_Tk_readSign d σ)).bind fun σ1 => b_Tk_advance_7 d σ1) := (db_eq _ _ _ _ _ _ _).trans rfl
set_option maxRecDepth 100000 in
theorem q_Tk_advance_7 (d : Nat) (σ : jS) : b_Tk_advance_7 d σ = (some (none, σ)) := (db_eq _ _ _ _ _ _ _).trans rfl
noncomputable def b_Tk_readWord_0 (d : Nat) (σ : jS) : jR := db (jd jMT d) 0 k_Tk_readWord 0 [(0, .ref 37)] [] σ
noncomputable def b_Tk_readWord_1 (d : Nat) (σ : jS) : jR := db (jd jMT d) 0 k_Tk_readWord 1 [(0, .ref 37)] [] σ
noncomputable def b_Tk_readWord_2 (d : Nat) (σ : jS) : jR := db (jd jMT d) 0 k_Tk_readWord 2 [(0, .ref 37)] [] σ
noncomputable def b_Tk_readWord_3 (d : Nat) (l1 : Int32) (σ : jS) : jR := db (jd jMT d) 0 k_Tk_readWord 3 [(0, .ref 37), (1, .int l1)] [] σ
noncomputable def b_Tk_readWord_4 (d : Nat) (l2 : Int32) (σ : jS) : jR := db (jd jMT d) 0 k_Tk_readWord 4 [(0, .ref 37), (2, .int l2)] [] σ
noncomputable def b_Tk_readWord_5 (d : Nat) (l2 : Int32) (σ : jS) : jR := db (jd jMT d) 0 k_Tk_readWord 5 [(0, .ref 37), (2, .int l2)] [] σ
noncomputable def b_Tk_readWord_6 (d : Nat) (σ : jS) : jR := db (jd jMT d) 0 k_Tk_readWord 6 [] [] σ
theorem e_Tk_readWord (d : Nat) (σ : jS) : g_Tk_readWord (d + 1) σ = b_Tk_readWord_0 d σ := rfl
set_option maxRecDepth 100000 in
theorem q_Tk_readWord_0 (d : Nat) (σ : jS) : b_Tk_readWord_0 d σ = (b_Tk_readWord_1 d (j_setI σ 37 2 0)) := (db_eq _ _ _ _ _ _ _).trans rfl
set_option maxRecDepth 100000 in
theorem q_Tk_readWord_1 (d : Nat) (σ : jS) : b_Tk_readWord_1 d σ = (jif ((σ.1 37 4) ≤ (σ.1 37 3)) (b_Tk_readWord_2 d σ) ((j_rdI 0 σ 1 (σ.1 37 3)).bind fun x1 => jif (x1 < 97) (b_Tk_readWord_2 d σ) ((j_rdI 0 σ 1 (σ.1 37 3)).bind fun x2 => jif (122 < x2) (b_Tk_readWord_2 d σ) ((j_rdI 0 σ 1 (σ.1 37 3)).bind fun x3 => b_Tk_readWord_1 d (j_setI (j_setI σ 37 2 ((((σ.1 37 2) : Int32) <<< ((5 : Int32) &&& 31)) ||| ((x3 - 97) + 1))) 37 3 (((j_setI σ 37 2 ((((σ.1 37 2) : Int32) <<< ((5 : Int32) &&& 31)) ||| ((x3 - 97) + 1))).1 37 3) + 1)))))) := (db_eq _ _ _ _ _ _ _).trans rfl
set_option maxRecDepth 100000 in
theorem q_Tk_readWord_2 (d : Nat) (σ : jS) : b_Tk_readWord_2 d σ = (jif (((σ.1 37 3) - (σ.1 37 1)) ≤ 6) (b_Tk_readWord_3 d ((σ.1 37 3) - (σ.1 37 1)) σ) (some (none, (j_setI σ 37 0 19)))) := (db_eq _ _ _ _ _ _ _).trans rfl
set_option maxRecDepth 100000 in
theorem q_Tk_readWord_3 (d : Nat) (l1 : Int32) (σ : jS) : b_Tk_readWord_3 d l1 σ = (b_Tk_readWord_4 d 0 (j_setI (j_setI σ 37 2 (((σ.1 37 2) : Int32) <<< (((5 * (6 - l1)) : Int32) &&& 31))) 37 0 16)) := (db_eq _ _ _ _ _ _ _).trans rfl
set_option maxRecDepth 100000 in
theorem q_Tk_readWord_4 (d : Nat) (l2 : Int32) (σ : jS) : b_Tk_readWord_4 d l2 σ = (jif (16 ≤ l2) (b_Tk_readWord_6 d σ) ((j_rdI 0 σ 38 l2).bind fun x1 => jif (x1 = (σ.1 37 2)) (b_Tk_readWord_5 d l2 (j_setI σ 37 0 l2)) (b_Tk_readWord_5 d l2 σ))) := (db_eq _ _ _ _ _ _ _).trans rfl
set_option maxRecDepth 100000 in
theorem q_Tk_readWord_5 (d : Nat) (l2 : Int32) (σ : jS) : b_Tk_readWord_5 d l2 σ = (b_Tk_readWord_4 d (l2 + 1) σ) := (db_eq _ _ _ _ _ _ _).trans rfl
set_option maxRecDepth 100000 in
theorem q_Tk_readWord_6 (d : Nat) (σ : jS) : b_Tk_readWord_6 d σ = (some (none, σ)) := (db_eq _ _ _ _ _ _ _).trans rfl
noncomputable def b_Tk_readNumber_0 (d : Nat) (σ : jS) : jR := db (jd jMT d) 0 k_Tk_readNumber 0 [(0, .ref 37)] [] σ
noncomputable def b_Tk_readNumber_1 (d : Nat) (σ : jS) : jR := db (jd jMT d) 0 k_Tk_readNumber 1 [(0, .ref 37)] [] σ
noncomputable def b_Tk_readNumber_2 (d : Nat) (σ : jS) : jR := db (jd jMT d) 0 k_Tk_readNumber 2 [] [] σ
theorem e_Tk_readNumber (d : Nat) (σ : jS) : g_Tk_readNumber (d + 1) σ = b_Tk_readNumber_0 d σ := rfl
set_option maxRecDepth 100000 in
theorem q_Tk_readNumber_0 (d : Nat) (σ : jS) : b_Tk_readNumber_0 d σ = (b_Tk_readNumber_1 d (j_setI (j_setI σ 37 0 17) 37 2 0)) := (db_eq _ _ _ _ _ _ _).trans rfl
set_option maxRecDepth 100000 in
theorem q_Tk_readNumber_1 (d : Nat) (σ : jS) : b_Tk_readNumber_1 d σ = (jif ((σ.1 37 4) ≤ (σ.1 37 3)) (b_Tk_readNumber_2 d σ) ((j_rdI 0 σ 1 (σ.1 37 3)).bind fun x1 => jif (x1 < 48) (b_Tk_readNumber_2 d σ) ((j_rdI 0 σ 1 (σ.1 37 3)).bind fun x2 => jif (57 < x2) (b_Tk_readNumber_2 d σ) ((j_rdI 0 σ 1 (σ.1 37 3)).bind fun x3 => b_Tk_readNumber_1 d (j_setI (j_setI σ 37 2 (if (1000000 : Int32) < ((((σ.1 37 2) * 10) + x3) - 48) then 1000000 else ((((σ.1 37 2) * 10) + x3) - 48))) 37 3 (((j_setI σ 37 2 (if (1000000 : Int32) < ((((σ.1 37 2) * 10) + x3) - 48) then 1000000 else ((((σ.1 37 2) * 10) + x3) - 48))).1 37 3) + 1)))))) := (db_eq _ _ _ _ _ _ _).trans rfl
set_option maxRecDepth 100000 in
theorem q_Tk_readNumber_2 (d : Nat) (σ : jS) : b_Tk_readNumber_2 d σ = (some (none, σ)) := (db_eq _ _ _ _ _ _ _).trans rfl
noncomputable def b_Tk_readSign_0 (d : Nat) (σ : jS) : jR := db (jd jMT d) 0 k_Tk_readSign 0 [(0, .ref 37)] [] σ
noncomputable def b_Tk_readSign_1 (d : Nat) (l1 : Int32) (σ : jS) : jR := db (jd jMT d) 0 k_Tk_readSign 1 [(0, .ref 37), (1, .int l1)] [.ref 37] σ
noncomputable def b_Tk_readSign_2 (d : Nat) (l1 : Int32) (s1 : Int32) (σ : jS) : jR := db (jd jMT d) 0 k_Tk_readSign 2 [(0, .ref 37), (1, .int l1)] [.int s1, .ref 37] σ
noncomputable def b_Tk_readSign_3 (d : Nat) (l1 : Int32) (σ : jS) : jR := db (jd jMT d) 0 k_Tk_readSign 3 [(0, .ref 37), (1, .int l1)] [] σ
noncomputable def b_Tk_readSign_4 (d : Nat) (l1 : Int32) (s0 : Int32) (σ : jS) : jR := db (jd jMT d) 0 k_Tk_readSign 4 [(0, .ref 37), (1, .int l1)] [.int s0] σ
noncomputable def b_Tk_readSign_5 (d : Nat) (l1 : Int32) (l2 : Int32) (σ : jS) : jR := db (jd jMT d) 0 k_Tk_readSign 5 [(0, .ref 37), (1, .int l1), (2, .int l2)] [] σ
noncomputable def b_Tk_readSign_6 (d : Nat) (l1 : Int32) (l2 : Int32) (σ : jS) : jR := db (jd jMT d) 0 k_Tk_readSign 6 [(0, .ref 37), (1, .int l1), (2, .int l2)] [] σ
noncomputable def b_Tk_readSign_7 (d : Nat) (σ : jS) : jR := db (jd jMT d) 0 k_Tk_readSign 7 [] [] σ
theorem e_Tk_readSign (d : Nat) (σ : jS) : g_Tk_readSign (d + 1) σ = b_Tk_readSign_0 d σ := rfl
set_option maxRecDepth 100000 in
theorem q_Tk_readSign_0 (d : Nat) (σ : jS) : b_Tk_readSign_0 d σ = ((j_rdI 0 σ 1 (σ.1 37 1)).bind fun x1 => (j_str 1001).bind fun z2 => jif (0 ≤ (j_idx (Int32.toUInt32 x1 % 65536).toInt32 z2 0)) (b_Tk_readSign_1 d x1 σ) (b_Tk_readSign_2 d x1 19 σ)) := (db_eq _ _ _ _ _ _ _).trans rfl
set_option maxRecDepth 100000 in
theorem q_Tk_readSign_1 (d : Nat) (l1 : Int32) (σ : jS) : b_Tk_readSign_1 d l1 σ = (b_Tk_readSign_2 d l1 l1 σ) := (db_eq _ _ _ _ _ _ _).trans rfl
set_option maxRecDepth 100000 in
theorem q_Tk_readSign_2 (d : Nat) (l1 : Int32) (s1 : Int32) (σ : jS) : b_Tk_readSign_2 d l1 s1 σ = (jif (((j_setI (j_setI σ 37 0 s1) 37 3 (((j_setI σ 37 0 s1).1 37 3) + 1)).1 37 4) ≤ ((j_setI (j_setI σ 37 0 s1) 37 3 (((j_setI σ 37 0 s1).1 37 3) + 1)).1 37 3)) (b_Tk_readSign_3 d l1 (j_setI (j_setI σ 37 0 s1) 37 3 (((j_setI σ 37 0 s1).1 37 3) + 1))) ((j_rdI 0 (j_setI (j_setI σ 37 0 s1) 37 3 (((j_setI σ 37 0 s1).1 37 3) + 1)) 1 ((j_setI (j_setI σ 37 0 s1) 37 3 (((j_setI σ 37 0 s1).1 37 3) + 1)).1 37 3)).bind fun x1 => b_Tk_readSign_4 d l1 x1 (j_setI (j_setI σ 37 0 s1) 37 3 (((j_setI σ 37 0 s1).1 37 3) + 1)))) := (db_eq _ _ _ _ _ _ _).trans rfl
set_option maxRecDepth 100000 in
theorem q_Tk_readSign_3 (d : Nat) (l1 : Int32) (σ : jS) : b_Tk_readSign_3 d l1 σ = (b_Tk_readSign_4 d l1 (-1) σ) := (db_eq _ _ _ _ _ _ _).trans rfl
set_option maxRecDepth 100000 in
theorem q_Tk_readSign_4 (d : Nat) (l1 : Int32) (s0 : Int32) (σ : jS) : b_Tk_readSign_4 d l1 s0 σ = (jif (l1 = 60) (jif (s0 = 61) (b_Tk_readSign_7 d (j_setI (j_setI σ 37 0 256) 37 3 (((j_setI σ 37 0 256).1 37 3) + 1))) (b_Tk_readSign_5 d l1 s0 σ)) (b_Tk_readSign_5 d l1 s0 σ)) := (db_eq _ _ _ _ _ _ _).trans rfl
set_option maxRecDepth 100000 in
theorem q_Tk_readSign_5 (d : Nat) (l1 : Int32) (l2 : Int32) (σ : jS) : b_Tk_readSign_5 d l1 l2 σ = (jif (l1 = 60) (jif (l2 = 62) (b_Tk_readSign_7 d (j_setI (j_setI σ 37 0 257) 37 3 (((j_setI σ 37 0 257).1 37 3) + 1))) (b_Tk_readSign_6 d l1 l2 σ)) (b_Tk_readSign_6 d l1 l2 σ)) := (db_eq _ _ _ _ _ _ _).trans rfl
set_option maxRecDepth 100000 in
theorem q_Tk_readSign_6 (d : Nat) (l1 : Int32) (l2 : Int32) (σ : jS) : b_Tk_readSign_6 d l1 l2 σ = (jif (l1 = 62) (jif (l2 = 61) (b_Tk_readSign_7 d (j_setI (j_setI σ 37 0 258) 37 3 (((j_setI σ 37 0 258).1 37 3) + 1))) (b_Tk_readSign_7 d σ)) (b_Tk_readSign_7 d σ)) := (db_eq _ _ _ _ _ _ _).trans rfl
set_option maxRecDepth 100000 in
theorem q_Tk_readSign_7 (d : Nat) (σ : jS) : b_Tk_readSign_7 d σ = (some (none, σ)) := (db_eq _ _ _ _ _ _ _).trans rfl
noncomputable def b_HH_feed_0 (d : Nat) (l1 : Int32) (l2 : Int32) (l3 : Int32) (l4 : Int32) (l5 : Int32) (σ : jS) : jR := db (jd jMT d) 1 k_HH_feed 0 [(0, .ref 0), (1, .int l1), (2, .int l2), (3, .int l3), (4, .int l4), (5, .int l5)] [] σ
noncomputable def b_HH_feed_1 (d : Nat) (l1 : Int32) (l2 : Int32) (l3 : Int32) (l4 : Int32) (l5 : Int32) (σ : jS) : jR := db (jd jMT d) 1 k_HH_feed 1 [(0, .ref 0), (1, .int l1), (2, .int l2), (3, .int l3), (4, .int l4), (5, .int l5)] [] σ
theorem e_HH_feed (d : Nat) (l1 : Int32) (l2 : Int32) (l3 : Int32) (l4 : Int32) (l5 : Int32) (σ : jS) : g_HH_feed (d + 1) l1 l2 l3 l4 l5 σ = b_HH_feed_0 d l1 l2 l3 l4 l5 σ := rfl
set_option maxRecDepth 100000 in
theorem q_HH_feed_0 (d : Nat) (l1 : Int32) (l2 : Int32) (l3 : Int32) (l4 : Int32) (l5 : Int32) (σ : jS) : b_HH_feed_0 d l1 l2 l3 l4 l5 σ = (jif (((σ.1 0 1) + 20) ≤ 700) (b_HH_feed_1 d l1 l2 l3 l4 l5 σ) (some (some (.int (-1)), σ))) := (db_eq _ _ _ _ _ _ _).trans rfl
set_option maxRecDepth 100000 in
theorem q_HH_feed_1 (d : Nat) (l1 : Int32) (l2 : Int32) (l3 : Int32) (l4 : Int32) (l5 : Int32) (σ : jS) : b_HH_feed_1 d l1 l2 l3 l4 l5 σ = ((r_V (g_HH_append d l1 σ)).bind fun σ1 => (r_V (g_HH_append d l2 σ1)).bind fun σ2 => (r_V (g_HH_append d l3 σ2)).bind fun σ3 => (r_V (g_HH_append d l4 σ3)).bind fun σ4 => (r_V (g_HH_append d l5 σ4)).bind fun σ5 => some (some (.int (σ5.1 0 1)), σ5)) := (db_eq _ _ _ _ _ _ _).trans rfl
noncomputable def b_HH_append_0 (d : Nat) (l1 : Int32) (σ : jS) : jR := db (jd jMT d) 0 k_HH_append 0 [(0, .ref 0), (1, .int l1)] [] σ
noncomputable def b_HH_append_1 (d : Nat) (l1 : Int32) (l2 : Int32) (σ : jS) : jR := db (jd jMT d) 0 k_HH_append 1 [(0, .ref 0), (1, .int l1), (2, .int l2)] [] σ
noncomputable def b_HH_append_2 (d : Nat) (σ : jS) : jR := db (jd jMT d) 0 k_HH_append 2 [] [] σ
theorem e_HH_append (d : Nat) (l1 : Int32) (σ : jS) : g_HH_append (d + 1) l1 σ = b_HH_append_0 d l1 σ := rfl
set_option maxRecDepth 100000 in
theorem q_HH_append_0 (d : Nat) (l1 : Int32) (σ : jS) : b_HH_append_0 d l1 σ = (b_HH_append_1 d l1 24 σ) := (db_eq _ _ _ _ _ _ _).trans rfl
set_option maxRecDepth 100000 in
theorem q_HH_append_1 (d : Nat) (l1 : Int32) (l2 : Int32) (σ : jS) : b_HH_append_1 d l1 l2 σ = (jif (l2 < 0) (b_HH_append_2 d σ) (jif (700 ≤ (σ.1 0 1)) (b_HH_append_2 d σ) ((j_wrI σ 1 (σ.1 0 1) ((Int32.toUInt32 l1 >>> (Int32.toUInt32 l2 &&& Int32.toUInt32 31)).toInt32 &&& 255)).bind fun σ1 => b_HH_append_1 d l1 (l2 + (-8)) (j_setI σ1 0 1 ((σ1.1 0 1) + 1))))) := (db_eq _ _ _ _ _ _ _).trans rfl
set_option maxRecDepth 100000 in
theorem q_HH_append_2 (d : Nat) (σ : jS) : b_HH_append_2 d σ = (some (none, σ)) := (db_eq _ _ _ _ _ _ _).trans rfl
noncomputable def b_HH_text_0 (d : Nat) (l1 : Int32) (σ : jS) : jR := db (jd jMT d) 1 k_HH_text 0 [(0, .ref 0), (1, .int l1)] [] σ
noncomputable def b_HH_text_1 (d : Nat) (σ : jS) : jR := db (jd jMT d) 1 k_HH_text 1 [] [] σ
noncomputable def b_HH_text_2 (d : Nat) (l1 : Int32) (σ : jS) : jR := db (jd jMT d) 1 k_HH_text 2 [(0, .ref 0), (1, .int l1)] [] σ
noncomputable def b_HH_text_3 (d : Nat) (l1 : Int32) (l2 : Int32) (l3 : Int32) (σ : jS) : jR := db (jd jMT d) 1 k_HH_text 3 [(0, .ref 0), (1, .int l1), (2, .int l2), (3, .int l3)] [] σ
noncomputable def b_HH_text_4 (d : Nat) (l2 : Int32) (σ : jS) : jR := db (jd jMT d) 1 k_HH_text 4 [(0, .ref 0), (2, .int l2)] [] σ
noncomputable def b_HH_text_5 (d : Nat) (l2 : Int32) (σ : jS) : jR := db (jd jMT d) 1 k_HH_text 5 [(0, .ref 0), (2, .int l2)] [] σ
theorem e_HH_text (d : Nat) (l1 : Int32) (σ : jS) : g_HH_text (d + 1) l1 σ = b_HH_text_0 d l1 σ := rfl
set_option maxRecDepth 100000 in
theorem q_HH_text_0 (d : Nat) (l1 : Int32) (σ : jS) : b_HH_text_0 d l1 σ = (jif (l1 < 0) (b_HH_text_1 d σ) (jif (l1 ≤ (σ.1 0 1)) (b_HH_text_2 d l1 σ) (b_HH_text_1 d σ))) := (db_eq _ _ _ _ _ _ _).trans rfl
set_option maxRecDepth 100000 in
theorem q_HH_text_1 (d : Nat) (σ : jS) : b_HH_text_1 d σ = (some (some (.int (-2)), σ)) := (db_eq _ _ _ _ _ _ _).trans rfl
set_option maxRecDepth 100000 in
theorem q_HH_text_2 (d : Nat) (l1 : Int32) (σ : jS) : b_HH_text_2 d l1 σ = ((r_V (g_Rd_begin d l1 ((j_setI σ 0 1 0).2.2 0 3) (j_setI σ 0 1 0))).bind fun σ1 => b_HH_text_3 d l1 0 0 σ1) := (db_eq _ _ _ _ _ _ _).trans rfl
set_option maxRecDepth 100000 in
theorem q_HH_text_3 (d : Nat) (l1 : Int32) (l2 : Int32) (l3 : Int32) (σ : jS) : b_HH_text_3 d l1 l2 l3 σ = (jif (l1 ≤ l3) (b_HH_text_4 d l2 σ) ((r_I (g_Rd_goesOn d σ)).bind fun q1 => jif (q1.1 = 0) (b_HH_text_4 d l2 q1.2) ((r_I (g_Rd_readLine d q1.2)).bind fun q2 => b_HH_text_3 d l1 (l2 + 1) (l3 + 1) q2.2))) := (db_eq _ _ _ _ _ _ _).trans rfl
set_option maxRecDepth 100000 in
theorem q_HH_text_4 (d : Nat) (l2 : Int32) (σ : jS) : b_HH_text_4 d l2 σ = (jif (((j_setI (j_setI σ 0 5 (σ.1 36 0)) 0 6 ((j_setI σ 0 5 (σ.1 36 0)).1 36 1)).1 0 5) = 0) (b_HH_text_5 d l2 (j_setI (j_setI σ 0 5 (σ.1 36 0)) 0 6 ((j_setI σ 0 5 (σ.1 36 0)).1 36 1))) (some (some (.int (-1)), (j_setI (j_setI σ 0 5 (σ.1 36 0)) 0 6 ((j_setI σ 0 5 (σ.1 36 0)).1 36 1))))) := (db_eq _ _ _ _ _ _ _).trans rfl
set_option maxRecDepth 100000 in
theorem q_HH_text_5 (d : Nat) (l2 : Int32) (σ : jS) : b_HH_text_5 d l2 σ = ((r_V (g_Jo_begin d 39 ((j_setR (j_setR σ 0 2 (σ.2.2 0 3)) 0 3 (σ.2.2 0 2)).2.2 0 2) (j_setR (j_setR σ 0 2 (σ.2.2 0 3)) 0 3 (σ.2.2 0 2)))).bind fun σ1 => (r_V (g_Nt_clear d σ1)).bind fun σ2 => some (some (.int l2), (j_setI σ2 0 9 0))) := (db_eq _ _ _ _ _ _ _).trans rfl
noncomputable def b_HH_fault_0 (d : Nat) (l1 : Int32) (σ : jS) : jR := db (jd jMT d) 1 k_HH_fault 0 [(0, .ref 0), (1, .int l1)] [] σ
noncomputable def b_HH_fault_1 (d : Nat) (l1 : Int32) (σ : jS) : jR := db (jd jMT d) 1 k_HH_fault 1 [(0, .ref 0), (1, .int l1)] [] σ
noncomputable def b_HH_fault_2 (d : Nat) (σ : jS) : jR := db (jd jMT d) 1 k_HH_fault 2 [] [] σ
noncomputable def b_HH_fault_3 (d : Nat) (s0 : Int32) (σ : jS) : jR := db (jd jMT d) 1 k_HH_fault 3 [] [.int s0] σ
theorem e_HH_fault (d : Nat) (l1 : Int32) (σ : jS) : g_HH_fault (d + 1) l1 σ = b_HH_fault_0 d l1 σ := rfl
set_option maxRecDepth 100000 in
theorem q_HH_fault_0 (d : Nat) (l1 : Int32) (σ : jS) : b_HH_fault_0 d l1 σ = (jif (l1 = 0) (some (some (.int (σ.1 0 5)), σ)) (b_HH_fault_1 d l1 σ)) := (db_eq _ _ _ _ _ _ _).trans rfl
set_option maxRecDepth 100000 in
theorem q_HH_fault_1 (d : Nat) (l1 : Int32) (σ : jS) : b_HH_fault_1 d l1 σ = (jif (l1 = 1) (b_HH_fault_3 d (σ.1 0 6) σ) (b_HH_fault_2 d σ)) := (db_eq _ _ _ _ _ _ _).trans rfl
set_option maxRecDepth 100000 in
theorem q_HH_fault_2 (d : Nat) (σ : jS) : b_HH_fault_2 d σ = (b_HH_fault_3 d (-1) σ) := (db_eq _ _ _ _ _ _ _).trans rfl
set_option maxRecDepth 100000 in
theorem q_HH_fault_3 (d : Nat) (s0 : Int32) (σ : jS) : b_HH_fault_3 d s0 σ = (some (some (.int s0), σ)) := (db_eq _ _ _ _ _ _ _).trans rfl
noncomputable def b_HH_named_0 (d : Nat) (l1 : Int32) (l2 : Int32) (σ : jS) : jR := db (jd jMT d) 1 k_HH_named 0 [(0, .ref 0), (1, .int l1), (2, .int l2)] [] σ
noncomputable def b_HH_named_1 (d : Nat) (l1 : Int32) (l2 : Int32) (σ : jS) : jR := db (jd jMT d) 1 k_HH_named 1 [(0, .ref 0), (1, .int l1), (2, .int l2)] [] σ
noncomputable def b_HH_named_2 (d : Nat) (σ : jS) : jR := db (jd jMT d) 1 k_HH_named 2 [] [] σ
noncomputable def b_HH_named_3 (d : Nat) (s0 : Int32) (σ : jS) : jR := db (jd jMT d) 1 k_HH_named 3 [] [.int s0] σ
theorem e_HH_named (d : Nat) (l1 : Int32) (l2 : Int32) (σ : jS) : g_HH_named (d + 1) l1 l2 σ = b_HH_named_0 d l1 l2 σ := rfl
set_option maxRecDepth 100000 in
theorem q_HH_named_0 (d : Nat) (l1 : Int32) (l2 : Int32) (σ : jS) : b_HH_named_0 d l1 l2 σ = (jif (l1 = 0) (jc (j_is 6 (σ.2.2 0 2)) ((r_I (g_Te_personNamed d (σ.2.2 0 2) l2 σ)).bind fun q1 => some (some (.int q1.1), q1.2))) (b_HH_named_1 d l1 l2 σ)) := (db_eq _ _ _ _ _ _ _).trans rfl
set_option maxRecDepth 100000 in
theorem q_HH_named_1 (d : Nat) (l1 : Int32) (l2 : Int32) (σ : jS) : b_HH_named_1 d l1 l2 σ = (jif (l1 = 1) (jc (j_is 6 (σ.2.2 0 2)) ((r_I (g_Te_mayNamed d (σ.2.2 0 2) l2 σ)).bind fun q1 => b_HH_named_3 d q1.1 q1.2)) (b_HH_named_2 d σ)) := (db_eq _ _ _ _ _ _ _).trans rfl
set_option maxRecDepth 100000 in
theorem q_HH_named_2 (d : Nat) (σ : jS) : b_HH_named_2 d σ = (b_HH_named_3 d (-1) σ) := (db_eq _ _ _ _ _ _ _).trans rfl
set_option maxRecDepth 100000 in
theorem q_HH_named_3 (d : Nat) (s0 : Int32) (σ : jS) : b_HH_named_3 d s0 σ = (some (some (.int s0), σ)) := (db_eq _ _ _ _ _ _ _).trans rfl
noncomputable def b_HH_look_0 (d : Nat) (l1 : Int32) (l2 : Int32) (σ : jS) : jR := db (jd jMT d) 1 k_HH_look 0 [(0, .ref 0), (1, .int l1), (2, .int l2)] [] σ
noncomputable def b_HH_look_1 (d : Nat) (l1 : Int32) (l2 : Int32) (σ : jS) : jR := db (jd jMT d) 1 k_HH_look 1 [(0, .ref 0), (1, .int l1), (2, .int l2)] [] σ
noncomputable def b_HH_look_2 (d : Nat) (l1 : Int32) (σ : jS) : jR := db (jd jMT d) 1 k_HH_look 2 [(0, .ref 0), (1, .int l1)] [] σ
noncomputable def b_HH_look_3 (d : Nat) (l1 : Int32) (σ : jS) : jR := db (jd jMT d) 1 k_HH_look 3 [(0, .ref 0), (1, .int l1)] [] σ
noncomputable def b_HH_look_4 (d : Nat) (l1 : Int32) (σ : jS) : jR := db (jd jMT d) 1 k_HH_look 4 [(0, .ref 0), (1, .int l1)] [] σ
noncomputable def b_HH_look_5 (d : Nat) (l1 : Int32) (l2 : Int32) (σ : jS) : jR := db (jd jMT d) 1 k_HH_look 5 [(0, .ref 0), (1, .int l1), (2, .int l2)] [] σ
noncomputable def b_HH_look_6 (d : Nat) (l1 : Int32) (σ : jS) : jR := db (jd jMT d) 1 k_HH_look 6 [(0, .ref 0), (1, .int l1)] [] σ
noncomputable def b_HH_look_7 (d : Nat) (σ : jS) : jR := db (jd jMT d) 1 k_HH_look 7 [] [] σ
theorem e_HH_look (d : Nat) (l1 : Int32) (l2 : Int32) (σ : jS) : g_HH_look (d + 1) l1 l2 σ = b_HH_look_0 d l1 l2 σ := rfl
set_option maxRecDepth 100000 in
theorem q_HH_look_0 (d : Nat) (l1 : Int32) (l2 : Int32) (σ : jS) : b_HH_look_0 d l1 l2 σ = (jc (j_is 6 (σ.2.2 0 2)) ((r_I (g_Te_isPerson d (σ.2.2 0 2) l1 σ)).bind fun q1 => jif (q1.1 = 0) (none) (b_HH_look_1 d l1 l2 q1.2))) := (db_eq _ _ _ _ _ _ _).trans rfl
set_option maxRecDepth 100000 in
theorem q_HH_look_1 (d : Nat) (l1 : Int32) (l2 : Int32) (σ : jS) : b_HH_look_1 d l1 l2 σ = (jif (l2 = 0) (b_HH_look_2 d l1 σ) (jif (l2 = 1) (b_HH_look_3 d l1 σ) (jif (l2 = 2) (b_HH_look_4 d l1 σ) (jif (l2 = 3) (b_HH_look_5 d l1 l2 σ) (jif (l2 = 4) (b_HH_look_5 d l1 l2 σ) (jif (l2 = 5) (b_HH_look_5 d l1 l2 σ) (jif (l2 = 6) (b_HH_look_6 d l1 σ) (b_HH_look_7 d σ)))))))) := (db_eq _ _ _ _ _ _ _).trans rfl
set_option maxRecDepth 100000 in
theorem q_HH_look_2 (d : Nat) (l1 : Int32) (σ : jS) : b_HH_look_2 d l1 σ = (jc (j_is 6 (σ.2.2 0 2)) ((j_rdI 0 σ (j_cr (σ.2.2 0 2) 2) l1).bind fun x1 => some (some (.int x1), σ))) := (db_eq _ _ _ _ _ _ _).trans rfl
set_option maxRecDepth 100000 in
theorem q_HH_look_3 (d : Nat) (l1 : Int32) (σ : jS) : b_HH_look_3 d l1 σ = ((j_rdI 0 σ 40 l1).bind fun x1 => some (some (.int x1), σ)) := (db_eq _ _ _ _ _ _ _).trans rfl
set_option maxRecDepth 100000 in
theorem q_HH_look_4 (d : Nat) (l1 : Int32) (σ : jS) : b_HH_look_4 d l1 σ = (jc (j_is 6 (σ.2.2 0 2)) ((j_rdI 0 σ (j_cr (σ.2.2 0 2) 4) l1).bind fun x1 => some (some (.int x1), σ))) := (db_eq _ _ _ _ _ _ _).trans rfl
set_option maxRecDepth 100000 in
theorem q_HH_look_5 (d : Nat) (l1 : Int32) (l2 : Int32) (σ : jS) : b_HH_look_5 d l1 l2 σ = (jc (j_is 6 (σ.2.2 0 2)) ((r_I (g_Te_heir d (σ.2.2 0 2) l1 (l2 - 3) σ)).bind fun q1 => some (some (.int q1.1), q1.2))) := (db_eq _ _ _ _ _ _ _).trans rfl
set_option maxRecDepth 100000 in
theorem q_HH_look_6 (d : Nat) (l1 : Int32) (σ : jS) : b_HH_look_6 d l1 σ = ((j_rdI 0 σ 41 l1).bind fun x1 => some (some (.int x1), σ)) := (db_eq _ _ _ _ _ _ _).trans rfl
set_option maxRecDepth 100000 in
theorem q_HH_look_7 (d : Nat) (σ : jS) : b_HH_look_7 d σ = (none) := (db_eq _ _ _ _ _ _ _).trans rfl
noncomputable def b_HH_hours_0 (d : Nat) (l1 : Int32) (σ : jS) : jR := db (jd jMT d) 1 k_HH_hours 0 [(0, .ref 0), (1, .int l1)] [] σ
noncomputable def b_HH_hours_1 (d : Nat) (σ : jS) : jR := db (jd jMT d) 1 k_HH_hours 1 [] [] σ
noncomputable def b_HH_hours_2 (d : Nat) (l1 : Int32) (σ : jS) : jR := db (jd jMT d) 1 k_HH_hours 2 [(0, .ref 0), (1, .int l1)] [] σ
theorem e_HH_hours (d : Nat) (l1 : Int32) (σ : jS) : g_HH_hours (d + 1) l1 σ = b_HH_hours_0 d l1 σ := rfl
set_option maxRecDepth 100000 in
theorem q_HH_hours_0 (d : Nat) (l1 : Int32) (σ : jS) : b_HH_hours_0 d l1 σ = ((r_I (g_HH_within d l1 0 300 σ)).bind fun q1 => jif (q1.1 = 0) (b_HH_hours_1 d q1.2) (jif (((q1.2.1 39 0) + l1) ≤ 3000) (b_HH_hours_2 d l1 q1.2) (b_HH_hours_1 d q1.2))) := (db_eq _ _ _ _ _ _ _).trans rfl
set_option maxRecDepth 100000 in
theorem q_HH_hours_1 (d : Nat) (σ : jS) : b_HH_hours_1 d σ = (some (some (.int (-1)), σ)) := (db_eq _ _ _ _ _ _ _).trans rfl
set_option maxRecDepth 100000 in
theorem q_HH_hours_2 (d : Nat) (l1 : Int32) (σ : jS) : b_HH_hours_2 d l1 σ = ((r_V (g_Jo_passTo d 39 ((σ.1 39 0) + l1) σ)).bind fun σ1 => some (some (.int (σ1.1 39 0)), σ1)) := (db_eq _ _ _ _ _ _ _).trans rfl
noncomputable def b_HH_send_0 (d : Nat) (l1 : Int32) (l2 : Int32) (σ : jS) : jR := db (jd jMT d) 1 k_HH_send 0 [(0, .ref 0), (1, .int l1), (2, .int l2)] [] σ
noncomputable def b_HH_send_1 (d : Nat) (σ : jS) : jR := db (jd jMT d) 1 k_HH_send 1 [] [] σ
noncomputable def b_HH_send_2 (d : Nat) (l1 : Int32) (l2 : Int32) (σ : jS) : jR := db (jd jMT d) 1 k_HH_send 2 [(0, .ref 0), (1, .int l1), (2, .int l2)] [] σ
theorem e_HH_send (d : Nat) (l1 : Int32) (l2 : Int32) (σ : jS) : g_HH_send (d + 1) l1 l2 σ = b_HH_send_0 d l1 l2 σ := rfl
set_option maxRecDepth 100000 in
theorem q_HH_send_0 (d : Nat) (l1 : Int32) (l2 : Int32) (σ : jS) : b_HH_send_0 d l1 l2 σ = (jc (j_is 6 (σ.2.2 0 2)) ((r_I (g_Te_isPerson d (σ.2.2 0 2) l1 σ)).bind fun q1 => jif (q1.1 = 0) (b_HH_send_1 d q1.2) ((r_I (g_HH_within d l2 1 99999 q1.2)).bind fun q2 => jif (q2.1 = 0) (b_HH_send_1 d q2.2) (jif ((q2.2.1 39 3) < 30) (b_HH_send_2 d l1 l2 q2.2) (b_HH_send_1 d q2.2))))) := (db_eq _ _ _ _ _ _ _).trans rfl
set_option maxRecDepth 100000 in
theorem q_HH_send_1 (d : Nat) (σ : jS) : b_HH_send_1 d σ = (some (some (.int (-1)), σ)) := (db_eq _ _ _ _ _ _ _).trans rfl
set_option maxRecDepth 100000 in
theorem q_HH_send_2 (d : Nat) (l1 : Int32) (l2 : Int32) (σ : jS) : b_HH_send_2 d l1 l2 σ = ((r_I (g_Jo_add d 39 l1 l2 (σ.1 39 0) σ)).bind fun q1 => some (some (.int q1.1), q1.2)) := (db_eq _ _ _ _ _ _ _).trans rfl
noncomputable def b_HH_parcel_0 (d : Nat) (l1 : Int32) (l2 : Int32) (σ : jS) : jR := db (jd jMT d) 1 k_HH_parcel 0 [(0, .ref 0), (1, .int l1), (2, .int l2)] [] σ
noncomputable def b_HH_parcel_1 (d : Nat) (l1 : Int32) (l2 : Int32) (σ : jS) : jR := db (jd jMT d) 1 k_HH_parcel 1 [(0, .ref 0), (1, .int l1), (2, .int l2)] [] σ
noncomputable def b_HH_parcel_2 (d : Nat) (l1 : Int32) (σ : jS) : jR := db (jd jMT d) 1 k_HH_parcel 2 [(0, .ref 0), (1, .int l1)] [] σ
noncomputable def b_HH_parcel_3 (d : Nat) (l1 : Int32) (σ : jS) : jR := db (jd jMT d) 1 k_HH_parcel 3 [(0, .ref 0), (1, .int l1)] [] σ
noncomputable def b_HH_parcel_4 (d : Nat) (l1 : Int32) (σ : jS) : jR := db (jd jMT d) 1 k_HH_parcel 4 [(0, .ref 0), (1, .int l1)] [] σ
noncomputable def b_HH_parcel_5 (d : Nat) (l1 : Int32) (σ : jS) : jR := db (jd jMT d) 1 k_HH_parcel 5 [(0, .ref 0), (1, .int l1)] [] σ
noncomputable def b_HH_parcel_6 (d : Nat) (l1 : Int32) (σ : jS) : jR := db (jd jMT d) 1 k_HH_parcel 6 [(0, .ref 0), (1, .int l1)] [] σ
noncomputable def b_HH_parcel_7 (d : Nat) (l1 : Int32) (σ : jS) : jR := db (jd jMT d) 1 k_HH_parcel 7 [(0, .ref 0), (1, .int l1)] [] σ
noncomputable def b_HH_parcel_8 (d : Nat) (l1 : Int32) (σ : jS) : jR := db (jd jMT d) 1 k_HH_parcel 8 [(0, .ref 0), (1, .int l1)] [] σ
noncomputable def b_HH_parcel_9 (d : Nat) (σ : jS) : jR := db (jd jMT d) 1 k_HH_parcel 9 [] [] σ
theorem e_HH_parcel (d : Nat) (l1 : Int32) (l2 : Int32) (σ : jS) : g_HH_parcel (d + 1) l1 l2 σ = b_HH_parcel_0 d l1 l2 σ := rfl
set_option maxRecDepth 100000 in
theorem q_HH_parcel_0 (d : Nat) (l1 : Int32) (l2 : Int32) (σ : jS) : b_HH_parcel_0 d l1 l2 σ = ((r_I (g_Jo_isParcel d 39 l1 σ)).bind fun q1 => jif (q1.1 = 0) (some (some (.int (-1)), q1.2)) (b_HH_parcel_1 d l1 l2 q1.2)) := (db_eq _ _ _ _ _ _ _).trans rfl
set_option maxRecDepth 100000 in
theorem q_HH_parcel_1 (d : Nat) (l1 : Int32) (l2 : Int32) (σ : jS) : b_HH_parcel_1 d l1 l2 σ = (jif (l2 = 0) (b_HH_parcel_2 d l1 σ) (jif (l2 = 1) (b_HH_parcel_3 d l1 σ) (jif (l2 = 2) (b_HH_parcel_4 d l1 σ) (jif (l2 = 3) (b_HH_parcel_5 d l1 σ) (jif (l2 = 4) (b_HH_parcel_6 d l1 σ) (jif (l2 = 5) (b_HH_parcel_7 d l1 σ) (jif (l2 = 6) (b_HH_parcel_8 d l1 σ) (b_HH_parcel_9 d σ)))))))) := (db_eq _ _ _ _ _ _ _).trans rfl
set_option maxRecDepth 100000 in
theorem q_HH_parcel_2 (d : Nat) (l1 : Int32) (σ : jS) : b_HH_parcel_2 d l1 σ = ((j_rdI 0 σ 42 l1).bind fun x1 => some (some (.int x1), σ)) := (db_eq _ _ _ _ _ _ _).trans rfl
set_option maxRecDepth 100000 in
theorem q_HH_parcel_3 (d : Nat) (l1 : Int32) (σ : jS) : b_HH_parcel_3 d l1 σ = ((j_rdI 0 σ 43 l1).bind fun x1 => some (some (.int x1), σ)) := (db_eq _ _ _ _ _ _ _).trans rfl
set_option maxRecDepth 100000 in
theorem q_HH_parcel_4 (d : Nat) (l1 : Int32) (σ : jS) : b_HH_parcel_4 d l1 σ = ((j_rdI 0 σ 44 l1).bind fun x1 => some (some (.int x1), σ)) := (db_eq _ _ _ _ _ _ _).trans rfl
set_option maxRecDepth 100000 in
theorem q_HH_parcel_5 (d : Nat) (l1 : Int32) (σ : jS) : b_HH_parcel_5 d l1 σ = ((j_rdI 0 σ 45 l1).bind fun x1 => some (some (.int x1), σ)) := (db_eq _ _ _ _ _ _ _).trans rfl
set_option maxRecDepth 100000 in
theorem q_HH_parcel_6 (d : Nat) (l1 : Int32) (σ : jS) : b_HH_parcel_6 d l1 σ = ((j_rdI 0 σ 46 l1).bind fun x1 => some (some (.int x1), σ)) := (db_eq _ _ _ _ _ _ _).trans rfl
set_option maxRecDepth 100000 in
theorem q_HH_parcel_7 (d : Nat) (l1 : Int32) (σ : jS) : b_HH_parcel_7 d l1 σ = ((j_rdI 0 σ 47 l1).bind fun x1 => some (some (.int x1), σ)) := (db_eq _ _ _ _ _ _ _).trans rfl
set_option maxRecDepth 100000 in
theorem q_HH_parcel_8 (d : Nat) (l1 : Int32) (σ : jS) : b_HH_parcel_8 d l1 σ = ((j_rdI 0 σ 48 l1).bind fun x1 => some (some (.int x1), σ)) := (db_eq _ _ _ _ _ _ _).trans rfl
set_option maxRecDepth 100000 in
theorem q_HH_parcel_9 (d : Nat) (σ : jS) : b_HH_parcel_9 d σ = (some (some (.int (-1)), σ)) := (db_eq _ _ _ _ _ _ _).trans rfl
noncomputable def b_HH_coins_0 (d : Nat) (σ : jS) : jR := db (jd jMT d) 3 k_HH_coins 0 [(0, .ref 0)] [] σ
theorem e_HH_coins (d : Nat) (σ : jS) : g_HH_coins (d + 1) σ = b_HH_coins_0 d σ := rfl
set_option maxRecDepth 100000 in
theorem q_HH_coins_0 (d : Nat) (σ : jS) : b_HH_coins_0 d σ = ((r_L (g_Jo_allCoins d 39 σ)).bind fun q1 => some (some (.long q1.1), q1.2)) := (db_eq _ _ _ _ _ _ _).trans rfl
noncomputable def b_HH_rest_0 (d : Nat) (σ : jS) : jR := db (jd jMT d) 1 k_HH_rest 0 [(0, .ref 0)] [] σ
theorem e_HH_rest (d : Nat) (σ : jS) : g_HH_rest (d + 1) σ = b_HH_rest_0 d σ := rfl
set_option maxRecDepth 100000 in
theorem q_HH_rest_0 (d : Nat) (σ : jS) : b_HH_rest_0 d σ = ((r_V (g_Jo_copyFrom d 59 39 σ)).bind fun σ1 => (r_I (g_Jo_hoursTillRest d 59 σ1)).bind fun q2 => some (some (.int q2.1), q2.2)) := (db_eq _ _ _ _ _ _ _).trans rfl
noncomputable def b_HH_arrives_0 (d : Nat) (l1 : Int32) (l2 : Int64) (l4 : Int32) (σ : jS) : jR := db (jd jMT d) 1 k_HH_arrives 0 [(0, .ref 0), (1, .int l1), (2, .long l2), (4, .int l4)] [] σ
noncomputable def b_HH_arrives_1 (d : Nat) (l4 : Int32) (σ : jS) : jR := db (jd jMT d) 1 k_HH_arrives 1 [(0, .ref 0), (4, .int l4)] [] σ
theorem e_HH_arrives (d : Nat) (l1 : Int32) (l2 : Int64) (l4 : Int32) (σ : jS) : g_HH_arrives (d + 1) l1 l2 l4 σ = b_HH_arrives_0 d l1 l2 l4 σ := rfl
set_option maxRecDepth 100000 in
theorem q_HH_arrives_0 (d : Nat) (l1 : Int32) (l2 : Int64) (l4 : Int32) (σ : jS) : b_HH_arrives_0 d l1 l2 l4 σ = ((r_I (g_HH_isSent d l1 l2 l4 σ)).bind fun q1 => jif (q1.1 = 0) (some (some (.int (-1)), q1.2)) (b_HH_arrives_1 d l4 q1.2)) := (db_eq _ _ _ _ _ _ _).trans rfl
set_option maxRecDepth 100000 in
theorem q_HH_arrives_1 (d : Nat) (l4 : Int32) (σ : jS) : b_HH_arrives_1 d l4 σ = ((r_I (g_Rw_arriving d (σ.2.2 0 2) 4 l4 σ)).bind fun q1 => some (some (.int q1.1), q1.2)) := (db_eq _ _ _ _ _ _ _).trans rfl
noncomputable def b_HH_keeps_0 (d : Nat) (l1 : Int32) (l2 : Int64) (l4 : Int32) (l5 : Int32) (σ : jS) : jR := db (jd jMT d) 1 k_HH_keeps 0 [(0, .ref 0), (1, .int l1), (2, .long l2), (4, .int l4), (5, .int l5)] [] σ
noncomputable def b_HH_keeps_1 (d : Nat) (σ : jS) : jR := db (jd jMT d) 1 k_HH_keeps 1 [] [] σ
noncomputable def b_HH_keeps_2 (d : Nat) (l4 : Int32) (l5 : Int32) (σ : jS) : jR := db (jd jMT d) 1 k_HH_keeps 2 [(0, .ref 0), (4, .int l4), (5, .int l5)] [] σ
theorem e_HH_keeps (d : Nat) (l1 : Int32) (l2 : Int64) (l4 : Int32) (l5 : Int32) (σ : jS) : g_HH_keeps (d + 1) l1 l2 l4 l5 σ = b_HH_keeps_0 d l1 l2 l4 l5 σ := rfl
set_option maxRecDepth 100000 in
theorem q_HH_keeps_0 (d : Nat) (l1 : Int32) (l2 : Int64) (l4 : Int32) (l5 : Int32) (σ : jS) : b_HH_keeps_0 d l1 l2 l4 l5 σ = ((r_I (g_HH_isSent d l1 l2 l4 σ)).bind fun q1 => jif (q1.1 = 0) (b_HH_keeps_1 d q1.2) ((r_I (g_Rw_carriers d q1.2)).bind fun q2 => (r_I (g_HH_within d l5 1 q2.1 q2.2)).bind fun q3 => jif (q3.1 = 0) (b_HH_keeps_1 d q3.2) (b_HH_keeps_2 d l4 l5 q3.2))) := (db_eq _ _ _ _ _ _ _).trans rfl
set_option maxRecDepth 100000 in
theorem q_HH_keeps_1 (d : Nat) (σ : jS) : b_HH_keeps_1 d σ = (some (some (.int (-1)), σ)) := (db_eq _ _ _ _ _ _ _).trans rfl
set_option maxRecDepth 100000 in
theorem q_HH_keeps_2 (d : Nat) (l4 : Int32) (l5 : Int32) (σ : jS) : b_HH_keeps_2 d l4 l5 σ = ((r_I (g_Rw_keptAt d (σ.2.2 0 2) l4 l5 σ)).bind fun q1 => some (some (.int q1.1), q1.2)) := (db_eq _ _ _ _ _ _ _).trans rfl
noncomputable def b_HH_back_0 (d : Nat) (l1 : Int32) (l2 : Int64) (l4 : Int32) (l5 : Int32) (σ : jS) : jR := db (jd jMT d) 1 k_HH_back 0 [(0, .ref 0), (1, .int l1), (2, .long l2), (4, .int l4), (5, .int l5)] [] σ
noncomputable def b_HH_back_1 (d : Nat) (σ : jS) : jR := db (jd jMT d) 1 k_HH_back 1 [] [] σ
noncomputable def b_HH_back_2 (d : Nat) (l4 : Int32) (l5 : Int32) (σ : jS) : jR := db (jd jMT d) 1 k_HH_back 2 [(0, .ref 0), (4, .int l4), (5, .int l5)] [] σ
noncomputable def b_HH_back_3 (d : Nat) (l6 : Int32) (l7 : Int32) (σ : jS) : jR := db (jd jMT d) 1 k_HH_back 3 [(6, .int l6), (7, .int l7)] [] σ
noncomputable def b_HH_back_4 (d : Nat) (l6 : Int32) (l7 : Int32) (σ : jS) : jR := db (jd jMT d) 1 k_HH_back 4 [(6, .int l6), (7, .int l7)] [] σ
noncomputable def b_HH_back_5 (d : Nat) (s0 : Int32) (σ : jS) : jR := db (jd jMT d) 1 k_HH_back 5 [] [.int s0] σ
noncomputable def b_HH_back_6 (d : Nat) (l6 : Int32) (σ : jS) : jR := db (jd jMT d) 1 k_HH_back 6 [(6, .int l6)] [] σ
noncomputable def b_HH_back_7 (d : Nat) (l7 : Int32) (σ : jS) : jR := db (jd jMT d) 1 k_HH_back 7 [(7, .int l7)] [] σ
noncomputable def b_HH_back_8 (d : Nat) (l6 : Int32) (σ : jS) : jR := db (jd jMT d) 1 k_HH_back 8 [(6, .int l6)] [] σ
noncomputable def b_HH_back_9 (d : Nat) (σ : jS) : jR := db (jd jMT d) 1 k_HH_back 9 [] [] σ
noncomputable def b_HH_back_10 (d : Nat) (s0 : Int32) (σ : jS) : jR := db (jd jMT d) 1 k_HH_back 10 [] [.int s0] σ
noncomputable def b_HH_back_11 (d : Nat) (σ : jS) : jR := db (jd jMT d) 1 k_HH_back 11 [] [] σ
theorem e_HH_back (d : Nat) (l1 : Int32) (l2 : Int64) (l4 : Int32) (l5 : Int32) (σ : jS) : g_HH_back (d + 1) l1 l2 l4 l5 σ = b_HH_back_0 d l1 l2 l4 l5 σ := rfl
set_option maxRecDepth 100000 in
theorem q_HH_back_0 (d : Nat) (l1 : Int32) (l2 : Int64) (l4 : Int32) (l5 : Int32) (σ : jS) : b_HH_back_0 d l1 l2 l4 l5 σ = ((r_I (g_HH_isRow d l1 l2 σ)).bind fun q1 => jif (q1.1 = 0) (b_HH_back_1 d q1.2) ((r_I (g_HH_within d l4 0 99999 q1.2)).bind fun q2 => jif (q2.1 = 0) (b_HH_back_1 d q2.2) (b_HH_back_2 d l4 l5 q2.2))) := (db_eq _ _ _ _ _ _ _).trans rfl
set_option maxRecDepth 100000 in
theorem q_HH_back_1 (d : Nat) (σ : jS) : b_HH_back_1 d σ = (some (some (.int (-1)), σ)) := (db_eq _ _ _ _ _ _ _).trans rfl
set_option maxRecDepth 100000 in
theorem q_HH_back_2 (d : Nat) (l4 : Int32) (l5 : Int32) (σ : jS) : b_HH_back_2 d l4 l5 σ = ((r_I (g_HH_endOfBack d l4 0 σ)).bind fun q1 => (r_I (g_HH_endOfBack d l4 1 q1.2)).bind fun q2 => jif (l5 = 0) (b_HH_back_3 d q1.1 q2.1 q2.2) (jif (l5 = 1) (b_HH_back_6 d q1.1 q2.2) (jif (l5 = 2) (b_HH_back_7 d q2.1 q2.2) (jif (l5 = 3) (b_HH_back_8 d q1.1 q2.2) (b_HH_back_11 d q2.2))))) := (db_eq _ _ _ _ _ _ _).trans rfl
set_option maxRecDepth 100000 in
theorem q_HH_back_3 (d : Nat) (l6 : Int32) (l7 : Int32) (σ : jS) : b_HH_back_3 d l6 l7 σ = (jif (l6 = (-1)) (b_HH_back_5 d 0 σ) (b_HH_back_4 d l6 l7 σ)) := (db_eq _ _ _ _ _ _ _).trans rfl
set_option maxRecDepth 100000 in
theorem q_HH_back_4 (d : Nat) (l6 : Int32) (l7 : Int32) (σ : jS) : b_HH_back_4 d l6 l7 σ = (b_HH_back_5 d ((l7 - l6) + 1) σ) := (db_eq _ _ _ _ _ _ _).trans rfl
set_option maxRecDepth 100000 in
theorem q_HH_back_5 (d : Nat) (s0 : Int32) (σ : jS) : b_HH_back_5 d s0 σ = (some (some (.int s0), σ)) := (db_eq _ _ _ _ _ _ _).trans rfl
set_option maxRecDepth 100000 in
theorem q_HH_back_6 (d : Nat) (l6 : Int32) (σ : jS) : b_HH_back_6 d l6 σ = (some (some (.int l6), σ)) := (db_eq _ _ _ _ _ _ _).trans rfl
set_option maxRecDepth 100000 in
theorem q_HH_back_7 (d : Nat) (l7 : Int32) (σ : jS) : b_HH_back_7 d l7 σ = (some (some (.int l7), σ)) := (db_eq _ _ _ _ _ _ _).trans rfl
set_option maxRecDepth 100000 in
theorem q_HH_back_8 (d : Nat) (l6 : Int32) (σ : jS) : b_HH_back_8 d l6 σ = (jif (l6 = (-1)) (b_HH_back_10 d 0 σ) (b_HH_back_9 d σ)) := (db_eq _ _ _ _ _ _ _).trans rfl
set_option maxRecDepth 100000 in
theorem q_HH_back_9 (d : Nat) (σ : jS) : b_HH_back_9 d σ = (b_HH_back_10 d 1 σ) := (db_eq _ _ _ _ _ _ _).trans rfl
set_option maxRecDepth 100000 in
theorem q_HH_back_10 (d : Nat) (s0 : Int32) (σ : jS) : b_HH_back_10 d s0 σ = (some (some (.int s0), σ)) := (db_eq _ _ _ _ _ _ _).trans rfl
set_option maxRecDepth 100000 in
theorem q_HH_back_11 (d : Nat) (σ : jS) : b_HH_back_11 d σ = (some (some (.int (-1)), σ)) := (db_eq _ _ _ _ _ _ _).trans rfl
noncomputable def b_HH_span_0 (d : Nat) (l1 : Int32) (l2 : Int64) (l4 : Int32) (l5 : Int32) (l6 : Int32) (σ : jS) : jR := db (jd jMT d) 1 k_HH_span 0 [(0, .ref 0), (1, .int l1), (2, .long l2), (4, .int l4), (5, .int l5), (6, .int l6)] [] σ
noncomputable def b_HH_span_1 (d : Nat) (σ : jS) : jR := db (jd jMT d) 1 k_HH_span 1 [] [] σ
noncomputable def b_HH_span_2 (d : Nat) (l4 : Int32) (l6 : Int32) (σ : jS) : jR := db (jd jMT d) 1 k_HH_span 2 [(0, .ref 0), (4, .int l4), (6, .int l6)] [] σ
theorem e_HH_span (d : Nat) (l1 : Int32) (l2 : Int64) (l4 : Int32) (l5 : Int32) (l6 : Int32) (σ : jS) : g_HH_span (d + 1) l1 l2 l4 l5 l6 σ = b_HH_span_0 d l1 l2 l4 l5 l6 σ := rfl
set_option maxRecDepth 100000 in
theorem q_HH_span_0 (d : Nat) (l1 : Int32) (l2 : Int64) (l4 : Int32) (l5 : Int32) (l6 : Int32) (σ : jS) : b_HH_span_0 d l1 l2 l4 l5 l6 σ = ((r_I (g_HH_isRow d l1 l2 σ)).bind fun q1 => jif (q1.1 = 0) (b_HH_span_1 d q1.2) ((r_I (g_HH_within d l4 0 99999 q1.2)).bind fun q2 => jif (q2.1 = 0) (b_HH_span_1 d q2.2) (jif (l5 = 0) ((r_I (g_HH_within d l6 0 1 q2.2)).bind fun q3 => jif (q3.1 = 0) (b_HH_span_1 d q3.2) (b_HH_span_2 d l4 l6 q3.2)) (b_HH_span_1 d q2.2)))) := (db_eq _ _ _ _ _ _ _).trans rfl
set_option maxRecDepth 100000 in
theorem q_HH_span_1 (d : Nat) (σ : jS) : b_HH_span_1 d σ = (some (some (.int (-1)), σ)) := (db_eq _ _ _ _ _ _ _).trans rfl
set_option maxRecDepth 100000 in
theorem q_HH_span_2 (d : Nat) (l4 : Int32) (l6 : Int32) (σ : jS) : b_HH_span_2 d l4 l6 σ = ((r_I (g_HH_endOfBack d l4 l6 σ)).bind fun q1 => some (some (.int q1.1), q1.2)) := (db_eq _ _ _ _ _ _ _).trans rfl
noncomputable def b_HH_endOfBack_0 (d : Nat) (l1 : Int32) (l2 : Int32) (σ : jS) : jR := db (jd jMT d) 1 k_HH_endOfBack 0 [(0, .ref 0), (1, .int l1), (2, .int l2)] [] σ
noncomputable def b_HH_endOfBack_1 (d : Nat) (l1 : Int32) (l2 : Int32) (l3 : Int32) (σ : jS) : jR := db (jd jMT d) 1 k_HH_endOfBack 1 [(0, .ref 0), (1, .int l1), (2, .int l2), (3, .int l3)] [] σ
noncomputable def b_HH_endOfBack_2 (d : Nat) (l1 : Int32) (σ : jS) : jR := db (jd jMT d) 1 k_HH_endOfBack 2 [(0, .ref 0), (1, .int l1)] [] σ
noncomputable def b_HH_endOfBack_3 (d : Nat) (s0 : Int32) (σ : jS) : jR := db (jd jMT d) 1 k_HH_endOfBack 3 [] [.int s0] σ
theorem e_HH_endOfBack (d : Nat) (l1 : Int32) (l2 : Int32) (σ : jS) : g_HH_endOfBack (d + 1) l1 l2 σ = b_HH_endOfBack_0 d l1 l2 σ := rfl
set_option maxRecDepth 100000 in
theorem q_HH_endOfBack_0 (d : Nat) (l1 : Int32) (l2 : Int32) (σ : jS) : b_HH_endOfBack_0 d l1 l2 σ = ((r_I (g_Rw_leastBringing d (σ.2.2 0 2) l1 σ)).bind fun q1 => jif (q1.1 ≤ 999999) (b_HH_endOfBack_1 d l1 l2 q1.1 q1.2) (some (some (.int (-1)), q1.2))) := (db_eq _ _ _ _ _ _ _).trans rfl
set_option maxRecDepth 100000 in
theorem q_HH_endOfBack_1 (d : Nat) (l1 : Int32) (l2 : Int32) (l3 : Int32) (σ : jS) : b_HH_endOfBack_1 d l1 l2 l3 σ = (jif (l2 = 0) (b_HH_endOfBack_3 d l3 σ) (b_HH_endOfBack_2 d l1 σ)) := (db_eq _ _ _ _ _ _ _).trans rfl
set_option maxRecDepth 100000 in
theorem q_HH_endOfBack_2 (d : Nat) (l1 : Int32) (σ : jS) : b_HH_endOfBack_2 d l1 σ = ((r_I (g_Rw_leastBringing d (σ.2.2 0 2) (l1 + 1) σ)).bind fun q1 => b_HH_endOfBack_3 d (if (999999 : Int32) < (q1.1 - 1) then 999999 else (q1.1 - 1)) q1.2) := (db_eq _ _ _ _ _ _ _).trans rfl
set_option maxRecDepth 100000 in
theorem q_HH_endOfBack_3 (d : Nat) (s0 : Int32) (σ : jS) : b_HH_endOfBack_3 d s0 σ = (some (some (.int s0), σ)) := (db_eq _ _ _ _ _ _ _).trans rfl
noncomputable def b_HH_best_0 (d : Nat) (l1 : Int32) (l2 : Int64) (l4 : Int32) (l5 : Int32) (σ : jS) : jR := db (jd jMT d) 1 k_HH_best 0 [(0, .ref 0), (1, .int l1), (2, .long l2), (4, .int l4), (5, .int l5)] [] σ
noncomputable def b_HH_best_1 (d : Nat) (σ : jS) : jR := db (jd jMT d) 1 k_HH_best 1 [] [] σ
noncomputable def b_HH_best_2 (d : Nat) (l4 : Int32) (l5 : Int32) (σ : jS) : jR := db (jd jMT d) 1 k_HH_best 2 [(0, .ref 0), (4, .int l4), (5, .int l5)] [] σ
noncomputable def b_HH_best_3 (d : Nat) (σ : jS) : jR := db (jd jMT d) 1 k_HH_best 3 [(0, .ref 0)] [] σ
noncomputable def b_HH_best_4 (d : Nat) (s0 : Int32) (σ : jS) : jR := db (jd jMT d) 1 k_HH_best 4 [] [.int s0] σ
theorem e_HH_best (d : Nat) (l1 : Int32) (l2 : Int64) (l4 : Int32) (l5 : Int32) (σ : jS) : g_HH_best (d + 1) l1 l2 l4 l5 σ = b_HH_best_0 d l1 l2 l4 l5 σ := rfl
set_option maxRecDepth 100000 in
theorem q_HH_best_0 (d : Nat) (l1 : Int32) (l2 : Int64) (l4 : Int32) (l5 : Int32) (σ : jS) : b_HH_best_0 d l1 l2 l4 l5 σ = ((r_I (g_HH_isSent d l1 l2 l4 σ)).bind fun q1 => jif (q1.1 = 0) (b_HH_best_1 d q1.2) ((r_I (g_HH_within d l5 0 1 q1.2)).bind fun q2 => jif (q2.1 = 0) (b_HH_best_1 d q2.2) (b_HH_best_2 d l4 l5 q2.2))) := (db_eq _ _ _ _ _ _ _).trans rfl
set_option maxRecDepth 100000 in
theorem q_HH_best_1 (d : Nat) (σ : jS) : b_HH_best_1 d σ = (some (some (.int (-1)), σ)) := (db_eq _ _ _ _ _ _ _).trans rfl
set_option maxRecDepth 100000 in
theorem q_HH_best_2 (d : Nat) (l4 : Int32) (l5 : Int32) (σ : jS) : b_HH_best_2 d l4 l5 σ = ((r_V (g_Or_take d (σ.2.2 0 2) l4 σ)).bind fun σ1 => jif (l5 = 0) ((r_I (g_Or_mostArriving d σ1)).bind fun q2 => b_HH_best_4 d q2.1 q2.2) (b_HH_best_3 d σ1)) := (db_eq _ _ _ _ _ _ _).trans rfl
set_option maxRecDepth 100000 in
theorem q_HH_best_3 (d : Nat) (σ : jS) : b_HH_best_3 d σ = ((r_I (g_Or_leastArriving d σ)).bind fun q1 => b_HH_best_4 d q1.1 q1.2) := (db_eq _ _ _ _ _ _ _).trans rfl
set_option maxRecDepth 100000 in
theorem q_HH_best_4 (d : Nat) (s0 : Int32) (σ : jS) : b_HH_best_4 d s0 σ = (some (some (.int s0), σ)) := (db_eq _ _ _ _ _ _ _).trans rfl
noncomputable def b_HH_order_0 (d : Nat) (l1 : Int32) (l2 : Int64) (l4 : Int32) (l5 : Int32) (σ : jS) : jR := db (jd jMT d) 3 k_HH_order 0 [(0, .ref 0), (1, .int l1), (2, .long l2), (4, .int l4), (5, .int l5)] [] σ
noncomputable def b_HH_order_1 (d : Nat) (σ : jS) : jR := db (jd jMT d) 3 k_HH_order 1 [] [] σ
noncomputable def b_HH_order_2 (d : Nat) (l4 : Int32) (l5 : Int32) (σ : jS) : jR := db (jd jMT d) 3 k_HH_order 2 [(0, .ref 0), (4, .int l4), (5, .int l5)] [] σ
noncomputable def b_HH_order_3 (d : Nat) (σ : jS) : jR := db (jd jMT d) 3 k_HH_order 3 [(0, .ref 0)] [.ref 71] σ
noncomputable def b_HH_order_4 (d : Nat) (s1 : Int32) (σ : jS) : jR := db (jd jMT d) 3 k_HH_order 4 [] [.int s1, .ref 71] σ
theorem e_HH_order (d : Nat) (l1 : Int32) (l2 : Int64) (l4 : Int32) (l5 : Int32) (σ : jS) : g_HH_order (d + 1) l1 l2 l4 l5 σ = b_HH_order_0 d l1 l2 l4 l5 σ := rfl
set_option maxRecDepth 100000 in
theorem q_HH_order_0 (d : Nat) (l1 : Int32) (l2 : Int64) (l4 : Int32) (l5 : Int32) (σ : jS) : b_HH_order_0 d l1 l2 l4 l5 σ = ((r_I (g_HH_isSent d l1 l2 l4 σ)).bind fun q1 => jif (q1.1 = 0) (b_HH_order_1 d q1.2) ((r_I (g_HH_within d l5 0 1 q1.2)).bind fun q2 => jif (q2.1 = 0) (b_HH_order_1 d q2.2) (b_HH_order_2 d l4 l5 q2.2))) := (db_eq _ _ _ _ _ _ _).trans rfl
set_option maxRecDepth 100000 in
theorem q_HH_order_1 (d : Nat) (σ : jS) : b_HH_order_1 d σ = (some (some (.long (-1)), σ)) := (db_eq _ _ _ _ _ _ _).trans rfl
set_option maxRecDepth 100000 in
theorem q_HH_order_2 (d : Nat) (l4 : Int32) (l5 : Int32) (σ : jS) : b_HH_order_2 d l4 l5 σ = ((r_V (g_Or_take d (σ.2.2 0 2) l4 σ)).bind fun σ1 => jif (l5 = 0) ((r_I (g_Or_mostArriving d σ1)).bind fun q2 => b_HH_order_4 d q2.1 q2.2) (b_HH_order_3 d σ1)) := (db_eq _ _ _ _ _ _ _).trans rfl
set_option maxRecDepth 100000 in
theorem q_HH_order_3 (d : Nat) (σ : jS) : b_HH_order_3 d σ = ((r_I (g_Or_leastArriving d σ)).bind fun q1 => b_HH_order_4 d q1.1 q1.2) := (db_eq _ _ _ _ _ _ _).trans rfl
set_option maxRecDepth 100000 in
theorem q_HH_order_4 (d : Nat) (s1 : Int32) (σ : jS) : b_HH_order_4 d s1 σ = ((r_L (g_Or_firstBringing d s1 σ)).bind fun q1 => some (some (.long q1.1), q1.2)) := (db_eq _ _ _ _ _ _ _).trans rfl
noncomputable def b_HH_just_0 (d : Nat) (l1 : Int32) (l2 : Int64) (l4 : Int32) (l5 : Int32) (σ : jS) : jR := db (jd jMT d) 1 k_HH_just 0 [(0, .ref 0), (1, .int l1), (2, .long l2), (4, .int l4), (5, .int l5)] [] σ
noncomputable def b_HH_just_1 (d : Nat) (σ : jS) : jR := db (jd jMT d) 1 k_HH_just 1 [] [] σ
noncomputable def b_HH_just_2 (d : Nat) (l4 : Int32) (l5 : Int32) (σ : jS) : jR := db (jd jMT d) 1 k_HH_just 2 [(0, .ref 0), (4, .int l4), (5, .int l5)] [] σ
theorem e_HH_just (d : Nat) (l1 : Int32) (l2 : Int64) (l4 : Int32) (l5 : Int32) (σ : jS) : g_HH_just (d + 1) l1 l2 l4 l5 σ = b_HH_just_0 d l1 l2 l4 l5 σ := rfl
set_option maxRecDepth 100000 in
theorem q_HH_just_0 (d : Nat) (l1 : Int32) (l2 : Int64) (l4 : Int32) (l5 : Int32) (σ : jS) : b_HH_just_0 d l1 l2 l4 l5 σ = ((r_I (g_HH_isSent d l1 l2 l4 σ)).bind fun q1 => jif (q1.1 = 0) (b_HH_just_1 d q1.2) ((r_I (g_HH_within d l5 0 999999 q1.2)).bind fun q2 => jif (q2.1 = 0) (b_HH_just_1 d q2.2) (b_HH_just_2 d l4 l5 q2.2))) := (db_eq _ _ _ _ _ _ _).trans rfl
set_option maxRecDepth 100000 in
theorem q_HH_just_1 (d : Nat) (σ : jS) : b_HH_just_1 d σ = (some (some (.int (-1)), σ)) := (db_eq _ _ _ _ _ _ _).trans rfl
set_option maxRecDepth 100000 in
theorem q_HH_just_2 (d : Nat) (l4 : Int32) (l5 : Int32) (σ : jS) : b_HH_just_2 d l4 l5 σ = ((r_V (g_Or_take d (σ.2.2 0 2) l4 σ)).bind fun σ1 => (r_I (g_Or_howManyBring d l5 σ1)).bind fun q2 => some (some (.int q2.1), q2.2)) := (db_eq _ _ _ _ _ _ _).trans rfl
noncomputable def b_HH_first_0 (d : Nat) (l1 : Int32) (l2 : Int64) (l4 : Int32) (l5 : Int32) (σ : jS) : jR := db (jd jMT d) 3 k_HH_first 0 [(0, .ref 0), (1, .int l1), (2, .long l2), (4, .int l4), (5, .int l5)] [] σ
noncomputable def b_HH_first_1 (d : Nat) (σ : jS) : jR := db (jd jMT d) 3 k_HH_first 1 [] [] σ
noncomputable def b_HH_first_2 (d : Nat) (l4 : Int32) (l5 : Int32) (σ : jS) : jR := db (jd jMT d) 3 k_HH_first 2 [(0, .ref 0), (4, .int l4), (5, .int l5)] [] σ
theorem e_HH_first (d : Nat) (l1 : Int32) (l2 : Int64) (l4 : Int32) (l5 : Int32) (σ : jS) : g_HH_first (d + 1) l1 l2 l4 l5 σ = b_HH_first_0 d l1 l2 l4 l5 σ := rfl
set_option maxRecDepth 100000 in
theorem q_HH_first_0 (d : Nat) (l1 : Int32) (l2 : Int64) (l4 : Int32) (l5 : Int32) (σ : jS) : b_HH_first_0 d l1 l2 l4 l5 σ = ((r_I (g_HH_isSent d l1 l2 l4 σ)).bind fun q1 => jif (q1.1 = 0) (b_HH_first_1 d q1.2) ((r_I (g_HH_within d l5 0 999999 q1.2)).bind fun q2 => jif (q2.1 = 0) (b_HH_first_1 d q2.2) (b_HH_first_2 d l4 l5 q2.2))) := (db_eq _ _ _ _ _ _ _).trans rfl
set_option maxRecDepth 100000 in
theorem q_HH_first_1 (d : Nat) (σ : jS) : b_HH_first_1 d σ = (some (some (.long (-1)), σ)) := (db_eq _ _ _ _ _ _ _).trans rfl
set_option maxRecDepth 100000 in
theorem q_HH_first_2 (d : Nat) (l4 : Int32) (l5 : Int32) (σ : jS) : b_HH_first_2 d l4 l5 σ = ((r_V (g_Or_take d (σ.2.2 0 2) l4 σ)).bind fun σ1 => (r_L (g_Or_firstBringing d l5 σ1)).bind fun q2 => some (some (.long q2.1), q2.2)) := (db_eq _ _ _ _ _ _ _).trans rfl
noncomputable def b_HH_bound_0 (d : Nat) (l1 : Int32) (l2 : Int32) (l3 : Int32) (σ : jS) : jR := db (jd jMT d) 1 k_HH_bound 0 [(0, .ref 0), (1, .int l1), (2, .int l2), (3, .int l3)] [] σ
noncomputable def b_HH_bound_1 (d : Nat) (σ : jS) : jR := db (jd jMT d) 1 k_HH_bound 1 [] [] σ
noncomputable def b_HH_bound_2 (d : Nat) (l1 : Int32) (l2 : Int32) (l3 : Int32) (σ : jS) : jR := db (jd jMT d) 1 k_HH_bound 2 [(1, .int l1), (2, .int l2), (3, .int l3)] [] σ
noncomputable def b_HH_bound_3 (d : Nat) (l1 : Int32) (l2 : Int32) (σ : jS) : jR := db (jd jMT d) 1 k_HH_bound 3 [(1, .int l1), (2, .int l2)] [] σ
noncomputable def b_HH_bound_4 (d : Nat) (s0 : Int32) (σ : jS) : jR := db (jd jMT d) 1 k_HH_bound 4 [] [.int s0] σ
theorem e_HH_bound (d : Nat) (l1 : Int32) (l2 : Int32) (l3 : Int32) (σ : jS) : g_HH_bound (d + 1) l1 l2 l3 σ = b_HH_bound_0 d l1 l2 l3 σ := rfl
set_option maxRecDepth 100000 in
theorem q_HH_bound_0 (d : Nat) (l1 : Int32) (l2 : Int32) (l3 : Int32) (σ : jS) : b_HH_bound_0 d l1 l2 l3 σ = ((r_I (g_HH_within d l1 0 8 σ)).bind fun q1 => jif (q1.1 = 0) (b_HH_bound_1 d q1.2) ((r_I (g_HH_within d l2 0 999999 q1.2)).bind fun q2 => jif (q2.1 = 0) (b_HH_bound_1 d q2.2) ((r_I (g_HH_within d l3 0 1 q2.2)).bind fun q3 => jif (q3.1 = 0) (b_HH_bound_1 d q3.2) (b_HH_bound_2 d l1 l2 l3 q3.2)))) := (db_eq _ _ _ _ _ _ _).trans rfl
set_option maxRecDepth 100000 in
theorem q_HH_bound_1 (d : Nat) (σ : jS) : b_HH_bound_1 d σ = (some (some (.int (-1)), σ)) := (db_eq _ _ _ _ _ _ _).trans rfl
set_option maxRecDepth 100000 in
theorem q_HH_bound_2 (d : Nat) (l1 : Int32) (l2 : Int32) (l3 : Int32) (σ : jS) : b_HH_bound_2 d l1 l2 l3 σ = (jif (l3 = 0) ((r_I (g_HH_ceiling d l2 l1 σ)).bind fun q1 => b_HH_bound_4 d q1.1 q1.2) (b_HH_bound_3 d l1 l2 σ)) := (db_eq _ _ _ _ _ _ _).trans rfl
set_option maxRecDepth 100000 in
theorem q_HH_bound_3 (d : Nat) (l1 : Int32) (l2 : Int32) (σ : jS) : b_HH_bound_3 d l1 l2 σ = (b_HH_bound_4 d ((l2 : Int32) >>> ((l1 : Int32) &&& 31)) σ) := (db_eq _ _ _ _ _ _ _).trans rfl
set_option maxRecDepth 100000 in
theorem q_HH_bound_4 (d : Nat) (s0 : Int32) (σ : jS) : b_HH_bound_4 d s0 σ = (some (some (.int s0), σ)) := (db_eq _ _ _ _ _ _ _).trans rfl
noncomputable def b_HH_gains_0 (d : Nat) (l1 : Int32) (l2 : Int64) (l4 : Int32) (l5 : Int32) (l6 : Int32) (σ : jS) : jR := db (jd jMT d) 1 k_HH_gains 0 [(0, .ref 0), (1, .int l1), (2, .long l2), (4, .int l4), (5, .int l5), (6, .int l6)] [] σ
noncomputable def b_HH_gains_1 (d : Nat) (σ : jS) : jR := db (jd jMT d) 1 k_HH_gains 1 [] [] σ
noncomputable def b_HH_gains_2 (d : Nat) (l4 : Int32) (l5 : Int32) (l6 : Int32) (σ : jS) : jR := db (jd jMT d) 1 k_HH_gains 2 [(0, .ref 0), (4, .int l4), (5, .int l5), (6, .int l6)] [] σ
noncomputable def b_HH_gains_3 (d : Nat) (l5 : Int32) (l6 : Int32) (σ : jS) : jR := db (jd jMT d) 1 k_HH_gains 3 [(0, .ref 0), (5, .int l5), (6, .int l6)] [] σ
noncomputable def b_HH_gains_4 (d : Nat) (l5 : Int32) (l6 : Int32) (s0 : Int32) (σ : jS) : jR := db (jd jMT d) 1 k_HH_gains 4 [(0, .ref 0), (5, .int l5), (6, .int l6)] [.int s0] σ
noncomputable def b_HH_gains_5 (d : Nat) (l5 : Int32) (l7 : Int32) (σ : jS) : jR := db (jd jMT d) 1 k_HH_gains 5 [(0, .ref 0), (5, .int l5), (7, .int l7)] [] σ
noncomputable def b_HH_gains_6 (d : Nat) (l5 : Int32) (l7 : Int32) (σ : jS) : jR := db (jd jMT d) 1 k_HH_gains 6 [(0, .ref 0), (5, .int l5), (7, .int l7)] [] σ
noncomputable def b_HH_gains_7 (d : Nat) (s0 : Int32) (σ : jS) : jR := db (jd jMT d) 1 k_HH_gains 7 [] [.int s0] σ
theorem e_HH_gains (d : Nat) (l1 : Int32) (l2 : Int64) (l4 : Int32) (l5 : Int32) (l6 : Int32) (σ : jS) : g_HH_gains (d + 1) l1 l2 l4 l5 l6 σ = b_HH_gains_0 d l1 l2 l4 l5 l6 σ := rfl
set_option maxRecDepth 100000 in
theorem q_HH_gains_0 (d : Nat) (l1 : Int32) (l2 : Int64) (l4 : Int32) (l5 : Int32) (l6 : Int32) (σ : jS) : b_HH_gains_0 d l1 l2 l4 l5 l6 σ = ((r_I (g_HH_isSent d l1 l2 l4 σ)).bind fun q1 => jif (q1.1 = 0) (b_HH_gains_1 d q1.2) ((r_I (g_Rw_isCarrier d l5 q1.2)).bind fun q2 => jif (q2.1 = 0) (b_HH_gains_1 d q2.2) ((r_I (g_HH_within d l6 0 3 q2.2)).bind fun q3 => jif (q3.1 = 0) (b_HH_gains_1 d q3.2) (b_HH_gains_2 d l4 l5 l6 q3.2)))) := (db_eq _ _ _ _ _ _ _).trans rfl
set_option maxRecDepth 100000 in
theorem q_HH_gains_1 (d : Nat) (σ : jS) : b_HH_gains_1 d σ = (some (some (.int (-1)), σ)) := (db_eq _ _ _ _ _ _ _).trans rfl
set_option maxRecDepth 100000 in
theorem q_HH_gains_2 (d : Nat) (l4 : Int32) (l5 : Int32) (l6 : Int32) (σ : jS) : b_HH_gains_2 d l4 l5 l6 σ = ((r_V (g_Or_take d (σ.2.2 0 2) l4 σ)).bind fun σ1 => jif (2 ≤ l6) (b_HH_gains_3 d l5 l6 σ1) (b_HH_gains_4 d l5 l6 1 σ1)) := (db_eq _ _ _ _ _ _ _).trans rfl
set_option maxRecDepth 100000 in
theorem q_HH_gains_3 (d : Nat) (l5 : Int32) (l6 : Int32) (σ : jS) : b_HH_gains_3 d l5 l6 σ = (b_HH_gains_4 d l5 l6 0 σ) := (db_eq _ _ _ _ _ _ _).trans rfl
set_option maxRecDepth 100000 in
theorem q_HH_gains_4 (d : Nat) (l5 : Int32) (l6 : Int32) (s0 : Int32) (σ : jS) : b_HH_gains_4 d l5 l6 s0 σ = (jif (l6 = 0) (b_HH_gains_5 d l5 s0 σ) (jif (l6 = 2) (b_HH_gains_5 d l5 s0 σ) (b_HH_gains_6 d l5 s0 σ))) := (db_eq _ _ _ _ _ _ _).trans rfl
set_option maxRecDepth 100000 in
theorem q_HH_gains_5 (d : Nat) (l5 : Int32) (l7 : Int32) (σ : jS) : b_HH_gains_5 d l5 l7 σ = ((r_I (g_Or_gain d l5 l7 σ)).bind fun q1 => b_HH_gains_7 d q1.1 q1.2) := (db_eq _ _ _ _ _ _ _).trans rfl
set_option maxRecDepth 100000 in
theorem q_HH_gains_6 (d : Nat) (l5 : Int32) (l7 : Int32) (σ : jS) : b_HH_gains_6 d l5 l7 σ = ((r_I (g_Or_gainPlace d l5 l7 σ)).bind fun q1 => b_HH_gains_7 d q1.1 q1.2) := (db_eq _ _ _ _ _ _ _).trans rfl
set_option maxRecDepth 100000 in
theorem q_HH_gains_7 (d : Nat) (s0 : Int32) (σ : jS) : b_HH_gains_7 d s0 σ = (some (some (.int s0), σ)) := (db_eq _ _ _ _ _ _ _).trans rfl
noncomputable def b_HH_changes_0 (d : Nat) (l1 : Int32) (l2 : Int64) (l4 : Int32) (l5 : Int32) (σ : jS) : jR := db (jd jMT d) 1 k_HH_changes 0 [(0, .ref 0), (1, .int l1), (2, .long l2), (4, .int l4), (5, .int l5)] [] σ
noncomputable def b_HH_changes_1 (d : Nat) (σ : jS) : jR := db (jd jMT d) 1 k_HH_changes 1 [] [] σ
noncomputable def b_HH_changes_2 (d : Nat) (l4 : Int32) (l5 : Int32) (σ : jS) : jR := db (jd jMT d) 1 k_HH_changes 2 [(0, .ref 0), (4, .int l4), (5, .int l5)] [] σ
theorem e_HH_changes (d : Nat) (l1 : Int32) (l2 : Int64) (l4 : Int32) (l5 : Int32) (σ : jS) : g_HH_changes (d + 1) l1 l2 l4 l5 σ = b_HH_changes_0 d l1 l2 l4 l5 σ := rfl
set_option maxRecDepth 100000 in
theorem q_HH_changes_0 (d : Nat) (l1 : Int32) (l2 : Int64) (l4 : Int32) (l5 : Int32) (σ : jS) : b_HH_changes_0 d l1 l2 l4 l5 σ = ((r_I (g_HH_isSent d l1 l2 l4 σ)).bind fun q1 => jif (q1.1 = 0) (b_HH_changes_1 d q1.2) ((r_I (g_HH_within d l5 0 999999 q1.2)).bind fun q2 => jif (q2.1 = 0) (b_HH_changes_1 d q2.2) (b_HH_changes_2 d l4 l5 q2.2))) := (db_eq _ _ _ _ _ _ _).trans rfl
set_option maxRecDepth 100000 in
theorem q_HH_changes_1 (d : Nat) (σ : jS) : b_HH_changes_1 d σ = (some (some (.int (-1)), σ)) := (db_eq _ _ _ _ _ _ _).trans rfl
set_option maxRecDepth 100000 in
theorem q_HH_changes_2 (d : Nat) (l4 : Int32) (l5 : Int32) (σ : jS) : b_HH_changes_2 d l4 l5 σ = ((r_V (g_Or_take d (σ.2.2 0 2) l4 σ)).bind fun σ1 => (r_I (g_Or_fewestSwaps d l5 σ1)).bind fun q2 => some (some (.int q2.1), q2.2)) := (db_eq _ _ _ _ _ _ _).trans rfl
noncomputable def b_HH_changed_0 (d : Nat) (l1 : Int32) (l2 : Int64) (l4 : Int32) (l5 : Int32) (σ : jS) : jR := db (jd jMT d) 3 k_HH_changed 0 [(0, .ref 0), (1, .int l1), (2, .long l2), (4, .int l4), (5, .int l5)] [] σ
noncomputable def b_HH_changed_1 (d : Nat) (σ : jS) : jR := db (jd jMT d) 3 k_HH_changed 1 [] [] σ
noncomputable def b_HH_changed_2 (d : Nat) (l4 : Int32) (l5 : Int32) (σ : jS) : jR := db (jd jMT d) 3 k_HH_changed 2 [(0, .ref 0), (4, .int l4), (5, .int l5)] [] σ
theorem e_HH_changed (d : Nat) (l1 : Int32) (l2 : Int64) (l4 : Int32) (l5 : Int32) (σ : jS) : g_HH_changed (d + 1) l1 l2 l4 l5 σ = b_HH_changed_0 d l1 l2 l4 l5 σ := rfl
set_option maxRecDepth 100000 in
theorem q_HH_changed_0 (d : Nat) (l1 : Int32) (l2 : Int64) (l4 : Int32) (l5 : Int32) (σ : jS) : b_HH_changed_0 d l1 l2 l4 l5 σ = ((r_I (g_HH_isSent d l1 l2 l4 σ)).bind fun q1 => jif (q1.1 = 0) (b_HH_changed_1 d q1.2) ((r_I (g_HH_within d l5 0 999999 q1.2)).bind fun q2 => jif (q2.1 = 0) (b_HH_changed_1 d q2.2) (b_HH_changed_2 d l4 l5 q2.2))) := (db_eq _ _ _ _ _ _ _).trans rfl
set_option maxRecDepth 100000 in
theorem q_HH_changed_1 (d : Nat) (σ : jS) : b_HH_changed_1 d σ = (some (some (.long (-1)), σ)) := (db_eq _ _ _ _ _ _ _).trans rfl
set_option maxRecDepth 100000 in
theorem q_HH_changed_2 (d : Nat) (l4 : Int32) (l5 : Int32) (σ : jS) : b_HH_changed_2 d l4 l5 σ = ((r_V (g_Or_take d (σ.2.2 0 2) l4 σ)).bind fun σ1 => (r_L (g_Or_nearestBringing d l5 σ1)).bind fun q2 => some (some (.long q2.1), q2.2)) := (db_eq _ _ _ _ _ _ _).trans rfl
noncomputable def b_HH_worth_0 (d : Nat) (l1 : Int32) (l2 : Int64) (l4 : Int32) (l5 : Int32) (σ : jS) : jR := db (jd jMT d) 1 k_HH_worth 0 [(0, .ref 0), (1, .int l1), (2, .long l2), (4, .int l4), (5, .int l5)] [] σ
noncomputable def b_HH_worth_1 (d : Nat) (σ : jS) : jR := db (jd jMT d) 1 k_HH_worth 1 [] [] σ
noncomputable def b_HH_worth_2 (d : Nat) (l4 : Int32) (l5 : Int32) (σ : jS) : jR := db (jd jMT d) 1 k_HH_worth 2 [(0, .ref 0), (4, .int l4), (5, .int l5)] [] σ
theorem e_HH_worth (d : Nat) (l1 : Int32) (l2 : Int64) (l4 : Int32) (l5 : Int32) (σ : jS) : g_HH_worth (d + 1) l1 l2 l4 l5 σ = b_HH_worth_0 d l1 l2 l4 l5 σ := rfl
set_option maxRecDepth 100000 in
theorem q_HH_worth_0 (d : Nat) (l1 : Int32) (l2 : Int64) (l4 : Int32) (l5 : Int32) (σ : jS) : b_HH_worth_0 d l1 l2 l4 l5 σ = ((r_I (g_HH_isSent d l1 l2 l4 σ)).bind fun q1 => jif (q1.1 = 0) (b_HH_worth_1 d q1.2) ((r_I (g_Rw_carriers d q1.2)).bind fun q2 => (r_I (g_HH_within d l5 1 (q2.1 - 1) q2.2)).bind fun q3 => jif (q3.1 = 0) (b_HH_worth_1 d q3.2) (b_HH_worth_2 d l4 l5 q3.2))) := (db_eq _ _ _ _ _ _ _).trans rfl
set_option maxRecDepth 100000 in
theorem q_HH_worth_1 (d : Nat) (σ : jS) : b_HH_worth_1 d σ = (some (some (.int (-2147483648)), σ)) := (db_eq _ _ _ _ _ _ _).trans rfl
set_option maxRecDepth 100000 in
theorem q_HH_worth_2 (d : Nat) (l4 : Int32) (l5 : Int32) (σ : jS) : b_HH_worth_2 d l4 l5 σ = ((r_I (g_Rw_arriving d (σ.2.2 0 2) 4 l4 σ)).bind fun q1 => (r_V (g_Rw_swapAt d l5 q1.2)).bind fun σ2 => (r_I (g_Rw_arriving d (σ2.2.2 0 2) 4 l4 σ2)).bind fun q3 => some (some (.int (q3.1 - q1.1)), q3.2)) := (db_eq _ _ _ _ _ _ _).trans rfl
noncomputable def b_HH_serves_0 (d : Nat) (l1 : Int32) (l2 : Int64) (l4 : Int32) (σ : jS) : jR := db (jd jMT d) 1 k_HH_serves 0 [(0, .ref 0), (1, .int l1), (2, .long l2), (4, .int l4)] [] σ
noncomputable def b_HH_serves_1 (d : Nat) (σ : jS) : jR := db (jd jMT d) 1 k_HH_serves 1 [] [] σ
noncomputable def b_HH_serves_2 (d : Nat) (l4 : Int32) (σ : jS) : jR := db (jd jMT d) 1 k_HH_serves 2 [(0, .ref 0), (4, .int l4)] [] σ
noncomputable def b_HH_serves_3 (d : Nat) (l4 : Int32) (l5 : Int32) (σ : jS) : jR := db (jd jMT d) 1 k_HH_serves 3 [(0, .ref 0), (4, .int l4), (5, .int l5)] [] σ
noncomputable def b_HH_serves_4 (d : Nat) (l4 : Int32) (l5 : Int32) (σ : jS) : jR := db (jd jMT d) 1 k_HH_serves 4 [(0, .ref 0), (4, .int l4), (5, .int l5)] [] σ
noncomputable def b_HH_serves_5 (d : Nat) (σ : jS) : jR := db (jd jMT d) 1 k_HH_serves 5 [] [] σ
theorem e_HH_serves (d : Nat) (l1 : Int32) (l2 : Int64) (l4 : Int32) (σ : jS) : g_HH_serves (d + 1) l1 l2 l4 σ = b_HH_serves_0 d l1 l2 l4 σ := rfl
set_option maxRecDepth 100000 in
theorem q_HH_serves_0 (d : Nat) (l1 : Int32) (l2 : Int64) (l4 : Int32) (σ : jS) : b_HH_serves_0 d l1 l2 l4 σ = ((r_I (g_HH_isRow d l1 l2 σ)).bind fun q1 => jif (q1.1 = 0) (b_HH_serves_1 d q1.2) ((r_I (g_HH_within d l4 1 50 q1.2)).bind fun q2 => jif (q2.1 = 0) (b_HH_serves_1 d q2.2) (b_HH_serves_2 d l4 q2.2))) := (db_eq _ _ _ _ _ _ _).trans rfl
set_option maxRecDepth 100000 in
theorem q_HH_serves_1 (d : Nat) (σ : jS) : b_HH_serves_1 d σ = (some (some (.int (-1)), σ)) := (db_eq _ _ _ _ _ _ _).trans rfl
set_option maxRecDepth 100000 in
theorem q_HH_serves_2 (d : Nat) (l4 : Int32) (σ : jS) : b_HH_serves_2 d l4 σ = (b_HH_serves_3 d l4 1 σ) := (db_eq _ _ _ _ _ _ _).trans rfl
set_option maxRecDepth 100000 in
theorem q_HH_serves_3 (d : Nat) (l4 : Int32) (l5 : Int32) (σ : jS) : b_HH_serves_3 d l4 l5 σ = (jif (l4 < l5) (b_HH_serves_5 d σ) ((r_I (g_HH_isOutdone d l5 σ)).bind fun q1 => jif (q1.1 = 0) (b_HH_serves_4 d l4 l5 q1.2) (some (some (.int l5), q1.2)))) := (db_eq _ _ _ _ _ _ _).trans rfl
set_option maxRecDepth 100000 in
theorem q_HH_serves_4 (d : Nat) (l4 : Int32) (l5 : Int32) (σ : jS) : b_HH_serves_4 d l4 l5 σ = (b_HH_serves_3 d l4 (l5 + 1) σ) := (db_eq _ _ _ _ _ _ _).trans rfl
set_option maxRecDepth 100000 in
theorem q_HH_serves_5 (d : Nat) (σ : jS) : b_HH_serves_5 d σ = (some (some (.int 0), σ)) := (db_eq _ _ _ _ _ _ _).trans rfl
noncomputable def b_HH_isOutdone_0 (d : Nat) (l1 : Int32) (σ : jS) : jR := db (jd jMT d) 2 k_HH_isOutdone 0 [(0, .ref 0), (1, .int l1)] [] σ
noncomputable def b_HH_isOutdone_1 (d : Nat) (l1 : Int32) (l2 : Int32) (σ : jS) : jR := db (jd jMT d) 2 k_HH_isOutdone 1 [(0, .ref 0), (1, .int l1), (2, .int l2)] [] σ
noncomputable def b_HH_isOutdone_2 (d : Nat) (σ : jS) : jR := db (jd jMT d) 2 k_HH_isOutdone 2 [] [] σ
noncomputable def b_HH_isOutdone_3 (d : Nat) (s0 : Int32) (σ : jS) : jR := db (jd jMT d) 2 k_HH_isOutdone 3 [] [.int s0] σ
theorem e_HH_isOutdone (d : Nat) (l1 : Int32) (σ : jS) : g_HH_isOutdone (d + 1) l1 σ = b_HH_isOutdone_0 d l1 σ := rfl
set_option maxRecDepth 100000 in
theorem q_HH_isOutdone_0 (d : Nat) (l1 : Int32) (σ : jS) : b_HH_isOutdone_0 d l1 σ = ((r_I (g_Rw_arriving d (σ.2.2 0 2) 4 l1 σ)).bind fun q1 => (r_I (g_Rw_carriers d q1.2)).bind fun q2 => (r_I (g_HH_ceiling d l1 q2.1 q2.2)).bind fun q3 => jif (q1.1 = q3.1) (some (some (.int 0), q3.2)) (b_HH_isOutdone_1 d l1 q1.1 q3.2)) := (db_eq _ _ _ _ _ _ _).trans rfl
set_option maxRecDepth 100000 in
theorem q_HH_isOutdone_1 (d : Nat) (l1 : Int32) (l2 : Int32) (σ : jS) : b_HH_isOutdone_1 d l1 l2 σ = ((r_V (g_Or_take d (σ.2.2 0 2) l1 σ)).bind fun σ1 => (r_I (g_Or_mostArriving d σ1)).bind fun q2 => jif (q2.1 ≤ l2) (b_HH_isOutdone_2 d q2.2) (b_HH_isOutdone_3 d 1 q2.2)) := (db_eq _ _ _ _ _ _ _).trans rfl
set_option maxRecDepth 100000 in
theorem q_HH_isOutdone_2 (d : Nat) (σ : jS) : b_HH_isOutdone_2 d σ = (b_HH_isOutdone_3 d 0 σ) := (db_eq _ _ _ _ _ _ _).trans rfl
set_option maxRecDepth 100000 in
theorem q_HH_isOutdone_3 (d : Nat) (s0 : Int32) (σ : jS) : b_HH_isOutdone_3 d s0 σ = (if s0 = 0 ∨ s0 = 1 then some (some (.int s0), σ) else none) := (db_eq _ _ _ _ _ _ _).trans rfl
noncomputable def b_HH_law_0 (d : Nat) (l1 : Int32) (l2 : Int32) (l3 : Int32) (l4 : Int32) (l5 : Int32) (σ : jS) : jR := db (jd jMT d) 3 k_HH_law 0 [(0, .ref 0), (1, .int l1), (2, .int l2), (3, .int l3), (4, .int l4), (5, .int l5)] [] σ
noncomputable def b_HH_law_1 (d : Nat) (l1 : Int32) (l2 : Int32) (l3 : Int32) (l4 : Int32) (l5 : Int32) (σ : jS) : jR := db (jd jMT d) 3 k_HH_law 1 [(0, .ref 0), (1, .int l1), (2, .int l2), (3, .int l3), (4, .int l4), (5, .int l5)] [] σ
noncomputable def b_HH_law_2 (d : Nat) (l1 : Int32) (l2 : Int32) (l3 : Int32) (l4 : Int32) (l5 : Int32) (s0 : Int32) (σ : jS) : jR := db (jd jMT d) 3 k_HH_law 2 [(0, .ref 0), (1, .int l1), (2, .int l2), (3, .int l3), (4, .int l4), (5, .int l5)] [.int s0] σ
noncomputable def b_HH_law_3 (d : Nat) (σ : jS) : jR := db (jd jMT d) 3 k_HH_law 3 [] [] σ
noncomputable def b_HH_law_4 (d : Nat) (l1 : Int32) (l2 : Int32) (l3 : Int32) (l4 : Int32) (l5 : Int32) (σ : jS) : jR := db (jd jMT d) 3 k_HH_law 4 [(0, .ref 0), (1, .int l1), (2, .int l2), (3, .int l3), (4, .int l4), (5, .int l5)] [] σ
theorem e_HH_law (d : Nat) (l1 : Int32) (l2 : Int32) (l3 : Int32) (l4 : Int32) (l5 : Int32) (σ : jS) : g_HH_law (d + 1) l1 l2 l3 l4 l5 σ = b_HH_law_0 d l1 l2 l3 l4 l5 σ := rfl
set_option maxRecDepth 100000 in
theorem q_HH_law_0 (d : Nat) (l1 : Int32) (l2 : Int32) (l3 : Int32) (l4 : Int32) (l5 : Int32) (σ : jS) : b_HH_law_0 d l1 l2 l3 l4 l5 σ = ((r_I (g_HH_within d l1 0 9999 σ)).bind fun q1 => jif (q1.1 = 0) (b_HH_law_1 d l1 l2 l3 l4 l5 q1.2) ((r_I (g_HH_within d l2 0 99 q1.2)).bind fun q2 => jif (q2.1 = 0) (b_HH_law_1 d l1 l2 l3 l4 l5 q2.2) ((r_I (g_HH_within d l3 0 99 q2.2)).bind fun q3 => jif (q3.1 = 0) (b_HH_law_1 d l1 l2 l3 l4 l5 q3.2) ((r_I (g_HH_within d l4 0 9999 q3.2)).bind fun q4 => jif (q4.1 = 0) (b_HH_law_1 d l1 l2 l3 l4 l5 q4.2) ((r_I (g_HH_within d l5 0 9999 q4.2)).bind fun q5 => jif (q5.1 = 0) (b_HH_law_1 d l1 l2 l3 l4 l5 q5.2) (b_HH_law_2 d l1 l2 l3 l4 l5 1 q5.2)))))) := (db_eq _ _ _ _ _ _ _).trans rfl
set_option maxRecDepth 100000 in
theorem q_HH_law_1 (d : Nat) (l1 : Int32) (l2 : Int32) (l3 : Int32) (l4 : Int32) (l5 : Int32) (σ : jS) : b_HH_law_1 d l1 l2 l3 l4 l5 σ = (b_HH_law_2 d l1 l2 l3 l4 l5 0 σ) := (db_eq _ _ _ _ _ _ _).trans rfl
set_option maxRecDepth 100000 in
theorem q_HH_law_2 (d : Nat) (l1 : Int32) (l2 : Int32) (l3 : Int32) (l4 : Int32) (l5 : Int32) (s0 : Int32) (σ : jS) : b_HH_law_2 d l1 l2 l3 l4 l5 s0 σ = (jif (s0 = 0) (b_HH_law_3 d σ) (jc (j_is 6 (σ.2.2 0 2)) (jc (j_is 1 (j_cr (σ.2.2 0 2) 12)) (jif ((σ.1 (j_cr (σ.2.2 0 2) 12) 1) = 0) (b_HH_law_3 d σ) (b_HH_law_4 d l1 l2 l3 l4 l5 σ))))) := (db_eq _ _ _ _ _ _ _).trans rfl
set_option maxRecDepth 100000 in
theorem q_HH_law_3 (d : Nat) (σ : jS) : b_HH_law_3 d σ = (some (some (.long (-9223372036854775808)), σ)) := (db_eq _ _ _ _ _ _ _).trans rfl
set_option maxRecDepth 100000 in
theorem q_HH_law_4 (d : Nat) (l1 : Int32) (l2 : Int32) (l3 : Int32) (l4 : Int32) (l5 : Int32) (σ : jS) : b_HH_law_4 d l1 l2 l3 l4 l5 σ = (jc (j_is 6 (σ.2.2 0 2)) (jc (j_is 1 (j_cr (σ.2.2 0 2) 12)) ((r_L (g_La_value d (j_cr (σ.2.2 0 2) 12) 4 l1 l2 l3 l4 l5 σ)).bind fun q1 => some (some (.long q1.1), q1.2)))) := (db_eq _ _ _ _ _ _ _).trans rfl
noncomputable def b_HH_note_0 (d : Nat) (l1 : Int32) (l2 : Int64) (l4 : Int32) (l5 : Int32) (l6 : Int32) (σ : jS) : jR := db (jd jMT d) 1 k_HH_note 0 [(0, .ref 0), (1, .int l1), (2, .long l2), (4, .int l4), (5, .int l5), (6, .int l6)] [] σ
noncomputable def b_HH_note_1 (d : Nat) (σ : jS) : jR := db (jd jMT d) 1 k_HH_note 1 [] [] σ
noncomputable def b_HH_note_2 (d : Nat) (l1 : Int32) (l2 : Int64) (l4 : Int32) (l5 : Int32) (l6 : Int32) (σ : jS) : jR := db (jd jMT d) 1 k_HH_note 2 [(0, .ref 0), (1, .int l1), (2, .long l2), (4, .int l4), (5, .int l5), (6, .int l6)] [] σ
theorem e_HH_note (d : Nat) (l1 : Int32) (l2 : Int64) (l4 : Int32) (l5 : Int32) (l6 : Int32) (σ : jS) : g_HH_note (d + 1) l1 l2 l4 l5 l6 σ = b_HH_note_0 d l1 l2 l4 l5 l6 σ := rfl
set_option maxRecDepth 100000 in
theorem q_HH_note_0 (d : Nat) (l1 : Int32) (l2 : Int64) (l4 : Int32) (l5 : Int32) (l6 : Int32) (σ : jS) : b_HH_note_0 d l1 l2 l4 l5 l6 σ = ((r_I (g_HH_isSent d l1 l2 l4 σ)).bind fun q1 => jif (q1.1 = 0) (b_HH_note_1 d q1.2) ((r_I (g_HH_within d l5 0 l6 q1.2)).bind fun q2 => jif (q2.1 = 0) (b_HH_note_1 d q2.2) ((r_I (g_HH_within d l6 l5 999999 q2.2)).bind fun q3 => jif (q3.1 = 0) (b_HH_note_1 d q3.2) (b_HH_note_2 d l1 l2 l4 l5 l6 q3.2)))) := (db_eq _ _ _ _ _ _ _).trans rfl
set_option maxRecDepth 100000 in
theorem q_HH_note_1 (d : Nat) (σ : jS) : b_HH_note_1 d σ = (some (some (.int (-1)), σ)) := (db_eq _ _ _ _ _ _ _).trans rfl
set_option maxRecDepth 100000 in
theorem q_HH_note_2 (d : Nat) (l1 : Int32) (l2 : Int64) (l4 : Int32) (l5 : Int32) (l6 : Int32) (σ : jS) : b_HH_note_2 d l1 l2 l4 l5 l6 σ = ((r_I (g_Nt_add d l1 l2 l4 l5 l6 σ)).bind fun q1 => some (some (.int q1.1), q1.2)) := (db_eq _ _ _ _ _ _ _).trans rfl
noncomputable def b_HH_strike_0 (d : Nat) (l1 : Int32) (σ : jS) : jR := db (jd jMT d) 1 k_HH_strike 0 [(0, .ref 0), (1, .int l1)] [] σ
noncomputable def b_HH_strike_1 (d : Nat) (σ : jS) : jR := db (jd jMT d) 1 k_HH_strike 1 [] [] σ
noncomputable def b_HH_strike_2 (d : Nat) (s0 : Int32) (σ : jS) : jR := db (jd jMT d) 1 k_HH_strike 2 [] [.int s0] σ
theorem e_HH_strike (d : Nat) (l1 : Int32) (σ : jS) : g_HH_strike (d + 1) l1 σ = b_HH_strike_0 d l1 σ := rfl
set_option maxRecDepth 100000 in
theorem q_HH_strike_0 (d : Nat) (l1 : Int32) (σ : jS) : b_HH_strike_0 d l1 σ = ((r_I (g_HH_within d l1 0 ((σ.1 78 0) - 1) σ)).bind fun q1 => jif (q1.1 = 0) (b_HH_strike_1 d q1.2) ((r_I (g_Nt_addStrike d l1 q1.2)).bind fun q2 => b_HH_strike_2 d q2.1 q2.2)) := (db_eq _ _ _ _ _ _ _).trans rfl
set_option maxRecDepth 100000 in
theorem q_HH_strike_1 (d : Nat) (σ : jS) : b_HH_strike_1 d σ = (b_HH_strike_2 d (-1) σ) := (db_eq _ _ _ _ _ _ _).trans rfl
set_option maxRecDepth 100000 in
theorem q_HH_strike_2 (d : Nat) (s0 : Int32) (σ : jS) : b_HH_strike_2 d s0 σ = (some (some (.int s0), σ)) := (db_eq _ _ _ _ _ _ _).trans rfl
noncomputable def b_HH_known_0 (d : Nat) (l1 : Int32) (σ : jS) : jR := db (jd jMT d) 2 k_HH_known 0 [(0, .ref 0), (1, .int l1)] [] σ
noncomputable def b_HH_known_1 (d : Nat) (l1 : Int32) (σ : jS) : jR := db (jd jMT d) 2 k_HH_known 1 [(0, .ref 0), (1, .int l1)] [] σ
theorem e_HH_known (d : Nat) (l1 : Int32) (σ : jS) : g_HH_known (d + 1) l1 σ = b_HH_known_0 d l1 σ := rfl
set_option maxRecDepth 100000 in
theorem q_HH_known_0 (d : Nat) (l1 : Int32) (σ : jS) : b_HH_known_0 d l1 σ = ((r_I (g_HH_within d l1 (-1) (σ.1 78 0) σ)).bind fun q1 => jif (q1.1 = 0) (some (some (.int 0), q1.2)) (b_HH_known_1 d l1 q1.2)) := (db_eq _ _ _ _ _ _ _).trans rfl
set_option maxRecDepth 100000 in
theorem q_HH_known_1 (d : Nat) (l1 : Int32) (σ : jS) : b_HH_known_1 d l1 σ = (some (some (.int 1), (j_setI σ 78 1 l1))) := (db_eq _ _ _ _ _ _ _).trans rfl
noncomputable def b_HH_fits_0 (d : Nat) (σ : jS) : jR := db (jd jMT d) 1 k_HH_fits 0 [(0, .ref 0)] [] σ
noncomputable def b_HH_fits_1 (d : Nat) (l1 : Int32) (l2 : Int32) (σ : jS) : jR := db (jd jMT d) 1 k_HH_fits 1 [(0, .ref 0), (1, .int l1), (2, .int l2)] [] σ
noncomputable def b_HH_fits_2 (d : Nat) (l1 : Int32) (l2 : Int32) (σ : jS) : jR := db (jd jMT d) 1 k_HH_fits 2 [(0, .ref 0), (1, .int l1), (2, .int l2)] [] σ
noncomputable def b_HH_fits_3 (d : Nat) (l1 : Int32) (σ : jS) : jR := db (jd jMT d) 1 k_HH_fits 3 [(1, .int l1)] [] σ
theorem e_HH_fits (d : Nat) (σ : jS) : g_HH_fits (d + 1) σ = b_HH_fits_0 d σ := rfl
set_option maxRecDepth 100000 in
theorem q_HH_fits_0 (d : Nat) (σ : jS) : b_HH_fits_0 d σ = ((r_V (g_Nt_markStruck d σ)).bind fun σ1 => b_HH_fits_1 d 0 0 σ1) := (db_eq _ _ _ _ _ _ _).trans rfl
set_option maxRecDepth 100000 in
theorem q_HH_fits_1 (d : Nat) (l1 : Int32) (l2 : Int32) (σ : jS) : b_HH_fits_1 d l1 l2 σ = (jc (j_is 6 (σ.2.2 0 2)) (jif ((σ.1 (σ.2.2 0 2) 10) < l2) (b_HH_fits_3 d l1 σ) ((r_I (g_HH_lawNumbered d l2 σ)).bind fun q1 => (r_I (g_HH_agrees d q1.1 q1.2)).bind fun q2 => jif (q2.1 = 0) (b_HH_fits_2 d l1 l2 q2.2) (b_HH_fits_2 d (l1 ||| ((1 : Int32) <<< ((l2 : Int32) &&& 31))) l2 q2.2)))) := (db_eq _ _ _ _ _ _ _).trans rfl
set_option maxRecDepth 100000 in
theorem q_HH_fits_2 (d : Nat) (l1 : Int32) (l2 : Int32) (σ : jS) : b_HH_fits_2 d l1 l2 σ = (b_HH_fits_1 d l1 (l2 + 1) σ) := (db_eq _ _ _ _ _ _ _).trans rfl
set_option maxRecDepth 100000 in
theorem q_HH_fits_3 (d : Nat) (l1 : Int32) (σ : jS) : b_HH_fits_3 d l1 σ = (some (some (.int l1), σ)) := (db_eq _ _ _ _ _ _ _).trans rfl
