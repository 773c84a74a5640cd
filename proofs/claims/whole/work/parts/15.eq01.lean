/-! The methods as functions of the cells: an equation a block. Printed by wip/gen/eqs.py. -/
noncomputable def b_Jo_begin_0 (d : Nat) (l0 : Nat) (l1 : Nat) (σ : jS) : jR := db (jd jMT d) 0 k_Jo_begin 0 [(0, .ref l0), (1, .ref l1)] [] σ
noncomputable def b_Jo_begin_1 (d : Nat) (l0 : Nat) (l1 : Nat) (l2 : Int32) (σ : jS) : jR := db (jd jMT d) 0 k_Jo_begin 1 [(0, .ref l0), (1, .ref l1), (2, .int l2)] [] σ
noncomputable def b_Jo_begin_2 (d : Nat) (σ : jS) : jR := db (jd jMT d) 0 k_Jo_begin 2 [] [] σ
theorem e_Jo_begin (d : Nat) (l0 : Nat) (l1 : Nat) (σ : jS) : g_Jo_begin (d + 1) l0 l1 σ = b_Jo_begin_0 d l0 l1 σ := rfl
set_option maxRecDepth 100000 in
theorem q_Jo_begin_0 (d : Nat) (l0 : Nat) (l1 : Nat) (σ : jS) : b_Jo_begin_0 d l0 l1 σ = (jc (j_is 0 l0) ((r_V (g_Jo_start d l0 l1 (-1) 0 σ)).bind fun σ1 => b_Jo_begin_1 d l0 l1 0 σ1)) := (db_eq _ _ _ _ _ _ _).trans rfl
set_option maxRecDepth 100000 in
theorem q_Jo_begin_1 (d : Nat) (l0 : Nat) (l1 : Nat) (l2 : Int32) (σ : jS) : b_Jo_begin_1 d l0 l1 l2 σ = (jc (j_is 6 l1) (jif ((σ.1 l1 6) ≤ l2) (b_Jo_begin_2 d σ) (jc (j_is 6 l1) ((j_rdI 0 σ (j_cr l1 7) l2).bind fun x1 => jc (j_is 6 l1) ((j_rdI 0 σ (j_cr l1 8) l2).bind fun x2 => jc (j_is 6 l1) ((j_rdI 0 σ (j_cr l1 9) l2).bind fun x3 => jc (j_is 0 l0) ((r_I (g_Jo_add d l0 x1 x2 x3 σ)).bind fun q4 => b_Jo_begin_1 d l0 l1 (l2 + 1) q4.2))))))) := (db_eq _ _ _ _ _ _ _).trans rfl
set_option maxRecDepth 100000 in
theorem q_Jo_begin_2 (d : Nat) (σ : jS) : b_Jo_begin_2 d σ = (some (none, σ)) := (db_eq _ _ _ _ _ _ _).trans rfl
noncomputable def b_Jo_beginLike_0 (d : Nat) (l0 : Nat) (l1 : Nat) (l2 : Int32) (l3 : Int32) (σ : jS) : jR := db (jd jMT d) 0 k_Jo_beginLike 0 [(0, .ref l0), (1, .ref l1), (2, .int l2), (3, .int l3)] [] σ
noncomputable def b_Jo_beginLike_1 (d : Nat) (l0 : Nat) (l1 : Nat) (l4 : Int32) (σ : jS) : jR := db (jd jMT d) 0 k_Jo_beginLike 1 [(0, .ref l0), (1, .ref l1), (4, .int l4)] [] σ
noncomputable def b_Jo_beginLike_2 (d : Nat) (σ : jS) : jR := db (jd jMT d) 0 k_Jo_beginLike 2 [] [] σ
theorem e_Jo_beginLike (d : Nat) (l0 : Nat) (l1 : Nat) (l2 : Int32) (l3 : Int32) (σ : jS) : g_Jo_beginLike (d + 1) l0 l1 l2 l3 σ = b_Jo_beginLike_0 d l0 l1 l2 l3 σ := rfl
set_option maxRecDepth 100000 in
theorem q_Jo_beginLike_0 (d : Nat) (l0 : Nat) (l1 : Nat) (l2 : Int32) (l3 : Int32) (σ : jS) : b_Jo_beginLike_0 d l0 l1 l2 l3 σ = (jc (j_is 0 l1) (jc (j_is 0 l0) ((r_V (g_Jo_start d l0 (σ.2.2 l1 11) l2 l3 σ)).bind fun σ1 => b_Jo_beginLike_1 d l0 l1 0 σ1))) := (db_eq _ _ _ _ _ _ _).trans rfl
set_option maxRecDepth 100000 in
theorem q_Jo_beginLike_1 (d : Nat) (l0 : Nat) (l1 : Nat) (l4 : Int32) (σ : jS) : b_Jo_beginLike_1 d l0 l1 l4 σ = (jc (j_is 0 l1) (jif ((σ.1 l1 3) ≤ l4) (b_Jo_beginLike_2 d σ) (jc (j_is 0 l1) ((j_rdI 0 σ (j_cr l1 4) l4).bind fun x1 => jc (j_is 0 l1) ((j_rdI 0 σ (j_cr l1 5) l4).bind fun x2 => jc (j_is 0 l1) ((j_rdI 0 σ (j_cr l1 6) l4).bind fun x3 => jc (j_is 0 l0) ((r_I (g_Jo_add d l0 x1 x2 x3 σ)).bind fun q4 => b_Jo_beginLike_1 d l0 l1 (l4 + 1) q4.2))))))) := (db_eq _ _ _ _ _ _ _).trans rfl
set_option maxRecDepth 100000 in
theorem q_Jo_beginLike_2 (d : Nat) (σ : jS) : b_Jo_beginLike_2 d σ = (some (none, σ)) := (db_eq _ _ _ _ _ _ _).trans rfl
noncomputable def b_Jo_start_0 (d : Nat) (l0 : Nat) (l1 : Nat) (l2 : Int32) (l3 : Int32) (σ : jS) : jR := db (jd jMT d) 0 k_Jo_start 0 [(0, .ref l0), (1, .ref l1), (2, .int l2), (3, .int l3)] [] σ
theorem e_Jo_start (d : Nat) (l0 : Nat) (l1 : Nat) (l2 : Int32) (l3 : Int32) (σ : jS) : g_Jo_start (d + 1) l0 l1 l2 l3 σ = b_Jo_start_0 d l0 l1 l2 l3 σ := rfl
set_option maxRecDepth 100000 in
theorem q_Jo_start_0 (d : Nat) (l0 : Nat) (l1 : Nat) (l2 : Int32) (l3 : Int32) (σ : jS) : b_Jo_start_0 d l0 l1 l2 l3 σ = (jc (j_is 0 l0) (jc (j_is 0 l0) (jc (j_is 0 l0) (jc (j_is 0 l0) (jc (j_is 0 l0) (jc (j_is 6 l1) (jc (j_is 0 l0) ((j_copy (j_setI (j_setI (j_setI (j_setI (j_setR σ l0 11 l1) l0 12 l2) l0 13 l3) l0 0 0) l0 3 0) (j_cr l1 3) 0 (j_cr l0 1) 0 10).bind fun σ1 => jc (j_is 0 l0) ((r_V (g_Ja_fill d (j_cr l0 2) 0 σ1)).bind fun σ2 => some (none, σ2)))))))))) := (db_eq _ _ _ _ _ _ _).trans rfl
noncomputable def b_Jo_copyFrom_0 (d : Nat) (l0 : Nat) (l1 : Nat) (σ : jS) : jR := db (jd jMT d) 0 k_Jo_copyFrom 0 [(0, .ref l0), (1, .ref l1)] [] σ
theorem e_Jo_copyFrom (d : Nat) (l0 : Nat) (l1 : Nat) (σ : jS) : g_Jo_copyFrom (d + 1) l0 l1 σ = b_Jo_copyFrom_0 d l0 l1 σ := rfl
set_option maxRecDepth 100000 in
theorem q_Jo_copyFrom_0 (d : Nat) (l0 : Nat) (l1 : Nat) (σ : jS) : b_Jo_copyFrom_0 d l0 l1 σ = (jc (j_is 0 l1) (jc (j_is 0 l0) (jc (j_is 0 l1) (jc (j_is 0 l0) (jc (j_is 0 l1) (jc (j_is 0 l0) (jc (j_is 0 l1) (jc (j_is 0 l0) (jc (j_is 0 l1) (jc (j_is 0 l0) (jc (j_is 0 l1) (jc (j_is 0 l0) ((j_copy (j_setI (j_setI (j_setI (j_setI (j_setR σ l0 11 (σ.2.2 l1 11)) l0 12 ((j_setR σ l0 11 (σ.2.2 l1 11)).1 l1 12)) l0 13 ((j_setI (j_setR σ l0 11 (σ.2.2 l1 11)) l0 12 ((j_setR σ l0 11 (σ.2.2 l1 11)).1 l1 12)).1 l1 13)) l0 0 ((j_setI (j_setI (j_setR σ l0 11 (σ.2.2 l1 11)) l0 12 ((j_setR σ l0 11 (σ.2.2 l1 11)).1 l1 12)) l0 13 ((j_setI (j_setR σ l0 11 (σ.2.2 l1 11)) l0 12 ((j_setR σ l0 11 (σ.2.2 l1 11)).1 l1 12)).1 l1 13)).1 l1 0)) l0 3 ((j_setI (j_setI (j_setI (j_setR σ l0 11 (σ.2.2 l1 11)) l0 12 ((j_setR σ l0 11 (σ.2.2 l1 11)).1 l1 12)) l0 13 ((j_setI (j_setR σ l0 11 (σ.2.2 l1 11)) l0 12 ((j_setR σ l0 11 (σ.2.2 l1 11)).1 l1 12)).1 l1 13)) l0 0 ((j_setI (j_setI (j_setR σ l0 11 (σ.2.2 l1 11)) l0 12 ((j_setR σ l0 11 (σ.2.2 l1 11)).1 l1 12)) l0 13 ((j_setI (j_setR σ l0 11 (σ.2.2 l1 11)) l0 12 ((j_setR σ l0 11 (σ.2.2 l1 11)).1 l1 12)).1 l1 13)).1 l1 0)).1 l1 3)) (j_cr l1 1) 0 (j_cr l0 1) 0 10).bind fun σ1 => jc (j_is 0 l1) (jc (j_is 0 l0) ((j_copy σ1 (j_cr l1 2) 0 (j_cr l0 2) 0 10).bind fun σ2 => jc (j_is 0 l1) (jc (j_is 0 l0) ((j_copy σ2 (j_cr l1 4) 0 (j_cr l0 4) 0 30).bind fun σ3 => jc (j_is 0 l1) (jc (j_is 0 l0) ((j_copy σ3 (j_cr l1 5) 0 (j_cr l0 5) 0 30).bind fun σ4 => jc (j_is 0 l1) (jc (j_is 0 l0) ((j_copy σ4 (j_cr l1 6) 0 (j_cr l0 6) 0 30).bind fun σ5 => jc (j_is 0 l1) (jc (j_is 0 l0) ((j_copy σ5 (j_cr l1 7) 0 (j_cr l0 7) 0 30).bind fun σ6 => jc (j_is 0 l1) (jc (j_is 0 l0) ((j_copy σ6 (j_cr l1 8) 0 (j_cr l0 8) 0 30).bind fun σ7 => jc (j_is 0 l1) (jc (j_is 0 l0) ((j_copy σ7 (j_cr l1 9) 0 (j_cr l0 9) 0 30).bind fun σ8 => jc (j_is 0 l1) (jc (j_is 0 l0) ((j_copy σ8 (j_cr l1 10) 0 (j_cr l0 10) 0 30).bind fun σ9 => some (none, σ9)))))))))))))))))))))))))))))) := (db_eq _ _ _ _ _ _ _).trans rfl
noncomputable def b_Jo_add_0 (d : Nat) (l0 : Nat) (l1 : Int32) (l2 : Int32) (l3 : Int32) (σ : jS) : jR := db (jd jMT d) 1 k_Jo_add 0 [(0, .ref l0), (1, .int l1), (2, .int l2), (3, .int l3)] [] σ
noncomputable def b_Jo_add_1 (d : Nat) (l0 : Nat) (l1 : Int32) (l2 : Int32) (l3 : Int32) (σ : jS) : jR := db (jd jMT d) 1 k_Jo_add 1 [(0, .ref l0), (1, .int l1), (2, .int l2), (3, .int l3)] [] σ
theorem e_Jo_add (d : Nat) (l0 : Nat) (l1 : Int32) (l2 : Int32) (l3 : Int32) (σ : jS) : g_Jo_add (d + 1) l0 l1 l2 l3 σ = b_Jo_add_0 d l0 l1 l2 l3 σ := rfl
set_option maxRecDepth 100000 in
theorem q_Jo_add_0 (d : Nat) (l0 : Nat) (l1 : Int32) (l2 : Int32) (l3 : Int32) (σ : jS) : b_Jo_add_0 d l0 l1 l2 l3 σ = (jc (j_is 0 l0) (jif ((σ.1 l0 3) < 30) (b_Jo_add_1 d l0 l1 l2 l3 σ) (some (some (.int (-1)), σ)))) := (db_eq _ _ _ _ _ _ _).trans rfl
set_option maxRecDepth 100000 in
theorem q_Jo_add_1 (d : Nat) (l0 : Nat) (l1 : Int32) (l2 : Int32) (l3 : Int32) (σ : jS) : b_Jo_add_1 d l0 l1 l2 l3 σ = (jc (j_is 0 l0) (jc (j_is 0 l0) ((j_wrI σ (j_cr l0 4) (σ.1 l0 3) l1).bind fun σ1 => jc (j_is 0 l0) (jc (j_is 0 l0) ((j_wrI σ1 (j_cr l0 5) (σ1.1 l0 3) l2).bind fun σ2 => jc (j_is 0 l0) (jc (j_is 0 l0) ((j_wrI σ2 (j_cr l0 6) (σ2.1 l0 3) l3).bind fun σ3 => jc (j_is 0 l0) (jc (j_is 0 l0) ((j_wrI σ3 (j_cr l0 7) (σ3.1 l0 3) 0).bind fun σ4 => jc (j_is 0 l0) (jc (j_is 0 l0) ((j_wrI σ4 (j_cr l0 8) (σ4.1 l0 3) 0).bind fun σ5 => jc (j_is 0 l0) (jc (j_is 0 l0) ((j_wrI σ5 (j_cr l0 9) (σ5.1 l0 3) 0).bind fun σ6 => jc (j_is 0 l0) (jc (j_is 0 l0) ((j_wrI σ6 (j_cr l0 10) (σ6.1 l0 3) (-1)).bind fun σ7 => jc (j_is 0 l0) (jc (j_is 0 l0) (jc (j_is 0 l0) (some (some (.int (((j_setI σ7 l0 3 ((σ7.1 l0 3) + 1)).1 l0 3) - 1)), (j_setI σ7 l0 3 ((σ7.1 l0 3) + 1))))))))))))))))))))) := (db_eq _ _ _ _ _ _ _).trans rfl
noncomputable def b_Jo_isParcel_0 (d : Nat) (l0 : Nat) (l1 : Int32) (σ : jS) : jR := db (jd jMT d) 2 k_Jo_isParcel 0 [(0, .ref l0), (1, .int l1)] [] σ
theorem e_Jo_isParcel (d : Nat) (l0 : Nat) (l1 : Int32) (σ : jS) : g_Jo_isParcel (d + 1) l0 l1 σ = b_Jo_isParcel_0 d l0 l1 σ := rfl
set_option maxRecDepth 100000 in
theorem q_Jo_isParcel_0 (d : Nat) (l0 : Nat) (l1 : Int32) (σ : jS) : b_Jo_isParcel_0 d l0 l1 σ = (jc (j_is 0 l0) ((r_I (g_HH_within d l1 0 ((σ.1 l0 3) - 1) σ)).bind fun q1 => if q1.1 = 0 ∨ q1.1 = 1 then some (some (.int q1.1), q1.2) else none)) := (db_eq _ _ _ _ _ _ _).trans rfl
noncomputable def b_Jo_inState_0 (d : Nat) (l0 : Nat) (l1 : Int32) (σ : jS) : jR := db (jd jMT d) 1 k_Jo_inState 0 [(0, .ref l0), (1, .int l1)] [] σ
noncomputable def b_Jo_inState_1 (d : Nat) (l0 : Nat) (l1 : Int32) (l2 : Int32) (l3 : Int32) (σ : jS) : jR := db (jd jMT d) 1 k_Jo_inState 1 [(0, .ref l0), (1, .int l1), (2, .int l2), (3, .int l3)] [] σ
noncomputable def b_Jo_inState_2 (d : Nat) (l0 : Nat) (l1 : Int32) (l2 : Int32) (l3 : Int32) (σ : jS) : jR := db (jd jMT d) 1 k_Jo_inState 2 [(0, .ref l0), (1, .int l1), (2, .int l2), (3, .int l3)] [] σ
noncomputable def b_Jo_inState_3 (d : Nat) (l2 : Int32) (σ : jS) : jR := db (jd jMT d) 1 k_Jo_inState 3 [(2, .int l2)] [] σ
theorem e_Jo_inState (d : Nat) (l0 : Nat) (l1 : Int32) (σ : jS) : g_Jo_inState (d + 1) l0 l1 σ = b_Jo_inState_0 d l0 l1 σ := rfl
set_option maxRecDepth 100000 in
theorem q_Jo_inState_0 (d : Nat) (l0 : Nat) (l1 : Int32) (σ : jS) : b_Jo_inState_0 d l0 l1 σ = (b_Jo_inState_1 d l0 l1 0 0 σ) := (db_eq _ _ _ _ _ _ _).trans rfl
set_option maxRecDepth 100000 in
theorem q_Jo_inState_1 (d : Nat) (l0 : Nat) (l1 : Int32) (l2 : Int32) (l3 : Int32) (σ : jS) : b_Jo_inState_1 d l0 l1 l2 l3 σ = (jc (j_is 0 l0) (jif ((σ.1 l0 3) ≤ l3) (b_Jo_inState_3 d l2 σ) (jc (j_is 0 l0) ((j_rdI 0 σ (j_cr l0 7) l3).bind fun x1 => jif (x1 = l1) (b_Jo_inState_2 d l0 l1 (l2 + 1) l3 σ) (b_Jo_inState_2 d l0 l1 l2 l3 σ))))) := (db_eq _ _ _ _ _ _ _).trans rfl
set_option maxRecDepth 100000 in
theorem q_Jo_inState_2 (d : Nat) (l0 : Nat) (l1 : Int32) (l2 : Int32) (l3 : Int32) (σ : jS) : b_Jo_inState_2 d l0 l1 l2 l3 σ = (b_Jo_inState_1 d l0 l1 l2 (l3 + 1) σ) := (db_eq _ _ _ _ _ _ _).trans rfl
set_option maxRecDepth 100000 in
theorem q_Jo_inState_3 (d : Nat) (l2 : Int32) (σ : jS) : b_Jo_inState_3 d l2 σ = (some (some (.int l2), σ)) := (db_eq _ _ _ _ _ _ _).trans rfl
noncomputable def b_Jo_allCoins_0 (d : Nat) (l0 : Nat) (σ : jS) : jR := db (jd jMT d) 3 k_Jo_allCoins 0 [(0, .ref l0)] [] σ
noncomputable def b_Jo_allCoins_1 (d : Nat) (l0 : Nat) (l1 : Int64) (l3 : Int32) (σ : jS) : jR := db (jd jMT d) 3 k_Jo_allCoins 1 [(0, .ref l0), (1, .long l1), (3, .int l3)] [] σ
noncomputable def b_Jo_allCoins_2 (d : Nat) (l0 : Nat) (l1 : Int64) (σ : jS) : jR := db (jd jMT d) 3 k_Jo_allCoins 2 [(0, .ref l0), (1, .long l1)] [] σ
noncomputable def b_Jo_allCoins_3 (d : Nat) (l0 : Nat) (l1 : Int64) (l3 : Int32) (σ : jS) : jR := db (jd jMT d) 3 k_Jo_allCoins 3 [(0, .ref l0), (1, .long l1), (3, .int l3)] [] σ
noncomputable def b_Jo_allCoins_4 (d : Nat) (l1 : Int64) (σ : jS) : jR := db (jd jMT d) 3 k_Jo_allCoins 4 [(1, .long l1)] [] σ
theorem e_Jo_allCoins (d : Nat) (l0 : Nat) (σ : jS) : g_Jo_allCoins (d + 1) l0 σ = b_Jo_allCoins_0 d l0 σ := rfl
set_option maxRecDepth 100000 in
theorem q_Jo_allCoins_0 (d : Nat) (l0 : Nat) (σ : jS) : b_Jo_allCoins_0 d l0 σ = (b_Jo_allCoins_1 d l0 0 0 σ) := (db_eq _ _ _ _ _ _ _).trans rfl
set_option maxRecDepth 100000 in
theorem q_Jo_allCoins_1 (d : Nat) (l0 : Nat) (l1 : Int64) (l3 : Int32) (σ : jS) : b_Jo_allCoins_1 d l0 l1 l3 σ = (jc (j_is 0 l0) (jc (j_is 6 (σ.2.2 l0 11)) (jif ((σ.1 (σ.2.2 l0 11) 0) ≤ l3) (b_Jo_allCoins_2 d l0 l1 σ) (jc (j_is 0 l0) ((j_rdI 0 σ (j_cr l0 1) l3).bind fun x1 => b_Jo_allCoins_1 d l0 (l1 + (Int32.toInt64 x1)) (l3 + 1) σ))))) := (db_eq _ _ _ _ _ _ _).trans rfl
set_option maxRecDepth 100000 in
theorem q_Jo_allCoins_2 (d : Nat) (l0 : Nat) (l1 : Int64) (σ : jS) : b_Jo_allCoins_2 d l0 l1 σ = (b_Jo_allCoins_3 d l0 l1 0 σ) := (db_eq _ _ _ _ _ _ _).trans rfl
set_option maxRecDepth 100000 in
theorem q_Jo_allCoins_3 (d : Nat) (l0 : Nat) (l1 : Int64) (l3 : Int32) (σ : jS) : b_Jo_allCoins_3 d l0 l1 l3 σ = (jc (j_is 0 l0) (jif ((σ.1 l0 3) ≤ l3) (b_Jo_allCoins_4 d l1 σ) (jc (j_is 0 l0) ((j_rdI 0 σ (j_cr l0 8) l3).bind fun x1 => b_Jo_allCoins_3 d l0 (l1 + (Int32.toInt64 x1)) (l3 + 1) σ)))) := (db_eq _ _ _ _ _ _ _).trans rfl
set_option maxRecDepth 100000 in
theorem q_Jo_allCoins_4 (d : Nat) (l1 : Int64) (σ : jS) : b_Jo_allCoins_4 d l1 σ = (some (some (.long l1), σ)) := (db_eq _ _ _ _ _ _ _).trans rfl
noncomputable def b_Jo_hoursTillRest_0 (d : Nat) (l0 : Nat) (σ : jS) : jR := db (jd jMT d) 1 k_Jo_hoursTillRest 0 [(0, .ref l0)] [] σ
noncomputable def b_Jo_hoursTillRest_1 (d : Nat) (l0 : Nat) (l1 : Int32) (σ : jS) : jR := db (jd jMT d) 1 k_Jo_hoursTillRest 1 [(0, .ref l0), (1, .int l1)] [] σ
noncomputable def b_Jo_hoursTillRest_2 (d : Nat) (l0 : Nat) (l1 : Int32) (σ : jS) : jR := db (jd jMT d) 1 k_Jo_hoursTillRest 2 [(0, .ref l0), (1, .int l1)] [] σ
noncomputable def b_Jo_hoursTillRest_3 (d : Nat) (σ : jS) : jR := db (jd jMT d) 1 k_Jo_hoursTillRest 3 [] [] σ
theorem e_Jo_hoursTillRest (d : Nat) (l0 : Nat) (σ : jS) : g_Jo_hoursTillRest (d + 1) l0 σ = b_Jo_hoursTillRest_0 d l0 σ := rfl
set_option maxRecDepth 100000 in
theorem q_Jo_hoursTillRest_0 (d : Nat) (l0 : Nat) (σ : jS) : b_Jo_hoursTillRest_0 d l0 σ = (b_Jo_hoursTillRest_1 d l0 0 σ) := (db_eq _ _ _ _ _ _ _).trans rfl
set_option maxRecDepth 100000 in
theorem q_Jo_hoursTillRest_1 (d : Nat) (l0 : Nat) (l1 : Int32) (σ : jS) : b_Jo_hoursTillRest_1 d l0 l1 σ = (jif (3000 < l1) (b_Jo_hoursTillRest_3 d σ) (jc (j_is 0 l0) ((r_I (g_Jo_inState d l0 2 σ)).bind fun q1 => jc (j_is 0 l0) (jif (q1.1 = (q1.2.1 l0 3)) (some (some (.int l1), q1.2)) (b_Jo_hoursTillRest_2 d l0 l1 q1.2))))) := (db_eq _ _ _ _ _ _ _).trans rfl
set_option maxRecDepth 100000 in
theorem q_Jo_hoursTillRest_2 (d : Nat) (l0 : Nat) (l1 : Int32) (σ : jS) : b_Jo_hoursTillRest_2 d l0 l1 σ = (jc (j_is 0 l0) ((r_V (g_Jo_pass d l0 σ)).bind fun σ1 => b_Jo_hoursTillRest_1 d l0 (l1 + 1) σ1)) := (db_eq _ _ _ _ _ _ _).trans rfl
set_option maxRecDepth 100000 in
theorem q_Jo_hoursTillRest_3 (d : Nat) (σ : jS) : b_Jo_hoursTillRest_3 d σ = (some (some (.int (-2)), σ)) := (db_eq _ _ _ _ _ _ _).trans rfl
noncomputable def b_Jo_passTo_0 (d : Nat) (l0 : Nat) (l1 : Int32) (σ : jS) : jR := db (jd jMT d) 0 k_Jo_passTo 0 [(0, .ref l0), (1, .int l1)] [] σ
noncomputable def b_Jo_passTo_1 (d : Nat) (l0 : Nat) (l1 : Int32) (l2 : Int32) (σ : jS) : jR := db (jd jMT d) 0 k_Jo_passTo 1 [(0, .ref l0), (1, .int l1), (2, .int l2)] [] σ
noncomputable def b_Jo_passTo_2 (d : Nat) (σ : jS) : jR := db (jd jMT d) 0 k_Jo_passTo 2 [] [] σ
theorem e_Jo_passTo (d : Nat) (l0 : Nat) (l1 : Int32) (σ : jS) : g_Jo_passTo (d + 1) l0 l1 σ = b_Jo_passTo_0 d l0 l1 σ := rfl
set_option maxRecDepth 100000 in
theorem q_Jo_passTo_0 (d : Nat) (l0 : Nat) (l1 : Int32) (σ : jS) : b_Jo_passTo_0 d l0 l1 σ = (jc (j_is 0 l0) (b_Jo_passTo_1 d l0 l1 (σ.1 l0 0) σ)) := (db_eq _ _ _ _ _ _ _).trans rfl
set_option maxRecDepth 100000 in
theorem q_Jo_passTo_1 (d : Nat) (l0 : Nat) (l1 : Int32) (l2 : Int32) (σ : jS) : b_Jo_passTo_1 d l0 l1 l2 σ = (jif (l1 ≤ l2) (b_Jo_passTo_2 d σ) (jc (j_is 0 l0) ((r_V (g_Jo_pass d l0 σ)).bind fun σ1 => b_Jo_passTo_1 d l0 l1 (l2 + 1) σ1))) := (db_eq _ _ _ _ _ _ _).trans rfl
set_option maxRecDepth 100000 in
theorem q_Jo_passTo_2 (d : Nat) (σ : jS) : b_Jo_passTo_2 d σ = (some (none, σ)) := (db_eq _ _ _ _ _ _ _).trans rfl
noncomputable def b_Jo_pass_0 (d : Nat) (l0 : Nat) (σ : jS) : jR := db (jd jMT d) 0 k_Jo_pass 0 [(0, .ref l0)] [] σ
noncomputable def b_Jo_pass_1 (d : Nat) (l0 : Nat) (l1 : Int32) (σ : jS) : jR := db (jd jMT d) 0 k_Jo_pass 1 [(0, .ref l0), (1, .int l1)] [] σ
noncomputable def b_Jo_pass_2 (d : Nat) (l0 : Nat) (l1 : Int32) (σ : jS) : jR := db (jd jMT d) 0 k_Jo_pass 2 [(0, .ref l0), (1, .int l1)] [] σ
noncomputable def b_Jo_pass_3 (d : Nat) (l0 : Nat) (σ : jS) : jR := db (jd jMT d) 0 k_Jo_pass 3 [(0, .ref l0)] [] σ
noncomputable def b_Jo_pass_4 (d : Nat) (l0 : Nat) (l1 : Int32) (σ : jS) : jR := db (jd jMT d) 0 k_Jo_pass 4 [(0, .ref l0), (1, .int l1)] [] σ
noncomputable def b_Jo_pass_5 (d : Nat) (l0 : Nat) (l1 : Int32) (σ : jS) : jR := db (jd jMT d) 0 k_Jo_pass 5 [(0, .ref l0), (1, .int l1)] [] σ
noncomputable def b_Jo_pass_6 (d : Nat) (l0 : Nat) (σ : jS) : jR := db (jd jMT d) 0 k_Jo_pass 6 [(0, .ref l0)] [] σ
theorem e_Jo_pass (d : Nat) (l0 : Nat) (σ : jS) : g_Jo_pass (d + 1) l0 σ = b_Jo_pass_0 d l0 σ := rfl
set_option maxRecDepth 100000 in
theorem q_Jo_pass_0 (d : Nat) (l0 : Nat) (σ : jS) : b_Jo_pass_0 d l0 σ = (b_Jo_pass_1 d l0 0 σ) := (db_eq _ _ _ _ _ _ _).trans rfl
set_option maxRecDepth 100000 in
theorem q_Jo_pass_1 (d : Nat) (l0 : Nat) (l1 : Int32) (σ : jS) : b_Jo_pass_1 d l0 l1 σ = (jc (j_is 0 l0) (jif ((σ.1 l0 3) ≤ l1) (b_Jo_pass_3 d l0 σ) (jc (j_is 0 l0) ((j_rdI 0 σ (j_cr l0 7) l1).bind fun x1 => jif (x1 = 0) (jc (j_is 0 l0) ((j_rdI 0 σ (j_cr l0 6) l1).bind fun x2 => jc (j_is 0 l0) (jif (x2 = (σ.1 l0 0)) (jc (j_is 0 l0) ((r_I (g_Jo_isLeftOut d l0 l1 σ)).bind fun q3 => jif (q3.1 = 0) (jc (j_is 0 l0) ((r_V (g_Jo_dispatch d l0 l1 q3.2)).bind fun σ4 => b_Jo_pass_2 d l0 l1 σ4)) (b_Jo_pass_2 d l0 l1 q3.2))) (b_Jo_pass_2 d l0 l1 σ)))) (b_Jo_pass_2 d l0 l1 σ))))) := (db_eq _ _ _ _ _ _ _).trans rfl
set_option maxRecDepth 100000 in
theorem q_Jo_pass_2 (d : Nat) (l0 : Nat) (l1 : Int32) (σ : jS) : b_Jo_pass_2 d l0 l1 σ = (b_Jo_pass_1 d l0 (l1 + 1) σ) := (db_eq _ _ _ _ _ _ _).trans rfl
set_option maxRecDepth 100000 in
theorem q_Jo_pass_3 (d : Nat) (l0 : Nat) (σ : jS) : b_Jo_pass_3 d l0 σ = (b_Jo_pass_4 d l0 0 σ) := (db_eq _ _ _ _ _ _ _).trans rfl
set_option maxRecDepth 100000 in
theorem q_Jo_pass_4 (d : Nat) (l0 : Nat) (l1 : Int32) (σ : jS) : b_Jo_pass_4 d l0 l1 σ = (jc (j_is 0 l0) (jif ((σ.1 l0 3) ≤ l1) (b_Jo_pass_6 d l0 σ) (jc (j_is 0 l0) ((j_rdI 0 σ (j_cr l0 7) l1).bind fun x1 => jif (x1 = 1) (jc (j_is 0 l0) ((j_rdI 0 σ (j_cr l0 6) l1).bind fun x2 => jc (j_is 0 l0) (jif ((σ.1 l0 0) ≤ x2) (b_Jo_pass_5 d l0 l1 σ) (jc (j_is 0 l0) ((r_V (g_Jo_bring d l0 l1 σ)).bind fun σ3 => b_Jo_pass_5 d l0 l1 σ3))))) (b_Jo_pass_5 d l0 l1 σ))))) := (db_eq _ _ _ _ _ _ _).trans rfl
set_option maxRecDepth 100000 in
theorem q_Jo_pass_5 (d : Nat) (l0 : Nat) (l1 : Int32) (σ : jS) : b_Jo_pass_5 d l0 l1 σ = (b_Jo_pass_4 d l0 (l1 + 1) σ) := (db_eq _ _ _ _ _ _ _).trans rfl
set_option maxRecDepth 100000 in
theorem q_Jo_pass_6 (d : Nat) (l0 : Nat) (σ : jS) : b_Jo_pass_6 d l0 σ = (jc (j_is 0 l0) (jc (j_is 0 l0) (some (none, (j_setI σ l0 0 ((σ.1 l0 0) + 1)))))) := (db_eq _ _ _ _ _ _ _).trans rfl
noncomputable def b_Jo_isLeftOut_0 (d : Nat) (l0 : Nat) (l1 : Int32) (σ : jS) : jR := db (jd jMT d) 2 k_Jo_isLeftOut 0 [(0, .ref l0), (1, .int l1)] [] σ
noncomputable def b_Jo_isLeftOut_1 (d : Nat) (σ : jS) : jR := db (jd jMT d) 2 k_Jo_isLeftOut 1 [] [] σ
noncomputable def b_Jo_isLeftOut_2 (d : Nat) (s0 : Int32) (σ : jS) : jR := db (jd jMT d) 2 k_Jo_isLeftOut 2 [] [.int s0] σ
theorem e_Jo_isLeftOut (d : Nat) (l0 : Nat) (l1 : Int32) (σ : jS) : g_Jo_isLeftOut (d + 1) l0 l1 σ = b_Jo_isLeftOut_0 d l0 l1 σ := rfl
set_option maxRecDepth 100000 in
theorem q_Jo_isLeftOut_0 (d : Nat) (l0 : Nat) (l1 : Int32) (σ : jS) : b_Jo_isLeftOut_0 d l0 l1 σ = (jc (j_is 0 l0) (jif ((σ.1 l0 12) = 5) (jc (j_is 0 l0) (jif ((σ.1 l0 13) = l1) (b_Jo_isLeftOut_2 d 1 σ) (b_Jo_isLeftOut_1 d σ))) (b_Jo_isLeftOut_1 d σ))) := (db_eq _ _ _ _ _ _ _).trans rfl
set_option maxRecDepth 100000 in
theorem q_Jo_isLeftOut_1 (d : Nat) (σ : jS) : b_Jo_isLeftOut_1 d σ = (b_Jo_isLeftOut_2 d 0 σ) := (db_eq _ _ _ _ _ _ _).trans rfl
set_option maxRecDepth 100000 in
theorem q_Jo_isLeftOut_2 (d : Nat) (s0 : Int32) (σ : jS) : b_Jo_isLeftOut_2 d s0 σ = (if s0 = 0 ∨ s0 = 1 then some (some (.int s0), σ) else none) := (db_eq _ _ _ _ _ _ _).trans rfl
noncomputable def b_Jo_dispatch_0 (d : Nat) (l0 : Nat) (l1 : Int32) (σ : jS) : jR := db (jd jMT d) 0 k_Jo_dispatch 0 [(0, .ref l0), (1, .int l1)] [] σ
noncomputable def b_Jo_dispatch_1 (d : Nat) (l0 : Nat) (l1 : Int32) (σ : jS) : jR := db (jd jMT d) 0 k_Jo_dispatch 1 [(0, .ref l0), (1, .int l1)] [] σ
noncomputable def b_Jo_dispatch_2 (d : Nat) (σ : jS) : jR := db (jd jMT d) 0 k_Jo_dispatch 2 [] [] σ
theorem e_Jo_dispatch (d : Nat) (l0 : Nat) (l1 : Int32) (σ : jS) : g_Jo_dispatch (d + 1) l0 l1 σ = b_Jo_dispatch_0 d l0 l1 σ := rfl
set_option maxRecDepth 100000 in
theorem q_Jo_dispatch_0 (d : Nat) (l0 : Nat) (l1 : Int32) (σ : jS) : b_Jo_dispatch_0 d l0 l1 σ = (jc (j_is 0 l0) (jc (j_is 0 l0) ((j_rdI 0 σ (j_cr l0 5) l1).bind fun x1 => (j_wrI σ (j_cr l0 8) l1 x1).bind fun σ2 => jc (j_is 0 l0) ((j_rdI 0 σ2 (j_cr l0 4) l1).bind fun x3 => jc (j_is 0 l0) ((r_I (g_Jo_waysOf d l0 x3 σ2)).bind fun q4 => jif (q4.1 = 0) (jc (j_is 0 l0) ((j_rdI 0 q4.2 (j_cr l0 4) l1).bind fun x5 => jc (j_is 0 l0) ((r_V (g_Jo_settle d l0 l1 x5 q4.2)).bind fun σ6 => b_Jo_dispatch_2 d σ6))) (b_Jo_dispatch_1 d l0 l1 q4.2)))))) := (db_eq _ _ _ _ _ _ _).trans rfl
set_option maxRecDepth 100000 in
theorem q_Jo_dispatch_1 (d : Nat) (l0 : Nat) (l1 : Int32) (σ : jS) : b_Jo_dispatch_1 d l0 l1 σ = (jc (j_is 0 l0) ((j_rdI 0 σ (j_cr l0 4) l1).bind fun x1 => jc (j_is 0 l0) ((r_V (g_Jo_handOn d l0 l1 x1 σ)).bind fun σ2 => b_Jo_dispatch_2 d σ2))) := (db_eq _ _ _ _ _ _ _).trans rfl
set_option maxRecDepth 100000 in
theorem q_Jo_dispatch_2 (d : Nat) (σ : jS) : b_Jo_dispatch_2 d σ = (some (none, σ)) := (db_eq _ _ _ _ _ _ _).trans rfl
noncomputable def b_Jo_bring_0 (d : Nat) (l0 : Nat) (l1 : Int32) (σ : jS) : jR := db (jd jMT d) 0 k_Jo_bring 0 [(0, .ref l0), (1, .int l1)] [] σ
noncomputable def b_Jo_bring_1 (d : Nat) (l0 : Nat) (l1 : Int32) (l2 : Int32) (σ : jS) : jR := db (jd jMT d) 0 k_Jo_bring 1 [(0, .ref l0), (1, .int l1), (2, .int l2)] [] σ
noncomputable def b_Jo_bring_2 (d : Nat) (l0 : Nat) (l1 : Int32) (l2 : Int32) (σ : jS) : jR := db (jd jMT d) 0 k_Jo_bring 2 [(0, .ref l0), (1, .int l1), (2, .int l2)] [] σ
noncomputable def b_Jo_bring_3 (d : Nat) (l0 : Nat) (l1 : Int32) (l2 : Int32) (σ : jS) : jR := db (jd jMT d) 0 k_Jo_bring 3 [(0, .ref l0), (1, .int l1), (2, .int l2)] [] σ
noncomputable def b_Jo_bring_4 (d : Nat) (σ : jS) : jR := db (jd jMT d) 0 k_Jo_bring 4 [] [] σ
theorem e_Jo_bring (d : Nat) (l0 : Nat) (l1 : Int32) (σ : jS) : g_Jo_bring (d + 1) l0 l1 σ = b_Jo_bring_0 d l0 l1 σ := rfl
set_option maxRecDepth 100000 in
theorem q_Jo_bring_0 (d : Nat) (l0 : Nat) (l1 : Int32) (σ : jS) : b_Jo_bring_0 d l0 l1 σ = (jc (j_is 0 l0) ((j_rdI 0 σ (j_cr l0 10) l1).bind fun x1 => jc (j_is 0 l0) ((j_rdI 0 σ (j_cr l0 9) l1).bind fun x2 => (j_wrI σ (j_cr l0 9) l1 (x2 + 1)).bind fun σ3 => jc (j_is 0 l0) ((r_I (g_Jo_waysOf d l0 x1 σ3)).bind fun q4 => jif (q4.1 = 0) (b_Jo_bring_1 d l0 l1 x1 q4.2) (jc (j_is 0 l0) ((j_rdI 0 q4.2 (j_cr l0 9) l1).bind fun x5 => jif (x5 < 100) (b_Jo_bring_2 d l0 l1 x1 q4.2) (b_Jo_bring_1 d l0 l1 x1 q4.2))))))) := (db_eq _ _ _ _ _ _ _).trans rfl
set_option maxRecDepth 100000 in
theorem q_Jo_bring_1 (d : Nat) (l0 : Nat) (l1 : Int32) (l2 : Int32) (σ : jS) : b_Jo_bring_1 d l0 l1 l2 σ = (jc (j_is 0 l0) ((r_V (g_Jo_settle d l0 l1 l2 σ)).bind fun σ1 => some (none, σ1))) := (db_eq _ _ _ _ _ _ _).trans rfl
set_option maxRecDepth 100000 in
theorem q_Jo_bring_2 (d : Nat) (l0 : Nat) (l1 : Int32) (l2 : Int32) (σ : jS) : b_Jo_bring_2 d l0 l1 l2 σ = (jc (j_is 0 l0) ((r_I (g_Jo_shareOf d l0 l2 l1 σ)).bind fun q1 => jc (j_is 0 l0) ((j_rdI 0 q1.2 (j_cr l0 1) l2).bind fun x2 => (j_wrI q1.2 (j_cr l0 1) l2 (x2 + q1.1)).bind fun σ3 => jc (j_is 0 l0) ((j_rdI 0 σ3 (j_cr l0 8) l1).bind fun x4 => (j_wrI σ3 (j_cr l0 8) l1 (x4 - q1.1)).bind fun σ5 => jc (j_is 0 l0) ((j_rdI 0 σ5 (j_cr l0 8) l1).bind fun x6 => jif (x6 ≤ 0) (b_Jo_bring_3 d l0 l1 l2 σ5) (jc (j_is 0 l0) ((r_V (g_Jo_handOn d l0 l1 l2 σ5)).bind fun σ7 => b_Jo_bring_4 d σ7))))))) := (db_eq _ _ _ _ _ _ _).trans rfl
set_option maxRecDepth 100000 in
theorem q_Jo_bring_3 (d : Nat) (l0 : Nat) (l1 : Int32) (l2 : Int32) (σ : jS) : b_Jo_bring_3 d l0 l1 l2 σ = (jc (j_is 0 l0) ((r_V (g_Jo_settle d l0 l1 l2 σ)).bind fun σ1 => b_Jo_bring_4 d σ1)) := (db_eq _ _ _ _ _ _ _).trans rfl
set_option maxRecDepth 100000 in
theorem q_Jo_bring_4 (d : Nat) (σ : jS) : b_Jo_bring_4 d σ = (some (none, σ)) := (db_eq _ _ _ _ _ _ _).trans rfl
noncomputable def b_Jo_waysOf_0 (d : Nat) (l0 : Nat) (l1 : Int32) (σ : jS) : jR := db (jd jMT d) 1 k_Jo_waysOf 0 [(0, .ref l0), (1, .int l1)] [] σ
noncomputable def b_Jo_waysOf_1 (d : Nat) (l0 : Nat) (l2 : Int32) (σ : jS) : jR := db (jd jMT d) 1 k_Jo_waysOf 1 [(0, .ref l0), (2, .int l2)] [] σ
noncomputable def b_Jo_waysOf_2 (d : Nat) (l2 : Int32) (σ : jS) : jR := db (jd jMT d) 1 k_Jo_waysOf 2 [(2, .int l2)] [] σ
noncomputable def b_Jo_waysOf_3 (d : Nat) (s0 : Int32) (σ : jS) : jR := db (jd jMT d) 1 k_Jo_waysOf 3 [] [.int s0] σ
theorem e_Jo_waysOf (d : Nat) (l0 : Nat) (l1 : Int32) (σ : jS) : g_Jo_waysOf (d + 1) l0 l1 σ = b_Jo_waysOf_0 d l0 l1 σ := rfl
set_option maxRecDepth 100000 in
theorem q_Jo_waysOf_0 (d : Nat) (l0 : Nat) (l1 : Int32) (σ : jS) : b_Jo_waysOf_0 d l0 l1 σ = (jc (j_is 0 l0) (jc (j_is 6 (σ.2.2 l0 11)) ((j_rdI 0 σ (j_cr (σ.2.2 l0 11) 4) l1).bind fun x1 => jc (j_is 0 l0) (jif ((σ.1 l0 12) = 0) (jc (j_is 0 l0) (jif ((σ.1 l0 13) = l1) (some (some (.int 0), σ)) (b_Jo_waysOf_1 d l0 x1 σ))) (b_Jo_waysOf_1 d l0 x1 σ))))) := (db_eq _ _ _ _ _ _ _).trans rfl
set_option maxRecDepth 100000 in
theorem q_Jo_waysOf_1 (d : Nat) (l0 : Nat) (l2 : Int32) (σ : jS) : b_Jo_waysOf_1 d l0 l2 σ = (jc (j_is 0 l0) (jif ((σ.1 l0 12) = 2) (b_Jo_waysOf_3 d (if (1 : Int32) < l2 then 1 else l2) σ) (b_Jo_waysOf_2 d l2 σ))) := (db_eq _ _ _ _ _ _ _).trans rfl
set_option maxRecDepth 100000 in
theorem q_Jo_waysOf_2 (d : Nat) (l2 : Int32) (σ : jS) : b_Jo_waysOf_2 d l2 σ = (b_Jo_waysOf_3 d l2 σ) := (db_eq _ _ _ _ _ _ _).trans rfl
set_option maxRecDepth 100000 in
theorem q_Jo_waysOf_3 (d : Nat) (s0 : Int32) (σ : jS) : b_Jo_waysOf_3 d s0 σ = (some (some (.int s0), σ)) := (db_eq _ _ _ _ _ _ _).trans rfl
noncomputable def b_Jo_shareOf_0 (d : Nat) (l0 : Nat) (l1 : Int32) (l2 : Int32) (σ : jS) : jR := db (jd jMT d) 1 k_Jo_shareOf 0 [(0, .ref l0), (1, .int l1), (2, .int l2)] [] σ
noncomputable def b_Jo_shareOf_1 (d : Nat) (l0 : Nat) (l1 : Int32) (l2 : Int32) (l3 : Int32) (σ : jS) : jR := db (jd jMT d) 1 k_Jo_shareOf 1 [(0, .ref l0), (1, .int l1), (2, .int l2), (3, .int l3)] [] σ
noncomputable def b_Jo_shareOf_2 (d : Nat) (l0 : Nat) (l1 : Int32) (l2 : Int32) (l3 : Int32) (σ : jS) : jR := db (jd jMT d) 1 k_Jo_shareOf 2 [(0, .ref l0), (1, .int l1), (2, .int l2), (3, .int l3)] [] σ
noncomputable def b_Jo_shareOf_3 (d : Nat) (l3 : Int32) (σ : jS) : jR := db (jd jMT d) 1 k_Jo_shareOf 3 [(3, .int l3)] [] σ
noncomputable def b_Jo_shareOf_4 (d : Nat) (l3 : Int32) (s0 : Int32) (σ : jS) : jR := db (jd jMT d) 1 k_Jo_shareOf 4 [(3, .int l3)] [.int s0] σ
noncomputable def b_Jo_shareOf_5 (d : Nat) (l3 : Int32) (σ : jS) : jR := db (jd jMT d) 1 k_Jo_shareOf 5 [(3, .int l3)] [] σ
noncomputable def b_Jo_shareOf_6 (d : Nat) (s0 : Int32) (σ : jS) : jR := db (jd jMT d) 1 k_Jo_shareOf 6 [] [.int s0] σ
theorem e_Jo_shareOf (d : Nat) (l0 : Nat) (l1 : Int32) (l2 : Int32) (σ : jS) : g_Jo_shareOf (d + 1) l0 l1 l2 σ = b_Jo_shareOf_0 d l0 l1 l2 σ := rfl
set_option maxRecDepth 100000 in
theorem q_Jo_shareOf_0 (d : Nat) (l0 : Nat) (l1 : Int32) (l2 : Int32) (σ : jS) : b_Jo_shareOf_0 d l0 l1 l2 σ = (jc (j_is 0 l0) ((j_rdI 0 σ (j_cr l0 8) l2).bind fun x1 => jc (j_is 0 l0) (jif ((σ.1 l0 12) = 4) (some (some (.int (x1 / 2)), σ)) (b_Jo_shareOf_1 d l0 l1 l2 x1 σ)))) := (db_eq _ _ _ _ _ _ _).trans rfl
set_option maxRecDepth 100000 in
theorem q_Jo_shareOf_1 (d : Nat) (l0 : Nat) (l1 : Int32) (l2 : Int32) (l3 : Int32) (σ : jS) : b_Jo_shareOf_1 d l0 l1 l2 l3 σ = (jc (j_is 0 l0) (jif ((σ.1 l0 12) = 3) (jc (j_is 0 l0) (jif ((σ.1 l0 13) = l1) (some (some (.int (l3 - (l3 / 2))), σ)) (b_Jo_shareOf_2 d l0 l1 l2 l3 σ))) (b_Jo_shareOf_2 d l0 l1 l2 l3 σ))) := (db_eq _ _ _ _ _ _ _).trans rfl
set_option maxRecDepth 100000 in
theorem q_Jo_shareOf_2 (d : Nat) (l0 : Nat) (l1 : Int32) (l2 : Int32) (l3 : Int32) (σ : jS) : b_Jo_shareOf_2 d l0 l1 l2 l3 σ = (jc (j_is 0 l0) ((r_I (g_Jo_ageOf d l0 l1 σ)).bind fun q1 => jc (j_is 0 l0) (jc (j_is 0 l0) ((j_rdI 0 q1.2 (j_cr l0 2) l1).bind fun x2 => jc (j_is 6 (q1.2.2.2 l0 11)) ((r_I (g_Te_heir d (q1.2.2.2 l0 11) l1 x2 q1.2)).bind fun q3 => jc (j_is 0 l0) ((r_I (g_Jo_ageOf d l0 q3.1 q3.2)).bind fun q4 => jif ((l3 - l3 / 2 * 2) = 0) (b_Jo_shareOf_3 d l3 q4.2) (jc (j_is 0 l0) (jc (j_is 6 (q4.2.2.2 l0 11)) (jc (j_is 0 l0) ((j_rdI 0 q4.2 (j_cr l0 9) l2).bind fun x5 => jc (j_is 0 l0) (jc (j_is 1 (j_cr (q4.2.2.2 l0 11) 12)) ((r_I (g_La_oddStays d (j_cr (q4.2.2.2 l0 11) 12) 4 l3 q1.1 q4.1 x5 (q4.2.1 l0 0) q4.2)).bind fun q6 => jif (q6.1 = 0) (b_Jo_shareOf_3 d l3 q6.2) (b_Jo_shareOf_4 d l3 1 q6.2))))))))))))) := (db_eq _ _ _ _ _ _ _).trans rfl
set_option maxRecDepth 100000 in
theorem q_Jo_shareOf_3 (d : Nat) (l3 : Int32) (σ : jS) : b_Jo_shareOf_3 d l3 σ = (b_Jo_shareOf_4 d l3 0 σ) := (db_eq _ _ _ _ _ _ _).trans rfl
set_option maxRecDepth 100000 in
theorem q_Jo_shareOf_4 (d : Nat) (l3 : Int32) (s0 : Int32) (σ : jS) : b_Jo_shareOf_4 d l3 s0 σ = (jif (s0 = 0) (b_Jo_shareOf_5 d l3 σ) (b_Jo_shareOf_6 d ((l3 / 2) + 1) σ)) := (db_eq _ _ _ _ _ _ _).trans rfl
set_option maxRecDepth 100000 in
theorem q_Jo_shareOf_5 (d : Nat) (l3 : Int32) (σ : jS) : b_Jo_shareOf_5 d l3 σ = (b_Jo_shareOf_6 d (l3 / 2) σ) := (db_eq _ _ _ _ _ _ _).trans rfl
set_option maxRecDepth 100000 in
theorem q_Jo_shareOf_6 (d : Nat) (s0 : Int32) (σ : jS) : b_Jo_shareOf_6 d s0 σ = (some (some (.int s0), σ)) := (db_eq _ _ _ _ _ _ _).trans rfl
noncomputable def b_Jo_ageOf_0 (d : Nat) (l0 : Nat) (l1 : Int32) (σ : jS) : jR := db (jd jMT d) 1 k_Jo_ageOf 0 [(0, .ref l0), (1, .int l1)] [] σ
noncomputable def b_Jo_ageOf_1 (d : Nat) (σ : jS) : jR := db (jd jMT d) 1 k_Jo_ageOf 1 [] [] σ
noncomputable def b_Jo_ageOf_2 (d : Nat) (l0 : Nat) (l1 : Int32) (σ : jS) : jR := db (jd jMT d) 1 k_Jo_ageOf 2 [(0, .ref l0), (1, .int l1)] [] σ
noncomputable def b_Jo_ageOf_3 (d : Nat) (s0 : Int32) (σ : jS) : jR := db (jd jMT d) 1 k_Jo_ageOf 3 [] [.int s0] σ
theorem e_Jo_ageOf (d : Nat) (l0 : Nat) (l1 : Int32) (σ : jS) : g_Jo_ageOf (d + 1) l0 l1 σ = b_Jo_ageOf_0 d l0 l1 σ := rfl
set_option maxRecDepth 100000 in
theorem q_Jo_ageOf_0 (d : Nat) (l0 : Nat) (l1 : Int32) (σ : jS) : b_Jo_ageOf_0 d l0 l1 σ = (jc (j_is 0 l0) (jif ((σ.1 l0 12) = 1) (b_Jo_ageOf_1 d σ) (jc (j_is 0 l0) (jc (j_is 6 (σ.2.2 l0 11)) ((r_I (g_Te_isPerson d (σ.2.2 l0 11) l1 σ)).bind fun q1 => jif (q1.1 = 0) (b_Jo_ageOf_1 d q1.2) (b_Jo_ageOf_2 d l0 l1 q1.2)))))) := (db_eq _ _ _ _ _ _ _).trans rfl
set_option maxRecDepth 100000 in
theorem q_Jo_ageOf_1 (d : Nat) (σ : jS) : b_Jo_ageOf_1 d σ = (b_Jo_ageOf_3 d 0 σ) := (db_eq _ _ _ _ _ _ _).trans rfl
set_option maxRecDepth 100000 in
theorem q_Jo_ageOf_2 (d : Nat) (l0 : Nat) (l1 : Int32) (σ : jS) : b_Jo_ageOf_2 d l0 l1 σ = (jc (j_is 0 l0) (jc (j_is 6 (σ.2.2 l0 11)) ((j_rdI 0 σ (j_cr (σ.2.2 l0 11) 2) l1).bind fun x1 => b_Jo_ageOf_3 d x1 σ))) := (db_eq _ _ _ _ _ _ _).trans rfl
set_option maxRecDepth 100000 in
theorem q_Jo_ageOf_3 (d : Nat) (s0 : Int32) (σ : jS) : b_Jo_ageOf_3 d s0 σ = (some (some (.int s0), σ)) := (db_eq _ _ _ _ _ _ _).trans rfl
noncomputable def b_Jo_handOn_0 (d : Nat) (l0 : Nat) (l1 : Int32) (l2 : Int32) (σ : jS) : jR := db (jd jMT d) 0 k_Jo_handOn 0 [(0, .ref l0), (1, .int l1), (2, .int l2)] [] σ
noncomputable def b_Jo_handOn_1 (d : Nat) (s0 : Nat) (s1 : Int32) (σ : jS) : jR := db (jd jMT d) 0 k_Jo_handOn 1 [] [.int s1, .ref s0] σ
noncomputable def b_Jo_handOn_2 (d : Nat) (s0 : Nat) (s1 : Int32) (s2 : Int32) (σ : jS) : jR := db (jd jMT d) 0 k_Jo_handOn 2 [] [.int s2, .int s1, .ref s0] σ
theorem e_Jo_handOn (d : Nat) (l0 : Nat) (l1 : Int32) (l2 : Int32) (σ : jS) : g_Jo_handOn (d + 1) l0 l1 l2 σ = b_Jo_handOn_0 d l0 l1 l2 σ := rfl
set_option maxRecDepth 100000 in
theorem q_Jo_handOn_0 (d : Nat) (l0 : Nat) (l1 : Int32) (l2 : Int32) (σ : jS) : b_Jo_handOn_0 d l0 l1 l2 σ = (jc (j_is 0 l0) ((j_wrI σ (j_cr l0 7) l1 1).bind fun σ1 => jc (j_is 0 l0) (jc (j_is 0 l0) (jc (j_is 0 l0) ((j_rdI 0 σ1 (j_cr l0 2) l2).bind fun x2 => jc (j_is 6 (σ1.2.2 l0 11)) ((r_I (g_Te_heir d (σ1.2.2 l0 11) l2 x2 σ1)).bind fun q3 => (j_wrI q3.2 (j_cr l0 10) l1 q3.1).bind fun σ4 => jc (j_is 0 l0) (jc (j_is 0 l0) ((j_rdI 0 σ4 (j_cr l0 2) l2).bind fun x5 => jc (j_is 0 l0) ((r_I (g_Jo_waysOf d l0 l2 σ4)).bind fun q6 => jif (q6.1 ≤ (x5 + 1)) (b_Jo_handOn_1 d (j_cr l0 2) l2 q6.2) (jc (j_is 0 l0) ((j_rdI 0 q6.2 (j_cr l0 2) l2).bind fun x7 => b_Jo_handOn_2 d (j_cr l0 2) l2 (x7 + 1) q6.2))))))))))) := (db_eq _ _ _ _ _ _ _).trans rfl
set_option maxRecDepth 100000 in
theorem q_Jo_handOn_1 (d : Nat) (s0 : Nat) (s1 : Int32) (σ : jS) : b_Jo_handOn_1 d s0 s1 σ = (b_Jo_handOn_2 d s0 s1 0 σ) := (db_eq _ _ _ _ _ _ _).trans rfl
set_option maxRecDepth 100000 in
theorem q_Jo_handOn_2 (d : Nat) (s0 : Nat) (s1 : Int32) (s2 : Int32) (σ : jS) : b_Jo_handOn_2 d s0 s1 s2 σ = ((j_wrI σ s0 s1 s2).bind fun σ1 => some (none, σ1)) := (db_eq _ _ _ _ _ _ _).trans rfl
noncomputable def b_Jo_settle_0 (d : Nat) (l0 : Nat) (l1 : Int32) (l2 : Int32) (σ : jS) : jR := db (jd jMT d) 0 k_Jo_settle 0 [(0, .ref l0), (1, .int l1), (2, .int l2)] [] σ
theorem e_Jo_settle (d : Nat) (l0 : Nat) (l1 : Int32) (l2 : Int32) (σ : jS) : g_Jo_settle (d + 1) l0 l1 l2 σ = b_Jo_settle_0 d l0 l1 l2 σ := rfl
set_option maxRecDepth 100000 in
theorem q_Jo_settle_0 (d : Nat) (l0 : Nat) (l1 : Int32) (l2 : Int32) (σ : jS) : b_Jo_settle_0 d l0 l1 l2 σ = (jc (j_is 0 l0) ((j_rdI 0 σ (j_cr l0 1) l2).bind fun x1 => jc (j_is 0 l0) ((j_rdI 0 σ (j_cr l0 8) l1).bind fun x2 => (j_wrI σ (j_cr l0 1) l2 (x1 + x2)).bind fun σ3 => jc (j_is 0 l0) ((j_wrI σ3 (j_cr l0 8) l1 0).bind fun σ4 => jc (j_is 0 l0) ((j_wrI σ4 (j_cr l0 7) l1 2).bind fun σ5 => jc (j_is 0 l0) ((j_wrI σ5 (j_cr l0 10) l1 (-1)).bind fun σ6 => some (none, σ6))))))) := (db_eq _ _ _ _ _ _ _).trans rfl
noncomputable def b_La_clear_0 (d : Nat) (l0 : Nat) (σ : jS) : jR := db (jd jMT d) 0 k_La_clear 0 [(0, .ref l0)] [] σ
theorem e_La_clear (d : Nat) (l0 : Nat) (σ : jS) : g_La_clear (d + 1) l0 σ = b_La_clear_0 d l0 σ := rfl
set_option maxRecDepth 100000 in
theorem q_La_clear_0 (d : Nat) (l0 : Nat) (σ : jS) : b_La_clear_0 d l0 σ = (jc (j_is 1 l0) (jc (j_is 1 l0) (jc (j_is 1 l0) (some (none, (j_setI (j_setI (j_setI σ l0 0 0) l0 2 0) l0 1 0)))))) := (db_eq _ _ _ _ _ _ _).trans rfl
noncomputable def b_La_open_0 (d : Nat) (l0 : Nat) (l1 : Int32) (σ : jS) : jR := db (jd jMT d) 0 k_La_open 0 [(0, .ref l0), (1, .int l1)] [] σ
theorem e_La_open (d : Nat) (l0 : Nat) (l1 : Int32) (σ : jS) : g_La_open (d + 1) l0 l1 σ = b_La_open_0 d l0 l1 σ := rfl
set_option maxRecDepth 100000 in
theorem q_La_open_0 (d : Nat) (l0 : Nat) (l1 : Int32) (σ : jS) : b_La_open_0 d l0 l1 σ = (jc (j_is 1 l0) (jc (j_is 1 l0) ((j_wrI σ (j_cr l0 5) l1 (σ.1 l0 2)).bind fun σ1 => some (none, σ1)))) := (db_eq _ _ _ _ _ _ _).trans rfl
noncomputable def b_La_close_0 (d : Nat) (l0 : Nat) (l1 : Int32) (σ : jS) : jR := db (jd jMT d) 0 k_La_close 0 [(0, .ref l0), (1, .int l1)] [] σ
theorem e_La_close (d : Nat) (l0 : Nat) (l1 : Int32) (σ : jS) : g_La_close (d + 1) l0 l1 σ = b_La_close_0 d l0 l1 σ := rfl
set_option maxRecDepth 100000 in
theorem q_La_close_0 (d : Nat) (l0 : Nat) (l1 : Int32) (σ : jS) : b_La_close_0 d l0 l1 σ = (jc (j_is 1 l0) (jc (j_is 1 l0) ((j_wrI σ (j_cr l0 6) l1 (σ.1 l0 2)).bind fun σ1 => some (none, σ1)))) := (db_eq _ _ _ _ _ _ _).trans rfl
noncomputable def b_La_write_0 (d : Nat) (l0 : Nat) (l1 : Int32) (l2 : Int32) (σ : jS) : jR := db (jd jMT d) 0 k_La_write 0 [(0, .ref l0), (1, .int l1), (2, .int l2)] [] σ
noncomputable def b_La_write_1 (d : Nat) (σ : jS) : jR := db (jd jMT d) 0 k_La_write 1 [] [] σ
theorem e_La_write (d : Nat) (l0 : Nat) (l1 : Int32) (l2 : Int32) (σ : jS) : g_La_write (d + 1) l0 l1 l2 σ = b_La_write_0 d l0 l1 l2 σ := rfl
set_option maxRecDepth 100000 in
theorem q_La_write_0 (d : Nat) (l0 : Nat) (l1 : Int32) (l2 : Int32) (σ : jS) : b_La_write_0 d l0 l1 l2 σ = (jc (j_is 1 l0) (jif (64 ≤ (σ.1 l0 2)) (b_La_write_1 d σ) (jc (j_is 1 l0) (jc (j_is 1 l0) ((j_wrI σ (j_cr l0 3) (σ.1 l0 2) l1).bind fun σ1 => jc (j_is 1 l0) (jc (j_is 1 l0) ((j_wrI σ1 (j_cr l0 4) (σ1.1 l0 2) l2).bind fun σ2 => jc (j_is 1 l0) (jc (j_is 1 l0) (b_La_write_1 d (j_setI σ2 l0 2 ((σ2.1 l0 2) + 1))))))))))) := (db_eq _ _ _ _ _ _ _).trans rfl
set_option maxRecDepth 100000 in
theorem q_La_write_1 (d : Nat) (σ : jS) : b_La_write_1 d σ = (some (none, σ)) := (db_eq _ _ _ _ _ _ _).trans rfl
noncomputable def b_La_oddStays_0 (d : Nat) (l0 : Nat) (l1 : Int32) (l2 : Int32) (l3 : Int32) (l4 : Int32) (l5 : Int32) (l6 : Int32) (σ : jS) : jR := db (jd jMT d) 2 k_La_oddStays 0 [(0, .ref l0), (1, .int l1), (2, .int l2), (3, .int l3), (4, .int l4), (5, .int l5), (6, .int l6)] [] σ
noncomputable def b_La_oddStays_1 (d : Nat) (σ : jS) : jR := db (jd jMT d) 2 k_La_oddStays 1 [] [] σ
noncomputable def b_La_oddStays_2 (d : Nat) (s0 : Int32) (σ : jS) : jR := db (jd jMT d) 2 k_La_oddStays 2 [] [.int s0] σ
noncomputable def b_La_oddStays_3 (d : Nat) (l0 : Nat) (l1 : Int32) (l2 : Int32) (l3 : Int32) (l4 : Int32) (l5 : Int32) (l6 : Int32) (σ : jS) : jR := db (jd jMT d) 2 k_La_oddStays 3 [(0, .ref l0), (1, .int l1), (2, .int l2), (3, .int l3), (4, .int l4), (5, .int l5), (6, .int l6)] [] σ
noncomputable def b_La_oddStays_4 (d : Nat) (σ : jS) : jR := db (jd jMT d) 2 k_La_oddStays 4 [] [] σ
noncomputable def b_La_oddStays_5 (d : Nat) (s0 : Int32) (σ : jS) : jR := db (jd jMT d) 2 k_La_oddStays 5 [] [.int s0] σ
theorem e_La_oddStays (d : Nat) (l0 : Nat) (l1 : Int32) (l2 : Int32) (l3 : Int32) (l4 : Int32) (l5 : Int32) (l6 : Int32) (σ : jS) : g_La_oddStays (d + 1) l0 l1 l2 l3 l4 l5 l6 σ = b_La_oddStays_0 d l0 l1 l2 l3 l4 l5 l6 σ := rfl
set_option maxRecDepth 100000 in
theorem q_La_oddStays_0 (d : Nat) (l0 : Nat) (l1 : Int32) (l2 : Int32) (l3 : Int32) (l4 : Int32) (l5 : Int32) (l6 : Int32) (σ : jS) : b_La_oddStays_0 d l0 l1 l2 l3 l4 l5 l6 σ = (jif (l1 = 4) (jc (j_is 1 l0) (jif ((σ.1 l0 1) = 0) (jif (l3 ≤ l4) (b_La_oddStays_1 d σ) (b_La_oddStays_2 d 1 σ)) (b_La_oddStays_3 d l0 l1 l2 l3 l4 l5 l6 σ))) (b_La_oddStays_3 d l0 l1 l2 l3 l4 l5 l6 σ)) := (db_eq _ _ _ _ _ _ _).trans rfl
set_option maxRecDepth 100000 in
theorem q_La_oddStays_1 (d : Nat) (σ : jS) : b_La_oddStays_1 d σ = (b_La_oddStays_2 d 0 σ) := (db_eq _ _ _ _ _ _ _).trans rfl
set_option maxRecDepth 100000 in
theorem q_La_oddStays_2 (d : Nat) (s0 : Int32) (σ : jS) : b_La_oddStays_2 d s0 σ = (if s0 = 0 ∨ s0 = 1 then some (some (.int s0), σ) else none) := (db_eq _ _ _ _ _ _ _).trans rfl
set_option maxRecDepth 100000 in
theorem q_La_oddStays_3 (d : Nat) (l0 : Nat) (l1 : Int32) (l2 : Int32) (l3 : Int32) (l4 : Int32) (l5 : Int32) (l6 : Int32) (σ : jS) : b_La_oddStays_3 d l0 l1 l2 l3 l4 l5 l6 σ = (jc (j_is 1 l0) ((r_L (g_La_value d l0 l1 l2 l3 l4 l5 l6 σ)).bind fun q1 => jif ((lg_cmp q1.1 0) = 0) (b_La_oddStays_4 d q1.2) (jif ((lg_cmp q1.1 (-9223372036854775808)) = 0) (b_La_oddStays_4 d q1.2) (b_La_oddStays_5 d 1 q1.2)))) := (db_eq _ _ _ _ _ _ _).trans rfl
set_option maxRecDepth 100000 in
theorem q_La_oddStays_4 (d : Nat) (σ : jS) : b_La_oddStays_4 d σ = (b_La_oddStays_5 d 0 σ) := (db_eq _ _ _ _ _ _ _).trans rfl
set_option maxRecDepth 100000 in
theorem q_La_oddStays_5 (d : Nat) (s0 : Int32) (σ : jS) : b_La_oddStays_5 d s0 σ = (if s0 = 0 ∨ s0 = 1 then some (some (.int s0), σ) else none) := (db_eq _ _ _ _ _ _ _).trans rfl
noncomputable def b_La_share_0 (d : Nat) (l0 : Nat) (l1 : Int32) (l2 : Int32) (l3 : Int32) (l4 : Int32) (l5 : Int32) (l6 : Int32) (σ : jS) : jR := db (jd jMT d) 1 k_La_share 0 [(0, .ref l0), (1, .int l1), (2, .int l2), (3, .int l3), (4, .int l4), (5, .int l5), (6, .int l6)] [] σ
noncomputable def b_La_share_1 (d : Nat) (l7 : Int32) (σ : jS) : jR := db (jd jMT d) 1 k_La_share 1 [(7, .int l7)] [] σ
noncomputable def b_La_share_2 (d : Nat) (s0 : Int32) (σ : jS) : jR := db (jd jMT d) 1 k_La_share 2 [] [.int s0] σ
theorem e_La_share (d : Nat) (l0 : Nat) (l1 : Int32) (l2 : Int32) (l3 : Int32) (l4 : Int32) (l5 : Int32) (l6 : Int32) (σ : jS) : g_La_share (d + 1) l0 l1 l2 l3 l4 l5 l6 σ = b_La_share_0 d l0 l1 l2 l3 l4 l5 l6 σ := rfl
set_option maxRecDepth 100000 in
theorem q_La_share_0 (d : Nat) (l0 : Nat) (l1 : Int32) (l2 : Int32) (l3 : Int32) (l4 : Int32) (l5 : Int32) (l6 : Int32) (σ : jS) : b_La_share_0 d l0 l1 l2 l3 l4 l5 l6 σ = (jif ((l2 - l2 / 2 * 2) = 0) (b_La_share_1 d (l2 / 2) σ) (jc (j_is 1 l0) ((r_I (g_La_oddStays d l0 l1 l2 l3 l4 l5 l6 σ)).bind fun q1 => jif (q1.1 = 0) (b_La_share_1 d (l2 / 2) q1.2) (b_La_share_2 d ((l2 / 2) + 1) q1.2)))) := (db_eq _ _ _ _ _ _ _).trans rfl
set_option maxRecDepth 100000 in
theorem q_La_share_1 (d : Nat) (l7 : Int32) (σ : jS) : b_La_share_1 d l7 σ = (b_La_share_2 d l7 σ) := (db_eq _ _ _ _ _ _ _).trans rfl
set_option maxRecDepth 100000 in
theorem q_La_share_2 (d : Nat) (s0 : Int32) (σ : jS) : b_La_share_2 d s0 σ = (some (some (.int s0), σ)) := (db_eq _ _ _ _ _ _ _).trans rfl
noncomputable def b_La_value_0 (d : Nat) (l0 : Nat) (l1 : Int32) (l2 : Int32) (l3 : Int32) (l4 : Int32) (l5 : Int32) (l6 : Int32) (σ : jS) : jR := db (jd jMT d) 3 k_La_value 0 [(0, .ref l0), (1, .int l1), (2, .int l2), (3, .int l3), (4, .int l4), (5, .int l5), (6, .int l6)] [] σ
noncomputable def b_La_value_1 (d : Nat) (l0 : Nat) (l1 : Int32) (l5 : Int32) (l6 : Int32) (s0 : Nat) (s1 : Int32) (σ : jS) : jR := db (jd jMT d) 3 k_La_value 1 [(0, .ref l0), (1, .int l1), (5, .int l5), (6, .int l6)] [.int s1, .ref s0] σ
noncomputable def b_La_value_2 (d : Nat) (l0 : Nat) (l1 : Int32) (l5 : Int32) (l6 : Int32) (s0 : Nat) (s1 : Int32) (s2 : Int32) (σ : jS) : jR := db (jd jMT d) 3 k_La_value 2 [(0, .ref l0), (1, .int l1), (5, .int l5), (6, .int l6)] [.int s2, .int s1, .ref s0] σ
noncomputable def b_La_value_3 (d : Nat) (l0 : Nat) (l1 : Int32) (l7 : Int32) (l8 : Int32) (σ : jS) : jR := db (jd jMT d) 3 k_La_value 3 [(0, .ref l0), (1, .int l1), (7, .int l7), (8, .int l8)] [] σ
noncomputable def b_La_value_4 (d : Nat) (l0 : Nat) (l1 : Int32) (l7 : Int32) (l8 : Int32) (l9 : Int32) (σ : jS) : jR := db (jd jMT d) 3 k_La_value 4 [(0, .ref l0), (1, .int l1), (7, .int l7), (8, .int l8), (9, .int l9)] [] σ
noncomputable def b_La_value_5 (d : Nat) (l0 : Nat) (l1 : Int32) (l7 : Int32) (l8 : Int32) (l9 : Int32) (σ : jS) : jR := db (jd jMT d) 3 k_La_value 5 [(0, .ref l0), (1, .int l1), (7, .int l7), (8, .int l8), (9, .int l9)] [] σ
noncomputable def b_La_value_6 (d : Nat) (l0 : Nat) (l1 : Int32) (l7 : Int32) (l8 : Int32) (s0 : Nat) (s1 : Int32) (σ : jS) : jR := db (jd jMT d) 3 k_La_value 6 [(0, .ref l0), (1, .int l1), (7, .int l7), (8, .int l8)] [.int s1, .ref s0] σ
noncomputable def b_La_value_7 (d : Nat) (l0 : Nat) (l1 : Int32) (l7 : Int32) (l8 : Int32) (s0 : Nat) (s1 : Int32) (s2 : Int64) (σ : jS) : jR := db (jd jMT d) 3 k_La_value 7 [(0, .ref l0), (1, .int l1), (7, .int l7), (8, .int l8)] [.long s2, .int s1, .ref s0] σ
noncomputable def b_La_value_8 (d : Nat) (l0 : Nat) (l1 : Int32) (l7 : Int32) (l8 : Int32) (l9 : Int32) (σ : jS) : jR := db (jd jMT d) 3 k_La_value 8 [(0, .ref l0), (1, .int l1), (7, .int l7), (8, .int l8), (9, .int l9)] [] σ
noncomputable def b_La_value_9 (d : Nat) (l0 : Nat) (l1 : Int32) (l7 : Int32) (l8 : Int32) (σ : jS) : jR := db (jd jMT d) 3 k_La_value 9 [(0, .ref l0), (1, .int l1), (7, .int l7), (8, .int l8)] [] σ
noncomputable def b_La_value_10 (d : Nat) (σ : jS) : jR := db (jd jMT d) 3 k_La_value 10 [] [] σ
noncomputable def b_La_value_11 (d : Nat) (l0 : Nat) (l1 : Int32) (l7 : Int32) (l8 : Int32) (σ : jS) : jR := db (jd jMT d) 3 k_La_value 11 [(0, .ref l0), (1, .int l1), (7, .int l7), (8, .int l8)] [] σ
noncomputable def b_La_value_12 (d : Nat) (l0 : Nat) (σ : jS) : jR := db (jd jMT d) 3 k_La_value 12 [(0, .ref l0)] [] σ
theorem e_La_value (d : Nat) (l0 : Nat) (l1 : Int32) (l2 : Int32) (l3 : Int32) (l4 : Int32) (l5 : Int32) (l6 : Int32) (σ : jS) : g_La_value (d + 1) l0 l1 l2 l3 l4 l5 l6 σ = b_La_value_0 d l0 l1 l2 l3 l4 l5 l6 σ := rfl
set_option maxRecDepth 100000 in
theorem q_La_value_0 (d : Nat) (l0 : Nat) (l1 : Int32) (l2 : Int32) (l3 : Int32) (l4 : Int32) (l5 : Int32) (l6 : Int32) (σ : jS) : b_La_value_0 d l0 l1 l2 l3 l4 l5 l6 σ = (jc (j_is 1 l0) ((j_wrI σ (j_cr l0 7) 0 l2).bind fun σ1 => jc (j_is 1 l0) ((j_wrI σ1 (j_cr l0 7) 1 l3).bind fun σ2 => jc (j_is 1 l0) ((j_wrI σ2 (j_cr l0 7) 2 l4).bind fun σ3 => jc (j_is 1 l0) (jif (l3 ≤ l4) (b_La_value_1 d l0 l1 l5 l6 (j_cr l0 7) 3 σ3) (b_La_value_2 d l0 l1 l5 l6 (j_cr l0 7) 3 1 σ3)))))) := (db_eq _ _ _ _ _ _ _).trans rfl
set_option maxRecDepth 100000 in
theorem q_La_value_1 (d : Nat) (l0 : Nat) (l1 : Int32) (l5 : Int32) (l6 : Int32) (s0 : Nat) (s1 : Int32) (σ : jS) : b_La_value_1 d l0 l1 l5 l6 s0 s1 σ = (b_La_value_2 d l0 l1 l5 l6 s0 s1 0 σ) := (db_eq _ _ _ _ _ _ _).trans rfl
set_option maxRecDepth 100000 in
theorem q_La_value_2 (d : Nat) (l0 : Nat) (l1 : Int32) (l5 : Int32) (l6 : Int32) (s0 : Nat) (s1 : Int32) (s2 : Int32) (σ : jS) : b_La_value_2 d l0 l1 l5 l6 s0 s1 s2 σ = ((j_wrI σ s0 s1 s2).bind fun σ1 => jc (j_is 1 l0) ((j_wrI σ1 (j_cr l0 7) 4 l5).bind fun σ2 => jc (j_is 1 l0) ((j_wrI σ2 (j_cr l0 7) 5 l6).bind fun σ3 => jc (j_is 1 l0) ((j_rdI 0 σ3 (j_cr l0 5) l1).bind fun x4 => b_La_value_3 d l0 l1 0 x4 σ3)))) := (db_eq _ _ _ _ _ _ _).trans rfl
set_option maxRecDepth 100000 in
theorem q_La_value_3 (d : Nat) (l0 : Nat) (l1 : Int32) (l7 : Int32) (l8 : Int32) (σ : jS) : b_La_value_3 d l0 l1 l7 l8 σ = (jc (j_is 1 l0) ((j_rdI 0 σ (j_cr l0 6) l1).bind fun x1 => jif (x1 ≤ l8) (b_La_value_12 d l0 σ) (jc (j_is 1 l0) ((j_rdI 0 σ (j_cr l0 3) l8).bind fun x2 => jif (5 < x2) (b_La_value_4 d l0 l1 l7 l8 x2 σ) (jif (64 ≤ l7) (b_La_value_4 d l0 l1 l7 l8 x2 σ) (jc (j_is 1 l0) (jc (j_is 1 l0) ((j_rdI 0 σ (j_cr l0 7) x2).bind fun x3 => (j_wrL σ (j_cr l0 8) l7 (Int32.toInt64 x3)).bind fun σ4 => b_La_value_9 d l0 l1 (l7 + 1) l8 σ4)))))))) := (db_eq _ _ _ _ _ _ _).trans rfl
set_option maxRecDepth 100000 in
theorem q_La_value_4 (d : Nat) (l0 : Nat) (l1 : Int32) (l7 : Int32) (l8 : Int32) (l9 : Int32) (σ : jS) : b_La_value_4 d l0 l1 l7 l8 l9 σ = (jif (l9 = 17) (jif (64 ≤ l7) (b_La_value_5 d l0 l1 l7 l8 l9 σ) (jc (j_is 1 l0) (jc (j_is 1 l0) ((j_rdI 0 σ (j_cr l0 4) l8).bind fun x1 => (j_wrL σ (j_cr l0 8) l7 (Int32.toInt64 x1)).bind fun σ2 => b_La_value_9 d l0 l1 (l7 + 1) l8 σ2)))) (b_La_value_5 d l0 l1 l7 l8 l9 σ)) := (db_eq _ _ _ _ _ _ _).trans rfl
set_option maxRecDepth 100000 in
theorem q_La_value_5 (d : Nat) (l0 : Nat) (l1 : Int32) (l7 : Int32) (l8 : Int32) (l9 : Int32) (σ : jS) : b_La_value_5 d l0 l1 l7 l8 l9 σ = (jif (l9 = 14) (jif (l7 ≤ 0) (b_La_value_8 d l0 l1 l7 l8 l9 σ) (jc (j_is 1 l0) (jc (j_is 1 l0) ((j_rdL σ (j_cr l0 8) (l7 - 1)).bind fun x1 => jif ((lg_cmp x1 0) = 0) (b_La_value_7 d l0 l1 l7 l8 (j_cr l0 8) (l7 - 1) 1 σ) (b_La_value_6 d l0 l1 l7 l8 (j_cr l0 8) (l7 - 1) σ))))) (b_La_value_8 d l0 l1 l7 l8 l9 σ)) := (db_eq _ _ _ _ _ _ _).trans rfl
set_option maxRecDepth 100000 in
theorem q_La_value_6 (d : Nat) (l0 : Nat) (l1 : Int32) (l7 : Int32) (l8 : Int32) (s0 : Nat) (s1 : Int32) (σ : jS) : b_La_value_6 d l0 l1 l7 l8 s0 s1 σ = (b_La_value_7 d l0 l1 l7 l8 s0 s1 0 σ) := (db_eq _ _ _ _ _ _ _).trans rfl
set_option maxRecDepth 100000 in
theorem q_La_value_7 (d : Nat) (l0 : Nat) (l1 : Int32) (l7 : Int32) (l8 : Int32) (s0 : Nat) (s1 : Int32) (s2 : Int64) (σ : jS) : b_La_value_7 d l0 l1 l7 l8 s0 s1 s2 σ = ((j_wrL σ s0 s1 s2).bind fun σ1 => b_La_value_9 d l0 l1 l7 l8 σ1) := (db_eq _ _ _ _ _ _ _).trans rfl
set_option maxRecDepth 100000 in
theorem q_La_value_8 (d : Nat) (l0 : Nat) (l1 : Int32) (l7 : Int32) (l8 : Int32) (l9 : Int32) (σ : jS) : b_La_value_8 d l0 l1 l7 l8 l9 σ = (jif (l7 ≤ 1) (b_La_value_9 d l0 l1 l7 l8 σ) (jc (j_is 1 l0) (jc (j_is 1 l0) ((j_rdL σ (j_cr l0 8) ((l7 + (-1)) - 1)).bind fun x1 => jc (j_is 1 l0) ((j_rdL σ (j_cr l0 8) (l7 + (-1))).bind fun x2 => (r_L (g_La_joined d l9 x1 x2 σ)).bind fun q3 => (j_wrL q3.2 (j_cr l0 8) ((l7 + (-1)) - 1) q3.1).bind fun σ4 => b_La_value_9 d l0 l1 (l7 + (-1)) l8 σ4))))) := (db_eq _ _ _ _ _ _ _).trans rfl
set_option maxRecDepth 100000 in
theorem q_La_value_9 (d : Nat) (l0 : Nat) (l1 : Int32) (l7 : Int32) (l8 : Int32) (σ : jS) : b_La_value_9 d l0 l1 l7 l8 σ = (jif (l7 = 0) (b_La_value_10 d σ) (jc (j_is 1 l0) ((j_rdL σ (j_cr l0 8) (l7 - 1)).bind fun x1 => jif (0 < (lg_cmp x1 1000000000000)) (b_La_value_10 d σ) (jc (j_is 1 l0) ((j_rdL σ (j_cr l0 8) (l7 - 1)).bind fun x2 => jif (0 ≤ (lg_cmp x2 (-1000000000000))) (b_La_value_11 d l0 l1 l7 l8 σ) (b_La_value_10 d σ)))))) := (db_eq _ _ _ _ _ _ _).trans rfl
set_option maxRecDepth 100000 in
theorem q_La_value_10 (d : Nat) (σ : jS) : b_La_value_10 d σ = (some (some (.long (-9223372036854775808)), σ)) := (db_eq _ _ _ _ _ _ _).trans rfl
set_option maxRecDepth 100000 in
theorem q_La_value_11 (d : Nat) (l0 : Nat) (l1 : Int32) (l7 : Int32) (l8 : Int32) (σ : jS) : b_La_value_11 d l0 l1 l7 l8 σ = (b_La_value_3 d l0 l1 l7 (l8 + 1) σ) := (db_eq _ _ _ _ _ _ _).trans rfl
set_option maxRecDepth 100000 in
theorem q_La_value_12 (d : Nat) (l0 : Nat) (σ : jS) : b_La_value_12 d l0 σ = (jc (j_is 1 l0) ((j_rdL σ (j_cr l0 8) 0).bind fun x1 => some (some (.long x1), σ))) := (db_eq _ _ _ _ _ _ _).trans rfl
noncomputable def b_La_joined_0 (d : Nat) (l0 : Int32) (l1 : Int64) (l3 : Int64) (σ : jS) : jR := db (jd jMT d) 3 k_La_joined 0 [(0, .int l0), (1, .long l1), (3, .long l3)] [] σ
noncomputable def b_La_joined_1 (d : Nat) (l0 : Int32) (l1 : Int64) (l3 : Int64) (σ : jS) : jR := db (jd jMT d) 3 k_La_joined 1 [(0, .int l0), (1, .long l1), (3, .long l3)] [] σ
noncomputable def b_La_joined_2 (d : Nat) (l0 : Int32) (l1 : Int64) (l3 : Int64) (s0 : Int64) (σ : jS) : jR := db (jd jMT d) 3 k_La_joined 2 [(0, .int l0), (1, .long l1), (3, .long l3)] [.long s0] σ
noncomputable def b_La_joined_3 (d : Nat) (l0 : Int32) (l1 : Int64) (l3 : Int64) (l5 : Int64) (σ : jS) : jR := db (jd jMT d) 3 k_La_joined 3 [(0, .int l0), (1, .long l1), (3, .long l3), (5, .long l5)] [] σ
noncomputable def b_La_joined_4 (d : Nat) (l0 : Int32) (l1 : Int64) (l3 : Int64) (l5 : Int64) (s0 : Int64) (σ : jS) : jR := db (jd jMT d) 3 k_La_joined 4 [(0, .int l0), (1, .long l1), (3, .long l3), (5, .long l5)] [.long s0] σ
noncomputable def b_La_joined_5 (d : Nat) (l1 : Int64) (l3 : Int64) (σ : jS) : jR := db (jd jMT d) 3 k_La_joined 5 [(1, .long l1), (3, .long l3)] [] σ
noncomputable def b_La_joined_6 (d : Nat) (l1 : Int64) (l3 : Int64) (σ : jS) : jR := db (jd jMT d) 3 k_La_joined 6 [(1, .long l1), (3, .long l3)] [] σ
noncomputable def b_La_joined_7 (d : Nat) (l1 : Int64) (l3 : Int64) (l5 : Int64) (l7 : Int64) (σ : jS) : jR := db (jd jMT d) 3 k_La_joined 7 [(1, .long l1), (3, .long l3), (5, .long l5), (7, .long l7)] [] σ
noncomputable def b_La_joined_8 (d : Nat) (l1 : Int64) (l3 : Int64) (σ : jS) : jR := db (jd jMT d) 3 k_La_joined 8 [(1, .long l1), (3, .long l3)] [] σ
noncomputable def b_La_joined_9 (d : Nat) (s0 : Int64) (σ : jS) : jR := db (jd jMT d) 3 k_La_joined 9 [] [.long s0] σ
noncomputable def b_La_joined_10 (d : Nat) (l1 : Int64) (l3 : Int64) (σ : jS) : jR := db (jd jMT d) 3 k_La_joined 10 [(1, .long l1), (3, .long l3)] [] σ
noncomputable def b_La_joined_11 (d : Nat) (l1 : Int64) (l3 : Int64) (σ : jS) : jR := db (jd jMT d) 3 k_La_joined 11 [(1, .long l1), (3, .long l3)] [] σ
noncomputable def b_La_joined_12 (d : Nat) (s0 : Int64) (σ : jS) : jR := db (jd jMT d) 3 k_La_joined 12 [] [.long s0] σ
noncomputable def b_La_joined_13 (d : Nat) (l1 : Int64) (l3 : Int64) (σ : jS) : jR := db (jd jMT d) 3 k_La_joined 13 [(1, .long l1), (3, .long l3)] [] σ
noncomputable def b_La_joined_14 (d : Nat) (l1 : Int64) (l3 : Int64) (σ : jS) : jR := db (jd jMT d) 3 k_La_joined 14 [(1, .long l1), (3, .long l3)] [] σ
noncomputable def b_La_joined_15 (d : Nat) (s0 : Int64) (σ : jS) : jR := db (jd jMT d) 3 k_La_joined 15 [] [.long s0] σ
noncomputable def b_La_joined_16 (d : Nat) (l1 : Int64) (l3 : Int64) (σ : jS) : jR := db (jd jMT d) 3 k_La_joined 16 [(1, .long l1), (3, .long l3)] [] σ
noncomputable def b_La_joined_17 (d : Nat) (σ : jS) : jR := db (jd jMT d) 3 k_La_joined 17 [] [] σ
noncomputable def b_La_joined_18 (d : Nat) (s0 : Int64) (σ : jS) : jR := db (jd jMT d) 3 k_La_joined 18 [] [.long s0] σ
noncomputable def b_La_joined_19 (d : Nat) (l1 : Int64) (l3 : Int64) (σ : jS) : jR := db (jd jMT d) 3 k_La_joined 19 [(1, .long l1), (3, .long l3)] [] σ
noncomputable def b_La_joined_20 (d : Nat) (σ : jS) : jR := db (jd jMT d) 3 k_La_joined 20 [] [] σ
noncomputable def b_La_joined_21 (d : Nat) (σ : jS) : jR := db (jd jMT d) 3 k_La_joined 21 [] [] σ
noncomputable def b_La_joined_22 (d : Nat) (s0 : Int64) (σ : jS) : jR := db (jd jMT d) 3 k_La_joined 22 [] [.long s0] σ
noncomputable def b_La_joined_23 (d : Nat) (l1 : Int64) (l3 : Int64) (σ : jS) : jR := db (jd jMT d) 3 k_La_joined 23 [(1, .long l1), (3, .long l3)] [] σ
noncomputable def b_La_joined_24 (d : Nat) (σ : jS) : jR := db (jd jMT d) 3 k_La_joined 24 [] [] σ
noncomputable def b_La_joined_25 (d : Nat) (s0 : Int64) (σ : jS) : jR := db (jd jMT d) 3 k_La_joined 25 [] [.long s0] σ
noncomputable def b_La_joined_26 (d : Nat) (l1 : Int64) (l3 : Int64) (σ : jS) : jR := db (jd jMT d) 3 k_La_joined 26 [(1, .long l1), (3, .long l3)] [] σ
noncomputable def b_La_joined_27 (d : Nat) (σ : jS) : jR := db (jd jMT d) 3 k_La_joined 27 [] [] σ
noncomputable def b_La_joined_28 (d : Nat) (s0 : Int64) (σ : jS) : jR := db (jd jMT d) 3 k_La_joined 28 [] [.long s0] σ
noncomputable def b_La_joined_29 (d : Nat) (l1 : Int64) (l3 : Int64) (σ : jS) : jR := db (jd jMT d) 3 k_La_joined 29 [(1, .long l1), (3, .long l3)] [] σ
noncomputable def b_La_joined_30 (d : Nat) (σ : jS) : jR := db (jd jMT d) 3 k_La_joined 30 [] [] σ
noncomputable def b_La_joined_31 (d : Nat) (s0 : Int64) (σ : jS) : jR := db (jd jMT d) 3 k_La_joined 31 [] [.long s0] σ
noncomputable def b_La_joined_32 (d : Nat) (l1 : Int64) (l3 : Int64) (σ : jS) : jR := db (jd jMT d) 3 k_La_joined 32 [(1, .long l1), (3, .long l3)] [] σ
noncomputable def b_La_joined_33 (d : Nat) (σ : jS) : jR := db (jd jMT d) 3 k_La_joined 33 [] [] σ
noncomputable def b_La_joined_34 (d : Nat) (s0 : Int64) (σ : jS) : jR := db (jd jMT d) 3 k_La_joined 34 [] [.long s0] σ
noncomputable def b_La_joined_35 (d : Nat) (l1 : Int64) (l3 : Int64) (σ : jS) : jR := db (jd jMT d) 3 k_La_joined 35 [(1, .long l1), (3, .long l3)] [] σ
noncomputable def b_La_joined_36 (d : Nat) (σ : jS) : jR := db (jd jMT d) 3 k_La_joined 36 [] [] σ
noncomputable def b_La_joined_37 (d : Nat) (s0 : Int64) (σ : jS) : jR := db (jd jMT d) 3 k_La_joined 37 [] [.long s0] σ
noncomputable def b_La_joined_38 (d : Nat) (l1 : Int64) (l3 : Int64) (σ : jS) : jR := db (jd jMT d) 3 k_La_joined 38 [(1, .long l1), (3, .long l3)] [] σ
noncomputable def b_La_joined_39 (d : Nat) (σ : jS) : jR := db (jd jMT d) 3 k_La_joined 39 [] [] σ
noncomputable def b_La_joined_40 (d : Nat) (s0 : Int64) (σ : jS) : jR := db (jd jMT d) 3 k_La_joined 40 [] [.long s0] σ
theorem e_La_joined (d : Nat) (l0 : Int32) (l1 : Int64) (l3 : Int64) (σ : jS) : g_La_joined (d + 1) l0 l1 l3 σ = b_La_joined_0 d l0 l1 l3 σ := rfl
set_option maxRecDepth 100000 in
theorem q_La_joined_0 (d : Nat) (l0 : Int32) (l1 : Int64) (l3 : Int64) (σ : jS) : b_La_joined_0 d l0 l1 l3 σ = (jif (0 ≤ (lg_cmp l1 0)) (b_La_joined_1 d l0 l1 l3 σ) (b_La_joined_2 d l0 l1 l3 (-l1) σ)) := (db_eq _ _ _ _ _ _ _).trans rfl
set_option maxRecDepth 100000 in
theorem q_La_joined_1 (d : Nat) (l0 : Int32) (l1 : Int64) (l3 : Int64) (σ : jS) : b_La_joined_1 d l0 l1 l3 σ = (b_La_joined_2 d l0 l1 l3 l1 σ) := (db_eq _ _ _ _ _ _ _).trans rfl
set_option maxRecDepth 100000 in
theorem q_La_joined_2 (d : Nat) (l0 : Int32) (l1 : Int64) (l3 : Int64) (s0 : Int64) (σ : jS) : b_La_joined_2 d l0 l1 l3 s0 σ = (jif (0 ≤ (lg_cmp l3 0)) (b_La_joined_3 d l0 l1 l3 s0 σ) (b_La_joined_4 d l0 l1 l3 s0 (-l3) σ)) := (db_eq _ _ _ _ _ _ _).trans rfl
set_option maxRecDepth 100000 in
theorem q_La_joined_3 (d : Nat) (l0 : Int32) (l1 : Int64) (l3 : Int64) (l5 : Int64) (σ : jS) : b_La_joined_3 d l0 l1 l3 l5 σ = (b_La_joined_4 d l0 l1 l3 l5 l3 σ) := (db_eq _ _ _ _ _ _ _).trans rfl
set_option maxRecDepth 100000 in
theorem q_La_joined_4 (d : Nat) (l0 : Int32) (l1 : Int64) (l3 : Int64) (l5 : Int64) (s0 : Int64) (σ : jS) : b_La_joined_4 d l0 l1 l3 l5 s0 σ = (jif (l0 = 10) (b_La_joined_19 d l1 l3 σ) (jif (l0 = 15) (b_La_joined_16 d l1 l3 σ) (jif (l0 = 37) (b_La_joined_13 d l1 l3 σ) (jif (l0 = 42) (b_La_joined_7 d l1 l3 l5 s0 σ) (jif (l0 = 43) (b_La_joined_5 d l1 l3 σ) (jif (l0 = 45) (b_La_joined_6 d l1 l3 σ) (jif (l0 = 47) (b_La_joined_10 d l1 l3 σ) (jif (l0 = 60) (b_La_joined_23 d l1 l3 σ) (jif (l0 = 61) (b_La_joined_29 d l1 l3 σ) (jif (l0 = 256) (b_La_joined_26 d l1 l3 σ) (jif (l0 = 257) (b_La_joined_32 d l1 l3 σ) (jif (l0 = 258) (b_La_joined_35 d l1 l3 σ) (b_La_joined_38 d l1 l3 σ))))))))))))) := (db_eq _ _ _ _ _ _ _).trans rfl
set_option maxRecDepth 100000 in
theorem q_La_joined_5 (d : Nat) (l1 : Int64) (l3 : Int64) (σ : jS) : b_La_joined_5 d l1 l3 σ = (some (some (.long (l1 + l3)), σ)) := (db_eq _ _ _ _ _ _ _).trans rfl
set_option maxRecDepth 100000 in
theorem q_La_joined_6 (d : Nat) (l1 : Int64) (l3 : Int64) (σ : jS) : b_La_joined_6 d l1 l3 σ = (some (some (.long (l1 - l3)), σ)) := (db_eq _ _ _ _ _ _ _).trans rfl
set_option maxRecDepth 100000 in
theorem q_La_joined_7 (d : Nat) (l1 : Int64) (l3 : Int64) (l5 : Int64) (l7 : Int64) (σ : jS) : b_La_joined_7 d l1 l3 l5 l7 σ = (jif ((lg_cmp l5 0) ≤ 0) (b_La_joined_8 d l1 l3 σ) (if l5 = 0 then none else (jif ((lg_cmp l7 (1000000000000 / l5)) ≤ 0) (b_La_joined_8 d l1 l3 σ) (b_La_joined_9 d (-9223372036854775808) σ)))) := (db_eq _ _ _ _ _ _ _).trans rfl
set_option maxRecDepth 100000 in
theorem q_La_joined_8 (d : Nat) (l1 : Int64) (l3 : Int64) (σ : jS) : b_La_joined_8 d l1 l3 σ = (b_La_joined_9 d (l1 * l3) σ) := (db_eq _ _ _ _ _ _ _).trans rfl
set_option maxRecDepth 100000 in
theorem q_La_joined_9 (d : Nat) (s0 : Int64) (σ : jS) : b_La_joined_9 d s0 σ = (some (some (.long s0), σ)) := (db_eq _ _ _ _ _ _ _).trans rfl
set_option maxRecDepth 100000 in
theorem q_La_joined_10 (d : Nat) (l1 : Int64) (l3 : Int64) (σ : jS) : b_La_joined_10 d l1 l3 σ = (jif ((lg_cmp l3 0) = 0) (b_La_joined_12 d (-9223372036854775808) σ) (b_La_joined_11 d l1 l3 σ)) := (db_eq _ _ _ _ _ _ _).trans rfl
set_option maxRecDepth 100000 in
theorem q_La_joined_11 (d : Nat) (l1 : Int64) (l3 : Int64) (σ : jS) : b_La_joined_11 d l1 l3 σ = (if l3 = 0 then none else (b_La_joined_12 d (l1 / l3) σ)) := (db_eq _ _ _ _ _ _ _).trans rfl
set_option maxRecDepth 100000 in
theorem q_La_joined_12 (d : Nat) (s0 : Int64) (σ : jS) : b_La_joined_12 d s0 σ = (some (some (.long s0), σ)) := (db_eq _ _ _ _ _ _ _).trans rfl
set_option maxRecDepth 100000 in
theorem q_La_joined_13 (d : Nat) (l1 : Int64) (l3 : Int64) (σ : jS) : b_La_joined_13 d l1 l3 σ = (jif ((lg_cmp l3 0) = 0) (b_La_joined_15 d (-9223372036854775808) σ) (b_La_joined_14 d l1 l3 σ)) := (db_eq _ _ _ _ _ _ _).trans rfl
set_option maxRecDepth 100000 in
theorem q_La_joined_14 (d : Nat) (l1 : Int64) (l3 : Int64) (σ : jS) : b_La_joined_14 d l1 l3 σ = (if l3 = 0 then none else (b_La_joined_15 d (l1 - l1 / l3 * l3) σ)) := (db_eq _ _ _ _ _ _ _).trans rfl
set_option maxRecDepth 100000 in
theorem q_La_joined_15 (d : Nat) (s0 : Int64) (σ : jS) : b_La_joined_15 d s0 σ = (some (some (.long s0), σ)) := (db_eq _ _ _ _ _ _ _).trans rfl
set_option maxRecDepth 100000 in
theorem q_La_joined_16 (d : Nat) (l1 : Int64) (l3 : Int64) (σ : jS) : b_La_joined_16 d l1 l3 σ = (jif ((lg_cmp l1 0) = 0) (b_La_joined_17 d σ) (jif ((lg_cmp l3 0) = 0) (b_La_joined_17 d σ) (b_La_joined_18 d 1 σ))) := (db_eq _ _ _ _ _ _ _).trans rfl
set_option maxRecDepth 100000 in
theorem q_La_joined_17 (d : Nat) (σ : jS) : b_La_joined_17 d σ = (b_La_joined_18 d 0 σ) := (db_eq _ _ _ _ _ _ _).trans rfl
set_option maxRecDepth 100000 in
theorem q_La_joined_18 (d : Nat) (s0 : Int64) (σ : jS) : b_La_joined_18 d s0 σ = (some (some (.long s0), σ)) := (db_eq _ _ _ _ _ _ _).trans rfl
set_option maxRecDepth 100000 in
theorem q_La_joined_19 (d : Nat) (l1 : Int64) (l3 : Int64) (σ : jS) : b_La_joined_19 d l1 l3 σ = (jif ((lg_cmp l1 0) = 0) (jif ((lg_cmp l3 0) = 0) (b_La_joined_21 d σ) (b_La_joined_20 d σ)) (b_La_joined_20 d σ)) := (db_eq _ _ _ _ _ _ _).trans rfl
set_option maxRecDepth 100000 in
theorem q_La_joined_20 (d : Nat) (σ : jS) : b_La_joined_20 d σ = (b_La_joined_22 d 1 σ) := (db_eq _ _ _ _ _ _ _).trans rfl
set_option maxRecDepth 100000 in
theorem q_La_joined_21 (d : Nat) (σ : jS) : b_La_joined_21 d σ = (b_La_joined_22 d 0 σ) := (db_eq _ _ _ _ _ _ _).trans rfl
set_option maxRecDepth 100000 in
theorem q_La_joined_22 (d : Nat) (s0 : Int64) (σ : jS) : b_La_joined_22 d s0 σ = (some (some (.long s0), σ)) := (db_eq _ _ _ _ _ _ _).trans rfl
set_option maxRecDepth 100000 in
theorem q_La_joined_23 (d : Nat) (l1 : Int64) (l3 : Int64) (σ : jS) : b_La_joined_23 d l1 l3 σ = (jif (0 ≤ (lg_cmp l1 l3)) (b_La_joined_24 d σ) (b_La_joined_25 d 1 σ)) := (db_eq _ _ _ _ _ _ _).trans rfl
set_option maxRecDepth 100000 in
theorem q_La_joined_24 (d : Nat) (σ : jS) : b_La_joined_24 d σ = (b_La_joined_25 d 0 σ) := (db_eq _ _ _ _ _ _ _).trans rfl
set_option maxRecDepth 100000 in
theorem q_La_joined_25 (d : Nat) (s0 : Int64) (σ : jS) : b_La_joined_25 d s0 σ = (some (some (.long s0), σ)) := (db_eq _ _ _ _ _ _ _).trans rfl
set_option maxRecDepth 100000 in
theorem q_La_joined_26 (d : Nat) (l1 : Int64) (l3 : Int64) (σ : jS) : b_La_joined_26 d l1 l3 σ = (jif (0 < (lg_cmp l1 l3)) (b_La_joined_27 d σ) (b_La_joined_28 d 1 σ)) := (db_eq _ _ _ _ _ _ _).trans rfl
set_option maxRecDepth 100000 in
theorem q_La_joined_27 (d : Nat) (σ : jS) : b_La_joined_27 d σ = (b_La_joined_28 d 0 σ) := (db_eq _ _ _ _ _ _ _).trans rfl
set_option maxRecDepth 100000 in
theorem q_La_joined_28 (d : Nat) (s0 : Int64) (σ : jS) : b_La_joined_28 d s0 σ = (some (some (.long s0), σ)) := (db_eq _ _ _ _ _ _ _).trans rfl
set_option maxRecDepth 100000 in
theorem q_La_joined_29 (d : Nat) (l1 : Int64) (l3 : Int64) (σ : jS) : b_La_joined_29 d l1 l3 σ = (jif ((lg_cmp l1 l3) = 0) (b_La_joined_31 d 1 σ) (b_La_joined_30 d σ)) := (db_eq _ _ _ _ _ _ _).trans rfl
set_option maxRecDepth 100000 in
theorem q_La_joined_30 (d : Nat) (σ : jS) : b_La_joined_30 d σ = (b_La_joined_31 d 0 σ) := (db_eq _ _ _ _ _ _ _).trans rfl
set_option maxRecDepth 100000 in
theorem q_La_joined_31 (d : Nat) (s0 : Int64) (σ : jS) : b_La_joined_31 d s0 σ = (some (some (.long s0), σ)) := (db_eq _ _ _ _ _ _ _).trans rfl
set_option maxRecDepth 100000 in
theorem q_La_joined_32 (d : Nat) (l1 : Int64) (l3 : Int64) (σ : jS) : b_La_joined_32 d l1 l3 σ = (jif ((lg_cmp l1 l3) = 0) (b_La_joined_33 d σ) (b_La_joined_34 d 1 σ)) := (db_eq _ _ _ _ _ _ _).trans rfl
set_option maxRecDepth 100000 in
theorem q_La_joined_33 (d : Nat) (σ : jS) : b_La_joined_33 d σ = (b_La_joined_34 d 0 σ) := (db_eq _ _ _ _ _ _ _).trans rfl
set_option maxRecDepth 100000 in
theorem q_La_joined_34 (d : Nat) (s0 : Int64) (σ : jS) : b_La_joined_34 d s0 σ = (some (some (.long s0), σ)) := (db_eq _ _ _ _ _ _ _).trans rfl
set_option maxRecDepth 100000 in
theorem q_La_joined_35 (d : Nat) (l1 : Int64) (l3 : Int64) (σ : jS) : b_La_joined_35 d l1 l3 σ = (jif ((lg_cmp l1 l3) < 0) (b_La_joined_36 d σ) (b_La_joined_37 d 1 σ)) := (db_eq _ _ _ _ _ _ _).trans rfl
set_option maxRecDepth 100000 in
theorem q_La_joined_36 (d : Nat) (σ : jS) : b_La_joined_36 d σ = (b_La_joined_37 d 0 σ) := (db_eq _ _ _ _ _ _ _).trans rfl
set_option maxRecDepth 100000 in
theorem q_La_joined_37 (d : Nat) (s0 : Int64) (σ : jS) : b_La_joined_37 d s0 σ = (some (some (.long s0), σ)) := (db_eq _ _ _ _ _ _ _).trans rfl
set_option maxRecDepth 100000 in
theorem q_La_joined_38 (d : Nat) (l1 : Int64) (l3 : Int64) (σ : jS) : b_La_joined_38 d l1 l3 σ = (jif ((lg_cmp l1 l3) ≤ 0) (b_La_joined_39 d σ) (b_La_joined_40 d 1 σ)) := (db_eq _ _ _ _ _ _ _).trans rfl
set_option maxRecDepth 100000 in
theorem q_La_joined_39 (d : Nat) (σ : jS) : b_La_joined_39 d σ = (b_La_joined_40 d 0 σ) := (db_eq _ _ _ _ _ _ _).trans rfl
set_option maxRecDepth 100000 in
theorem q_La_joined_40 (d : Nat) (s0 : Int64) (σ : jS) : b_La_joined_40 d s0 σ = (some (some (.long s0), σ)) := (db_eq _ _ _ _ _ _ _).trans rfl
noncomputable def b_Nt_clear_0 (d : Nat) (σ : jS) : jR := db (jd jMT d) 0 k_Nt_clear 0 [(0, .ref 78)] [] σ
theorem e_Nt_clear (d : Nat) (σ : jS) : g_Nt_clear (d + 1) σ = b_Nt_clear_0 d σ := rfl
set_option maxRecDepth 100000 in
theorem q_Nt_clear_0 (d : Nat) (σ : jS) : b_Nt_clear_0 d σ = (some (none, (j_setI (j_setI σ 78 0 0) 78 1 (-1)))) := (db_eq _ _ _ _ _ _ _).trans rfl
noncomputable def b_Nt_add_0 (d : Nat) (l1 : Int32) (l2 : Int64) (l4 : Int32) (l5 : Int32) (l6 : Int32) (σ : jS) : jR := db (jd jMT d) 1 k_Nt_add 0 [(0, .ref 78), (1, .int l1), (2, .long l2), (4, .int l4), (5, .int l5), (6, .int l6)] [] σ
noncomputable def b_Nt_add_1 (d : Nat) (l1 : Int32) (l2 : Int64) (l4 : Int32) (l5 : Int32) (l6 : Int32) (σ : jS) : jR := db (jd jMT d) 1 k_Nt_add 1 [(0, .ref 78), (1, .int l1), (2, .long l2), (4, .int l4), (5, .int l5), (6, .int l6)] [] σ
theorem e_Nt_add (d : Nat) (l1 : Int32) (l2 : Int64) (l4 : Int32) (l5 : Int32) (l6 : Int32) (σ : jS) : g_Nt_add (d + 1) l1 l2 l4 l5 l6 σ = b_Nt_add_0 d l1 l2 l4 l5 l6 σ := rfl
set_option maxRecDepth 100000 in
theorem q_Nt_add_0 (d : Nat) (l1 : Int32) (l2 : Int64) (l4 : Int32) (l5 : Int32) (l6 : Int32) (σ : jS) : b_Nt_add_0 d l1 l2 l4 l5 l6 σ = (jif ((σ.1 78 0) < 40) (b_Nt_add_1 d l1 l2 l4 l5 l6 σ) (some (some (.int (-1)), σ))) := (db_eq _ _ _ _ _ _ _).trans rfl
set_option maxRecDepth 100000 in
theorem q_Nt_add_1 (d : Nat) (l1 : Int32) (l2 : Int64) (l4 : Int32) (l5 : Int32) (l6 : Int32) (σ : jS) : b_Nt_add_1 d l1 l2 l4 l5 l6 σ = ((j_wrI σ 79 (σ.1 78 0) l1).bind fun σ1 => (j_wrL σ1 80 (σ1.1 78 0) l2).bind fun σ2 => (j_wrI σ2 81 (σ2.1 78 0) l4).bind fun σ3 => (j_wrI σ3 82 (σ3.1 78 0) l5).bind fun σ4 => (j_wrI σ4 83 (σ4.1 78 0) l6).bind fun σ5 => (j_wrI σ5 84 (σ5.1 78 0) (-1)).bind fun σ6 => some (some (.int (((j_setI σ6 78 0 ((σ6.1 78 0) + 1)).1 78 0) - 1)), (j_setI σ6 78 0 ((σ6.1 78 0) + 1)))) := (db_eq _ _ _ _ _ _ _).trans rfl
noncomputable def b_Nt_addStrike_0 (d : Nat) (l1 : Int32) (σ : jS) : jR := db (jd jMT d) 1 k_Nt_addStrike 0 [(0, .ref 78), (1, .int l1)] [] σ
noncomputable def b_Nt_addStrike_1 (d : Nat) (l1 : Int32) (σ : jS) : jR := db (jd jMT d) 1 k_Nt_addStrike 1 [(0, .ref 78), (1, .int l1)] [] σ
theorem e_Nt_addStrike (d : Nat) (l1 : Int32) (σ : jS) : g_Nt_addStrike (d + 1) l1 σ = b_Nt_addStrike_0 d l1 σ := rfl
set_option maxRecDepth 100000 in
theorem q_Nt_addStrike_0 (d : Nat) (l1 : Int32) (σ : jS) : b_Nt_addStrike_0 d l1 σ = (jif ((σ.1 78 0) < 40) (b_Nt_addStrike_1 d l1 σ) (some (some (.int (-1)), σ))) := (db_eq _ _ _ _ _ _ _).trans rfl
set_option maxRecDepth 100000 in
theorem q_Nt_addStrike_1 (d : Nat) (l1 : Int32) (σ : jS) : b_Nt_addStrike_1 d l1 σ = ((j_wrI σ 84 (σ.1 78 0) l1).bind fun σ1 => some (some (.int (((j_setI σ1 78 0 ((σ1.1 78 0) + 1)).1 78 0) - 1)), (j_setI σ1 78 0 ((σ1.1 78 0) + 1)))) := (db_eq _ _ _ _ _ _ _).trans rfl
noncomputable def b_Nt_knownSize_0 (d : Nat) (σ : jS) : jR := db (jd jMT d) 1 k_Nt_knownSize 0 [(0, .ref 78)] [] σ
noncomputable def b_Nt_knownSize_1 (d : Nat) (σ : jS) : jR := db (jd jMT d) 1 k_Nt_knownSize 1 [(0, .ref 78)] [] σ
noncomputable def b_Nt_knownSize_2 (d : Nat) (s0 : Int32) (σ : jS) : jR := db (jd jMT d) 1 k_Nt_knownSize 2 [] [.int s0] σ
theorem e_Nt_knownSize (d : Nat) (σ : jS) : g_Nt_knownSize (d + 1) σ = b_Nt_knownSize_0 d σ := rfl
set_option maxRecDepth 100000 in
theorem q_Nt_knownSize_0 (d : Nat) (σ : jS) : b_Nt_knownSize_0 d σ = (jif ((σ.1 78 1) = (-1)) (b_Nt_knownSize_2 d (σ.1 78 0) σ) (b_Nt_knownSize_1 d σ)) := (db_eq _ _ _ _ _ _ _).trans rfl
set_option maxRecDepth 100000 in
theorem q_Nt_knownSize_1 (d : Nat) (σ : jS) : b_Nt_knownSize_1 d σ = (b_Nt_knownSize_2 d (σ.1 78 1) σ) := (db_eq _ _ _ _ _ _ _).trans rfl
set_option maxRecDepth 100000 in
theorem q_Nt_knownSize_2 (d : Nat) (s0 : Int32) (σ : jS) : b_Nt_knownSize_2 d s0 σ = (some (some (.int s0), σ)) := (db_eq _ _ _ _ _ _ _).trans rfl
noncomputable def b_Nt_markStruck_0 (d : Nat) (σ : jS) : jR := db (jd jMT d) 0 k_Nt_markStruck 0 [(0, .ref 78)] [] σ
noncomputable def b_Nt_markStruck_1 (d : Nat) (l1 : Int32) (σ : jS) : jR := db (jd jMT d) 0 k_Nt_markStruck 1 [(0, .ref 78), (1, .int l1)] [] σ
noncomputable def b_Nt_markStruck_2 (d : Nat) (σ : jS) : jR := db (jd jMT d) 0 k_Nt_markStruck 2 [(0, .ref 78)] [] σ
noncomputable def b_Nt_markStruck_3 (d : Nat) (l1 : Int32) (σ : jS) : jR := db (jd jMT d) 0 k_Nt_markStruck 3 [(0, .ref 78), (1, .int l1)] [] σ
noncomputable def b_Nt_markStruck_4 (d : Nat) (l1 : Int32) (σ : jS) : jR := db (jd jMT d) 0 k_Nt_markStruck 4 [(0, .ref 78), (1, .int l1)] [] σ
noncomputable def b_Nt_markStruck_5 (d : Nat) (σ : jS) : jR := db (jd jMT d) 0 k_Nt_markStruck 5 [] [] σ
theorem e_Nt_markStruck (d : Nat) (σ : jS) : g_Nt_markStruck (d + 1) σ = b_Nt_markStruck_0 d σ := rfl
set_option maxRecDepth 100000 in
theorem q_Nt_markStruck_0 (d : Nat) (σ : jS) : b_Nt_markStruck_0 d σ = (b_Nt_markStruck_1 d 0 σ) := (db_eq _ _ _ _ _ _ _).trans rfl
set_option maxRecDepth 100000 in
theorem q_Nt_markStruck_1 (d : Nat) (l1 : Int32) (σ : jS) : b_Nt_markStruck_1 d l1 σ = (jif ((σ.1 78 0) ≤ l1) (b_Nt_markStruck_2 d σ) ((j_wrZ σ 85 l1 0).bind fun σ1 => b_Nt_markStruck_1 d (l1 + 1) σ1)) := (db_eq _ _ _ _ _ _ _).trans rfl
set_option maxRecDepth 100000 in
theorem q_Nt_markStruck_2 (d : Nat) (σ : jS) : b_Nt_markStruck_2 d σ = ((r_I (g_Nt_knownSize d σ)).bind fun q1 => b_Nt_markStruck_3 d (q1.1 - 1) q1.2) := (db_eq _ _ _ _ _ _ _).trans rfl
set_option maxRecDepth 100000 in
theorem q_Nt_markStruck_3 (d : Nat) (l1 : Int32) (σ : jS) : b_Nt_markStruck_3 d l1 σ = (jif (l1 < 0) (b_Nt_markStruck_5 d σ) ((j_rdI 1 σ 85 l1).bind fun x1 => jif (x1 = 0) ((j_rdI 0 σ 84 l1).bind fun x2 => jif (x2 = (-1)) (b_Nt_markStruck_4 d l1 σ) ((j_rdI 0 σ 84 l1).bind fun x3 => (j_wrZ σ 85 x3 1).bind fun σ4 => b_Nt_markStruck_4 d l1 σ4)) (b_Nt_markStruck_4 d l1 σ))) := (db_eq _ _ _ _ _ _ _).trans rfl
set_option maxRecDepth 100000 in
theorem q_Nt_markStruck_4 (d : Nat) (l1 : Int32) (σ : jS) : b_Nt_markStruck_4 d l1 σ = (b_Nt_markStruck_3 d (l1 + (-1)) σ) := (db_eq _ _ _ _ _ _ _).trans rfl
set_option maxRecDepth 100000 in
theorem q_Nt_markStruck_5 (d : Nat) (σ : jS) : b_Nt_markStruck_5 d σ = (some (none, σ)) := (db_eq _ _ _ _ _ _ _).trans rfl
noncomputable def b_Nt_holds_0 (d : Nat) (l1 : Int32) (σ : jS) : jR := db (jd jMT d) 2 k_Nt_holds 0 [(0, .ref 78), (1, .int l1)] [] σ
noncomputable def b_Nt_holds_1 (d : Nat) (σ : jS) : jR := db (jd jMT d) 2 k_Nt_holds 1 [] [] σ
noncomputable def b_Nt_holds_2 (d : Nat) (s0 : Int32) (σ : jS) : jR := db (jd jMT d) 2 k_Nt_holds 2 [] [.int s0] σ
theorem e_Nt_holds (d : Nat) (l1 : Int32) (σ : jS) : g_Nt_holds (d + 1) l1 σ = b_Nt_holds_0 d l1 σ := rfl
set_option maxRecDepth 100000 in
theorem q_Nt_holds_0 (d : Nat) (l1 : Int32) (σ : jS) : b_Nt_holds_0 d l1 σ = ((r_I (g_Nt_knownSize d σ)).bind fun q1 => jif (q1.1 ≤ l1) (b_Nt_holds_1 d q1.2) ((j_rdI 0 q1.2 84 l1).bind fun x2 => jif (x2 = (-1)) ((j_rdI 1 q1.2 85 l1).bind fun x3 => jif (x3 = 0) (b_Nt_holds_2 d 1 q1.2) (b_Nt_holds_1 d q1.2)) (b_Nt_holds_1 d q1.2))) := (db_eq _ _ _ _ _ _ _).trans rfl
set_option maxRecDepth 100000 in
theorem q_Nt_holds_1 (d : Nat) (σ : jS) : b_Nt_holds_1 d σ = (b_Nt_holds_2 d 0 σ) := (db_eq _ _ _ _ _ _ _).trans rfl
set_option maxRecDepth 100000 in
theorem q_Nt_holds_2 (d : Nat) (s0 : Int32) (σ : jS) : b_Nt_holds_2 d s0 σ = (if s0 = 0 ∨ s0 = 1 then some (some (.int s0), σ) else none) := (db_eq _ _ _ _ _ _ _).trans rfl
noncomputable def b_Nt_allows_0 (d : Nat) (l1 : Int32) (l2 : Int32) (σ : jS) : jR := db (jd jMT d) 2 k_Nt_allows 0 [(0, .ref 78), (1, .int l1), (2, .int l2)] [] σ
theorem e_Nt_allows (d : Nat) (l1 : Int32) (l2 : Int32) (σ : jS) : g_Nt_allows (d + 1) l1 l2 σ = b_Nt_allows_0 d l1 l2 σ := rfl
set_option maxRecDepth 100000 in
theorem q_Nt_allows_0 (d : Nat) (l1 : Int32) (l2 : Int32) (σ : jS) : b_Nt_allows_0 d l1 l2 σ = ((j_rdI 0 σ 82 l1).bind fun x1 => (j_rdI 0 σ 83 l1).bind fun x2 => (r_I (g_HH_within d l2 x1 x2 σ)).bind fun q3 => if q3.1 = 0 ∨ q3.1 = 1 then some (some (.int q3.1), q3.2) else none) := (db_eq _ _ _ _ _ _ _).trans rfl
noncomputable def b_Or_take_0 (d : Nat) (l1 : Nat) (l2 : Int32) (σ : jS) : jR := db (jd jMT d) 0 k_Or_take 0 [(0, .ref 71), (1, .ref l1), (2, .int l2)] [] σ
noncomputable def b_Or_take_1 (d : Nat) (l2 : Int32) (l3 : Int32) (σ : jS) : jR := db (jd jMT d) 0 k_Or_take 1 [(0, .ref 71), (2, .int l2), (3, .int l3)] [] σ
noncomputable def b_Or_take_2 (d : Nat) (l2 : Int32) (l3 : Int32) (σ : jS) : jR := db (jd jMT d) 0 k_Or_take 2 [(0, .ref 71), (2, .int l2), (3, .int l3)] [] σ
noncomputable def b_Or_take_3 (d : Nat) (l2 : Int32) (σ : jS) : jR := db (jd jMT d) 0 k_Or_take 3 [(0, .ref 71), (2, .int l2)] [] σ
noncomputable def b_Or_take_4 (d : Nat) (l2 : Int32) (l3 : Int32) (σ : jS) : jR := db (jd jMT d) 0 k_Or_take 4 [(0, .ref 71), (2, .int l2), (3, .int l3)] [] σ
noncomputable def b_Or_take_5 (d : Nat) (σ : jS) : jR := db (jd jMT d) 0 k_Or_take 5 [(0, .ref 71)] [] σ
theorem e_Or_take (d : Nat) (l1 : Nat) (l2 : Int32) (σ : jS) : g_Or_take (d + 1) l1 l2 σ = b_Or_take_0 d l1 l2 σ := rfl
set_option maxRecDepth 100000 in
theorem q_Or_take_0 (d : Nat) (l1 : Nat) (l2 : Int32) (σ : jS) : b_Or_take_0 d l1 l2 σ = (b_Or_take_1 d l2 0 (j_setI (j_setR σ 71 1 l1) 71 2 0)) := (db_eq _ _ _ _ _ _ _).trans rfl
set_option maxRecDepth 100000 in
theorem q_Or_take_1 (d : Nat) (l2 : Int32) (l3 : Int32) (σ : jS) : b_Or_take_1 d l2 l3 σ = (jc (j_is 6 (σ.2.2 71 1)) (jif ((σ.1 (σ.2.2 71 1) 0) ≤ l3) (b_Or_take_3 d l2 σ) ((r_I (g_Rw_isCarrier d l3 σ)).bind fun q1 => jif (q1.1 = 0) (b_Or_take_2 d l2 l3 q1.2) (jif (8 ≤ (q1.2.1 71 2)) (b_Or_take_2 d l2 l3 q1.2) ((j_wrI q1.2 72 (q1.2.1 71 2) l3).bind fun σ2 => (r_I (g_Rw_placeOf d l3 σ2)).bind fun q3 => (j_wrI q3.2 73 (σ2.1 71 2) q3.1).bind fun σ4 => b_Or_take_2 d l2 l3 (j_setI σ4 71 2 ((σ4.1 71 2) + 1))))))) := (db_eq _ _ _ _ _ _ _).trans rfl
set_option maxRecDepth 100000 in
theorem q_Or_take_2 (d : Nat) (l2 : Int32) (l3 : Int32) (σ : jS) : b_Or_take_2 d l2 l3 σ = (b_Or_take_1 d l2 (l3 + 1) σ) := (db_eq _ _ _ _ _ _ _).trans rfl
set_option maxRecDepth 100000 in
theorem q_Or_take_3 (d : Nat) (l2 : Int32) (σ : jS) : b_Or_take_3 d l2 σ = ((j_wrI σ 74 0 l2).bind fun σ1 => b_Or_take_4 d l2 1 σ1) := (db_eq _ _ _ _ _ _ _).trans rfl
set_option maxRecDepth 100000 in
theorem q_Or_take_4 (d : Nat) (l2 : Int32) (l3 : Int32) (σ : jS) : b_Or_take_4 d l2 l3 σ = (jif (((σ.1 71 2) + 1) < l3) (b_Or_take_5 d σ) ((j_wrI σ 74 l3 ((l2 : Int32) >>> (((l3 - 1) : Int32) &&& 31))).bind fun σ1 => b_Or_take_4 d l2 (l3 + 1) σ1)) := (db_eq _ _ _ _ _ _ _).trans rfl
set_option maxRecDepth 100000 in
theorem q_Or_take_5 (d : Nat) (σ : jS) : b_Or_take_5 d σ = ((r_V (g_Or_askOddOnes d σ)).bind fun σ1 => some (none, σ1)) := (db_eq _ _ _ _ _ _ _).trans rfl
noncomputable def b_Or_askOddOnes_0 (d : Nat) (σ : jS) : jR := db (jd jMT d) 0 k_Or_askOddOnes 0 [(0, .ref 71)] [] σ
noncomputable def b_Or_askOddOnes_1 (d : Nat) (l1 : Int32) (l2 : Int32) (σ : jS) : jR := db (jd jMT d) 0 k_Or_askOddOnes 1 [(0, .ref 71), (1, .int l1), (2, .int l2)] [] σ
noncomputable def b_Or_askOddOnes_2 (d : Nat) (l1 : Int32) (l2 : Int32) (l3 : Int32) (σ : jS) : jR := db (jd jMT d) 0 k_Or_askOddOnes 2 [(0, .ref 71), (1, .int l1), (2, .int l2), (3, .int l3)] [] σ
noncomputable def b_Or_askOddOnes_3 (d : Nat) (l1 : Int32) (l2 : Int32) (l3 : Int32) (l4 : Int32) (σ : jS) : jR := db (jd jMT d) 0 k_Or_askOddOnes 3 [(0, .ref 71), (1, .int l1), (2, .int l2), (3, .int l3), (4, .int l4)] [] σ
noncomputable def b_Or_askOddOnes_4 (d : Nat) (l1 : Int32) (l2 : Int32) (l3 : Int32) (σ : jS) : jR := db (jd jMT d) 0 k_Or_askOddOnes 4 [(0, .ref 71), (1, .int l1), (2, .int l2), (3, .int l3)] [] σ
noncomputable def b_Or_askOddOnes_5 (d : Nat) (l1 : Int32) (l2 : Int32) (l3 : Int32) (σ : jS) : jR := db (jd jMT d) 0 k_Or_askOddOnes 5 [(0, .ref 71), (1, .int l1), (2, .int l2), (3, .int l3)] [] σ
noncomputable def b_Or_askOddOnes_6 (d : Nat) (l1 : Int32) (l2 : Int32) (σ : jS) : jR := db (jd jMT d) 0 k_Or_askOddOnes 6 [(0, .ref 71), (1, .int l1), (2, .int l2)] [] σ
noncomputable def b_Or_askOddOnes_7 (d : Nat) (σ : jS) : jR := db (jd jMT d) 0 k_Or_askOddOnes 7 [] [] σ
theorem e_Or_askOddOnes (d : Nat) (σ : jS) : g_Or_askOddOnes (d + 1) σ = b_Or_askOddOnes_0 d σ := rfl
set_option maxRecDepth 100000 in
theorem q_Or_askOddOnes_0 (d : Nat) (σ : jS) : b_Or_askOddOnes_0 d σ = ((j_rdI 0 σ 70 ((σ.1 69 0) - 1)).bind fun x1 => b_Or_askOddOnes_1 d x1 1 σ) := (db_eq _ _ _ _ _ _ _).trans rfl
set_option maxRecDepth 100000 in
theorem q_Or_askOddOnes_1 (d : Nat) (l1 : Int32) (l2 : Int32) (σ : jS) : b_Or_askOddOnes_1 d l1 l2 σ = (jif ((σ.1 71 2) < l2) (b_Or_askOddOnes_7 d σ) (b_Or_askOddOnes_2 d l1 l2 0 σ)) := (db_eq _ _ _ _ _ _ _).trans rfl
set_option maxRecDepth 100000 in
theorem q_Or_askOddOnes_2 (d : Nat) (l1 : Int32) (l2 : Int32) (l3 : Int32) (σ : jS) : b_Or_askOddOnes_2 d l1 l2 l3 σ = (jif ((σ.1 71 2) ≤ l3) (b_Or_askOddOnes_6 d l1 l2 σ) (b_Or_askOddOnes_3 d l1 l2 l3 0 σ)) := (db_eq _ _ _ _ _ _ _).trans rfl
set_option maxRecDepth 100000 in
theorem q_Or_askOddOnes_3 (d : Nat) (l1 : Int32) (l2 : Int32) (l3 : Int32) (l4 : Int32) (σ : jS) : b_Or_askOddOnes_3 d l1 l2 l3 l4 σ = (jif ((σ.1 71 2) ≤ l2) (b_Or_askOddOnes_4 d l1 l2 l3 σ) (jif ((σ.1 71 2) ≤ l4) (b_Or_askOddOnes_4 d l1 l2 l3 σ) ((j_rdI 0 σ 72 l4).bind fun x1 => (r_V (g_Or_askOddOne d l2 l3 l4 x1 σ)).bind fun σ2 => b_Or_askOddOnes_3 d l1 l2 l3 (l4 + 1) σ2))) := (db_eq _ _ _ _ _ _ _).trans rfl
set_option maxRecDepth 100000 in
theorem q_Or_askOddOnes_4 (d : Nat) (l1 : Int32) (l2 : Int32) (l3 : Int32) (σ : jS) : b_Or_askOddOnes_4 d l1 l2 l3 σ = (jif (l2 = (σ.1 71 2)) ((r_V (g_Or_askOddOne d l2 l3 (σ.1 71 2) l1 σ)).bind fun σ1 => b_Or_askOddOnes_5 d l1 l2 l3 σ1) (b_Or_askOddOnes_5 d l1 l2 l3 σ)) := (db_eq _ _ _ _ _ _ _).trans rfl
set_option maxRecDepth 100000 in
theorem q_Or_askOddOnes_5 (d : Nat) (l1 : Int32) (l2 : Int32) (l3 : Int32) (σ : jS) : b_Or_askOddOnes_5 d l1 l2 l3 σ = (b_Or_askOddOnes_2 d l1 l2 (l3 + 1) σ) := (db_eq _ _ _ _ _ _ _).trans rfl
set_option maxRecDepth 100000 in
theorem q_Or_askOddOnes_6 (d : Nat) (l1 : Int32) (l2 : Int32) (σ : jS) : b_Or_askOddOnes_6 d l1 l2 σ = (b_Or_askOddOnes_1 d l1 (l2 + 1) σ) := (db_eq _ _ _ _ _ _ _).trans rfl
set_option maxRecDepth 100000 in
theorem q_Or_askOddOnes_7 (d : Nat) (σ : jS) : b_Or_askOddOnes_7 d σ = (some (none, σ)) := (db_eq _ _ _ _ _ _ _).trans rfl
noncomputable def b_Or_askOddOne_0 (d : Nat) (l1 : Int32) (l2 : Int32) (l3 : Int32) (l4 : Int32) (σ : jS) : jR := db (jd jMT d) 0 k_Or_askOddOne 0 [(0, .ref 71), (1, .int l1), (2, .int l2), (3, .int l3), (4, .int l4)] [] σ
theorem e_Or_askOddOne (d : Nat) (l1 : Int32) (l2 : Int32) (l3 : Int32) (l4 : Int32) (σ : jS) : g_Or_askOddOne (d + 1) l1 l2 l3 l4 σ = b_Or_askOddOne_0 d l1 l2 l3 l4 σ := rfl
set_option maxRecDepth 100000 in
theorem q_Or_askOddOne_0 (d : Nat) (l1 : Int32) (l2 : Int32) (l3 : Int32) (l4 : Int32) (σ : jS) : b_Or_askOddOne_0 d l1 l2 l3 l4 σ = (jc (j_is 6 (σ.2.2 71 1)) ((j_rdI 0 σ 72 l2).bind fun x1 => (j_rdI 0 σ (j_cr (σ.2.2 71 1) 2) x1).bind fun x2 => (r_I (g_Or_way d l1 l2 l3 σ)).bind fun q3 => jc (j_is 6 (q3.2.2.2 71 1)) ((j_rdI 0 q3.2 74 l1).bind fun x4 => jc (j_is 6 (q3.2.2.2 71 1)) ((j_rdI 0 q3.2 (j_cr (q3.2.2.2 71 1) 2) l4).bind fun x5 => jc (j_is 1 (j_cr (q3.2.2.2 71 1) 12)) ((r_I (g_La_oddStays d (j_cr (q3.2.2.2 71 1) 12) 4 (x4 ||| 1) x2 x5 l1 0 q3.2)).bind fun q6 => (j_wrZ q6.2 75 q3.1 q6.1).bind fun σ7 => some (none, σ7)))))) := (db_eq _ _ _ _ _ _ _).trans rfl
noncomputable def b_Or_way_0 (d : Nat) (l0 : Int32) (l1 : Int32) (l2 : Int32) (σ : jS) : jR := db (jd jMT d) 1 k_Or_way 0 [(0, .int l0), (1, .int l1), (2, .int l2)] [] σ
theorem e_Or_way (d : Nat) (l0 : Int32) (l1 : Int32) (l2 : Int32) (σ : jS) : g_Or_way (d + 1) l0 l1 l2 σ = b_Or_way_0 d l0 l1 l2 σ := rfl
set_option maxRecDepth 100000 in
theorem q_Or_way_0 (d : Nat) (l0 : Int32) (l1 : Int32) (l2 : Int32) (σ : jS) : b_Or_way_0 d l0 l1 l2 σ = (some (some (.int ((((l0 * 9) + l1) * 9) + l2)), σ)) := (db_eq _ _ _ _ _ _ _).trans rfl
noncomputable def b_Or_mostArriving_0 (d : Nat) (σ : jS) : jR := db (jd jMT d) 1 k_Or_mostArriving 0 [(0, .ref 71)] [] σ
noncomputable def b_Or_mostArriving_1 (d : Nat) (σ : jS) : jR := db (jd jMT d) 1 k_Or_mostArriving 1 [(0, .ref 71)] [] σ
noncomputable def b_Or_mostArriving_2 (d : Nat) (s0 : Int32) (σ : jS) : jR := db (jd jMT d) 1 k_Or_mostArriving 2 [] [.int s0] σ
theorem e_Or_mostArriving (d : Nat) (σ : jS) : g_Or_mostArriving (d + 1) σ = b_Or_mostArriving_0 d σ := rfl
set_option maxRecDepth 100000 in
theorem q_Or_mostArriving_0 (d : Nat) (σ : jS) : b_Or_mostArriving_0 d σ = ((j_rdI 0 σ 74 0).bind fun x1 => (r_I (g_HH_ceiling d x1 (σ.1 71 2) σ)).bind fun q2 => (r_I (g_Or_solved d 0 q2.1 q2.2)).bind fun q3 => jif (q3.1 ≤ 0) (b_Or_mostArriving_1 d q3.2) (b_Or_mostArriving_2 d q2.1 q3.2)) := (db_eq _ _ _ _ _ _ _).trans rfl
set_option maxRecDepth 100000 in
theorem q_Or_mostArriving_1 (d : Nat) (σ : jS) : b_Or_mostArriving_1 d σ = ((j_rdI 0 σ 74 ((σ.1 71 2) + 1)).bind fun x1 => b_Or_mostArriving_2 d x1 σ) := (db_eq _ _ _ _ _ _ _).trans rfl
set_option maxRecDepth 100000 in
theorem q_Or_mostArriving_2 (d : Nat) (s0 : Int32) (σ : jS) : b_Or_mostArriving_2 d s0 σ = (some (some (.int s0), σ)) := (db_eq _ _ _ _ _ _ _).trans rfl
noncomputable def b_Or_leastArriving_0 (d : Nat) (σ : jS) : jR := db (jd jMT d) 1 k_Or_leastArriving 0 [(0, .ref 71)] [] σ
noncomputable def b_Or_leastArriving_1 (d : Nat) (σ : jS) : jR := db (jd jMT d) 1 k_Or_leastArriving 1 [(0, .ref 71)] [] σ
noncomputable def b_Or_leastArriving_2 (d : Nat) (s0 : Int32) (σ : jS) : jR := db (jd jMT d) 1 k_Or_leastArriving 2 [] [.int s0] σ
theorem e_Or_leastArriving (d : Nat) (σ : jS) : g_Or_leastArriving (d + 1) σ = b_Or_leastArriving_0 d σ := rfl
set_option maxRecDepth 100000 in
theorem q_Or_leastArriving_0 (d : Nat) (σ : jS) : b_Or_leastArriving_0 d σ = ((j_rdI 0 σ 74 ((σ.1 71 2) + 1)).bind fun x1 => (r_I (g_Or_solved d 0 x1 σ)).bind fun q2 => jif (q2.1 ≤ 0) (b_Or_leastArriving_1 d q2.2) (b_Or_leastArriving_2 d x1 q2.2)) := (db_eq _ _ _ _ _ _ _).trans rfl
set_option maxRecDepth 100000 in
theorem q_Or_leastArriving_1 (d : Nat) (σ : jS) : b_Or_leastArriving_1 d σ = ((j_rdI 0 σ 74 0).bind fun x1 => (r_I (g_HH_ceiling d x1 (σ.1 71 2) σ)).bind fun q2 => b_Or_leastArriving_2 d q2.1 q2.2) := (db_eq _ _ _ _ _ _ _).trans rfl
set_option maxRecDepth 100000 in
theorem q_Or_leastArriving_2 (d : Nat) (s0 : Int32) (σ : jS) : b_Or_leastArriving_2 d s0 σ = (some (some (.int s0), σ)) := (db_eq _ _ _ _ _ _ _).trans rfl
noncomputable def b_Or_howManyBring_0 (d : Nat) (l1 : Int32) (σ : jS) : jR := db (jd jMT d) 1 k_Or_howManyBring 0 [(0, .ref 71), (1, .int l1)] [] σ
theorem e_Or_howManyBring (d : Nat) (l1 : Int32) (σ : jS) : g_Or_howManyBring (d + 1) l1 σ = b_Or_howManyBring_0 d l1 σ := rfl
set_option maxRecDepth 100000 in
theorem q_Or_howManyBring_0 (d : Nat) (l1 : Int32) (σ : jS) : b_Or_howManyBring_0 d l1 σ = ((r_I (g_Or_solved d 0 l1 σ)).bind fun q1 => some (some (.int q1.1), q1.2)) := (db_eq _ _ _ _ _ _ _).trans rfl
noncomputable def b_Or_firstBringing_0 (d : Nat) (l1 : Int32) (σ : jS) : jR := db (jd jMT d) 3 k_Or_firstBringing 0 [(0, .ref 71), (1, .int l1)] [] σ
noncomputable def b_Or_firstBringing_1 (d : Nat) (σ : jS) : jR := db (jd jMT d) 3 k_Or_firstBringing 1 [] [] σ
noncomputable def b_Or_firstBringing_2 (d : Nat) (s0 : Int64) (σ : jS) : jR := db (jd jMT d) 3 k_Or_firstBringing 2 [] [.long s0] σ
theorem e_Or_firstBringing (d : Nat) (l1 : Int32) (σ : jS) : g_Or_firstBringing (d + 1) l1 σ = b_Or_firstBringing_0 d l1 σ := rfl
set_option maxRecDepth 100000 in
theorem q_Or_firstBringing_0 (d : Nat) (l1 : Int32) (σ : jS) : b_Or_firstBringing_0 d l1 σ = ((r_I (g_Or_howManyBring d l1 σ)).bind fun q1 => jif (q1.1 ≤ 0) (b_Or_firstBringing_1 d q1.2) ((r_L (g_Or_laidRow d 0 q1.2)).bind fun q2 => b_Or_firstBringing_2 d q2.1 q2.2)) := (db_eq _ _ _ _ _ _ _).trans rfl
set_option maxRecDepth 100000 in
theorem q_Or_firstBringing_1 (d : Nat) (σ : jS) : b_Or_firstBringing_1 d σ = (b_Or_firstBringing_2 d (-2) σ) := (db_eq _ _ _ _ _ _ _).trans rfl
set_option maxRecDepth 100000 in
theorem q_Or_firstBringing_2 (d : Nat) (s0 : Int64) (σ : jS) : b_Or_firstBringing_2 d s0 σ = (some (some (.long s0), σ)) := (db_eq _ _ _ _ _ _ _).trans rfl
noncomputable def b_Or_fewestSwaps_0 (d : Nat) (l1 : Int32) (σ : jS) : jR := db (jd jMT d) 1 k_Or_fewestSwaps 0 [(0, .ref 71), (1, .int l1)] [] σ
noncomputable def b_Or_fewestSwaps_1 (d : Nat) (σ : jS) : jR := db (jd jMT d) 1 k_Or_fewestSwaps 1 [] [] σ
noncomputable def b_Or_fewestSwaps_2 (d : Nat) (s0 : Int32) (σ : jS) : jR := db (jd jMT d) 1 k_Or_fewestSwaps 2 [] [.int s0] σ
theorem e_Or_fewestSwaps (d : Nat) (l1 : Int32) (σ : jS) : g_Or_fewestSwaps (d + 1) l1 σ = b_Or_fewestSwaps_0 d l1 σ := rfl
set_option maxRecDepth 100000 in
theorem q_Or_fewestSwaps_0 (d : Nat) (l1 : Int32) (σ : jS) : b_Or_fewestSwaps_0 d l1 σ = ((r_I (g_Or_solved d 1 l1 σ)).bind fun q1 => jif (536870912 ≤ q1.1) (b_Or_fewestSwaps_1 d q1.2) (b_Or_fewestSwaps_2 d q1.1 q1.2)) := (db_eq _ _ _ _ _ _ _).trans rfl
set_option maxRecDepth 100000 in
theorem q_Or_fewestSwaps_1 (d : Nat) (σ : jS) : b_Or_fewestSwaps_1 d σ = (b_Or_fewestSwaps_2 d (-2) σ) := (db_eq _ _ _ _ _ _ _).trans rfl
set_option maxRecDepth 100000 in
theorem q_Or_fewestSwaps_2 (d : Nat) (s0 : Int32) (σ : jS) : b_Or_fewestSwaps_2 d s0 σ = (some (some (.int s0), σ)) := (db_eq _ _ _ _ _ _ _).trans rfl
