/-! Words of the constructors. Printed by wip/gen/ctorw.py. -/
def kname (ci : Nat) : MethodName := ⟨jrr ci, "<init>", (["(LHalfHands$Telling;)V", "()V", "()V", "(LHalfHands$Row;LHalfHands$Telling;)V", "([ILHalfHands$Telling;)V", "()V", "()V", "([I)V", "()V", "()V"] : List String).getD ci ""⟩
def kwK (ci : Nat) : Cond := .code (kname ci) (kcode ci) (kmaxL ci) none
set_option maxRecDepth 100000 in
theorem kwK_t : ∀ w ∈ [kwK 0, kwK 1, kwK 2, kwK 3, kwK 4, kwK 5, kwK 6, kwK 7, kwK 8, kwK 9], w ∈ lw_tbl := jw_of [370, 159, 489, 445, 265, 430, 153, 271, 145, 1374] rfl
theorem kwK_g : ∀ w ∈ [kwK 0, kwK 1, kwK 2, kwK 3, kwK 4, kwK 5, kwK 6, kwK 7, kwK 8, kwK 9], w ∈ jws := jws_of kwK_t (by decide +kernel)
def kwM (ci : Nat) : Cond := .instanceMethod (kname ci)
set_option maxRecDepth 100000 in
theorem kwM_t : ∀ w ∈ (List.range 10).map kwM, w ∈ lw_tbl := jw_of [369, 158, 488, 444, 264, 429, 152, 270, 144, 1373] (by decide +kernel)
theorem kwM_g : ∀ w ∈ (List.range 10).map kwM, w ∈ jws := jws_of kwM_t (by decide +kernel)
def kwT (ci : Nat) : Cond := .instantiable (jrr ci) (jnn ci)
set_option maxRecDepth 100000 in
theorem kwT_t : ∀ w ∈ (List.range 10).map kwT, w ∈ lw_tbl := jw_of [367, 156, 486, 442, 262, 427, 150, 268, 142, 1371] (by decide +kernel)
theorem kwT_g : ∀ w ∈ (List.range 10).map kwT, w ∈ jws := jws_of kwT_t (by decide +kernel)
def kwZ (ci : Nat) : Cond := .initialized (jrr ci)
set_option maxRecDepth 100000 in
theorem kwZ_t : ∀ w ∈ (List.range 10).map kwZ, w ∈ lw_tbl := jw_of [126, 119, 129, 128, 120, 127, 118, 121, 117, 130] (by decide +kernel)
theorem kwZ_g : ∀ w ∈ (List.range 10).map kwZ, w ∈ jws := jws_of kwZ_t (by decide +kernel)
def kwF (q : Nat × Nat × Nat × Nat) : Cond := .fieldLink (jrr q.1) q.2.1 (jrr q.2.2.1) (jtt q.2.2.1 q.2.2.2).2.1 (jtt q.2.2.1 q.2.2.2).2.2.1
set_option maxRecDepth 100000 in
theorem kwF_t : ∀ w ∈ kLF.map kwF, w ∈ lw_tbl := jw_of [374, 376, 380, 382, 384, 386, 388, 390, 392, 395, 394, 168, 169, 170, 171, 172, 173, 493, 495, 497, 499, 501, 502, 503, 504, 450, 451, 452, 453, 454, 455, 447, 448, 352, 353, 434, 200, 201, 206, 209, 213, 218, 220, 222, 227, 228, 331, 330, 524, 526, 527, 528, 530, 531, 532, 534, 535, 536, 537, 1377, 1379, 1380, 1381, 1382, 1383, 1384, 1385, 1386, 1387, 1388, 1389, 1390, 1391, 1392, 1402, 1409, 1410, 1413, 1414, 1415, 1416, 1417, 1418, 1419, 1420, 1421, 1422, 1425, 1427, 1430, 1446, 1447, 1448, 1449, 1450, 1451, 1452, 1453, 1454, 1455] (by decide +kernel)
theorem kwF_g : ∀ w ∈ kLF.map kwF, w ∈ jws := jws_of kwF_t (by decide +kernel)
def kwC (q : Nat × Nat × Nat) : Cond := .classLink (jrr q.1) q.2.1 (jrr q.2.2)
set_option maxRecDepth 100000 in
theorem kwC_t : ∀ w ∈ kLC.map kwC, w ∈ lw_tbl := jw_of [267, 155, 149, 261, 366, 426, 441, 485] (by decide +kernel)
theorem kwC_g : ∀ w ∈ kLC.map kwC, w ∈ jws := jws_of kwC_t (by decide +kernel)
def kwO (q : Nat × Nat × Nat) : Cond := .methodLink (jrr q.1) q.2.1 Lib.objectInit
set_option maxRecDepth 100000 in
theorem kwO_t : ∀ w ∈ kLO.map kwO, w ∈ lw_tbl := jw_of [371, 160, 490, 446, 266, 431, 154, 272, 146, 1375] (by decide +kernel)
theorem kwO_g : ∀ w ∈ kLO.map kwO, w ∈ jws := jws_of kwO_t (by decide +kernel)
/-- constructors called by a plain link, and by one of the nest -/
def kLIp : List (Nat × Nat × Nat) := [(4, 11, 7), (8, 25, 4), (8, 38, 0), (8, 60, 3)]
def kLIn : List (Nat × Nat × Nat) := [(6, 41, 1), (8, 15, 6), (8, 53, 5), (8, 69, 2)]
def kwI (q : Nat × Nat × Nat) : Cond := .methodLink (jrr q.1) q.2.1 (kname q.2.2)
set_option maxRecDepth 100000 in
theorem kwI_t : ∀ w ∈ kLIp.map kwI, w ∈ lw_tbl := jw_of [269, 263, 368, 443] (by decide +kernel)
theorem kwI_g : ∀ w ∈ kLIp.map kwI, w ∈ jws := jws_of kwI_t (by decide +kernel)
def kwN (q : Nat × Nat × Nat) : Cond := .methodLinkNest (jrr q.1) q.2.1 (kname q.2.2) "HalfHands"
set_option maxRecDepth 100000 in
theorem kwN_t : ∀ w ∈ kLIn.map kwN, w ∈ lw_tbl := jw_of [157, 151, 428, 487] (by decide +kernel)
def kwB : List Cond := [.instanceMethod Lib.objectInit, .code Lib.objectInit ⟨#[0xb1]⟩ 1 none, .arrayClass .int, .arrayClass .boolean, .arrayClass .long]
set_option maxRecDepth 100000 in
theorem kwB_t : ∀ w ∈ kwB, w ∈ lw_tbl := jw_of [147, 148, 193, 484, 194] (by decide +kernel)
theorem kwB_g : ∀ w ∈ kwB, w ∈ jws := jws_of kwB_t (by decide +kernel)
theorem kLI_in : ∀ q ∈ kLI, q ∈ kLIp ∨ q ∈ kLIn := by decide +kernel
