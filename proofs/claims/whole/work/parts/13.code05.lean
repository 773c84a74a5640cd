/-! The methods' blocks, held against their bytes. Printed by wip/gen/code.py. -/
def k_M_isAllRest : List jB := [
  (0, [0, 1], [(.iconst 0, []), (.istore_n 2, [])], 1),
  (2, [0, 1, 2], [(.iload_n 2, []), (.aload_n 0, []), (.getfield 301, [9, 36, 0]), (.if_icmp .ge 26, [3]), (.aload_n 0, []), (.getfield 86, [9, 43, 4]), (.bipush 30, []), (.iload_n 1, []), (.imul, []), (.iload_n 2, []), (.iadd, []), (.iaload, []), (.iconst 2, []), (.if_icmp .eq 5, [2]), (.iconst 0, []), (.ireturn, [])], 0),
  (27, [0, 1, 2], [(.iinc 2 1, []), (.goto (-28), [1])], 0),
  (33, [], [(.iconst 1, []), (.ireturn, [])], 0)]
def mt_214 : Nat × Nat × List jB := (2, 3, k_M_isAllRest)
set_option maxRecDepth 100000 in
theorem ck_214 : jok jm_214 mt_214 = true := by decide +kernel
def k_M_rest : List jB := [
  (0, [0], [(.aload_n 0, []), (.iconst 0, []), (.putfield 138, [9, 0, 0]), (.aload_n 0, []), (.invokevirtual 304, [191, 0, 9, 0]), (.aload_n 0, []), (.iconst 1, []), (.iconst 0, []), (.invokevirtual 388, [202, 2, 9, 0]), (.iconst 0, []), (.istore_n 1, [])], 1),
  (17, [0, 1], [(.iload_n 1, []), (.sipush 3000, []), (.if_icmp .gt 24, [3]), (.aload_n 0, []), (.iconst 1, []), (.invokevirtual 391, [214, 1, 9, 1]), (.ifCond .eq 5, [2]), (.iload_n 1, []), (.ireturn, [])], 0),
  (34, [0, 1], [(.aload_n 0, []), (.iconst 1, []), (.invokevirtual 382, [206, 1, 9, 0]), (.iinc 1 1, []), (.goto (-25), [1])], 0),
  (45, [], [(.bipush (-2), []), (.ireturn, [])], 0)]
def mt_215 : Nat × Nat × List jB := (1, 2, k_M_rest)
set_option maxRecDepth 100000 in
theorem ck_215 : jok jm_215 mt_215 = true := by decide +kernel
def k_M_takes : List jB := [
  (0, [0, 1, 2], [(.iload_n 1, []), (.iconst 2, []), (.if_icmp .lt 13, [1]), (.iload_n 1, []), (.aload_n 0, []), (.getfield 15, [9, 3, 4]), (.iconst 0, []), (.iaload, []), (.if_icmp .le 5, [2])], 1),
  (15, [], [(.iconst 0, []), (.ireturn, [])], 0),
  (17, [0, 1, 2], [(.iconst 0, []), (.istore 4, []), (.iconst 0, []), (.istore 5, [])], 3),
  (23, [0, 1, 2, 4, 5], [(.iload 5, []), (.iload_n 1, []), (.if_icmp .ge 62, [6]), (.lload_n 2, []), (.iconst 4, []), (.iload 5, []), (.imul, []), (.lshr, []), (.ldc2_w 394, [15]), (.land, []), (.l2i, []), (.istore 6, []), (.aload_n 0, []), (.iload 6, []), (.invokevirtual 379, [190, 1, 9, 1]), (.ifCond .eq 14, [4]), (.iload 4, []), (.iload 6, []), (.ishr, []), (.iconst 1, []), (.iand, []), (.iconst 1, []), (.if_icmp .ne 5, [5])], 4),
  (62, [], [(.iconst 0, []), (.ireturn, [])], 0),
  (64, [0, 1, 2, 4, 5, 6], [(.iload 4, []), (.iconst 1, []), (.iload 6, []), (.ishl, []), (.ior, []), (.istore 4, []), (.aload_n 0, []), (.getfield 98, [9, 49, 4]), (.iload 5, []), (.iload 6, []), (.iastore, []), (.iinc 5 1, []), (.goto (-62), [3])], 0),
  (88, [0, 1], [(.aload_n 0, []), (.iload_n 1, []), (.putfield 396, [9, 50, 0]), (.iconst 1, []), (.ireturn, [])], 0)]
def mt_216 : Nat × Nat × List jB := (2, 7, k_M_takes)
set_option maxRecDepth 100000 in
theorem ck_216 : jok jm_216 mt_216 = true := by decide +kernel
def k_M_takesSent : List jB := [
  (0, [0, 1, 2, 4], [(.iload 4, []), (.ifCond .lt 24, [1]), (.iload 4, []), (.ldc_w 399, [999999]), (.if_icmp .gt 16, [1]), (.aload_n 0, []), (.iload_n 1, []), (.lload_n 2, []), (.invokevirtual 400, [216, 2, 9, 1]), (.ifCond .eq 7, [1]), (.iconst 1, []), (.goto 4, [2])], 0),
  (26, [], [(.iconst 0, [])], 2),
  (27, [], [(.ireturn, [])], 0)]
def mt_217 : Nat × Nat × List jB := (2, 5, k_M_takesSent)
set_option maxRecDepth 100000 in
theorem ck_217 : jok jm_217 mt_217 = true := by decide +kernel
def k_M_sends : List jB := [
  (0, [0, 1], [(.iload_n 1, []), (.istore_n 2, []), (.iconst 1, []), (.istore_n 3, [])], 1),
  (4, [0, 2, 3], [(.iload_n 3, []), (.aload_n 0, []), (.getfield 396, [9, 50, 0]), (.iconst 1, []), (.isub, []), (.if_icmp .ge 45, [2]), (.aload_n 0, []), (.getfield 101, [9, 51, 4]), (.iload_n 3, []), (.aload_n 0, []), (.iload_n 2, []), (.aload_n 0, []), (.getfield 98, [9, 49, 4]), (.iload_n 3, []), (.iaload, []), (.aload_n 0, []), (.getfield 98, [9, 49, 4]), (.iload_n 3, []), (.iconst 1, []), (.iadd, []), (.iaload, []), (.iload_n 3, []), (.iconst 0, []), (.invokevirtual 375, [198, 5, 9, 1]), (.iastore, []), (.iload_n 2, []), (.aload_n 0, []), (.getfield 101, [9, 51, 4]), (.iload_n 3, []), (.iaload, []), (.isub, []), (.istore_n 2, []), (.iinc 3 1, []), (.goto (-49), [1])], 0),
  (56, [2], [(.iload_n 2, []), (.ireturn, [])], 0)]
def mt_218 : Nat × Nat × List jB := (1, 4, k_M_sends)
set_option maxRecDepth 100000 in
theorem ck_218 : jok jm_218 mt_218 = true := by decide +kernel
def k_M_rowAsLong : List jB := [
  (0, [0], [(.lconst 0, []), (.lstore_n 1, []), (.iconst 0, []), (.istore_n 3, [])], 1),
  (4, [0, 1, 3], [(.iload_n 3, []), (.aload_n 0, []), (.getfield 396, [9, 50, 0]), (.if_icmp .ge 23, [2]), (.lload_n 1, []), (.aload_n 0, []), (.getfield 98, [9, 49, 4]), (.iload_n 3, []), (.iaload, []), (.i2l, []), (.iconst 4, []), (.iload_n 3, []), (.imul, []), (.lshl, []), (.lor, []), (.lstore_n 1, []), (.iinc 3 1, []), (.goto (-25), [1])], 0),
  (32, [1], [(.lload_n 1, []), (.lreturn, [])], 0)]
def mt_219 : Nat × Nat × List jB := (3, 4, k_M_rowAsLong)
set_option maxRecDepth 100000 in
theorem ck_219 : jok jm_219 mt_219 = true := by decide +kernel
def k_M_arrives : List jB := [
  (0, [0, 1, 2, 4], [(.aload_n 0, []), (.iconst 0, []), (.putfield 138, [9, 0, 0]), (.aload_n 0, []), (.invokevirtual 304, [191, 0, 9, 0]), (.aload_n 0, []), (.iload_n 1, []), (.lload_n 2, []), (.iload 4, []), (.invokevirtual 404, [217, 3, 9, 1]), (.ifCond .eq 12, [1]), (.aload_n 0, []), (.iload 4, []), (.invokevirtual 408, [218, 1, 9, 1]), (.goto 4, [2])], 0),
  (29, [], [(.iconst (-1), [])], 2),
  (30, [], [(.ireturn, [])], 0)]
def mt_220 : Nat × Nat × List jB := (1, 5, k_M_arrives)
set_option maxRecDepth 100000 in
theorem ck_220 : jok jm_220 mt_220 = true := by decide +kernel
def k_M_keeps : List jB := [
  (0, [0, 1, 2, 4, 5], [(.aload_n 0, []), (.iconst 0, []), (.putfield 138, [9, 0, 0]), (.aload_n 0, []), (.invokevirtual 304, [191, 0, 9, 0]), (.aload_n 0, []), (.iload_n 1, []), (.lload_n 2, []), (.iload 4, []), (.invokevirtual 404, [217, 3, 9, 1]), (.ifCond .eq 17, [1]), (.iload 5, []), (.iconst 1, []), (.if_icmp .lt 11, [1]), (.iload 5, []), (.iload_n 1, []), (.iconst 2, []), (.isub, []), (.if_icmp .le 5, [2])], 1),
  (34, [], [(.iconst (-1), []), (.ireturn, [])], 0),
  (36, [0, 4, 5], [(.aload_n 0, []), (.iload 4, []), (.invokevirtual 408, [218, 1, 9, 1]), (.pop, []), (.aload_n 0, []), (.getfield 101, [9, 51, 4]), (.iload 5, []), (.iaload, []), (.ireturn, [])], 0)]
def mt_221 : Nat × Nat × List jB := (1, 6, k_M_keeps)
set_option maxRecDepth 100000 in
theorem ck_221 : jok jm_221 mt_221 = true := by decide +kernel
def k_M_goesOn : List jB := [
  (0, [0, 1, 3], [(.lload_n 1, []), (.l2i, []), (.istore 4, []), (.iload 4, []), (.aload_n 0, []), (.iload 4, []), (.aload_n 0, []), (.getfield 98, [9, 49, 4]), (.iload_n 3, []), (.iaload, []), (.aload_n 0, []), (.getfield 98, [9, 49, 4]), (.iload_n 3, []), (.iconst 1, []), (.iadd, []), (.iaload, []), (.iload_n 3, []), (.iconst 0, []), (.invokevirtual 375, [198, 5, 9, 1]), (.isub, []), (.ireturn, [])], 0)]
def mt_222 : Nat × Nat × List jB := (1, 5, k_M_goesOn)
set_option maxRecDepth 100000 in
theorem ck_222 : jok jm_222 mt_222 = true := by decide +kernel
def k_M_backs : List jB := [
  (0, [0, 1], [(.aload_n 0, []), (.iload_n 1, []), (.i2l, []), (.putfield 411, [9, 52, 2]), (.aload_n 0, []), (.iload_n 1, []), (.i2l, []), (.putfield 415, [9, 53, 2]), (.aload_n 0, []), (.getfield 396, [9, 50, 0]), (.iconst 2, []), (.isub, []), (.istore_n 2, [])], 1),
  (19, [0, 2], [(.iload_n 2, []), (.ifCond .le 127, [7]), (.ldc2_w 418, [2]), (.aload_n 0, []), (.getfield 411, [9, 52, 2]), (.lmul, []), (.lstore_n 3, []), (.ldc2_w 418, [2]), (.aload_n 0, []), (.getfield 415, [9, 53, 2]), (.lmul, []), (.lstore 5, []), (.lload_n 3, []), (.ldc2_w 420, [1999998]), (.lcmp, []), (.ifCond .le 14, [2]), (.aload_n 0, []), (.lload_n 3, []), (.putfield 411, [9, 52, 2]), (.aload_n 0, []), (.lload_n 3, []), (.putfield 415, [9, 53, 2]), (.return_, [])], 0),
  (61, [0, 2, 3, 5], [(.aload_n 0, []), (.lload_n 3, []), (.lconst 0, []), (.lcmp, []), (.ifCond .le 26, [3]), (.aload_n 0, []), (.lload_n 3, []), (.lconst 1, []), (.lsub, []), (.iload_n 2, []), (.invokevirtual 422, [222, 2, 9, 1]), (.lload_n 3, []), (.ldc2_w 418, [2]), (.ldiv, []), (.l2i, []), (.if_icmp .ne 9, [3]), (.lload_n 3, []), (.lconst 1, []), (.lsub, []), (.goto 4, [4])], 0),
  (91, [0, 2, 3, 5], [(.lload_n 3, [])], 4),
  (92, [0, 2, 5], [(.putfield 411, [9, 52, 2]), (.aload_n 0, []), (.aload_n 0, []), (.lload 5, []), (.lconst 1, []), (.ladd, []), (.iload_n 2, []), (.invokevirtual 422, [222, 2, 9, 1]), (.lload 5, []), (.ldc2_w 418, [2]), (.ldiv, []), (.l2i, []), (.if_icmp .ne 10, [5]), (.lload 5, []), (.lconst 1, []), (.ladd, []), (.goto 5, [6])], 0),
  (122, [0, 2, 5], [(.lload 5, [])], 6),
  (124, [0, 2], [(.putfield 415, [9, 53, 2]), (.aload_n 0, []), (.aload_n 0, []), (.getfield 415, [9, 53, 2]), (.ldc2_w 420, [1999998]), (.invokestatic 426, [912, 0]), (.putfield 415, [9, 53, 2]), (.iinc 2 (-1), []), (.goto (-125), [1])], 0),
  (147, [], [(.return_, [])], 0)]
def mt_223 : Nat × Nat × List jB := (0, 7, k_M_backs)
set_option maxRecDepth 100000 in
theorem ck_223 : jok jm_223 mt_223 = true := by decide +kernel
def k_M_laysBack : List jB := [
  (0, [0, 1, 2, 4], [(.aload_n 0, []), (.invokevirtual 304, [191, 0, 9, 0]), (.iload 4, []), (.ifCond .lt 19, [1]), (.iload 4, []), (.ldc 176, [99999]), (.if_icmp .gt 12, [1]), (.aload_n 0, []), (.iload_n 1, []), (.lload_n 2, []), (.invokevirtual 400, [216, 2, 9, 1]), (.ifCond .ne 5, [2])], 1),
  (25, [], [(.iconst 0, []), (.ireturn, [])], 0),
  (27, [0, 4], [(.aload_n 0, []), (.iload 4, []), (.invokevirtual 429, [223, 1, 9, 0]), (.aload_n 0, []), (.aload_n 0, []), (.getfield 415, [9, 53, 2]), (.ldc2_w 432, [999999]), (.invokestatic 426, [912, 0]), (.putfield 415, [9, 53, 2]), (.iconst 1, []), (.ireturn, [])], 0)]
def mt_224 : Nat × Nat × List jB := (2, 5, k_M_laysBack)
set_option maxRecDepth 100000 in
theorem ck_224 : jok jm_224 mt_224 = true := by decide +kernel
def k_M_back : List jB := [
  (0, [0, 1, 2, 4, 5], [(.aload_n 0, []), (.iconst 0, []), (.putfield 138, [9, 0, 0]), (.iload 5, []), (.ifCond .lt 20, [1]), (.iload 5, []), (.iconst 3, []), (.if_icmp .gt 14, [1]), (.aload_n 0, []), (.iload_n 1, []), (.lload_n 2, []), (.iload 4, []), (.invokevirtual 434, [224, 3, 9, 1]), (.ifCond .ne 5, [2])], 1),
  (27, [], [(.iconst (-1), []), (.ireturn, [])], 0),
  (29, [0, 5], [(.aload_n 0, []), (.getfield 411, [9, 52, 2]), (.aload_n 0, []), (.getfield 415, [9, 53, 2]), (.lcmp, []), (.ifCond .gt 7, [3]), (.iconst 1, []), (.goto 4, [4])], 0),
  (45, [0, 5], [(.iconst 0, [])], 4),
  (46, [0, 5], [(.istore 6, []), (.iload 5, []), (.tableswitch 78 0 2 #[26, 48, 63], [14, 5, 8, 11])], 0),
  (76, [0, 6], [(.iload 6, []), (.ifCond .eq 18, [6]), (.aload_n 0, []), (.getfield 415, [9, 53, 2]), (.aload_n 0, []), (.getfield 411, [9, 52, 2]), (.lsub, []), (.lconst 1, []), (.ladd, []), (.l2i, []), (.goto 4, [7])], 0),
  (96, [], [(.iconst 0, [])], 7),
  (97, [], [(.ireturn, [])], 0),
  (98, [0, 6], [(.iload 6, []), (.ifCond .eq 11, [9]), (.aload_n 0, []), (.getfield 411, [9, 52, 2]), (.l2i, []), (.goto 4, [10])], 0),
  (111, [], [(.iconst (-1), [])], 10),
  (112, [], [(.ireturn, [])], 0),
  (113, [0, 6], [(.iload 6, []), (.ifCond .eq 11, [12]), (.aload_n 0, []), (.getfield 415, [9, 53, 2]), (.l2i, []), (.goto 4, [13])], 0),
  (126, [], [(.iconst (-1), [])], 13),
  (127, [], [(.ireturn, [])], 0),
  (128, [6], [(.iload 6, []), (.ifCond .eq 7, [15]), (.iconst 1, []), (.goto 4, [16])], 0),
  (137, [], [(.iconst 0, [])], 16),
  (138, [], [(.ireturn, [])], 0)]
def mt_225 : Nat × Nat × List jB := (1, 7, k_M_back)
set_option maxRecDepth 100000 in
theorem ck_225 : jok jm_225 mt_225 = true := by decide +kernel
def k_M_span : List jB := [
  (0, [0, 1, 2, 4, 5, 6], [(.aload_n 0, []), (.iconst 0, []), (.putfield 138, [9, 0, 0]), (.iload 6, []), (.ifCond .lt 37, [1]), (.iload 6, []), (.iconst 1, []), (.if_icmp .gt 31, [1]), (.iload 5, []), (.ifCond .ne 26, [1]), (.aload_n 0, []), (.iload_n 1, []), (.lload_n 2, []), (.iload 4, []), (.invokevirtual 434, [224, 3, 9, 1]), (.ifCond .eq 15, [1]), (.aload_n 0, []), (.getfield 411, [9, 52, 2]), (.aload_n 0, []), (.getfield 415, [9, 53, 2]), (.lcmp, []), (.ifCond .le 5, [2])], 1),
  (44, [], [(.iconst (-1), []), (.ireturn, [])], 0),
  (46, [0, 6], [(.iload 6, []), (.ifCond .ne 10, [3]), (.aload_n 0, []), (.getfield 411, [9, 52, 2]), (.goto 7, [4])], 0),
  (58, [0], [(.aload_n 0, []), (.getfield 415, [9, 53, 2])], 4),
  (62, [], [(.l2i, []), (.ireturn, [])], 0)]
def mt_226 : Nat × Nat × List jB := (1, 7, k_M_span)
set_option maxRecDepth 100000 in
theorem ck_226 : jok jm_226 mt_226 = true := by decide +kernel
def k_M_turns : List jB := [
  (0, [0, 1, 2], [(.iload_n 1, []), (.aload_n 0, []), (.getfield 396, [9, 50, 0]), (.iconst 1, []), (.isub, []), (.if_icmp .ne 8, [1]), (.aload_n 0, []), (.invokevirtual 437, [228, 0, 9, 0]), (.return_, [])], 0),
  (15, [0, 1, 2], [(.iconst (-1), []), (.istore_n 3, []), (.iconst 1, []), (.istore 4, [])], 2),
  (20, [0, 1, 2, 3, 4], [(.iload 4, []), (.aload_n 0, []), (.getfield 396, [9, 50, 0]), (.iconst 1, []), (.isub, []), (.if_icmp .ge 114, [8]), (.iconst (-1), []), (.istore 5, []), (.iconst 1, []), (.istore 6, [])], 3),
  (37, [0, 1, 2, 3, 4, 5, 6], [(.iload 6, []), (.aload_n 0, []), (.getfield 396, [9, 50, 0]), (.iconst 1, []), (.isub, []), (.if_icmp .ge 56, [6]), (.iload_n 2, []), (.iload 6, []), (.ishr, []), (.iconst 1, []), (.iand, []), (.ifCond .ne 41, [5]), (.aload_n 0, []), (.getfield 104, [9, 54, 4]), (.iload 6, []), (.iaload, []), (.iload_n 3, []), (.if_icmp .le 30, [5]), (.iload 5, []), (.iconst (-1), []), (.if_icmp .eq 20, [4]), (.aload_n 0, []), (.getfield 104, [9, 54, 4]), (.iload 6, []), (.iaload, []), (.aload_n 0, []), (.getfield 104, [9, 54, 4]), (.iload 5, []), (.iaload, []), (.if_icmp .ge 7, [5])], 4),
  (91, [0, 1, 2, 3, 4, 6], [(.iload 6, []), (.istore 5, [])], 5),
  (95, [0, 1, 2, 3, 4, 5, 6], [(.iinc 6 1, []), (.goto (-61), [3])], 0),
  (101, [0, 1, 2, 4, 5], [(.iload 5, []), (.iconst (-1), []), (.if_icmp .ne 4, [7]), (.return_, [])], 0),
  (108, [0, 1, 2, 4, 5], [(.aload_n 0, []), (.getfield 104, [9, 54, 4]), (.iload 5, []), (.iaload, []), (.istore_n 3, []), (.aload_n 0, []), (.getfield 98, [9, 49, 4]), (.iload_n 1, []), (.iload_n 3, []), (.iastore, []), (.aload_n 0, []), (.iload_n 1, []), (.iconst 1, []), (.iadd, []), (.iload_n 2, []), (.iconst 1, []), (.iload 5, []), (.ishl, []), (.ior, []), (.invokevirtual 440, [227, 2, 9, 0]), (.iinc 4 1, []), (.goto (-119), [2])], 0),
  (142, [], [(.return_, [])], 0)]
def mt_227 : Nat × Nat × List jB := (0, 7, k_M_turns)
set_option maxRecDepth 100000 in
theorem ck_227 : jok jm_227 mt_227 = true := by decide +kernel
def k_M_sees : List jB := [
  (0, [0], [(.aload_n 0, []), (.aload_n 0, []), (.getfield 443, [9, 56, 0]), (.invokevirtual 408, [218, 1, 9, 1]), (.istore_n 1, []), (.iconst 0, []), (.istore_n 2, []), (.iload_n 1, []), (.istore_n 3, []), (.aload_n 0, []), (.getfield 446, [9, 55, 0]), (.iconst 1, []), (.if_icmp .ne 29, [3])], 1),
  (21, [0, 1, 2], [(.aload_n 0, []), (.getfield 98, [9, 49, 4]), (.iload_n 2, []), (.iaload, []), (.aload_n 0, []), (.getfield 449, [9, 58, 0]), (.if_icmp .eq 9, [2]), (.iinc 2 1, []), (.goto (-16), [1])], 0),
  (40, [0, 1, 2], [(.aload_n 0, []), (.getfield 101, [9, 51, 4]), (.iload_n 2, []), (.iaload, []), (.istore_n 3, [])], 3),
  (47, [0, 1, 2, 3], [(.aload_n 0, []), (.getfield 452, [9, 59, 0]), (.iconst (-1), []), (.if_icmp .eq 11, [4]), (.iload_n 3, []), (.aload_n 0, []), (.getfield 452, [9, 59, 0]), (.if_icmp .le 21, [5])], 4),
  (63, [0, 1, 2, 3], [(.aload_n 0, []), (.iload_n 3, []), (.putfield 452, [9, 59, 0]), (.aload_n 0, []), (.iload_n 2, []), (.putfield 455, [9, 61, 0]), (.aload_n 0, []), (.aload_n 0, []), (.invokevirtual 458, [219, 0, 9, 2]), (.putfield 462, [9, 63, 2])], 5),
  (81, [0, 1, 2, 3], [(.aload_n 0, []), (.getfield 465, [9, 60, 0]), (.iconst (-1), []), (.if_icmp .eq 11, [6]), (.iload_n 3, []), (.aload_n 0, []), (.getfield 465, [9, 60, 0]), (.if_icmp .ge 21, [7])], 6),
  (97, [0, 1, 2, 3], [(.aload_n 0, []), (.iload_n 3, []), (.putfield 465, [9, 60, 0]), (.aload_n 0, []), (.iload_n 2, []), (.putfield 468, [9, 62, 0]), (.aload_n 0, []), (.aload_n 0, []), (.invokevirtual 458, [219, 0, 9, 2]), (.putfield 471, [9, 64, 2])], 7),
  (115, [0, 1], [(.iload_n 1, []), (.aload_n 0, []), (.getfield 474, [9, 57, 0]), (.if_icmp .eq 4, [8]), (.return_, [])], 0),
  (124, [0], [(.aload_n 0, []), (.getfield 477, [9, 65, 0]), (.ifCond .ne 11, [9]), (.aload_n 0, []), (.aload_n 0, []), (.invokevirtual 458, [219, 0, 9, 2]), (.putfield 480, [9, 66, 2])], 9),
  (139, [0], [(.aload_n 0, []), (.dup, []), (.getfield 477, [9, 65, 0]), (.iconst 1, []), (.iadd, []), (.putfield 477, [9, 65, 0]), (.aload_n 0, []), (.invokevirtual 483, [229, 0, 9, 1]), (.istore 4, []), (.aload_n 0, []), (.getfield 486, [9, 67, 0]), (.iconst (-1), []), (.if_icmp .eq 13, [10]), (.iload 4, []), (.aload_n 0, []), (.getfield 486, [9, 67, 0]), (.if_icmp .lt 4, [10]), (.return_, [])], 0),
  (173, [0, 4], [(.aload_n 0, []), (.iload 4, []), (.putfield 486, [9, 67, 0]), (.aload_n 0, []), (.aload_n 0, []), (.invokevirtual 458, [219, 0, 9, 2]), (.putfield 489, [9, 68, 2]), (.return_, [])], 0)]
def mt_228 : Nat × Nat × List jB := (0, 5, k_M_sees)
set_option maxRecDepth 100000 in
theorem ck_228 : jok jm_228 mt_228 = true := by decide +kernel
def k_M_changesTo : List jB := [
  (0, [0], [(.iconst 0, []), (.istore_n 1, []), (.iconst 1, []), (.istore_n 2, [])], 1),
  (4, [0, 1, 2], [(.iload_n 2, []), (.aload_n 0, []), (.getfield 396, [9, 50, 0]), (.iconst 1, []), (.isub, []), (.if_icmp .ge 60, [6]), (.iload_n 2, []), (.iconst 1, []), (.iadd, []), (.istore_n 3, [])], 2),
  (18, [0, 1, 2, 3], [(.iload_n 3, []), (.aload_n 0, []), (.getfield 396, [9, 50, 0]), (.iconst 1, []), (.isub, []), (.if_icmp .ge 40, [5]), (.iload_n 1, []), (.aload_n 0, []), (.aload_n 0, []), (.getfield 104, [9, 54, 4]), (.iload_n 2, []), (.iaload, []), (.invokevirtual 492, [230, 1, 9, 1]), (.aload_n 0, []), (.aload_n 0, []), (.getfield 104, [9, 54, 4]), (.iload_n 3, []), (.iaload, []), (.invokevirtual 492, [230, 1, 9, 1]), (.if_icmp .le 7, [3]), (.iconst 1, []), (.goto 4, [4])], 0),
  (56, [0, 2, 3], [(.iconst 0, [])], 4),
  (57, [0, 2, 3], [(.iadd, []), (.istore_n 1, []), (.iinc 3 1, []), (.goto (-44), [2])], 0),
  (65, [0, 1, 2], [(.iinc 2 1, []), (.goto (-64), [1])], 0),
  (71, [1], [(.iload_n 1, []), (.ireturn, [])], 0)]
def mt_229 : Nat × Nat × List jB := (1, 4, k_M_changesTo)
set_option maxRecDepth 100000 in
theorem ck_229 : jok jm_229 mt_229 = true := by decide +kernel
def k_M_placeOf : List jB := [
  (0, [0, 1], [(.iconst 0, []), (.istore_n 2, [])], 1),
  (2, [0, 1, 2], [(.aload_n 0, []), (.getfield 98, [9, 49, 4]), (.iload_n 2, []), (.iaload, []), (.iload_n 1, []), (.if_icmp .eq 9, [2]), (.iinc 2 1, []), (.goto (-13), [1])], 0),
  (18, [2], [(.iload_n 2, []), (.ireturn, [])], 0)]
def mt_230 : Nat × Nat × List jB := (1, 3, k_M_placeOf)
set_option maxRecDepth 100000 in
theorem ck_230 : jok jm_230 mt_230 = true := by decide +kernel
def k_M_goesThrough : List jB := [
  (0, [0, 1, 2, 3, 4], [(.iconst 0, []), (.istore 5, [])], 1),
  (3, [0, 1, 2, 3, 4, 5], [(.iload 5, []), (.aload_n 0, []), (.getfield 396, [9, 50, 0]), (.if_icmp .ge 23, [2]), (.aload_n 0, []), (.getfield 104, [9, 54, 4]), (.iload 5, []), (.aload_n 0, []), (.getfield 98, [9, 49, 4]), (.iload 5, []), (.iaload, []), (.iastore, []), (.iinc 5 1, []), (.goto (-26), [1])], 0),
  (32, [0, 1, 2, 3, 4], [(.aload_n 0, []), (.iload_n 3, []), (.putfield 446, [9, 55, 0]), (.aload_n 0, []), (.iload_n 1, []), (.putfield 443, [9, 56, 0]), (.aload_n 0, []), (.iload_n 2, []), (.putfield 474, [9, 57, 0]), (.aload_n 0, []), (.iload 4, []), (.putfield 449, [9, 58, 0]), (.aload_n 0, []), (.iconst (-1), []), (.putfield 452, [9, 59, 0]), (.aload_n 0, []), (.iconst (-1), []), (.putfield 465, [9, 60, 0]), (.aload_n 0, []), (.iconst 0, []), (.putfield 477, [9, 65, 0]), (.aload_n 0, []), (.iconst (-1), []), (.putfield 486, [9, 67, 0]), (.aload_n 0, []), (.iconst 1, []), (.iconst 0, []), (.invokevirtual 440, [227, 2, 9, 0]), (.iconst 0, []), (.istore 5, [])], 3),
  (82, [0, 5], [(.iload 5, []), (.aload_n 0, []), (.getfield 396, [9, 50, 0]), (.if_icmp .ge 23, [4]), (.aload_n 0, []), (.getfield 98, [9, 49, 4]), (.iload 5, []), (.aload_n 0, []), (.getfield 104, [9, 54, 4]), (.iload 5, []), (.iaload, []), (.iastore, []), (.iinc 5 1, []), (.goto (-26), [3])], 0),
  (111, [], [(.return_, [])], 0)]
def mt_231 : Nat × Nat × List jB := (0, 6, k_M_goesThrough)
set_option maxRecDepth 100000 in
theorem ck_231 : jok jm_231 mt_231 = true := by decide +kernel
def k_M_best : List jB := [
  (0, [0, 1, 2, 4, 5], [(.aload_n 0, []), (.iconst 0, []), (.putfield 138, [9, 0, 0]), (.aload_n 0, []), (.invokevirtual 304, [191, 0, 9, 0]), (.iload 5, []), (.ifCond .lt 20, [1]), (.iload 5, []), (.iconst 1, []), (.if_icmp .gt 14, [1]), (.aload_n 0, []), (.iload_n 1, []), (.lload_n 2, []), (.iload 4, []), (.invokevirtual 404, [217, 3, 9, 1]), (.ifCond .ne 5, [2])], 1),
  (31, [], [(.iconst (-1), []), (.ireturn, [])], 0),
  (33, [0, 4, 5], [(.aload_n 0, []), (.iload 4, []), (.iconst (-1), []), (.iconst 0, []), (.iconst (-1), []), (.invokevirtual 495, [231, 4, 9, 0]), (.iload 5, []), (.ifCond .ne 10, [3]), (.aload_n 0, []), (.getfield 452, [9, 59, 0]), (.goto 7, [4])], 0),
  (54, [0], [(.aload_n 0, []), (.getfield 465, [9, 60, 0])], 4),
  (58, [], [(.ireturn, [])], 0)]
def mt_232 : Nat × Nat × List jB := (1, 6, k_M_best)
set_option maxRecDepth 100000 in
theorem ck_232 : jok jm_232 mt_232 = true := by decide +kernel
def k_M_order : List jB := [
  (0, [0, 1, 2, 4, 5], [(.aload_n 0, []), (.iconst 0, []), (.putfield 138, [9, 0, 0]), (.aload_n 0, []), (.invokevirtual 304, [191, 0, 9, 0]), (.iload 5, []), (.ifCond .lt 20, [1]), (.iload 5, []), (.iconst 1, []), (.if_icmp .gt 14, [1]), (.aload_n 0, []), (.iload_n 1, []), (.lload_n 2, []), (.iload 4, []), (.invokevirtual 404, [217, 3, 9, 1]), (.ifCond .ne 7, [2])], 1),
  (31, [], [(.ldc2_w 498, [18446744073709551615]), (.lreturn, [])], 0),
  (35, [0, 4, 5], [(.aload_n 0, []), (.iload 4, []), (.iconst (-1), []), (.iconst 0, []), (.iconst (-1), []), (.invokevirtual 495, [231, 4, 9, 0]), (.iload 5, []), (.ifCond .ne 10, [3]), (.aload_n 0, []), (.getfield 462, [9, 63, 2]), (.goto 7, [4])], 0),
  (56, [0], [(.aload_n 0, []), (.getfield 471, [9, 64, 2])], 4),
  (60, [], [(.lreturn, [])], 0)]
def mt_233 : Nat × Nat × List jB := (3, 6, k_M_order)
set_option maxRecDepth 100000 in
theorem ck_233 : jok jm_233 mt_233 = true := by decide +kernel
def k_M_isAimed : List jB := [
  (0, [0, 1, 2, 4, 5], [(.aload_n 0, []), (.invokevirtual 304, [191, 0, 9, 0]), (.iload 5, []), (.ifCond .lt 22, [1]), (.iload 5, []), (.ldc_w 399, [999999]), (.if_icmp .gt 14, [1]), (.aload_n 0, []), (.iload_n 1, []), (.lload_n 2, []), (.iload 4, []), (.invokevirtual 404, [217, 3, 9, 1]), (.ifCond .ne 5, [2])], 1),
  (28, [], [(.iconst 0, []), (.ireturn, [])], 0),
  (30, [0, 4, 5], [(.aload_n 0, []), (.iload 4, []), (.iload 5, []), (.iconst 0, []), (.iconst (-1), []), (.invokevirtual 495, [231, 4, 9, 0]), (.iconst 1, []), (.ireturn, [])], 0)]
def mt_234 : Nat × Nat × List jB := (2, 6, k_M_isAimed)
set_option maxRecDepth 100000 in
theorem ck_234 : jok jm_234 mt_234 = true := by decide +kernel
def k_M_just : List jB := [
  (0, [0, 1, 2, 4, 5], [(.aload_n 0, []), (.iconst 0, []), (.putfield 138, [9, 0, 0]), (.aload_n 0, []), (.iload_n 1, []), (.lload_n 2, []), (.iload 4, []), (.iload 5, []), (.invokevirtual 500, [234, 4, 9, 1]), (.ifCond .eq 10, [1]), (.aload_n 0, []), (.getfield 477, [9, 65, 0]), (.goto 4, [2])], 0),
  (25, [], [(.iconst (-1), [])], 2),
  (26, [], [(.ireturn, [])], 0)]
def mt_235 : Nat × Nat × List jB := (1, 6, k_M_just)
set_option maxRecDepth 100000 in
theorem ck_235 : jok jm_235 mt_235 = true := by decide +kernel
def k_M_first : List jB := [
  (0, [0, 1, 2, 4, 5], [(.aload_n 0, []), (.iconst 0, []), (.putfield 138, [9, 0, 0]), (.aload_n 0, []), (.iload_n 1, []), (.lload_n 2, []), (.iload 4, []), (.iload 5, []), (.invokevirtual 500, [234, 4, 9, 1]), (.ifCond .ne 9, [1]), (.ldc2_w 498, [18446744073709551615]), (.goto 20, [3])], 0),
  (24, [0], [(.aload_n 0, []), (.getfield 477, [9, 65, 0]), (.ifCond .ne 9, [2]), (.ldc2_w 504, [18446744073709551614]), (.goto 7, [3])], 0),
  (37, [0], [(.aload_n 0, []), (.getfield 480, [9, 66, 2])], 3),
  (41, [], [(.lreturn, [])], 0)]
def mt_236 : Nat × Nat × List jB := (3, 6, k_M_first)
set_option maxRecDepth 100000 in
theorem ck_236 : jok jm_236 mt_236 = true := by decide +kernel
def k_M_bound : List jB := [
  (0, [0, 1, 2, 3], [(.aload_n 0, []), (.iconst 0, []), (.putfield 138, [9, 0, 0]), (.iload_n 1, []), (.ifCond .lt 29, [1]), (.iload_n 1, []), (.bipush 8, []), (.if_icmp .gt 23, [1]), (.iload_n 2, []), (.ifCond .lt 19, [1]), (.iload_n 2, []), (.ldc_w 399, [999999]), (.if_icmp .gt 12, [1]), (.iload_n 3, []), (.ifCond .lt 8, [1]), (.iload_n 3, []), (.iconst 1, []), (.if_icmp .le 5, [2])], 1),
  (35, [], [(.iconst (-1), []), (.ireturn, [])], 0),
  (37, [1, 2, 3], [(.iload_n 2, []), (.istore 4, []), (.iconst 0, []), (.istore 5, [])], 3),
  (43, [1, 3, 4, 5], [(.iload 5, []), (.iload_n 1, []), (.if_icmp .ge 28, [6]), (.iload_n 3, []), (.ifCond .ne 12, [4]), (.iload 4, []), (.iconst 1, []), (.iadd, []), (.iconst 2, []), (.idiv, []), (.goto 7, [5])], 0),
  (62, [1, 3, 4, 5], [(.iload 4, []), (.iconst 2, []), (.idiv, [])], 5),
  (66, [1, 3, 5], [(.istore 4, []), (.iinc 5 1, []), (.goto (-28), [3])], 0),
  (74, [4], [(.iload 4, []), (.ireturn, [])], 0)]
def mt_237 : Nat × Nat × List jB := (1, 6, k_M_bound)
set_option maxRecDepth 100000 in
theorem ck_237 : jok jm_237 mt_237 = true := by decide +kernel
def k_M_gains : List jB := [
  (0, [0, 1, 2, 4, 5, 6], [(.aload_n 0, []), (.iconst 0, []), (.putfield 138, [9, 0, 0]), (.aload_n 0, []), (.invokevirtual 304, [191, 0, 9, 0]), (.iload 6, []), (.ifCond .lt 20, [1]), (.iload 6, []), (.iconst 3, []), (.if_icmp .gt 14, [1]), (.aload_n 0, []), (.iload_n 1, []), (.lload_n 2, []), (.iload 4, []), (.invokevirtual 404, [217, 3, 9, 1]), (.ifCond .ne 5, [2])], 1),
  (31, [], [(.iconst (-1), []), (.ireturn, [])], 0),
  (33, [0, 1, 4, 5, 6], [(.iconst 0, []), (.istore 7, []), (.iconst 1, []), (.istore 8, [])], 3),
  (39, [0, 1, 4, 5, 6, 7, 8], [(.iload 8, []), (.iload_n 1, []), (.iconst 1, []), (.isub, []), (.if_icmp .ge 31, [6]), (.iload 7, []), (.aload_n 0, []), (.getfield 98, [9, 49, 4]), (.iload 8, []), (.iaload, []), (.iload 5, []), (.if_icmp .ne 7, [4]), (.iconst 1, []), (.goto 4, [5])], 0),
  (65, [0, 1, 4, 5, 6, 8], [(.iconst 0, [])], 5),
  (66, [0, 1, 4, 5, 6, 8], [(.ior, []), (.istore 7, []), (.iinc 8 1, []), (.goto (-33), [3])], 0),
  (75, [0, 4, 5, 6, 7], [(.iload 7, []), (.ifCond .ne 5, [7]), (.iconst (-1), []), (.ireturn, [])], 0),
  (82, [0, 4, 5, 6], [(.aload_n 0, []), (.iload 4, []), (.iconst (-1), []), (.iconst 1, []), (.iload 5, []), (.invokevirtual 495, [231, 4, 9, 0]), (.iload 6, []), (.ifCond .ne 10, [8]), (.aload_n 0, []), (.getfield 452, [9, 59, 0]), (.goto 33, [11])], 0),
  (104, [0, 6], [(.iload 6, []), (.iconst 1, []), (.if_icmp .ne 10, [9]), (.aload_n 0, []), (.getfield 455, [9, 61, 0]), (.goto 20, [11])], 0),
  (117, [0, 6], [(.iload 6, []), (.iconst 2, []), (.if_icmp .ne 10, [10]), (.aload_n 0, []), (.getfield 465, [9, 60, 0]), (.goto 7, [11])], 0),
  (130, [0], [(.aload_n 0, []), (.getfield 468, [9, 62, 0])], 11),
  (134, [], [(.ireturn, [])], 0)]
def mt_238 : Nat × Nat × List jB := (1, 9, k_M_gains)
set_option maxRecDepth 100000 in
theorem ck_238 : jok jm_238 mt_238 = true := by decide +kernel
def k_M_changes : List jB := [
  (0, [0, 1, 2, 4, 5], [(.aload_n 0, []), (.iconst 0, []), (.putfield 138, [9, 0, 0]), (.aload_n 0, []), (.iload_n 1, []), (.lload_n 2, []), (.iload 4, []), (.iload 5, []), (.invokevirtual 500, [234, 4, 9, 1]), (.ifCond .ne 7, [1]), (.iconst (-1), []), (.goto 20, [3])], 0),
  (22, [0], [(.aload_n 0, []), (.getfield 486, [9, 67, 0]), (.iconst (-1), []), (.if_icmp .ne 8, [2]), (.bipush (-2), []), (.goto 7, [3])], 0),
  (35, [0], [(.aload_n 0, []), (.getfield 486, [9, 67, 0])], 3),
  (39, [], [(.ireturn, [])], 0)]
def mt_239 : Nat × Nat × List jB := (1, 6, k_M_changes)
set_option maxRecDepth 100000 in
theorem ck_239 : jok jm_239 mt_239 = true := by decide +kernel
def k_M_changed : List jB := [
  (0, [0, 1, 2, 4, 5], [(.aload_n 0, []), (.iconst 0, []), (.putfield 138, [9, 0, 0]), (.aload_n 0, []), (.iload_n 1, []), (.lload_n 2, []), (.iload 4, []), (.iload 5, []), (.invokevirtual 500, [234, 4, 9, 1]), (.ifCond .ne 9, [1]), (.ldc2_w 498, [18446744073709551615]), (.goto 21, [3])], 0),
  (24, [0], [(.aload_n 0, []), (.getfield 486, [9, 67, 0]), (.iconst (-1), []), (.if_icmp .ne 9, [2]), (.ldc2_w 504, [18446744073709551614]), (.goto 7, [3])], 0),
  (38, [0], [(.aload_n 0, []), (.getfield 489, [9, 68, 2])], 3),
  (42, [], [(.lreturn, [])], 0)]
def mt_240 : Nat × Nat × List jB := (3, 6, k_M_changed)
set_option maxRecDepth 100000 in
theorem ck_240 : jok jm_240 mt_240 = true := by decide +kernel
def k_M_worth : List jB := [
  (0, [0, 1, 2, 4, 5], [(.aload_n 0, []), (.iconst 0, []), (.putfield 138, [9, 0, 0]), (.aload_n 0, []), (.invokevirtual 304, [191, 0, 9, 0]), (.aload_n 0, []), (.iload_n 1, []), (.lload_n 2, []), (.iload 4, []), (.invokevirtual 404, [217, 3, 9, 1]), (.ifCond .eq 17, [1]), (.iload 5, []), (.iconst 1, []), (.if_icmp .lt 11, [1]), (.iload 5, []), (.iload_n 1, []), (.iconst 3, []), (.isub, []), (.if_icmp .le 7, [2])], 1),
  (34, [], [(.ldc_w 506, [2147483648]), (.ireturn, [])], 0),
  (38, [0, 4, 5], [(.aload_n 0, []), (.iload 4, []), (.invokevirtual 408, [218, 1, 9, 1]), (.istore 6, []), (.aload_n 0, []), (.getfield 98, [9, 49, 4]), (.iload 5, []), (.iaload, []), (.istore 7, []), (.aload_n 0, []), (.getfield 98, [9, 49, 4]), (.iload 5, []), (.aload_n 0, []), (.getfield 98, [9, 49, 4]), (.iload 5, []), (.iconst 1, []), (.iadd, []), (.iaload, []), (.iastore, []), (.aload_n 0, []), (.getfield 98, [9, 49, 4]), (.iload 5, []), (.iconst 1, []), (.iadd, []), (.iload 7, []), (.iastore, []), (.aload_n 0, []), (.iload 4, []), (.invokevirtual 408, [218, 1, 9, 1]), (.iload 6, []), (.isub, []), (.ireturn, [])], 0)]
def mt_241 : Nat × Nat × List jB := (1, 8, k_M_worth)
set_option maxRecDepth 100000 in
theorem ck_241 : jok jm_241 mt_241 = true := by decide +kernel
def k_M_serves : List jB := [
  (0, [0, 1, 2, 4], [(.aload_n 0, []), (.iconst 0, []), (.putfield 138, [9, 0, 0]), (.aload_n 0, []), (.invokevirtual 304, [191, 0, 9, 0]), (.iload 4, []), (.iconst 1, []), (.if_icmp .lt 19, [1]), (.iload 4, []), (.bipush 50, []), (.if_icmp .gt 12, [1]), (.aload_n 0, []), (.iload_n 1, []), (.lload_n 2, []), (.invokevirtual 400, [216, 2, 9, 1]), (.ifCond .ne 5, [2])], 1),
  (31, [], [(.iconst (-1), []), (.ireturn, [])], 0),
  (33, [0, 4], [(.iconst 1, []), (.istore 5, [])], 3),
  (36, [0, 4, 5], [(.iload 5, []), (.iload 4, []), (.if_icmp .gt 34, [5]), (.aload_n 0, []), (.iload 5, []), (.iconst (-1), []), (.iconst 0, []), (.iconst (-1), []), (.invokevirtual 495, [231, 4, 9, 0]), (.aload_n 0, []), (.getfield 452, [9, 59, 0]), (.aload_n 0, []), (.iload 5, []), (.invokevirtual 408, [218, 1, 9, 1]), (.if_icmp .le 6, [4]), (.iload 5, []), (.ireturn, [])], 0),
  (68, [0, 4, 5], [(.iinc 5 1, []), (.goto (-35), [3])], 0),
  (74, [], [(.iconst 0, []), (.ireturn, [])], 0)]
def mt_242 : Nat × Nat × List jB := (1, 6, k_M_serves)
set_option maxRecDepth 100000 in
theorem ck_242 : jok jm_242 mt_242 = true := by decide +kernel
def k_M_note : List jB := [
  (0, [0, 1, 2, 4, 5, 6], [(.aload_n 0, []), (.iconst 0, []), (.putfield 138, [9, 0, 0]), (.aload_n 0, []), (.iload_n 1, []), (.lload_n 2, []), (.iload 4, []), (.invokevirtual 404, [217, 3, 9, 1]), (.ifCond .eq 32, [1]), (.iload 5, []), (.ifCond .lt 27, [1]), (.iload 6, []), (.iload 5, []), (.if_icmp .lt 20, [1]), (.iload 6, []), (.ldc_w 399, [999999]), (.if_icmp .gt 12, [1]), (.aload_n 0, []), (.getfield 295, [9, 69, 0]), (.bipush 40, []), (.if_icmp .ne 5, [2])], 1),
  (45, [], [(.iconst (-1), []), (.ireturn, [])], 0),
  (47, [0, 1, 2, 4, 5, 6], [(.aload_n 0, []), (.getfield 110, [9, 71, 4]), (.aload_n 0, []), (.getfield 295, [9, 69, 0]), (.iload_n 1, []), (.iastore, []), (.aload_n 0, []), (.getfield 113, [9, 72, 4]), (.aload_n 0, []), (.getfield 295, [9, 69, 0]), (.lload_n 2, []), (.lastore, []), (.aload_n 0, []), (.getfield 116, [9, 73, 4]), (.aload_n 0, []), (.getfield 295, [9, 69, 0]), (.iload 4, []), (.iastore, []), (.aload_n 0, []), (.getfield 119, [9, 74, 4]), (.aload_n 0, []), (.getfield 295, [9, 69, 0]), (.iload 5, []), (.iastore, []), (.aload_n 0, []), (.getfield 122, [9, 75, 4]), (.aload_n 0, []), (.getfield 295, [9, 69, 0]), (.iload 6, []), (.iastore, []), (.aload_n 0, []), (.dup, []), (.getfield 295, [9, 69, 0]), (.iconst 1, []), (.iadd, []), (.putfield 295, [9, 69, 0]), (.aload_n 0, []), (.getfield 295, [9, 69, 0]), (.iconst 1, []), (.isub, []), (.ireturn, [])], 0)]
def mt_243 : Nat × Nat × List jB := (1, 7, k_M_note)
set_option maxRecDepth 100000 in
theorem ck_243 : jok jm_243 mt_243 = true := by decide +kernel
def k_M_strike : List jB := [
  (0, [0, 1], [(.aload_n 0, []), (.iconst 0, []), (.putfield 138, [9, 0, 0]), (.iload_n 1, []), (.ifCond .lt 20, [1]), (.iload_n 1, []), (.aload_n 0, []), (.getfield 295, [9, 69, 0]), (.if_icmp .ge 12, [1]), (.aload_n 0, []), (.getfield 295, [9, 69, 0]), (.bipush 40, []), (.if_icmp .ne 5, [2])], 1),
  (26, [], [(.iconst (-1), []), (.ireturn, [])], 0),
  (28, [0, 1], [(.aload_n 0, []), (.getfield 110, [9, 71, 4]), (.aload_n 0, []), (.getfield 295, [9, 69, 0]), (.iconst (-1), []), (.iastore, []), (.aload_n 0, []), (.getfield 116, [9, 73, 4]), (.aload_n 0, []), (.getfield 295, [9, 69, 0]), (.iload_n 1, []), (.iastore, []), (.aload_n 0, []), (.dup, []), (.getfield 295, [9, 69, 0]), (.iconst 1, []), (.iadd, []), (.putfield 295, [9, 69, 0]), (.aload_n 0, []), (.getfield 295, [9, 69, 0]), (.iconst 1, []), (.isub, []), (.ireturn, [])], 0)]
def mt_244 : Nat × Nat × List jB := (1, 2, k_M_strike)
set_option maxRecDepth 100000 in
theorem ck_244 : jok jm_244 mt_244 = true := by decide +kernel
def k_M_known : List jB := [
  (0, [0, 1], [(.aload_n 0, []), (.iconst 0, []), (.putfield 138, [9, 0, 0]), (.iload_n 1, []), (.iconst (-1), []), (.if_icmp .lt 11, [1]), (.iload_n 1, []), (.aload_n 0, []), (.getfield 295, [9, 69, 0]), (.if_icmp .le 5, [2])], 1),
  (18, [], [(.iconst 0, []), (.ireturn, [])], 0),
  (20, [0, 1], [(.aload_n 0, []), (.iload_n 1, []), (.putfield 107, [9, 70, 0]), (.iconst 1, []), (.ireturn, [])], 0)]
def mt_245 : Nat × Nat × List jB := (2, 2, k_M_known)
set_option maxRecDepth 100000 in
theorem ck_245 : jok jm_245 mt_245 = true := by decide +kernel
def k_M_knownMany : List jB := [
  (0, [0], [(.aload_n 0, []), (.getfield 107, [9, 70, 0]), (.iconst (-1), []), (.if_icmp .ne 10, [1]), (.aload_n 0, []), (.getfield 295, [9, 69, 0]), (.goto 7, [2])], 0),
  (15, [0], [(.aload_n 0, []), (.getfield 107, [9, 70, 0])], 2),
  (19, [], [(.ireturn, [])], 0)]
def mt_246 : Nat × Nat × List jB := (1, 1, k_M_knownMany)
set_option maxRecDepth 100000 in
theorem ck_246 : jok jm_246 mt_246 = true := by decide +kernel
def k_M_goesAsNoted : List jB := [
  (0, [0], [(.iconst 0, []), (.istore_n 1, [])], 1),
  (2, [0, 1], [(.iload_n 1, []), (.aload_n 0, []), (.invokevirtual 507, [246, 0, 9, 1]), (.if_icmp .ge 81, [5]), (.aload_n 0, []), (.getfield 110, [9, 71, 4]), (.iload_n 1, []), (.iaload, []), (.iconst (-1), []), (.if_icmp .eq 65, [4]), (.aload_n 0, []), (.getfield 125, [9, 76, 4]), (.iload_n 1, []), (.baload, []), (.ifCond .eq 6, [2]), (.goto 53, [4])], 0),
  (32, [0, 1], [(.aload_n 0, []), (.aload_n 0, []), (.getfield 110, [9, 71, 4]), (.iload_n 1, []), (.iaload, []), (.aload_n 0, []), (.getfield 113, [9, 72, 4]), (.iload_n 1, []), (.laload, []), (.invokevirtual 400, [216, 2, 9, 1]), (.pop, []), (.aload_n 0, []), (.aload_n 0, []), (.getfield 116, [9, 73, 4]), (.iload_n 1, []), (.iaload, []), (.invokevirtual 408, [218, 1, 9, 1]), (.istore_n 2, []), (.iload_n 2, []), (.aload_n 0, []), (.getfield 119, [9, 74, 4]), (.iload_n 1, []), (.iaload, []), (.if_icmp .lt 13, [3]), (.iload_n 2, []), (.aload_n 0, []), (.getfield 122, [9, 75, 4]), (.iload_n 1, []), (.iaload, []), (.if_icmp .le 5, [4])], 3),
  (80, [], [(.iconst 0, []), (.ireturn, [])], 0),
  (82, [0, 1], [(.iinc 1 1, []), (.goto (-83), [1])], 0),
  (88, [], [(.iconst 1, []), (.ireturn, [])], 0)]
def mt_247 : Nat × Nat × List jB := (2, 3, k_M_goesAsNoted)
set_option maxRecDepth 100000 in
theorem ck_247 : jok jm_247 mt_247 = true := by decide +kernel
def k_M_lawOf : List jB := [
  (0, [0, 1], [(.iload_n 1, []), (.aload_n 0, []), (.getfield 15, [9, 3, 4]), (.iconst 2, []), (.iaload, []), (.if_icmp .ge 9, [1]), (.iconst 1, []), (.iload_n 1, []), (.iadd, []), (.goto 4, [2])], 0),
  (16, [], [(.iconst 0, [])], 2),
  (17, [], [(.ireturn, [])], 0)]
def mt_248 : Nat × Nat × List jB := (1, 2, k_M_lawOf)
set_option maxRecDepth 100000 in
theorem ck_248 : jok jm_248 mt_248 = true := by decide +kernel
def k_M_fits : List jB := [
  (0, [0], [(.aload_n 0, []), (.iconst 0, []), (.putfield 138, [9, 0, 0]), (.aload_n 0, []), (.invokevirtual 304, [191, 0, 9, 0]), (.iconst 0, []), (.istore_n 1, [])], 1),
  (11, [0, 1], [(.iload_n 1, []), (.aload_n 0, []), (.invokevirtual 507, [246, 0, 9, 1]), (.if_icmp .ge 16, [2]), (.aload_n 0, []), (.getfield 125, [9, 76, 4]), (.iload_n 1, []), (.iconst 0, []), (.bastore, []), (.iinc 1 1, []), (.goto (-18), [1])], 0),
  (32, [0], [(.aload_n 0, []), (.invokevirtual 507, [246, 0, 9, 1]), (.iconst 1, []), (.isub, []), (.istore_n 1, [])], 3),
  (39, [0, 1], [(.iload_n 1, []), (.ifCond .lt 40, [5]), (.aload_n 0, []), (.getfield 125, [9, 76, 4]), (.iload_n 1, []), (.baload, []), (.ifCond .ne 25, [4]), (.aload_n 0, []), (.getfield 110, [9, 71, 4]), (.iload_n 1, []), (.iaload, []), (.iconst (-1), []), (.if_icmp .ne 15, [4]), (.aload_n 0, []), (.getfield 125, [9, 76, 4]), (.aload_n 0, []), (.getfield 116, [9, 73, 4]), (.iload_n 1, []), (.iaload, []), (.iconst 1, []), (.bastore, [])], 4),
  (74, [0, 1], [(.iinc 1 (-1), []), (.goto (-38), [3])], 0),
  (80, [0], [(.iconst 0, []), (.istore_n 1, []), (.iconst 0, []), (.istore_n 2, [])], 6),
  (84, [0, 1, 2], [(.iload_n 2, []), (.aload_n 0, []), (.getfield 15, [9, 3, 4]), (.iconst 2, []), (.iaload, []), (.if_icmp .gt 31, [8]), (.aload_n 0, []), (.aload_n 0, []), (.iload_n 2, []), (.invokevirtual 510, [248, 1, 9, 1]), (.putfield 316, [9, 32, 0]), (.aload_n 0, []), (.invokevirtual 513, [247, 0, 9, 1]), (.ifCond .eq 9, [7]), (.iload_n 1, []), (.iconst 1, []), (.iload_n 2, []), (.ishl, []), (.ior, []), (.istore_n 1, [])], 7),
  (116, [0, 1, 2], [(.iinc 2 1, []), (.goto (-35), [6])], 0),
  (122, [1], [(.iload_n 1, []), (.ireturn, [])], 0)]
def mt_249 : Nat × Nat × List jB := (1, 3, k_M_fits)
set_option maxRecDepth 100000 in
theorem ck_249 : jok jm_249 mt_249 = true := by decide +kernel
def k_M_apart : List jB := [
  (0, [0, 1, 2, 4, 5], [(.aload_n 0, []), (.iconst 0, []), (.putfield 138, [9, 0, 0]), (.aload_n 0, []), (.invokevirtual 304, [191, 0, 9, 0]), (.iload 4, []), (.ifCond .lt 39, [1]), (.iload 4, []), (.aload_n 0, []), (.getfield 15, [9, 3, 4]), (.iconst 2, []), (.iaload, []), (.if_icmp .gt 28, [1]), (.iload 5, []), (.ifCond .lt 23, [1]), (.iload 5, []), (.aload_n 0, []), (.getfield 15, [9, 3, 4]), (.iconst 2, []), (.iaload, []), (.if_icmp .gt 12, [1]), (.aload_n 0, []), (.iload_n 1, []), (.lload_n 2, []), (.invokevirtual 400, [216, 2, 9, 1]), (.ifCond .ne 5, [2])], 1),
  (50, [], [(.iconst (-1), []), (.ireturn, [])], 0),
  (52, [0, 4, 5], [(.iconst 1, []), (.istore 6, [])], 3),
  (55, [0, 4, 5, 6], [(.iload 6, []), (.sipush 1000, []), (.if_icmp .ge 51, [5]), (.aload_n 0, []), (.aload_n 0, []), (.iload 4, []), (.invokevirtual 510, [248, 1, 9, 1]), (.putfield 316, [9, 32, 0]), (.aload_n 0, []), (.iload 6, []), (.invokevirtual 408, [218, 1, 9, 1]), (.istore 7, []), (.aload_n 0, []), (.aload_n 0, []), (.iload 5, []), (.invokevirtual 510, [248, 1, 9, 1]), (.putfield 316, [9, 32, 0]), (.iload 7, []), (.aload_n 0, []), (.iload 6, []), (.invokevirtual 408, [218, 1, 9, 1]), (.if_icmp .eq 6, [4]), (.iload 6, []), (.ireturn, [])], 0),
  (105, [0, 4, 5, 6], [(.iinc 6 1, []), (.goto (-53), [3])], 0),
  (111, [], [(.bipush (-2), []), (.ireturn, [])], 0)]
def mt_250 : Nat × Nat × List jB := (1, 8, k_M_apart)
set_option maxRecDepth 100000 in
theorem ck_250 : jok jm_250 mt_250 = true := by decide +kernel
def k_M_tried : List jB := [
  (0, [0, 1, 2, 3], [(.aload_n 0, []), (.iconst 0, []), (.putfield 138, [9, 0, 0]), (.iload_n 1, []), (.ifCond .eq 8, [1]), (.iload_n 1, []), (.iconst 3, []), (.if_icmp .ne 11, [2])], 1),
  (14, [0, 1, 2, 3], [(.aload_n 0, []), (.iload_n 2, []), (.invokevirtual 379, [190, 1, 9, 1]), (.goto 40, [6])], 0),
  (22, [0, 1, 2, 3], [(.iload_n 1, []), (.iconst 5, []), (.if_icmp .ne 11, [3]), (.aload_n 0, []), (.iload_n 2, []), (.invokevirtual 385, [211, 1, 9, 1]), (.goto 27, [6])], 0),
  (35, [0, 1, 2, 3], [(.iload_n 1, []), (.iconst 1, []), (.if_icmp .eq 13, [4]), (.iload_n 1, []), (.iconst 2, []), (.if_icmp .eq 8, [4]), (.iload_n 1, []), (.iconst 4, []), (.if_icmp .ne 11, [5])], 4),
  (50, [0, 1, 2, 3], [(.iload_n 2, []), (.ifCond .ne 7, [5]), (.iconst 1, []), (.goto 4, [6])], 0),
  (58, [0, 1, 2, 3], [(.iconst 0, [])], 6),
  (59, [0, 1, 2, 3], [(.istore 4, []), (.iload 4, []), (.ifCond .eq 11, [7]), (.aload_n 0, []), (.iload_n 3, []), (.invokevirtual 379, [190, 1, 9, 1]), (.ifCond .ne 5, [8])], 7),
  (74, [], [(.iconst (-1), []), (.ireturn, [])], 0),
  (76, [0, 1, 2, 3], [(.aload_n 0, []), (.invokevirtual 304, [191, 0, 9, 0]), (.aload_n 0, []), (.iload_n 1, []), (.putfield 310, [9, 30, 0]), (.aload_n 0, []), (.iload_n 2, []), (.putfield 313, [9, 31, 0]), (.aload_n 0, []), (.iconst 1, []), (.invokevirtual 307, [200, 1, 9, 0]), (.iconst 0, []), (.istore 5, [])], 9),
  (98, [0, 3, 5], [(.iload 5, []), (.aload_n 0, []), (.getfield 77, [9, 40, 4]), (.iconst 0, []), (.iaload, []), (.if_icmp .ge 14, [10]), (.aload_n 0, []), (.iconst 1, []), (.invokevirtual 382, [206, 1, 9, 0]), (.iinc 5 1, []), (.goto (-19), [9])], 0),
  (120, [0, 3], [(.aload_n 0, []), (.getfield 80, [9, 41, 4]), (.bipush 10, []), (.iload_n 3, []), (.iadd, []), (.iaload, []), (.ireturn, [])], 0)]
def mt_251 : Nat × Nat × List jB := (1, 6, k_M_tried)
set_option maxRecDepth 100000 in
theorem ck_251 : jok jm_251 mt_251 = true := by decide +kernel
