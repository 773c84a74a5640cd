/-! The methods' blocks, held against their bytes. Printed by wip/gen/code.py. -/
def k_M_half : List jB := [
  (0, [0], [(.aload_n 0, []), (.arraylength, []), (.iconst 2, []), (.idiv, []), (.istore_n 1, []), (.iconst 0, []), (.istore_n 2, [])], 1),
  (7, [0, 1, 2], [(.iload_n 2, []), (.iload_n 1, []), (.if_icmp .ge 17, [2]), (.aload_n 0, []), (.iload_n 2, []), (.aload_n 0, []), (.iload_n 1, []), (.iload_n 2, []), (.iadd, []), (.iaload, []), (.iastore, []), (.iinc 2 1, []), (.goto (-16), [1])], 0),
  (26, [], [(.return_, [])], 0)]
def mt_186 : Nat × Nat × List jB := (0, 3, k_M_half)
set_option maxRecDepth 100000 in
theorem ck_186 : jok jm_186 mt_186 = true := by decide +kernel
def k_M_text : List jB := [
  (0, [0, 1], [(.aload_n 0, []), (.iconst 0, []), (.putfield 138, [9, 0, 0]), (.iload_n 1, []), (.ifCond .lt 11, [1]), (.iload_n 1, []), (.aload_n 0, []), (.getfield 141, [9, 2, 0]), (.if_icmp .le 6, [2])], 1),
  (17, [], [(.bipush (-2), []), (.ireturn, [])], 0),
  (20, [0, 1], [(.aload_n 0, []), (.iload_n 1, []), (.putfield 147, [9, 18, 0]), (.aload_n 0, []), (.iconst 0, []), (.putfield 141, [9, 2, 0]), (.aload_n 0, []), (.iconst 0, []), (.putfield 144, [9, 19, 0]), (.aload_n 0, []), (.iconst 0, []), (.putfield 192, [9, 23, 0]), (.aload_n 0, []), (.iconst (-1), []), (.putfield 195, [9, 24, 0]), (.iconst 0, []), (.istore_n 2, [])], 3),
  (47, [0, 2], [(.iload_n 2, []), (.iconst 4, []), (.if_icmp .ge 18, [4]), (.aload_n 0, []), (.getfield 15, [9, 3, 4]), (.iconst 4, []), (.iload_n 2, []), (.iadd, []), (.iconst 0, []), (.iastore, []), (.iinc 2 1, []), (.goto (-17), [3])], 0),
  (67, [0], [(.iconst 5, []), (.istore_n 2, [])], 5),
  (69, [0, 2], [(.iload_n 2, []), (.bipush 10, []), (.if_icmp .ge 23, [6]), (.aload_n 0, []), (.getfield 45, [9, 13, 4]), (.iload_n 2, []), (.iconst 0, []), (.iastore, []), (.aload_n 0, []), (.getfield 48, [9, 14, 4]), (.iload_n 2, []), (.iconst 0, []), (.iastore, []), (.iinc 2 1, []), (.goto (-23), [5])], 0),
  (95, [0], [(.aload_n 0, []), (.iconst 0, []), (.putfield 212, [9, 29, 1]), (.aload_n 0, []), (.iconst 0, []), (.putfield 238, [9, 17, 0]), (.aload_n 0, []), (.iconst 0, []), (.putfield 282, [9, 27, 0]), (.aload_n 0, []), (.iconst 0, []), (.putfield 257, [9, 28, 0]), (.aload_n 0, []), (.invokevirtual 198, [159, 0, 9, 0])], 7),
  (119, [0], [(.aload_n 0, []), (.getfield 192, [9, 23, 0]), (.ifCond .ne 18, [8]), (.aload_n 0, []), (.getfield 157, [9, 21, 0]), (.iconst 4, []), (.if_icmp .eq 10, [8]), (.aload_n 0, []), (.invokevirtual 285, [173, 0, 9, 0]), (.goto (-19), [7])], 0),
  (141, [0], [(.aload_n 0, []), (.aload_n 0, []), (.getfield 192, [9, 23, 0]), (.putfield 288, [9, 25, 0]), (.aload_n 0, []), (.aload_n 0, []), (.getfield 195, [9, 24, 0]), (.putfield 57, [9, 26, 0]), (.aload_n 0, []), (.getfield 192, [9, 23, 0]), (.ifCond .eq 5, [9]), (.iconst (-1), []), (.ireturn, [])], 0),
  (166, [0], [(.aload_n 0, []), (.getfield 15, [9, 3, 4]), (.invokestatic 291, [186, 1, 0]), (.aload_n 0, []), (.getfield 18, [9, 4, 4]), (.invokestatic 291, [186, 1, 0]), (.aload_n 0, []), (.getfield 21, [9, 5, 4]), (.invokestatic 291, [186, 1, 0]), (.aload_n 0, []), (.getfield 24, [9, 6, 4]), (.invokestatic 291, [186, 1, 0]), (.aload_n 0, []), (.getfield 27, [9, 7, 4]), (.invokestatic 291, [186, 1, 0]), (.aload_n 0, []), (.getfield 30, [9, 8, 4]), (.invokestatic 291, [186, 1, 0]), (.aload_n 0, []), (.getfield 33, [9, 9, 4]), (.invokestatic 291, [186, 1, 0]), (.aload_n 0, []), (.getfield 36, [9, 10, 4]), (.invokestatic 291, [186, 1, 0]), (.aload_n 0, []), (.getfield 39, [9, 11, 4]), (.invokestatic 291, [186, 1, 0]), (.aload_n 0, []), (.getfield 42, [9, 12, 4]), (.invokestatic 291, [186, 1, 0]), (.aload_n 0, []), (.getfield 45, [9, 13, 4]), (.invokestatic 291, [186, 1, 0]), (.aload_n 0, []), (.getfield 48, [9, 14, 4]), (.invokestatic 291, [186, 1, 0]), (.aload_n 0, []), (.getfield 51, [9, 15, 4]), (.invokestatic 291, [186, 1, 0]), (.aload_n 0, []), (.getfield 54, [9, 16, 4]), (.invokestatic 291, [186, 1, 0]), (.aload_n 0, []), (.iconst 0, []), (.putfield 295, [9, 69, 0]), (.aload_n 0, []), (.iconst (-1), []), (.putfield 107, [9, 70, 0]), (.aload_n 0, []), (.iconst 0, []), (.putfield 298, [9, 48, 1]), (.aload_n 0, []), (.aload_n 0, []), (.getfield 15, [9, 3, 4]), (.iconst 1, []), (.iaload, []), (.putfield 301, [9, 36, 0]), (.iconst 0, []), (.istore_n 2, [])], 10),
  (291, [0, 2], [(.iload_n 2, []), (.aload_n 0, []), (.getfield 301, [9, 36, 0]), (.if_icmp .ge 45, [11]), (.aload_n 0, []), (.getfield 68, [9, 37, 4]), (.iload_n 2, []), (.aload_n 0, []), (.getfield 33, [9, 9, 4]), (.iload_n 2, []), (.iaload, []), (.iastore, []), (.aload_n 0, []), (.getfield 71, [9, 38, 4]), (.iload_n 2, []), (.aload_n 0, []), (.getfield 36, [9, 10, 4]), (.iload_n 2, []), (.iaload, []), (.iastore, []), (.aload_n 0, []), (.getfield 74, [9, 39, 4]), (.iload_n 2, []), (.aload_n 0, []), (.getfield 39, [9, 11, 4]), (.iload_n 2, []), (.iaload, []), (.iastore, []), (.iinc 2 1, []), (.goto (-47), [10])], 0),
  (341, [0], [(.aload_n 0, []), (.invokevirtual 304, [191, 0, 9, 0]), (.aload_n 0, []), (.iconst 0, []), (.invokevirtual 307, [200, 1, 9, 0]), (.aload_n 0, []), (.getfield 238, [9, 17, 0]), (.ireturn, [])], 0)]
def mt_187 : Nat × Nat × List jB := (1, 3, k_M_text)
set_option maxRecDepth 100000 in
theorem ck_187 : jok jm_187 mt_187 = true := by decide +kernel
def k_M_fault : List jB := [
  (0, [0, 1], [(.aload_n 0, []), (.iconst 0, []), (.putfield 138, [9, 0, 0]), (.iload_n 1, []), (.ifCond .ne 10, [1]), (.aload_n 0, []), (.getfield 288, [9, 25, 0]), (.goto 16, [3])], 0),
  (16, [0, 1], [(.iload_n 1, []), (.iconst 1, []), (.if_icmp .ne 10, [2]), (.aload_n 0, []), (.getfield 57, [9, 26, 0]), (.goto 4, [3])], 0),
  (28, [], [(.iconst (-1), [])], 3),
  (29, [], [(.ireturn, [])], 0)]
def mt_188 : Nat × Nat × List jB := (1, 2, k_M_fault)
set_option maxRecDepth 100000 in
theorem ck_188 : jok jm_188 mt_188 = true := by decide +kernel
def k_M_named : List jB := [
  (0, [0, 1, 2], [(.aload_n 0, []), (.iconst 0, []), (.putfield 138, [9, 0, 0]), (.iload_n 1, []), (.ifCond .ne 21, [1]), (.aload_n 0, []), (.getfield 18, [9, 4, 4]), (.iconst 0, []), (.aload_n 0, []), (.getfield 15, [9, 3, 4]), (.iconst 0, []), (.iaload, []), (.iload_n 2, []), (.invokestatic 204, [168, 4, 1]), (.goto 27, [3])], 0),
  (27, [0, 1, 2], [(.iload_n 1, []), (.iconst 1, []), (.if_icmp .ne 21, [2]), (.aload_n 0, []), (.getfield 42, [9, 12, 4]), (.iconst 0, []), (.aload_n 0, []), (.getfield 15, [9, 3, 4]), (.iconst 2, []), (.iaload, []), (.iload_n 2, []), (.invokestatic 204, [168, 4, 1]), (.goto 4, [3])], 0),
  (50, [], [(.iconst (-1), [])], 3),
  (51, [], [(.ireturn, [])], 0)]
def mt_189 : Nat × Nat × List jB := (1, 3, k_M_named)
set_option maxRecDepth 100000 in
theorem ck_189 : jok jm_189 mt_189 = true := by decide +kernel
def k_M_isPerson : List jB := [
  (0, [0, 1], [(.iload_n 1, []), (.ifCond .lt 17, [1]), (.iload_n 1, []), (.aload_n 0, []), (.getfield 15, [9, 3, 4]), (.iconst 0, []), (.iaload, []), (.if_icmp .ge 7, [1]), (.iconst 1, []), (.goto 4, [2])], 0),
  (18, [], [(.iconst 0, [])], 2),
  (19, [], [(.ireturn, [])], 0)]
def mt_190 : Nat × Nat × List jB := (2, 2, k_M_isPerson)
set_option maxRecDepth 100000 in
theorem ck_190 : jok jm_190 mt_190 = true := by decide +kernel
def k_M_plain : List jB := [
  (0, [0], [(.aload_n 0, []), (.iconst (-1), []), (.putfield 310, [9, 30, 0]), (.aload_n 0, []), (.iconst (-1), []), (.putfield 313, [9, 31, 0]), (.aload_n 0, []), (.iconst 0, []), (.putfield 316, [9, 32, 0]), (.return_, [])], 0)]
def mt_191 : Nat × Nat × List jB := (0, 1, k_M_plain)
set_option maxRecDepth 100000 in
theorem ck_191 : jok jm_191 mt_191 = true := by decide +kernel
def k_M_ageOf : List jB := [
  (0, [0, 1], [(.aload_n 0, []), (.getfield 310, [9, 30, 0]), (.iconst 1, []), (.if_icmp .ne 7, [1]), (.iconst 0, []), (.goto 9, [2])], 0),
  (12, [0, 1], [(.aload_n 0, []), (.getfield 21, [9, 5, 4]), (.iload_n 1, []), (.iaload, [])], 2),
  (18, [], [(.ireturn, [])], 0)]
def mt_192 : Nat × Nat × List jB := (1, 2, k_M_ageOf)
set_option maxRecDepth 100000 in
theorem ck_192 : jok jm_192 mt_192 = true := by decide +kernel
def k_M_manyOf : List jB := [
  (0, [0, 1], [(.aload_n 0, []), (.getfield 310, [9, 30, 0]), (.ifCond .ne 13, [1]), (.aload_n 0, []), (.getfield 313, [9, 31, 0]), (.iload_n 1, []), (.if_icmp .ne 5, [1]), (.iconst 0, []), (.ireturn, [])], 0),
  (17, [0, 1], [(.aload_n 0, []), (.getfield 310, [9, 30, 0]), (.iconst 2, []), (.if_icmp .ne 16, [2]), (.iconst 1, []), (.aload_n 0, []), (.getfield 27, [9, 7, 4]), (.iload_n 1, []), (.iaload, []), (.invokestatic 319, [911, 0]), (.goto 9, [3])], 0),
  (38, [0, 1], [(.aload_n 0, []), (.getfield 27, [9, 7, 4]), (.iload_n 1, []), (.iaload, [])], 3),
  (44, [], [(.ireturn, [])], 0)]
def mt_193 : Nat × Nat × List jB := (1, 2, k_M_manyOf)
set_option maxRecDepth 100000 in
theorem ck_193 : jok jm_193 mt_193 = true := by decide +kernel
def k_M_is : List jB := [
  (0, [0], [(.iload_n 0, []), (.ifCond .eq 7, [1]), (.lconst 1, []), (.goto 4, [2])], 0),
  (8, [], [(.lconst 0, [])], 2),
  (9, [], [(.lreturn, [])], 0)]
def mt_194 : Nat × Nat × List jB := (3, 1, k_M_is)
set_option maxRecDepth 100000 in
theorem ck_194 : jok jm_194 mt_194 = true := by decide +kernel
def k_M_works : List jB := [
  (0, [0, 1], [(.aload_n 0, []), (.getfield 65, [9, 34, 4]), (.aload_n 0, []), (.getfield 324, [9, 35, 0]), (.iconst 1, []), (.isub, []), (.laload, []), (.lstore_n 2, []), (.iload_n 1, []), (.sipush 260, []), (.if_icmp .ne 30, [3]), (.aload_n 0, []), (.getfield 65, [9, 34, 4]), (.aload_n 0, []), (.getfield 324, [9, 35, 0]), (.iconst 1, []), (.isub, []), (.lload_n 2, []), (.lconst 0, []), (.lcmp, []), (.ifCond .ne 7, [1]), (.iconst 1, []), (.goto 4, [2])], 0),
  (39, [], [(.iconst 0, [])], 2),
  (40, [], [(.invokestatic 327, [194, 1, 2]), (.lastore, []), (.iconst 1, []), (.ireturn, [])], 0),
  (46, [0, 1, 2], [(.aload_n 0, []), (.getfield 65, [9, 34, 4]), (.aload_n 0, []), (.getfield 324, [9, 35, 0]), (.iconst 2, []), (.isub, []), (.laload, []), (.lstore 4, []), (.aload_n 0, []), (.dup, []), (.getfield 324, [9, 35, 0]), (.iconst 1, []), (.isub, []), (.putfield 324, [9, 35, 0]), (.iload_n 1, []), (.lookupswitch 335 #[(37, 159), (42, 124), (43, 106), (45, 115), (47, 159), (60, 189), (61, 229), (62, 209), (256, 249), (257, 289), (258, 269), (261, 309)], [33, 8, 6, 4, 5, 8, 12, 18, 15, 21, 27, 24, 30])], 0),
  (176, [0, 2, 4], [(.lload 4, []), (.lload_n 2, []), (.ladd, []), (.lstore 6, []), (.goto 246, [37])], 0),
  (185, [0, 2, 4], [(.lload 4, []), (.lload_n 2, []), (.lsub, []), (.lstore 6, []), (.goto 237, [37])], 0),
  (194, [0, 2, 4], [(.lload 4, []), (.lconst 0, []), (.lcmp, []), (.ifCond .eq 22, [7]), (.lload_n 2, []), (.invokestatic 331, [913, 0]), (.ldc2_w 335, [1000000000000]), (.lload 4, []), (.invokestatic 331, [913, 0]), (.ldiv, []), (.lcmp, []), (.ifCond .le 5, [7]), (.iconst 0, []), (.ireturn, [])], 0),
  (220, [0, 2, 4], [(.lload 4, []), (.lload_n 2, []), (.lmul, []), (.lstore 6, []), (.goto 202, [37])], 0),
  (229, [0, 1, 2, 4], [(.lload_n 2, []), (.lconst 0, []), (.lcmp, []), (.ifCond .ne 5, [9]), (.iconst 0, []), (.ireturn, [])], 0),
  (237, [0, 1, 2, 4], [(.iload_n 1, []), (.bipush 47, []), (.if_icmp .ne 10, [10]), (.lload 4, []), (.lload_n 2, []), (.ldiv, []), (.goto 7, [11])], 0),
  (250, [0, 2, 4], [(.lload 4, []), (.lload_n 2, []), (.lrem, [])], 11),
  (254, [0], [(.lstore 6, []), (.goto 172, [37])], 0),
  (259, [0, 2, 4], [(.lload 4, []), (.lload_n 2, []), (.lcmp, []), (.ifCond .ge 7, [13]), (.iconst 1, []), (.goto 4, [14])], 0),
  (270, [0], [(.iconst 0, [])], 14),
  (271, [0], [(.invokestatic 327, [194, 1, 2]), (.lstore 6, []), (.goto 152, [37])], 0),
  (279, [0, 2, 4], [(.lload 4, []), (.lload_n 2, []), (.lcmp, []), (.ifCond .le 7, [16]), (.iconst 1, []), (.goto 4, [17])], 0),
  (290, [0], [(.iconst 0, [])], 17),
  (291, [0], [(.invokestatic 327, [194, 1, 2]), (.lstore 6, []), (.goto 132, [37])], 0),
  (299, [0, 2, 4], [(.lload 4, []), (.lload_n 2, []), (.lcmp, []), (.ifCond .ne 7, [19]), (.iconst 1, []), (.goto 4, [20])], 0),
  (310, [0], [(.iconst 0, [])], 20),
  (311, [0], [(.invokestatic 327, [194, 1, 2]), (.lstore 6, []), (.goto 112, [37])], 0),
  (319, [0, 2, 4], [(.lload 4, []), (.lload_n 2, []), (.lcmp, []), (.ifCond .gt 7, [22]), (.iconst 1, []), (.goto 4, [23])], 0),
  (330, [0], [(.iconst 0, [])], 23),
  (331, [0], [(.invokestatic 327, [194, 1, 2]), (.lstore 6, []), (.goto 92, [37])], 0),
  (339, [0, 2, 4], [(.lload 4, []), (.lload_n 2, []), (.lcmp, []), (.ifCond .lt 7, [25]), (.iconst 1, []), (.goto 4, [26])], 0),
  (350, [0], [(.iconst 0, [])], 26),
  (351, [0], [(.invokestatic 327, [194, 1, 2]), (.lstore 6, []), (.goto 72, [37])], 0),
  (359, [0, 2, 4], [(.lload 4, []), (.lload_n 2, []), (.lcmp, []), (.ifCond .eq 7, [28]), (.iconst 1, []), (.goto 4, [29])], 0),
  (370, [0], [(.iconst 0, [])], 29),
  (371, [0], [(.invokestatic 327, [194, 1, 2]), (.lstore 6, []), (.goto 52, [37])], 0),
  (379, [0, 2, 4], [(.lload 4, []), (.lconst 0, []), (.lcmp, []), (.ifCond .eq 13, [31]), (.lload_n 2, []), (.lconst 0, []), (.lcmp, []), (.ifCond .eq 7, [31]), (.iconst 1, []), (.goto 4, [32])], 0),
  (396, [0], [(.iconst 0, [])], 32),
  (397, [0], [(.invokestatic 327, [194, 1, 2]), (.lstore 6, []), (.goto 26, [37])], 0),
  (405, [0, 2, 4], [(.lload 4, []), (.lconst 0, []), (.lcmp, []), (.ifCond .ne 9, [34]), (.lload_n 2, []), (.lconst 0, []), (.lcmp, []), (.ifCond .eq 7, [35])], 34),
  (418, [0], [(.iconst 1, []), (.goto 4, [36])], 0),
  (422, [0], [(.iconst 0, [])], 36),
  (423, [0], [(.invokestatic 327, [194, 1, 2]), (.lstore 6, [])], 37),
  (428, [0, 6], [(.aload_n 0, []), (.getfield 65, [9, 34, 4]), (.aload_n 0, []), (.getfield 324, [9, 35, 0]), (.iconst 1, []), (.isub, []), (.lload 6, []), (.lastore, []), (.lload 6, []), (.ldc2_w 335, [1000000000000]), (.lcmp, []), (.ifCond .gt 16, [38]), (.lload 6, []), (.ldc2_w 337, [18446743073709551616]), (.lcmp, []), (.ifCond .lt 7, [38]), (.iconst 1, []), (.goto 4, [39])], 0),
  (463, [], [(.iconst 0, [])], 39),
  (464, [], [(.ireturn, [])], 0)]
def mt_195 : Nat × Nat × List jB := (2, 8, k_M_works)
set_option maxRecDepth 100000 in
theorem ck_195 : jok jm_195 mt_195 = true := by decide +kernel
def k_M_goes : List jB := [
  (0, [0, 1], [(.aload_n 0, []), (.iconst 0, []), (.putfield 324, [9, 35, 0]), (.aload_n 0, []), (.getfield 45, [9, 13, 4]), (.iload_n 1, []), (.iaload, []), (.istore_n 2, [])], 1),
  (12, [0, 1, 2], [(.iload_n 2, []), (.aload_n 0, []), (.getfield 48, [9, 14, 4]), (.iload_n 1, []), (.iaload, []), (.if_icmp .ge 83, [6]), (.aload_n 0, []), (.getfield 51, [9, 15, 4]), (.iload_n 2, []), (.iaload, []), (.iconst 2, []), (.if_icmp .ne 18, [2]), (.aload_n 0, []), (.aload_n 0, []), (.getfield 54, [9, 16, 4]), (.iload_n 2, []), (.iaload, []), (.invokevirtual 339, [195, 1, 9, 1]), (.ifCond .ne 54, [5]), (.iconst 0, []), (.ireturn, [])], 0),
  (47, [0, 1, 2], [(.aload_n 0, []), (.getfield 65, [9, 34, 4]), (.aload_n 0, []), (.getfield 324, [9, 35, 0]), (.aload_n 0, []), (.getfield 51, [9, 15, 4]), (.iload_n 2, []), (.iaload, []), (.ifCond .ne 13, [3]), (.aload_n 0, []), (.getfield 54, [9, 16, 4]), (.iload_n 2, []), (.iaload, []), (.i2l, []), (.goto 14, [4])], 0),
  (74, [0, 1, 2], [(.aload_n 0, []), (.getfield 61, [9, 33, 4]), (.aload_n 0, []), (.getfield 54, [9, 16, 4]), (.iload_n 2, []), (.iaload, []), (.laload, [])], 4),
  (85, [0, 1, 2], [(.lastore, []), (.aload_n 0, []), (.dup, []), (.getfield 324, [9, 35, 0]), (.iconst 1, []), (.iadd, []), (.putfield 324, [9, 35, 0])], 5),
  (96, [0, 1, 2], [(.iinc 2 1, []), (.goto (-87), [1])], 0),
  (102, [], [(.iconst 1, []), (.ireturn, [])], 0)]
def mt_196 : Nat × Nat × List jB := (2, 3, k_M_goes)
set_option maxRecDepth 100000 in
theorem ck_196 : jok jm_196 mt_196 = true := by decide +kernel
def k_M_lays : List jB := [
  (0, [0, 1, 2, 3, 4, 5], [(.aload_n 0, []), (.getfield 61, [9, 33, 4]), (.iconst 0, []), (.iload_n 1, []), (.i2l, []), (.lastore, []), (.aload_n 0, []), (.getfield 61, [9, 33, 4]), (.iconst 1, []), (.iload_n 2, []), (.i2l, []), (.lastore, []), (.aload_n 0, []), (.getfield 61, [9, 33, 4]), (.iconst 2, []), (.iload_n 3, []), (.i2l, []), (.lastore, []), (.aload_n 0, []), (.getfield 61, [9, 33, 4]), (.iconst 3, []), (.iload_n 2, []), (.iload_n 3, []), (.if_icmp .le 7, [1]), (.iconst 1, []), (.goto 4, [2])], 0),
  (38, [0, 4, 5], [(.iconst 0, [])], 2),
  (39, [0, 4, 5], [(.invokestatic 327, [194, 1, 2]), (.lastore, []), (.aload_n 0, []), (.getfield 61, [9, 33, 4]), (.iconst 4, []), (.iload 4, []), (.i2l, []), (.lastore, []), (.aload_n 0, []), (.getfield 61, [9, 33, 4]), (.iconst 5, []), (.iload 5, []), (.i2l, []), (.lastore, []), (.return_, [])], 0)]
def mt_197 : Nat × Nat × List jB := (0, 6, k_M_lays)
set_option maxRecDepth 100000 in
theorem ck_197 : jok jm_197 mt_197 = true := by decide +kernel
def k_M_kept : List jB := [
  (0, [0, 1, 2, 3, 4, 5], [(.iload_n 1, []), (.iconst 2, []), (.idiv, []), (.istore 6, []), (.iload_n 1, []), (.iconst 2, []), (.irem, []), (.ifCond .eq 11, [1]), (.aload_n 0, []), (.getfield 310, [9, 30, 0]), (.iconst 4, []), (.if_icmp .ne 6, [2])], 1),
  (19, [6], [(.iload 6, []), (.ireturn, [])], 0),
  (22, [0, 1, 2, 3, 4, 5, 6], [(.aload_n 0, []), (.getfield 310, [9, 30, 0]), (.iconst 3, []), (.if_icmp .ne 16, [3]), (.aload_n 0, []), (.getfield 313, [9, 31, 0]), (.iload_n 2, []), (.if_icmp .ne 8, [3]), (.iload 6, []), (.iconst 1, []), (.iadd, []), (.ireturn, [])], 0),
  (43, [0, 1, 2, 3, 4, 5, 6], [(.aload_n 0, []), (.getfield 48, [9, 14, 4]), (.aload_n 0, []), (.getfield 316, [9, 32, 0]), (.iaload, []), (.aload_n 0, []), (.getfield 45, [9, 13, 4]), (.aload_n 0, []), (.getfield 316, [9, 32, 0]), (.iaload, []), (.if_icmp .ne 26, [6]), (.aload_n 0, []), (.iload_n 2, []), (.invokevirtual 342, [192, 1, 9, 1]), (.aload_n 0, []), (.iload_n 3, []), (.invokevirtual 342, [192, 1, 9, 1]), (.if_icmp .le 10, [4]), (.iload 6, []), (.iconst 1, []), (.iadd, []), (.goto 5, [5])], 0),
  (84, [6], [(.iload 6, [])], 5),
  (86, [], [(.ireturn, [])], 0),
  (87, [0, 1, 2, 3, 4, 5, 6], [(.aload_n 0, []), (.iload_n 1, []), (.aload_n 0, []), (.iload_n 2, []), (.invokevirtual 342, [192, 1, 9, 1]), (.aload_n 0, []), (.iload_n 3, []), (.invokevirtual 342, [192, 1, 9, 1]), (.iload 4, []), (.iload 5, []), (.invokevirtual 345, [197, 5, 9, 0]), (.aload_n 0, []), (.aload_n 0, []), (.getfield 316, [9, 32, 0]), (.invokevirtual 349, [196, 1, 9, 1]), (.ifCond .eq 21, [7]), (.aload_n 0, []), (.getfield 65, [9, 34, 4]), (.iconst 0, []), (.laload, []), (.lconst 0, []), (.lcmp, []), (.ifCond .eq 10, [7]), (.iload 6, []), (.iconst 1, []), (.iadd, []), (.goto 5, [8])], 0),
  (135, [6], [(.iload 6, [])], 8),
  (137, [], [(.ireturn, [])], 0)]
def mt_198 : Nat × Nat × List jB := (1, 7, k_M_kept)
set_option maxRecDepth 100000 in
theorem ck_198 : jok jm_198 mt_198 = true := by decide +kernel
def k_M_law : List jB := [
  (0, [0, 1, 2, 3, 4, 5], [(.aload_n 0, []), (.iconst 0, []), (.putfield 138, [9, 0, 0]), (.iload_n 1, []), (.ifCond .lt 60, [1]), (.iload_n 1, []), (.sipush 9999, []), (.if_icmp .gt 53, [1]), (.iload 4, []), (.ifCond .lt 48, [1]), (.iload 4, []), (.sipush 9999, []), (.if_icmp .gt 40, [1]), (.iload 5, []), (.ifCond .lt 35, [1]), (.iload 5, []), (.sipush 9999, []), (.if_icmp .gt 27, [1]), (.iload_n 2, []), (.ifCond .lt 23, [1]), (.iload_n 2, []), (.bipush 99, []), (.if_icmp .gt 17, [1]), (.iload_n 3, []), (.ifCond .lt 13, [1]), (.iload_n 3, []), (.bipush 99, []), (.if_icmp .gt 7, [1]), (.iconst 1, []), (.goto 4, [2])], 0),
  (66, [0, 1, 2, 3, 4, 5], [(.iconst 0, [])], 2),
  (67, [0, 1, 2, 3, 4, 5], [(.istore 6, []), (.iload 6, []), (.ifCond .eq 18, [3]), (.aload_n 0, []), (.getfield 48, [9, 14, 4]), (.iconst 0, []), (.iaload, []), (.aload_n 0, []), (.getfield 45, [9, 13, 4]), (.iconst 0, []), (.iaload, []), (.if_icmp .ne 7, [4])], 3),
  (89, [], [(.ldc2_w 354, [9223372036854775808]), (.lreturn, [])], 0),
  (93, [0, 1, 2, 3, 4, 5], [(.aload_n 0, []), (.iload_n 1, []), (.iload_n 2, []), (.iload_n 3, []), (.iload 4, []), (.iload 5, []), (.invokevirtual 345, [197, 5, 9, 0]), (.aload_n 0, []), (.iconst 0, []), (.invokevirtual 349, [196, 1, 9, 1]), (.ifCond .eq 12, [5]), (.aload_n 0, []), (.getfield 65, [9, 34, 4]), (.iconst 0, []), (.laload, []), (.goto 6, [6])], 0),
  (121, [], [(.ldc2_w 354, [9223372036854775808])], 6),
  (124, [], [(.lreturn, [])], 0)]
def mt_199 : Nat × Nat × List jB := (3, 7, k_M_law)
set_option maxRecDepth 100000 in
theorem ck_199 : jok jm_199 mt_199 = true := by decide +kernel
def k_M_begins : List jB := [
  (0, [0, 1], [(.aload_n 0, []), (.getfield 77, [9, 40, 4]), (.iload_n 1, []), (.iconst 0, []), (.iastore, []), (.iconst 0, []), (.istore_n 2, [])], 1),
  (9, [0, 1, 2], [(.iload_n 2, []), (.aload_n 0, []), (.getfield 15, [9, 3, 4]), (.iconst 0, []), (.iaload, []), (.if_icmp .ge 38, [2]), (.aload_n 0, []), (.getfield 80, [9, 41, 4]), (.bipush 10, []), (.iload_n 1, []), (.imul, []), (.iload_n 2, []), (.iadd, []), (.aload_n 0, []), (.getfield 24, [9, 6, 4]), (.iload_n 2, []), (.iaload, []), (.iastore, []), (.aload_n 0, []), (.getfield 83, [9, 42, 4]), (.bipush 10, []), (.iload_n 1, []), (.imul, []), (.iload_n 2, []), (.iadd, []), (.iconst 0, []), (.iastore, []), (.iinc 2 1, []), (.goto (-42), [1])], 0),
  (54, [0, 1], [(.iconst 0, []), (.istore_n 2, [])], 3),
  (56, [0, 1, 2], [(.iload_n 2, []), (.bipush 30, []), (.if_icmp .ge 19, [4]), (.aload_n 0, []), (.bipush 30, []), (.iload_n 1, []), (.imul, []), (.iload_n 2, []), (.iadd, []), (.invokevirtual 356, [201, 1, 9, 0]), (.iinc 2 1, []), (.goto (-19), [3])], 0),
  (78, [], [(.return_, [])], 0)]
def mt_200 : Nat × Nat × List jB := (0, 3, k_M_begins)
set_option maxRecDepth 100000 in
theorem ck_200 : jok jm_200 mt_200 = true := by decide +kernel
def k_M_newParcel : List jB := [
  (0, [0, 1], [(.aload_n 0, []), (.getfield 86, [9, 43, 4]), (.iload_n 1, []), (.iconst 0, []), (.iastore, []), (.aload_n 0, []), (.getfield 89, [9, 44, 4]), (.iload_n 1, []), (.iconst 0, []), (.iastore, []), (.aload_n 0, []), (.getfield 92, [9, 45, 4]), (.iload_n 1, []), (.iconst 0, []), (.iastore, []), (.aload_n 0, []), (.getfield 95, [9, 46, 4]), (.iload_n 1, []), (.iconst (-1), []), (.iastore, []), (.return_, [])], 0)]
def mt_201 : Nat × Nat × List jB := (0, 2, k_M_newParcel)
set_option maxRecDepth 100000 in
theorem ck_201 : jok jm_201 mt_201 = true := by decide +kernel
def k_M_copies : List jB := [
  (0, [0, 1, 2], [(.aload_n 0, []), (.getfield 77, [9, 40, 4]), (.iload_n 1, []), (.aload_n 0, []), (.getfield 77, [9, 40, 4]), (.iload_n 2, []), (.iaload, []), (.iastore, []), (.iconst 0, []), (.istore_n 3, [])], 1),
  (14, [0, 1, 2, 3], [(.iload_n 3, []), (.bipush 10, []), (.if_icmp .ge 53, [2]), (.aload_n 0, []), (.getfield 80, [9, 41, 4]), (.bipush 10, []), (.iload_n 1, []), (.imul, []), (.iload_n 3, []), (.iadd, []), (.aload_n 0, []), (.getfield 80, [9, 41, 4]), (.bipush 10, []), (.iload_n 2, []), (.imul, []), (.iload_n 3, []), (.iadd, []), (.iaload, []), (.iastore, []), (.aload_n 0, []), (.getfield 83, [9, 42, 4]), (.bipush 10, []), (.iload_n 1, []), (.imul, []), (.iload_n 3, []), (.iadd, []), (.aload_n 0, []), (.getfield 83, [9, 42, 4]), (.bipush 10, []), (.iload_n 2, []), (.imul, []), (.iload_n 3, []), (.iadd, []), (.iaload, []), (.iastore, []), (.iinc 3 1, []), (.goto (-53), [1])], 0),
  (70, [0, 1, 2], [(.iconst 0, []), (.istore_n 3, [])], 3),
  (72, [0, 1, 2, 3], [(.iload_n 3, []), (.bipush 30, []), (.if_icmp .ge 97, [4]), (.aload_n 0, []), (.getfield 86, [9, 43, 4]), (.bipush 30, []), (.iload_n 1, []), (.imul, []), (.iload_n 3, []), (.iadd, []), (.aload_n 0, []), (.getfield 86, [9, 43, 4]), (.bipush 30, []), (.iload_n 2, []), (.imul, []), (.iload_n 3, []), (.iadd, []), (.iaload, []), (.iastore, []), (.aload_n 0, []), (.getfield 89, [9, 44, 4]), (.bipush 30, []), (.iload_n 1, []), (.imul, []), (.iload_n 3, []), (.iadd, []), (.aload_n 0, []), (.getfield 89, [9, 44, 4]), (.bipush 30, []), (.iload_n 2, []), (.imul, []), (.iload_n 3, []), (.iadd, []), (.iaload, []), (.iastore, []), (.aload_n 0, []), (.getfield 92, [9, 45, 4]), (.bipush 30, []), (.iload_n 1, []), (.imul, []), (.iload_n 3, []), (.iadd, []), (.aload_n 0, []), (.getfield 92, [9, 45, 4]), (.bipush 30, []), (.iload_n 2, []), (.imul, []), (.iload_n 3, []), (.iadd, []), (.iaload, []), (.iastore, []), (.aload_n 0, []), (.getfield 95, [9, 46, 4]), (.bipush 30, []), (.iload_n 1, []), (.imul, []), (.iload_n 3, []), (.iadd, []), (.aload_n 0, []), (.getfield 95, [9, 46, 4]), (.bipush 30, []), (.iload_n 2, []), (.imul, []), (.iload_n 3, []), (.iadd, []), (.iaload, []), (.iastore, []), (.iinc 3 1, []), (.goto (-97), [3])], 0),
  (172, [], [(.return_, [])], 0)]
def mt_202 : Nat × Nat × List jB := (0, 4, k_M_copies)
set_option maxRecDepth 100000 in
theorem ck_202 : jok jm_202 mt_202 = true := by decide +kernel
def k_M_nextOf : List jB := [
  (0, [0, 1, 2], [(.aload_n 0, []), (.getfield 30, [9, 8, 4]), (.iconst 3, []), (.iload_n 2, []), (.imul, []), (.aload_n 0, []), (.getfield 83, [9, 42, 4]), (.bipush 10, []), (.iload_n 1, []), (.imul, []), (.iload_n 2, []), (.iadd, []), (.iaload, []), (.aload_n 0, []), (.iload_n 2, []), (.invokevirtual 359, [193, 1, 9, 1]), (.irem, []), (.iadd, []), (.iaload, []), (.ireturn, [])], 0)]
def mt_203 : Nat × Nat × List jB := (1, 3, k_M_nextOf)
set_option maxRecDepth 100000 in
theorem ck_203 : jok jm_203 mt_203 = true := by decide +kernel
def k_M_handsOn : List jB := [
  (0, [0, 1, 2, 3, 4], [(.bipush 30, []), (.iload_n 1, []), (.imul, []), (.iload_n 2, []), (.iadd, []), (.istore 5, []), (.aload_n 0, []), (.getfield 86, [9, 43, 4]), (.iload 5, []), (.iconst 1, []), (.iastore, []), (.aload_n 0, []), (.getfield 89, [9, 44, 4]), (.iload 5, []), (.iload 4, []), (.iastore, []), (.aload_n 0, []), (.getfield 95, [9, 46, 4]), (.iload 5, []), (.aload_n 0, []), (.iload_n 1, []), (.iload_n 3, []), (.invokevirtual 362, [203, 2, 9, 1]), (.iastore, []), (.aload_n 0, []), (.getfield 83, [9, 42, 4]), (.bipush 10, []), (.iload_n 1, []), (.imul, []), (.iload_n 3, []), (.iadd, []), (.aload_n 0, []), (.getfield 83, [9, 42, 4]), (.bipush 10, []), (.iload_n 1, []), (.imul, []), (.iload_n 3, []), (.iadd, []), (.iaload, []), (.iconst 1, []), (.iadd, []), (.aload_n 0, []), (.iload_n 3, []), (.invokevirtual 359, [193, 1, 9, 1]), (.irem, []), (.iastore, []), (.return_, [])], 0)]
def mt_204 : Nat × Nat × List jB := (0, 6, k_M_handsOn)
set_option maxRecDepth 100000 in
theorem ck_204 : jok jm_204 mt_204 = true := by decide +kernel
def k_M_rests : List jB := [
  (0, [0, 1, 2, 3, 4], [(.bipush 30, []), (.iload_n 1, []), (.imul, []), (.iload_n 2, []), (.iadd, []), (.istore 5, []), (.aload_n 0, []), (.getfield 80, [9, 41, 4]), (.bipush 10, []), (.iload_n 1, []), (.imul, []), (.iload_n 3, []), (.iadd, []), (.dup2, []), (.iaload, []), (.iload 4, []), (.iadd, []), (.iastore, []), (.aload_n 0, []), (.getfield 86, [9, 43, 4]), (.iload 5, []), (.iconst 2, []), (.iastore, []), (.aload_n 0, []), (.getfield 89, [9, 44, 4]), (.iload 5, []), (.iconst 0, []), (.iastore, []), (.aload_n 0, []), (.getfield 95, [9, 46, 4]), (.iload 5, []), (.iconst (-1), []), (.iastore, []), (.return_, [])], 0)]
def mt_205 : Nat × Nat × List jB := (0, 6, k_M_rests)
set_option maxRecDepth 100000 in
theorem ck_205 : jok jm_205 mt_205 = true := by decide +kernel
def k_M_passes : List jB := [
  (0, [0, 1], [(.iconst 0, []), (.istore_n 2, []), (.iconst 0, []), (.istore_n 3, [])], 1),
  (4, [0, 1, 2, 3], [(.iload_n 3, []), (.aload_n 0, []), (.getfield 301, [9, 36, 0]), (.if_icmp .ge 34, [4]), (.iload_n 2, []), (.aload_n 0, []), (.getfield 86, [9, 43, 4]), (.bipush 30, []), (.iload_n 1, []), (.imul, []), (.iload_n 3, []), (.iadd, []), (.iaload, []), (.iconst 1, []), (.if_icmp .ne 9, [2]), (.iconst 1, []), (.iload_n 3, []), (.ishl, []), (.goto 4, [3])], 0),
  (34, [0, 1, 3], [(.iconst 0, [])], 3),
  (35, [0, 1, 3], [(.ior, []), (.istore_n 2, []), (.iinc 3 1, []), (.goto (-36), [1])], 0),
  (43, [0, 1, 2], [(.iconst 0, []), (.istore_n 3, [])], 5),
  (45, [0, 1, 2, 3], [(.iload_n 3, []), (.aload_n 0, []), (.getfield 301, [9, 36, 0]), (.if_icmp .ge 109, [9]), (.aload_n 0, []), (.getfield 74, [9, 39, 4]), (.iload_n 3, []), (.iaload, []), (.aload_n 0, []), (.getfield 77, [9, 40, 4]), (.iload_n 1, []), (.iaload, []), (.if_icmp .ne 88, [8]), (.aload_n 0, []), (.getfield 86, [9, 43, 4]), (.bipush 30, []), (.iload_n 1, []), (.imul, []), (.iload_n 3, []), (.iadd, []), (.iaload, []), (.ifCond .ne 74, [8]), (.aload_n 0, []), (.getfield 310, [9, 30, 0]), (.iconst 5, []), (.if_icmp .ne 14, [6]), (.aload_n 0, []), (.getfield 313, [9, 31, 0]), (.iload_n 3, []), (.if_icmp .ne 6, [6]), (.goto 55, [8])], 0),
  (101, [0, 1, 2, 3], [(.aload_n 0, []), (.aload_n 0, []), (.getfield 68, [9, 37, 4]), (.iload_n 3, []), (.iaload, []), (.invokevirtual 359, [193, 1, 9, 1]), (.ifCond .ne 24, [7]), (.aload_n 0, []), (.iload_n 1, []), (.iload_n 3, []), (.aload_n 0, []), (.getfield 68, [9, 37, 4]), (.iload_n 3, []), (.iaload, []), (.aload_n 0, []), (.getfield 71, [9, 38, 4]), (.iload_n 3, []), (.iaload, []), (.invokevirtual 365, [205, 4, 9, 0]), (.goto 21, [8])], 0),
  (135, [0, 1, 2, 3], [(.aload_n 0, []), (.iload_n 1, []), (.iload_n 3, []), (.aload_n 0, []), (.getfield 68, [9, 37, 4]), (.iload_n 3, []), (.iaload, []), (.aload_n 0, []), (.getfield 71, [9, 38, 4]), (.iload_n 3, []), (.iaload, []), (.invokevirtual 369, [204, 4, 9, 0])], 8),
  (153, [0, 1, 2, 3], [(.iinc 3 1, []), (.goto (-111), [5])], 0),
  (159, [0, 1, 2], [(.iconst 0, []), (.istore_n 3, [])], 10),
  (161, [0, 1, 2, 3], [(.iload_n 3, []), (.aload_n 0, []), (.getfield 301, [9, 36, 0]), (.if_icmp .ge 24, [12]), (.iload_n 2, []), (.iload_n 3, []), (.ishr, []), (.iconst 1, []), (.iand, []), (.iconst 1, []), (.if_icmp .ne 9, [11]), (.aload_n 0, []), (.iload_n 1, []), (.iload_n 3, []), (.invokevirtual 372, [207, 2, 9, 0])], 11),
  (184, [0, 1, 2, 3], [(.iinc 3 1, []), (.goto (-26), [10])], 0),
  (190, [0, 1], [(.aload_n 0, []), (.getfield 77, [9, 40, 4]), (.iload_n 1, []), (.dup2, []), (.iaload, []), (.iconst 1, []), (.iadd, []), (.iastore, []), (.return_, [])], 0)]
def mt_206 : Nat × Nat × List jB := (0, 4, k_M_passes)
set_option maxRecDepth 100000 in
theorem ck_206 : jok jm_206 mt_206 = true := by decide +kernel
def k_M_comes : List jB := [
  (0, [0, 1, 2], [(.bipush 30, []), (.iload_n 1, []), (.imul, []), (.iload_n 2, []), (.iadd, []), (.istore_n 3, []), (.aload_n 0, []), (.getfield 95, [9, 46, 4]), (.iload_n 3, []), (.iaload, []), (.istore 4, []), (.aload_n 0, []), (.getfield 89, [9, 44, 4]), (.iload_n 3, []), (.iaload, []), (.istore 5, []), (.aload_n 0, []), (.getfield 92, [9, 45, 4]), (.iload_n 3, []), (.dup2, []), (.iaload, []), (.iconst 1, []), (.iadd, []), (.iastore, []), (.aload_n 0, []), (.iload 4, []), (.invokevirtual 359, [193, 1, 9, 1]), (.ifCond .eq 14, [1]), (.aload_n 0, []), (.getfield 92, [9, 45, 4]), (.iload_n 3, []), (.iaload, []), (.bipush 100, []), (.if_icmp .ne 14, [2])], 1),
  (53, [0, 1, 2, 4, 5], [(.aload_n 0, []), (.iload_n 1, []), (.iload_n 2, []), (.iload 4, []), (.iload 5, []), (.invokevirtual 365, [205, 4, 9, 0]), (.return_, [])], 0),
  (64, [0, 1, 2, 3, 4, 5], [(.aload_n 0, []), (.iload 5, []), (.iload 4, []), (.aload_n 0, []), (.iload_n 1, []), (.iload 4, []), (.invokevirtual 362, [203, 2, 9, 1]), (.aload_n 0, []), (.getfield 92, [9, 45, 4]), (.iload_n 3, []), (.iaload, []), (.aload_n 0, []), (.getfield 77, [9, 40, 4]), (.iload_n 1, []), (.iaload, []), (.invokevirtual 375, [198, 5, 9, 1]), (.istore 6, []), (.iload 6, []), (.iload 5, []), (.if_icmp .ne 14, [3]), (.aload_n 0, []), (.iload_n 1, []), (.iload_n 2, []), (.iload 4, []), (.iload 5, []), (.invokevirtual 365, [205, 4, 9, 0]), (.return_, [])], 0),
  (111, [0, 1, 2, 4, 5, 6], [(.aload_n 0, []), (.getfield 80, [9, 41, 4]), (.bipush 10, []), (.iload_n 1, []), (.imul, []), (.iload 4, []), (.iadd, []), (.dup2, []), (.iaload, []), (.iload 6, []), (.iadd, []), (.iastore, []), (.aload_n 0, []), (.iload_n 1, []), (.iload_n 2, []), (.iload 4, []), (.iload 5, []), (.iload 6, []), (.isub, []), (.invokevirtual 369, [204, 4, 9, 0]), (.return_, [])], 0)]
def mt_207 : Nat × Nat × List jB := (0, 7, k_M_comes)
set_option maxRecDepth 100000 in
theorem ck_207 : jok jm_207 mt_207 = true := by decide +kernel
def k_M_look : List jB := [
  (0, [0, 1, 2], [(.aload_n 0, []), (.aload_n 0, []), (.iload_n 1, []), (.invokevirtual 379, [190, 1, 9, 1]), (.ifCond .ne 7, [1]), (.iconst 1, []), (.goto 18, [4])], 0),
  (13, [0, 1, 2], [(.iload_n 2, []), (.ifCond .lt 9, [2]), (.iload_n 2, []), (.bipush 6, []), (.if_icmp .le 7, [3])], 2),
  (23, [0, 1, 2], [(.iconst 2, []), (.goto 4, [4])], 0),
  (27, [0, 1, 2], [(.iconst 0, [])], 4),
  (28, [0, 1, 2], [(.putfield 138, [9, 0, 0]), (.aload_n 0, []), (.getfield 138, [9, 0, 0]), (.ifCond .eq 5, [5]), (.iconst 0, []), (.ireturn, [])], 0),
  (40, [0, 1, 2], [(.iload_n 2, []), (.tableswitch 71 0 6 #[43, 50, 57, 71, 71, 71, 64], [10, 6, 7, 8, 10, 10, 10, 9])], 0),
  (84, [0, 1], [(.aload_n 0, []), (.getfield 21, [9, 5, 4]), (.iload_n 1, []), (.iaload, []), (.ireturn, [])], 0),
  (91, [0, 1], [(.aload_n 0, []), (.getfield 80, [9, 41, 4]), (.iload_n 1, []), (.iaload, []), (.ireturn, [])], 0),
  (98, [0, 1], [(.aload_n 0, []), (.getfield 27, [9, 7, 4]), (.iload_n 1, []), (.iaload, []), (.ireturn, [])], 0),
  (105, [0, 1], [(.aload_n 0, []), (.getfield 83, [9, 42, 4]), (.iload_n 1, []), (.iaload, []), (.ireturn, [])], 0),
  (112, [0, 1, 2], [(.iload_n 2, []), (.iconst 3, []), (.isub, []), (.aload_n 0, []), (.getfield 27, [9, 7, 4]), (.iload_n 1, []), (.iaload, []), (.if_icmp .ge 18, [11]), (.aload_n 0, []), (.getfield 30, [9, 8, 4]), (.iconst 3, []), (.iload_n 1, []), (.imul, []), (.iload_n 2, []), (.iadd, []), (.iconst 3, []), (.isub, []), (.iaload, []), (.goto 4, [12])], 0),
  (139, [], [(.iconst (-1), [])], 12),
  (140, [], [(.ireturn, [])], 0)]
def mt_208 : Nat × Nat × List jB := (1, 3, k_M_look)
set_option maxRecDepth 100000 in
theorem ck_208 : jok jm_208 mt_208 = true := by decide +kernel
def k_M_hours : List jB := [
  (0, [0, 1], [(.aload_n 0, []), (.iconst 0, []), (.putfield 138, [9, 0, 0]), (.iload_n 1, []), (.ifCond .lt 24, [1]), (.iload_n 1, []), (.sipush 300, []), (.if_icmp .gt 17, [1]), (.aload_n 0, []), (.getfield 77, [9, 40, 4]), (.iconst 0, []), (.iaload, []), (.iload_n 1, []), (.iadd, []), (.sipush 3000, []), (.if_icmp .le 5, [2])], 1),
  (30, [], [(.iconst (-1), []), (.ireturn, [])], 0),
  (32, [0, 1], [(.aload_n 0, []), (.invokevirtual 304, [191, 0, 9, 0]), (.iconst 0, []), (.istore_n 2, [])], 3),
  (38, [0, 1, 2], [(.iload_n 2, []), (.iload_n 1, []), (.if_icmp .ge 14, [4]), (.aload_n 0, []), (.iconst 0, []), (.invokevirtual 382, [206, 1, 9, 0]), (.iinc 2 1, []), (.goto (-13), [3])], 0),
  (54, [0], [(.aload_n 0, []), (.getfield 77, [9, 40, 4]), (.iconst 0, []), (.iaload, []), (.ireturn, [])], 0)]
def mt_209 : Nat × Nat × List jB := (1, 3, k_M_hours)
set_option maxRecDepth 100000 in
theorem ck_209 : jok jm_209 mt_209 = true := by decide +kernel
def k_M_send : List jB := [
  (0, [0, 1, 2], [(.aload_n 0, []), (.iconst 0, []), (.putfield 138, [9, 0, 0]), (.aload_n 0, []), (.iload_n 1, []), (.invokevirtual 379, [190, 1, 9, 1]), (.ifCond .eq 23, [1]), (.iload_n 2, []), (.iconst 1, []), (.if_icmp .lt 18, [1]), (.iload_n 2, []), (.ldc 176, [99999]), (.if_icmp .gt 12, [1]), (.aload_n 0, []), (.getfield 301, [9, 36, 0]), (.bipush 30, []), (.if_icmp .ne 5, [2])], 1),
  (33, [], [(.iconst (-1), []), (.ireturn, [])], 0),
  (35, [0, 1, 2], [(.aload_n 0, []), (.getfield 68, [9, 37, 4]), (.aload_n 0, []), (.getfield 301, [9, 36, 0]), (.iload_n 1, []), (.iastore, []), (.aload_n 0, []), (.getfield 71, [9, 38, 4]), (.aload_n 0, []), (.getfield 301, [9, 36, 0]), (.iload_n 2, []), (.iastore, []), (.aload_n 0, []), (.getfield 74, [9, 39, 4]), (.aload_n 0, []), (.getfield 301, [9, 36, 0]), (.aload_n 0, []), (.getfield 77, [9, 40, 4]), (.iconst 0, []), (.iaload, []), (.iastore, []), (.aload_n 0, []), (.aload_n 0, []), (.getfield 301, [9, 36, 0]), (.invokevirtual 356, [201, 1, 9, 0]), (.aload_n 0, []), (.dup, []), (.getfield 301, [9, 36, 0]), (.iconst 1, []), (.iadd, []), (.putfield 301, [9, 36, 0]), (.aload_n 0, []), (.getfield 301, [9, 36, 0]), (.iconst 1, []), (.isub, []), (.ireturn, [])], 0)]
def mt_210 : Nat × Nat × List jB := (1, 3, k_M_send)
set_option maxRecDepth 100000 in
theorem ck_210 : jok jm_210 mt_210 = true := by decide +kernel
def k_M_isParcel : List jB := [
  (0, [0, 1], [(.iload_n 1, []), (.ifCond .lt 15, [1]), (.iload_n 1, []), (.aload_n 0, []), (.getfield 301, [9, 36, 0]), (.if_icmp .ge 7, [1]), (.iconst 1, []), (.goto 4, [2])], 0),
  (16, [], [(.iconst 0, [])], 2),
  (17, [], [(.ireturn, [])], 0)]
def mt_211 : Nat × Nat × List jB := (2, 2, k_M_isParcel)
set_option maxRecDepth 100000 in
theorem ck_211 : jok jm_211 mt_211 = true := by decide +kernel
def k_M_parcel : List jB := [
  (0, [0, 1, 2], [(.aload_n 0, []), (.iconst 0, []), (.putfield 138, [9, 0, 0]), (.aload_n 0, []), (.iload_n 1, []), (.invokevirtual 385, [211, 1, 9, 1]), (.ifCond .ne 5, [1]), (.iconst (-1), []), (.ireturn, [])], 0),
  (15, [0, 1, 2], [(.iload_n 2, []), (.tableswitch 93 0 6 #[44, 51, 58, 65, 72, 79, 86], [9, 2, 3, 4, 5, 6, 7, 8])], 0),
  (60, [0, 1], [(.aload_n 0, []), (.getfield 68, [9, 37, 4]), (.iload_n 1, []), (.iaload, []), (.ireturn, [])], 0),
  (67, [0, 1], [(.aload_n 0, []), (.getfield 71, [9, 38, 4]), (.iload_n 1, []), (.iaload, []), (.ireturn, [])], 0),
  (74, [0, 1], [(.aload_n 0, []), (.getfield 74, [9, 39, 4]), (.iload_n 1, []), (.iaload, []), (.ireturn, [])], 0),
  (81, [0, 1], [(.aload_n 0, []), (.getfield 86, [9, 43, 4]), (.iload_n 1, []), (.iaload, []), (.ireturn, [])], 0),
  (88, [0, 1], [(.aload_n 0, []), (.getfield 89, [9, 44, 4]), (.iload_n 1, []), (.iaload, []), (.ireturn, [])], 0),
  (95, [0, 1], [(.aload_n 0, []), (.getfield 92, [9, 45, 4]), (.iload_n 1, []), (.iaload, []), (.ireturn, [])], 0),
  (102, [0, 1], [(.aload_n 0, []), (.getfield 95, [9, 46, 4]), (.iload_n 1, []), (.iaload, []), (.ireturn, [])], 0),
  (109, [], [(.iconst (-1), []), (.ireturn, [])], 0)]
def mt_212 : Nat × Nat × List jB := (1, 3, k_M_parcel)
set_option maxRecDepth 100000 in
theorem ck_212 : jok jm_212 mt_212 = true := by decide +kernel
def k_M_coins : List jB := [
  (0, [0], [(.aload_n 0, []), (.iconst 0, []), (.putfield 138, [9, 0, 0]), (.lconst 0, []), (.lstore_n 1, []), (.iconst 0, []), (.istore_n 3, [])], 1),
  (9, [0, 1, 3], [(.iload_n 3, []), (.aload_n 0, []), (.getfield 15, [9, 3, 4]), (.iconst 0, []), (.iaload, []), (.if_icmp .ge 19, [2]), (.lload_n 1, []), (.aload_n 0, []), (.getfield 80, [9, 41, 4]), (.iload_n 3, []), (.iaload, []), (.i2l, []), (.ladd, []), (.lstore_n 1, []), (.iinc 3 1, []), (.goto (-23), [1])], 0),
  (35, [0, 1], [(.iconst 0, []), (.istore_n 3, [])], 3),
  (37, [0, 1, 3], [(.iload_n 3, []), (.aload_n 0, []), (.getfield 301, [9, 36, 0]), (.if_icmp .ge 19, [4]), (.lload_n 1, []), (.aload_n 0, []), (.getfield 89, [9, 44, 4]), (.iload_n 3, []), (.iaload, []), (.i2l, []), (.ladd, []), (.lstore_n 1, []), (.iinc 3 1, []), (.goto (-21), [3])], 0),
  (61, [1], [(.lload_n 1, []), (.lreturn, [])], 0)]
def mt_213 : Nat × Nat × List jB := (3, 4, k_M_coins)
set_option maxRecDepth 100000 in
theorem ck_213 : jok jm_213 mt_213 = true := by decide +kernel
