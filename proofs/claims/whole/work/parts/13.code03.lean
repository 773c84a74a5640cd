/-! The methods' blocks, held against their bytes. Printed by wip/gen/code.py. -/
def k_HH_agrees : List jB := [
  (0, [0, 1], [(.iconst 0, []), (.istore_n 2, [])], 1),
  (2, [0, 1, 2], [(.iload_n 2, []), (.aload_n 0, []), (.getfield 70, [8, 13, 4]), (.getfield 291, [2, 0, 0]), (.if_icmp .ge 79, [3]), (.aload_n 0, []), (.getfield 70, [8, 13, 4]), (.iload_n 2, []), (.invokevirtual 312, [32, 1, 2, 1]), (.ifCond .eq 62, [2]), (.aload_n 0, []), (.aload_n 0, []), (.getfield 70, [8, 13, 4]), (.getfield 315, [2, 2, 4]), (.iload_n 2, []), (.iaload, []), (.aload_n 0, []), (.getfield 70, [8, 13, 4]), (.getfield 318, [2, 3, 4]), (.iload_n 2, []), (.laload, []), (.invokevirtual 209, [150, 2, 8, 1]), (.ifCond .eq 37, [2]), (.aload_n 0, []), (.getfield 70, [8, 13, 4]), (.iload_n 2, []), (.aload_n 0, []), (.getfield 54, [8, 11, 4]), (.aload_n 0, []), (.getfield 16, [8, 2, 3]), (.iload_n 1, []), (.aload_n 0, []), (.getfield 70, [8, 13, 4]), (.getfield 322, [2, 4, 4]), (.iload_n 2, []), (.iaload, []), (.invokevirtual 199, [88, 3, 5, 1]), (.invokevirtual 325, [33, 2, 2, 1]), (.ifCond .ne 5, [2]), (.iconst 0, []), (.ireturn, [])], 0),
  (83, [0, 1, 2], [(.iinc 2 1, []), (.goto (-84), [1])], 0),
  (89, [], [(.iconst 1, []), (.ireturn, [])], 0)]
def mt_142 : Nat × Nat × List jB := (2, 3, k_HH_agrees)
set_option maxRecDepth 100000 in
theorem ck_142 : jok jm_142 mt_142 = true := by decide +kernel
def k_HH_lawNumbered : List jB := [
  (0, [0, 1], [(.iload_n 1, []), (.aload_n 0, []), (.getfield 16, [8, 2, 3]), (.getfield 303, [6, 10, 0]), (.if_icmp .ne 7, [1]), (.iconst 4, []), (.goto 4, [2])], 0),
  (15, [1], [(.iload_n 1, [])], 2),
  (16, [], [(.ireturn, [])], 0)]
def mt_143 : Nat × Nat × List jB := (1, 2, k_HH_lawNumbered)
set_option maxRecDepth 100000 in
theorem ck_143 : jok jm_143 mt_143 = true := by decide +kernel
def k_HH_apart : List jB := [
  (0, [0, 1, 2, 4, 5], [(.aload_n 0, []), (.iload_n 1, []), (.lload_n 2, []), (.invokevirtual 209, [150, 2, 8, 1]), (.ifCond .eq 35, [1]), (.iload 4, []), (.iconst 0, []), (.aload_n 0, []), (.getfield 16, [8, 2, 3]), (.getfield 303, [6, 10, 0]), (.invokestatic 141, [152, 3, 1]), (.ifCond .eq 19, [1]), (.iload 5, []), (.iconst 0, []), (.aload_n 0, []), (.getfield 16, [8, 2, 3]), (.getfield 303, [6, 10, 0]), (.invokestatic 141, [152, 3, 1]), (.ifCond .ne 5, [2])], 1),
  (41, [], [(.iconst (-1), []), (.ireturn, [])], 0),
  (43, [0, 4, 5], [(.iconst 1, []), (.istore 6, [])], 3),
  (46, [0, 4, 5, 6], [(.iload 6, []), (.sipush 999, []), (.if_icmp .gt 57, [5]), (.aload_n 0, []), (.getfield 54, [8, 11, 4]), (.aload_n 0, []), (.getfield 16, [8, 2, 3]), (.aload_n 0, []), (.iload 4, []), (.invokevirtual 306, [143, 1, 8, 1]), (.iload 6, []), (.invokevirtual 199, [88, 3, 5, 1]), (.istore 7, []), (.iload 7, []), (.aload_n 0, []), (.getfield 54, [8, 11, 4]), (.aload_n 0, []), (.getfield 16, [8, 2, 3]), (.aload_n 0, []), (.iload 5, []), (.invokevirtual 306, [143, 1, 8, 1]), (.iload 6, []), (.invokevirtual 199, [88, 3, 5, 1]), (.if_icmp .eq 6, [4]), (.iload 6, []), (.ireturn, [])], 0),
  (102, [0, 4, 5, 6], [(.iinc 6 1, []), (.goto (-59), [3])], 0),
  (108, [], [(.bipush (-2), []), (.ireturn, [])], 0)]
def mt_144 : Nat × Nat × List jB := (1, 8, k_HH_apart)
set_option maxRecDepth 100000 in
theorem ck_144 : jok jm_144 mt_144 = true := by decide +kernel
def k_HH_tried : List jB := [
  (0, [0, 1, 2, 3], [(.aload_n 0, []), (.iload_n 1, []), (.iload_n 2, []), (.invokevirtual 329, [146, 2, 8, 1]), (.ifCond .eq 14, [1]), (.aload_n 0, []), (.getfield 16, [8, 2, 3]), (.iload_n 3, []), (.invokevirtual 115, [93, 1, 6, 1]), (.ifCond .ne 5, [2])], 1),
  (20, [], [(.iconst (-1), []), (.ireturn, [])], 0),
  (22, [0, 1, 2, 3], [(.aload_n 0, []), (.getfield 48, [8, 10, 4]), (.aload_n 0, []), (.getfield 41, [8, 7, 4]), (.iload_n 1, []), (.iload_n 2, []), (.invokevirtual 332, [1, 3, 0, 0]), (.aload_n 0, []), (.getfield 48, [8, 10, 4]), (.aload_n 0, []), (.getfield 41, [8, 7, 4]), (.getfield 145, [0, 0, 0]), (.invokevirtual 148, [9, 1, 0, 0]), (.aload_n 0, []), (.getfield 48, [8, 10, 4]), (.getfield 125, [0, 1, 4]), (.iload_n 3, []), (.iaload, []), (.ireturn, [])], 0)]
def mt_145 : Nat × Nat × List jB := (1, 4, k_HH_tried)
set_option maxRecDepth 100000 in
theorem ck_145 : jok jm_145 mt_145 = true := by decide +kernel
def k_HH_isTrial : List jB := [
  (0, [0, 1, 2], [(.iload_n 1, []), (.tableswitch 67 0 5 #[39, 48, 48, 39, 48, 58], [6, 1, 2, 2, 1, 2, 5])], 0),
  (40, [0, 2], [(.aload_n 0, []), (.getfield 16, [8, 2, 3]), (.iload_n 2, []), (.invokevirtual 115, [93, 1, 6, 1]), (.ireturn, [])], 0),
  (49, [2], [(.iload_n 2, []), (.ifCond .ne 7, [3]), (.iconst 1, []), (.goto 4, [4])], 0),
  (57, [], [(.iconst 0, [])], 4),
  (58, [], [(.ireturn, [])], 0),
  (59, [0, 2], [(.aload_n 0, []), (.getfield 41, [8, 7, 4]), (.iload_n 2, []), (.invokevirtual 159, [5, 1, 0, 1]), (.ireturn, [])], 0),
  (68, [], [(.iconst 0, []), (.ireturn, [])], 0)]
def mt_146 : Nat × Nat × List jB := (2, 3, k_HH_isTrial)
set_option maxRecDepth 100000 in
theorem ck_146 : jok jm_146 mt_146 = true := by decide +kernel
def k_HH_keep : List jB := [
  (0, [0], [(.aload_n 0, []), (.getfield 45, [8, 8, 4]), (.aload_n 0, []), (.getfield 41, [8, 7, 4]), (.invokevirtual 187, [3, 1, 0, 0]), (.aload_n 0, []), (.iconst 1, []), (.putfield 104, [8, 9, 1]), (.aload_n 0, []), (.getfield 41, [8, 7, 4]), (.getfield 145, [0, 0, 0]), (.ireturn, [])], 0)]
def mt_147 : Nat × Nat × List jB := (1, 1, k_HH_keep)
set_option maxRecDepth 100000 in
theorem ck_147 : jok jm_147 mt_147 = true := by decide +kernel
def k_HH_again : List jB := [
  (0, [0], [(.aload_n 0, []), (.getfield 104, [8, 9, 1]), (.ifCond .ne 5, [1]), (.iconst (-1), []), (.ireturn, [])], 0),
  (9, [0], [(.aload_n 0, []), (.getfield 41, [8, 7, 4]), (.aload_n 0, []), (.getfield 45, [8, 8, 4]), (.invokevirtual 187, [3, 1, 0, 0]), (.aload_n 0, []), (.getfield 41, [8, 7, 4]), (.getfield 145, [0, 0, 0]), (.ireturn, [])], 0)]
def mt_148 : Nat × Nat × List jB := (1, 1, k_HH_again)
set_option maxRecDepth 100000 in
theorem ck_148 : jok jm_148 mt_148 = true := by decide +kernel
def k_HH_count : List jB := [
  (0, [0, 1], [(.iload_n 1, []), (.tableswitch 140 0 9 #[55, 63, 71, 79, 90, 98, 106, 114, 123, 132], [11, 1, 2, 3, 4, 5, 6, 7, 8, 9, 10])], 0),
  (56, [0], [(.aload_n 0, []), (.getfield 16, [8, 2, 3]), (.getfield 336, [6, 0, 0]), (.ireturn, [])], 0),
  (64, [0], [(.aload_n 0, []), (.getfield 41, [8, 7, 4]), (.getfield 152, [0, 3, 0]), (.ireturn, [])], 0),
  (72, [0], [(.aload_n 0, []), (.getfield 16, [8, 2, 3]), (.getfield 303, [6, 10, 0]), (.ireturn, [])], 0),
  (80, [0], [(.aload_n 0, []), (.getfield 16, [8, 2, 3]), (.getfield 273, [6, 12, 4]), (.getfield 339, [1, 0, 0]), (.ireturn, [])], 0),
  (91, [0], [(.aload_n 0, []), (.getfield 41, [8, 7, 4]), (.getfield 145, [0, 0, 0]), (.ireturn, [])], 0),
  (99, [0], [(.aload_n 0, []), (.getfield 70, [8, 13, 4]), (.getfield 291, [2, 0, 0]), (.ireturn, [])], 0),
  (107, [0], [(.aload_n 0, []), (.getfield 70, [8, 13, 4]), (.invokevirtual 342, [30, 0, 2, 1]), (.ireturn, [])], 0),
  (115, [0], [(.aload_n 0, []), (.getfield 41, [8, 7, 4]), (.iconst 1, []), (.invokevirtual 345, [6, 1, 0, 1]), (.ireturn, [])], 0),
  (124, [0], [(.aload_n 0, []), (.getfield 41, [8, 7, 4]), (.iconst 2, []), (.invokevirtual 345, [6, 1, 0, 1]), (.ireturn, [])], 0),
  (133, [0], [(.aload_n 0, []), (.getfield 16, [8, 2, 3]), (.getfield 348, [6, 6, 0]), (.ireturn, [])], 0),
  (141, [], [(.iconst (-1), []), (.ireturn, [])], 0)]
def mt_149 : Nat × Nat × List jB := (1, 2, k_HH_count)
set_option maxRecDepth 100000 in
theorem ck_149 : jok jm_149 mt_149 = true := by decide +kernel
def k_HH_isRow : List jB := [
  (0, [0, 1, 2], [(.aload_n 0, []), (.getfield 54, [8, 11, 4]), (.iload_n 1, []), (.lload_n 2, []), (.aload_n 0, []), (.getfield 16, [8, 2, 3]), (.getfield 336, [6, 0, 0]), (.invokevirtual 349, [82, 3, 5, 1]), (.ireturn, [])], 0)]
def mt_150 : Nat × Nat × List jB := (2, 4, k_HH_isRow)
set_option maxRecDepth 100000 in
theorem ck_150 : jok jm_150 mt_150 = true := by decide +kernel
def k_HH_isSent : List jB := [
  (0, [0, 1, 2, 4], [(.aload_n 0, []), (.iload_n 1, []), (.lload_n 2, []), (.invokevirtual 209, [150, 2, 8, 1]), (.ifCond .eq 18, [1]), (.iload 4, []), (.iconst 0, []), (.ldc 220, [999999]), (.invokestatic 141, [152, 3, 1]), (.ifCond .eq 7, [1]), (.iconst 1, []), (.goto 4, [2])], 0),
  (24, [], [(.iconst 0, [])], 2),
  (25, [], [(.ireturn, [])], 0)]
def mt_151 : Nat × Nat × List jB := (2, 5, k_HH_isSent)
set_option maxRecDepth 100000 in
theorem ck_151 : jok jm_151 mt_151 = true := by decide +kernel
def k_HH_within : List jB := [
  (0, [0, 1, 2], [(.iload_n 0, []), (.iload_n 1, []), (.if_icmp .lt 12, [1]), (.iload_n 0, []), (.iload_n 2, []), (.if_icmp .gt 7, [1]), (.iconst 1, []), (.goto 4, [2])], 0),
  (14, [], [(.iconst 0, [])], 2),
  (15, [], [(.ireturn, [])], 0)]
def mt_152 : Nat × Nat × List jB := (2, 3, k_HH_within)
set_option maxRecDepth 100000 in
theorem ck_152 : jok jm_152 mt_152 = true := by decide +kernel
def k_HH_ceiling : List jB := [
  (0, [0, 1], [(.iload_n 0, []), (.iconst 1, []), (.iload_n 1, []), (.ishl, []), (.iadd, []), (.iconst 1, []), (.isub, []), (.iload_n 1, []), (.ishr, []), (.ireturn, [])], 0)]
def mt_153 : Nat × Nat × List jB := (1, 2, k_HH_ceiling)
set_option maxRecDepth 100000 in
theorem ck_153 : jok jm_153 mt_153 = true := by decide +kernel
def k_M_thrown : List jB := [
  (0, [0], [(.aload_n 0, []), (.getfield 138, [9, 0, 0]), (.ireturn, [])], 0)]
def mt_154 : Nat × Nat × List jB := (1, 1, k_M_thrown)
set_option maxRecDepth 100000 in
theorem ck_154 : jok jm_154 mt_154 = true := by decide +kernel
def k_M_feed : List jB := [
  (0, [0, 1, 2, 3, 4, 5], [(.aload_n 0, []), (.iconst 0, []), (.putfield 138, [9, 0, 0]), (.aload_n 0, []), (.getfield 141, [9, 2, 0]), (.sipush 680, []), (.if_icmp .le 5, [1]), (.iconst (-1), []), (.ireturn, [])], 0),
  (17, [0, 1, 2, 3, 4, 5], [(.iconst 0, []), (.istore 6, [])], 2),
  (20, [0, 1, 2, 3, 4, 5, 6], [(.iload 6, []), (.bipush 20, []), (.if_icmp .ge 86, [8]), (.iload 6, []), (.iconst 4, []), (.if_icmp .ge 7, [3]), (.iload_n 1, []), (.goto 39, [7])], 0),
  (37, [0, 1, 2, 3, 4, 5, 6], [(.iload 6, []), (.bipush 8, []), (.if_icmp .ge 7, [4]), (.iload_n 2, []), (.goto 28, [7])], 0),
  (48, [0, 1, 2, 3, 4, 5, 6], [(.iload 6, []), (.bipush 12, []), (.if_icmp .ge 7, [5]), (.iload_n 3, []), (.goto 17, [7])], 0),
  (59, [0, 1, 2, 3, 4, 5, 6], [(.iload 6, []), (.bipush 16, []), (.if_icmp .ge 8, [6]), (.iload 4, []), (.goto 5, [7])], 0),
  (71, [0, 1, 2, 3, 4, 5, 6], [(.iload 5, [])], 7),
  (73, [0, 1, 2, 3, 4, 5, 6], [(.istore 7, []), (.aload_n 0, []), (.getfield 9, [9, 1, 4]), (.aload_n 0, []), (.getfield 141, [9, 2, 0]), (.iload 6, []), (.iadd, []), (.iload 7, []), (.bipush 24, []), (.bipush 8, []), (.iload 6, []), (.iconst 4, []), (.irem, []), (.imul, []), (.isub, []), (.ishr, []), (.sipush 255, []), (.iand, []), (.iastore, []), (.iinc 6 1, []), (.goto (-87), [2])], 0),
  (110, [0], [(.aload_n 0, []), (.dup, []), (.getfield 141, [9, 2, 0]), (.bipush 20, []), (.iadd, []), (.putfield 141, [9, 2, 0]), (.aload_n 0, []), (.getfield 141, [9, 2, 0]), (.ireturn, [])], 0)]
def mt_155 : Nat × Nat × List jB := (1, 8, k_M_feed)
set_option maxRecDepth 100000 in
theorem ck_155 : jok jm_155 mt_155 = true := by decide +kernel
def k_M_here : List jB := [
  (0, [0], [(.aload_n 0, []), (.getfield 144, [9, 19, 0]), (.aload_n 0, []), (.getfield 147, [9, 18, 0]), (.if_icmp .ge 15, [1]), (.aload_n 0, []), (.getfield 9, [9, 1, 4]), (.aload_n 0, []), (.getfield 144, [9, 19, 0]), (.iaload, []), (.goto 4, [2])], 0),
  (23, [], [(.iconst (-1), [])], 2),
  (24, [], [(.ireturn, [])], 0)]
def mt_156 : Nat × Nat × List jB := (1, 1, k_M_here)
set_option maxRecDepth 100000 in
theorem ck_156 : jok jm_156 mt_156 = true := by decide +kernel
def k_M_isSmall : List jB := [
  (0, [0], [(.iload_n 0, []), (.bipush 97, []), (.if_icmp .lt 13, [1]), (.iload_n 0, []), (.bipush 122, []), (.if_icmp .gt 7, [1]), (.iconst 1, []), (.goto 4, [2])], 0),
  (16, [], [(.iconst 0, [])], 2),
  (17, [], [(.ireturn, [])], 0)]
def mt_157 : Nat × Nat × List jB := (2, 1, k_M_isSmall)
set_option maxRecDepth 100000 in
theorem ck_157 : jok jm_157 mt_157 = true := by decide +kernel
def k_M_isDigit : List jB := [
  (0, [0], [(.iload_n 0, []), (.bipush 48, []), (.if_icmp .lt 13, [1]), (.iload_n 0, []), (.bipush 57, []), (.if_icmp .gt 7, [1]), (.iconst 1, []), (.goto 4, [2])], 0),
  (16, [], [(.iconst 0, [])], 2),
  (17, [], [(.ireturn, [])], 0)]
def mt_158 : Nat × Nat × List jB := (2, 1, k_M_isDigit)
set_option maxRecDepth 100000 in
theorem ck_158 : jok jm_158 mt_158 = true := by decide +kernel
def k_M_token : List jB := [
  (0, [0], [(.aload_n 0, []), (.invokevirtual 150, [156, 0, 9, 1]), (.bipush 10, []), (.if_icmp .eq 12, [1]), (.aload_n 0, []), (.invokevirtual 150, [156, 0, 9, 1]), (.bipush 32, []), (.if_icmp .ne 16, [2])], 1),
  (18, [0], [(.aload_n 0, []), (.dup, []), (.getfield 144, [9, 19, 0]), (.iconst 1, []), (.iadd, []), (.putfield 144, [9, 19, 0]), (.goto (-28), [0])], 0),
  (31, [0], [(.aload_n 0, []), (.aload_n 0, []), (.getfield 144, [9, 19, 0]), (.putfield 154, [9, 20, 0]), (.aload_n 0, []), (.invokevirtual 150, [156, 0, 9, 1]), (.istore_n 1, []), (.iload_n 1, []), (.iconst (-1), []), (.if_icmp .ne 11, [3]), (.aload_n 0, []), (.iconst 4, []), (.putfield 157, [9, 21, 0]), (.goto 171, [14])], 0),
  (57, [0, 1], [(.iload_n 1, []), (.invokestatic 160, [157, 1, 1]), (.ifCond .eq 84, [9])], 4),
  (64, [0], [(.aload_n 0, []), (.invokevirtual 150, [156, 0, 9, 1]), (.invokestatic 160, [157, 1, 1]), (.ifCond .eq 16, [5]), (.aload_n 0, []), (.dup, []), (.getfield 144, [9, 19, 0]), (.iconst 1, []), (.iadd, []), (.putfield 144, [9, 19, 0]), (.goto (-20), [4])], 0),
  (87, [0], [(.aload_n 0, []), (.aload_n 0, []), (.invokevirtual 164, [161, 0, 9, 1]), (.putfield 167, [9, 22, 0]), (.aload_n 0, []), (.aload_n 0, []), (.getfield 167, [9, 22, 0]), (.iconst (-1), []), (.if_icmp .eq 7, [6]), (.iconst 0, []), (.goto 22, [8])], 0),
  (108, [0], [(.aload_n 0, []), (.getfield 144, [9, 19, 0]), (.aload_n 0, []), (.getfield 154, [9, 20, 0]), (.isub, []), (.bipush 6, []), (.if_icmp .le 7, [7]), (.iconst 5, []), (.goto 4, [8])], 0),
  (126, [0], [(.iconst 1, [])], 8),
  (127, [0], [(.putfield 157, [9, 21, 0]), (.aload_n 0, []), (.getfield 157, [9, 21, 0]), (.iconst 1, []), (.if_icmp .ne 90, [14]), (.aload_n 0, []), (.invokevirtual 170, [162, 0, 9, 0]), (.goto 83, [14])], 0),
  (145, [0, 1], [(.iload_n 1, []), (.invokestatic 173, [158, 1, 1]), (.ifCond .eq 71, [13]), (.aload_n 0, []), (.iconst 2, []), (.putfield 157, [9, 21, 0]), (.aload_n 0, []), (.iconst 0, []), (.putfield 167, [9, 22, 0])], 10),
  (162, [0], [(.aload_n 0, []), (.invokevirtual 150, [156, 0, 9, 1]), (.invokestatic 173, [158, 1, 1]), (.ifCond .eq 56, [14]), (.aload_n 0, []), (.aload_n 0, []), (.getfield 167, [9, 22, 0]), (.ldc 176, [99999]), (.if_icmp .le 10, [11]), (.aload_n 0, []), (.getfield 167, [9, 22, 0]), (.goto 18, [12])], 0),
  (189, [0], [(.bipush 10, []), (.aload_n 0, []), (.getfield 167, [9, 22, 0]), (.imul, []), (.aload_n 0, []), (.invokevirtual 150, [156, 0, 9, 1]), (.iadd, []), (.bipush 48, []), (.isub, [])], 12),
  (204, [0], [(.putfield 167, [9, 22, 0]), (.aload_n 0, []), (.dup, []), (.getfield 144, [9, 19, 0]), (.iconst 1, []), (.iadd, []), (.putfield 144, [9, 19, 0]), (.goto (-55), [10])], 0),
  (220, [0, 1], [(.aload_n 0, []), (.iload_n 1, []), (.invokevirtual 177, [160, 1, 9, 0])], 14),
  (225, [], [(.return_, [])], 0)]
def mt_159 : Nat × Nat × List jB := (0, 2, k_M_token)
set_option maxRecDepth 100000 in
theorem ck_159 : jok jm_159 mt_159 = true := by decide +kernel
def k_M_sign : List jB := [
  (0, [0, 1], [(.aload_n 0, []), (.dup, []), (.getfield 144, [9, 19, 0]), (.iconst 1, []), (.iadd, []), (.putfield 144, [9, 19, 0]), (.aload_n 0, []), (.iload_n 1, []), (.bipush 59, []), (.if_icmp .eq 63, [1]), (.iload_n 1, []), (.bipush 40, []), (.if_icmp .eq 57, [1]), (.iload_n 1, []), (.bipush 41, []), (.if_icmp .eq 51, [1]), (.iload_n 1, []), (.bipush 43, []), (.if_icmp .eq 45, [1]), (.iload_n 1, []), (.bipush 45, []), (.if_icmp .eq 39, [1]), (.iload_n 1, []), (.bipush 42, []), (.if_icmp .eq 33, [1]), (.iload_n 1, []), (.bipush 47, []), (.if_icmp .eq 27, [1]), (.iload_n 1, []), (.bipush 37, []), (.if_icmp .eq 21, [1]), (.iload_n 1, []), (.bipush 60, []), (.if_icmp .eq 15, [1]), (.iload_n 1, []), (.bipush 61, []), (.if_icmp .eq 9, [1]), (.iload_n 1, []), (.bipush 62, []), (.if_icmp .ne 7, [2])], 1),
  (77, [0, 1], [(.iconst 3, []), (.goto 4, [3])], 0),
  (81, [0, 1], [(.iconst 5, [])], 3),
  (82, [0, 1], [(.putfield 157, [9, 21, 0]), (.aload_n 0, []), (.iload_n 1, []), (.putfield 167, [9, 22, 0]), (.iload_n 1, []), (.bipush 60, []), (.if_icmp .ne 19, [4]), (.aload_n 0, []), (.invokevirtual 150, [156, 0, 9, 1]), (.bipush 61, []), (.if_icmp .ne 10, [4]), (.aload_n 0, []), (.sipush 256, []), (.putfield 167, [9, 22, 0])], 4),
  (112, [0, 1], [(.iload_n 1, []), (.bipush 60, []), (.if_icmp .ne 19, [5]), (.aload_n 0, []), (.invokevirtual 150, [156, 0, 9, 1]), (.bipush 62, []), (.if_icmp .ne 10, [5]), (.aload_n 0, []), (.sipush 257, []), (.putfield 167, [9, 22, 0])], 5),
  (134, [0, 1], [(.iload_n 1, []), (.bipush 62, []), (.if_icmp .ne 19, [6]), (.aload_n 0, []), (.invokevirtual 150, [156, 0, 9, 1]), (.bipush 61, []), (.if_icmp .ne 10, [6]), (.aload_n 0, []), (.sipush 258, []), (.putfield 167, [9, 22, 0])], 6),
  (156, [0], [(.aload_n 0, []), (.getfield 167, [9, 22, 0]), (.sipush 256, []), (.if_icmp .lt 13, [7]), (.aload_n 0, []), (.dup, []), (.getfield 144, [9, 19, 0]), (.iconst 1, []), (.iadd, []), (.putfield 144, [9, 19, 0])], 7),
  (176, [], [(.return_, [])], 0)]
def mt_160 : Nat × Nat × List jB := (0, 2, k_M_sign)
set_option maxRecDepth 100000 in
theorem ck_160 : jok jm_160 mt_160 = true := by decide +kernel
def k_M_word : List jB := [
  (0, [0], [(.iconst 0, []), (.istore_n 1, []), (.iconst 0, []), (.istore_n 2, [])], 1),
  (4, [0, 1, 2], [(.iload_n 2, []), (.ldc 181, [1002, 1]), (.invokevirtual 183, [901]), (.if_icmp .ge 113, [6]), (.iconst 0, []), (.istore_n 3, [])], 2),
  (15, [0, 1, 2, 3], [(.ldc 181, [1002, 1]), (.iload_n 2, []), (.iload_n 3, []), (.iadd, []), (.invokevirtual 188, [902, 0]), (.bipush 32, []), (.if_icmp .eq 44, [3]), (.aload_n 0, []), (.getfield 154, [9, 20, 0]), (.iload_n 3, []), (.iadd, []), (.aload_n 0, []), (.getfield 144, [9, 19, 0]), (.if_icmp .ge 31, [3]), (.aload_n 0, []), (.getfield 9, [9, 1, 4]), (.aload_n 0, []), (.getfield 154, [9, 20, 0]), (.iload_n 3, []), (.iadd, []), (.iaload, []), (.ldc 181, [1002, 1]), (.iload_n 2, []), (.iload_n 3, []), (.iadd, []), (.invokevirtual 188, [902, 0]), (.if_icmp .ne 9, [3]), (.iinc 3 1, []), (.goto (-51), [2])], 0),
  (69, [0, 1, 2, 3], [(.ldc 181, [1002, 1]), (.iload_n 2, []), (.iload_n 3, []), (.iadd, []), (.invokevirtual 188, [902, 0]), (.bipush 32, []), (.if_icmp .ne 18, [4]), (.aload_n 0, []), (.getfield 154, [9, 20, 0]), (.iload_n 3, []), (.iadd, []), (.aload_n 0, []), (.getfield 144, [9, 19, 0]), (.if_icmp .ne 5, [4]), (.iload_n 1, []), (.ireturn, [])], 0),
  (97, [0, 1, 2], [(.ldc 181, [1002, 1]), (.iload_n 2, []), (.invokevirtual 188, [902, 0]), (.bipush 32, []), (.if_icmp .eq 9, [5]), (.iinc 2 1, []), (.goto (-14), [4])], 0),
  (114, [0, 1, 2], [(.iinc 2 1, []), (.iinc 1 1, []), (.goto (-116), [1])], 0),
  (123, [], [(.iconst (-1), []), (.ireturn, [])], 0)]
def mt_161 : Nat × Nat × List jB := (1, 4, k_M_word)
set_option maxRecDepth 100000 in
theorem ck_161 : jok jm_161 mt_161 = true := by decide +kernel
def k_M_name : List jB := [
  (0, [0], [(.aload_n 0, []), (.iconst 0, []), (.putfield 167, [9, 22, 0]), (.iconst 0, []), (.istore_n 1, [])], 1),
  (7, [0, 1], [(.iload_n 1, []), (.bipush 6, []), (.if_icmp .ge 53, [4]), (.aload_n 0, []), (.aload_n 0, []), (.getfield 167, [9, 22, 0]), (.iconst 5, []), (.ishl, []), (.aload_n 0, []), (.getfield 154, [9, 20, 0]), (.iload_n 1, []), (.iadd, []), (.aload_n 0, []), (.getfield 144, [9, 19, 0]), (.if_icmp .ge 22, [2]), (.aload_n 0, []), (.getfield 9, [9, 1, 4]), (.aload_n 0, []), (.getfield 154, [9, 20, 0]), (.iload_n 1, []), (.iadd, []), (.iaload, []), (.bipush 97, []), (.isub, []), (.iconst 1, []), (.iadd, []), (.goto 4, [3])], 0),
  (52, [0, 1], [(.iconst 0, [])], 3),
  (53, [0, 1], [(.ior, []), (.putfield 167, [9, 22, 0]), (.iinc 1 1, []), (.goto (-53), [1])], 0),
  (63, [], [(.return_, [])], 0)]
def mt_162 : Nat × Nat × List jB := (0, 2, k_M_name)
set_option maxRecDepth 100000 in
theorem ck_162 : jok jm_162 mt_162 = true := by decide +kernel
def k_M_wrong : List jB := [
  (0, [0, 1], [(.aload_n 0, []), (.getfield 192, [9, 23, 0]), (.ifCond .eq 4, [1]), (.return_, [])], 0),
  (8, [0, 1], [(.aload_n 0, []), (.iload_n 1, []), (.putfield 192, [9, 23, 0]), (.aload_n 0, []), (.aload_n 0, []), (.getfield 154, [9, 20, 0]), (.putfield 195, [9, 24, 0]), (.return_, [])], 0)]
def mt_163 : Nat × Nat × List jB := (0, 2, k_M_wrong)
set_option maxRecDepth 100000 in
theorem ck_163 : jok jm_163 mt_163 = true := by decide +kernel
def k_M_isWord : List jB := [
  (0, [0, 1], [(.aload_n 0, []), (.getfield 192, [9, 23, 0]), (.ifCond .ne 22, [1]), (.aload_n 0, []), (.getfield 157, [9, 21, 0]), (.ifCond .ne 15, [1]), (.aload_n 0, []), (.getfield 167, [9, 22, 0]), (.iload_n 1, []), (.if_icmp .ne 7, [1]), (.iconst 1, []), (.goto 4, [2])], 0),
  (26, [], [(.iconst 0, [])], 2),
  (27, [], [(.ireturn, [])], 0)]
def mt_164 : Nat × Nat × List jB := (2, 2, k_M_isWord)
set_option maxRecDepth 100000 in
theorem ck_164 : jok jm_164 mt_164 = true := by decide +kernel
def k_M_isSign : List jB := [
  (0, [0, 1], [(.aload_n 0, []), (.getfield 192, [9, 23, 0]), (.ifCond .ne 23, [1]), (.aload_n 0, []), (.getfield 157, [9, 21, 0]), (.iconst 3, []), (.if_icmp .ne 15, [1]), (.aload_n 0, []), (.getfield 167, [9, 22, 0]), (.iload_n 1, []), (.if_icmp .ne 7, [1]), (.iconst 1, []), (.goto 4, [2])], 0),
  (27, [], [(.iconst 0, [])], 2),
  (28, [], [(.ireturn, [])], 0)]
def mt_165 : Nat × Nat × List jB := (2, 2, k_M_isSign)
set_option maxRecDepth 100000 in
theorem ck_165 : jok jm_165 mt_165 = true := by decide +kernel
def k_M_goOn : List jB := [
  (0, [0], [(.aload_n 0, []), (.getfield 192, [9, 23, 0]), (.ifCond .ne 7, [1]), (.aload_n 0, []), (.invokevirtual 198, [159, 0, 9, 0])], 1),
  (11, [], [(.return_, [])], 0)]
def mt_166 : Nat × Nat × List jB := (0, 1, k_M_goOn)
set_option maxRecDepth 100000 in
theorem ck_166 : jok jm_166 mt_166 = true := by decide +kernel
def k_M_numeral : List jB := [
  (0, [0, 1, 2], [(.aload_n 0, []), (.getfield 192, [9, 23, 0]), (.ifCond .eq 5, [1]), (.iload_n 1, []), (.ireturn, [])], 0),
  (9, [0, 1, 2], [(.aload_n 0, []), (.getfield 157, [9, 21, 0]), (.iconst 2, []), (.if_icmp .eq 11, [2]), (.aload_n 0, []), (.iconst 1, []), (.invokevirtual 201, [163, 1, 9, 0]), (.goto 24, [4])], 0),
  (25, [0, 1, 2], [(.aload_n 0, []), (.getfield 167, [9, 22, 0]), (.iload_n 1, []), (.if_icmp .lt 11, [3]), (.aload_n 0, []), (.getfield 167, [9, 22, 0]), (.iload_n 2, []), (.if_icmp .le 8, [4])], 3),
  (41, [0, 1], [(.aload_n 0, []), (.iconst 2, []), (.invokevirtual 201, [163, 1, 9, 0])], 4),
  (46, [0, 1], [(.aload_n 0, []), (.getfield 192, [9, 23, 0]), (.ifCond .eq 5, [5]), (.iload_n 1, []), (.ireturn, [])], 0),
  (55, [0], [(.aload_n 0, []), (.getfield 167, [9, 22, 0]), (.istore_n 3, []), (.aload_n 0, []), (.invokevirtual 198, [159, 0, 9, 0]), (.iload_n 3, []), (.ireturn, [])], 0)]
def mt_167 : Nat × Nat × List jB := (1, 4, k_M_numeral)
set_option maxRecDepth 100000 in
theorem ck_167 : jok jm_167 mt_167 = true := by decide +kernel
def k_M_found : List jB := [
  (0, [0, 1, 2, 3], [(.iconst 0, []), (.istore 4, [])], 1),
  (3, [0, 1, 2, 3, 4], [(.iload 4, []), (.iload_n 2, []), (.if_icmp .ge 22, [3]), (.aload_n 0, []), (.iload_n 1, []), (.iload 4, []), (.iadd, []), (.iaload, []), (.iload_n 3, []), (.if_icmp .ne 6, [2]), (.iload 4, []), (.ireturn, [])], 0),
  (22, [0, 1, 2, 3, 4], [(.iinc 4 1, []), (.goto (-22), [1])], 0),
  (28, [], [(.iconst (-1), []), (.ireturn, [])], 0)]
def mt_168 : Nat × Nat × List jB := (1, 5, k_M_found)
set_option maxRecDepth 100000 in
theorem ck_168 : jok jm_168 mt_168 = true := by decide +kernel
def k_M_fresh : List jB := [
  (0, [0, 1, 2, 3], [(.aload_n 0, []), (.getfield 192, [9, 23, 0]), (.ifCond .eq 5, [1]), (.iconst 0, []), (.ireturn, [])], 0),
  (9, [0, 1, 2, 3], [(.aload_n 0, []), (.getfield 157, [9, 21, 0]), (.iconst 1, []), (.if_icmp .eq 11, [2]), (.aload_n 0, []), (.iconst 1, []), (.invokevirtual 201, [163, 1, 9, 0]), (.goto 22, [3])], 0),
  (25, [0, 1, 2, 3], [(.aload_n 1, []), (.iload_n 2, []), (.iload_n 3, []), (.aload_n 0, []), (.getfield 167, [9, 22, 0]), (.invokestatic 204, [168, 4, 1]), (.iconst (-1), []), (.if_icmp .eq 8, [3]), (.aload_n 0, []), (.iconst 3, []), (.invokevirtual 201, [163, 1, 9, 0])], 3),
  (44, [0], [(.aload_n 0, []), (.getfield 192, [9, 23, 0]), (.ifCond .eq 5, [4]), (.iconst 0, []), (.ireturn, [])], 0),
  (53, [0], [(.aload_n 0, []), (.getfield 167, [9, 22, 0]), (.istore 4, []), (.aload_n 0, []), (.invokevirtual 198, [159, 0, 9, 0]), (.iload 4, []), (.ireturn, [])], 0)]
def mt_169 : Nat × Nat × List jB := (1, 5, k_M_fresh)
set_option maxRecDepth 100000 in
theorem ck_169 : jok jm_169 mt_169 = true := by decide +kernel
def k_M_person : List jB := [
  (0, [0], [(.aload_n 0, []), (.getfield 192, [9, 23, 0]), (.ifCond .eq 5, [1]), (.iconst 0, []), (.ireturn, [])], 0),
  (9, [0], [(.aload_n 0, []), (.getfield 157, [9, 21, 0]), (.iconst 1, []), (.if_icmp .eq 11, [2]), (.aload_n 0, []), (.iconst 1, []), (.invokevirtual 201, [163, 1, 9, 0]), (.goto 30, [3])], 0),
  (25, [0], [(.aload_n 0, []), (.getfield 18, [9, 4, 4]), (.bipush 10, []), (.aload_n 0, []), (.iconst 0, []), (.invokevirtual 208, [171, 1, 9, 1]), (.aload_n 0, []), (.getfield 167, [9, 22, 0]), (.invokestatic 204, [168, 4, 1]), (.iconst (-1), []), (.if_icmp .ne 8, [3]), (.aload_n 0, []), (.iconst 4, []), (.invokevirtual 201, [163, 1, 9, 0])], 3),
  (52, [0], [(.aload_n 0, []), (.getfield 192, [9, 23, 0]), (.ifCond .eq 7, [4]), (.iconst 0, []), (.goto 21, [5])], 0),
  (63, [0], [(.aload_n 0, []), (.getfield 18, [9, 4, 4]), (.bipush 10, []), (.aload_n 0, []), (.iconst 0, []), (.invokevirtual 208, [171, 1, 9, 1]), (.aload_n 0, []), (.getfield 167, [9, 22, 0]), (.invokestatic 204, [168, 4, 1])], 5),
  (81, [], [(.ireturn, [])], 0)]
def mt_170 : Nat × Nat × List jB := (1, 1, k_M_person)
set_option maxRecDepth 100000 in
theorem ck_170 : jok jm_170 mt_170 = true := by decide +kernel
def k_M_fresher : List jB := [
  (0, [0, 1], [(.aload_n 0, []), (.getfield 15, [9, 3, 4]), (.iconst 4, []), (.iload_n 1, []), (.iadd, []), (.iaload, []), (.ireturn, [])], 0)]
def mt_171 : Nat × Nat × List jB := (1, 2, k_M_fresher)
set_option maxRecDepth 100000 in
theorem ck_171 : jok jm_171 mt_171 = true := by decide +kernel
def k_M_oneMore : List jB := [
  (0, [0, 1], [(.aload_n 0, []), (.getfield 15, [9, 3, 4]), (.iconst 4, []), (.iload_n 1, []), (.iadd, []), (.dup2, []), (.iaload, []), (.iconst 1, []), (.iadd, []), (.iastore, []), (.return_, [])], 0)]
def mt_172 : Nat × Nat × List jB := (0, 2, k_M_oneMore)
set_option maxRecDepth 100000 in
theorem ck_172 : jok jm_172 mt_172 = true := by decide +kernel
def k_M_line : List jB := [
  (0, [0], [(.aload_n 0, []), (.getfield 157, [9, 21, 0]), (.ifCond .ne 11, [1]), (.aload_n 0, []), (.getfield 167, [9, 22, 0]), (.iconst 4, []), (.if_icmp .le 9, [2])], 1),
  (15, [0], [(.aload_n 0, []), (.iconst 1, []), (.invokevirtual 201, [163, 1, 9, 0]), (.return_, [])], 0),
  (21, [0], [(.aload_n 0, []), (.getfield 167, [9, 22, 0]), (.istore_n 1, []), (.iload_n 1, []), (.ifCond .ne 13, [3]), (.aload_n 0, []), (.iconst 0, []), (.invokevirtual 208, [171, 1, 9, 1]), (.bipush 10, []), (.if_icmp .eq 32, [5])], 3),
  (40, [0, 1], [(.iload_n 1, []), (.iconst 2, []), (.if_icmp .ne 13, [4]), (.aload_n 0, []), (.iconst 1, []), (.invokevirtual 208, [171, 1, 9, 1]), (.bipush 12, []), (.if_icmp .eq 17, [5])], 4),
  (55, [0, 1], [(.iload_n 1, []), (.iconst 4, []), (.if_icmp .ne 20, [6]), (.aload_n 0, []), (.iconst 2, []), (.invokevirtual 208, [171, 1, 9, 1]), (.iconst 4, []), (.if_icmp .ne 11, [6])], 5),
  (69, [0, 1], [(.aload_n 0, []), (.iconst 2, []), (.invokevirtual 201, [163, 1, 9, 0]), (.goto 20, [7])], 0),
  (77, [0, 1], [(.iload_n 1, []), (.iconst 3, []), (.if_icmp .ne 15, [7]), (.aload_n 0, []), (.getfield 212, [9, 29, 1]), (.ifCond .eq 8, [7]), (.aload_n 0, []), (.iconst 3, []), (.invokevirtual 201, [163, 1, 9, 0])], 7),
  (94, [0, 1], [(.aload_n 0, []), (.getfield 192, [9, 23, 0]), (.ifCond .eq 4, [8]), (.return_, [])], 0),
  (102, [0, 1], [(.aload_n 0, []), (.invokevirtual 198, [159, 0, 9, 0]), (.iload_n 1, []), (.tableswitch 100 0 3 #[29, 44, 51, 66], [13, 9, 10, 11, 12])], 0),
  (136, [0], [(.aload_n 0, []), (.bipush 10, []), (.aload_n 0, []), (.iconst 0, []), (.invokevirtual 208, [171, 1, 9, 1]), (.iadd, []), (.invokevirtual 216, [174, 1, 9, 0]), (.goto 120, [14])], 0),
  (151, [0], [(.aload_n 0, []), (.invokevirtual 219, [175, 0, 9, 0]), (.goto 113, [14])], 0),
  (158, [0], [(.aload_n 0, []), (.bipush 12, []), (.aload_n 0, []), (.iconst 1, []), (.invokevirtual 208, [171, 1, 9, 1]), (.iadd, []), (.invokevirtual 222, [177, 1, 9, 0]), (.goto 98, [14])], 0),
  (173, [0], [(.aload_n 0, []), (.iconst 1, []), (.putfield 212, [9, 29, 1]), (.aload_n 0, []), (.getfield 45, [9, 13, 4]), (.iconst 5, []), (.aload_n 0, []), (.iconst 3, []), (.invokevirtual 208, [171, 1, 9, 1]), (.iastore, []), (.aload_n 0, []), (.invokevirtual 225, [180, 0, 9, 0]), (.aload_n 0, []), (.getfield 48, [9, 14, 4]), (.iconst 5, []), (.aload_n 0, []), (.iconst 3, []), (.invokevirtual 208, [171, 1, 9, 1]), (.iastore, []), (.goto 64, [14])], 0),
  (207, [0], [(.aload_n 0, []), (.iconst 2, []), (.invokevirtual 208, [171, 1, 9, 1]), (.istore_n 2, []), (.aload_n 0, []), (.getfield 42, [9, 12, 4]), (.iconst 4, []), (.iload_n 2, []), (.iadd, []), (.aload_n 0, []), (.aload_n 0, []), (.getfield 42, [9, 12, 4]), (.iconst 4, []), (.iload_n 2, []), (.invokevirtual 228, [169, 3, 9, 1]), (.iastore, []), (.aload_n 0, []), (.getfield 45, [9, 13, 4]), (.bipush 6, []), (.iload_n 2, []), (.iadd, []), (.aload_n 0, []), (.iconst 3, []), (.invokevirtual 208, [171, 1, 9, 1]), (.iastore, []), (.aload_n 0, []), (.invokevirtual 225, [180, 0, 9, 0]), (.aload_n 0, []), (.getfield 48, [9, 14, 4]), (.bipush 6, []), (.iload_n 2, []), (.iadd, []), (.aload_n 0, []), (.iconst 3, []), (.invokevirtual 208, [171, 1, 9, 1]), (.iastore, []), (.aload_n 0, []), (.iconst 2, []), (.invokevirtual 232, [172, 1, 9, 0])], 14),
  (268, [0], [(.aload_n 0, []), (.getfield 192, [9, 23, 0]), (.ifCond .eq 4, [15]), (.return_, [])], 0),
  (276, [0], [(.aload_n 0, []), (.bipush 59, []), (.invokevirtual 235, [165, 1, 9, 1]), (.ifCond .ne 11, [16]), (.aload_n 0, []), (.iconst 1, []), (.invokevirtual 201, [163, 1, 9, 0]), (.goto 7, [17])], 0),
  (293, [0], [(.aload_n 0, []), (.invokevirtual 198, [159, 0, 9, 0])], 17),
  (297, [0], [(.aload_n 0, []), (.dup, []), (.getfield 238, [9, 17, 0]), (.iconst 1, []), (.iadd, []), (.putfield 238, [9, 17, 0]), (.return_, [])], 0)]
def mt_173 : Nat × Nat × List jB := (0, 3, k_M_line)
set_option maxRecDepth 100000 in
theorem ck_173 : jok jm_173 mt_173 = true := by decide +kernel
def k_M_personLine : List jB := [
  (0, [0, 1], [(.aload_n 0, []), (.getfield 18, [9, 4, 4]), (.iload_n 1, []), (.aload_n 0, []), (.aload_n 0, []), (.getfield 18, [9, 4, 4]), (.bipush 10, []), (.aload_n 0, []), (.iconst 0, []), (.invokevirtual 208, [171, 1, 9, 1]), (.invokevirtual 228, [169, 3, 9, 1]), (.iastore, []), (.aload_n 0, []), (.getfield 21, [9, 5, 4]), (.iload_n 1, []), (.aload_n 0, []), (.iconst 0, []), (.bipush 99, []), (.invokevirtual 241, [167, 2, 9, 1]), (.iastore, []), (.aload_n 0, []), (.getfield 24, [9, 6, 4]), (.iload_n 1, []), (.iconst 0, []), (.iastore, []), (.aload_n 0, []), (.getfield 27, [9, 7, 4]), (.iload_n 1, []), (.iconst 0, []), (.iastore, []), (.aload_n 0, []), (.iconst 5, []), (.invokevirtual 245, [164, 1, 9, 1]), (.ifCond .eq 20, [1]), (.aload_n 0, []), (.invokevirtual 198, [159, 0, 9, 0]), (.aload_n 0, []), (.getfield 24, [9, 6, 4]), (.iload_n 1, []), (.aload_n 0, []), (.iconst 0, []), (.ldc 176, [99999]), (.invokevirtual 241, [167, 2, 9, 1]), (.iastore, [])], 1),
  (73, [0], [(.aload_n 0, []), (.iconst 0, []), (.invokevirtual 232, [172, 1, 9, 0]), (.return_, [])], 0)]
def mt_174 : Nat × Nat × List jB := (0, 2, k_M_personLine)
set_option maxRecDepth 100000 in
theorem ck_174 : jok jm_174 mt_174 = true := by decide +kernel
def k_M_handsLine : List jB := [
  (0, [0], [(.aload_n 0, []), (.invokevirtual 248, [170, 0, 9, 1]), (.istore_n 1, []), (.aload_n 0, []), (.getfield 192, [9, 23, 0]), (.ifCond .ne 20, [1]), (.aload_n 0, []), (.getfield 27, [9, 7, 4]), (.bipush 10, []), (.iload_n 1, []), (.iadd, []), (.iaload, []), (.ifCond .le 8, [1]), (.aload_n 0, []), (.iconst 3, []), (.invokevirtual 201, [163, 1, 9, 0])], 1),
  (29, [0, 1], [(.aload_n 0, []), (.invokevirtual 251, [166, 0, 9, 0]), (.aload_n 0, []), (.getfield 192, [9, 23, 0]), (.ifCond .ne 17, [2]), (.aload_n 0, []), (.bipush 6, []), (.invokevirtual 245, [164, 1, 9, 1]), (.ifCond .ne 8, [2]), (.aload_n 0, []), (.iconst 1, []), (.invokevirtual 201, [163, 1, 9, 0])], 2),
  (54, [0, 1], [(.aload_n 0, []), (.getfield 192, [9, 23, 0]), (.ifCond .ne 7, [3]), (.iconst 1, []), (.goto 4, [4])], 0),
  (65, [0, 1], [(.iconst 0, [])], 4),
  (66, [0, 1], [(.istore_n 2, [])], 5),
  (67, [0, 1, 2], [(.iload_n 2, []), (.ifCond .eq 22, [6]), (.aload_n 0, []), (.invokevirtual 198, [159, 0, 9, 0]), (.aload_n 0, []), (.iload_n 1, []), (.invokevirtual 254, [176, 1, 9, 0]), (.aload_n 0, []), (.bipush 7, []), (.invokevirtual 245, [164, 1, 9, 1]), (.istore_n 2, []), (.goto (-20), [5])], 0),
  (90, [], [(.return_, [])], 0)]
def mt_175 : Nat × Nat × List jB := (0, 3, k_M_handsLine)
set_option maxRecDepth 100000 in
theorem ck_175 : jok jm_175 mt_175 = true := by decide +kernel
def k_M_handsOne : List jB := [
  (0, [0, 1], [(.aload_n 0, []), (.getfield 27, [9, 7, 4]), (.bipush 10, []), (.iload_n 1, []), (.iadd, []), (.iaload, []), (.istore_n 2, []), (.aload_n 0, []), (.getfield 157, [9, 21, 0]), (.iconst 1, []), (.if_icmp .ne 13, [1]), (.iload_n 2, []), (.iconst 3, []), (.if_icmp .ne 8, [1]), (.aload_n 0, []), (.iconst 2, []), (.invokevirtual 201, [163, 1, 9, 0])], 1),
  (28, [0, 1, 2], [(.aload_n 0, []), (.invokevirtual 248, [170, 0, 9, 1]), (.istore_n 3, []), (.iconst 0, []), (.istore 4, [])], 2),
  (36, [0, 1, 2, 3, 4], [(.iload 4, []), (.iload_n 2, []), (.if_icmp .ge 39, [4]), (.aload_n 0, []), (.getfield 192, [9, 23, 0]), (.ifCond .ne 26, [3]), (.aload_n 0, []), (.getfield 30, [9, 8, 4]), (.iconst 3, []), (.bipush 10, []), (.iload_n 1, []), (.iadd, []), (.imul, []), (.iload 4, []), (.iadd, []), (.iaload, []), (.iload_n 3, []), (.if_icmp .ne 8, [3]), (.aload_n 0, []), (.iconst 3, []), (.invokevirtual 201, [163, 1, 9, 0])], 3),
  (72, [0, 1, 2, 3, 4], [(.iinc 4 1, []), (.goto (-39), [2])], 0),
  (78, [0, 1, 2, 3], [(.aload_n 0, []), (.getfield 192, [9, 23, 0]), (.ifCond .ne 13, [5]), (.iload_n 3, []), (.iload_n 1, []), (.if_icmp .ne 8, [5]), (.aload_n 0, []), (.iconst 5, []), (.invokevirtual 201, [163, 1, 9, 0])], 5),
  (95, [0, 1, 2, 3], [(.aload_n 0, []), (.getfield 192, [9, 23, 0]), (.ifCond .eq 4, [6]), (.return_, [])], 0),
  (103, [0, 1, 2, 3], [(.aload_n 0, []), (.getfield 30, [9, 8, 4]), (.iconst 3, []), (.bipush 10, []), (.iload_n 1, []), (.iadd, []), (.imul, []), (.iload_n 2, []), (.iadd, []), (.iload_n 3, []), (.iastore, []), (.aload_n 0, []), (.getfield 27, [9, 7, 4]), (.bipush 10, []), (.iload_n 1, []), (.iadd, []), (.dup2, []), (.iaload, []), (.iconst 1, []), (.iadd, []), (.iastore, []), (.aload_n 0, []), (.invokevirtual 198, [159, 0, 9, 0]), (.return_, [])], 0)]
def mt_176 : Nat × Nat × List jB := (0, 5, k_M_handsOne)
set_option maxRecDepth 100000 in
theorem ck_176 : jok jm_176 mt_176 = true := by decide +kernel
def k_M_parcelLine : List jB := [
  (0, [0, 1], [(.aload_n 0, []), (.getfield 33, [9, 9, 4]), (.iload_n 1, []), (.aload_n 0, []), (.invokevirtual 248, [170, 0, 9, 1]), (.iastore, []), (.aload_n 0, []), (.invokevirtual 251, [166, 0, 9, 0]), (.aload_n 0, []), (.getfield 36, [9, 10, 4]), (.iload_n 1, []), (.aload_n 0, []), (.iconst 1, []), (.ldc 176, [99999]), (.invokevirtual 241, [167, 2, 9, 1]), (.iastore, []), (.aload_n 0, []), (.getfield 39, [9, 11, 4]), (.iload_n 1, []), (.aload_n 0, []), (.iconst 0, []), (.sipush 999, []), (.invokevirtual 241, [167, 2, 9, 1]), (.iastore, []), (.aload_n 0, []), (.iconst 1, []), (.invokevirtual 232, [172, 1, 9, 0]), (.return_, [])], 0)]
def mt_177 : Nat × Nat × List jB := (0, 2, k_M_parcelLine)
set_option maxRecDepth 100000 in
theorem ck_177 : jok jm_177 mt_177 = true := by decide +kernel
def k_M_puts : List jB := [
  (0, [0, 1, 2], [(.aload_n 0, []), (.getfield 192, [9, 23, 0]), (.ifCond .eq 4, [1]), (.return_, [])], 0),
  (8, [0, 1, 2], [(.aload_n 0, []), (.getfield 51, [9, 15, 4]), (.bipush 64, []), (.aload_n 0, []), (.iconst 3, []), (.invokevirtual 208, [171, 1, 9, 1]), (.iadd, []), (.iload_n 1, []), (.iastore, []), (.aload_n 0, []), (.getfield 54, [9, 16, 4]), (.bipush 64, []), (.aload_n 0, []), (.iconst 3, []), (.invokevirtual 208, [171, 1, 9, 1]), (.iadd, []), (.iload_n 2, []), (.iastore, []), (.aload_n 0, []), (.iconst 3, []), (.invokevirtual 232, [172, 1, 9, 0]), (.return_, [])], 0)]
def mt_178 : Nat × Nat × List jB := (0, 3, k_M_puts)
set_option maxRecDepth 100000 in
theorem ck_178 : jok jm_178 mt_178 = true := by decide +kernel
def k_M_knot : List jB := [
  (0, [0], [(.aload_n 0, []), (.getfield 192, [9, 23, 0]), (.ifCond .eq 4, [1]), (.return_, [])], 0),
  (8, [0], [(.aload_n 0, []), (.getfield 257, [9, 28, 0]), (.bipush 64, []), (.if_icmp .ne 11, [2]), (.aload_n 0, []), (.iconst 2, []), (.invokevirtual 201, [163, 1, 9, 0]), (.goto 13, [3])], 0),
  (25, [0], [(.aload_n 0, []), (.dup, []), (.getfield 257, [9, 28, 0]), (.iconst 1, []), (.iadd, []), (.putfield 257, [9, 28, 0])], 3),
  (35, [], [(.return_, [])], 0)]
def mt_179 : Nat × Nat × List jB := (0, 1, k_M_knot)
set_option maxRecDepth 100000 in
theorem ck_179 : jok jm_179 mt_179 = true := by decide +kernel
def k_M_expression : List jB := [
  (0, [0], [(.aload_n 0, []), (.invokevirtual 260, [181, 0, 9, 0])], 1),
  (4, [0], [(.aload_n 0, []), (.bipush 7, []), (.invokevirtual 245, [164, 1, 9, 1]), (.ifCond .eq 26, [2]), (.aload_n 0, []), (.invokevirtual 263, [179, 0, 9, 0]), (.aload_n 0, []), (.invokevirtual 251, [166, 0, 9, 0]), (.aload_n 0, []), (.invokevirtual 260, [181, 0, 9, 0]), (.aload_n 0, []), (.iconst 2, []), (.sipush 262, []), (.invokevirtual 266, [178, 2, 9, 0]), (.goto (-29), [1])], 0),
  (36, [], [(.return_, [])], 0)]
def mt_180 : Nat × Nat × List jB := (0, 1, k_M_expression)
set_option maxRecDepth 100000 in
theorem ck_180 : jok jm_180 mt_180 = true := by decide +kernel
def k_M_conjunction : List jB := [
  (0, [0], [(.aload_n 0, []), (.invokevirtual 270, [182, 0, 9, 0])], 1),
  (4, [0], [(.aload_n 0, []), (.bipush 8, []), (.invokevirtual 245, [164, 1, 9, 1]), (.ifCond .eq 26, [2]), (.aload_n 0, []), (.invokevirtual 263, [179, 0, 9, 0]), (.aload_n 0, []), (.invokevirtual 251, [166, 0, 9, 0]), (.aload_n 0, []), (.invokevirtual 270, [182, 0, 9, 0]), (.aload_n 0, []), (.iconst 2, []), (.sipush 261, []), (.invokevirtual 266, [178, 2, 9, 0]), (.goto (-29), [1])], 0),
  (36, [], [(.return_, [])], 0)]
def mt_181 : Nat × Nat × List jB := (0, 1, k_M_conjunction)
set_option maxRecDepth 100000 in
theorem ck_181 : jok jm_181 mt_181 = true := by decide +kernel
def k_M_negation : List jB := [
  (0, [0], [(.aload_n 0, []), (.bipush 9, []), (.invokevirtual 245, [164, 1, 9, 1]), (.ifCond .eq 24, [1]), (.aload_n 0, []), (.invokevirtual 263, [179, 0, 9, 0]), (.aload_n 0, []), (.invokevirtual 251, [166, 0, 9, 0]), (.aload_n 0, []), (.invokevirtual 270, [182, 0, 9, 0]), (.aload_n 0, []), (.iconst 2, []), (.sipush 260, []), (.invokevirtual 266, [178, 2, 9, 0]), (.return_, [])], 0),
  (30, [0], [(.aload_n 0, []), (.invokevirtual 273, [183, 0, 9, 0]), (.aload_n 0, []), (.getfield 192, [9, 23, 0]), (.ifCond .ne 48, [2]), (.aload_n 0, []), (.getfield 157, [9, 21, 0]), (.iconst 3, []), (.if_icmp .ne 40, [2]), (.aload_n 0, []), (.getfield 167, [9, 22, 0]), (.bipush 60, []), (.if_icmp .eq 32, [3]), (.aload_n 0, []), (.getfield 167, [9, 22, 0]), (.bipush 62, []), (.if_icmp .eq 23, [3]), (.aload_n 0, []), (.getfield 167, [9, 22, 0]), (.bipush 61, []), (.if_icmp .eq 14, [3]), (.aload_n 0, []), (.getfield 167, [9, 22, 0]), (.sipush 256, []), (.if_icmp .ge 4, [3])], 2),
  (86, [], [(.return_, [])], 0),
  (87, [0], [(.aload_n 0, []), (.getfield 167, [9, 22, 0]), (.istore_n 1, []), (.aload_n 0, []), (.invokevirtual 263, [179, 0, 9, 0]), (.aload_n 0, []), (.invokevirtual 251, [166, 0, 9, 0]), (.aload_n 0, []), (.invokevirtual 273, [183, 0, 9, 0]), (.aload_n 0, []), (.iconst 2, []), (.iload_n 1, []), (.invokevirtual 266, [178, 2, 9, 0]), (.return_, [])], 0)]
def mt_182 : Nat × Nat × List jB := (0, 2, k_M_negation)
set_option maxRecDepth 100000 in
theorem ck_182 : jok jm_182 mt_182 = true := by decide +kernel
def k_M_sum : List jB := [
  (0, [0], [(.aload_n 0, []), (.invokevirtual 276, [184, 0, 9, 0])], 1),
  (4, [0], [(.aload_n 0, []), (.bipush 43, []), (.invokevirtual 235, [165, 1, 9, 1]), (.ifCond .ne 12, [2]), (.aload_n 0, []), (.bipush 45, []), (.invokevirtual 235, [165, 1, 9, 1]), (.ifCond .eq 29, [3])], 2),
  (22, [0], [(.aload_n 0, []), (.getfield 167, [9, 22, 0]), (.istore_n 1, []), (.aload_n 0, []), (.invokevirtual 263, [179, 0, 9, 0]), (.aload_n 0, []), (.invokevirtual 251, [166, 0, 9, 0]), (.aload_n 0, []), (.invokevirtual 276, [184, 0, 9, 0]), (.aload_n 0, []), (.iconst 2, []), (.iload_n 1, []), (.invokevirtual 266, [178, 2, 9, 0]), (.goto (-41), [1])], 0),
  (48, [], [(.return_, [])], 0)]
def mt_183 : Nat × Nat × List jB := (0, 2, k_M_sum)
set_option maxRecDepth 100000 in
theorem ck_183 : jok jm_183 mt_183 = true := by decide +kernel
def k_M_product : List jB := [
  (0, [0], [(.aload_n 0, []), (.invokevirtual 279, [185, 0, 9, 0])], 1),
  (4, [0], [(.aload_n 0, []), (.bipush 42, []), (.invokevirtual 235, [165, 1, 9, 1]), (.ifCond .ne 21, [2]), (.aload_n 0, []), (.bipush 47, []), (.invokevirtual 235, [165, 1, 9, 1]), (.ifCond .ne 12, [2]), (.aload_n 0, []), (.bipush 37, []), (.invokevirtual 235, [165, 1, 9, 1]), (.ifCond .eq 29, [3])], 2),
  (31, [0], [(.aload_n 0, []), (.getfield 167, [9, 22, 0]), (.istore_n 1, []), (.aload_n 0, []), (.invokevirtual 263, [179, 0, 9, 0]), (.aload_n 0, []), (.invokevirtual 251, [166, 0, 9, 0]), (.aload_n 0, []), (.invokevirtual 279, [185, 0, 9, 0]), (.aload_n 0, []), (.iconst 2, []), (.iload_n 1, []), (.invokevirtual 266, [178, 2, 9, 0]), (.goto (-50), [1])], 0),
  (57, [], [(.return_, [])], 0)]
def mt_184 : Nat × Nat × List jB := (0, 2, k_M_product)
set_option maxRecDepth 100000 in
theorem ck_184 : jok jm_184 mt_184 = true := by decide +kernel
def k_M_primary : List jB := [
  (0, [0], [(.aload_n 0, []), (.getfield 192, [9, 23, 0]), (.ifCond .eq 4, [1]), (.return_, [])], 0),
  (8, [0], [(.aload_n 0, []), (.bipush 40, []), (.invokevirtual 235, [165, 1, 9, 1]), (.ifCond .eq 87, [6]), (.aload_n 0, []), (.getfield 282, [9, 27, 0]), (.bipush 8, []), (.if_icmp .ne 8, [2]), (.aload_n 0, []), (.iconst 2, []), (.invokevirtual 201, [163, 1, 9, 0])], 2),
  (31, [0], [(.aload_n 0, []), (.getfield 192, [9, 23, 0]), (.ifCond .eq 4, [3]), (.return_, [])], 0),
  (39, [0], [(.aload_n 0, []), (.dup, []), (.getfield 282, [9, 27, 0]), (.iconst 1, []), (.iadd, []), (.putfield 282, [9, 27, 0]), (.aload_n 0, []), (.invokevirtual 198, [159, 0, 9, 0]), (.aload_n 0, []), (.invokevirtual 225, [180, 0, 9, 0]), (.aload_n 0, []), (.getfield 192, [9, 23, 0]), (.ifCond .ne 17, [4]), (.aload_n 0, []), (.bipush 41, []), (.invokevirtual 235, [165, 1, 9, 1]), (.ifCond .ne 8, [4]), (.aload_n 0, []), (.iconst 1, []), (.invokevirtual 201, [163, 1, 9, 0])], 4),
  (78, [0], [(.aload_n 0, []), (.getfield 192, [9, 23, 0]), (.ifCond .eq 4, [5]), (.return_, [])], 0),
  (86, [0], [(.aload_n 0, []), (.dup, []), (.getfield 282, [9, 27, 0]), (.iconst 1, []), (.isub, []), (.putfield 282, [9, 27, 0]), (.aload_n 0, []), (.invokevirtual 198, [159, 0, 9, 0]), (.return_, [])], 0),
  (101, [0], [(.aload_n 0, []), (.getfield 157, [9, 21, 0]), (.iconst 2, []), (.if_icmp .ne 7, [7]), (.iconst 1, []), (.goto 4, [8])], 0),
  (113, [0], [(.iconst 0, [])], 8),
  (114, [0], [(.istore_n 1, []), (.iload_n 1, []), (.ifCond .eq 21, [9]), (.aload_n 0, []), (.getfield 167, [9, 22, 0]), (.sipush 9999, []), (.if_icmp .le 11, [9]), (.aload_n 0, []), (.iconst 2, []), (.invokevirtual 201, [163, 1, 9, 0]), (.goto 28, [11])], 0),
  (137, [0, 1], [(.iload_n 1, []), (.ifCond .ne 24, [11]), (.aload_n 0, []), (.getfield 157, [9, 21, 0]), (.ifCond .ne 12, [10]), (.aload_n 0, []), (.getfield 167, [9, 22, 0]), (.bipush 10, []), (.if_icmp .ge 8, [11])], 10),
  (157, [0, 1], [(.aload_n 0, []), (.iconst 1, []), (.invokevirtual 201, [163, 1, 9, 0])], 11),
  (162, [0, 1], [(.aload_n 0, []), (.invokevirtual 263, [179, 0, 9, 0]), (.aload_n 0, []), (.iload_n 1, []), (.ifCond .eq 7, [12]), (.iconst 0, []), (.goto 4, [13])], 0),
  (175, [0, 1], [(.iconst 1, [])], 13),
  (176, [0, 1], [(.iload_n 1, []), (.ifCond .eq 10, [14]), (.aload_n 0, []), (.getfield 167, [9, 22, 0]), (.goto 10, [15])], 0),
  (187, [0], [(.aload_n 0, []), (.getfield 167, [9, 22, 0]), (.bipush 10, []), (.isub, [])], 15),
  (194, [0], [(.invokevirtual 266, [178, 2, 9, 0]), (.aload_n 0, []), (.invokevirtual 251, [166, 0, 9, 0]), (.return_, [])], 0)]
def mt_185 : Nat × Nat × List jB := (0, 2, k_M_primary)
set_option maxRecDepth 100000 in
theorem ck_185 : jok jm_185 mt_185 = true := by decide +kernel
