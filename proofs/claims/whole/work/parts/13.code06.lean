/-! The methods' blocks, held against their bytes. Printed by wip/gen/code.py. -/
def k_M_keep : List jB := [
  (0, [0], [(.aload_n 0, []), (.iconst 0, []), (.putfield 138, [9, 0, 0]), (.aload_n 0, []), (.iconst 2, []), (.iconst 0, []), (.invokevirtual 388, [202, 2, 9, 0]), (.aload_n 0, []), (.aload_n 0, []), (.getfield 301, [9, 36, 0]), (.putfield 517, [9, 47, 0]), (.iconst 0, []), (.istore_n 1, [])], 1),
  (21, [0, 1], [(.iload_n 1, []), (.aload_n 0, []), (.getfield 301, [9, 36, 0]), (.if_icmp .ge 45, [2]), (.aload_n 0, []), (.getfield 129, [9, 77, 4]), (.iload_n 1, []), (.aload_n 0, []), (.getfield 68, [9, 37, 4]), (.iload_n 1, []), (.iaload, []), (.iastore, []), (.aload_n 0, []), (.getfield 132, [9, 78, 4]), (.iload_n 1, []), (.aload_n 0, []), (.getfield 71, [9, 38, 4]), (.iload_n 1, []), (.iaload, []), (.iastore, []), (.aload_n 0, []), (.getfield 135, [9, 79, 4]), (.iload_n 1, []), (.aload_n 0, []), (.getfield 74, [9, 39, 4]), (.iload_n 1, []), (.iaload, []), (.iastore, []), (.iinc 1 1, []), (.goto (-47), [1])], 0),
  (71, [0], [(.aload_n 0, []), (.iconst 1, []), (.putfield 298, [9, 48, 1]), (.aload_n 0, []), (.getfield 77, [9, 40, 4]), (.iconst 0, []), (.iaload, []), (.ireturn, [])], 0)]
def mt_252 : Nat × Nat × List jB := (1, 2, k_M_keep)
set_option maxRecDepth 100000 in
theorem ck_252 : jok jm_252 mt_252 = true := by decide +kernel
def k_M_again : List jB := [
  (0, [0], [(.aload_n 0, []), (.iconst 0, []), (.putfield 138, [9, 0, 0]), (.aload_n 0, []), (.getfield 298, [9, 48, 1]), (.ifCond .ne 5, [1]), (.iconst (-1), []), (.ireturn, [])], 0),
  (14, [0], [(.aload_n 0, []), (.iconst 0, []), (.iconst 2, []), (.invokevirtual 388, [202, 2, 9, 0]), (.aload_n 0, []), (.aload_n 0, []), (.getfield 517, [9, 47, 0]), (.putfield 301, [9, 36, 0]), (.iconst 0, []), (.istore_n 1, [])], 2),
  (30, [0, 1], [(.iload_n 1, []), (.aload_n 0, []), (.getfield 301, [9, 36, 0]), (.if_icmp .ge 45, [3]), (.aload_n 0, []), (.getfield 68, [9, 37, 4]), (.iload_n 1, []), (.aload_n 0, []), (.getfield 129, [9, 77, 4]), (.iload_n 1, []), (.iaload, []), (.iastore, []), (.aload_n 0, []), (.getfield 71, [9, 38, 4]), (.iload_n 1, []), (.aload_n 0, []), (.getfield 132, [9, 78, 4]), (.iload_n 1, []), (.iaload, []), (.iastore, []), (.aload_n 0, []), (.getfield 74, [9, 39, 4]), (.iload_n 1, []), (.aload_n 0, []), (.getfield 135, [9, 79, 4]), (.iload_n 1, []), (.iaload, []), (.iastore, []), (.iinc 1 1, []), (.goto (-47), [2])], 0),
  (80, [0], [(.aload_n 0, []), (.getfield 77, [9, 40, 4]), (.iconst 0, []), (.iaload, []), (.ireturn, [])], 0)]
def mt_253 : Nat × Nat × List jB := (1, 2, k_M_again)
set_option maxRecDepth 100000 in
theorem ck_253 : jok jm_253 mt_253 = true := by decide +kernel
def k_M_count : List jB := [
  (0, [0, 1], [(.aload_n 0, []), (.iconst 0, []), (.putfield 138, [9, 0, 0]), (.iconst 0, []), (.istore_n 2, []), (.iload_n 1, []), (.tableswitch 145 0 9 #[56, 63, 68, 75, 82, 89, 94, 99, 99, 138], [14, 1, 2, 3, 4, 5, 6, 7, 8, 8, 13])], 0),
  (64, [0], [(.aload_n 0, []), (.getfield 15, [9, 3, 4]), (.iconst 0, []), (.iaload, []), (.ireturn, [])], 0),
  (71, [0], [(.aload_n 0, []), (.getfield 301, [9, 36, 0]), (.ireturn, [])], 0),
  (76, [0], [(.aload_n 0, []), (.getfield 15, [9, 3, 4]), (.iconst 2, []), (.iaload, []), (.ireturn, [])], 0),
  (83, [0], [(.aload_n 0, []), (.getfield 15, [9, 3, 4]), (.iconst 3, []), (.iaload, []), (.ireturn, [])], 0),
  (90, [0], [(.aload_n 0, []), (.getfield 77, [9, 40, 4]), (.iconst 0, []), (.iaload, []), (.ireturn, [])], 0),
  (97, [0], [(.aload_n 0, []), (.getfield 295, [9, 69, 0]), (.ireturn, [])], 0),
  (102, [0], [(.aload_n 0, []), (.invokevirtual 507, [246, 0, 9, 1]), (.ireturn, [])], 0),
  (107, [0, 1, 2], [(.iconst 0, []), (.istore_n 3, [])], 9),
  (109, [0, 1, 2, 3], [(.iload_n 3, []), (.aload_n 0, []), (.getfield 301, [9, 36, 0]), (.if_icmp .ge 30, [12]), (.iload_n 2, []), (.aload_n 0, []), (.getfield 86, [9, 43, 4]), (.iload_n 3, []), (.iaload, []), (.iload_n 1, []), (.bipush 6, []), (.isub, []), (.if_icmp .ne 7, [10]), (.iconst 1, []), (.goto 4, [11])], 0),
  (135, [0, 1, 3], [(.iconst 0, [])], 11),
  (136, [0, 1, 3], [(.iadd, []), (.istore_n 2, []), (.iinc 3 1, []), (.goto (-32), [9])], 0),
  (144, [2], [(.iload_n 2, []), (.ireturn, [])], 0),
  (146, [0], [(.aload_n 0, []), (.getfield 15, [9, 3, 4]), (.iconst 1, []), (.iaload, []), (.ireturn, [])], 0),
  (153, [], [(.iconst (-1), []), (.ireturn, [])], 0)]
def mt_254 : Nat × Nat × List jB := (1, 4, k_M_count)
set_option maxRecDepth 100000 in
theorem ck_254 : jok jm_254 mt_254 = true := by decide +kernel
def k_Ji_bitCount : List jB := [
  (0, [0], [(.iload_n 0, []), (.iload_n 0, []), (.iconst 1, []), (.iushr, []), (.ldc_w 265, [1431655765]), (.iand, []), (.isub, []), (.istore_n 0, []), (.iload_n 0, []), (.ldc_w 266, [858993459]), (.iand, []), (.iload_n 0, []), (.iconst 2, []), (.iushr, []), (.ldc_w 266, [858993459]), (.iand, []), (.iadd, []), (.istore_n 0, []), (.iload_n 0, []), (.iload_n 0, []), (.iconst 4, []), (.iushr, []), (.iadd, []), (.ldc_w 267, [252645135]), (.iand, []), (.istore_n 0, []), (.iload_n 0, []), (.iload_n 0, []), (.bipush 8, []), (.iushr, []), (.iadd, []), (.istore_n 0, []), (.iload_n 0, []), (.iload_n 0, []), (.bipush 16, []), (.iushr, []), (.iadd, []), (.istore_n 0, []), (.iload_n 0, []), (.bipush 63, []), (.iand, []), (.ireturn, [])], 0)]
def mt_255 : Nat × Nat × List jB := (1, 1, k_Ji_bitCount)
set_option maxRecDepth 100000 in
theorem ck_255 : jok jm_255 mt_255 = true := by decide +kernel
def k_Ja_fill : List jB := [
  (0, [0, 1], [(.iconst 0, []), (.istore_n 2, []), (.aload_n 0, []), (.arraylength, []), (.istore_n 3, [])], 1),
  (5, [0, 1, 2, 3], [(.iload_n 2, []), (.iload_n 3, []), (.if_icmp .ge 13, [2]), (.aload_n 0, []), (.iload_n 2, []), (.iload_n 1, []), (.iastore, []), (.iinc 2 1, []), (.goto (-12), [1])], 0),
  (20, [], [(.return_, [])], 0)]
def mt_256 : Nat × Nat × List jB := (0, 4, k_Ja_fill)
set_option maxRecDepth 100000 in
theorem ck_256 : jok jm_256 mt_256 = true := by decide +kernel
