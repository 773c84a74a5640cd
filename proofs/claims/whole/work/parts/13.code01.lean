/-! The methods' blocks, held against their bytes. Printed by wip/gen/code.py. -/
def k_Or_nearestBringing : List jB := [
  (0, [0, 1], [(.aload_n 0, []), (.iload_n 1, []), (.invokevirtual 104, [42, 1, 3, 1]), (.istore_n 2, []), (.iload_n 2, []), (.ifCond .lt 11, [1]), (.aload_n 0, []), (.iload_n 2, []), (.invokevirtual 97, [58, 1, 3, 2]), (.goto 6, [2])], 0),
  (18, [], [(.ldc2_w 101, [18446744073709551614])], 2),
  (21, [], [(.lreturn, [])], 0)]
def mt_43 : Nat × Nat × List jB := (3, 3, k_Or_nearestBringing)
set_option maxRecDepth 100000 in
theorem ck_43 : jok jm_43 mt_43 = true := by decide +kernel
def k_Or_gain : List jB := [
  (0, [0, 1, 2], [(.aload_n 0, []), (.iload_n 2, []), (.ifCond .eq 7, [1]), (.iconst 2, []), (.goto 4, [2])], 0),
  (9, [0, 1], [(.iconst 3, [])], 2),
  (10, [0, 1], [(.aload_n 0, []), (.iload_n 1, []), (.invokevirtual 107, [46, 1, 3, 1]), (.invokevirtual 91, [47, 2, 3, 1]), (.ireturn, [])], 0)]
def mt_44 : Nat × Nat × List jB := (1, 3, k_Or_gain)
set_option maxRecDepth 100000 in
theorem ck_44 : jok jm_44 mt_44 = true := by decide +kernel
def k_Or_gainPlace : List jB := [
  (0, [0, 1, 2], [(.aload_n 0, []), (.aload_n 0, []), (.iload_n 1, []), (.iload_n 2, []), (.invokevirtual 110, [44, 2, 3, 1]), (.invokevirtual 114, [59, 1, 3, 0]), (.aload_n 0, []), (.getfield 118, [3, 9, 0]), (.ireturn, [])], 0)]
def mt_45 : Nat × Nat × List jB := (1, 3, k_Or_gainPlace)
set_option maxRecDepth 100000 in
theorem ck_45 : jok jm_45 mt_45 = true := by decide +kernel
def k_Or_numberOf : List jB := [
  (0, [0, 1], [(.iconst 0, []), (.istore_n 2, [])], 1),
  (2, [0, 1, 2], [(.iload_n 2, []), (.aload_n 0, []), (.getfield 39, [3, 2, 0]), (.if_icmp .ge 21, [3]), (.aload_n 0, []), (.getfield 9, [3, 3, 4]), (.iload_n 2, []), (.iaload, []), (.iload_n 1, []), (.if_icmp .ne 5, [2]), (.iload_n 2, []), (.ireturn, [])], 0),
  (22, [0, 1, 2], [(.iinc 2 1, []), (.goto (-23), [1])], 0),
  (28, [], [(.iconst (-1), []), (.ireturn, [])], 0)]
def mt_46 : Nat × Nat × List jB := (1, 3, k_Or_numberOf)
set_option maxRecDepth 100000 in
theorem ck_46 : jok jm_46 mt_46 = true := by decide +kernel
def k_Or_solved : List jB := [
  (0, [0, 1, 2], [(.aload_n 0, []), (.iload_n 1, []), (.putfield 121, [3, 10, 0]), (.aload_n 0, []), (.iload_n 2, []), (.putfield 124, [3, 11, 0]), (.aload_n 0, []), (.invokevirtual 127, [48, 0, 3, 1]), (.istore_n 3, [])], 1),
  (15, [0, 3], [(.iload_n 3, []), (.ifCond .le 76, [5]), (.iconst 0, []), (.istore 4, [])], 2),
  (22, [0, 3, 4], [(.iload 4, []), (.aload_n 0, []), (.getfield 39, [3, 2, 0]), (.if_icmp .ge 58, [4]), (.iload_n 3, []), (.iload 4, []), (.invokestatic 131, [49, 2, 1]), (.ifCond .eq 43, [3]), (.aload_n 0, []), (.getfield 25, [3, 7, 4]), (.iload_n 3, []), (.iload 4, []), (.iconst 0, []), (.invokestatic 135, [50, 3, 1]), (.aload_n 0, []), (.iload_n 3, []), (.iload 4, []), (.iconst 0, []), (.invokevirtual 138, [51, 3, 3, 1]), (.iastore, []), (.aload_n 0, []), (.getfield 25, [3, 7, 4]), (.iload_n 3, []), (.iload 4, []), (.iconst 1, []), (.invokestatic 135, [50, 3, 1]), (.aload_n 0, []), (.iload_n 3, []), (.iload 4, []), (.iconst 1, []), (.invokevirtual 138, [51, 3, 3, 1]), (.iastore, [])], 3),
  (80, [0, 3, 4], [(.iinc 4 1, []), (.goto (-61), [2])], 0),
  (86, [0, 3], [(.iinc 3 (-1), []), (.goto (-74), [1])], 0),
  (92, [0], [(.aload_n 0, []), (.iconst 0, []), (.iconst 0, []), (.iconst 0, []), (.invokevirtual 138, [51, 3, 3, 1]), (.ireturn, [])], 0)]
def mt_47 : Nat × Nat × List jB := (1, 5, k_Or_solved)
set_option maxRecDepth 100000 in
theorem ck_47 : jok jm_47 mt_47 = true := by decide +kernel
def k_Or_everybody : List jB := [
  (0, [0], [(.iconst 1, []), (.aload_n 0, []), (.getfield 39, [3, 2, 0]), (.ishl, []), (.iconst 1, []), (.isub, []), (.ireturn, [])], 0)]
def mt_48 : Nat × Nat × List jB := (1, 1, k_Or_everybody)
set_option maxRecDepth 100000 in
theorem ck_48 : jok jm_48 mt_48 = true := by decide +kernel
def k_Or_has : List jB := [
  (0, [0, 1], [(.iload_n 0, []), (.iload_n 1, []), (.ishr, []), (.iconst 1, []), (.iand, []), (.ifCond .eq 7, [1]), (.iconst 1, []), (.goto 4, [2])], 0),
  (12, [], [(.iconst 0, [])], 2),
  (13, [], [(.ireturn, [])], 0)]
def mt_49 : Nat × Nat × List jB := (2, 2, k_Or_has)
set_option maxRecDepth 100000 in
theorem ck_49 : jok jm_49 mt_49 = true := by decide +kernel
def k_Or_state : List jB := [
  (0, [0, 1, 2], [(.iload_n 0, []), (.bipush 8, []), (.imul, []), (.iload_n 1, []), (.iadd, []), (.iconst 2, []), (.imul, []), (.iload_n 2, []), (.iadd, []), (.ireturn, [])], 0)]
def mt_50 : Nat × Nat × List jB := (1, 3, k_Or_state)
set_option maxRecDepth 100000 in
theorem ck_50 : jok jm_50 mt_50 = true := by decide +kernel
def k_Or_judged : List jB := [
  (0, [0, 1, 2, 3], [(.aload_n 0, []), (.getfield 18, [3, 5, 4]), (.iload_n 1, []), (.invokestatic 141, [255, 1, 1]), (.iaload, []), (.iload_n 3, []), (.iadd, []), (.istore 4, []), (.iload_n 1, []), (.aload_n 0, []), (.invokevirtual 127, [48, 0, 3, 1]), (.if_icmp .ne 12, [1]), (.aload_n 0, []), (.iload_n 1, []), (.iload_n 2, []), (.iload 4, []), (.invokevirtual 146, [52, 3, 3, 1]), (.ireturn, [])], 0),
  (30, [0, 1, 2, 4], [(.aload_n 0, []), (.getfield 121, [3, 10, 0]), (.ifCond .ne 7, [2]), (.iconst 0, []), (.goto 17, [4])], 0),
  (41, [0, 1, 2, 4], [(.aload_n 0, []), (.getfield 121, [3, 10, 0]), (.iconst 2, []), (.if_icmp .ne 7, [3]), (.iconst (-1), []), (.goto 5, [4])], 0),
  (53, [0, 1, 2, 4], [(.ldc 103, [536870912])], 4),
  (55, [0, 1, 2, 4], [(.istore 5, []), (.iconst 0, []), (.istore 6, [])], 5),
  (60, [0, 1, 2, 4, 5, 6], [(.iload 6, []), (.aload_n 0, []), (.getfield 39, [3, 2, 0]), (.if_icmp .ge 36, [7]), (.iload_n 1, []), (.iload 6, []), (.invokestatic 131, [49, 2, 1]), (.ifCond .ne 21, [6]), (.aload_n 0, []), (.iload 5, []), (.aload_n 0, []), (.iload_n 1, []), (.iload_n 2, []), (.iload 4, []), (.iload 6, []), (.invokevirtual 149, [53, 4, 3, 1]), (.invokevirtual 153, [55, 2, 3, 1]), (.istore 5, [])], 6),
  (96, [0, 1, 2, 4, 5, 6], [(.iinc 6 1, []), (.goto (-39), [5])], 0),
  (102, [5], [(.iload 5, []), (.ireturn, [])], 0)]
def mt_51 : Nat × Nat × List jB := (1, 7, k_Or_judged)
set_option maxRecDepth 100000 in
theorem ck_51 : jok jm_51 mt_51 = true := by decide +kernel
def k_Or_judgedEnd : List jB := [
  (0, [0, 1, 2, 3], [(.aload_n 0, []), (.iload_n 1, []), (.iload_n 2, []), (.iload_n 3, []), (.aload_n 0, []), (.getfield 39, [3, 2, 0]), (.invokevirtual 156, [56, 4, 3, 1]), (.istore 4, []), (.aload_n 0, []), (.iload_n 1, []), (.iload_n 2, []), (.invokevirtual 159, [54, 2, 3, 1]), (.ifCond .eq 8, [1]), (.iload_n 3, []), (.iload 4, []), (.isub, []), (.ireturn, [])], 0),
  (27, [0, 4], [(.iload 4, []), (.aload_n 0, []), (.getfield 124, [3, 11, 0]), (.if_icmp .ne 7, [2]), (.iconst 1, []), (.goto 4, [3])], 0),
  (40, [0], [(.iconst 0, [])], 3),
  (41, [0], [(.istore 5, []), (.aload_n 0, []), (.getfield 121, [3, 10, 0]), (.ifCond .ne 14, [6]), (.iload 5, []), (.ifCond .eq 7, [4]), (.iconst 1, []), (.goto 4, [5])], 0),
  (59, [], [(.iconst 0, [])], 5),
  (60, [], [(.ireturn, [])], 0),
  (61, [0, 5], [(.aload_n 0, []), (.getfield 121, [3, 10, 0]), (.iconst 1, []), (.if_icmp .ne 12, [7]), (.iload 5, []), (.ifCond .eq 7, [7]), (.iconst 0, []), (.goto 5, [8])], 0),
  (78, [], [(.ldc 103, [536870912])], 8),
  (80, [], [(.ireturn, [])], 0)]
def mt_52 : Nat × Nat × List jB := (1, 6, k_Or_judgedEnd)
set_option maxRecDepth 100000 in
theorem ck_52 : jok jm_52 mt_52 = true := by decide +kernel
def k_Or_judgedStep : List jB := [
  (0, [0, 1, 2, 3, 4], [(.aload_n 0, []), (.iload_n 1, []), (.iload_n 2, []), (.iload_n 3, []), (.iload 4, []), (.invokevirtual 156, [56, 4, 3, 1]), (.istore 5, []), (.aload_n 0, []), (.iload_n 1, []), (.iload_n 2, []), (.invokevirtual 159, [54, 2, 3, 1]), (.ifCond .eq 8, [1]), (.iload_n 3, []), (.iload 5, []), (.isub, []), (.ireturn, [])], 0),
  (25, [0, 1, 4, 5], [(.iload 5, []), (.aload_n 0, []), (.getfield 18, [3, 5, 4]), (.iload_n 1, []), (.invokestatic 141, [255, 1, 1]), (.iconst 1, []), (.iadd, []), (.iaload, []), (.if_icmp .le 7, [2]), (.iconst 1, []), (.goto 4, [3])], 0),
  (45, [0, 1, 4], [(.iconst 0, [])], 3),
  (46, [0, 1, 4], [(.istore 6, []), (.aload_n 0, []), (.getfield 25, [3, 7, 4]), (.iload_n 1, []), (.iconst 1, []), (.iload 4, []), (.ishl, []), (.ior, []), (.iload 4, []), (.iload 6, []), (.invokestatic 135, [50, 3, 1]), (.iaload, []), (.istore 7, []), (.aload_n 0, []), (.getfield 121, [3, 10, 0]), (.iconst 1, []), (.if_icmp .ne 16, [4]), (.iload 7, []), (.aload_n 0, []), (.iload_n 1, []), (.iload 4, []), (.invokevirtual 162, [57, 2, 3, 1]), (.iadd, []), (.goto 5, [5])], 0),
  (89, [7], [(.iload 7, [])], 5),
  (91, [], [(.ireturn, [])], 0)]
def mt_53 : Nat × Nat × List jB := (1, 8, k_Or_judgedStep)
set_option maxRecDepth 100000 in
theorem ck_53 : jok jm_53 mt_53 = true := by decide +kernel
def k_Or_isAskedOf : List jB := [
  (0, [0, 1, 2], [(.aload_n 0, []), (.getfield 121, [3, 10, 0]), (.iconst 2, []), (.if_icmp .eq 11, [1]), (.aload_n 0, []), (.getfield 121, [3, 10, 0]), (.iconst 3, []), (.if_icmp .ne 19, [2])], 1),
  (16, [0, 1, 2], [(.iload_n 1, []), (.ifCond .eq 15, [2]), (.iload_n 2, []), (.aload_n 0, []), (.getfield 124, [3, 11, 0]), (.if_icmp .ne 7, [2]), (.iconst 1, []), (.goto 4, [3])], 0),
  (32, [], [(.iconst 0, [])], 3),
  (33, [], [(.ireturn, [])], 0)]
def mt_54 : Nat × Nat × List jB := (2, 3, k_Or_isAskedOf)
set_option maxRecDepth 100000 in
theorem ck_54 : jok jm_54 mt_54 = true := by decide +kernel
def k_Or_joined : List jB := [
  (0, [0, 1, 2], [(.aload_n 0, []), (.getfield 121, [3, 10, 0]), (.lookupswitch 38 #[(0, 28), (2, 32)], [3, 1, 2])], 0),
  (32, [1, 2], [(.iload_n 1, []), (.iload_n 2, []), (.iadd, []), (.ireturn, [])], 0),
  (36, [1, 2], [(.iload_n 1, []), (.iload_n 2, []), (.invokestatic 165, [910, 0]), (.ireturn, [])], 0),
  (42, [1, 2], [(.iload_n 1, []), (.iload_n 2, []), (.invokestatic 170, [911, 0]), (.ireturn, [])], 0)]
def mt_55 : Nat × Nat × List jB := (1, 3, k_Or_joined)
set_option maxRecDepth 100000 in
theorem ck_55 : jok jm_55 mt_55 = true := by decide +kernel
def k_Or_handed : List jB := [
  (0, [0, 1, 2, 3, 4], [(.iload_n 1, []), (.ifCond .ne 5, [1]), (.iload_n 3, []), (.ireturn, [])], 0),
  (6, [0, 1, 2, 3, 4], [(.iload_n 3, []), (.iconst 2, []), (.irem, []), (.ifCond .eq 25, [2]), (.aload_n 0, []), (.getfield 21, [3, 6, 4]), (.iload_n 1, []), (.invokestatic 141, [255, 1, 1]), (.iload_n 2, []), (.iload 4, []), (.invokestatic 73, [37, 3, 1]), (.baload, []), (.ifCond .ne 7, [2]), (.iconst 1, []), (.goto 4, [3])], 0),
  (34, [3], [(.iconst 0, [])], 3),
  (35, [3], [(.istore 5, []), (.iload 5, []), (.ifCond .eq 11, [4]), (.iload_n 3, []), (.iconst 2, []), (.idiv, []), (.iconst 1, []), (.iadd, []), (.goto 6, [5])], 0),
  (50, [3], [(.iload_n 3, []), (.iconst 2, []), (.idiv, [])], 5),
  (53, [], [(.ireturn, [])], 0)]
def mt_56 : Nat × Nat × List jB := (1, 6, k_Or_handed)
set_option maxRecDepth 100000 in
theorem ck_56 : jok jm_56 mt_56 = true := by decide +kernel
def k_Or_overtaken : List jB := [
  (0, [0, 1, 2], [(.iconst 0, []), (.istore_n 3, []), (.iconst 0, []), (.istore 4, [])], 1),
  (5, [0, 1, 2, 3, 4], [(.iload 4, []), (.aload_n 0, []), (.getfield 39, [3, 2, 0]), (.if_icmp .ge 37, [3]), (.iload_n 1, []), (.iload 4, []), (.invokestatic 131, [49, 2, 1]), (.ifCond .ne 22, [2]), (.aload_n 0, []), (.getfield 15, [3, 4, 4]), (.iload 4, []), (.iaload, []), (.aload_n 0, []), (.getfield 15, [3, 4, 4]), (.iload_n 2, []), (.iaload, []), (.if_icmp .ge 6, [2]), (.iinc 3 1, [])], 2),
  (42, [0, 1, 2, 3, 4], [(.iinc 4 1, []), (.goto (-40), [1])], 0),
  (48, [3], [(.iload_n 3, []), (.ireturn, [])], 0)]
def mt_57 : Nat × Nat × List jB := (1, 5, k_Or_overtaken)
set_option maxRecDepth 100000 in
theorem ck_57 : jok jm_57 mt_57 = true := by decide +kernel
def k_Or_laidRow : List jB := [
  (0, [0, 1], [(.aload_n 0, []), (.iload_n 1, []), (.invokevirtual 114, [59, 1, 3, 0]), (.aload_n 0, []), (.getfield 31, [3, 0, 4]), (.getfield 61, [5, 1, 4]), (.iconst 0, []), (.iaload, []), (.iconst 0, []), (.invokestatic 173, [83, 2, 2]), (.lstore_n 2, []), (.iconst 0, []), (.istore 4, [])], 1),
  (22, [0, 2, 4], [(.iload 4, []), (.aload_n 0, []), (.getfield 118, [3, 9, 0]), (.if_icmp .ge 31, [2]), (.lload_n 2, []), (.aload_n 0, []), (.getfield 9, [3, 3, 4]), (.aload_n 0, []), (.getfield 28, [3, 8, 4]), (.iload 4, []), (.iaload, []), (.iaload, []), (.iload 4, []), (.iconst 1, []), (.iadd, []), (.invokestatic 173, [83, 2, 2]), (.lor, []), (.lstore_n 2, []), (.iinc 4 1, []), (.goto (-34), [1])], 0),
  (59, [0, 2], [(.lload_n 2, []), (.aload_n 0, []), (.getfield 31, [3, 0, 4]), (.getfield 61, [5, 1, 4]), (.aload_n 0, []), (.getfield 31, [3, 0, 4]), (.getfield 63, [5, 0, 0]), (.iconst 1, []), (.isub, []), (.iaload, []), (.aload_n 0, []), (.getfield 31, [3, 0, 4]), (.getfield 63, [5, 0, 0]), (.iconst 1, []), (.isub, []), (.invokestatic 173, [83, 2, 2]), (.lor, []), (.lreturn, [])], 0)]
def mt_58 : Nat × Nat × List jB := (3, 5, k_Or_laidRow)
set_option maxRecDepth 100000 in
theorem ck_58 : jok jm_58 mt_58 = true := by decide +kernel
def k_Or_lay : List jB := [
  (0, [0, 1], [(.iload_n 1, []), (.istore_n 2, []), (.iconst 0, []), (.istore_n 3, []), (.iconst 0, []), (.istore 4, []), (.aload_n 0, []), (.getfield 18, [3, 5, 4]), (.iconst 0, []), (.iaload, []), (.istore 5, []), (.aload_n 0, []), (.iconst 0, []), (.putfield 118, [3, 9, 0])], 1),
  (20, [0, 2, 3, 4, 5], [(.aload_n 0, []), (.getfield 118, [3, 9, 0]), (.aload_n 0, []), (.getfield 39, [3, 2, 0]), (.if_icmp .ge 91, [3]), (.aload_n 0, []), (.iload_n 3, []), (.iload 4, []), (.invokevirtual 159, [54, 2, 3, 1]), (.ifCond .ne 81, [3]), (.aload_n 0, []), (.iload_n 3, []), (.iload 4, []), (.iload 5, []), (.iload_n 2, []), (.invokevirtual 177, [60, 4, 3, 1]), (.istore 6, []), (.aload_n 0, []), (.getfield 121, [3, 10, 0]), (.iconst 1, []), (.if_icmp .ne 13, [2]), (.iload_n 2, []), (.aload_n 0, []), (.iload_n 3, []), (.iload 6, []), (.invokevirtual 162, [57, 2, 3, 1]), (.isub, []), (.istore_n 2, [])], 2),
  (71, [0, 2, 3, 4, 5, 6], [(.aload_n 0, []), (.iload_n 3, []), (.iload 4, []), (.iload 5, []), (.iload 6, []), (.invokevirtual 156, [56, 4, 3, 1]), (.istore 5, []), (.iload_n 3, []), (.iconst 1, []), (.iload 6, []), (.ishl, []), (.ior, []), (.istore_n 3, []), (.iload 6, []), (.istore 4, []), (.aload_n 0, []), (.getfield 28, [3, 8, 4]), (.aload_n 0, []), (.getfield 118, [3, 9, 0]), (.iload 6, []), (.iastore, []), (.aload_n 0, []), (.dup, []), (.getfield 118, [3, 9, 0]), (.iconst 1, []), (.iadd, []), (.putfield 118, [3, 9, 0]), (.goto (-96), [1])], 0),
  (119, [], [(.return_, [])], 0)]
def mt_59 : Nat × Nat × List jB := (0, 7, k_Or_lay)
set_option maxRecDepth 100000 in
theorem ck_59 : jok jm_59 mt_59 = true := by decide +kernel
def k_Or_chosen : List jB := [
  (0, [0, 1, 2, 3, 4], [(.iconst 0, []), (.istore 5, [])], 1),
  (3, [0, 1, 2, 3, 4, 5], [(.iload 5, []), (.aload_n 0, []), (.getfield 39, [3, 2, 0]), (.if_icmp .ge 39, [3]), (.iload_n 1, []), (.iload 5, []), (.invokestatic 131, [49, 2, 1]), (.ifCond .ne 24, [2]), (.aload_n 0, []), (.aload_n 0, []), (.iload_n 1, []), (.iload_n 2, []), (.iload_n 3, []), (.iload 5, []), (.invokevirtual 149, [53, 4, 3, 1]), (.iload 4, []), (.invokevirtual 180, [61, 2, 3, 1]), (.ifCond .eq 6, [2]), (.iload 5, []), (.ireturn, [])], 0),
  (42, [0, 1, 2, 3, 4, 5], [(.iinc 5 1, []), (.goto (-42), [1])], 0),
  (48, [], [(.iconst 0, []), (.ireturn, [])], 0)]
def mt_60 : Nat × Nat × List jB := (1, 6, k_Or_chosen)
set_option maxRecDepth 100000 in
theorem ck_60 : jok jm_60 mt_60 = true := by decide +kernel
def k_Or_leads : List jB := [
  (0, [0, 1, 2], [(.aload_n 0, []), (.getfield 121, [3, 10, 0]), (.ifCond .ne 15, [2]), (.iload_n 1, []), (.ifCond .le 7, [1]), (.iconst 1, []), (.goto 17, [4])], 0),
  (15, [], [(.iconst 0, []), (.goto 13, [4])], 0),
  (19, [1, 2], [(.iload_n 1, []), (.iload_n 2, []), (.if_icmp .ne 7, [3]), (.iconst 1, []), (.goto 4, [4])], 0),
  (28, [], [(.iconst 0, [])], 4),
  (29, [], [(.ireturn, [])], 0)]
def mt_61 : Nat × Nat × List jB := (2, 3, k_Or_leads)
set_option maxRecDepth 100000 in
theorem ck_61 : jok jm_61 mt_61 = true := by decide +kernel
def k_Rd_begin : List jB := [
  (0, [0, 1, 2], [(.aload_n 0, []), (.iconst 0, []), (.putfield 24, [4, 0, 0]), (.aload_n 0, []), (.iconst (-1), []), (.putfield 28, [4, 1, 0]), (.aload_n 0, []), (.aload_n 2, []), (.putfield 20, [4, 3, 3]), (.aload_n 0, []), (.getfield 20, [4, 3, 3]), (.invokevirtual 31, [92, 0, 6, 0]), (.aload_n 0, []), (.getfield 14, [4, 2, 4]), (.iload_n 1, []), (.invokevirtual 36, [105, 1, 7, 0]), (.return_, [])], 0)]
def mt_62 : Nat × Nat × List jB := (0, 3, k_Rd_begin)
set_option maxRecDepth 100000 in
theorem ck_62 : jok jm_62 mt_62 = true := by decide +kernel
def k_Rd_goesOn : List jB := [
  (0, [0], [(.aload_n 0, []), (.getfield 24, [4, 0, 0]), (.ifCond .ne 19, [1]), (.aload_n 0, []), (.getfield 14, [4, 2, 4]), (.getfield 40, [7, 0, 0]), (.bipush 18, []), (.if_icmp .eq 7, [1]), (.iconst 1, []), (.goto 4, [2])], 0),
  (23, [], [(.iconst 0, [])], 2),
  (24, [], [(.ireturn, [])], 0)]
def mt_63 : Nat × Nat × List jB := (2, 1, k_Rd_goesOn)
set_option maxRecDepth 100000 in
theorem ck_63 : jok jm_63 mt_63 = true := by decide +kernel
def k_Rd_fails : List jB := [
  (0, [0, 1], [(.aload_n 0, []), (.iload_n 1, []), (.putfield 24, [4, 0, 0]), (.aload_n 0, []), (.aload_n 0, []), (.getfield 14, [4, 2, 4]), (.getfield 43, [7, 1, 0]), (.putfield 28, [4, 1, 0]), (.iconst 0, []), (.ireturn, [])], 0)]
def mt_64 : Nat × Nat × List jB := (2, 2, k_Rd_fails)
set_option maxRecDepth 100000 in
theorem ck_64 : jok jm_64 mt_64 = true := by decide +kernel
def k_Rd_passes : List jB := [
  (0, [0, 1], [(.aload_n 0, []), (.getfield 14, [4, 2, 4]), (.getfield 40, [7, 0, 0]), (.iload_n 1, []), (.if_icmp .eq 9, [1]), (.aload_n 0, []), (.iconst 1, []), (.invokevirtual 46, [64, 1, 4, 1]), (.ireturn, [])], 0),
  (17, [0], [(.aload_n 0, []), (.getfield 14, [4, 2, 4]), (.invokevirtual 50, [106, 0, 7, 0]), (.iconst 1, []), (.ireturn, [])], 0)]
def mt_65 : Nat × Nat × List jB := (2, 2, k_Rd_passes)
set_option maxRecDepth 100000 in
theorem ck_65 : jok jm_65 mt_65 = true := by decide +kernel
def k_Rd_readLine : List jB := [
  (0, [0], [(.aload_n 0, []), (.getfield 14, [4, 2, 4]), (.getfield 40, [7, 0, 0]), (.tableswitch 155 6 13 #[45, 155, 67, 155, 155, 89, 111, 133], [16, 1, 16, 4, 16, 16, 7, 10, 13])], 0),
  (52, [0], [(.aload_n 0, []), (.invokevirtual 53, [67, 0, 4, 1]), (.ifCond .eq 16, [2]), (.aload_n 0, []), (.bipush 59, []), (.invokevirtual 57, [65, 1, 4, 1]), (.ifCond .eq 7, [2]), (.iconst 1, []), (.goto 4, [3])], 0),
  (72, [], [(.iconst 0, [])], 3),
  (73, [], [(.ireturn, [])], 0),
  (74, [0], [(.aload_n 0, []), (.invokevirtual 60, [70, 0, 4, 1]), (.ifCond .eq 16, [5]), (.aload_n 0, []), (.bipush 59, []), (.invokevirtual 57, [65, 1, 4, 1]), (.ifCond .eq 7, [5]), (.iconst 1, []), (.goto 4, [6])], 0),
  (94, [], [(.iconst 0, [])], 6),
  (95, [], [(.ireturn, [])], 0),
  (96, [0], [(.aload_n 0, []), (.invokevirtual 63, [73, 0, 4, 1]), (.ifCond .eq 16, [8]), (.aload_n 0, []), (.bipush 59, []), (.invokevirtual 57, [65, 1, 4, 1]), (.ifCond .eq 7, [8]), (.iconst 1, []), (.goto 4, [9])], 0),
  (116, [], [(.iconst 0, [])], 9),
  (117, [], [(.ireturn, [])], 0),
  (118, [0], [(.aload_n 0, []), (.invokevirtual 66, [74, 0, 4, 1]), (.ifCond .eq 16, [11]), (.aload_n 0, []), (.bipush 59, []), (.invokevirtual 57, [65, 1, 4, 1]), (.ifCond .eq 7, [11]), (.iconst 1, []), (.goto 4, [12])], 0),
  (138, [], [(.iconst 0, [])], 12),
  (139, [], [(.ireturn, [])], 0),
  (140, [0], [(.aload_n 0, []), (.invokevirtual 69, [75, 0, 4, 1]), (.ifCond .eq 16, [14]), (.aload_n 0, []), (.bipush 59, []), (.invokevirtual 57, [65, 1, 4, 1]), (.ifCond .eq 7, [14]), (.iconst 1, []), (.goto 4, [15])], 0),
  (160, [], [(.iconst 0, [])], 15),
  (161, [], [(.ireturn, [])], 0),
  (162, [0], [(.aload_n 0, []), (.iconst 1, []), (.invokevirtual 46, [64, 1, 4, 1]), (.ireturn, [])], 0)]
def mt_66 : Nat × Nat × List jB := (2, 1, k_Rd_readLine)
set_option maxRecDepth 100000 in
theorem ck_66 : jok jm_66 mt_66 = true := by decide +kernel
def k_Rd_personLine : List jB := [
  (0, [0], [(.aload_n 0, []), (.getfield 20, [4, 3, 3]), (.getfield 72, [6, 0, 0]), (.bipush 10, []), (.if_icmp .lt 9, [1]), (.aload_n 0, []), (.iconst 2, []), (.invokevirtual 46, [64, 1, 4, 1]), (.ireturn, [])], 0),
  (18, [0], [(.aload_n 0, []), (.getfield 14, [4, 2, 4]), (.invokevirtual 50, [106, 0, 7, 0]), (.aload_n 0, []), (.getfield 14, [4, 2, 4]), (.getfield 75, [7, 2, 0]), (.istore_n 1, []), (.aload_n 0, []), (.aload_n 0, []), (.getfield 20, [4, 3, 3]), (.iload_n 1, []), (.invokevirtual 78, [94, 1, 6, 1]), (.invokevirtual 82, [68, 1, 4, 1]), (.ifCond .eq 13, [2]), (.aload_n 0, []), (.iconst 0, []), (.bipush 99, []), (.invokevirtual 85, [69, 2, 4, 1]), (.ifCond .ne 5, [3])], 2),
  (58, [], [(.iconst 0, []), (.ireturn, [])], 0),
  (60, [0, 1], [(.aload_n 0, []), (.getfield 20, [4, 3, 3]), (.getfield 72, [6, 0, 0]), (.istore_n 2, []), (.aload_n 0, []), (.getfield 20, [4, 3, 3]), (.iload_n 1, []), (.aload_n 0, []), (.getfield 89, [4, 4, 0]), (.invokevirtual 92, [97, 2, 6, 0]), (.aload_n 0, []), (.getfield 14, [4, 2, 4]), (.getfield 40, [7, 0, 0]), (.bipush 7, []), (.if_icmp .eq 5, [4]), (.iconst 1, []), (.ireturn, [])], 0),
  (94, [0, 2], [(.aload_n 0, []), (.getfield 14, [4, 2, 4]), (.invokevirtual 50, [106, 0, 7, 0]), (.aload_n 0, []), (.iconst 0, []), (.ldc 96, [99999]), (.invokevirtual 85, [69, 2, 4, 1]), (.ifCond .ne 5, [5]), (.iconst 0, []), (.ireturn, [])], 0),
  (113, [0, 2], [(.aload_n 0, []), (.getfield 20, [4, 3, 3]), (.getfield 97, [6, 3, 4]), (.iload_n 2, []), (.aload_n 0, []), (.getfield 89, [4, 4, 0]), (.iastore, []), (.iconst 1, []), (.ireturn, [])], 0)]
def mt_67 : Nat × Nat × List jB := (2, 3, k_Rd_personLine)
set_option maxRecDepth 100000 in
theorem ck_67 : jok jm_67 mt_67 = true := by decide +kernel
def k_Rd_newName : List jB := [
  (0, [0, 1], [(.aload_n 0, []), (.getfield 14, [4, 2, 4]), (.getfield 40, [7, 0, 0]), (.bipush 16, []), (.if_icmp .eq 9, [1]), (.aload_n 0, []), (.iconst 1, []), (.invokevirtual 46, [64, 1, 4, 1]), (.ireturn, [])], 0),
  (18, [0, 1], [(.iload_n 1, []), (.iconst (-1), []), (.if_icmp .eq 9, [2]), (.aload_n 0, []), (.iconst 3, []), (.invokevirtual 46, [64, 1, 4, 1]), (.ireturn, [])], 0),
  (29, [0], [(.aload_n 0, []), (.getfield 14, [4, 2, 4]), (.invokevirtual 50, [106, 0, 7, 0]), (.iconst 1, []), (.ireturn, [])], 0)]
def mt_68 : Nat × Nat × List jB := (2, 2, k_Rd_newName)
set_option maxRecDepth 100000 in
theorem ck_68 : jok jm_68 mt_68 = true := by decide +kernel
def k_Rd_readNumber : List jB := [
  (0, [0, 1, 2], [(.aload_n 0, []), (.getfield 14, [4, 2, 4]), (.getfield 40, [7, 0, 0]), (.bipush 17, []), (.if_icmp .eq 9, [1]), (.aload_n 0, []), (.iconst 1, []), (.invokevirtual 46, [64, 1, 4, 1]), (.ireturn, [])], 0),
  (18, [0, 1, 2], [(.aload_n 0, []), (.getfield 14, [4, 2, 4]), (.getfield 75, [7, 2, 0]), (.iload_n 1, []), (.iload_n 2, []), (.invokestatic 101, [152, 3, 1]), (.ifCond .ne 9, [2]), (.aload_n 0, []), (.iconst 2, []), (.invokevirtual 46, [64, 1, 4, 1]), (.ireturn, [])], 0),
  (39, [0], [(.aload_n 0, []), (.aload_n 0, []), (.getfield 14, [4, 2, 4]), (.getfield 75, [7, 2, 0]), (.putfield 89, [4, 4, 0]), (.aload_n 0, []), (.getfield 14, [4, 2, 4]), (.invokevirtual 50, [106, 0, 7, 0]), (.iconst 1, []), (.ireturn, [])], 0)]
def mt_69 : Nat × Nat × List jB := (2, 3, k_Rd_readNumber)
set_option maxRecDepth 100000 in
theorem ck_69 : jok jm_69 mt_69 = true := by decide +kernel
def k_Rd_handsLine : List jB := [
  (0, [0], [(.aload_n 0, []), (.getfield 14, [4, 2, 4]), (.invokevirtual 50, [106, 0, 7, 0]), (.aload_n 0, []), (.invokevirtual 105, [71, 0, 4, 1]), (.istore_n 1, []), (.iload_n 1, []), (.iconst (-1), []), (.if_icmp .ne 5, [1]), (.iconst 0, []), (.ireturn, [])], 0),
  (19, [0, 1], [(.aload_n 0, []), (.getfield 20, [4, 3, 3]), (.getfield 109, [6, 4, 4]), (.iload_n 1, []), (.iaload, []), (.ifCond .le 9, [2]), (.aload_n 0, []), (.iconst 3, []), (.invokevirtual 46, [64, 1, 4, 1]), (.ireturn, [])], 0),
  (37, [0, 1], [(.aload_n 0, []), (.getfield 14, [4, 2, 4]), (.invokevirtual 50, [106, 0, 7, 0]), (.aload_n 0, []), (.bipush 9, []), (.invokevirtual 57, [65, 1, 4, 1]), (.ifCond .eq 11, [3]), (.aload_n 0, []), (.iload_n 1, []), (.invokevirtual 112, [72, 1, 4, 1]), (.ifCond .ne 5, [4])], 3),
  (61, [], [(.iconst 0, []), (.ireturn, [])], 0),
  (63, [0, 1], [(.iconst 0, []), (.istore_n 2, [])], 5),
  (65, [0, 1, 2], [(.iload_n 2, []), (.iconst 3, []), (.if_icmp .ge 38, [7]), (.aload_n 0, []), (.getfield 14, [4, 2, 4]), (.getfield 40, [7, 0, 0]), (.bipush 10, []), (.if_icmp .ne 26, [7]), (.aload_n 0, []), (.getfield 14, [4, 2, 4]), (.invokevirtual 50, [106, 0, 7, 0]), (.aload_n 0, []), (.iload_n 1, []), (.invokevirtual 112, [72, 1, 4, 1]), (.ifCond .ne 5, [6]), (.iconst 0, []), (.ireturn, [])], 0),
  (99, [0, 1, 2], [(.iinc 2 1, []), (.goto (-37), [5])], 0),
  (105, [], [(.iconst 1, []), (.ireturn, [])], 0)]
def mt_70 : Nat × Nat × List jB := (2, 3, k_Rd_handsLine)
set_option maxRecDepth 100000 in
theorem ck_70 : jok jm_70 mt_70 = true := by decide +kernel
def k_Rd_toldPerson : List jB := [
  (0, [0], [(.aload_n 0, []), (.getfield 14, [4, 2, 4]), (.getfield 40, [7, 0, 0]), (.bipush 16, []), (.if_icmp .ne 20, [1]), (.aload_n 0, []), (.getfield 20, [4, 3, 3]), (.aload_n 0, []), (.getfield 14, [4, 2, 4]), (.getfield 75, [7, 2, 0]), (.invokevirtual 78, [94, 1, 6, 1]), (.goto 4, [2])], 0),
  (29, [0], [(.iconst (-1), [])], 2),
  (30, [0], [(.istore_n 1, []), (.iload_n 1, []), (.iconst (-1), []), (.if_icmp .ne 25, [5]), (.aload_n 0, []), (.aload_n 0, []), (.getfield 14, [4, 2, 4]), (.getfield 40, [7, 0, 0]), (.bipush 16, []), (.if_icmp .ne 7, [3]), (.iconst 4, []), (.goto 4, [4])], 0),
  (53, [1], [(.iconst 1, [])], 4),
  (54, [1], [(.invokevirtual 46, [64, 1, 4, 1]), (.pop, [])], 5),
  (58, [1], [(.iload_n 1, []), (.ireturn, [])], 0)]
def mt_71 : Nat × Nat × List jB := (1, 2, k_Rd_toldPerson)
set_option maxRecDepth 100000 in
theorem ck_71 : jok jm_71 mt_71 = true := by decide +kernel
def k_Rd_heirOf : List jB := [
  (0, [0, 1], [(.aload_n 0, []), (.getfield 14, [4, 2, 4]), (.getfield 40, [7, 0, 0]), (.bipush 16, []), (.if_icmp .eq 9, [1]), (.aload_n 0, []), (.iconst 1, []), (.invokevirtual 46, [64, 1, 4, 1]), (.ireturn, [])], 0),
  (18, [0, 1], [(.aload_n 0, []), (.getfield 20, [4, 3, 3]), (.getfield 109, [6, 4, 4]), (.iload_n 1, []), (.iaload, []), (.iconst 3, []), (.if_icmp .lt 9, [2]), (.aload_n 0, []), (.iconst 2, []), (.invokevirtual 46, [64, 1, 4, 1]), (.ireturn, [])], 0),
  (37, [0, 1], [(.aload_n 0, []), (.getfield 20, [4, 3, 3]), (.aload_n 0, []), (.getfield 14, [4, 2, 4]), (.getfield 75, [7, 2, 0]), (.invokevirtual 78, [94, 1, 6, 1]), (.istore_n 2, []), (.iload_n 2, []), (.iconst (-1), []), (.if_icmp .ne 9, [3]), (.aload_n 0, []), (.iconst 4, []), (.invokevirtual 46, [64, 1, 4, 1]), (.ireturn, [])], 0),
  (63, [0, 1, 2], [(.aload_n 0, []), (.getfield 20, [4, 3, 3]), (.iload_n 1, []), (.iload_n 2, []), (.invokevirtual 115, [102, 2, 6, 1]), (.ifCond .eq 9, [4]), (.aload_n 0, []), (.iconst 3, []), (.invokevirtual 46, [64, 1, 4, 1]), (.ireturn, [])], 0),
  (81, [0, 1, 2], [(.iload_n 2, []), (.iload_n 1, []), (.if_icmp .ne 9, [5]), (.aload_n 0, []), (.iconst 5, []), (.invokevirtual 46, [64, 1, 4, 1]), (.ireturn, [])], 0),
  (92, [0, 1, 2], [(.aload_n 0, []), (.getfield 20, [4, 3, 3]), (.iload_n 1, []), (.iload_n 2, []), (.invokevirtual 118, [98, 2, 6, 0]), (.aload_n 0, []), (.getfield 14, [4, 2, 4]), (.invokevirtual 50, [106, 0, 7, 0]), (.iconst 1, []), (.ireturn, [])], 0)]
def mt_72 : Nat × Nat × List jB := (2, 3, k_Rd_heirOf)
set_option maxRecDepth 100000 in
theorem ck_72 : jok jm_72 mt_72 = true := by decide +kernel
def k_Rd_parcelLine : List jB := [
  (0, [0], [(.aload_n 0, []), (.getfield 20, [4, 3, 3]), (.getfield 121, [6, 6, 0]), (.bipush 12, []), (.if_icmp .lt 9, [1]), (.aload_n 0, []), (.iconst 2, []), (.invokevirtual 46, [64, 1, 4, 1]), (.ireturn, [])], 0),
  (18, [0], [(.aload_n 0, []), (.getfield 14, [4, 2, 4]), (.invokevirtual 50, [106, 0, 7, 0]), (.aload_n 0, []), (.invokevirtual 105, [71, 0, 4, 1]), (.istore_n 1, []), (.iload_n 1, []), (.iconst (-1), []), (.if_icmp .ne 5, [2]), (.iconst 0, []), (.ireturn, [])], 0),
  (37, [0, 1], [(.aload_n 0, []), (.getfield 14, [4, 2, 4]), (.invokevirtual 50, [106, 0, 7, 0]), (.aload_n 0, []), (.iconst 1, []), (.ldc 96, [99999]), (.invokevirtual 85, [69, 2, 4, 1]), (.ifCond .ne 5, [3]), (.iconst 0, []), (.ireturn, [])], 0),
  (56, [0, 1], [(.aload_n 0, []), (.getfield 89, [4, 4, 0]), (.istore_n 2, []), (.aload_n 0, []), (.iconst 0, []), (.sipush 999, []), (.invokevirtual 85, [69, 2, 4, 1]), (.ifCond .ne 5, [4]), (.iconst 0, []), (.ireturn, [])], 0),
  (74, [0, 1, 2], [(.aload_n 0, []), (.getfield 20, [4, 3, 3]), (.iload_n 1, []), (.iload_n 2, []), (.aload_n 0, []), (.getfield 89, [4, 4, 0]), (.invokevirtual 124, [99, 3, 6, 0]), (.iconst 1, []), (.ireturn, [])], 0)]
def mt_73 : Nat × Nat × List jB := (2, 3, k_Rd_parcelLine)
set_option maxRecDepth 100000 in
theorem ck_73 : jok jm_73 mt_73 = true := by decide +kernel
def k_Rd_lawLine : List jB := [
  (0, [0], [(.aload_n 0, []), (.getfield 20, [4, 3, 3]), (.getfield 128, [6, 12, 4]), (.getfield 132, [1, 1, 1]), (.ifCond .eq 9, [1]), (.aload_n 0, []), (.iconst 3, []), (.invokevirtual 46, [64, 1, 4, 1]), (.ireturn, [])], 0),
  (19, [0], [(.aload_n 0, []), (.getfield 14, [4, 2, 4]), (.invokevirtual 50, [106, 0, 7, 0]), (.aload_n 0, []), (.getfield 20, [4, 3, 3]), (.getfield 128, [6, 12, 4]), (.iconst 1, []), (.putfield 132, [1, 1, 1]), (.aload_n 0, []), (.getfield 20, [4, 3, 3]), (.getfield 128, [6, 12, 4]), (.iconst 4, []), (.invokevirtual 138, [20, 1, 1, 0]), (.aload_n 0, []), (.iconst 0, []), (.iconst 0, []), (.invokevirtual 141, [76, 2, 4, 1]), (.istore_n 1, []), (.aload_n 0, []), (.getfield 20, [4, 3, 3]), (.getfield 128, [6, 12, 4]), (.iconst 4, []), (.invokevirtual 144, [21, 1, 1, 0]), (.iload_n 1, []), (.ireturn, [])], 0)]
def mt_74 : Nat × Nat × List jB := (2, 2, k_Rd_lawLine)
set_option maxRecDepth 100000 in
theorem ck_74 : jok jm_74 mt_74 = true := by decide +kernel
def k_Rd_mayLine : List jB := [
  (0, [0], [(.aload_n 0, []), (.getfield 20, [4, 3, 3]), (.getfield 147, [6, 10, 0]), (.iconst 4, []), (.if_icmp .lt 9, [1]), (.aload_n 0, []), (.iconst 2, []), (.invokevirtual 46, [64, 1, 4, 1]), (.ireturn, [])], 0),
  (17, [0], [(.aload_n 0, []), (.getfield 14, [4, 2, 4]), (.invokevirtual 50, [106, 0, 7, 0]), (.aload_n 0, []), (.getfield 14, [4, 2, 4]), (.getfield 75, [7, 2, 0]), (.istore_n 1, []), (.aload_n 0, []), (.aload_n 0, []), (.getfield 20, [4, 3, 3]), (.iload_n 1, []), (.invokevirtual 150, [95, 1, 6, 1]), (.invokevirtual 82, [68, 1, 4, 1]), (.ifCond .ne 5, [2]), (.iconst 0, []), (.ireturn, [])], 0),
  (49, [0, 1], [(.aload_n 0, []), (.getfield 20, [4, 3, 3]), (.getfield 128, [6, 12, 4]), (.aload_n 0, []), (.getfield 20, [4, 3, 3]), (.getfield 147, [6, 10, 0]), (.invokevirtual 138, [20, 1, 1, 0]), (.aload_n 0, []), (.iconst 0, []), (.iconst 0, []), (.invokevirtual 141, [76, 2, 4, 1]), (.istore_n 2, []), (.aload_n 0, []), (.getfield 20, [4, 3, 3]), (.getfield 128, [6, 12, 4]), (.aload_n 0, []), (.getfield 20, [4, 3, 3]), (.getfield 147, [6, 10, 0]), (.invokevirtual 144, [21, 1, 1, 0]), (.aload_n 0, []), (.getfield 20, [4, 3, 3]), (.iload_n 1, []), (.invokevirtual 153, [100, 1, 6, 0]), (.iload_n 2, []), (.ireturn, [])], 0)]
def mt_75 : Nat × Nat × List jB := (2, 3, k_Rd_mayLine)
set_option maxRecDepth 100000 in
theorem ck_75 : jok jm_75 mt_75 = true := by decide +kernel
def k_Rd_expression : List jB := [
  (0, [0, 1, 2], [(.iload_n 1, []), (.iconst 2, []), (.if_icmp .ne 9, [1]), (.aload_n 0, []), (.iload_n 2, []), (.invokevirtual 156, [79, 1, 4, 1]), (.ireturn, [])], 0),
  (11, [0, 1, 2], [(.iload_n 1, []), (.bipush 6, []), (.if_icmp .lt 9, [2]), (.aload_n 0, []), (.iload_n 2, []), (.invokevirtual 159, [80, 1, 4, 1]), (.ireturn, [])], 0),
  (23, [0, 1, 2], [(.aload_n 0, []), (.iload_n 1, []), (.iconst 1, []), (.iadd, []), (.iload_n 2, []), (.invokevirtual 141, [76, 2, 4, 1]), (.ifCond .ne 5, [3]), (.iconst 0, []), (.ireturn, [])], 0),
  (36, [0, 1, 2], [(.iload_n 1, []), (.iconst 3, []), (.if_icmp .ne 7, [4]), (.iconst 1, []), (.goto 5, [5])], 0),
  (45, [0, 1, 2], [(.bipush 64, [])], 5),
  (47, [0, 1, 2], [(.istore_n 3, []), (.iconst 0, []), (.istore 4, [])], 6),
  (51, [0, 1, 2, 3, 4], [(.iload 4, []), (.iload_n 3, []), (.if_icmp .ge 65, [9]), (.iload_n 1, []), (.aload_n 0, []), (.getfield 14, [4, 2, 4]), (.getfield 40, [7, 0, 0]), (.invokestatic 162, [77, 2, 1]), (.ifCond .eq 51, [9]), (.aload_n 0, []), (.getfield 14, [4, 2, 4]), (.getfield 40, [7, 0, 0]), (.istore 5, []), (.aload_n 0, []), (.invokevirtual 165, [78, 0, 4, 1]), (.ifCond .eq 14, [7]), (.aload_n 0, []), (.iload_n 1, []), (.iconst 1, []), (.iadd, []), (.iload_n 2, []), (.invokevirtual 141, [76, 2, 4, 1]), (.ifCond .ne 5, [8])], 7),
  (98, [], [(.iconst 0, []), (.ireturn, [])], 0),
  (100, [0, 1, 2, 3, 4, 5], [(.aload_n 0, []), (.getfield 20, [4, 3, 3]), (.getfield 128, [6, 12, 4]), (.iload 5, []), (.iconst 0, []), (.invokevirtual 168, [22, 2, 1, 0]), (.iinc 4 1, []), (.goto (-65), [6])], 0),
  (119, [], [(.iconst 1, []), (.ireturn, [])], 0)]
def mt_76 : Nat × Nat × List jB := (2, 6, k_Rd_expression)
set_option maxRecDepth 100000 in
theorem ck_76 : jok jm_76 mt_76 = true := by decide +kernel
def k_Rd_joins : List jB := [
  (0, [0, 1], [(.iload_n 0, []), (.tableswitch 110 0 5 #[39, 51, 110, 63, 68, 86], [16, 1, 4, 16, 7, 8, 12])], 0),
  (40, [1], [(.iload_n 1, []), (.bipush 10, []), (.if_icmp .ne 7, [2]), (.iconst 1, []), (.goto 4, [3])], 0),
  (50, [], [(.iconst 0, [])], 3),
  (51, [], [(.ireturn, [])], 0),
  (52, [1], [(.iload_n 1, []), (.bipush 15, []), (.if_icmp .ne 7, [5]), (.iconst 1, []), (.goto 4, [6])], 0),
  (62, [], [(.iconst 0, [])], 6),
  (63, [], [(.ireturn, [])], 0),
  (64, [1], [(.iload_n 1, []), (.invokestatic 171, [104, 1, 1]), (.ireturn, [])], 0),
  (69, [1], [(.iload_n 1, []), (.bipush 43, []), (.if_icmp .eq 9, [9]), (.iload_n 1, []), (.bipush 45, []), (.if_icmp .ne 7, [10])], 9),
  (81, [], [(.iconst 1, []), (.goto 4, [11])], 0),
  (85, [], [(.iconst 0, [])], 11),
  (86, [], [(.ireturn, [])], 0),
  (87, [1], [(.iload_n 1, []), (.bipush 42, []), (.if_icmp .eq 15, [13]), (.iload_n 1, []), (.bipush 47, []), (.if_icmp .eq 9, [13]), (.iload_n 1, []), (.bipush 37, []), (.if_icmp .ne 7, [14])], 13),
  (105, [], [(.iconst 1, []), (.goto 4, [15])], 0),
  (109, [], [(.iconst 0, [])], 15),
  (110, [], [(.ireturn, [])], 0),
  (111, [], [(.iconst 0, []), (.ireturn, [])], 0)]
def mt_77 : Nat × Nat × List jB := (2, 2, k_Rd_joins)
set_option maxRecDepth 100000 in
theorem ck_77 : jok jm_77 mt_77 = true := by decide +kernel
def k_Rd_passKnot : List jB := [
  (0, [0], [(.aload_n 0, []), (.getfield 20, [4, 3, 3]), (.getfield 128, [6, 12, 4]), (.getfield 174, [1, 0, 0]), (.bipush 64, []), (.if_icmp .lt 9, [1]), (.aload_n 0, []), (.iconst 2, []), (.invokevirtual 46, [64, 1, 4, 1]), (.ireturn, [])], 0),
  (21, [0], [(.aload_n 0, []), (.getfield 20, [4, 3, 3]), (.getfield 128, [6, 12, 4]), (.dup, []), (.getfield 174, [1, 0, 0]), (.iconst 1, []), (.iadd, []), (.putfield 174, [1, 0, 0]), (.aload_n 0, []), (.getfield 14, [4, 2, 4]), (.invokevirtual 50, [106, 0, 7, 0]), (.iconst 1, []), (.ireturn, [])], 0)]
def mt_78 : Nat × Nat × List jB := (2, 1, k_Rd_passKnot)
set_option maxRecDepth 100000 in
theorem ck_78 : jok jm_78 mt_78 = true := by decide +kernel
def k_Rd_denial : List jB := [
  (0, [0, 1], [(.iconst 0, []), (.istore_n 2, [])], 1),
  (2, [0, 1, 2], [(.iload_n 2, []), (.bipush 64, []), (.if_icmp .gt 30, [3]), (.aload_n 0, []), (.getfield 14, [4, 2, 4]), (.getfield 40, [7, 0, 0]), (.bipush 14, []), (.if_icmp .ne 18, [3]), (.aload_n 0, []), (.invokevirtual 165, [78, 0, 4, 1]), (.ifCond .ne 5, [2]), (.iconst 0, []), (.ireturn, [])], 0),
  (29, [0, 1, 2], [(.iinc 2 1, []), (.goto (-30), [1])], 0),
  (35, [0, 1, 2], [(.aload_n 0, []), (.iconst 3, []), (.iload_n 1, []), (.invokevirtual 141, [76, 2, 4, 1]), (.ifCond .ne 5, [4]), (.iconst 0, []), (.ireturn, [])], 0),
  (46, [0, 2], [(.iconst 0, []), (.istore_n 3, [])], 5),
  (48, [0, 2, 3], [(.iload_n 3, []), (.iload_n 2, []), (.if_icmp .ge 22, [6]), (.aload_n 0, []), (.getfield 20, [4, 3, 3]), (.getfield 128, [6, 12, 4]), (.bipush 14, []), (.iconst 0, []), (.invokevirtual 168, [22, 2, 1, 0]), (.iinc 3 1, []), (.goto (-21), [5])], 0),
  (72, [], [(.iconst 1, []), (.ireturn, [])], 0)]
def mt_79 : Nat × Nat × List jB := (2, 4, k_Rd_denial)
set_option maxRecDepth 100000 in
theorem ck_79 : jok jm_79 mt_79 = true := by decide +kernel
def k_Rd_operand : List jB := [
  (0, [0, 1], [(.aload_n 0, []), (.getfield 14, [4, 2, 4]), (.getfield 40, [7, 0, 0]), (.bipush 40, []), (.if_icmp .ne 9, [1]), (.aload_n 0, []), (.iload_n 1, []), (.invokevirtual 177, [81, 1, 4, 1]), (.ireturn, [])], 0),
  (18, [0], [(.aload_n 0, []), (.getfield 14, [4, 2, 4]), (.getfield 40, [7, 0, 0]), (.bipush 17, []), (.if_icmp .eq 22, [2]), (.aload_n 0, []), (.getfield 14, [4, 2, 4]), (.getfield 40, [7, 0, 0]), (.invokestatic 180, [103, 1, 1]), (.ifCond .ne 9, [2]), (.aload_n 0, []), (.iconst 1, []), (.invokevirtual 46, [64, 1, 4, 1]), (.ireturn, [])], 0),
  (49, [0], [(.aload_n 0, []), (.getfield 14, [4, 2, 4]), (.getfield 40, [7, 0, 0]), (.bipush 17, []), (.if_icmp .ne 22, [3]), (.aload_n 0, []), (.getfield 14, [4, 2, 4]), (.getfield 75, [7, 2, 0]), (.sipush 9999, []), (.if_icmp .le 9, [3]), (.aload_n 0, []), (.iconst 2, []), (.invokevirtual 46, [64, 1, 4, 1]), (.ireturn, [])], 0),
  (80, [0], [(.aload_n 0, []), (.getfield 14, [4, 2, 4]), (.getfield 40, [7, 0, 0]), (.istore_n 2, []), (.aload_n 0, []), (.getfield 14, [4, 2, 4]), (.getfield 75, [7, 2, 0]), (.istore_n 3, []), (.aload_n 0, []), (.invokevirtual 165, [78, 0, 4, 1]), (.ifCond .ne 5, [4]), (.iconst 0, []), (.ireturn, [])], 0),
  (105, [0, 2, 3], [(.aload_n 0, []), (.getfield 20, [4, 3, 3]), (.getfield 128, [6, 12, 4]), (.iload_n 2, []), (.iload_n 3, []), (.invokevirtual 168, [22, 2, 1, 0]), (.iconst 1, []), (.ireturn, [])], 0)]
def mt_80 : Nat × Nat × List jB := (2, 4, k_Rd_operand)
set_option maxRecDepth 100000 in
theorem ck_80 : jok jm_80 mt_80 = true := by decide +kernel
def k_Rd_enclosed : List jB := [
  (0, [0, 1], [(.iload_n 1, []), (.bipush 8, []), (.if_icmp .lt 9, [1]), (.aload_n 0, []), (.iconst 2, []), (.invokevirtual 46, [64, 1, 4, 1]), (.ireturn, [])], 0),
  (12, [0, 1], [(.aload_n 0, []), (.getfield 14, [4, 2, 4]), (.invokevirtual 50, [106, 0, 7, 0]), (.aload_n 0, []), (.iconst 0, []), (.iload_n 1, []), (.iconst 1, []), (.iadd, []), (.invokevirtual 141, [76, 2, 4, 1]), (.ifCond .eq 16, [2]), (.aload_n 0, []), (.bipush 41, []), (.invokevirtual 57, [65, 1, 4, 1]), (.ifCond .eq 7, [2]), (.iconst 1, []), (.goto 4, [3])], 0),
  (43, [], [(.iconst 0, [])], 3),
  (44, [], [(.ireturn, [])], 0)]
def mt_81 : Nat × Nat × List jB := (2, 2, k_Rd_enclosed)
set_option maxRecDepth 100000 in
theorem ck_81 : jok jm_81 mt_81 = true := by decide +kernel
def k_Rw_take : List jB := [
  (0, [0, 1, 2, 4], [(.iload_n 1, []), (.iconst 2, []), (.bipush 10, []), (.invokestatic 15, [152, 3, 1]), (.ifCond .ne 5, [1]), (.iconst 0, []), (.ireturn, [])], 0),
  (12, [0, 1, 2, 4], [(.iconst 0, []), (.istore 5, []), (.iconst 0, []), (.istore 6, [])], 2),
  (18, [0, 1, 2, 4, 5, 6], [(.iload 6, []), (.iload_n 1, []), (.if_icmp .ge 58, [5]), (.lload_n 2, []), (.iconst 4, []), (.iload 6, []), (.imul, []), (.lushr, []), (.l2i, []), (.bipush 15, []), (.iand, []), (.istore 7, []), (.iload 7, []), (.iload 4, []), (.if_icmp .ge 13, [3]), (.iload 5, []), (.iload 7, []), (.ishr, []), (.iconst 1, []), (.iand, []), (.ifCond .eq 5, [4])], 3),
  (53, [], [(.iconst 0, []), (.ireturn, [])], 0),
  (55, [0, 1, 2, 4, 5, 6, 7], [(.iload 5, []), (.iconst 1, []), (.iload 7, []), (.ishl, []), (.ior, []), (.istore 5, []), (.aload_n 0, []), (.getfield 9, [5, 1, 4]), (.iload 6, []), (.iload 7, []), (.iastore, []), (.iinc 6 1, []), (.goto (-58), [2])], 0),
  (79, [0, 1], [(.aload_n 0, []), (.iload_n 1, []), (.putfield 19, [5, 0, 0]), (.iconst 1, []), (.ireturn, [])], 0)]
def mt_82 : Nat × Nat × List jB := (2, 8, k_Rw_take)
set_option maxRecDepth 100000 in
theorem ck_82 : jok jm_82 mt_82 = true := by decide +kernel
def k_Rw_placed : List jB := [
  (0, [0, 1], [(.iload_n 0, []), (.i2l, []), (.iconst 4, []), (.iload_n 1, []), (.imul, []), (.lshl, []), (.lreturn, [])], 0)]
def mt_83 : Nat × Nat × List jB := (3, 2, k_Rw_placed)
set_option maxRecDepth 100000 in
theorem ck_83 : jok jm_83 mt_83 = true := by decide +kernel
def k_Rw_carriers : List jB := [
  (0, [0], [(.aload_n 0, []), (.getfield 19, [5, 0, 0]), (.iconst 2, []), (.isub, []), (.ireturn, [])], 0)]
def mt_84 : Nat × Nat × List jB := (1, 1, k_Rw_carriers)
set_option maxRecDepth 100000 in
theorem ck_84 : jok jm_84 mt_84 = true := by decide +kernel
def k_Rw_placeOf : List jB := [
  (0, [0, 1], [(.iconst 1, []), (.istore_n 2, [])], 1),
  (2, [0, 1, 2], [(.iload_n 2, []), (.aload_n 0, []), (.getfield 19, [5, 0, 0]), (.iconst 1, []), (.isub, []), (.if_icmp .ge 21, [3]), (.aload_n 0, []), (.getfield 9, [5, 1, 4]), (.iload_n 2, []), (.iaload, []), (.iload_n 1, []), (.if_icmp .ne 5, [2]), (.iload_n 2, []), (.ireturn, [])], 0),
  (24, [0, 1, 2], [(.iinc 2 1, []), (.goto (-25), [1])], 0),
  (30, [], [(.iconst 0, []), (.ireturn, [])], 0)]
def mt_85 : Nat × Nat × List jB := (1, 3, k_Rw_placeOf)
set_option maxRecDepth 100000 in
theorem ck_85 : jok jm_85 mt_85 = true := by decide +kernel
def k_Rw_isCarrier : List jB := [
  (0, [0, 1], [(.aload_n 0, []), (.iload_n 1, []), (.invokevirtual 23, [85, 1, 5, 1]), (.ifCond .le 7, [1]), (.iconst 1, []), (.goto 4, [2])], 0),
  (12, [], [(.iconst 0, [])], 2),
  (13, [], [(.ireturn, [])], 0)]
def mt_86 : Nat × Nat × List jB := (2, 2, k_Rw_isCarrier)
set_option maxRecDepth 100000 in
theorem ck_86 : jok jm_86 mt_86 = true := by decide +kernel
def k_Rw_swapAt : List jB := [
  (0, [0, 1], [(.aload_n 0, []), (.getfield 9, [5, 1, 4]), (.iload_n 1, []), (.iaload, []), (.istore_n 2, []), (.aload_n 0, []), (.getfield 9, [5, 1, 4]), (.iload_n 1, []), (.aload_n 0, []), (.getfield 9, [5, 1, 4]), (.iload_n 1, []), (.iconst 1, []), (.iadd, []), (.iaload, []), (.iastore, []), (.aload_n 0, []), (.getfield 9, [5, 1, 4]), (.iload_n 1, []), (.iconst 1, []), (.iadd, []), (.iload_n 2, []), (.iastore, []), (.return_, [])], 0)]
def mt_87 : Nat × Nat × List jB := (0, 3, k_Rw_swapAt)
set_option maxRecDepth 100000 in
theorem ck_87 : jok jm_87 mt_87 = true := by decide +kernel
def k_Rw_arriving : List jB := [
  (0, [0, 1, 2, 3], [(.iload_n 3, []), (.istore 4, []), (.iconst 1, []), (.istore 5, [])], 1),
  (6, [0, 1, 2, 4, 5], [(.iload 5, []), (.aload_n 0, []), (.getfield 19, [5, 0, 0]), (.iconst 1, []), (.isub, []), (.if_icmp .ge 43, [2]), (.iload 4, []), (.aload_n 1, []), (.getfield 27, [6, 12, 4]), (.iload_n 2, []), (.iload 4, []), (.aload_n 0, []), (.aload_n 1, []), (.iload 5, []), (.invokevirtual 33, [90, 2, 5, 1]), (.aload_n 0, []), (.aload_n 1, []), (.iload 5, []), (.iconst 1, []), (.iadd, []), (.invokevirtual 33, [90, 2, 5, 1]), (.iload 5, []), (.iconst 0, []), (.invokevirtual 37, [24, 6, 1, 1]), (.isub, []), (.istore 4, []), (.iinc 5 1, []), (.goto (-48), [1])], 0),
  (57, [4], [(.iload 4, []), (.ireturn, [])], 0)]
def mt_88 : Nat × Nat × List jB := (1, 6, k_Rw_arriving)
set_option maxRecDepth 100000 in
theorem ck_88 : jok jm_88 mt_88 = true := by decide +kernel
def k_Rw_keptAt : List jB := [
  (0, [0, 1, 2, 3], [(.iload_n 2, []), (.istore 4, []), (.iconst 0, []), (.istore 5, []), (.iconst 1, []), (.istore 6, [])], 1),
  (9, [0, 1, 3, 4, 5, 6], [(.iload 6, []), (.iload_n 3, []), (.if_icmp .gt 58, [2]), (.iload 6, []), (.aload_n 0, []), (.getfield 19, [5, 0, 0]), (.iconst 1, []), (.isub, []), (.if_icmp .ge 47, [2]), (.aload_n 1, []), (.getfield 27, [6, 12, 4]), (.iconst 4, []), (.iload 4, []), (.aload_n 0, []), (.aload_n 1, []), (.iload 6, []), (.invokevirtual 33, [90, 2, 5, 1]), (.aload_n 0, []), (.aload_n 1, []), (.iload 6, []), (.iconst 1, []), (.iadd, []), (.invokevirtual 33, [90, 2, 5, 1]), (.iload 6, []), (.iconst 0, []), (.invokevirtual 37, [24, 6, 1, 1]), (.istore 5, []), (.iload 4, []), (.iload 5, []), (.isub, []), (.istore 4, []), (.iinc 6 1, []), (.goto (-58), [1])], 0),
  (70, [5], [(.iload 5, []), (.ireturn, [])], 0)]
def mt_89 : Nat × Nat × List jB := (1, 7, k_Rw_keptAt)
set_option maxRecDepth 100000 in
theorem ck_89 : jok jm_89 mt_89 = true := by decide +kernel
