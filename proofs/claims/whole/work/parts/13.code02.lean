/-! The methods' blocks, held against their bytes. Printed by wip/gen/code.py. -/
def k_Rw_ageAt : List jB := [
  (0, [0, 1, 2], [(.aload_n 1, []), (.getfield 43, [6, 2, 4]), (.aload_n 0, []), (.getfield 9, [5, 1, 4]), (.iload_n 2, []), (.iaload, []), (.iaload, []), (.ireturn, [])], 0)]
def mt_90 : Nat × Nat × List jB := (1, 3, k_Rw_ageAt)
set_option maxRecDepth 100000 in
theorem ck_90 : jok jm_90 mt_90 = true := by decide +kernel
def k_Rw_leastBringing : List jB := [
  (0, [0, 1, 2], [(.iconst 1, []), (.aload_n 0, []), (.invokevirtual 46, [84, 0, 5, 1]), (.ishl, []), (.istore_n 3, []), (.iconst 0, []), (.iload_n 2, []), (.iconst 1, []), (.isub, []), (.iload_n 3, []), (.imul, []), (.iconst 1, []), (.iadd, []), (.invokestatic 50, [910, 0]), (.istore 4, []), (.iload_n 2, []), (.iload_n 3, []), (.imul, []), (.istore 5, []), (.iconst 0, []), (.istore 6, [])], 1),
  (28, [0, 1, 2, 4, 5, 6], [(.iload 6, []), (.aload_n 0, []), (.invokevirtual 46, [84, 0, 5, 1]), (.if_icmp .gt 50, [4]), (.iload 4, []), (.iload 5, []), (.if_icmp .ge 43, [4]), (.iload 4, []), (.iload 5, []), (.iadd, []), (.iconst 2, []), (.idiv, []), (.istore 7, []), (.aload_n 0, []), (.aload_n 1, []), (.iconst 4, []), (.iload 7, []), (.invokevirtual 56, [88, 3, 5, 1]), (.iload_n 2, []), (.if_icmp .lt 10, [2]), (.iload 7, []), (.istore 5, []), (.goto 9, [3])], 0),
  (72, [0, 1, 2, 5, 6, 7], [(.iload 7, []), (.iconst 1, []), (.iadd, []), (.istore 4, [])], 3),
  (78, [0, 1, 2, 4, 5, 6], [(.iinc 6 1, []), (.goto (-53), [1])], 0),
  (84, [5], [(.iload 5, []), (.ireturn, [])], 0)]
def mt_91 : Nat × Nat × List jB := (1, 8, k_Rw_leastBringing)
set_option maxRecDepth 100000 in
theorem ck_91 : jok jm_91 mt_91 = true := by decide +kernel
def k_Te_clear : List jB := [
  (0, [0], [(.aload_n 0, []), (.iconst 0, []), (.putfield 46, [6, 0, 0]), (.aload_n 0, []), (.iconst 0, []), (.putfield 50, [6, 6, 0]), (.aload_n 0, []), (.iconst 0, []), (.putfield 53, [6, 10, 0]), (.aload_n 0, []), (.getfield 42, [6, 12, 4]), (.invokevirtual 56, [19, 0, 1, 0]), (.return_, [])], 0)]
def mt_92 : Nat × Nat × List jB := (0, 1, k_Te_clear)
set_option maxRecDepth 100000 in
theorem ck_92 : jok jm_92 mt_92 = true := by decide +kernel
def k_Te_isPerson : List jB := [
  (0, [0, 1], [(.iload_n 1, []), (.iconst 0, []), (.aload_n 0, []), (.getfield 46, [6, 0, 0]), (.iconst 1, []), (.isub, []), (.invokestatic 59, [152, 3, 1]), (.ireturn, [])], 0)]
def mt_93 : Nat × Nat × List jB := (2, 2, k_Te_isPerson)
set_option maxRecDepth 100000 in
theorem ck_93 : jok jm_93 mt_93 = true := by decide +kernel
def k_Te_personNamed : List jB := [
  (0, [0, 1], [(.iload_n 1, []), (.aload_n 0, []), (.getfield 9, [6, 1, 4]), (.aload_n 0, []), (.getfield 46, [6, 0, 0]), (.invokestatic 63, [96, 3, 1]), (.ireturn, [])], 0)]
def mt_94 : Nat × Nat × List jB := (1, 2, k_Te_personNamed)
set_option maxRecDepth 100000 in
theorem ck_94 : jok jm_94 mt_94 = true := by decide +kernel
def k_Te_mayNamed : List jB := [
  (0, [0, 1], [(.iload_n 1, []), (.aload_n 0, []), (.getfield 36, [6, 11, 4]), (.aload_n 0, []), (.getfield 53, [6, 10, 0]), (.invokestatic 63, [96, 3, 1]), (.ireturn, [])], 0)]
def mt_95 : Nat × Nat × List jB := (1, 2, k_Te_mayNamed)
set_option maxRecDepth 100000 in
theorem ck_95 : jok jm_95 mt_95 = true := by decide +kernel
def k_Te_placeOf : List jB := [
  (0, [0, 1, 2], [(.iconst 0, []), (.istore_n 3, [])], 1),
  (2, [0, 1, 2, 3], [(.iload_n 3, []), (.iload_n 2, []), (.if_icmp .ge 24, [3]), (.iload_n 3, []), (.aload_n 1, []), (.arraylength, []), (.if_icmp .ge 18, [3]), (.aload_n 1, []), (.iload_n 3, []), (.iaload, []), (.iload_n 0, []), (.if_icmp .ne 5, [2]), (.iload_n 3, []), (.ireturn, [])], 0),
  (22, [0, 1, 2, 3], [(.iinc 3 1, []), (.goto (-23), [1])], 0),
  (28, [], [(.iconst (-1), []), (.ireturn, [])], 0)]
def mt_96 : Nat × Nat × List jB := (1, 4, k_Te_placeOf)
set_option maxRecDepth 100000 in
theorem ck_96 : jok jm_96 mt_96 = true := by decide +kernel
def k_Te_addPerson : List jB := [
  (0, [0, 1, 2], [(.aload_n 0, []), (.getfield 46, [6, 0, 0]), (.bipush 10, []), (.if_icmp .ge 53, [1]), (.aload_n 0, []), (.getfield 9, [6, 1, 4]), (.aload_n 0, []), (.getfield 46, [6, 0, 0]), (.iload_n 1, []), (.iastore, []), (.aload_n 0, []), (.getfield 15, [6, 2, 4]), (.aload_n 0, []), (.getfield 46, [6, 0, 0]), (.iload_n 2, []), (.iastore, []), (.aload_n 0, []), (.getfield 18, [6, 3, 4]), (.aload_n 0, []), (.getfield 46, [6, 0, 0]), (.iconst 0, []), (.iastore, []), (.aload_n 0, []), (.getfield 21, [6, 4, 4]), (.aload_n 0, []), (.getfield 46, [6, 0, 0]), (.iconst 0, []), (.iastore, []), (.aload_n 0, []), (.dup, []), (.getfield 46, [6, 0, 0]), (.iconst 1, []), (.iadd, []), (.putfield 46, [6, 0, 0])], 1),
  (59, [], [(.return_, [])], 0)]
def mt_97 : Nat × Nat × List jB := (0, 3, k_Te_addPerson)
set_option maxRecDepth 100000 in
theorem ck_97 : jok jm_97 mt_97 = true := by decide +kernel
def k_Te_addHeir : List jB := [
  (0, [0, 1, 2], [(.aload_n 0, []), (.getfield 21, [6, 4, 4]), (.iload_n 1, []), (.iaload, []), (.iconst 3, []), (.if_icmp .ge 29, [1]), (.aload_n 0, []), (.getfield 24, [6, 5, 4]), (.iload_n 1, []), (.iconst 3, []), (.imul, []), (.aload_n 0, []), (.getfield 21, [6, 4, 4]), (.iload_n 1, []), (.iaload, []), (.iadd, []), (.iload_n 2, []), (.iastore, []), (.aload_n 0, []), (.getfield 21, [6, 4, 4]), (.iload_n 1, []), (.dup2, []), (.iaload, []), (.iconst 1, []), (.iadd, []), (.iastore, [])], 1),
  (36, [], [(.return_, [])], 0)]
def mt_98 : Nat × Nat × List jB := (0, 3, k_Te_addHeir)
set_option maxRecDepth 100000 in
theorem ck_98 : jok jm_98 mt_98 = true := by decide +kernel
def k_Te_addParcel : List jB := [
  (0, [0, 1, 2, 3], [(.aload_n 0, []), (.getfield 50, [6, 6, 0]), (.bipush 12, []), (.if_icmp .ge 43, [1]), (.aload_n 0, []), (.getfield 27, [6, 7, 4]), (.aload_n 0, []), (.getfield 50, [6, 6, 0]), (.iload_n 1, []), (.iastore, []), (.aload_n 0, []), (.getfield 30, [6, 8, 4]), (.aload_n 0, []), (.getfield 50, [6, 6, 0]), (.iload_n 2, []), (.iastore, []), (.aload_n 0, []), (.getfield 33, [6, 9, 4]), (.aload_n 0, []), (.getfield 50, [6, 6, 0]), (.iload_n 3, []), (.iastore, []), (.aload_n 0, []), (.dup, []), (.getfield 50, [6, 6, 0]), (.iconst 1, []), (.iadd, []), (.putfield 50, [6, 6, 0])], 1),
  (49, [], [(.return_, [])], 0)]
def mt_99 : Nat × Nat × List jB := (0, 4, k_Te_addParcel)
set_option maxRecDepth 100000 in
theorem ck_99 : jok jm_99 mt_99 = true := by decide +kernel
def k_Te_addMay : List jB := [
  (0, [0, 1], [(.aload_n 0, []), (.getfield 53, [6, 10, 0]), (.iconst 4, []), (.if_icmp .ge 23, [1]), (.aload_n 0, []), (.getfield 36, [6, 11, 4]), (.aload_n 0, []), (.getfield 53, [6, 10, 0]), (.iload_n 1, []), (.iastore, []), (.aload_n 0, []), (.dup, []), (.getfield 53, [6, 10, 0]), (.iconst 1, []), (.iadd, []), (.putfield 53, [6, 10, 0])], 1),
  (28, [], [(.return_, [])], 0)]
def mt_100 : Nat × Nat × List jB := (0, 2, k_Te_addMay)
set_option maxRecDepth 100000 in
theorem ck_100 : jok jm_100 mt_100 = true := by decide +kernel
def k_Te_heir : List jB := [
  (0, [0, 1, 2], [(.iload_n 2, []), (.iconst 0, []), (.aload_n 0, []), (.getfield 21, [6, 4, 4]), (.iload_n 1, []), (.iaload, []), (.iconst 1, []), (.isub, []), (.invokestatic 59, [152, 3, 1]), (.ifCond .eq 16, [1]), (.aload_n 0, []), (.getfield 24, [6, 5, 4]), (.iload_n 1, []), (.iconst 3, []), (.imul, []), (.iload_n 2, []), (.iadd, []), (.iaload, []), (.goto 4, [2])], 0),
  (29, [], [(.iconst (-1), [])], 2),
  (30, [], [(.ireturn, [])], 0)]
def mt_101 : Nat × Nat × List jB := (1, 3, k_Te_heir)
set_option maxRecDepth 100000 in
theorem ck_101 : jok jm_101 mt_101 = true := by decide +kernel
def k_Te_handsTo : List jB := [
  (0, [0, 1, 2], [(.iconst 0, []), (.istore_n 3, [])], 1),
  (2, [0, 1, 2, 3], [(.iload_n 3, []), (.aload_n 0, []), (.getfield 21, [6, 4, 4]), (.iload_n 1, []), (.iaload, []), (.if_icmp .ge 21, [3]), (.aload_n 0, []), (.iload_n 1, []), (.iload_n 3, []), (.invokevirtual 67, [101, 2, 6, 1]), (.iload_n 2, []), (.if_icmp .ne 5, [2]), (.iconst 1, []), (.ireturn, [])], 0),
  (24, [0, 1, 2, 3], [(.iinc 3 1, []), (.goto (-25), [1])], 0),
  (30, [], [(.iconst 0, []), (.ireturn, [])], 0)]
def mt_102 : Nat × Nat × List jB := (2, 4, k_Te_handsTo)
set_option maxRecDepth 100000 in
theorem ck_102 : jok jm_102 mt_102 = true := by decide +kernel
def k_Tk_isName : List jB := [
  (0, [0], [(.iload_n 0, []), (.iconst 0, []), (.iconst 5, []), (.invokestatic 30, [152, 3, 1]), (.ireturn, [])], 0)]
def mt_103 : Nat × Nat × List jB := (2, 1, k_Tk_isName)
set_option maxRecDepth 100000 in
theorem ck_103 : jok jm_103 mt_103 = true := by decide +kernel
def k_Tk_isComparison : List jB := [
  (0, [0], [(.iload_n 0, []), (.bipush 60, []), (.bipush 62, []), (.invokestatic 30, [152, 3, 1]), (.ifCond .ne 16, [1]), (.iload_n 0, []), (.sipush 256, []), (.sipush 258, []), (.invokestatic 30, [152, 3, 1]), (.ifCond .eq 7, [2])], 1),
  (24, [], [(.iconst 1, []), (.goto 4, [3])], 0),
  (28, [], [(.iconst 0, [])], 3),
  (29, [], [(.ireturn, [])], 0)]
def mt_104 : Nat × Nat × List jB := (2, 1, k_Tk_isComparison)
set_option maxRecDepth 100000 in
theorem ck_104 : jok jm_104 mt_104 = true := by decide +kernel
def k_Tk_begin : List jB := [
  (0, [0, 1], [(.aload_n 0, []), (.iload_n 1, []), (.aload_n 0, []), (.getfield 15, [7, 5, 4]), (.arraylength, []), (.invokestatic 34, [911, 0]), (.putfield 40, [7, 4, 0]), (.aload_n 0, []), (.iconst 0, []), (.putfield 43, [7, 3, 0]), (.aload_n 0, []), (.invokevirtual 46, [106, 0, 7, 0]), (.return_, [])], 0)]
def mt_105 : Nat × Nat × List jB := (0, 2, k_Tk_begin)
set_option maxRecDepth 100000 in
theorem ck_105 : jok jm_105 mt_105 = true := by decide +kernel
def k_Tk_advance : List jB := [
  (0, [0], [(.aload_n 0, []), (.aload_n 0, []), (.getfield 43, [7, 3, 0]), (.putfield 49, [7, 1, 0])], 1),
  (8, [0], [(.aload_n 0, []), (.getfield 49, [7, 1, 0]), (.aload_n 0, []), (.getfield 40, [7, 4, 0]), (.if_icmp .ge 44, [3]), (.aload_n 0, []), (.getfield 15, [7, 5, 4]), (.aload_n 0, []), (.getfield 49, [7, 1, 0]), (.iaload, []), (.bipush 32, []), (.if_icmp .eq 17, [2]), (.aload_n 0, []), (.getfield 15, [7, 5, 4]), (.aload_n 0, []), (.getfield 49, [7, 1, 0]), (.iaload, []), (.bipush 10, []), (.if_icmp .ne 16, [3])], 2),
  (47, [0], [(.aload_n 0, []), (.dup, []), (.getfield 49, [7, 1, 0]), (.iconst 1, []), (.iadd, []), (.putfield 49, [7, 1, 0]), (.goto (-49), [1])], 0),
  (60, [0], [(.aload_n 0, []), (.aload_n 0, []), (.getfield 49, [7, 1, 0]), (.putfield 43, [7, 3, 0]), (.aload_n 0, []), (.getfield 49, [7, 1, 0]), (.aload_n 0, []), (.getfield 40, [7, 4, 0]), (.if_icmp .lt 12, [4]), (.aload_n 0, []), (.bipush 18, []), (.putfield 52, [7, 0, 0]), (.goto 59, [7])], 0),
  (88, [0], [(.aload_n 0, []), (.getfield 15, [7, 5, 4]), (.aload_n 0, []), (.getfield 49, [7, 1, 0]), (.iaload, []), (.bipush 97, []), (.bipush 122, []), (.invokestatic 30, [152, 3, 1]), (.ifCond .eq 10, [5]), (.aload_n 0, []), (.invokevirtual 55, [107, 0, 7, 0]), (.goto 33, [7])], 0),
  (114, [0], [(.aload_n 0, []), (.getfield 15, [7, 5, 4]), (.aload_n 0, []), (.getfield 49, [7, 1, 0]), (.iaload, []), (.bipush 48, []), (.bipush 57, []), (.invokestatic 30, [152, 3, 1]), (.ifCond .eq 10, [6]), (.aload_n 0, []), (.invokevirtual 58, [108, 0, 7, 0]), (.goto 7, [7])], 0),
  (140, [0], [(.aload_n 0, []), (.invokevirtual 61, [109, 0, 7, 0])], 7),
  (144, [], [(.return_, [])], 0)]
def mt_106 : Nat × Nat × List jB := (0, 1, k_Tk_advance)
set_option maxRecDepth 100000 in
theorem ck_106 : jok jm_106 mt_106 = true := by decide +kernel
def k_Tk_readWord : List jB := [
  (0, [0], [(.aload_n 0, []), (.iconst 0, []), (.putfield 64, [7, 2, 0])], 1),
  (5, [0], [(.aload_n 0, []), (.getfield 43, [7, 3, 0]), (.aload_n 0, []), (.getfield 40, [7, 4, 0]), (.if_icmp .ge 69, [2]), (.aload_n 0, []), (.getfield 15, [7, 5, 4]), (.aload_n 0, []), (.getfield 43, [7, 3, 0]), (.iaload, []), (.bipush 97, []), (.if_icmp .lt 55, [2]), (.aload_n 0, []), (.getfield 15, [7, 5, 4]), (.aload_n 0, []), (.getfield 43, [7, 3, 0]), (.iaload, []), (.bipush 122, []), (.if_icmp .gt 41, [2]), (.aload_n 0, []), (.aload_n 0, []), (.getfield 64, [7, 2, 0]), (.iconst 5, []), (.ishl, []), (.aload_n 0, []), (.getfield 15, [7, 5, 4]), (.aload_n 0, []), (.getfield 43, [7, 3, 0]), (.iaload, []), (.bipush 97, []), (.isub, []), (.iconst 1, []), (.iadd, []), (.ior, []), (.putfield 64, [7, 2, 0]), (.aload_n 0, []), (.dup, []), (.getfield 43, [7, 3, 0]), (.iconst 1, []), (.iadd, []), (.putfield 43, [7, 3, 0]), (.goto (-74), [1])], 0),
  (82, [0], [(.aload_n 0, []), (.getfield 43, [7, 3, 0]), (.aload_n 0, []), (.getfield 49, [7, 1, 0]), (.isub, []), (.istore_n 1, []), (.iload_n 1, []), (.bipush 6, []), (.if_icmp .le 10, [3]), (.aload_n 0, []), (.bipush 19, []), (.putfield 52, [7, 0, 0]), (.return_, [])], 0),
  (105, [0, 1], [(.aload_n 0, []), (.dup, []), (.getfield 64, [7, 2, 0]), (.iconst 5, []), (.bipush 6, []), (.iload_n 1, []), (.isub, []), (.imul, []), (.ishl, []), (.putfield 64, [7, 2, 0]), (.aload_n 0, []), (.bipush 16, []), (.putfield 52, [7, 0, 0]), (.iconst 0, []), (.istore_n 2, [])], 4),
  (128, [0, 2], [(.iload_n 2, []), (.bipush 16, []), (.if_icmp .ge 27, [6]), (.aload_n 0, []), (.getfield 11, [7, 6, 4]), (.iload_n 2, []), (.iaload, []), (.aload_n 0, []), (.getfield 64, [7, 2, 0]), (.if_icmp .ne 8, [5]), (.aload_n 0, []), (.iload_n 2, []), (.putfield 52, [7, 0, 0])], 5),
  (152, [0, 2], [(.iinc 2 1, []), (.goto (-27), [4])], 0),
  (158, [], [(.return_, [])], 0)]
def mt_107 : Nat × Nat × List jB := (0, 3, k_Tk_readWord)
set_option maxRecDepth 100000 in
theorem ck_107 : jok jm_107 mt_107 = true := by decide +kernel
def k_Tk_readNumber : List jB := [
  (0, [0], [(.aload_n 0, []), (.bipush 17, []), (.putfield 52, [7, 0, 0]), (.aload_n 0, []), (.iconst 0, []), (.putfield 64, [7, 2, 0])], 1),
  (11, [0], [(.aload_n 0, []), (.getfield 43, [7, 3, 0]), (.aload_n 0, []), (.getfield 40, [7, 4, 0]), (.if_icmp .ge 73, [2]), (.aload_n 0, []), (.getfield 15, [7, 5, 4]), (.aload_n 0, []), (.getfield 43, [7, 3, 0]), (.iaload, []), (.bipush 48, []), (.if_icmp .lt 59, [2]), (.aload_n 0, []), (.getfield 15, [7, 5, 4]), (.aload_n 0, []), (.getfield 43, [7, 3, 0]), (.iaload, []), (.bipush 57, []), (.if_icmp .gt 45, [2]), (.aload_n 0, []), (.aload_n 0, []), (.getfield 64, [7, 2, 0]), (.bipush 10, []), (.imul, []), (.aload_n 0, []), (.getfield 15, [7, 5, 4]), (.aload_n 0, []), (.getfield 43, [7, 3, 0]), (.iaload, []), (.iadd, []), (.bipush 48, []), (.isub, []), (.ldc 67, [1000000]), (.invokestatic 34, [911, 0]), (.putfield 64, [7, 2, 0]), (.aload_n 0, []), (.dup, []), (.getfield 43, [7, 3, 0]), (.iconst 1, []), (.iadd, []), (.putfield 43, [7, 3, 0]), (.goto (-78), [1])], 0),
  (92, [], [(.return_, [])], 0)]
def mt_108 : Nat × Nat × List jB := (0, 1, k_Tk_readNumber)
set_option maxRecDepth 100000 in
theorem ck_108 : jok jm_108 mt_108 = true := by decide +kernel
def k_Tk_readSign : List jB := [
  (0, [0], [(.aload_n 0, []), (.getfield 15, [7, 5, 4]), (.aload_n 0, []), (.getfield 49, [7, 1, 0]), (.iaload, []), (.istore_n 1, []), (.aload_n 0, []), (.ldc 68, [1001, 1]), (.iload_n 1, []), (.i2c, []), (.invokevirtual 70, [903, 0, 0]), (.ifCond .ge 8, [1]), (.bipush 19, []), (.goto 4, [2])], 0),
  (26, [0, 1], [(.iload_n 1, [])], 2),
  (27, [0, 1], [(.putfield 52, [7, 0, 0]), (.aload_n 0, []), (.dup, []), (.getfield 43, [7, 3, 0]), (.iconst 1, []), (.iadd, []), (.putfield 43, [7, 3, 0]), (.aload_n 0, []), (.getfield 43, [7, 3, 0]), (.aload_n 0, []), (.getfield 40, [7, 4, 0]), (.if_icmp .ge 15, [3]), (.aload_n 0, []), (.getfield 15, [7, 5, 4]), (.aload_n 0, []), (.getfield 43, [7, 3, 0]), (.iaload, []), (.goto 4, [4])], 0),
  (63, [0, 1], [(.iconst (-1), [])], 4),
  (64, [0, 1], [(.istore_n 2, []), (.iload_n 1, []), (.bipush 60, []), (.if_icmp .ne 29, [5]), (.iload_n 2, []), (.bipush 61, []), (.if_icmp .ne 23, [5]), (.aload_n 0, []), (.sipush 256, []), (.putfield 52, [7, 0, 0]), (.aload_n 0, []), (.dup, []), (.getfield 43, [7, 3, 0]), (.iconst 1, []), (.iadd, []), (.putfield 43, [7, 3, 0]), (.goto 64, [7])], 0),
  (97, [0, 1, 2], [(.iload_n 1, []), (.bipush 60, []), (.if_icmp .ne 29, [6]), (.iload_n 2, []), (.bipush 62, []), (.if_icmp .ne 23, [6]), (.aload_n 0, []), (.sipush 257, []), (.putfield 52, [7, 0, 0]), (.aload_n 0, []), (.dup, []), (.getfield 43, [7, 3, 0]), (.iconst 1, []), (.iadd, []), (.putfield 43, [7, 3, 0]), (.goto 32, [7])], 0),
  (129, [0, 1, 2], [(.iload_n 1, []), (.bipush 62, []), (.if_icmp .ne 26, [7]), (.iload_n 2, []), (.bipush 61, []), (.if_icmp .ne 20, [7]), (.aload_n 0, []), (.sipush 258, []), (.putfield 52, [7, 0, 0]), (.aload_n 0, []), (.dup, []), (.getfield 43, [7, 3, 0]), (.iconst 1, []), (.iadd, []), (.putfield 43, [7, 3, 0])], 7),
  (158, [], [(.return_, [])], 0)]
def mt_109 : Nat × Nat × List jB := (0, 3, k_Tk_readSign)
set_option maxRecDepth 100000 in
theorem ck_109 : jok jm_109 mt_109 = true := by decide +kernel
def k_HH_feed : List jB := [
  (0, [0, 1, 2, 3, 4, 5], [(.aload_n 0, []), (.getfield 74, [8, 1, 0]), (.bipush 20, []), (.iadd, []), (.sipush 700, []), (.if_icmp .le 5, [1]), (.iconst (-1), []), (.ireturn, [])], 0),
  (15, [0, 1, 2, 3, 4, 5], [(.aload_n 0, []), (.iload_n 1, []), (.invokevirtual 77, [111, 1, 8, 0]), (.aload_n 0, []), (.iload_n 2, []), (.invokevirtual 77, [111, 1, 8, 0]), (.aload_n 0, []), (.iload_n 3, []), (.invokevirtual 77, [111, 1, 8, 0]), (.aload_n 0, []), (.iload 4, []), (.invokevirtual 77, [111, 1, 8, 0]), (.aload_n 0, []), (.iload 5, []), (.invokevirtual 77, [111, 1, 8, 0]), (.aload_n 0, []), (.getfield 74, [8, 1, 0]), (.ireturn, [])], 0)]
def mt_110 : Nat × Nat × List jB := (1, 6, k_HH_feed)
set_option maxRecDepth 100000 in
theorem ck_110 : jok jm_110 mt_110 = true := by decide +kernel
def k_HH_append : List jB := [
  (0, [0, 1], [(.bipush 24, []), (.istore_n 2, [])], 1),
  (3, [0, 1, 2], [(.iload_n 2, []), (.ifCond .lt 45, [2]), (.aload_n 0, []), (.getfield 74, [8, 1, 0]), (.sipush 700, []), (.if_icmp .ge 35, [2]), (.aload_n 0, []), (.getfield 9, [8, 0, 4]), (.aload_n 0, []), (.getfield 74, [8, 1, 0]), (.iload_n 1, []), (.iload_n 2, []), (.iushr, []), (.sipush 255, []), (.iand, []), (.iastore, []), (.aload_n 0, []), (.dup, []), (.getfield 74, [8, 1, 0]), (.iconst 1, []), (.iadd, []), (.putfield 74, [8, 1, 0]), (.iinc 2 (-8), []), (.goto (-43), [1])], 0),
  (49, [], [(.return_, [])], 0)]
def mt_111 : Nat × Nat × List jB := (0, 3, k_HH_append)
set_option maxRecDepth 100000 in
theorem ck_111 : jok jm_111 mt_111 = true := by decide +kernel
def k_HH_text : List jB := [
  (0, [0, 1], [(.iload_n 1, []), (.ifCond .lt 11, [1]), (.iload_n 1, []), (.aload_n 0, []), (.getfield 74, [8, 1, 0]), (.if_icmp .le 6, [2])], 1),
  (12, [], [(.bipush (-2), []), (.ireturn, [])], 0),
  (15, [0, 1], [(.aload_n 0, []), (.iconst 0, []), (.putfield 74, [8, 1, 0]), (.aload_n 0, []), (.getfield 28, [8, 4, 4]), (.iload_n 1, []), (.aload_n 0, []), (.getfield 20, [8, 3, 3]), (.invokevirtual 81, [62, 2, 4, 0]), (.iconst 0, []), (.istore_n 2, []), (.iconst 0, []), (.istore_n 3, [])], 3),
  (36, [0, 1, 2, 3], [(.iload_n 3, []), (.iload_n 1, []), (.if_icmp .ge 30, [4]), (.aload_n 0, []), (.getfield 28, [8, 4, 4]), (.invokevirtual 85, [63, 0, 4, 1]), (.ifCond .eq 20, [4]), (.aload_n 0, []), (.getfield 28, [8, 4, 4]), (.invokevirtual 89, [66, 0, 4, 1]), (.pop, []), (.iinc 2 1, []), (.iinc 3 1, []), (.goto (-29), [3])], 0),
  (68, [0, 2], [(.aload_n 0, []), (.aload_n 0, []), (.getfield 28, [8, 4, 4]), (.getfield 92, [4, 0, 0]), (.putfield 95, [8, 5, 0]), (.aload_n 0, []), (.aload_n 0, []), (.getfield 28, [8, 4, 4]), (.getfield 98, [4, 1, 0]), (.putfield 32, [8, 6, 0]), (.aload_n 0, []), (.getfield 95, [8, 5, 0]), (.ifCond .eq 5, [5]), (.iconst (-1), []), (.ireturn, [])], 0),
  (99, [0, 2], [(.aload_n 0, []), (.getfield 16, [8, 2, 3]), (.astore_n 3, []), (.aload_n 0, []), (.aload_n 0, []), (.getfield 20, [8, 3, 3]), (.putfield 16, [8, 2, 3]), (.aload_n 0, []), (.aload_n 3, []), (.putfield 20, [8, 3, 3]), (.aload_n 0, []), (.getfield 41, [8, 7, 4]), (.aload_n 0, []), (.getfield 16, [8, 2, 3]), (.invokevirtual 99, [0, 1, 0, 0]), (.aload_n 0, []), (.getfield 70, [8, 13, 4]), (.invokevirtual 101, [27, 0, 2, 0]), (.aload_n 0, []), (.iconst 0, []), (.putfield 104, [8, 9, 1]), (.iload_n 2, []), (.ireturn, [])], 0)]
def mt_112 : Nat × Nat × List jB := (1, 4, k_HH_text)
set_option maxRecDepth 100000 in
theorem ck_112 : jok jm_112 mt_112 = true := by decide +kernel
def k_HH_fault : List jB := [
  (0, [0, 1], [(.iload_n 1, []), (.ifCond .ne 8, [1]), (.aload_n 0, []), (.getfield 95, [8, 5, 0]), (.ireturn, [])], 0),
  (9, [0, 1], [(.iload_n 1, []), (.iconst 1, []), (.if_icmp .ne 10, [2]), (.aload_n 0, []), (.getfield 32, [8, 6, 0]), (.goto 4, [3])], 0),
  (21, [], [(.iconst (-1), [])], 3),
  (22, [], [(.ireturn, [])], 0)]
def mt_113 : Nat × Nat × List jB := (1, 2, k_HH_fault)
set_option maxRecDepth 100000 in
theorem ck_113 : jok jm_113 mt_113 = true := by decide +kernel
def k_HH_named : List jB := [
  (0, [0, 1, 2], [(.iload_n 1, []), (.ifCond .ne 12, [1]), (.aload_n 0, []), (.getfield 16, [8, 2, 3]), (.iload_n 2, []), (.invokevirtual 108, [94, 1, 6, 1]), (.ireturn, [])], 0),
  (13, [0, 1, 2], [(.iload_n 1, []), (.iconst 1, []), (.if_icmp .ne 14, [2]), (.aload_n 0, []), (.getfield 16, [8, 2, 3]), (.iload_n 2, []), (.invokevirtual 112, [95, 1, 6, 1]), (.goto 4, [3])], 0),
  (29, [], [(.iconst (-1), [])], 3),
  (30, [], [(.ireturn, [])], 0)]
def mt_114 : Nat × Nat × List jB := (1, 3, k_HH_named)
set_option maxRecDepth 100000 in
theorem ck_114 : jok jm_114 mt_114 = true := by decide +kernel
def k_HH_look : List jB := [
  (0, [0, 1, 2], [(.aload_n 0, []), (.getfield 16, [8, 2, 3]), (.iload_n 1, []), (.invokevirtual 115, [93, 1, 6, 1]), (.ifCond .ne 11, [1]), (.new 119, []), (.dup, []), (.invokespecial 121, []), (.athrow, [])], 0),
  (19, [0, 1, 2], [(.iload_n 2, []), (.tableswitch 96 0 6 #[44, 54, 64, 74, 74, 74, 86], [7, 2, 3, 4, 5, 5, 5, 6])], 0),
  (64, [0, 1], [(.aload_n 0, []), (.getfield 16, [8, 2, 3]), (.getfield 122, [6, 2, 4]), (.iload_n 1, []), (.iaload, []), (.ireturn, [])], 0),
  (74, [0, 1], [(.aload_n 0, []), (.getfield 41, [8, 7, 4]), (.getfield 125, [0, 1, 4]), (.iload_n 1, []), (.iaload, []), (.ireturn, [])], 0),
  (84, [0, 1], [(.aload_n 0, []), (.getfield 16, [8, 2, 3]), (.getfield 128, [6, 4, 4]), (.iload_n 1, []), (.iaload, []), (.ireturn, [])], 0),
  (94, [0, 1, 2], [(.aload_n 0, []), (.getfield 16, [8, 2, 3]), (.iload_n 1, []), (.iload_n 2, []), (.iconst 3, []), (.isub, []), (.invokevirtual 131, [101, 2, 6, 1]), (.ireturn, [])], 0),
  (106, [0, 1], [(.aload_n 0, []), (.getfield 41, [8, 7, 4]), (.getfield 135, [0, 2, 4]), (.iload_n 1, []), (.iaload, []), (.ireturn, [])], 0),
  (116, [], [(.new 138, []), (.dup, []), (.invokespecial 140, []), (.athrow, [])], 0)]
def mt_115 : Nat × Nat × List jB := (1, 3, k_HH_look)
set_option maxRecDepth 100000 in
theorem ck_115 : jok jm_115 mt_115 = true := by decide +kernel
def k_HH_hours : List jB := [
  (0, [0, 1], [(.iload_n 1, []), (.iconst 0, []), (.sipush 300, []), (.invokestatic 141, [152, 3, 1]), (.ifCond .eq 18, [1]), (.aload_n 0, []), (.getfield 41, [8, 7, 4]), (.getfield 145, [0, 0, 0]), (.iload_n 1, []), (.iadd, []), (.sipush 3000, []), (.if_icmp .le 5, [2])], 1),
  (26, [], [(.iconst (-1), []), (.ireturn, [])], 0),
  (28, [0, 1], [(.aload_n 0, []), (.getfield 41, [8, 7, 4]), (.aload_n 0, []), (.getfield 41, [8, 7, 4]), (.getfield 145, [0, 0, 0]), (.iload_n 1, []), (.iadd, []), (.invokevirtual 148, [9, 1, 0, 0]), (.aload_n 0, []), (.getfield 41, [8, 7, 4]), (.getfield 145, [0, 0, 0]), (.ireturn, [])], 0)]
def mt_116 : Nat × Nat × List jB := (1, 2, k_HH_hours)
set_option maxRecDepth 100000 in
theorem ck_116 : jok jm_116 mt_116 = true := by decide +kernel
def k_HH_send : List jB := [
  (0, [0, 1, 2], [(.aload_n 0, []), (.getfield 16, [8, 2, 3]), (.iload_n 1, []), (.invokevirtual 115, [93, 1, 6, 1]), (.ifCond .eq 25, [1]), (.iload_n 2, []), (.iconst 1, []), (.ldc 151, [99999]), (.invokestatic 141, [152, 3, 1]), (.ifCond .eq 15, [1]), (.aload_n 0, []), (.getfield 41, [8, 7, 4]), (.getfield 152, [0, 3, 0]), (.bipush 30, []), (.if_icmp .lt 5, [2])], 1),
  (33, [], [(.iconst (-1), []), (.ireturn, [])], 0),
  (35, [0, 1, 2], [(.aload_n 0, []), (.getfield 41, [8, 7, 4]), (.iload_n 1, []), (.iload_n 2, []), (.aload_n 0, []), (.getfield 41, [8, 7, 4]), (.getfield 145, [0, 0, 0]), (.invokevirtual 155, [4, 3, 0, 1]), (.ireturn, [])], 0)]
def mt_117 : Nat × Nat × List jB := (1, 3, k_HH_send)
set_option maxRecDepth 100000 in
theorem ck_117 : jok jm_117 mt_117 = true := by decide +kernel
def k_HH_parcel : List jB := [
  (0, [0, 1, 2], [(.aload_n 0, []), (.getfield 41, [8, 7, 4]), (.iload_n 1, []), (.invokevirtual 159, [5, 1, 0, 1]), (.ifCond .ne 5, [1]), (.iconst (-1), []), (.ireturn, [])], 0),
  (13, [0, 1, 2], [(.iload_n 2, []), (.tableswitch 112 0 6 #[42, 52, 62, 72, 82, 92, 102], [9, 2, 3, 4, 5, 6, 7, 8])], 0),
  (56, [0, 1], [(.aload_n 0, []), (.getfield 41, [8, 7, 4]), (.getfield 162, [0, 4, 4]), (.iload_n 1, []), (.iaload, []), (.ireturn, [])], 0),
  (66, [0, 1], [(.aload_n 0, []), (.getfield 41, [8, 7, 4]), (.getfield 165, [0, 5, 4]), (.iload_n 1, []), (.iaload, []), (.ireturn, [])], 0),
  (76, [0, 1], [(.aload_n 0, []), (.getfield 41, [8, 7, 4]), (.getfield 168, [0, 6, 4]), (.iload_n 1, []), (.iaload, []), (.ireturn, [])], 0),
  (86, [0, 1], [(.aload_n 0, []), (.getfield 41, [8, 7, 4]), (.getfield 171, [0, 7, 4]), (.iload_n 1, []), (.iaload, []), (.ireturn, [])], 0),
  (96, [0, 1], [(.aload_n 0, []), (.getfield 41, [8, 7, 4]), (.getfield 174, [0, 8, 4]), (.iload_n 1, []), (.iaload, []), (.ireturn, [])], 0),
  (106, [0, 1], [(.aload_n 0, []), (.getfield 41, [8, 7, 4]), (.getfield 177, [0, 9, 4]), (.iload_n 1, []), (.iaload, []), (.ireturn, [])], 0),
  (116, [0, 1], [(.aload_n 0, []), (.getfield 41, [8, 7, 4]), (.getfield 180, [0, 10, 4]), (.iload_n 1, []), (.iaload, []), (.ireturn, [])], 0),
  (126, [], [(.iconst (-1), []), (.ireturn, [])], 0)]
def mt_118 : Nat × Nat × List jB := (1, 3, k_HH_parcel)
set_option maxRecDepth 100000 in
theorem ck_118 : jok jm_118 mt_118 = true := by decide +kernel
def k_HH_coins : List jB := [
  (0, [0], [(.aload_n 0, []), (.getfield 41, [8, 7, 4]), (.invokevirtual 183, [7, 0, 0, 2]), (.lreturn, [])], 0)]
def mt_119 : Nat × Nat × List jB := (3, 1, k_HH_coins)
set_option maxRecDepth 100000 in
theorem ck_119 : jok jm_119 mt_119 = true := by decide +kernel
def k_HH_rest : List jB := [
  (0, [0], [(.aload_n 0, []), (.getfield 48, [8, 10, 4]), (.aload_n 0, []), (.getfield 41, [8, 7, 4]), (.invokevirtual 187, [3, 1, 0, 0]), (.aload_n 0, []), (.getfield 48, [8, 10, 4]), (.invokevirtual 191, [8, 0, 0, 1]), (.ireturn, [])], 0)]
def mt_120 : Nat × Nat × List jB := (1, 1, k_HH_rest)
set_option maxRecDepth 100000 in
theorem ck_120 : jok jm_120 mt_120 = true := by decide +kernel
def k_HH_arrives : List jB := [
  (0, [0, 1, 2, 4], [(.aload_n 0, []), (.iload_n 1, []), (.lload_n 2, []), (.iload 4, []), (.invokevirtual 195, [151, 3, 8, 1]), (.ifCond .ne 5, [1]), (.iconst (-1), []), (.ireturn, [])], 0),
  (13, [0, 4], [(.aload_n 0, []), (.getfield 54, [8, 11, 4]), (.aload_n 0, []), (.getfield 16, [8, 2, 3]), (.iconst 4, []), (.iload 4, []), (.invokevirtual 199, [88, 3, 5, 1]), (.ireturn, [])], 0)]
def mt_121 : Nat × Nat × List jB := (1, 5, k_HH_arrives)
set_option maxRecDepth 100000 in
theorem ck_121 : jok jm_121 mt_121 = true := by decide +kernel
def k_HH_keeps : List jB := [
  (0, [0, 1, 2, 4, 5], [(.aload_n 0, []), (.iload_n 1, []), (.lload_n 2, []), (.iload 4, []), (.invokevirtual 195, [151, 3, 8, 1]), (.ifCond .eq 19, [1]), (.iload 5, []), (.iconst 1, []), (.aload_n 0, []), (.getfield 54, [8, 11, 4]), (.invokevirtual 203, [84, 0, 5, 1]), (.invokestatic 141, [152, 3, 1]), (.ifCond .ne 5, [2])], 1),
  (27, [], [(.iconst (-1), []), (.ireturn, [])], 0),
  (29, [0, 4, 5], [(.aload_n 0, []), (.getfield 54, [8, 11, 4]), (.aload_n 0, []), (.getfield 16, [8, 2, 3]), (.iload 4, []), (.iload 5, []), (.invokevirtual 206, [89, 3, 5, 1]), (.ireturn, [])], 0)]
def mt_122 : Nat × Nat × List jB := (1, 6, k_HH_keeps)
set_option maxRecDepth 100000 in
theorem ck_122 : jok jm_122 mt_122 = true := by decide +kernel
def k_HH_back : List jB := [
  (0, [0, 1, 2, 4, 5], [(.aload_n 0, []), (.iload_n 1, []), (.lload_n 2, []), (.invokevirtual 209, [150, 2, 8, 1]), (.ifCond .eq 14, [1]), (.iload 4, []), (.iconst 0, []), (.ldc 151, [99999]), (.invokestatic 141, [152, 3, 1]), (.ifCond .ne 5, [2])], 1),
  (20, [], [(.iconst (-1), []), (.ireturn, [])], 0),
  (22, [0, 4, 5], [(.aload_n 0, []), (.iload 4, []), (.iconst 0, []), (.invokevirtual 213, [125, 2, 8, 1]), (.istore 6, []), (.aload_n 0, []), (.iload 4, []), (.iconst 1, []), (.invokevirtual 213, [125, 2, 8, 1]), (.istore 7, []), (.iload 5, []), (.tableswitch 66 0 3 #[30, 48, 51, 54], [11, 3, 6, 7, 8])], 0),
  (72, [6, 7], [(.iload 6, []), (.iconst (-1), []), (.if_icmp .ne 7, [4]), (.iconst 0, []), (.goto 10, [5])], 0),
  (82, [6, 7], [(.iload 7, []), (.iload 6, []), (.isub, []), (.iconst 1, []), (.iadd, [])], 5),
  (89, [], [(.ireturn, [])], 0),
  (90, [6], [(.iload 6, []), (.ireturn, [])], 0),
  (93, [7], [(.iload 7, []), (.ireturn, [])], 0),
  (96, [6], [(.iload 6, []), (.iconst (-1), []), (.if_icmp .ne 7, [9]), (.iconst 0, []), (.goto 4, [10])], 0),
  (106, [], [(.iconst 1, [])], 10),
  (107, [], [(.ireturn, [])], 0),
  (108, [], [(.iconst (-1), []), (.ireturn, [])], 0)]
def mt_123 : Nat × Nat × List jB := (1, 8, k_HH_back)
set_option maxRecDepth 100000 in
theorem ck_123 : jok jm_123 mt_123 = true := by decide +kernel
def k_HH_span : List jB := [
  (0, [0, 1, 2, 4, 5, 6], [(.aload_n 0, []), (.iload_n 1, []), (.lload_n 2, []), (.invokevirtual 209, [150, 2, 8, 1]), (.ifCond .eq 29, [1]), (.iload 4, []), (.iconst 0, []), (.ldc 151, [99999]), (.invokestatic 141, [152, 3, 1]), (.ifCond .eq 18, [1]), (.iload 5, []), (.ifCond .ne 13, [1]), (.iload 6, []), (.iconst 0, []), (.iconst 1, []), (.invokestatic 141, [152, 3, 1]), (.ifCond .ne 5, [2])], 1),
  (35, [], [(.iconst (-1), []), (.ireturn, [])], 0),
  (37, [0, 4, 6], [(.aload_n 0, []), (.iload 4, []), (.iload 6, []), (.invokevirtual 213, [125, 2, 8, 1]), (.ireturn, [])], 0)]
def mt_124 : Nat × Nat × List jB := (1, 7, k_HH_span)
set_option maxRecDepth 100000 in
theorem ck_124 : jok jm_124 mt_124 = true := by decide +kernel
def k_HH_endOfBack : List jB := [
  (0, [0, 1, 2], [(.aload_n 0, []), (.getfield 54, [8, 11, 4]), (.aload_n 0, []), (.getfield 16, [8, 2, 3]), (.iload_n 1, []), (.invokevirtual 216, [91, 2, 5, 1]), (.istore_n 3, []), (.iload_n 3, []), (.ldc 220, [999999]), (.if_icmp .le 5, [1]), (.iconst (-1), []), (.ireturn, [])], 0),
  (21, [0, 1, 2, 3], [(.iload_n 2, []), (.ifCond .ne 7, [2]), (.iload_n 3, []), (.goto 24, [3])], 0),
  (29, [0, 1], [(.aload_n 0, []), (.getfield 54, [8, 11, 4]), (.aload_n 0, []), (.getfield 16, [8, 2, 3]), (.iload_n 1, []), (.iconst 1, []), (.iadd, []), (.invokevirtual 216, [91, 2, 5, 1]), (.iconst 1, []), (.isub, []), (.ldc 220, [999999]), (.invokestatic 221, [911, 0])], 3),
  (50, [], [(.ireturn, [])], 0)]
def mt_125 : Nat × Nat × List jB := (1, 4, k_HH_endOfBack)
set_option maxRecDepth 100000 in
theorem ck_125 : jok jm_125 mt_125 = true := by decide +kernel
def k_HH_best : List jB := [
  (0, [0, 1, 2, 4, 5], [(.aload_n 0, []), (.iload_n 1, []), (.lload_n 2, []), (.iload 4, []), (.invokevirtual 195, [151, 3, 8, 1]), (.ifCond .eq 13, [1]), (.iload 5, []), (.iconst 0, []), (.iconst 1, []), (.invokestatic 141, [152, 3, 1]), (.ifCond .ne 5, [2])], 1),
  (21, [], [(.iconst (-1), []), (.ireturn, [])], 0),
  (23, [0, 4, 5], [(.aload_n 0, []), (.getfield 63, [8, 12, 4]), (.aload_n 0, []), (.getfield 16, [8, 2, 3]), (.iload 4, []), (.invokevirtual 226, [34, 2, 3, 0]), (.iload 5, []), (.ifCond .ne 13, [3]), (.aload_n 0, []), (.getfield 63, [8, 12, 4]), (.invokevirtual 230, [38, 0, 3, 1]), (.goto 10, [4])], 0),
  (51, [0], [(.aload_n 0, []), (.getfield 63, [8, 12, 4]), (.invokevirtual 233, [39, 0, 3, 1])], 4),
  (58, [], [(.ireturn, [])], 0)]
def mt_126 : Nat × Nat × List jB := (1, 6, k_HH_best)
set_option maxRecDepth 100000 in
theorem ck_126 : jok jm_126 mt_126 = true := by decide +kernel
def k_HH_order : List jB := [
  (0, [0, 1, 2, 4, 5], [(.aload_n 0, []), (.iload_n 1, []), (.lload_n 2, []), (.iload 4, []), (.invokevirtual 195, [151, 3, 8, 1]), (.ifCond .eq 13, [1]), (.iload 5, []), (.iconst 0, []), (.iconst 1, []), (.invokestatic 141, [152, 3, 1]), (.ifCond .ne 7, [2])], 1),
  (21, [], [(.ldc2_w 236, [18446744073709551615]), (.lreturn, [])], 0),
  (25, [0, 4, 5], [(.aload_n 0, []), (.getfield 63, [8, 12, 4]), (.aload_n 0, []), (.getfield 16, [8, 2, 3]), (.iload 4, []), (.invokevirtual 226, [34, 2, 3, 0]), (.aload_n 0, []), (.getfield 63, [8, 12, 4]), (.iload 5, []), (.ifCond .ne 13, [3]), (.aload_n 0, []), (.getfield 63, [8, 12, 4]), (.invokevirtual 230, [38, 0, 3, 1]), (.goto 10, [4])], 0),
  (57, [0], [(.aload_n 0, []), (.getfield 63, [8, 12, 4]), (.invokevirtual 233, [39, 0, 3, 1])], 4),
  (64, [], [(.invokevirtual 238, [41, 1, 3, 2]), (.lreturn, [])], 0)]
def mt_127 : Nat × Nat × List jB := (3, 6, k_HH_order)
set_option maxRecDepth 100000 in
theorem ck_127 : jok jm_127 mt_127 = true := by decide +kernel
def k_HH_just : List jB := [
  (0, [0, 1, 2, 4, 5], [(.aload_n 0, []), (.iload_n 1, []), (.lload_n 2, []), (.iload 4, []), (.invokevirtual 195, [151, 3, 8, 1]), (.ifCond .eq 14, [1]), (.iload 5, []), (.iconst 0, []), (.ldc 220, [999999]), (.invokestatic 141, [152, 3, 1]), (.ifCond .ne 5, [2])], 1),
  (22, [], [(.iconst (-1), []), (.ireturn, [])], 0),
  (24, [0, 4, 5], [(.aload_n 0, []), (.getfield 63, [8, 12, 4]), (.aload_n 0, []), (.getfield 16, [8, 2, 3]), (.iload 4, []), (.invokevirtual 226, [34, 2, 3, 0]), (.aload_n 0, []), (.getfield 63, [8, 12, 4]), (.iload 5, []), (.invokevirtual 242, [40, 1, 3, 1]), (.ireturn, [])], 0)]
def mt_128 : Nat × Nat × List jB := (1, 6, k_HH_just)
set_option maxRecDepth 100000 in
theorem ck_128 : jok jm_128 mt_128 = true := by decide +kernel
def k_HH_first : List jB := [
  (0, [0, 1, 2, 4, 5], [(.aload_n 0, []), (.iload_n 1, []), (.lload_n 2, []), (.iload 4, []), (.invokevirtual 195, [151, 3, 8, 1]), (.ifCond .eq 14, [1]), (.iload 5, []), (.iconst 0, []), (.ldc 220, [999999]), (.invokestatic 141, [152, 3, 1]), (.ifCond .ne 7, [2])], 1),
  (22, [], [(.ldc2_w 236, [18446744073709551615]), (.lreturn, [])], 0),
  (26, [0, 4, 5], [(.aload_n 0, []), (.getfield 63, [8, 12, 4]), (.aload_n 0, []), (.getfield 16, [8, 2, 3]), (.iload 4, []), (.invokevirtual 226, [34, 2, 3, 0]), (.aload_n 0, []), (.getfield 63, [8, 12, 4]), (.iload 5, []), (.invokevirtual 238, [41, 1, 3, 2]), (.lreturn, [])], 0)]
def mt_129 : Nat × Nat × List jB := (3, 6, k_HH_first)
set_option maxRecDepth 100000 in
theorem ck_129 : jok jm_129 mt_129 = true := by decide +kernel
def k_HH_bound : List jB := [
  (0, [0, 1, 2, 3], [(.iload_n 1, []), (.iconst 0, []), (.bipush 8, []), (.invokestatic 141, [152, 3, 1]), (.ifCond .eq 22, [1]), (.iload_n 2, []), (.iconst 0, []), (.ldc 220, [999999]), (.invokestatic 141, [152, 3, 1]), (.ifCond .eq 12, [1]), (.iload_n 3, []), (.iconst 0, []), (.iconst 1, []), (.invokestatic 141, [152, 3, 1]), (.ifCond .ne 5, [2])], 1),
  (29, [], [(.iconst (-1), []), (.ireturn, [])], 0),
  (31, [1, 2, 3], [(.iload_n 3, []), (.ifCond .ne 11, [3]), (.iload_n 2, []), (.iload_n 1, []), (.invokestatic 245, [153, 2, 1]), (.goto 6, [4])], 0),
  (43, [1, 2], [(.iload_n 2, []), (.iload_n 1, []), (.ishr, [])], 4),
  (46, [], [(.ireturn, [])], 0)]
def mt_130 : Nat × Nat × List jB := (1, 4, k_HH_bound)
set_option maxRecDepth 100000 in
theorem ck_130 : jok jm_130 mt_130 = true := by decide +kernel
def k_HH_gains : List jB := [
  (0, [0, 1, 2, 4, 5, 6], [(.aload_n 0, []), (.iload_n 1, []), (.lload_n 2, []), (.iload 4, []), (.invokevirtual 195, [151, 3, 8, 1]), (.ifCond .eq 25, [1]), (.aload_n 0, []), (.getfield 54, [8, 11, 4]), (.iload 5, []), (.invokevirtual 248, [86, 1, 5, 1]), (.ifCond .eq 13, [1]), (.iload 6, []), (.iconst 0, []), (.iconst 3, []), (.invokestatic 141, [152, 3, 1]), (.ifCond .ne 5, [2])], 1),
  (33, [], [(.iconst (-1), []), (.ireturn, [])], 0),
  (35, [0, 4, 5, 6], [(.aload_n 0, []), (.getfield 63, [8, 12, 4]), (.aload_n 0, []), (.getfield 16, [8, 2, 3]), (.iload 4, []), (.invokevirtual 226, [34, 2, 3, 0]), (.iload 6, []), (.iconst 2, []), (.if_icmp .ge 7, [3]), (.iconst 1, []), (.goto 4, [4])], 0),
  (58, [0, 5, 6], [(.iconst 0, [])], 4),
  (59, [0, 5, 6], [(.istore 7, []), (.iload 6, []), (.ifCond .eq 9, [5]), (.iload 6, []), (.iconst 2, []), (.if_icmp .ne 17, [6])], 5),
  (72, [0, 5, 7], [(.aload_n 0, []), (.getfield 63, [8, 12, 4]), (.iload 5, []), (.iload 7, []), (.invokevirtual 251, [44, 2, 3, 1]), (.goto 14, [7])], 0),
  (86, [0, 5, 7], [(.aload_n 0, []), (.getfield 63, [8, 12, 4]), (.iload 5, []), (.iload 7, []), (.invokevirtual 255, [45, 2, 3, 1])], 7),
  (97, [], [(.ireturn, [])], 0)]
def mt_131 : Nat × Nat × List jB := (1, 8, k_HH_gains)
set_option maxRecDepth 100000 in
theorem ck_131 : jok jm_131 mt_131 = true := by decide +kernel
def k_HH_changes : List jB := [
  (0, [0, 1, 2, 4, 5], [(.aload_n 0, []), (.iload_n 1, []), (.lload_n 2, []), (.iload 4, []), (.invokevirtual 195, [151, 3, 8, 1]), (.ifCond .eq 14, [1]), (.iload 5, []), (.iconst 0, []), (.ldc 220, [999999]), (.invokestatic 141, [152, 3, 1]), (.ifCond .ne 5, [2])], 1),
  (22, [], [(.iconst (-1), []), (.ireturn, [])], 0),
  (24, [0, 4, 5], [(.aload_n 0, []), (.getfield 63, [8, 12, 4]), (.aload_n 0, []), (.getfield 16, [8, 2, 3]), (.iload 4, []), (.invokevirtual 226, [34, 2, 3, 0]), (.aload_n 0, []), (.getfield 63, [8, 12, 4]), (.iload 5, []), (.invokevirtual 258, [42, 1, 3, 1]), (.ireturn, [])], 0)]
def mt_132 : Nat × Nat × List jB := (1, 6, k_HH_changes)
set_option maxRecDepth 100000 in
theorem ck_132 : jok jm_132 mt_132 = true := by decide +kernel
def k_HH_changed : List jB := [
  (0, [0, 1, 2, 4, 5], [(.aload_n 0, []), (.iload_n 1, []), (.lload_n 2, []), (.iload 4, []), (.invokevirtual 195, [151, 3, 8, 1]), (.ifCond .eq 14, [1]), (.iload 5, []), (.iconst 0, []), (.ldc 220, [999999]), (.invokestatic 141, [152, 3, 1]), (.ifCond .ne 7, [2])], 1),
  (22, [], [(.ldc2_w 236, [18446744073709551615]), (.lreturn, [])], 0),
  (26, [0, 4, 5], [(.aload_n 0, []), (.getfield 63, [8, 12, 4]), (.aload_n 0, []), (.getfield 16, [8, 2, 3]), (.iload 4, []), (.invokevirtual 226, [34, 2, 3, 0]), (.aload_n 0, []), (.getfield 63, [8, 12, 4]), (.iload 5, []), (.invokevirtual 261, [43, 1, 3, 2]), (.lreturn, [])], 0)]
def mt_133 : Nat × Nat × List jB := (3, 6, k_HH_changed)
set_option maxRecDepth 100000 in
theorem ck_133 : jok jm_133 mt_133 = true := by decide +kernel
def k_HH_worth : List jB := [
  (0, [0, 1, 2, 4, 5], [(.aload_n 0, []), (.iload_n 1, []), (.lload_n 2, []), (.iload 4, []), (.invokevirtual 195, [151, 3, 8, 1]), (.ifCond .eq 21, [1]), (.iload 5, []), (.iconst 1, []), (.aload_n 0, []), (.getfield 54, [8, 11, 4]), (.invokevirtual 203, [84, 0, 5, 1]), (.iconst 1, []), (.isub, []), (.invokestatic 141, [152, 3, 1]), (.ifCond .ne 7, [2])], 1),
  (29, [], [(.ldc_w 266, [2147483648]), (.ireturn, [])], 0),
  (33, [0, 4, 5], [(.aload_n 0, []), (.getfield 54, [8, 11, 4]), (.aload_n 0, []), (.getfield 16, [8, 2, 3]), (.iconst 4, []), (.iload 4, []), (.invokevirtual 199, [88, 3, 5, 1]), (.istore 6, []), (.aload_n 0, []), (.getfield 54, [8, 11, 4]), (.iload 5, []), (.invokevirtual 267, [87, 1, 5, 0]), (.aload_n 0, []), (.getfield 54, [8, 11, 4]), (.aload_n 0, []), (.getfield 16, [8, 2, 3]), (.iconst 4, []), (.iload 4, []), (.invokevirtual 199, [88, 3, 5, 1]), (.iload 6, []), (.isub, []), (.ireturn, [])], 0)]
def mt_134 : Nat × Nat × List jB := (1, 7, k_HH_worth)
set_option maxRecDepth 100000 in
theorem ck_134 : jok jm_134 mt_134 = true := by decide +kernel
def k_HH_serves : List jB := [
  (0, [0, 1, 2, 4], [(.aload_n 0, []), (.iload_n 1, []), (.lload_n 2, []), (.invokevirtual 209, [150, 2, 8, 1]), (.ifCond .eq 14, [1]), (.iload 4, []), (.iconst 1, []), (.bipush 50, []), (.invokestatic 141, [152, 3, 1]), (.ifCond .ne 5, [2])], 1),
  (20, [], [(.iconst (-1), []), (.ireturn, [])], 0),
  (22, [0, 4], [(.iconst 1, []), (.istore 5, [])], 3),
  (25, [0, 4, 5], [(.iload 5, []), (.iload 4, []), (.if_icmp .gt 21, [5]), (.aload_n 0, []), (.iload 5, []), (.invokevirtual 270, [136, 1, 8, 1]), (.ifCond .eq 6, [4]), (.iload 5, []), (.ireturn, [])], 0),
  (44, [0, 4, 5], [(.iinc 5 1, []), (.goto (-22), [3])], 0),
  (50, [], [(.iconst 0, []), (.ireturn, [])], 0)]
def mt_135 : Nat × Nat × List jB := (1, 6, k_HH_serves)
set_option maxRecDepth 100000 in
theorem ck_135 : jok jm_135 mt_135 = true := by decide +kernel
def k_HH_isOutdone : List jB := [
  (0, [0, 1], [(.aload_n 0, []), (.getfield 54, [8, 11, 4]), (.aload_n 0, []), (.getfield 16, [8, 2, 3]), (.iconst 4, []), (.iload_n 1, []), (.invokevirtual 199, [88, 3, 5, 1]), (.istore_n 2, []), (.iload_n 2, []), (.iload_n 1, []), (.aload_n 0, []), (.getfield 54, [8, 11, 4]), (.invokevirtual 203, [84, 0, 5, 1]), (.invokestatic 245, [153, 2, 1]), (.if_icmp .ne 5, [1]), (.iconst 0, []), (.ireturn, [])], 0),
  (31, [0, 1, 2], [(.aload_n 0, []), (.getfield 63, [8, 12, 4]), (.aload_n 0, []), (.getfield 16, [8, 2, 3]), (.iload_n 1, []), (.invokevirtual 226, [34, 2, 3, 0]), (.iload_n 2, []), (.aload_n 0, []), (.getfield 63, [8, 12, 4]), (.invokevirtual 230, [38, 0, 3, 1]), (.if_icmp .ge 7, [2]), (.iconst 1, []), (.goto 4, [3])], 0),
  (58, [], [(.iconst 0, [])], 3),
  (59, [], [(.ireturn, [])], 0)]
def mt_136 : Nat × Nat × List jB := (2, 3, k_HH_isOutdone)
set_option maxRecDepth 100000 in
theorem ck_136 : jok jm_136 mt_136 = true := by decide +kernel
def k_HH_law : List jB := [
  (0, [0, 1, 2, 3, 4, 5], [(.iload_n 1, []), (.iconst 0, []), (.sipush 9999, []), (.invokestatic 141, [152, 3, 1]), (.ifCond .eq 51, [1]), (.iload_n 2, []), (.iconst 0, []), (.bipush 99, []), (.invokestatic 141, [152, 3, 1]), (.ifCond .eq 41, [1]), (.iload_n 3, []), (.iconst 0, []), (.bipush 99, []), (.invokestatic 141, [152, 3, 1]), (.ifCond .eq 31, [1]), (.iload 4, []), (.iconst 0, []), (.sipush 9999, []), (.invokestatic 141, [152, 3, 1]), (.ifCond .eq 19, [1]), (.iload 5, []), (.iconst 0, []), (.sipush 9999, []), (.invokestatic 141, [152, 3, 1]), (.ifCond .eq 7, [1]), (.iconst 1, []), (.goto 4, [2])], 0),
  (59, [0, 1, 2, 3, 4, 5], [(.iconst 0, [])], 2),
  (60, [0, 1, 2, 3, 4, 5], [(.istore 6, []), (.iload 6, []), (.ifCond .eq 16, [3]), (.aload_n 0, []), (.getfield 16, [8, 2, 3]), (.getfield 273, [6, 12, 4]), (.getfield 277, [1, 1, 1]), (.ifCond .ne 7, [4])], 3),
  (80, [], [(.ldc2_w 282, [9223372036854775808]), (.lreturn, [])], 0),
  (84, [0, 1, 2, 3, 4, 5], [(.aload_n 0, []), (.getfield 16, [8, 2, 3]), (.getfield 273, [6, 12, 4]), (.iconst 4, []), (.iload_n 1, []), (.iload_n 2, []), (.iload_n 3, []), (.iload 4, []), (.iload 5, []), (.invokevirtual 284, [25, 6, 1, 2]), (.lreturn, [])], 0)]
def mt_137 : Nat × Nat × List jB := (3, 7, k_HH_law)
set_option maxRecDepth 100000 in
theorem ck_137 : jok jm_137 mt_137 = true := by decide +kernel
def k_HH_note : List jB := [
  (0, [0, 1, 2, 4, 5, 6], [(.aload_n 0, []), (.iload_n 1, []), (.lload_n 2, []), (.iload 4, []), (.invokevirtual 195, [151, 3, 8, 1]), (.ifCond .eq 26, [1]), (.iload 5, []), (.iconst 0, []), (.iload 6, []), (.invokestatic 141, [152, 3, 1]), (.ifCond .eq 15, [1]), (.iload 6, []), (.iload 5, []), (.ldc 220, [999999]), (.invokestatic 141, [152, 3, 1]), (.ifCond .ne 5, [2])], 1),
  (34, [], [(.iconst (-1), []), (.ireturn, [])], 0),
  (36, [0, 1, 2, 4, 5, 6], [(.aload_n 0, []), (.getfield 70, [8, 13, 4]), (.iload_n 1, []), (.lload_n 2, []), (.iload 4, []), (.iload 5, []), (.iload 6, []), (.invokevirtual 288, [28, 5, 2, 1]), (.ireturn, [])], 0)]
def mt_138 : Nat × Nat × List jB := (1, 7, k_HH_note)
set_option maxRecDepth 100000 in
theorem ck_138 : jok jm_138 mt_138 = true := by decide +kernel
def k_HH_strike : List jB := [
  (0, [0, 1], [(.iload_n 1, []), (.iconst 0, []), (.aload_n 0, []), (.getfield 70, [8, 13, 4]), (.getfield 291, [2, 0, 0]), (.iconst 1, []), (.isub, []), (.invokestatic 141, [152, 3, 1]), (.ifCond .eq 14, [1]), (.aload_n 0, []), (.getfield 70, [8, 13, 4]), (.iload_n 1, []), (.invokevirtual 294, [29, 1, 2, 1]), (.goto 4, [2])], 0),
  (28, [], [(.iconst (-1), [])], 2),
  (29, [], [(.ireturn, [])], 0)]
def mt_139 : Nat × Nat × List jB := (1, 2, k_HH_strike)
set_option maxRecDepth 100000 in
theorem ck_139 : jok jm_139 mt_139 = true := by decide +kernel
def k_HH_known : List jB := [
  (0, [0, 1], [(.iload_n 1, []), (.iconst (-1), []), (.aload_n 0, []), (.getfield 70, [8, 13, 4]), (.getfield 291, [2, 0, 0]), (.invokestatic 141, [152, 3, 1]), (.ifCond .ne 5, [1]), (.iconst 0, []), (.ireturn, [])], 0),
  (17, [0, 1], [(.aload_n 0, []), (.getfield 70, [8, 13, 4]), (.iload_n 1, []), (.putfield 297, [2, 1, 0]), (.iconst 1, []), (.ireturn, [])], 0)]
def mt_140 : Nat × Nat × List jB := (2, 2, k_HH_known)
set_option maxRecDepth 100000 in
theorem ck_140 : jok jm_140 mt_140 = true := by decide +kernel
def k_HH_fits : List jB := [
  (0, [0], [(.aload_n 0, []), (.getfield 70, [8, 13, 4]), (.invokevirtual 300, [31, 0, 2, 0]), (.iconst 0, []), (.istore_n 1, []), (.iconst 0, []), (.istore_n 2, [])], 1),
  (11, [0, 1, 2], [(.iload_n 2, []), (.aload_n 0, []), (.getfield 16, [8, 2, 3]), (.getfield 303, [6, 10, 0]), (.if_icmp .gt 27, [3]), (.aload_n 0, []), (.aload_n 0, []), (.iload_n 2, []), (.invokevirtual 306, [143, 1, 8, 1]), (.invokevirtual 309, [142, 1, 8, 1]), (.ifCond .eq 9, [2]), (.iload_n 1, []), (.iconst 1, []), (.iload_n 2, []), (.ishl, []), (.ior, []), (.istore_n 1, [])], 2),
  (40, [0, 1, 2], [(.iinc 2 1, []), (.goto (-32), [1])], 0),
  (46, [1], [(.iload_n 1, []), (.ireturn, [])], 0)]
def mt_141 : Nat × Nat × List jB := (1, 3, k_HH_fits)
set_option maxRecDepth 100000 in
theorem ck_141 : jok jm_141 mt_141 = true := by decide +kernel
