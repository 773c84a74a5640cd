/-! The methods' blocks, held against their bytes. Printed by wip/gen/code.py. -/
def jok (M : jM) (q : Nat × Nat × List jB) : Bool := decide (q.1 = M.2.2.2.1) && decide (q.2.1 = M.2.2.1) && decide (jpc q.2.2 0 = some 0) && jchk false M.2.2.2.2.1 M.2.2.1 q.2.2 M.2.1
def k_Jo_begin : List jB := [
  (0, [0, 1], [(.aload_n 0, []), (.aload_n 1, []), (.iconst (-1), []), (.iconst 0, []), (.invokevirtual 47, [2, 3, 0, 0]), (.iconst 0, []), (.istore_n 2, [])], 1),
  (9, [0, 1, 2], [(.iload_n 2, []), (.aload_n 1, []), (.getfield 51, [6, 6, 0]), (.if_icmp .ge 32, [2]), (.aload_n 0, []), (.aload_n 1, []), (.getfield 56, [6, 7, 4]), (.iload_n 2, []), (.iaload, []), (.aload_n 1, []), (.getfield 57, [6, 8, 4]), (.iload_n 2, []), (.iaload, []), (.aload_n 1, []), (.getfield 60, [6, 9, 4]), (.iload_n 2, []), (.iaload, []), (.invokevirtual 61, [4, 3, 0, 1]), (.pop, []), (.iinc 2 1, []), (.goto (-34), [1])], 0),
  (46, [], [(.return_, [])], 0)]
def mt_0 : Nat × Nat × List jB := (0, 3, k_Jo_begin)
set_option maxRecDepth 100000 in
theorem ck_0 : jok jm_0 mt_0 = true := by decide +kernel
def k_Jo_beginLike : List jB := [
  (0, [0, 1, 2, 3], [(.aload_n 0, []), (.aload_n 1, []), (.getfield 43, [0, 11, 3]), (.iload_n 2, []), (.iload_n 3, []), (.invokevirtual 47, [2, 3, 0, 0]), (.iconst 0, []), (.istore 4, [])], 1),
  (13, [0, 1, 4], [(.iload 4, []), (.aload_n 1, []), (.getfield 65, [0, 3, 0]), (.if_icmp .ge 35, [2]), (.aload_n 0, []), (.aload_n 1, []), (.getfield 18, [0, 4, 4]), (.iload 4, []), (.iaload, []), (.aload_n 1, []), (.getfield 21, [0, 5, 4]), (.iload 4, []), (.iaload, []), (.aload_n 1, []), (.getfield 24, [0, 6, 4]), (.iload 4, []), (.iaload, []), (.invokevirtual 61, [4, 3, 0, 1]), (.pop, []), (.iinc 4 1, []), (.goto (-38), [1])], 0),
  (54, [], [(.return_, [])], 0)]
def mt_1 : Nat × Nat × List jB := (0, 5, k_Jo_beginLike)
set_option maxRecDepth 100000 in
theorem ck_1 : jok jm_1 mt_1 = true := by decide +kernel
def k_Jo_start : List jB := [
  (0, [0, 1, 2, 3], [(.aload_n 0, []), (.aload_n 1, []), (.putfield 43, [0, 11, 3]), (.aload_n 0, []), (.iload_n 2, []), (.putfield 39, [0, 12, 0]), (.aload_n 0, []), (.iload_n 3, []), (.putfield 66, [0, 13, 0]), (.aload_n 0, []), (.iconst 0, []), (.putfield 69, [0, 0, 0]), (.aload_n 0, []), (.iconst 0, []), (.putfield 65, [0, 3, 0]), (.aload_n 1, []), (.getfield 72, [6, 3, 4]), (.iconst 0, []), (.aload_n 0, []), (.getfield 9, [0, 1, 4]), (.iconst 0, []), (.bipush 10, []), (.invokestatic 73, [900]), (.aload_n 0, []), (.getfield 15, [0, 2, 4]), (.iconst 0, []), (.invokestatic 79, [256, 2, 0]), (.return_, [])], 0)]
def mt_2 : Nat × Nat × List jB := (0, 4, k_Jo_start)
set_option maxRecDepth 100000 in
theorem ck_2 : jok jm_2 mt_2 = true := by decide +kernel
def k_Jo_copyFrom : List jB := [
  (0, [0, 1], [(.aload_n 0, []), (.aload_n 1, []), (.getfield 43, [0, 11, 3]), (.putfield 43, [0, 11, 3]), (.aload_n 0, []), (.aload_n 1, []), (.getfield 39, [0, 12, 0]), (.putfield 39, [0, 12, 0]), (.aload_n 0, []), (.aload_n 1, []), (.getfield 66, [0, 13, 0]), (.putfield 66, [0, 13, 0]), (.aload_n 0, []), (.aload_n 1, []), (.getfield 69, [0, 0, 0]), (.putfield 69, [0, 0, 0]), (.aload_n 0, []), (.aload_n 1, []), (.getfield 65, [0, 3, 0]), (.putfield 65, [0, 3, 0]), (.aload_n 1, []), (.getfield 9, [0, 1, 4]), (.iconst 0, []), (.aload_n 0, []), (.getfield 9, [0, 1, 4]), (.iconst 0, []), (.bipush 10, []), (.invokestatic 73, [900]), (.aload_n 1, []), (.getfield 15, [0, 2, 4]), (.iconst 0, []), (.aload_n 0, []), (.getfield 15, [0, 2, 4]), (.iconst 0, []), (.bipush 10, []), (.invokestatic 73, [900]), (.aload_n 1, []), (.getfield 18, [0, 4, 4]), (.iconst 0, []), (.aload_n 0, []), (.getfield 18, [0, 4, 4]), (.iconst 0, []), (.bipush 30, []), (.invokestatic 73, [900]), (.aload_n 1, []), (.getfield 21, [0, 5, 4]), (.iconst 0, []), (.aload_n 0, []), (.getfield 21, [0, 5, 4]), (.iconst 0, []), (.bipush 30, []), (.invokestatic 73, [900]), (.aload_n 1, []), (.getfield 24, [0, 6, 4]), (.iconst 0, []), (.aload_n 0, []), (.getfield 24, [0, 6, 4]), (.iconst 0, []), (.bipush 30, []), (.invokestatic 73, [900]), (.aload_n 1, []), (.getfield 27, [0, 7, 4]), (.iconst 0, []), (.aload_n 0, []), (.getfield 27, [0, 7, 4]), (.iconst 0, []), (.bipush 30, []), (.invokestatic 73, [900]), (.aload_n 1, []), (.getfield 30, [0, 8, 4]), (.iconst 0, []), (.aload_n 0, []), (.getfield 30, [0, 8, 4]), (.iconst 0, []), (.bipush 30, []), (.invokestatic 73, [900]), (.aload_n 1, []), (.getfield 33, [0, 9, 4]), (.iconst 0, []), (.aload_n 0, []), (.getfield 33, [0, 9, 4]), (.iconst 0, []), (.bipush 30, []), (.invokestatic 73, [900]), (.aload_n 1, []), (.getfield 36, [0, 10, 4]), (.iconst 0, []), (.aload_n 0, []), (.getfield 36, [0, 10, 4]), (.iconst 0, []), (.bipush 30, []), (.invokestatic 73, [900]), (.return_, [])], 0)]
def mt_3 : Nat × Nat × List jB := (0, 2, k_Jo_copyFrom)
set_option maxRecDepth 100000 in
theorem ck_3 : jok jm_3 mt_3 = true := by decide +kernel
def k_Jo_add : List jB := [
  (0, [0, 1, 2, 3], [(.aload_n 0, []), (.getfield 65, [0, 3, 0]), (.bipush 30, []), (.if_icmp .lt 5, [1]), (.iconst (-1), []), (.ireturn, [])], 0),
  (11, [0, 1, 2, 3], [(.aload_n 0, []), (.getfield 18, [0, 4, 4]), (.aload_n 0, []), (.getfield 65, [0, 3, 0]), (.iload_n 1, []), (.iastore, []), (.aload_n 0, []), (.getfield 21, [0, 5, 4]), (.aload_n 0, []), (.getfield 65, [0, 3, 0]), (.iload_n 2, []), (.iastore, []), (.aload_n 0, []), (.getfield 24, [0, 6, 4]), (.aload_n 0, []), (.getfield 65, [0, 3, 0]), (.iload_n 3, []), (.iastore, []), (.aload_n 0, []), (.getfield 27, [0, 7, 4]), (.aload_n 0, []), (.getfield 65, [0, 3, 0]), (.iconst 0, []), (.iastore, []), (.aload_n 0, []), (.getfield 30, [0, 8, 4]), (.aload_n 0, []), (.getfield 65, [0, 3, 0]), (.iconst 0, []), (.iastore, []), (.aload_n 0, []), (.getfield 33, [0, 9, 4]), (.aload_n 0, []), (.getfield 65, [0, 3, 0]), (.iconst 0, []), (.iastore, []), (.aload_n 0, []), (.getfield 36, [0, 10, 4]), (.aload_n 0, []), (.getfield 65, [0, 3, 0]), (.iconst (-1), []), (.iastore, []), (.aload_n 0, []), (.dup, []), (.getfield 65, [0, 3, 0]), (.iconst 1, []), (.iadd, []), (.putfield 65, [0, 3, 0]), (.aload_n 0, []), (.getfield 65, [0, 3, 0]), (.iconst 1, []), (.isub, []), (.ireturn, [])], 0)]
def mt_4 : Nat × Nat × List jB := (1, 4, k_Jo_add)
set_option maxRecDepth 100000 in
theorem ck_4 : jok jm_4 mt_4 = true := by decide +kernel
def k_Jo_isParcel : List jB := [
  (0, [0, 1], [(.iload_n 1, []), (.iconst 0, []), (.aload_n 0, []), (.getfield 65, [0, 3, 0]), (.iconst 1, []), (.isub, []), (.invokestatic 85, [152, 3, 1]), (.ireturn, [])], 0)]
def mt_5 : Nat × Nat × List jB := (2, 2, k_Jo_isParcel)
set_option maxRecDepth 100000 in
theorem ck_5 : jok jm_5 mt_5 = true := by decide +kernel
def k_Jo_inState : List jB := [
  (0, [0, 1], [(.iconst 0, []), (.istore_n 2, []), (.iconst 0, []), (.istore_n 3, [])], 1),
  (4, [0, 1, 2, 3], [(.iload_n 3, []), (.aload_n 0, []), (.getfield 65, [0, 3, 0]), (.if_icmp .ge 22, [3]), (.aload_n 0, []), (.getfield 27, [0, 7, 4]), (.iload_n 3, []), (.iaload, []), (.iload_n 1, []), (.if_icmp .ne 6, [2]), (.iinc 2 1, [])], 2),
  (25, [0, 1, 2, 3], [(.iinc 3 1, []), (.goto (-24), [1])], 0),
  (31, [2], [(.iload_n 2, []), (.ireturn, [])], 0)]
def mt_6 : Nat × Nat × List jB := (1, 4, k_Jo_inState)
set_option maxRecDepth 100000 in
theorem ck_6 : jok jm_6 mt_6 = true := by decide +kernel
def k_Jo_allCoins : List jB := [
  (0, [0], [(.lconst 0, []), (.lstore_n 1, []), (.iconst 0, []), (.istore_n 3, [])], 1),
  (4, [0, 1, 3], [(.iload_n 3, []), (.aload_n 0, []), (.getfield 43, [0, 11, 3]), (.getfield 89, [6, 0, 0]), (.if_icmp .ge 19, [2]), (.lload_n 1, []), (.aload_n 0, []), (.getfield 9, [0, 1, 4]), (.iload_n 3, []), (.iaload, []), (.i2l, []), (.ladd, []), (.lstore_n 1, []), (.iinc 3 1, []), (.goto (-24), [1])], 0),
  (31, [0, 1], [(.iconst 0, []), (.istore_n 3, [])], 3),
  (33, [0, 1, 3], [(.iload_n 3, []), (.aload_n 0, []), (.getfield 65, [0, 3, 0]), (.if_icmp .ge 19, [4]), (.lload_n 1, []), (.aload_n 0, []), (.getfield 30, [0, 8, 4]), (.iload_n 3, []), (.iaload, []), (.i2l, []), (.ladd, []), (.lstore_n 1, []), (.iinc 3 1, []), (.goto (-21), [3])], 0),
  (57, [1], [(.lload_n 1, []), (.lreturn, [])], 0)]
def mt_7 : Nat × Nat × List jB := (3, 4, k_Jo_allCoins)
set_option maxRecDepth 100000 in
theorem ck_7 : jok jm_7 mt_7 = true := by decide +kernel
def k_Jo_hoursTillRest : List jB := [
  (0, [0], [(.iconst 0, []), (.istore_n 1, [])], 1),
  (2, [0, 1], [(.iload_n 1, []), (.sipush 3000, []), (.if_icmp .gt 27, [3]), (.aload_n 0, []), (.iconst 2, []), (.invokevirtual 92, [6, 1, 0, 1]), (.aload_n 0, []), (.getfield 65, [0, 3, 0]), (.if_icmp .ne 5, [2]), (.iload_n 1, []), (.ireturn, [])], 0),
  (23, [0, 1], [(.aload_n 0, []), (.invokevirtual 96, [10, 0, 0, 0]), (.iinc 1 1, []), (.goto (-28), [1])], 0),
  (33, [], [(.bipush (-2), []), (.ireturn, [])], 0)]
def mt_8 : Nat × Nat × List jB := (1, 2, k_Jo_hoursTillRest)
set_option maxRecDepth 100000 in
theorem ck_8 : jok jm_8 mt_8 = true := by decide +kernel
def k_Jo_passTo : List jB := [
  (0, [0, 1], [(.aload_n 0, []), (.getfield 69, [0, 0, 0]), (.istore_n 2, [])], 1),
  (5, [0, 1, 2], [(.iload_n 2, []), (.iload_n 1, []), (.if_icmp .ge 13, [2]), (.aload_n 0, []), (.invokevirtual 96, [10, 0, 0, 0]), (.iinc 2 1, []), (.goto (-12), [1])], 0),
  (20, [], [(.return_, [])], 0)]
def mt_9 : Nat × Nat × List jB := (0, 3, k_Jo_passTo)
set_option maxRecDepth 100000 in
theorem ck_9 : jok jm_9 mt_9 = true := by decide +kernel
def k_Jo_pass : List jB := [
  (0, [0], [(.iconst 0, []), (.istore_n 1, [])], 1),
  (2, [0, 1], [(.iload_n 1, []), (.aload_n 0, []), (.getfield 65, [0, 3, 0]), (.if_icmp .ge 44, [3]), (.aload_n 0, []), (.getfield 27, [0, 7, 4]), (.iload_n 1, []), (.iaload, []), (.ifCond .ne 29, [2]), (.aload_n 0, []), (.getfield 24, [0, 6, 4]), (.iload_n 1, []), (.iaload, []), (.aload_n 0, []), (.getfield 69, [0, 0, 0]), (.if_icmp .ne 16, [2]), (.aload_n 0, []), (.iload_n 1, []), (.invokevirtual 99, [11, 1, 0, 1]), (.ifCond .ne 8, [2]), (.aload_n 0, []), (.iload_n 1, []), (.invokevirtual 103, [12, 1, 0, 0])], 2),
  (45, [0, 1], [(.iinc 1 1, []), (.goto (-46), [1])], 0),
  (51, [0], [(.iconst 0, []), (.istore_n 1, [])], 4),
  (53, [0, 1], [(.iload_n 1, []), (.aload_n 0, []), (.getfield 65, [0, 3, 0]), (.if_icmp .ge 37, [6]), (.aload_n 0, []), (.getfield 27, [0, 7, 4]), (.iload_n 1, []), (.iaload, []), (.iconst 1, []), (.if_icmp .ne 21, [5]), (.aload_n 0, []), (.getfield 24, [0, 6, 4]), (.iload_n 1, []), (.iaload, []), (.aload_n 0, []), (.getfield 69, [0, 0, 0]), (.if_icmp .ge 8, [5]), (.aload_n 0, []), (.iload_n 1, []), (.invokevirtual 107, [13, 1, 0, 0])], 5),
  (89, [0, 1], [(.iinc 1 1, []), (.goto (-39), [4])], 0),
  (95, [0], [(.aload_n 0, []), (.dup, []), (.getfield 69, [0, 0, 0]), (.iconst 1, []), (.iadd, []), (.putfield 69, [0, 0, 0]), (.return_, [])], 0)]
def mt_10 : Nat × Nat × List jB := (0, 2, k_Jo_pass)
set_option maxRecDepth 100000 in
theorem ck_10 : jok jm_10 mt_10 = true := by decide +kernel
def k_Jo_isLeftOut : List jB := [
  (0, [0, 1], [(.aload_n 0, []), (.getfield 39, [0, 12, 0]), (.iconst 5, []), (.if_icmp .ne 15, [1]), (.aload_n 0, []), (.getfield 66, [0, 13, 0]), (.iload_n 1, []), (.if_icmp .ne 7, [1]), (.iconst 1, []), (.goto 4, [2])], 0),
  (20, [], [(.iconst 0, [])], 2),
  (21, [], [(.ireturn, [])], 0)]
def mt_11 : Nat × Nat × List jB := (2, 2, k_Jo_isLeftOut)
set_option maxRecDepth 100000 in
theorem ck_11 : jok jm_11 mt_11 = true := by decide +kernel
def k_Jo_dispatch : List jB := [
  (0, [0, 1], [(.aload_n 0, []), (.getfield 30, [0, 8, 4]), (.iload_n 1, []), (.aload_n 0, []), (.getfield 21, [0, 5, 4]), (.iload_n 1, []), (.iaload, []), (.iastore, []), (.aload_n 0, []), (.aload_n 0, []), (.getfield 18, [0, 4, 4]), (.iload_n 1, []), (.iaload, []), (.invokevirtual 110, [14, 1, 0, 1]), (.ifCond .ne 17, [1]), (.aload_n 0, []), (.iload_n 1, []), (.aload_n 0, []), (.getfield 18, [0, 4, 4]), (.iload_n 1, []), (.iaload, []), (.invokevirtual 113, [18, 2, 0, 0]), (.goto 14, [2])], 0),
  (39, [0, 1], [(.aload_n 0, []), (.iload_n 1, []), (.aload_n 0, []), (.getfield 18, [0, 4, 4]), (.iload_n 1, []), (.iaload, []), (.invokevirtual 117, [17, 2, 0, 0])], 2),
  (50, [], [(.return_, [])], 0)]
def mt_12 : Nat × Nat × List jB := (0, 2, k_Jo_dispatch)
set_option maxRecDepth 100000 in
theorem ck_12 : jok jm_12 mt_12 = true := by decide +kernel
def k_Jo_bring : List jB := [
  (0, [0, 1], [(.aload_n 0, []), (.getfield 36, [0, 10, 4]), (.iload_n 1, []), (.iaload, []), (.istore_n 2, []), (.aload_n 0, []), (.getfield 33, [0, 9, 4]), (.iload_n 1, []), (.dup2, []), (.iaload, []), (.iconst 1, []), (.iadd, []), (.iastore, []), (.aload_n 0, []), (.iload_n 2, []), (.invokevirtual 110, [14, 1, 0, 1]), (.ifCond .eq 14, [1]), (.aload_n 0, []), (.getfield 33, [0, 9, 4]), (.iload_n 1, []), (.iaload, []), (.bipush 100, []), (.if_icmp .lt 10, [2])], 1),
  (36, [0, 1, 2], [(.aload_n 0, []), (.iload_n 1, []), (.iload_n 2, []), (.invokevirtual 113, [18, 2, 0, 0]), (.return_, [])], 0),
  (43, [0, 1, 2], [(.aload_n 0, []), (.iload_n 2, []), (.iload_n 1, []), (.invokevirtual 120, [15, 2, 0, 1]), (.istore_n 3, []), (.aload_n 0, []), (.getfield 9, [0, 1, 4]), (.iload_n 2, []), (.dup2, []), (.iaload, []), (.iload_n 3, []), (.iadd, []), (.iastore, []), (.aload_n 0, []), (.getfield 30, [0, 8, 4]), (.iload_n 1, []), (.dup2, []), (.iaload, []), (.iload_n 3, []), (.isub, []), (.iastore, []), (.aload_n 0, []), (.getfield 30, [0, 8, 4]), (.iload_n 1, []), (.iaload, []), (.ifCond .le 12, [3]), (.aload_n 0, []), (.iload_n 1, []), (.iload_n 2, []), (.invokevirtual 117, [17, 2, 0, 0]), (.goto 9, [4])], 0),
  (88, [0, 1, 2], [(.aload_n 0, []), (.iload_n 1, []), (.iload_n 2, []), (.invokevirtual 113, [18, 2, 0, 0])], 4),
  (94, [], [(.return_, [])], 0)]
def mt_13 : Nat × Nat × List jB := (0, 4, k_Jo_bring)
set_option maxRecDepth 100000 in
theorem ck_13 : jok jm_13 mt_13 = true := by decide +kernel
def k_Jo_waysOf : List jB := [
  (0, [0, 1], [(.aload_n 0, []), (.getfield 43, [0, 11, 3]), (.getfield 124, [6, 4, 4]), (.iload_n 1, []), (.iaload, []), (.istore_n 2, []), (.aload_n 0, []), (.getfield 39, [0, 12, 0]), (.ifCond .ne 13, [1]), (.aload_n 0, []), (.getfield 66, [0, 13, 0]), (.iload_n 1, []), (.if_icmp .ne 5, [1]), (.iconst 0, []), (.ireturn, [])], 0),
  (27, [0, 2], [(.aload_n 0, []), (.getfield 39, [0, 12, 0]), (.iconst 2, []), (.if_icmp .ne 11, [2]), (.iload_n 2, []), (.iconst 1, []), (.invokestatic 127, [911, 0]), (.goto 4, [3])], 0),
  (43, [2], [(.iload_n 2, [])], 3),
  (44, [], [(.ireturn, [])], 0)]
def mt_14 : Nat × Nat × List jB := (1, 3, k_Jo_waysOf)
set_option maxRecDepth 100000 in
theorem ck_14 : jok jm_14 mt_14 = true := by decide +kernel
def k_Jo_shareOf : List jB := [
  (0, [0, 1, 2], [(.aload_n 0, []), (.getfield 30, [0, 8, 4]), (.iload_n 2, []), (.iaload, []), (.istore_n 3, []), (.aload_n 0, []), (.getfield 39, [0, 12, 0]), (.iconst 4, []), (.if_icmp .ne 7, [1]), (.iload_n 3, []), (.iconst 2, []), (.idiv, []), (.ireturn, [])], 0),
  (19, [0, 1, 2, 3], [(.aload_n 0, []), (.getfield 39, [0, 12, 0]), (.iconst 3, []), (.if_icmp .ne 17, [2]), (.aload_n 0, []), (.getfield 66, [0, 13, 0]), (.iload_n 1, []), (.if_icmp .ne 9, [2]), (.iload_n 3, []), (.iload_n 3, []), (.iconst 2, []), (.idiv, []), (.isub, []), (.ireturn, [])], 0),
  (41, [0, 1, 2, 3], [(.aload_n 0, []), (.iload_n 1, []), (.invokevirtual 132, [16, 1, 0, 1]), (.istore 4, []), (.aload_n 0, []), (.aload_n 0, []), (.getfield 43, [0, 11, 3]), (.iload_n 1, []), (.aload_n 0, []), (.getfield 15, [0, 2, 4]), (.iload_n 1, []), (.iaload, []), (.invokevirtual 135, [101, 2, 6, 1]), (.invokevirtual 132, [16, 1, 0, 1]), (.istore 5, []), (.iload_n 3, []), (.iconst 2, []), (.irem, []), (.ifCond .eq 36, [3]), (.aload_n 0, []), (.getfield 43, [0, 11, 3]), (.getfield 138, [6, 12, 4]), (.iconst 4, []), (.iload_n 3, []), (.iload 4, []), (.iload 5, []), (.aload_n 0, []), (.getfield 33, [0, 9, 4]), (.iload_n 2, []), (.iaload, []), (.aload_n 0, []), (.getfield 69, [0, 0, 0]), (.invokevirtual 142, [23, 6, 1, 1]), (.ifCond .eq 7, [3]), (.iconst 1, []), (.goto 4, [4])], 0),
  (107, [3], [(.iconst 0, [])], 4),
  (108, [3], [(.istore 6, []), (.iload 6, []), (.ifCond .eq 11, [5]), (.iload_n 3, []), (.iconst 2, []), (.idiv, []), (.iconst 1, []), (.iadd, []), (.goto 6, [6])], 0),
  (123, [3], [(.iload_n 3, []), (.iconst 2, []), (.idiv, [])], 6),
  (126, [], [(.ireturn, [])], 0)]
def mt_15 : Nat × Nat × List jB := (1, 7, k_Jo_shareOf)
set_option maxRecDepth 100000 in
theorem ck_15 : jok jm_15 mt_15 = true := by decide +kernel
def k_Jo_ageOf : List jB := [
  (0, [0, 1], [(.aload_n 0, []), (.getfield 39, [0, 12, 0]), (.iconst 1, []), (.if_icmp .eq 14, [1]), (.aload_n 0, []), (.getfield 43, [0, 11, 3]), (.iload_n 1, []), (.invokevirtual 148, [93, 1, 6, 1]), (.ifCond .ne 7, [2])], 1),
  (19, [], [(.iconst 0, []), (.goto 12, [3])], 0),
  (23, [0, 1], [(.aload_n 0, []), (.getfield 43, [0, 11, 3]), (.getfield 151, [6, 2, 4]), (.iload_n 1, []), (.iaload, [])], 3),
  (32, [], [(.ireturn, [])], 0)]
def mt_16 : Nat × Nat × List jB := (1, 2, k_Jo_ageOf)
set_option maxRecDepth 100000 in
theorem ck_16 : jok jm_16 mt_16 = true := by decide +kernel
def k_Jo_handOn : List jB := [
  (0, [0, 1, 2], [(.aload_n 0, []), (.getfield 27, [0, 7, 4]), (.iload_n 1, []), (.iconst 1, []), (.iastore, []), (.aload_n 0, []), (.getfield 36, [0, 10, 4]), (.iload_n 1, []), (.aload_n 0, []), (.getfield 43, [0, 11, 3]), (.iload_n 2, []), (.aload_n 0, []), (.getfield 15, [0, 2, 4]), (.iload_n 2, []), (.iaload, []), (.invokevirtual 135, [101, 2, 6, 1]), (.iastore, []), (.aload_n 0, []), (.getfield 15, [0, 2, 4]), (.iload_n 2, []), (.aload_n 0, []), (.getfield 15, [0, 2, 4]), (.iload_n 2, []), (.iaload, []), (.iconst 1, []), (.iadd, []), (.aload_n 0, []), (.iload_n 2, []), (.invokevirtual 110, [14, 1, 0, 1]), (.if_icmp .ge 14, [1]), (.aload_n 0, []), (.getfield 15, [0, 2, 4]), (.iload_n 2, []), (.iaload, []), (.iconst 1, []), (.iadd, []), (.goto 4, [2])], 0),
  (59, [], [(.iconst 0, [])], 2),
  (60, [], [(.iastore, []), (.return_, [])], 0)]
def mt_17 : Nat × Nat × List jB := (0, 3, k_Jo_handOn)
set_option maxRecDepth 100000 in
theorem ck_17 : jok jm_17 mt_17 = true := by decide +kernel
def k_Jo_settle : List jB := [
  (0, [0, 1, 2], [(.aload_n 0, []), (.getfield 9, [0, 1, 4]), (.iload_n 2, []), (.dup2, []), (.iaload, []), (.aload_n 0, []), (.getfield 30, [0, 8, 4]), (.iload_n 1, []), (.iaload, []), (.iadd, []), (.iastore, []), (.aload_n 0, []), (.getfield 30, [0, 8, 4]), (.iload_n 1, []), (.iconst 0, []), (.iastore, []), (.aload_n 0, []), (.getfield 27, [0, 7, 4]), (.iload_n 1, []), (.iconst 2, []), (.iastore, []), (.aload_n 0, []), (.getfield 36, [0, 10, 4]), (.iload_n 1, []), (.iconst (-1), []), (.iastore, []), (.return_, [])], 0)]
def mt_18 : Nat × Nat × List jB := (0, 3, k_Jo_settle)
set_option maxRecDepth 100000 in
theorem ck_18 : jok jm_18 mt_18 = true := by decide +kernel
def k_La_clear : List jB := [
  (0, [0], [(.aload_n 0, []), (.iconst 0, []), (.putfield 33, [1, 0, 0]), (.aload_n 0, []), (.iconst 0, []), (.putfield 37, [1, 2, 0]), (.aload_n 0, []), (.iconst 0, []), (.putfield 40, [1, 1, 1]), (.return_, [])], 0)]
def mt_19 : Nat × Nat × List jB := (0, 1, k_La_clear)
set_option maxRecDepth 100000 in
theorem ck_19 : jok jm_19 mt_19 = true := by decide +kernel
def k_La_open : List jB := [
  (0, [0, 1], [(.aload_n 0, []), (.getfield 20, [1, 5, 4]), (.iload_n 1, []), (.aload_n 0, []), (.getfield 37, [1, 2, 0]), (.iastore, []), (.return_, [])], 0)]
def mt_20 : Nat × Nat × List jB := (0, 2, k_La_open)
set_option maxRecDepth 100000 in
theorem ck_20 : jok jm_20 mt_20 = true := by decide +kernel
def k_La_close : List jB := [
  (0, [0, 1], [(.aload_n 0, []), (.getfield 23, [1, 6, 4]), (.iload_n 1, []), (.aload_n 0, []), (.getfield 37, [1, 2, 0]), (.iastore, []), (.return_, [])], 0)]
def mt_21 : Nat × Nat × List jB := (0, 2, k_La_close)
set_option maxRecDepth 100000 in
theorem ck_21 : jok jm_21 mt_21 = true := by decide +kernel
def k_La_write : List jB := [
  (0, [0, 1, 2], [(.aload_n 0, []), (.getfield 37, [1, 2, 0]), (.bipush 64, []), (.if_icmp .ge 33, [1]), (.aload_n 0, []), (.getfield 11, [1, 3, 4]), (.aload_n 0, []), (.getfield 37, [1, 2, 0]), (.iload_n 1, []), (.iastore, []), (.aload_n 0, []), (.getfield 17, [1, 4, 4]), (.aload_n 0, []), (.getfield 37, [1, 2, 0]), (.iload_n 2, []), (.iastore, []), (.aload_n 0, []), (.dup, []), (.getfield 37, [1, 2, 0]), (.iconst 1, []), (.iadd, []), (.putfield 37, [1, 2, 0])], 1),
  (39, [], [(.return_, [])], 0)]
def mt_22 : Nat × Nat × List jB := (0, 3, k_La_write)
set_option maxRecDepth 100000 in
theorem ck_22 : jok jm_22 mt_22 = true := by decide +kernel
def k_La_oddStays : List jB := [
  (0, [0, 1, 2, 3, 4, 5, 6], [(.iload_n 1, []), (.iconst 4, []), (.if_icmp .ne 22, [3]), (.aload_n 0, []), (.getfield 40, [1, 1, 1]), (.ifCond .ne 15, [3]), (.iload_n 3, []), (.iload 4, []), (.if_icmp .le 7, [1]), (.iconst 1, []), (.goto 4, [2])], 0),
  (22, [], [(.iconst 0, [])], 2),
  (23, [], [(.ireturn, [])], 0),
  (24, [0, 1, 2, 3, 4, 5, 6], [(.aload_n 0, []), (.iload_n 1, []), (.iload_n 2, []), (.iload_n 3, []), (.iload 4, []), (.iload 5, []), (.iload 6, []), (.invokevirtual 44, [25, 6, 1, 2]), (.lstore 7, []), (.lload 7, []), (.lconst 0, []), (.lcmp, []), (.ifCond .eq 16, [4]), (.lload 7, []), (.ldc2_w 48, [9223372036854775808]), (.lcmp, []), (.ifCond .eq 7, [4]), (.iconst 1, []), (.goto 4, [5])], 0),
  (59, [], [(.iconst 0, [])], 5),
  (60, [], [(.ireturn, [])], 0)]
def mt_23 : Nat × Nat × List jB := (2, 9, k_La_oddStays)
set_option maxRecDepth 100000 in
theorem ck_23 : jok jm_23 mt_23 = true := by decide +kernel
def k_La_share : List jB := [
  (0, [0, 1, 2, 3, 4, 5, 6], [(.iload_n 2, []), (.iconst 2, []), (.idiv, []), (.istore 7, []), (.iload_n 2, []), (.iconst 2, []), (.irem, []), (.ifCond .eq 26, [1]), (.aload_n 0, []), (.iload_n 1, []), (.iload_n 2, []), (.iload_n 3, []), (.iload 4, []), (.iload 5, []), (.iload 6, []), (.invokevirtual 50, [23, 6, 1, 1]), (.ifCond .eq 10, [1]), (.iload 7, []), (.iconst 1, []), (.iadd, []), (.goto 5, [2])], 0),
  (34, [7], [(.iload 7, [])], 2),
  (36, [], [(.ireturn, [])], 0)]
def mt_24 : Nat × Nat × List jB := (1, 8, k_La_share)
set_option maxRecDepth 100000 in
theorem ck_24 : jok jm_24 mt_24 = true := by decide +kernel
def k_La_value : List jB := [
  (0, [0, 1, 2, 3, 4, 5, 6], [(.aload_n 0, []), (.getfield 26, [1, 7, 4]), (.iconst 0, []), (.iload_n 2, []), (.iastore, []), (.aload_n 0, []), (.getfield 26, [1, 7, 4]), (.iconst 1, []), (.iload_n 3, []), (.iastore, []), (.aload_n 0, []), (.getfield 26, [1, 7, 4]), (.iconst 2, []), (.iload 4, []), (.iastore, []), (.aload_n 0, []), (.getfield 26, [1, 7, 4]), (.iconst 3, []), (.iload_n 3, []), (.iload 4, []), (.if_icmp .le 7, [1]), (.iconst 1, []), (.goto 4, [2])], 0),
  (37, [0, 1, 5, 6], [(.iconst 0, [])], 2),
  (38, [0, 1, 5, 6], [(.iastore, []), (.aload_n 0, []), (.getfield 26, [1, 7, 4]), (.iconst 4, []), (.iload 5, []), (.iastore, []), (.aload_n 0, []), (.getfield 26, [1, 7, 4]), (.iconst 5, []), (.iload 6, []), (.iastore, []), (.iconst 0, []), (.istore 7, []), (.aload_n 0, []), (.getfield 20, [1, 5, 4]), (.iload_n 1, []), (.iaload, []), (.istore 8, [])], 3),
  (66, [0, 1, 7, 8], [(.iload 8, []), (.aload_n 0, []), (.getfield 23, [1, 6, 4]), (.iload_n 1, []), (.iaload, []), (.if_icmp .ge 210, [12]), (.aload_n 0, []), (.getfield 11, [1, 3, 4]), (.iload 8, []), (.iaload, []), (.istore 9, []), (.iload 9, []), (.iconst 5, []), (.if_icmp .gt 31, [4]), (.iload 7, []), (.bipush 64, []), (.if_icmp .ge 24, [4]), (.aload_n 0, []), (.getfield 29, [1, 8, 4]), (.iload 7, []), (.aload_n 0, []), (.getfield 26, [1, 7, 4]), (.iload 9, []), (.iaload, []), (.i2l, []), (.lastore, []), (.iinc 7 1, []), (.goto 120, [9])], 0),
  (120, [0, 1, 7, 8, 9], [(.iload 9, []), (.bipush 17, []), (.if_icmp .ne 31, [5]), (.iload 7, []), (.bipush 64, []), (.if_icmp .ge 24, [5]), (.aload_n 0, []), (.getfield 29, [1, 8, 4]), (.iload 7, []), (.aload_n 0, []), (.getfield 17, [1, 4, 4]), (.iload 8, []), (.iaload, []), (.i2l, []), (.lastore, []), (.iinc 7 1, []), (.goto 85, [9])], 0),
  (155, [0, 1, 7, 8, 9], [(.iload 9, []), (.bipush 14, []), (.if_icmp .ne 39, [8]), (.iload 7, []), (.ifCond .le 34, [8]), (.aload_n 0, []), (.getfield 29, [1, 8, 4]), (.iload 7, []), (.iconst 1, []), (.isub, []), (.aload_n 0, []), (.getfield 29, [1, 8, 4]), (.iload 7, []), (.iconst 1, []), (.isub, []), (.laload, []), (.lconst 0, []), (.lcmp, []), (.ifCond .ne 7, [6]), (.lconst 1, []), (.goto 4, [7])], 0),
  (193, [0, 1, 7, 8], [(.lconst 0, [])], 7),
  (194, [0, 1, 7, 8], [(.lastore, []), (.goto 42, [9])], 0),
  (198, [0, 1, 7, 8, 9], [(.iload 7, []), (.iconst 1, []), (.if_icmp .le 36, [9]), (.iinc 7 (-1), []), (.aload_n 0, []), (.getfield 29, [1, 8, 4]), (.iload 7, []), (.iconst 1, []), (.isub, []), (.iload 9, []), (.aload_n 0, []), (.getfield 29, [1, 8, 4]), (.iload 7, []), (.iconst 1, []), (.isub, []), (.laload, []), (.aload_n 0, []), (.getfield 29, [1, 8, 4]), (.iload 7, []), (.laload, []), (.invokestatic 56, [26, 3, 2]), (.lastore, [])], 9),
  (237, [0, 1, 7, 8], [(.iload 7, []), (.ifCond .eq 35, [10]), (.aload_n 0, []), (.getfield 29, [1, 8, 4]), (.iload 7, []), (.iconst 1, []), (.isub, []), (.laload, []), (.ldc2_w 60, [1000000000000]), (.lcmp, []), (.ifCond .gt 19, [10]), (.aload_n 0, []), (.getfield 29, [1, 8, 4]), (.iload 7, []), (.iconst 1, []), (.isub, []), (.laload, []), (.ldc2_w 62, [18446743073709551616]), (.lcmp, []), (.ifCond .ge 7, [11])], 10),
  (274, [], [(.ldc2_w 48, [9223372036854775808]), (.lreturn, [])], 0),
  (278, [0, 1, 7, 8], [(.iinc 8 1, []), (.goto (-215), [3])], 0),
  (284, [0], [(.aload_n 0, []), (.getfield 29, [1, 8, 4]), (.iconst 0, []), (.laload, []), (.lreturn, [])], 0)]
def mt_25 : Nat × Nat × List jB := (3, 10, k_La_value)
set_option maxRecDepth 100000 in
theorem ck_25 : jok jm_25 mt_25 = true := by decide +kernel
def k_La_joined : List jB := [
  (0, [0, 1, 3], [(.lload_n 1, []), (.lconst 0, []), (.lcmp, []), (.ifCond .ge 8, [1]), (.lload_n 1, []), (.lneg, []), (.goto 4, [2])], 0),
  (11, [0, 1, 3], [(.lload_n 1, [])], 2),
  (12, [0, 1, 3], [(.lstore 5, []), (.lload_n 3, []), (.lconst 0, []), (.lcmp, []), (.ifCond .ge 8, [3]), (.lload_n 3, []), (.lneg, []), (.goto 4, [4])], 0),
  (25, [0, 1, 3, 5], [(.lload_n 3, [])], 4),
  (26, [0, 1, 3, 5], [(.lstore 7, []), (.iload_n 0, []), (.lookupswitch 272 #[(10, 194), (15, 176), (37, 160), (42, 115), (43, 107), (45, 111), (47, 144), (60, 212), (61, 236), (256, 224), (257, 248), (258, 260)], [38, 19, 16, 13, 7, 5, 6, 10, 23, 29, 26, 32, 35])], 0),
  (136, [1, 3], [(.lload_n 1, []), (.lload_n 3, []), (.ladd, []), (.lreturn, [])], 0),
  (140, [1, 3], [(.lload_n 1, []), (.lload_n 3, []), (.lsub, []), (.lreturn, [])], 0),
  (144, [1, 3, 5, 7], [(.lload 5, []), (.lconst 0, []), (.lcmp, []), (.ifCond .le 21, [8]), (.lload 7, []), (.ldc2_w 60, [1000000000000]), (.lload 5, []), (.ldiv, []), (.lcmp, []), (.ifCond .le 9, [8]), (.ldc2_w 48, [9223372036854775808]), (.goto 6, [9])], 0),
  (169, [1, 3], [(.lload_n 1, []), (.lload_n 3, []), (.lmul, [])], 9),
  (172, [], [(.lreturn, [])], 0),
  (173, [1, 3], [(.lload_n 3, []), (.lconst 0, []), (.lcmp, []), (.ifCond .ne 9, [11]), (.ldc2_w 48, [9223372036854775808]), (.goto 6, [12])], 0),
  (185, [1, 3], [(.lload_n 1, []), (.lload_n 3, []), (.ldiv, [])], 12),
  (188, [], [(.lreturn, [])], 0),
  (189, [1, 3], [(.lload_n 3, []), (.lconst 0, []), (.lcmp, []), (.ifCond .ne 9, [14]), (.ldc2_w 48, [9223372036854775808]), (.goto 6, [15])], 0),
  (201, [1, 3], [(.lload_n 1, []), (.lload_n 3, []), (.lrem, [])], 15),
  (204, [], [(.lreturn, [])], 0),
  (205, [1, 3], [(.lload_n 1, []), (.lconst 0, []), (.lcmp, []), (.ifCond .eq 13, [17]), (.lload_n 3, []), (.lconst 0, []), (.lcmp, []), (.ifCond .eq 7, [17]), (.lconst 1, []), (.goto 4, [18])], 0),
  (221, [], [(.lconst 0, [])], 18),
  (222, [], [(.lreturn, [])], 0),
  (223, [1, 3], [(.lload_n 1, []), (.lconst 0, []), (.lcmp, []), (.ifCond .ne 9, [20]), (.lload_n 3, []), (.lconst 0, []), (.lcmp, []), (.ifCond .eq 7, [21])], 20),
  (235, [], [(.lconst 1, []), (.goto 4, [22])], 0),
  (239, [], [(.lconst 0, [])], 22),
  (240, [], [(.lreturn, [])], 0),
  (241, [1, 3], [(.lload_n 1, []), (.lload_n 3, []), (.lcmp, []), (.ifCond .ge 7, [24]), (.lconst 1, []), (.goto 4, [25])], 0),
  (251, [], [(.lconst 0, [])], 25),
  (252, [], [(.lreturn, [])], 0),
  (253, [1, 3], [(.lload_n 1, []), (.lload_n 3, []), (.lcmp, []), (.ifCond .gt 7, [27]), (.lconst 1, []), (.goto 4, [28])], 0),
  (263, [], [(.lconst 0, [])], 28),
  (264, [], [(.lreturn, [])], 0),
  (265, [1, 3], [(.lload_n 1, []), (.lload_n 3, []), (.lcmp, []), (.ifCond .ne 7, [30]), (.lconst 1, []), (.goto 4, [31])], 0),
  (275, [], [(.lconst 0, [])], 31),
  (276, [], [(.lreturn, [])], 0),
  (277, [1, 3], [(.lload_n 1, []), (.lload_n 3, []), (.lcmp, []), (.ifCond .eq 7, [33]), (.lconst 1, []), (.goto 4, [34])], 0),
  (287, [], [(.lconst 0, [])], 34),
  (288, [], [(.lreturn, [])], 0),
  (289, [1, 3], [(.lload_n 1, []), (.lload_n 3, []), (.lcmp, []), (.ifCond .lt 7, [36]), (.lconst 1, []), (.goto 4, [37])], 0),
  (299, [], [(.lconst 0, [])], 37),
  (300, [], [(.lreturn, [])], 0),
  (301, [1, 3], [(.lload_n 1, []), (.lload_n 3, []), (.lcmp, []), (.ifCond .le 7, [39]), (.lconst 1, []), (.goto 4, [40])], 0),
  (311, [], [(.lconst 0, [])], 40),
  (312, [], [(.lreturn, [])], 0)]
def mt_26 : Nat × Nat × List jB := (3, 9, k_La_joined)
set_option maxRecDepth 100000 in
theorem ck_26 : jok jm_26 mt_26 = true := by decide +kernel
def k_Nt_clear : List jB := [
  (0, [0], [(.aload_n 0, []), (.iconst 0, []), (.putfield 39, [2, 0, 0]), (.aload_n 0, []), (.iconst (-1), []), (.putfield 9, [2, 1, 0]), (.return_, [])], 0)]
def mt_27 : Nat × Nat × List jB := (0, 1, k_Nt_clear)
set_option maxRecDepth 100000 in
theorem ck_27 : jok jm_27 mt_27 = true := by decide +kernel
def k_Nt_add : List jB := [
  (0, [0, 1, 2, 4, 5, 6], [(.aload_n 0, []), (.getfield 39, [2, 0, 0]), (.bipush 40, []), (.if_icmp .lt 5, [1]), (.iconst (-1), []), (.ireturn, [])], 0),
  (11, [0, 1, 2, 4, 5, 6], [(.aload_n 0, []), (.getfield 15, [2, 2, 4]), (.aload_n 0, []), (.getfield 39, [2, 0, 0]), (.iload_n 1, []), (.iastore, []), (.aload_n 0, []), (.getfield 19, [2, 3, 4]), (.aload_n 0, []), (.getfield 39, [2, 0, 0]), (.lload_n 2, []), (.lastore, []), (.aload_n 0, []), (.getfield 23, [2, 4, 4]), (.aload_n 0, []), (.getfield 39, [2, 0, 0]), (.iload 4, []), (.iastore, []), (.aload_n 0, []), (.getfield 26, [2, 5, 4]), (.aload_n 0, []), (.getfield 39, [2, 0, 0]), (.iload 5, []), (.iastore, []), (.aload_n 0, []), (.getfield 29, [2, 6, 4]), (.aload_n 0, []), (.getfield 39, [2, 0, 0]), (.iload 6, []), (.iastore, []), (.aload_n 0, []), (.getfield 32, [2, 7, 4]), (.aload_n 0, []), (.getfield 39, [2, 0, 0]), (.iconst (-1), []), (.iastore, []), (.aload_n 0, []), (.dup, []), (.getfield 39, [2, 0, 0]), (.iconst 1, []), (.iadd, []), (.putfield 39, [2, 0, 0]), (.aload_n 0, []), (.getfield 39, [2, 0, 0]), (.iconst 1, []), (.isub, []), (.ireturn, [])], 0)]
def mt_28 : Nat × Nat × List jB := (1, 7, k_Nt_add)
set_option maxRecDepth 100000 in
theorem ck_28 : jok jm_28 mt_28 = true := by decide +kernel
def k_Nt_addStrike : List jB := [
  (0, [0, 1], [(.aload_n 0, []), (.getfield 39, [2, 0, 0]), (.bipush 40, []), (.if_icmp .lt 5, [1]), (.iconst (-1), []), (.ireturn, [])], 0),
  (11, [0, 1], [(.aload_n 0, []), (.getfield 32, [2, 7, 4]), (.aload_n 0, []), (.getfield 39, [2, 0, 0]), (.iload_n 1, []), (.iastore, []), (.aload_n 0, []), (.dup, []), (.getfield 39, [2, 0, 0]), (.iconst 1, []), (.iadd, []), (.putfield 39, [2, 0, 0]), (.aload_n 0, []), (.getfield 39, [2, 0, 0]), (.iconst 1, []), (.isub, []), (.ireturn, [])], 0)]
def mt_29 : Nat × Nat × List jB := (1, 2, k_Nt_addStrike)
set_option maxRecDepth 100000 in
theorem ck_29 : jok jm_29 mt_29 = true := by decide +kernel
def k_Nt_knownSize : List jB := [
  (0, [0], [(.aload_n 0, []), (.getfield 9, [2, 1, 0]), (.iconst (-1), []), (.if_icmp .ne 10, [1]), (.aload_n 0, []), (.getfield 39, [2, 0, 0]), (.goto 7, [2])], 0),
  (15, [0], [(.aload_n 0, []), (.getfield 9, [2, 1, 0])], 2),
  (19, [], [(.ireturn, [])], 0)]
def mt_30 : Nat × Nat × List jB := (1, 1, k_Nt_knownSize)
set_option maxRecDepth 100000 in
theorem ck_30 : jok jm_30 mt_30 = true := by decide +kernel
def k_Nt_markStruck : List jB := [
  (0, [0], [(.iconst 0, []), (.istore_n 1, [])], 1),
  (2, [0, 1], [(.iload_n 1, []), (.aload_n 0, []), (.getfield 39, [2, 0, 0]), (.if_icmp .ge 16, [2]), (.aload_n 0, []), (.getfield 35, [2, 8, 4]), (.iload_n 1, []), (.iconst 0, []), (.bastore, []), (.iinc 1 1, []), (.goto (-18), [1])], 0),
  (23, [0], [(.aload_n 0, []), (.invokevirtual 42, [30, 0, 2, 1]), (.iconst 1, []), (.isub, []), (.istore_n 1, [])], 3),
  (30, [0, 1], [(.iload_n 1, []), (.ifCond .lt 40, [5]), (.aload_n 0, []), (.getfield 35, [2, 8, 4]), (.iload_n 1, []), (.baload, []), (.ifCond .ne 25, [4]), (.aload_n 0, []), (.getfield 32, [2, 7, 4]), (.iload_n 1, []), (.iaload, []), (.iconst (-1), []), (.if_icmp .eq 15, [4]), (.aload_n 0, []), (.getfield 35, [2, 8, 4]), (.aload_n 0, []), (.getfield 32, [2, 7, 4]), (.iload_n 1, []), (.iaload, []), (.iconst 1, []), (.bastore, [])], 4),
  (65, [0, 1], [(.iinc 1 (-1), []), (.goto (-38), [3])], 0),
  (71, [], [(.return_, [])], 0)]
def mt_31 : Nat × Nat × List jB := (0, 2, k_Nt_markStruck)
set_option maxRecDepth 100000 in
theorem ck_31 : jok jm_31 mt_31 = true := by decide +kernel
def k_Nt_holds : List jB := [
  (0, [0, 1], [(.iload_n 1, []), (.aload_n 0, []), (.invokevirtual 42, [30, 0, 2, 1]), (.if_icmp .ge 26, [1]), (.aload_n 0, []), (.getfield 32, [2, 7, 4]), (.iload_n 1, []), (.iaload, []), (.iconst (-1), []), (.if_icmp .ne 16, [1]), (.aload_n 0, []), (.getfield 35, [2, 8, 4]), (.iload_n 1, []), (.baload, []), (.ifCond .ne 7, [1]), (.iconst 1, []), (.goto 4, [2])], 0),
  (31, [], [(.iconst 0, [])], 2),
  (32, [], [(.ireturn, [])], 0)]
def mt_32 : Nat × Nat × List jB := (2, 2, k_Nt_holds)
set_option maxRecDepth 100000 in
theorem ck_32 : jok jm_32 mt_32 = true := by decide +kernel
def k_Nt_allows : List jB := [
  (0, [0, 1, 2], [(.iload_n 2, []), (.aload_n 0, []), (.getfield 26, [2, 5, 4]), (.iload_n 1, []), (.iaload, []), (.aload_n 0, []), (.getfield 29, [2, 6, 4]), (.iload_n 1, []), (.iaload, []), (.invokestatic 46, [152, 3, 1]), (.ireturn, [])], 0)]
def mt_33 : Nat × Nat × List jB := (2, 3, k_Nt_allows)
set_option maxRecDepth 100000 in
theorem ck_33 : jok jm_33 mt_33 = true := by decide +kernel
def k_Or_take : List jB := [
  (0, [0, 1, 2], [(.aload_n 0, []), (.aload_n 1, []), (.putfield 35, [3, 1, 3]), (.aload_n 0, []), (.iconst 0, []), (.putfield 39, [3, 2, 0]), (.iconst 0, []), (.istore_n 3, [])], 1),
  (12, [0, 2, 3], [(.iload_n 3, []), (.aload_n 0, []), (.getfield 35, [3, 1, 3]), (.getfield 43, [6, 0, 0]), (.if_icmp .ge 66, [3]), (.aload_n 0, []), (.getfield 31, [3, 0, 4]), (.iload_n 3, []), (.invokevirtual 48, [86, 1, 5, 1]), (.ifCond .eq 49, [2]), (.aload_n 0, []), (.getfield 39, [3, 2, 0]), (.bipush 8, []), (.if_icmp .ge 40, [2]), (.aload_n 0, []), (.getfield 9, [3, 3, 4]), (.aload_n 0, []), (.getfield 39, [3, 2, 0]), (.iload_n 3, []), (.iastore, []), (.aload_n 0, []), (.getfield 15, [3, 4, 4]), (.aload_n 0, []), (.getfield 39, [3, 2, 0]), (.aload_n 0, []), (.getfield 31, [3, 0, 4]), (.iload_n 3, []), (.invokevirtual 54, [85, 1, 5, 1]), (.iastore, []), (.aload_n 0, []), (.dup, []), (.getfield 39, [3, 2, 0]), (.iconst 1, []), (.iadd, []), (.putfield 39, [3, 2, 0])], 2),
  (80, [0, 2, 3], [(.iinc 3 1, []), (.goto (-71), [1])], 0),
  (86, [0, 2], [(.aload_n 0, []), (.getfield 18, [3, 5, 4]), (.iconst 0, []), (.iload_n 2, []), (.iastore, []), (.iconst 1, []), (.istore_n 3, [])], 4),
  (95, [0, 2, 3], [(.iload_n 3, []), (.aload_n 0, []), (.getfield 39, [3, 2, 0]), (.iconst 1, []), (.iadd, []), (.if_icmp .gt 20, [5]), (.aload_n 0, []), (.getfield 18, [3, 5, 4]), (.iload_n 3, []), (.iload_n 2, []), (.iload_n 3, []), (.iconst 1, []), (.isub, []), (.ishr, []), (.iastore, []), (.iinc 3 1, []), (.goto (-24), [4])], 0),
  (122, [0], [(.aload_n 0, []), (.invokevirtual 58, [35, 0, 3, 0]), (.return_, [])], 0)]
def mt_34 : Nat × Nat × List jB := (0, 4, k_Or_take)
set_option maxRecDepth 100000 in
theorem ck_34 : jok jm_34 mt_34 = true := by decide +kernel
def k_Or_askOddOnes : List jB := [
  (0, [0], [(.aload_n 0, []), (.getfield 31, [3, 0, 4]), (.getfield 61, [5, 1, 4]), (.aload_n 0, []), (.getfield 31, [3, 0, 4]), (.getfield 63, [5, 0, 0]), (.iconst 1, []), (.isub, []), (.iaload, []), (.istore_n 1, []), (.iconst 1, []), (.istore_n 2, [])], 1),
  (20, [0, 1, 2], [(.iload_n 2, []), (.aload_n 0, []), (.getfield 39, [3, 2, 0]), (.if_icmp .gt 85, [7]), (.iconst 0, []), (.istore_n 3, [])], 2),
  (30, [0, 1, 2, 3], [(.iload_n 3, []), (.aload_n 0, []), (.getfield 39, [3, 2, 0]), (.if_icmp .ge 69, [6]), (.iconst 0, []), (.istore 4, [])], 3),
  (41, [0, 1, 2, 3, 4], [(.iload_n 2, []), (.aload_n 0, []), (.getfield 39, [3, 2, 0]), (.if_icmp .ge 33, [4]), (.iload 4, []), (.aload_n 0, []), (.getfield 39, [3, 2, 0]), (.if_icmp .ge 24, [4]), (.aload_n 0, []), (.iload_n 2, []), (.iload_n 3, []), (.iload 4, []), (.aload_n 0, []), (.getfield 9, [3, 3, 4]), (.iload 4, []), (.iaload, []), (.invokevirtual 66, [36, 4, 3, 0]), (.iinc 4 1, []), (.goto (-35), [3])], 0),
  (79, [0, 1, 2, 3], [(.iload_n 2, []), (.aload_n 0, []), (.getfield 39, [3, 2, 0]), (.if_icmp .ne 14, [5]), (.aload_n 0, []), (.iload_n 2, []), (.iload_n 3, []), (.aload_n 0, []), (.getfield 39, [3, 2, 0]), (.iload_n 1, []), (.invokevirtual 66, [36, 4, 3, 0])], 5),
  (98, [0, 1, 2, 3], [(.iinc 3 1, []), (.goto (-71), [2])], 0),
  (104, [0, 1, 2], [(.iinc 2 1, []), (.goto (-87), [1])], 0),
  (110, [], [(.return_, [])], 0)]
def mt_35 : Nat × Nat × List jB := (0, 5, k_Or_askOddOnes)
set_option maxRecDepth 100000 in
theorem ck_35 : jok jm_35 mt_35 = true := by decide +kernel
def k_Or_askOddOne : List jB := [
  (0, [0, 1, 2, 3, 4], [(.aload_n 0, []), (.getfield 35, [3, 1, 3]), (.getfield 70, [6, 2, 4]), (.aload_n 0, []), (.getfield 9, [3, 3, 4]), (.iload_n 2, []), (.iaload, []), (.iaload, []), (.istore 5, []), (.aload_n 0, []), (.getfield 21, [3, 6, 4]), (.iload_n 1, []), (.iload_n 2, []), (.iload_n 3, []), (.invokestatic 73, [37, 3, 1]), (.aload_n 0, []), (.getfield 35, [3, 1, 3]), (.getfield 77, [6, 12, 4]), (.iconst 4, []), (.aload_n 0, []), (.getfield 18, [3, 5, 4]), (.iload_n 1, []), (.iaload, []), (.iconst 1, []), (.ior, []), (.iload 5, []), (.aload_n 0, []), (.getfield 35, [3, 1, 3]), (.getfield 70, [6, 2, 4]), (.iload 4, []), (.iaload, []), (.iload_n 1, []), (.iconst 0, []), (.invokevirtual 81, [23, 6, 1, 1]), (.bastore, []), (.return_, [])], 0)]
def mt_36 : Nat × Nat × List jB := (0, 6, k_Or_askOddOne)
set_option maxRecDepth 100000 in
theorem ck_36 : jok jm_36 mt_36 = true := by decide +kernel
def k_Or_way : List jB := [
  (0, [0, 1, 2], [(.iload_n 0, []), (.bipush 9, []), (.imul, []), (.iload_n 1, []), (.iadd, []), (.bipush 9, []), (.imul, []), (.iload_n 2, []), (.iadd, []), (.ireturn, [])], 0)]
def mt_37 : Nat × Nat × List jB := (1, 3, k_Or_way)
set_option maxRecDepth 100000 in
theorem ck_37 : jok jm_37 mt_37 = true := by decide +kernel
def k_Or_mostArriving : List jB := [
  (0, [0], [(.aload_n 0, []), (.getfield 18, [3, 5, 4]), (.iconst 0, []), (.iaload, []), (.aload_n 0, []), (.getfield 39, [3, 2, 0]), (.invokestatic 87, [153, 2, 1]), (.istore_n 1, []), (.aload_n 0, []), (.iconst 0, []), (.iload_n 1, []), (.invokevirtual 91, [47, 2, 3, 1]), (.ifCond .le 7, [1]), (.iload_n 1, []), (.goto 14, [2])], 0),
  (27, [0], [(.aload_n 0, []), (.getfield 18, [3, 5, 4]), (.aload_n 0, []), (.getfield 39, [3, 2, 0]), (.iconst 1, []), (.iadd, []), (.iaload, [])], 2),
  (38, [], [(.ireturn, [])], 0)]
def mt_38 : Nat × Nat × List jB := (1, 2, k_Or_mostArriving)
set_option maxRecDepth 100000 in
theorem ck_38 : jok jm_38 mt_38 = true := by decide +kernel
def k_Or_leastArriving : List jB := [
  (0, [0], [(.aload_n 0, []), (.getfield 18, [3, 5, 4]), (.aload_n 0, []), (.getfield 39, [3, 2, 0]), (.iconst 1, []), (.iadd, []), (.iaload, []), (.istore_n 1, []), (.aload_n 0, []), (.iconst 0, []), (.iload_n 1, []), (.invokevirtual 91, [47, 2, 3, 1]), (.ifCond .le 7, [1]), (.iload_n 1, []), (.goto 16, [2])], 0),
  (25, [0], [(.aload_n 0, []), (.getfield 18, [3, 5, 4]), (.iconst 0, []), (.iaload, []), (.aload_n 0, []), (.getfield 39, [3, 2, 0]), (.invokestatic 87, [153, 2, 1])], 2),
  (38, [], [(.ireturn, [])], 0)]
def mt_39 : Nat × Nat × List jB := (1, 2, k_Or_leastArriving)
set_option maxRecDepth 100000 in
theorem ck_39 : jok jm_39 mt_39 = true := by decide +kernel
def k_Or_howManyBring : List jB := [
  (0, [0, 1], [(.aload_n 0, []), (.iconst 0, []), (.iload_n 1, []), (.invokevirtual 91, [47, 2, 3, 1]), (.ireturn, [])], 0)]
def mt_40 : Nat × Nat × List jB := (1, 2, k_Or_howManyBring)
set_option maxRecDepth 100000 in
theorem ck_40 : jok jm_40 mt_40 = true := by decide +kernel
def k_Or_firstBringing : List jB := [
  (0, [0, 1], [(.aload_n 0, []), (.iload_n 1, []), (.invokevirtual 94, [40, 1, 3, 1]), (.ifCond .le 11, [1]), (.aload_n 0, []), (.iconst 0, []), (.invokevirtual 97, [58, 1, 3, 2]), (.goto 6, [2])], 0),
  (16, [], [(.ldc2_w 101, [18446744073709551614])], 2),
  (19, [], [(.lreturn, [])], 0)]
def mt_41 : Nat × Nat × List jB := (3, 2, k_Or_firstBringing)
set_option maxRecDepth 100000 in
theorem ck_41 : jok jm_41 mt_41 = true := by decide +kernel
def k_Or_fewestSwaps : List jB := [
  (0, [0, 1], [(.aload_n 0, []), (.iconst 1, []), (.iload_n 1, []), (.invokevirtual 91, [47, 2, 3, 1]), (.istore_n 2, []), (.iload_n 2, []), (.ldc 103, [536870912]), (.if_icmp .ge 7, [1]), (.iload_n 2, []), (.goto 5, [2])], 0),
  (17, [], [(.bipush (-2), [])], 2),
  (19, [], [(.ireturn, [])], 0)]
def mt_42 : Nat × Nat × List jB := (1, 3, k_Or_fewestSwaps)
set_option maxRecDepth 100000 in
theorem ck_42 : jok jm_42 mt_42 = true := by decide +kernel
