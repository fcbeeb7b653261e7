/-- java/lang/Integer.bitCount(I)I -/
def pz_c0 : List (Nat × List pz_Op × Nat) := [
  (0, [(1, .iload_n 0, 1, 0, 0, 0, 0), (1, .iload_n 0, 1, 0, 0, 0, 0), (0, .iconst 1, 1, 0, 0, 0, 0), (0, .iushr, 1, 0, 0, 0, 0), (3, .ldc_w 265, 3, 1431655765, 0, 0, 744), (0, .iand, 1, 0, 0, 0, 0), (0, .isub, 1, 0, 0, 0, 0), (1, .istore_n 0, 1, 0, 0, 0, 0), (1, .iload_n 0, 1, 0, 0, 0, 0), (3, .ldc_w 266, 3, 858993459, 0, 0, 745), (0, .iand, 1, 0, 0, 0, 0), (1, .iload_n 0, 1, 0, 0, 0, 0), (0, .iconst 2, 1, 0, 0, 0, 0), (0, .iushr, 1, 0, 0, 0, 0), (3, .ldc_w 266, 3, 858993459, 0, 0, 745), (0, .iand, 1, 0, 0, 0, 0), (0, .iadd, 1, 0, 0, 0, 0), (1, .istore_n 0, 1, 0, 0, 0, 0), (1, .iload_n 0, 1, 0, 0, 0, 0), (1, .iload_n 0, 1, 0, 0, 0, 0), (0, .iconst 4, 1, 0, 0, 0, 0), (0, .iushr, 1, 0, 0, 0, 0), (0, .iadd, 1, 0, 0, 0, 0), (3, .ldc_w 267, 3, 252645135, 0, 0, 746), (0, .iand, 1, 0, 0, 0, 0), (1, .istore_n 0, 1, 0, 0, 0, 0), (1, .iload_n 0, 1, 0, 0, 0, 0), (1, .iload_n 0, 1, 0, 0, 0, 0), (0, .bipush 8, 2, 0, 0, 0, 0), (0, .iushr, 1, 0, 0, 0, 0), (0, .iadd, 1, 0, 0, 0, 0), (1, .istore_n 0, 1, 0, 0, 0, 0), (1, .iload_n 0, 1, 0, 0, 0, 0), (1, .iload_n 0, 1, 0, 0, 0, 0), (0, .bipush 16, 2, 0, 0, 0, 0), (0, .iushr, 1, 0, 0, 0, 0), (0, .iadd, 1, 0, 0, 0, 0), (1, .istore_n 0, 1, 0, 0, 0, 0), (1, .iload_n 0, 1, 0, 0, 0, 0), (0, .bipush 63, 2, 0, 0, 0, 0), (0, .iand, 1, 0, 0, 0, 0), (10, .ireturn, 1, 0, 0, 0, 0)], 0)]
/-- java/lang/Math.max(II)I -/
def pz_c1 : List (Nat × List pz_Op × Nat) := [
  (0, [(1, .iload_n 0, 1, 0, 0, 0, 0), (1, .iload_n 1, 1, 0, 0, 0, 0), (9, .if_icmp .lt 7, 3, 9, 0, 0, 0), (1, .iload_n 0, 1, 0, 0, 0, 0), (8, .goto 4, 3, 10, 0, 0, 0)], 0),
  (9, [(1, .iload_n 1, 1, 0, 0, 0, 0)], 10),
  (10, [(10, .ireturn, 1, 0, 0, 0, 0)], 0)]
/-- java/lang/Math.min(II)I -/
def pz_c2 : List (Nat × List pz_Op × Nat) := [
  (0, [(1, .iload_n 0, 1, 0, 0, 0, 0), (1, .iload_n 1, 1, 0, 0, 0, 0), (9, .if_icmp .gt 7, 3, 9, 0, 0, 0), (1, .iload_n 0, 1, 0, 0, 0, 0), (8, .goto 4, 3, 10, 0, 0, 0)], 0),
  (9, [(1, .iload_n 1, 1, 0, 0, 0, 0)], 10),
  (10, [(10, .ireturn, 1, 0, 0, 0, 0)], 0)]
/-- Simplespan$Activities.<init>()V -/
def pz_c3 : List (Nat × List pz_Op × Nat) := [
  (0, [(1, .aload_n 0, 1, 0, 0, 0, 0), (6, .invokespecial 3, 3, 0, 0, 0, 137), (1, .aload_n 0, 1, 0, 0, 0, 0), (0, .iconst 0, 1, 0, 0, 0, 0), (2, .putfield 9, 3, 0, 0, 0, 0), (1, .aload_n 0, 1, 0, 0, 0, 0), (0, .bipush 9, 2, 0, 0, 0, 0), (2, .putfield 15, 3, 0, 1, 0, 1), (1, .aload_n 0, 1, 0, 0, 0, 0), (0, .iconst 5, 1, 0, 0, 0, 0), (2, .newarray .int, 2, 20, 0, 0, 0), (2, .putfield 18, 3, 0, 2, 9, 2), (1, .aload_n 0, 1, 0, 0, 0, 0), (0, .iconst 5, 1, 0, 0, 0, 0), (2, .newarray .int, 2, 20, 0, 0, 0), (2, .putfield 22, 3, 0, 3, 9, 3), (1, .aload_n 0, 1, 0, 0, 0, 0), (0, .iconst 5, 1, 0, 0, 0, 0), (2, .newarray .int, 2, 20, 0, 0, 0), (2, .putfield 25, 3, 0, 4, 9, 4), (11, .return_, 1, 0, 0, 0, 0)], 0)]
/-- Simplespan$Activities.add(III)I -/
def pz_c4 : List (Nat × List pz_Op × Nat) := [
  (0, [(1, .aload_n 0, 1, 0, 0, 0, 0), (2, .getfield 9, 3, 0, 0, 0, 0), (0, .iconst 5, 1, 0, 0, 0, 0), (9, .if_icmp .lt 5, 3, 10, 0, 0, 0), (0, .iconst (-1), 1, 0, 0, 0, 0), (10, .ireturn, 1, 0, 0, 0, 0)], 0),
  (10, [(1, .aload_n 0, 1, 0, 0, 0, 0), (2, .getfield 9, 3, 0, 0, 0, 0), (1, .istore 4, 2, 0, 0, 0, 0), (1, .aload_n 0, 1, 0, 0, 0, 0), (2, .getfield 18, 3, 0, 2, 9, 2), (1, .iload 4, 2, 0, 0, 0, 0), (1, .iload_n 1, 1, 0, 0, 0, 0), (2, .iastore, 1, 0, 0, 0, 0), (1, .aload_n 0, 1, 0, 0, 0, 0), (2, .getfield 22, 3, 0, 3, 9, 3), (1, .iload 4, 2, 0, 0, 0, 0), (1, .iload_n 2, 1, 0, 0, 0, 0), (2, .iastore, 1, 0, 0, 0, 0), (1, .aload_n 0, 1, 0, 0, 0, 0), (2, .getfield 25, 3, 0, 4, 9, 4), (1, .iload 4, 2, 0, 0, 0, 0), (1, .iload_n 3, 1, 0, 0, 0, 0), (2, .iastore, 1, 0, 0, 0, 0), (1, .aload_n 0, 1, 0, 0, 0, 0), (1, .iload 4, 2, 0, 0, 0, 0), (0, .iconst 1, 1, 0, 0, 0, 0), (0, .iadd, 1, 0, 0, 0, 0), (2, .putfield 9, 3, 0, 0, 0, 0), (1, .iload 4, 2, 0, 0, 0, 0), (10, .ireturn, 1, 0, 0, 0, 0)], 0)]
/-- Simplespan$Activities.firstOf(I)I -/
def pz_c5 : List (Nat × List pz_Op × Nat) := [
  (0, [(1, .iload_n 1, 1, 0, 0, 0, 0), (9, .ifCond .lt 17, 3, 18, 0, 0, 0), (1, .iload_n 1, 1, 0, 0, 0, 0), (0, .iconst 5, 1, 0, 0, 0, 0), (9, .if_icmp .ge 12, 3, 18, 0, 0, 0), (1, .aload_n 0, 1, 0, 0, 0, 0), (2, .getfield 18, 3, 0, 2, 9, 2), (1, .iload_n 1, 1, 0, 0, 0, 0), (2, .iaload, 1, 0, 0, 0, 0), (8, .goto 4, 3, 19, 0, 0, 0)], 0),
  (18, [(0, .iconst 0, 1, 0, 0, 0, 0)], 19),
  (19, [(10, .ireturn, 1, 0, 0, 0, 0)], 0)]
/-- Simplespan$Activities.endOf(I)I -/
def pz_c6 : List (Nat × List pz_Op × Nat) := [
  (0, [(1, .iload_n 1, 1, 0, 0, 0, 0), (9, .ifCond .lt 17, 3, 18, 0, 0, 0), (1, .iload_n 1, 1, 0, 0, 0, 0), (0, .iconst 5, 1, 0, 0, 0, 0), (9, .if_icmp .ge 12, 3, 18, 0, 0, 0), (1, .aload_n 0, 1, 0, 0, 0, 0), (2, .getfield 22, 3, 0, 3, 9, 3), (1, .iload_n 1, 1, 0, 0, 0, 0), (2, .iaload, 1, 0, 0, 0, 0), (8, .goto 4, 3, 19, 0, 0, 0)], 0),
  (18, [(0, .iconst 0, 1, 0, 0, 0, 0)], 19),
  (19, [(10, .ireturn, 1, 0, 0, 0, 0)], 0)]
/-- Simplespan$Activities.demandOf(I)I -/
def pz_c7 : List (Nat × List pz_Op × Nat) := [
  (0, [(1, .iload_n 1, 1, 0, 0, 0, 0), (9, .ifCond .lt 17, 3, 18, 0, 0, 0), (1, .iload_n 1, 1, 0, 0, 0, 0), (0, .iconst 5, 1, 0, 0, 0, 0), (9, .if_icmp .ge 12, 3, 18, 0, 0, 0), (1, .aload_n 0, 1, 0, 0, 0, 0), (2, .getfield 25, 3, 0, 4, 9, 4), (1, .iload_n 1, 1, 0, 0, 0, 0), (2, .iaload, 1, 0, 0, 0, 0), (8, .goto 4, 3, 19, 0, 0, 0)], 0),
  (18, [(0, .iconst 0, 1, 0, 0, 0, 0)], 19),
  (19, [(10, .ireturn, 1, 0, 0, 0, 0)], 0)]
/-- Simplespan$Activities.isOn(IILSimplespan$Net;)Z -/
def pz_c8 : List (Nat × List pz_Op × Nat) := [
  (0, [(1, .aload_n 3, 1, 0, 0, 0, 0), (1, .aload_n 0, 1, 0, 0, 0, 0), (1, .iload_n 1, 1, 0, 0, 0, 0), (4, .invokevirtual 28, 3, 5, 2, 0, 0), (4, .invokevirtual 32, 3, 63, 2, 5, 1), (1, .iload_n 2, 1, 0, 0, 0, 0), (9, .if_icmp .gt 20, 3, 30, 0, 0, 0), (1, .iload_n 2, 1, 0, 0, 0, 0), (1, .aload_n 3, 1, 0, 0, 0, 0), (1, .aload_n 0, 1, 0, 0, 0, 0), (1, .iload_n 1, 1, 0, 0, 0, 0), (4, .invokevirtual 37, 3, 6, 2, 0, 2), (4, .invokevirtual 32, 3, 63, 2, 5, 1), (9, .if_icmp .ge 7, 3, 30, 0, 0, 0), (0, .iconst 1, 1, 0, 0, 0, 0), (8, .goto 4, 3, 31, 0, 0, 0)], 0),
  (30, [(0, .iconst 0, 1, 0, 0, 0, 0)], 31),
  (31, [(10, .ireturn, 1, 1, 0, 0, 0)], 0)]
/-- Simplespan$Activities.demandAt(ILSimplespan$Net;)I -/
def pz_c9 : List (Nat × List pz_Op × Nat) := [
  (0, [(0, .iconst 0, 1, 0, 0, 0, 0), (1, .istore_n 3, 1, 0, 0, 0, 0), (0, .iconst 0, 1, 0, 0, 0, 0), (1, .istore 4, 2, 0, 0, 0, 0)], 5),
  (5, [(1, .iload 4, 2, 0, 0, 0, 0), (1, .aload_n 0, 1, 0, 0, 0, 0), (2, .getfield 9, 3, 0, 0, 0, 0), (9, .if_icmp .ge 29, 3, 40, 0, 0, 0), (1, .aload_n 0, 1, 0, 0, 0, 0), (1, .iload 4, 2, 0, 0, 0, 0), (1, .iload_n 1, 1, 0, 0, 0, 0), (1, .aload_n 2, 1, 0, 0, 0, 0), (4, .invokevirtual 40, 3, 8, 4, 0, 3), (9, .ifCond .eq 12, 3, 34, 0, 0, 0), (1, .iload_n 3, 1, 0, 0, 0, 0), (1, .aload_n 0, 1, 0, 0, 0, 0), (1, .iload 4, 2, 0, 0, 0, 0), (4, .invokevirtual 44, 3, 7, 2, 0, 4), (0, .iadd, 1, 0, 0, 0, 0), (1, .istore_n 3, 1, 0, 0, 0, 0)], 34),
  (34, [(1, .iinc 4 1, 3, 0, 0, 0, 0), (8, .goto (-32), 3, 5, 0, 0, 0)], 0),
  (40, [(1, .iload_n 3, 1, 0, 0, 0, 0), (10, .ireturn, 1, 0, 0, 0, 0)], 0)]
/-- Simplespan$Activities.setAt(ILSimplespan$Net;)I -/
def pz_c10 : List (Nat × List pz_Op × Nat) := [
  (0, [(0, .iconst 0, 1, 0, 0, 0, 0), (1, .istore_n 3, 1, 0, 0, 0, 0), (0, .iconst 0, 1, 0, 0, 0, 0), (1, .istore 4, 2, 0, 0, 0, 0)], 5),
  (5, [(1, .iload 4, 2, 0, 0, 0, 0), (1, .aload_n 0, 1, 0, 0, 0, 0), (2, .getfield 9, 3, 0, 0, 0, 0), (9, .if_icmp .ge 28, 3, 39, 0, 0, 0), (1, .aload_n 0, 1, 0, 0, 0, 0), (1, .iload 4, 2, 0, 0, 0, 0), (1, .iload_n 1, 1, 0, 0, 0, 0), (1, .aload_n 2, 1, 0, 0, 0, 0), (4, .invokevirtual 40, 3, 8, 4, 0, 3), (9, .ifCond .eq 11, 3, 33, 0, 0, 0), (1, .iload_n 3, 1, 0, 0, 0, 0), (1, .iload 4, 2, 0, 0, 0, 0), (4, .invokestatic 47, 3, 186, 1, 99, 5), (0, .ior, 1, 0, 0, 0, 0), (1, .istore_n 3, 1, 0, 0, 0, 0)], 33),
  (33, [(1, .iinc 4 1, 3, 0, 0, 0, 0), (8, .goto (-31), 3, 5, 0, 0, 0)], 0),
  (39, [(1, .iload_n 3, 1, 0, 0, 0, 0), (10, .ireturn, 1, 0, 0, 0, 0)], 0)]
/-- Simplespan$Activities.firstPeak(LSimplespan$Net;)I -/
def pz_c11 : List (Nat × List pz_Op × Nat) := [
  (0, [(0, .iconst (-1), 1, 0, 0, 0, 0), (1, .istore_n 2, 1, 0, 0, 0, 0), (0, .iconst 0, 1, 0, 0, 0, 0), (1, .istore_n 3, 1, 0, 0, 0, 0)], 4),
  (4, [(1, .iload_n 3, 1, 0, 0, 0, 0), (1, .aload_n 0, 1, 0, 0, 0, 0), (2, .getfield 9, 3, 0, 0, 0, 0), (9, .if_icmp .ge 60, 3, 69, 0, 0, 0), (1, .aload_n 1, 1, 0, 0, 0, 0), (1, .aload_n 0, 1, 0, 0, 0, 0), (1, .iload_n 3, 1, 0, 0, 0, 0), (4, .invokevirtual 28, 3, 5, 2, 0, 0), (4, .invokevirtual 32, 3, 63, 2, 5, 1), (1, .istore 4, 2, 0, 0, 0, 0), (1, .iload_n 2, 1, 0, 0, 0, 0), (0, .iconst (-1), 1, 0, 0, 0, 0), (9, .if_icmp .eq 9, 3, 34, 0, 0, 0), (1, .iload 4, 2, 0, 0, 0, 0), (1, .iload_n 2, 1, 0, 0, 0, 0), (9, .if_icmp .ge 7, 3, 38, 0, 0, 0)], 34),
  (34, [(0, .iconst 1, 1, 0, 0, 0, 0), (8, .goto 4, 3, 39, 0, 0, 0)], 0),
  (38, [(0, .iconst 0, 1, 0, 0, 0, 0)], 39),
  (39, [(1, .istore 5, 2, 0, 0, 0, 0), (1, .iload 5, 2, 0, 0, 0, 0), (9, .ifCond .eq 20, 3, 63, 0, 0, 0), (1, .aload_n 0, 1, 0, 0, 0, 0), (1, .iload 4, 2, 0, 0, 0, 0), (1, .aload_n 1, 1, 0, 0, 0, 0), (4, .invokevirtual 50, 3, 9, 3, 0, 6), (1, .aload_n 0, 1, 0, 0, 0, 0), (2, .getfield 15, 3, 0, 1, 0, 1), (9, .if_icmp .le 6, 3, 63, 0, 0, 0), (1, .iload 4, 2, 0, 0, 0, 0), (1, .istore_n 2, 1, 0, 0, 0, 0)], 63),
  (63, [(1, .iinc 3 1, 3, 0, 0, 0, 0), (8, .goto (-62), 3, 4, 0, 0, 0)], 0),
  (69, [(1, .iload_n 2, 1, 0, 0, 0, 0), (10, .ireturn, 1, 0, 0, 0, 0)], 0)]
/-- Simplespan$Activities.room(IILSimplespan$Net;)I -/
def pz_c12 : List (Nat × List pz_Op × Nat) := [
  (0, [(1, .aload_n 3, 1, 0, 0, 0, 0), (1, .aload_n 0, 1, 0, 0, 0, 0), (1, .iload_n 1, 1, 0, 0, 0, 0), (4, .invokevirtual 37, 3, 6, 2, 0, 2), (1, .aload_n 0, 1, 0, 0, 0, 0), (1, .iload_n 2, 1, 0, 0, 0, 0), (4, .invokevirtual 28, 3, 5, 2, 0, 0), (4, .invokevirtual 54, 3, 59, 3, 5, 7), (1, .istore 4, 2, 0, 0, 0, 0), (1, .iload 4, 2, 0, 0, 0, 0), (3, .ldc 58, 2, 1000000000, 0, 0, 1003), (9, .if_icmp .ne 9, 3, 29, 0, 0, 0), (0, .sipush 9999, 3, 0, 0, 0, 0), (8, .goto 5, 3, 31, 0, 0, 0)], 0),
  (29, [(1, .iload 4, 2, 0, 0, 0, 0)], 31),
  (31, [(10, .ireturn, 1, 0, 0, 0, 0)], 0)]
/-- Simplespan$Activities.bestOrder(LSimplespan$Net;)I -/
def pz_c13 : List (Nat × List pz_Op × Nat) := [
  (0, [(1, .aload_n 0, 1, 0, 0, 0, 0), (1, .aload_n 1, 1, 0, 0, 0, 0), (4, .invokevirtual 59, 3, 11, 2, 0, 8), (1, .istore_n 2, 1, 0, 0, 0, 0), (1, .iload_n 2, 1, 0, 0, 0, 0), (0, .iconst (-1), 1, 0, 0, 0, 0), (9, .if_icmp .ne 5, 3, 13, 0, 0, 0), (0, .iconst (-1), 1, 0, 0, 0, 0), (10, .ireturn, 1, 0, 0, 0, 0)], 0),
  (13, [(1, .aload_n 0, 1, 0, 0, 0, 0), (1, .iload_n 2, 1, 0, 0, 0, 0), (1, .aload_n 1, 1, 0, 0, 0, 0), (4, .invokevirtual 63, 3, 10, 3, 0, 9), (1, .istore_n 3, 1, 0, 0, 0, 0), (0, .iconst (-1), 1, 0, 0, 0, 0), (1, .istore 4, 2, 0, 0, 0, 0), (0, .iconst (-1), 1, 0, 0, 0, 0), (1, .istore 5, 2, 0, 0, 0, 0), (0, .iconst 0, 1, 0, 0, 0, 0), (1, .istore 6, 2, 0, 0, 0, 0)], 29),
  (29, [(1, .iload 6, 2, 0, 0, 0, 0), (1, .aload_n 0, 1, 0, 0, 0, 0), (2, .getfield 9, 3, 0, 0, 0, 0), (9, .if_icmp .ge 93, 3, 128, 0, 0, 0), (0, .iconst 0, 1, 0, 0, 0, 0), (1, .istore 7, 2, 0, 0, 0, 0)], 41),
  (41, [(1, .iload 7, 2, 0, 0, 0, 0), (1, .aload_n 0, 1, 0, 0, 0, 0), (2, .getfield 9, 3, 0, 0, 0, 0), (9, .if_icmp .ge 75, 3, 122, 0, 0, 0), (1, .iload 6, 2, 0, 0, 0, 0), (1, .iload 7, 2, 0, 0, 0, 0), (9, .if_icmp .eq 62, 3, 116, 0, 0, 0), (1, .iload_n 3, 1, 0, 0, 0, 0), (1, .iload 6, 2, 0, 0, 0, 0), (4, .invokestatic 47, 3, 186, 1, 99, 5), (0, .iand, 1, 0, 0, 0, 0), (9, .ifCond .eq 52, 3, 116, 0, 0, 0), (1, .iload_n 3, 1, 0, 0, 0, 0), (1, .iload 7, 2, 0, 0, 0, 0), (4, .invokestatic 47, 3, 186, 1, 99, 5), (0, .iand, 1, 0, 0, 0, 0), (9, .ifCond .ne 6, 3, 80, 0, 0, 0), (8, .goto 39, 3, 116, 0, 0, 0)], 0),
  (80, [(1, .aload_n 0, 1, 0, 0, 0, 0), (1, .iload 6, 2, 0, 0, 0, 0), (1, .iload 7, 2, 0, 0, 0, 0), (1, .aload_n 1, 1, 0, 0, 0, 0), (4, .invokevirtual 66, 3, 12, 4, 0, 10), (1, .istore 8, 2, 0, 0, 0, 0), (1, .iload 8, 2, 0, 0, 0, 0), (9, .ifCond .lt 23, 3, 116, 0, 0, 0), (1, .iload 8, 2, 0, 0, 0, 0), (1, .iload 5, 2, 0, 0, 0, 0), (9, .if_icmp .le 16, 3, 116, 0, 0, 0), (1, .iload 8, 2, 0, 0, 0, 0), (1, .istore 5, 2, 0, 0, 0, 0), (1, .iload 6, 2, 0, 0, 0, 0), (0, .iconst 5, 1, 0, 0, 0, 0), (0, .imul, 1, 0, 0, 0, 0), (1, .iload 7, 2, 0, 0, 0, 0), (0, .iadd, 1, 0, 0, 0, 0), (1, .istore 4, 2, 0, 0, 0, 0)], 116),
  (116, [(1, .iinc 7 1, 3, 0, 0, 0, 0), (8, .goto (-78), 3, 41, 0, 0, 0)], 0),
  (122, [(1, .iinc 6 1, 3, 0, 0, 0, 0), (8, .goto (-96), 3, 29, 0, 0, 0)], 0),
  (128, [(1, .iload 4, 2, 0, 0, 0, 0), (10, .ireturn, 1, 0, 0, 0, 0)], 0)]
/-- Simplespan$Activities.copyFrom(LSimplespan$Activities;)V -/
def pz_c14 : List (Nat × List pz_Op × Nat) := [
  (0, [(1, .aload_n 0, 1, 0, 0, 0, 0), (1, .aload_n 1, 1, 0, 0, 0, 0), (2, .getfield 9, 3, 0, 0, 0, 0), (2, .putfield 9, 3, 0, 0, 0, 0), (1, .aload_n 0, 1, 0, 0, 0, 0), (1, .aload_n 1, 1, 0, 0, 0, 0), (2, .getfield 15, 3, 0, 1, 0, 1), (2, .putfield 15, 3, 0, 1, 0, 1), (1, .aload_n 1, 1, 0, 0, 0, 0), (2, .getfield 18, 3, 0, 2, 9, 2), (0, .iconst 0, 1, 0, 0, 0, 0), (1, .aload_n 0, 1, 0, 0, 0, 0), (2, .getfield 18, 3, 0, 2, 9, 2), (0, .iconst 0, 1, 0, 0, 0, 0), (0, .iconst 5, 1, 0, 0, 0, 0), (5, .invokestatic 70, 3, 0, 0, 0, 1052), (1, .aload_n 1, 1, 0, 0, 0, 0), (2, .getfield 22, 3, 0, 3, 9, 3), (0, .iconst 0, 1, 0, 0, 0, 0), (1, .aload_n 0, 1, 0, 0, 0, 0), (2, .getfield 22, 3, 0, 3, 9, 3), (0, .iconst 0, 1, 0, 0, 0, 0), (0, .iconst 5, 1, 0, 0, 0, 0), (5, .invokestatic 70, 3, 0, 0, 0, 1052), (1, .aload_n 1, 1, 0, 0, 0, 0), (2, .getfield 25, 3, 0, 4, 9, 4), (0, .iconst 0, 1, 0, 0, 0, 0), (1, .aload_n 0, 1, 0, 0, 0, 0), (2, .getfield 25, 3, 0, 4, 9, 4), (0, .iconst 0, 1, 0, 0, 0, 0), (0, .iconst 5, 1, 0, 0, 0, 0), (5, .invokestatic 70, 3, 0, 0, 0, 1052), (11, .return_, 1, 0, 0, 0, 0)], 0)]
/-- Simplespan$Bounds.<init>()V -/
def pz_c15 : List (Nat × List pz_Op × Nat) := [
  (0, [(1, .aload_n 0, 1, 0, 0, 0, 0), (6, .invokespecial 3, 3, 0, 0, 0, 56), (1, .aload_n 0, 1, 0, 0, 0, 0), (0, .iconst 0, 1, 0, 0, 0, 0), (2, .putfield 9, 3, 1, 0, 0, 5), (1, .aload_n 0, 1, 0, 0, 0, 0), (0, .bipush 40, 2, 0, 0, 0, 0), (2, .newarray .int, 2, 20, 0, 0, 0), (2, .putfield 15, 3, 1, 1, 9, 6), (1, .aload_n 0, 1, 0, 0, 0, 0), (0, .bipush 40, 2, 0, 0, 0, 0), (2, .newarray .int, 2, 20, 0, 0, 0), (2, .putfield 19, 3, 1, 2, 9, 7), (1, .aload_n 0, 1, 0, 0, 0, 0), (0, .bipush 40, 2, 0, 0, 0, 0), (2, .newarray .int, 2, 20, 0, 0, 0), (2, .putfield 22, 3, 1, 3, 9, 8), (1, .aload_n 0, 1, 0, 0, 0, 0), (0, .bipush 40, 2, 0, 0, 0, 0), (2, .newarray .int, 2, 20, 0, 0, 0), (2, .putfield 25, 3, 1, 4, 9, 9), (1, .aload_n 0, 1, 0, 0, 0, 0), (0, .bipush 40, 2, 0, 0, 0, 0), (2, .newarray .boolean, 2, 21, 0, 0, 0), (2, .putfield 28, 3, 1, 5, 9, 10), (11, .return_, 1, 0, 0, 0, 0)], 0)]
/-- Simplespan$Bounds.add(IIII)I -/
def pz_c16 : List (Nat × List pz_Op × Nat) := [
  (0, [(1, .aload_n 0, 1, 0, 0, 0, 0), (2, .getfield 9, 3, 1, 0, 0, 5), (0, .bipush 40, 2, 0, 0, 0, 0), (9, .if_icmp .lt 5, 3, 11, 0, 0, 0), (0, .iconst (-1), 1, 0, 0, 0, 0), (10, .ireturn, 1, 0, 0, 0, 0)], 0),
  (11, [(1, .aload_n 0, 1, 0, 0, 0, 0), (2, .getfield 9, 3, 1, 0, 0, 5), (1, .istore 5, 2, 0, 0, 0, 0), (1, .aload_n 0, 1, 0, 0, 0, 0), (2, .getfield 15, 3, 1, 1, 9, 6), (1, .iload 5, 2, 0, 0, 0, 0), (1, .iload_n 1, 1, 0, 0, 0, 0), (2, .iastore, 1, 0, 0, 0, 0), (1, .aload_n 0, 1, 0, 0, 0, 0), (2, .getfield 19, 3, 1, 2, 9, 7), (1, .iload 5, 2, 0, 0, 0, 0), (1, .iload_n 2, 1, 0, 0, 0, 0), (2, .iastore, 1, 0, 0, 0, 0), (1, .aload_n 0, 1, 0, 0, 0, 0), (2, .getfield 22, 3, 1, 3, 9, 8), (1, .iload 5, 2, 0, 0, 0, 0), (1, .iload_n 3, 1, 0, 0, 0, 0), (2, .iastore, 1, 0, 0, 0, 0), (1, .aload_n 0, 1, 0, 0, 0, 0), (2, .getfield 25, 3, 1, 4, 9, 9), (1, .iload 5, 2, 0, 0, 0, 0), (1, .iload 4, 2, 0, 0, 0, 0), (2, .iastore, 1, 0, 0, 0, 0), (1, .aload_n 0, 1, 0, 0, 0, 0), (2, .getfield 28, 3, 1, 5, 9, 10), (1, .iload 5, 2, 0, 0, 0, 0), (0, .iconst 0, 1, 0, 0, 0, 0), (2, .bastore, 1, 0, 0, 0, 0), (1, .aload_n 0, 1, 0, 0, 0, 0), (1, .iload 5, 2, 0, 0, 0, 0), (0, .iconst 1, 1, 0, 0, 0, 0), (0, .iadd, 1, 0, 0, 0, 0), (2, .putfield 9, 3, 1, 0, 0, 5), (1, .iload 5, 2, 0, 0, 0, 0), (10, .ireturn, 1, 0, 0, 0, 0)], 0)]
/-- Simplespan$Bounds.isNumber(I)Z -/
def pz_c17 : List (Nat × List pz_Op × Nat) := [
  (0, [(1, .iload_n 1, 1, 0, 0, 0, 0), (9, .ifCond .lt 13, 3, 14, 0, 0, 0), (1, .iload_n 1, 1, 0, 0, 0, 0), (0, .bipush 40, 2, 0, 0, 0, 0), (9, .if_icmp .ge 7, 3, 14, 0, 0, 0), (0, .iconst 1, 1, 0, 0, 0, 0), (8, .goto 4, 3, 15, 0, 0, 0)], 0),
  (14, [(0, .iconst 0, 1, 0, 0, 0, 0)], 15),
  (15, [(10, .ireturn, 1, 1, 0, 0, 0)], 0)]
/-- Simplespan$Bounds.isDropped(I)Z -/
def pz_c18 : List (Nat × List pz_Op × Nat) := [
  (0, [(1, .aload_n 0, 1, 0, 0, 0, 0), (1, .iload_n 1, 1, 0, 0, 0, 0), (4, .invokevirtual 32, 3, 17, 2, 1, 11), (9, .ifCond .eq 16, 3, 21, 0, 0, 0), (1, .aload_n 0, 1, 0, 0, 0, 0), (2, .getfield 28, 3, 1, 5, 9, 10), (1, .iload_n 1, 1, 0, 0, 0, 0), (2, .baload, 1, 0, 0, 0, 0), (9, .ifCond .eq 7, 3, 21, 0, 0, 0), (0, .iconst 1, 1, 0, 0, 0, 0), (8, .goto 4, 3, 22, 0, 0, 0)], 0),
  (21, [(0, .iconst 0, 1, 0, 0, 0, 0)], 22),
  (22, [(10, .ireturn, 1, 1, 0, 0, 0)], 0)]
/-- Simplespan$Bounds.drop(I)V -/
def pz_c19 : List (Nat × List pz_Op × Nat) := [
  (0, [(1, .aload_n 0, 1, 0, 0, 0, 0), (1, .iload_n 1, 1, 0, 0, 0, 0), (4, .invokevirtual 32, 3, 17, 2, 1, 11), (9, .ifCond .eq 10, 3, 15, 0, 0, 0), (1, .aload_n 0, 1, 0, 0, 0, 0), (2, .getfield 28, 3, 1, 5, 9, 10), (1, .iload_n 1, 1, 0, 0, 0, 0), (0, .iconst 1, 1, 0, 0, 0, 0), (2, .bastore, 1, 0, 0, 0, 0)], 15),
  (15, [(11, .return_, 1, 0, 0, 0, 0)], 0)]
/-- Simplespan$Bounds.holds(III)Z -/
def pz_c20 : List (Nat × List pz_Op × Nat) := [
  (0, [(1, .aload_n 0, 1, 0, 0, 0, 0), (1, .iload_n 1, 1, 0, 0, 0, 0), (4, .invokevirtual 32, 3, 17, 2, 1, 11), (9, .ifCond .eq 12, 3, 17, 0, 0, 0), (1, .aload_n 0, 1, 0, 0, 0, 0), (2, .getfield 28, 3, 1, 5, 9, 10), (1, .iload_n 1, 1, 0, 0, 0, 0), (2, .baload, 1, 0, 0, 0, 0), (9, .ifCond .eq 5, 3, 19, 0, 0, 0)], 17),
  (17, [(0, .iconst 0, 1, 0, 0, 0, 0), (10, .ireturn, 1, 1, 0, 0, 0)], 0),
  (19, [(1, .aload_n 0, 1, 0, 0, 0, 0), (2, .getfield 25, 3, 1, 4, 9, 9), (1, .iload_n 1, 1, 0, 0, 0, 0), (2, .iaload, 1, 0, 0, 0, 0), (1, .istore 4, 2, 0, 0, 0, 0), (1, .iload 4, 2, 0, 0, 0, 0), (9, .ifCond .ne 5, 3, 34, 0, 0, 0), (0, .iconst 1, 1, 0, 0, 0, 0), (10, .ireturn, 1, 1, 0, 0, 0)], 0),
  (34, [(1, .iload 4, 2, 0, 0, 0, 0), (9, .ifCond .le 23, 3, 59, 0, 0, 0), (1, .iload_n 2, 1, 0, 0, 0, 0), (1, .iload 4, 2, 0, 0, 0, 0), (0, .iconst 1, 1, 0, 0, 0, 0), (0, .isub, 1, 0, 0, 0, 0), (4, .invokestatic 36, 3, 186, 1, 99, 12), (0, .iand, 1, 0, 0, 0, 0), (9, .ifCond .eq 7, 3, 55, 0, 0, 0), (0, .iconst 1, 1, 0, 0, 0, 0), (8, .goto 25, 3, 77, 0, 0, 0)], 0),
  (55, [(0, .iconst 0, 1, 0, 0, 0, 0), (8, .goto 21, 3, 77, 0, 0, 0)], 0),
  (59, [(1, .iload_n 3, 1, 0, 0, 0, 0), (1, .iload 4, 2, 0, 0, 0, 0), (0, .ineg, 1, 0, 0, 0, 0), (0, .iconst 1, 1, 0, 0, 0, 0), (0, .isub, 1, 0, 0, 0, 0), (4, .invokestatic 36, 3, 186, 1, 99, 12), (0, .iand, 1, 0, 0, 0, 0), (9, .ifCond .eq 7, 3, 76, 0, 0, 0), (0, .iconst 1, 1, 0, 0, 0, 0), (8, .goto 4, 3, 77, 0, 0, 0)], 0),
  (76, [(0, .iconst 0, 1, 0, 0, 0, 0)], 77),
  (77, [(10, .ireturn, 1, 1, 0, 0, 0)], 0)]
/-- Simplespan$Bounds.areMinutesRight(ILSimplespan$Clock;)Z -/
def pz_c21 : List (Nat × List pz_Op × Nat) := [
  (0, [(1, .aload_n 0, 1, 0, 0, 0, 0), (1, .iload_n 1, 1, 0, 0, 0, 0), (4, .invokevirtual 32, 3, 17, 2, 1, 11), (9, .ifCond .eq 37, 3, 42, 0, 0, 0), (1, .aload_n 2, 1, 0, 0, 0, 0), (1, .aload_n 0, 1, 0, 0, 0, 0), (2, .getfield 19, 3, 1, 2, 9, 7), (1, .iload_n 1, 1, 0, 0, 0, 0), (2, .iaload, 1, 0, 0, 0, 0), (4, .invokevirtual 40, 3, 25, 2, 2, 13), (1, .aload_n 2, 1, 0, 0, 0, 0), (1, .aload_n 0, 1, 0, 0, 0, 0), (2, .getfield 15, 3, 1, 1, 9, 6), (1, .iload_n 1, 1, 0, 0, 0, 0), (2, .iaload, 1, 0, 0, 0, 0), (4, .invokevirtual 40, 3, 25, 2, 2, 13), (0, .isub, 1, 0, 0, 0, 0), (1, .aload_n 0, 1, 0, 0, 0, 0), (2, .getfield 22, 3, 1, 3, 9, 8), (1, .iload_n 1, 1, 0, 0, 0, 0), (2, .iaload, 1, 0, 0, 0, 0), (9, .if_icmp .gt 7, 3, 42, 0, 0, 0), (0, .iconst 1, 1, 0, 0, 0, 0), (8, .goto 4, 3, 43, 0, 0, 0)], 0),
  (42, [(0, .iconst 0, 1, 0, 0, 0, 0)], 43),
  (43, [(10, .ireturn, 1, 1, 0, 0, 0)], 0)]
/-- Simplespan$Bounds.copyFrom(LSimplespan$Bounds;)V -/
def pz_c22 : List (Nat × List pz_Op × Nat) := [
  (0, [(1, .aload_n 0, 1, 0, 0, 0, 0), (1, .aload_n 1, 1, 0, 0, 0, 0), (2, .getfield 9, 3, 1, 0, 0, 5), (2, .putfield 9, 3, 1, 0, 0, 5), (1, .aload_n 1, 1, 0, 0, 0, 0), (2, .getfield 15, 3, 1, 1, 9, 6), (0, .iconst 0, 1, 0, 0, 0, 0), (1, .aload_n 0, 1, 0, 0, 0, 0), (2, .getfield 15, 3, 1, 1, 9, 6), (0, .iconst 0, 1, 0, 0, 0, 0), (0, .bipush 40, 2, 0, 0, 0, 0), (5, .invokestatic 45, 3, 0, 0, 0, 1037), (1, .aload_n 1, 1, 0, 0, 0, 0), (2, .getfield 19, 3, 1, 2, 9, 7), (0, .iconst 0, 1, 0, 0, 0, 0), (1, .aload_n 0, 1, 0, 0, 0, 0), (2, .getfield 19, 3, 1, 2, 9, 7), (0, .iconst 0, 1, 0, 0, 0, 0), (0, .bipush 40, 2, 0, 0, 0, 0), (5, .invokestatic 45, 3, 0, 0, 0, 1037), (1, .aload_n 1, 1, 0, 0, 0, 0), (2, .getfield 22, 3, 1, 3, 9, 8), (0, .iconst 0, 1, 0, 0, 0, 0), (1, .aload_n 0, 1, 0, 0, 0, 0), (2, .getfield 22, 3, 1, 3, 9, 8), (0, .iconst 0, 1, 0, 0, 0, 0), (0, .bipush 40, 2, 0, 0, 0, 0), (5, .invokestatic 45, 3, 0, 0, 0, 1037), (1, .aload_n 1, 1, 0, 0, 0, 0), (2, .getfield 25, 3, 1, 4, 9, 9), (0, .iconst 0, 1, 0, 0, 0, 0), (1, .aload_n 0, 1, 0, 0, 0, 0), (2, .getfield 25, 3, 1, 4, 9, 9), (0, .iconst 0, 1, 0, 0, 0, 0), (0, .bipush 40, 2, 0, 0, 0, 0), (5, .invokestatic 45, 3, 0, 0, 0, 1037), (1, .aload_n 1, 1, 0, 0, 0, 0), (2, .getfield 28, 3, 1, 5, 9, 10), (0, .iconst 0, 1, 0, 0, 0, 0), (1, .aload_n 0, 1, 0, 0, 0, 0), (2, .getfield 28, 3, 1, 5, 9, 10), (0, .iconst 0, 1, 0, 0, 0, 0), (0, .bipush 40, 2, 0, 0, 0, 0), (5, .invokestatic 45, 3, 0, 0, 0, 1037), (11, .return_, 1, 0, 0, 0, 0)], 0)]
/-- Simplespan$Clock.<init>()V -/
def pz_c23 : List (Nat × List pz_Op × Nat) := [
  (0, [(1, .aload_n 0, 1, 0, 0, 0, 0), (6, .invokespecial 3, 3, 0, 0, 0, 116), (1, .aload_n 0, 1, 0, 0, 0, 0), (0, .iconst 0, 1, 0, 0, 0, 0), (2, .putfield 9, 3, 2, 0, 0, 11), (1, .aload_n 0, 1, 0, 0, 0, 0), (0, .bipush 10, 2, 0, 0, 0, 0), (2, .newarray .int, 2, 20, 0, 0, 0), (2, .putfield 15, 3, 2, 1, 9, 12), (1, .aload_n 0, 1, 0, 0, 0, 0), (4, .invokevirtual 19, 3, 24, 1, 2, 14), (11, .return_, 1, 0, 0, 0, 0)], 0)]
/-- Simplespan$Clock.rewind()V -/
def pz_c24 : List (Nat × List pz_Op × Nat) := [
  (0, [(1, .aload_n 0, 1, 0, 0, 0, 0), (0, .iconst 0, 1, 0, 0, 0, 0), (2, .putfield 9, 3, 2, 0, 0, 11), (0, .iconst 0, 1, 0, 0, 0, 0), (1, .istore_n 1, 1, 0, 0, 0, 0)], 7),
  (7, [(1, .iload_n 1, 1, 0, 0, 0, 0), (0, .bipush 10, 2, 0, 0, 0, 0), (9, .if_icmp .ge 16, 3, 26, 0, 0, 0), (1, .aload_n 0, 1, 0, 0, 0, 0), (2, .getfield 15, 3, 2, 1, 9, 12), (1, .iload_n 1, 1, 0, 0, 0, 0), (0, .iconst (-1), 1, 0, 0, 0, 0), (2, .iastore, 1, 0, 0, 0, 0), (1, .iinc 1 1, 3, 0, 0, 0, 0), (8, .goto (-16), 3, 7, 0, 0, 0)], 0),
  (26, [(1, .aload_n 0, 1, 0, 0, 0, 0), (2, .getfield 15, 3, 2, 1, 9, 12), (0, .iconst 0, 1, 0, 0, 0, 0), (0, .iconst 0, 1, 0, 0, 0, 0), (2, .iastore, 1, 0, 0, 0, 0), (11, .return_, 1, 0, 0, 0, 0)], 0)]
/-- Simplespan$Clock.startOf(I)I -/
def pz_c25 : List (Nat × List pz_Op × Nat) := [
  (0, [(1, .iload_n 1, 1, 0, 0, 0, 0), (9, .ifCond .lt 18, 3, 19, 0, 0, 0), (1, .iload_n 1, 1, 0, 0, 0, 0), (0, .bipush 10, 2, 0, 0, 0, 0), (9, .if_icmp .ge 12, 3, 19, 0, 0, 0), (1, .aload_n 0, 1, 0, 0, 0, 0), (2, .getfield 15, 3, 2, 1, 9, 12), (1, .iload_n 1, 1, 0, 0, 0, 0), (2, .iaload, 1, 0, 0, 0, 0), (8, .goto 4, 3, 20, 0, 0, 0)], 0),
  (19, [(0, .iconst (-1), 1, 0, 0, 0, 0)], 20),
  (20, [(10, .ireturn, 1, 0, 0, 0, 0)], 0)]
/-- Simplespan$Clock.hasStarted(I)Z -/
def pz_c26 : List (Nat × List pz_Op × Nat) := [
  (0, [(1, .iload_n 1, 1, 0, 0, 0, 0), (9, .ifCond .lt 23, 3, 24, 0, 0, 0), (1, .iload_n 1, 1, 0, 0, 0, 0), (0, .bipush 10, 2, 0, 0, 0, 0), (9, .if_icmp .ge 17, 3, 24, 0, 0, 0), (1, .aload_n 0, 1, 0, 0, 0, 0), (2, .getfield 15, 3, 2, 1, 9, 12), (1, .iload_n 1, 1, 0, 0, 0, 0), (2, .iaload, 1, 0, 0, 0, 0), (0, .iconst (-1), 1, 0, 0, 0, 0), (9, .if_icmp .eq 7, 3, 24, 0, 0, 0), (0, .iconst 1, 1, 0, 0, 0, 0), (8, .goto 4, 3, 25, 0, 0, 0)], 0),
  (24, [(0, .iconst 0, 1, 0, 0, 0, 0)], 25),
  (25, [(10, .ireturn, 1, 1, 0, 0, 0)], 0)]
/-- Simplespan$Clock.hasStartedAny()Z -/
def pz_c27 : List (Nat × List pz_Op × Nat) := [
  (0, [(0, .iconst 1, 1, 0, 0, 0, 0), (1, .istore_n 1, 1, 0, 0, 0, 0)], 2),
  (2, [(1, .iload_n 1, 1, 0, 0, 0, 0), (0, .bipush 10, 2, 0, 0, 0, 0), (9, .if_icmp .ge 19, 3, 24, 0, 0, 0), (1, .aload_n 0, 1, 0, 0, 0, 0), (1, .iload_n 1, 1, 0, 0, 0, 0), (4, .invokevirtual 22, 3, 26, 2, 2, 15), (9, .ifCond .eq 5, 3, 18, 0, 0, 0), (0, .iconst 1, 1, 0, 0, 0, 0), (10, .ireturn, 1, 1, 0, 0, 0)], 0),
  (18, [(1, .iinc 1 1, 3, 0, 0, 0, 0), (8, .goto (-19), 3, 2, 0, 0, 0)], 0),
  (24, [(0, .iconst 0, 1, 0, 0, 0, 0), (10, .ireturn, 1, 1, 0, 0, 0)], 0)]
/-- Simplespan$Clock.begin(I)V -/
def pz_c28 : List (Nat × List pz_Op × Nat) := [
  (0, [(1, .iload_n 1, 1, 0, 0, 0, 0), (4, .invokestatic 26, 3, 187, 1, 99, 16), (9, .ifCond .eq 13, 3, 17, 0, 0, 0), (1, .aload_n 0, 1, 0, 0, 0, 0), (2, .getfield 15, 3, 2, 1, 9, 12), (1, .iload_n 1, 1, 0, 0, 0, 0), (1, .aload_n 0, 1, 0, 0, 0, 0), (2, .getfield 9, 3, 2, 0, 0, 11), (2, .iastore, 1, 0, 0, 0, 0)], 17),
  (17, [(11, .return_, 1, 0, 0, 0, 0)], 0)]
/-- Simplespan$Clock.copyFrom(LSimplespan$Clock;)V -/
def pz_c29 : List (Nat × List pz_Op × Nat) := [
  (0, [(1, .aload_n 0, 1, 0, 0, 0, 0), (1, .aload_n 1, 1, 0, 0, 0, 0), (2, .getfield 9, 3, 2, 0, 0, 11), (2, .putfield 9, 3, 2, 0, 0, 11), (1, .aload_n 1, 1, 0, 0, 0, 0), (2, .getfield 15, 3, 2, 1, 9, 12), (0, .iconst 0, 1, 0, 0, 0, 0), (1, .aload_n 0, 1, 0, 0, 0, 0), (2, .getfield 15, 3, 2, 1, 9, 12), (0, .iconst 0, 1, 0, 0, 0, 0), (0, .bipush 10, 2, 0, 0, 0, 0), (5, .invokestatic 29, 3, 0, 0, 0, 1047), (11, .return_, 1, 0, 0, 0, 0)], 0)]
/-- Simplespan$Costs.<init>()V -/
def pz_c30 : List (Nat × List pz_Op × Nat) := [
  (0, [(1, .aload_n 0, 1, 0, 0, 0, 0), (6, .invokespecial 3, 3, 0, 0, 0, 161), (1, .aload_n 0, 1, 0, 0, 0, 0), (0, .bipush 10, 2, 0, 0, 0, 0), (2, .newarray .int, 2, 20, 0, 0, 0), (2, .putfield 9, 3, 3, 0, 9, 13), (1, .aload_n 0, 1, 0, 0, 0, 0), (0, .bipush 10, 2, 0, 0, 0, 0), (2, .newarray .int, 2, 20, 0, 0, 0), (2, .putfield 15, 3, 3, 1, 9, 14), (1, .aload_n 0, 1, 0, 0, 0, 0), (0, .bipush 10, 2, 0, 0, 0, 0), (2, .newarray .int, 2, 20, 0, 0, 0), (2, .putfield 18, 3, 3, 2, 9, 15), (0, .iconst 0, 1, 0, 0, 0, 0), (1, .istore_n 1, 1, 0, 0, 0, 0)], 30),
  (30, [(1, .iload_n 1, 1, 0, 0, 0, 0), (0, .bipush 10, 2, 0, 0, 0, 0), (9, .if_icmp .ge 16, 3, 49, 0, 0, 0), (1, .aload_n 0, 1, 0, 0, 0, 0), (2, .getfield 9, 3, 3, 0, 9, 13), (1, .iload_n 1, 1, 0, 0, 0, 0), (0, .iconst (-1), 1, 0, 0, 0, 0), (2, .iastore, 1, 0, 0, 0, 0), (1, .iinc 1 1, 3, 0, 0, 0, 0), (8, .goto (-16), 3, 30, 0, 0, 0)], 0),
  (49, [(11, .return_, 1, 0, 0, 0, 0)], 0)]
/-- Simplespan$Costs.put(IIII)I -/
def pz_c31 : List (Nat × List pz_Op × Nat) := [
  (0, [(1, .iload_n 1, 1, 0, 0, 0, 0), (4, .invokestatic 21, 3, 187, 1, 99, 17), (9, .ifCond .ne 5, 3, 9, 0, 0, 0), (0, .iconst (-1), 1, 0, 0, 0, 0), (10, .ireturn, 1, 0, 0, 0, 0)], 0),
  (9, [(1, .aload_n 0, 1, 0, 0, 0, 0), (2, .getfield 9, 3, 3, 0, 9, 13), (1, .iload_n 1, 1, 0, 0, 0, 0), (2, .iaload, 1, 0, 0, 0, 0), (1, .istore 5, 2, 0, 0, 0, 0), (1, .aload_n 0, 1, 0, 0, 0, 0), (2, .getfield 9, 3, 3, 0, 9, 13), (1, .iload_n 1, 1, 0, 0, 0, 0), (1, .iload_n 2, 1, 0, 0, 0, 0), (2, .iastore, 1, 0, 0, 0, 0), (1, .aload_n 0, 1, 0, 0, 0, 0), (2, .getfield 15, 3, 3, 1, 9, 14), (1, .iload_n 1, 1, 0, 0, 0, 0), (1, .iload_n 3, 1, 0, 0, 0, 0), (2, .iastore, 1, 0, 0, 0, 0), (1, .aload_n 0, 1, 0, 0, 0, 0), (2, .getfield 18, 3, 3, 2, 9, 15), (1, .iload_n 1, 1, 0, 0, 0, 0), (1, .iload 4, 2, 0, 0, 0, 0), (2, .iastore, 1, 0, 0, 0, 0), (1, .iload 5, 2, 0, 0, 0, 0), (10, .ireturn, 1, 0, 0, 0, 0)], 0)]
/-- Simplespan$Costs.at(II)I -/
def pz_c32 : List (Nat × List pz_Op × Nat) := [
  (0, [(1, .iload_n 1, 1, 0, 0, 0, 0), (4, .invokestatic 21, 3, 187, 1, 99, 17), (9, .ifCond .eq 13, 3, 17, 0, 0, 0), (1, .aload_n 0, 1, 0, 0, 0, 0), (2, .getfield 9, 3, 3, 0, 9, 13), (1, .iload_n 1, 1, 0, 0, 0, 0), (2, .iaload, 1, 0, 0, 0, 0), (0, .iconst (-1), 1, 0, 0, 0, 0), (9, .if_icmp .ne 5, 3, 19, 0, 0, 0)], 17),
  (17, [(0, .iconst 0, 1, 0, 0, 0, 0), (10, .ireturn, 1, 0, 0, 0, 0)], 0),
  (19, [(1, .iload_n 2, 1, 0, 0, 0, 0), (1, .aload_n 0, 1, 0, 0, 0, 0), (2, .getfield 9, 3, 3, 0, 9, 13), (1, .iload_n 1, 1, 0, 0, 0, 0), (2, .iaload, 1, 0, 0, 0, 0), (0, .isub, 1, 0, 0, 0, 0), (1, .istore_n 3, 1, 0, 0, 0, 0), (1, .iload_n 3, 1, 0, 0, 0, 0), (9, .ifCond .ge 15, 3, 44, 0, 0, 0), (1, .iload_n 3, 1, 0, 0, 0, 0), (0, .ineg, 1, 0, 0, 0, 0), (1, .aload_n 0, 1, 0, 0, 0, 0), (2, .getfield 15, 3, 3, 1, 9, 14), (1, .iload_n 1, 1, 0, 0, 0, 0), (2, .iaload, 1, 0, 0, 0, 0), (0, .imul, 1, 0, 0, 0, 0), (8, .goto 11, 3, 52, 0, 0, 0)], 0),
  (44, [(1, .iload_n 3, 1, 0, 0, 0, 0), (1, .aload_n 0, 1, 0, 0, 0, 0), (2, .getfield 18, 3, 3, 2, 9, 15), (1, .iload_n 1, 1, 0, 0, 0, 0), (2, .iaload, 1, 0, 0, 0, 0), (0, .imul, 1, 0, 0, 0, 0)], 52),
  (52, [(10, .ireturn, 1, 0, 0, 0, 0)], 0)]
/-- Simplespan$Costs.copyFrom(LSimplespan$Costs;)V -/
def pz_c33 : List (Nat × List pz_Op × Nat) := [
  (0, [(1, .aload_n 1, 1, 0, 0, 0, 0), (2, .getfield 9, 3, 3, 0, 9, 13), (0, .iconst 0, 1, 0, 0, 0, 0), (1, .aload_n 0, 1, 0, 0, 0, 0), (2, .getfield 9, 3, 3, 0, 9, 13), (0, .iconst 0, 1, 0, 0, 0, 0), (0, .bipush 10, 2, 0, 0, 0, 0), (5, .invokestatic 25, 3, 0, 0, 0, 1057), (1, .aload_n 1, 1, 0, 0, 0, 0), (2, .getfield 15, 3, 3, 1, 9, 14), (0, .iconst 0, 1, 0, 0, 0, 0), (1, .aload_n 0, 1, 0, 0, 0, 0), (2, .getfield 15, 3, 3, 1, 9, 14), (0, .iconst 0, 1, 0, 0, 0, 0), (0, .bipush 10, 2, 0, 0, 0, 0), (5, .invokestatic 25, 3, 0, 0, 0, 1057), (1, .aload_n 1, 1, 0, 0, 0, 0), (2, .getfield 18, 3, 3, 2, 9, 15), (0, .iconst 0, 1, 0, 0, 0, 0), (1, .aload_n 0, 1, 0, 0, 0, 0), (2, .getfield 18, 3, 3, 2, 9, 15), (0, .iconst 0, 1, 0, 0, 0, 0), (0, .bipush 10, 2, 0, 0, 0, 0), (5, .invokestatic 25, 3, 0, 0, 0, 1057), (11, .return_, 1, 0, 0, 0, 0)], 0)]
/-- Simplespan$Judge.<init>(LSimplespan$Plan;)V -/
def pz_c34 : List (Nat × List pz_Op × Nat) := [
  (0, [(1, .aload_n 0, 1, 0, 0, 0, 0), (6, .invokespecial 3, 3, 0, 0, 0, 224), (1, .aload_n 0, 1, 0, 0, 0, 0), (2, .new 9, 3, 5, 5, 0, 0), (0, .dup, 1, 0, 0, 0, 0), (4, .invokespecial 11, 3, 52, 1, 5, 18), (2, .putfield 12, 3, 4, 1, 9, 16), (1, .aload_n 0, 1, 0, 0, 0, 0), (0, .bipush 40, 2, 0, 0, 0, 0), (2, .newarray .boolean, 2, 21, 0, 0, 0), (2, .putfield 18, 3, 4, 2, 9, 17), (1, .aload_n 0, 1, 0, 0, 0, 0), (0, .iconst 0, 1, 0, 0, 0, 0), (2, .putfield 22, 3, 4, 3, 0, 18), (1, .aload_n 0, 1, 0, 0, 0, 0), (0, .bipush 40, 2, 0, 0, 0, 0), (2, .newarray .int, 2, 20, 0, 0, 0), (2, .putfield 26, 3, 4, 4, 9, 19), (1, .aload_n 0, 1, 0, 0, 0, 0), (0, .bipush 10, 2, 0, 0, 0, 0), (2, .newarray .int, 2, 20, 0, 0, 0), (2, .putfield 30, 3, 4, 5, 9, 20), (1, .aload_n 0, 1, 0, 0, 0, 0), (0, .bipush 10, 2, 0, 0, 0, 0), (2, .newarray .int, 2, 20, 0, 0, 0), (2, .putfield 33, 3, 4, 6, 9, 21), (1, .aload_n 0, 1, 0, 0, 0, 0), (1, .aload_n 1, 1, 0, 0, 0, 0), (2, .putfield 36, 3, 4, 0, 9, 22), (11, .return_, 1, 0, 0, 0, 0)], 0)]
/-- Simplespan$Judge.leaveHeld()V -/
def pz_c35 : List (Nat × List pz_Op × Nat) := [
  (0, [(1, .aload_n 0, 1, 0, 0, 0, 0), (1, .aload_n 0, 1, 0, 0, 0, 0), (2, .getfield 36, 3, 4, 0, 9, 22), (4, .invokevirtual 40, 3, 69, 1, 6, 19), (1, .aload_n 0, 1, 0, 0, 0, 0), (2, .getfield 36, 3, 4, 0, 9, 22), (4, .invokevirtual 46, 3, 70, 1, 6, 20), (4, .invokevirtual 49, 3, 36, 3, 4, 21), (11, .return_, 1, 0, 0, 0, 0)], 0)]
/-- Simplespan$Judge.leaveHolding(II)V -/
def pz_c36 : List (Nat × List pz_Op × Nat) := [
  (0, [(0, .iconst 0, 1, 0, 0, 0, 0), (1, .istore_n 3, 1, 0, 0, 0, 0)], 2),
  (2, [(1, .iload_n 3, 1, 0, 0, 0, 0), (0, .bipush 40, 2, 0, 0, 0, 0), (9, .if_icmp .ge 50, 3, 55, 0, 0, 0), (1, .aload_n 0, 1, 0, 0, 0, 0), (2, .getfield 18, 3, 4, 2, 9, 17), (1, .iload_n 3, 1, 0, 0, 0, 0), (1, .iload_n 3, 1, 0, 0, 0, 0), (1, .aload_n 0, 1, 0, 0, 0, 0), (2, .getfield 36, 3, 4, 0, 9, 22), (2, .getfield 53, 3, 6, 1, 9, 23), (2, .getfield 57, 3, 1, 0, 0, 24), (9, .if_icmp .ge 23, 3, 47, 0, 0, 0), (1, .aload_n 0, 1, 0, 0, 0, 0), (2, .getfield 36, 3, 4, 0, 9, 22), (2, .getfield 53, 3, 6, 1, 9, 23), (1, .iload_n 3, 1, 0, 0, 0, 0), (1, .iload_n 1, 1, 0, 0, 0, 0), (1, .iload_n 2, 1, 0, 0, 0, 0), (4, .invokevirtual 62, 3, 20, 4, 1, 22), (9, .ifCond .eq 7, 3, 47, 0, 0, 0), (0, .iconst 1, 1, 0, 0, 0, 0), (8, .goto 4, 3, 48, 0, 0, 0)], 0),
  (47, [(0, .iconst 0, 1, 0, 0, 0, 0)], 48),
  (48, [(2, .bastore, 1, 0, 0, 0, 0), (1, .iinc 3 1, 3, 0, 0, 0, 0), (8, .goto (-50), 3, 2, 0, 0, 0)], 0),
  (55, [(11, .return_, 1, 0, 0, 0, 0)], 0)]
/-- Simplespan$Judge.layLeft(LSimplespan$Net;)V -/
def pz_c37 : List (Nat × List pz_Op × Nat) := [
  (0, [(1, .aload_n 1, 1, 0, 0, 0, 0), (1, .aload_n 0, 1, 0, 0, 0, 0), (2, .getfield 36, 3, 4, 0, 9, 22), (2, .getfield 66, 3, 6, 0, 0, 25), (4, .invokevirtual 69, 3, 53, 2, 5, 23), (1, .aload_n 0, 1, 0, 0, 0, 0), (1, .aload_n 1, 1, 0, 0, 0, 0), (4, .invokevirtual 73, 3, 38, 2, 4, 24), (1, .aload_n 0, 1, 0, 0, 0, 0), (2, .getfield 36, 3, 4, 0, 9, 22), (2, .getfield 77, 3, 6, 2, 9, 26), (1, .astore_n 2, 1, 0, 0, 0, 0), (0, .iconst 0, 1, 0, 0, 0, 0), (1, .istore_n 3, 1, 0, 0, 0, 0)], 26),
  (26, [(1, .iload_n 3, 1, 0, 0, 0, 0), (1, .aload_n 2, 1, 0, 0, 0, 0), (2, .getfield 81, 3, 9, 0, 0, 27), (9, .if_icmp .ge 33, 3, 64, 0, 0, 0), (1, .aload_n 1, 1, 0, 0, 0, 0), (1, .aload_n 2, 1, 0, 0, 0, 0), (1, .iload_n 3, 1, 0, 0, 0, 0), (4, .invokevirtual 84, 3, 110, 2, 9, 25), (1, .aload_n 2, 1, 0, 0, 0, 0), (1, .iload_n 3, 1, 0, 0, 0, 0), (4, .invokevirtual 88, 3, 111, 2, 9, 26), (1, .aload_n 2, 1, 0, 0, 0, 0), (1, .iload_n 3, 1, 0, 0, 0, 0), (4, .invokevirtual 91, 3, 112, 2, 9, 27), (1, .aload_n 2, 1, 0, 0, 0, 0), (1, .iload_n 3, 1, 0, 0, 0, 0), (4, .invokevirtual 94, 3, 113, 2, 9, 28), (4, .invokevirtual 97, 3, 55, 5, 5, 29), (1, .iinc 3 1, 3, 0, 0, 0, 0), (8, .goto (-35), 3, 26, 0, 0, 0)], 0),
  (64, [(1, .aload_n 0, 1, 0, 0, 0, 0), (1, .aload_n 1, 1, 0, 0, 0, 0), (4, .invokevirtual 101, 3, 39, 2, 4, 30), (11, .return_, 1, 0, 0, 0, 0)], 0)]
/-- Simplespan$Judge.layBounds(LSimplespan$Net;)V -/
def pz_c38 : List (Nat × List pz_Op × Nat) := [
  (0, [(1, .aload_n 0, 1, 0, 0, 0, 0), (2, .getfield 36, 3, 4, 0, 9, 22), (2, .getfield 53, 3, 6, 1, 9, 23), (1, .astore_n 2, 1, 0, 0, 0, 0), (0, .iconst 0, 1, 0, 0, 0, 0), (1, .istore_n 3, 1, 0, 0, 0, 0)], 10),
  (10, [(1, .iload_n 3, 1, 0, 0, 0, 0), (0, .bipush 40, 2, 0, 0, 0, 0), (9, .if_icmp .ge 40, 3, 53, 0, 0, 0), (1, .aload_n 0, 1, 0, 0, 0, 0), (2, .getfield 18, 3, 4, 2, 9, 17), (1, .iload_n 3, 1, 0, 0, 0, 0), (2, .baload, 1, 0, 0, 0, 0), (9, .ifCond .eq 25, 3, 47, 0, 0, 0), (1, .aload_n 1, 1, 0, 0, 0, 0), (1, .aload_n 2, 1, 0, 0, 0, 0), (2, .getfield 104, 3, 1, 1, 9, 28), (1, .iload_n 3, 1, 0, 0, 0, 0), (2, .iaload, 1, 0, 0, 0, 0), (1, .aload_n 2, 1, 0, 0, 0, 0), (2, .getfield 107, 3, 1, 2, 9, 29), (1, .iload_n 3, 1, 0, 0, 0, 0), (2, .iaload, 1, 0, 0, 0, 0), (1, .aload_n 2, 1, 0, 0, 0, 0), (2, .getfield 110, 3, 1, 3, 9, 30), (1, .iload_n 3, 1, 0, 0, 0, 0), (2, .iaload, 1, 0, 0, 0, 0), (4, .invokevirtual 113, 3, 54, 4, 5, 31)], 47),
  (47, [(1, .iinc 3 1, 3, 0, 0, 0, 0), (8, .goto (-40), 3, 10, 0, 0, 0)], 0),
  (53, [(11, .return_, 1, 0, 0, 0, 0)], 0)]
/-- Simplespan$Judge.layStarts(LSimplespan$Net;)V -/
def pz_c39 : List (Nat × List pz_Op × Nat) := [
  (0, [(0, .iconst 1, 1, 0, 0, 0, 0), (1, .istore_n 2, 1, 0, 0, 0, 0)], 2),
  (2, [(1, .iload_n 2, 1, 0, 0, 0, 0), (1, .aload_n 0, 1, 0, 0, 0, 0), (2, .getfield 36, 3, 4, 0, 9, 22), (2, .getfield 66, 3, 6, 0, 0, 25), (9, .if_icmp .ge 43, 3, 53, 0, 0, 0), (1, .aload_n 0, 1, 0, 0, 0, 0), (2, .getfield 36, 3, 4, 0, 9, 22), (2, .getfield 117, 3, 6, 3, 9, 31), (1, .iload_n 2, 1, 0, 0, 0, 0), (4, .invokevirtual 121, 3, 26, 2, 2, 32), (9, .ifCond .eq 23, 3, 47, 0, 0, 0), (1, .aload_n 0, 1, 0, 0, 0, 0), (2, .getfield 36, 3, 4, 0, 9, 22), (2, .getfield 117, 3, 6, 3, 9, 31), (1, .iload_n 2, 1, 0, 0, 0, 0), (4, .invokevirtual 127, 3, 25, 2, 2, 33), (1, .istore_n 3, 1, 0, 0, 0, 0), (1, .aload_n 1, 1, 0, 0, 0, 0), (0, .iconst 0, 1, 0, 0, 0, 0), (1, .iload_n 2, 1, 0, 0, 0, 0), (1, .iload_n 3, 1, 0, 0, 0, 0), (1, .iload_n 3, 1, 0, 0, 0, 0), (4, .invokevirtual 97, 3, 55, 5, 5, 29)], 47),
  (47, [(1, .iinc 2 1, 3, 0, 0, 0, 0), (8, .goto (-48), 3, 2, 0, 0, 0)], 0),
  (53, [(11, .return_, 1, 0, 0, 0, 0)], 0)]
/-- Simplespan$Judge.isSoundLeft()Z -/
def pz_c40 : List (Nat × List pz_Op × Nat) := [
  (0, [(1, .aload_n 0, 1, 0, 0, 0, 0), (1, .aload_n 0, 1, 0, 0, 0, 0), (2, .getfield 12, 3, 4, 1, 9, 16), (4, .invokevirtual 130, 3, 37, 2, 4, 34), (1, .aload_n 0, 1, 0, 0, 0, 0), (2, .getfield 12, 3, 4, 1, 9, 16), (4, .invokevirtual 133, 3, 56, 1, 5, 35), (1, .aload_n 0, 1, 0, 0, 0, 0), (2, .getfield 12, 3, 4, 1, 9, 16), (2, .getfield 136, 3, 5, 1, 1, 32), (10, .ireturn, 1, 1, 0, 0, 0)], 0)]
/-- Simplespan$Judge.isSoundWith(II)Z -/
def pz_c41 : List (Nat × List pz_Op × Nat) := [
  (0, [(1, .aload_n 0, 1, 0, 0, 0, 0), (1, .iload_n 1, 1, 0, 0, 0, 0), (1, .iload_n 2, 1, 0, 0, 0, 0), (4, .invokevirtual 49, 3, 36, 3, 4, 21), (1, .aload_n 0, 1, 0, 0, 0, 0), (4, .invokevirtual 140, 3, 40, 1, 4, 36), (10, .ireturn, 1, 1, 0, 0, 0)], 0)]
/-- Simplespan$Judge.firstSoundWay()I -/
def pz_c42 : List (Nat × List pz_Op × Nat) := [
  (0, [(1, .aload_n 0, 1, 0, 0, 0, 0), (4, .invokevirtual 144, 3, 43, 1, 4, 37), (1, .istore_n 1, 1, 0, 0, 0, 0), (1, .aload_n 0, 1, 0, 0, 0, 0), (2, .getfield 36, 3, 4, 0, 9, 22), (4, .invokevirtual 40, 3, 69, 1, 6, 19), (1, .iload_n 1, 1, 0, 0, 0, 0), (0, .iand, 1, 0, 0, 0, 0), (1, .istore_n 2, 1, 0, 0, 0, 0), (0, .iconst 0, 1, 0, 0, 0, 0), (1, .istore_n 3, 1, 0, 0, 0, 0)], 17),
  (17, [(1, .iload_n 3, 1, 0, 0, 0, 0), (0, .bipush 15, 2, 0, 0, 0, 0), (9, .if_icmp .gt 40, 3, 60, 0, 0, 0), (1, .iload_n 3, 1, 0, 0, 0, 0), (4, .invokestatic 147, 3, 44, 1, 99, 38), (1, .iload_n 1, 1, 0, 0, 0, 0), (0, .iconst (-1), 1, 0, 0, 0, 0), (0, .ixor, 1, 0, 0, 0, 0), (0, .iand, 1, 0, 0, 0, 0), (1, .iload_n 2, 1, 0, 0, 0, 0), (0, .ior, 1, 0, 0, 0, 0), (1, .istore 4, 2, 0, 0, 0, 0), (1, .aload_n 0, 1, 0, 0, 0, 0), (1, .iload 4, 2, 0, 0, 0, 0), (0, .bipush 15, 2, 0, 0, 0, 0), (1, .iload 4, 2, 0, 0, 0, 0), (0, .iconst (-1), 1, 0, 0, 0, 0), (0, .ixor, 1, 0, 0, 0, 0), (0, .iand, 1, 0, 0, 0, 0), (4, .invokevirtual 150, 3, 41, 3, 4, 39), (9, .ifCond .eq 6, 3, 54, 0, 0, 0), (1, .iload 4, 2, 0, 0, 0, 0), (10, .ireturn, 1, 0, 0, 0, 0)], 0),
  (54, [(1, .iinc 3 1, 3, 0, 0, 0, 0), (8, .goto (-40), 3, 17, 0, 0, 0)], 0),
  (60, [(0, .iconst (-1), 1, 0, 0, 0, 0), (10, .ireturn, 1, 0, 0, 0, 0)], 0)]
/-- Simplespan$Judge.observedLabels()I -/
def pz_c43 : List (Nat × List pz_Op × Nat) := [
  (0, [(1, .aload_n 0, 1, 0, 0, 0, 0), (2, .getfield 36, 3, 4, 0, 9, 22), (0, .bipush 116, 2, 0, 0, 0, 0), (0, .bipush 102, 2, 0, 0, 0, 0), (4, .invokevirtual 154, 3, 71, 3, 6, 40), (10, .ireturn, 1, 0, 0, 0, 0)], 0)]
/-- Simplespan$Judge.truesOfWay(I)I -/
def pz_c44 : List (Nat × List pz_Op × Nat) := [
  (0, [(0, .iconst 0, 1, 0, 0, 0, 0), (1, .istore_n 1, 1, 0, 0, 0, 0), (0, .iconst 0, 1, 0, 0, 0, 0), (1, .istore_n 2, 1, 0, 0, 0, 0)], 4),
  (4, [(1, .iload_n 2, 1, 0, 0, 0, 0), (0, .iconst 4, 1, 0, 0, 0, 0), (9, .if_icmp .ge 27, 3, 33, 0, 0, 0), (1, .iload_n 0, 1, 0, 0, 0, 0), (0, .iconst 3, 1, 0, 0, 0, 0), (1, .iload_n 2, 1, 0, 0, 0, 0), (0, .isub, 1, 0, 0, 0, 0), (4, .invokestatic 158, 3, 186, 1, 99, 41), (0, .iand, 1, 0, 0, 0, 0), (9, .ifCond .ne 10, 3, 27, 0, 0, 0), (1, .iload_n 1, 1, 0, 0, 0, 0), (1, .iload_n 2, 1, 0, 0, 0, 0), (4, .invokestatic 158, 3, 186, 1, 99, 41), (0, .ior, 1, 0, 0, 0, 0), (1, .istore_n 1, 1, 0, 0, 0, 0)], 27),
  (27, [(1, .iinc 2 1, 3, 0, 0, 0, 0), (8, .goto (-26), 3, 4, 0, 0, 0)], 0),
  (33, [(1, .iload_n 1, 1, 0, 0, 0, 0), (10, .ireturn, 1, 0, 0, 0, 0)], 0)]
/-- Simplespan$Judge.findConflict()V -/
def pz_c45 : List (Nat × List pz_Op × Nat) := [
  (0, [(1, .aload_n 0, 1, 0, 0, 0, 0), (4, .invokevirtual 161, 3, 35, 1, 4, 42), (1, .aload_n 0, 1, 0, 0, 0, 0), (0, .iconst 0, 1, 0, 0, 0, 0), (2, .putfield 22, 3, 4, 3, 0, 18), (0, .iconst 0, 1, 0, 0, 0, 0), (1, .istore_n 1, 1, 0, 0, 0, 0)], 11),
  (11, [(1, .iload_n 1, 1, 0, 0, 0, 0), (0, .bipush 40, 2, 0, 0, 0, 0), (9, .if_icmp .ge 76, 3, 90, 0, 0, 0), (1, .aload_n 0, 1, 0, 0, 0, 0), (2, .getfield 18, 3, 4, 2, 9, 17), (1, .iload_n 1, 1, 0, 0, 0, 0), (2, .baload, 1, 0, 0, 0, 0), (9, .ifCond .ne 6, 3, 29, 0, 0, 0), (8, .goto 58, 3, 84, 0, 0, 0)], 0),
  (29, [(1, .aload_n 0, 1, 0, 0, 0, 0), (2, .getfield 18, 3, 4, 2, 9, 17), (1, .iload_n 1, 1, 0, 0, 0, 0), (0, .iconst 0, 1, 0, 0, 0, 0), (2, .bastore, 1, 0, 0, 0, 0), (1, .aload_n 0, 1, 0, 0, 0, 0), (2, .getfield 18, 3, 4, 2, 9, 17), (1, .iload_n 1, 1, 0, 0, 0, 0), (1, .aload_n 0, 1, 0, 0, 0, 0), (4, .invokevirtual 140, 3, 40, 1, 4, 36), (2, .bastore, 1, 0, 0, 0, 0), (1, .aload_n 0, 1, 0, 0, 0, 0), (2, .getfield 18, 3, 4, 2, 9, 17), (1, .iload_n 1, 1, 0, 0, 0, 0), (2, .baload, 1, 0, 0, 0, 0), (9, .ifCond .eq 32, 3, 84, 0, 0, 0), (1, .aload_n 0, 1, 0, 0, 0, 0), (2, .getfield 22, 3, 4, 3, 0, 18), (0, .bipush 40, 2, 0, 0, 0, 0), (9, .if_icmp .ge 23, 3, 84, 0, 0, 0), (1, .aload_n 0, 1, 0, 0, 0, 0), (2, .getfield 26, 3, 4, 4, 9, 19), (1, .aload_n 0, 1, 0, 0, 0, 0), (2, .getfield 22, 3, 4, 3, 0, 18), (1, .iload_n 1, 1, 0, 0, 0, 0), (2, .iastore, 1, 0, 0, 0, 0), (1, .aload_n 0, 1, 0, 0, 0, 0), (0, .dup, 1, 0, 0, 0, 0), (2, .getfield 22, 3, 4, 3, 0, 18), (0, .iconst 1, 1, 0, 0, 0, 0), (0, .iadd, 1, 0, 0, 0, 0), (2, .putfield 22, 3, 4, 3, 0, 18)], 84),
  (84, [(1, .iinc 1 1, 3, 0, 0, 0, 0), (8, .goto (-76), 3, 11, 0, 0, 0)], 0),
  (90, [(11, .return_, 1, 0, 0, 0, 0)], 0)]
/-- Simplespan$Judge.conflictBound(I)I -/
def pz_c46 : List (Nat × List pz_Op × Nat) := [
  (0, [(1, .iload_n 1, 1, 0, 0, 0, 0), (9, .ifCond .lt 18, 3, 19, 0, 0, 0), (1, .iload_n 1, 1, 0, 0, 0, 0), (0, .bipush 40, 2, 0, 0, 0, 0), (9, .if_icmp .ge 12, 3, 19, 0, 0, 0), (1, .aload_n 0, 1, 0, 0, 0, 0), (2, .getfield 26, 3, 4, 4, 9, 19), (1, .iload_n 1, 1, 0, 0, 0, 0), (2, .iaload, 1, 0, 0, 0, 0), (8, .goto 4, 3, 20, 0, 0, 0)], 0),
  (19, [(0, .iconst (-1), 1, 0, 0, 0, 0)], 20),
  (20, [(10, .ireturn, 1, 0, 0, 0, 0)], 0)]
/-- Simplespan$Judge.isSoundAtCorners()Z -/
def pz_c47 : List (Nat × List pz_Op × Nat) := [
  (0, [(1, .aload_n 0, 1, 0, 0, 0, 0), (4, .invokevirtual 161, 3, 35, 1, 4, 42), (0, .iconst 0, 1, 0, 0, 0, 0), (1, .istore_n 1, 1, 0, 0, 0, 0)], 6),
  (6, [(1, .iload_n 1, 1, 0, 0, 0, 0), (1, .aload_n 0, 1, 0, 0, 0, 0), (2, .getfield 36, 3, 4, 0, 9, 22), (2, .getfield 77, 3, 6, 2, 9, 26), (2, .getfield 81, 3, 9, 0, 0, 27), (4, .invokestatic 158, 3, 186, 1, 99, 41), (9, .if_icmp .ge 41, 3, 61, 0, 0, 0), (1, .aload_n 0, 1, 0, 0, 0, 0), (1, .aload_n 0, 1, 0, 0, 0, 0), (2, .getfield 12, 3, 4, 1, 9, 16), (4, .invokevirtual 130, 3, 37, 2, 4, 34), (1, .aload_n 0, 1, 0, 0, 0, 0), (1, .iload_n 1, 1, 0, 0, 0, 0), (4, .invokevirtual 164, 3, 48, 2, 4, 43), (1, .aload_n 0, 1, 0, 0, 0, 0), (2, .getfield 12, 3, 4, 1, 9, 16), (4, .invokevirtual 133, 3, 56, 1, 5, 35), (1, .aload_n 0, 1, 0, 0, 0, 0), (2, .getfield 12, 3, 4, 1, 9, 16), (2, .getfield 136, 3, 5, 1, 1, 32), (9, .ifCond .ne 5, 3, 55, 0, 0, 0), (0, .iconst 0, 1, 0, 0, 0, 0), (10, .ireturn, 1, 1, 0, 0, 0)], 0),
  (55, [(1, .iinc 1 1, 3, 0, 0, 0, 0), (8, .goto (-52), 3, 6, 0, 0, 0)], 0),
  (61, [(0, .iconst 1, 1, 0, 0, 0, 0), (10, .ireturn, 1, 1, 0, 0, 0)], 0)]
/-- Simplespan$Judge.layPicked(I)V -/
def pz_c48 : List (Nat × List pz_Op × Nat) := [
  (0, [(1, .aload_n 0, 1, 0, 0, 0, 0), (2, .getfield 36, 3, 4, 0, 9, 22), (2, .getfield 77, 3, 6, 2, 9, 26), (1, .astore_n 2, 1, 0, 0, 0, 0), (0, .iconst 0, 1, 0, 0, 0, 0), (1, .istore_n 3, 1, 0, 0, 0, 0)], 10),
  (10, [(1, .iload_n 3, 1, 0, 0, 0, 0), (1, .aload_n 2, 1, 0, 0, 0, 0), (2, .getfield 81, 3, 9, 0, 0, 27), (9, .if_icmp .ge 53, 3, 68, 0, 0, 0), (1, .aload_n 2, 1, 0, 0, 0, 0), (1, .iload_n 3, 1, 0, 0, 0, 0), (1, .aload_n 0, 1, 0, 0, 0, 0), (2, .getfield 36, 3, 4, 0, 9, 22), (2, .getfield 117, 3, 6, 3, 9, 31), (4, .invokevirtual 167, 3, 116, 3, 9, 44), (9, .ifCond .ne 32, 3, 62, 0, 0, 0), (1, .aload_n 2, 1, 0, 0, 0, 0), (1, .iload_n 3, 1, 0, 0, 0, 0), (1, .iload_n 1, 1, 0, 0, 0, 0), (4, .invokevirtual 171, 3, 114, 3, 9, 45), (1, .istore 4, 2, 0, 0, 0, 0), (1, .aload_n 0, 1, 0, 0, 0, 0), (2, .getfield 12, 3, 4, 1, 9, 16), (1, .aload_n 2, 1, 0, 0, 0, 0), (1, .iload_n 3, 1, 0, 0, 0, 0), (4, .invokevirtual 84, 3, 110, 2, 9, 25), (1, .aload_n 2, 1, 0, 0, 0, 0), (1, .iload_n 3, 1, 0, 0, 0, 0), (4, .invokevirtual 88, 3, 111, 2, 9, 26), (1, .iload 4, 2, 0, 0, 0, 0), (1, .iload 4, 2, 0, 0, 0, 0), (4, .invokevirtual 97, 3, 55, 5, 5, 29)], 62),
  (62, [(1, .iinc 3 1, 3, 0, 0, 0, 0), (8, .goto (-55), 3, 10, 0, 0, 0)], 0),
  (68, [(11, .return_, 1, 0, 0, 0, 0)], 0)]
/-- Simplespan$Judge.hasFixedTimes()Z -/
def pz_c49 : List (Nat × List pz_Op × Nat) := [
  (0, [(1, .aload_n 0, 1, 0, 0, 0, 0), (4, .invokevirtual 161, 3, 35, 1, 4, 42), (1, .aload_n 0, 1, 0, 0, 0, 0), (2, .getfield 12, 3, 4, 1, 9, 16), (1, .aload_n 0, 1, 0, 0, 0, 0), (2, .getfield 36, 3, 4, 0, 9, 22), (2, .getfield 66, 3, 6, 0, 0, 25), (4, .invokevirtual 69, 3, 53, 2, 5, 23), (1, .aload_n 0, 1, 0, 0, 0, 0), (1, .aload_n 0, 1, 0, 0, 0, 0), (2, .getfield 12, 3, 4, 1, 9, 16), (4, .invokevirtual 101, 3, 39, 2, 4, 30), (0, .iconst 0, 1, 0, 0, 0, 0), (1, .istore_n 1, 1, 0, 0, 0, 0)], 28),
  (28, [(1, .iload_n 1, 1, 0, 0, 0, 0), (1, .aload_n 0, 1, 0, 0, 0, 0), (2, .getfield 36, 3, 4, 0, 9, 22), (2, .getfield 77, 3, 6, 2, 9, 26), (2, .getfield 81, 3, 9, 0, 0, 27), (4, .invokestatic 158, 3, 186, 1, 99, 41), (9, .if_icmp .ge 18, 3, 60, 0, 0, 0), (1, .aload_n 0, 1, 0, 0, 0, 0), (1, .iload_n 1, 1, 0, 0, 0, 0), (4, .invokevirtual 175, 3, 50, 2, 4, 46), (1, .aload_n 0, 1, 0, 0, 0, 0), (4, .invokevirtual 178, 3, 51, 1, 4, 47), (1, .iinc 1 1, 3, 0, 0, 0, 0), (8, .goto (-29), 3, 28, 0, 0, 0)], 0),
  (60, [(1, .aload_n 0, 1, 0, 0, 0, 0), (2, .getfield 12, 3, 4, 1, 9, 16), (4, .invokevirtual 133, 3, 56, 1, 5, 35), (1, .aload_n 0, 1, 0, 0, 0, 0), (2, .getfield 12, 3, 4, 1, 9, 16), (2, .getfield 136, 3, 5, 1, 1, 32), (10, .ireturn, 1, 1, 0, 0, 0)], 0)]
/-- Simplespan$Judge.findRoots(I)V -/
def pz_c50 : List (Nat × List pz_Op × Nat) := [
  (0, [(1, .aload_n 0, 1, 0, 0, 0, 0), (2, .getfield 36, 3, 4, 0, 9, 22), (2, .getfield 77, 3, 6, 2, 9, 26), (1, .astore_n 2, 1, 0, 0, 0, 0), (0, .iconst 0, 1, 0, 0, 0, 0), (1, .istore_n 3, 1, 0, 0, 0, 0)], 10),
  (10, [(1, .iload_n 3, 1, 0, 0, 0, 0), (0, .bipush 10, 2, 0, 0, 0, 0), (9, .if_icmp .ge 102, 3, 115, 0, 0, 0), (1, .aload_n 0, 1, 0, 0, 0, 0), (2, .getfield 30, 3, 4, 5, 9, 20), (1, .iload_n 3, 1, 0, 0, 0, 0), (1, .iload_n 3, 1, 0, 0, 0, 0), (2, .iastore, 1, 0, 0, 0, 0), (1, .aload_n 0, 1, 0, 0, 0, 0), (2, .getfield 33, 3, 4, 6, 9, 21), (1, .iload_n 3, 1, 0, 0, 0, 0), (0, .iconst 0, 1, 0, 0, 0, 0), (2, .iastore, 1, 0, 0, 0, 0), (1, .aload_n 2, 1, 0, 0, 0, 0), (1, .iload_n 3, 1, 0, 0, 0, 0), (4, .invokevirtual 181, 3, 115, 2, 9, 48), (1, .istore 4, 2, 0, 0, 0, 0), (1, .aload_n 2, 1, 0, 0, 0, 0), (1, .iload 4, 2, 0, 0, 0, 0), (4, .invokevirtual 84, 3, 110, 2, 9, 25), (1, .istore 5, 2, 0, 0, 0, 0), (1, .iload 4, 2, 0, 0, 0, 0), (0, .iconst (-1), 1, 0, 0, 0, 0), (9, .if_icmp .eq 61, 3, 109, 0, 0, 0), (1, .aload_n 2, 1, 0, 0, 0, 0), (1, .iload 4, 2, 0, 0, 0, 0), (1, .aload_n 0, 1, 0, 0, 0, 0), (2, .getfield 36, 3, 4, 0, 9, 22), (2, .getfield 117, 3, 6, 3, 9, 31), (4, .invokevirtual 167, 3, 116, 3, 9, 44), (9, .ifCond .ne 45, 3, 109, 0, 0, 0), (1, .iload 5, 2, 0, 0, 0, 0), (4, .invokestatic 184, 3, 187, 1, 99, 49), (9, .ifCond .eq 37, 3, 109, 0, 0, 0), (1, .aload_n 0, 1, 0, 0, 0, 0), (2, .getfield 30, 3, 4, 5, 9, 20), (1, .iload_n 3, 1, 0, 0, 0, 0), (1, .aload_n 0, 1, 0, 0, 0, 0), (2, .getfield 30, 3, 4, 5, 9, 20), (1, .iload 5, 2, 0, 0, 0, 0), (2, .iaload, 1, 0, 0, 0, 0), (2, .iastore, 1, 0, 0, 0, 0), (1, .aload_n 0, 1, 0, 0, 0, 0), (2, .getfield 33, 3, 4, 6, 9, 21), (1, .iload_n 3, 1, 0, 0, 0, 0), (1, .aload_n 0, 1, 0, 0, 0, 0), (2, .getfield 33, 3, 4, 6, 9, 21), (1, .iload 5, 2, 0, 0, 0, 0), (2, .iaload, 1, 0, 0, 0, 0), (1, .aload_n 2, 1, 0, 0, 0, 0), (1, .iload 4, 2, 0, 0, 0, 0), (1, .iload_n 1, 1, 0, 0, 0, 0), (4, .invokevirtual 171, 3, 114, 3, 9, 45), (0, .iadd, 1, 0, 0, 0, 0), (2, .iastore, 1, 0, 0, 0, 0)], 109),
  (109, [(1, .iinc 3 1, 3, 0, 0, 0, 0), (8, .goto (-102), 3, 10, 0, 0, 0)], 0),
  (115, [(11, .return_, 1, 0, 0, 0, 0)], 0)]
/-- Simplespan$Judge.layBoundsOfRoots()V -/
def pz_c51 : List (Nat × List pz_Op × Nat) := [
  (0, [(1, .aload_n 0, 1, 0, 0, 0, 0), (2, .getfield 36, 3, 4, 0, 9, 22), (2, .getfield 53, 3, 6, 1, 9, 23), (1, .astore_n 1, 1, 0, 0, 0, 0), (0, .iconst 0, 1, 0, 0, 0, 0), (1, .istore_n 2, 1, 0, 0, 0, 0)], 10),
  (10, [(1, .iload_n 2, 1, 0, 0, 0, 0), (0, .bipush 40, 2, 0, 0, 0, 0), (9, .if_icmp .ge 89, 3, 102, 0, 0, 0), (1, .aload_n 1, 1, 0, 0, 0, 0), (2, .getfield 104, 3, 1, 1, 9, 28), (1, .iload_n 2, 1, 0, 0, 0, 0), (2, .iaload, 1, 0, 0, 0, 0), (1, .istore_n 3, 1, 0, 0, 0, 0), (1, .aload_n 1, 1, 0, 0, 0, 0), (2, .getfield 107, 3, 1, 2, 9, 29), (1, .iload_n 2, 1, 0, 0, 0, 0), (2, .iaload, 1, 0, 0, 0, 0), (1, .istore 4, 2, 0, 0, 0, 0), (1, .aload_n 0, 1, 0, 0, 0, 0), (2, .getfield 18, 3, 4, 2, 9, 17), (1, .iload_n 2, 1, 0, 0, 0, 0), (2, .baload, 1, 0, 0, 0, 0), (9, .ifCond .eq 59, 3, 96, 0, 0, 0), (1, .iload_n 3, 1, 0, 0, 0, 0), (4, .invokestatic 184, 3, 187, 1, 99, 49), (9, .ifCond .eq 52, 3, 96, 0, 0, 0), (1, .iload 4, 2, 0, 0, 0, 0), (4, .invokestatic 184, 3, 187, 1, 99, 49), (9, .ifCond .eq 44, 3, 96, 0, 0, 0), (1, .aload_n 0, 1, 0, 0, 0, 0), (2, .getfield 12, 3, 4, 1, 9, 16), (1, .aload_n 0, 1, 0, 0, 0, 0), (2, .getfield 30, 3, 4, 5, 9, 20), (1, .iload_n 3, 1, 0, 0, 0, 0), (2, .iaload, 1, 0, 0, 0, 0), (1, .aload_n 0, 1, 0, 0, 0, 0), (2, .getfield 30, 3, 4, 5, 9, 20), (1, .iload 4, 2, 0, 0, 0, 0), (2, .iaload, 1, 0, 0, 0, 0), (1, .aload_n 1, 1, 0, 0, 0, 0), (2, .getfield 110, 3, 1, 3, 9, 30), (1, .iload_n 2, 1, 0, 0, 0, 0), (2, .iaload, 1, 0, 0, 0, 0), (1, .aload_n 0, 1, 0, 0, 0, 0), (2, .getfield 33, 3, 4, 6, 9, 21), (1, .iload 4, 2, 0, 0, 0, 0), (2, .iaload, 1, 0, 0, 0, 0), (0, .isub, 1, 0, 0, 0, 0), (1, .aload_n 0, 1, 0, 0, 0, 0), (2, .getfield 33, 3, 4, 6, 9, 21), (1, .iload_n 3, 1, 0, 0, 0, 0), (2, .iaload, 1, 0, 0, 0, 0), (0, .iadd, 1, 0, 0, 0, 0), (4, .invokevirtual 113, 3, 54, 4, 5, 31)], 96),
  (96, [(1, .iinc 2 1, 3, 0, 0, 0, 0), (8, .goto (-89), 3, 10, 0, 0, 0)], 0),
  (102, [(11, .return_, 1, 0, 0, 0, 0)], 0)]
/-- Simplespan$Net.<init>()V -/
def pz_c52 : List (Nat × List pz_Op × Nat) := [
  (0, [(1, .aload_n 0, 1, 0, 0, 0, 0), (6, .invokespecial 3, 3, 0, 0, 0, 230), (1, .aload_n 0, 1, 0, 0, 0, 0), (0, .iconst 0, 1, 0, 0, 0, 0), (2, .putfield 9, 3, 5, 0, 0, 33), (1, .aload_n 0, 1, 0, 0, 0, 0), (0, .iconst 1, 1, 0, 0, 0, 0), (2, .putfield 15, 3, 5, 1, 1, 34), (1, .aload_n 0, 1, 0, 0, 0, 0), (0, .bipush 100, 2, 0, 0, 0, 0), (2, .newarray .int, 2, 20, 0, 0, 0), (2, .putfield 19, 3, 5, 2, 9, 35), (1, .aload_n 0, 1, 0, 0, 0, 0), (0, .bipush 100, 2, 0, 0, 0, 0), (2, .newarray .int, 2, 20, 0, 0, 0), (2, .putfield 23, 3, 5, 3, 9, 36), (1, .aload_n 0, 1, 0, 0, 0, 0), (0, .bipush 10, 2, 0, 0, 0, 0), (2, .newarray .int, 2, 20, 0, 0, 0), (2, .putfield 26, 3, 5, 4, 9, 37), (11, .return_, 1, 0, 0, 0, 0)], 0)]
/-- Simplespan$Net.clear(I)V -/
def pz_c53 : List (Nat × List pz_Op × Nat) := [
  (0, [(1, .aload_n 0, 1, 0, 0, 0, 0), (0, .iconst 0, 1, 0, 0, 0, 0), (1, .iload_n 1, 1, 0, 0, 0, 0), (0, .bipush 10, 2, 0, 0, 0, 0), (4, .invokestatic 29, 3, 2, 2, 99, 50), (4, .invokestatic 35, 3, 1, 2, 99, 51), (2, .putfield 9, 3, 5, 0, 0, 33), (0, .iconst 0, 1, 0, 0, 0, 0), (1, .istore_n 2, 1, 0, 0, 0, 0)], 16),
  (16, [(1, .iload_n 2, 1, 0, 0, 0, 0), (0, .bipush 100, 2, 0, 0, 0, 0), (9, .if_icmp .ge 17, 3, 36, 0, 0, 0), (1, .aload_n 0, 1, 0, 0, 0, 0), (2, .getfield 19, 3, 5, 2, 9, 35), (1, .iload_n 2, 1, 0, 0, 0, 0), (3, .ldc 38, 2, 1000000000, 0, 0, 418), (2, .iastore, 1, 0, 0, 0, 0), (1, .iinc 2 1, 3, 0, 0, 0, 0), (8, .goto (-17), 3, 16, 0, 0, 0)], 0),
  (36, [(0, .iconst 0, 1, 0, 0, 0, 0), (1, .istore_n 2, 1, 0, 0, 0, 0)], 38),
  (38, [(1, .iload_n 2, 1, 0, 0, 0, 0), (1, .aload_n 0, 1, 0, 0, 0, 0), (2, .getfield 9, 3, 5, 0, 0, 33), (9, .if_icmp .ge 21, 3, 64, 0, 0, 0), (1, .aload_n 0, 1, 0, 0, 0, 0), (2, .getfield 19, 3, 5, 2, 9, 35), (1, .iload_n 2, 1, 0, 0, 0, 0), (0, .bipush 10, 2, 0, 0, 0, 0), (0, .imul, 1, 0, 0, 0, 0), (1, .iload_n 2, 1, 0, 0, 0, 0), (0, .iadd, 1, 0, 0, 0, 0), (0, .iconst 0, 1, 0, 0, 0, 0), (2, .iastore, 1, 0, 0, 0, 0), (1, .iinc 2 1, 3, 0, 0, 0, 0), (8, .goto (-23), 3, 38, 0, 0, 0)], 0),
  (64, [(11, .return_, 1, 0, 0, 0, 0)], 0)]
/-- Simplespan$Net.addEdge(III)V -/
def pz_c54 : List (Nat × List pz_Op × Nat) := [
  (0, [(1, .iload_n 1, 1, 0, 0, 0, 0), (9, .ifCond .lt 23, 3, 24, 0, 0, 0), (1, .iload_n 1, 1, 0, 0, 0, 0), (0, .bipush 10, 2, 0, 0, 0, 0), (9, .if_icmp .ge 17, 3, 24, 0, 0, 0), (1, .iload_n 2, 1, 0, 0, 0, 0), (9, .ifCond .lt 13, 3, 24, 0, 0, 0), (1, .iload_n 2, 1, 0, 0, 0, 0), (0, .bipush 10, 2, 0, 0, 0, 0), (9, .if_icmp .ge 7, 3, 24, 0, 0, 0), (0, .iconst 1, 1, 0, 0, 0, 0), (8, .goto 4, 3, 25, 0, 0, 0)], 0),
  (24, [(0, .iconst 0, 1, 0, 0, 0, 0)], 25),
  (25, [(1, .istore 4, 2, 0, 0, 0, 0), (1, .iload 4, 2, 0, 0, 0, 0), (9, .ifCond .eq 30, 3, 59, 0, 0, 0), (1, .iload_n 3, 1, 0, 0, 0, 0), (1, .aload_n 0, 1, 0, 0, 0, 0), (2, .getfield 19, 3, 5, 2, 9, 35), (1, .iload_n 1, 1, 0, 0, 0, 0), (0, .bipush 10, 2, 0, 0, 0, 0), (0, .imul, 1, 0, 0, 0, 0), (1, .iload_n 2, 1, 0, 0, 0, 0), (0, .iadd, 1, 0, 0, 0, 0), (2, .iaload, 1, 0, 0, 0, 0), (9, .if_icmp .ge 15, 3, 59, 0, 0, 0), (1, .aload_n 0, 1, 0, 0, 0, 0), (2, .getfield 19, 3, 5, 2, 9, 35), (1, .iload_n 1, 1, 0, 0, 0, 0), (0, .bipush 10, 2, 0, 0, 0, 0), (0, .imul, 1, 0, 0, 0, 0), (1, .iload_n 2, 1, 0, 0, 0, 0), (0, .iadd, 1, 0, 0, 0, 0), (1, .iload_n 3, 1, 0, 0, 0, 0), (2, .iastore, 1, 0, 0, 0, 0)], 59),
  (59, [(11, .return_, 1, 0, 0, 0, 0)], 0)]
/-- Simplespan$Net.addGap(IIII)V -/
def pz_c55 : List (Nat × List pz_Op × Nat) := [
  (0, [(1, .aload_n 0, 1, 0, 0, 0, 0), (1, .iload_n 1, 1, 0, 0, 0, 0), (1, .iload_n 2, 1, 0, 0, 0, 0), (1, .iload 4, 2, 0, 0, 0, 0), (4, .invokevirtual 39, 3, 54, 4, 5, 52), (1, .aload_n 0, 1, 0, 0, 0, 0), (1, .iload_n 2, 1, 0, 0, 0, 0), (1, .iload_n 1, 1, 0, 0, 0, 0), (1, .iload_n 3, 1, 0, 0, 0, 0), (0, .ineg, 1, 0, 0, 0, 0), (4, .invokevirtual 39, 3, 54, 4, 5, 52), (11, .return_, 1, 0, 0, 0, 0)], 0)]
/-- Simplespan$Net.close()V -/
def pz_c56 : List (Nat × List pz_Op × Nat) := [
  (0, [(1, .aload_n 0, 1, 0, 0, 0, 0), (2, .getfield 19, 3, 5, 2, 9, 35), (0, .iconst 0, 1, 0, 0, 0, 0), (1, .aload_n 0, 1, 0, 0, 0, 0), (2, .getfield 23, 3, 5, 3, 9, 36), (0, .iconst 0, 1, 0, 0, 0, 0), (0, .bipush 100, 2, 0, 0, 0, 0), (5, .invokestatic 43, 3, 0, 0, 0, 464), (1, .aload_n 0, 1, 0, 0, 0, 0), (1, .aload_n 0, 1, 0, 0, 0, 0), (4, .invokevirtual 49, 3, 57, 1, 5, 53), (9, .ifCond .ne 7, 3, 27, 0, 0, 0), (0, .iconst 1, 1, 0, 0, 0, 0), (8, .goto 4, 3, 28, 0, 0, 0)], 0),
  (27, [(0, .iconst 0, 1, 0, 0, 0, 0)], 28),
  (28, [(2, .putfield 15, 3, 5, 1, 1, 34), (0, .iconst 0, 1, 0, 0, 0, 0), (1, .istore_n 1, 1, 0, 0, 0, 0)], 33),
  (33, [(1, .iload_n 1, 1, 0, 0, 0, 0), (1, .aload_n 0, 1, 0, 0, 0, 0), (2, .getfield 9, 3, 5, 0, 0, 33), (9, .if_icmp .ge 37, 3, 75, 0, 0, 0), (1, .aload_n 0, 1, 0, 0, 0, 0), (2, .getfield 15, 3, 5, 1, 1, 34), (9, .ifCond .eq 30, 3, 75, 0, 0, 0), (1, .aload_n 0, 1, 0, 0, 0, 0), (1, .iload_n 1, 1, 0, 0, 0, 0), (4, .invokevirtual 53, 3, 58, 2, 5, 54), (1, .aload_n 0, 1, 0, 0, 0, 0), (1, .aload_n 0, 1, 0, 0, 0, 0), (4, .invokevirtual 49, 3, 57, 1, 5, 53), (9, .ifCond .ne 7, 3, 65, 0, 0, 0), (0, .iconst 1, 1, 0, 0, 0, 0), (8, .goto 4, 3, 66, 0, 0, 0)], 0),
  (65, [(0, .iconst 0, 1, 0, 0, 0, 0)], 66),
  (66, [(2, .putfield 15, 3, 5, 1, 1, 34), (1, .iinc 1 1, 3, 0, 0, 0, 0), (8, .goto (-39), 3, 33, 0, 0, 0)], 0),
  (75, [(11, .return_, 1, 0, 0, 0, 0)], 0)]
/-- Simplespan$Net.hasLoopBelowZero()Z -/
def pz_c57 : List (Nat × List pz_Op × Nat) := [
  (0, [(0, .iconst 0, 1, 0, 0, 0, 0), (1, .istore_n 1, 1, 0, 0, 0, 0)], 2),
  (2, [(1, .iload_n 1, 1, 0, 0, 0, 0), (1, .aload_n 0, 1, 0, 0, 0, 0), (2, .getfield 9, 3, 5, 0, 0, 33), (9, .if_icmp .ge 25, 3, 32, 0, 0, 0), (1, .aload_n 0, 1, 0, 0, 0, 0), (2, .getfield 23, 3, 5, 3, 9, 36), (1, .iload_n 1, 1, 0, 0, 0, 0), (0, .bipush 10, 2, 0, 0, 0, 0), (0, .imul, 1, 0, 0, 0, 0), (1, .iload_n 1, 1, 0, 0, 0, 0), (0, .iadd, 1, 0, 0, 0, 0), (2, .iaload, 1, 0, 0, 0, 0), (9, .ifCond .ge 5, 3, 26, 0, 0, 0), (0, .iconst 1, 1, 0, 0, 0, 0), (10, .ireturn, 1, 1, 0, 0, 0)], 0),
  (26, [(1, .iinc 1 1, 3, 0, 0, 0, 0), (8, .goto (-27), 3, 2, 0, 0, 0)], 0),
  (32, [(0, .iconst 0, 1, 0, 0, 0, 0), (10, .ireturn, 1, 1, 0, 0, 0)], 0)]
/-- Simplespan$Net.shortenOver(I)V -/
def pz_c58 : List (Nat × List pz_Op × Nat) := [
  (0, [(1, .iload_n 1, 1, 0, 0, 0, 0), (9, .ifCond .lt 11, 3, 12, 0, 0, 0), (1, .iload_n 1, 1, 0, 0, 0, 0), (1, .aload_n 0, 1, 0, 0, 0, 0), (2, .getfield 9, 3, 5, 0, 0, 33), (9, .if_icmp .lt 4, 3, 13, 0, 0, 0)], 12),
  (12, [(11, .return_, 1, 0, 0, 0, 0)], 0),
  (13, [(0, .iconst 0, 1, 0, 0, 0, 0), (1, .istore_n 2, 1, 0, 0, 0, 0)], 15),
  (15, [(1, .iload_n 2, 1, 0, 0, 0, 0), (1, .aload_n 0, 1, 0, 0, 0, 0), (2, .getfield 9, 3, 5, 0, 0, 33), (9, .if_icmp .ge 101, 3, 121, 0, 0, 0), (1, .aload_n 0, 1, 0, 0, 0, 0), (2, .getfield 23, 3, 5, 3, 9, 36), (1, .iload_n 2, 1, 0, 0, 0, 0), (0, .bipush 10, 2, 0, 0, 0, 0), (0, .imul, 1, 0, 0, 0, 0), (1, .iload_n 1, 1, 0, 0, 0, 0), (0, .iadd, 1, 0, 0, 0, 0), (2, .iaload, 1, 0, 0, 0, 0), (1, .istore_n 3, 1, 0, 0, 0, 0), (0, .iconst 0, 1, 0, 0, 0, 0), (1, .istore 4, 2, 0, 0, 0, 0)], 38),
  (38, [(1, .iload_n 3, 1, 0, 0, 0, 0), (3, .ldc 38, 2, 1000000000, 0, 0, 418), (9, .if_icmp .eq 74, 3, 115, 0, 0, 0), (1, .iload 4, 2, 0, 0, 0, 0), (1, .aload_n 0, 1, 0, 0, 0, 0), (2, .getfield 9, 3, 5, 0, 0, 33), (9, .if_icmp .ge 65, 3, 115, 0, 0, 0), (1, .aload_n 0, 1, 0, 0, 0, 0), (2, .getfield 23, 3, 5, 3, 9, 36), (1, .iload_n 1, 1, 0, 0, 0, 0), (0, .bipush 10, 2, 0, 0, 0, 0), (0, .imul, 1, 0, 0, 0, 0), (1, .iload 4, 2, 0, 0, 0, 0), (0, .iadd, 1, 0, 0, 0, 0), (2, .iaload, 1, 0, 0, 0, 0), (1, .istore 5, 2, 0, 0, 0, 0), (1, .iload 5, 2, 0, 0, 0, 0), (3, .ldc 38, 2, 1000000000, 0, 0, 418), (9, .if_icmp .eq 38, 3, 109, 0, 0, 0), (1, .iload_n 3, 1, 0, 0, 0, 0), (1, .iload 5, 2, 0, 0, 0, 0), (0, .iadd, 1, 0, 0, 0, 0), (1, .aload_n 0, 1, 0, 0, 0, 0), (2, .getfield 23, 3, 5, 3, 9, 36), (1, .iload_n 2, 1, 0, 0, 0, 0), (0, .bipush 10, 2, 0, 0, 0, 0), (0, .imul, 1, 0, 0, 0, 0), (1, .iload 4, 2, 0, 0, 0, 0), (0, .iadd, 1, 0, 0, 0, 0), (2, .iaload, 1, 0, 0, 0, 0), (9, .if_icmp .ge 19, 3, 109, 0, 0, 0), (1, .aload_n 0, 1, 0, 0, 0, 0), (2, .getfield 23, 3, 5, 3, 9, 36), (1, .iload_n 2, 1, 0, 0, 0, 0), (0, .bipush 10, 2, 0, 0, 0, 0), (0, .imul, 1, 0, 0, 0, 0), (1, .iload 4, 2, 0, 0, 0, 0), (0, .iadd, 1, 0, 0, 0, 0), (1, .iload_n 3, 1, 0, 0, 0, 0), (1, .iload 5, 2, 0, 0, 0, 0), (0, .iadd, 1, 0, 0, 0, 0), (2, .iastore, 1, 0, 0, 0, 0)], 109),
  (109, [(1, .iinc 4 1, 3, 0, 0, 0, 0), (8, .goto (-74), 3, 38, 0, 0, 0)], 0),
  (115, [(1, .iinc 2 1, 3, 0, 0, 0, 0), (8, .goto (-103), 3, 15, 0, 0, 0)], 0),
  (121, [(11, .return_, 1, 0, 0, 0, 0)], 0)]
/-- Simplespan$Net.between(II)I -/
def pz_c59 : List (Nat × List pz_Op × Nat) := [
  (0, [(1, .iload_n 1, 1, 0, 0, 0, 0), (9, .ifCond .lt 23, 3, 24, 0, 0, 0), (1, .iload_n 1, 1, 0, 0, 0, 0), (0, .bipush 10, 2, 0, 0, 0, 0), (9, .if_icmp .ge 17, 3, 24, 0, 0, 0), (1, .iload_n 2, 1, 0, 0, 0, 0), (9, .ifCond .lt 13, 3, 24, 0, 0, 0), (1, .iload_n 2, 1, 0, 0, 0, 0), (0, .bipush 10, 2, 0, 0, 0, 0), (9, .if_icmp .ge 7, 3, 24, 0, 0, 0), (0, .iconst 1, 1, 0, 0, 0, 0), (8, .goto 4, 3, 25, 0, 0, 0)], 0),
  (24, [(0, .iconst 0, 1, 0, 0, 0, 0)], 25),
  (25, [(1, .istore_n 3, 1, 0, 0, 0, 0), (1, .iload_n 3, 1, 0, 0, 0, 0), (9, .ifCond .eq 17, 3, 44, 0, 0, 0), (1, .aload_n 0, 1, 0, 0, 0, 0), (2, .getfield 23, 3, 5, 3, 9, 36), (1, .iload_n 1, 1, 0, 0, 0, 0), (0, .bipush 10, 2, 0, 0, 0, 0), (0, .imul, 1, 0, 0, 0, 0), (1, .iload_n 2, 1, 0, 0, 0, 0), (0, .iadd, 1, 0, 0, 0, 0), (2, .iaload, 1, 0, 0, 0, 0), (8, .goto 5, 3, 46, 0, 0, 0)], 0),
  (44, [(3, .ldc 38, 2, 1000000000, 0, 0, 418)], 46),
  (46, [(10, .ireturn, 1, 0, 0, 0, 0)], 0)]
/-- Simplespan$Net.byRounds(II)I -/
def pz_c60 : List (Nat × List pz_Op × Nat) := [
  (0, [(1, .iload_n 1, 1, 0, 0, 0, 0), (4, .invokestatic 57, 3, 187, 1, 99, 55), (9, .ifCond .eq 10, 3, 14, 0, 0, 0), (1, .iload_n 2, 1, 0, 0, 0, 0), (4, .invokestatic 57, 3, 187, 1, 99, 55), (9, .ifCond .ne 6, 3, 17, 0, 0, 0)], 14),
  (14, [(3, .ldc 38, 2, 1000000000, 0, 0, 418), (10, .ireturn, 1, 0, 0, 0, 0)], 0),
  (17, [(0, .iconst 0, 1, 0, 0, 0, 0), (1, .istore_n 3, 1, 0, 0, 0, 0)], 19),
  (19, [(1, .iload_n 3, 1, 0, 0, 0, 0), (0, .bipush 10, 2, 0, 0, 0, 0), (9, .if_icmp .ge 17, 3, 39, 0, 0, 0), (1, .aload_n 0, 1, 0, 0, 0, 0), (2, .getfield 26, 3, 5, 4, 9, 37), (1, .iload_n 3, 1, 0, 0, 0, 0), (3, .ldc 38, 2, 1000000000, 0, 0, 418), (2, .iastore, 1, 0, 0, 0, 0), (1, .iinc 3 1, 3, 0, 0, 0, 0), (8, .goto (-17), 3, 19, 0, 0, 0)], 0),
  (39, [(1, .aload_n 0, 1, 0, 0, 0, 0), (2, .getfield 26, 3, 5, 4, 9, 37), (1, .iload_n 1, 1, 0, 0, 0, 0), (0, .iconst 0, 1, 0, 0, 0, 0), (2, .iastore, 1, 0, 0, 0, 0), (0, .iconst 1, 1, 0, 0, 0, 0), (1, .istore_n 3, 1, 0, 0, 0, 0), (0, .iconst 0, 1, 0, 0, 0, 0), (1, .istore 4, 2, 0, 0, 0, 0)], 51),
  (51, [(1, .iload 4, 2, 0, 0, 0, 0), (1, .aload_n 0, 1, 0, 0, 0, 0), (2, .getfield 9, 3, 5, 0, 0, 33), (9, .if_icmp .ge 18, 3, 75, 0, 0, 0), (1, .iload_n 3, 1, 0, 0, 0, 0), (9, .ifCond .eq 14, 3, 75, 0, 0, 0), (1, .aload_n 0, 1, 0, 0, 0, 0), (4, .invokevirtual 61, 3, 61, 1, 5, 56), (1, .istore_n 3, 1, 0, 0, 0, 0), (1, .iinc 4 1, 3, 0, 0, 0, 0), (8, .goto (-21), 3, 51, 0, 0, 0)], 0),
  (75, [(1, .aload_n 0, 1, 0, 0, 0, 0), (2, .getfield 26, 3, 5, 4, 9, 37), (1, .iload_n 2, 1, 0, 0, 0, 0), (2, .iaload, 1, 0, 0, 0, 0), (10, .ireturn, 1, 0, 0, 0, 0)], 0)]
/-- Simplespan$Net.goRound()Z -/
def pz_c61 : List (Nat × List pz_Op × Nat) := [
  (0, [(0, .iconst 0, 1, 0, 0, 0, 0), (1, .istore_n 1, 1, 0, 0, 0, 0), (0, .iconst 0, 1, 0, 0, 0, 0), (1, .istore_n 2, 1, 0, 0, 0, 0)], 4),
  (4, [(1, .iload_n 2, 1, 0, 0, 0, 0), (1, .aload_n 0, 1, 0, 0, 0, 0), (2, .getfield 9, 3, 5, 0, 0, 33), (9, .if_icmp .ge 91, 3, 100, 0, 0, 0), (0, .iconst 0, 1, 0, 0, 0, 0), (1, .istore_n 3, 1, 0, 0, 0, 0)], 14),
  (14, [(1, .iload_n 3, 1, 0, 0, 0, 0), (1, .aload_n 0, 1, 0, 0, 0, 0), (2, .getfield 9, 3, 5, 0, 0, 33), (9, .if_icmp .ge 75, 3, 94, 0, 0, 0), (1, .aload_n 0, 1, 0, 0, 0, 0), (2, .getfield 19, 3, 5, 2, 9, 35), (1, .iload_n 2, 1, 0, 0, 0, 0), (0, .bipush 10, 2, 0, 0, 0, 0), (0, .imul, 1, 0, 0, 0, 0), (1, .iload_n 3, 1, 0, 0, 0, 0), (0, .iadd, 1, 0, 0, 0, 0), (2, .iaload, 1, 0, 0, 0, 0), (1, .istore 4, 2, 0, 0, 0, 0), (1, .iload 4, 2, 0, 0, 0, 0), (3, .ldc 38, 2, 1000000000, 0, 0, 418), (9, .if_icmp .eq 49, 3, 88, 0, 0, 0), (1, .aload_n 0, 1, 0, 0, 0, 0), (2, .getfield 26, 3, 5, 4, 9, 37), (1, .iload_n 2, 1, 0, 0, 0, 0), (2, .iaload, 1, 0, 0, 0, 0), (3, .ldc 38, 2, 1000000000, 0, 0, 418), (9, .if_icmp .eq 38, 3, 88, 0, 0, 0), (1, .aload_n 0, 1, 0, 0, 0, 0), (2, .getfield 26, 3, 5, 4, 9, 37), (1, .iload_n 2, 1, 0, 0, 0, 0), (2, .iaload, 1, 0, 0, 0, 0), (1, .iload 4, 2, 0, 0, 0, 0), (0, .iadd, 1, 0, 0, 0, 0), (1, .aload_n 0, 1, 0, 0, 0, 0), (2, .getfield 26, 3, 5, 4, 9, 37), (1, .iload_n 3, 1, 0, 0, 0, 0), (2, .iaload, 1, 0, 0, 0, 0), (9, .if_icmp .ge 20, 3, 88, 0, 0, 0), (1, .aload_n 0, 1, 0, 0, 0, 0), (2, .getfield 26, 3, 5, 4, 9, 37), (1, .iload_n 3, 1, 0, 0, 0, 0), (1, .aload_n 0, 1, 0, 0, 0, 0), (2, .getfield 26, 3, 5, 4, 9, 37), (1, .iload_n 2, 1, 0, 0, 0, 0), (2, .iaload, 1, 0, 0, 0, 0), (1, .iload 4, 2, 0, 0, 0, 0), (0, .iadd, 1, 0, 0, 0, 0), (2, .iastore, 1, 0, 0, 0, 0), (0, .iconst 1, 1, 0, 0, 0, 0), (1, .istore_n 1, 1, 0, 0, 0, 0)], 88),
  (88, [(1, .iinc 3 1, 3, 0, 0, 0, 0), (8, .goto (-77), 3, 14, 0, 0, 0)], 0),
  (94, [(1, .iinc 2 1, 3, 0, 0, 0, 0), (8, .goto (-93), 3, 4, 0, 0, 0)], 0),
  (100, [(1, .iload_n 1, 1, 0, 0, 0, 0), (10, .ireturn, 1, 1, 0, 0, 0)], 0)]
/-- Simplespan$Net.isReachedAtOnce(II)Z -/
def pz_c62 : List (Nat × List pz_Op × Nat) := [
  (0, [(1, .aload_n 0, 1, 0, 0, 0, 0), (1, .iload_n 1, 1, 0, 0, 0, 0), (1, .iload_n 2, 1, 0, 0, 0, 0), (4, .invokevirtual 64, 3, 59, 3, 5, 57), (1, .istore_n 3, 1, 0, 0, 0, 0), (1, .iload_n 3, 1, 0, 0, 0, 0), (3, .ldc 38, 2, 1000000000, 0, 0, 418), (9, .if_icmp .ne 5, 3, 15, 0, 0, 0), (0, .iconst 0, 1, 0, 0, 0, 0), (10, .ireturn, 1, 1, 0, 0, 0)], 0),
  (15, [(0, .iconst 0, 1, 0, 0, 0, 0), (1, .istore 4, 2, 0, 0, 0, 0)], 18),
  (18, [(1, .iload 4, 2, 0, 0, 0, 0), (1, .aload_n 0, 1, 0, 0, 0, 0), (2, .getfield 9, 3, 5, 0, 0, 33), (9, .if_icmp .ge 76, 3, 100, 0, 0, 0), (1, .aload_n 0, 1, 0, 0, 0, 0), (1, .iload_n 1, 1, 0, 0, 0, 0), (1, .iload 4, 2, 0, 0, 0, 0), (4, .invokevirtual 64, 3, 59, 3, 5, 57), (1, .istore 5, 2, 0, 0, 0, 0), (1, .aload_n 0, 1, 0, 0, 0, 0), (1, .iload 4, 2, 0, 0, 0, 0), (1, .iload_n 2, 1, 0, 0, 0, 0), (4, .invokevirtual 64, 3, 59, 3, 5, 57), (1, .istore 6, 2, 0, 0, 0, 0), (1, .iload 4, 2, 0, 0, 0, 0), (1, .iload_n 1, 1, 0, 0, 0, 0), (9, .if_icmp .eq 13, 3, 61, 0, 0, 0), (1, .iload 4, 2, 0, 0, 0, 0), (1, .iload_n 2, 1, 0, 0, 0, 0), (9, .if_icmp .eq 7, 3, 61, 0, 0, 0), (0, .iconst 1, 1, 0, 0, 0, 0), (8, .goto 4, 3, 62, 0, 0, 0)], 0),
  (61, [(0, .iconst 0, 1, 0, 0, 0, 0)], 62),
  (62, [(1, .istore 7, 2, 0, 0, 0, 0), (1, .iload 7, 2, 0, 0, 0, 0), (9, .ifCond .eq 28, 3, 94, 0, 0, 0), (1, .iload 5, 2, 0, 0, 0, 0), (3, .ldc 38, 2, 1000000000, 0, 0, 418), (9, .if_icmp .eq 21, 3, 94, 0, 0, 0), (1, .iload 6, 2, 0, 0, 0, 0), (3, .ldc 38, 2, 1000000000, 0, 0, 418), (9, .if_icmp .eq 14, 3, 94, 0, 0, 0), (1, .iload 5, 2, 0, 0, 0, 0), (1, .iload 6, 2, 0, 0, 0, 0), (0, .iadd, 1, 0, 0, 0, 0), (1, .iload_n 3, 1, 0, 0, 0, 0), (9, .if_icmp .ne 5, 3, 94, 0, 0, 0), (0, .iconst 0, 1, 0, 0, 0, 0), (10, .ireturn, 1, 1, 0, 0, 0)], 0),
  (94, [(1, .iinc 4 1, 3, 0, 0, 0, 0), (8, .goto (-79), 3, 18, 0, 0, 0)], 0),
  (100, [(0, .iconst 1, 1, 0, 0, 0, 0), (10, .ireturn, 1, 1, 0, 0, 0)], 0)]
/-- Simplespan$Net.earliest(I)I -/
def pz_c63 : List (Nat × List pz_Op × Nat) := [
  (0, [(1, .aload_n 0, 1, 0, 0, 0, 0), (1, .iload_n 1, 1, 0, 0, 0, 0), (0, .iconst 0, 1, 0, 0, 0, 0), (4, .invokevirtual 64, 3, 59, 3, 5, 57), (1, .istore_n 2, 1, 0, 0, 0, 0), (1, .iload_n 2, 1, 0, 0, 0, 0), (3, .ldc 38, 2, 1000000000, 0, 0, 418), (9, .if_icmp .ne 7, 3, 17, 0, 0, 0), (0, .iconst 0, 1, 0, 0, 0, 0), (8, .goto 9, 3, 23, 0, 0, 0)], 0),
  (17, [(0, .iconst 0, 1, 0, 0, 0, 0), (1, .iload_n 2, 1, 0, 0, 0, 0), (0, .ineg, 1, 0, 0, 0, 0), (4, .invokestatic 35, 3, 1, 2, 99, 51)], 23),
  (23, [(10, .ireturn, 1, 0, 0, 0, 0)], 0)]
/-- Simplespan$Plan.<init>()V -/
def pz_c64 : List (Nat × List pz_Op × Nat) := [
  (0, [(1, .aload_n 0, 1, 0, 0, 0, 0), (6, .invokespecial 3, 3, 0, 0, 0, 50), (1, .aload_n 0, 1, 0, 0, 0, 0), (0, .iconst 1, 1, 0, 0, 0, 0), (2, .putfield 9, 3, 6, 0, 0, 38), (1, .aload_n 0, 1, 0, 0, 0, 0), (2, .new 15, 3, 1, 6, 0, 1), (0, .dup, 1, 0, 0, 0, 0), (4, .invokespecial 17, 3, 15, 1, 1, 58), (2, .putfield 18, 3, 6, 1, 9, 39), (1, .aload_n 0, 1, 0, 0, 0, 0), (2, .new 22, 3, 9, 5, 0, 2), (0, .dup, 1, 0, 0, 0, 0), (4, .invokespecial 24, 3, 108, 1, 9, 59), (2, .putfield 25, 3, 6, 2, 9, 40), (1, .aload_n 0, 1, 0, 0, 0, 0), (2, .new 29, 3, 2, 2, 0, 3), (0, .dup, 1, 0, 0, 0, 0), (4, .invokespecial 31, 3, 23, 1, 2, 60), (2, .putfield 32, 3, 6, 3, 9, 41), (1, .aload_n 0, 1, 0, 0, 0, 0), (2, .new 36, 3, 0, 5, 0, 4), (0, .dup, 1, 0, 0, 0, 0), (4, .invokespecial 38, 3, 3, 1, 0, 61), (2, .putfield 39, 3, 6, 4, 9, 42), (1, .aload_n 0, 1, 0, 0, 0, 0), (2, .new 43, 3, 3, 3, 0, 5), (0, .dup, 1, 0, 0, 0, 0), (4, .invokespecial 45, 3, 30, 1, 3, 62), (2, .putfield 46, 3, 6, 5, 9, 43), (1, .aload_n 0, 1, 0, 0, 0, 0), (0, .iconst 5, 1, 0, 0, 0, 0), (2, .newarray .char, 2, 22, 0, 0, 0), (2, .putfield 50, 3, 6, 6, 9, 44), (1, .aload_n 0, 1, 0, 0, 0, 0), (0, .iconst 0, 1, 0, 0, 0, 0), (2, .putfield 54, 3, 6, 7, 0, 45), (1, .aload_n 0, 1, 0, 0, 0, 0), (2, .new 29, 3, 2, 2, 0, 3), (0, .dup, 1, 0, 0, 0, 0), (4, .invokespecial 31, 3, 23, 1, 2, 60), (2, .putfield 57, 3, 6, 8, 9, 46), (0, .iconst 0, 1, 0, 0, 0, 0), (1, .istore_n 1, 1, 0, 0, 0, 0)], 89),
  (89, [(1, .iload_n 1, 1, 0, 0, 0, 0), (0, .iconst 4, 1, 0, 0, 0, 0), (9, .if_icmp .gt 17, 3, 108, 0, 0, 0), (1, .aload_n 0, 1, 0, 0, 0, 0), (2, .getfield 50, 3, 6, 6, 9, 44), (1, .iload_n 1, 1, 0, 0, 0, 0), (0, .bipush 111, 2, 0, 0, 0, 0), (2, .castore, 1, 0, 0, 0, 0), (1, .iinc 1 1, 3, 0, 0, 0, 0), (8, .goto (-16), 3, 89, 0, 0, 0)], 0),
  (108, [(11, .return_, 1, 0, 0, 0, 0)], 0)]
/-- Simplespan$Plan.copyFrom(LSimplespan$Plan;)V -/
def pz_c65 : List (Nat × List pz_Op × Nat) := [
  (0, [(1, .aload_n 0, 1, 0, 0, 0, 0), (1, .aload_n 1, 1, 0, 0, 0, 0), (2, .getfield 9, 3, 6, 0, 0, 38), (2, .putfield 9, 3, 6, 0, 0, 38), (1, .aload_n 0, 1, 0, 0, 0, 0), (2, .getfield 18, 3, 6, 1, 9, 39), (1, .aload_n 1, 1, 0, 0, 0, 0), (2, .getfield 18, 3, 6, 1, 9, 39), (4, .invokevirtual 60, 3, 22, 2, 1, 63), (1, .aload_n 0, 1, 0, 0, 0, 0), (2, .getfield 25, 3, 6, 2, 9, 40), (1, .aload_n 1, 1, 0, 0, 0, 0), (2, .getfield 25, 3, 6, 2, 9, 40), (4, .invokevirtual 64, 3, 121, 2, 9, 64), (1, .aload_n 0, 1, 0, 0, 0, 0), (2, .getfield 32, 3, 6, 3, 9, 41), (1, .aload_n 1, 1, 0, 0, 0, 0), (2, .getfield 32, 3, 6, 3, 9, 41), (4, .invokevirtual 67, 3, 29, 2, 2, 65), (1, .aload_n 0, 1, 0, 0, 0, 0), (2, .getfield 39, 3, 6, 4, 9, 42), (1, .aload_n 1, 1, 0, 0, 0, 0), (2, .getfield 39, 3, 6, 4, 9, 42), (4, .invokevirtual 70, 3, 14, 2, 0, 66), (1, .aload_n 0, 1, 0, 0, 0, 0), (2, .getfield 46, 3, 6, 5, 9, 43), (1, .aload_n 1, 1, 0, 0, 0, 0), (2, .getfield 46, 3, 6, 5, 9, 43), (4, .invokevirtual 73, 3, 33, 2, 3, 67), (1, .aload_n 1, 1, 0, 0, 0, 0), (2, .getfield 50, 3, 6, 6, 9, 44), (0, .iconst 0, 1, 0, 0, 0, 0), (1, .aload_n 0, 1, 0, 0, 0, 0), (2, .getfield 50, 3, 6, 6, 9, 44), (0, .iconst 0, 1, 0, 0, 0, 0), (0, .iconst 5, 1, 0, 0, 0, 0), (5, .invokestatic 76, 3, 0, 0, 0, 1058), (1, .aload_n 0, 1, 0, 0, 0, 0), (1, .aload_n 1, 1, 0, 0, 0, 0), (2, .getfield 54, 3, 6, 7, 0, 45), (2, .putfield 54, 3, 6, 7, 0, 45), (1, .aload_n 0, 1, 0, 0, 0, 0), (2, .getfield 57, 3, 6, 8, 9, 46), (1, .aload_n 1, 1, 0, 0, 0, 0), (2, .getfield 57, 3, 6, 8, 9, 46), (4, .invokevirtual 67, 3, 29, 2, 2, 65), (11, .return_, 1, 0, 0, 0, 0)], 0)]
/-- Simplespan$Plan.letterOf(I)C -/
def pz_c66 : List (Nat × List pz_Op × Nat) := [
  (0, [(1, .iload_n 1, 1, 0, 0, 0, 0), (0, .iconst 1, 1, 0, 0, 0, 0), (0, .iconst 4, 1, 0, 0, 0, 0), (4, .invokestatic 82, 3, 185, 3, 99, 68), (9, .ifCond .eq 12, 3, 18, 0, 0, 0), (1, .aload_n 0, 1, 0, 0, 0, 0), (2, .getfield 50, 3, 6, 6, 9, 44), (1, .iload_n 1, 1, 0, 0, 0, 0), (2, .caload, 1, 0, 0, 0, 0), (8, .goto 5, 3, 20, 0, 0, 0)], 0),
  (18, [(0, .bipush 111, 2, 0, 0, 0, 0)], 20),
  (20, [(10, .ireturn, 1, 2, 0, 0, 0)], 0)]
/-- Simplespan$Plan.setLabel(IC)V -/
def pz_c67 : List (Nat × List pz_Op × Nat) := [
  (0, [(1, .iload_n 1, 1, 0, 0, 0, 0), (0, .iconst 1, 1, 0, 0, 0, 0), (0, .iconst 4, 1, 0, 0, 0, 0), (4, .invokestatic 82, 3, 185, 3, 99, 68), (9, .ifCond .eq 10, 3, 16, 0, 0, 0), (1, .aload_n 0, 1, 0, 0, 0, 0), (2, .getfield 50, 3, 6, 6, 9, 44), (1, .iload_n 1, 1, 0, 0, 0, 0), (1, .iload_n 2, 1, 0, 0, 0, 0), (2, .castore, 1, 0, 0, 0, 0)], 16),
  (16, [(11, .return_, 1, 0, 0, 0, 0)], 0)]
/-- Simplespan$Plan.isObserved(I)Z -/
def pz_c68 : List (Nat × List pz_Op × Nat) := [
  (0, [(1, .aload_n 0, 1, 0, 0, 0, 0), (1, .iload_n 1, 1, 0, 0, 0, 0), (4, .invokevirtual 86, 3, 66, 2, 6, 69), (1, .istore_n 2, 1, 0, 0, 0, 0), (1, .iload_n 2, 1, 0, 0, 0, 0), (0, .bipush 116, 2, 0, 0, 0, 0), (9, .if_icmp .eq 9, 3, 18, 0, 0, 0), (1, .iload_n 2, 1, 0, 0, 0, 0), (0, .bipush 102, 2, 0, 0, 0, 0), (9, .if_icmp .ne 7, 3, 22, 0, 0, 0)], 18),
  (18, [(0, .iconst 1, 1, 0, 0, 0, 0), (8, .goto 4, 3, 23, 0, 0, 0)], 0),
  (22, [(0, .iconst 0, 1, 0, 0, 0, 0)], 23),
  (23, [(10, .ireturn, 1, 1, 0, 0, 0)], 0)]
/-- Simplespan$Plan.trueLabels()I -/
def pz_c69 : List (Nat × List pz_Op × Nat) := [
  (0, [(1, .aload_n 0, 1, 0, 0, 0, 0), (0, .bipush 116, 2, 0, 0, 0, 0), (0, .bipush 84, 2, 0, 0, 0, 0), (4, .invokevirtual 90, 3, 71, 3, 6, 70), (10, .ireturn, 1, 0, 0, 0, 0)], 0)]
/-- Simplespan$Plan.falseLabels()I -/
def pz_c70 : List (Nat × List pz_Op × Nat) := [
  (0, [(1, .aload_n 0, 1, 0, 0, 0, 0), (0, .bipush 102, 2, 0, 0, 0, 0), (0, .bipush 70, 2, 0, 0, 0, 0), (4, .invokevirtual 90, 3, 71, 3, 6, 70), (10, .ireturn, 1, 0, 0, 0, 0)], 0)]
/-- Simplespan$Plan.labelsWith(CC)I -/
def pz_c71 : List (Nat × List pz_Op × Nat) := [
  (0, [(0, .iconst 0, 1, 0, 0, 0, 0), (1, .istore_n 3, 1, 0, 0, 0, 0), (0, .iconst 1, 1, 0, 0, 0, 0), (1, .istore 4, 2, 0, 0, 0, 0)], 5),
  (5, [(1, .iload 4, 2, 0, 0, 0, 0), (0, .iconst 4, 1, 0, 0, 0, 0), (9, .if_icmp .gt 41, 3, 49, 0, 0, 0), (1, .aload_n 0, 1, 0, 0, 0, 0), (2, .getfield 50, 3, 6, 6, 9, 44), (1, .iload 4, 2, 0, 0, 0, 0), (2, .caload, 1, 0, 0, 0, 0), (1, .iload_n 1, 1, 0, 0, 0, 0), (9, .if_icmp .eq 14, 3, 33, 0, 0, 0), (1, .aload_n 0, 1, 0, 0, 0, 0), (2, .getfield 50, 3, 6, 6, 9, 44), (1, .iload 4, 2, 0, 0, 0, 0), (2, .caload, 1, 0, 0, 0, 0), (1, .iload_n 2, 1, 0, 0, 0, 0), (9, .if_icmp .ne 13, 3, 43, 0, 0, 0)], 33),
  (33, [(1, .iload_n 3, 1, 0, 0, 0, 0), (1, .iload 4, 2, 0, 0, 0, 0), (0, .iconst 1, 1, 0, 0, 0, 0), (0, .isub, 1, 0, 0, 0, 0), (4, .invokestatic 94, 3, 186, 1, 99, 71), (0, .ior, 1, 0, 0, 0, 0), (1, .istore_n 3, 1, 0, 0, 0, 0)], 43),
  (43, [(1, .iinc 4 1, 3, 0, 0, 0, 0), (8, .goto (-41), 3, 5, 0, 0, 0)], 0),
  (49, [(1, .iload_n 3, 1, 0, 0, 0, 0), (10, .ireturn, 1, 0, 0, 0, 0)], 0)]
/-- Simplespan$Plan.countHolding()I -/
def pz_c72 : List (Nat × List pz_Op × Nat) := [
  (0, [(1, .aload_n 0, 1, 0, 0, 0, 0), (4, .invokevirtual 98, 3, 69, 1, 6, 72), (1, .istore_n 1, 1, 0, 0, 0, 0), (1, .aload_n 0, 1, 0, 0, 0, 0), (4, .invokevirtual 102, 3, 70, 1, 6, 73), (1, .istore_n 2, 1, 0, 0, 0, 0), (0, .iconst 0, 1, 0, 0, 0, 0), (1, .istore_n 3, 1, 0, 0, 0, 0), (0, .iconst 0, 1, 0, 0, 0, 0), (1, .istore 4, 2, 0, 0, 0, 0)], 15),
  (15, [(1, .iload 4, 2, 0, 0, 0, 0), (1, .aload_n 0, 1, 0, 0, 0, 0), (2, .getfield 18, 3, 6, 1, 9, 39), (2, .getfield 105, 3, 1, 0, 0, 47), (9, .if_icmp .ge 26, 3, 50, 0, 0, 0), (1, .aload_n 0, 1, 0, 0, 0, 0), (2, .getfield 18, 3, 6, 1, 9, 39), (1, .iload 4, 2, 0, 0, 0, 0), (1, .iload_n 1, 1, 0, 0, 0, 0), (1, .iload_n 2, 1, 0, 0, 0, 0), (4, .invokevirtual 108, 3, 20, 4, 1, 74), (9, .ifCond .eq 6, 3, 44, 0, 0, 0), (1, .iinc 3 1, 3, 0, 0, 0, 0)], 44),
  (44, [(1, .iinc 4 1, 3, 0, 0, 0, 0), (8, .goto (-32), 3, 15, 0, 0, 0)], 0),
  (50, [(1, .iload_n 3, 1, 0, 0, 0, 0), (10, .ireturn, 1, 0, 0, 0, 0)], 0)]
/-- Simplespan$Plan.keepPlayed(LSimplespan$Clock;)V -/
def pz_c73 : List (Nat × List pz_Op × Nat) := [
  (0, [(1, .aload_n 0, 1, 0, 0, 0, 0), (2, .getfield 57, 3, 6, 8, 9, 46), (1, .aload_n 1, 1, 0, 0, 0, 0), (4, .invokevirtual 67, 3, 29, 2, 2, 65), (1, .aload_n 0, 1, 0, 0, 0, 0), (1, .aload_n 0, 1, 0, 0, 0, 0), (2, .getfield 9, 3, 6, 0, 0, 38), (2, .putfield 54, 3, 6, 7, 0, 45), (11, .return_, 1, 0, 0, 0, 0)], 0)]
/-- Simplespan$Plan.playedStart(I)I -/
def pz_c74 : List (Nat × List pz_Op × Nat) := [
  (0, [(1, .aload_n 0, 1, 0, 0, 0, 0), (2, .getfield 57, 3, 6, 8, 9, 46), (1, .iload_n 1, 1, 0, 0, 0, 0), (4, .invokevirtual 111, 3, 25, 2, 2, 75), (10, .ireturn, 1, 0, 0, 0, 0)], 0)]
/-- Simplespan$Player.<init>(LSimplespan$Plan;LSimplespan$Reductions;)V -/
def pz_c75 : List (Nat × List pz_Op × Nat) := [
  (0, [(1, .aload_n 0, 1, 0, 0, 0, 0), (6, .invokespecial 3, 3, 0, 0, 0, 319), (1, .aload_n 0, 1, 0, 0, 0, 0), (2, .new 9, 3, 2, 2, 0, 6), (0, .dup, 1, 0, 0, 0, 0), (4, .invokespecial 11, 3, 23, 1, 2, 76), (2, .putfield 12, 3, 7, 2, 9, 48), (1, .aload_n 0, 1, 0, 0, 0, 0), (1, .aload_n 1, 1, 0, 0, 0, 0), (2, .putfield 18, 3, 7, 0, 9, 49), (1, .aload_n 0, 1, 0, 0, 0, 0), (1, .aload_n 2, 1, 0, 0, 0, 0), (2, .putfield 22, 3, 7, 1, 9, 50), (11, .return_, 1, 0, 0, 0, 0)], 0)]
/-- Simplespan$Player.failureOf(I)C -/
def pz_c76 : List (Nat × List pz_Op × Nat) := [
  (0, [(1, .aload_n 0, 1, 0, 0, 0, 0), (2, .getfield 12, 3, 7, 2, 9, 48), (4, .invokevirtual 26, 3, 24, 1, 2, 77), (0, .iconst 0, 1, 0, 0, 0, 0), (1, .istore_n 2, 1, 0, 0, 0, 0)], 9),
  (9, [(1, .iload_n 2, 1, 0, 0, 0, 0), (0, .sipush 600, 3, 0, 0, 0, 0), (9, .if_icmp .gt 65, 3, 78, 0, 0, 0), (1, .aload_n 0, 1, 0, 0, 0, 0), (2, .getfield 12, 3, 7, 2, 9, 48), (2, .getfield 29, 3, 2, 0, 0, 51), (0, .sipush 600, 3, 0, 0, 0, 0), (9, .if_icmp .gt 52, 3, 78, 0, 0, 0), (1, .aload_n 0, 1, 0, 0, 0, 0), (1, .iload_n 1, 1, 0, 0, 0, 0), (4, .invokevirtual 33, 3, 79, 2, 7, 78), (1, .aload_n 0, 1, 0, 0, 0, 0), (4, .invokevirtual 37, 3, 80, 1, 7, 79), (1, .aload_n 0, 1, 0, 0, 0, 0), (4, .invokevirtual 40, 3, 77, 1, 7, 80), (9, .ifCond .eq 18, 3, 60, 0, 0, 0), (1, .aload_n 0, 1, 0, 0, 0, 0), (4, .invokevirtual 44, 3, 78, 1, 7, 81), (9, .ifCond .eq 8, 3, 57, 0, 0, 0), (0, .bipush 45, 2, 0, 0, 0, 0), (8, .goto 5, 3, 59, 0, 0, 0)], 0),
  (57, [(0, .bipush 98, 2, 0, 0, 0, 0)], 59),
  (59, [(10, .ireturn, 1, 2, 0, 0, 0)], 0),
  (60, [(1, .aload_n 0, 1, 0, 0, 0, 0), (2, .getfield 12, 3, 7, 2, 9, 48), (1, .aload_n 0, 1, 0, 0, 0, 0), (1, .iload_n 1, 1, 0, 0, 0, 0), (4, .invokevirtual 47, 3, 82, 2, 7, 82), (2, .putfield 29, 3, 2, 0, 0, 51), (1, .iinc 2 1, 3, 0, 0, 0, 0), (8, .goto (-66), 3, 9, 0, 0, 0)], 0),
  (78, [(0, .bipush 109, 2, 0, 0, 0, 0), (10, .ireturn, 1, 2, 0, 0, 0)], 0)]
/-- Simplespan$Player.haveAllStarted()Z -/
def pz_c77 : List (Nat × List pz_Op × Nat) := [
  (0, [(0, .iconst 0, 1, 0, 0, 0, 0), (1, .istore_n 1, 1, 0, 0, 0, 0)], 2),
  (2, [(1, .iload_n 1, 1, 0, 0, 0, 0), (1, .aload_n 0, 1, 0, 0, 0, 0), (2, .getfield 18, 3, 7, 0, 9, 49), (2, .getfield 51, 3, 6, 0, 0, 52), (9, .if_icmp .ge 22, 3, 32, 0, 0, 0), (1, .aload_n 0, 1, 0, 0, 0, 0), (2, .getfield 12, 3, 7, 2, 9, 48), (1, .iload_n 1, 1, 0, 0, 0, 0), (4, .invokevirtual 56, 3, 26, 2, 2, 83), (9, .ifCond .ne 5, 3, 26, 0, 0, 0), (0, .iconst 0, 1, 0, 0, 0, 0), (10, .ireturn, 1, 1, 0, 0, 0)], 0),
  (26, [(1, .iinc 1 1, 3, 0, 0, 0, 0), (8, .goto (-27), 3, 2, 0, 0, 0)], 0),
  (32, [(0, .iconst 1, 1, 0, 0, 0, 0), (10, .ireturn, 1, 1, 0, 0, 0)], 0)]
/-- Simplespan$Player.areBoundsRight()Z -/
def pz_c78 : List (Nat × List pz_Op × Nat) := [
  (0, [(1, .aload_n 0, 1, 0, 0, 0, 0), (2, .getfield 18, 3, 7, 0, 9, 49), (4, .invokevirtual 60, 3, 69, 1, 6, 84), (1, .istore_n 1, 1, 0, 0, 0, 0), (1, .aload_n 0, 1, 0, 0, 0, 0), (2, .getfield 18, 3, 7, 0, 9, 49), (4, .invokevirtual 64, 3, 70, 1, 6, 85), (1, .istore_n 2, 1, 0, 0, 0, 0), (0, .iconst 0, 1, 0, 0, 0, 0), (1, .istore_n 3, 1, 0, 0, 0, 0)], 18),
  (18, [(1, .iload_n 3, 1, 0, 0, 0, 0), (1, .aload_n 0, 1, 0, 0, 0, 0), (2, .getfield 18, 3, 7, 0, 9, 49), (2, .getfield 67, 3, 6, 1, 9, 53), (2, .getfield 71, 3, 1, 0, 0, 54), (9, .if_icmp .ge 45, 3, 74, 0, 0, 0), (1, .aload_n 0, 1, 0, 0, 0, 0), (2, .getfield 18, 3, 7, 0, 9, 49), (2, .getfield 67, 3, 6, 1, 9, 53), (1, .iload_n 3, 1, 0, 0, 0, 0), (1, .iload_n 1, 1, 0, 0, 0, 0), (1, .iload_n 2, 1, 0, 0, 0, 0), (4, .invokevirtual 76, 3, 20, 4, 1, 86), (9, .ifCond .eq 23, 3, 68, 0, 0, 0), (1, .aload_n 0, 1, 0, 0, 0, 0), (2, .getfield 18, 3, 7, 0, 9, 49), (2, .getfield 67, 3, 6, 1, 9, 53), (1, .iload_n 3, 1, 0, 0, 0, 0), (1, .aload_n 0, 1, 0, 0, 0, 0), (2, .getfield 12, 3, 7, 2, 9, 48), (4, .invokevirtual 80, 3, 21, 3, 1, 87), (9, .ifCond .ne 5, 3, 68, 0, 0, 0), (0, .iconst 0, 1, 0, 0, 0, 0), (10, .ireturn, 1, 1, 0, 0, 0)], 0),
  (68, [(1, .iinc 3 1, 3, 0, 0, 0, 0), (8, .goto (-53), 3, 18, 0, 0, 0)], 0),
  (74, [(0, .iconst 1, 1, 0, 0, 0, 0), (10, .ireturn, 1, 1, 0, 0, 0)], 0)]
/-- Simplespan$Player.startEnds(I)V -/
def pz_c79 : List (Nat × List pz_Op × Nat) := [
  (0, [(0, .iconst 0, 1, 0, 0, 0, 0), (1, .istore_n 2, 1, 0, 0, 0, 0)], 2),
  (2, [(1, .iload_n 2, 1, 0, 0, 0, 0), (1, .aload_n 0, 1, 0, 0, 0, 0), (2, .getfield 18, 3, 7, 0, 9, 49), (2, .getfield 84, 3, 6, 2, 9, 55), (2, .getfield 88, 3, 9, 0, 0, 56), (9, .if_icmp .ge 77, 3, 90, 0, 0, 0), (1, .aload_n 0, 1, 0, 0, 0, 0), (2, .getfield 18, 3, 7, 0, 9, 49), (2, .getfield 84, 3, 6, 2, 9, 55), (1, .iload_n 2, 1, 0, 0, 0, 0), (1, .aload_n 0, 1, 0, 0, 0, 0), (2, .getfield 12, 3, 7, 2, 9, 48), (4, .invokevirtual 91, 3, 117, 3, 9, 88), (1, .istore_n 3, 1, 0, 0, 0, 0), (1, .iload_n 3, 1, 0, 0, 0, 0), (9, .ifCond .eq 51, 3, 84, 0, 0, 0), (1, .aload_n 0, 1, 0, 0, 0, 0), (2, .getfield 18, 3, 7, 0, 9, 49), (2, .getfield 84, 3, 6, 2, 9, 55), (1, .iload_n 2, 1, 0, 0, 0, 0), (1, .aload_n 0, 1, 0, 0, 0, 0), (2, .getfield 12, 3, 7, 2, 9, 48), (4, .invokevirtual 94, 3, 118, 3, 9, 89), (1, .aload_n 0, 1, 0, 0, 0, 0), (2, .getfield 18, 3, 7, 0, 9, 49), (2, .getfield 84, 3, 6, 2, 9, 55), (1, .iload_n 2, 1, 0, 0, 0, 0), (1, .iload_n 1, 1, 0, 0, 0, 0), (4, .invokevirtual 98, 3, 114, 3, 9, 90), (9, .if_icmp .ne 21, 3, 84, 0, 0, 0), (1, .aload_n 0, 1, 0, 0, 0, 0), (2, .getfield 12, 3, 7, 2, 9, 48), (1, .aload_n 0, 1, 0, 0, 0, 0), (2, .getfield 18, 3, 7, 0, 9, 49), (2, .getfield 84, 3, 6, 2, 9, 55), (1, .iload_n 2, 1, 0, 0, 0, 0), (4, .invokevirtual 102, 3, 111, 2, 9, 91), (4, .invokevirtual 105, 3, 28, 2, 2, 92)], 84),
  (84, [(1, .iinc 2 1, 3, 0, 0, 0, 0), (8, .goto (-85), 3, 2, 0, 0, 0)], 0),
  (90, [(11, .return_, 1, 0, 0, 0, 0)], 0)]
/-- Simplespan$Player.startReady()V -/
def pz_c80 : List (Nat × List pz_Op × Nat) := [
  (0, [(0, .iconst 0, 1, 0, 0, 0, 0), (1, .istore_n 1, 1, 0, 0, 0, 0)], 2),
  (2, [(1, .iload_n 1, 1, 0, 0, 0, 0), (0, .bipush 10, 2, 0, 0, 0, 0), (9, .if_icmp .ge 28, 3, 33, 0, 0, 0), (1, .aload_n 0, 1, 0, 0, 0, 0), (4, .invokevirtual 108, 3, 81, 1, 7, 93), (1, .istore_n 2, 1, 0, 0, 0, 0), (1, .iload_n 2, 1, 0, 0, 0, 0), (0, .iconst (-1), 1, 0, 0, 0, 0), (9, .if_icmp .ne 4, 3, 19, 0, 0, 0), (11, .return_, 1, 0, 0, 0, 0)], 0),
  (19, [(1, .aload_n 0, 1, 0, 0, 0, 0), (2, .getfield 12, 3, 7, 2, 9, 48), (1, .iload_n 2, 1, 0, 0, 0, 0), (4, .invokevirtual 105, 3, 28, 2, 2, 92), (1, .iinc 1 1, 3, 0, 0, 0, 0), (8, .goto (-28), 3, 2, 0, 0, 0)], 0),
  (33, [(11, .return_, 1, 0, 0, 0, 0)], 0)]
/-- Simplespan$Player.firstReady()I -/
def pz_c81 : List (Nat × List pz_Op × Nat) := [
  (0, [(0, .iconst 0, 1, 0, 0, 0, 0), (1, .istore_n 1, 1, 0, 0, 0, 0)], 2),
  (2, [(1, .iload_n 1, 1, 0, 0, 0, 0), (1, .aload_n 0, 1, 0, 0, 0, 0), (2, .getfield 18, 3, 7, 0, 9, 49), (2, .getfield 51, 3, 6, 0, 0, 52), (9, .if_icmp .ge 28, 3, 38, 0, 0, 0), (1, .aload_n 0, 1, 0, 0, 0, 0), (2, .getfield 22, 3, 7, 1, 9, 50), (1, .iload_n 1, 1, 0, 0, 0, 0), (1, .aload_n 0, 1, 0, 0, 0, 0), (2, .getfield 12, 3, 7, 2, 9, 48), (4, .invokevirtual 111, 3, 105, 3, 8, 94), (0, .bipush 45, 2, 0, 0, 0, 0), (9, .if_icmp .ne 5, 3, 32, 0, 0, 0), (1, .iload_n 1, 1, 0, 0, 0, 0), (10, .ireturn, 1, 0, 0, 0, 0)], 0),
  (32, [(1, .iinc 1 1, 3, 0, 0, 0, 0), (8, .goto (-33), 3, 2, 0, 0, 0)], 0),
  (38, [(0, .iconst (-1), 1, 0, 0, 0, 0), (10, .ireturn, 1, 0, 0, 0, 0)], 0)]
/-- Simplespan$Player.nextMinute(I)I -/
def pz_c82 : List (Nat × List pz_Op × Nat) := [
  (0, [(0, .sipush 601, 3, 0, 0, 0, 0), (1, .istore_n 2, 1, 0, 0, 0, 0), (0, .iconst 0, 1, 0, 0, 0, 0), (1, .istore_n 3, 1, 0, 0, 0, 0)], 6),
  (6, [(1, .iload_n 3, 1, 0, 0, 0, 0), (1, .aload_n 0, 1, 0, 0, 0, 0), (2, .getfield 18, 3, 7, 0, 9, 49), (2, .getfield 51, 3, 6, 0, 0, 52), (9, .if_icmp .ge 45, 3, 59, 0, 0, 0), (1, .aload_n 0, 1, 0, 0, 0, 0), (2, .getfield 12, 3, 7, 2, 9, 48), (1, .iload_n 3, 1, 0, 0, 0, 0), (4, .invokevirtual 56, 3, 26, 2, 2, 83), (9, .ifCond .ne 28, 3, 53, 0, 0, 0), (1, .aload_n 0, 1, 0, 0, 0, 0), (1, .iload_n 2, 1, 0, 0, 0, 0), (1, .aload_n 0, 1, 0, 0, 0, 0), (2, .getfield 22, 3, 7, 1, 9, 50), (1, .iload_n 3, 1, 0, 0, 0, 0), (1, .aload_n 0, 1, 0, 0, 0, 0), (2, .getfield 12, 3, 7, 2, 9, 48), (4, .invokevirtual 117, 3, 103, 3, 8, 95), (4, .invokevirtual 120, 3, 85, 3, 7, 96), (1, .istore_n 2, 1, 0, 0, 0, 0), (1, .aload_n 0, 1, 0, 0, 0, 0), (1, .iload_n 2, 1, 0, 0, 0, 0), (1, .iload_n 3, 1, 0, 0, 0, 0), (4, .invokevirtual 123, 3, 83, 3, 7, 97), (1, .istore_n 2, 1, 0, 0, 0, 0)], 53),
  (53, [(1, .iinc 3 1, 3, 0, 0, 0, 0), (8, .goto (-50), 3, 6, 0, 0, 0)], 0),
  (59, [(0, .iconst 0, 1, 0, 0, 0, 0), (1, .istore_n 3, 1, 0, 0, 0, 0)], 61),
  (61, [(1, .iload_n 3, 1, 0, 0, 0, 0), (1, .aload_n 0, 1, 0, 0, 0, 0), (2, .getfield 18, 3, 7, 0, 9, 49), (2, .getfield 84, 3, 6, 2, 9, 55), (2, .getfield 88, 3, 9, 0, 0, 56), (9, .if_icmp .ge 51, 3, 123, 0, 0, 0), (1, .aload_n 0, 1, 0, 0, 0, 0), (2, .getfield 18, 3, 7, 0, 9, 49), (2, .getfield 84, 3, 6, 2, 9, 55), (1, .iload_n 3, 1, 0, 0, 0, 0), (1, .aload_n 0, 1, 0, 0, 0, 0), (2, .getfield 12, 3, 7, 2, 9, 48), (4, .invokevirtual 91, 3, 117, 3, 9, 88), (9, .ifCond .eq 27, 3, 117, 0, 0, 0), (1, .aload_n 0, 1, 0, 0, 0, 0), (1, .iload_n 2, 1, 0, 0, 0, 0), (1, .aload_n 0, 1, 0, 0, 0, 0), (1, .iload_n 3, 1, 0, 0, 0, 0), (4, .invokevirtual 126, 3, 84, 2, 7, 98), (1, .aload_n 0, 1, 0, 0, 0, 0), (2, .getfield 18, 3, 7, 0, 9, 49), (2, .getfield 84, 3, 6, 2, 9, 55), (1, .iload_n 3, 1, 0, 0, 0, 0), (1, .iload_n 1, 1, 0, 0, 0, 0), (4, .invokevirtual 98, 3, 114, 3, 9, 90), (0, .iadd, 1, 0, 0, 0, 0), (4, .invokevirtual 120, 3, 85, 3, 7, 96), (1, .istore_n 2, 1, 0, 0, 0, 0)], 117),
  (117, [(1, .iinc 3 1, 3, 0, 0, 0, 0), (8, .goto (-59), 3, 61, 0, 0, 0)], 0),
  (123, [(1, .iload_n 2, 1, 0, 0, 0, 0), (10, .ireturn, 1, 0, 0, 0, 0)], 0)]
/-- Simplespan$Player.nextWaitOver(II)I -/
def pz_c83 : List (Nat × List pz_Op × Nat) := [
  (0, [(1, .iload_n 1, 1, 0, 0, 0, 0), (1, .istore_n 3, 1, 0, 0, 0, 0), (0, .iconst 0, 1, 0, 0, 0, 0), (1, .istore 4, 2, 0, 0, 0, 0)], 5),
  (5, [(1, .iload 4, 2, 0, 0, 0, 0), (1, .aload_n 0, 1, 0, 0, 0, 0), (2, .getfield 18, 3, 7, 0, 9, 49), (2, .getfield 84, 3, 6, 2, 9, 55), (2, .getfield 88, 3, 9, 0, 0, 56), (9, .if_icmp .ge 51, 3, 68, 0, 0, 0), (1, .aload_n 0, 1, 0, 0, 0, 0), (2, .getfield 18, 3, 7, 0, 9, 49), (2, .getfield 84, 3, 6, 2, 9, 55), (1, .iload 4, 2, 0, 0, 0, 0), (1, .aload_n 0, 1, 0, 0, 0, 0), (2, .getfield 12, 3, 7, 2, 9, 48), (4, .invokevirtual 91, 3, 117, 3, 9, 88), (9, .ifCond .eq 26, 3, 62, 0, 0, 0), (1, .aload_n 0, 1, 0, 0, 0, 0), (1, .iload_n 3, 1, 0, 0, 0, 0), (1, .aload_n 0, 1, 0, 0, 0, 0), (1, .iload 4, 2, 0, 0, 0, 0), (4, .invokevirtual 126, 3, 84, 2, 7, 98), (1, .aload_n 0, 1, 0, 0, 0, 0), (2, .getfield 22, 3, 7, 1, 9, 50), (1, .iload_n 2, 1, 0, 0, 0, 0), (1, .iload 4, 2, 0, 0, 0, 0), (4, .invokevirtual 129, 3, 102, 3, 8, 99), (0, .iadd, 1, 0, 0, 0, 0), (4, .invokevirtual 120, 3, 85, 3, 7, 96), (1, .istore_n 3, 1, 0, 0, 0, 0)], 62),
  (62, [(1, .iinc 4 1, 3, 0, 0, 0, 0), (8, .goto (-60), 3, 5, 0, 0, 0)], 0),
  (68, [(1, .iload_n 3, 1, 0, 0, 0, 0), (10, .ireturn, 1, 0, 0, 0, 0)], 0)]
/-- Simplespan$Player.startOfSpan(I)I -/
def pz_c84 : List (Nat × List pz_Op × Nat) := [
  (0, [(1, .aload_n 0, 1, 0, 0, 0, 0), (2, .getfield 12, 3, 7, 2, 9, 48), (1, .aload_n 0, 1, 0, 0, 0, 0), (2, .getfield 18, 3, 7, 0, 9, 49), (2, .getfield 84, 3, 6, 2, 9, 55), (1, .iload_n 1, 1, 0, 0, 0, 0), (4, .invokevirtual 132, 3, 110, 2, 9, 100), (4, .invokevirtual 135, 3, 25, 2, 2, 101), (10, .ireturn, 1, 0, 0, 0, 0)], 0)]
/-- Simplespan$Player.sooner(II)I -/
def pz_c85 : List (Nat × List pz_Op × Nat) := [
  (0, [(1, .iload_n 2, 1, 0, 0, 0, 0), (1, .aload_n 0, 1, 0, 0, 0, 0), (2, .getfield 12, 3, 7, 2, 9, 48), (2, .getfield 29, 3, 2, 0, 0, 51), (9, .if_icmp .le 11, 3, 19, 0, 0, 0), (1, .iload_n 1, 1, 0, 0, 0, 0), (1, .iload_n 2, 1, 0, 0, 0, 0), (4, .invokestatic 138, 3, 2, 2, 99, 102), (8, .goto 4, 3, 20, 0, 0, 0)], 0),
  (19, [(1, .iload_n 1, 1, 0, 0, 0, 0)], 20),
  (20, [(10, .ireturn, 1, 0, 0, 0, 0)], 0)]
/-- Simplespan$Player.lastStart()I -/
def pz_c86 : List (Nat × List pz_Op × Nat) := [
  (0, [(0, .iconst 0, 1, 0, 0, 0, 0), (1, .istore_n 1, 1, 0, 0, 0, 0), (0, .iconst 0, 1, 0, 0, 0, 0), (1, .istore_n 2, 1, 0, 0, 0, 0)], 4),
  (4, [(1, .iload_n 2, 1, 0, 0, 0, 0), (1, .aload_n 0, 1, 0, 0, 0, 0), (2, .getfield 18, 3, 7, 0, 9, 49), (2, .getfield 51, 3, 6, 0, 0, 52), (9, .if_icmp .ge 22, 3, 34, 0, 0, 0), (1, .iload_n 1, 1, 0, 0, 0, 0), (1, .aload_n 0, 1, 0, 0, 0, 0), (2, .getfield 12, 3, 7, 2, 9, 48), (1, .iload_n 2, 1, 0, 0, 0, 0), (4, .invokevirtual 135, 3, 25, 2, 2, 101), (4, .invokestatic 143, 3, 1, 2, 99, 103), (1, .istore_n 1, 1, 0, 0, 0, 0), (1, .iinc 2 1, 3, 0, 0, 0, 0), (8, .goto (-27), 3, 4, 0, 0, 0)], 0),
  (34, [(1, .iload_n 1, 1, 0, 0, 0, 0), (10, .ireturn, 1, 0, 0, 0, 0)], 0)]
/-- Simplespan$Reductions.<init>(LSimplespan$Plan;)V -/
def pz_c87 : List (Nat × List pz_Op × Nat) := [
  (0, [(1, .aload_n 0, 1, 0, 0, 0, 0), (6, .invokespecial 3, 3, 0, 0, 0, 281), (1, .aload_n 0, 1, 0, 0, 0, 0), (0, .iconst 0, 1, 0, 0, 0, 0), (2, .putfield 9, 3, 8, 1, 1, 57), (1, .aload_n 0, 1, 0, 0, 0, 0), (0, .iconst 0, 1, 0, 0, 0, 0), (2, .putfield 15, 3, 8, 2, 0, 58), (1, .aload_n 0, 1, 0, 0, 0, 0), (0, .iconst 0, 1, 0, 0, 0, 0), (2, .putfield 19, 3, 8, 3, 1, 59), (1, .aload_n 0, 1, 0, 0, 0, 0), (0, .bipush 100, 2, 0, 0, 0, 0), (2, .newarray .int, 2, 20, 0, 0, 0), (2, .putfield 22, 3, 8, 4, 9, 60), (1, .aload_n 0, 1, 0, 0, 0, 0), (0, .bipush 100, 2, 0, 0, 0, 0), (2, .newarray .int, 2, 20, 0, 0, 0), (2, .putfield 26, 3, 8, 5, 9, 61), (1, .aload_n 0, 1, 0, 0, 0, 0), (0, .bipush 30, 2, 0, 0, 0, 0), (2, .newarray .int, 2, 20, 0, 0, 0), (2, .putfield 29, 3, 8, 6, 9, 62), (1, .aload_n 0, 1, 0, 0, 0, 0), (0, .bipush 30, 2, 0, 0, 0, 0), (2, .newarray .int, 2, 20, 0, 0, 0), (2, .putfield 32, 3, 8, 7, 9, 63), (1, .aload_n 0, 1, 0, 0, 0, 0), (2, .new 35, 3, 5, 5, 0, 7), (0, .dup, 1, 0, 0, 0, 0), (4, .invokespecial 37, 3, 52, 1, 5, 104), (2, .putfield 38, 3, 8, 8, 9, 64), (1, .aload_n 0, 1, 0, 0, 0, 0), (1, .aload_n 1, 1, 0, 0, 0, 0), (2, .putfield 42, 3, 8, 0, 9, 65), (11, .return_, 1, 0, 0, 0, 0)], 0)]
/-- Simplespan$Reductions.run(LSimplespan$Net;)V -/
def pz_c88 : List (Nat × List pz_Op × Nat) := [
  (0, [(1, .aload_n 0, 1, 0, 0, 0, 0), (0, .iconst 0, 1, 0, 0, 0, 0), (2, .putfield 9, 3, 8, 1, 1, 57), (1, .aload_n 0, 1, 0, 0, 0, 0), (0, .iconst 0, 1, 0, 0, 0, 0), (2, .putfield 15, 3, 8, 2, 0, 58), (1, .aload_n 1, 1, 0, 0, 0, 0), (2, .getfield 46, 3, 5, 1, 1, 66), (9, .ifCond .ne 4, 3, 18, 0, 0, 0), (11, .return_, 1, 0, 0, 0, 0)], 0),
  (18, [(1, .aload_n 0, 1, 0, 0, 0, 0), (1, .aload_n 1, 1, 0, 0, 0, 0), (4, .invokevirtual 49, 3, 89, 2, 8, 105), (0, .iconst 0, 1, 0, 0, 0, 0), (1, .istore_n 2, 1, 0, 0, 0, 0)], 25),
  (25, [(1, .iload_n 2, 1, 0, 0, 0, 0), (0, .bipush 60, 2, 0, 0, 0, 0), (9, .if_icmp .ge 51, 3, 79, 0, 0, 0), (1, .aload_n 0, 1, 0, 0, 0, 0), (4, .invokevirtual 53, 3, 93, 1, 8, 106), (1, .aload_n 0, 1, 0, 0, 0, 0), (2, .getfield 19, 3, 8, 3, 1, 59), (9, .ifCond .eq 13, 3, 52, 0, 0, 0), (1, .aload_n 0, 1, 0, 0, 0, 0), (0, .dup, 1, 0, 0, 0, 0), (2, .getfield 15, 3, 8, 2, 0, 58), (0, .iconst 1, 1, 0, 0, 0, 0), (0, .iadd, 1, 0, 0, 0, 0), (2, .putfield 15, 3, 8, 2, 0, 58)], 52),
  (52, [(1, .aload_n 0, 1, 0, 0, 0, 0), (4, .invokevirtual 56, 3, 101, 1, 8, 107), (9, .ifCond .eq 4, 3, 60, 0, 0, 0), (11, .return_, 1, 0, 0, 0, 0)], 0),
  (60, [(1, .aload_n 0, 1, 0, 0, 0, 0), (2, .getfield 19, 3, 8, 3, 1, 59), (9, .ifCond .ne 9, 3, 73, 0, 0, 0), (1, .aload_n 0, 1, 0, 0, 0, 0), (0, .iconst 1, 1, 0, 0, 0, 0), (2, .putfield 9, 3, 8, 1, 1, 57), (11, .return_, 1, 0, 0, 0, 0)], 0),
  (73, [(1, .iinc 2 1, 3, 0, 0, 0, 0), (8, .goto (-51), 3, 25, 0, 0, 0)], 0),
  (79, [(11, .return_, 1, 0, 0, 0, 0)], 0)]
/-- Simplespan$Reductions.takeUp(LSimplespan$Net;)V -/
def pz_c89 : List (Nat × List pz_Op × Nat) := [
  (0, [(1, .aload_n 1, 1, 0, 0, 0, 0), (2, .getfield 60, 3, 5, 3, 9, 67), (0, .iconst 0, 1, 0, 0, 0, 0), (1, .aload_n 0, 1, 0, 0, 0, 0), (2, .getfield 22, 3, 8, 4, 9, 60), (0, .iconst 0, 1, 0, 0, 0, 0), (0, .bipush 100, 2, 0, 0, 0, 0), (5, .invokestatic 63, 3, 0, 0, 0, 778), (0, .iconst 0, 1, 0, 0, 0, 0), (1, .istore_n 2, 1, 0, 0, 0, 0)], 17),
  (17, [(1, .iload_n 2, 1, 0, 0, 0, 0), (0, .bipush 30, 2, 0, 0, 0, 0), (9, .if_icmp .ge 17, 3, 37, 0, 0, 0), (1, .aload_n 0, 1, 0, 0, 0, 0), (2, .getfield 29, 3, 8, 6, 9, 62), (1, .iload_n 2, 1, 0, 0, 0, 0), (3, .ldc 69, 2, 1000000000, 0, 0, 779), (2, .iastore, 1, 0, 0, 0, 0), (1, .iinc 2 1, 3, 0, 0, 0, 0), (8, .goto (-17), 3, 17, 0, 0, 0)], 0),
  (37, [(0, .iconst 0, 1, 0, 0, 0, 0), (1, .istore_n 2, 1, 0, 0, 0, 0)], 39),
  (39, [(1, .iload_n 2, 1, 0, 0, 0, 0), (1, .aload_n 0, 1, 0, 0, 0, 0), (2, .getfield 42, 3, 8, 0, 9, 65), (2, .getfield 70, 3, 6, 2, 9, 68), (2, .getfield 76, 3, 9, 0, 0, 69), (9, .if_icmp .ge 64, 3, 114, 0, 0, 0), (1, .iload_n 2, 1, 0, 0, 0, 0), (0, .iconst 3, 1, 0, 0, 0, 0), (9, .if_icmp .ge 59, 3, 114, 0, 0, 0), (1, .aload_n 0, 1, 0, 0, 0, 0), (2, .getfield 42, 3, 8, 0, 9, 65), (2, .getfield 70, 3, 6, 2, 9, 68), (1, .iload_n 2, 1, 0, 0, 0, 0), (4, .invokevirtual 81, 3, 111, 2, 9, 108), (1, .istore_n 3, 1, 0, 0, 0, 0), (1, .aload_n 0, 1, 0, 0, 0, 0), (1, .iload_n 2, 1, 0, 0, 0, 0), (4, .invokevirtual 85, 3, 90, 2, 8, 109), (9, .ifCond .eq 33, 3, 108, 0, 0, 0), (1, .iload_n 3, 1, 0, 0, 0, 0), (4, .invokestatic 89, 3, 187, 1, 99, 110), (9, .ifCond .eq 26, 3, 108, 0, 0, 0), (1, .aload_n 0, 1, 0, 0, 0, 0), (2, .getfield 29, 3, 8, 6, 9, 62), (1, .iload_n 2, 1, 0, 0, 0, 0), (0, .bipush 10, 2, 0, 0, 0, 0), (0, .imul, 1, 0, 0, 0, 0), (1, .iload_n 3, 1, 0, 0, 0, 0), (0, .iadd, 1, 0, 0, 0, 0), (1, .aload_n 0, 1, 0, 0, 0, 0), (2, .getfield 42, 3, 8, 0, 9, 65), (2, .getfield 70, 3, 6, 2, 9, 68), (1, .iload_n 2, 1, 0, 0, 0, 0), (4, .invokevirtual 92, 3, 113, 2, 9, 111), (0, .ineg, 1, 0, 0, 0, 0), (2, .iastore, 1, 0, 0, 0, 0)], 108),
  (108, [(1, .iinc 2 1, 3, 0, 0, 0, 0), (8, .goto (-72), 3, 39, 0, 0, 0)], 0),
  (114, [(11, .return_, 1, 0, 0, 0, 0)], 0)]
/-- Simplespan$Reductions.isOpen(I)Z -/
def pz_c90 : List (Nat × List pz_Op × Nat) := [
  (0, [(1, .aload_n 0, 1, 0, 0, 0, 0), (2, .getfield 42, 3, 8, 0, 9, 65), (2, .getfield 70, 3, 6, 2, 9, 68), (1, .iload_n 1, 1, 0, 0, 0, 0), (1, .aload_n 0, 1, 0, 0, 0, 0), (2, .getfield 42, 3, 8, 0, 9, 65), (2, .getfield 95, 3, 6, 3, 9, 70), (4, .invokevirtual 99, 3, 116, 3, 9, 112), (9, .ifCond .ne 7, 3, 25, 0, 0, 0), (0, .iconst 1, 1, 0, 0, 0, 0), (8, .goto 4, 3, 26, 0, 0, 0)], 0),
  (25, [(0, .iconst 0, 1, 0, 0, 0, 0)], 26),
  (26, [(10, .ireturn, 1, 1, 0, 0, 0)], 0)]
/-- Simplespan$Reductions.valueOf(II)I -/
def pz_c91 : List (Nat × List pz_Op × Nat) := [
  (0, [(1, .iload_n 1, 1, 0, 0, 0, 0), (9, .ifCond .lt 23, 3, 24, 0, 0, 0), (1, .iload_n 1, 1, 0, 0, 0, 0), (0, .bipush 10, 2, 0, 0, 0, 0), (9, .if_icmp .ge 17, 3, 24, 0, 0, 0), (1, .iload_n 2, 1, 0, 0, 0, 0), (9, .ifCond .lt 13, 3, 24, 0, 0, 0), (1, .iload_n 2, 1, 0, 0, 0, 0), (0, .bipush 10, 2, 0, 0, 0, 0), (9, .if_icmp .ge 7, 3, 24, 0, 0, 0), (0, .iconst 1, 1, 0, 0, 0, 0), (8, .goto 4, 3, 25, 0, 0, 0)], 0),
  (24, [(0, .iconst 0, 1, 0, 0, 0, 0)], 25),
  (25, [(1, .istore_n 3, 1, 0, 0, 0, 0), (1, .iload_n 3, 1, 0, 0, 0, 0), (9, .ifCond .eq 17, 3, 44, 0, 0, 0), (1, .aload_n 0, 1, 0, 0, 0, 0), (2, .getfield 22, 3, 8, 4, 9, 60), (1, .iload_n 1, 1, 0, 0, 0, 0), (0, .bipush 10, 2, 0, 0, 0, 0), (0, .imul, 1, 0, 0, 0, 0), (1, .iload_n 2, 1, 0, 0, 0, 0), (0, .iadd, 1, 0, 0, 0, 0), (2, .iaload, 1, 0, 0, 0, 0), (8, .goto 5, 3, 46, 0, 0, 0)], 0),
  (44, [(3, .ldc 69, 2, 1000000000, 0, 0, 779)], 46),
  (46, [(10, .ireturn, 1, 0, 0, 0, 0)], 0)]
/-- Simplespan$Reductions.upperOf(II)I -/
def pz_c92 : List (Nat × List pz_Op × Nat) := [
  (0, [(1, .iload_n 1, 1, 0, 0, 0, 0), (9, .ifCond .lt 22, 3, 23, 0, 0, 0), (1, .iload_n 1, 1, 0, 0, 0, 0), (0, .iconst 3, 1, 0, 0, 0, 0), (9, .if_icmp .ge 17, 3, 23, 0, 0, 0), (1, .iload_n 2, 1, 0, 0, 0, 0), (9, .ifCond .lt 13, 3, 23, 0, 0, 0), (1, .iload_n 2, 1, 0, 0, 0, 0), (0, .bipush 10, 2, 0, 0, 0, 0), (9, .if_icmp .ge 7, 3, 23, 0, 0, 0), (0, .iconst 1, 1, 0, 0, 0, 0), (8, .goto 4, 3, 24, 0, 0, 0)], 0),
  (23, [(0, .iconst 0, 1, 0, 0, 0, 0)], 24),
  (24, [(1, .istore_n 3, 1, 0, 0, 0, 0), (1, .iload_n 3, 1, 0, 0, 0, 0), (9, .ifCond .eq 17, 3, 43, 0, 0, 0), (1, .aload_n 0, 1, 0, 0, 0, 0), (2, .getfield 29, 3, 8, 6, 9, 62), (1, .iload_n 1, 1, 0, 0, 0, 0), (0, .bipush 10, 2, 0, 0, 0, 0), (0, .imul, 1, 0, 0, 0, 0), (1, .iload_n 2, 1, 0, 0, 0, 0), (0, .iadd, 1, 0, 0, 0, 0), (2, .iaload, 1, 0, 0, 0, 0), (8, .goto 5, 3, 45, 0, 0, 0)], 0),
  (43, [(3, .ldc 69, 2, 1000000000, 0, 0, 779)], 45),
  (45, [(10, .ireturn, 1, 0, 0, 0, 0)], 0)]
/-- Simplespan$Reductions.goRound()V -/
def pz_c93 : List (Nat × List pz_Op × Nat) := [
  (0, [(1, .aload_n 0, 1, 0, 0, 0, 0), (2, .getfield 22, 3, 8, 4, 9, 60), (0, .iconst 0, 1, 0, 0, 0, 0), (1, .aload_n 0, 1, 0, 0, 0, 0), (2, .getfield 26, 3, 8, 5, 9, 61), (0, .iconst 0, 1, 0, 0, 0, 0), (0, .bipush 100, 2, 0, 0, 0, 0), (5, .invokestatic 63, 3, 0, 0, 0, 778), (1, .aload_n 0, 1, 0, 0, 0, 0), (2, .getfield 29, 3, 8, 6, 9, 62), (0, .iconst 0, 1, 0, 0, 0, 0), (1, .aload_n 0, 1, 0, 0, 0, 0), (2, .getfield 32, 3, 8, 7, 9, 63), (0, .iconst 0, 1, 0, 0, 0, 0), (0, .bipush 30, 2, 0, 0, 0, 0), (5, .invokestatic 63, 3, 0, 0, 0, 778), (1, .aload_n 0, 1, 0, 0, 0, 0), (0, .iconst 0, 1, 0, 0, 0, 0), (2, .putfield 19, 3, 8, 3, 1, 59), (1, .aload_n 0, 1, 0, 0, 0, 0), (4, .invokevirtual 103, 3, 96, 1, 8, 113), (0, .iconst 0, 1, 0, 0, 0, 0), (1, .istore_n 1, 1, 0, 0, 0, 0)], 41),
  (41, [(1, .iload_n 1, 1, 0, 0, 0, 0), (1, .aload_n 0, 1, 0, 0, 0, 0), (2, .getfield 42, 3, 8, 0, 9, 65), (2, .getfield 70, 3, 6, 2, 9, 68), (2, .getfield 76, 3, 9, 0, 0, 69), (9, .if_icmp .ge 37, 3, 89, 0, 0, 0), (1, .aload_n 0, 1, 0, 0, 0, 0), (1, .iload_n 1, 1, 0, 0, 0, 0), (4, .invokevirtual 85, 3, 90, 2, 8, 109), (9, .ifCond .eq 23, 3, 83, 0, 0, 0), (1, .aload_n 0, 1, 0, 0, 0, 0), (1, .iload_n 1, 1, 0, 0, 0, 0), (4, .invokevirtual 106, 3, 97, 2, 8, 114), (1, .aload_n 0, 1, 0, 0, 0, 0), (1, .iload_n 1, 1, 0, 0, 0, 0), (4, .invokevirtual 110, 3, 98, 2, 8, 115), (1, .aload_n 0, 1, 0, 0, 0, 0), (1, .iload_n 1, 1, 0, 0, 0, 0), (4, .invokevirtual 113, 3, 99, 2, 8, 116), (1, .aload_n 0, 1, 0, 0, 0, 0), (1, .iload_n 1, 1, 0, 0, 0, 0), (4, .invokevirtual 116, 3, 100, 2, 8, 117)], 83),
  (83, [(1, .iinc 1 1, 3, 0, 0, 0, 0), (8, .goto (-45), 3, 41, 0, 0, 0)], 0),
  (89, [(1, .aload_n 0, 1, 0, 0, 0, 0), (2, .getfield 26, 3, 8, 5, 9, 61), (0, .iconst 0, 1, 0, 0, 0, 0), (1, .aload_n 0, 1, 0, 0, 0, 0), (2, .getfield 22, 3, 8, 4, 9, 60), (0, .iconst 0, 1, 0, 0, 0, 0), (0, .bipush 100, 2, 0, 0, 0, 0), (5, .invokestatic 63, 3, 0, 0, 0, 778), (1, .aload_n 0, 1, 0, 0, 0, 0), (2, .getfield 32, 3, 8, 7, 9, 63), (0, .iconst 0, 1, 0, 0, 0, 0), (1, .aload_n 0, 1, 0, 0, 0, 0), (2, .getfield 29, 3, 8, 6, 9, 62), (0, .iconst 0, 1, 0, 0, 0, 0), (0, .bipush 30, 2, 0, 0, 0, 0), (5, .invokestatic 63, 3, 0, 0, 0, 778), (11, .return_, 1, 0, 0, 0, 0)], 0)]
/-- Simplespan$Reductions.findValue(III)V -/
def pz_c94 : List (Nat × List pz_Op × Nat) := [
  (0, [(1, .iload_n 1, 1, 0, 0, 0, 0), (9, .ifCond .lt 23, 3, 24, 0, 0, 0), (1, .iload_n 1, 1, 0, 0, 0, 0), (0, .bipush 10, 2, 0, 0, 0, 0), (9, .if_icmp .ge 17, 3, 24, 0, 0, 0), (1, .iload_n 2, 1, 0, 0, 0, 0), (9, .ifCond .lt 13, 3, 24, 0, 0, 0), (1, .iload_n 2, 1, 0, 0, 0, 0), (0, .bipush 10, 2, 0, 0, 0, 0), (9, .if_icmp .ge 7, 3, 24, 0, 0, 0), (0, .iconst 1, 1, 0, 0, 0, 0), (8, .goto 4, 3, 25, 0, 0, 0)], 0),
  (24, [(0, .iconst 0, 1, 0, 0, 0, 0)], 25),
  (25, [(1, .istore 4, 2, 0, 0, 0, 0), (1, .iload 4, 2, 0, 0, 0, 0), (9, .ifCond .eq 35, 3, 64, 0, 0, 0), (1, .iload_n 3, 1, 0, 0, 0, 0), (1, .aload_n 0, 1, 0, 0, 0, 0), (2, .getfield 26, 3, 8, 5, 9, 61), (1, .iload_n 1, 1, 0, 0, 0, 0), (0, .bipush 10, 2, 0, 0, 0, 0), (0, .imul, 1, 0, 0, 0, 0), (1, .iload_n 2, 1, 0, 0, 0, 0), (0, .iadd, 1, 0, 0, 0, 0), (2, .iaload, 1, 0, 0, 0, 0), (9, .if_icmp .ge 20, 3, 64, 0, 0, 0), (1, .aload_n 0, 1, 0, 0, 0, 0), (2, .getfield 26, 3, 8, 5, 9, 61), (1, .iload_n 1, 1, 0, 0, 0, 0), (0, .bipush 10, 2, 0, 0, 0, 0), (0, .imul, 1, 0, 0, 0, 0), (1, .iload_n 2, 1, 0, 0, 0, 0), (0, .iadd, 1, 0, 0, 0, 0), (1, .iload_n 3, 1, 0, 0, 0, 0), (2, .iastore, 1, 0, 0, 0, 0), (1, .aload_n 0, 1, 0, 0, 0, 0), (0, .iconst 1, 1, 0, 0, 0, 0), (2, .putfield 19, 3, 8, 3, 1, 59)], 64),
  (64, [(11, .return_, 1, 0, 0, 0, 0)], 0)]
/-- Simplespan$Reductions.findUpper(III)V -/
def pz_c95 : List (Nat × List pz_Op × Nat) := [
  (0, [(1, .iload_n 1, 1, 0, 0, 0, 0), (9, .ifCond .lt 22, 3, 23, 0, 0, 0), (1, .iload_n 1, 1, 0, 0, 0, 0), (0, .iconst 3, 1, 0, 0, 0, 0), (9, .if_icmp .ge 17, 3, 23, 0, 0, 0), (1, .iload_n 2, 1, 0, 0, 0, 0), (9, .ifCond .lt 13, 3, 23, 0, 0, 0), (1, .iload_n 2, 1, 0, 0, 0, 0), (0, .bipush 10, 2, 0, 0, 0, 0), (9, .if_icmp .ge 7, 3, 23, 0, 0, 0), (0, .iconst 1, 1, 0, 0, 0, 0), (8, .goto 4, 3, 24, 0, 0, 0)], 0),
  (23, [(0, .iconst 0, 1, 0, 0, 0, 0)], 24),
  (24, [(1, .istore 4, 2, 0, 0, 0, 0), (1, .iload 4, 2, 0, 0, 0, 0), (9, .ifCond .eq 35, 3, 63, 0, 0, 0), (1, .iload_n 3, 1, 0, 0, 0, 0), (1, .aload_n 0, 1, 0, 0, 0, 0), (2, .getfield 32, 3, 8, 7, 9, 63), (1, .iload_n 1, 1, 0, 0, 0, 0), (0, .bipush 10, 2, 0, 0, 0, 0), (0, .imul, 1, 0, 0, 0, 0), (1, .iload_n 2, 1, 0, 0, 0, 0), (0, .iadd, 1, 0, 0, 0, 0), (2, .iaload, 1, 0, 0, 0, 0), (9, .if_icmp .ge 20, 3, 63, 0, 0, 0), (1, .aload_n 0, 1, 0, 0, 0, 0), (2, .getfield 32, 3, 8, 7, 9, 63), (1, .iload_n 1, 1, 0, 0, 0, 0), (0, .bipush 10, 2, 0, 0, 0, 0), (0, .imul, 1, 0, 0, 0, 0), (1, .iload_n 2, 1, 0, 0, 0, 0), (0, .iadd, 1, 0, 0, 0, 0), (1, .iload_n 3, 1, 0, 0, 0, 0), (2, .iastore, 1, 0, 0, 0, 0), (1, .aload_n 0, 1, 0, 0, 0, 0), (0, .iconst 1, 1, 0, 0, 0, 0), (2, .putfield 19, 3, 8, 3, 1, 59)], 63),
  (63, [(11, .return_, 1, 0, 0, 0, 0)], 0)]
/-- Simplespan$Reductions.addValues()V -/
def pz_c96 : List (Nat × List pz_Op × Nat) := [
  (0, [(1, .aload_n 0, 1, 0, 0, 0, 0), (2, .getfield 42, 3, 8, 0, 9, 65), (2, .getfield 119, 3, 6, 0, 0, 71), (0, .bipush 10, 2, 0, 0, 0, 0), (4, .invokestatic 122, 3, 2, 2, 99, 118), (1, .istore_n 1, 1, 0, 0, 0, 0), (0, .iconst 0, 1, 0, 0, 0, 0), (1, .istore_n 2, 1, 0, 0, 0, 0)], 15),
  (15, [(1, .iload_n 2, 1, 0, 0, 0, 0), (1, .iload_n 1, 1, 0, 0, 0, 0), (9, .if_icmp .ge 90, 3, 107, 0, 0, 0), (0, .iconst 0, 1, 0, 0, 0, 0), (1, .istore_n 3, 1, 0, 0, 0, 0)], 22),
  (22, [(1, .iload_n 3, 1, 0, 0, 0, 0), (1, .iload_n 1, 1, 0, 0, 0, 0), (9, .if_icmp .ge 77, 3, 101, 0, 0, 0), (1, .aload_n 0, 1, 0, 0, 0, 0), (2, .getfield 22, 3, 8, 4, 9, 60), (1, .iload_n 2, 1, 0, 0, 0, 0), (0, .bipush 10, 2, 0, 0, 0, 0), (0, .imul, 1, 0, 0, 0, 0), (1, .iload_n 3, 1, 0, 0, 0, 0), (0, .iadd, 1, 0, 0, 0, 0), (2, .iaload, 1, 0, 0, 0, 0), (1, .istore 4, 2, 0, 0, 0, 0), (0, .iconst 0, 1, 0, 0, 0, 0), (1, .istore 5, 2, 0, 0, 0, 0)], 43),
  (43, [(1, .iload 4, 2, 0, 0, 0, 0), (3, .ldc 69, 2, 1000000000, 0, 0, 779), (9, .if_icmp .eq 48, 3, 95, 0, 0, 0), (1, .iload 5, 2, 0, 0, 0, 0), (1, .iload_n 1, 1, 0, 0, 0, 0), (9, .if_icmp .ge 42, 3, 95, 0, 0, 0), (1, .aload_n 0, 1, 0, 0, 0, 0), (2, .getfield 22, 3, 8, 4, 9, 60), (1, .iload_n 3, 1, 0, 0, 0, 0), (0, .bipush 10, 2, 0, 0, 0, 0), (0, .imul, 1, 0, 0, 0, 0), (1, .iload 5, 2, 0, 0, 0, 0), (0, .iadd, 1, 0, 0, 0, 0), (2, .iaload, 1, 0, 0, 0, 0), (1, .istore 6, 2, 0, 0, 0, 0), (1, .iload 6, 2, 0, 0, 0, 0), (3, .ldc 69, 2, 1000000000, 0, 0, 779), (9, .if_icmp .eq 15, 3, 89, 0, 0, 0), (1, .aload_n 0, 1, 0, 0, 0, 0), (1, .iload_n 2, 1, 0, 0, 0, 0), (1, .iload 5, 2, 0, 0, 0, 0), (1, .iload 4, 2, 0, 0, 0, 0), (1, .iload 6, 2, 0, 0, 0, 0), (0, .iadd, 1, 0, 0, 0, 0), (4, .invokevirtual 128, 3, 94, 4, 8, 119)], 89),
  (89, [(1, .iinc 5 1, 3, 0, 0, 0, 0), (8, .goto (-49), 3, 43, 0, 0, 0)], 0),
  (95, [(1, .iinc 3 1, 3, 0, 0, 0, 0), (8, .goto (-76), 3, 22, 0, 0, 0)], 0),
  (101, [(1, .iinc 2 1, 3, 0, 0, 0, 0), (8, .goto (-89), 3, 15, 0, 0, 0)], 0),
  (107, [(11, .return_, 1, 0, 0, 0, 0)], 0)]
/-- Simplespan$Reductions.addToUppers(I)V -/
def pz_c97 : List (Nat × List pz_Op × Nat) := [
  (0, [(0, .iconst 0, 1, 0, 0, 0, 0), (1, .istore_n 2, 1, 0, 0, 0, 0)], 2),
  (2, [(1, .iload_n 2, 1, 0, 0, 0, 0), (1, .aload_n 0, 1, 0, 0, 0, 0), (2, .getfield 42, 3, 8, 0, 9, 65), (2, .getfield 119, 3, 6, 0, 0, 71), (9, .if_icmp .ge 70, 3, 80, 0, 0, 0), (1, .aload_n 0, 1, 0, 0, 0, 0), (1, .iload_n 1, 1, 0, 0, 0, 0), (1, .iload_n 2, 1, 0, 0, 0, 0), (4, .invokevirtual 132, 3, 92, 3, 8, 120), (1, .istore_n 3, 1, 0, 0, 0, 0), (0, .iconst 0, 1, 0, 0, 0, 0), (1, .istore 4, 2, 0, 0, 0, 0)], 23),
  (23, [(1, .iload_n 3, 1, 0, 0, 0, 0), (3, .ldc 69, 2, 1000000000, 0, 0, 779), (9, .if_icmp .eq 48, 3, 74, 0, 0, 0), (1, .iload 4, 2, 0, 0, 0, 0), (1, .aload_n 0, 1, 0, 0, 0, 0), (2, .getfield 42, 3, 8, 0, 9, 65), (2, .getfield 119, 3, 6, 0, 0, 71), (9, .if_icmp .ge 36, 3, 74, 0, 0, 0), (1, .aload_n 0, 1, 0, 0, 0, 0), (1, .iload 4, 2, 0, 0, 0, 0), (1, .iload_n 2, 1, 0, 0, 0, 0), (4, .invokevirtual 135, 3, 91, 3, 8, 121), (1, .istore 5, 2, 0, 0, 0, 0), (1, .iload 5, 2, 0, 0, 0, 0), (3, .ldc 69, 2, 1000000000, 0, 0, 779), (9, .if_icmp .eq 14, 3, 68, 0, 0, 0), (1, .aload_n 0, 1, 0, 0, 0, 0), (1, .iload_n 1, 1, 0, 0, 0, 0), (1, .iload 4, 2, 0, 0, 0, 0), (1, .iload 5, 2, 0, 0, 0, 0), (1, .iload_n 3, 1, 0, 0, 0, 0), (0, .iadd, 1, 0, 0, 0, 0), (4, .invokevirtual 138, 3, 95, 4, 8, 122)], 68),
  (68, [(1, .iinc 4 1, 3, 0, 0, 0, 0), (8, .goto (-48), 3, 23, 0, 0, 0)], 0),
  (74, [(1, .iinc 2 1, 3, 0, 0, 0, 0), (8, .goto (-75), 3, 2, 0, 0, 0)], 0),
  (80, [(11, .return_, 1, 0, 0, 0, 0)], 0)]
/-- Simplespan$Reductions.reduceLower(I)V -/
def pz_c98 : List (Nat × List pz_Op × Nat) := [
  (0, [(1, .aload_n 0, 1, 0, 0, 0, 0), (2, .getfield 42, 3, 8, 0, 9, 65), (2, .getfield 70, 3, 6, 2, 9, 68), (1, .iload_n 1, 1, 0, 0, 0, 0), (4, .invokevirtual 81, 3, 111, 2, 9, 108), (1, .istore_n 2, 1, 0, 0, 0, 0), (0, .iconst 0, 1, 0, 0, 0, 0), (1, .istore_n 3, 1, 0, 0, 0, 0)], 14),
  (14, [(1, .iload_n 3, 1, 0, 0, 0, 0), (1, .aload_n 0, 1, 0, 0, 0, 0), (2, .getfield 42, 3, 8, 0, 9, 65), (2, .getfield 119, 3, 6, 0, 0, 71), (9, .if_icmp .ge 57, 3, 79, 0, 0, 0), (1, .aload_n 0, 1, 0, 0, 0, 0), (1, .iload_n 2, 1, 0, 0, 0, 0), (1, .iload_n 3, 1, 0, 0, 0, 0), (4, .invokevirtual 135, 3, 91, 3, 8, 121), (1, .istore 4, 2, 0, 0, 0, 0), (1, .iload_n 3, 1, 0, 0, 0, 0), (1, .iload_n 2, 1, 0, 0, 0, 0), (9, .if_icmp .eq 38, 3, 73, 0, 0, 0), (1, .iload 4, 2, 0, 0, 0, 0), (9, .ifCond .gt 33, 3, 73, 0, 0, 0), (1, .aload_n 0, 1, 0, 0, 0, 0), (1, .aload_n 0, 1, 0, 0, 0, 0), (2, .getfield 42, 3, 8, 0, 9, 65), (2, .getfield 70, 3, 6, 2, 9, 68), (1, .iload_n 1, 1, 0, 0, 0, 0), (4, .invokevirtual 141, 3, 110, 2, 9, 123), (1, .iload_n 3, 1, 0, 0, 0, 0), (1, .aload_n 0, 1, 0, 0, 0, 0), (2, .getfield 42, 3, 8, 0, 9, 65), (2, .getfield 70, 3, 6, 2, 9, 68), (1, .iload_n 1, 1, 0, 0, 0, 0), (4, .invokevirtual 144, 3, 112, 2, 9, 124), (1, .iload 4, 2, 0, 0, 0, 0), (0, .iadd, 1, 0, 0, 0, 0), (4, .invokevirtual 128, 3, 94, 4, 8, 119)], 73),
  (73, [(1, .iinc 3 1, 3, 0, 0, 0, 0), (8, .goto (-62), 3, 14, 0, 0, 0)], 0),
  (79, [(11, .return_, 1, 0, 0, 0, 0)], 0)]
/-- Simplespan$Reductions.reduceAcross(I)V -/
def pz_c99 : List (Nat × List pz_Op × Nat) := [
  (0, [(0, .iconst 0, 1, 0, 0, 0, 0), (1, .istore_n 2, 1, 0, 0, 0, 0)], 2),
  (2, [(1, .iload_n 2, 1, 0, 0, 0, 0), (1, .aload_n 0, 1, 0, 0, 0, 0), (2, .getfield 42, 3, 8, 0, 9, 65), (2, .getfield 70, 3, 6, 2, 9, 68), (2, .getfield 76, 3, 9, 0, 0, 69), (9, .if_icmp .ge 64, 3, 77, 0, 0, 0), (1, .aload_n 0, 1, 0, 0, 0, 0), (1, .iload_n 2, 1, 0, 0, 0, 0), (1, .aload_n 0, 1, 0, 0, 0, 0), (2, .getfield 42, 3, 8, 0, 9, 65), (2, .getfield 70, 3, 6, 2, 9, 68), (1, .iload_n 1, 1, 0, 0, 0, 0), (4, .invokevirtual 81, 3, 111, 2, 9, 108), (4, .invokevirtual 132, 3, 92, 3, 8, 120), (1, .istore_n 3, 1, 0, 0, 0, 0), (1, .iload_n 2, 1, 0, 0, 0, 0), (1, .iload_n 1, 1, 0, 0, 0, 0), (9, .if_icmp .eq 36, 3, 71, 0, 0, 0), (1, .iload_n 3, 1, 0, 0, 0, 0), (9, .ifCond .gt 32, 3, 71, 0, 0, 0), (1, .aload_n 0, 1, 0, 0, 0, 0), (1, .iload_n 2, 1, 0, 0, 0, 0), (1, .aload_n 0, 1, 0, 0, 0, 0), (2, .getfield 42, 3, 8, 0, 9, 65), (2, .getfield 70, 3, 6, 2, 9, 68), (1, .iload_n 1, 1, 0, 0, 0, 0), (4, .invokevirtual 141, 3, 110, 2, 9, 123), (1, .aload_n 0, 1, 0, 0, 0, 0), (2, .getfield 42, 3, 8, 0, 9, 65), (2, .getfield 70, 3, 6, 2, 9, 68), (1, .iload_n 1, 1, 0, 0, 0, 0), (4, .invokevirtual 144, 3, 112, 2, 9, 124), (1, .iload_n 3, 1, 0, 0, 0, 0), (0, .iadd, 1, 0, 0, 0, 0), (4, .invokevirtual 138, 3, 95, 4, 8, 122)], 71),
  (71, [(1, .iinc 2 1, 3, 0, 0, 0, 0), (8, .goto (-72), 3, 2, 0, 0, 0)], 0),
  (77, [(11, .return_, 1, 0, 0, 0, 0)], 0)]
/-- Simplespan$Reductions.freeUppers(I)V -/
def pz_c100 : List (Nat × List pz_Op × Nat) := [
  (0, [(0, .iconst 0, 1, 0, 0, 0, 0), (1, .istore_n 2, 1, 0, 0, 0, 0)], 2),
  (2, [(1, .iload_n 2, 1, 0, 0, 0, 0), (1, .aload_n 0, 1, 0, 0, 0, 0), (2, .getfield 42, 3, 8, 0, 9, 65), (2, .getfield 119, 3, 6, 0, 0, 71), (9, .if_icmp .ge 55, 3, 65, 0, 0, 0), (1, .aload_n 0, 1, 0, 0, 0, 0), (1, .iload_n 1, 1, 0, 0, 0, 0), (1, .iload_n 2, 1, 0, 0, 0, 0), (4, .invokevirtual 132, 3, 92, 3, 8, 120), (1, .istore_n 3, 1, 0, 0, 0, 0), (1, .iload_n 3, 1, 0, 0, 0, 0), (3, .ldc 69, 2, 1000000000, 0, 0, 779), (9, .if_icmp .eq 36, 3, 59, 0, 0, 0), (1, .iload_n 3, 1, 0, 0, 0, 0), (1, .aload_n 0, 1, 0, 0, 0, 0), (2, .getfield 42, 3, 8, 0, 9, 65), (2, .getfield 70, 3, 6, 2, 9, 68), (1, .iload_n 1, 1, 0, 0, 0, 0), (4, .invokevirtual 144, 3, 112, 2, 9, 124), (0, .ineg, 1, 0, 0, 0, 0), (9, .if_icmp .lt 20, 3, 59, 0, 0, 0), (1, .aload_n 0, 1, 0, 0, 0, 0), (1, .iload_n 2, 1, 0, 0, 0, 0), (1, .aload_n 0, 1, 0, 0, 0, 0), (2, .getfield 42, 3, 8, 0, 9, 65), (2, .getfield 70, 3, 6, 2, 9, 68), (1, .iload_n 1, 1, 0, 0, 0, 0), (4, .invokevirtual 141, 3, 110, 2, 9, 123), (1, .iload_n 3, 1, 0, 0, 0, 0), (4, .invokevirtual 128, 3, 94, 4, 8, 119)], 59),
  (59, [(1, .iinc 2 1, 3, 0, 0, 0, 0), (8, .goto (-60), 3, 2, 0, 0, 0)], 0),
  (65, [(11, .return_, 1, 0, 0, 0, 0)], 0)]
/-- Simplespan$Reductions.hasWayBelowZero()Z -/
def pz_c101 : List (Nat × List pz_Op × Nat) := [
  (0, [(1, .aload_n 0, 1, 0, 0, 0, 0), (2, .getfield 38, 3, 8, 8, 9, 64), (1, .aload_n 0, 1, 0, 0, 0, 0), (2, .getfield 42, 3, 8, 0, 9, 65), (2, .getfield 119, 3, 6, 0, 0, 71), (4, .invokevirtual 147, 3, 53, 2, 5, 125), (0, .iconst 0, 1, 0, 0, 0, 0), (1, .istore_n 1, 1, 0, 0, 0, 0)], 16),
  (16, [(1, .iload_n 1, 1, 0, 0, 0, 0), (1, .aload_n 0, 1, 0, 0, 0, 0), (2, .getfield 42, 3, 8, 0, 9, 65), (2, .getfield 119, 3, 6, 0, 0, 71), (9, .if_icmp .ge 90, 3, 114, 0, 0, 0), (0, .iconst 0, 1, 0, 0, 0, 0), (1, .istore_n 2, 1, 0, 0, 0, 0)], 29),
  (29, [(1, .iload_n 2, 1, 0, 0, 0, 0), (1, .aload_n 0, 1, 0, 0, 0, 0), (2, .getfield 42, 3, 8, 0, 9, 65), (2, .getfield 119, 3, 6, 0, 0, 71), (9, .if_icmp .ge 24, 3, 61, 0, 0, 0), (1, .aload_n 0, 1, 0, 0, 0, 0), (2, .getfield 38, 3, 8, 8, 9, 64), (1, .iload_n 1, 1, 0, 0, 0, 0), (1, .iload_n 2, 1, 0, 0, 0, 0), (1, .aload_n 0, 1, 0, 0, 0, 0), (1, .iload_n 1, 1, 0, 0, 0, 0), (1, .iload_n 2, 1, 0, 0, 0, 0), (4, .invokevirtual 135, 3, 91, 3, 8, 121), (4, .invokevirtual 150, 3, 54, 4, 5, 126), (1, .iinc 2 1, 3, 0, 0, 0, 0), (8, .goto (-29), 3, 29, 0, 0, 0)], 0),
  (61, [(0, .iconst 0, 1, 0, 0, 0, 0), (1, .istore_n 2, 1, 0, 0, 0, 0)], 63),
  (63, [(1, .iload_n 2, 1, 0, 0, 0, 0), (1, .aload_n 0, 1, 0, 0, 0, 0), (2, .getfield 42, 3, 8, 0, 9, 65), (2, .getfield 70, 3, 6, 2, 9, 68), (2, .getfield 76, 3, 9, 0, 0, 69), (9, .if_icmp .ge 34, 3, 108, 0, 0, 0), (1, .aload_n 0, 1, 0, 0, 0, 0), (2, .getfield 38, 3, 8, 8, 9, 64), (1, .iload_n 1, 1, 0, 0, 0, 0), (1, .aload_n 0, 1, 0, 0, 0, 0), (2, .getfield 42, 3, 8, 0, 9, 65), (2, .getfield 70, 3, 6, 2, 9, 68), (1, .iload_n 2, 1, 0, 0, 0, 0), (4, .invokevirtual 141, 3, 110, 2, 9, 123), (1, .aload_n 0, 1, 0, 0, 0, 0), (1, .iload_n 2, 1, 0, 0, 0, 0), (1, .iload_n 1, 1, 0, 0, 0, 0), (4, .invokevirtual 132, 3, 92, 3, 8, 120), (4, .invokevirtual 150, 3, 54, 4, 5, 126), (1, .iinc 2 1, 3, 0, 0, 0, 0), (8, .goto (-42), 3, 63, 0, 0, 0)], 0),
  (108, [(1, .iinc 1 1, 3, 0, 0, 0, 0), (8, .goto (-95), 3, 16, 0, 0, 0)], 0),
  (114, [(1, .aload_n 0, 1, 0, 0, 0, 0), (2, .getfield 38, 3, 8, 8, 9, 64), (4, .invokevirtual 153, 3, 56, 1, 5, 127), (1, .aload_n 0, 1, 0, 0, 0, 0), (2, .getfield 38, 3, 8, 8, 9, 64), (2, .getfield 46, 3, 5, 1, 1, 66), (9, .ifCond .ne 7, 3, 135, 0, 0, 0), (0, .iconst 1, 1, 0, 0, 0, 0), (8, .goto 4, 3, 136, 0, 0, 0)], 0),
  (135, [(0, .iconst 0, 1, 0, 0, 0, 0)], 136),
  (136, [(10, .ireturn, 1, 1, 0, 0, 0)], 0)]
/-- Simplespan$Reductions.waitOf(II)I -/
def pz_c102 : List (Nat × List pz_Op × Nat) := [
  (0, [(0, .iconst 0, 1, 0, 0, 0, 0), (1, .aload_n 0, 1, 0, 0, 0, 0), (1, .iload_n 2, 1, 0, 0, 0, 0), (1, .iload_n 1, 1, 0, 0, 0, 0), (4, .invokevirtual 132, 3, 92, 3, 8, 120), (0, .ineg, 1, 0, 0, 0, 0), (4, .invokestatic 156, 3, 1, 2, 99, 128), (10, .ireturn, 1, 0, 0, 0, 0)], 0)]
/-- Simplespan$Reductions.windowLow(ILSimplespan$Clock;)I -/
def pz_c103 : List (Nat × List pz_Op × Nat) := [
  (0, [(0, .iconst 0, 1, 0, 0, 0, 0), (1, .istore_n 3, 1, 0, 0, 0, 0), (0, .iconst 0, 1, 0, 0, 0, 0), (1, .istore 4, 2, 0, 0, 0, 0)], 5),
  (5, [(1, .iload 4, 2, 0, 0, 0, 0), (1, .aload_n 0, 1, 0, 0, 0, 0), (2, .getfield 42, 3, 8, 0, 9, 65), (2, .getfield 119, 3, 6, 0, 0, 71), (9, .if_icmp .ge 48, 3, 62, 0, 0, 0), (1, .aload_n 0, 1, 0, 0, 0, 0), (1, .iload_n 1, 1, 0, 0, 0, 0), (1, .iload 4, 2, 0, 0, 0, 0), (4, .invokevirtual 135, 3, 91, 3, 8, 121), (1, .istore 5, 2, 0, 0, 0, 0), (1, .aload_n 2, 1, 0, 0, 0, 0), (1, .iload 4, 2, 0, 0, 0, 0), (4, .invokevirtual 159, 3, 26, 2, 2, 129), (9, .ifCond .eq 24, 3, 56, 0, 0, 0), (1, .iload 5, 2, 0, 0, 0, 0), (3, .ldc 69, 2, 1000000000, 0, 0, 779), (9, .if_icmp .eq 17, 3, 56, 0, 0, 0), (1, .iload_n 3, 1, 0, 0, 0, 0), (1, .aload_n 2, 1, 0, 0, 0, 0), (1, .iload 4, 2, 0, 0, 0, 0), (4, .invokevirtual 164, 3, 25, 2, 2, 130), (1, .iload 5, 2, 0, 0, 0, 0), (0, .isub, 1, 0, 0, 0, 0), (4, .invokestatic 156, 3, 1, 2, 99, 128), (1, .istore_n 3, 1, 0, 0, 0, 0)], 56),
  (56, [(1, .iinc 4 1, 3, 0, 0, 0, 0), (8, .goto (-54), 3, 5, 0, 0, 0)], 0),
  (62, [(1, .iload_n 3, 1, 0, 0, 0, 0), (10, .ireturn, 1, 0, 0, 0, 0)], 0)]
/-- Simplespan$Reductions.windowHigh(ILSimplespan$Clock;)I -/
def pz_c104 : List (Nat × List pz_Op × Nat) := [
  (0, [(0, .sipush 9999, 3, 0, 0, 0, 0), (1, .istore_n 3, 1, 0, 0, 0, 0), (0, .iconst 0, 1, 0, 0, 0, 0), (1, .istore 4, 2, 0, 0, 0, 0)], 7),
  (7, [(1, .iload 4, 2, 0, 0, 0, 0), (1, .aload_n 0, 1, 0, 0, 0, 0), (2, .getfield 42, 3, 8, 0, 9, 65), (2, .getfield 119, 3, 6, 0, 0, 71), (9, .if_icmp .ge 48, 3, 64, 0, 0, 0), (1, .aload_n 0, 1, 0, 0, 0, 0), (1, .iload 4, 2, 0, 0, 0, 0), (1, .iload_n 1, 1, 0, 0, 0, 0), (4, .invokevirtual 135, 3, 91, 3, 8, 121), (1, .istore 5, 2, 0, 0, 0, 0), (1, .aload_n 2, 1, 0, 0, 0, 0), (1, .iload 4, 2, 0, 0, 0, 0), (4, .invokevirtual 159, 3, 26, 2, 2, 129), (9, .ifCond .eq 24, 3, 58, 0, 0, 0), (1, .iload 5, 2, 0, 0, 0, 0), (3, .ldc 69, 2, 1000000000, 0, 0, 779), (9, .if_icmp .eq 17, 3, 58, 0, 0, 0), (1, .iload_n 3, 1, 0, 0, 0, 0), (1, .aload_n 2, 1, 0, 0, 0, 0), (1, .iload 4, 2, 0, 0, 0, 0), (4, .invokevirtual 164, 3, 25, 2, 2, 130), (1, .iload 5, 2, 0, 0, 0, 0), (0, .iadd, 1, 0, 0, 0, 0), (4, .invokestatic 122, 3, 2, 2, 99, 118), (1, .istore_n 3, 1, 0, 0, 0, 0)], 58),
  (58, [(1, .iinc 4 1, 3, 0, 0, 0, 0), (8, .goto (-54), 3, 7, 0, 0, 0)], 0),
  (64, [(1, .iload_n 3, 1, 0, 0, 0, 0), (10, .ireturn, 1, 0, 0, 0, 0)], 0)]
/-- Simplespan$Reductions.reasonAgainst(ILSimplespan$Clock;)C -/
def pz_c105 : List (Nat × List pz_Op × Nat) := [
  (0, [(1, .aload_n 2, 1, 0, 0, 0, 0), (1, .iload_n 1, 1, 0, 0, 0, 0), (4, .invokevirtual 159, 3, 26, 2, 2, 129), (9, .ifCond .eq 6, 3, 11, 0, 0, 0), (0, .bipush 115, 2, 0, 0, 0, 0), (10, .ireturn, 1, 2, 0, 0, 0)], 0),
  (11, [(1, .aload_n 0, 1, 0, 0, 0, 0), (2, .getfield 42, 3, 8, 0, 9, 65), (2, .getfield 70, 3, 6, 2, 9, 68), (1, .iload_n 1, 1, 0, 0, 0, 0), (4, .invokevirtual 167, 3, 115, 2, 9, 131), (0, .iconst (-1), 1, 0, 0, 0, 0), (9, .if_icmp .eq 6, 3, 29, 0, 0, 0), (0, .bipush 110, 2, 0, 0, 0, 0), (10, .ireturn, 1, 2, 0, 0, 0)], 0),
  (29, [(1, .aload_n 0, 1, 0, 0, 0, 0), (1, .iload_n 1, 1, 0, 0, 0, 0), (1, .aload_n 2, 1, 0, 0, 0, 0), (4, .invokevirtual 170, 3, 106, 3, 8, 132), (9, .ifCond .eq 6, 3, 41, 0, 0, 0), (0, .bipush 98, 2, 0, 0, 0, 0), (10, .ireturn, 1, 2, 0, 0, 0)], 0),
  (41, [(1, .aload_n 0, 1, 0, 0, 0, 0), (1, .iload_n 1, 1, 0, 0, 0, 0), (1, .aload_n 2, 1, 0, 0, 0, 0), (4, .invokevirtual 173, 3, 107, 3, 8, 133), (9, .ifCond .eq 6, 3, 53, 0, 0, 0), (0, .bipush 119, 2, 0, 0, 0, 0), (10, .ireturn, 1, 2, 0, 0, 0)], 0),
  (53, [(1, .aload_n 2, 1, 0, 0, 0, 0), (2, .getfield 176, 3, 2, 0, 0, 72), (1, .aload_n 0, 1, 0, 0, 0, 0), (1, .iload_n 1, 1, 0, 0, 0, 0), (1, .aload_n 2, 1, 0, 0, 0, 0), (4, .invokevirtual 179, 3, 103, 3, 8, 134), (9, .if_icmp .ge 6, 3, 69, 0, 0, 0), (0, .bipush 101, 2, 0, 0, 0, 0), (10, .ireturn, 1, 2, 0, 0, 0)], 0),
  (69, [(1, .aload_n 2, 1, 0, 0, 0, 0), (2, .getfield 176, 3, 2, 0, 0, 72), (1, .aload_n 0, 1, 0, 0, 0, 0), (1, .iload_n 1, 1, 0, 0, 0, 0), (1, .aload_n 2, 1, 0, 0, 0, 0), (4, .invokevirtual 183, 3, 104, 3, 8, 135), (9, .if_icmp .le 8, 3, 87, 0, 0, 0), (0, .bipush 108, 2, 0, 0, 0, 0), (8, .goto 5, 3, 89, 0, 0, 0)], 0),
  (87, [(0, .bipush 45, 2, 0, 0, 0, 0)], 89),
  (89, [(10, .ireturn, 1, 2, 0, 0, 0)], 0)]
/-- Simplespan$Reductions.isBehindAnother(ILSimplespan$Clock;)Z -/
def pz_c106 : List (Nat × List pz_Op × Nat) := [
  (0, [(0, .iconst 0, 1, 0, 0, 0, 0), (1, .istore_n 3, 1, 0, 0, 0, 0)], 2),
  (2, [(1, .iload_n 3, 1, 0, 0, 0, 0), (1, .aload_n 0, 1, 0, 0, 0, 0), (2, .getfield 42, 3, 8, 0, 9, 65), (2, .getfield 119, 3, 6, 0, 0, 71), (9, .if_icmp .ge 28, 3, 38, 0, 0, 0), (1, .aload_n 2, 1, 0, 0, 0, 0), (1, .iload_n 3, 1, 0, 0, 0, 0), (4, .invokevirtual 159, 3, 26, 2, 2, 129), (9, .ifCond .ne 14, 3, 32, 0, 0, 0), (1, .aload_n 0, 1, 0, 0, 0, 0), (1, .iload_n 1, 1, 0, 0, 0, 0), (1, .iload_n 3, 1, 0, 0, 0, 0), (4, .invokevirtual 135, 3, 91, 3, 8, 121), (9, .ifCond .ge 5, 3, 32, 0, 0, 0), (0, .iconst 1, 1, 0, 0, 0, 0), (10, .ireturn, 1, 1, 0, 0, 0)], 0),
  (32, [(1, .iinc 3 1, 3, 0, 0, 0, 0), (8, .goto (-33), 3, 2, 0, 0, 0)], 0),
  (38, [(0, .iconst 0, 1, 0, 0, 0, 0), (10, .ireturn, 1, 1, 0, 0, 0)], 0)]
/-- Simplespan$Reductions.mustWait(ILSimplespan$Clock;)Z -/
def pz_c107 : List (Nat × List pz_Op × Nat) := [
  (0, [(1, .aload_n 0, 1, 0, 0, 0, 0), (2, .getfield 42, 3, 8, 0, 9, 65), (2, .getfield 70, 3, 6, 2, 9, 68), (1, .astore_n 3, 1, 0, 0, 0, 0), (0, .iconst 0, 1, 0, 0, 0, 0), (1, .istore 4, 2, 0, 0, 0, 0)], 11),
  (11, [(1, .iload 4, 2, 0, 0, 0, 0), (1, .aload_n 3, 1, 0, 0, 0, 0), (2, .getfield 76, 3, 9, 0, 0, 69), (9, .if_icmp .ge 72, 3, 89, 0, 0, 0), (1, .aload_n 0, 1, 0, 0, 0, 0), (1, .iload_n 1, 1, 0, 0, 0, 0), (1, .iload 4, 2, 0, 0, 0, 0), (4, .invokevirtual 186, 3, 102, 3, 8, 136), (1, .istore 5, 2, 0, 0, 0, 0), (1, .aload_n 2, 1, 0, 0, 0, 0), (1, .aload_n 3, 1, 0, 0, 0, 0), (1, .iload 4, 2, 0, 0, 0, 0), (4, .invokevirtual 141, 3, 110, 2, 9, 123), (4, .invokevirtual 159, 3, 26, 2, 2, 129), (9, .ifCond .eq 19, 3, 58, 0, 0, 0), (1, .aload_n 3, 1, 0, 0, 0, 0), (1, .iload 4, 2, 0, 0, 0, 0), (1, .aload_n 2, 1, 0, 0, 0, 0), (4, .invokevirtual 189, 3, 118, 3, 9, 137), (1, .iload 5, 2, 0, 0, 0, 0), (9, .if_icmp .lt 7, 3, 58, 0, 0, 0), (0, .iconst 1, 1, 0, 0, 0, 0), (8, .goto 4, 3, 59, 0, 0, 0)], 0),
  (58, [(0, .iconst 0, 1, 0, 0, 0, 0)], 59),
  (59, [(1, .istore 6, 2, 0, 0, 0, 0), (1, .iload 5, 2, 0, 0, 0, 0), (9, .ifCond .le 20, 3, 83, 0, 0, 0), (1, .aload_n 3, 1, 0, 0, 0, 0), (1, .iload 4, 2, 0, 0, 0, 0), (1, .aload_n 2, 1, 0, 0, 0, 0), (4, .invokevirtual 99, 3, 116, 3, 9, 112), (9, .ifCond .ne 10, 3, 83, 0, 0, 0), (1, .iload 6, 2, 0, 0, 0, 0), (9, .ifCond .ne 5, 3, 83, 0, 0, 0), (0, .iconst 1, 1, 0, 0, 0, 0), (10, .ireturn, 1, 1, 0, 0, 0)], 0),
  (83, [(1, .iinc 4 1, 3, 0, 0, 0, 0), (8, .goto (-75), 3, 11, 0, 0, 0)], 0),
  (89, [(0, .iconst 0, 1, 0, 0, 0, 0), (10, .ireturn, 1, 1, 0, 0, 0)], 0)]
/-- Simplespan$Spans.<init>()V -/
def pz_c108 : List (Nat × List pz_Op × Nat) := [
  (0, [(1, .aload_n 0, 1, 0, 0, 0, 0), (6, .invokespecial 3, 3, 0, 0, 0, 90), (1, .aload_n 0, 1, 0, 0, 0, 0), (0, .iconst 0, 1, 0, 0, 0, 0), (2, .putfield 9, 3, 9, 0, 0, 73), (1, .aload_n 0, 1, 0, 0, 0, 0), (0, .iconst 3, 1, 0, 0, 0, 0), (2, .newarray .int, 2, 20, 0, 0, 0), (2, .putfield 15, 3, 9, 1, 9, 74), (1, .aload_n 0, 1, 0, 0, 0, 0), (0, .iconst 3, 1, 0, 0, 0, 0), (2, .newarray .int, 2, 20, 0, 0, 0), (2, .putfield 19, 3, 9, 2, 9, 75), (1, .aload_n 0, 1, 0, 0, 0, 0), (0, .iconst 3, 1, 0, 0, 0, 0), (2, .newarray .int, 2, 20, 0, 0, 0), (2, .putfield 22, 3, 9, 3, 9, 76), (1, .aload_n 0, 1, 0, 0, 0, 0), (0, .iconst 3, 1, 0, 0, 0, 0), (2, .newarray .int, 2, 20, 0, 0, 0), (2, .putfield 25, 3, 9, 4, 9, 77), (11, .return_, 1, 0, 0, 0, 0)], 0)]
/-- Simplespan$Spans.add(IIII)I -/
def pz_c109 : List (Nat × List pz_Op × Nat) := [
  (0, [(1, .aload_n 0, 1, 0, 0, 0, 0), (2, .getfield 9, 3, 9, 0, 0, 73), (0, .iconst 3, 1, 0, 0, 0, 0), (9, .if_icmp .lt 5, 3, 10, 0, 0, 0), (0, .iconst (-1), 1, 0, 0, 0, 0), (10, .ireturn, 1, 0, 0, 0, 0)], 0),
  (10, [(1, .aload_n 0, 1, 0, 0, 0, 0), (2, .getfield 9, 3, 9, 0, 0, 73), (1, .istore 5, 2, 0, 0, 0, 0), (1, .aload_n 0, 1, 0, 0, 0, 0), (2, .getfield 15, 3, 9, 1, 9, 74), (1, .iload 5, 2, 0, 0, 0, 0), (1, .iload_n 1, 1, 0, 0, 0, 0), (2, .iastore, 1, 0, 0, 0, 0), (1, .aload_n 0, 1, 0, 0, 0, 0), (2, .getfield 19, 3, 9, 2, 9, 75), (1, .iload 5, 2, 0, 0, 0, 0), (1, .iload_n 2, 1, 0, 0, 0, 0), (2, .iastore, 1, 0, 0, 0, 0), (1, .aload_n 0, 1, 0, 0, 0, 0), (2, .getfield 22, 3, 9, 3, 9, 76), (1, .iload 5, 2, 0, 0, 0, 0), (1, .iload_n 3, 1, 0, 0, 0, 0), (2, .iastore, 1, 0, 0, 0, 0), (1, .aload_n 0, 1, 0, 0, 0, 0), (2, .getfield 25, 3, 9, 4, 9, 77), (1, .iload 5, 2, 0, 0, 0, 0), (1, .iload 4, 2, 0, 0, 0, 0), (2, .iastore, 1, 0, 0, 0, 0), (1, .aload_n 0, 1, 0, 0, 0, 0), (1, .iload 5, 2, 0, 0, 0, 0), (0, .iconst 1, 1, 0, 0, 0, 0), (0, .iadd, 1, 0, 0, 0, 0), (2, .putfield 9, 3, 9, 0, 0, 73), (1, .iload 5, 2, 0, 0, 0, 0), (10, .ireturn, 1, 0, 0, 0, 0)], 0)]
/-- Simplespan$Spans.firstOf(I)I -/
def pz_c110 : List (Nat × List pz_Op × Nat) := [
  (0, [(1, .iload_n 1, 1, 0, 0, 0, 0), (9, .ifCond .lt 17, 3, 18, 0, 0, 0), (1, .iload_n 1, 1, 0, 0, 0, 0), (0, .iconst 3, 1, 0, 0, 0, 0), (9, .if_icmp .ge 12, 3, 18, 0, 0, 0), (1, .aload_n 0, 1, 0, 0, 0, 0), (2, .getfield 15, 3, 9, 1, 9, 74), (1, .iload_n 1, 1, 0, 0, 0, 0), (2, .iaload, 1, 0, 0, 0, 0), (8, .goto 4, 3, 19, 0, 0, 0)], 0),
  (18, [(0, .iconst 0, 1, 0, 0, 0, 0)], 19),
  (19, [(10, .ireturn, 1, 0, 0, 0, 0)], 0)]
/-- Simplespan$Spans.endOf(I)I -/
def pz_c111 : List (Nat × List pz_Op × Nat) := [
  (0, [(1, .iload_n 1, 1, 0, 0, 0, 0), (9, .ifCond .lt 17, 3, 18, 0, 0, 0), (1, .iload_n 1, 1, 0, 0, 0, 0), (0, .iconst 3, 1, 0, 0, 0, 0), (9, .if_icmp .ge 12, 3, 18, 0, 0, 0), (1, .aload_n 0, 1, 0, 0, 0, 0), (2, .getfield 19, 3, 9, 2, 9, 75), (1, .iload_n 1, 1, 0, 0, 0, 0), (2, .iaload, 1, 0, 0, 0, 0), (8, .goto 4, 3, 19, 0, 0, 0)], 0),
  (18, [(0, .iconst 0, 1, 0, 0, 0, 0)], 19),
  (19, [(10, .ireturn, 1, 0, 0, 0, 0)], 0)]
/-- Simplespan$Spans.leastOf(I)I -/
def pz_c112 : List (Nat × List pz_Op × Nat) := [
  (0, [(1, .iload_n 1, 1, 0, 0, 0, 0), (9, .ifCond .lt 17, 3, 18, 0, 0, 0), (1, .iload_n 1, 1, 0, 0, 0, 0), (0, .iconst 3, 1, 0, 0, 0, 0), (9, .if_icmp .ge 12, 3, 18, 0, 0, 0), (1, .aload_n 0, 1, 0, 0, 0, 0), (2, .getfield 22, 3, 9, 3, 9, 76), (1, .iload_n 1, 1, 0, 0, 0, 0), (2, .iaload, 1, 0, 0, 0, 0), (8, .goto 4, 3, 19, 0, 0, 0)], 0),
  (18, [(0, .iconst 0, 1, 0, 0, 0, 0)], 19),
  (19, [(10, .ireturn, 1, 0, 0, 0, 0)], 0)]
/-- Simplespan$Spans.greatestOf(I)I -/
def pz_c113 : List (Nat × List pz_Op × Nat) := [
  (0, [(1, .iload_n 1, 1, 0, 0, 0, 0), (9, .ifCond .lt 17, 3, 18, 0, 0, 0), (1, .iload_n 1, 1, 0, 0, 0, 0), (0, .iconst 3, 1, 0, 0, 0, 0), (9, .if_icmp .ge 12, 3, 18, 0, 0, 0), (1, .aload_n 0, 1, 0, 0, 0, 0), (2, .getfield 25, 3, 9, 4, 9, 77), (1, .iload_n 1, 1, 0, 0, 0, 0), (2, .iaload, 1, 0, 0, 0, 0), (8, .goto 4, 3, 19, 0, 0, 0)], 0),
  (18, [(0, .iconst 0, 1, 0, 0, 0, 0)], 19),
  (19, [(10, .ireturn, 1, 0, 0, 0, 0)], 0)]
/-- Simplespan$Spans.pickedOf(II)I -/
def pz_c114 : List (Nat × List pz_Op × Nat) := [
  (0, [(1, .iload_n 2, 1, 0, 0, 0, 0), (1, .iload_n 1, 1, 0, 0, 0, 0), (4, .invokestatic 28, 3, 186, 1, 99, 138), (0, .iand, 1, 0, 0, 0, 0), (9, .ifCond .eq 11, 3, 17, 0, 0, 0), (1, .aload_n 0, 1, 0, 0, 0, 0), (1, .iload_n 1, 1, 0, 0, 0, 0), (4, .invokevirtual 32, 3, 113, 2, 9, 139), (8, .goto 8, 3, 22, 0, 0, 0)], 0),
  (17, [(1, .aload_n 0, 1, 0, 0, 0, 0), (1, .iload_n 1, 1, 0, 0, 0, 0), (4, .invokevirtual 35, 3, 112, 2, 9, 140)], 22),
  (22, [(10, .ireturn, 1, 0, 0, 0, 0)], 0)]
/-- Simplespan$Spans.withEnd(I)I -/
def pz_c115 : List (Nat × List pz_Op × Nat) := [
  (0, [(0, .iconst 0, 1, 0, 0, 0, 0), (1, .istore_n 2, 1, 0, 0, 0, 0)], 2),
  (2, [(1, .iload_n 2, 1, 0, 0, 0, 0), (1, .aload_n 0, 1, 0, 0, 0, 0), (2, .getfield 9, 3, 9, 0, 0, 73), (9, .if_icmp .ge 20, 3, 27, 0, 0, 0), (1, .aload_n 0, 1, 0, 0, 0, 0), (1, .iload_n 2, 1, 0, 0, 0, 0), (4, .invokevirtual 38, 3, 111, 2, 9, 141), (1, .iload_n 1, 1, 0, 0, 0, 0), (9, .if_icmp .ne 5, 3, 21, 0, 0, 0), (1, .iload_n 2, 1, 0, 0, 0, 0), (10, .ireturn, 1, 0, 0, 0, 0)], 0),
  (21, [(1, .iinc 2 1, 3, 0, 0, 0, 0), (8, .goto (-22), 3, 2, 0, 0, 0)], 0),
  (27, [(0, .iconst (-1), 1, 0, 0, 0, 0), (10, .ireturn, 1, 0, 0, 0, 0)], 0)]
/-- Simplespan$Spans.hasEnded(ILSimplespan$Clock;)Z -/
def pz_c116 : List (Nat × List pz_Op × Nat) := [
  (0, [(1, .aload_n 2, 1, 0, 0, 0, 0), (1, .aload_n 0, 1, 0, 0, 0, 0), (1, .iload_n 1, 1, 0, 0, 0, 0), (4, .invokevirtual 38, 3, 111, 2, 9, 141), (4, .invokevirtual 41, 3, 26, 2, 2, 142), (10, .ireturn, 1, 1, 0, 0, 0)], 0)]
/-- Simplespan$Spans.isRunning(ILSimplespan$Clock;)Z -/
def pz_c117 : List (Nat × List pz_Op × Nat) := [
  (0, [(1, .aload_n 2, 1, 0, 0, 0, 0), (1, .aload_n 0, 1, 0, 0, 0, 0), (1, .iload_n 1, 1, 0, 0, 0, 0), (4, .invokevirtual 47, 3, 110, 2, 9, 143), (4, .invokevirtual 41, 3, 26, 2, 2, 142), (9, .ifCond .eq 16, 3, 25, 0, 0, 0), (1, .aload_n 0, 1, 0, 0, 0, 0), (1, .iload_n 1, 1, 0, 0, 0, 0), (1, .aload_n 2, 1, 0, 0, 0, 0), (4, .invokevirtual 50, 3, 116, 3, 9, 144), (9, .ifCond .ne 7, 3, 25, 0, 0, 0), (0, .iconst 1, 1, 0, 0, 0, 0), (8, .goto 4, 3, 26, 0, 0, 0)], 0),
  (25, [(0, .iconst 0, 1, 0, 0, 0, 0)], 26),
  (26, [(10, .ireturn, 1, 1, 0, 0, 0)], 0)]
/-- Simplespan$Spans.minutesGone(ILSimplespan$Clock;)I -/
def pz_c118 : List (Nat × List pz_Op × Nat) := [
  (0, [(1, .aload_n 2, 1, 0, 0, 0, 0), (2, .getfield 54, 3, 2, 0, 0, 78), (1, .aload_n 2, 1, 0, 0, 0, 0), (1, .aload_n 0, 1, 0, 0, 0, 0), (1, .iload_n 1, 1, 0, 0, 0, 0), (4, .invokevirtual 47, 3, 110, 2, 9, 143), (4, .invokevirtual 57, 3, 25, 2, 2, 145), (0, .isub, 1, 0, 0, 0, 0), (10, .ireturn, 1, 0, 0, 0, 0)], 0)]
/-- Simplespan$Spans.canLast(II)Z -/
def pz_c119 : List (Nat × List pz_Op × Nat) := [
  (0, [(1, .iload_n 2, 1, 0, 0, 0, 0), (1, .aload_n 0, 1, 0, 0, 0, 0), (1, .iload_n 1, 1, 0, 0, 0, 0), (4, .invokevirtual 35, 3, 112, 2, 9, 140), (1, .aload_n 0, 1, 0, 0, 0, 0), (1, .iload_n 1, 1, 0, 0, 0, 0), (4, .invokevirtual 32, 3, 113, 2, 9, 139), (4, .invokestatic 60, 3, 185, 3, 99, 146), (10, .ireturn, 1, 1, 0, 0, 0)], 0)]
/-- Simplespan$Spans.wouldOverrun(ILSimplespan$Clock;)Z -/
def pz_c120 : List (Nat × List pz_Op × Nat) := [
  (0, [(0, .iconst 0, 1, 0, 0, 0, 0), (1, .istore_n 3, 1, 0, 0, 0, 0)], 2),
  (2, [(1, .iload_n 3, 1, 0, 0, 0, 0), (1, .aload_n 0, 1, 0, 0, 0, 0), (2, .getfield 9, 3, 9, 0, 0, 73), (9, .if_icmp .ge 36, 3, 43, 0, 0, 0), (1, .aload_n 0, 1, 0, 0, 0, 0), (1, .iload_n 3, 1, 0, 0, 0, 0), (1, .aload_n 2, 1, 0, 0, 0, 0), (4, .invokevirtual 64, 3, 117, 3, 9, 147), (9, .ifCond .eq 21, 3, 37, 0, 0, 0), (1, .aload_n 0, 1, 0, 0, 0, 0), (1, .iload_n 3, 1, 0, 0, 0, 0), (1, .aload_n 2, 1, 0, 0, 0, 0), (4, .invokevirtual 67, 3, 118, 3, 9, 148), (1, .iload_n 1, 1, 0, 0, 0, 0), (0, .iadd, 1, 0, 0, 0, 0), (1, .aload_n 0, 1, 0, 0, 0, 0), (1, .iload_n 3, 1, 0, 0, 0, 0), (4, .invokevirtual 32, 3, 113, 2, 9, 139), (9, .if_icmp .le 5, 3, 37, 0, 0, 0), (0, .iconst 1, 1, 0, 0, 0, 0), (10, .ireturn, 1, 1, 0, 0, 0)], 0),
  (37, [(1, .iinc 3 1, 3, 0, 0, 0, 0), (8, .goto (-38), 3, 2, 0, 0, 0)], 0),
  (43, [(0, .iconst 0, 1, 0, 0, 0, 0), (10, .ireturn, 1, 1, 0, 0, 0)], 0)]
/-- Simplespan$Spans.copyFrom(LSimplespan$Spans;)V -/
def pz_c121 : List (Nat × List pz_Op × Nat) := [
  (0, [(1, .aload_n 0, 1, 0, 0, 0, 0), (1, .aload_n 1, 1, 0, 0, 0, 0), (2, .getfield 9, 3, 9, 0, 0, 73), (2, .putfield 9, 3, 9, 0, 0, 73), (1, .aload_n 1, 1, 0, 0, 0, 0), (2, .getfield 15, 3, 9, 1, 9, 74), (0, .iconst 0, 1, 0, 0, 0, 0), (1, .aload_n 0, 1, 0, 0, 0, 0), (2, .getfield 15, 3, 9, 1, 9, 74), (0, .iconst 0, 1, 0, 0, 0, 0), (0, .iconst 3, 1, 0, 0, 0, 0), (5, .invokestatic 71, 3, 0, 0, 0, 1042), (1, .aload_n 1, 1, 0, 0, 0, 0), (2, .getfield 19, 3, 9, 2, 9, 75), (0, .iconst 0, 1, 0, 0, 0, 0), (1, .aload_n 0, 1, 0, 0, 0, 0), (2, .getfield 19, 3, 9, 2, 9, 75), (0, .iconst 0, 1, 0, 0, 0, 0), (0, .iconst 3, 1, 0, 0, 0, 0), (5, .invokestatic 71, 3, 0, 0, 0, 1042), (1, .aload_n 1, 1, 0, 0, 0, 0), (2, .getfield 22, 3, 9, 3, 9, 76), (0, .iconst 0, 1, 0, 0, 0, 0), (1, .aload_n 0, 1, 0, 0, 0, 0), (2, .getfield 22, 3, 9, 3, 9, 76), (0, .iconst 0, 1, 0, 0, 0, 0), (0, .iconst 3, 1, 0, 0, 0, 0), (5, .invokestatic 71, 3, 0, 0, 0, 1042), (1, .aload_n 1, 1, 0, 0, 0, 0), (2, .getfield 25, 3, 9, 4, 9, 77), (0, .iconst 0, 1, 0, 0, 0, 0), (1, .aload_n 0, 1, 0, 0, 0, 0), (2, .getfield 25, 3, 9, 4, 9, 77), (0, .iconst 0, 1, 0, 0, 0, 0), (0, .iconst 3, 1, 0, 0, 0, 0), (5, .invokestatic 71, 3, 0, 0, 0, 1042), (11, .return_, 1, 0, 0, 0, 0)], 0)]
/-- Simplespan.<init>()V -/
def pz_c122 : List (Nat × List pz_Op × Nat) := [
  (0, [(1, .aload_n 0, 1, 0, 0, 0, 0), (6, .invokespecial 3, 3, 0, 0, 0, 42), (1, .aload_n 0, 1, 0, 0, 0, 0), (2, .new 9, 3, 6, 9, 0, 8), (0, .dup, 1, 0, 0, 0, 0), (4, .invokespecial 11, 3, 64, 1, 6, 149), (2, .putfield 12, 3, 10, 0, 9, 79), (1, .aload_n 0, 1, 0, 0, 0, 0), (0, .iconst 4, 1, 0, 0, 0, 0), (2, .anewarray 9, 3, 0, 0, 0, 8), (2, .putfield 16, 3, 10, 1, 9, 80), (0, .iconst 0, 1, 0, 0, 0, 0), (1, .istore_n 1, 1, 0, 0, 0, 0)], 25),
  (25, [(1, .iload_n 1, 1, 0, 0, 0, 0), (0, .iconst 4, 1, 0, 0, 0, 0), (9, .if_icmp .ge 22, 3, 49, 0, 0, 0), (1, .aload_n 0, 1, 0, 0, 0, 0), (2, .getfield 16, 3, 10, 1, 9, 80), (1, .iload_n 1, 1, 0, 0, 0, 0), (2, .new 9, 3, 6, 9, 0, 8), (0, .dup, 1, 0, 0, 0, 0), (4, .invokespecial 11, 3, 64, 1, 6, 149), (2, .aastore, 1, 0, 0, 0, 0), (1, .iinc 1 1, 3, 0, 0, 0, 0), (8, .goto (-21), 3, 25, 0, 0, 0)], 0),
  (49, [(1, .aload_n 0, 1, 0, 0, 0, 0), (2, .new 20, 3, 4, 7, 0, 9), (0, .dup, 1, 0, 0, 0, 0), (1, .aload_n 0, 1, 0, 0, 0, 0), (2, .getfield 12, 3, 10, 0, 9, 79), (4, .invokespecial 22, 3, 34, 2, 4, 150), (2, .putfield 25, 3, 10, 3, 9, 81), (1, .aload_n 0, 1, 0, 0, 0, 0), (2, .new 29, 3, 5, 5, 0, 10), (0, .dup, 1, 0, 0, 0, 0), (4, .invokespecial 31, 3, 52, 1, 5, 151), (2, .putfield 32, 3, 10, 4, 9, 82), (1, .aload_n 0, 1, 0, 0, 0, 0), (2, .new 36, 3, 8, 9, 0, 11), (0, .dup, 1, 0, 0, 0, 0), (1, .aload_n 0, 1, 0, 0, 0, 0), (2, .getfield 12, 3, 10, 0, 9, 79), (4, .invokespecial 38, 3, 87, 2, 8, 152), (2, .putfield 39, 3, 10, 5, 9, 83), (1, .aload_n 0, 1, 0, 0, 0, 0), (2, .new 43, 3, 7, 3, 0, 12), (0, .dup, 1, 0, 0, 0, 0), (1, .aload_n 0, 1, 0, 0, 0, 0), (2, .getfield 12, 3, 10, 0, 9, 79), (1, .aload_n 0, 1, 0, 0, 0, 0), (2, .getfield 39, 3, 10, 5, 9, 83), (4, .invokespecial 45, 3, 75, 3, 7, 153), (2, .putfield 48, 3, 10, 6, 9, 84), (11, .return_, 1, 0, 0, 0, 0)], 0)]
/-- Simplespan.addEvent()I -/
def pz_c123 : List (Nat × List pz_Op × Nat) := [
  (0, [(1, .aload_n 0, 1, 0, 0, 0, 0), (2, .getfield 12, 3, 10, 0, 9, 79), (2, .getfield 52, 3, 6, 0, 0, 85), (0, .bipush 10, 2, 0, 0, 0, 0), (9, .if_icmp .lt 13, 3, 22, 0, 0, 0), (7, .new 56, 3, 0, 0, 0, 0)], 0),
  (22, [(1, .aload_n 0, 1, 0, 0, 0, 0), (2, .getfield 12, 3, 10, 0, 9, 79), (2, .getfield 52, 3, 6, 0, 0, 85), (1, .istore_n 1, 1, 0, 0, 0, 0), (1, .aload_n 0, 1, 0, 0, 0, 0), (2, .getfield 12, 3, 10, 0, 9, 79), (1, .iload_n 1, 1, 0, 0, 0, 0), (0, .iconst 1, 1, 0, 0, 0, 0), (0, .iadd, 1, 0, 0, 0, 0), (2, .putfield 52, 3, 6, 0, 0, 85), (1, .aload_n 0, 1, 0, 0, 0, 0), (4, .invokevirtual 63, 3, 178, 1, 10, 154), (1, .iload_n 1, 1, 0, 0, 0, 0), (10, .ireturn, 1, 0, 0, 0, 0)], 0)]
/-- Simplespan.bound(IIII)I -/
def pz_c124 : List (Nat × List pz_Op × Nat) := [
  (0, [(1, .aload_n 0, 1, 0, 0, 0, 0), (1, .iload_n 1, 1, 0, 0, 0, 0), (4, .invokevirtual 66, 3, 170, 2, 10, 155), (1, .aload_n 0, 1, 0, 0, 0, 0), (1, .iload_n 2, 1, 0, 0, 0, 0), (4, .invokevirtual 66, 3, 170, 2, 10, 155), (1, .iload_n 1, 1, 0, 0, 0, 0), (1, .iload_n 2, 1, 0, 0, 0, 0), (9, .if_icmp .eq 7, 3, 19, 0, 0, 0), (0, .iconst 1, 1, 0, 0, 0, 0), (8, .goto 4, 3, 20, 0, 0, 0)], 0),
  (19, [(0, .iconst 0, 1, 0, 0, 0, 0)], 20),
  (20, [(4, .invokestatic 70, 3, 172, 1, 99, 156), (1, .iload_n 3, 1, 0, 0, 0, 0), (0, .sipush (-500), 3, 0, 0, 0, 0), (0, .sipush 500, 3, 0, 0, 0, 0), (4, .invokestatic 74, 3, 185, 3, 99, 157), (4, .invokestatic 70, 3, 172, 1, 99, 156), (1, .iload 4, 2, 0, 0, 0, 0), (0, .bipush (-4), 2, 0, 0, 0, 0), (0, .iconst 4, 1, 0, 0, 0, 0), (4, .invokestatic 74, 3, 185, 3, 99, 157), (4, .invokestatic 70, 3, 172, 1, 99, 156), (1, .aload_n 0, 1, 0, 0, 0, 0), (2, .getfield 12, 3, 10, 0, 9, 79), (2, .getfield 78, 3, 6, 1, 9, 86), (2, .getfield 82, 3, 1, 0, 0, 87), (0, .bipush 40, 2, 0, 0, 0, 0), (9, .if_icmp .ge 7, 3, 66, 0, 0, 0), (0, .iconst 1, 1, 0, 0, 0, 0), (8, .goto 4, 3, 67, 0, 0, 0)], 0),
  (66, [(0, .iconst 0, 1, 0, 0, 0, 0)], 67),
  (67, [(4, .invokestatic 87, 3, 173, 1, 99, 158), (1, .aload_n 0, 1, 0, 0, 0, 0), (2, .getfield 12, 3, 10, 0, 9, 79), (2, .getfield 78, 3, 6, 1, 9, 86), (1, .iload_n 1, 1, 0, 0, 0, 0), (1, .iload_n 2, 1, 0, 0, 0, 0), (1, .iload_n 3, 1, 0, 0, 0, 0), (1, .iload 4, 2, 0, 0, 0, 0), (4, .invokevirtual 90, 3, 16, 5, 1, 159), (1, .istore 5, 2, 0, 0, 0, 0), (1, .aload_n 0, 1, 0, 0, 0, 0), (4, .invokevirtual 63, 3, 178, 1, 10, 154), (1, .iload 5, 2, 0, 0, 0, 0), (10, .ireturn, 1, 0, 0, 0, 0)], 0)]
/-- Simplespan.dropBound(I)I -/
def pz_c125 : List (Nat × List pz_Op × Nat) := [
  (0, [(1, .iload_n 1, 1, 0, 0, 0, 0), (1, .aload_n 0, 1, 0, 0, 0, 0), (2, .getfield 12, 3, 10, 0, 9, 79), (2, .getfield 78, 3, 6, 1, 9, 86), (2, .getfield 82, 3, 1, 0, 0, 87), (4, .invokestatic 94, 3, 171, 2, 99, 160), (1, .aload_n 0, 1, 0, 0, 0, 0), (2, .getfield 12, 3, 10, 0, 9, 79), (2, .getfield 78, 3, 6, 1, 9, 86), (1, .iload_n 1, 1, 0, 0, 0, 0), (4, .invokevirtual 98, 3, 18, 2, 1, 161), (9, .ifCond .ne 7, 3, 32, 0, 0, 0), (0, .iconst 1, 1, 0, 0, 0, 0), (8, .goto 4, 3, 33, 0, 0, 0)], 0),
  (32, [(0, .iconst 0, 1, 0, 0, 0, 0)], 33),
  (33, [(4, .invokestatic 87, 3, 173, 1, 99, 158), (1, .aload_n 0, 1, 0, 0, 0, 0), (2, .getfield 12, 3, 10, 0, 9, 79), (2, .getfield 78, 3, 6, 1, 9, 86), (1, .iload_n 1, 1, 0, 0, 0, 0), (4, .invokevirtual 102, 3, 19, 2, 1, 162), (1, .aload_n 0, 1, 0, 0, 0, 0), (4, .invokevirtual 63, 3, 178, 1, 10, 154), (1, .aload_n 0, 1, 0, 0, 0, 0), (2, .getfield 12, 3, 10, 0, 9, 79), (4, .invokevirtual 105, 3, 72, 1, 6, 163), (10, .ireturn, 1, 0, 0, 0, 0)], 0)]
/-- Simplespan.addSpan(IIII)I -/
def pz_c126 : List (Nat × List pz_Op × Nat) := [
  (0, [(1, .aload_n 0, 1, 0, 0, 0, 0), (1, .iload_n 1, 1, 0, 0, 0, 0), (4, .invokevirtual 66, 3, 170, 2, 10, 155), (1, .aload_n 0, 1, 0, 0, 0, 0), (1, .iload_n 2, 1, 0, 0, 0, 0), (4, .invokevirtual 66, 3, 170, 2, 10, 155), (1, .iload_n 2, 1, 0, 0, 0, 0), (1, .iload_n 1, 1, 0, 0, 0, 0), (9, .if_icmp .le 7, 3, 19, 0, 0, 0), (0, .iconst 1, 1, 0, 0, 0, 0), (8, .goto 4, 3, 20, 0, 0, 0)], 0),
  (19, [(0, .iconst 0, 1, 0, 0, 0, 0)], 20),
  (20, [(4, .invokestatic 70, 3, 172, 1, 99, 156), (1, .iload_n 3, 1, 0, 0, 0, 0), (0, .iconst 1, 1, 0, 0, 0, 0), (0, .sipush 200, 3, 0, 0, 0, 0), (4, .invokestatic 74, 3, 185, 3, 99, 157), (4, .invokestatic 70, 3, 172, 1, 99, 156), (1, .iload 4, 2, 0, 0, 0, 0), (1, .iload_n 3, 1, 0, 0, 0, 0), (0, .sipush 200, 3, 0, 0, 0, 0), (4, .invokestatic 74, 3, 185, 3, 99, 157), (4, .invokestatic 70, 3, 172, 1, 99, 156), (1, .aload_n 0, 1, 0, 0, 0, 0), (2, .getfield 12, 3, 10, 0, 9, 79), (2, .getfield 109, 3, 6, 2, 9, 88), (2, .getfield 113, 3, 9, 0, 0, 89), (0, .iconst 3, 1, 0, 0, 0, 0), (9, .if_icmp .ge 7, 3, 64, 0, 0, 0), (0, .iconst 1, 1, 0, 0, 0, 0), (8, .goto 4, 3, 65, 0, 0, 0)], 0),
  (64, [(0, .iconst 0, 1, 0, 0, 0, 0)], 65),
  (65, [(4, .invokestatic 87, 3, 173, 1, 99, 158), (1, .aload_n 0, 1, 0, 0, 0, 0), (2, .getfield 12, 3, 10, 0, 9, 79), (2, .getfield 109, 3, 6, 2, 9, 88), (1, .iload_n 2, 1, 0, 0, 0, 0), (4, .invokevirtual 116, 3, 115, 2, 9, 164), (0, .iconst (-1), 1, 0, 0, 0, 0), (9, .if_icmp .ne 7, 3, 87, 0, 0, 0), (0, .iconst 1, 1, 0, 0, 0, 0), (8, .goto 4, 3, 88, 0, 0, 0)], 0),
  (87, [(0, .iconst 0, 1, 0, 0, 0, 0)], 88),
  (88, [(4, .invokestatic 87, 3, 173, 1, 99, 158), (1, .iload_n 1, 1, 0, 0, 0, 0), (9, .ifCond .eq 17, 3, 109, 0, 0, 0), (1, .aload_n 0, 1, 0, 0, 0, 0), (2, .getfield 12, 3, 10, 0, 9, 79), (2, .getfield 120, 3, 6, 3, 9, 90), (1, .iload_n 1, 1, 0, 0, 0, 0), (4, .invokevirtual 124, 3, 26, 2, 2, 165), (9, .ifCond .ne 7, 3, 113, 0, 0, 0)], 109),
  (109, [(0, .iconst 1, 1, 0, 0, 0, 0), (8, .goto 4, 3, 114, 0, 0, 0)], 0),
  (113, [(0, .iconst 0, 1, 0, 0, 0, 0)], 114),
  (114, [(4, .invokestatic 87, 3, 173, 1, 99, 158), (1, .aload_n 0, 1, 0, 0, 0, 0), (2, .getfield 12, 3, 10, 0, 9, 79), (2, .getfield 120, 3, 6, 3, 9, 90), (1, .iload_n 2, 1, 0, 0, 0, 0), (4, .invokevirtual 124, 3, 26, 2, 2, 165), (9, .ifCond .ne 7, 3, 135, 0, 0, 0), (0, .iconst 1, 1, 0, 0, 0, 0), (8, .goto 4, 3, 136, 0, 0, 0)], 0),
  (135, [(0, .iconst 0, 1, 0, 0, 0, 0)], 136),
  (136, [(4, .invokestatic 87, 3, 173, 1, 99, 158), (1, .aload_n 0, 1, 0, 0, 0, 0), (2, .getfield 12, 3, 10, 0, 9, 79), (2, .getfield 109, 3, 6, 2, 9, 88), (1, .iload_n 1, 1, 0, 0, 0, 0), (1, .iload_n 2, 1, 0, 0, 0, 0), (1, .iload_n 3, 1, 0, 0, 0, 0), (1, .iload 4, 2, 0, 0, 0, 0), (4, .invokevirtual 129, 3, 109, 5, 9, 166), (1, .istore 5, 2, 0, 0, 0, 0), (1, .aload_n 0, 1, 0, 0, 0, 0), (4, .invokevirtual 63, 3, 178, 1, 10, 154), (1, .iload 5, 2, 0, 0, 0, 0), (10, .ireturn, 1, 0, 0, 0, 0)], 0)]
/-- Simplespan.observe(IZ)I -/
def pz_c127 : List (Nat × List pz_Op × Nat) := [
  (0, [(1, .iload_n 1, 1, 0, 0, 0, 0), (0, .iconst 1, 1, 0, 0, 0, 0), (0, .iconst 4, 1, 0, 0, 0, 0), (4, .invokestatic 74, 3, 185, 3, 99, 157), (4, .invokestatic 70, 3, 172, 1, 99, 156), (1, .aload_n 0, 1, 0, 0, 0, 0), (2, .getfield 12, 3, 10, 0, 9, 79), (1, .iload_n 1, 1, 0, 0, 0, 0), (4, .invokevirtual 130, 3, 68, 2, 6, 167), (9, .ifCond .ne 7, 3, 24, 0, 0, 0), (0, .iconst 1, 1, 0, 0, 0, 0), (8, .goto 4, 3, 25, 0, 0, 0)], 0),
  (24, [(0, .iconst 0, 1, 0, 0, 0, 0)], 25),
  (25, [(4, .invokestatic 87, 3, 173, 1, 99, 158), (1, .aload_n 0, 1, 0, 0, 0, 0), (2, .getfield 12, 3, 10, 0, 9, 79), (1, .iload_n 1, 1, 0, 0, 0, 0), (1, .iload_n 2, 1, 0, 0, 0, 0), (9, .ifCond .eq 8, 3, 42, 0, 0, 0), (0, .bipush 116, 2, 0, 0, 0, 0), (8, .goto 5, 3, 44, 0, 0, 0)], 0),
  (42, [(0, .bipush 102, 2, 0, 0, 0, 0)], 44),
  (44, [(4, .invokevirtual 133, 3, 67, 3, 6, 168), (1, .aload_n 0, 1, 0, 0, 0, 0), (4, .invokevirtual 63, 3, 178, 1, 10, 154), (1, .aload_n 0, 1, 0, 0, 0, 0), (2, .getfield 12, 3, 10, 0, 9, 79), (4, .invokevirtual 105, 3, 72, 1, 6, 163), (10, .ireturn, 1, 0, 0, 0, 0)], 0)]
/-- Simplespan.choose()I -/
def pz_c128 : List (Nat × List pz_Op × Nat) := [
  (0, [(1, .aload_n 0, 1, 0, 0, 0, 0), (2, .getfield 25, 3, 10, 3, 9, 81), (4, .invokevirtual 137, 3, 42, 1, 4, 169), (1, .istore_n 1, 1, 0, 0, 0, 0), (1, .iload_n 1, 1, 0, 0, 0, 0), (0, .iconst (-1), 1, 0, 0, 0, 0), (9, .if_icmp .ne 13, 3, 23, 0, 0, 0), (7, .new 140, 3, 3, 0, 0, 1)], 0),
  (23, [(0, .iconst 1, 1, 0, 0, 0, 0), (1, .istore_n 2, 1, 0, 0, 0, 0)], 25),
  (25, [(1, .iload_n 2, 1, 0, 0, 0, 0), (0, .iconst 4, 1, 0, 0, 0, 0), (9, .if_icmp .gt 46, 3, 73, 0, 0, 0), (1, .aload_n 0, 1, 0, 0, 0, 0), (2, .getfield 12, 3, 10, 0, 9, 79), (1, .iload_n 2, 1, 0, 0, 0, 0), (4, .invokevirtual 130, 3, 68, 2, 6, 167), (9, .ifCond .ne 29, 3, 67, 0, 0, 0), (1, .aload_n 0, 1, 0, 0, 0, 0), (2, .getfield 12, 3, 10, 0, 9, 79), (1, .iload_n 2, 1, 0, 0, 0, 0), (1, .iload_n 1, 1, 0, 0, 0, 0), (1, .iload_n 2, 1, 0, 0, 0, 0), (0, .iconst 1, 1, 0, 0, 0, 0), (0, .isub, 1, 0, 0, 0, 0), (4, .invokestatic 145, 3, 186, 1, 99, 170), (0, .iand, 1, 0, 0, 0, 0), (9, .ifCond .eq 8, 3, 62, 0, 0, 0), (0, .bipush 84, 2, 0, 0, 0, 0), (8, .goto 5, 3, 64, 0, 0, 0)], 0),
  (62, [(0, .bipush 70, 2, 0, 0, 0, 0)], 64),
  (64, [(4, .invokevirtual 133, 3, 67, 3, 6, 168)], 67),
  (67, [(1, .iinc 2 1, 3, 0, 0, 0, 0), (8, .goto (-45), 3, 25, 0, 0, 0)], 0),
  (73, [(1, .aload_n 0, 1, 0, 0, 0, 0), (4, .invokevirtual 63, 3, 178, 1, 10, 154), (1, .iload_n 1, 1, 0, 0, 0, 0), (4, .invokestatic 148, 3, 0, 1, 99, 171), (10, .ireturn, 1, 0, 0, 0, 0)], 0)]
/-- Simplespan.labelOf(I)C -/
def pz_c129 : List (Nat × List pz_Op × Nat) := [
  (0, [(1, .iload_n 1, 1, 0, 0, 0, 0), (0, .iconst 1, 1, 0, 0, 0, 0), (0, .iconst 4, 1, 0, 0, 0, 0), (4, .invokestatic 74, 3, 185, 3, 99, 157), (4, .invokestatic 70, 3, 172, 1, 99, 156), (1, .aload_n 0, 1, 0, 0, 0, 0), (2, .getfield 12, 3, 10, 0, 9, 79), (1, .iload_n 1, 1, 0, 0, 0, 0), (4, .invokevirtual 153, 3, 66, 2, 6, 172), (10, .ireturn, 1, 2, 0, 0, 0)], 0)]
/-- java/lang/Math.max(II)I -/
def pz_c130 : List (Nat × List pz_Op × Nat) := [
  (0, [(1, .iload_n 0, 1, 0, 0, 0, 0), (1, .iload_n 1, 1, 0, 0, 0, 0), (9, .if_icmp .lt 7, 3, 9, 0, 0, 0), (1, .iload_n 0, 1, 0, 0, 0, 0), (8, .goto 4, 3, 10, 0, 0, 0)], 0),
  (9, [(1, .iload_n 1, 1, 0, 0, 0, 0)], 10),
  (10, [(10, .ireturn, 1, 0, 0, 0, 0)], 0)]
/-- Simplespan.isConsistent()Z -/
def pz_c131 : List (Nat × List pz_Op × Nat) := [
  (0, [(1, .aload_n 0, 1, 0, 0, 0, 0), (4, .invokevirtual 161, 3, 179, 1, 10, 173), (2, .getfield 165, 3, 5, 1, 1, 91), (10, .ireturn, 1, 1, 0, 0, 0)], 0)]
/-- Simplespan.distance(II)I -/
def pz_c132 : List (Nat × List pz_Op × Nat) := [
  (0, [(1, .aload_n 0, 1, 0, 0, 0, 0), (1, .iload_n 1, 1, 0, 0, 0, 0), (4, .invokevirtual 66, 3, 170, 2, 10, 155), (1, .aload_n 0, 1, 0, 0, 0, 0), (1, .iload_n 2, 1, 0, 0, 0, 0), (4, .invokevirtual 66, 3, 170, 2, 10, 155), (1, .aload_n 0, 1, 0, 0, 0, 0), (4, .invokevirtual 169, 3, 180, 1, 10, 174), (1, .iload_n 1, 1, 0, 0, 0, 0), (1, .iload_n 2, 1, 0, 0, 0, 0), (4, .invokevirtual 172, 3, 59, 3, 5, 175), (4, .invokestatic 176, 3, 177, 1, 99, 176), (10, .ireturn, 1, 0, 0, 0, 0)], 0)]
/-- Simplespan.distanceByRounds(II)I -/
def pz_c133 : List (Nat × List pz_Op × Nat) := [
  (0, [(1, .aload_n 0, 1, 0, 0, 0, 0), (1, .iload_n 1, 1, 0, 0, 0, 0), (4, .invokevirtual 66, 3, 170, 2, 10, 155), (1, .aload_n 0, 1, 0, 0, 0, 0), (1, .iload_n 2, 1, 0, 0, 0, 0), (4, .invokevirtual 66, 3, 170, 2, 10, 155), (1, .aload_n 0, 1, 0, 0, 0, 0), (4, .invokevirtual 169, 3, 180, 1, 10, 174), (1, .iload_n 1, 1, 0, 0, 0, 0), (1, .iload_n 2, 1, 0, 0, 0, 0), (4, .invokevirtual 179, 3, 60, 3, 5, 177), (4, .invokestatic 176, 3, 177, 1, 99, 176), (10, .ireturn, 1, 0, 0, 0, 0)], 0)]
/-- Simplespan.isDirect(II)Z -/
def pz_c134 : List (Nat × List pz_Op × Nat) := [
  (0, [(1, .aload_n 0, 1, 0, 0, 0, 0), (1, .iload_n 1, 1, 0, 0, 0, 0), (4, .invokevirtual 66, 3, 170, 2, 10, 155), (1, .aload_n 0, 1, 0, 0, 0, 0), (1, .iload_n 2, 1, 0, 0, 0, 0), (4, .invokevirtual 66, 3, 170, 2, 10, 155), (1, .iload_n 1, 1, 0, 0, 0, 0), (1, .iload_n 2, 1, 0, 0, 0, 0), (9, .if_icmp .eq 7, 3, 19, 0, 0, 0), (0, .iconst 1, 1, 0, 0, 0, 0), (8, .goto 4, 3, 20, 0, 0, 0)], 0),
  (19, [(0, .iconst 0, 1, 0, 0, 0, 0)], 20),
  (20, [(4, .invokestatic 70, 3, 172, 1, 99, 156), (1, .aload_n 0, 1, 0, 0, 0, 0), (4, .invokevirtual 169, 3, 180, 1, 10, 174), (1, .iload_n 1, 1, 0, 0, 0, 0), (1, .iload_n 2, 1, 0, 0, 0, 0), (4, .invokevirtual 182, 3, 62, 3, 5, 178), (10, .ireturn, 1, 1, 0, 0, 0)], 0)]
/-- Simplespan.conflictSize()I -/
def pz_c135 : List (Nat × List pz_Op × Nat) := [
  (0, [(1, .aload_n 0, 1, 0, 0, 0, 0), (4, .invokevirtual 185, 3, 175, 1, 10, 179), (1, .aload_n 0, 1, 0, 0, 0, 0), (2, .getfield 25, 3, 10, 3, 9, 81), (2, .getfield 188, 3, 4, 3, 0, 92), (10, .ireturn, 1, 0, 0, 0, 0)], 0)]
/-- Simplespan.conflictAt(I)I -/
def pz_c136 : List (Nat × List pz_Op × Nat) := [
  (0, [(1, .aload_n 0, 1, 0, 0, 0, 0), (4, .invokevirtual 185, 3, 175, 1, 10, 179), (1, .iload_n 1, 1, 0, 0, 0, 0), (9, .ifCond .lt 14, 3, 19, 0, 0, 0), (1, .iload_n 1, 1, 0, 0, 0, 0), (1, .aload_n 0, 1, 0, 0, 0, 0), (2, .getfield 25, 3, 10, 3, 9, 81), (2, .getfield 188, 3, 4, 3, 0, 92), (9, .if_icmp .lt 13, 3, 29, 0, 0, 0)], 19),
  (19, [(7, .new 191, 3, 4, 0, 0, 2)], 0),
  (29, [(1, .aload_n 0, 1, 0, 0, 0, 0), (2, .getfield 25, 3, 10, 3, 9, 81), (1, .iload_n 1, 1, 0, 0, 0, 0), (4, .invokevirtual 196, 3, 46, 2, 4, 180), (10, .ireturn, 1, 0, 0, 0, 0)], 0)]
/-- Simplespan.isWeak()Z -/
def pz_c137 : List (Nat × List pz_Op × Nat) := [
  (0, [(1, .aload_n 0, 1, 0, 0, 0, 0), (2, .getfield 25, 3, 10, 3, 9, 81), (4, .invokevirtual 199, 3, 47, 1, 4, 181), (10, .ireturn, 1, 1, 0, 0, 0)], 0)]
/-- Simplespan.isStrong()Z -/
def pz_c138 : List (Nat × List pz_Op × Nat) := [
  (0, [(1, .aload_n 0, 1, 0, 0, 0, 0), (2, .getfield 25, 3, 10, 3, 9, 81), (4, .invokevirtual 203, 3, 49, 1, 4, 182), (10, .ireturn, 1, 1, 0, 0, 0)], 0)]
/-- Simplespan.isSeen()Z -/
def pz_c139 : List (Nat × List pz_Op × Nat) := [
  (0, [(1, .aload_n 0, 1, 0, 0, 0, 0), (4, .invokevirtual 206, 3, 181, 1, 10, 183), (2, .getfield 210, 3, 8, 1, 1, 93), (10, .ireturn, 1, 1, 0, 0, 0)], 0)]
/-- Simplespan.rounds()I -/
def pz_c140 : List (Nat × List pz_Op × Nat) := [
  (0, [(1, .aload_n 0, 1, 0, 0, 0, 0), (4, .invokevirtual 206, 3, 181, 1, 10, 183), (2, .getfield 213, 3, 8, 2, 0, 94), (10, .ireturn, 1, 0, 0, 0, 0)], 0)]
/-- Simplespan.reduced(II)I -/
def pz_c141 : List (Nat × List pz_Op × Nat) := [
  (0, [(1, .aload_n 0, 1, 0, 0, 0, 0), (1, .iload_n 1, 1, 0, 0, 0, 0), (4, .invokevirtual 66, 3, 170, 2, 10, 155), (1, .aload_n 0, 1, 0, 0, 0, 0), (1, .iload_n 2, 1, 0, 0, 0, 0), (4, .invokevirtual 66, 3, 170, 2, 10, 155), (1, .aload_n 0, 1, 0, 0, 0, 0), (4, .invokevirtual 216, 3, 182, 1, 10, 184), (1, .iload_n 1, 1, 0, 0, 0, 0), (1, .iload_n 2, 1, 0, 0, 0, 0), (4, .invokevirtual 219, 3, 91, 3, 8, 185), (4, .invokestatic 176, 3, 177, 1, 99, 176), (10, .ireturn, 1, 0, 0, 0, 0)], 0)]
/-- Simplespan.waitFor(II)I -/
def pz_c142 : List (Nat × List pz_Op × Nat) := [
  (0, [(1, .aload_n 0, 1, 0, 0, 0, 0), (1, .iload_n 1, 1, 0, 0, 0, 0), (4, .invokevirtual 66, 3, 170, 2, 10, 155), (1, .iload_n 2, 1, 0, 0, 0, 0), (1, .aload_n 0, 1, 0, 0, 0, 0), (2, .getfield 12, 3, 10, 0, 9, 79), (2, .getfield 109, 3, 6, 2, 9, 88), (2, .getfield 113, 3, 9, 0, 0, 89), (4, .invokestatic 94, 3, 171, 2, 99, 160), (1, .aload_n 0, 1, 0, 0, 0, 0), (4, .invokevirtual 216, 3, 182, 1, 10, 184), (1, .iload_n 1, 1, 0, 0, 0, 0), (1, .iload_n 2, 1, 0, 0, 0, 0), (4, .invokevirtual 222, 3, 102, 3, 8, 186), (1, .istore_n 3, 1, 0, 0, 0, 0), (1, .iload_n 3, 1, 0, 0, 0, 0), (9, .ifCond .ne 13, 3, 43, 0, 0, 0), (7, .new 140, 3, 3, 0, 0, 3)], 0),
  (43, [(1, .iload_n 3, 1, 0, 0, 0, 0), (10, .ireturn, 1, 0, 0, 0, 0)], 0)]
/-- Simplespan.play(I)I -/
def pz_c143 : List (Nat × List pz_Op × Nat) := [
  (0, [(1, .aload_n 0, 1, 0, 0, 0, 0), (1, .iload_n 1, 1, 0, 0, 0, 0), (4, .invokevirtual 227, 3, 174, 2, 10, 187), (1, .aload_n 0, 1, 0, 0, 0, 0), (2, .getfield 48, 3, 10, 6, 9, 84), (1, .iload_n 1, 1, 0, 0, 0, 0), (4, .invokevirtual 230, 3, 76, 2, 7, 188), (0, .bipush 45, 2, 0, 0, 0, 0), (9, .if_icmp .eq 13, 3, 28, 0, 0, 0), (7, .new 140, 3, 3, 0, 0, 4)], 0),
  (28, [(1, .aload_n 0, 1, 0, 0, 0, 0), (2, .getfield 12, 3, 10, 0, 9, 79), (1, .aload_n 0, 1, 0, 0, 0, 0), (2, .getfield 48, 3, 10, 6, 9, 84), (2, .getfield 235, 3, 7, 2, 9, 95), (4, .invokevirtual 236, 3, 73, 2, 6, 189), (1, .aload_n 0, 1, 0, 0, 0, 0), (2, .getfield 48, 3, 10, 6, 9, 84), (4, .invokevirtual 240, 3, 86, 1, 7, 190), (10, .ireturn, 1, 0, 0, 0, 0)], 0)]
/-- Simplespan.failure(I)C -/
def pz_c144 : List (Nat × List pz_Op × Nat) := [
  (0, [(1, .aload_n 0, 1, 0, 0, 0, 0), (1, .iload_n 1, 1, 0, 0, 0, 0), (4, .invokevirtual 227, 3, 174, 2, 10, 187), (1, .aload_n 0, 1, 0, 0, 0, 0), (2, .getfield 48, 3, 10, 6, 9, 84), (1, .iload_n 1, 1, 0, 0, 0, 0), (4, .invokevirtual 230, 3, 76, 2, 7, 188), (10, .ireturn, 1, 2, 0, 0, 0)], 0)]
/-- Simplespan.playedAt(I)I -/
def pz_c145 : List (Nat × List pz_Op × Nat) := [
  (0, [(1, .aload_n 0, 1, 0, 0, 0, 0), (1, .iload_n 1, 1, 0, 0, 0, 0), (4, .invokevirtual 66, 3, 170, 2, 10, 155), (1, .iload_n 1, 1, 0, 0, 0, 0), (1, .aload_n 0, 1, 0, 0, 0, 0), (2, .getfield 12, 3, 10, 0, 9, 79), (2, .getfield 243, 3, 6, 7, 0, 96), (9, .if_icmp .ge 7, 3, 20, 0, 0, 0), (0, .iconst 1, 1, 0, 0, 0, 0), (8, .goto 4, 3, 21, 0, 0, 0)], 0),
  (20, [(0, .iconst 0, 1, 0, 0, 0, 0)], 21),
  (21, [(4, .invokestatic 87, 3, 173, 1, 99, 158), (1, .aload_n 0, 1, 0, 0, 0, 0), (2, .getfield 12, 3, 10, 0, 9, 79), (1, .iload_n 1, 1, 0, 0, 0, 0), (4, .invokevirtual 246, 3, 74, 2, 6, 191), (10, .ireturn, 1, 0, 0, 0, 0)], 0)]
/-- Simplespan.isKept()Z -/
def pz_c146 : List (Nat × List pz_Op × Nat) := [
  (0, [(1, .aload_n 0, 1, 0, 0, 0, 0), (0, .iconst 0, 1, 0, 0, 0, 0), (4, .invokevirtual 227, 3, 174, 2, 10, 187), (0, .iconst 0, 1, 0, 0, 0, 0), (1, .istore_n 1, 1, 0, 0, 0, 0)], 7),
  (7, [(1, .iload_n 1, 1, 0, 0, 0, 0), (1, .aload_n 0, 1, 0, 0, 0, 0), (2, .getfield 12, 3, 10, 0, 9, 79), (2, .getfield 109, 3, 6, 2, 9, 88), (2, .getfield 113, 3, 9, 0, 0, 89), (4, .invokestatic 145, 3, 186, 1, 99, 170), (9, .if_icmp .ge 24, 3, 45, 0, 0, 0), (1, .aload_n 0, 1, 0, 0, 0, 0), (2, .getfield 48, 3, 10, 6, 9, 84), (1, .iload_n 1, 1, 0, 0, 0, 0), (4, .invokevirtual 230, 3, 76, 2, 7, 188), (0, .bipush 45, 2, 0, 0, 0, 0), (9, .if_icmp .eq 5, 3, 39, 0, 0, 0), (0, .iconst 0, 1, 0, 0, 0, 0), (10, .ireturn, 1, 1, 0, 0, 0)], 0),
  (39, [(1, .iinc 1 1, 3, 0, 0, 0, 0), (8, .goto (-35), 3, 7, 0, 0, 0)], 0),
  (45, [(0, .iconst 1, 1, 0, 0, 0, 0), (10, .ireturn, 1, 1, 0, 0, 0)], 0)]
/-- Simplespan.reason(I)C -/
def pz_c147 : List (Nat × List pz_Op × Nat) := [
  (0, [(1, .aload_n 0, 1, 0, 0, 0, 0), (1, .iload_n 1, 1, 0, 0, 0, 0), (4, .invokevirtual 66, 3, 170, 2, 10, 155), (1, .aload_n 0, 1, 0, 0, 0, 0), (4, .invokevirtual 216, 3, 182, 1, 10, 184), (1, .iload_n 1, 1, 0, 0, 0, 0), (1, .aload_n 0, 1, 0, 0, 0, 0), (2, .getfield 12, 3, 10, 0, 9, 79), (2, .getfield 120, 3, 6, 3, 9, 90), (4, .invokevirtual 249, 3, 105, 3, 8, 192), (10, .ireturn, 1, 2, 0, 0, 0)], 0)]
/-- Simplespan.lowest(I)I -/
def pz_c148 : List (Nat × List pz_Op × Nat) := [
  (0, [(1, .aload_n 0, 1, 0, 0, 0, 0), (1, .iload_n 1, 1, 0, 0, 0, 0), (4, .invokevirtual 66, 3, 170, 2, 10, 155), (1, .aload_n 0, 1, 0, 0, 0, 0), (2, .getfield 12, 3, 10, 0, 9, 79), (2, .getfield 120, 3, 6, 3, 9, 90), (1, .iload_n 1, 1, 0, 0, 0, 0), (4, .invokevirtual 124, 3, 26, 2, 2, 165), (9, .ifCond .ne 7, 3, 23, 0, 0, 0), (0, .iconst 1, 1, 0, 0, 0, 0), (8, .goto 4, 3, 24, 0, 0, 0)], 0),
  (23, [(0, .iconst 0, 1, 0, 0, 0, 0)], 24),
  (24, [(4, .invokestatic 87, 3, 173, 1, 99, 158), (1, .aload_n 0, 1, 0, 0, 0, 0), (4, .invokevirtual 216, 3, 182, 1, 10, 184), (1, .iload_n 1, 1, 0, 0, 0, 0), (1, .aload_n 0, 1, 0, 0, 0, 0), (2, .getfield 12, 3, 10, 0, 9, 79), (2, .getfield 120, 3, 6, 3, 9, 90), (4, .invokevirtual 253, 3, 103, 3, 8, 193), (10, .ireturn, 1, 0, 0, 0, 0)], 0)]
/-- Simplespan.uppermost(I)I -/
def pz_c149 : List (Nat × List pz_Op × Nat) := [
  (0, [(1, .aload_n 0, 1, 0, 0, 0, 0), (1, .iload_n 1, 1, 0, 0, 0, 0), (4, .invokevirtual 66, 3, 170, 2, 10, 155), (1, .aload_n 0, 1, 0, 0, 0, 0), (2, .getfield 12, 3, 10, 0, 9, 79), (2, .getfield 120, 3, 6, 3, 9, 90), (1, .iload_n 1, 1, 0, 0, 0, 0), (4, .invokevirtual 124, 3, 26, 2, 2, 165), (9, .ifCond .ne 7, 3, 23, 0, 0, 0), (0, .iconst 1, 1, 0, 0, 0, 0), (8, .goto 4, 3, 24, 0, 0, 0)], 0),
  (23, [(0, .iconst 0, 1, 0, 0, 0, 0)], 24),
  (24, [(4, .invokestatic 87, 3, 173, 1, 99, 158), (1, .aload_n 0, 1, 0, 0, 0, 0), (4, .invokevirtual 216, 3, 182, 1, 10, 184), (1, .iload_n 1, 1, 0, 0, 0, 0), (1, .aload_n 0, 1, 0, 0, 0, 0), (2, .getfield 12, 3, 10, 0, 9, 79), (2, .getfield 120, 3, 6, 3, 9, 90), (4, .invokevirtual 257, 3, 104, 3, 8, 194), (10, .ireturn, 1, 0, 0, 0, 0)], 0)]
/-- Simplespan.start(I)I -/
def pz_c150 : List (Nat × List pz_Op × Nat) := [
  (0, [(1, .aload_n 0, 1, 0, 0, 0, 0), (1, .iload_n 1, 1, 0, 0, 0, 0), (4, .invokevirtual 66, 3, 170, 2, 10, 155), (1, .aload_n 0, 1, 0, 0, 0, 0), (4, .invokevirtual 216, 3, 182, 1, 10, 184), (1, .iload_n 1, 1, 0, 0, 0, 0), (1, .aload_n 0, 1, 0, 0, 0, 0), (2, .getfield 12, 3, 10, 0, 9, 79), (2, .getfield 120, 3, 6, 3, 9, 90), (4, .invokevirtual 249, 3, 105, 3, 8, 192), (0, .bipush 45, 2, 0, 0, 0, 0), (9, .if_icmp .eq 14, 3, 36, 0, 0, 0), (7, .new 140, 3, 3, 0, 0, 5)], 0),
  (36, [(1, .aload_n 0, 1, 0, 0, 0, 0), (2, .getfield 12, 3, 10, 0, 9, 79), (2, .getfield 120, 3, 6, 3, 9, 90), (1, .iload_n 1, 1, 0, 0, 0, 0), (4, .invokevirtual 262, 3, 28, 2, 2, 195), (1, .aload_n 0, 1, 0, 0, 0, 0), (4, .invokevirtual 63, 3, 178, 1, 10, 154), (1, .aload_n 0, 1, 0, 0, 0, 0), (2, .getfield 12, 3, 10, 0, 9, 79), (2, .getfield 120, 3, 6, 3, 9, 90), (2, .getfield 265, 3, 2, 0, 0, 97), (10, .ireturn, 1, 0, 0, 0, 0)], 0)]
/-- Simplespan.end(I)I -/
def pz_c151 : List (Nat × List pz_Op × Nat) := [
  (0, [(1, .iload_n 1, 1, 0, 0, 0, 0), (1, .aload_n 0, 1, 0, 0, 0, 0), (2, .getfield 12, 3, 10, 0, 9, 79), (2, .getfield 109, 3, 6, 2, 9, 88), (2, .getfield 113, 3, 9, 0, 0, 89), (4, .invokestatic 94, 3, 171, 2, 99, 160), (1, .aload_n 0, 1, 0, 0, 0, 0), (2, .getfield 12, 3, 10, 0, 9, 79), (2, .getfield 109, 3, 6, 2, 9, 88), (1, .iload_n 1, 1, 0, 0, 0, 0), (1, .aload_n 0, 1, 0, 0, 0, 0), (2, .getfield 12, 3, 10, 0, 9, 79), (2, .getfield 120, 3, 6, 3, 9, 90), (4, .invokevirtual 268, 3, 117, 3, 9, 196), (4, .invokestatic 87, 3, 173, 1, 99, 158), (1, .aload_n 0, 1, 0, 0, 0, 0), (2, .getfield 12, 3, 10, 0, 9, 79), (2, .getfield 109, 3, 6, 2, 9, 88), (1, .iload_n 1, 1, 0, 0, 0, 0), (1, .aload_n 0, 1, 0, 0, 0, 0), (2, .getfield 12, 3, 10, 0, 9, 79), (2, .getfield 120, 3, 6, 3, 9, 90), (4, .invokevirtual 272, 3, 118, 3, 9, 197), (1, .istore_n 2, 1, 0, 0, 0, 0), (1, .aload_n 0, 1, 0, 0, 0, 0), (2, .getfield 12, 3, 10, 0, 9, 79), (2, .getfield 109, 3, 6, 2, 9, 88), (1, .iload_n 1, 1, 0, 0, 0, 0), (1, .iload_n 2, 1, 0, 0, 0, 0), (4, .invokevirtual 275, 3, 119, 3, 9, 198), (9, .ifCond .ne 14, 3, 80, 0, 0, 0), (7, .new 140, 3, 3, 0, 0, 6)], 0),
  (80, [(1, .aload_n 0, 1, 0, 0, 0, 0), (2, .getfield 12, 3, 10, 0, 9, 79), (2, .getfield 120, 3, 6, 3, 9, 90), (1, .aload_n 0, 1, 0, 0, 0, 0), (2, .getfield 12, 3, 10, 0, 9, 79), (2, .getfield 109, 3, 6, 2, 9, 88), (1, .iload_n 1, 1, 0, 0, 0, 0), (4, .invokevirtual 280, 3, 111, 2, 9, 199), (4, .invokevirtual 262, 3, 28, 2, 2, 195), (1, .aload_n 0, 1, 0, 0, 0, 0), (4, .invokevirtual 63, 3, 178, 1, 10, 154), (1, .iload_n 2, 1, 0, 0, 0, 0), (10, .ireturn, 1, 0, 0, 0, 0)], 0)]
/-- Simplespan.pass(I)I -/
def pz_c152 : List (Nat × List pz_Op × Nat) := [
  (0, [(1, .iload_n 1, 1, 0, 0, 0, 0), (0, .iconst 1, 1, 0, 0, 0, 0), (0, .sipush 200, 3, 0, 0, 0, 0), (4, .invokestatic 74, 3, 185, 3, 99, 157), (4, .invokestatic 70, 3, 172, 1, 99, 156), (1, .aload_n 0, 1, 0, 0, 0, 0), (2, .getfield 12, 3, 10, 0, 9, 79), (2, .getfield 109, 3, 6, 2, 9, 88), (1, .iload_n 1, 1, 0, 0, 0, 0), (1, .aload_n 0, 1, 0, 0, 0, 0), (2, .getfield 12, 3, 10, 0, 9, 79), (2, .getfield 120, 3, 6, 3, 9, 90), (4, .invokevirtual 283, 3, 120, 3, 9, 200), (9, .ifCond .eq 14, 3, 43, 0, 0, 0), (7, .new 140, 3, 3, 0, 0, 7)], 0),
  (43, [(1, .aload_n 0, 1, 0, 0, 0, 0), (2, .getfield 12, 3, 10, 0, 9, 79), (2, .getfield 120, 3, 6, 3, 9, 90), (2, .getfield 265, 3, 2, 0, 0, 97), (1, .iload_n 1, 1, 0, 0, 0, 0), (0, .iadd, 1, 0, 0, 0, 0), (0, .sipush 600, 3, 0, 0, 0, 0), (9, .if_icmp .gt 7, 3, 65, 0, 0, 0), (0, .iconst 1, 1, 0, 0, 0, 0), (8, .goto 4, 3, 66, 0, 0, 0)], 0),
  (65, [(0, .iconst 0, 1, 0, 0, 0, 0)], 66),
  (66, [(4, .invokestatic 87, 3, 173, 1, 99, 158), (1, .aload_n 0, 1, 0, 0, 0, 0), (2, .getfield 12, 3, 10, 0, 9, 79), (2, .getfield 120, 3, 6, 3, 9, 90), (0, .dup, 1, 0, 0, 0, 0), (2, .getfield 265, 3, 2, 0, 0, 97), (1, .iload_n 1, 1, 0, 0, 0, 0), (0, .iadd, 1, 0, 0, 0, 0), (2, .putfield 265, 3, 2, 0, 0, 97), (1, .aload_n 0, 1, 0, 0, 0, 0), (2, .getfield 12, 3, 10, 0, 9, 79), (2, .getfield 120, 3, 6, 3, 9, 90), (2, .getfield 265, 3, 2, 0, 0, 97), (10, .ireturn, 1, 0, 0, 0, 0)], 0)]
/-- Simplespan.now()I -/
def pz_c153 : List (Nat × List pz_Op × Nat) := [
  (0, [(1, .aload_n 0, 1, 0, 0, 0, 0), (2, .getfield 12, 3, 10, 0, 9, 79), (2, .getfield 120, 3, 6, 3, 9, 90), (2, .getfield 265, 3, 2, 0, 0, 97), (10, .ireturn, 1, 0, 0, 0, 0)], 0)]
/-- Simplespan.startedAt(I)I -/
def pz_c154 : List (Nat × List pz_Op × Nat) := [
  (0, [(1, .aload_n 0, 1, 0, 0, 0, 0), (1, .iload_n 1, 1, 0, 0, 0, 0), (4, .invokevirtual 66, 3, 170, 2, 10, 155), (1, .aload_n 0, 1, 0, 0, 0, 0), (2, .getfield 12, 3, 10, 0, 9, 79), (2, .getfield 120, 3, 6, 3, 9, 90), (1, .iload_n 1, 1, 0, 0, 0, 0), (4, .invokevirtual 124, 3, 26, 2, 2, 165), (4, .invokestatic 87, 3, 173, 1, 99, 158), (1, .aload_n 0, 1, 0, 0, 0, 0), (2, .getfield 12, 3, 10, 0, 9, 79), (2, .getfield 120, 3, 6, 3, 9, 90), (1, .iload_n 1, 1, 0, 0, 0, 0), (4, .invokevirtual 288, 3, 25, 2, 2, 201), (10, .ireturn, 1, 0, 0, 0, 0)], 0)]
/-- Simplespan.addActivity(III)I -/
def pz_c155 : List (Nat × List pz_Op × Nat) := [
  (0, [(1, .aload_n 0, 1, 0, 0, 0, 0), (1, .iload_n 1, 1, 0, 0, 0, 0), (4, .invokevirtual 66, 3, 170, 2, 10, 155), (1, .aload_n 0, 1, 0, 0, 0, 0), (1, .iload_n 2, 1, 0, 0, 0, 0), (4, .invokevirtual 66, 3, 170, 2, 10, 155), (1, .iload_n 1, 1, 0, 0, 0, 0), (1, .iload_n 2, 1, 0, 0, 0, 0), (9, .if_icmp .eq 7, 3, 19, 0, 0, 0), (0, .iconst 1, 1, 0, 0, 0, 0), (8, .goto 4, 3, 20, 0, 0, 0)], 0),
  (19, [(0, .iconst 0, 1, 0, 0, 0, 0)], 20),
  (20, [(4, .invokestatic 70, 3, 172, 1, 99, 156), (1, .iload_n 3, 1, 0, 0, 0, 0), (0, .iconst 1, 1, 0, 0, 0, 0), (0, .bipush 9, 2, 0, 0, 0, 0), (4, .invokestatic 74, 3, 185, 3, 99, 157), (4, .invokestatic 70, 3, 172, 1, 99, 156), (1, .aload_n 0, 1, 0, 0, 0, 0), (2, .getfield 12, 3, 10, 0, 9, 79), (2, .getfield 291, 3, 6, 4, 9, 98), (2, .getfield 295, 3, 0, 0, 0, 99), (0, .iconst 5, 1, 0, 0, 0, 0), (9, .if_icmp .ge 7, 3, 51, 0, 0, 0), (0, .iconst 1, 1, 0, 0, 0, 0), (8, .goto 4, 3, 52, 0, 0, 0)], 0),
  (51, [(0, .iconst 0, 1, 0, 0, 0, 0)], 52),
  (52, [(4, .invokestatic 87, 3, 173, 1, 99, 158), (1, .aload_n 0, 1, 0, 0, 0, 0), (2, .getfield 12, 3, 10, 0, 9, 79), (2, .getfield 291, 3, 6, 4, 9, 98), (1, .iload_n 1, 1, 0, 0, 0, 0), (1, .iload_n 2, 1, 0, 0, 0, 0), (1, .iload_n 3, 1, 0, 0, 0, 0), (4, .invokevirtual 298, 3, 4, 4, 0, 202), (10, .ireturn, 1, 0, 0, 0, 0)], 0)]
/-- Simplespan.setCapacity(I)I -/
def pz_c156 : List (Nat × List pz_Op × Nat) := [
  (0, [(1, .iload_n 1, 1, 0, 0, 0, 0), (0, .iconst 0, 1, 0, 0, 0, 0), (0, .bipush 40, 2, 0, 0, 0, 0), (4, .invokestatic 74, 3, 185, 3, 99, 157), (4, .invokestatic 70, 3, 172, 1, 99, 156), (1, .aload_n 0, 1, 0, 0, 0, 0), (2, .getfield 12, 3, 10, 0, 9, 79), (2, .getfield 291, 3, 6, 4, 9, 98), (2, .getfield 301, 3, 0, 1, 0, 100), (1, .istore_n 2, 1, 0, 0, 0, 0), (1, .aload_n 0, 1, 0, 0, 0, 0), (2, .getfield 12, 3, 10, 0, 9, 79), (2, .getfield 291, 3, 6, 4, 9, 98), (1, .iload_n 1, 1, 0, 0, 0, 0), (2, .putfield 301, 3, 0, 1, 0, 100), (1, .iload_n 2, 1, 0, 0, 0, 0), (10, .ireturn, 1, 0, 0, 0, 0)], 0)]
/-- Simplespan.firstTime(I)I -/
def pz_c157 : List (Nat × List pz_Op × Nat) := [
  (0, [(1, .aload_n 0, 1, 0, 0, 0, 0), (1, .iload_n 1, 1, 0, 0, 0, 0), (4, .invokevirtual 66, 3, 170, 2, 10, 155), (1, .aload_n 0, 1, 0, 0, 0, 0), (4, .invokevirtual 169, 3, 180, 1, 10, 174), (1, .iload_n 1, 1, 0, 0, 0, 0), (4, .invokevirtual 304, 3, 63, 2, 5, 203), (10, .ireturn, 1, 0, 0, 0, 0)], 0)]
/-- Simplespan.use(I)I -/
def pz_c158 : List (Nat × List pz_Op × Nat) := [
  (0, [(1, .iload_n 1, 1, 0, 0, 0, 0), (0, .iconst 0, 1, 0, 0, 0, 0), (0, .sipush 999, 3, 0, 0, 0, 0), (4, .invokestatic 74, 3, 185, 3, 99, 157), (4, .invokestatic 70, 3, 172, 1, 99, 156), (1, .aload_n 0, 1, 0, 0, 0, 0), (2, .getfield 12, 3, 10, 0, 9, 79), (2, .getfield 291, 3, 6, 4, 9, 98), (1, .iload_n 1, 1, 0, 0, 0, 0), (1, .aload_n 0, 1, 0, 0, 0, 0), (4, .invokevirtual 169, 3, 180, 1, 10, 174), (4, .invokevirtual 307, 3, 9, 3, 0, 204), (10, .ireturn, 1, 0, 0, 0, 0)], 0)]
/-- Simplespan.peak()I -/
def pz_c159 : List (Nat × List pz_Op × Nat) := [
  (0, [(1, .aload_n 0, 1, 0, 0, 0, 0), (4, .invokevirtual 311, 3, 176, 1, 10, 205), (10, .ireturn, 1, 0, 0, 0, 0)], 0)]
/-- Simplespan.peakSet()I -/
def pz_c160 : List (Nat × List pz_Op × Nat) := [
  (0, [(1, .aload_n 0, 1, 0, 0, 0, 0), (2, .getfield 12, 3, 10, 0, 9, 79), (2, .getfield 291, 3, 6, 4, 9, 98), (1, .aload_n 0, 1, 0, 0, 0, 0), (4, .invokevirtual 311, 3, 176, 1, 10, 205), (1, .aload_n 0, 1, 0, 0, 0, 0), (2, .getfield 32, 3, 10, 4, 9, 82), (4, .invokevirtual 314, 3, 10, 3, 0, 206), (10, .ireturn, 1, 0, 0, 0, 0)], 0)]
/-- java/lang/Math.max(II)I -/
def pz_c161 : List (Nat × List pz_Op × Nat) := [
  (0, [(1, .iload_n 0, 1, 0, 0, 0, 0), (1, .iload_n 1, 1, 0, 0, 0, 0), (9, .if_icmp .lt 7, 3, 9, 0, 0, 0), (1, .iload_n 0, 1, 0, 0, 0, 0), (8, .goto 4, 3, 10, 0, 0, 0)], 0),
  (9, [(1, .iload_n 1, 1, 0, 0, 0, 0)], 10),
  (10, [(10, .ireturn, 1, 0, 0, 0, 0)], 0)]
/-- Simplespan.level()I -/
def pz_c162 : List (Nat × List pz_Op × Nat) := [
  (0, [(1, .aload_n 0, 1, 0, 0, 0, 0), (4, .invokevirtual 161, 3, 179, 1, 10, 173), (2, .getfield 165, 3, 5, 1, 1, 91), (4, .invokestatic 87, 3, 173, 1, 99, 158), (0, .iconst 0, 1, 0, 0, 0, 0), (1, .istore_n 1, 1, 0, 0, 0, 0)], 12),
  (12, [(1, .iload_n 1, 1, 0, 0, 0, 0), (0, .bipush 40, 2, 0, 0, 0, 0), (9, .if_icmp .ge 16, 3, 31, 0, 0, 0), (1, .aload_n 0, 1, 0, 0, 0, 0), (4, .invokevirtual 321, 3, 183, 1, 10, 207), (9, .ifCond .eq 9, 3, 31, 0, 0, 0), (1, .iinc 1 1, 3, 0, 0, 0, 0), (8, .goto (-16), 3, 12, 0, 0, 0)], 0),
  (31, [(1, .iload_n 1, 1, 0, 0, 0, 0), (10, .ireturn, 1, 0, 0, 0, 0)], 0)]
/-- Simplespan.setCost(IIII)I -/
def pz_c163 : List (Nat × List pz_Op × Nat) := [
  (0, [(1, .aload_n 0, 1, 0, 0, 0, 0), (1, .iload_n 1, 1, 0, 0, 0, 0), (4, .invokevirtual 66, 3, 170, 2, 10, 155), (1, .iload_n 2, 1, 0, 0, 0, 0), (0, .iconst 0, 1, 0, 0, 0, 0), (0, .sipush 999, 3, 0, 0, 0, 0), (4, .invokestatic 74, 3, 185, 3, 99, 157), (4, .invokestatic 70, 3, 172, 1, 99, 156), (1, .iload_n 3, 1, 0, 0, 0, 0), (0, .iconst 0, 1, 0, 0, 0, 0), (0, .bipush 99, 2, 0, 0, 0, 0), (4, .invokestatic 74, 3, 185, 3, 99, 157), (4, .invokestatic 70, 3, 172, 1, 99, 156), (1, .iload 4, 2, 0, 0, 0, 0), (0, .iconst 0, 1, 0, 0, 0, 0), (0, .bipush 99, 2, 0, 0, 0, 0), (4, .invokestatic 74, 3, 185, 3, 99, 157), (4, .invokestatic 70, 3, 172, 1, 99, 156), (1, .aload_n 0, 1, 0, 0, 0, 0), (2, .getfield 12, 3, 10, 0, 9, 79), (2, .getfield 324, 3, 6, 5, 9, 101), (1, .iload_n 1, 1, 0, 0, 0, 0), (1, .iload_n 2, 1, 0, 0, 0, 0), (1, .iload_n 3, 1, 0, 0, 0, 0), (1, .iload 4, 2, 0, 0, 0, 0), (4, .invokevirtual 328, 3, 31, 5, 3, 208), (10, .ireturn, 1, 0, 0, 0, 0)], 0)]
/-- Simplespan.costOf(II)I -/
def pz_c164 : List (Nat × List pz_Op × Nat) := [
  (0, [(1, .aload_n 0, 1, 0, 0, 0, 0), (1, .iload_n 1, 1, 0, 0, 0, 0), (4, .invokevirtual 66, 3, 170, 2, 10, 155), (1, .iload_n 2, 1, 0, 0, 0, 0), (0, .iconst 0, 1, 0, 0, 0, 0), (0, .sipush 999, 3, 0, 0, 0, 0), (4, .invokestatic 74, 3, 185, 3, 99, 157), (4, .invokestatic 70, 3, 172, 1, 99, 156), (1, .aload_n 0, 1, 0, 0, 0, 0), (2, .getfield 12, 3, 10, 0, 9, 79), (2, .getfield 324, 3, 6, 5, 9, 101), (1, .iload_n 1, 1, 0, 0, 0, 0), (1, .iload_n 2, 1, 0, 0, 0, 0), (4, .invokevirtual 333, 3, 32, 3, 3, 209), (10, .ireturn, 1, 0, 0, 0, 0)], 0)]
/-- java/lang/Math.max(II)I -/
def pz_c165 : List (Nat × List pz_Op × Nat) := [
  (0, [(1, .iload_n 0, 1, 0, 0, 0, 0), (1, .iload_n 1, 1, 0, 0, 0, 0), (9, .if_icmp .lt 7, 3, 9, 0, 0, 0), (1, .iload_n 0, 1, 0, 0, 0, 0), (8, .goto 4, 3, 10, 0, 0, 0)], 0),
  (9, [(1, .iload_n 1, 1, 0, 0, 0, 0)], 10),
  (10, [(10, .ireturn, 1, 0, 0, 0, 0)], 0)]
/-- Simplespan.open()I -/
def pz_c166 : List (Nat × List pz_Op × Nat) := [
  (0, [(1, .aload_n 0, 1, 0, 0, 0, 0), (2, .getfield 336, 3, 10, 2, 0, 102), (0, .iconst 4, 1, 0, 0, 0, 0), (9, .if_icmp .ge 7, 3, 12, 0, 0, 0), (0, .iconst 1, 1, 0, 0, 0, 0), (8, .goto 4, 3, 13, 0, 0, 0)], 0),
  (12, [(0, .iconst 0, 1, 0, 0, 0, 0)], 13),
  (13, [(4, .invokestatic 87, 3, 173, 1, 99, 158), (1, .aload_n 0, 1, 0, 0, 0, 0), (1, .aload_n 0, 1, 0, 0, 0, 0), (2, .getfield 336, 3, 10, 2, 0, 102), (4, .invokevirtual 339, 3, 184, 2, 10, 210), (1, .astore_n 1, 1, 0, 0, 0, 0), (1, .aload_n 1, 1, 0, 0, 0, 0), (9, .ifnull 21, 3, 47, 0, 0, 0), (1, .aload_n 1, 1, 0, 0, 0, 0), (1, .aload_n 0, 1, 0, 0, 0, 0), (2, .getfield 12, 3, 10, 0, 9, 79), (4, .invokevirtual 343, 3, 65, 2, 6, 211), (1, .aload_n 0, 1, 0, 0, 0, 0), (0, .dup, 1, 0, 0, 0, 0), (2, .getfield 336, 3, 10, 2, 0, 102), (0, .iconst 1, 1, 0, 0, 0, 0), (0, .iadd, 1, 0, 0, 0, 0), (2, .putfield 336, 3, 10, 2, 0, 102)], 47),
  (47, [(1, .aload_n 0, 1, 0, 0, 0, 0), (2, .getfield 336, 3, 10, 2, 0, 102), (10, .ireturn, 1, 0, 0, 0, 0)], 0)]
/-- Simplespan.takeBack()I -/
def pz_c167 : List (Nat × List pz_Op × Nat) := [
  (0, [(1, .aload_n 0, 1, 0, 0, 0, 0), (2, .getfield 336, 3, 10, 2, 0, 102), (9, .ifCond .le 7, 3, 11, 0, 0, 0), (0, .iconst 1, 1, 0, 0, 0, 0), (8, .goto 4, 3, 12, 0, 0, 0)], 0),
  (11, [(0, .iconst 0, 1, 0, 0, 0, 0)], 12),
  (12, [(4, .invokestatic 87, 3, 173, 1, 99, 158), (1, .aload_n 0, 1, 0, 0, 0, 0), (1, .aload_n 0, 1, 0, 0, 0, 0), (2, .getfield 336, 3, 10, 2, 0, 102), (0, .iconst 1, 1, 0, 0, 0, 0), (0, .isub, 1, 0, 0, 0, 0), (4, .invokevirtual 339, 3, 184, 2, 10, 210), (1, .astore_n 1, 1, 0, 0, 0, 0), (1, .aload_n 1, 1, 0, 0, 0, 0), (9, .ifnull 21, 3, 48, 0, 0, 0), (1, .aload_n 0, 1, 0, 0, 0, 0), (2, .getfield 12, 3, 10, 0, 9, 79), (1, .aload_n 1, 1, 0, 0, 0, 0), (4, .invokevirtual 343, 3, 65, 2, 6, 211), (1, .aload_n 0, 1, 0, 0, 0, 0), (0, .dup, 1, 0, 0, 0, 0), (2, .getfield 336, 3, 10, 2, 0, 102), (0, .iconst 1, 1, 0, 0, 0, 0), (0, .isub, 1, 0, 0, 0, 0), (2, .putfield 336, 3, 10, 2, 0, 102)], 48),
  (48, [(1, .aload_n 0, 1, 0, 0, 0, 0), (4, .invokevirtual 63, 3, 178, 1, 10, 154), (1, .aload_n 0, 1, 0, 0, 0, 0), (2, .getfield 336, 3, 10, 2, 0, 102), (10, .ireturn, 1, 0, 0, 0, 0)], 0)]
/-- java/lang/Math.max(II)I -/
def pz_c168 : List (Nat × List pz_Op × Nat) := [
  (0, [(1, .iload_n 0, 1, 0, 0, 0, 0), (1, .iload_n 1, 1, 0, 0, 0, 0), (9, .if_icmp .lt 7, 3, 9, 0, 0, 0), (1, .iload_n 0, 1, 0, 0, 0, 0), (8, .goto 4, 3, 10, 0, 0, 0)], 0),
  (9, [(1, .iload_n 1, 1, 0, 0, 0, 0)], 10),
  (10, [(10, .ireturn, 1, 0, 0, 0, 0)], 0)]
/-- java/lang/Math.max(II)I -/
def pz_c169 : List (Nat × List pz_Op × Nat) := [
  (0, [(1, .iload_n 0, 1, 0, 0, 0, 0), (1, .iload_n 1, 1, 0, 0, 0, 0), (9, .if_icmp .lt 7, 3, 9, 0, 0, 0), (1, .iload_n 0, 1, 0, 0, 0, 0), (8, .goto 4, 3, 10, 0, 0, 0)], 0),
  (9, [(1, .iload_n 1, 1, 0, 0, 0, 0)], 10),
  (10, [(10, .ireturn, 1, 0, 0, 0, 0)], 0)]
/-- Simplespan.needEvent(I)V -/
def pz_c170 : List (Nat × List pz_Op × Nat) := [
  (0, [(1, .iload_n 1, 1, 0, 0, 0, 0), (1, .aload_n 0, 1, 0, 0, 0, 0), (2, .getfield 12, 3, 10, 0, 9, 79), (2, .getfield 52, 3, 6, 0, 0, 85), (4, .invokestatic 94, 3, 171, 2, 99, 160), (11, .return_, 1, 0, 0, 0, 0)], 0)]
/-- Simplespan.needItem(II)V -/
def pz_c171 : List (Nat × List pz_Op × Nat) := [
  (0, [(1, .iload_n 0, 1, 0, 0, 0, 0), (9, .ifCond .lt 8, 3, 9, 0, 0, 0), (1, .iload_n 0, 1, 0, 0, 0, 0), (1, .iload_n 1, 1, 0, 0, 0, 0), (9, .if_icmp .lt 14, 3, 20, 0, 0, 0)], 9),
  (9, [(7, .new 354, 3, 2, 0, 0, 8)], 0),
  (20, [(11, .return_, 1, 0, 0, 0, 0)], 0)]
/-- Simplespan.needRange(Z)V -/
def pz_c172 : List (Nat × List pz_Op × Nat) := [
  (0, [(1, .iload_n 0, 1, 0, 0, 0, 0), (9, .ifCond .ne 14, 3, 15, 0, 0, 0), (7, .new 359, 3, 1, 0, 0, 9)], 0),
  (15, [(11, .return_, 1, 0, 0, 0, 0)], 0)]
/-- Simplespan.needState(Z)V -/
def pz_c173 : List (Nat × List pz_Op × Nat) := [
  (0, [(1, .iload_n 0, 1, 0, 0, 0, 0), (9, .ifCond .ne 14, 3, 15, 0, 0, 0), (7, .new 56, 3, 0, 0, 0, 10)], 0),
  (15, [(11, .return_, 1, 0, 0, 0, 0)], 0)]
/-- Simplespan.needPlayable(I)V -/
def pz_c174 : List (Nat × List pz_Op × Nat) := [
  (0, [(1, .iload_n 1, 1, 0, 0, 0, 0), (0, .iconst 0, 1, 0, 0, 0, 0), (1, .aload_n 0, 1, 0, 0, 0, 0), (2, .getfield 12, 3, 10, 0, 9, 79), (2, .getfield 109, 3, 6, 2, 9, 88), (2, .getfield 113, 3, 9, 0, 0, 89), (4, .invokestatic 145, 3, 186, 1, 99, 170), (0, .iconst 1, 1, 0, 0, 0, 0), (0, .isub, 1, 0, 0, 0, 0), (4, .invokestatic 74, 3, 185, 3, 99, 157), (4, .invokestatic 70, 3, 172, 1, 99, 156), (1, .aload_n 0, 1, 0, 0, 0, 0), (2, .getfield 12, 3, 10, 0, 9, 79), (2, .getfield 120, 3, 6, 3, 9, 90), (4, .invokevirtual 366, 3, 27, 1, 2, 212), (9, .ifCond .ne 7, 3, 40, 0, 0, 0), (0, .iconst 1, 1, 0, 0, 0, 0), (8, .goto 4, 3, 41, 0, 0, 0)], 0),
  (40, [(0, .iconst 0, 1, 0, 0, 0, 0)], 41),
  (41, [(4, .invokestatic 87, 3, 173, 1, 99, 158), (1, .aload_n 0, 1, 0, 0, 0, 0), (4, .invokevirtual 206, 3, 181, 1, 10, 183), (2, .getfield 210, 3, 8, 1, 1, 93), (4, .invokestatic 87, 3, 173, 1, 99, 158), (11, .return_, 1, 0, 0, 0, 0)], 0)]
/-- Simplespan.needConflict()V -/
def pz_c175 : List (Nat × List pz_Op × Nat) := [
  (0, [(1, .aload_n 0, 1, 0, 0, 0, 0), (4, .invokevirtual 161, 3, 179, 1, 10, 173), (2, .getfield 165, 3, 5, 1, 1, 91), (9, .ifCond .ne 7, 3, 14, 0, 0, 0), (0, .iconst 1, 1, 0, 0, 0, 0), (8, .goto 4, 3, 15, 0, 0, 0)], 0),
  (14, [(0, .iconst 0, 1, 0, 0, 0, 0)], 15),
  (15, [(4, .invokestatic 87, 3, 173, 1, 99, 158), (1, .aload_n 0, 1, 0, 0, 0, 0), (2, .getfield 369, 3, 10, 9, 1, 103), (9, .ifCond .ne 15, 3, 37, 0, 0, 0), (1, .aload_n 0, 1, 0, 0, 0, 0), (2, .getfield 25, 3, 10, 3, 9, 81), (4, .invokevirtual 372, 3, 45, 1, 4, 213), (1, .aload_n 0, 1, 0, 0, 0, 0), (0, .iconst 1, 1, 0, 0, 0, 0), (2, .putfield 369, 3, 10, 9, 1, 103)], 37),
  (37, [(11, .return_, 1, 0, 0, 0, 0)], 0)]
/-- Simplespan.neededPeak()I -/
def pz_c176 : List (Nat × List pz_Op × Nat) := [
  (0, [(1, .aload_n 0, 1, 0, 0, 0, 0), (2, .getfield 12, 3, 10, 0, 9, 79), (2, .getfield 291, 3, 6, 4, 9, 98), (1, .aload_n 0, 1, 0, 0, 0, 0), (4, .invokevirtual 169, 3, 180, 1, 10, 174), (4, .invokevirtual 375, 3, 11, 2, 0, 214), (1, .istore_n 1, 1, 0, 0, 0, 0), (1, .iload_n 1, 1, 0, 0, 0, 0), (0, .iconst (-1), 1, 0, 0, 0, 0), (9, .if_icmp .ne 14, 3, 31, 0, 0, 0), (7, .new 354, 3, 2, 0, 0, 11)], 0),
  (31, [(1, .iload_n 1, 1, 0, 0, 0, 0), (10, .ireturn, 1, 0, 0, 0, 0)], 0)]
/-- Simplespan.toldValue(I)I -/
def pz_c177 : List (Nat × List pz_Op × Nat) := [
  (0, [(1, .iload_n 0, 1, 0, 0, 0, 0), (3, .ldc_w 351, 3, 1000000000, 0, 0, 1148), (9, .if_icmp .ne 14, 3, 18, 0, 0, 0), (7, .new 140, 3, 3, 0, 0, 12)], 0),
  (18, [(1, .iload_n 0, 1, 0, 0, 0, 0), (10, .ireturn, 1, 0, 0, 0, 0)], 0)]
/-- Simplespan.forget()V -/
def pz_c178 : List (Nat × List pz_Op × Nat) := [
  (0, [(1, .aload_n 0, 1, 0, 0, 0, 0), (0, .iconst 0, 1, 0, 0, 0, 0), (2, .putfield 383, 3, 10, 7, 1, 104), (1, .aload_n 0, 1, 0, 0, 0, 0), (0, .iconst 0, 1, 0, 0, 0, 0), (2, .putfield 386, 3, 10, 8, 1, 105), (1, .aload_n 0, 1, 0, 0, 0, 0), (0, .iconst 0, 1, 0, 0, 0, 0), (2, .putfield 369, 3, 10, 9, 1, 103), (11, .return_, 1, 0, 0, 0, 0)], 0)]
/-- Simplespan.knownNet()LSimplespan$Net; -/
def pz_c179 : List (Nat × List pz_Op × Nat) := [
  (0, [(1, .aload_n 0, 1, 0, 0, 0, 0), (2, .getfield 383, 3, 10, 7, 1, 104), (9, .ifCond .ne 33, 3, 37, 0, 0, 0), (1, .aload_n 0, 1, 0, 0, 0, 0), (2, .getfield 25, 3, 10, 3, 9, 81), (4, .invokevirtual 389, 3, 35, 1, 4, 215), (1, .aload_n 0, 1, 0, 0, 0, 0), (2, .getfield 25, 3, 10, 3, 9, 81), (1, .aload_n 0, 1, 0, 0, 0, 0), (2, .getfield 32, 3, 10, 4, 9, 82), (4, .invokevirtual 392, 3, 37, 2, 4, 216), (1, .aload_n 0, 1, 0, 0, 0, 0), (2, .getfield 32, 3, 10, 4, 9, 82), (4, .invokevirtual 396, 3, 56, 1, 5, 217), (1, .aload_n 0, 1, 0, 0, 0, 0), (0, .iconst 1, 1, 0, 0, 0, 0), (2, .putfield 383, 3, 10, 7, 1, 104)], 37),
  (37, [(1, .aload_n 0, 1, 0, 0, 0, 0), (2, .getfield 32, 3, 10, 4, 9, 82), (10, .areturn, 1, 9, 0, 0, 0)], 0)]
/-- Simplespan.soundNet()LSimplespan$Net; -/
def pz_c180 : List (Nat × List pz_Op × Nat) := [
  (0, [(1, .aload_n 0, 1, 0, 0, 0, 0), (4, .invokevirtual 161, 3, 179, 1, 10, 173), (2, .getfield 165, 3, 5, 1, 1, 91), (4, .invokestatic 87, 3, 173, 1, 99, 158), (1, .aload_n 0, 1, 0, 0, 0, 0), (2, .getfield 32, 3, 10, 4, 9, 82), (10, .areturn, 1, 9, 0, 0, 0)], 0)]
/-- Simplespan.knownReductions()LSimplespan$Reductions; -/
def pz_c181 : List (Nat × List pz_Op × Nat) := [
  (0, [(1, .aload_n 0, 1, 0, 0, 0, 0), (2, .getfield 386, 3, 10, 8, 1, 105), (9, .ifCond .ne 19, 3, 23, 0, 0, 0), (1, .aload_n 0, 1, 0, 0, 0, 0), (2, .getfield 39, 3, 10, 5, 9, 83), (1, .aload_n 0, 1, 0, 0, 0, 0), (4, .invokevirtual 161, 3, 179, 1, 10, 173), (4, .invokevirtual 399, 3, 88, 2, 8, 218), (1, .aload_n 0, 1, 0, 0, 0, 0), (0, .iconst 1, 1, 0, 0, 0, 0), (2, .putfield 386, 3, 10, 8, 1, 105)], 23),
  (23, [(1, .aload_n 0, 1, 0, 0, 0, 0), (2, .getfield 39, 3, 10, 5, 9, 83), (10, .areturn, 1, 9, 0, 0, 0)], 0)]
/-- Simplespan.goodReductions()LSimplespan$Reductions; -/
def pz_c182 : List (Nat × List pz_Op × Nat) := [
  (0, [(1, .aload_n 0, 1, 0, 0, 0, 0), (4, .invokevirtual 206, 3, 181, 1, 10, 183), (2, .getfield 210, 3, 8, 1, 1, 93), (4, .invokestatic 87, 3, 173, 1, 99, 158), (1, .aload_n 0, 1, 0, 0, 0, 0), (2, .getfield 39, 3, 10, 5, 9, 83), (10, .areturn, 1, 9, 0, 0, 0)], 0)]
/-- Simplespan.tellBestOrder()Z -/
def pz_c183 : List (Nat × List pz_Op × Nat) := [
  (0, [(1, .aload_n 0, 1, 0, 0, 0, 0), (2, .getfield 12, 3, 10, 0, 9, 79), (2, .getfield 78, 3, 6, 1, 9, 86), (2, .getfield 82, 3, 1, 0, 0, 87), (0, .bipush 40, 2, 0, 0, 0, 0), (9, .if_icmp .lt 5, 3, 17, 0, 0, 0), (0, .iconst 0, 1, 0, 0, 0, 0), (10, .ireturn, 1, 1, 0, 0, 0)], 0),
  (17, [(1, .aload_n 0, 1, 0, 0, 0, 0), (2, .getfield 12, 3, 10, 0, 9, 79), (2, .getfield 291, 3, 6, 4, 9, 98), (1, .astore_n 1, 1, 0, 0, 0, 0), (1, .aload_n 1, 1, 0, 0, 0, 0), (1, .aload_n 0, 1, 0, 0, 0, 0), (4, .invokevirtual 161, 3, 179, 1, 10, 173), (4, .invokevirtual 402, 3, 13, 2, 0, 219), (1, .istore_n 2, 1, 0, 0, 0, 0), (1, .iload_n 2, 1, 0, 0, 0, 0), (0, .iconst (-1), 1, 0, 0, 0, 0), (9, .if_icmp .ne 5, 3, 41, 0, 0, 0), (0, .iconst 0, 1, 0, 0, 0, 0), (10, .ireturn, 1, 1, 0, 0, 0)], 0),
  (41, [(1, .iload_n 2, 1, 0, 0, 0, 0), (0, .iconst 5, 1, 0, 0, 0, 0), (0, .idiv, 1, 0, 0, 0, 0), (1, .istore_n 3, 1, 0, 0, 0, 0), (1, .iload_n 2, 1, 0, 0, 0, 0), (0, .iconst 5, 1, 0, 0, 0, 0), (0, .irem, 1, 0, 0, 0, 0), (1, .istore 4, 2, 0, 0, 0, 0), (1, .aload_n 0, 1, 0, 0, 0, 0), (2, .getfield 12, 3, 10, 0, 9, 79), (2, .getfield 78, 3, 6, 1, 9, 86), (1, .aload_n 1, 1, 0, 0, 0, 0), (1, .iload 4, 2, 0, 0, 0, 0), (4, .invokevirtual 405, 3, 5, 2, 0, 220), (1, .aload_n 1, 1, 0, 0, 0, 0), (1, .iload_n 3, 1, 0, 0, 0, 0), (4, .invokevirtual 408, 3, 6, 2, 0, 221), (0, .iconst 0, 1, 0, 0, 0, 0), (0, .iconst 0, 1, 0, 0, 0, 0), (4, .invokevirtual 90, 3, 16, 5, 1, 159), (0, .pop, 1, 0, 0, 0, 0), (1, .aload_n 0, 1, 0, 0, 0, 0), (4, .invokevirtual 63, 3, 178, 1, 10, 154), (0, .iconst 1, 1, 0, 0, 0, 0), (10, .ireturn, 1, 1, 0, 0, 0)], 0)]
/-- Simplespan.frameAt(I)LSimplespan$Plan; -/
def pz_c184 : List (Nat × List pz_Op × Nat) := [
  (0, [(1, .iload_n 1, 1, 0, 0, 0, 0), (9, .ifCond .lt 21, 3, 22, 0, 0, 0), (1, .iload_n 1, 1, 0, 0, 0, 0), (1, .aload_n 0, 1, 0, 0, 0, 0), (2, .getfield 16, 3, 10, 1, 9, 80), (2, .arraylength, 1, 0, 0, 0, 0), (9, .if_icmp .ge 12, 3, 22, 0, 0, 0), (1, .aload_n 0, 1, 0, 0, 0, 0), (2, .getfield 16, 3, 10, 1, 9, 80), (1, .iload_n 1, 1, 0, 0, 0, 0), (2, .aaload, 1, 0, 0, 0, 0), (8, .goto 4, 3, 23, 0, 0, 0)], 0),
  (22, [(0, .aconst_null, 1, 0, 0, 0, 0)], 23),
  (23, [(10, .areturn, 1, 9, 0, 0, 0)], 0)]
/-- Simplespan.isWithin(III)Z -/
def pz_c185 : List (Nat × List pz_Op × Nat) := [
  (0, [(1, .iload_n 0, 1, 0, 0, 0, 0), (1, .iload_n 1, 1, 0, 0, 0, 0), (9, .if_icmp .lt 12, 3, 14, 0, 0, 0), (1, .iload_n 0, 1, 0, 0, 0, 0), (1, .iload_n 2, 1, 0, 0, 0, 0), (9, .if_icmp .gt 7, 3, 14, 0, 0, 0), (0, .iconst 1, 1, 0, 0, 0, 0), (8, .goto 4, 3, 15, 0, 0, 0)], 0),
  (14, [(0, .iconst 0, 1, 0, 0, 0, 0)], 15),
  (15, [(10, .ireturn, 1, 1, 0, 0, 0)], 0)]
/-- Simplespan.bit(I)I -/
def pz_c186 : List (Nat × List pz_Op × Nat) := [
  (0, [(0, .iconst 1, 1, 0, 0, 0, 0), (1, .iload_n 0, 1, 0, 0, 0, 0), (0, .ishl, 1, 0, 0, 0, 0), (10, .ireturn, 1, 0, 0, 0, 0)], 0)]
/-- Simplespan.isEventNumber(I)Z -/
def pz_c187 : List (Nat × List pz_Op × Nat) := [
  (0, [(1, .iload_n 0, 1, 0, 0, 0, 0), (9, .ifCond .lt 13, 3, 14, 0, 0, 0), (1, .iload_n 0, 1, 0, 0, 0, 0), (0, .bipush 10, 2, 0, 0, 0, 0), (9, .if_icmp .ge 7, 3, 14, 0, 0, 0), (0, .iconst 1, 1, 0, 0, 0, 0), (8, .goto 4, 3, 15, 0, 0, 0)], 0),
  (14, [(0, .iconst 0, 1, 0, 0, 0, 0)], 15),
  (15, [(10, .ireturn, 1, 1, 0, 0, 0)], 0)]
/-- SimplespanLaw.cell([II)I -/
def pz_c188 : List (Nat × List pz_Op × Nat) := [
  (0, [(1, .iload_n 1, 1, 0, 0, 0, 0), (1, .aload_n 0, 1, 0, 0, 0, 0), (2, .arraylength, 1, 0, 0, 0, 0), (9, .if_icmp .ge 9, 3, 12, 0, 0, 0), (1, .aload_n 0, 1, 0, 0, 0, 0), (1, .iload_n 1, 1, 0, 0, 0, 0), (2, .iaload, 1, 0, 0, 0, 0), (8, .goto 10, 3, 19, 0, 0, 0)], 0),
  (12, [(3, .ldc 7, 2, 40503, 0, 0, 482), (1, .iload_n 1, 1, 0, 0, 0, 0), (0, .imul, 1, 0, 0, 0, 0), (0, .bipush 73, 2, 0, 0, 0, 0), (0, .iadd, 1, 0, 0, 0, 0)], 19),
  (19, [(10, .ireturn, 1, 0, 0, 0, 0)], 0)]
/-- SimplespanLaw.pick([III)I -/
def pz_c189 : List (Nat × List pz_Op × Nat) := [
  (0, [(1, .aload_n 0, 1, 0, 0, 0, 0), (1, .iload_n 1, 1, 0, 0, 0, 0), (4, .invokestatic 8, 3, 188, 2, 99, 222), (0, .iconst 1, 1, 0, 0, 0, 0), (0, .iushr, 1, 0, 0, 0, 0), (1, .iload_n 2, 1, 0, 0, 0, 0), (0, .irem, 1, 0, 0, 0, 0), (10, .ireturn, 1, 0, 0, 0, 0)], 0)]
/-- SimplespanLaw.addEvent(LSimplespan;)I -/
def pz_c190 : List (Nat × List pz_Op × Nat) := [
  (0, [(1, .aload_n 0, 1, 0, 0, 0, 0), (4, .invokevirtual 14, 3, 123, 1, 10, 223), (10, .ireturn, 1, 0, 0, 0, 0)], 0)]
/-- SimplespanLaw.bound(LSimplespan;IIII)I -/
def pz_c191 : List (Nat × List pz_Op × Nat) := [
  (0, [(1, .aload_n 0, 1, 0, 0, 0, 0), (1, .iload_n 1, 1, 0, 0, 0, 0), (1, .iload_n 2, 1, 0, 0, 0, 0), (1, .iload_n 3, 1, 0, 0, 0, 0), (1, .iload 4, 2, 0, 0, 0, 0), (4, .invokevirtual 23, 3, 124, 5, 10, 224), (10, .ireturn, 1, 0, 0, 0, 0)], 0)]
/-- SimplespanLaw.dropBound(LSimplespan;I)I -/
def pz_c192 : List (Nat × List pz_Op × Nat) := [
  (0, [(1, .aload_n 0, 1, 0, 0, 0, 0), (1, .iload_n 1, 1, 0, 0, 0, 0), (4, .invokevirtual 33, 3, 125, 2, 10, 225), (10, .ireturn, 1, 0, 0, 0, 0)], 0)]
/-- SimplespanLaw.addSpan(LSimplespan;IIII)I -/
def pz_c193 : List (Nat × List pz_Op × Nat) := [
  (0, [(1, .aload_n 0, 1, 0, 0, 0, 0), (1, .iload_n 1, 1, 0, 0, 0, 0), (1, .iload_n 2, 1, 0, 0, 0, 0), (1, .iload_n 3, 1, 0, 0, 0, 0), (1, .iload 4, 2, 0, 0, 0, 0), (4, .invokevirtual 37, 3, 126, 5, 10, 226), (10, .ireturn, 1, 0, 0, 0, 0)], 0)]
/-- SimplespanLaw.observe(LSimplespan;IZ)I -/
def pz_c194 : List (Nat × List pz_Op × Nat) := [
  (0, [(1, .aload_n 0, 1, 0, 0, 0, 0), (1, .iload_n 1, 1, 0, 0, 0, 0), (1, .iload_n 2, 1, 0, 0, 0, 0), (4, .invokevirtual 40, 3, 127, 3, 10, 227), (10, .ireturn, 1, 0, 0, 0, 0)], 0)]
/-- SimplespanLaw.choose(LSimplespan;)I -/
def pz_c195 : List (Nat × List pz_Op × Nat) := [
  (0, [(1, .aload_n 0, 1, 0, 0, 0, 0), (4, .invokevirtual 44, 3, 128, 1, 10, 228), (10, .ireturn, 1, 0, 0, 0, 0)], 0)]
/-- SimplespanLaw.labelOf(LSimplespan;I)I -/
def pz_c196 : List (Nat × List pz_Op × Nat) := [
  (0, [(1, .aload_n 0, 1, 0, 0, 0, 0), (1, .iload_n 1, 1, 0, 0, 0, 0), (4, .invokevirtual 49, 3, 129, 2, 10, 229), (10, .ireturn, 1, 0, 0, 0, 0)], 0)]
/-- SimplespanLaw.distance(LSimplespan;II)I -/
def pz_c197 : List (Nat × List pz_Op × Nat) := [
  (0, [(1, .aload_n 0, 1, 0, 0, 0, 0), (1, .iload_n 1, 1, 0, 0, 0, 0), (1, .iload_n 2, 1, 0, 0, 0, 0), (4, .invokevirtual 57, 3, 132, 3, 10, 230), (10, .ireturn, 1, 0, 0, 0, 0)], 0)]
/-- SimplespanLaw.distanceByRounds(LSimplespan;II)I -/
def pz_c198 : List (Nat × List pz_Op × Nat) := [
  (0, [(1, .aload_n 0, 1, 0, 0, 0, 0), (1, .iload_n 1, 1, 0, 0, 0, 0), (1, .iload_n 2, 1, 0, 0, 0, 0), (4, .invokevirtual 61, 3, 133, 3, 10, 231), (10, .ireturn, 1, 0, 0, 0, 0)], 0)]
/-- SimplespanLaw.isDirect(LSimplespan;II)I -/
def pz_c199 : List (Nat × List pz_Op × Nat) := [
  (0, [(1, .aload_n 0, 1, 0, 0, 0, 0), (1, .iload_n 1, 1, 0, 0, 0, 0), (1, .iload_n 2, 1, 0, 0, 0, 0), (4, .invokevirtual 64, 3, 134, 3, 10, 232), (9, .ifCond .eq 7, 3, 13, 0, 0, 0), (0, .iconst 1, 1, 0, 0, 0, 0), (8, .goto 4, 3, 14, 0, 0, 0)], 0),
  (13, [(0, .iconst 0, 1, 0, 0, 0, 0)], 14),
  (14, [(10, .ireturn, 1, 0, 0, 0, 0)], 0)]
/-- SimplespanLaw.conflictSize(LSimplespan;)I -/
def pz_c200 : List (Nat × List pz_Op × Nat) := [
  (0, [(1, .aload_n 0, 1, 0, 0, 0, 0), (4, .invokevirtual 67, 3, 135, 1, 10, 233), (10, .ireturn, 1, 0, 0, 0, 0)], 0)]
/-- SimplespanLaw.conflictAt(LSimplespan;I)I -/
def pz_c201 : List (Nat × List pz_Op × Nat) := [
  (0, [(1, .aload_n 0, 1, 0, 0, 0, 0), (1, .iload_n 1, 1, 0, 0, 0, 0), (4, .invokevirtual 70, 3, 136, 2, 10, 234), (10, .ireturn, 1, 0, 0, 0, 0)], 0)]
/-- SimplespanLaw.reduced(LSimplespan;II)I -/
def pz_c202 : List (Nat × List pz_Op × Nat) := [
  (0, [(1, .aload_n 0, 1, 0, 0, 0, 0), (1, .iload_n 1, 1, 0, 0, 0, 0), (1, .iload_n 2, 1, 0, 0, 0, 0), (4, .invokevirtual 75, 3, 141, 3, 10, 235), (10, .ireturn, 1, 0, 0, 0, 0)], 0)]
/-- SimplespanLaw.waitFor(LSimplespan;II)I -/
def pz_c203 : List (Nat × List pz_Op × Nat) := [
  (0, [(1, .aload_n 0, 1, 0, 0, 0, 0), (1, .iload_n 1, 1, 0, 0, 0, 0), (1, .iload_n 2, 1, 0, 0, 0, 0), (4, .invokevirtual 78, 3, 142, 3, 10, 236), (10, .ireturn, 1, 0, 0, 0, 0)], 0)]
/-- SimplespanLaw.play(LSimplespan;I)I -/
def pz_c204 : List (Nat × List pz_Op × Nat) := [
  (0, [(1, .aload_n 0, 1, 0, 0, 0, 0), (1, .iload_n 1, 1, 0, 0, 0, 0), (4, .invokevirtual 81, 3, 143, 2, 10, 237), (10, .ireturn, 1, 0, 0, 0, 0)], 0)]
/-- SimplespanLaw.failure(LSimplespan;I)I -/
def pz_c205 : List (Nat × List pz_Op × Nat) := [
  (0, [(1, .aload_n 0, 1, 0, 0, 0, 0), (1, .iload_n 1, 1, 0, 0, 0, 0), (4, .invokevirtual 84, 3, 144, 2, 10, 238), (10, .ireturn, 1, 0, 0, 0, 0)], 0)]
/-- SimplespanLaw.playedAt(LSimplespan;I)I -/
def pz_c206 : List (Nat × List pz_Op × Nat) := [
  (0, [(1, .aload_n 0, 1, 0, 0, 0, 0), (1, .iload_n 1, 1, 0, 0, 0, 0), (4, .invokevirtual 87, 3, 145, 2, 10, 239), (10, .ireturn, 1, 0, 0, 0, 0)], 0)]
/-- SimplespanLaw.isKept(LSimplespan;)I -/
def pz_c207 : List (Nat × List pz_Op × Nat) := [
  (0, [(1, .aload_n 0, 1, 0, 0, 0, 0), (4, .invokevirtual 90, 3, 146, 1, 10, 240), (9, .ifCond .eq 7, 3, 11, 0, 0, 0), (0, .iconst 1, 1, 0, 0, 0, 0), (8, .goto 4, 3, 12, 0, 0, 0)], 0),
  (11, [(0, .iconst 0, 1, 0, 0, 0, 0)], 12),
  (12, [(10, .ireturn, 1, 0, 0, 0, 0)], 0)]
/-- SimplespanLaw.reason(LSimplespan;I)I -/
def pz_c208 : List (Nat × List pz_Op × Nat) := [
  (0, [(1, .aload_n 0, 1, 0, 0, 0, 0), (1, .iload_n 1, 1, 0, 0, 0, 0), (4, .invokevirtual 94, 3, 147, 2, 10, 241), (10, .ireturn, 1, 0, 0, 0, 0)], 0)]
/-- SimplespanLaw.lowest(LSimplespan;I)I -/
def pz_c209 : List (Nat × List pz_Op × Nat) := [
  (0, [(1, .aload_n 0, 1, 0, 0, 0, 0), (1, .iload_n 1, 1, 0, 0, 0, 0), (4, .invokevirtual 97, 3, 148, 2, 10, 242), (10, .ireturn, 1, 0, 0, 0, 0)], 0)]
/-- SimplespanLaw.uppermost(LSimplespan;I)I -/
def pz_c210 : List (Nat × List pz_Op × Nat) := [
  (0, [(1, .aload_n 0, 1, 0, 0, 0, 0), (1, .iload_n 1, 1, 0, 0, 0, 0), (4, .invokevirtual 100, 3, 149, 2, 10, 243), (10, .ireturn, 1, 0, 0, 0, 0)], 0)]
/-- SimplespanLaw.start(LSimplespan;I)I -/
def pz_c211 : List (Nat × List pz_Op × Nat) := [
  (0, [(1, .aload_n 0, 1, 0, 0, 0, 0), (1, .iload_n 1, 1, 0, 0, 0, 0), (4, .invokevirtual 103, 3, 150, 2, 10, 244), (10, .ireturn, 1, 0, 0, 0, 0)], 0)]
/-- SimplespanLaw.end(LSimplespan;I)I -/
def pz_c212 : List (Nat × List pz_Op × Nat) := [
  (0, [(1, .aload_n 0, 1, 0, 0, 0, 0), (1, .iload_n 1, 1, 0, 0, 0, 0), (4, .invokevirtual 106, 3, 151, 2, 10, 245), (10, .ireturn, 1, 0, 0, 0, 0)], 0)]
/-- SimplespanLaw.pass(LSimplespan;I)I -/
def pz_c213 : List (Nat × List pz_Op × Nat) := [
  (0, [(1, .aload_n 0, 1, 0, 0, 0, 0), (1, .iload_n 1, 1, 0, 0, 0, 0), (4, .invokevirtual 109, 3, 152, 2, 10, 246), (10, .ireturn, 1, 0, 0, 0, 0)], 0)]
/-- SimplespanLaw.startedAt(LSimplespan;I)I -/
def pz_c214 : List (Nat × List pz_Op × Nat) := [
  (0, [(1, .aload_n 0, 1, 0, 0, 0, 0), (1, .iload_n 1, 1, 0, 0, 0, 0), (4, .invokevirtual 112, 3, 154, 2, 10, 247), (10, .ireturn, 1, 0, 0, 0, 0)], 0)]
/-- SimplespanLaw.addActivity(LSimplespan;III)I -/
def pz_c215 : List (Nat × List pz_Op × Nat) := [
  (0, [(1, .aload_n 0, 1, 0, 0, 0, 0), (1, .iload_n 1, 1, 0, 0, 0, 0), (1, .iload_n 2, 1, 0, 0, 0, 0), (1, .iload_n 3, 1, 0, 0, 0, 0), (4, .invokevirtual 115, 3, 155, 4, 10, 248), (10, .ireturn, 1, 0, 0, 0, 0)], 0)]
/-- SimplespanLaw.setCapacity(LSimplespan;I)I -/
def pz_c216 : List (Nat × List pz_Op × Nat) := [
  (0, [(1, .aload_n 0, 1, 0, 0, 0, 0), (1, .iload_n 1, 1, 0, 0, 0, 0), (4, .invokevirtual 119, 3, 156, 2, 10, 249), (10, .ireturn, 1, 0, 0, 0, 0)], 0)]
/-- SimplespanLaw.firstTime(LSimplespan;I)I -/
def pz_c217 : List (Nat × List pz_Op × Nat) := [
  (0, [(1, .aload_n 0, 1, 0, 0, 0, 0), (1, .iload_n 1, 1, 0, 0, 0, 0), (4, .invokevirtual 122, 3, 157, 2, 10, 250), (10, .ireturn, 1, 0, 0, 0, 0)], 0)]
/-- SimplespanLaw.use(LSimplespan;I)I -/
def pz_c218 : List (Nat × List pz_Op × Nat) := [
  (0, [(1, .aload_n 0, 1, 0, 0, 0, 0), (1, .iload_n 1, 1, 0, 0, 0, 0), (4, .invokevirtual 125, 3, 158, 2, 10, 251), (10, .ireturn, 1, 0, 0, 0, 0)], 0)]
/-- SimplespanLaw.peak(LSimplespan;)I -/
def pz_c219 : List (Nat × List pz_Op × Nat) := [
  (0, [(1, .aload_n 0, 1, 0, 0, 0, 0), (4, .invokevirtual 128, 3, 159, 1, 10, 252), (10, .ireturn, 1, 0, 0, 0, 0)], 0)]
/-- SimplespanLaw.peakSet(LSimplespan;)I -/
def pz_c220 : List (Nat × List pz_Op × Nat) := [
  (0, [(1, .aload_n 0, 1, 0, 0, 0, 0), (4, .invokevirtual 131, 3, 160, 1, 10, 253), (10, .ireturn, 1, 0, 0, 0, 0)], 0)]
/-- SimplespanLaw.level(LSimplespan;)I -/
def pz_c221 : List (Nat × List pz_Op × Nat) := [
  (0, [(1, .aload_n 0, 1, 0, 0, 0, 0), (4, .invokevirtual 137, 3, 162, 1, 10, 254), (10, .ireturn, 1, 0, 0, 0, 0)], 0)]
/-- SimplespanLaw.setCost(LSimplespan;IIII)I -/
def pz_c222 : List (Nat × List pz_Op × Nat) := [
  (0, [(1, .aload_n 0, 1, 0, 0, 0, 0), (1, .iload_n 1, 1, 0, 0, 0, 0), (1, .iload_n 2, 1, 0, 0, 0, 0), (1, .iload_n 3, 1, 0, 0, 0, 0), (1, .iload 4, 2, 0, 0, 0, 0), (4, .invokevirtual 140, 3, 163, 5, 10, 255), (10, .ireturn, 1, 0, 0, 0, 0)], 0)]
/-- SimplespanLaw.costOf(LSimplespan;II)I -/
def pz_c223 : List (Nat × List pz_Op × Nat) := [
  (0, [(1, .aload_n 0, 1, 0, 0, 0, 0), (1, .iload_n 1, 1, 0, 0, 0, 0), (1, .iload_n 2, 1, 0, 0, 0, 0), (4, .invokevirtual 143, 3, 164, 3, 10, 256), (10, .ireturn, 1, 0, 0, 0, 0)], 0)]
/-- SimplespanLaw.open(LSimplespan;)I -/
def pz_c224 : List (Nat × List pz_Op × Nat) := [
  (0, [(1, .aload_n 0, 1, 0, 0, 0, 0), (4, .invokevirtual 146, 3, 166, 1, 10, 257), (10, .ireturn, 1, 0, 0, 0, 0)], 0)]
/-- SimplespanLaw.takeBack(LSimplespan;)I -/
def pz_c225 : List (Nat × List pz_Op × Nat) := [
  (0, [(1, .aload_n 0, 1, 0, 0, 0, 0), (4, .invokevirtual 149, 3, 167, 1, 10, 258), (10, .ireturn, 1, 0, 0, 0, 0)], 0)]
/-- SimplespanLaw.net(LSimplespan;[I)Z -/
def pz_c226 : List (Nat × List pz_Op × Nat) := [
  (0, [(1, .aload_n 0, 1, 0, 0, 0, 0), (4, .invokevirtual 152, 3, 131, 1, 10, 259), (1, .istore_n 2, 1, 0, 0, 0, 0), (1, .iload_n 2, 1, 0, 0, 0, 0), (1, .aload_n 0, 1, 0, 0, 0, 0), (4, .invokestatic 155, 3, 200, 1, 99, 260), (3, .ldc 22, 2, 99991001, 1, 0, 569), (9, .if_icmp .ne 7, 3, 19, 0, 0, 0), (0, .iconst 1, 1, 0, 0, 0, 0), (8, .goto 4, 3, 20, 0, 0, 0)], 0),
  (19, [(0, .iconst 0, 1, 0, 0, 0, 0)], 20),
  (20, [(9, .if_icmp .ne 22, 3, 42, 0, 0, 0), (1, .iload_n 2, 1, 0, 0, 0, 0), (1, .aload_n 0, 1, 0, 0, 0, 0), (0, .iconst 0, 1, 0, 0, 0, 0), (4, .invokestatic 158, 3, 201, 2, 99, 261), (3, .ldc 22, 2, 99991001, 1, 0, 569), (9, .if_icmp .ne 7, 3, 38, 0, 0, 0), (0, .iconst 1, 1, 0, 0, 0, 0), (8, .goto 4, 3, 39, 0, 0, 0)], 0),
  (38, [(0, .iconst 0, 1, 0, 0, 0, 0)], 39),
  (39, [(9, .if_icmp .eq 5, 3, 44, 0, 0, 0)], 42),
  (42, [(0, .iconst 0, 1, 0, 0, 0, 0), (10, .ireturn, 1, 1, 0, 0, 0)], 0),
  (44, [(0, .iconst 0, 1, 0, 0, 0, 0), (1, .istore_n 3, 1, 0, 0, 0, 0)], 46),
  (46, [(1, .iload_n 3, 1, 0, 0, 0, 0), (1, .aload_n 1, 1, 0, 0, 0, 0), (0, .iconst 0, 1, 0, 0, 0, 0), (2, .iaload, 1, 0, 0, 0, 0), (9, .if_icmp .ge 197, 3, 247, 0, 0, 0), (0, .iconst 0, 1, 0, 0, 0, 0), (1, .istore 4, 2, 0, 0, 0, 0)], 56),
  (56, [(1, .iload 4, 2, 0, 0, 0, 0), (1, .aload_n 1, 1, 0, 0, 0, 0), (0, .iconst 0, 1, 0, 0, 0, 0), (2, .iaload, 1, 0, 0, 0, 0), (9, .if_icmp .ge 180, 3, 241, 0, 0, 0), (1, .aload_n 0, 1, 0, 0, 0, 0), (1, .iload_n 3, 1, 0, 0, 0, 0), (1, .iload 4, 2, 0, 0, 0, 0), (4, .invokestatic 161, 3, 197, 3, 99, 262), (1, .istore 5, 2, 0, 0, 0, 0), (1, .iload 5, 2, 0, 0, 0, 0), (1, .aload_n 0, 1, 0, 0, 0, 0), (1, .iload_n 3, 1, 0, 0, 0, 0), (1, .iload 4, 2, 0, 0, 0, 0), (4, .invokestatic 164, 3, 198, 3, 99, 263), (9, .if_icmp .ne 34, 3, 116, 0, 0, 0), (1, .iload 5, 2, 0, 0, 0, 0), (3, .ldc 31, 2, 99991002, 1, 0, 632), (9, .if_icmp .ne 7, 3, 96, 0, 0, 0), (0, .iconst 1, 1, 0, 0, 0, 0), (8, .goto 4, 3, 97, 0, 0, 0)], 0),
  (96, [(0, .iconst 0, 1, 0, 0, 0, 0)], 97),
  (97, [(1, .iload_n 2, 1, 0, 0, 0, 0), (9, .if_icmp .eq 18, 3, 116, 0, 0, 0), (1, .iload_n 3, 1, 0, 0, 0, 0), (1, .iload 4, 2, 0, 0, 0, 0), (9, .if_icmp .ne 14, 3, 118, 0, 0, 0), (1, .iload_n 2, 1, 0, 0, 0, 0), (9, .ifCond .eq 10, 3, 118, 0, 0, 0), (1, .iload 5, 2, 0, 0, 0, 0), (9, .ifCond .eq 5, 3, 118, 0, 0, 0)], 116),
  (116, [(0, .iconst 0, 1, 0, 0, 0, 0), (10, .ireturn, 1, 1, 0, 0, 0)], 0),
  (118, [(0, .iconst 0, 1, 0, 0, 0, 0), (1, .istore 6, 2, 0, 0, 0, 0)], 121),
  (121, [(1, .iload 6, 2, 0, 0, 0, 0), (1, .aload_n 1, 1, 0, 0, 0, 0), (0, .iconst 0, 1, 0, 0, 0, 0), (2, .iaload, 1, 0, 0, 0, 0), (9, .if_icmp .ge 80, 3, 206, 0, 0, 0), (1, .iload_n 2, 1, 0, 0, 0, 0), (9, .ifCond .eq 76, 3, 206, 0, 0, 0), (1, .aload_n 0, 1, 0, 0, 0, 0), (1, .iload_n 3, 1, 0, 0, 0, 0), (1, .iload 6, 2, 0, 0, 0, 0), (4, .invokestatic 161, 3, 197, 3, 99, 262), (3, .ldc 31, 2, 99991002, 1, 0, 632), (9, .if_icmp .le 58, 3, 200, 0, 0, 0), (1, .aload_n 0, 1, 0, 0, 0, 0), (1, .iload_n 3, 1, 0, 0, 0, 0), (1, .iload 6, 2, 0, 0, 0, 0), (4, .invokestatic 161, 3, 197, 3, 99, 262), (3, .ldc 32, 2, 99991003, 1, 0, 633), (9, .if_icmp .eq 46, 3, 200, 0, 0, 0), (1, .aload_n 0, 1, 0, 0, 0, 0), (1, .iload 6, 2, 0, 0, 0, 0), (1, .iload 4, 2, 0, 0, 0, 0), (4, .invokestatic 161, 3, 197, 3, 99, 262), (3, .ldc 32, 2, 99991003, 1, 0, 633), (9, .if_icmp .eq 33, 3, 200, 0, 0, 0), (1, .iload 5, 2, 0, 0, 0, 0), (3, .ldc 32, 2, 99991003, 1, 0, 633), (9, .if_icmp .eq 24, 3, 198, 0, 0, 0), (1, .aload_n 0, 1, 0, 0, 0, 0), (1, .iload_n 3, 1, 0, 0, 0, 0), (1, .iload 6, 2, 0, 0, 0, 0), (4, .invokestatic 161, 3, 197, 3, 99, 262), (1, .aload_n 0, 1, 0, 0, 0, 0), (1, .iload 6, 2, 0, 0, 0, 0), (1, .iload 4, 2, 0, 0, 0, 0), (4, .invokestatic 161, 3, 197, 3, 99, 262), (0, .iadd, 1, 0, 0, 0, 0), (1, .iload 5, 2, 0, 0, 0, 0), (9, .if_icmp .ge 5, 3, 200, 0, 0, 0)], 198),
  (198, [(0, .iconst 0, 1, 0, 0, 0, 0), (10, .ireturn, 1, 1, 0, 0, 0)], 0),
  (200, [(1, .iinc 6 1, 3, 0, 0, 0, 0), (8, .goto (-82), 3, 121, 0, 0, 0)], 0),
  (206, [(1, .iload_n 3, 1, 0, 0, 0, 0), (1, .iload 4, 2, 0, 0, 0, 0), (9, .if_icmp .eq 26, 3, 235, 0, 0, 0), (1, .iload_n 2, 1, 0, 0, 0, 0), (9, .ifCond .eq 22, 3, 235, 0, 0, 0), (1, .iload 5, 2, 0, 0, 0, 0), (3, .ldc 32, 2, 99991003, 1, 0, 633), (9, .if_icmp .ne 15, 3, 235, 0, 0, 0), (1, .aload_n 0, 1, 0, 0, 0, 0), (1, .iload_n 3, 1, 0, 0, 0, 0), (1, .iload 4, 2, 0, 0, 0, 0), (4, .invokestatic 166, 3, 199, 3, 99, 264), (9, .ifCond .eq 5, 3, 235, 0, 0, 0), (0, .iconst 0, 1, 0, 0, 0, 0), (10, .ireturn, 1, 1, 0, 0, 0)], 0),
  (235, [(1, .iinc 4 1, 3, 0, 0, 0, 0), (8, .goto (-182), 3, 56, 0, 0, 0)], 0),
  (241, [(1, .iinc 3 1, 3, 0, 0, 0, 0), (8, .goto (-198), 3, 46, 0, 0, 0)], 0),
  (247, [(0, .iconst 1, 1, 0, 0, 0, 0), (10, .ireturn, 1, 1, 0, 0, 0)], 0)]
/-- SimplespanLaw.control(LSimplespan;[I)Z -/
def pz_c227 : List (Nat × List pz_Op × Nat) := [
  (0, [(1, .aload_n 0, 1, 0, 0, 0, 0), (4, .invokevirtual 168, 3, 138, 1, 10, 265), (9, .ifCond .eq 10, 3, 14, 0, 0, 0), (1, .aload_n 0, 1, 0, 0, 0, 0), (4, .invokevirtual 171, 3, 137, 1, 10, 266), (9, .ifCond .eq 47, 3, 58, 0, 0, 0)], 14),
  (14, [(1, .aload_n 0, 1, 0, 0, 0, 0), (4, .invokevirtual 171, 3, 137, 1, 10, 266), (9, .ifCond .eq 10, 3, 28, 0, 0, 0), (1, .aload_n 0, 1, 0, 0, 0, 0), (4, .invokevirtual 152, 3, 131, 1, 10, 259), (9, .ifCond .eq 33, 3, 58, 0, 0, 0)], 28),
  (28, [(1, .aload_n 0, 1, 0, 0, 0, 0), (4, .invokevirtual 174, 3, 139, 1, 10, 267), (9, .ifCond .eq 10, 3, 42, 0, 0, 0), (1, .aload_n 0, 1, 0, 0, 0, 0), (4, .invokevirtual 152, 3, 131, 1, 10, 259), (9, .ifCond .eq 19, 3, 58, 0, 0, 0)], 42),
  (42, [(1, .aload_n 0, 1, 0, 0, 0, 0), (4, .invokevirtual 177, 3, 140, 1, 10, 268), (9, .ifCond .lt 12, 3, 58, 0, 0, 0), (1, .aload_n 0, 1, 0, 0, 0, 0), (4, .invokevirtual 177, 3, 140, 1, 10, 268), (0, .bipush 60, 2, 0, 0, 0, 0), (9, .if_icmp .le 5, 3, 60, 0, 0, 0)], 58),
  (58, [(0, .iconst 0, 1, 0, 0, 0, 0), (10, .ireturn, 1, 1, 0, 0, 0)], 0),
  (60, [(0, .iconst 0, 1, 0, 0, 0, 0), (1, .istore_n 2, 1, 0, 0, 0, 0)], 62),
  (62, [(1, .iload_n 2, 1, 0, 0, 0, 0), (1, .aload_n 1, 1, 0, 0, 0, 0), (0, .iconst 0, 1, 0, 0, 0, 0), (2, .iaload, 1, 0, 0, 0, 0), (9, .if_icmp .ge 219, 3, 285, 0, 0, 0), (0, .iconst 0, 1, 0, 0, 0, 0), (1, .istore_n 3, 1, 0, 0, 0, 0)], 71),
  (71, [(1, .iload_n 3, 1, 0, 0, 0, 0), (1, .aload_n 1, 1, 0, 0, 0, 0), (0, .iconst 0, 1, 0, 0, 0, 0), (2, .iaload, 1, 0, 0, 0, 0), (9, .if_icmp .ge 76, 3, 151, 0, 0, 0), (1, .aload_n 0, 1, 0, 0, 0, 0), (1, .iload_n 2, 1, 0, 0, 0, 0), (1, .iload_n 3, 1, 0, 0, 0, 0), (4, .invokestatic 180, 3, 202, 3, 99, 269), (1, .istore 4, 2, 0, 0, 0, 0), (1, .iload 4, 2, 0, 0, 0, 0), (3, .ldc 31, 2, 99991002, 1, 0, 632), (9, .if_icmp .ne 7, 3, 97, 0, 0, 0), (0, .iconst 1, 1, 0, 0, 0, 0), (8, .goto 4, 3, 98, 0, 0, 0)], 0),
  (97, [(0, .iconst 0, 1, 0, 0, 0, 0)], 98),
  (98, [(1, .aload_n 0, 1, 0, 0, 0, 0), (4, .invokevirtual 174, 3, 139, 1, 10, 267), (9, .if_icmp .ne 5, 3, 107, 0, 0, 0), (0, .iconst 0, 1, 0, 0, 0, 0), (10, .ireturn, 1, 1, 0, 0, 0)], 0),
  (107, [(1, .aload_n 0, 1, 0, 0, 0, 0), (4, .invokevirtual 174, 3, 139, 1, 10, 267), (9, .ifCond .eq 34, 3, 145, 0, 0, 0), (1, .aload_n 0, 1, 0, 0, 0, 0), (1, .iload_n 2, 1, 0, 0, 0, 0), (1, .iload_n 3, 1, 0, 0, 0, 0), (4, .invokestatic 161, 3, 197, 3, 99, 262), (3, .ldc 32, 2, 99991003, 1, 0, 633), (9, .if_icmp .eq 23, 3, 145, 0, 0, 0), (1, .iload 4, 2, 0, 0, 0, 0), (3, .ldc 32, 2, 99991003, 1, 0, 633), (9, .if_icmp .eq 14, 3, 143, 0, 0, 0), (1, .iload 4, 2, 0, 0, 0, 0), (1, .aload_n 0, 1, 0, 0, 0, 0), (1, .iload_n 2, 1, 0, 0, 0, 0), (1, .iload_n 3, 1, 0, 0, 0, 0), (4, .invokestatic 161, 3, 197, 3, 99, 262), (9, .if_icmp .le 5, 3, 145, 0, 0, 0)], 143),
  (143, [(0, .iconst 0, 1, 0, 0, 0, 0), (10, .ireturn, 1, 1, 0, 0, 0)], 0),
  (145, [(1, .iinc 3 1, 3, 0, 0, 0, 0), (8, .goto (-77), 3, 71, 0, 0, 0)], 0),
  (151, [(1, .aload_n 0, 1, 0, 0, 0, 0), (1, .iload_n 2, 1, 0, 0, 0, 0), (4, .invokestatic 182, 3, 208, 2, 99, 270), (1, .istore_n 3, 1, 0, 0, 0, 0), (1, .iload_n 3, 1, 0, 0, 0, 0), (3, .ldc 31, 2, 99991002, 1, 0, 632), (9, .if_icmp .ne 7, 3, 167, 0, 0, 0), (0, .iconst 1, 1, 0, 0, 0, 0), (8, .goto 4, 3, 168, 0, 0, 0)], 0),
  (167, [(0, .iconst 0, 1, 0, 0, 0, 0)], 168),
  (168, [(1, .aload_n 0, 1, 0, 0, 0, 0), (4, .invokevirtual 174, 3, 139, 1, 10, 267), (9, .if_icmp .eq 37, 3, 209, 0, 0, 0), (1, .aload_n 0, 1, 0, 0, 0, 0), (4, .invokevirtual 174, 3, 139, 1, 10, 267), (9, .ifCond .eq 32, 3, 211, 0, 0, 0), (1, .iload_n 3, 1, 0, 0, 0, 0), (0, .bipush 115, 2, 0, 0, 0, 0), (9, .if_icmp .ne 7, 3, 192, 0, 0, 0), (0, .iconst 1, 1, 0, 0, 0, 0), (8, .goto 4, 3, 193, 0, 0, 0)], 0),
  (192, [(0, .iconst 0, 1, 0, 0, 0, 0)], 193),
  (193, [(1, .aload_n 0, 1, 0, 0, 0, 0), (1, .iload_n 2, 1, 0, 0, 0, 0), (4, .invokestatic 184, 3, 214, 2, 99, 271), (9, .ifCond .lt 7, 3, 205, 0, 0, 0), (0, .iconst 1, 1, 0, 0, 0, 0), (8, .goto 4, 3, 206, 0, 0, 0)], 0),
  (205, [(0, .iconst 0, 1, 0, 0, 0, 0)], 206),
  (206, [(9, .if_icmp .eq 5, 3, 211, 0, 0, 0)], 209),
  (209, [(0, .iconst 0, 1, 0, 0, 0, 0), (10, .ireturn, 1, 1, 0, 0, 0)], 0),
  (211, [(1, .iload_n 3, 1, 0, 0, 0, 0), (0, .bipush 101, 2, 0, 0, 0, 0), (9, .if_icmp .ne 15, 3, 229, 0, 0, 0), (1, .aload_n 0, 1, 0, 0, 0, 0), (1, .iload_n 2, 1, 0, 0, 0, 0), (4, .invokestatic 186, 3, 209, 2, 99, 272), (1, .aload_n 0, 1, 0, 0, 0, 0), (4, .invokevirtual 188, 3, 153, 1, 10, 273), (9, .if_icmp .le 51, 3, 277, 0, 0, 0)], 229),
  (229, [(1, .iload_n 3, 1, 0, 0, 0, 0), (0, .bipush 108, 2, 0, 0, 0, 0), (9, .if_icmp .ne 15, 3, 247, 0, 0, 0), (1, .aload_n 0, 1, 0, 0, 0, 0), (1, .iload_n 2, 1, 0, 0, 0, 0), (4, .invokestatic 191, 3, 210, 2, 99, 274), (1, .aload_n 0, 1, 0, 0, 0, 0), (4, .invokevirtual 188, 3, 153, 1, 10, 273), (9, .if_icmp .ge 33, 3, 277, 0, 0, 0)], 247),
  (247, [(1, .iload_n 3, 1, 0, 0, 0, 0), (0, .bipush 45, 2, 0, 0, 0, 0), (9, .if_icmp .ne 29, 3, 279, 0, 0, 0), (1, .aload_n 0, 1, 0, 0, 0, 0), (1, .iload_n 2, 1, 0, 0, 0, 0), (4, .invokestatic 186, 3, 209, 2, 99, 272), (1, .aload_n 0, 1, 0, 0, 0, 0), (4, .invokevirtual 188, 3, 153, 1, 10, 273), (9, .if_icmp .gt 15, 3, 277, 0, 0, 0), (1, .aload_n 0, 1, 0, 0, 0, 0), (1, .iload_n 2, 1, 0, 0, 0, 0), (4, .invokestatic 191, 3, 210, 2, 99, 274), (1, .aload_n 0, 1, 0, 0, 0, 0), (4, .invokevirtual 188, 3, 153, 1, 10, 273), (9, .if_icmp .ge 5, 3, 279, 0, 0, 0)], 277),
  (277, [(0, .iconst 0, 1, 0, 0, 0, 0), (10, .ireturn, 1, 1, 0, 0, 0)], 0),
  (279, [(1, .iinc 2 1, 3, 0, 0, 0, 0), (8, .goto (-220), 3, 62, 0, 0, 0)], 0),
  (285, [(0, .iconst 0, 1, 0, 0, 0, 0), (1, .istore_n 2, 1, 0, 0, 0, 0)], 287),
  (287, [(1, .iload_n 2, 1, 0, 0, 0, 0), (1, .aload_n 1, 1, 0, 0, 0, 0), (0, .iconst 2, 1, 0, 0, 0, 0), (2, .iaload, 1, 0, 0, 0, 0), (9, .if_icmp .ge 60, 3, 351, 0, 0, 0), (1, .aload_n 0, 1, 0, 0, 0, 0), (4, .invokevirtual 174, 3, 139, 1, 10, 267), (9, .ifCond .eq 47, 3, 345, 0, 0, 0), (1, .aload_n 0, 1, 0, 0, 0, 0), (1, .aload_n 1, 1, 0, 0, 0, 0), (0, .sipush 171, 3, 0, 0, 0, 0), (0, .iconst 4, 1, 0, 0, 0, 0), (1, .iload_n 2, 1, 0, 0, 0, 0), (0, .imul, 1, 0, 0, 0, 0), (0, .iadd, 1, 0, 0, 0, 0), (2, .iaload, 1, 0, 0, 0, 0), (4, .invokestatic 184, 3, 214, 2, 99, 271), (9, .ifCond .ge 31, 3, 345, 0, 0, 0), (1, .aload_n 0, 1, 0, 0, 0, 0), (1, .aload_n 1, 1, 0, 0, 0, 0), (0, .sipush 171, 3, 0, 0, 0, 0), (0, .iconst 4, 1, 0, 0, 0, 0), (1, .iload_n 2, 1, 0, 0, 0, 0), (0, .imul, 1, 0, 0, 0, 0), (0, .iadd, 1, 0, 0, 0, 0), (2, .iaload, 1, 0, 0, 0, 0), (1, .iload_n 2, 1, 0, 0, 0, 0), (4, .invokestatic 193, 3, 203, 3, 99, 275), (1, .aload_n 1, 1, 0, 0, 0, 0), (0, .sipush 173, 3, 0, 0, 0, 0), (0, .iconst 4, 1, 0, 0, 0, 0), (1, .iload_n 2, 1, 0, 0, 0, 0), (0, .imul, 1, 0, 0, 0, 0), (0, .iadd, 1, 0, 0, 0, 0), (2, .iaload, 1, 0, 0, 0, 0), (9, .if_icmp .ge 5, 3, 345, 0, 0, 0), (0, .iconst 0, 1, 0, 0, 0, 0), (10, .ireturn, 1, 1, 0, 0, 0)], 0),
  (345, [(1, .iinc 2 1, 3, 0, 0, 0, 0), (8, .goto (-61), 3, 287, 0, 0, 0)], 0),
  (351, [(0, .iconst 1, 1, 0, 0, 0, 0), (10, .ireturn, 1, 1, 0, 0, 0)], 0)]
/-- SimplespanLaw.plays(LSimplespan;[I)Z -/
def pz_c228 : List (Nat × List pz_Op × Nat) := [
  (0, [(0, .iconst 1, 1, 0, 0, 0, 0), (1, .istore_n 2, 1, 0, 0, 0, 0), (0, .iconst 0, 1, 0, 0, 0, 0), (1, .istore_n 3, 1, 0, 0, 0, 0)], 4),
  (4, [(1, .iload_n 3, 1, 0, 0, 0, 0), (0, .iconst 1, 1, 0, 0, 0, 0), (1, .aload_n 1, 1, 0, 0, 0, 0), (0, .iconst 2, 1, 0, 0, 0, 0), (2, .iaload, 1, 0, 0, 0, 0), (0, .ishl, 1, 0, 0, 0, 0), (9, .if_icmp .ge 229, 3, 239, 0, 0, 0), (1, .aload_n 0, 1, 0, 0, 0, 0), (1, .iload_n 3, 1, 0, 0, 0, 0), (4, .invokestatic 195, 3, 205, 2, 99, 276), (1, .istore 4, 2, 0, 0, 0, 0), (1, .aload_n 0, 1, 0, 0, 0, 0), (1, .iload_n 3, 1, 0, 0, 0, 0), (4, .invokestatic 197, 3, 204, 2, 99, 277), (1, .istore 5, 2, 0, 0, 0, 0), (1, .iload 4, 2, 0, 0, 0, 0), (3, .ldc 31, 2, 99991002, 1, 0, 632), (9, .if_icmp .ne 25, 3, 56, 0, 0, 0), (1, .iload 5, 2, 0, 0, 0, 0), (3, .ldc 31, 2, 99991002, 1, 0, 632), (9, .if_icmp .ne 16, 3, 54, 0, 0, 0), (1, .aload_n 0, 1, 0, 0, 0, 0), (4, .invokestatic 199, 3, 207, 1, 99, 278), (3, .ldc 22, 2, 99991001, 1, 0, 569), (9, .if_icmp .ne 7, 3, 54, 0, 0, 0), (0, .iconst 1, 1, 0, 0, 0, 0), (8, .goto 4, 3, 55, 0, 0, 0)], 0),
  (54, [(0, .iconst 0, 1, 0, 0, 0, 0)], 55),
  (55, [(10, .ireturn, 1, 1, 0, 0, 0)], 0),
  (56, [(1, .iload_n 2, 1, 0, 0, 0, 0), (9, .ifCond .eq 14, 3, 71, 0, 0, 0), (1, .iload 4, 2, 0, 0, 0, 0), (0, .bipush 45, 2, 0, 0, 0, 0), (9, .if_icmp .ne 7, 3, 71, 0, 0, 0), (0, .iconst 1, 1, 0, 0, 0, 0), (8, .goto 4, 3, 72, 0, 0, 0)], 0),
  (71, [(0, .iconst 0, 1, 0, 0, 0, 0)], 72),
  (72, [(1, .istore_n 2, 1, 0, 0, 0, 0), (1, .iload 4, 2, 0, 0, 0, 0), (0, .bipush 45, 2, 0, 0, 0, 0), (9, .if_icmp .ne 7, 3, 84, 0, 0, 0), (0, .iconst 1, 1, 0, 0, 0, 0), (8, .goto 4, 3, 85, 0, 0, 0)], 0),
  (84, [(0, .iconst 0, 1, 0, 0, 0, 0)], 85),
  (85, [(1, .iload 5, 2, 0, 0, 0, 0), (9, .ifCond .lt 7, 3, 94, 0, 0, 0), (0, .iconst 1, 1, 0, 0, 0, 0), (8, .goto 4, 3, 95, 0, 0, 0)], 0),
  (94, [(0, .iconst 0, 1, 0, 0, 0, 0)], 95),
  (95, [(9, .if_icmp .eq 5, 3, 100, 0, 0, 0), (0, .iconst 0, 1, 0, 0, 0, 0), (10, .ireturn, 1, 1, 0, 0, 0)], 0),
  (100, [(0, .iconst 0, 1, 0, 0, 0, 0), (1, .istore 6, 2, 0, 0, 0, 0)], 103),
  (103, [(1, .iload 6, 2, 0, 0, 0, 0), (1, .aload_n 1, 1, 0, 0, 0, 0), (0, .iconst 2, 1, 0, 0, 0, 0), (2, .iaload, 1, 0, 0, 0, 0), (9, .if_icmp .ge 81, 3, 189, 0, 0, 0), (1, .iload 5, 2, 0, 0, 0, 0), (9, .ifCond .lt 76, 3, 189, 0, 0, 0), (1, .aload_n 0, 1, 0, 0, 0, 0), (1, .aload_n 1, 1, 0, 0, 0, 0), (0, .sipush 171, 3, 0, 0, 0, 0), (0, .iconst 4, 1, 0, 0, 0, 0), (1, .iload 6, 2, 0, 0, 0, 0), (0, .imul, 1, 0, 0, 0, 0), (0, .iadd, 1, 0, 0, 0, 0), (2, .iaload, 1, 0, 0, 0, 0), (4, .invokestatic 201, 3, 206, 2, 99, 279), (1, .aload_n 0, 1, 0, 0, 0, 0), (1, .aload_n 1, 1, 0, 0, 0, 0), (0, .sipush 170, 3, 0, 0, 0, 0), (0, .iconst 4, 1, 0, 0, 0, 0), (1, .iload 6, 2, 0, 0, 0, 0), (0, .imul, 1, 0, 0, 0, 0), (0, .iadd, 1, 0, 0, 0, 0), (2, .iaload, 1, 0, 0, 0, 0), (4, .invokestatic 201, 3, 206, 2, 99, 279), (0, .isub, 1, 0, 0, 0, 0), (1, .iload_n 3, 1, 0, 0, 0, 0), (1, .iload 6, 2, 0, 0, 0, 0), (0, .ishr, 1, 0, 0, 0, 0), (0, .iconst 1, 1, 0, 0, 0, 0), (0, .iand, 1, 0, 0, 0, 0), (0, .iconst 1, 1, 0, 0, 0, 0), (9, .if_icmp .ne 16, 3, 168, 0, 0, 0), (1, .aload_n 1, 1, 0, 0, 0, 0), (0, .sipush 173, 3, 0, 0, 0, 0), (0, .iconst 4, 1, 0, 0, 0, 0), (1, .iload 6, 2, 0, 0, 0, 0), (0, .imul, 1, 0, 0, 0, 0), (0, .iadd, 1, 0, 0, 0, 0), (2, .iaload, 1, 0, 0, 0, 0), (8, .goto 13, 3, 178, 0, 0, 0)], 0),
  (168, [(1, .aload_n 1, 1, 0, 0, 0, 0), (0, .sipush 172, 3, 0, 0, 0, 0), (0, .iconst 4, 1, 0, 0, 0, 0), (1, .iload 6, 2, 0, 0, 0, 0), (0, .imul, 1, 0, 0, 0, 0), (0, .iadd, 1, 0, 0, 0, 0), (2, .iaload, 1, 0, 0, 0, 0)], 178),
  (178, [(9, .if_icmp .eq 5, 3, 183, 0, 0, 0), (0, .iconst 0, 1, 0, 0, 0, 0), (10, .ireturn, 1, 1, 0, 0, 0)], 0),
  (183, [(1, .iinc 6 1, 3, 0, 0, 0, 0), (8, .goto (-83), 3, 103, 0, 0, 0)], 0),
  (189, [(0, .iconst 0, 1, 0, 0, 0, 0), (1, .istore 6, 2, 0, 0, 0, 0)], 192),
  (192, [(1, .iload 6, 2, 0, 0, 0, 0), (1, .aload_n 1, 1, 0, 0, 0, 0), (0, .iconst 0, 1, 0, 0, 0, 0), (2, .iaload, 1, 0, 0, 0, 0), (9, .if_icmp .ge 36, 3, 233, 0, 0, 0), (1, .iload 5, 2, 0, 0, 0, 0), (9, .ifCond .lt 31, 3, 233, 0, 0, 0), (1, .aload_n 0, 1, 0, 0, 0, 0), (1, .iload 6, 2, 0, 0, 0, 0), (4, .invokestatic 201, 3, 206, 2, 99, 279), (1, .iload 5, 2, 0, 0, 0, 0), (9, .if_icmp .gt 12, 3, 225, 0, 0, 0), (1, .aload_n 0, 1, 0, 0, 0, 0), (1, .iload 6, 2, 0, 0, 0, 0), (4, .invokestatic 201, 3, 206, 2, 99, 279), (9, .ifCond .ge 5, 3, 227, 0, 0, 0)], 225),
  (225, [(0, .iconst 0, 1, 0, 0, 0, 0), (10, .ireturn, 1, 1, 0, 0, 0)], 0),
  (227, [(1, .iinc 6 1, 3, 0, 0, 0, 0), (8, .goto (-38), 3, 192, 0, 0, 0)], 0),
  (233, [(1, .iinc 3 1, 3, 0, 0, 0, 0), (8, .goto (-232), 3, 4, 0, 0, 0)], 0),
  (239, [(1, .aload_n 0, 1, 0, 0, 0, 0), (4, .invokestatic 199, 3, 207, 1, 99, 278), (0, .iconst 1, 1, 0, 0, 0, 0), (9, .if_icmp .ne 7, 3, 251, 0, 0, 0), (0, .iconst 1, 1, 0, 0, 0, 0), (8, .goto 4, 3, 252, 0, 0, 0)], 0),
  (251, [(0, .iconst 0, 1, 0, 0, 0, 0)], 252),
  (252, [(1, .iload_n 2, 1, 0, 0, 0, 0), (9, .if_icmp .ne 21, 3, 274, 0, 0, 0), (1, .aload_n 0, 1, 0, 0, 0, 0), (0, .iconst 1, 1, 0, 0, 0, 0), (1, .aload_n 1, 1, 0, 0, 0, 0), (0, .iconst 2, 1, 0, 0, 0, 0), (2, .iaload, 1, 0, 0, 0, 0), (0, .ishl, 1, 0, 0, 0, 0), (4, .invokestatic 195, 3, 205, 2, 99, 276), (3, .ldc 22, 2, 99991001, 1, 0, 569), (9, .if_icmp .ne 7, 3, 274, 0, 0, 0), (0, .iconst 1, 1, 0, 0, 0, 0), (8, .goto 4, 3, 275, 0, 0, 0)], 0),
  (274, [(0, .iconst 0, 1, 0, 0, 0, 0)], 275),
  (275, [(10, .ireturn, 1, 1, 0, 0, 0)], 0)]
/-- SimplespanLaw.resource(LSimplespan;[I)Z -/
def pz_c229 : List (Nat × List pz_Op × Nat) := [
  (0, [(1, .aload_n 0, 1, 0, 0, 0, 0), (4, .invokevirtual 152, 3, 131, 1, 10, 259), (9, .ifCond .ne 37, 3, 41, 0, 0, 0), (1, .aload_n 0, 1, 0, 0, 0, 0), (4, .invokestatic 203, 3, 219, 1, 99, 280), (3, .ldc 22, 2, 99991001, 1, 0, 569), (9, .if_icmp .ne 26, 3, 39, 0, 0, 0), (1, .aload_n 0, 1, 0, 0, 0, 0), (0, .iconst 0, 1, 0, 0, 0, 0), (4, .invokestatic 205, 3, 217, 2, 99, 281), (3, .ldc 31, 2, 99991002, 1, 0, 632), (9, .if_icmp .ne 16, 3, 39, 0, 0, 0), (1, .aload_n 0, 1, 0, 0, 0, 0), (4, .invokestatic 207, 3, 221, 1, 99, 282), (3, .ldc 22, 2, 99991001, 1, 0, 569), (9, .if_icmp .ne 7, 3, 39, 0, 0, 0), (0, .iconst 1, 1, 0, 0, 0, 0), (8, .goto 4, 3, 40, 0, 0, 0)], 0),
  (39, [(0, .iconst 0, 1, 0, 0, 0, 0)], 40),
  (40, [(10, .ireturn, 1, 1, 0, 0, 0)], 0),
  (41, [(0, .lconst 0, 1, 0, 0, 0, 0), (1, .lstore_n 2, 1, 0, 0, 0, 0), (0, .iconst 0, 1, 0, 0, 0, 0), (1, .istore 4, 2, 0, 0, 0, 0)], 46),
  (46, [(1, .iload 4, 2, 0, 0, 0, 0), (1, .aload_n 1, 1, 0, 0, 0, 0), (0, .iconst 0, 1, 0, 0, 0, 0), (2, .iaload, 1, 0, 0, 0, 0), (9, .if_icmp .ge 75, 3, 126, 0, 0, 0), (1, .aload_n 0, 1, 0, 0, 0, 0), (1, .iload 4, 2, 0, 0, 0, 0), (4, .invokestatic 205, 3, 217, 2, 99, 281), (1, .istore 5, 2, 0, 0, 0, 0), (1, .aload_n 0, 1, 0, 0, 0, 0), (1, .iload 4, 2, 0, 0, 0, 0), (0, .iconst 0, 1, 0, 0, 0, 0), (4, .invokestatic 161, 3, 197, 3, 99, 262), (1, .istore 6, 2, 0, 0, 0, 0), (1, .iload 5, 2, 0, 0, 0, 0), (1, .iload 6, 2, 0, 0, 0, 0), (3, .ldc 32, 2, 99991003, 1, 0, 633), (9, .if_icmp .ne 7, 3, 84, 0, 0, 0), (0, .iconst 0, 1, 0, 0, 0, 0), (8, .goto 10, 3, 91, 0, 0, 0)], 0),
  (84, [(0, .iconst 0, 1, 0, 0, 0, 0), (1, .iload 6, 2, 0, 0, 0, 0), (0, .ineg, 1, 0, 0, 0, 0), (4, .invokestatic 209, 3, 1, 2, 99, 283)], 91),
  (91, [(9, .if_icmp .eq 5, 3, 96, 0, 0, 0), (0, .iconst 0, 1, 0, 0, 0, 0), (10, .ireturn, 1, 1, 0, 0, 0)], 0),
  (96, [(1, .lload_n 2, 1, 0, 0, 0, 0), (1, .iload 5, 2, 0, 0, 0, 0), (0, .sipush 1000, 3, 0, 0, 0, 0), (9, .if_icmp .ge 15, 3, 117, 0, 0, 0), (1, .aload_n 0, 1, 0, 0, 0, 0), (1, .iload 4, 2, 0, 0, 0, 0), (1, .iload 5, 2, 0, 0, 0, 0), (4, .invokestatic 214, 3, 223, 3, 99, 284), (0, .i2l, 1, 0, 0, 0, 0), (8, .goto 4, 3, 118, 0, 0, 0)], 0),
  (117, [(0, .lconst 0, 1, 0, 0, 0, 0)], 118),
  (118, [(0, .ladd, 1, 0, 0, 0, 0), (1, .lstore_n 2, 1, 0, 0, 0, 0), (1, .iinc 4 1, 3, 0, 0, 0, 0), (8, .goto (-77), 3, 46, 0, 0, 0)], 0),
  (126, [(1, .aload_n 0, 1, 0, 0, 0, 0), (4, .invokestatic 203, 3, 219, 1, 99, 280), (1, .istore 4, 2, 0, 0, 0, 0), (1, .iload 4, 2, 0, 0, 0, 0), (3, .ldc 31, 2, 99991002, 1, 0, 632), (9, .if_icmp .ne 7, 3, 143, 0, 0, 0), (0, .iconst 1, 1, 0, 0, 0, 0), (8, .goto 4, 3, 144, 0, 0, 0)], 0),
  (143, [(0, .iconst 0, 1, 0, 0, 0, 0)], 144),
  (144, [(1, .aload_n 0, 1, 0, 0, 0, 0), (4, .invokestatic 216, 3, 220, 1, 99, 285), (3, .ldc 31, 2, 99991002, 1, 0, 632), (9, .if_icmp .ne 7, 3, 157, 0, 0, 0), (0, .iconst 1, 1, 0, 0, 0, 0), (8, .goto 4, 3, 158, 0, 0, 0)], 0),
  (157, [(0, .iconst 0, 1, 0, 0, 0, 0)], 158),
  (158, [(9, .if_icmp .ne 52, 3, 210, 0, 0, 0), (1, .iload 4, 2, 0, 0, 0, 0), (9, .ifCond .lt 37, 3, 200, 0, 0, 0), (1, .iload 4, 2, 0, 0, 0, 0), (0, .sipush 999, 3, 0, 0, 0, 0), (9, .if_icmp .gt 29, 3, 200, 0, 0, 0), (1, .aload_n 0, 1, 0, 0, 0, 0), (1, .iload 4, 2, 0, 0, 0, 0), (4, .invokestatic 218, 3, 218, 2, 99, 286), (1, .aload_n 0, 1, 0, 0, 0, 0), (0, .bipush 9, 2, 0, 0, 0, 0), (4, .invokestatic 220, 3, 216, 2, 99, 287), (9, .if_icmp .le 24, 3, 210, 0, 0, 0), (1, .aload_n 0, 1, 0, 0, 0, 0), (0, .bipush 9, 2, 0, 0, 0, 0), (4, .invokestatic 220, 3, 216, 2, 99, 287), (0, .bipush 9, 2, 0, 0, 0, 0), (9, .if_icmp .ne 13, 3, 210, 0, 0, 0)], 200),
  (200, [(1, .lload_n 2, 1, 0, 0, 0, 0), (0, .lconst 0, 1, 0, 0, 0, 0), (0, .lcmp, 1, 0, 0, 0, 0), (9, .ifCond .lt 7, 3, 210, 0, 0, 0), (0, .iconst 1, 1, 0, 0, 0, 0), (8, .goto 4, 3, 211, 0, 0, 0)], 0),
  (210, [(0, .iconst 0, 1, 0, 0, 0, 0)], 211),
  (211, [(10, .ireturn, 1, 1, 0, 0, 0)], 0)]
/-- SimplespanLaw.digest(LSimplespan;[I)J -/
def pz_c230 : List (Nat × List pz_Op × Nat) := [
  (0, [(1, .aload_n 0, 1, 0, 0, 0, 0), (4, .invokevirtual 188, 3, 153, 1, 10, 273), (0, .i2l, 1, 0, 0, 0, 0), (1, .lstore_n 2, 1, 0, 0, 0, 0), (0, .iconst 1, 1, 0, 0, 0, 0), (1, .istore 4, 2, 0, 0, 0, 0)], 9),
  (9, [(1, .iload 4, 2, 0, 0, 0, 0), (0, .iconst 4, 1, 0, 0, 0, 0), (9, .if_icmp .gt 23, 3, 35, 0, 0, 0), (13, .ldc2_w 222, 3, 31, 0, 0, 1435), (1, .lload_n 2, 1, 0, 0, 0, 0), (0, .lmul, 1, 0, 0, 0, 0), (1, .aload_n 0, 1, 0, 0, 0, 0), (1, .iload 4, 2, 0, 0, 0, 0), (4, .invokestatic 224, 3, 196, 2, 99, 288), (0, .i2l, 1, 0, 0, 0, 0), (0, .ladd, 1, 0, 0, 0, 0), (1, .lstore_n 2, 1, 0, 0, 0, 0), (1, .iinc 4 1, 3, 0, 0, 0, 0), (8, .goto (-23), 3, 9, 0, 0, 0)], 0),
  (35, [(0, .iconst 0, 1, 0, 0, 0, 0), (1, .istore 4, 2, 0, 0, 0, 0)], 38),
  (38, [(1, .iload 4, 2, 0, 0, 0, 0), (0, .bipush 10, 2, 0, 0, 0, 0), (9, .if_icmp .ge 55, 3, 97, 0, 0, 0), (13, .ldc2_w 222, 3, 31, 0, 0, 1435), (1, .lload_n 2, 1, 0, 0, 0, 0), (0, .lmul, 1, 0, 0, 0, 0), (1, .aload_n 0, 1, 0, 0, 0, 0), (1, .iload 4, 2, 0, 0, 0, 0), (4, .invokestatic 184, 3, 214, 2, 99, 271), (0, .i2l, 1, 0, 0, 0, 0), (0, .ladd, 1, 0, 0, 0, 0), (1, .lstore_n 2, 1, 0, 0, 0, 0), (0, .iconst 0, 1, 0, 0, 0, 0), (1, .istore 5, 2, 0, 0, 0, 0)], 62),
  (62, [(1, .iload 5, 2, 0, 0, 0, 0), (0, .bipush 10, 2, 0, 0, 0, 0), (9, .if_icmp .ge 25, 3, 91, 0, 0, 0), (13, .ldc2_w 222, 3, 31, 0, 0, 1435), (1, .lload_n 2, 1, 0, 0, 0, 0), (0, .lmul, 1, 0, 0, 0, 0), (1, .aload_n 0, 1, 0, 0, 0, 0), (1, .iload 4, 2, 0, 0, 0, 0), (1, .iload 5, 2, 0, 0, 0, 0), (4, .invokestatic 161, 3, 197, 3, 99, 262), (0, .i2l, 1, 0, 0, 0, 0), (0, .ladd, 1, 0, 0, 0, 0), (1, .lstore_n 2, 1, 0, 0, 0, 0), (1, .iinc 5 1, 3, 0, 0, 0, 0), (8, .goto (-26), 3, 62, 0, 0, 0)], 0),
  (91, [(1, .iinc 4 1, 3, 0, 0, 0, 0), (8, .goto (-56), 3, 38, 0, 0, 0)], 0),
  (97, [(13, .ldc2_w 222, 3, 31, 0, 0, 1435), (1, .lload_n 2, 1, 0, 0, 0, 0), (0, .lmul, 1, 0, 0, 0, 0), (1, .aload_n 0, 1, 0, 0, 0, 0), (4, .invokestatic 155, 3, 200, 1, 99, 260), (0, .i2l, 1, 0, 0, 0, 0), (0, .ladd, 1, 0, 0, 0, 0), (10, .lreturn, 1, 3, 0, 0, 0)], 0)]
/-- SimplespanLaw.law([I)Z -/
def pz_c231 : List (Nat × List pz_Op × Nat) := [
  (0, [(2, .new 15, 3, 10, 10, 0, 13), (0, .dup, 1, 0, 0, 0, 0), (4, .invokespecial 226, 3, 122, 1, 10, 289), (1, .astore_n 1, 1, 0, 0, 0, 0), (0, .sipush 190, 3, 0, 0, 0, 0), (2, .newarray .int, 2, 20, 0, 0, 0), (1, .astore_n 2, 1, 0, 0, 0, 0), (1, .aload_n 2, 1, 0, 0, 0, 0), (0, .iconst 0, 1, 0, 0, 0, 0), (0, .iconst 1, 1, 0, 0, 0, 0), (2, .iastore, 1, 0, 0, 0, 0), (0, .iconst 3, 1, 0, 0, 0, 0), (1, .aload_n 0, 1, 0, 0, 0, 0), (0, .iconst 0, 1, 0, 0, 0, 0), (0, .iconst 5, 1, 0, 0, 0, 0), (4, .invokestatic 227, 3, 189, 3, 99, 290), (0, .iadd, 1, 0, 0, 0, 0), (1, .istore_n 3, 1, 0, 0, 0, 0)], 27),
  (27, [(1, .iload_n 3, 1, 0, 0, 0, 0), (9, .ifCond .le 28, 3, 56, 0, 0, 0), (1, .aload_n 1, 1, 0, 0, 0, 0), (4, .invokestatic 231, 3, 190, 1, 99, 291), (1, .aload_n 2, 1, 0, 0, 0, 0), (0, .iconst 0, 1, 0, 0, 0, 0), (2, .iaload, 1, 0, 0, 0, 0), (9, .if_icmp .eq 5, 3, 43, 0, 0, 0), (0, .iconst 0, 1, 0, 0, 0, 0), (10, .ireturn, 1, 1, 0, 0, 0)], 0),
  (43, [(1, .aload_n 2, 1, 0, 0, 0, 0), (0, .iconst 0, 1, 0, 0, 0, 0), (0, .dup2, 1, 0, 0, 0, 0), (2, .iaload, 1, 0, 0, 0, 0), (0, .iconst 1, 1, 0, 0, 0, 0), (0, .iadd, 1, 0, 0, 0, 0), (2, .iastore, 1, 0, 0, 0, 0), (1, .iinc 3 (-1), 3, 0, 0, 0, 0), (8, .goto (-26), 3, 27, 0, 0, 0)], 0),
  (56, [(0, .iconst 0, 1, 0, 0, 0, 0), (1, .istore_n 3, 1, 0, 0, 0, 0)], 58),
  (58, [(1, .iload_n 3, 1, 0, 0, 0, 0), (0, .bipush 22, 2, 0, 0, 0, 0), (9, .if_icmp .ge 901, 3, 962, 0, 0, 0), (1, .aload_n 0, 1, 0, 0, 0, 0), (0, .iconst 1, 1, 0, 0, 0, 0), (1, .iload_n 3, 1, 0, 0, 0, 0), (0, .iadd, 1, 0, 0, 0, 0), (4, .invokestatic 8, 3, 188, 2, 99, 222), (0, .iconst 1, 1, 0, 0, 0, 0), (0, .iushr, 1, 0, 0, 0, 0), (1, .istore 4, 2, 0, 0, 0, 0), (1, .iload 4, 2, 0, 0, 0, 0), (0, .bipush 16, 2, 0, 0, 0, 0), (0, .idiv, 1, 0, 0, 0, 0), (1, .aload_n 2, 1, 0, 0, 0, 0), (0, .iconst 0, 1, 0, 0, 0, 0), (2, .iaload, 1, 0, 0, 0, 0), (0, .irem, 1, 0, 0, 0, 0), (1, .istore 5, 2, 0, 0, 0, 0), (1, .iload 4, 2, 0, 0, 0, 0), (0, .sipush 256, 3, 0, 0, 0, 0), (0, .idiv, 1, 0, 0, 0, 0), (1, .aload_n 2, 1, 0, 0, 0, 0), (0, .iconst 0, 1, 0, 0, 0, 0), (2, .iaload, 1, 0, 0, 0, 0), (0, .irem, 1, 0, 0, 0, 0), (1, .istore 6, 2, 0, 0, 0, 0), (1, .iload 4, 2, 0, 0, 0, 0), (0, .sipush 4096, 3, 0, 0, 0, 0), (0, .idiv, 1, 0, 0, 0, 0), (1, .istore 7, 2, 0, 0, 0, 0), (0, .iconst 1, 1, 0, 0, 0, 0), (1, .istore 8, 2, 0, 0, 0, 0), (1, .iload 4, 2, 0, 0, 0, 0), (0, .bipush 16, 2, 0, 0, 0, 0), (0, .irem, 1, 0, 0, 0, 0), (12, .tableswitch 708 0 14 #[74, 74, 74, 74, 180, 180, 331, 362, 414, 455, 455, 521, 552, 578, 665], 74, 114, 0, 0, 0)], 0),
  (188, [(1, .iload 7, 2, 0, 0, 0, 0), (0, .bipush 80, 2, 0, 0, 0, 0), (0, .irem, 1, 0, 0, 0, 0), (0, .bipush 30, 2, 0, 0, 0, 0), (0, .isub, 1, 0, 0, 0, 0), (1, .istore 9, 2, 0, 0, 0, 0), (1, .aload_n 1, 1, 0, 0, 0, 0), (1, .iload 5, 2, 0, 0, 0, 0), (1, .iload 6, 2, 0, 0, 0, 0), (1, .iload 9, 2, 0, 0, 0, 0), (1, .iload 7, 2, 0, 0, 0, 0), (0, .sipush 128, 3, 0, 0, 0, 0), (0, .idiv, 1, 0, 0, 0, 0), (0, .iconst 3, 1, 0, 0, 0, 0), (0, .irem, 1, 0, 0, 0, 0), (9, .ifCond .le 7, 3, 220, 0, 0, 0), (0, .iconst 0, 1, 0, 0, 0, 0), (8, .goto 14, 3, 231, 0, 0, 0)], 0),
  (220, [(1, .iload 7, 2, 0, 0, 0, 0), (0, .sipush 512, 3, 0, 0, 0, 0), (0, .idiv, 1, 0, 0, 0, 0), (0, .bipush 9, 2, 0, 0, 0, 0), (0, .irem, 1, 0, 0, 0, 0), (0, .iconst 4, 1, 0, 0, 0, 0), (0, .isub, 1, 0, 0, 0, 0)], 231),
  (231, [(4, .invokestatic 233, 3, 191, 5, 99, 292), (1, .istore 10, 2, 0, 0, 0, 0), (1, .iload 5, 2, 0, 0, 0, 0), (1, .iload 6, 2, 0, 0, 0, 0), (9, .if_icmp .ne 18, 3, 258, 0, 0, 0), (1, .iload 10, 2, 0, 0, 0, 0), (3, .ldc 31, 2, 99991002, 1, 0, 632), (9, .if_icmp .ne 7, 3, 254, 0, 0, 0), (0, .iconst 1, 1, 0, 0, 0, 0), (8, .goto 20, 3, 271, 0, 0, 0)], 0),
  (254, [(0, .iconst 0, 1, 0, 0, 0, 0), (8, .goto 16, 3, 271, 0, 0, 0)], 0),
  (258, [(1, .iload 10, 2, 0, 0, 0, 0), (1, .aload_n 2, 1, 0, 0, 0, 0), (0, .iconst 1, 1, 0, 0, 0, 0), (2, .iaload, 1, 0, 0, 0, 0), (9, .if_icmp .ne 7, 3, 270, 0, 0, 0), (0, .iconst 1, 1, 0, 0, 0, 0), (8, .goto 4, 3, 271, 0, 0, 0)], 0),
  (270, [(0, .iconst 0, 1, 0, 0, 0, 0)], 271),
  (271, [(1, .istore 8, 2, 0, 0, 0, 0), (1, .aload_n 2, 1, 0, 0, 0, 0), (0, .iconst 1, 1, 0, 0, 0, 0), (0, .dup2, 1, 0, 0, 0, 0), (2, .iaload, 1, 0, 0, 0, 0), (1, .iload 5, 2, 0, 0, 0, 0), (1, .iload 6, 2, 0, 0, 0, 0), (9, .if_icmp .ne 7, 3, 288, 0, 0, 0), (0, .iconst 0, 1, 0, 0, 0, 0), (8, .goto 4, 3, 289, 0, 0, 0)], 0),
  (288, [(0, .iconst 1, 1, 0, 0, 0, 0)], 289),
  (289, [(0, .iadd, 1, 0, 0, 0, 0), (2, .iastore, 1, 0, 0, 0, 0), (8, .goto 626, 3, 917, 0, 0, 0)], 0),
  (294, [(0, .iconst 1, 1, 0, 0, 0, 0), (1, .iload 7, 2, 0, 0, 0, 0), (0, .bipush 20, 2, 0, 0, 0, 0), (0, .irem, 1, 0, 0, 0, 0), (0, .iadd, 1, 0, 0, 0, 0), (1, .istore 9, 2, 0, 0, 0, 0), (1, .aload_n 1, 1, 0, 0, 0, 0), (1, .iload 5, 2, 0, 0, 0, 0), (1, .iload 6, 2, 0, 0, 0, 0), (1, .iload 9, 2, 0, 0, 0, 0), (1, .iload 9, 2, 0, 0, 0, 0), (1, .iload 7, 2, 0, 0, 0, 0), (0, .bipush 32, 2, 0, 0, 0, 0), (0, .idiv, 1, 0, 0, 0, 0), (0, .bipush 20, 2, 0, 0, 0, 0), (0, .irem, 1, 0, 0, 0, 0), (0, .iadd, 1, 0, 0, 0, 0), (4, .invokestatic 236, 3, 193, 5, 99, 293), (1, .istore 10, 2, 0, 0, 0, 0), (1, .iload 6, 2, 0, 0, 0, 0), (1, .iload 5, 2, 0, 0, 0, 0), (9, .if_icmp .gt 18, 3, 348, 0, 0, 0), (1, .iload 10, 2, 0, 0, 0, 0), (3, .ldc 31, 2, 99991002, 1, 0, 632), (9, .if_icmp .ne 7, 3, 344, 0, 0, 0), (0, .iconst 1, 1, 0, 0, 0, 0), (8, .goto 27, 3, 368, 0, 0, 0)], 0),
  (344, [(0, .iconst 0, 1, 0, 0, 0, 0), (8, .goto 23, 3, 368, 0, 0, 0)], 0),
  (348, [(1, .iload 10, 2, 0, 0, 0, 0), (1, .aload_n 2, 1, 0, 0, 0, 0), (0, .iconst 2, 1, 0, 0, 0, 0), (2, .iaload, 1, 0, 0, 0, 0), (9, .if_icmp .eq 10, 3, 363, 0, 0, 0), (1, .iload 10, 2, 0, 0, 0, 0), (3, .ldc 32, 2, 99991003, 1, 0, 633), (9, .if_icmp .ne 7, 3, 367, 0, 0, 0)], 363),
  (363, [(0, .iconst 1, 1, 0, 0, 0, 0), (8, .goto 4, 3, 368, 0, 0, 0)], 0),
  (367, [(0, .iconst 0, 1, 0, 0, 0, 0)], 368),
  (368, [(1, .istore 8, 2, 0, 0, 0, 0), (1, .iload 10, 2, 0, 0, 0, 0), (9, .ifCond .ge 6, 3, 378, 0, 0, 0), (8, .goto 542, 3, 917, 0, 0, 0)], 0),
  (378, [(1, .aload_n 2, 1, 0, 0, 0, 0), (0, .sipush 170, 3, 0, 0, 0, 0), (0, .iconst 4, 1, 0, 0, 0, 0), (1, .iload 10, 2, 0, 0, 0, 0), (0, .imul, 1, 0, 0, 0, 0), (0, .iadd, 1, 0, 0, 0, 0), (1, .iload 5, 2, 0, 0, 0, 0), (2, .iastore, 1, 0, 0, 0, 0), (1, .aload_n 2, 1, 0, 0, 0, 0), (0, .sipush 171, 3, 0, 0, 0, 0), (0, .iconst 4, 1, 0, 0, 0, 0), (1, .iload 10, 2, 0, 0, 0, 0), (0, .imul, 1, 0, 0, 0, 0), (0, .iadd, 1, 0, 0, 0, 0), (1, .iload 6, 2, 0, 0, 0, 0), (2, .iastore, 1, 0, 0, 0, 0), (1, .aload_n 2, 1, 0, 0, 0, 0), (0, .sipush 172, 3, 0, 0, 0, 0), (0, .iconst 4, 1, 0, 0, 0, 0), (1, .iload 10, 2, 0, 0, 0, 0), (0, .imul, 1, 0, 0, 0, 0), (0, .iadd, 1, 0, 0, 0, 0), (1, .iload 9, 2, 0, 0, 0, 0), (2, .iastore, 1, 0, 0, 0, 0), (1, .aload_n 2, 1, 0, 0, 0, 0), (0, .sipush 173, 3, 0, 0, 0, 0), (0, .iconst 4, 1, 0, 0, 0, 0), (1, .iload 10, 2, 0, 0, 0, 0), (0, .imul, 1, 0, 0, 0, 0), (0, .iadd, 1, 0, 0, 0, 0), (1, .iload 9, 2, 0, 0, 0, 0), (1, .iload 7, 2, 0, 0, 0, 0), (0, .bipush 32, 2, 0, 0, 0, 0), (0, .idiv, 1, 0, 0, 0, 0), (0, .bipush 20, 2, 0, 0, 0, 0), (0, .irem, 1, 0, 0, 0, 0), (0, .iadd, 1, 0, 0, 0, 0), (2, .iastore, 1, 0, 0, 0, 0), (1, .aload_n 2, 1, 0, 0, 0, 0), (0, .iconst 2, 1, 0, 0, 0, 0), (0, .dup2, 1, 0, 0, 0, 0), (2, .iaload, 1, 0, 0, 0, 0), (0, .iconst 1, 1, 0, 0, 0, 0), (0, .iadd, 1, 0, 0, 0, 0), (2, .iastore, 1, 0, 0, 0, 0), (8, .goto 475, 3, 917, 0, 0, 0)], 0),
  (445, [(1, .aload_n 2, 1, 0, 0, 0, 0), (0, .iconst 1, 1, 0, 0, 0, 0), (2, .iaload, 1, 0, 0, 0, 0), (9, .ifCond .eq 18, 3, 466, 0, 0, 0), (1, .aload_n 1, 1, 0, 0, 0, 0), (1, .iload 7, 2, 0, 0, 0, 0), (1, .aload_n 2, 1, 0, 0, 0, 0), (0, .iconst 1, 1, 0, 0, 0, 0), (2, .iaload, 1, 0, 0, 0, 0), (0, .irem, 1, 0, 0, 0, 0), (4, .invokestatic 238, 3, 192, 2, 99, 294), (3, .ldc 22, 2, 99991001, 1, 0, 569), (9, .if_icmp .eq 7, 3, 470, 0, 0, 0)], 466),
  (466, [(0, .iconst 1, 1, 0, 0, 0, 0), (8, .goto 4, 3, 471, 0, 0, 0)], 0),
  (470, [(0, .iconst 0, 1, 0, 0, 0, 0)], 471),
  (471, [(1, .istore 8, 2, 0, 0, 0, 0), (8, .goto 444, 3, 917, 0, 0, 0)], 0),
  (476, [(1, .aload_n 1, 1, 0, 0, 0, 0), (0, .iconst 1, 1, 0, 0, 0, 0), (1, .iload 7, 2, 0, 0, 0, 0), (0, .iconst 4, 1, 0, 0, 0, 0), (0, .irem, 1, 0, 0, 0, 0), (0, .iadd, 1, 0, 0, 0, 0), (1, .iload 7, 2, 0, 0, 0, 0), (0, .iconst 2, 1, 0, 0, 0, 0), (0, .irem, 1, 0, 0, 0, 0), (9, .ifCond .ne 7, 3, 494, 0, 0, 0), (0, .iconst 1, 1, 0, 0, 0, 0), (8, .goto 4, 3, 495, 0, 0, 0)], 0),
  (494, [(0, .iconst 0, 1, 0, 0, 0, 0)], 495),
  (495, [(4, .invokestatic 240, 3, 194, 3, 99, 295), (3, .ldc 22, 2, 99991001, 1, 0, 569), (9, .if_icmp .eq 22, 3, 522, 0, 0, 0), (1, .aload_n 1, 1, 0, 0, 0, 0), (0, .iconst 1, 1, 0, 0, 0, 0), (1, .iload 7, 2, 0, 0, 0, 0), (0, .iconst 4, 1, 0, 0, 0, 0), (0, .irem, 1, 0, 0, 0, 0), (0, .iadd, 1, 0, 0, 0, 0), (4, .invokestatic 224, 3, 196, 2, 99, 288), (0, .bipush 111, 2, 0, 0, 0, 0), (9, .if_icmp .eq 7, 3, 522, 0, 0, 0), (0, .iconst 1, 1, 0, 0, 0, 0), (8, .goto 4, 3, 523, 0, 0, 0)], 0),
  (522, [(0, .iconst 0, 1, 0, 0, 0, 0)], 523),
  (523, [(1, .istore 8, 2, 0, 0, 0, 0), (8, .goto 392, 3, 917, 0, 0, 0)], 0),
  (528, [(1, .aload_n 1, 1, 0, 0, 0, 0), (4, .invokestatic 243, 3, 195, 1, 99, 296), (1, .istore 9, 2, 0, 0, 0, 0), (1, .iload 9, 2, 0, 0, 0, 0), (3, .ldc 22, 2, 99991001, 1, 0, 569), (9, .if_icmp .eq 21, 3, 559, 0, 0, 0), (1, .aload_n 1, 1, 0, 0, 0, 0), (4, .invokevirtual 152, 3, 131, 1, 10, 259), (9, .ifCond .eq 18, 3, 563, 0, 0, 0), (1, .iload 9, 2, 0, 0, 0, 0), (9, .ifCond .lt 13, 3, 563, 0, 0, 0), (1, .iload 9, 2, 0, 0, 0, 0), (0, .iconst 4, 1, 0, 0, 0, 0), (9, .if_icmp .gt 7, 3, 563, 0, 0, 0)], 559),
  (559, [(0, .iconst 1, 1, 0, 0, 0, 0), (8, .goto 4, 3, 564, 0, 0, 0)], 0),
  (563, [(0, .iconst 0, 1, 0, 0, 0, 0)], 564),
  (564, [(1, .istore 8, 2, 0, 0, 0, 0), (8, .goto 351, 3, 917, 0, 0, 0)], 0),
  (569, [(1, .aload_n 1, 1, 0, 0, 0, 0), (1, .iload 5, 2, 0, 0, 0, 0), (4, .invokestatic 182, 3, 208, 2, 99, 270), (1, .istore 9, 2, 0, 0, 0, 0), (1, .aload_n 1, 1, 0, 0, 0, 0), (1, .iload 5, 2, 0, 0, 0, 0), (4, .invokestatic 245, 3, 211, 2, 99, 297), (1, .istore 10, 2, 0, 0, 0, 0), (1, .iload 9, 2, 0, 0, 0, 0), (0, .bipush 45, 2, 0, 0, 0, 0), (9, .if_icmp .ne 31, 3, 620, 0, 0, 0), (1, .iload 10, 2, 0, 0, 0, 0), (1, .aload_n 1, 1, 0, 0, 0, 0), (4, .invokevirtual 188, 3, 153, 1, 10, 273), (9, .if_icmp .ne 18, 3, 616, 0, 0, 0), (1, .aload_n 1, 1, 0, 0, 0, 0), (1, .iload 5, 2, 0, 0, 0, 0), (4, .invokestatic 184, 3, 214, 2, 99, 271), (1, .iload 10, 2, 0, 0, 0, 0), (9, .if_icmp .ne 7, 3, 616, 0, 0, 0), (0, .iconst 1, 1, 0, 0, 0, 0), (8, .goto 17, 3, 630, 0, 0, 0)], 0),
  (616, [(0, .iconst 0, 1, 0, 0, 0, 0), (8, .goto 13, 3, 630, 0, 0, 0)], 0),
  (620, [(1, .iload 10, 2, 0, 0, 0, 0), (9, .ifCond .ge 7, 3, 629, 0, 0, 0), (0, .iconst 1, 1, 0, 0, 0, 0), (8, .goto 4, 3, 630, 0, 0, 0)], 0),
  (629, [(0, .iconst 0, 1, 0, 0, 0, 0)], 630),
  (630, [(1, .istore 8, 2, 0, 0, 0, 0), (8, .goto 285, 3, 917, 0, 0, 0)], 0),
  (635, [(1, .aload_n 2, 1, 0, 0, 0, 0), (0, .iconst 2, 1, 0, 0, 0, 0), (2, .iaload, 1, 0, 0, 0, 0), (9, .ifCond .eq 18, 3, 656, 0, 0, 0), (1, .aload_n 1, 1, 0, 0, 0, 0), (1, .iload 7, 2, 0, 0, 0, 0), (1, .aload_n 2, 1, 0, 0, 0, 0), (0, .iconst 2, 1, 0, 0, 0, 0), (2, .iaload, 1, 0, 0, 0, 0), (0, .irem, 1, 0, 0, 0, 0), (4, .invokestatic 247, 3, 212, 2, 99, 298), (3, .ldc 22, 2, 99991001, 1, 0, 569), (9, .if_icmp .eq 7, 3, 660, 0, 0, 0)], 656),
  (656, [(0, .iconst 1, 1, 0, 0, 0, 0), (8, .goto 4, 3, 661, 0, 0, 0)], 0),
  (660, [(0, .iconst 0, 1, 0, 0, 0, 0)], 661),
  (661, [(1, .istore 8, 2, 0, 0, 0, 0), (8, .goto 254, 3, 917, 0, 0, 0)], 0),
  (666, [(1, .aload_n 1, 1, 0, 0, 0, 0), (0, .iconst 1, 1, 0, 0, 0, 0), (1, .iload 7, 2, 0, 0, 0, 0), (0, .bipush 9, 2, 0, 0, 0, 0), (0, .irem, 1, 0, 0, 0, 0), (0, .iadd, 1, 0, 0, 0, 0), (4, .invokestatic 249, 3, 213, 2, 99, 299), (3, .ldc 22, 2, 99991001, 1, 0, 569), (9, .if_icmp .eq 7, 3, 686, 0, 0, 0), (0, .iconst 1, 1, 0, 0, 0, 0), (8, .goto 4, 3, 687, 0, 0, 0)], 0),
  (686, [(0, .iconst 0, 1, 0, 0, 0, 0)], 687),
  (687, [(1, .istore 8, 2, 0, 0, 0, 0), (8, .goto 228, 3, 917, 0, 0, 0)], 0),
  (692, [(1, .iload 5, 2, 0, 0, 0, 0), (1, .iload 6, 2, 0, 0, 0, 0), (9, .if_icmp .ne 25, 3, 721, 0, 0, 0), (1, .aload_n 1, 1, 0, 0, 0, 0), (1, .iload 5, 2, 0, 0, 0, 0), (1, .iload 6, 2, 0, 0, 0, 0), (0, .iconst 1, 1, 0, 0, 0, 0), (4, .invokestatic 251, 3, 215, 4, 99, 300), (3, .ldc 31, 2, 99991002, 1, 0, 632), (9, .if_icmp .ne 7, 3, 717, 0, 0, 0), (0, .iconst 1, 1, 0, 0, 0, 0), (8, .goto 37, 3, 751, 0, 0, 0)], 0),
  (717, [(0, .iconst 0, 1, 0, 0, 0, 0), (8, .goto 33, 3, 751, 0, 0, 0)], 0),
  (721, [(1, .aload_n 1, 1, 0, 0, 0, 0), (1, .iload 5, 2, 0, 0, 0, 0), (1, .iload 6, 2, 0, 0, 0, 0), (0, .iconst 1, 1, 0, 0, 0, 0), (1, .iload 7, 2, 0, 0, 0, 0), (0, .bipush 9, 2, 0, 0, 0, 0), (0, .irem, 1, 0, 0, 0, 0), (0, .iadd, 1, 0, 0, 0, 0), (4, .invokestatic 251, 3, 215, 4, 99, 300), (9, .ifCond .ge 10, 3, 746, 0, 0, 0), (1, .aload_n 2, 1, 0, 0, 0, 0), (0, .iconst 3, 1, 0, 0, 0, 0), (2, .iaload, 1, 0, 0, 0, 0), (0, .iconst 5, 1, 0, 0, 0, 0), (9, .if_icmp .ne 7, 3, 750, 0, 0, 0)], 746),
  (746, [(0, .iconst 1, 1, 0, 0, 0, 0), (8, .goto 4, 3, 751, 0, 0, 0)], 0),
  (750, [(0, .iconst 0, 1, 0, 0, 0, 0)], 751),
  (751, [(1, .istore 8, 2, 0, 0, 0, 0), (1, .aload_n 2, 1, 0, 0, 0, 0), (0, .iconst 3, 1, 0, 0, 0, 0), (0, .iconst 5, 1, 0, 0, 0, 0), (1, .aload_n 2, 1, 0, 0, 0, 0), (0, .iconst 3, 1, 0, 0, 0, 0), (2, .iaload, 1, 0, 0, 0, 0), (1, .iload 5, 2, 0, 0, 0, 0), (1, .iload 6, 2, 0, 0, 0, 0), (9, .if_icmp .ne 7, 3, 770, 0, 0, 0), (0, .iconst 0, 1, 0, 0, 0, 0), (8, .goto 4, 3, 771, 0, 0, 0)], 0),
  (770, [(0, .iconst 1, 1, 0, 0, 0, 0)], 771),
  (771, [(0, .iadd, 1, 0, 0, 0, 0), (4, .invokestatic 254, 3, 2, 2, 99, 301), (2, .iastore, 1, 0, 0, 0, 0), (8, .goto 141, 3, 917, 0, 0, 0)], 0),
  (779, [(1, .aload_n 1, 1, 0, 0, 0, 0), (1, .iload 5, 2, 0, 0, 0, 0), (1, .iload 7, 2, 0, 0, 0, 0), (0, .bipush 100, 2, 0, 0, 0, 0), (0, .irem, 1, 0, 0, 0, 0), (1, .iload 7, 2, 0, 0, 0, 0), (0, .sipush 128, 3, 0, 0, 0, 0), (0, .idiv, 1, 0, 0, 0, 0), (0, .bipush 9, 2, 0, 0, 0, 0), (0, .irem, 1, 0, 0, 0, 0), (1, .iload 7, 2, 0, 0, 0, 0), (0, .sipush 2048, 3, 0, 0, 0, 0), (0, .idiv, 1, 0, 0, 0, 0), (0, .bipush 9, 2, 0, 0, 0, 0), (0, .irem, 1, 0, 0, 0, 0), (4, .invokestatic 257, 3, 222, 5, 99, 302), (0, .iconst (-1), 1, 0, 0, 0, 0), (9, .if_icmp .lt 7, 3, 816, 0, 0, 0), (0, .iconst 1, 1, 0, 0, 0, 0), (8, .goto 4, 3, 817, 0, 0, 0)], 0),
  (816, [(0, .iconst 0, 1, 0, 0, 0, 0)], 817),
  (817, [(1, .istore 8, 2, 0, 0, 0, 0), (8, .goto 98, 3, 917, 0, 0, 0)], 0),
  (822, [(1, .aload_n 1, 1, 0, 0, 0, 0), (1, .aload_n 2, 1, 0, 0, 0, 0), (4, .invokestatic 259, 3, 230, 2, 99, 303), (1, .lstore 9, 2, 0, 0, 0, 0), (1, .aload_n 1, 1, 0, 0, 0, 0), (4, .invokestatic 263, 3, 224, 1, 99, 304), (0, .iconst 1, 1, 0, 0, 0, 0), (9, .if_icmp .eq 5, 3, 839, 0, 0, 0), (0, .iconst 0, 1, 0, 0, 0, 0), (10, .ireturn, 1, 1, 0, 0, 0)], 0),
  (839, [(1, .aload_n 1, 1, 0, 0, 0, 0), (0, .iconst 0, 1, 0, 0, 0, 0), (1, .aload_n 2, 1, 0, 0, 0, 0), (0, .iconst 0, 1, 0, 0, 0, 0), (2, .iaload, 1, 0, 0, 0, 0), (0, .iconst 1, 1, 0, 0, 0, 0), (0, .isub, 1, 0, 0, 0, 0), (0, .iconst 3, 1, 0, 0, 0, 0), (0, .iconst 0, 1, 0, 0, 0, 0), (4, .invokestatic 233, 3, 191, 5, 99, 292), (0, .pop, 1, 0, 0, 0, 0), (1, .aload_n 1, 1, 0, 0, 0, 0), (4, .invokestatic 243, 3, 195, 1, 99, 296), (0, .pop, 1, 0, 0, 0, 0), (1, .aload_n 1, 1, 0, 0, 0, 0), (0, .iconst 1, 1, 0, 0, 0, 0), (4, .invokestatic 249, 3, 213, 2, 99, 299), (0, .pop, 1, 0, 0, 0, 0), (1, .aload_n 1, 1, 0, 0, 0, 0), (1, .aload_n 2, 1, 0, 0, 0, 0), (0, .iconst 0, 1, 0, 0, 0, 0), (2, .iaload, 1, 0, 0, 0, 0), (0, .iconst 1, 1, 0, 0, 0, 0), (0, .isub, 1, 0, 0, 0, 0), (4, .invokestatic 245, 3, 211, 2, 99, 297), (0, .pop, 1, 0, 0, 0, 0), (1, .aload_n 1, 1, 0, 0, 0, 0), (4, .invokestatic 207, 3, 221, 1, 99, 282), (0, .pop, 1, 0, 0, 0, 0), (1, .aload_n 1, 1, 0, 0, 0, 0), (4, .invokestatic 231, 3, 190, 1, 99, 291), (0, .pop, 1, 0, 0, 0, 0), (1, .aload_n 1, 1, 0, 0, 0, 0), (4, .invokestatic 265, 3, 225, 1, 99, 305), (9, .ifCond .ne 27, 3, 914, 0, 0, 0), (1, .aload_n 1, 1, 0, 0, 0, 0), (4, .invokestatic 265, 3, 225, 1, 99, 305), (3, .ldc 22, 2, 99991001, 1, 0, 569), (9, .if_icmp .ne 18, 3, 914, 0, 0, 0), (1, .aload_n 1, 1, 0, 0, 0, 0), (1, .aload_n 2, 1, 0, 0, 0, 0), (4, .invokestatic 259, 3, 230, 2, 99, 303), (1, .lload 9, 2, 0, 0, 0, 0), (0, .lcmp, 1, 0, 0, 0, 0), (9, .ifCond .ne 7, 3, 914, 0, 0, 0), (0, .iconst 1, 1, 0, 0, 0, 0), (8, .goto 4, 3, 915, 0, 0, 0)], 0),
  (914, [(0, .iconst 0, 1, 0, 0, 0, 0)], 915),
  (915, [(1, .istore 8, 2, 0, 0, 0, 0)], 917),
  (917, [(1, .iload 8, 2, 0, 0, 0, 0), (9, .ifCond .eq 35, 3, 954, 0, 0, 0), (1, .aload_n 1, 1, 0, 0, 0, 0), (1, .aload_n 2, 1, 0, 0, 0, 0), (4, .invokestatic 267, 3, 226, 2, 99, 306), (9, .ifCond .eq 27, 3, 954, 0, 0, 0), (1, .aload_n 1, 1, 0, 0, 0, 0), (1, .aload_n 2, 1, 0, 0, 0, 0), (4, .invokestatic 271, 3, 227, 2, 99, 307), (9, .ifCond .eq 19, 3, 954, 0, 0, 0), (1, .aload_n 1, 1, 0, 0, 0, 0), (1, .aload_n 2, 1, 0, 0, 0, 0), (4, .invokestatic 274, 3, 228, 2, 99, 308), (9, .ifCond .eq 11, 3, 954, 0, 0, 0), (1, .aload_n 1, 1, 0, 0, 0, 0), (1, .aload_n 2, 1, 0, 0, 0, 0), (4, .invokestatic 277, 3, 229, 2, 99, 309), (9, .ifCond .ne 5, 3, 956, 0, 0, 0)], 954),
  (954, [(0, .iconst 0, 1, 0, 0, 0, 0), (10, .ireturn, 1, 1, 0, 0, 0)], 0),
  (956, [(1, .iinc 3 1, 3, 0, 0, 0, 0), (8, .goto (-901), 3, 58, 0, 0, 0)], 0),
  (962, [(0, .iconst 1, 1, 0, 0, 0, 0), (10, .ireturn, 1, 1, 0, 0, 0)], 0)]
