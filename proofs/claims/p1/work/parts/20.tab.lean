/-! the table of methods: what the runs reach, by program -/
def ze0 : List (List ZEn) := [[(0, .aload_n 0, 1, 0, 0), (1, .invokespecial 3, 3, 1, 0), (4, .aload_n 0, 1, 0, 0), (5, .bipush 12, 2, 0, 0), (7, .newarray .int, 2, 0, 0), (9, .putfield 11, 3, 0, 1), (12, .aload_n 0, 1, 0, 0), (13, .bipush 24, 2, 0, 0), (15, .newarray .int, 2, 0, 0)],
  [(17, .putfield 15, 3, 0, 2), (20, .aload_n 0, 1, 0, 0), (21, .sipush 144, 3, 0, 0), (24, .newarray .int, 2, 0, 0), (26, .putfield 18, 3, 0, 3), (29, .return_, 1, 0, 0)]]
def zm0 : ZMI := (yX0_init, cX0_init, 1, none, 2, 3, 180, 0, 0, ze0)
def ze1 : List (List ZEn) := [[(0, .aload_n 0, 1, 0, 0), (1, .iconst 0, 1, 0, 0), (2, .putfield 21, 3, 0, 0), (5, .return_, 1, 0, 0)]]
def zm1 : ZMI := (yX0_reset, cX0_reset, 1, none, 0, 0, 0, 0, 0, ze1)
def ze2 : List (List ZEn) := [[(0, .iconst 0, 1, 0, 0), (1, .istore_n 3, 1, 0, 0), (2, .iconst 0, 1, 0, 0), (3, .istore 4, 2, 0, 0), (5, .iload 4, 2, 0, 0), (7, .aload_n 0, 1, 0, 0), (8, .getfield 21, 3, 0, 0), (11, .if_icmp .ge 78, 3, 0, 0)],
  [],
  [],
  [],
  [],
  [(89, .iload_n 3, 1, 0, 0), (90, .ireturn, 1, 0, 0)]]
def zm2 : ZMI := (yX0_fitting, cX0_fitting, 6, (some .int), 0, 0, 0, 2, 0, ze2)
def ze3 : List (List ZEn) := [[(0, .aload_n 0, 1, 0, 0), (1, .invokespecial 3, 3, 1, 0), (4, .aload_n 0, 1, 0, 0), (5, .new 9, 3, 5, 0), (8, .dup, 1, 0, 0), (9, .invokespecial 11, 3, 6, 33), (12, .putfield 12, 3, 1, 0), (15, .aload_n 0, 1, 0, 0)],
  [(16, .iconst 4, 1, 0, 0), (17, .newarray .long, 2, 0, 0), (19, .putfield 18, 3, 1, 7), (22, .return_, 1, 0, 0)]]
def zm3 : ZMI := (yX1_init, cX1_init, 1, none, 2, 8, 287, 0, 1, ze3)
def ze4 : List (List ZEn) := [[(0, .aload_n 0, 1, 0, 0), (1, .invokevirtual 22, 3, 0, 6), (4, .aload_n 0, 1, 0, 0), (5, .getfield 12, 3, 1, 0), (8, .getfield 25, 3, 5, 11), (11, .istore_n 3, 1, 0, 0), (12, .aload_n 0, 1, 0, 0), (13, .getfield 12, 3, 1, 0)],
  [(16, .getfield 29, 3, 5, 6), (19, .ifCond .ne 20, 3, 0, 0), (22, .aload_n 0, 1, 0, 0), (23, .getfield 12, 3, 1, 0), (26, .getfield 32, 3, 5, 14), (29, .ifCond .ne 10, 3, 0, 0)],
  [(32, .aload_n 0, 1, 0, 0), (33, .iconst 0, 1, 0, 0), (34, .iconst 0, 1, 0, 0), (35, .invokevirtual 36, 3, 0, 7), (38, .pop, 1, 0, 0), (39, .iconst 0, 1, 0, 0), (40, .istore 4, 2, 0, 0), (42, .iload 4, 2, 0, 0), (44, .iload_n 2, 1, 0, 0), (45, .if_icmp .gt 125, 3, 0, 0)],
  [(48, .aload_n 0, 1, 0, 0), (49, .getfield 12, 3, 1, 0), (52, .invokevirtual 40, 3, 0, 39), (55, .ifCond .eq 27, 3, 0, 0), (58, .aload_n 0, 1, 0, 0), (59, .aload_n 0, 1, 0, 0), (60, .getfield 12, 3, 1, 0), (63, .getfield 44, 3, 5, 13)],
  [(66, .iload 4, 2, 0, 0), (68, .aload_n 0, 1, 0, 0), (69, .getfield 12, 3, 1, 0), (72, .getfield 25, 3, 5, 11), (75, .iload_n 3, 1, 0, 0), (76, .isub, 1, 0, 0), (77, .iconst 0, 1, 0, 0), (78, .invokevirtual 47, 3, 0, 5)],
  [(81, .return_, 1, 0, 0)]]
def zm4 : ZMI := (yX1_go, cX1_go, 6, none, 0, 4, 11776, 2, 1, ze4)
def ze5 : List (List ZEn) := [[(0, .aload_n 0, 1, 0, 0), (1, .iload_n 1, 1, 0, 0), (2, .putfield 66, 3, 1, 1), (5, .aload_n 0, 1, 0, 0), (6, .iload_n 2, 1, 0, 0), (7, .putfield 69, 3, 1, 2), (10, .aload_n 0, 1, 0, 0), (11, .iload_n 3, 1, 0, 0), (12, .putfield 72, 3, 1, 3), (15, .aload_n 0, 1, 0, 0)],
  [(16, .iload 4, 2, 0, 0), (18, .putfield 73, 3, 1, 4), (21, .return_, 1, 0, 0)]]
def zm5 : ZMI := (yX1_answer, cX1_answer, 5, none, 0, 0, 0, 4, 1, ze5)
def ze6 : List (List ZEn) := [[(0, .aload_n 0, 1, 0, 0), (1, .getfield 76, 3, 1, 11), (4, .ifnonnull 39, 3, 0, 0), (7, .aload_n 0, 1, 0, 0), (8, .sipush 4608, 3, 0, 0), (11, .newarray .long, 2, 0, 0), (13, .putfield 79, 3, 1, 8)],
  [(16, .aload_n 0, 1, 0, 0), (17, .sipush 1536, 3, 0, 0), (20, .newarray .int, 2, 0, 0), (22, .putfield 59, 3, 1, 9), (25, .aload_n 0, 1, 0, 0), (26, .sipush 1536, 3, 0, 0), (29, .newarray .int, 2, 0, 0), (31, .putfield 63, 3, 1, 10)],
  [(34, .aload_n 0, 1, 0, 0), (35, .sipush 4096, 3, 0, 0), (38, .newarray .long, 2, 0, 0), (40, .putfield 76, 3, 1, 11), (43, .aload_n 0, 1, 0, 0), (44, .iconst 0, 1, 0, 0), (45, .putfield 82, 3, 1, 5)],
  [(48, .aload_n 0, 1, 0, 0), (49, .dup, 1, 0, 0), (50, .getfield 85, 3, 1, 6), (53, .lconst 1, 1, 0, 0), (54, .ladd, 1, 0, 0), (55, .putfield 85, 3, 1, 6), (58, .return_, 1, 0, 0)]]
def zm6 : ZMI := (yX1_forgetStates, cX1_forgetStates, 1, none, 0, 4, 11776, 0, 1, ze6)
def ze7 : List (List ZEn) := [[(0, .aload_n 0, 1, 0, 0), (1, .invokevirtual 89, 3, 0, 9), (4, .aload_n 0, 1, 0, 0), (5, .invokevirtual 92, 3, 0, 10), (8, .istore_n 3, 1, 0, 0), (9, .iconst 0, 1, 0, 0), (10, .istore 4, 2, 0, 0), (12, .iload 4, 2, 0, 0), (14, .sipush 4096, 3, 0, 0)],
  [(17, .if_icmp .ge 77, 3, 0, 0), (20, .aload_n 0, 1, 0, 0), (21, .getfield 76, 3, 1, 11), (24, .iload_n 3, 1, 0, 0), (25, .laload, 1, 0, 0), (26, .lstore 5, 2, 0, 0), (28, .lload 5, 2, 0, 0), (30, .l2i, 1, 0, 0), (31, .sipush 2047, 3, 0, 0)],
  [(34, .iand, 1, 0, 0), (35, .istore 7, 2, 0, 0), (37, .lload 5, 2, 0, 0), (39, .bipush 11, 2, 0, 0), (41, .lshr, 1, 0, 0), (42, .aload_n 0, 1, 0, 0), (43, .getfield 85, 3, 1, 6), (46, .lcmp, 1, 0, 0), (47, .ifCond .eq 12, 3, 0, 0)],
  [(50, .aload_n 0, 1, 0, 0), (51, .iload_n 3, 1, 0, 0), (52, .iload_n 1, 1, 0, 0), (53, .iload_n 2, 1, 0, 0), (54, .invokevirtual 95, 3, 0, 8), (57, .iconst (-1), 1, 0, 0), (58, .ireturn, 1, 0, 0)]]
def zm7 : ZMI := (yX1_noteState, cX1_noteState, 8, (some .int), 0, 0, 0, 2, 1, ze7)
def ze8 : List (List ZEn) := [[(0, .aload_n 0, 1, 0, 0), (1, .getfield 82, 3, 1, 5), (4, .sipush 1536, 3, 0, 0), (7, .if_icmp .lt 4, 3, 0, 0), (11, .iconst 0, 1, 0, 0), (12, .istore 4, 2, 0, 0), (14, .iload 4, 2, 0, 0)],
  [(16, .iconst 3, 1, 0, 0), (17, .if_icmp .ge 30, 3, 0, 0), (20, .aload_n 0, 1, 0, 0), (21, .getfield 79, 3, 1, 8), (24, .aload_n 0, 1, 0, 0), (25, .getfield 82, 3, 1, 5), (28, .iconst 3, 1, 0, 0), (29, .imul, 1, 0, 0), (30, .iload 4, 2, 0, 0)],
  [(32, .iadd, 1, 0, 0), (33, .aload_n 0, 1, 0, 0), (34, .getfield 18, 3, 1, 7), (37, .iload 4, 2, 0, 0), (39, .laload, 1, 0, 0), (40, .lastore, 1, 0, 0), (41, .iinc 4 1, 3, 0, 0), (44, .goto (-30), 3, 0, 0), (47, .aload_n 0, 1, 0, 0)],
  [(48, .getfield 59, 3, 1, 9), (51, .aload_n 0, 1, 0, 0), (52, .getfield 82, 3, 1, 5), (55, .iload_n 2, 1, 0, 0), (56, .iastore, 1, 0, 0), (57, .aload_n 0, 1, 0, 0), (58, .getfield 63, 3, 1, 10), (61, .aload_n 0, 1, 0, 0), (62, .getfield 82, 3, 1, 5)],
  [(65, .iload_n 3, 1, 0, 0), (66, .iastore, 1, 0, 0), (67, .aload_n 0, 1, 0, 0), (68, .getfield 76, 3, 1, 11), (71, .iload_n 1, 1, 0, 0), (72, .aload_n 0, 1, 0, 0), (73, .getfield 85, 3, 1, 6), (76, .bipush 11, 2, 0, 0), (78, .lshl, 1, 0, 0), (79, .aload_n 0, 1, 0, 0)],
  [(80, .getfield 82, 3, 1, 5), (83, .i2l, 1, 0, 0), (84, .lor, 1, 0, 0), (85, .lastore, 1, 0, 0), (86, .aload_n 0, 1, 0, 0), (87, .dup, 1, 0, 0), (88, .getfield 82, 3, 1, 5), (91, .iconst 1, 1, 0, 0), (92, .iadd, 1, 0, 0), (93, .putfield 82, 3, 1, 5)],
  [(96, .return_, 1, 0, 0)]]
def zm8 : ZMI := (yX1_addState, cX1_addState, 5, none, 0, 0, 0, 3, 1, ze8)
def ze9 : List (List ZEn) := [[(0, .aload_n 0, 1, 0, 0), (1, .getfield 12, 3, 1, 0), (4, .getfield 103, 3, 5, 2), (7, .iconst 0, 1, 0, 0), (8, .iaload, 1, 0, 0), (9, .istore_n 1, 1, 0, 0), (10, .aload_n 0, 1, 0, 0), (11, .getfield 12, 3, 1, 0), (14, .getfield 103, 3, 5, 2)],
  [(17, .iconst 1, 1, 0, 0), (18, .iaload, 1, 0, 0), (19, .istore_n 2, 1, 0, 0), (20, .aload_n 0, 1, 0, 0), (21, .getfield 18, 3, 1, 7), (24, .iconst 0, 1, 0, 0), (25, .iload_n 1, 1, 0, 0), (26, .iconst 2, 1, 0, 0), (27, .imul, 1, 0, 0), (28, .aload_n 0, 1, 0, 0), (29, .getfield 12, 3, 1, 0)],
  [(32, .getfield 106, 3, 5, 7), (35, .iadd, 1, 0, 0), (36, .i2l, 1, 0, 0), (37, .bipush 48, 2, 0, 0), (39, .lshl, 1, 0, 0), (40, .lastore, 1, 0, 0), (41, .aload_n 0, 1, 0, 0), (42, .getfield 18, 3, 1, 7), (45, .iconst 1, 1, 0, 0), (46, .lconst 0, 1, 0, 0), (47, .lastore, 1, 0, 0)],
  [(48, .aload_n 0, 1, 0, 0), (49, .getfield 18, 3, 1, 7), (52, .iconst 2, 1, 0, 0), (53, .lconst 0, 1, 0, 0), (54, .lastore, 1, 0, 0), (55, .iconst 0, 1, 0, 0), (56, .istore_n 3, 1, 0, 0), (57, .iload_n 3, 1, 0, 0), (58, .iload_n 1, 1, 0, 0), (59, .if_icmp .ge 31, 3, 0, 0)],
  [],
  [(90, .iconst 0, 1, 0, 0), (91, .istore_n 3, 1, 0, 0), (92, .iload_n 3, 1, 0, 0), (93, .iload_n 2, 1, 0, 0), (94, .if_icmp .ge 33, 3, 0, 0)],
  [],
  [(127, .return_, 1, 0, 0)]]
def zm9 : ZMI := (yX1_makeKey, cX1_makeKey, 4, none, 0, 0, 0, 0, 1, ze9)
def ze10 : List (List ZEn) := [[(0, .aload_n 0, 1, 0, 0), (1, .getfield 18, 3, 1, 7), (4, .iconst 0, 1, 0, 0), (5, .laload, 1, 0, 0), (6, .ldc2_w 119, 3, 11400714819323198485, 0), (9, .lmul, 1, 0, 0), (10, .aload_n 0, 1, 0, 0), (11, .getfield 18, 3, 1, 7), (14, .iconst 1, 1, 0, 0), (15, .laload, 1, 0, 0)],
  [(16, .ldc2_w 121, 3, 14029467366897019727, 0), (19, .lmul, 1, 0, 0), (20, .lxor, 1, 0, 0), (21, .aload_n 0, 1, 0, 0), (22, .getfield 18, 3, 1, 7), (25, .iconst 2, 1, 0, 0), (26, .laload, 1, 0, 0), (27, .ldc2_w 123, 3, 1609587929392839161, 0), (30, .lmul, 1, 0, 0), (31, .lxor, 1, 0, 0)],
  [(32, .lstore_n 1, 1, 0, 0), (33, .lload_n 1, 1, 0, 0), (34, .bipush 40, 2, 0, 0), (36, .lushr, 1, 0, 0), (37, .lload_n 1, 1, 0, 0), (38, .bipush 20, 2, 0, 0), (40, .lushr, 1, 0, 0), (41, .lxor, 1, 0, 0), (42, .l2i, 1, 0, 0), (43, .sipush 4095, 3, 0, 0), (46, .iand, 1, 0, 0), (47, .ireturn, 1, 0, 0)]]
def zm10 : ZMI := (yX1_hashOfKey, cX1_hashOfKey, 3, (some .int), 0, 0, 0, 0, 1, ze10)
def ze11 : List (List ZEn) := [[(0, .aload_n 0, 1, 0, 0), (1, .invokespecial 3, 3, 1, 0), (4, .aload_n 0, 1, 0, 0), (5, .new 9, 3, 5, 0), (8, .dup, 1, 0, 0), (9, .invokespecial 11, 3, 6, 33), (12, .putfield 12, 3, 2, 0), (15, .aload_n 0, 1, 0, 0)],
  [(16, .bipush 48, 2, 0, 0), (18, .newarray .int, 2, 0, 0), (20, .putfield 18, 3, 2, 1), (23, .aload_n 0, 1, 0, 0), (24, .iconst 2, 1, 0, 0), (25, .newarray .int, 2, 0, 0), (27, .putfield 22, 3, 2, 2), (30, .aload_n 0, 1, 0, 0), (31, .bipush 40, 2, 0, 0)],
  [(33, .newarray .int, 2, 0, 0), (35, .putfield 25, 3, 2, 4), (38, .aload_n 0, 1, 0, 0), (39, .bipush 64, 2, 0, 0), (41, .newarray .int, 2, 0, 0), (43, .putfield 28, 3, 2, 7), (46, .aload_n 0, 1, 0, 0), (47, .bipush 12, 2, 0, 0)],
  [(49, .newarray .int, 2, 0, 0), (51, .putfield 31, 3, 2, 9), (54, .aload_n 0, 1, 0, 0), (55, .bipush 8, 2, 0, 0), (57, .newarray .int, 2, 0, 0), (59, .putfield 34, 3, 2, 11), (62, .aload_n 0, 1, 0, 0), (63, .bipush 8, 2, 0, 0)],
  [(65, .newarray .int, 2, 0, 0), (67, .putfield 37, 3, 2, 12), (70, .aload_n 0, 1, 0, 0), (71, .bipush 8, 2, 0, 0), (73, .newarray .int, 2, 0, 0), (75, .putfield 40, 3, 2, 13), (78, .return_, 1, 0, 0)]]
def zm11 : ZMI := (yX2_init, cX2_init, 1, none, 2, 15, 473, 0, 2, ze11)
def ze12 : List (List ZEn) := [[(0, .aload_n 0, 1, 0, 0), (1, .iconst 0, 1, 0, 0), (2, .putfield 43, 3, 2, 3), (5, .aload_n 0, 1, 0, 0), (6, .getfield 22, 3, 2, 2), (9, .iconst 0, 1, 0, 0), (10, .iconst 0, 1, 0, 0), (11, .iastore, 1, 0, 0), (12, .aload_n 0, 1, 0, 0), (13, .getfield 22, 3, 2, 2)],
  [(16, .iconst 1, 1, 0, 0), (17, .iconst 0, 1, 0, 0), (18, .iastore, 1, 0, 0), (19, .aload_n 0, 1, 0, 0), (20, .aload_n 1, 1, 0, 0), (21, .invokevirtual 47, 3, 0, 14), (24, .return_, 1, 0, 0)]]
def zm12 : ZMI := (yX2_startEmpty, cX2_startEmpty, 2, none, 0, 0, 0, 1, 2, ze12)
def ze13 : List (List ZEn) := [[(0, .aload_n 1, 1, 0, 0), (1, .arraylength, 1, 0, 0), (2, .bipush 48, 2, 0, 0), (4, .invokestatic 51, 3, 3, 0), (7, .istore 4, 2, 0, 0), (9, .iload_n 2, 1, 0, 0), (10, .ifCond .lt 27, 3, 0, 0), (13, .iload_n 3, 1, 0, 0), (14, .ifCond .lt 23, 3, 0, 0)],
  [(17, .iload_n 2, 1, 0, 0), (18, .bipush 24, 2, 0, 0), (20, .if_icmp .gt 17, 3, 0, 0), (23, .iload_n 3, 1, 0, 0), (24, .bipush 24, 2, 0, 0), (26, .if_icmp .gt 11, 3, 0, 0), (29, .iload_n 2, 1, 0, 0), (30, .iload_n 3, 1, 0, 0), (31, .iadd, 1, 0, 0)],
  [(32, .iload 4, 2, 0, 0), (34, .if_icmp .le 4, 3, 0, 0), (38, .iconst 0, 1, 0, 0), (39, .istore 5, 2, 0, 0), (41, .iload 5, 2, 0, 0), (43, .iload_n 2, 1, 0, 0), (44, .if_icmp .ge 20, 3, 0, 0)],
  [],
  [(64, .iconst 0, 1, 0, 0), (65, .istore 5, 2, 0, 0), (67, .iload 5, 2, 0, 0), (69, .iload_n 3, 1, 0, 0), (70, .if_icmp .ge 25, 3, 0, 0)],
  [(95, .aload_n 0, 1, 0, 0)],
  [(96, .getfield 22, 3, 2, 2), (99, .iconst 0, 1, 0, 0), (100, .iload_n 2, 1, 0, 0), (101, .iastore, 1, 0, 0), (102, .aload_n 0, 1, 0, 0), (103, .getfield 22, 3, 2, 2), (106, .iconst 1, 1, 0, 0), (107, .iload_n 3, 1, 0, 0), (108, .iastore, 1, 0, 0), (109, .aload_n 0, 1, 0, 0), (110, .iconst 1, 1, 0, 0), (111, .putfield 43, 3, 2, 3)],
  [(114, .return_, 1, 0, 0)]]
def zm13 : ZMI := (yX2_dealRows, cX2_dealRows, 6, none, 0, 0, 0, 3, 2, ze13)
def ze14 : List (List ZEn) := [[(0, .aload_n 0, 1, 0, 0), (1, .getfield 12, 3, 2, 0), (4, .aload_n 1, 1, 0, 0), (5, .getfield 57, 3, 9, 7), (8, .aload_n 1, 1, 0, 0), (9, .getfield 63, 3, 9, 2), (12, .invokevirtual 66, 3, 0, 34), (15, .aload_n 0, 1, 0, 0)],
  [(16, .getfield 12, 3, 2, 0), (19, .iconst 0, 1, 0, 0), (20, .aload_n 0, 1, 0, 0), (21, .getfield 18, 3, 2, 1), (24, .iconst 0, 1, 0, 0), (25, .aload_n 0, 1, 0, 0), (26, .getfield 22, 3, 2, 2), (29, .iconst 0, 1, 0, 0), (30, .iaload, 1, 0, 0), (31, .invokevirtual 70, 3, 0, 35)],
  [(34, .aload_n 0, 1, 0, 0), (35, .getfield 12, 3, 2, 0), (38, .iconst 1, 1, 0, 0), (39, .aload_n 0, 1, 0, 0), (40, .getfield 18, 3, 2, 1), (43, .bipush 24, 2, 0, 0), (45, .aload_n 0, 1, 0, 0), (46, .getfield 22, 3, 2, 2)],
  [(49, .iconst 1, 1, 0, 0), (50, .iaload, 1, 0, 0), (51, .invokevirtual 70, 3, 0, 35), (54, .aload_n 0, 1, 0, 0), (55, .iconst 0, 1, 0, 0), (56, .putfield 74, 3, 2, 5), (59, .aload_n 0, 1, 0, 0), (60, .iconst 0, 1, 0, 0), (61, .putfield 77, 3, 2, 6)],
  [(64, .aload_n 0, 1, 0, 0), (65, .iconst 0, 1, 0, 0), (66, .putfield 80, 3, 2, 8), (69, .aload_n 0, 1, 0, 0), (70, .iconst 0, 1, 0, 0), (71, .putfield 83, 3, 2, 10), (74, .aload_n 0, 1, 0, 0), (75, .iconst 0, 1, 0, 0), (76, .putfield 86, 3, 2, 14), (79, .aload_n 0, 1, 0, 0)],
  [(80, .bipush 100, 2, 0, 0), (82, .putfield 89, 3, 2, 15), (85, .return_, 1, 0, 0)]]
def zm14 : ZMI := (yX2_startDealt, cX2_startDealt, 2, none, 0, 0, 0, 1, 2, ze14)
def ze15 : List (List ZEn) := [[(0, .aload_n 0, 1, 0, 0), (1, .getfield 12, 3, 2, 0), (4, .aload_n 1, 1, 0, 0), (5, .getfield 12, 3, 2, 0), (8, .invokevirtual 92, 3, 0, 36), (11, .aload_n 1, 1, 0, 0), (12, .getfield 18, 3, 2, 1), (15, .iconst 0, 1, 0, 0)],
  [(16, .aload_n 0, 1, 0, 0), (17, .getfield 18, 3, 2, 1), (20, .iconst 0, 1, 0, 0), (21, .bipush 48, 2, 0, 0), (23, .invokestatic 96, 3, 2, 0), (26, .aload_n 0, 1, 0, 0), (27, .getfield 22, 3, 2, 2), (30, .iconst 0, 1, 0, 0), (31, .aload_n 1, 1, 0, 0)],
  [(32, .getfield 22, 3, 2, 2), (35, .iconst 0, 1, 0, 0), (36, .iaload, 1, 0, 0), (37, .iastore, 1, 0, 0), (38, .aload_n 0, 1, 0, 0), (39, .getfield 22, 3, 2, 2), (42, .iconst 1, 1, 0, 0), (43, .aload_n 1, 1, 0, 0), (44, .getfield 22, 3, 2, 2), (47, .iconst 1, 1, 0, 0)],
  [(48, .iaload, 1, 0, 0), (49, .iastore, 1, 0, 0), (50, .aload_n 0, 1, 0, 0), (51, .aload_n 1, 1, 0, 0), (52, .getfield 43, 3, 2, 3), (55, .putfield 43, 3, 2, 3), (58, .aload_n 1, 1, 0, 0), (59, .getfield 25, 3, 2, 4), (62, .iconst 0, 1, 0, 0), (63, .aload_n 0, 1, 0, 0)],
  [(64, .getfield 25, 3, 2, 4), (67, .iconst 0, 1, 0, 0), (68, .bipush 40, 2, 0, 0), (70, .invokestatic 96, 3, 2, 0), (73, .aload_n 0, 1, 0, 0), (74, .aload_n 1, 1, 0, 0), (75, .getfield 74, 3, 2, 5), (78, .putfield 74, 3, 2, 5)],
  [(81, .aload_n 0, 1, 0, 0), (82, .aload_n 1, 1, 0, 0), (83, .getfield 77, 3, 2, 6), (86, .putfield 77, 3, 2, 6), (89, .aload_n 1, 1, 0, 0), (90, .getfield 28, 3, 2, 7), (93, .iconst 0, 1, 0, 0), (94, .aload_n 0, 1, 0, 0), (95, .getfield 28, 3, 2, 7)],
  [(98, .iconst 0, 1, 0, 0), (99, .bipush 64, 2, 0, 0), (101, .invokestatic 96, 3, 2, 0), (104, .aload_n 0, 1, 0, 0), (105, .aload_n 1, 1, 0, 0), (106, .getfield 80, 3, 2, 8), (109, .putfield 80, 3, 2, 8)],
  [(112, .aload_n 1, 1, 0, 0), (113, .getfield 31, 3, 2, 9), (116, .iconst 0, 1, 0, 0), (117, .aload_n 0, 1, 0, 0), (118, .getfield 31, 3, 2, 9), (121, .iconst 0, 1, 0, 0), (122, .bipush 12, 2, 0, 0), (124, .invokestatic 96, 3, 2, 0), (127, .aload_n 0, 1, 0, 0)],
  [(128, .aload_n 1, 1, 0, 0), (129, .getfield 83, 3, 2, 10), (132, .putfield 83, 3, 2, 10), (135, .aload_n 1, 1, 0, 0), (136, .getfield 34, 3, 2, 11), (139, .iconst 0, 1, 0, 0), (140, .aload_n 0, 1, 0, 0), (141, .getfield 34, 3, 2, 11)],
  [(144, .iconst 0, 1, 0, 0), (145, .bipush 8, 2, 0, 0), (147, .invokestatic 96, 3, 2, 0), (150, .aload_n 1, 1, 0, 0), (151, .getfield 37, 3, 2, 12), (154, .iconst 0, 1, 0, 0), (155, .aload_n 0, 1, 0, 0), (156, .getfield 37, 3, 2, 12), (159, .iconst 0, 1, 0, 0)],
  [(160, .bipush 8, 2, 0, 0), (162, .invokestatic 96, 3, 2, 0), (165, .aload_n 1, 1, 0, 0), (166, .getfield 40, 3, 2, 13), (169, .iconst 0, 1, 0, 0), (170, .aload_n 0, 1, 0, 0), (171, .getfield 40, 3, 2, 13), (174, .iconst 0, 1, 0, 0), (175, .bipush 8, 2, 0, 0)],
  [(177, .invokestatic 96, 3, 2, 0), (180, .aload_n 0, 1, 0, 0), (181, .aload_n 1, 1, 0, 0), (182, .getfield 86, 3, 2, 14), (185, .putfield 86, 3, 2, 14), (188, .aload_n 0, 1, 0, 0), (189, .aload_n 1, 1, 0, 0), (190, .getfield 89, 3, 2, 15)],
  [(193, .putfield 89, 3, 2, 15), (196, .return_, 1, 0, 0)]]
def zm15 : ZMI := (yX2_copyFrom, cX2_copyFrom, 2, none, 0, 0, 0, 1, 2, ze15)
def ze16 : List (List ZEn) := [[(0, .iload_n 1, 1, 0, 0), (1, .ifCond .lt 11, 3, 0, 0), (4, .iload_n 1, 1, 0, 0), (5, .aload_n 0, 1, 0, 0), (6, .getfield 77, 3, 2, 6), (9, .if_icmp .lt 5, 3, 0, 0), (12, .iconst (-1), 1, 0, 0), (13, .ireturn, 1, 0, 0)]]
def zm16 : ZMI := (yX2_keptHeap, cX2_keptHeap, 4, (some .int), 0, 0, 0, 2, 2, ze16)
def ze17 : List (List ZEn) := [[(0, .aload_n 0, 1, 0, 0), (1, .getfield 12, 3, 2, 0), (4, .getfield 102, 3, 5, 13), (7, .iconst (-1), 1, 0, 0), (8, .if_icmp .eq 5, 3, 0, 0), (13, .aload_n 0, 1, 0, 0), (14, .getfield 12, 3, 2, 0)],
  [(17, .invokevirtual 105, 3, 0, 40), (20, .istore_n 2, 1, 0, 0), (21, .iload_n 2, 1, 0, 0), (22, .ifCond .ne 9, 3, 0, 0), (25, .aload_n 0, 1, 0, 0), (26, .invokevirtual 109, 3, 0, 21), (29, .iconst 0, 1, 0, 0), (30, .ireturn, 1, 0, 0)]]
def zm17 : ZMI := (yX2_turnByHand, cX2_turnByHand, 3, (some .boolean), 0, 0, 0, 1, 2, ze17)
def ze18 : List (List ZEn) := [[(0, .aload_n 0, 1, 0, 0), (1, .getfield 12, 3, 2, 0), (4, .getfield 102, 3, 5, 13), (7, .iconst (-1), 1, 0, 0), (8, .if_icmp .eq 5, 3, 0, 0), (13, .iload_n 1, 1, 0, 0), (14, .tableswitch 67 0 2 #[26, 51, 26], 26, 0, 0)],
  [],
  [(40, .aload_n 0, 1, 0, 0), (41, .getfield 12, 3, 2, 0), (44, .getfield 116, 3, 5, 2), (47, .aload_n 0, 1, 0, 0)],
  [(48, .getfield 12, 3, 2, 0), (51, .getfield 119, 3, 5, 7), (54, .iaload, 1, 0, 0), (55, .iconst 2, 1, 0, 0), (56, .if_icmp .lt 7, 3, 0, 0), (63, .iconst 0, 1, 0, 0)],
  [(64, .ireturn, 1, 0, 0), (65, .aload_n 0, 1, 0, 0), (66, .getfield 12, 3, 2, 0), (69, .getfield 122, 3, 5, 14), (72, .ifCond .ne 7, 3, 0, 0), (75, .iconst 1, 1, 0, 0), (76, .goto 4, 3, 0, 0)],
  [(80, .ireturn, 1, 0, 0), (81, .iconst 0, 1, 0, 0), (82, .ireturn, 1, 0, 0)]]
def zm18 : ZMI := (yX2_canSlip, cX2_canSlip, 2, (some .boolean), 0, 0, 0, 1, 2, ze18)
def ze19 : List (List ZEn) := [[(0, .iload_n 1, 1, 0, 0), (1, .ifCond .ne 20, 3, 0, 0)],
  [(21, .iload_n 1, 1, 0, 0), (22, .iconst 1, 1, 0, 0), (23, .if_icmp .ne 14, 3, 0, 0), (26, .aload_n 0, 1, 0, 0), (27, .getfield 12, 3, 2, 0), (30, .iconst 1, 1, 0, 0), (31, .putfield 122, 3, 5, 14)],
  [(34, .goto 10, 3, 0, 0), (44, .return_, 1, 0, 0)]]
def zm19 : ZMI := (yX2_doSlip, cX2_doSlip, 3, none, 0, 0, 0, 2, 2, ze19)
def ze20 : List (List ZEn) := [[(0, .aload_n 0, 1, 0, 0), (1, .getfield 86, 3, 2, 14), (4, .bipush 8, 2, 0, 0), (6, .if_icmp .ge 53, 3, 0, 0), (9, .aload_n 0, 1, 0, 0), (10, .getfield 34, 3, 2, 11), (13, .aload_n 0, 1, 0, 0), (14, .getfield 86, 3, 2, 14)],
  [(17, .iload_n 1, 1, 0, 0), (18, .iastore, 1, 0, 0), (19, .aload_n 0, 1, 0, 0), (20, .getfield 37, 3, 2, 12), (23, .aload_n 0, 1, 0, 0), (24, .getfield 86, 3, 2, 14), (27, .iload_n 2, 1, 0, 0), (28, .iastore, 1, 0, 0), (29, .aload_n 0, 1, 0, 0), (30, .getfield 40, 3, 2, 13)],
  [(33, .aload_n 0, 1, 0, 0), (34, .getfield 86, 3, 2, 14), (37, .iload_n 3, 1, 0, 0), (38, .iastore, 1, 0, 0), (39, .aload_n 0, 1, 0, 0), (40, .dup, 1, 0, 0), (41, .getfield 86, 3, 2, 14), (44, .iconst 1, 1, 0, 0), (45, .iadd, 1, 0, 0), (46, .putfield 86, 3, 2, 14)],
  [(49, .aload_n 0, 1, 0, 0), (50, .dup, 1, 0, 0), (51, .getfield 89, 3, 2, 15), (54, .iload_n 2, 1, 0, 0), (55, .isub, 1, 0, 0), (56, .putfield 89, 3, 2, 15), (59, .return_, 1, 0, 0)]]
def zm20 : ZMI := (yX2_layBet, cX2_layBet, 4, none, 0, 0, 0, 3, 2, ze20)
def ze21 : List (List ZEn) := [[(0, .iconst 0, 1, 0, 0), (1, .istore_n 1, 1, 0, 0), (2, .iload_n 1, 1, 0, 0), (3, .aload_n 0, 1, 0, 0), (4, .getfield 86, 3, 2, 14), (7, .if_icmp .ge 63, 3, 0, 0)],
  [],
  [],
  [],
  [(70, .return_, 1, 0, 0)]]
def zm21 : ZMI := (yX2_payBets, cX2_payBets, 2, none, 0, 0, 0, 0, 2, ze21)
def ze22 : List (List ZEn) := [[(0, .aload_n 0, 1, 0, 0), (1, .invokespecial 3, 3, 1, 0), (4, .aload_n 0, 1, 0, 0), (5, .bipush 6, 2, 0, 0), (7, .newarray .int, 2, 0, 0), (9, .putfield 11, 3, 3, 0), (12, .aload_n 0, 1, 0, 0), (13, .iconst (-1), 1, 0, 0), (14, .putfield 15, 3, 3, 3)],
  [(17, .return_, 1, 0, 0)]]
def zm22 : ZMI := (yX3_init, cX3_init, 1, none, 2, 1, 6, 0, 3, ze22)
def ze23 : List (List ZEn) := [[(0, .aload_n 0, 1, 0, 0), (1, .iconst (-1), 1, 0, 0), (2, .putfield 15, 3, 3, 3), (5, .aload_n 0, 1, 0, 0), (6, .iconst 0, 1, 0, 0), (7, .putfield 19, 3, 3, 4), (10, .return_, 1, 0, 0)]]
def zm23 : ZMI := (yX3_forget, cX3_forget, 1, none, 0, 0, 0, 0, 3, ze23)
def ze24 : List (List ZEn) := [[(0, .aload_n 0, 1, 0, 0), (1, .getfield 19, 3, 3, 4), (4, .iload_n 3, 1, 0, 0), (5, .if_icmp .gt 60, 3, 0, 0), (8, .aload_n 0, 1, 0, 0), (9, .getfield 19, 3, 3, 4), (12, .bipush 6, 2, 0, 0), (14, .if_icmp .gt 51, 3, 0, 0)],
  [(17, .aload_n 0, 1, 0, 0), (18, .getfield 15, 3, 3, 3), (21, .iconst (-1), 1, 0, 0), (22, .if_icmp .ne 43, 3, 0, 0), (25, .aload_n 0, 1, 0, 0), (26, .aload_n 1, 1, 0, 0), (27, .invokevirtual 22, 3, 0, 26), (30, .aload_n 0, 1, 0, 0), (31, .iconst 0, 1, 0, 0)],
  [(32, .aload_n 0, 1, 0, 0), (33, .getfield 19, 3, 3, 4), (36, .iconst 0, 1, 0, 0), (37, .iload_n 2, 1, 0, 0), (38, .invokevirtual 26, 3, 0, 27), (41, .ifCond .eq 11, 3, 0, 0)],
  [(52, .aload_n 0, 1, 0, 0), (53, .dup, 1, 0, 0), (54, .getfield 19, 3, 3, 4), (57, .iconst 1, 1, 0, 0), (58, .iadd, 1, 0, 0), (59, .putfield 19, 3, 3, 4), (62, .goto (-62), 3, 0, 0)],
  [(65, .aload_n 0, 1, 0, 0), (66, .getfield 15, 3, 3, 3), (69, .iload_n 3, 1, 0, 0), (70, .if_icmp .gt 10, 3, 0, 0), (73, .aload_n 0, 1, 0, 0), (74, .getfield 15, 3, 3, 3), (77, .goto 4, 3, 0, 0)],
  [(81, .ireturn, 1, 0, 0)]]
def zm24 : ZMI := (yX3_fewestHeaps, cX3_fewestHeaps, 4, (some .int), 0, 350, 13916, 3, 3, ze24)
def ze25 : List (List ZEn) := [[(0, .aload_n 0, 1, 0, 0), (1, .aload_n 1, 1, 0, 0), (2, .invokevirtual 22, 3, 0, 26), (5, .aload_n 0, 1, 0, 0), (6, .iconst 0, 1, 0, 0), (7, .iload_n 2, 1, 0, 0), (8, .iconst 4, 1, 0, 0), (9, .invokestatic 30, 3, 3, 0), (12, .invokevirtual 36, 3, 0, 28), (15, .ireturn, 1, 0, 0)]]
def zm25 : ZMI := (yX3_winsAgainstAny, cX3_winsAgainstAny, 3, (some .boolean), 0, 50, 1988, 2, 3, ze25)
def ze26 : List (List ZEn) := [[(0, .aload_n 0, 1, 0, 0), (1, .getfield 40, 3, 3, 2), (4, .ifnonnull 39, 3, 0, 0), (7, .aload_n 0, 1, 0, 0), (8, .bipush 7, 2, 0, 0), (10, .anewarray 44, 3, 5, 0), (13, .putfield 40, 3, 3, 2)],
  [(16, .iconst 0, 1, 0, 0), (17, .istore_n 2, 1, 0, 0), (18, .iload_n 2, 1, 0, 0), (19, .bipush 6, 2, 0, 0), (21, .if_icmp .gt 22, 3, 0, 0), (24, .aload_n 0, 1, 0, 0), (25, .getfield 40, 3, 3, 2), (28, .iload_n 2, 1, 0, 0), (29, .new 44, 3, 5, 0)],
  [(32, .dup, 1, 0, 0), (33, .invokespecial 46, 3, 6, 33), (36, .aastore, 1, 5, 0), (37, .iinc 2 1, 3, 0, 0), (40, .goto (-22), 3, 0, 0), (43, .aload_n 0, 1, 0, 0), (44, .getfield 40, 3, 3, 2), (47, .iconst 0, 1, 0, 0)],
  [(48, .aaload, 1, 5, 0), (49, .aload_n 1, 1, 0, 0), (50, .invokevirtual 47, 3, 0, 36), (53, .return_, 1, 0, 0)]]
def zm26 : ZMI := (yX3_begin, cX3_begin, 3, none, 0, 50, 1988, 1, 3, ze26)
def ze27 : List (List ZEn) := [[(0, .aload_n 0, 1, 0, 0), (1, .getfield 40, 3, 3, 2), (4, .iload_n 1, 1, 0, 0), (5, .aaload, 1, 5, 0), (6, .astore 5, 2, 0, 0), (8, .aload 5, 2, 0, 0), (10, .invokevirtual 50, 3, 0, 41), (13, .ifCond .ne 22, 3, 0, 0)],
  [(16, .aload_n 0, 1, 0, 0), (17, .iload_n 3, 1, 0, 0), (18, .putfield 54, 3, 3, 1), (21, .aload 5, 2, 0, 0), (23, .getfield 57, 3, 5, 13), (26, .ifCond .ne 7, 3, 0, 0)],
  [(33, .iconst 0, 1, 0, 0), (34, .ireturn, 1, 0, 0)]]
def zm27 : ZMI := (yX3_canWin, cX3_canWin, 7, (some .boolean), 0, 0, 0, 4, 3, ze27)
def ze28 : List (List ZEn) := [[(0, .aload_n 0, 1, 0, 0), (1, .getfield 40, 3, 3, 2), (4, .iload_n 1, 1, 0, 0), (5, .aaload, 1, 5, 0), (6, .astore_n 3, 1, 0, 0), (7, .aload_n 3, 1, 0, 0), (8, .invokevirtual 50, 3, 0, 41), (11, .ifCond .ne 16, 3, 0, 0), (14, .aload_n 3, 1, 0, 0), (15, .getfield 57, 3, 5, 13)],
  [(18, .ifCond .ne 7, 3, 0, 0), (25, .iconst 0, 1, 0, 0), (26, .ireturn, 1, 0, 0)]]
def zm28 : ZMI := (yX3_winsHowever, cX3_winsHowever, 6, (some .boolean), 0, 0, 0, 2, 3, ze28)
def ze29 : List (List ZEn) := [[(0, .aload_n 0, 1, 0, 0), (1, .invokespecial 3, 3, 1, 0), (4, .aload_n 0, 1, 0, 0), (5, .iconst 3, 1, 0, 0), (6, .newarray .int, 2, 0, 0), (8, .putfield 9, 3, 4, 0), (11, .aload_n 0, 1, 0, 0), (12, .bipush 8, 2, 0, 0), (14, .newarray .int, 2, 0, 0)],
  [(16, .putfield 15, 3, 4, 5), (19, .aload_n 0, 1, 0, 0), (20, .bipush 10, 2, 0, 0), (22, .newarray .int, 2, 0, 0), (24, .putfield 20, 3, 4, 6), (27, .aload_n 0, 1, 0, 0), (28, .bipush 10, 2, 0, 0), (30, .newarray .int, 2, 0, 0)],
  [(32, .putfield 23, 3, 4, 7), (35, .aload_n 0, 1, 0, 0), (36, .aload_n 1, 1, 0, 0), (37, .putfield 26, 3, 4, 3), (40, .aload_n 0, 1, 0, 0), (41, .aload_n 2, 1, 0, 0), (42, .putfield 30, 3, 4, 4), (45, .return_, 1, 0, 0)]]
def zm29 : ZMI := (yX4_init, cX4_init, 3, none, 2, 4, 31, 2, 4, ze29)
def ze30 : List (List ZEn) := [[(0, .aload_n 0, 1, 0, 0), (1, .getfield 34, 3, 4, 1), (4, .ifCond .ne 53, 3, 0, 0), (7, .aload_n 0, 1, 0, 0), (8, .iconst 1, 1, 0, 0), (9, .putfield 34, 3, 4, 1), (12, .aload_n 0, 1, 0, 0), (13, .aload_n 0, 1, 0, 0), (14, .aload_n 1, 1, 0, 0), (15, .invokevirtual 38, 3, 0, 31)],
  [(18, .ifCond .eq 18, 3, 0, 0), (21, .aload_n 0, 1, 0, 0), (22, .getfield 26, 3, 4, 3), (25, .aload_n 0, 1, 0, 0), (26, .getfield 15, 3, 4, 5), (29, .invokevirtual 42, 3, 0, 50)],
  [(32, .iconst (-1), 1, 0, 0), (33, .if_icmp .ne 7, 3, 0, 0), (40, .iconst 0, 1, 0, 0), (41, .putfield 46, 3, 4, 2), (44, .aload_n 0, 1, 0, 0), (45, .getfield 46, 3, 4, 2)],
  [(48, .ifCond .ne 9, 3, 0, 0), (51, .aload_n 0, 1, 0, 0), (52, .aload_n 1, 1, 0, 0), (53, .aload_n 2, 1, 0, 0), (54, .invokevirtual 49, 3, 0, 32), (57, .aload_n 0, 1, 0, 0), (58, .getfield 46, 3, 4, 2), (61, .ifCond .ne 7, 3, 0, 0)],
  [(64, .iconst 1, 1, 0, 0), (65, .goto 4, 3, 0, 0), (69, .ireturn, 1, 0, 0)]]
def zm30 : ZMI := (yX4_find, cX4_find, 3, (some .boolean), 0, 4, 11776, 2, 4, ze30)
def ze31 : List (List ZEn) := [[(0, .aload_n 0, 1, 0, 0), (1, .iconst 0, 1, 0, 0), (2, .putfield 53, 3, 4, 8), (5, .iconst 0, 1, 0, 0), (6, .istore_n 2, 1, 0, 0), (7, .iload_n 2, 1, 0, 0), (8, .bipush 8, 2, 0, 0), (10, .if_icmp .ge 16, 3, 0, 0), (13, .aload_n 0, 1, 0, 0), (14, .getfield 15, 3, 4, 5)],
  [(17, .iload_n 2, 1, 0, 0), (18, .iconst 0, 1, 0, 0), (19, .iastore, 1, 0, 0), (20, .iinc 2 1, 3, 0, 0), (23, .goto (-16), 3, 0, 0), (26, .iconst 0, 1, 0, 0), (27, .istore_n 2, 1, 0, 0), (28, .iload_n 2, 1, 0, 0), (29, .iconst 1, 1, 0, 0), (30, .if_icmp .gt 92, 3, 0, 0)],
  [(33, .iconst 0, 1, 0, 0), (34, .istore_n 3, 1, 0, 0), (35, .iload_n 3, 1, 0, 0), (36, .aload_n 1, 1, 0, 0), (37, .getfield 57, 3, 5, 2), (40, .iload_n 2, 1, 0, 0), (41, .iaload, 1, 0, 0), (42, .if_icmp .ge 74, 3, 0, 0)],
  [],
  [],
  [],
  [],
  [(116, .iinc 2 1, 3, 0, 0), (119, .goto (-91), 3, 0, 0), (122, .iconst 1, 1, 0, 0), (123, .ireturn, 1, 0, 0)]]
def zm31 : ZMI := (yX4_collect, cX4_collect, 4, (some .boolean), 0, 0, 0, 1, 4, ze31)
def ze32 : List (List ZEn) := [[(0, .aload_n 0, 1, 0, 0), (1, .getfield 9, 3, 4, 0), (4, .iconst 0, 1, 0, 0), (5, .iconst 0, 1, 0, 0), (6, .iastore, 1, 0, 0), (7, .aload_n 0, 1, 0, 0), (8, .getfield 9, 3, 4, 0), (11, .iconst 1, 1, 0, 0), (12, .iconst 0, 1, 0, 0), (13, .iastore, 1, 0, 0), (14, .aload_n 0, 1, 0, 0), (15, .getfield 9, 3, 4, 0)],
  [(18, .iconst 2, 1, 0, 0), (19, .iconst 0, 1, 0, 0), (20, .iastore, 1, 0, 0), (21, .aload_n 0, 1, 0, 0), (22, .getfield 26, 3, 4, 3), (25, .aload_n 0, 1, 0, 0), (26, .getfield 15, 3, 4, 5), (29, .invokevirtual 70, 3, 0, 51)],
  [(32, .iconst 0, 1, 0, 0), (33, .istore_n 3, 1, 0, 0), (34, .iload_n 3, 1, 0, 0), (35, .sipush 20000, 3, 0, 0), (38, .if_icmp .ge 148, 3, 0, 0), (41, .aload_n 0, 1, 0, 0), (42, .getfield 30, 3, 4, 4), (45, .getfield 74, 3, 1, 0)],
  [(48, .aload_n 1, 1, 0, 0), (49, .invokevirtual 80, 3, 0, 36), (52, .iconst 0, 1, 0, 0), (53, .istore 4, 2, 0, 0), (55, .iload 4, 2, 0, 0), (57, .aload_n 0, 1, 0, 0), (58, .getfield 53, 3, 4, 8), (61, .if_icmp .ge 54, 3, 0, 0)],
  [],
  [],
  [],
  [(115, .aload_n 0, 1, 0, 0), (116, .getfield 30, 3, 4, 4), (119, .aload_n 2, 1, 0, 0), (120, .getfield 91, 3, 9, 6), (123, .aload_n 2, 1, 0, 0), (124, .getfield 96, 3, 9, 8), (127, .invokevirtual 99, 3, 0, 4)],
  [(130, .aload_n 0, 1, 0, 0), (131, .getfield 30, 3, 4, 4), (134, .getfield 103, 3, 1, 1), (137, .iconst 2, 1, 0, 0), (138, .if_icmp .ge 19, 3, 0, 0), (141, .aload_n 0, 1, 0, 0), (142, .getfield 9, 3, 4, 0)],
  [(145, .aload_n 0, 1, 0, 0), (146, .getfield 30, 3, 4, 4), (149, .getfield 103, 3, 1, 1), (152, .dup2, 1, 0, 0), (153, .iaload, 1, 0, 0), (154, .iconst 1, 1, 0, 0), (155, .iadd, 1, 0, 0), (156, .iastore, 1, 0, 0), (157, .aload_n 0, 1, 0, 0), (158, .getfield 9, 3, 4, 0)],
  [(161, .iconst 2, 1, 0, 0), (162, .dup2, 1, 0, 0), (163, .iaload, 1, 0, 0), (164, .iconst 1, 1, 0, 0), (165, .iadd, 1, 0, 0), (166, .iastore, 1, 0, 0), (167, .aload_n 0, 1, 0, 0), (168, .getfield 26, 3, 4, 3), (171, .invokevirtual 106, 3, 0, 52), (174, .ifCond .ne 6, 3, 0, 0)],
  [(177, .goto 9, 3, 0, 0), (186, .return_, 1, 0, 0)]]
def zm32 : ZMI := (yX4_playAll, cX4_playAll, 5, none, 0, 4, 11776, 2, 4, ze32)
def ze33 : List (List ZEn) := [[(0, .aload_n 0, 1, 0, 0), (1, .invokespecial 3, 3, 1, 0), (4, .aload_n 0, 1, 0, 0), (5, .sipush 128, 3, 0, 0), (8, .newarray .int, 2, 0, 0), (10, .putfield 11, 3, 5, 0), (13, .aload_n 0, 1, 0, 0), (14, .iconst 2, 1, 0, 0), (15, .newarray .int, 2, 0, 0)],
  [(17, .putfield 15, 3, 5, 1), (20, .aload_n 0, 1, 0, 0), (21, .iconst 2, 1, 0, 0), (22, .newarray .int, 2, 0, 0), (24, .putfield 18, 3, 5, 2), (27, .aload_n 0, 1, 0, 0), (28, .bipush 64, 2, 0, 0), (30, .newarray .int, 2, 0, 0)],
  [(32, .putfield 21, 3, 5, 3), (35, .aload_n 0, 1, 0, 0), (36, .bipush 64, 2, 0, 0), (38, .newarray .int, 2, 0, 0), (40, .putfield 24, 3, 5, 4), (43, .aload_n 0, 1, 0, 0), (44, .bipush 8, 2, 0, 0), (46, .newarray .int, 2, 0, 0)],
  [(48, .putfield 27, 3, 5, 5), (51, .aload_n 0, 1, 0, 0), (52, .iconst (-1), 1, 0, 0), (53, .putfield 30, 3, 5, 13), (56, .return_, 1, 0, 0)]]
def zm33 : ZMI := (yX5_init, cX5_init, 1, none, 2, 6, 268, 0, 5, ze33)
def ze34 : List (List ZEn) := [[(0, .iconst 0, 1, 0, 0), (1, .istore_n 3, 1, 0, 0), (2, .iload_n 3, 1, 0, 0), (3, .bipush 8, 2, 0, 0), (5, .if_icmp .ge 24, 3, 0, 0), (8, .iload_n 3, 1, 0, 0), (9, .aload_n 2, 1, 0, 0), (10, .arraylength, 1, 0, 0), (11, .if_icmp .ge 18, 3, 0, 0), (14, .aload_n 0, 1, 0, 0), (15, .getfield 27, 3, 5, 5)],
  [(18, .iload_n 3, 1, 0, 0), (19, .aload_n 2, 1, 0, 0), (20, .iload_n 3, 1, 0, 0), (21, .iaload, 1, 0, 0), (22, .iastore, 1, 0, 0), (23, .iinc 3 1, 3, 0, 0), (26, .goto (-24), 3, 0, 0), (29, .aload_n 0, 1, 0, 0), (30, .getfield 15, 3, 5, 1)],
  [(33, .iconst 0, 1, 0, 0), (34, .iconst 0, 1, 0, 0), (35, .iastore, 1, 0, 0), (36, .aload_n 0, 1, 0, 0), (37, .getfield 15, 3, 5, 1), (40, .iconst 1, 1, 0, 0), (41, .iconst 0, 1, 0, 0), (42, .iastore, 1, 0, 0), (43, .aload_n 0, 1, 0, 0), (44, .getfield 18, 3, 5, 2), (47, .iconst 0, 1, 0, 0)],
  [(48, .iconst 0, 1, 0, 0), (49, .iastore, 1, 0, 0), (50, .aload_n 0, 1, 0, 0), (51, .getfield 18, 3, 5, 2), (54, .iconst 1, 1, 0, 0), (55, .iconst 0, 1, 0, 0), (56, .iastore, 1, 0, 0), (57, .aload_n 0, 1, 0, 0), (58, .iconst 0, 1, 0, 0), (59, .putfield 34, 3, 5, 6), (62, .aload_n 0, 1, 0, 0), (63, .iload_n 1, 1, 0, 0)],
  [(64, .putfield 37, 3, 5, 7), (67, .aload_n 0, 1, 0, 0), (68, .iconst 0, 1, 0, 0), (69, .putfield 40, 3, 5, 8), (72, .aload_n 0, 1, 0, 0), (73, .iconst 0, 1, 0, 0), (74, .putfield 43, 3, 5, 9), (77, .aload_n 0, 1, 0, 0), (78, .iconst 0, 1, 0, 0), (79, .putfield 46, 3, 5, 10)],
  [(82, .aload_n 0, 1, 0, 0), (83, .iconst 0, 1, 0, 0), (84, .putfield 49, 3, 5, 11), (87, .aload_n 0, 1, 0, 0), (88, .iconst 0, 1, 0, 0), (89, .putfield 52, 3, 5, 12), (92, .aload_n 0, 1, 0, 0), (93, .iconst (-1), 1, 0, 0), (94, .putfield 30, 3, 5, 13)],
  [(97, .aload_n 0, 1, 0, 0), (98, .iconst 0, 1, 0, 0), (99, .putfield 55, 3, 5, 14), (102, .return_, 1, 0, 0)]]
def zm34 : ZMI := (yX5_start, cX5_start, 4, none, 0, 0, 0, 2, 5, ze34)
def ze35 : List (List ZEn) := [[(0, .iload_n 3, 1, 0, 0), (1, .ifCond .lt 19, 3, 0, 0), (4, .iload 4, 2, 0, 0), (6, .bipush 24, 2, 0, 0), (8, .if_icmp .gt 12, 3, 0, 0), (11, .iload_n 3, 1, 0, 0), (12, .iload 4, 2, 0, 0), (14, .iadd, 1, 0, 0), (15, .aload_n 2, 1, 0, 0)],
  [(16, .arraylength, 1, 0, 0), (17, .if_icmp .le 4, 3, 0, 0), (21, .iconst 0, 1, 0, 0), (22, .istore 5, 2, 0, 0), (24, .iload 5, 2, 0, 0), (26, .iload 4, 2, 0, 0), (28, .if_icmp .ge 30, 3, 0, 0)],
  [],
  [(58, .aload_n 0, 1, 0, 0), (59, .getfield 18, 3, 5, 2), (62, .iload_n 1, 1, 0, 0), (63, .iload 4, 2, 0, 0)],
  [(65, .iastore, 1, 0, 0), (66, .return_, 1, 0, 0)]]
def zm35 : ZMI := (yX5_give, cX5_give, 6, none, 0, 0, 0, 4, 5, ze35)
def ze36 : List (List ZEn) := [[(0, .aload_n 0, 1, 0, 0), (1, .aload_n 1, 1, 0, 0), (2, .iconst 0, 1, 0, 0), (3, .invokevirtual 63, 3, 0, 37), (6, .aload_n 0, 1, 0, 0), (7, .aload_n 1, 1, 0, 0), (8, .iconst 1, 1, 0, 0), (9, .invokevirtual 63, 3, 0, 37), (12, .aload_n 1, 1, 0, 0), (13, .getfield 21, 3, 5, 3)],
  [(16, .iconst 0, 1, 0, 0), (17, .aload_n 0, 1, 0, 0), (18, .getfield 21, 3, 5, 3), (21, .iconst 0, 1, 0, 0), (22, .bipush 64, 2, 0, 0), (24, .invokestatic 67, 3, 2, 0), (27, .aload_n 1, 1, 0, 0), (28, .getfield 27, 3, 5, 5), (31, .iconst 0, 1, 0, 0)],
  [(32, .aload_n 0, 1, 0, 0), (33, .getfield 27, 3, 5, 5), (36, .iconst 0, 1, 0, 0), (37, .bipush 8, 2, 0, 0), (39, .invokestatic 67, 3, 2, 0), (42, .aload_n 0, 1, 0, 0), (43, .aload_n 1, 1, 0, 0), (44, .getfield 34, 3, 5, 6), (47, .putfield 34, 3, 5, 6)],
  [(50, .aload_n 0, 1, 0, 0), (51, .aload_n 1, 1, 0, 0), (52, .getfield 37, 3, 5, 7), (55, .putfield 37, 3, 5, 7), (58, .aload_n 0, 1, 0, 0), (59, .aload_n 1, 1, 0, 0), (60, .getfield 40, 3, 5, 8), (63, .putfield 40, 3, 5, 8)],
  [(66, .aload_n 0, 1, 0, 0), (67, .aload_n 1, 1, 0, 0), (68, .getfield 43, 3, 5, 9), (71, .putfield 43, 3, 5, 9), (74, .aload_n 0, 1, 0, 0), (75, .aload_n 1, 1, 0, 0), (76, .getfield 46, 3, 5, 10), (79, .putfield 46, 3, 5, 10)],
  [(82, .aload_n 0, 1, 0, 0), (83, .aload_n 1, 1, 0, 0), (84, .getfield 49, 3, 5, 11), (87, .putfield 49, 3, 5, 11), (90, .aload_n 0, 1, 0, 0), (91, .aload_n 1, 1, 0, 0), (92, .getfield 52, 3, 5, 12), (95, .putfield 52, 3, 5, 12)],
  [(98, .aload_n 0, 1, 0, 0), (99, .aload_n 1, 1, 0, 0), (100, .getfield 30, 3, 5, 13), (103, .putfield 30, 3, 5, 13), (106, .aload_n 0, 1, 0, 0), (107, .aload_n 1, 1, 0, 0), (108, .getfield 55, 3, 5, 14), (111, .putfield 55, 3, 5, 14)],
  [(114, .return_, 1, 0, 0)]]
def zm36 : ZMI := (yX5_copyFrom, cX5_copyFrom, 2, none, 0, 0, 0, 1, 5, ze36)
def ze37 : List (List ZEn) := [[(0, .aload_n 0, 1, 0, 0), (1, .getfield 15, 3, 5, 1), (4, .iload_n 2, 1, 0, 0), (5, .iconst 0, 1, 0, 0), (6, .iastore, 1, 0, 0), (7, .aload_n 0, 1, 0, 0), (8, .getfield 18, 3, 5, 2), (11, .iload_n 2, 1, 0, 0), (12, .aload_n 1, 1, 0, 0), (13, .getfield 18, 3, 5, 2)],
  [(16, .iload_n 2, 1, 0, 0), (17, .iaload, 1, 0, 0), (18, .iastore, 1, 0, 0), (19, .iconst 0, 1, 0, 0), (20, .istore_n 3, 1, 0, 0), (21, .iload_n 3, 1, 0, 0), (22, .aload_n 0, 1, 0, 0), (23, .getfield 18, 3, 5, 2), (26, .iload_n 2, 1, 0, 0), (27, .iaload, 1, 0, 0), (28, .if_icmp .ge 31, 3, 0, 0)],
  [],
  [(59, .return_, 1, 0, 0)]]
def zm37 : ZMI := (yX5_copyRow, cX5_copyRow, 4, none, 0, 0, 0, 2, 5, ze37)
def ze38 : List (List ZEn) := [[(0, .iconst 0, 1, 0, 0), (1, .istore_n 2, 1, 0, 0), (2, .iconst 0, 1, 0, 0), (3, .istore_n 3, 1, 0, 0), (4, .iload_n 3, 1, 0, 0), (5, .aload_n 0, 1, 0, 0), (6, .getfield 18, 3, 5, 2), (9, .iload_n 1, 1, 0, 0), (10, .iaload, 1, 0, 0), (11, .if_icmp .ge 21, 3, 0, 0)],
  [],
  [(32, .iload_n 2, 1, 0, 0), (33, .ireturn, 1, 0, 0)]]
def zm38 : ZMI := (yX5_countUnseen, cX5_countUnseen, 4, (some .int), 0, 0, 0, 1, 5, ze38)
def ze39 : List (List ZEn) := [[(0, .aload_n 0, 1, 0, 0), (1, .getfield 18, 3, 5, 2), (4, .aload_n 0, 1, 0, 0), (5, .getfield 37, 3, 5, 7), (8, .iaload, 1, 0, 0), (9, .ifCond .le 5, 3, 0, 0), (14, .aload_n 0, 1, 0, 0), (15, .iconst 1, 1, 0, 0)],
  [(16, .aload_n 0, 1, 0, 0), (17, .getfield 37, 3, 5, 7), (20, .isub, 1, 0, 0), (21, .putfield 30, 3, 5, 13), (24, .iconst 1, 1, 0, 0), (25, .ireturn, 1, 0, 0)]]
def zm39 : ZMI := (yX5_nextHasLost, cX5_nextHasLost, 1, (some .boolean), 0, 0, 0, 0, 5, ze39)
def ze40 : List (List ZEn) := [[(0, .aload_n 0, 1, 0, 0), (1, .invokevirtual 84, 3, 0, 39), (4, .ifCond .eq 5, 3, 0, 0), (7, .iconst 0, 1, 0, 0), (8, .ireturn, 1, 0, 0)]]
def zm40 : ZMI := (yX5_turnUp, cX5_turnUp, 2, (some .int), 0, 0, 0, 0, 5, ze40)
def ze41 : List (List ZEn) := [[(0, .iconst 1, 1, 0, 0), (1, .istore_n 1, 1, 0, 0), (2, .iconst 0, 1, 0, 0), (3, .istore_n 2, 1, 0, 0), (4, .iload_n 2, 1, 0, 0), (5, .sipush 128, 3, 0, 0), (8, .if_icmp .gt 19, 3, 0, 0), (11, .iload_n 1, 1, 0, 0), (12, .iconst 1, 1, 0, 0), (13, .if_icmp .ne 14, 3, 0, 0)],
  [(16, .aload_n 0, 1, 0, 0), (17, .invokevirtual 92, 3, 0, 40), (20, .istore_n 1, 1, 0, 0), (21, .iinc 2 1, 3, 0, 0), (24, .goto (-20), 3, 0, 0), (27, .iload_n 1, 1, 0, 0), (28, .ireturn, 1, 0, 0)]]
def zm41 : ZMI := (yX5_turnToHeap, cX5_turnToHeap, 3, (some .int), 0, 0, 0, 0, 5, ze41)
def ze42 : List (List ZEn) := [[(0, .aload_n 0, 1, 0, 0), (1, .invokespecial 3, 3, 1, 0), (4, .aload_n 0, 1, 0, 0), (5, .bipush 48, 2, 0, 0), (7, .newarray .int, 2, 0, 0), (9, .putfield 9, 3, 6, 1), (12, .aload_n 0, 1, 0, 0), (13, .iconst 2, 1, 0, 0), (14, .newarray .int, 2, 0, 0)],
  [(16, .putfield 15, 3, 6, 2), (19, .aload_n 0, 1, 0, 0), (20, .aload_n 1, 1, 0, 0), (21, .putfield 18, 3, 6, 0), (24, .aload_n 0, 1, 0, 0), (25, .aload_n 2, 1, 0, 0), (26, .putfield 22, 3, 6, 3), (29, .aload_n 0, 1, 0, 0), (30, .aload_n 3, 1, 0, 0), (31, .putfield 26, 3, 6, 4)],
  [(34, .return_, 1, 0, 0)]]
def zm42 : ZMI := (yX6_init, cX6_init, 4, none, 2, 2, 50, 3, 6, ze42)
def ze43 : List (List ZEn) := [[(0, .aload_n 0, 1, 0, 0), (1, .aload_n 1, 1, 0, 0), (2, .putfield 22, 3, 6, 3), (5, .aload_n 1, 1, 0, 0), (6, .invokevirtual 30, 3, 0, 58), (9, .aload_n 0, 1, 0, 0), (10, .invokevirtual 35, 3, 0, 46), (13, .iconst 0, 1, 0, 0), (14, .istore_n 2, 1, 0, 0), (15, .iload_n 2, 1, 0, 0)],
  [(16, .sipush 1000, 3, 0, 0), (19, .if_icmp .ge 29, 3, 0, 0), (22, .aload_n 0, 1, 0, 0), (23, .getfield 18, 3, 6, 0), (26, .getfield 40, 3, 10, 5), (29, .ifCond .eq 19, 3, 0, 0)],
  [],
  [(48, .aload_n 0, 1, 0, 0), (49, .invokevirtual 48, 3, 0, 47), (52, .ireturn, 1, 0, 0)]]
def zm43 : ZMI := (yX6_readTable, cX6_readTable, 3, (some .int), 0, 0, 0, 1, 6, ze43)
def ze44 : List (List ZEn) := [[(0, .aload_n 0, 1, 0, 0), (1, .aload_n 1, 1, 0, 0), (2, .putfield 22, 3, 6, 3), (5, .aload_n 0, 1, 0, 0), (6, .getfield 15, 3, 6, 2), (9, .iconst 0, 1, 0, 0), (10, .iconst 0, 1, 0, 0), (11, .iastore, 1, 0, 0), (12, .aload_n 0, 1, 0, 0), (13, .getfield 15, 3, 6, 2)],
  [(16, .iconst 1, 1, 0, 0), (17, .iconst 0, 1, 0, 0), (18, .iastore, 1, 0, 0), (19, .aload_n 0, 1, 0, 0), (20, .iconst 0, 1, 0, 0), (21, .putfield 52, 3, 6, 6), (24, .aload_n 0, 1, 0, 0), (25, .iconst 0, 1, 0, 0), (26, .putfield 56, 3, 6, 7), (29, .aload_n 0, 1, 0, 0), (30, .invokevirtual 35, 3, 0, 46)],
  [(33, .iconst 0, 1, 0, 0), (34, .istore_n 2, 1, 0, 0), (35, .iload_n 2, 1, 0, 0), (36, .sipush 1000, 3, 0, 0), (39, .if_icmp .ge 29, 3, 0, 0), (42, .aload_n 0, 1, 0, 0), (43, .getfield 18, 3, 6, 0), (46, .getfield 40, 3, 10, 5)],
  [(49, .ifCond .eq 19, 3, 0, 0)],
  [(68, .aload_n 0, 1, 0, 0), (69, .invokevirtual 62, 3, 0, 48), (72, .aload_n 0, 1, 0, 0), (73, .invokevirtual 48, 3, 0, 47), (76, .ireturn, 1, 0, 0)]]
def zm44 : ZMI := (yX6_readDeal, cX6_readDeal, 3, (some .int), 0, 0, 0, 1, 6, ze44)
def ze45 : List (List ZEn) := [[(0, .aload_n 0, 1, 0, 0), (1, .aload_n 1, 1, 0, 0), (2, .putfield 22, 3, 6, 3), (5, .aload_n 0, 1, 0, 0), (6, .aload_n 2, 1, 0, 0), (7, .putfield 26, 3, 6, 4), (10, .aload_n 2, 1, 0, 0), (11, .invokevirtual 65, 3, 0, 1), (14, .aload_n 0, 1, 0, 0), (15, .invokevirtual 35, 3, 0, 46)],
  [(18, .iconst 0, 1, 0, 0), (19, .istore_n 3, 1, 0, 0), (20, .iload_n 3, 1, 0, 0), (21, .sipush 1000, 3, 0, 0), (24, .if_icmp .ge 29, 3, 0, 0), (27, .aload_n 0, 1, 0, 0), (28, .getfield 18, 3, 6, 0), (31, .getfield 40, 3, 10, 5)],
  [(34, .ifCond .eq 19, 3, 0, 0)],
  [(53, .aload_n 0, 1, 0, 0), (54, .invokevirtual 48, 3, 0, 47), (57, .ireturn, 1, 0, 0)]]
def zm45 : ZMI := (yX6_readBook, cX6_readBook, 4, (some .int), 0, 0, 0, 2, 6, ze45)
def ze46 : List (List ZEn) := [[(0, .aload_n 0, 1, 0, 0), (1, .iconst 0, 1, 0, 0), (2, .putfield 71, 3, 6, 5), (5, .aload_n 0, 1, 0, 0), (6, .getfield 18, 3, 6, 0), (9, .invokevirtual 74, 3, 0, 61), (12, .return_, 1, 0, 0)]]
def zm46 : ZMI := (yX6_begin, cX6_begin, 1, none, 0, 0, 0, 0, 6, ze46)
def ze47 : List (List ZEn) := [[(0, .aload_n 0, 1, 0, 0), (1, .getfield 18, 3, 6, 0), (4, .invokevirtual 75, 3, 0, 62), (7, .aload_n 0, 1, 0, 0), (8, .getfield 71, 3, 6, 5), (11, .ireturn, 1, 0, 0)]]
def zm47 : ZMI := (yX6_finish, cX6_finish, 1, (some .int), 0, 0, 0, 0, 6, ze47)
def ze48 : List (List ZEn) := [[(0, .iconst 0, 1, 0, 0), (1, .istore_n 1, 1, 0, 0), (2, .iload_n 1, 1, 0, 0), (3, .aload_n 0, 1, 0, 0), (4, .getfield 15, 3, 6, 2), (7, .iconst 1, 1, 0, 0), (8, .iaload, 1, 0, 0), (9, .if_icmp .ge 52, 3, 0, 0)],
  [],
  [],
  [(61, .return_, 1, 0, 0)]]
def zm48 : ZMI := (yX6_closeUp, cX6_closeUp, 3, none, 0, 0, 0, 0, 6, ze48)
def ze49 : List (List ZEn) := [[(0, .aload_n 0, 1, 0, 0), (1, .invokespecial 3, 3, 1, 0), (4, .aload_n 0, 1, 0, 0), (5, .bipush 24, 2, 0, 0), (7, .newarray .int, 2, 0, 0), (9, .putfield 9, 3, 7, 0), (12, .aload_n 0, 1, 0, 0), (13, .bipush 8, 2, 0, 0), (15, .newarray .int, 2, 0, 0)],
  [(17, .putfield 15, 3, 7, 1), (20, .return_, 1, 0, 0)]]
def zm49 : ZMI := (yX7_init, cX7_init, 1, none, 2, 2, 32, 0, 7, ze49)
def ze50 : List (List ZEn) := [[(0, .iconst 0, 1, 0, 0), (1, .istore_n 2, 1, 0, 0), (2, .iconst 1, 1, 0, 0), (3, .istore_n 3, 1, 0, 0), (4, .iconst 0, 1, 0, 0), (5, .istore 4, 2, 0, 0), (7, .iload 4, 2, 0, 0), (9, .bipush 8, 2, 0, 0), (11, .if_icmp .ge 52, 3, 0, 0), (14, .iload 4, 2, 0, 0)],
  [(16, .aload_n 1, 1, 0, 0), (17, .arraylength, 1, 0, 0), (18, .if_icmp .ge 45, 3, 0, 0), (21, .iconst 1, 1, 0, 0), (22, .istore 5, 2, 0, 0), (24, .iload 5, 2, 0, 0), (26, .aload_n 1, 1, 0, 0), (27, .iload 4, 2, 0, 0), (29, .iaload, 1, 0, 0), (30, .if_icmp .gt 27, 3, 0, 0)],
  [],
  [(57, .iinc 4 1, 3, 0, 0), (60, .goto (-53), 3, 0, 0), (63, .iload_n 3, 1, 0, 0)],
  [(64, .sipush 20000, 3, 0, 0), (67, .if_icmp .le 7, 3, 0, 0), (74, .iload_n 3, 1, 0, 0), (75, .ireturn, 1, 0, 0)]]
def zm50 : ZMI := (yX7_howMany, cX7_howMany, 6, (some .int), 0, 0, 0, 1, 7, ze50)
def ze51 : List (List ZEn) := [[(0, .aload_n 0, 1, 0, 0), (1, .iconst 0, 1, 0, 0), (2, .putfield 18, 3, 7, 2), (5, .iconst 0, 1, 0, 0), (6, .istore_n 2, 1, 0, 0), (7, .iload_n 2, 1, 0, 0), (8, .bipush 8, 2, 0, 0), (10, .if_icmp .ge 59, 3, 0, 0), (13, .iload_n 2, 1, 0, 0), (14, .aload_n 1, 1, 0, 0), (15, .arraylength, 1, 0, 0)],
  [(16, .if_icmp .ge 53, 3, 0, 0), (19, .iconst 0, 1, 0, 0), (20, .istore_n 3, 1, 0, 0), (21, .iload_n 3, 1, 0, 0), (22, .aload_n 1, 1, 0, 0), (23, .iload_n 2, 1, 0, 0), (24, .iaload, 1, 0, 0), (25, .if_icmp .ge 38, 3, 0, 0)],
  [],
  [(63, .iinc 2 1, 3, 0, 0)],
  [(66, .goto (-59), 3, 0, 0), (69, .return_, 1, 0, 0)]]
def zm51 : ZMI := (yX7_toFirst, cX7_toFirst, 4, none, 0, 0, 0, 1, 7, ze51)
def ze52 : List (List ZEn) := [[(0, .aload_n 0, 1, 0, 0), (1, .getfield 18, 3, 7, 2), (4, .iconst 2, 1, 0, 0), (5, .isub, 1, 0, 0), (6, .istore_n 1, 1, 0, 0), (7, .iload_n 1, 1, 0, 0), (8, .ifCond .lt 26, 3, 0, 0)],
  [],
  [(34, .iload_n 1, 1, 0, 0), (35, .ifCond .ge 5, 3, 0, 0), (38, .iconst 0, 1, 0, 0), (39, .ireturn, 1, 0, 0)]]
def zm52 : ZMI := (yX7_toNext, cX7_toNext, 5, (some .boolean), 0, 0, 0, 0, 7, ze52)
def ze53 : List (List ZEn) := [[(0, .aload_n 0, 1, 0, 0), (1, .invokespecial 3, 3, 1, 0), (4, .aload_n 0, 1, 0, 0), (5, .bipush 7, 2, 0, 0), (7, .newarray .int, 2, 0, 0), (9, .putfield 9, 3, 8, 0), (12, .aload_n 0, 1, 0, 0), (13, .bipush 16, 2, 0, 0), (15, .newarray .int, 2, 0, 0)],
  [(17, .putfield 15, 3, 8, 1), (20, .aload_n 0, 1, 0, 0), (21, .iconst 3, 1, 0, 0), (22, .newarray .int, 2, 0, 0), (24, .putfield 18, 3, 8, 2), (27, .aload_n 0, 1, 0, 0), (28, .bipush 80, 2, 0, 0), (30, .newarray .int, 2, 0, 0)],
  [(32, .putfield 21, 3, 8, 3), (35, .aload_n 0, 1, 0, 0), (36, .sipush 168, 3, 0, 0), (39, .newarray .int, 2, 0, 0), (41, .putfield 24, 3, 8, 4), (44, .aload_n 0, 1, 0, 0), (45, .iconst 4, 1, 0, 0), (46, .newarray .int, 2, 0, 0)],
  [(48, .putfield 27, 3, 8, 5), (51, .aload_n 0, 1, 0, 0), (52, .bipush 24, 2, 0, 0), (54, .newarray .int, 2, 0, 0), (56, .putfield 30, 3, 8, 6), (59, .aload_n 0, 1, 0, 0), (60, .bipush 56, 2, 0, 0), (62, .newarray .boolean, 2, 0, 0)],
  [(64, .putfield 33, 3, 8, 10), (67, .aload_n 0, 1, 0, 0), (68, .bipush 8, 2, 0, 0), (70, .newarray .int, 2, 0, 0), (72, .putfield 37, 3, 8, 11), (75, .aload_n 0, 1, 0, 0), (76, .bipush 8, 2, 0, 0), (78, .newarray .int, 2, 0, 0)],
  [(80, .putfield 40, 3, 8, 12), (83, .aload_n 0, 1, 0, 0), (84, .iconst (-1), 1, 0, 0), (85, .putfield 43, 3, 8, 16), (88, .aload_n 0, 1, 0, 0), (89, .iconst (-1), 1, 0, 0), (90, .putfield 47, 3, 8, 17), (93, .aload_n 0, 1, 0, 0), (94, .aload_n 1, 1, 0, 0), (95, .putfield 50, 3, 8, 8)],
  [(98, .aload_n 0, 1, 0, 0), (99, .aload_n 2, 1, 0, 0), (100, .putfield 54, 3, 8, 9), (103, .return_, 1, 0, 0)]]
def zm53 : ZMI := (yX8_init, cX8_init, 3, none, 2, 10, 374, 2, 8, ze53)
def ze54 : List (List ZEn) := [[(0, .iload_n 0, 1, 0, 0), (1, .ifCond .lt 14, 3, 0, 0), (4, .iload_n 0, 1, 0, 0), (5, .sipush 9999, 3, 0, 0), (8, .if_icmp .gt 7, 3, 0, 0), (11, .iconst 1, 1, 0, 0), (12, .goto 4, 3, 0, 0), (15, .iconst 0, 1, 0, 0)],
  [(16, .ireturn, 1, 0, 0)]]
def zm54 : ZMI := (yX8_isSeed, cX8_isSeed, 1, (some .boolean), 1, 0, 0, 1, 8, ze54)
def ze55 : List (List ZEn) := [[(0, .aload_n 0, 1, 0, 0), (1, .iconst 0, 1, 0, 0), (2, .putfield 58, 3, 8, 13), (5, .aload_n 0, 1, 0, 0), (6, .iconst 0, 1, 0, 0), (7, .putfield 62, 3, 8, 14), (10, .aload_n 0, 1, 0, 0), (11, .iconst 0, 1, 0, 0), (12, .putfield 65, 3, 8, 15), (15, .aload_n 0, 1, 0, 0)],
  [(16, .iconst (-1), 1, 0, 0), (17, .putfield 43, 3, 8, 16), (20, .aload_n 0, 1, 0, 0), (21, .iconst (-1), 1, 0, 0), (22, .putfield 47, 3, 8, 17), (25, .iconst 0, 1, 0, 0), (26, .istore_n 1, 1, 0, 0), (27, .iload_n 1, 1, 0, 0), (28, .aload_n 0, 1, 0, 0), (29, .getfield 33, 3, 8, 10)],
  [(32, .arraylength, 1, 0, 0), (33, .if_icmp .ge 16, 3, 0, 0), (36, .aload_n 0, 1, 0, 0), (37, .getfield 33, 3, 8, 10), (40, .iload_n 1, 1, 0, 0), (41, .iconst 0, 1, 0, 0), (42, .bastore, 1, 0, 0), (43, .iinc 1 1, 3, 0, 0), (46, .goto (-19), 3, 0, 0)],
  [(49, .return_, 1, 0, 0)]]
def zm55 : ZMI := (yX8_forget, cX8_forget, 2, none, 0, 0, 0, 0, 8, ze55)
def ze56 : List (List ZEn) := [[(0, .aload_n 1, 1, 0, 0), (1, .getfield 68, 3, 9, 5), (4, .iconst 1, 1, 0, 0), (5, .if_icmp .lt 22, 3, 0, 0)],
  [(27, .iconst 0, 1, 0, 0), (28, .ireturn, 1, 0, 0)]]
def zm56 : ZMI := (yX8_canAsk, cX8_canAsk, 2, (some .boolean), 0, 0, 0, 1, 8, ze56)
def ze57 : List (List ZEn) := [[(0, .aload_n 0, 1, 0, 0), (1, .invokespecial 3, 3, 1, 0), (4, .aload_n 0, 1, 0, 0), (5, .bipush 8, 2, 0, 0), (7, .newarray .long, 2, 0, 0), (9, .putfield 9, 3, 9, 1), (12, .aload_n 0, 1, 0, 0), (13, .bipush 8, 2, 0, 0), (15, .newarray .int, 2, 0, 0)],
  [(17, .putfield 15, 3, 9, 2), (20, .aload_n 0, 1, 0, 0), (21, .bipush 8, 2, 0, 0), (23, .newarray .int, 2, 0, 0), (25, .putfield 19, 3, 9, 3), (28, .aload_n 0, 1, 0, 0), (29, .bipush 8, 2, 0, 0), (31, .newarray .boolean, 2, 0, 0)],
  [(33, .putfield 22, 3, 9, 4), (36, .aload_n 0, 1, 0, 0), (37, .sipush 1000, 3, 0, 0), (40, .newarray .int, 2, 0, 0), (42, .putfield 26, 3, 9, 14), (45, .aload_n 0, 1, 0, 0), (46, .bipush 64, 2, 0, 0)],
  [(48, .newarray .int, 2, 0, 0), (50, .putfield 29, 3, 9, 15), (53, .aload_n 0, 1, 0, 0), (54, .sipush 1000, 3, 0, 0), (57, .putfield 32, 3, 9, 8), (60, .return_, 1, 0, 0)]]
def zm57 : ZMI := (yX9_init, cX9_init, 1, none, 2, 6, 1096, 0, 9, ze57)
def ze58 : List (List ZEn) := [[(0, .aload_n 0, 1, 0, 0), (1, .iconst 0, 1, 0, 0), (2, .putfield 36, 3, 9, 0), (5, .aload_n 0, 1, 0, 0), (6, .iconst 0, 1, 0, 0), (7, .putfield 39, 3, 9, 5), (10, .iconst 0, 1, 0, 0), (11, .istore_n 1, 1, 0, 0), (12, .iload_n 1, 1, 0, 0), (13, .bipush 8, 2, 0, 0), (15, .if_icmp .ge 37, 3, 0, 0)],
  [(18, .aload_n 0, 1, 0, 0), (19, .getfield 9, 3, 9, 1), (22, .iload_n 1, 1, 0, 0), (23, .lconst 0, 1, 0, 0), (24, .lastore, 1, 0, 0), (25, .aload_n 0, 1, 0, 0), (26, .getfield 15, 3, 9, 2), (29, .iload_n 1, 1, 0, 0), (30, .iconst 0, 1, 0, 0), (31, .iastore, 1, 0, 0)],
  [(32, .aload_n 0, 1, 0, 0), (33, .getfield 19, 3, 9, 3), (36, .iload_n 1, 1, 0, 0), (37, .iconst 0, 1, 0, 0), (38, .iastore, 1, 0, 0), (39, .aload_n 0, 1, 0, 0), (40, .getfield 22, 3, 9, 4), (43, .iload_n 1, 1, 0, 0), (44, .iconst 0, 1, 0, 0), (45, .bastore, 1, 0, 0), (46, .iinc 1 1, 3, 0, 0)],
  [(49, .goto (-37), 3, 0, 0), (52, .aload_n 0, 1, 0, 0), (53, .iconst 0, 1, 0, 0), (54, .putfield 42, 3, 9, 6), (57, .aload_n 0, 1, 0, 0), (58, .iconst 0, 1, 0, 0), (59, .putfield 45, 3, 9, 7), (62, .aload_n 0, 1, 0, 0), (63, .sipush 1000, 3, 0, 0)],
  [(66, .putfield 32, 3, 9, 8), (69, .aload_n 0, 1, 0, 0), (70, .iconst 0, 1, 0, 0), (71, .putfield 48, 3, 9, 9), (74, .aload_n 0, 1, 0, 0), (75, .iconst 0, 1, 0, 0), (76, .putfield 52, 3, 9, 10), (79, .aload_n 0, 1, 0, 0)],
  [(80, .iconst 0, 1, 0, 0), (81, .putfield 55, 3, 9, 11), (84, .aload_n 0, 1, 0, 0), (85, .iconst 0, 1, 0, 0), (86, .putfield 58, 3, 9, 12), (89, .aload_n 0, 1, 0, 0), (90, .iconst 0, 1, 0, 0), (91, .putfield 61, 3, 9, 13), (94, .return_, 1, 0, 0)]]
def zm58 : ZMI := (yX9_reset, cX9_reset, 2, none, 0, 0, 0, 0, 9, ze58)
def ze59 : List (List ZEn) := [[(0, .aload_n 0, 1, 0, 0), (1, .getfield 58, 3, 9, 12), (4, .ifCond .ne 6, 3, 0, 0), (7, .bipush 10, 2, 0, 0), (9, .ireturn, 1, 0, 0)]]
def zm59 : ZMI := (yX9_offerFor, cX9_offerFor, 3, (some .int), 0, 0, 0, 1, 9, ze59)
def ze60 : List (List ZEn) := [[(0, .aload_n 0, 1, 0, 0), (1, .invokespecial 3, 3, 1, 0), (4, .aload_n 0, 1, 0, 0), (5, .sipush 1000, 3, 0, 0), (8, .newarray .byte, 2, 0, 0), (10, .putfield 11, 3, 10, 0), (13, .aload_n 0, 1, 0, 0), (14, .bipush 24, 2, 0, 0)],
  [(16, .newarray .long, 2, 0, 0), (18, .putfield 15, 3, 10, 1), (21, .iconst 0, 1, 0, 0), (22, .istore_n 1, 1, 0, 0), (23, .lconst 0, 1, 0, 0), (24, .lstore_n 2, 1, 0, 0), (25, .iconst 0, 1, 0, 0), (26, .istore 4, 2, 0, 0), (28, .iload 4, 2, 0, 0), (30, .ldc 19, 2, 7, 0)],
  [(32, .invokevirtual 21, 3, 4, 0), (35, .if_icmp .ge 61, 3, 0, 0), (38, .iload_n 1, 1, 0, 0), (39, .bipush 24, 2, 0, 0), (41, .if_icmp .ge 55, 3, 0, 0), (44, .ldc 19, 2, 7, 0), (46, .iload 4, 2, 0, 0)],
  [(48, .invokevirtual 27, 3, 5, 0), (51, .istore 5, 2, 0, 0), (53, .iload 5, 2, 0, 0), (55, .bipush 32, 2, 0, 0), (57, .if_icmp .ne 18, 3, 0, 0), (60, .aload_n 0, 1, 0, 0), (61, .getfield 15, 3, 10, 1)],
  [(64, .iload_n 1, 1, 0, 0), (65, .lload_n 2, 1, 0, 0), (66, .lastore, 1, 0, 0), (67, .iinc 1 1, 3, 0, 0), (70, .lconst 0, 1, 0, 0), (71, .lstore_n 2, 1, 0, 0), (72, .goto 18, 3, 0, 0), (75, .lload_n 2, 1, 0, 0), (76, .ldc2_w 31, 3, 32, 0), (79, .lmul, 1, 0, 0)],
  [(80, .iload 5, 2, 0, 0), (82, .bipush 97, 2, 0, 0), (84, .isub, 1, 0, 0), (85, .iconst 1, 1, 0, 0), (86, .iadd, 1, 0, 0), (87, .i2l, 1, 0, 0), (88, .ladd, 1, 0, 0), (89, .lstore_n 2, 1, 0, 0), (90, .iinc 4 1, 3, 0, 0), (93, .goto (-65), 3, 0, 0)],
  [(96, .return_, 1, 0, 0)]]
def zm60 : ZMI := (yX10_init, cX10_init, 6, none, 2, 2, 1024, 0, 10, ze60)
def ze61 : List (List ZEn) := [[(0, .aload_n 0, 1, 0, 0), (1, .iconst 0, 1, 0, 0), (2, .putfield 36, 3, 10, 3), (5, .aload_n 0, 1, 0, 0), (6, .invokevirtual 39, 3, 0, 63), (9, .return_, 1, 0, 0)]]
def zm61 : ZMI := (yX10_begin, cX10_begin, 1, none, 0, 0, 0, 0, 10, ze61)
def ze62 : List (List ZEn) := [[(0, .aload_n 0, 1, 0, 0), (1, .iconst 0, 1, 0, 0), (2, .putfield 33, 3, 10, 2), (5, .aload_n 0, 1, 0, 0), (6, .iconst 0, 1, 0, 0), (7, .putfield 36, 3, 10, 3), (10, .return_, 1, 0, 0)]]
def zm62 : ZMI := (yX10_empty, cX10_empty, 1, none, 0, 0, 0, 0, 10, ze62)
def ze63 : List (List ZEn) := [[(0, .aload_n 0, 1, 0, 0), (1, .getfield 36, 3, 10, 3), (4, .aload_n 0, 1, 0, 0), (5, .getfield 33, 3, 10, 2), (8, .if_icmp .ge 44, 3, 0, 0)],
  [],
  [],
  [(52, .aload_n 0, 1, 0, 0), (53, .aload_n 0, 1, 0, 0), (54, .getfield 36, 3, 10, 3), (57, .putfield 42, 3, 10, 4), (60, .aload_n 0, 1, 0, 0), (61, .iconst (-1), 1, 0, 0), (62, .putfield 45, 3, 10, 6)],
  [(65, .aload_n 0, 1, 0, 0), (66, .getfield 42, 3, 10, 4), (69, .aload_n 0, 1, 0, 0), (70, .getfield 33, 3, 10, 2), (73, .if_icmp .ge 15, 3, 0, 0)],
  [(88, .iconst 0, 1, 0, 0), (89, .istore_n 1, 1, 0, 0), (90, .aload_n 0, 1, 0, 0), (91, .getfield 42, 3, 10, 4), (94, .aload_n 0, 1, 0, 0), (95, .getfield 33, 3, 10, 2)],
  [(98, .if_icmp .lt 11, 3, 0, 0), (101, .aload_n 0, 1, 0, 0), (102, .iconst 0, 1, 0, 0), (103, .putfield 48, 3, 10, 5), (106, .goto 72, 3, 0, 0)],
  [],
  [],
  [],
  [],
  [(178, .return_, 1, 0, 0)]]
def zm63 : ZMI := (yX10_advance, cX10_advance, 2, none, 0, 0, 0, 0, 10, ze63)
def ze64 : List (List ZEn) := [[(0, .aload_n 0, 1, 0, 0), (1, .invokespecial 1, 3, 1, 0), (4, .aload_n 0, 1, 0, 0), (5, .new 7, 3, 10, 0), (8, .dup, 1, 0, 0), (9, .invokespecial 9, 3, 0, 60), (12, .putfield 10, 3, 11, 0), (15, .aload_n 0, 1, 0, 0)],
  [(16, .new 16, 3, 9, 0), (19, .dup, 1, 0, 0), (20, .invokespecial 18, 3, 0, 57), (23, .putfield 19, 3, 11, 1), (26, .aload_n 0, 1, 0, 0), (27, .new 16, 3, 9, 0), (30, .dup, 1, 0, 0), (31, .invokespecial 18, 3, 0, 57)],
  [(34, .putfield 23, 3, 11, 2), (37, .aload_n 0, 1, 0, 0), (38, .new 26, 3, 0, 0), (41, .dup, 1, 0, 0), (42, .invokespecial 28, 3, 6, 0), (45, .putfield 29, 3, 11, 3)],
  [(48, .aload_n 0, 1, 0, 0), (49, .new 26, 3, 0, 0), (52, .dup, 1, 0, 0), (53, .invokespecial 28, 3, 6, 0), (56, .putfield 33, 3, 11, 4), (59, .aload_n 0, 1, 0, 0), (60, .new 36, 3, 6, 0), (63, .dup, 1, 0, 0)],
  [(64, .aload_n 0, 1, 0, 0), (65, .getfield 10, 3, 11, 0), (68, .aload_n 0, 1, 0, 0), (69, .getfield 19, 3, 11, 1), (72, .aload_n 0, 1, 0, 0), (73, .getfield 29, 3, 11, 3), (76, .invokespecial 38, 3, 0, 42), (79, .putfield 41, 3, 11, 5)],
  [(82, .aload_n 0, 1, 0, 0), (83, .new 45, 3, 2, 0), (86, .dup, 1, 0, 0), (87, .invokespecial 47, 3, 6, 11), (90, .putfield 48, 3, 11, 6), (93, .aload_n 0, 1, 0, 0), (94, .bipush 16, 2, 0, 0)],
  [(96, .anewarray 45, 3, 4, 0), (99, .putfield 52, 3, 11, 7), (102, .aload_n 0, 1, 0, 0), (103, .iconst 4, 1, 0, 0), (104, .anewarray 45, 3, 4, 0), (107, .putfield 56, 3, 11, 10), (110, .aload_n 0, 1, 0, 0), (111, .iconst 4, 1, 0, 0)],
  [(112, .newarray .boolean, 2, 0, 0), (114, .putfield 59, 3, 11, 11), (117, .aload_n 0, 1, 0, 0), (118, .new 63, 3, 7, 0), (121, .dup, 1, 0, 0), (122, .invokespecial 65, 3, 6, 49), (125, .putfield 66, 3, 11, 12)],
  [(128, .aload_n 0, 1, 0, 0), (129, .new 70, 3, 1, 0), (132, .dup, 1, 0, 0), (133, .invokespecial 72, 3, 6, 3), (136, .putfield 73, 3, 11, 13), (139, .aload_n 0, 1, 0, 0), (140, .new 77, 3, 8, 0), (143, .dup, 1, 0, 0)],
  [(144, .aload_n 0, 1, 0, 0), (145, .getfield 66, 3, 11, 12), (148, .aload_n 0, 1, 0, 0), (149, .getfield 73, 3, 11, 13), (152, .invokespecial 79, 3, 0, 53), (155, .putfield 82, 3, 11, 14), (158, .aload_n 0, 1, 0, 0), (159, .new 86, 3, 4, 0)],
  [(162, .dup, 1, 0, 0), (163, .aload_n 0, 1, 0, 0), (164, .getfield 66, 3, 11, 12), (167, .aload_n 0, 1, 0, 0), (168, .getfield 73, 3, 11, 13), (171, .invokespecial 88, 3, 0, 29), (174, .putfield 89, 3, 11, 15)],
  [(177, .aload_n 0, 1, 0, 0), (178, .new 93, 3, 3, 0), (181, .dup, 1, 0, 0), (182, .invokespecial 95, 3, 6, 22), (185, .putfield 96, 3, 11, 16), (188, .aload_n 0, 1, 0, 0), (189, .iconst 4, 1, 0, 0), (190, .newarray .int, 2, 0, 0)],
  [(192, .putfield 100, 3, 11, 17), (195, .aload_n 0, 1, 0, 0), (196, .getfield 48, 3, 11, 6), (199, .aload_n 0, 1, 0, 0), (200, .getfield 19, 3, 11, 1), (203, .invokevirtual 104, 3, 0, 12), (206, .return_, 1, 0, 0)]]
def zm64 : ZMI := (yX11_init, cX11_init, 1, none, 2, 78, 4979, 0, 11, ze64)
def ze65 : List (List ZEn) := [[(0, .aload_n 0, 1, 0, 0), (1, .getfield 41, 3, 11, 5), (4, .aload_n 0, 1, 0, 0), (5, .getfield 23, 3, 11, 2), (8, .invokevirtual 116, 3, 0, 43), (11, .istore_n 1, 1, 0, 0), (12, .iload_n 1, 1, 0, 0), (13, .ifCond .ne 70, 3, 0, 0)],
  [(16, .aload_n 0, 1, 0, 0), (17, .getfield 19, 3, 11, 1), (20, .astore_n 2, 1, 0, 0), (21, .aload_n 0, 1, 0, 0), (22, .aload_n 0, 1, 0, 0), (23, .getfield 23, 3, 11, 2), (26, .putfield 19, 3, 11, 1), (29, .aload_n 0, 1, 0, 0), (30, .aload_n 2, 1, 0, 0), (31, .putfield 23, 3, 11, 2)],
  [(34, .aload_n 0, 1, 0, 0), (35, .getfield 29, 3, 11, 3), (38, .invokevirtual 120, 3, 0, 1), (41, .iconst 0, 1, 0, 0), (42, .istore_n 3, 1, 0, 0), (43, .iload_n 3, 1, 0, 0), (44, .iconst 4, 1, 0, 0), (45, .if_icmp .ge 16, 3, 0, 0)],
  [(48, .aload_n 0, 1, 0, 0), (49, .getfield 59, 3, 11, 11), (52, .iload_n 3, 1, 0, 0), (53, .iconst 0, 1, 0, 0), (54, .bastore, 1, 0, 0), (55, .iinc 3 1, 3, 0, 0), (58, .goto (-15), 3, 0, 0), (61, .aload_n 0, 1, 0, 0), (62, .getfield 82, 3, 11, 14)],
  [(65, .invokevirtual 123, 3, 0, 55), (68, .aload_n 0, 1, 0, 0), (69, .getfield 48, 3, 11, 6), (72, .aload_n 0, 1, 0, 0), (73, .getfield 19, 3, 11, 1), (76, .invokevirtual 104, 3, 0, 12), (79, .aload_n 0, 1, 0, 0)],
  [(80, .invokevirtual 126, 3, 0, 101), (83, .iload_n 1, 1, 0, 0), (84, .ireturn, 1, 0, 0)]]
def zm65 : ZMI := (yX11_table, cX11_table, 4, (some .int), 0, 0, 0, 0, 11, ze65)
def ze66 : List (List ZEn) := [[(0, .aload_n 0, 1, 0, 0), (1, .getfield 41, 3, 11, 5), (4, .aload_n 0, 1, 0, 0), (5, .getfield 19, 3, 11, 1), (8, .invokevirtual 129, 3, 0, 44), (11, .istore_n 1, 1, 0, 0), (12, .iload_n 1, 1, 0, 0), (13, .ifCond .ne 50, 3, 0, 0)],
  [(16, .aload_n 0, 1, 0, 0), (17, .getfield 48, 3, 11, 6), (20, .aload_n 0, 1, 0, 0), (21, .getfield 41, 3, 11, 5), (24, .getfield 132, 3, 6, 1), (27, .aload_n 0, 1, 0, 0), (28, .getfield 41, 3, 11, 5), (31, .getfield 135, 3, 6, 2)],
  [(34, .iconst 0, 1, 0, 0), (35, .iaload, 1, 0, 0), (36, .aload_n 0, 1, 0, 0), (37, .getfield 41, 3, 11, 5), (40, .getfield 135, 3, 6, 2), (43, .iconst 1, 1, 0, 0), (44, .iaload, 1, 0, 0), (45, .invokevirtual 138, 3, 0, 13)],
  [(48, .aload_n 0, 1, 0, 0), (49, .getfield 48, 3, 11, 6), (52, .aload_n 0, 1, 0, 0), (53, .getfield 19, 3, 11, 1), (56, .invokevirtual 142, 3, 0, 14), (59, .aload_n 0, 1, 0, 0), (60, .invokevirtual 126, 3, 0, 101), (63, .iload_n 1, 1, 0, 0)],
  [(64, .ireturn, 1, 0, 0)]]
def zm66 : ZMI := (yX11_deal, cX11_deal, 2, (some .int), 0, 0, 0, 0, 11, ze66)
def ze67 : List (List ZEn) := [[(0, .aload_n 0, 1, 0, 0), (1, .getfield 41, 3, 11, 5), (4, .aload_n 0, 1, 0, 0), (5, .getfield 19, 3, 11, 1), (8, .aload_n 0, 1, 0, 0), (9, .getfield 33, 3, 11, 4), (12, .invokevirtual 145, 3, 0, 45), (15, .istore_n 1, 1, 0, 0)],
  [(16, .iload_n 1, 1, 0, 0), (17, .ifCond .ne 21, 3, 0, 0), (20, .aload_n 0, 1, 0, 0), (21, .getfield 29, 3, 11, 3), (24, .astore_n 2, 1, 0, 0), (25, .aload_n 0, 1, 0, 0), (26, .aload_n 0, 1, 0, 0), (27, .getfield 33, 3, 11, 4), (30, .putfield 29, 3, 11, 3)],
  [(33, .aload_n 0, 1, 0, 0), (34, .aload_n 2, 1, 0, 0), (35, .putfield 33, 3, 11, 4), (38, .iload_n 1, 1, 0, 0), (39, .ireturn, 1, 0, 0)]]
def zm67 : ZMI := (yX11_book, cX11_book, 3, (some .int), 0, 0, 0, 0, 11, ze67)
def ze68 : List (List ZEn) := [[(0, .iload_n 1, 1, 0, 0), (1, .ifCond .lt 14, 3, 0, 0), (4, .iload_n 1, 1, 0, 0), (5, .aload_n 0, 1, 0, 0), (6, .getfield 19, 3, 11, 1), (9, .getfield 149, 3, 9, 0), (12, .if_icmp .lt 5, 3, 0, 0), (15, .iconst (-1), 1, 0, 0)],
  [(16, .ireturn, 1, 0, 0)]]
def zm68 : ZMI := (yX11_kind, cX11_kind, 3, (some .int), 0, 0, 0, 2, 11, ze68)
def ze69 : List (List ZEn) := [[(0, .iload_n 1, 1, 0, 0), (1, .invokestatic 172, 3, 0, 98), (4, .ifCond .eq 23, 3, 0, 0), (7, .iload_n 2, 1, 0, 0), (8, .ifCond .lt 19, 3, 0, 0), (11, .iload_n 2, 1, 0, 0), (12, .aload_n 0, 1, 0, 0), (13, .getfield 48, 3, 11, 6)],
  [(16, .getfield 158, 3, 2, 0), (19, .getfield 176, 3, 5, 2), (22, .iload_n 1, 1, 0, 0), (23, .iaload, 1, 0, 0), (24, .if_icmp .lt 5, 3, 0, 0), (27, .iconst (-1), 1, 0, 0), (28, .ireturn, 1, 0, 0)]]
def zm69 : ZMI := (yX11_card, cX11_card, 3, (some .int), 0, 0, 0, 2, 11, ze69)
def ze70 : List (List ZEn) := [[(0, .iload_n 1, 1, 0, 0), (1, .ifCond .lt 17, 3, 0, 0), (4, .iload_n 1, 1, 0, 0), (5, .aload_n 0, 1, 0, 0), (6, .getfield 48, 3, 11, 6), (9, .getfield 158, 3, 2, 0), (12, .getfield 180, 3, 5, 6), (15, .if_icmp .lt 5, 3, 0, 0)],
  [(18, .iconst (-1), 1, 0, 0), (19, .ireturn, 1, 0, 0)]]
def zm70 : ZMI := (yX11_heap, cX11_heap, 2, (some .int), 0, 0, 0, 1, 11, ze70)
def ze71 : List (List ZEn) := [[(0, .aload_n 0, 1, 0, 0), (1, .getfield 48, 3, 11, 6), (4, .iload_n 1, 1, 0, 0), (5, .iload_n 2, 1, 0, 0), (6, .invokevirtual 186, 3, 0, 16), (9, .ireturn, 1, 0, 0)]]
def zm71 : ZMI := (yX11_taken, cX11_taken, 3, (some .int), 0, 0, 0, 2, 11, ze71)
def ze72 : List (List ZEn) := [[(0, .iload_n 1, 1, 0, 0), (1, .iconst 1, 1, 0, 0), (2, .if_icmp .lt 10, 3, 0, 0), (5, .iload_n 1, 1, 0, 0), (6, .sipush 1000, 3, 0, 0), (9, .if_icmp .le 5, 3, 0, 0), (12, .iconst (-1), 1, 0, 0), (13, .ireturn, 1, 0, 0), (14, .aload_n 0, 1, 0, 0), (15, .getfield 48, 3, 11, 6)],
  [(18, .getfield 158, 3, 2, 0), (21, .getfield 189, 3, 5, 13), (24, .iconst (-1), 1, 0, 0), (25, .if_icmp .eq 5, 3, 0, 0), (30, .aload_n 0, 1, 0, 0), (31, .invokevirtual 192, 3, 0, 100)],
  [(34, .iconst 0, 1, 0, 0), (35, .istore_n 2, 1, 0, 0), (36, .iconst 0, 1, 0, 0), (37, .istore_n 3, 1, 0, 0), (38, .iload_n 3, 1, 0, 0), (39, .iload_n 1, 1, 0, 0), (40, .if_icmp .ge 29, 3, 0, 0), (43, .aload_n 0, 1, 0, 0), (44, .getfield 48, 3, 11, 6), (47, .aload_n 0, 1, 0, 0)],
  [(48, .getfield 19, 3, 11, 1), (51, .getfield 195, 3, 9, 6), (54, .invokevirtual 198, 3, 0, 17), (57, .ifCond .eq 12, 3, 0, 0)],
  [(69, .aload_n 0, 1, 0, 0), (70, .invokevirtual 201, 3, 0, 102), (73, .iload_n 2, 1, 0, 0), (74, .ireturn, 1, 0, 0)]]
def zm72 : ZMI := (yX11_turn, cX11_turn, 4, (some .int), 0, 16, 489, 1, 11, ze72)
def ze73 : List (List ZEn) := [[(0, .aload_n 0, 1, 0, 0), (1, .getfield 48, 3, 11, 6), (4, .iload_n 1, 1, 0, 0), (5, .invokevirtual 204, 3, 0, 18), (8, .ifCond .ne 5, 3, 0, 0), (11, .iconst 0, 1, 0, 0), (12, .ireturn, 1, 0, 0), (13, .aload_n 0, 1, 0, 0), (14, .invokevirtual 192, 3, 0, 100)],
  [(17, .aload_n 0, 1, 0, 0), (18, .getfield 48, 3, 11, 6), (21, .iload_n 1, 1, 0, 0), (22, .aload_n 0, 1, 0, 0), (23, .getfield 19, 3, 11, 1), (26, .getfield 195, 3, 9, 6), (29, .invokevirtual 207, 3, 0, 19)],
  [(32, .aload_n 0, 1, 0, 0), (33, .invokevirtual 201, 3, 0, 102), (36, .iconst 1, 1, 0, 0), (37, .ireturn, 1, 0, 0)]]
def zm73 : ZMI := (yX11_slip, cX11_slip, 2, (some .boolean), 0, 16, 489, 1, 11, ze73)
def ze74 : List (List ZEn) := [[(0, .aload_n 0, 1, 0, 0), (1, .getfield 211, 3, 11, 9), (4, .ifCond .gt 5, 3, 0, 0), (7, .iconst 0, 1, 0, 0), (8, .ireturn, 1, 0, 0)]]
def zm74 : ZMI := (yX11_undo, cX11_undo, 3, (some .boolean), 0, 0, 0, 0, 11, ze74)
def ze75 : List (List ZEn) := [[(0, .aload_n 0, 1, 0, 0), (1, .getfield 48, 3, 11, 6), (4, .getfield 221, 3, 2, 3), (7, .ifCond .ne 5, 3, 0, 0), (10, .iconst 0, 1, 0, 0), (11, .ireturn, 1, 0, 0)]]
def zm75 : ZMI := (yX11_again, cX11_again, 1, (some .boolean), 0, 0, 0, 0, 11, ze75)
def ze76 : List (List ZEn) := [[(0, .iload_n 1, 1, 0, 0), (1, .ifCond .lt 8, 3, 0, 0), (4, .iload_n 1, 1, 0, 0), (5, .iconst 3, 1, 0, 0), (6, .if_icmp .le 5, 3, 0, 0), (9, .iconst (-1), 1, 0, 0), (10, .ireturn, 1, 0, 0), (11, .aload_n 0, 1, 0, 0), (12, .getfield 225, 3, 11, 18), (15, .ifCond .ne 98, 3, 0, 0)],
  [(18, .aload_n 0, 1, 0, 0), (19, .iconst 1, 1, 0, 0), (20, .putfield 225, 3, 11, 18), (23, .aload_n 0, 1, 0, 0), (24, .getfield 73, 3, 11, 13), (27, .getfield 228, 3, 1, 0), (30, .aload_n 0, 1, 0, 0), (31, .getfield 48, 3, 11, 6)],
  [(34, .getfield 158, 3, 2, 0), (37, .invokevirtual 229, 3, 0, 36), (40, .aload_n 0, 1, 0, 0), (41, .getfield 73, 3, 11, 13), (44, .aload_n 0, 1, 0, 0), (45, .getfield 19, 3, 11, 1)],
  [(48, .getfield 195, 3, 9, 6), (51, .aload_n 0, 1, 0, 0), (52, .getfield 19, 3, 11, 1), (55, .getfield 232, 3, 9, 8), (58, .invokevirtual 235, 3, 0, 4), (61, .aload_n 0, 1, 0, 0), (62, .getfield 100, 3, 11, 17)],
  [(65, .iconst 0, 1, 0, 0), (66, .aload_n 0, 1, 0, 0), (67, .getfield 73, 3, 11, 13), (70, .getfield 238, 3, 1, 1), (73, .iastore, 1, 0, 0), (74, .aload_n 0, 1, 0, 0), (75, .getfield 100, 3, 11, 17), (78, .iconst 1, 1, 0, 0), (79, .aload_n 0, 1, 0, 0)],
  [(80, .getfield 73, 3, 11, 13), (83, .getfield 241, 3, 1, 2), (86, .iastore, 1, 0, 0), (87, .aload_n 0, 1, 0, 0), (88, .getfield 100, 3, 11, 17), (91, .iconst 2, 1, 0, 0), (92, .aload_n 0, 1, 0, 0), (93, .getfield 73, 3, 11, 13)],
  [(96, .getfield 244, 3, 1, 3), (99, .iastore, 1, 0, 0), (100, .aload_n 0, 1, 0, 0), (101, .getfield 100, 3, 11, 17), (104, .iconst 3, 1, 0, 0), (105, .aload_n 0, 1, 0, 0), (106, .getfield 73, 3, 11, 13), (109, .getfield 247, 3, 1, 4)],
  [(112, .iastore, 1, 0, 0), (113, .aload_n 0, 1, 0, 0), (114, .getfield 100, 3, 11, 17), (117, .iload_n 1, 1, 0, 0), (118, .iaload, 1, 0, 0), (119, .ireturn, 1, 0, 0)]]
def zm76 : ZMI := (yX11_ends, cX11_ends, 2, (some .int), 0, 4, 11776, 1, 11, ze76)
def ze77 : List (List ZEn) := [[(0, .iload_n 1, 1, 0, 0), (1, .ifCond .lt 23, 3, 0, 0), (4, .iload_n 1, 1, 0, 0), (5, .bipush 6, 2, 0, 0), (7, .if_icmp .gt 17, 3, 0, 0), (10, .aload_n 0, 1, 0, 0), (11, .getfield 82, 3, 11, 14), (14, .aload_n 0, 1, 0, 0), (15, .getfield 19, 3, 11, 1)],
  [(18, .invokevirtual 250, 3, 0, 56), (21, .ifCond .ne 5, 3, 0, 0), (24, .iconst (-1), 1, 0, 0), (25, .ireturn, 1, 0, 0)]]
def zm77 : ZMI := (yX11_all, cX11_all, 2, (some .int), 0, 0, 0, 1, 11, ze77)
def ze78 : List (List ZEn) := [[(0, .aload_n 0, 1, 0, 0), (1, .getfield 82, 3, 11, 14), (4, .aload_n 0, 1, 0, 0), (5, .getfield 19, 3, 11, 1), (8, .invokevirtual 250, 3, 0, 56), (11, .ifCond .eq 25, 3, 0, 0)],
  [],
  [(36, .iconst (-1), 1, 0, 0), (37, .ireturn, 1, 0, 0)]]
def zm78 : ZMI := (yX11_row, cX11_row, 3, (some .int), 0, 0, 0, 2, 11, ze78)
def ze79 : List (List ZEn) := [[(0, .iload_n 1, 1, 0, 0), (1, .ifCond .lt 22, 3, 0, 0), (4, .iload_n 1, 1, 0, 0), (5, .iconst 2, 1, 0, 0), (6, .if_icmp .gt 17, 3, 0, 0), (9, .aload_n 0, 1, 0, 0), (10, .getfield 82, 3, 11, 14), (13, .aload_n 0, 1, 0, 0), (14, .getfield 19, 3, 11, 1)],
  [(17, .invokevirtual 250, 3, 0, 56), (20, .ifCond .ne 5, 3, 0, 0), (23, .iconst (-1), 1, 0, 0), (24, .ireturn, 1, 0, 0)]]
def zm79 : ZMI := (yX11_beginner, cX11_beginner, 2, (some .int), 0, 0, 0, 1, 11, ze79)
def ze80 : List (List ZEn) := [[(0, .iload_n 1, 1, 0, 0), (1, .ifCond .lt 37, 3, 0, 0), (4, .iload_n 1, 1, 0, 0), (5, .aload_n 0, 1, 0, 0), (6, .getfield 19, 3, 11, 1), (9, .getfield 149, 3, 9, 0), (12, .if_icmp .ge 26, 3, 0, 0)],
  [],
  [(38, .iconst (-1), 1, 0, 0), (39, .ireturn, 1, 0, 0)]]
def zm80 : ZMI := (yX11_worth, cX11_worth, 3, (some .int), 0, 0, 0, 2, 11, ze80)
def ze81 : List (List ZEn) := [[(0, .iload_n 1, 1, 0, 0), (1, .iconst 1, 1, 0, 0), (2, .if_icmp .lt 32, 3, 0, 0), (5, .iload_n 1, 1, 0, 0), (6, .bipush 20, 2, 0, 0), (8, .if_icmp .gt 26, 3, 0, 0), (11, .iload_n 2, 1, 0, 0), (12, .ifCond .lt 22, 3, 0, 0), (15, .iload_n 2, 1, 0, 0)],
  [(16, .iconst 3, 1, 0, 0), (17, .if_icmp .gt 17, 3, 0, 0), (20, .aload_n 0, 1, 0, 0), (21, .getfield 82, 3, 11, 14), (24, .aload_n 0, 1, 0, 0), (25, .getfield 19, 3, 11, 1), (28, .invokevirtual 250, 3, 0, 56), (31, .ifCond .ne 5, 3, 0, 0)],
  [(34, .iconst (-1), 1, 0, 0), (35, .ireturn, 1, 0, 0)]]
def zm81 : ZMI := (yX11_leads, cX11_leads, 3, (some .int), 0, 0, 0, 2, 11, ze81)
def ze82 : List (List ZEn) := [[(0, .iload_n 1, 1, 0, 0), (1, .ifCond .lt 24, 3, 0, 0), (4, .iload_n 1, 1, 0, 0), (5, .aload_n 0, 1, 0, 0), (6, .getfield 19, 3, 11, 1), (9, .getfield 149, 3, 9, 0), (12, .if_icmp .ge 13, 3, 0, 0)],
  [(25, .iconst (-1), 1, 0, 0), (26, .ireturn, 1, 0, 0)]]
def zm82 : ZMI := (yX11_laws, cX11_laws, 4, (some .int), 0, 0, 0, 3, 11, ze82)
def ze83 : List (List ZEn) := [[(0, .iload_n 1, 1, 0, 0), (1, .invokestatic 172, 3, 0, 98), (4, .ifCond .eq 17, 3, 0, 0), (7, .aload_n 0, 1, 0, 0), (8, .getfield 48, 3, 11, 6), (11, .getfield 158, 3, 2, 0), (14, .iload_n 1, 1, 0, 0), (15, .invokevirtual 293, 3, 0, 38)],
  [(18, .goto 4, 3, 0, 0), (21, .iconst (-1), 1, 0, 0), (22, .ireturn, 1, 0, 0)]]
def zm83 : ZMI := (yX11_unseen, cX11_unseen, 2, (some .int), 0, 0, 0, 1, 11, ze83)
def ze84 : List (List ZEn) := [[(0, .iload_n 1, 1, 0, 0), (1, .ifCond .lt 29, 3, 0, 0), (4, .iload_n 1, 1, 0, 0), (5, .iconst 2, 1, 0, 0), (6, .if_icmp .gt 24, 3, 0, 0), (9, .aload_n 0, 1, 0, 0), (10, .getfield 89, 3, 11, 15), (13, .aload_n 0, 1, 0, 0), (14, .getfield 48, 3, 11, 6)],
  [(17, .getfield 158, 3, 2, 0), (20, .aload_n 0, 1, 0, 0), (21, .getfield 19, 3, 11, 1), (24, .invokevirtual 296, 3, 0, 30), (27, .ifCond .ne 5, 3, 0, 0), (30, .iconst (-1), 1, 0, 0), (31, .ireturn, 1, 0, 0)],
  [(32, .aload_n 0, 1, 0, 0), (33, .getfield 89, 3, 11, 15), (36, .getfield 300, 3, 4, 0), (39, .iload_n 1, 1, 0, 0), (40, .iaload, 1, 0, 0), (41, .ireturn, 1, 0, 0)]]
def zm84 : ZMI := (yX11_odds, cX11_odds, 2, (some .int), 0, 4, 11776, 1, 11, ze84)
def ze85 : List (List ZEn) := [[(0, .aload_n 0, 1, 0, 0), (1, .getfield 19, 3, 11, 1), (4, .aload_n 0, 1, 0, 0), (5, .getfield 48, 3, 11, 6), (8, .getfield 158, 3, 2, 0), (11, .invokevirtual 303, 3, 0, 59), (14, .ireturn, 1, 0, 0)]]
def zm85 : ZMI := (yX11_offer, cX11_offer, 1, (some .int), 0, 0, 0, 0, 11, ze85)
def ze86 : List (List ZEn) := [[(0, .iload_n 1, 1, 0, 0), (1, .invokestatic 172, 3, 0, 98), (4, .ifCond .eq 19, 3, 0, 0), (7, .iload_n 2, 1, 0, 0), (8, .iconst 1, 1, 0, 0), (9, .if_icmp .lt 14, 3, 0, 0), (12, .iload_n 2, 1, 0, 0), (13, .aload_n 0, 1, 0, 0), (14, .getfield 48, 3, 11, 6)],
  [(17, .getfield 307, 3, 2, 15), (20, .if_icmp .le 5, 3, 0, 0), (23, .iconst (-1), 1, 0, 0), (24, .ireturn, 1, 0, 0), (25, .aload_n 0, 1, 0, 0), (26, .getfield 48, 3, 11, 6), (29, .getfield 158, 3, 2, 0)],
  [(32, .getfield 189, 3, 5, 13), (35, .iconst (-1), 1, 0, 0), (36, .if_icmp .ne 15, 3, 0, 0), (39, .aload_n 0, 1, 0, 0), (40, .getfield 48, 3, 11, 6), (43, .getfield 310, 3, 2, 14), (46, .bipush 8, 2, 0, 0)],
  [(48, .if_icmp .lt 5, 3, 0, 0), (53, .aload_n 0, 1, 0, 0), (54, .invokevirtual 192, 3, 0, 100), (57, .aload_n 0, 1, 0, 0), (58, .getfield 48, 3, 11, 6), (61, .iload_n 1, 1, 0, 0), (62, .iload_n 2, 1, 0, 0), (63, .aload_n 0, 1, 0, 0)],
  [(64, .getfield 19, 3, 11, 1), (67, .aload_n 0, 1, 0, 0), (68, .getfield 48, 3, 11, 6), (71, .getfield 158, 3, 2, 0), (74, .invokevirtual 303, 3, 0, 59), (77, .invokevirtual 313, 3, 0, 20)],
  [(80, .aload_n 0, 1, 0, 0), (81, .getfield 48, 3, 11, 6), (84, .getfield 307, 3, 2, 15), (87, .ireturn, 1, 0, 0)]]
def zm86 : ZMI := (yX11_bet, cX11_bet, 3, (some .int), 0, 16, 489, 2, 11, ze86)
def ze87 : List (List ZEn) := [[(0, .iload_n 1, 1, 0, 0), (1, .invokestatic 172, 3, 0, 98), (4, .ifCond .eq 24, 3, 0, 0), (7, .aload_n 0, 1, 0, 0), (8, .getfield 89, 3, 11, 15), (11, .aload_n 0, 1, 0, 0), (12, .getfield 48, 3, 11, 6), (15, .getfield 158, 3, 2, 0)],
  [(18, .aload_n 0, 1, 0, 0), (19, .getfield 19, 3, 11, 1), (22, .invokevirtual 296, 3, 0, 30), (25, .ifCond .ne 5, 3, 0, 0), (28, .iconst (-1), 1, 0, 0), (29, .ireturn, 1, 0, 0), (30, .aload_n 0, 1, 0, 0), (31, .getfield 89, 3, 11, 15)],
  [(34, .getfield 300, 3, 4, 0), (37, .iload_n 1, 1, 0, 0), (38, .iaload, 1, 0, 0), (39, .i2l, 1, 0, 0), (40, .lstore_n 2, 1, 0, 0), (41, .aload_n 0, 1, 0, 0), (42, .getfield 89, 3, 11, 15), (45, .getfield 300, 3, 4, 0)],
  [(48, .iconst 2, 1, 0, 0), (49, .iaload, 1, 0, 0), (50, .i2l, 1, 0, 0), (51, .lload_n 2, 1, 0, 0), (52, .lsub, 1, 0, 0), (53, .lstore 4, 2, 0, 0), (55, .lload_n 2, 1, 0, 0), (56, .aload_n 0, 1, 0, 0), (57, .getfield 19, 3, 11, 1), (60, .aload_n 0, 1, 0, 0), (61, .getfield 48, 3, 11, 6)],
  [(64, .getfield 158, 3, 2, 0), (67, .invokevirtual 303, 3, 0, 59), (70, .i2l, 1, 0, 0), (71, .lmul, 1, 0, 0), (72, .lload 4, 2, 0, 0), (74, .ldc2_w 317, 3, 10, 0), (77, .lmul, 1, 0, 0), (78, .lcmp, 1, 0, 0), (79, .ifCond .le 7, 3, 0, 0)],
  [(82, .iconst 1, 1, 0, 0), (83, .goto 4, 3, 0, 0), (86, .iconst 0, 1, 0, 0), (87, .ireturn, 1, 0, 0)]]
def zm87 : ZMI := (yX11_take, cX11_take, 6, (some .int), 0, 4, 11776, 1, 11, ze87)
def ze88 : List (List ZEn) := [[(0, .iload_n 1, 1, 0, 0), (1, .iconst 1, 1, 0, 0), (2, .if_icmp .lt 27, 3, 0, 0), (5, .iload_n 1, 1, 0, 0), (6, .bipush 6, 2, 0, 0), (8, .if_icmp .gt 21, 3, 0, 0), (11, .iload_n 2, 1, 0, 0), (12, .iconst (-1), 1, 0, 0), (13, .if_icmp .lt 16, 3, 0, 0)],
  [(16, .aload_n 0, 1, 0, 0), (17, .getfield 48, 3, 11, 6), (20, .getfield 158, 3, 2, 0), (23, .getfield 319, 3, 5, 14), (26, .ifCond .eq 5, 3, 0, 0), (29, .iconst (-1), 1, 0, 0), (30, .ireturn, 1, 0, 0), (31, .aload_n 0, 1, 0, 0)],
  [(32, .getfield 96, 3, 11, 16), (35, .aload_n 0, 1, 0, 0), (36, .getfield 48, 3, 11, 6), (39, .getfield 158, 3, 2, 0), (42, .aload_n 0, 1, 0, 0), (43, .getfield 19, 3, 11, 1), (46, .getfield 195, 3, 9, 6)],
  [(49, .iload_n 1, 1, 0, 0), (50, .invokevirtual 322, 3, 0, 24), (53, .istore_n 3, 1, 0, 0), (54, .iload_n 3, 1, 0, 0), (55, .iconst (-1), 1, 0, 0), (56, .if_icmp .eq 8, 3, 0, 0)],
  [(64, .iload_n 3, 1, 0, 0), (65, .ireturn, 1, 0, 0)]]
def zm88 : ZMI := (yX11_choice, cX11_choice, 4, (some .int), 0, 350, 13916, 2, 11, ze88)
def ze89 : List (List ZEn) := [[(0, .iload_n 1, 1, 0, 0), (1, .iconst 1, 1, 0, 0), (2, .if_icmp .lt 21, 3, 0, 0), (5, .iload_n 1, 1, 0, 0), (6, .iconst 4, 1, 0, 0), (7, .if_icmp .gt 16, 3, 0, 0), (10, .aload_n 0, 1, 0, 0), (11, .getfield 48, 3, 11, 6), (14, .getfield 158, 3, 2, 0)],
  [(17, .getfield 319, 3, 5, 14), (20, .ifCond .eq 5, 3, 0, 0), (23, .iconst (-1), 1, 0, 0), (24, .ireturn, 1, 0, 0), (25, .aload_n 0, 1, 0, 0), (26, .getfield 96, 3, 11, 16), (29, .aload_n 0, 1, 0, 0), (30, .getfield 48, 3, 11, 6)],
  [(33, .getfield 158, 3, 2, 0), (36, .iload_n 1, 1, 0, 0), (37, .invokevirtual 332, 3, 0, 25), (40, .ifCond .eq 7, 3, 0, 0), (47, .iconst 0, 1, 0, 0)],
  [(48, .ireturn, 1, 0, 0)]]
def zm89 : ZMI := (yX11_both, cX11_both, 2, (some .int), 0, 50, 1988, 1, 11, ze89)
def ze90 : List (List ZEn) := [[(0, .iload_n 1, 1, 0, 0), (1, .ifCond .lt 8, 3, 0, 0), (4, .iload_n 1, 1, 0, 0), (5, .iconst 3, 1, 0, 0), (6, .if_icmp .le 7, 3, 0, 0), (9, .iconst (-1), 1, 0, 0), (10, .goto 15, 3, 0, 0), (13, .aload_n 0, 1, 0, 0), (14, .getfield 29, 3, 11, 3)],
  [(17, .aload_n 0, 1, 0, 0), (18, .getfield 48, 3, 11, 6), (21, .iload_n 1, 1, 0, 0), (22, .invokevirtual 336, 3, 0, 2), (25, .ireturn, 1, 0, 0)]]
def zm90 : ZMI := (yX11_opening, cX11_opening, 2, (some .int), 0, 0, 0, 1, 11, ze90)
def ze91 : List (List ZEn) := [[(0, .iload_n 1, 1, 0, 0), (1, .ifCond .lt 14, 3, 0, 0), (4, .iload_n 1, 1, 0, 0), (5, .aload_n 0, 1, 0, 0), (6, .getfield 19, 3, 11, 1), (9, .getfield 149, 3, 9, 0), (12, .if_icmp .lt 5, 3, 0, 0), (15, .iconst (-1), 1, 0, 0)],
  [(16, .ireturn, 1, 0, 0)]]
def zm91 : ZMI := (yX11_comes, cX11_comes, 2, (some .int), 0, 0, 0, 1, 11, ze91)
def ze92 : List (List ZEn) := [[(0, .aload_n 0, 1, 0, 0), (1, .getfield 48, 3, 11, 6), (4, .iconst 0, 1, 0, 0), (5, .putfield 355, 3, 2, 10), (8, .iconst 1, 1, 0, 0), (9, .ireturn, 1, 0, 0)]]
def zm92 : ZMI := (yX11_clear, cX11_clear, 1, (some .boolean), 0, 0, 0, 0, 11, ze92)
def ze93 : List (List ZEn) := [[(0, .iload_n 1, 1, 0, 0), (1, .invokestatic 358, 3, 0, 54), (4, .ifCond .eq 13, 3, 0, 0), (7, .aload_n 0, 1, 0, 0), (8, .getfield 19, 3, 11, 1), (11, .getfield 264, 3, 9, 5), (14, .ifCond .ne 5, 3, 0, 0)],
  [(17, .iconst 0, 1, 0, 0), (18, .ireturn, 1, 0, 0)]]
def zm93 : ZMI := (yX11_drawn, cX11_drawn, 3, (some .boolean), 0, 0, 0, 1, 11, ze93)
def ze94 : List (List ZEn) := [[(0, .iload_n 1, 1, 0, 0), (1, .invokestatic 358, 3, 0, 54), (4, .ifCond .eq 33, 3, 0, 0), (7, .iload_n 2, 1, 0, 0), (8, .iconst 1, 1, 0, 0), (9, .if_icmp .lt 28, 3, 0, 0), (12, .iload_n 2, 1, 0, 0), (13, .bipush 50, 2, 0, 0), (15, .if_icmp .gt 22, 3, 0, 0)],
  [(18, .iload_n 3, 1, 0, 0), (19, .ifCond .lt 18, 3, 0, 0), (22, .iload_n 3, 1, 0, 0), (23, .iconst 3, 1, 0, 0), (24, .if_icmp .gt 13, 3, 0, 0), (27, .aload_n 0, 1, 0, 0), (28, .getfield 19, 3, 11, 1), (31, .getfield 264, 3, 9, 5)],
  [(34, .ifCond .ne 5, 3, 0, 0), (37, .iconst (-1), 1, 0, 0), (38, .ireturn, 1, 0, 0)]]
def zm94 : ZMI := (yX11_games, cX11_games, 4, (some .int), 0, 0, 0, 3, 11, ze94)
def ze95 : List (List ZEn) := [[(0, .iload_n 1, 1, 0, 0), (1, .invokestatic 358, 3, 0, 54), (4, .ifCond .eq 30, 3, 0, 0), (7, .iload_n 2, 1, 0, 0), (8, .iconst 1, 1, 0, 0), (9, .if_icmp .lt 25, 3, 0, 0), (12, .iload_n 2, 1, 0, 0), (13, .sipush 200, 3, 0, 0)],
  [(16, .if_icmp .gt 18, 3, 0, 0), (19, .iload_n 3, 1, 0, 0), (20, .iconst (-1), 1, 0, 0), (21, .if_icmp .lt 13, 3, 0, 0), (24, .aload_n 0, 1, 0, 0), (25, .getfield 19, 3, 11, 1), (28, .getfield 264, 3, 9, 5), (31, .ifCond .ne 5, 3, 0, 0)],
  [(34, .iconst (-1), 1, 0, 0), (35, .ireturn, 1, 0, 0)]]
def zm95 : ZMI := (yX11_looked, cX11_looked, 4, (some .int), 0, 0, 0, 3, 11, ze95)
def ze96 : List (List ZEn) := [[(0, .iload_n 1, 1, 0, 0), (1, .ifCond .lt 8, 3, 0, 0), (4, .iload_n 1, 1, 0, 0), (5, .iconst 4, 1, 0, 0), (6, .if_icmp .lt 5, 3, 0, 0), (9, .iconst 0, 1, 0, 0), (10, .ireturn, 1, 0, 0), (11, .iload_n 2, 1, 0, 0), (12, .ifCond .eq 9, 3, 0, 0), (15, .aload_n 0, 1, 0, 0)],
  [(16, .iload_n 1, 1, 0, 0), (17, .invokevirtual 389, 3, 0, 99), (20, .ireturn, 1, 0, 0), (21, .aload_n 0, 1, 0, 0), (22, .getfield 56, 3, 11, 10), (25, .iload_n 1, 1, 0, 0), (26, .aaload, 1, 4, 0), (27, .ifnonnull 16, 3, 0, 0), (30, .aload_n 0, 1, 0, 0), (31, .getfield 56, 3, 11, 10)],
  [(34, .iload_n 1, 1, 0, 0), (35, .new 45, 3, 2, 0), (38, .dup, 1, 0, 0), (39, .invokespecial 47, 3, 6, 11), (42, .aastore, 1, 4, 0), (43, .aload_n 0, 1, 0, 0), (44, .getfield 56, 3, 11, 10), (47, .iload_n 1, 1, 0, 0)],
  [(48, .aaload, 1, 4, 0), (49, .aload_n 0, 1, 0, 0), (50, .getfield 48, 3, 11, 6), (53, .invokevirtual 217, 3, 0, 15), (56, .aload_n 0, 1, 0, 0), (57, .getfield 59, 3, 11, 11), (60, .iload_n 1, 1, 0, 0), (61, .iconst 1, 1, 0, 0), (62, .bastore, 1, 0, 0), (63, .iconst 1, 1, 0, 0)],
  [(64, .ireturn, 1, 0, 0)]]
def zm96 : ZMI := (yX11_mark, cX11_mark, 3, (some .boolean), 0, 16, 489, 2, 11, ze96)
def ze97 : List (List ZEn) := [[(0, .aload_n 0, 1, 0, 0), (1, .getfield 48, 3, 11, 6), (4, .getfield 158, 3, 2, 0), (7, .astore_n 2, 1, 0, 0), (8, .iload_n 1, 1, 0, 0), (9, .tableswitch 228 0 18 #[91, 99, 107, 114, 121, 126, 131, 136, 152, 157, 162, 167, 175, 183, 191, 199, 204, 212, 220], 91, 0, 0)],
  [],
  [],
  [],
  [],
  [],
  [(100, .aload_n 0, 1, 0, 0), (101, .getfield 19, 3, 11, 1), (104, .getfield 149, 3, 9, 0), (107, .ireturn, 1, 0, 0), (108, .aload_n 0, 1, 0, 0), (109, .getfield 19, 3, 11, 1)],
  [(112, .getfield 264, 3, 9, 5), (115, .ireturn, 1, 0, 0), (116, .aload_n 2, 1, 0, 0), (117, .getfield 176, 3, 5, 2), (120, .iconst 0, 1, 0, 0), (121, .iaload, 1, 0, 0), (122, .ireturn, 1, 0, 0), (123, .aload_n 2, 1, 0, 0), (124, .getfield 176, 3, 5, 2), (127, .iconst 1, 1, 0, 0)],
  [(128, .iaload, 1, 0, 0), (129, .ireturn, 1, 0, 0), (130, .aload_n 2, 1, 0, 0), (131, .getfield 180, 3, 5, 6), (134, .ireturn, 1, 0, 0), (135, .aload_n 2, 1, 0, 0), (136, .getfield 392, 3, 5, 7), (139, .ireturn, 1, 0, 0), (140, .aload_n 2, 1, 0, 0), (141, .getfield 395, 3, 5, 8)],
  [(144, .ireturn, 1, 0, 0), (145, .aload_n 2, 1, 0, 0), (146, .getfield 395, 3, 5, 8), (149, .ifCond .le 10, 3, 0, 0), (159, .iconst (-1), 1, 0, 0)],
  [(160, .ireturn, 1, 0, 0), (161, .aload_n 2, 1, 0, 0), (162, .getfield 401, 3, 5, 10), (165, .ireturn, 1, 0, 0), (166, .aload_n 2, 1, 0, 0), (167, .getfield 343, 3, 5, 11), (170, .ireturn, 1, 0, 0), (171, .aload_n 2, 1, 0, 0), (172, .getfield 189, 3, 5, 13), (175, .ireturn, 1, 0, 0)],
  [(176, .aload_n 0, 1, 0, 0), (177, .getfield 48, 3, 11, 6), (180, .getfield 307, 3, 2, 15), (183, .ireturn, 1, 0, 0), (184, .aload_n 0, 1, 0, 0), (185, .getfield 48, 3, 11, 6), (188, .getfield 310, 3, 2, 14), (191, .ireturn, 1, 0, 0)],
  [(192, .aload_n 0, 1, 0, 0), (193, .getfield 29, 3, 11, 3), (196, .getfield 404, 3, 0, 0), (199, .ireturn, 1, 0, 0), (200, .aload_n 0, 1, 0, 0), (201, .getfield 48, 3, 11, 6), (204, .getfield 355, 3, 2, 10), (207, .ireturn, 1, 0, 0)],
  [(208, .aload_n 0, 1, 0, 0), (209, .getfield 211, 3, 11, 9), (212, .ireturn, 1, 0, 0), (213, .aload_n 0, 1, 0, 0), (214, .getfield 19, 3, 11, 1), (217, .getfield 232, 3, 9, 8), (220, .ireturn, 1, 0, 0), (221, .aload_n 0, 1, 0, 0), (222, .getfield 19, 3, 11, 1)],
  [(225, .getfield 195, 3, 9, 6), (228, .ireturn, 1, 0, 0), (229, .aload_n 0, 1, 0, 0), (230, .getfield 10, 3, 11, 0), (233, .getfield 112, 3, 10, 2), (236, .ireturn, 1, 0, 0), (237, .iconst (-1), 1, 0, 0), (238, .ireturn, 1, 0, 0)]]
def zm97 : ZMI := (yX11_count, cX11_count, 3, (some .int), 0, 0, 0, 1, 11, ze97)
def ze98 : List (List ZEn) := [[(0, .iload_n 0, 1, 0, 0), (1, .ifCond .eq 8, 3, 0, 0), (4, .iload_n 0, 1, 0, 0), (5, .iconst 1, 1, 0, 0), (6, .if_icmp .ne 7, 3, 0, 0), (9, .iconst 1, 1, 0, 0), (10, .goto 4, 3, 0, 0), (13, .iconst 0, 1, 0, 0), (14, .ireturn, 1, 0, 0)]]
def zm98 : ZMI := (yX11_isSide, cX11_isSide, 1, (some .boolean), 1, 0, 0, 1, 11, ze98)
def ze99 : List (List ZEn) := [[(0, .aload_n 0, 1, 0, 0), (1, .getfield 56, 3, 11, 10), (4, .iload_n 1, 1, 0, 0), (5, .aaload, 1, 4, 0), (6, .astore_n 2, 1, 0, 0), (7, .aload_n 0, 1, 0, 0), (8, .getfield 59, 3, 11, 11), (11, .iload_n 1, 1, 0, 0), (12, .baload, 1, 0, 0), (13, .ifCond .eq 7, 3, 0, 0)],
  [(20, .iconst 0, 1, 0, 0), (21, .ireturn, 1, 0, 0)]]
def zm99 : ZMI := (yX11_goBack, cX11_goBack, 3, (some .boolean), 0, 0, 0, 1, 11, ze99)
def ze100 : List (List ZEn) := [[(0, .aload_n 0, 1, 0, 0), (1, .getfield 52, 3, 11, 7), (4, .aload_n 0, 1, 0, 0), (5, .getfield 214, 3, 11, 8), (8, .aaload, 1, 4, 0), (9, .ifnonnull 19, 3, 0, 0), (12, .aload_n 0, 1, 0, 0), (13, .getfield 52, 3, 11, 7)],
  [(16, .aload_n 0, 1, 0, 0), (17, .getfield 214, 3, 11, 8), (20, .new 45, 3, 2, 0), (23, .dup, 1, 0, 0), (24, .invokespecial 47, 3, 6, 11), (27, .aastore, 1, 4, 0), (28, .aload_n 0, 1, 0, 0), (29, .getfield 52, 3, 11, 7)],
  [(32, .aload_n 0, 1, 0, 0), (33, .getfield 214, 3, 11, 8), (36, .aaload, 1, 4, 0), (37, .aload_n 0, 1, 0, 0), (38, .getfield 48, 3, 11, 6), (41, .invokevirtual 217, 3, 0, 15), (44, .aload_n 0, 1, 0, 0), (45, .aload_n 0, 1, 0, 0), (46, .getfield 214, 3, 11, 8)],
  [(49, .iconst 1, 1, 0, 0), (50, .iadd, 1, 0, 0), (51, .bipush 16, 2, 0, 0), (53, .irem, 1, 0, 0), (54, .putfield 214, 3, 11, 8), (57, .aload_n 0, 1, 0, 0), (58, .getfield 211, 3, 11, 9), (61, .bipush 16, 2, 0, 0), (63, .if_icmp .ge 13, 3, 0, 0)],
  [(66, .aload_n 0, 1, 0, 0), (67, .dup, 1, 0, 0), (68, .getfield 211, 3, 11, 9), (71, .iconst 1, 1, 0, 0), (72, .iadd, 1, 0, 0), (73, .putfield 211, 3, 11, 9), (76, .return_, 1, 0, 0)]]
def zm100 : ZMI := (yX11_remember, cX11_remember, 1, none, 0, 16, 489, 0, 11, ze100)
def ze101 : List (List ZEn) := [[(0, .aload_n 0, 1, 0, 0), (1, .iconst 0, 1, 0, 0), (2, .putfield 211, 3, 11, 9), (5, .aload_n 0, 1, 0, 0), (6, .invokevirtual 201, 3, 0, 102), (9, .return_, 1, 0, 0)]]
def zm101 : ZMI := (yX11_gameBegan, cX11_gameBegan, 1, none, 0, 0, 0, 0, 11, ze101)
def ze102 : List (List ZEn) := [[(0, .aload_n 0, 1, 0, 0), (1, .iconst 0, 1, 0, 0), (2, .putfield 225, 3, 11, 18), (5, .aload_n 0, 1, 0, 0), (6, .getfield 89, 3, 11, 15), (9, .iconst 0, 1, 0, 0), (10, .putfield 407, 3, 4, 1), (13, .aload_n 0, 1, 0, 0), (14, .getfield 96, 3, 11, 16)],
  [(17, .invokevirtual 410, 3, 0, 23), (20, .return_, 1, 0, 0)]]
def zm102 : ZMI := (yX11_gameChanged, cX11_gameChanged, 1, none, 0, 0, 0, 0, 11, ze102)
def ze103 : List (List ZEn) := [[(0, .aload_n 0, 1, 0, 0), (1, .getfield 1, 3, 12, 0), (4, .ireturn, 1, 0, 0)]]
def zm103 : ZMI := (yX12_thrown, cX12_thrown, 1, (some .int), 0, 0, 0, 0, 12, ze103)
def ze104 : List (List ZEn) := [[(0, .aload_n 0, 1, 0, 0), (1, .invokespecial 18, 3, 1, 0), (4, .aload_n 0, 1, 0, 0), (5, .sipush 1000, 3, 0, 0), (8, .newarray .int, 2, 0, 0), (10, .putfield 14, 3, 12, 1), (13, .aload_n 0, 1, 0, 0), (14, .sipush 1002, 3, 0, 0)],
  [(17, .newarray .int, 2, 0, 0), (19, .putfield 24, 3, 12, 4), (22, .aload_n 0, 1, 0, 0), (23, .sipush 1002, 3, 0, 0), (26, .newarray .int, 2, 0, 0), (28, .putfield 27, 3, 12, 5), (31, .aload_n 0, 1, 0, 0)],
  [(32, .sipush 1002, 3, 0, 0), (35, .newarray .long, 2, 0, 0), (37, .putfield 30, 3, 12, 6), (40, .aload_n 0, 1, 0, 0), (41, .bipush 24, 2, 0, 0), (43, .newarray .long, 2, 0, 0), (45, .dup, 1, 0, 0), (46, .iconst 0, 1, 0, 0), (47, .ldc2_w 34, 3, 570026, 0)],
  [(50, .lastore, 1, 0, 0), (51, .dup, 1, 0, 0), (52, .iconst 1, 1, 0, 0), (53, .ldc2_w 36, 3, 812761, 0), (56, .lastore, 1, 0, 0), (57, .dup, 1, 0, 0), (58, .iconst 2, 1, 0, 0), (59, .ldc2_w 38, 3, 811939, 0), (62, .lastore, 1, 0, 0), (63, .dup, 1, 0, 0)],
  [(64, .iconst 3, 1, 0, 0), (65, .ldc2_w 40, 3, 16490, 0), (68, .lastore, 1, 0, 0), (69, .dup, 1, 0, 0), (70, .iconst 4, 1, 0, 0), (71, .ldc2_w 42, 3, 11726208, 0), (74, .lastore, 1, 0, 0), (75, .dup, 1, 0, 0), (76, .iconst 5, 1, 0, 0), (77, .ldc2_w 44, 3, 2943, 0)],
  [(80, .lastore, 1, 0, 0), (81, .dup, 1, 0, 0), (82, .bipush 6, 2, 0, 0), (84, .ldc2_w 46, 3, 22963959, 0), (87, .lastore, 1, 0, 0), (88, .dup, 1, 0, 0), (89, .bipush 7, 2, 0, 0), (91, .ldc2_w 48, 3, 40072202, 0), (94, .lastore, 1, 0, 0), (95, .dup, 1, 0, 0)],
  [(96, .bipush 8, 2, 0, 0), (98, .ldc2_w 50, 3, 1996799, 0), (101, .lastore, 1, 0, 0), (102, .dup, 1, 0, 0), (103, .bipush 9, 2, 0, 0), (105, .ldc2_w 52, 3, 417812, 0), (108, .lastore, 1, 0, 0), (109, .dup, 1, 0, 0), (110, .bipush 10, 2, 0, 0)],
  [(112, .ldc2_w 54, 3, 17006, 0), (115, .lastore, 1, 0, 0), (116, .dup, 1, 0, 0), (117, .bipush 11, 2, 0, 0), (119, .ldc2_w 56, 3, 557263975, 0), (122, .lastore, 1, 0, 0), (123, .dup, 1, 0, 0), (124, .bipush 12, 2, 0, 0), (126, .ldc2_w 58, 3, 614923, 0)],
  [(129, .lastore, 1, 0, 0), (130, .dup, 1, 0, 0), (131, .bipush 13, 2, 0, 0), (133, .ldc2_w 60, 3, 34200674, 0), (136, .lastore, 1, 0, 0), (137, .dup, 1, 0, 0), (138, .bipush 14, 2, 0, 0), (140, .ldc2_w 62, 3, 999049827, 0), (143, .lastore, 1, 0, 0)],
  [(144, .dup, 1, 0, 0), (145, .bipush 15, 2, 0, 0), (147, .ldc2_w 64, 3, 39605492240, 0), (150, .lastore, 1, 0, 0), (151, .dup, 1, 0, 0), (152, .bipush 16, 2, 0, 0), (154, .ldc2_w 66, 3, 32056, 0), (157, .lastore, 1, 0, 0), (158, .dup, 1, 0, 0), (159, .bipush 17, 2, 0, 0)],
  [(161, .ldc2_w 68, 3, 19741, 0), (164, .lastore, 1, 0, 0), (165, .dup, 1, 0, 0), (166, .bipush 18, 2, 0, 0), (168, .ldc2_w 70, 3, 1891, 0), (171, .lastore, 1, 0, 0), (172, .dup, 1, 0, 0), (173, .bipush 19, 2, 0, 0), (175, .ldc2_w 72, 3, 573, 0)],
  [(178, .lastore, 1, 0, 0), (179, .dup, 1, 0, 0), (180, .bipush 20, 2, 0, 0), (182, .ldc2_w 74, 3, 2286271, 0), (185, .lastore, 1, 0, 0), (186, .dup, 1, 0, 0), (187, .bipush 21, 2, 0, 0), (189, .ldc2_w 76, 3, 679695, 0)],
  [(192, .lastore, 1, 0, 0), (193, .dup, 1, 0, 0), (194, .bipush 22, 2, 0, 0), (196, .ldc2_w 78, 3, 15248533, 0), (199, .lastore, 1, 0, 0), (200, .dup, 1, 0, 0), (201, .bipush 23, 2, 0, 0), (203, .ldc2_w 80, 3, 38572112, 0), (206, .lastore, 1, 0, 0), (207, .putfield 82, 3, 12, 9)],
  [(210, .aload_n 0, 1, 0, 0), (211, .sipush 420, 3, 0, 0), (214, .newarray .int, 2, 0, 0), (216, .putfield 85, 3, 12, 10), (219, .aload_n 0, 1, 0, 0), (220, .sipush 2200, 3, 0, 0), (223, .newarray .int, 2, 0, 0)],
  [(225, .putfield 88, 3, 12, 11), (228, .aload_n 0, 1, 0, 0), (229, .sipush 2200, 3, 0, 0), (232, .newarray .int, 2, 0, 0), (234, .putfield 91, 3, 12, 12), (237, .aload_n 0, 1, 0, 0), (238, .bipush 8, 2, 0, 0)],
  [(240, .newarray .long, 2, 0, 0), (242, .putfield 94, 3, 12, 14), (245, .aload_n 0, 1, 0, 0), (246, .bipush 8, 2, 0, 0), (248, .newarray .long, 2, 0, 0), (250, .putfield 97, 3, 12, 15), (253, .aload_n 0, 1, 0, 0), (254, .bipush 48, 2, 0, 0)],
  [(256, .newarray .int, 2, 0, 0), (258, .putfield 100, 3, 12, 17), (261, .aload_n 0, 1, 0, 0), (262, .iconst 2, 1, 0, 0), (263, .newarray .int, 2, 0, 0), (265, .putfield 103, 3, 12, 18), (268, .aload_n 0, 1, 0, 0), (269, .sipush 190, 3, 0, 0)],
  [(272, .newarray .int, 2, 0, 0), (274, .putfield 106, 3, 12, 19), (277, .aload_n 0, 1, 0, 0), (278, .iconst 4, 1, 0, 0), (279, .newarray .int, 2, 0, 0), (281, .putfield 109, 3, 12, 20), (284, .aload_n 0, 1, 0, 0), (285, .sipush 1100, 3, 0, 0)],
  [(288, .newarray .int, 2, 0, 0), (290, .putfield 112, 3, 12, 21), (293, .aload_n 0, 1, 0, 0), (294, .sipush 16560, 3, 0, 0), (297, .newarray .int, 2, 0, 0), (299, .putfield 115, 3, 12, 22), (302, .aload_n 0, 1, 0, 0), (303, .iconst 4, 1, 0, 0)],
  [(304, .newarray .boolean, 2, 0, 0), (306, .putfield 118, 3, 12, 24), (309, .aload_n 0, 1, 0, 0), (310, .iconst (-1), 1, 0, 0), (311, .putfield 122, 3, 12, 25), (314, .aload_n 0, 1, 0, 0), (315, .bipush 48, 2, 0, 0), (317, .newarray .int, 2, 0, 0), (319, .putfield 125, 3, 12, 27)],
  [(322, .aload_n 0, 1, 0, 0), (323, .sipush 3010, 3, 0, 0), (326, .newarray .long, 2, 0, 0), (328, .putfield 128, 3, 12, 28), (331, .aload_n 0, 1, 0, 0), (332, .sipush 3010, 3, 0, 0), (335, .newarray .long, 2, 0, 0)],
  [(337, .putfield 131, 3, 12, 29), (340, .aload_n 0, 1, 0, 0), (341, .sipush 3010, 3, 0, 0), (344, .newarray .long, 2, 0, 0), (346, .putfield 134, 3, 12, 30), (349, .aload_n 0, 1, 0, 0), (350, .sipush 3010, 3, 0, 0)],
  [(353, .newarray .int, 2, 0, 0), (355, .putfield 137, 3, 12, 31), (358, .aload_n 0, 1, 0, 0), (359, .sipush 3010, 3, 0, 0), (362, .newarray .int, 2, 0, 0), (364, .putfield 140, 3, 12, 32), (367, .aload_n 0, 1, 0, 0)],
  [(368, .sipush 3010, 3, 0, 0), (371, .newarray .int, 2, 0, 0), (373, .putfield 143, 3, 12, 33), (376, .aload_n 0, 1, 0, 0), (377, .sipush 1024, 3, 0, 0), (380, .newarray .int, 2, 0, 0), (382, .putfield 146, 3, 12, 34)],
  [(385, .aload_n 0, 1, 0, 0), (386, .bipush 24, 2, 0, 0), (388, .newarray .int, 2, 0, 0), (390, .putfield 149, 3, 12, 40), (393, .aload_n 0, 1, 0, 0), (394, .sipush 20000, 3, 0, 0), (397, .newarray .int, 2, 0, 0), (399, .putfield 152, 3, 12, 42)],
  [(402, .aload_n 0, 1, 0, 0), (403, .sipush 20000, 3, 0, 0), (406, .newarray .int, 2, 0, 0), (408, .putfield 155, 3, 12, 43), (411, .aload_n 0, 1, 0, 0), (412, .bipush 48, 2, 0, 0), (414, .newarray .int, 2, 0, 0)],
  [(416, .putfield 158, 3, 12, 46), (419, .aload_n 0, 1, 0, 0), (420, .bipush 48, 2, 0, 0), (422, .newarray .int, 2, 0, 0), (424, .putfield 161, 3, 12, 47), (427, .aload_n 0, 1, 0, 0), (428, .bipush 8, 2, 0, 0), (430, .newarray .int, 2, 0, 0)],
  [(432, .putfield 164, 3, 12, 52), (435, .aload_n 0, 1, 0, 0), (436, .bipush 8, 2, 0, 0), (438, .newarray .int, 2, 0, 0), (440, .putfield 167, 3, 12, 53), (443, .aload_n 0, 1, 0, 0), (444, .iconst 0, 1, 0, 0), (445, .invokevirtual 170, 3, 0, 107)],
  [(448, .aload_n 0, 1, 0, 0), (449, .iconst 0, 1, 0, 0), (450, .invokevirtual 174, 3, 0, 115), (453, .return_, 1, 0, 0)]]
def zm104 : ZMI := (yX12_init, cX12_init, 1, none, 2, 32, 86042, 0, 12, ze104)
def ze105 : List (List ZEn) := [[(0, .aload_n 0, 1, 0, 0), (1, .aload_n 0, 1, 0, 0), (2, .getfield 11, 3, 12, 2), (5, .putfield 181, 3, 12, 3), (8, .aload_n 0, 1, 0, 0), (9, .iconst 0, 1, 0, 0), (10, .putfield 11, 3, 12, 2), (13, .iconst 0, 1, 0, 0), (14, .istore_n 1, 1, 0, 0), (15, .iconst 0, 1, 0, 0)],
  [(16, .istore_n 2, 1, 0, 0), (17, .iload_n 2, 1, 0, 0), (18, .aload_n 0, 1, 0, 0), (19, .getfield 181, 3, 12, 3), (22, .if_icmp .ge 257, 3, 0, 0)],
  [],
  [],
  [],
  [],
  [],
  [],
  [],
  [],
  [],
  [],
  [],
  [],
  [],
  [],
  [],
  [(279, .aload_n 0, 1, 0, 0), (280, .getfield 24, 3, 12, 4), (283, .iload_n 1, 1, 0, 0), (284, .iconst 0, 1, 0, 0), (285, .iastore, 1, 0, 0), (286, .aload_n 0, 1, 0, 0), (287, .getfield 27, 3, 12, 5)],
  [(290, .iload_n 1, 1, 0, 0), (291, .aload_n 0, 1, 0, 0), (292, .getfield 181, 3, 12, 3), (295, .iastore, 1, 0, 0), (296, .aload_n 0, 1, 0, 0), (297, .iconst 0, 1, 0, 0), (298, .putfield 200, 3, 12, 7), (301, .aload_n 0, 1, 0, 0), (302, .iconst 0, 1, 0, 0), (303, .putfield 203, 3, 12, 8)],
  [(306, .return_, 1, 0, 0)]]
def zm105 : ZMI := (yX12_cutAll, cX12_cutAll, 7, none, 0, 0, 0, 0, 12, ze105)
def ze106 : List (List ZEn) := [[(0, .iload_n 0, 1, 0, 0), (1, .iload_n 1, 1, 0, 0), (2, .if_icmp .lt 12, 3, 0, 0), (5, .iload_n 0, 1, 0, 0), (6, .iload_n 2, 1, 0, 0), (7, .if_icmp .gt 7, 3, 0, 0), (10, .iconst 1, 1, 0, 0), (11, .goto 4, 3, 0, 0), (14, .iconst 0, 1, 0, 0), (15, .ireturn, 1, 0, 0)]]
def zm106 : ZMI := (yX12_within, cX12_within, 3, (some .boolean), 1, 0, 0, 3, 12, ze106)
def ze107 : List (List ZEn) := [[(0, .iconst 0, 1, 0, 0), (1, .istore_n 2, 1, 0, 0), (2, .iload_n 2, 1, 0, 0), (3, .sipush 210, 3, 0, 0), (6, .if_icmp .ge 18, 3, 0, 0), (9, .aload_n 0, 1, 0, 0), (10, .getfield 85, 3, 12, 10), (13, .iload_n 1, 1, 0, 0), (14, .iload_n 2, 1, 0, 0), (15, .iadd, 1, 0, 0)],
  [(16, .iconst 0, 1, 0, 0), (17, .iastore, 1, 0, 0), (18, .iinc 2 1, 3, 0, 0), (21, .goto (-19), 3, 0, 0), (24, .aload_n 0, 1, 0, 0), (25, .getfield 85, 3, 12, 10), (28, .iload_n 1, 1, 0, 0), (29, .iconst 3, 1, 0, 0), (30, .iadd, 1, 0, 0), (31, .sipush 1000, 3, 0, 0)],
  [(34, .iastore, 1, 0, 0), (35, .aload_n 0, 1, 0, 0), (36, .getfield 85, 3, 12, 10), (39, .iload_n 1, 1, 0, 0), (40, .iconst 4, 1, 0, 0), (41, .iadd, 1, 0, 0), (42, .iconst (-1), 1, 0, 0), (43, .iastore, 1, 0, 0), (44, .return_, 1, 0, 0)]]
def zm107 : ZMI := (yX12_standsAsAlways, cX12_standsAsAlways, 3, none, 0, 0, 0, 1, 12, ze107)
def ze108 : List (List ZEn) := [[(0, .aload_n 0, 1, 0, 0), (1, .iconst 0, 1, 0, 0), (2, .putfield 1, 3, 12, 0), (5, .aload_n 0, 1, 0, 0), (6, .invokevirtual 222, 3, 0, 105), (9, .aload_n 0, 1, 0, 0), (10, .iconst 0, 1, 0, 0), (11, .putfield 225, 3, 12, 13), (14, .aload_n 0, 1, 0, 0), (15, .iconst 0, 1, 0, 0)],
  [(16, .putfield 228, 3, 12, 16), (19, .aload_n 0, 1, 0, 0), (20, .sipush 210, 3, 0, 0), (23, .invokevirtual 170, 3, 0, 107), (26, .aload_n 0, 1, 0, 0), (27, .getfield 203, 3, 12, 8), (30, .ifCond .ne 28, 3, 0, 0)],
  [(33, .aload_n 0, 1, 0, 0), (34, .getfield 24, 3, 12, 4), (37, .aload_n 0, 1, 0, 0), (38, .getfield 200, 3, 12, 7), (41, .iaload, 1, 0, 0), (42, .ifCond .eq 16, 3, 0, 0)],
  [(58, .aload_n 0, 1, 0, 0), (59, .getfield 203, 3, 12, 8), (62, .ifCond .le 8, 3, 0, 0)],
  [(70, .iconst 0, 1, 0, 0), (71, .istore_n 1, 1, 0, 0), (72, .iload_n 1, 1, 0, 0), (73, .sipush 210, 3, 0, 0), (76, .if_icmp .ge 25, 3, 0, 0), (79, .aload_n 0, 1, 0, 0)],
  [(80, .getfield 85, 3, 12, 10), (83, .iload_n 1, 1, 0, 0), (84, .aload_n 0, 1, 0, 0), (85, .getfield 85, 3, 12, 10), (88, .sipush 210, 3, 0, 0), (91, .iload_n 1, 1, 0, 0), (92, .iadd, 1, 0, 0), (93, .iaload, 1, 0, 0), (94, .iastore, 1, 0, 0), (95, .iinc 1 1, 3, 0, 0)],
  [(98, .goto (-26), 3, 0, 0), (101, .iconst 0, 1, 0, 0), (102, .istore_n 1, 1, 0, 0), (103, .iload_n 1, 1, 0, 0), (104, .bipush 8, 2, 0, 0), (106, .if_icmp .ge 21, 3, 0, 0), (109, .aload_n 0, 1, 0, 0), (110, .getfield 94, 3, 12, 14)],
  [(113, .iload_n 1, 1, 0, 0), (114, .aload_n 0, 1, 0, 0), (115, .getfield 97, 3, 12, 15), (118, .iload_n 1, 1, 0, 0), (119, .laload, 1, 0, 0), (120, .lastore, 1, 0, 0), (121, .iinc 1 1, 3, 0, 0), (124, .goto (-21), 3, 0, 0), (127, .iconst 0, 1, 0, 0)],
  [(128, .istore_n 1, 1, 0, 0), (129, .iload_n 1, 1, 0, 0), (130, .aload_n 0, 1, 0, 0), (131, .getfield 225, 3, 12, 13), (134, .if_icmp .ge 41, 3, 0, 0)],
  [],
  [(175, .iconst 0, 1, 0, 0)],
  [(176, .istore_n 1, 1, 0, 0), (177, .iload_n 1, 1, 0, 0), (178, .iconst 4, 1, 0, 0), (179, .if_icmp .ge 16, 3, 0, 0), (182, .aload_n 0, 1, 0, 0), (183, .getfield 118, 3, 12, 24), (186, .iload_n 1, 1, 0, 0), (187, .iconst 0, 1, 0, 0), (188, .bastore, 1, 0, 0), (189, .iinc 1 1, 3, 0, 0)],
  [(192, .goto (-15), 3, 0, 0), (195, .aload_n 0, 1, 0, 0), (196, .getfield 115, 3, 12, 22), (199, .bipush 15, 2, 0, 0), (201, .iconst 0, 1, 0, 0), (202, .iastore, 1, 0, 0), (203, .aload_n 0, 1, 0, 0), (204, .getfield 115, 3, 12, 22), (207, .bipush 16, 2, 0, 0)],
  [(209, .iconst 0, 1, 0, 0), (210, .iastore, 1, 0, 0), (211, .aload_n 0, 1, 0, 0), (212, .getfield 115, 3, 12, 22), (215, .bipush 17, 2, 0, 0), (217, .iconst 0, 1, 0, 0), (218, .iastore, 1, 0, 0), (219, .aload_n 0, 1, 0, 0), (220, .iconst 0, 1, 0, 0), (221, .invokevirtual 174, 3, 0, 115)],
  [(224, .aload_n 0, 1, 0, 0), (225, .iconst 0, 1, 0, 0), (226, .putfield 237, 3, 12, 23), (229, .aload_n 0, 1, 0, 0), (230, .iconst 0, 1, 0, 0), (231, .putfield 240, 3, 12, 45), (234, .iconst 0, 1, 0, 0), (235, .ireturn, 1, 0, 0)]]
def zm108 : ZMI := (yX12_table, cX12_table, 2, (some .int), 0, 0, 0, 0, 12, ze108)
def ze109 : List (List ZEn) := [[(0, .iconst 0, 1, 0, 0), (1, .istore_n 2, 1, 0, 0), (2, .iconst 0, 1, 0, 0), (3, .istore_n 3, 1, 0, 0), (4, .iload_n 3, 1, 0, 0), (5, .bipush 8, 2, 0, 0), (7, .if_icmp .ge 26, 3, 0, 0), (10, .iload_n 2, 1, 0, 0), (11, .aload_n 0, 1, 0, 0), (12, .getfield 85, 3, 12, 10), (15, .iload_n 1, 1, 0, 0)],
  [(16, .iconst 5, 1, 0, 0), (17, .iadd, 1, 0, 0), (18, .iconst 2, 1, 0, 0), (19, .iload_n 3, 1, 0, 0), (20, .imul, 1, 0, 0), (21, .iadd, 1, 0, 0), (22, .iconst 1, 1, 0, 0), (23, .iadd, 1, 0, 0), (24, .iaload, 1, 0, 0), (25, .iadd, 1, 0, 0), (26, .istore_n 2, 1, 0, 0), (27, .iinc 3 1, 3, 0, 0), (30, .goto (-26), 3, 0, 0)],
  [(33, .iload_n 2, 1, 0, 0), (34, .ireturn, 1, 0, 0)]]
def zm109 : ZMI := (yX12_cards, cX12_cards, 4, (some .int), 0, 0, 0, 1, 12, ze109)
def ze110 : List (List ZEn) := [[(0, .aload_n 0, 1, 0, 0), (1, .iconst 0, 1, 0, 0), (2, .putfield 1, 3, 12, 0), (5, .aload_n 0, 1, 0, 0), (6, .invokevirtual 222, 3, 0, 105), (9, .aload_n 0, 1, 0, 0), (10, .iconst 0, 1, 0, 0), (11, .putfield 228, 3, 12, 16), (14, .aload_n 0, 1, 0, 0), (15, .getfield 103, 3, 12, 18)],
  [(18, .iconst 0, 1, 0, 0), (19, .iconst 0, 1, 0, 0), (20, .iastore, 1, 0, 0), (21, .aload_n 0, 1, 0, 0), (22, .getfield 103, 3, 12, 18), (25, .iconst 1, 1, 0, 0), (26, .iconst 0, 1, 0, 0), (27, .iastore, 1, 0, 0), (28, .aload_n 0, 1, 0, 0), (29, .getfield 203, 3, 12, 8)],
  [(32, .ifCond .ne 97, 3, 0, 0), (35, .aload_n 0, 1, 0, 0), (36, .getfield 24, 3, 12, 4), (39, .aload_n 0, 1, 0, 0), (40, .getfield 200, 3, 12, 7), (43, .iaload, 1, 0, 0), (44, .ifCond .eq 85, 3, 0, 0)],
  [],
  [],
  [],
  [],
  [],
  [(129, .aload_n 0, 1, 0, 0), (130, .getfield 203, 3, 12, 8), (133, .ifCond .le 8, 3, 0, 0), (141, .aload_n 0, 1, 0, 0), (142, .invokevirtual 283, 3, 0, 111)],
  [(145, .iconst 0, 1, 0, 0), (146, .ireturn, 1, 0, 0)]]
def zm110 : ZMI := (yX12_deal, cX12_deal, 2, (some .int), 0, 0, 0, 0, 12, ze110)
def ze111 : List (List ZEn) := [[(0, .aload_n 0, 1, 0, 0), (1, .getfield 115, 3, 12, 22), (4, .bipush 15, 2, 0, 0), (6, .iconst 1, 1, 0, 0), (7, .iastore, 1, 0, 0), (8, .iconst 0, 1, 0, 0), (9, .istore_n 1, 1, 0, 0), (10, .iload_n 1, 1, 0, 0), (11, .iconst 2, 1, 0, 0), (12, .if_icmp .ge 68, 3, 0, 0), (15, .aload_n 0, 1, 0, 0)],
  [(16, .getfield 115, 3, 12, 22), (19, .bipush 16, 2, 0, 0), (21, .iload_n 1, 1, 0, 0), (22, .iadd, 1, 0, 0), (23, .aload_n 0, 1, 0, 0), (24, .getfield 103, 3, 12, 18), (27, .iload_n 1, 1, 0, 0), (28, .iaload, 1, 0, 0), (29, .iastore, 1, 0, 0), (30, .iconst 0, 1, 0, 0), (31, .istore_n 2, 1, 0, 0)],
  [(32, .iload_n 2, 1, 0, 0), (33, .aload_n 0, 1, 0, 0), (34, .getfield 103, 3, 12, 18), (37, .iload_n 1, 1, 0, 0), (38, .iaload, 1, 0, 0), (39, .if_icmp .ge 35, 3, 0, 0)],
  [],
  [(74, .iinc 1 1, 3, 0, 0), (77, .goto (-67), 3, 0, 0)],
  [(80, .aload_n 0, 1, 0, 0), (81, .iconst 0, 1, 0, 0), (82, .invokevirtual 174, 3, 0, 115), (85, .aload_n 0, 1, 0, 0), (86, .iconst 0, 1, 0, 0), (87, .putfield 237, 3, 12, 23), (90, .return_, 1, 0, 0)]]
def zm111 : ZMI := (yX12_dealsRead, cX12_dealsRead, 3, none, 0, 0, 0, 0, 12, ze111)
def ze112 : List (List ZEn) := [[(0, .aload_n 0, 1, 0, 0), (1, .iconst 0, 1, 0, 0), (2, .putfield 1, 3, 12, 0), (5, .aload_n 0, 1, 0, 0), (6, .invokevirtual 222, 3, 0, 105), (9, .iconst 0, 1, 0, 0), (10, .istore_n 1, 1, 0, 0), (11, .aload_n 0, 1, 0, 0), (12, .getfield 203, 3, 12, 8), (15, .ifCond .ne 80, 3, 0, 0)],
  [(18, .aload_n 0, 1, 0, 0), (19, .getfield 24, 3, 12, 4), (22, .aload_n 0, 1, 0, 0), (23, .getfield 200, 3, 12, 7), (26, .iaload, 1, 0, 0), (27, .ifCond .eq 68, 3, 0, 0)],
  [],
  [],
  [],
  [(95, .aload_n 0, 1, 0, 0)],
  [(96, .getfield 203, 3, 12, 8), (99, .ifCond .le 8, 3, 0, 0), (107, .aload_n 0, 1, 0, 0), (108, .getfield 85, 3, 12, 10), (111, .bipush 21, 2, 0, 0)],
  [(113, .iload_n 1, 1, 0, 0), (114, .iastore, 1, 0, 0), (115, .iconst 0, 1, 0, 0), (116, .istore_n 2, 1, 0, 0), (117, .iload_n 2, 1, 0, 0), (118, .bipush 15, 2, 0, 0), (120, .iload_n 1, 1, 0, 0), (121, .imul, 1, 0, 0), (122, .if_icmp .ge 24, 3, 0, 0)],
  [],
  [(146, .iconst 0, 1, 0, 0), (147, .ireturn, 1, 0, 0)]]
def zm112 : ZMI := (yX12_book, cX12_book, 3, (some .int), 0, 0, 0, 0, 12, ze112)
def ze113 : List (List ZEn) := [[(0, .iconst 0, 1, 0, 0), (1, .istore 4, 2, 0, 0), (3, .iload 4, 2, 0, 0), (5, .iload_n 3, 1, 0, 0), (6, .if_icmp .ge 27, 3, 0, 0), (9, .aload_n 0, 1, 0, 0), (10, .getfield 115, 3, 12, 22), (13, .iload_n 2, 1, 0, 0), (14, .iload 4, 2, 0, 0)],
  [(16, .iadd, 1, 0, 0), (17, .aload_n 0, 1, 0, 0), (18, .getfield 115, 3, 12, 22), (21, .iload_n 1, 1, 0, 0), (22, .iload 4, 2, 0, 0), (24, .iadd, 1, 0, 0), (25, .iaload, 1, 0, 0), (26, .iastore, 1, 0, 0), (27, .iinc 4 1, 3, 0, 0), (30, .goto (-27), 3, 0, 0)],
  [(33, .return_, 1, 0, 0)]]
def zm113 : ZMI := (yX12_copies, cX12_copies, 5, none, 0, 0, 0, 3, 12, ze113)
def ze114 : List (List ZEn) := [[(0, .aload_n 0, 1, 0, 0), (1, .getfield 237, 3, 12, 23), (4, .bipush 16, 2, 0, 0), (6, .if_icmp .ne 50, 3, 0, 0)],
  [],
  [],
  [(56, .aload_n 0, 1, 0, 0), (57, .iconst 0, 1, 0, 0), (58, .sipush 460, 3, 0, 0), (61, .iconst 5, 1, 0, 0), (62, .aload_n 0, 1, 0, 0), (63, .getfield 237, 3, 12, 23)],
  [(66, .iadd, 1, 0, 0), (67, .imul, 1, 0, 0), (68, .sipush 460, 3, 0, 0), (71, .invokevirtual 308, 3, 0, 113), (74, .aload_n 0, 1, 0, 0), (75, .dup, 1, 0, 0), (76, .getfield 237, 3, 12, 23), (79, .iconst 1, 1, 0, 0)],
  [(80, .iadd, 1, 0, 0), (81, .putfield 237, 3, 12, 23), (84, .return_, 1, 0, 0)]]
def zm114 : ZMI := (yX12_keeps, cX12_keeps, 2, none, 0, 0, 0, 0, 12, ze114)
def ze115 : List (List ZEn) := [[(0, .iconst 0, 1, 0, 0), (1, .istore_n 2, 1, 0, 0), (2, .iload_n 2, 1, 0, 0), (3, .bipush 15, 2, 0, 0), (5, .if_icmp .ge 18, 3, 0, 0), (8, .aload_n 0, 1, 0, 0), (9, .getfield 115, 3, 12, 22), (12, .iload_n 1, 1, 0, 0), (13, .iload_n 2, 1, 0, 0), (14, .iadd, 1, 0, 0), (15, .iconst 0, 1, 0, 0)],
  [(16, .iastore, 1, 0, 0), (17, .iinc 2 1, 3, 0, 0), (20, .goto (-18), 3, 0, 0), (23, .aload_n 0, 1, 0, 0), (24, .getfield 115, 3, 12, 22), (27, .iload_n 1, 1, 0, 0), (28, .bipush 18, 2, 0, 0), (30, .iadd, 1, 0, 0), (31, .iconst 0, 1, 0, 0)],
  [(32, .iastore, 1, 0, 0), (33, .aload_n 0, 1, 0, 0), (34, .getfield 115, 3, 12, 22), (37, .iload_n 1, 1, 0, 0), (38, .iconst 3, 1, 0, 0), (39, .iadd, 1, 0, 0), (40, .aload_n 0, 1, 0, 0), (41, .getfield 85, 3, 12, 10), (44, .iconst 2, 1, 0, 0), (45, .iaload, 1, 0, 0), (46, .iastore, 1, 0, 0), (47, .aload_n 0, 1, 0, 0)],
  [(48, .getfield 115, 3, 12, 22), (51, .iload_n 1, 1, 0, 0), (52, .bipush 8, 2, 0, 0), (54, .iadd, 1, 0, 0), (55, .iconst (-1), 1, 0, 0), (56, .iastore, 1, 0, 0), (57, .aload_n 0, 1, 0, 0), (58, .getfield 115, 3, 12, 22), (61, .iload_n 1, 1, 0, 0), (62, .iconst 5, 1, 0, 0), (63, .iadd, 1, 0, 0)],
  [(64, .iconst (-1), 1, 0, 0), (65, .iastore, 1, 0, 0), (66, .aload_n 0, 1, 0, 0), (67, .getfield 115, 3, 12, 22), (70, .iload_n 1, 1, 0, 0), (71, .bipush 9, 2, 0, 0), (73, .iadd, 1, 0, 0), (74, .bipush 100, 2, 0, 0), (76, .iastore, 1, 0, 0), (77, .iconst 0, 1, 0, 0), (78, .istore_n 2, 1, 0, 0), (79, .iload_n 2, 1, 0, 0)],
  [(80, .iconst 2, 1, 0, 0), (81, .if_icmp .ge 89, 3, 0, 0), (84, .aload_n 0, 1, 0, 0), (85, .getfield 115, 3, 12, 22), (88, .iload_n 1, 1, 0, 0), (89, .iconst 0, 1, 0, 0), (90, .iadd, 1, 0, 0), (91, .iload_n 2, 1, 0, 0), (92, .iadd, 1, 0, 0), (93, .aload_n 0, 1, 0, 0), (94, .getfield 115, 3, 12, 22)],
  [(97, .iload_n 1, 1, 0, 0), (98, .bipush 16, 2, 0, 0), (100, .iadd, 1, 0, 0), (101, .iload_n 2, 1, 0, 0), (102, .iadd, 1, 0, 0), (103, .iaload, 1, 0, 0), (104, .iastore, 1, 0, 0), (105, .iconst 0, 1, 0, 0), (106, .istore_n 3, 1, 0, 0), (107, .iload_n 3, 1, 0, 0), (108, .aload_n 0, 1, 0, 0), (109, .getfield 115, 3, 12, 22)],
  [(112, .iload_n 1, 1, 0, 0), (113, .bipush 16, 2, 0, 0), (115, .iadd, 1, 0, 0), (116, .iload_n 2, 1, 0, 0), (117, .iadd, 1, 0, 0), (118, .iaload, 1, 0, 0), (119, .if_icmp .ge 45, 3, 0, 0)],
  [],
  [],
  [(164, .iinc 2 1, 3, 0, 0), (167, .goto (-88), 3, 0, 0), (170, .return_, 1, 0, 0)]]
def zm115 : ZMI := (yX12_begins, cX12_begins, 4, none, 0, 0, 0, 1, 12, ze115)
def ze116 : List (List ZEn) := [[(0, .aload_n 0, 1, 0, 0), (1, .getfield 85, 3, 12, 10), (4, .iconst 0, 1, 0, 0), (5, .iaload, 1, 0, 0), (6, .ireturn, 1, 0, 0)]]
def zm116 : ZMI := (yX12_kinds, cX12_kinds, 1, (some .int), 0, 0, 0, 0, 12, ze116)
def ze117 : List (List ZEn) := [[(0, .iload_n 1, 1, 0, 0), (1, .ifCond .lt 15, 3, 0, 0), (4, .iload_n 1, 1, 0, 0), (5, .aload_n 0, 1, 0, 0), (6, .invokevirtual 312, 3, 0, 116), (9, .if_icmp .ge 7, 3, 0, 0)],
  [(16, .iconst 0, 1, 0, 0), (17, .ireturn, 1, 0, 0)]]
def zm117 : ZMI := (yX12_isKind, cX12_isKind, 2, (some .boolean), 0, 0, 0, 1, 12, ze117)
def ze118 : List (List ZEn) := [[(0, .aload_n 0, 1, 0, 0), (1, .getfield 115, 3, 12, 22), (4, .iload_n 1, 1, 0, 0), (5, .iconst 3, 1, 0, 0), (6, .iadd, 1, 0, 0), (7, .iaload, 1, 0, 0), (8, .istore_n 2, 1, 0, 0), (9, .aload_n 0, 1, 0, 0), (10, .getfield 115, 3, 12, 22), (13, .iload_n 1, 1, 0, 0), (14, .bipush 8, 2, 0, 0)],
  [(16, .iadd, 1, 0, 0), (17, .iaload, 1, 0, 0), (18, .ifCond .ge 121, 3, 0, 0), (21, .aload_n 0, 1, 0, 0), (22, .getfield 115, 3, 12, 22), (25, .iload_n 1, 1, 0, 0), (26, .iconst 0, 1, 0, 0), (27, .iadd, 1, 0, 0), (28, .iload_n 2, 1, 0, 0), (29, .iadd, 1, 0, 0), (30, .iaload, 1, 0, 0), (31, .ifCond .ne 108, 3, 0, 0)],
  [(34, .aload_n 0, 1, 0, 0), (35, .getfield 115, 3, 12, 22), (38, .iload_n 1, 1, 0, 0), (39, .bipush 8, 2, 0, 0), (41, .iadd, 1, 0, 0), (42, .iconst 1, 1, 0, 0), (43, .iload_n 2, 1, 0, 0), (44, .isub, 1, 0, 0), (45, .iastore, 1, 0, 0), (46, .iconst 0, 1, 0, 0), (47, .istore_n 3, 1, 0, 0)],
  [(48, .iload_n 3, 1, 0, 0), (49, .aload_n 0, 1, 0, 0), (50, .getfield 115, 3, 12, 22), (53, .iload_n 1, 1, 0, 0), (54, .bipush 10, 2, 0, 0), (56, .iadd, 1, 0, 0), (57, .iaload, 1, 0, 0), (58, .if_icmp .ge 81, 3, 0, 0)],
  [],
  [],
  [],
  [],
  [(139, .aload_n 0, 1, 0, 0), (140, .getfield 115, 3, 12, 22), (143, .iload_n 1, 1, 0, 0)],
  [(144, .bipush 8, 2, 0, 0), (146, .iadd, 1, 0, 0), (147, .iaload, 1, 0, 0), (148, .ifCond .lt 7, 3, 0, 0), (151, .iconst 1, 1, 0, 0), (152, .goto 4, 3, 0, 0), (156, .ireturn, 1, 0, 0)]]
def zm118 : ZMI := (yX12_isWon, cX12_isWon, 5, (some .boolean), 0, 0, 0, 1, 12, ze118)
def ze119 : List (List ZEn) := [[(0, .iload_n 0, 1, 0, 0), (1, .ifCond .eq 8, 3, 0, 0), (4, .iload_n 0, 1, 0, 0), (5, .iconst 1, 1, 0, 0), (6, .if_icmp .ne 7, 3, 0, 0), (9, .iconst 1, 1, 0, 0), (10, .goto 4, 3, 0, 0), (13, .iconst 0, 1, 0, 0), (14, .ireturn, 1, 0, 0)]]
def zm119 : ZMI := (yX12_isSide, cX12_isSide, 1, (some .boolean), 1, 0, 0, 1, 12, ze119)
def ze120 : List (List ZEn) := [[(0, .aload_n 0, 1, 0, 0), (1, .iconst 0, 1, 0, 0), (2, .putfield 1, 3, 12, 0), (5, .aload_n 0, 1, 0, 0), (6, .iload_n 1, 1, 0, 0), (7, .invokevirtual 344, 3, 0, 117), (10, .ifCond .eq 12, 3, 0, 0)],
  [(22, .iconst (-1), 1, 0, 0), (23, .ireturn, 1, 0, 0)]]
def zm120 : ZMI := (yX12_kind, cX12_kind, 3, (some .int), 0, 0, 0, 2, 12, ze120)
def ze121 : List (List ZEn) := [[(0, .aload_n 0, 1, 0, 0), (1, .iconst 0, 1, 0, 0), (2, .putfield 1, 3, 12, 0), (5, .iload_n 1, 1, 0, 0), (6, .invokestatic 354, 3, 0, 119), (9, .ifCond .eq 39, 3, 0, 0), (12, .iload_n 2, 1, 0, 0), (13, .ifCond .lt 35, 3, 0, 0)],
  [(16, .iload_n 2, 1, 0, 0), (17, .aload_n 0, 1, 0, 0), (18, .getfield 115, 3, 12, 22), (21, .iconst 0, 1, 0, 0), (22, .iload_n 1, 1, 0, 0), (23, .iadd, 1, 0, 0), (24, .iaload, 1, 0, 0), (25, .if_icmp .ge 23, 3, 0, 0)],
  [],
  [(48, .iconst (-1), 1, 0, 0), (49, .ireturn, 1, 0, 0)]]
def zm121 : ZMI := (yX12_card, cX12_card, 3, (some .int), 0, 0, 0, 2, 12, ze121)
def ze122 : List (List ZEn) := [[(0, .aload_n 0, 1, 0, 0), (1, .iconst 0, 1, 0, 0), (2, .putfield 1, 3, 12, 0), (5, .iload_n 1, 1, 0, 0), (6, .ifCond .lt 25, 3, 0, 0), (9, .iload_n 1, 1, 0, 0), (10, .aload_n 0, 1, 0, 0), (11, .getfield 115, 3, 12, 22), (14, .iconst 2, 1, 0, 0), (15, .iaload, 1, 0, 0)],
  [(16, .if_icmp .ge 15, 3, 0, 0), (31, .iconst (-1), 1, 0, 0)],
  [(32, .ireturn, 1, 0, 0)]]
def zm122 : ZMI := (yX12_heap, cX12_heap, 2, (some .int), 0, 0, 0, 1, 12, ze122)
def ze123 : List (List ZEn) := [[(0, .aload_n 0, 1, 0, 0), (1, .iconst 0, 1, 0, 0), (2, .putfield 1, 3, 12, 0), (5, .iload_n 1, 1, 0, 0), (6, .ifCond .lt 40, 3, 0, 0), (9, .iload_n 1, 1, 0, 0), (10, .aload_n 0, 1, 0, 0), (11, .getfield 115, 3, 12, 22), (14, .bipush 12, 2, 0, 0)],
  [(16, .iaload, 1, 0, 0), (17, .if_icmp .ge 29, 3, 0, 0)],
  [(46, .iconst (-1), 1, 0, 0), (47, .ireturn, 1, 0, 0)]]
def zm123 : ZMI := (yX12_taken, cX12_taken, 3, (some .int), 0, 0, 0, 2, 12, ze123)
def ze124 : List (List ZEn) := [[(0, .aload_n 0, 1, 0, 0), (1, .iconst 0, 1, 0, 0), (2, .putfield 1, 3, 12, 0), (5, .iload_n 1, 1, 0, 0), (6, .iconst 1, 1, 0, 0), (7, .sipush 1000, 3, 0, 0), (10, .invokestatic 347, 3, 0, 106), (13, .ifCond .ne 5, 3, 0, 0)],
  [(16, .iconst (-1), 1, 0, 0), (17, .ireturn, 1, 0, 0), (18, .aload_n 0, 1, 0, 0), (19, .getfield 115, 3, 12, 22), (22, .bipush 8, 2, 0, 0), (24, .iaload, 1, 0, 0), (25, .ifCond .lt 5, 3, 0, 0), (30, .aload_n 0, 1, 0, 0), (31, .invokevirtual 357, 3, 0, 114)],
  [(34, .iconst 0, 1, 0, 0), (35, .istore_n 2, 1, 0, 0), (36, .iload_n 2, 1, 0, 0), (37, .iload_n 1, 1, 0, 0), (38, .if_icmp .ge 22, 3, 0, 0), (41, .aload_n 0, 1, 0, 0), (42, .iconst 0, 1, 0, 0), (43, .invokevirtual 360, 3, 0, 118), (46, .ifCond .ne 14, 3, 0, 0)],
  [(60, .iload_n 2, 1, 0, 0), (61, .ireturn, 1, 0, 0)]]
def zm124 : ZMI := (yX12_turn, cX12_turn, 3, (some .int), 0, 0, 0, 1, 12, ze124)
def ze125 : List (List ZEn) := [[(0, .aload_n 0, 1, 0, 0), (1, .iconst 0, 1, 0, 0), (2, .putfield 1, 3, 12, 0), (5, .aload_n 0, 1, 0, 0), (6, .getfield 115, 3, 12, 22), (9, .iconst 3, 1, 0, 0), (10, .iaload, 1, 0, 0), (11, .istore_n 2, 1, 0, 0), (12, .iload_n 1, 1, 0, 0), (13, .iconst 0, 1, 0, 0), (14, .iconst 2, 1, 0, 0), (15, .invokestatic 347, 3, 0, 106)],
  [(18, .ifCond .eq 46, 3, 0, 0), (21, .aload_n 0, 1, 0, 0), (22, .getfield 115, 3, 12, 22), (25, .bipush 8, 2, 0, 0), (27, .iaload, 1, 0, 0), (28, .ifCond .ge 36, 3, 0, 0), (31, .iload_n 1, 1, 0, 0)],
  [(32, .iconst 1, 1, 0, 0), (33, .if_icmp .ne 14, 3, 0, 0), (36, .aload_n 0, 1, 0, 0), (37, .getfield 115, 3, 12, 22), (40, .bipush 11, 2, 0, 0), (42, .iaload, 1, 0, 0), (43, .iconst 1, 1, 0, 0), (44, .if_icmp .eq 20, 3, 0, 0), (47, .iload_n 1, 1, 0, 0)],
  [(48, .iconst 1, 1, 0, 0), (49, .if_icmp .eq 17, 3, 0, 0), (52, .aload_n 0, 1, 0, 0), (53, .getfield 115, 3, 12, 22), (56, .iconst 0, 1, 0, 0), (57, .iload_n 2, 1, 0, 0), (58, .iadd, 1, 0, 0), (59, .iaload, 1, 0, 0), (60, .iconst 2, 1, 0, 0), (61, .if_icmp .ge 5, 3, 0, 0)],
  [(64, .iconst 0, 1, 0, 0), (65, .ireturn, 1, 0, 0), (66, .aload_n 0, 1, 0, 0), (67, .invokevirtual 357, 3, 0, 114), (70, .iload_n 1, 1, 0, 0), (71, .ifCond .ne 17, 3, 0, 0)],
  [(88, .iload_n 1, 1, 0, 0), (89, .iconst 1, 1, 0, 0), (90, .if_icmp .ne 14, 3, 0, 0), (93, .aload_n 0, 1, 0, 0), (94, .getfield 115, 3, 12, 22)],
  [(97, .bipush 11, 2, 0, 0), (99, .iconst 1, 1, 0, 0), (100, .iastore, 1, 0, 0), (101, .goto 80, 3, 0, 0)],
  [],
  [],
  [],
  [],
  [(181, .iconst 1, 1, 0, 0), (182, .ireturn, 1, 0, 0)]]
def zm125 : ZMI := (yX12_slip, cX12_slip, 6, (some .boolean), 0, 0, 0, 1, 12, ze125)
def ze126 : List (List ZEn) := [[(0, .aload_n 0, 1, 0, 0), (1, .iconst 0, 1, 0, 0), (2, .putfield 1, 3, 12, 0), (5, .aload_n 0, 1, 0, 0), (6, .getfield 237, 3, 12, 23), (9, .ifCond .ne 5, 3, 0, 0), (12, .iconst 0, 1, 0, 0), (13, .ireturn, 1, 0, 0)]]
def zm126 : ZMI := (yX12_undo, cX12_undo, 1, (some .boolean), 0, 0, 0, 0, 12, ze126)
def ze127 : List (List ZEn) := [[(0, .aload_n 0, 1, 0, 0), (1, .iconst 0, 1, 0, 0), (2, .putfield 1, 3, 12, 0), (5, .aload_n 0, 1, 0, 0), (6, .getfield 115, 3, 12, 22), (9, .bipush 15, 2, 0, 0), (11, .iaload, 1, 0, 0), (12, .ifCond .ne 5, 3, 0, 0), (15, .iconst 0, 1, 0, 0)],
  [(16, .ireturn, 1, 0, 0)]]
def zm127 : ZMI := (yX12_again, cX12_again, 1, (some .boolean), 0, 0, 0, 0, 12, ze127)
def ze128 : List (List ZEn) := [[(0, .iconst 0, 1, 0, 0), (1, .istore_n 3, 1, 0, 0), (2, .iload_n 3, 1, 0, 0), (3, .sipush 1024, 3, 0, 0), (6, .if_icmp .ge 16, 3, 0, 0), (9, .aload_n 0, 1, 0, 0), (10, .getfield 146, 3, 12, 34), (13, .iload_n 3, 1, 0, 0), (14, .iconst (-1), 1, 0, 0), (15, .iastore, 1, 0, 0)],
  [(16, .iinc 3 1, 3, 0, 0), (19, .goto (-17), 3, 0, 0), (22, .aload_n 0, 1, 0, 0), (23, .iconst 0, 1, 0, 0), (24, .putfield 382, 3, 12, 35), (27, .aload_n 0, 1, 0, 0), (28, .getfield 115, 3, 12, 22), (31, .iload_n 1, 1, 0, 0)],
  [(32, .bipush 7, 2, 0, 0), (34, .iadd, 1, 0, 0), (35, .iaload, 1, 0, 0), (36, .istore_n 3, 1, 0, 0), (37, .aload_n 0, 1, 0, 0), (38, .iconst 0, 1, 0, 0), (39, .putfield 385, 3, 12, 39), (42, .iconst 0, 1, 0, 0), (43, .istore 4, 2, 0, 0), (45, .aload_n 0, 1, 0, 0), (46, .getfield 115, 3, 12, 22)],
  [(49, .iload_n 1, 1, 0, 0), (50, .bipush 7, 2, 0, 0), (52, .iadd, 1, 0, 0), (53, .iaload, 1, 0, 0), (54, .iload_n 3, 1, 0, 0), (55, .isub, 1, 0, 0), (56, .istore 5, 2, 0, 0), (58, .aload_n 0, 1, 0, 0), (59, .iload 4, 2, 0, 0), (61, .putfield 388, 3, 12, 37)],
  [(64, .aload_n 0, 1, 0, 0), (65, .iload 5, 2, 0, 0), (67, .putfield 391, 3, 12, 38), (70, .aload_n 0, 1, 0, 0), (71, .iload_n 1, 1, 0, 0), (72, .invokevirtual 360, 3, 0, 118), (75, .ifCond .eq 17, 3, 0, 0), (78, .aload_n 0, 1, 0, 0), (79, .aload_n 0, 1, 0, 0)],
  [(80, .getfield 115, 3, 12, 22), (83, .iload_n 1, 1, 0, 0), (84, .bipush 8, 2, 0, 0), (86, .iadd, 1, 0, 0), (87, .iaload, 1, 0, 0), (88, .putfield 394, 3, 12, 36), (91, .return_, 1, 0, 0)]]
def zm128 : ZMI := (yX12_runs, cX12_runs, 8, none, 0, 0, 0, 2, 12, ze128)
def ze129 : List (List ZEn) := [[(0, .aload_n 0, 1, 0, 0), (1, .iconst 0, 1, 0, 0), (2, .sipush 9660, 3, 0, 0), (5, .sipush 164, 3, 0, 0), (8, .invokevirtual 308, 3, 0, 113), (11, .aload_n 0, 1, 0, 0), (12, .sipush 9660, 3, 0, 0), (15, .iconst (-1), 1, 0, 0)],
  [(16, .invokevirtual 400, 3, 0, 128), (19, .return_, 1, 0, 0)]]
def zm129 : ZMI := (yX12_runsNow, cX12_runsNow, 1, none, 0, 0, 0, 0, 12, ze129)
def ze130 : List (List ZEn) := [[(0, .aload_n 0, 1, 0, 0), (1, .iconst 0, 1, 0, 0), (2, .putfield 1, 3, 12, 0), (5, .iload_n 1, 1, 0, 0), (6, .iconst 0, 1, 0, 0), (7, .iconst 3, 1, 0, 0), (8, .invokestatic 347, 3, 0, 106), (11, .ifCond .ne 5, 3, 0, 0), (14, .iconst (-1), 1, 0, 0), (15, .ireturn, 1, 0, 0)],
  [(16, .aload_n 0, 1, 0, 0), (17, .invokevirtual 403, 3, 0, 129), (20, .iload_n 1, 1, 0, 0), (21, .ifCond .ne 10, 3, 0, 0), (24, .aload_n 0, 1, 0, 0), (25, .getfield 394, 3, 12, 36), (28, .goto 31, 3, 0, 0), (31, .iload_n 1, 1, 0, 0)],
  [(32, .iconst 1, 1, 0, 0), (33, .if_icmp .ne 10, 3, 0, 0), (36, .aload_n 0, 1, 0, 0), (37, .getfield 388, 3, 12, 37), (40, .goto 19, 3, 0, 0), (43, .iload_n 1, 1, 0, 0), (44, .iconst 2, 1, 0, 0), (45, .if_icmp .ne 10, 3, 0, 0)],
  [(48, .aload_n 0, 1, 0, 0), (49, .getfield 391, 3, 12, 38), (52, .goto 7, 3, 0, 0), (55, .aload_n 0, 1, 0, 0), (56, .getfield 385, 3, 12, 39), (59, .ireturn, 1, 0, 0)]]
def zm130 : ZMI := (yX12_ends, cX12_ends, 2, (some .int), 0, 0, 0, 1, 12, ze130)
def ze131 : List (List ZEn) := [[(0, .aload_n 0, 1, 0, 0), (1, .iconst 0, 1, 0, 0), (2, .putfield 406, 3, 12, 41), (5, .iconst 0, 1, 0, 0), (6, .istore_n 1, 1, 0, 0), (7, .iload_n 1, 1, 0, 0), (8, .aload_n 0, 1, 0, 0), (9, .invokevirtual 312, 3, 0, 116), (12, .if_icmp .ge 53, 3, 0, 0)],
  [],
  [],
  [],
  [(65, .return_, 1, 0, 0)]]
def zm131 : ZMI := (yX12_laysPack, cX12_laysPack, 3, none, 0, 0, 0, 0, 12, ze131)
def ze132 : List (List ZEn) := [[(0, .iload_n 2, 1, 0, 0), (1, .bipush 10, 2, 0, 0), (3, .if_icmp .le 5, 3, 0, 0), (8, .lconst 1, 1, 0, 0), (9, .lstore_n 3, 1, 0, 0), (10, .iconst 0, 1, 0, 0), (11, .istore 5, 2, 0, 0), (13, .iload 5, 2, 0, 0), (15, .iload_n 2, 1, 0, 0)],
  [(16, .if_icmp .ge 61, 3, 0, 0)],
  [],
  [],
  [(77, .lload_n 3, 1, 0, 0), (78, .ldc2_w 409, 3, 20000, 0)],
  [(81, .lcmp, 1, 0, 0), (82, .ifCond .le 7, 3, 0, 0), (89, .lload_n 3, 1, 0, 0), (90, .l2i, 1, 0, 0), (91, .ireturn, 1, 0, 0)]]
def zm132 : ZMI := (yX12_rowsOf, cX12_rowsOf, 8, (some .int), 0, 0, 0, 2, 12, ze132)
def ze133 : List (List ZEn) := [[(0, .iload_n 2, 1, 0, 0), (1, .iconst 2, 1, 0, 0), (2, .isub, 1, 0, 0), (3, .istore_n 3, 1, 0, 0), (4, .iload_n 3, 1, 0, 0), (5, .ifCond .lt 20, 3, 0, 0)],
  [(25, .iload_n 3, 1, 0, 0), (26, .ifCond .ge 5, 3, 0, 0), (29, .iconst 0, 1, 0, 0), (30, .ireturn, 1, 0, 0)]]
def zm133 : ZMI := (yX12_goesNext, cX12_goesNext, 7, (some .boolean), 0, 0, 0, 2, 12, ze133)
def ze134 : List (List ZEn) := [[(0, .aload_n 0, 1, 0, 0), (1, .invokevirtual 415, 3, 0, 131), (4, .aload_n 0, 1, 0, 0), (5, .aload_n 0, 1, 0, 0), (6, .getfield 406, 3, 12, 41), (9, .ifCond .ne 7, 3, 0, 0), (12, .iconst (-1), 1, 0, 0), (13, .goto 15, 3, 0, 0)],
  [(28, .putfield 422, 3, 12, 44), (31, .aload_n 0, 1, 0, 0)],
  [(32, .getfield 422, 3, 12, 44), (35, .ifCond .lt 10, 3, 0, 0), (45, .aload_n 0, 1, 0, 0), (46, .getfield 422, 3, 12, 44)],
  [(49, .ifCond .lt 7, 3, 0, 0), (56, .iconst 0, 1, 0, 0), (57, .ireturn, 1, 0, 0)]]
def zm134 : ZMI := (yX12_counts, cX12_counts, 2, (some .boolean), 0, 0, 0, 0, 12, ze134)
def ze135 : List (List ZEn) := [[(0, .aload_n 0, 1, 0, 0), (1, .iconst 0, 1, 0, 0), (2, .putfield 1, 3, 12, 0), (5, .iload_n 1, 1, 0, 0), (6, .iconst 0, 1, 0, 0), (7, .bipush 6, 2, 0, 0), (9, .invokestatic 347, 3, 0, 106), (12, .ifCond .eq 10, 3, 0, 0), (15, .aload_n 0, 1, 0, 0)],
  [(16, .invokevirtual 432, 3, 0, 134), (19, .ifCond .ne 5, 3, 0, 0), (22, .iconst (-1), 1, 0, 0), (23, .ireturn, 1, 0, 0)]]
def zm135 : ZMI := (yX12_all, cX12_all, 5, (some .int), 0, 0, 0, 1, 12, ze135)
def ze136 : List (List ZEn) := [[(0, .aload_n 0, 1, 0, 0), (1, .iconst 0, 1, 0, 0), (2, .putfield 1, 3, 12, 0), (5, .aload_n 0, 1, 0, 0), (6, .invokevirtual 432, 3, 0, 134), (9, .ifCond .eq 27, 3, 0, 0)],
  [],
  [(36, .iconst (-1), 1, 0, 0), (37, .ireturn, 1, 0, 0)]]
def zm136 : ZMI := (yX12_row, cX12_row, 4, (some .int), 0, 0, 0, 2, 12, ze136)
def ze137 : List (List ZEn) := [[(0, .aload_n 0, 1, 0, 0), (1, .iconst 0, 1, 0, 0), (2, .putfield 1, 3, 12, 0), (5, .iload_n 1, 1, 0, 0), (6, .iconst 0, 1, 0, 0), (7, .iconst 2, 1, 0, 0), (8, .invokestatic 347, 3, 0, 106), (11, .ifCond .eq 10, 3, 0, 0), (14, .aload_n 0, 1, 0, 0), (15, .invokevirtual 432, 3, 0, 134)],
  [(18, .ifCond .ne 5, 3, 0, 0), (21, .iconst (-1), 1, 0, 0), (22, .ireturn, 1, 0, 0)]]
def zm137 : ZMI := (yX12_beginner, cX12_beginner, 7, (some .int), 0, 0, 0, 1, 12, ze137)
def ze138 : List (List ZEn) := [[(0, .aload_n 0, 1, 0, 0), (1, .iconst 0, 1, 0, 0), (2, .putfield 1, 3, 12, 0), (5, .aload_n 0, 1, 0, 0), (6, .iload_n 1, 1, 0, 0), (7, .invokevirtual 344, 3, 0, 117), (10, .ifCond .eq 19, 3, 0, 0)],
  [(29, .iconst (-1), 1, 0, 0), (30, .ireturn, 1, 0, 0)]]
def zm138 : ZMI := (yX12_worth, cX12_worth, 9, (some .int), 0, 0, 0, 2, 12, ze138)
def ze139 : List (List ZEn) := [[(0, .aload_n 0, 1, 0, 0), (1, .iconst 0, 1, 0, 0), (2, .putfield 1, 3, 12, 0), (5, .iload_n 1, 1, 0, 0), (6, .iconst 1, 1, 0, 0), (7, .bipush 20, 2, 0, 0), (9, .invokestatic 347, 3, 0, 106), (12, .ifCond .eq 19, 3, 0, 0), (15, .iload_n 2, 1, 0, 0)],
  [(16, .iconst 0, 1, 0, 0), (17, .iconst 3, 1, 0, 0), (18, .invokestatic 347, 3, 0, 106), (21, .ifCond .eq 10, 3, 0, 0), (24, .aload_n 0, 1, 0, 0), (25, .invokevirtual 432, 3, 0, 134), (28, .ifCond .ne 5, 3, 0, 0), (31, .iconst (-1), 1, 0, 0)],
  [(32, .ireturn, 1, 0, 0)]]
def zm139 : ZMI := (yX12_leads, cX12_leads, 8, (some .int), 0, 0, 0, 2, 12, ze139)
def ze140 : List (List ZEn) := [[(0, .aload_n 0, 1, 0, 0), (1, .iconst 0, 1, 0, 0), (2, .putfield 1, 3, 12, 0), (5, .aload_n 0, 1, 0, 0), (6, .iload_n 1, 1, 0, 0), (7, .invokevirtual 344, 3, 0, 117), (10, .ifCond .eq 29, 3, 0, 0)],
  [],
  [(39, .iconst (-1), 1, 0, 0), (40, .ireturn, 1, 0, 0)]]
def zm140 : ZMI := (yX12_laws, cX12_laws, 10, (some .int), 0, 0, 0, 3, 12, ze140)
def ze141 : List (List ZEn) := [[(0, .aload_n 0, 1, 0, 0), (1, .iconst 0, 1, 0, 0), (2, .putfield 438, 3, 12, 48), (5, .iconst 0, 1, 0, 0), (6, .istore_n 1, 1, 0, 0), (7, .iload_n 1, 1, 0, 0), (8, .iconst 2, 1, 0, 0), (9, .if_icmp .ge 88, 3, 0, 0), (12, .iconst 0, 1, 0, 0), (13, .istore_n 2, 1, 0, 0), (14, .iload_n 2, 1, 0, 0), (15, .aload_n 0, 1, 0, 0)],
  [(16, .getfield 115, 3, 12, 22), (19, .iconst 0, 1, 0, 0), (20, .iload_n 1, 1, 0, 0), (21, .iadd, 1, 0, 0), (22, .iaload, 1, 0, 0), (23, .if_icmp .ge 68, 3, 0, 0)],
  [],
  [],
  [],
  [(91, .iinc 1 1, 3, 0, 0), (94, .goto (-87), 3, 0, 0)],
  [(97, .iconst 0, 1, 0, 0), (98, .istore_n 1, 1, 0, 0), (99, .iload_n 1, 1, 0, 0), (100, .aload_n 0, 1, 0, 0), (101, .getfield 438, 3, 12, 48), (104, .if_icmp .ge 46, 3, 0, 0)],
  [],
  [],
  [(150, .return_, 1, 0, 0)]]
def zm141 : ZMI := (yX12_findHidden, cX12_findHidden, 4, none, 0, 0, 0, 0, 12, ze141)
def ze142 : List (List ZEn) := [[(0, .aload_n 0, 1, 0, 0), (1, .iconst 0, 1, 0, 0), (2, .putfield 1, 3, 12, 0), (5, .iload_n 1, 1, 0, 0), (6, .invokestatic 354, 3, 0, 119), (9, .ifCond .ne 5, 3, 0, 0), (12, .iconst (-1), 1, 0, 0), (13, .ireturn, 1, 0, 0), (14, .iconst 0, 1, 0, 0), (15, .istore_n 2, 1, 0, 0)],
  [(16, .iconst 0, 1, 0, 0), (17, .istore_n 3, 1, 0, 0), (18, .iload_n 3, 1, 0, 0), (19, .aload_n 0, 1, 0, 0), (20, .getfield 115, 3, 12, 22), (23, .iconst 0, 1, 0, 0), (24, .iload_n 1, 1, 0, 0), (25, .iadd, 1, 0, 0), (26, .iaload, 1, 0, 0), (27, .if_icmp .ge 36, 3, 0, 0)],
  [],
  [(63, .iload_n 2, 1, 0, 0)],
  [(64, .ireturn, 1, 0, 0)]]
def zm142 : ZMI := (yX12_unseen, cX12_unseen, 4, (some .int), 0, 0, 0, 1, 12, ze142)
def ze143 : List (List ZEn) := [[(0, .aload_n 0, 1, 0, 0), (1, .invokevirtual 441, 3, 0, 141), (4, .aload_n 0, 1, 0, 0), (5, .aload_n 0, 1, 0, 0), (6, .aload_n 0, 1, 0, 0), (7, .getfield 161, 3, 12, 47), (10, .aload_n 0, 1, 0, 0), (11, .getfield 438, 3, 12, 48), (14, .invokevirtual 418, 3, 0, 132)],
  [(17, .putfield 444, 3, 12, 51), (20, .aload_n 0, 1, 0, 0), (21, .iconst 0, 1, 0, 0), (22, .putfield 447, 3, 12, 49), (25, .aload_n 0, 1, 0, 0), (26, .iconst 0, 1, 0, 0), (27, .putfield 450, 3, 12, 50), (30, .iconst 0, 1, 0, 0), (31, .istore_n 1, 1, 0, 0)],
  [(32, .iload_n 1, 1, 0, 0), (33, .aload_n 0, 1, 0, 0), (34, .getfield 444, 3, 12, 51), (37, .if_icmp .ge 124, 3, 0, 0), (40, .aload_n 0, 1, 0, 0), (41, .iconst 0, 1, 0, 0), (42, .sipush 9660, 3, 0, 0), (45, .sipush 164, 3, 0, 0)],
  [(48, .invokevirtual 308, 3, 0, 113), (51, .iconst 0, 1, 0, 0), (52, .istore_n 2, 1, 0, 0), (53, .iload_n 2, 1, 0, 0), (54, .aload_n 0, 1, 0, 0), (55, .getfield 438, 3, 12, 48), (58, .if_icmp .ge 33, 3, 0, 0)],
  [],
  [(91, .aload_n 0, 1, 0, 0), (92, .sipush 9660, 3, 0, 0), (95, .iconst (-1), 1, 0, 0)],
  [(96, .invokevirtual 400, 3, 0, 128), (99, .aload_n 0, 1, 0, 0), (100, .dup, 1, 0, 0), (101, .getfield 447, 3, 12, 49), (104, .aload_n 0, 1, 0, 0), (105, .getfield 394, 3, 12, 36), (108, .ifCond .ne 7, 3, 0, 0)],
  [(115, .iconst 0, 1, 0, 0), (116, .iadd, 1, 0, 0), (117, .putfield 447, 3, 12, 49), (120, .aload_n 0, 1, 0, 0), (121, .dup, 1, 0, 0), (122, .getfield 450, 3, 12, 50), (125, .aload_n 0, 1, 0, 0), (126, .getfield 394, 3, 12, 36)],
  [(129, .iconst 1, 1, 0, 0), (130, .if_icmp .ne 7, 3, 0, 0), (133, .iconst 1, 1, 0, 0), (134, .goto 4, 3, 0, 0), (138, .iadd, 1, 0, 0), (139, .putfield 450, 3, 12, 50), (142, .aload_n 0, 1, 0, 0), (143, .aload_n 0, 1, 0, 0)],
  [(144, .getfield 161, 3, 12, 47), (147, .aload_n 0, 1, 0, 0), (148, .getfield 438, 3, 12, 48), (151, .invokevirtual 428, 3, 0, 133), (154, .pop, 1, 0, 0), (155, .iinc 1 1, 3, 0, 0), (158, .goto (-126), 3, 0, 0)],
  [(161, .aload_n 0, 1, 0, 0), (162, .getfield 444, 3, 12, 51), (165, .ifCond .lt 7, 3, 0, 0), (168, .iconst 1, 1, 0, 0), (169, .goto 4, 3, 0, 0), (173, .ireturn, 1, 0, 0)]]
def zm143 : ZMI := (yX12_findOdds, cX12_findOdds, 3, (some .boolean), 0, 0, 0, 0, 12, ze143)
def ze144 : List (List ZEn) := [[(0, .aload_n 0, 1, 0, 0), (1, .iconst 0, 1, 0, 0), (2, .putfield 1, 3, 12, 0), (5, .iload_n 1, 1, 0, 0), (6, .iconst 0, 1, 0, 0), (7, .iconst 2, 1, 0, 0), (8, .invokestatic 347, 3, 0, 106), (11, .ifCond .eq 10, 3, 0, 0), (14, .aload_n 0, 1, 0, 0), (15, .invokevirtual 453, 3, 0, 143)],
  [(18, .ifCond .ne 5, 3, 0, 0), (21, .iconst (-1), 1, 0, 0), (22, .ireturn, 1, 0, 0), (23, .iload_n 1, 1, 0, 0), (24, .ifCond .ne 10, 3, 0, 0), (27, .aload_n 0, 1, 0, 0), (28, .getfield 447, 3, 12, 49), (31, .goto 19, 3, 0, 0)],
  [(34, .iload_n 1, 1, 0, 0), (35, .iconst 1, 1, 0, 0), (36, .if_icmp .ne 10, 3, 0, 0), (39, .aload_n 0, 1, 0, 0), (40, .getfield 450, 3, 12, 50), (43, .goto 7, 3, 0, 0), (46, .aload_n 0, 1, 0, 0), (47, .getfield 444, 3, 12, 51)],
  [(50, .ireturn, 1, 0, 0)]]
def zm144 : ZMI := (yX12_odds, cX12_odds, 2, (some .int), 0, 0, 0, 1, 12, ze144)
def ze145 : List (List ZEn) := [[(0, .aload_n 0, 1, 0, 0), (1, .getfield 85, 3, 12, 10), (4, .iconst 4, 1, 0, 0), (5, .iaload, 1, 0, 0), (6, .ifCond .ge 6, 3, 0, 0), (9, .bipush 10, 2, 0, 0), (11, .ireturn, 1, 0, 0)]]
def zm145 : ZMI := (yX12_offerNow, cX12_offerNow, 2, (some .int), 0, 0, 0, 0, 12, ze145)
def ze146 : List (List ZEn) := [[(0, .aload_n 0, 1, 0, 0), (1, .iconst 0, 1, 0, 0), (2, .putfield 1, 3, 12, 0), (5, .aload_n 0, 1, 0, 0), (6, .invokevirtual 459, 3, 0, 145), (9, .ireturn, 1, 0, 0)]]
def zm146 : ZMI := (yX12_offer, cX12_offer, 1, (some .int), 0, 0, 0, 0, 12, ze146)
def ze147 : List (List ZEn) := [[(0, .aload_n 0, 1, 0, 0), (1, .iconst 0, 1, 0, 0), (2, .putfield 1, 3, 12, 0), (5, .iload_n 1, 1, 0, 0), (6, .invokestatic 354, 3, 0, 119), (9, .ifCond .eq 40, 3, 0, 0), (12, .iload_n 2, 1, 0, 0), (13, .iconst 1, 1, 0, 0), (14, .aload_n 0, 1, 0, 0), (15, .getfield 115, 3, 12, 22)],
  [(18, .bipush 9, 2, 0, 0), (20, .iaload, 1, 0, 0), (21, .invokestatic 347, 3, 0, 106), (24, .ifCond .eq 25, 3, 0, 0), (27, .aload_n 0, 1, 0, 0), (28, .getfield 115, 3, 12, 22), (31, .bipush 8, 2, 0, 0)],
  [(33, .iaload, 1, 0, 0), (34, .ifCond .ge 15, 3, 0, 0), (37, .aload_n 0, 1, 0, 0), (38, .getfield 115, 3, 12, 22), (41, .bipush 10, 2, 0, 0), (43, .iaload, 1, 0, 0), (44, .bipush 8, 2, 0, 0), (46, .if_icmp .ne 5, 3, 0, 0)],
  [(49, .iconst (-1), 1, 0, 0), (50, .ireturn, 1, 0, 0), (51, .aload_n 0, 1, 0, 0), (52, .invokevirtual 357, 3, 0, 114), (55, .sipush 420, 3, 0, 0), (58, .iconst 3, 1, 0, 0), (59, .aload_n 0, 1, 0, 0), (60, .getfield 115, 3, 12, 22), (63, .bipush 10, 2, 0, 0)],
  [(65, .iaload, 1, 0, 0), (66, .imul, 1, 0, 0), (67, .iadd, 1, 0, 0), (68, .istore_n 3, 1, 0, 0), (69, .aload_n 0, 1, 0, 0), (70, .getfield 115, 3, 12, 22), (73, .iload_n 3, 1, 0, 0), (74, .iload_n 1, 1, 0, 0), (75, .iastore, 1, 0, 0), (76, .aload_n 0, 1, 0, 0), (77, .getfield 115, 3, 12, 22)],
  [(80, .iload_n 3, 1, 0, 0), (81, .iconst 1, 1, 0, 0), (82, .iadd, 1, 0, 0), (83, .iload_n 2, 1, 0, 0), (84, .iastore, 1, 0, 0), (85, .aload_n 0, 1, 0, 0), (86, .getfield 115, 3, 12, 22), (89, .iload_n 3, 1, 0, 0), (90, .iconst 2, 1, 0, 0), (91, .iadd, 1, 0, 0), (92, .aload_n 0, 1, 0, 0), (93, .invokevirtual 459, 3, 0, 145)],
  [(96, .iastore, 1, 0, 0), (97, .aload_n 0, 1, 0, 0), (98, .getfield 115, 3, 12, 22), (101, .bipush 10, 2, 0, 0), (103, .dup2, 1, 0, 0), (104, .iaload, 1, 0, 0), (105, .iconst 1, 1, 0, 0), (106, .iadd, 1, 0, 0), (107, .iastore, 1, 0, 0), (108, .aload_n 0, 1, 0, 0), (109, .getfield 115, 3, 12, 22)],
  [(112, .bipush 9, 2, 0, 0), (114, .dup2, 1, 0, 0), (115, .iaload, 1, 0, 0), (116, .iload_n 2, 1, 0, 0), (117, .isub, 1, 0, 0), (118, .iastore, 1, 0, 0), (119, .aload_n 0, 1, 0, 0), (120, .getfield 115, 3, 12, 22), (123, .bipush 9, 2, 0, 0), (125, .iaload, 1, 0, 0), (126, .ireturn, 1, 0, 0)]]
def zm147 : ZMI := (yX12_bet, cX12_bet, 4, (some .int), 0, 0, 0, 2, 12, ze147)
def ze148 : List (List ZEn) := [[(0, .aload_n 0, 1, 0, 0), (1, .iconst 0, 1, 0, 0), (2, .putfield 1, 3, 12, 0), (5, .iload_n 1, 1, 0, 0), (6, .invokestatic 354, 3, 0, 119), (9, .ifCond .eq 10, 3, 0, 0), (12, .aload_n 0, 1, 0, 0), (13, .invokevirtual 453, 3, 0, 143)],
  [(16, .ifCond .ne 5, 3, 0, 0), (19, .iconst (-1), 1, 0, 0), (20, .ireturn, 1, 0, 0), (21, .iload_n 1, 1, 0, 0), (22, .ifCond .ne 10, 3, 0, 0), (25, .aload_n 0, 1, 0, 0), (26, .getfield 447, 3, 12, 49), (29, .goto 7, 3, 0, 0)],
  [(32, .aload_n 0, 1, 0, 0), (33, .getfield 450, 3, 12, 50), (36, .istore_n 2, 1, 0, 0), (37, .iload_n 2, 1, 0, 0), (38, .aload_n 0, 1, 0, 0), (39, .invokevirtual 459, 3, 0, 145), (42, .imul, 1, 0, 0), (43, .aload_n 0, 1, 0, 0), (44, .getfield 444, 3, 12, 51), (47, .iload_n 2, 1, 0, 0)],
  [(48, .isub, 1, 0, 0), (49, .bipush 10, 2, 0, 0), (51, .imul, 1, 0, 0), (52, .if_icmp .le 7, 3, 0, 0), (55, .iconst 1, 1, 0, 0), (56, .goto 4, 3, 0, 0), (59, .iconst 0, 1, 0, 0), (60, .ireturn, 1, 0, 0)]]
def zm148 : ZMI := (yX12_take, cX12_take, 3, (some .int), 0, 0, 0, 1, 12, ze148)
def ze149 : List (List ZEn) := [[(0, .iconst 0, 1, 0, 0), (1, .istore_n 2, 1, 0, 0), (2, .iload_n 2, 1, 0, 0), (3, .ifCond .ne 20, 3, 0, 0), (6, .aload_n 0, 1, 0, 0), (7, .iload_n 1, 1, 0, 0), (8, .invokevirtual 360, 3, 0, 118), (11, .ifCond .ne 12, 3, 0, 0)],
  [(23, .iload_n 2, 1, 0, 0), (24, .ireturn, 1, 0, 0)]]
def zm149 : ZMI := (yX12_goesToHeap, cX12_goesToHeap, 3, (some .boolean), 0, 0, 0, 1, 12, ze149)
def ze150 : List (List ZEn) := [[(0, .aload_n 0, 1, 0, 0), (1, .iload_n 1, 1, 0, 0), (2, .invokevirtual 462, 3, 0, 149), (5, .ifCond .ne 67, 3, 0, 0), (8, .iconst 0, 1, 0, 0), (9, .istore 4, 2, 0, 0), (11, .iload 4, 2, 0, 0), (13, .iload_n 3, 1, 0, 0), (14, .if_icmp .ge 35, 3, 0, 0)],
  [],
  [],
  [(49, .aload_n 0, 1, 0, 0), (50, .iload_n 3, 1, 0, 0), (51, .putfield 465, 3, 12, 54), (54, .aload_n 0, 1, 0, 0), (55, .getfield 115, 3, 12, 22), (58, .iload_n 1, 1, 0, 0), (59, .bipush 8, 2, 0, 0), (61, .iadd, 1, 0, 0), (62, .iaload, 1, 0, 0), (63, .ifCond .ne 7, 3, 0, 0)],
  [(70, .iconst 0, 1, 0, 0), (71, .ireturn, 1, 0, 0)]]
def zm150 : ZMI := (yX12_canWin, cX12_canWin, 6, (some .boolean), 0, 0, 0, 3, 12, ze150)
def ze151 : List (List ZEn) := [[(0, .iconst 0, 1, 0, 0), (1, .istore_n 2, 1, 0, 0), (2, .iload_n 2, 1, 0, 0), (3, .iload_n 1, 1, 0, 0), (4, .if_icmp .gt 34, 3, 0, 0), (7, .aload_n 0, 1, 0, 0), (8, .iconst 0, 1, 0, 0), (9, .sipush 9660, 3, 0, 0), (12, .sipush 164, 3, 0, 0), (15, .invokevirtual 308, 3, 0, 113)],
  [(18, .aload_n 0, 1, 0, 0), (19, .sipush 9660, 3, 0, 0), (22, .iload_n 2, 1, 0, 0), (23, .iconst 0, 1, 0, 0), (24, .invokevirtual 468, 3, 0, 150), (27, .ifCond .eq 5, 3, 0, 0)],
  [(32, .iinc 2 1, 3, 0, 0), (35, .goto (-33), 3, 0, 0), (38, .iconst (-1), 1, 0, 0), (39, .ireturn, 1, 0, 0)]]
def zm151 : ZMI := (yX12_findChoice, cX12_findChoice, 3, (some .int), 0, 0, 0, 1, 12, ze151)
def ze152 : List (List ZEn) := [[(0, .aload_n 0, 1, 0, 0), (1, .iconst 0, 1, 0, 0), (2, .putfield 1, 3, 12, 0), (5, .iload_n 1, 1, 0, 0), (6, .iconst 1, 1, 0, 0), (7, .bipush 6, 2, 0, 0), (9, .invokestatic 347, 3, 0, 106), (12, .ifCond .eq 19, 3, 0, 0), (15, .iload_n 2, 1, 0, 0)],
  [(16, .iconst (-1), 1, 0, 0), (17, .if_icmp .lt 14, 3, 0, 0), (20, .aload_n 0, 1, 0, 0), (21, .getfield 115, 3, 12, 22), (24, .bipush 11, 2, 0, 0), (26, .iaload, 1, 0, 0), (27, .iconst 1, 1, 0, 0), (28, .if_icmp .ne 5, 3, 0, 0), (31, .iconst (-1), 1, 0, 0)],
  [(32, .ireturn, 1, 0, 0), (33, .aload_n 0, 1, 0, 0), (34, .iload_n 1, 1, 0, 0), (35, .invokevirtual 471, 3, 0, 151), (38, .istore_n 3, 1, 0, 0), (39, .iload_n 3, 1, 0, 0), (40, .ifCond .lt 8, 3, 0, 0)],
  [(48, .iload_n 3, 1, 0, 0), (49, .goto 21, 3, 0, 0)],
  [(70, .ireturn, 1, 0, 0)]]
def zm152 : ZMI := (yX12_choice, cX12_choice, 4, (some .int), 0, 0, 0, 2, 12, ze152)
def ze153 : List (List ZEn) := [[(0, .aload_n 0, 1, 0, 0), (1, .iload_n 1, 1, 0, 0), (2, .invokevirtual 462, 3, 0, 149), (5, .ifCond .ne 21, 3, 0, 0), (8, .aload_n 0, 1, 0, 0), (9, .getfield 115, 3, 12, 22), (12, .iload_n 1, 1, 0, 0), (13, .bipush 8, 2, 0, 0), (15, .iadd, 1, 0, 0)],
  [(16, .iaload, 1, 0, 0), (17, .ifCond .ne 7, 3, 0, 0), (24, .iconst 0, 1, 0, 0), (25, .ireturn, 1, 0, 0)]]
def zm153 : ZMI := (yX12_mustWin, cX12_mustWin, 6, (some .boolean), 0, 0, 0, 2, 12, ze153)
def ze154 : List (List ZEn) := [[(0, .aload_n 0, 1, 0, 0), (1, .iconst 0, 1, 0, 0), (2, .putfield 1, 3, 12, 0), (5, .iload_n 1, 1, 0, 0), (6, .iconst 1, 1, 0, 0), (7, .iconst 4, 1, 0, 0), (8, .invokestatic 347, 3, 0, 106), (11, .ifCond .eq 14, 3, 0, 0), (14, .aload_n 0, 1, 0, 0), (15, .getfield 115, 3, 12, 22)],
  [(18, .bipush 11, 2, 0, 0), (20, .iaload, 1, 0, 0), (21, .iconst 1, 1, 0, 0), (22, .if_icmp .ne 5, 3, 0, 0), (25, .iconst (-1), 1, 0, 0), (26, .ireturn, 1, 0, 0), (27, .aload_n 0, 1, 0, 0), (28, .iconst 0, 1, 0, 0), (29, .sipush 9660, 3, 0, 0)],
  [(32, .sipush 164, 3, 0, 0), (35, .invokevirtual 308, 3, 0, 113), (38, .aload_n 0, 1, 0, 0), (39, .sipush 9660, 3, 0, 0), (42, .iload_n 1, 1, 0, 0), (43, .invokevirtual 474, 3, 0, 153), (46, .ifCond .eq 7, 3, 0, 0)],
  [(53, .iconst 0, 1, 0, 0), (54, .ireturn, 1, 0, 0)]]
def zm154 : ZMI := (yX12_both_, cX12_both_, 2, (some .int), 0, 0, 0, 1, 12, ze154)
def ze155 : List (List ZEn) := [[(0, .aload_n 0, 1, 0, 0), (1, .iconst 0, 1, 0, 0), (2, .putfield 1, 3, 12, 0), (5, .iload_n 1, 1, 0, 0), (6, .iconst 0, 1, 0, 0), (7, .iconst 3, 1, 0, 0), (8, .invokestatic 347, 3, 0, 106), (11, .ifCond .ne 5, 3, 0, 0), (14, .iconst (-1), 1, 0, 0), (15, .ireturn, 1, 0, 0)],
  [(16, .iconst 0, 1, 0, 0), (17, .istore_n 2, 1, 0, 0), (18, .iconst 0, 1, 0, 0), (19, .istore_n 3, 1, 0, 0), (20, .iload_n 3, 1, 0, 0), (21, .aload_n 0, 1, 0, 0), (22, .getfield 85, 3, 12, 10), (25, .bipush 21, 2, 0, 0), (27, .iaload, 1, 0, 0), (28, .if_icmp .ge 62, 3, 0, 0)],
  [],
  [],
  [],
  [(90, .iload_n 2, 1, 0, 0), (91, .ireturn, 1, 0, 0)]]
def zm155 : ZMI := (yX12_opening, cX12_opening, 5, (some .int), 0, 0, 0, 1, 12, ze155)
def ze156 : List (List ZEn) := [[(0, .aload_n 0, 1, 0, 0), (1, .iconst 0, 1, 0, 0), (2, .putfield 1, 3, 12, 0), (5, .aload_n 0, 1, 0, 0), (6, .iload_n 1, 1, 0, 0), (7, .invokevirtual 344, 3, 0, 117), (10, .ifCond .eq 42, 3, 0, 0)],
  [],
  [],
  [(52, .iconst (-1), 1, 0, 0), (53, .ireturn, 1, 0, 0)]]
def zm156 : ZMI := (yX12_comes, cX12_comes, 2, (some .int), 0, 0, 0, 1, 12, ze156)
def ze157 : List (List ZEn) := [[(0, .aload_n 0, 1, 0, 0), (1, .aload_n 0, 1, 0, 0), (2, .getfield 115, 3, 12, 22), (5, .bipush 14, 2, 0, 0), (7, .iaload, 1, 0, 0), (8, .ifCond .le 7, 3, 0, 0), (15, .iconst 1, 1, 0, 0)],
  [(16, .putfield 1, 3, 12, 0), (19, .iconst 0, 1, 0, 0), (20, .istore_n 1, 1, 0, 0), (21, .iconst 0, 1, 0, 0), (22, .istore_n 2, 1, 0, 0), (23, .iload_n 2, 1, 0, 0), (24, .iconst 5, 1, 0, 0), (25, .if_icmp .ge 99, 3, 0, 0), (28, .aload_n 0, 1, 0, 0), (29, .getfield 1, 3, 12, 0)],
  [(32, .ifCond .ne 92, 3, 0, 0)],
  [],
  [],
  [],
  [],
  [(124, .iload_n 1, 1, 0, 0), (125, .ireturn, 1, 0, 0)]]
def zm157 : ZMI := (yX12_orders, cX12_orders, 5, (some .int), 0, 0, 0, 0, 12, ze157)
def ze158 : List (List ZEn) := [[(0, .aload_n 0, 1, 0, 0), (1, .iconst 0, 1, 0, 0), (2, .putfield 1, 3, 12, 0), (5, .aload_n 0, 1, 0, 0), (6, .getfield 115, 3, 12, 22), (9, .bipush 13, 2, 0, 0), (11, .iconst 0, 1, 0, 0), (12, .iastore, 1, 0, 0), (13, .iconst 1, 1, 0, 0), (14, .ireturn, 1, 0, 0)]]
def zm158 : ZMI := (yX12_clear, cX12_clear, 1, (some .boolean), 0, 0, 0, 0, 12, ze158)
def ze159 : List (List ZEn) := [[(0, .aload_n 0, 1, 0, 0), (1, .iconst 0, 1, 0, 0), (2, .putfield 1, 3, 12, 0), (5, .iload_n 1, 1, 0, 0), (6, .iconst 0, 1, 0, 0), (7, .sipush 9999, 3, 0, 0), (10, .invokestatic 347, 3, 0, 106), (13, .ifCond .eq 11, 3, 0, 0)],
  [(16, .aload_n 0, 1, 0, 0), (17, .iconst 0, 1, 0, 0), (18, .invokevirtual 267, 3, 0, 109), (21, .ifCond .ne 5, 3, 0, 0), (24, .iconst 0, 1, 0, 0), (25, .ireturn, 1, 0, 0)]]
def zm159 : ZMI := (yX12_drawn, cX12_drawn, 4, (some .boolean), 0, 0, 0, 1, 12, ze159)
def ze160 : List (List ZEn) := [[(0, .aload_n 0, 1, 0, 0), (1, .iconst 0, 1, 0, 0), (2, .putfield 1, 3, 12, 0), (5, .iload_n 1, 1, 0, 0), (6, .iconst 0, 1, 0, 0), (7, .sipush 9999, 3, 0, 0), (10, .invokestatic 347, 3, 0, 106), (13, .ifCond .eq 30, 3, 0, 0)],
  [(16, .iload_n 2, 1, 0, 0), (17, .iconst 1, 1, 0, 0), (18, .bipush 50, 2, 0, 0), (20, .invokestatic 347, 3, 0, 106), (23, .ifCond .eq 20, 3, 0, 0), (26, .iload_n 3, 1, 0, 0), (27, .iconst 0, 1, 0, 0), (28, .iconst 3, 1, 0, 0), (29, .invokestatic 347, 3, 0, 106)],
  [(32, .ifCond .eq 11, 3, 0, 0), (35, .aload_n 0, 1, 0, 0), (36, .iconst 0, 1, 0, 0), (37, .invokevirtual 267, 3, 0, 109), (40, .ifCond .ne 5, 3, 0, 0), (43, .iconst (-1), 1, 0, 0), (44, .ireturn, 1, 0, 0)]]
def zm160 : ZMI := (yX12_games, cX12_games, 7, (some .int), 0, 0, 0, 3, 12, ze160)
def ze161 : List (List ZEn) := [[(0, .aload_n 0, 1, 0, 0), (1, .iconst 0, 1, 0, 0), (2, .putfield 1, 3, 12, 0), (5, .iload_n 1, 1, 0, 0), (6, .iconst 0, 1, 0, 0), (7, .sipush 9999, 3, 0, 0), (10, .invokestatic 347, 3, 0, 106), (13, .ifCond .eq 27, 3, 0, 0)],
  [(16, .iload_n 2, 1, 0, 0), (17, .iconst 1, 1, 0, 0), (18, .sipush 200, 3, 0, 0), (21, .invokestatic 347, 3, 0, 106), (24, .ifCond .eq 16, 3, 0, 0), (27, .iload_n 3, 1, 0, 0), (28, .iconst (-1), 1, 0, 0), (29, .if_icmp .lt 11, 3, 0, 0)],
  [(32, .aload_n 0, 1, 0, 0), (33, .iconst 0, 1, 0, 0), (34, .invokevirtual 267, 3, 0, 109), (37, .ifCond .ne 5, 3, 0, 0), (40, .iconst (-1), 1, 0, 0), (41, .ireturn, 1, 0, 0)]]
def zm161 : ZMI := (yX12_looked, cX12_looked, 5, (some .int), 0, 0, 0, 3, 12, ze161)
def ze162 : List (List ZEn) := [[(0, .aload_n 0, 1, 0, 0), (1, .iconst 0, 1, 0, 0), (2, .putfield 1, 3, 12, 0), (5, .iload_n 1, 1, 0, 0), (6, .iconst 0, 1, 0, 0), (7, .iconst 3, 1, 0, 0), (8, .invokestatic 347, 3, 0, 106), (11, .ifCond .eq 16, 3, 0, 0), (14, .iload_n 2, 1, 0, 0), (15, .ifCond .eq 14, 3, 0, 0)],
  [(18, .aload_n 0, 1, 0, 0), (19, .getfield 118, 3, 12, 24), (22, .iload_n 1, 1, 0, 0), (23, .baload, 1, 0, 0), (24, .ifCond .ne 5, 3, 0, 0), (27, .iconst 0, 1, 0, 0), (28, .ireturn, 1, 0, 0), (29, .iload_n 2, 1, 0, 0), (30, .ifCond .eq 26, 3, 0, 0)],
  [],
  [(56, .aload_n 0, 1, 0, 0), (57, .getfield 118, 3, 12, 24), (60, .iload_n 1, 1, 0, 0), (61, .iconst 1, 1, 0, 0), (62, .bastore, 1, 0, 0), (63, .aload_n 0, 1, 0, 0)],
  [(64, .iconst 0, 1, 0, 0), (65, .sipush 460, 3, 0, 0), (68, .iconst 1, 1, 0, 0), (69, .iload_n 1, 1, 0, 0), (70, .iadd, 1, 0, 0), (71, .imul, 1, 0, 0), (72, .sipush 460, 3, 0, 0), (75, .invokevirtual 308, 3, 0, 113), (78, .iconst 1, 1, 0, 0), (79, .ireturn, 1, 0, 0)]]
def zm162 : ZMI := (yX12_mark, cX12_mark, 3, (some .boolean), 0, 0, 0, 2, 12, ze162)
def ze163 : List (List ZEn) := [[(0, .aload_n 0, 1, 0, 0), (1, .iconst 0, 1, 0, 0), (2, .putfield 1, 3, 12, 0), (5, .iload_n 1, 1, 0, 0), (6, .tableswitch 236 0 18 #[90, 95, 101, 108, 115, 122, 129, 136, 156, 164, 172, 180, 188, 196, 204, 212, 217, 224, 231], 90, 0, 0)],
  [],
  [],
  [],
  [],
  [],
  [(96, .aload_n 0, 1, 0, 0), (97, .invokevirtual 312, 3, 0, 116), (100, .ireturn, 1, 0, 0), (101, .aload_n 0, 1, 0, 0), (102, .iconst 0, 1, 0, 0), (103, .invokevirtual 267, 3, 0, 109), (106, .ireturn, 1, 0, 0), (107, .aload_n 0, 1, 0, 0), (108, .getfield 115, 3, 12, 22), (111, .iconst 0, 1, 0, 0)],
  [(112, .iaload, 1, 0, 0), (113, .ireturn, 1, 0, 0), (114, .aload_n 0, 1, 0, 0), (115, .getfield 115, 3, 12, 22), (118, .iconst 1, 1, 0, 0), (119, .iaload, 1, 0, 0), (120, .ireturn, 1, 0, 0), (121, .aload_n 0, 1, 0, 0), (122, .getfield 115, 3, 12, 22), (125, .iconst 2, 1, 0, 0), (126, .iaload, 1, 0, 0), (127, .ireturn, 1, 0, 0)],
  [(128, .aload_n 0, 1, 0, 0), (129, .getfield 115, 3, 12, 22), (132, .iconst 3, 1, 0, 0), (133, .iaload, 1, 0, 0), (134, .ireturn, 1, 0, 0), (135, .aload_n 0, 1, 0, 0), (136, .getfield 115, 3, 12, 22), (139, .iconst 4, 1, 0, 0), (140, .iaload, 1, 0, 0), (141, .ireturn, 1, 0, 0), (142, .aload_n 0, 1, 0, 0), (143, .getfield 115, 3, 12, 22)],
  [(146, .iconst 4, 1, 0, 0), (147, .iaload, 1, 0, 0), (148, .ifCond .le 12, 3, 0, 0)],
  [(160, .iconst (-1), 1, 0, 0), (161, .ireturn, 1, 0, 0), (162, .aload_n 0, 1, 0, 0), (163, .getfield 115, 3, 12, 22), (166, .bipush 6, 2, 0, 0), (168, .iaload, 1, 0, 0), (169, .ireturn, 1, 0, 0), (170, .aload_n 0, 1, 0, 0), (171, .getfield 115, 3, 12, 22), (174, .bipush 7, 2, 0, 0)],
  [(176, .iaload, 1, 0, 0), (177, .ireturn, 1, 0, 0), (178, .aload_n 0, 1, 0, 0), (179, .getfield 115, 3, 12, 22), (182, .bipush 8, 2, 0, 0), (184, .iaload, 1, 0, 0), (185, .ireturn, 1, 0, 0), (186, .aload_n 0, 1, 0, 0), (187, .getfield 115, 3, 12, 22), (190, .bipush 9, 2, 0, 0)],
  [(192, .iaload, 1, 0, 0), (193, .ireturn, 1, 0, 0), (194, .aload_n 0, 1, 0, 0), (195, .getfield 115, 3, 12, 22), (198, .bipush 10, 2, 0, 0), (200, .iaload, 1, 0, 0), (201, .ireturn, 1, 0, 0), (202, .aload_n 0, 1, 0, 0), (203, .getfield 85, 3, 12, 10), (206, .bipush 21, 2, 0, 0)],
  [(208, .iaload, 1, 0, 0), (209, .ireturn, 1, 0, 0), (210, .aload_n 0, 1, 0, 0), (211, .getfield 115, 3, 12, 22), (214, .bipush 13, 2, 0, 0), (216, .iaload, 1, 0, 0), (217, .ireturn, 1, 0, 0), (218, .aload_n 0, 1, 0, 0), (219, .getfield 237, 3, 12, 23), (222, .ireturn, 1, 0, 0), (223, .aload_n 0, 1, 0, 0)],
  [(224, .getfield 85, 3, 12, 10), (227, .iconst 3, 1, 0, 0), (228, .iaload, 1, 0, 0), (229, .ireturn, 1, 0, 0), (230, .aload_n 0, 1, 0, 0), (231, .getfield 85, 3, 12, 10), (234, .iconst 1, 1, 0, 0), (235, .iaload, 1, 0, 0), (236, .ireturn, 1, 0, 0), (237, .aload_n 0, 1, 0, 0), (238, .getfield 11, 3, 12, 2)],
  [(241, .ireturn, 1, 0, 0), (242, .iconst (-1), 1, 0, 0), (243, .ireturn, 1, 0, 0)]]
def zm163 : ZMI := (yX12_count, cX12_count, 2, (some .int), 0, 0, 0, 1, 12, ze163)
def ze164_0 : List ZEn := [(0, .new 8, 3, 11, 0), (3, .dup, 1, 0, 0), (4, .invokespecial 15, 3, 0, 64), (7, .astore_n 1, 1, 0, 0), (8, .new 16, 3, 12, 0), (11, .dup, 1, 0, 0), (12, .invokespecial 18, 3, 0, 104), (15, .astore_n 2, 1, 0, 0)]
def ze164_1 : List ZEn := [(16, .iconst 1, 1, 0, 0), (17, .newarray .long, 2, 0, 0), (19, .astore_n 3, 1, 0, 0), (20, .iconst 0, 1, 0, 0), (21, .istore 4, 2, 0, 0), (23, .iload 4, 2, 0, 0), (25, .aload_n 0, 1, 0, 0), (26, .arraylength, 1, 0, 0), (27, .bipush 7, 2, 0, 0), (29, .isub, 1, 0, 0), (30, .if_icmp .gt 1300, 3, 0, 0)]
def ze164_2 : List ZEn := [(33, .aload_n 0, 1, 0, 0), (34, .iload 4, 2, 0, 0), (36, .iaload, 1, 0, 0), (37, .bipush 63, 2, 0, 0), (39, .iand, 1, 0, 0), (40, .tableswitch 1284 0 34 #[156, 303, 316, 329, 342, 379, 416, 441, 478, 503, 528, 541, 554, 579, 604, 641, 666, 703, 740, 789, 814, 839, 852, 889, 914, 951, 976, 1001, 1026, 1070, 1083, 1108, 1157, 1206, 1259], 156, 0, 0)]
def ze164_3 : List ZEn := []
def ze164_4 : List ZEn := []
def ze164_5 : List ZEn := []
def ze164_6 : List ZEn := []
def ze164_7 : List ZEn := []
def ze164_8 : List ZEn := []
def ze164_9 : List ZEn := []
def ze164_10 : List ZEn := []
def ze164_11 : List ZEn := []
def ze164_12 : List ZEn := [(196, .aload_n 1, 1, 0, 0), (197, .aload_n 0, 1, 0, 0), (198, .iload 4, 2, 0, 0), (200, .iconst 1, 1, 0, 0), (201, .iadd, 1, 0, 0), (202, .iaload, 1, 0, 0), (204, .bipush 32, 2, 0, 0), (207, .aload_n 0, 1, 0, 0)]
def ze164_13 : List ZEn := [(208, .iload 4, 2, 0, 0), (210, .iconst 2, 1, 0, 0), (211, .iadd, 1, 0, 0), (212, .iaload, 1, 0, 0), (219, .aload_n 0, 1, 0, 0), (220, .iload 4, 2, 0, 0), (222, .iconst 3, 1, 0, 0), (223, .iadd, 1, 0, 0)]
def ze164_14 : List ZEn := [(224, .iaload, 1, 0, 0), (226, .bipush 32, 2, 0, 0), (229, .aload_n 0, 1, 0, 0), (230, .iload 4, 2, 0, 0), (232, .iconst 4, 1, 0, 0), (233, .iadd, 1, 0, 0), (234, .iaload, 1, 0, 0)]
def ze164_15 : List ZEn := [(241, .aload_n 0, 1, 0, 0), (242, .iload 4, 2, 0, 0), (244, .iconst 5, 1, 0, 0), (245, .iadd, 1, 0, 0), (246, .iaload, 1, 0, 0), (248, .bipush 32, 2, 0, 0), (251, .aload_n 0, 1, 0, 0), (252, .iload 4, 2, 0, 0), (254, .bipush 6, 2, 0, 0)]
def ze164_16 : List ZEn := [(256, .iadd, 1, 0, 0), (257, .iaload, 1, 0, 0), (264, .invokevirtual 21, 3, 98, 0), (267, .aload_n 2, 1, 0, 0), (268, .aload_n 0, 1, 0, 0), (269, .iload 4, 2, 0, 0), (271, .iconst 1, 1, 0, 0)]
def ze164_17 : List ZEn := [(272, .iadd, 1, 0, 0), (273, .iaload, 1, 0, 0), (275, .bipush 32, 2, 0, 0), (278, .aload_n 0, 1, 0, 0), (279, .iload 4, 2, 0, 0), (281, .iconst 2, 1, 0, 0), (282, .iadd, 1, 0, 0), (283, .iaload, 1, 0, 0)]
def ze164_18 : List ZEn := [(290, .aload_n 0, 1, 0, 0), (291, .iload 4, 2, 0, 0), (293, .iconst 3, 1, 0, 0), (294, .iadd, 1, 0, 0), (295, .iaload, 1, 0, 0), (297, .bipush 32, 2, 0, 0), (300, .aload_n 0, 1, 0, 0), (301, .iload 4, 2, 0, 0), (303, .iconst 4, 1, 0, 0)]
def ze164_19 : List ZEn := [(304, .iadd, 1, 0, 0), (305, .iaload, 1, 0, 0), (312, .aload_n 0, 1, 0, 0), (313, .iload 4, 2, 0, 0), (315, .iconst 5, 1, 0, 0), (316, .iadd, 1, 0, 0), (317, .iaload, 1, 0, 0), (319, .bipush 32, 2, 0, 0)]
def ze164_20 : List ZEn := [(322, .aload_n 0, 1, 0, 0), (323, .iload 4, 2, 0, 0), (325, .bipush 6, 2, 0, 0), (327, .iadd, 1, 0, 0), (328, .iaload, 1, 0, 0), (335, .invokevirtual 25, 3, 98, 0)]
def ze164_21 : List ZEn := [(338, .if_icmp .eq 986, 3, 0, 0), (341, .iconst 0, 1, 0, 0), (342, .ireturn, 1, 0, 0), (343, .aload_n 1, 1, 0, 0), (344, .invokevirtual 26, 3, 0, 65), (347, .aload_n 2, 1, 0, 0), (348, .invokevirtual 29, 3, 0, 108), (351, .if_icmp .eq 973, 3, 0, 0)]
def ze164_22 : List ZEn := [(354, .iconst 0, 1, 0, 0), (355, .ireturn, 1, 0, 0), (356, .aload_n 1, 1, 0, 0), (357, .invokevirtual 30, 3, 0, 66), (360, .aload_n 2, 1, 0, 0), (361, .invokevirtual 33, 3, 0, 110), (364, .if_icmp .eq 960, 3, 0, 0), (367, .iconst 0, 1, 0, 0)]
def ze164_23 : List ZEn := [(368, .ireturn, 1, 0, 0), (369, .aload_n 1, 1, 0, 0), (370, .invokevirtual 34, 3, 0, 67), (373, .aload_n 2, 1, 0, 0), (374, .invokevirtual 37, 3, 0, 112), (377, .if_icmp .eq 947, 3, 0, 0), (380, .iconst 0, 1, 0, 0), (381, .ireturn, 1, 0, 0), (382, .aload_n 1, 1, 0, 0), (383, .aload_n 0, 1, 0, 0)]
def ze164_24 : List ZEn := [(384, .iload 4, 2, 0, 0), (386, .iconst 1, 1, 0, 0), (387, .iadd, 1, 0, 0), (388, .iaload, 1, 0, 0), (389, .aload_n 0, 1, 0, 0), (390, .iload 4, 2, 0, 0), (392, .iconst 2, 1, 0, 0), (393, .iadd, 1, 0, 0), (394, .iaload, 1, 0, 0), (395, .invokevirtual 38, 3, 0, 68), (398, .aload_n 2, 1, 0, 0), (399, .aload_n 0, 1, 0, 0)]
def ze164_25 : List ZEn := [(400, .iload 4, 2, 0, 0), (402, .iconst 1, 1, 0, 0), (403, .iadd, 1, 0, 0), (404, .iaload, 1, 0, 0), (405, .aload_n 0, 1, 0, 0), (406, .iload 4, 2, 0, 0), (408, .iconst 2, 1, 0, 0), (409, .iadd, 1, 0, 0), (410, .iaload, 1, 0, 0), (411, .invokevirtual 42, 3, 0, 120), (414, .if_icmp .eq 910, 3, 0, 0)]
def ze164_26 : List ZEn := [(417, .iconst 0, 1, 0, 0), (418, .ireturn, 1, 0, 0), (419, .aload_n 1, 1, 0, 0), (420, .aload_n 0, 1, 0, 0), (421, .iload 4, 2, 0, 0), (423, .iconst 1, 1, 0, 0), (424, .iadd, 1, 0, 0), (425, .iaload, 1, 0, 0), (426, .aload_n 0, 1, 0, 0), (427, .iload 4, 2, 0, 0), (429, .iconst 2, 1, 0, 0), (430, .iadd, 1, 0, 0), (431, .iaload, 1, 0, 0)]
def ze164_27 : List ZEn := [(432, .invokevirtual 43, 3, 0, 69), (435, .aload_n 2, 1, 0, 0), (436, .aload_n 0, 1, 0, 0), (437, .iload 4, 2, 0, 0), (439, .iconst 1, 1, 0, 0), (440, .iadd, 1, 0, 0), (441, .iaload, 1, 0, 0), (442, .aload_n 0, 1, 0, 0), (443, .iload 4, 2, 0, 0), (445, .iconst 2, 1, 0, 0), (446, .iadd, 1, 0, 0), (447, .iaload, 1, 0, 0)]
def ze164_28 : List ZEn := [(448, .invokevirtual 46, 3, 0, 121), (451, .if_icmp .eq 873, 3, 0, 0), (454, .iconst 0, 1, 0, 0), (455, .ireturn, 1, 0, 0), (456, .aload_n 1, 1, 0, 0), (457, .aload_n 0, 1, 0, 0), (458, .iload 4, 2, 0, 0), (460, .iconst 1, 1, 0, 0), (461, .iadd, 1, 0, 0), (462, .iaload, 1, 0, 0), (463, .invokevirtual 47, 3, 0, 70)]
def ze164_29 : List ZEn := [(466, .aload_n 2, 1, 0, 0), (467, .aload_n 0, 1, 0, 0), (468, .iload 4, 2, 0, 0), (470, .iconst 1, 1, 0, 0), (471, .iadd, 1, 0, 0), (472, .iaload, 1, 0, 0), (473, .invokevirtual 51, 3, 0, 122), (476, .if_icmp .eq 848, 3, 0, 0), (479, .iconst 0, 1, 0, 0)]
def ze164_30 : List ZEn := [(480, .ireturn, 1, 0, 0), (481, .aload_n 1, 1, 0, 0), (482, .aload_n 0, 1, 0, 0), (483, .iload 4, 2, 0, 0), (485, .iconst 1, 1, 0, 0), (486, .iadd, 1, 0, 0), (487, .iaload, 1, 0, 0), (488, .aload_n 0, 1, 0, 0), (489, .iload 4, 2, 0, 0), (491, .iconst 2, 1, 0, 0), (492, .iadd, 1, 0, 0), (493, .iaload, 1, 0, 0), (494, .invokevirtual 52, 3, 0, 71)]
def ze164_31 : List ZEn := [(497, .aload_n 2, 1, 0, 0), (498, .aload_n 0, 1, 0, 0), (499, .iload 4, 2, 0, 0), (501, .iconst 1, 1, 0, 0), (502, .iadd, 1, 0, 0), (503, .iaload, 1, 0, 0), (504, .aload_n 0, 1, 0, 0), (505, .iload 4, 2, 0, 0), (507, .iconst 2, 1, 0, 0), (508, .iadd, 1, 0, 0), (509, .iaload, 1, 0, 0), (510, .invokevirtual 55, 3, 0, 123)]
def ze164_32 : List ZEn := [(513, .if_icmp .eq 811, 3, 0, 0), (516, .iconst 0, 1, 0, 0), (517, .ireturn, 1, 0, 0), (518, .aload_n 1, 1, 0, 0), (519, .aload_n 0, 1, 0, 0), (520, .iload 4, 2, 0, 0), (522, .iconst 1, 1, 0, 0), (523, .iadd, 1, 0, 0), (524, .iaload, 1, 0, 0), (525, .invokevirtual 56, 3, 0, 72)]
def ze164_33 : List ZEn := [(528, .aload_n 2, 1, 0, 0), (529, .aload_n 0, 1, 0, 0), (530, .iload 4, 2, 0, 0), (532, .iconst 1, 1, 0, 0), (533, .iadd, 1, 0, 0), (534, .iaload, 1, 0, 0), (535, .invokevirtual 59, 3, 0, 124), (538, .if_icmp .eq 786, 3, 0, 0), (541, .iconst 0, 1, 0, 0), (542, .ireturn, 1, 0, 0), (543, .aload_n 1, 1, 0, 0)]
def ze164_34 : List ZEn := [(544, .aload_n 0, 1, 0, 0), (545, .iload 4, 2, 0, 0), (547, .iconst 1, 1, 0, 0), (548, .iadd, 1, 0, 0), (549, .iaload, 1, 0, 0), (550, .invokevirtual 60, 3, 0, 73), (553, .aload_n 2, 1, 0, 0), (554, .aload_n 0, 1, 0, 0), (555, .iload 4, 2, 0, 0), (557, .iconst 1, 1, 0, 0), (558, .iadd, 1, 0, 0), (559, .iaload, 1, 0, 0)]
def ze164_35 : List ZEn := [(560, .invokevirtual 64, 3, 0, 125), (563, .if_icmp .eq 761, 3, 0, 0), (566, .iconst 0, 1, 0, 0), (567, .ireturn, 1, 0, 0), (568, .aload_n 1, 1, 0, 0), (569, .invokevirtual 65, 3, 0, 74), (572, .aload_n 2, 1, 0, 0), (573, .invokevirtual 69, 3, 0, 126)]
def ze164_36 : List ZEn := [(576, .if_icmp .eq 748, 3, 0, 0), (579, .iconst 0, 1, 0, 0), (580, .ireturn, 1, 0, 0), (581, .aload_n 1, 1, 0, 0), (582, .invokevirtual 70, 3, 0, 75), (585, .aload_n 2, 1, 0, 0), (586, .invokevirtual 73, 3, 0, 127), (589, .if_icmp .eq 735, 3, 0, 0)]
def ze164_37 : List ZEn := [(592, .iconst 0, 1, 0, 0), (593, .ireturn, 1, 0, 0), (594, .aload_n 1, 1, 0, 0), (595, .aload_n 0, 1, 0, 0), (596, .iload 4, 2, 0, 0), (598, .iconst 1, 1, 0, 0), (599, .iadd, 1, 0, 0), (600, .iaload, 1, 0, 0), (601, .invokevirtual 74, 3, 0, 76), (604, .aload_n 2, 1, 0, 0), (605, .aload_n 0, 1, 0, 0), (606, .iload 4, 2, 0, 0)]
def ze164_38 : List ZEn := [(608, .iconst 1, 1, 0, 0), (609, .iadd, 1, 0, 0), (610, .iaload, 1, 0, 0), (611, .invokevirtual 77, 3, 0, 130), (614, .if_icmp .eq 710, 3, 0, 0), (617, .iconst 0, 1, 0, 0), (618, .ireturn, 1, 0, 0), (619, .aload_n 1, 1, 0, 0), (620, .aload_n 0, 1, 0, 0), (621, .iload 4, 2, 0, 0), (623, .iconst 1, 1, 0, 0)]
def ze164_39 : List ZEn := [(624, .iadd, 1, 0, 0), (625, .iaload, 1, 0, 0), (626, .invokevirtual 78, 3, 0, 77), (629, .aload_n 2, 1, 0, 0), (630, .aload_n 0, 1, 0, 0), (631, .iload 4, 2, 0, 0), (633, .iconst 1, 1, 0, 0), (634, .iadd, 1, 0, 0), (635, .iaload, 1, 0, 0), (636, .invokevirtual 81, 3, 0, 135), (639, .if_icmp .eq 685, 3, 0, 0)]
def ze164_40 : List ZEn := [(642, .iconst 0, 1, 0, 0), (643, .ireturn, 1, 0, 0), (644, .aload_n 1, 1, 0, 0), (645, .aload_n 0, 1, 0, 0), (646, .iload 4, 2, 0, 0), (648, .iconst 1, 1, 0, 0), (649, .iadd, 1, 0, 0), (650, .iaload, 1, 0, 0), (651, .aload_n 0, 1, 0, 0), (652, .iload 4, 2, 0, 0), (654, .iconst 2, 1, 0, 0), (655, .iadd, 1, 0, 0)]
def ze164_41 : List ZEn := [(656, .iaload, 1, 0, 0), (657, .invokevirtual 82, 3, 0, 78), (660, .aload_n 2, 1, 0, 0), (661, .aload_n 0, 1, 0, 0), (662, .iload 4, 2, 0, 0), (664, .iconst 1, 1, 0, 0), (665, .iadd, 1, 0, 0), (666, .iaload, 1, 0, 0), (667, .aload_n 0, 1, 0, 0), (668, .iload 4, 2, 0, 0), (670, .iconst 2, 1, 0, 0), (671, .iadd, 1, 0, 0)]
def ze164_42 : List ZEn := [(672, .iaload, 1, 0, 0), (673, .invokevirtual 85, 3, 0, 136), (676, .if_icmp .eq 648, 3, 0, 0), (679, .iconst 0, 1, 0, 0), (680, .ireturn, 1, 0, 0), (681, .aload_n 1, 1, 0, 0), (682, .aload_n 0, 1, 0, 0), (683, .iload 4, 2, 0, 0), (685, .iconst 1, 1, 0, 0), (686, .iadd, 1, 0, 0), (687, .iaload, 1, 0, 0)]
def ze164_43 : List ZEn := [(688, .invokevirtual 86, 3, 0, 79), (691, .aload_n 2, 1, 0, 0), (692, .aload_n 0, 1, 0, 0), (693, .iload 4, 2, 0, 0), (695, .iconst 1, 1, 0, 0), (696, .iadd, 1, 0, 0), (697, .iaload, 1, 0, 0), (698, .invokevirtual 89, 3, 0, 137), (701, .if_icmp .eq 623, 3, 0, 0)]
def ze164_44 : List ZEn := [(704, .iconst 0, 1, 0, 0), (705, .ireturn, 1, 0, 0), (706, .aload_n 1, 1, 0, 0), (707, .aload_n 0, 1, 0, 0), (708, .iload 4, 2, 0, 0), (710, .iconst 1, 1, 0, 0), (711, .iadd, 1, 0, 0), (712, .iaload, 1, 0, 0), (713, .aload_n 0, 1, 0, 0), (714, .iload 4, 2, 0, 0), (716, .iconst 2, 1, 0, 0), (717, .iadd, 1, 0, 0), (718, .iaload, 1, 0, 0), (719, .invokevirtual 90, 3, 0, 80)]
def ze164_45 : List ZEn := [(722, .aload_n 2, 1, 0, 0), (723, .aload_n 0, 1, 0, 0), (724, .iload 4, 2, 0, 0), (726, .iconst 1, 1, 0, 0), (727, .iadd, 1, 0, 0), (728, .iaload, 1, 0, 0), (729, .aload_n 0, 1, 0, 0), (730, .iload 4, 2, 0, 0), (732, .iconst 2, 1, 0, 0), (733, .iadd, 1, 0, 0), (734, .iaload, 1, 0, 0), (735, .invokevirtual 93, 3, 0, 138)]
def ze164_46 : List ZEn := [(738, .if_icmp .eq 586, 3, 0, 0), (741, .iconst 0, 1, 0, 0), (742, .ireturn, 1, 0, 0), (743, .aload_n 1, 1, 0, 0), (744, .aload_n 0, 1, 0, 0), (745, .iload 4, 2, 0, 0), (747, .iconst 1, 1, 0, 0), (748, .iadd, 1, 0, 0), (749, .iaload, 1, 0, 0), (750, .aload_n 0, 1, 0, 0), (751, .iload 4, 2, 0, 0)]
def ze164_47 : List ZEn := [(753, .iconst 2, 1, 0, 0), (754, .iadd, 1, 0, 0), (755, .iaload, 1, 0, 0), (756, .invokevirtual 94, 3, 0, 81), (759, .aload_n 2, 1, 0, 0), (760, .aload_n 0, 1, 0, 0), (761, .iload 4, 2, 0, 0), (763, .iconst 1, 1, 0, 0), (764, .iadd, 1, 0, 0), (765, .iaload, 1, 0, 0), (766, .aload_n 0, 1, 0, 0), (767, .iload 4, 2, 0, 0)]
def ze164_48 : List ZEn := [(769, .iconst 2, 1, 0, 0), (770, .iadd, 1, 0, 0), (771, .iaload, 1, 0, 0), (772, .invokevirtual 97, 3, 0, 139), (775, .if_icmp .eq 549, 3, 0, 0), (778, .iconst 0, 1, 0, 0), (779, .ireturn, 1, 0, 0), (780, .aload_n 1, 1, 0, 0), (781, .aload_n 0, 1, 0, 0), (782, .iload 4, 2, 0, 0)]
def ze164_49 : List ZEn := [(784, .iconst 1, 1, 0, 0), (785, .iadd, 1, 0, 0), (786, .iaload, 1, 0, 0), (787, .aload_n 0, 1, 0, 0), (788, .iload 4, 2, 0, 0), (790, .iconst 2, 1, 0, 0), (791, .iadd, 1, 0, 0), (792, .iaload, 1, 0, 0), (793, .aload_n 0, 1, 0, 0), (794, .iload 4, 2, 0, 0), (796, .iconst 3, 1, 0, 0), (797, .iadd, 1, 0, 0), (798, .iaload, 1, 0, 0), (799, .invokevirtual 98, 3, 0, 82)]
def ze164_50 : List ZEn := [(802, .aload_n 2, 1, 0, 0), (803, .aload_n 0, 1, 0, 0), (804, .iload 4, 2, 0, 0), (806, .iconst 1, 1, 0, 0), (807, .iadd, 1, 0, 0), (808, .iaload, 1, 0, 0), (809, .aload_n 0, 1, 0, 0), (810, .iload 4, 2, 0, 0), (812, .iconst 2, 1, 0, 0), (813, .iadd, 1, 0, 0), (814, .iaload, 1, 0, 0), (815, .aload_n 0, 1, 0, 0)]
def ze164_51 : List ZEn := [(816, .iload 4, 2, 0, 0), (818, .iconst 3, 1, 0, 0), (819, .iadd, 1, 0, 0), (820, .iaload, 1, 0, 0), (821, .invokevirtual 102, 3, 0, 140), (824, .if_icmp .eq 500, 3, 0, 0), (827, .iconst 0, 1, 0, 0), (828, .ireturn, 1, 0, 0), (829, .aload_n 1, 1, 0, 0), (830, .aload_n 0, 1, 0, 0), (831, .iload 4, 2, 0, 0)]
def ze164_52 : List ZEn := [(833, .iconst 1, 1, 0, 0), (834, .iadd, 1, 0, 0), (835, .iaload, 1, 0, 0), (836, .invokevirtual 103, 3, 0, 83), (839, .aload_n 2, 1, 0, 0), (840, .aload_n 0, 1, 0, 0), (841, .iload 4, 2, 0, 0), (843, .iconst 1, 1, 0, 0), (844, .iadd, 1, 0, 0), (845, .iaload, 1, 0, 0), (846, .invokevirtual 106, 3, 0, 142)]
def ze164_53 : List ZEn := [(849, .if_icmp .eq 475, 3, 0, 0), (852, .iconst 0, 1, 0, 0), (853, .ireturn, 1, 0, 0), (854, .aload_n 1, 1, 0, 0), (855, .aload_n 0, 1, 0, 0), (856, .iload 4, 2, 0, 0), (858, .iconst 1, 1, 0, 0), (859, .iadd, 1, 0, 0), (860, .iaload, 1, 0, 0), (861, .invokevirtual 107, 3, 0, 84)]
def ze164_54 : List ZEn := [(864, .aload_n 2, 1, 0, 0), (865, .aload_n 0, 1, 0, 0), (866, .iload 4, 2, 0, 0), (868, .iconst 1, 1, 0, 0), (869, .iadd, 1, 0, 0), (870, .iaload, 1, 0, 0), (871, .invokevirtual 110, 3, 0, 144), (874, .if_icmp .eq 450, 3, 0, 0), (877, .iconst 0, 1, 0, 0), (878, .ireturn, 1, 0, 0), (879, .aload_n 1, 1, 0, 0)]
def ze164_55 : List ZEn := [(880, .invokevirtual 111, 3, 0, 85), (883, .aload_n 2, 1, 0, 0), (884, .invokevirtual 114, 3, 0, 146), (887, .if_icmp .eq 437, 3, 0, 0), (890, .iconst 0, 1, 0, 0), (891, .ireturn, 1, 0, 0), (892, .aload_n 1, 1, 0, 0), (893, .aload_n 0, 1, 0, 0), (894, .iload 4, 2, 0, 0)]
def ze164_56 : List ZEn := [(896, .iconst 1, 1, 0, 0), (897, .iadd, 1, 0, 0), (898, .iaload, 1, 0, 0), (899, .aload_n 0, 1, 0, 0), (900, .iload 4, 2, 0, 0), (902, .iconst 2, 1, 0, 0), (903, .iadd, 1, 0, 0), (904, .iaload, 1, 0, 0), (905, .invokevirtual 115, 3, 0, 86), (908, .aload_n 2, 1, 0, 0), (909, .aload_n 0, 1, 0, 0), (910, .iload 4, 2, 0, 0)]
def ze164_57 : List ZEn := [(912, .iconst 1, 1, 0, 0), (913, .iadd, 1, 0, 0), (914, .iaload, 1, 0, 0), (915, .aload_n 0, 1, 0, 0), (916, .iload 4, 2, 0, 0), (918, .iconst 2, 1, 0, 0), (919, .iadd, 1, 0, 0), (920, .iaload, 1, 0, 0), (921, .invokevirtual 118, 3, 0, 147), (924, .if_icmp .eq 400, 3, 0, 0), (927, .iconst 0, 1, 0, 0)]
def ze164_58 : List ZEn := [(928, .ireturn, 1, 0, 0), (929, .aload_n 1, 1, 0, 0), (930, .aload_n 0, 1, 0, 0), (931, .iload 4, 2, 0, 0), (933, .iconst 1, 1, 0, 0), (934, .iadd, 1, 0, 0), (935, .iaload, 1, 0, 0), (936, .invokevirtual 119, 3, 0, 87), (939, .aload_n 2, 1, 0, 0), (940, .aload_n 0, 1, 0, 0), (941, .iload 4, 2, 0, 0), (943, .iconst 1, 1, 0, 0)]
def ze164_59 : List ZEn := [(944, .iadd, 1, 0, 0), (945, .iaload, 1, 0, 0), (946, .invokevirtual 122, 3, 0, 148), (949, .if_icmp .eq 375, 3, 0, 0), (952, .iconst 0, 1, 0, 0), (953, .ireturn, 1, 0, 0), (954, .aload_n 1, 1, 0, 0), (955, .aload_n 0, 1, 0, 0), (956, .iload 4, 2, 0, 0), (958, .iconst 1, 1, 0, 0), (959, .iadd, 1, 0, 0)]
def ze164_60 : List ZEn := [(960, .iaload, 1, 0, 0), (961, .aload_n 0, 1, 0, 0), (962, .iload 4, 2, 0, 0), (964, .iconst 2, 1, 0, 0), (965, .iadd, 1, 0, 0), (966, .iaload, 1, 0, 0), (967, .invokevirtual 123, 3, 0, 88), (970, .aload_n 2, 1, 0, 0), (971, .aload_n 0, 1, 0, 0), (972, .iload 4, 2, 0, 0), (974, .iconst 1, 1, 0, 0), (975, .iadd, 1, 0, 0)]
def ze164_61 : List ZEn := [(976, .iaload, 1, 0, 0), (977, .aload_n 0, 1, 0, 0), (978, .iload 4, 2, 0, 0), (980, .iconst 2, 1, 0, 0), (981, .iadd, 1, 0, 0), (982, .iaload, 1, 0, 0), (983, .invokevirtual 126, 3, 0, 152), (986, .if_icmp .eq 338, 3, 0, 0), (989, .iconst 0, 1, 0, 0), (990, .ireturn, 1, 0, 0), (991, .aload_n 1, 1, 0, 0)]
def ze164_62 : List ZEn := [(992, .aload_n 0, 1, 0, 0), (993, .iload 4, 2, 0, 0), (995, .iconst 1, 1, 0, 0), (996, .iadd, 1, 0, 0), (997, .iaload, 1, 0, 0), (998, .invokevirtual 127, 3, 0, 89), (1001, .aload_n 2, 1, 0, 0), (1002, .aload_n 0, 1, 0, 0), (1003, .iload 4, 2, 0, 0), (1005, .iconst 1, 1, 0, 0), (1006, .iadd, 1, 0, 0), (1007, .iaload, 1, 0, 0)]
def ze164_63 : List ZEn := [(1008, .invokevirtual 130, 3, 0, 154), (1011, .if_icmp .eq 313, 3, 0, 0), (1014, .iconst 0, 1, 0, 0), (1015, .ireturn, 1, 0, 0), (1016, .aload_n 1, 1, 0, 0), (1017, .aload_n 0, 1, 0, 0), (1018, .iload 4, 2, 0, 0), (1020, .iconst 1, 1, 0, 0), (1021, .iadd, 1, 0, 0), (1022, .iaload, 1, 0, 0), (1023, .invokevirtual 131, 3, 0, 90)]
def ze164_64 : List ZEn := [(1026, .aload_n 2, 1, 0, 0), (1027, .aload_n 0, 1, 0, 0), (1028, .iload 4, 2, 0, 0), (1030, .iconst 1, 1, 0, 0), (1031, .iadd, 1, 0, 0), (1032, .iaload, 1, 0, 0), (1033, .invokevirtual 134, 3, 0, 155), (1036, .if_icmp .eq 288, 3, 0, 0), (1039, .iconst 0, 1, 0, 0)]
def ze164_65 : List ZEn := [(1040, .ireturn, 1, 0, 0), (1041, .aload_n 1, 1, 0, 0), (1042, .aload_n 0, 1, 0, 0), (1043, .iload 4, 2, 0, 0), (1045, .iconst 1, 1, 0, 0), (1046, .iadd, 1, 0, 0), (1047, .iaload, 1, 0, 0), (1048, .invokevirtual 135, 3, 0, 91), (1051, .aload_n 2, 1, 0, 0), (1052, .aload_n 0, 1, 0, 0), (1053, .iload 4, 2, 0, 0), (1055, .iconst 1, 1, 0, 0)]
def ze164_66 : List ZEn := [(1056, .iadd, 1, 0, 0), (1057, .iaload, 1, 0, 0), (1058, .invokevirtual 138, 3, 0, 156), (1061, .if_icmp .eq 263, 3, 0, 0), (1064, .iconst 0, 1, 0, 0), (1065, .ireturn, 1, 0, 0), (1066, .aload_n 1, 1, 0, 0), (1067, .aload_n 3, 1, 0, 0), (1068, .invokestatic 139, 3, 8, 0), (1071, .istore 5, 2, 0, 0)]
def ze164_67 : List ZEn := [(1073, .aload_n 2, 1, 0, 0), (1074, .invokevirtual 144, 3, 0, 157), (1077, .istore 6, 2, 0, 0), (1079, .aload_n 2, 1, 0, 0), (1080, .invokevirtual 145, 3, 0, 103), (1083, .iload 5, 2, 0, 0), (1085, .if_icmp .eq 5, 3, 0, 0)]
def ze164_68 : List ZEn := [(1088, .iconst 0, 1, 0, 0), (1089, .ireturn, 1, 0, 0), (1090, .iload 5, 2, 0, 0), (1092, .ifCond .ne 15, 3, 0, 0), (1095, .aload_n 3, 1, 0, 0), (1096, .iconst 0, 1, 0, 0), (1097, .laload, 1, 0, 0), (1098, .iload 6, 2, 0, 0), (1101, .lcmp, 1, 0, 0), (1102, .ifCond .eq 5, 3, 0, 0)]
def ze164_69 : List ZEn := [(1105, .iconst 0, 1, 0, 0), (1106, .ireturn, 1, 0, 0), (1107, .goto 217, 3, 0, 0), (1110, .aload_n 1, 1, 0, 0), (1111, .invokevirtual 148, 3, 0, 92), (1114, .aload_n 2, 1, 0, 0), (1115, .invokevirtual 151, 3, 0, 158), (1118, .if_icmp .eq 206, 3, 0, 0)]
def ze164_70 : List ZEn := [(1121, .iconst 0, 1, 0, 0), (1122, .ireturn, 1, 0, 0), (1123, .aload_n 1, 1, 0, 0), (1124, .aload_n 0, 1, 0, 0), (1125, .iload 4, 2, 0, 0), (1127, .iconst 1, 1, 0, 0), (1128, .iadd, 1, 0, 0), (1129, .iaload, 1, 0, 0), (1130, .invokevirtual 152, 3, 0, 93), (1133, .aload_n 2, 1, 0, 0), (1134, .aload_n 0, 1, 0, 0), (1135, .iload 4, 2, 0, 0)]
def ze164_71 : List ZEn := [(1137, .iconst 1, 1, 0, 0), (1138, .iadd, 1, 0, 0), (1139, .iaload, 1, 0, 0), (1140, .invokevirtual 155, 3, 0, 159), (1143, .if_icmp .eq 181, 3, 0, 0), (1146, .iconst 0, 1, 0, 0), (1147, .ireturn, 1, 0, 0), (1148, .aload_n 1, 1, 0, 0), (1149, .aload_n 0, 1, 0, 0), (1150, .iload 4, 2, 0, 0)]
def ze164_72 : List ZEn := [(1152, .iconst 1, 1, 0, 0), (1153, .iadd, 1, 0, 0), (1154, .iaload, 1, 0, 0), (1155, .aload_n 0, 1, 0, 0), (1156, .iload 4, 2, 0, 0), (1158, .iconst 2, 1, 0, 0), (1159, .iadd, 1, 0, 0), (1160, .iaload, 1, 0, 0), (1161, .aload_n 0, 1, 0, 0), (1162, .iload 4, 2, 0, 0), (1164, .iconst 3, 1, 0, 0), (1165, .iadd, 1, 0, 0), (1166, .iaload, 1, 0, 0), (1167, .invokevirtual 156, 3, 0, 94)]
def ze164_73 : List ZEn := [(1170, .aload_n 2, 1, 0, 0), (1171, .aload_n 0, 1, 0, 0), (1172, .iload 4, 2, 0, 0), (1174, .iconst 1, 1, 0, 0), (1175, .iadd, 1, 0, 0), (1176, .iaload, 1, 0, 0), (1177, .aload_n 0, 1, 0, 0), (1178, .iload 4, 2, 0, 0), (1180, .iconst 2, 1, 0, 0), (1181, .iadd, 1, 0, 0), (1182, .iaload, 1, 0, 0), (1183, .aload_n 0, 1, 0, 0)]
def ze164_74 : List ZEn := [(1184, .iload 4, 2, 0, 0), (1186, .iconst 3, 1, 0, 0), (1187, .iadd, 1, 0, 0), (1188, .iaload, 1, 0, 0), (1189, .invokevirtual 159, 3, 0, 160), (1192, .if_icmp .eq 132, 3, 0, 0), (1195, .iconst 0, 1, 0, 0), (1196, .ireturn, 1, 0, 0), (1197, .aload_n 1, 1, 0, 0), (1198, .aload_n 0, 1, 0, 0), (1199, .iload 4, 2, 0, 0)]
def ze164_75 : List ZEn := [(1201, .iconst 1, 1, 0, 0), (1202, .iadd, 1, 0, 0), (1203, .iaload, 1, 0, 0), (1204, .aload_n 0, 1, 0, 0), (1205, .iload 4, 2, 0, 0), (1207, .iconst 2, 1, 0, 0), (1208, .iadd, 1, 0, 0), (1209, .iaload, 1, 0, 0), (1210, .aload_n 0, 1, 0, 0), (1211, .iload 4, 2, 0, 0), (1213, .iconst 3, 1, 0, 0), (1214, .iadd, 1, 0, 0), (1215, .iaload, 1, 0, 0)]
def ze164_76 : List ZEn := [(1216, .invokevirtual 160, 3, 0, 95), (1219, .aload_n 2, 1, 0, 0), (1220, .aload_n 0, 1, 0, 0), (1221, .iload 4, 2, 0, 0), (1223, .iconst 1, 1, 0, 0), (1224, .iadd, 1, 0, 0), (1225, .iaload, 1, 0, 0), (1226, .aload_n 0, 1, 0, 0), (1227, .iload 4, 2, 0, 0), (1229, .iconst 2, 1, 0, 0), (1230, .iadd, 1, 0, 0), (1231, .iaload, 1, 0, 0)]
def ze164_77 : List ZEn := [(1232, .aload_n 0, 1, 0, 0), (1233, .iload 4, 2, 0, 0), (1235, .iconst 3, 1, 0, 0), (1236, .iadd, 1, 0, 0), (1237, .iaload, 1, 0, 0), (1238, .invokevirtual 163, 3, 0, 161), (1241, .if_icmp .eq 83, 3, 0, 0), (1244, .iconst 0, 1, 0, 0), (1245, .ireturn, 1, 0, 0), (1246, .aload_n 1, 1, 0, 0), (1247, .aload_n 0, 1, 0, 0)]
def ze164_78 : List ZEn := [(1248, .iload 4, 2, 0, 0), (1250, .iconst 1, 1, 0, 0), (1251, .iadd, 1, 0, 0), (1252, .iaload, 1, 0, 0), (1253, .aload_n 0, 1, 0, 0), (1254, .iload 4, 2, 0, 0), (1256, .iconst 2, 1, 0, 0), (1257, .iadd, 1, 0, 0), (1258, .iaload, 1, 0, 0), (1259, .ifCond .eq 7, 3, 0, 0), (1262, .iconst 1, 1, 0, 0), (1263, .goto 4, 3, 0, 0)]
def ze164_79 : List ZEn := [(1266, .iconst 0, 1, 0, 0), (1267, .invokevirtual 164, 3, 0, 96), (1270, .aload_n 2, 1, 0, 0), (1271, .aload_n 0, 1, 0, 0), (1272, .iload 4, 2, 0, 0), (1274, .iconst 1, 1, 0, 0), (1275, .iadd, 1, 0, 0), (1276, .iaload, 1, 0, 0), (1277, .aload_n 0, 1, 0, 0), (1278, .iload 4, 2, 0, 0)]
def ze164_80 : List ZEn := [(1280, .iconst 2, 1, 0, 0), (1281, .iadd, 1, 0, 0), (1282, .iaload, 1, 0, 0), (1283, .ifCond .eq 7, 3, 0, 0), (1286, .iconst 1, 1, 0, 0), (1287, .goto 4, 3, 0, 0), (1290, .iconst 0, 1, 0, 0), (1291, .invokevirtual 168, 3, 0, 162), (1294, .if_icmp .eq 30, 3, 0, 0)]
def ze164_81 : List ZEn := [(1297, .iconst 0, 1, 0, 0), (1298, .ireturn, 1, 0, 0), (1299, .aload_n 1, 1, 0, 0), (1300, .aload_n 0, 1, 0, 0), (1301, .iload 4, 2, 0, 0), (1303, .iconst 1, 1, 0, 0), (1304, .iadd, 1, 0, 0), (1305, .iaload, 1, 0, 0), (1306, .invokevirtual 169, 3, 0, 97), (1309, .aload_n 2, 1, 0, 0), (1310, .aload_n 0, 1, 0, 0), (1311, .iload 4, 2, 0, 0)]
def ze164_82 : List ZEn := [(1313, .iconst 1, 1, 0, 0), (1314, .iadd, 1, 0, 0), (1315, .iaload, 1, 0, 0), (1316, .invokevirtual 172, 3, 0, 163), (1319, .if_icmp .eq 5, 3, 0, 0), (1322, .iconst 0, 1, 0, 0), (1323, .ireturn, 1, 0, 0), (1324, .iinc 4 7, 3, 0, 0), (1327, .goto (-1304), 3, 0, 0)]
def ze164_83 : List ZEn := [(1330, .iconst 1, 1, 0, 0), (1331, .ireturn, 1, 0, 0)]
def ze164 : List (List ZEn) := [ze164_0, ze164_1, ze164_2, ze164_3, ze164_4, ze164_5, ze164_6, ze164_7, ze164_8, ze164_9, ze164_10, ze164_11, ze164_12, ze164_13, ze164_14, ze164_15, ze164_16, ze164_17, ze164_18, ze164_19, ze164_20, ze164_21, ze164_22, ze164_23, ze164_24, ze164_25, ze164_26, ze164_27, ze164_28, ze164_29, ze164_30, ze164_31, ze164_32, ze164_33, ze164_34, ze164_35, ze164_36, ze164_37, ze164_38, ze164_39, ze164_40, ze164_41, ze164_42, ze164_43, ze164_44, ze164_45, ze164_46, ze164_47, ze164_48, ze164_49, ze164_50, ze164_51, ze164_52, ze164_53, ze164_54, ze164_55, ze164_56, ze164_57, ze164_58, ze164_59, ze164_60, ze164_61, ze164_62, ze164_63, ze164_64, ze164_65, ze164_66, ze164_67, ze164_68, ze164_69, ze164_70, ze164_71, ze164_72, ze164_73, ze164_74, ze164_75, ze164_76, ze164_77, ze164_78, ze164_79, ze164_80, ze164_81, ze164_82, ze164_83]
def zm164 : ZMI := (⟨"BeggarHeapsLaw", "law", "([I)Z"⟩, code, 7, some .boolean, 9, 600002, 7302232, 1, 13, ze164)
def zmtab : List (List ZMI) := [[zm0, zm1, zm2, zm3, zm4, zm5, zm6, zm7, zm8, zm9, zm10, zm11],
  [zm12, zm13, zm14, zm15, zm16, zm17, zm18, zm19, zm20, zm21, zm22, zm23],
  [zm24, zm25, zm26, zm27, zm28, zm29, zm30, zm31, zm32, zm33, zm34, zm35],
  [zm36, zm37, zm38, zm39, zm40, zm41, zm42, zm43, zm44, zm45, zm46, zm47],
  [zm48, zm49, zm50, zm51, zm52, zm53, zm54, zm55, zm56, zm57, zm58, zm59],
  [zm60, zm61, zm62, zm63, zm64, zm65, zm66, zm67, zm68, zm69, zm70, zm71],
  [zm72, zm73, zm74, zm75, zm76, zm77, zm78, zm79, zm80, zm81, zm82, zm83],
  [zm84, zm85, zm86, zm87, zm88, zm89, zm90, zm91, zm92, zm93, zm94, zm95],
  [zm96, zm97, zm98, zm99, zm100, zm101, zm102, zm103, zm104, zm105, zm106, zm107],
  [zm108, zm109, zm110, zm111, zm112, zm113, zm114, zm115, zm116, zm117, zm118, zm119],
  [zm120, zm121, zm122, zm123, zm124, zm125, zm126, zm127, zm128, zm129, zm130, zm131],
  [zm132, zm133, zm134, zm135, zm136, zm137, zm138, zm139, zm140, zm141, zm142, zm143],
  [zm144, zm145, zm146, zm147, zm148, zm149, zm150, zm151, zm152, zm153, zm154, zm155],
  [zm156, zm157, zm158, zm159, zm160, zm161, zm162, zm163, zm164]]
noncomputable def zmt (j : Nat) : ZMI := match zn zmtab (j / 12) with
  | some r => (match zn r (j % 12) with
    | some q => q
    | none => zm0)
  | none => zm0
