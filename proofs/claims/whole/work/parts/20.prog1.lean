def P_X0_regard : List PE := [(0, .aload_n 2, 1, 0, 0), (1, .invokevirtual 17, 4, 0, 0), (4, .istore 5, 6, 0, 0), (6, .aload_n 0, 7, 0, 0), (7, .getfield 11, 10, 0, 0), (10, .iconst 0, 11, 0, 0), (11, .aload 4, 13, 0, 0), (13, .getfield 23, 16, 0, 0),
  (16, .iastore, 17, 0, 0), (17, .aload_n 0, 18, 0, 0), (18, .getfield 11, 21, 0, 0), (21, .iconst 1, 22, 0, 1), (22, .aload 4, 24, 0, 0), (24, .aload_n 1, 25, 0, 0), (25, .getfield 29, 28, 0, 0), (28, .invokevirtual 34, 31, 0, 0),
  (31, .iastore, 32, 0, 0), (32, .aload_n 0, 33, 0, 0), (33, .getfield 11, 36, 0, 0), (36, .iconst 2, 37, 0, 2), (37, .aload_n 2, 38, 0, 0), (38, .getfield 38, 41, 0, 0), (41, .iastore, 42, 0, 0), (42, .aload_n 0, 43, 0, 0),
  (43, .getfield 11, 46, 0, 0), (46, .iconst 3, 47, 0, 3), (47, .iload 5, 49, 0, 0), (49, .iconst (-1), 50, 0, (-1)), (50, .if_icmp .ne 7, 53, 57, 0), (53, .iconst 0, 54, 0, 0), (54, .goto 10, 57, 64, 0), (57, .aload_n 1, 58, 0, 0),
  (58, .getfield 39, 61, 0, 0), (61, .iload 5, 63, 0, 0), (63, .iaload, 64, 0, 0), (64, .iastore, 65, 0, 0), (65, .aload_n 0, 66, 0, 0), (66, .getfield 11, 69, 0, 0), (69, .iconst 4, 70, 0, 4), (70, .iload_n 3, 71, 0, 0),
  (71, .iastore, 72, 0, 0), (72, .aload_n 0, 73, 0, 0), (73, .getfield 11, 76, 0, 0), (76, .iconst 5, 77, 0, 5), (77, .aload_n 1, 78, 0, 0), (78, .getfield 42, 81, 0, 0), (81, .iload_n 3, 82, 0, 0), (82, .iaload, 83, 0, 0),
  (83, .iastore, 84, 0, 0), (84, .return_, 85, 0, 0)]
abbrev M_X0_regard : MI := (yX0_regard, cX0_regard, 6, none, 0, P_X0_regard)
theorem ok_X0_regard : okP 0 cX0_regard P_X0_regard = true := by decide +kernel
def P_X0_hard : List PE := [(0, .aload_n 3, 1, 0, 0), (1, .iconst 0, 2, 0, 0), (2, .aload_n 0, 3, 0, 0), (3, .getfield 11, 6, 0, 0), (6, .invokevirtual 47, 9, 0, 0), (9, .istore 4, 11, 0, 0), (11, .aload_n 2, 12, 0, 0), (12, .invokevirtual 17, 15, 0, 0),
  (15, .istore 5, 17, 0, 0), (17, .iload 5, 19, 0, 0), (19, .iconst (-1), 20, 0, (-1)), (20, .if_icmp .ne 8, 23, 28, 0), (23, .iload 4, 25, 0, 0), (25, .goto 26, 28, 51, 0), (28, .iconst 0, 29, 0, 0), (29, .aload_n 1, 30, 0, 0),
  (30, .getfield 51, 33, 0, 0), (33, .iload 5, 35, 0, 0), (35, .iaload, 36, 0, 0), (36, .aload_n 1, 37, 0, 0), (37, .getfield 39, 40, 0, 0), (40, .iload 5, 42, 0, 0), (42, .iaload, 43, 0, 0), (43, .iload 4, 45, 0, 0),
  (45, .invokestatic 54, 48, 0, 0), (48, .invokestatic 58, 51, 0, 0), (51, .ireturn, 52, 0, 0)]
abbrev M_X0_hard : MI := (yX0_hard, cX0_hard, 6, (some .int), 0, P_X0_hard)
theorem ok_X0_hard : okP 0 cX0_hard P_X0_hard = true := by decide +kernel
def P_X0_hardBy : List PE := [(0, .iload_n 0, 1, 0, 0), (1, .tableswitch 53 1 5 #[35, 39, 35, 43, 49], 36, 0, 0), (36, .iload_n 2, 37, 0, 0), (37, .iconst 1, 38, 0, 1), (38, .iadd, 39, 0, 0), (39, .ireturn, 40, 0, 0), (40, .iload_n 2, 41, 0, 0), (41, .iconst 2, 42, 0, 2),
  (42, .imul, 43, 0, 0), (43, .ireturn, 44, 0, 0), (44, .iload_n 2, 45, 0, 0), (45, .iconst 2, 46, 0, 2), (46, .imul, 47, 0, 0), (47, .iconst 2, 48, 0, 2), (48, .idiv, 49, 0, 0), (49, .ireturn, 50, 0, 0),
  (50, .iload_n 2, 51, 0, 0), (51, .iload_n 1, 52, 0, 0), (52, .iadd, 53, 0, 0), (53, .ireturn, 54, 0, 0), (54, .iload_n 2, 55, 0, 0), (55, .ireturn, 56, 0, 0)]
abbrev M_X0_hardBy : MI := (yX0_hardBy, cX0_hardBy, 3, (some .int), 0, P_X0_hardBy)
theorem ok_X0_hardBy : okP 0 cX0_hardBy P_X0_hardBy = true := by decide +kernel
def P_X0_worth : List PE := [(0, .aload 4, 2, 0, 0), (2, .invokevirtual 64, 5, 0, 0), (5, .istore 5, 7, 0, 0), (7, .iconst 0, 8, 0, 0), (8, .istore 6, 10, 0, 0), (10, .iconst 0, 11, 0, 0), (11, .istore 7, 13, 0, 0), (13, .iload 7, 15, 0, 0),
  (15, .aload 4, 17, 0, 0), (17, .getfield 69, 20, 0, 0), (20, .if_icmp .ge 85, 23, 105, 0), (23, .aload 4, 25, 0, 0), (25, .getfield 70, 28, 0, 0), (28, .iload 7, 30, 0, 0), (30, .aaload, 31, 0, 0), (31, .invokevirtual 74, 34, 0, 0),
  (34, .ifCond .ne 65, 37, 99, 0), (37, .aload_n 0, 38, 0, 0), (38, .aload_n 1, 39, 0, 0), (39, .aload_n 2, 40, 0, 0), (40, .iload 7, 42, 0, 0), (42, .aload 4, 44, 0, 0), (44, .getfield 70, 47, 0, 0), (47, .iload 7, 49, 0, 0),
  (49, .aaload, 50, 0, 0), (50, .invokevirtual 78, 53, 0, 0), (53, .iload 6, 55, 0, 0), (55, .aload_n 3, 56, 0, 0), (56, .iconst 1, 57, 0, 1), (57, .aload_n 0, 58, 0, 0), (58, .getfield 11, 61, 0, 0), (61, .invokevirtual 47, 64, 0, 0),
  (64, .aload_n 0, 65, 0, 0), (65, .aload_n 1, 66, 0, 0), (66, .aload_n 2, 67, 0, 0), (67, .aload_n 3, 68, 0, 0), (68, .invokevirtual 82, 71, 0, 0), (71, .isub, 72, 0, 0), (72, .iadd, 73, 0, 0), (73, .istore 6, 75, 0, 0),
  (75, .iload 5, 77, 0, 0), (77, .iload 7, 79, 0, 0), (79, .iushr, 80, 0, 0), (80, .iconst 1, 81, 0, 1), (81, .iand, 82, 0, 0), (82, .ifCond .eq 17, 85, 99, 0), (85, .iload 6, 87, 0, 0), (87, .aload_n 3, 88, 0, 0),
  (88, .iconst 2, 89, 0, 2), (89, .aload_n 0, 90, 0, 0), (90, .getfield 11, 93, 0, 0), (93, .invokevirtual 47, 96, 0, 0), (96, .isub, 97, 0, 0), (97, .istore 6, 99, 0, 0), (99, .iinc 7 1, 102, 0, 1), (102, .goto (-89), 105, 13, 0),
  (105, .iload 6, 107, 0, 0), (107, .ireturn, 108, 0, 0)]
abbrev M_X0_worth : MI := (yX0_worth, cX0_worth, 8, (some .int), 0, P_X0_worth)
theorem ok_X0_worth : okP 0 cX0_worth P_X0_worth = true := by decide +kernel
def P_X1_search : List PE := [(0, .aload_n 0, 1, 0, 0), (1, .iconst 1, 2, 0, 1), (2, .putfield 32, 5, 0, 0), (5, .aload_n 0, 6, 0, 0), (6, .getfield 20, 9, 0, 0), (9, .iconst 0, 10, 0, 0), (10, .putfield 36, 13, 0, 0), (13, .aload_n 0, 14, 0, 0),
  (14, .getfield 11, 17, 0, 0), (17, .iconst 0, 18, 0, 0), (18, .aaload, 19, 0, 0), (19, .aload_n 1, 20, 0, 0), (20, .invokevirtual 40, 23, 0, 0), (23, .aload_n 0, 24, 0, 0), (24, .aload_n 1, 25, 0, 0), (25, .aload_n 2, 26, 0, 0),
  (26, .iconst 0, 27, 0, 0), (27, .iconst 0, 28, 0, 0), (28, .iconst 0, 29, 0, 0), (29, .invokevirtual 44, 32, 0, 0), (32, .return_, 33, 0, 0)]
abbrev M_X1_search : MI := (yX1_search, cX1_search, 3, none, 1, P_X1_search)
theorem ok_X1_search : okP 1 cX1_search P_X1_search = true := by decide +kernel
def P_X1_goOn : List PE := [(0, .iload_n 3, 1, 0, 0), (1, .aload_n 1, 2, 0, 0), (2, .getfield 48, 5, 0, 0), (5, .if_icmp .ge 9, 8, 14, 0), (8, .iload_n 3, 9, 0, 0), (9, .bipush 6, 11, 0, 6), (11, .if_icmp .lt 29, 14, 40, 0), (14, .aload_n 0, 15, 0, 0),
  (15, .aload_n 0, 16, 0, 0), (16, .getfield 27, 19, 0, 0), (19, .aload_n 1, 20, 0, 0), (20, .aload_n 0, 21, 0, 0), (21, .getfield 20, 24, 0, 0), (24, .aload_n 2, 25, 0, 0), (25, .aload_n 0, 26, 0, 0), (26, .getfield 11, 29, 0, 0),
  (29, .iload_n 3, 30, 0, 0), (30, .aaload, 31, 0, 0), (31, .invokevirtual 53, 34, 0, 0), (34, .iload 5, 36, 0, 0), (36, .invokevirtual 57, 39, 0, 0), (39, .return_, 40, 0, 0), (40, .iconst 0, 41, 0, 0), (41, .istore 6, 43, 0, 0),
  (43, .iload 6, 45, 0, 0), (45, .aload_n 1, 46, 0, 0), (46, .getfield 48, 49, 0, 0), (49, .if_icmp .ge 82, 52, 131, 0), (52, .iload 4, 54, 0, 0), (54, .iload 6, 56, 0, 0), (56, .iushr, 57, 0, 0), (57, .iconst 1, 58, 0, 1),
  (58, .iand, 59, 0, 0), (59, .ifCond .ne 66, 62, 125, 0), (62, .aload_n 0, 63, 0, 0), (63, .getfield 20, 66, 0, 0), (66, .iload_n 3, 67, 0, 0), (67, .putfield 36, 70, 0, 0), (70, .aload_n 0, 71, 0, 0), (71, .getfield 20, 74, 0, 0),
  (74, .iload 6, 76, 0, 0), (76, .invokevirtual 61, 79, 0, 0), (79, .aload_n 0, 80, 0, 0), (80, .getfield 11, 83, 0, 0), (83, .iload_n 3, 84, 0, 0), (84, .iconst 1, 85, 0, 1), (85, .iadd, 86, 0, 0), (86, .aaload, 87, 0, 0),
  (87, .aload_n 0, 88, 0, 0), (88, .getfield 11, 91, 0, 0), (91, .iload_n 3, 92, 0, 0), (92, .aaload, 93, 0, 0), (93, .aload_n 1, 94, 0, 0), (94, .iload 6, 96, 0, 0), (96, .invokevirtual 65, 99, 0, 0), (99, .aload_n 0, 100, 0, 0),
  (100, .aload_n 1, 101, 0, 0), (101, .aload_n 2, 102, 0, 0), (102, .iload_n 3, 103, 0, 0), (103, .iconst 1, 104, 0, 1), (104, .iadd, 105, 0, 0), (105, .iload 4, 107, 0, 0), (107, .iconst 1, 108, 0, 1), (108, .iload 6, 110, 0, 0),
  (110, .ishl, 111, 0, 0), (111, .ior, 112, 0, 0), (112, .iload 5, 114, 0, 0), (114, .bipush 10, 116, 0, 10), (116, .imul, 117, 0, 0), (117, .iload 6, 119, 0, 0), (119, .iadd, 120, 0, 0), (120, .iconst 1, 121, 0, 1),
  (121, .iadd, 122, 0, 0), (122, .invokevirtual 44, 125, 0, 0), (125, .iinc 6 1, 128, 0, 1), (128, .goto (-85), 131, 43, 0), (131, .return_, 132, 0, 0)]
abbrev M_X1_goOn : MI := (yX1_goOn, cX1_goOn, 7, none, 1, P_X1_goOn)
theorem ok_X1_goOn : okP 1 cX1_goOn P_X1_goOn = true := by decide +kernel
def P_X1_keepBetter : List PE := [(0, .aload_n 0, 1, 0, 0), (1, .getfield 32, 4, 0, 0), (4, .ifCond .ne 11, 7, 15, 0), (7, .iload_n 1, 8, 0, 0), (8, .aload_n 0, 9, 0, 0), (9, .getfield 69, 12, 0, 0), (12, .if_icmp .le 18, 15, 30, 0), (15, .aload_n 0, 16, 0, 0),
  (16, .iconst 0, 17, 0, 0), (17, .putfield 32, 20, 0, 0), (20, .aload_n 0, 21, 0, 0), (21, .iload_n 1, 22, 0, 0), (22, .putfield 69, 25, 0, 0), (25, .aload_n 0, 26, 0, 0), (26, .iload_n 2, 27, 0, 0), (27, .putfield 72, 30, 0, 0),
  (30, .return_, 31, 0, 0)]
abbrev M_X1_keepBetter : MI := (yX1_keepBetter, cX1_keepBetter, 3, none, 1, P_X1_keepBetter)
theorem ok_X1_keepBetter : okP 1 cX1_keepBetter P_X1_keepBetter = true := by decide +kernel
def P_X2_read : List PE := [(0, .aload_n 0, 1, 0, 0), (1, .aload_n 1, 2, 0, 0), (2, .putfield 9, 5, 0, 0), (5, .aload_n 0, 6, 0, 0), (6, .aload_n 2, 7, 0, 0), (7, .putfield 15, 10, 0, 0), (10, .aload_n 0, 11, 0, 0), (11, .iconst 0, 12, 0, 0),
  (12, .putfield 19, 15, 0, 0), (15, .aload_n 0, 16, 0, 0), (16, .iconst 0, 17, 0, 0), (17, .putfield 23, 20, 0, 0), (20, .aload_n 1, 21, 0, 0), (21, .invokevirtual 26, 24, 0, 0), (24, .aload_n 2, 25, 0, 0), (25, .invokevirtual 31, 28, 0, 0),
  (28, .aload_n 0, 29, 0, 0), (29, .iconst 4, 30, 0, 4), (30, .iconst 0, 31, 0, 0), (31, .invokevirtual 36, 34, 0, 0), (34, .ifCond .eq 33, 37, 67, 0), (37, .aload_n 0, 38, 0, 0), (38, .iconst 5, 39, 0, 5), (39, .iconst 1, 40, 0, 1),
  (40, .invokevirtual 36, 43, 0, 0), (43, .ifCond .eq 24, 46, 67, 0), (46, .aload_n 0, 47, 0, 0), (47, .bipush 6, 49, 0, 6), (49, .iconst 2, 50, 0, 2), (50, .invokevirtual 36, 53, 0, 0), (53, .ifCond .eq 14, 56, 67, 0), (56, .aload_n 0, 57, 0, 0),
  (57, .invokevirtual 40, 60, 0, 0), (60, .ifCond .ne 7, 63, 67, 0), (63, .iconst 1, 64, 0, 1), (64, .goto 4, 67, 68, 0), (67, .iconst 0, 68, 0, 0), (68, .istore_n 3, 69, 0, 0), (69, .iload_n 3, 70, 0, 0), (70, .ifCond .eq 7, 73, 77, 0),
  (73, .iconst (-1), 74, 0, (-1)), (74, .goto 7, 77, 81, 0), (77, .aload_n 0, 78, 0, 0), (78, .invokevirtual 44, 81, 0, 0), (81, .ireturn, 82, 0, 0)]
abbrev M_X2_read : MI := (yX2_read, cX2_read, 4, (some .int), 2, P_X2_read)
theorem ok_X2_read : okP 2 cX2_read P_X2_read = true := by decide +kernel
def P_X2_next : List PE := [(0, .aload_n 0, 1, 0, 0), (1, .getfield 19, 4, 0, 0), (4, .aload_n 0, 5, 0, 0), (5, .getfield 9, 8, 0, 0), (8, .getfield 47, 11, 0, 0), (11, .if_icmp .ge 18, 14, 29, 0), (14, .aload_n 0, 15, 0, 0), (15, .getfield 9, 18, 0, 0),
  (18, .getfield 50, 21, 0, 0), (21, .aload_n 0, 22, 0, 0), (22, .getfield 19, 25, 0, 0), (25, .iaload, 26, 0, 0), (26, .goto 4, 29, 30, 0), (29, .iconst 0, 30, 0, 0), (30, .ireturn, 31, 0, 0)]
abbrev M_X2_next : MI := (yX2_next, cX2_next, 1, (some .int), 2, P_X2_next)
theorem ok_X2_next : okP 2 cX2_next P_X2_next = true := by decide +kernel
def P_X2_place : List PE := [(0, .aload_n 0, 1, 0, 0), (1, .getfield 19, 4, 0, 0), (4, .aload_n 0, 5, 0, 0), (5, .getfield 9, 8, 0, 0), (8, .getfield 47, 11, 0, 0), (11, .if_icmp .ge 18, 14, 29, 0), (14, .aload_n 0, 15, 0, 0), (15, .getfield 9, 18, 0, 0),
  (18, .getfield 54, 21, 0, 0), (21, .aload_n 0, 22, 0, 0), (22, .getfield 19, 25, 0, 0), (25, .iaload, 26, 0, 0), (26, .goto 10, 29, 36, 0), (29, .aload_n 0, 30, 0, 0), (30, .getfield 9, 33, 0, 0), (33, .getfield 57, 36, 0, 0),
  (36, .ireturn, 37, 0, 0)]
abbrev M_X2_place : MI := (yX2_place, cX2_place, 1, (some .int), 2, P_X2_place)
theorem ok_X2_place : okP 2 cX2_place P_X2_place = true := by decide +kernel
def P_X2_take : List PE := [(0, .aload_n 0, 1, 0, 0), (1, .invokevirtual 40, 4, 0, 0), (4, .iload_n 1, 5, 0, 0), (5, .if_icmp .eq 5, 8, 10, 0), (8, .iconst 0, 9, 0, 0), (9, .ireturn, 10, 0, 0), (10, .aload_n 0, 11, 0, 0), (11, .dup, 12, 0, 0),
  (12, .getfield 19, 15, 0, 0), (15, .iconst 1, 16, 0, 1), (16, .iadd, 17, 0, 0), (17, .putfield 19, 20, 0, 0), (20, .iconst 1, 21, 0, 1), (21, .ireturn, 22, 0, 0)]
abbrev M_X2_take : MI := (yX2_take, cX2_take, 2, (some .boolean), 2, P_X2_take)
theorem ok_X2_take : okP 2 cX2_take P_X2_take = true := by decide +kernel
def P_X2_takeOpening : List PE := [(0, .aload_n 0, 1, 0, 0), (1, .getfield 23, 4, 0, 0), (4, .iconst 5, 5, 0, 5), (5, .if_icmp .lt 5, 8, 10, 0), (8, .iconst 0, 9, 0, 0), (9, .ireturn, 10, 0, 0), (10, .aload_n 0, 11, 0, 0), (11, .dup, 12, 0, 0),
  (12, .getfield 23, 15, 0, 0), (15, .iconst 1, 16, 0, 1), (16, .iadd, 17, 0, 0), (17, .putfield 23, 20, 0, 0), (20, .aload_n 0, 21, 0, 0), (21, .dup, 22, 0, 0), (22, .getfield 19, 25, 0, 0), (25, .iconst 1, 26, 0, 1),
  (26, .iadd, 27, 0, 0), (27, .putfield 19, 30, 0, 0), (30, .iconst 1, 31, 0, 1), (31, .ireturn, 32, 0, 0)]
abbrev M_X2_takeOpening : MI := (yX2_takeOpening, cX2_takeOpening, 1, (some .boolean), 2, P_X2_takeOpening)
theorem ok_X2_takeOpening : okP 2 cX2_takeOpening P_X2_takeOpening = true := by decide +kernel
def P_X2_readPart : List PE := [(0, .aload_n 0, 1, 0, 0), (1, .iload_n 1, 2, 0, 0), (2, .invokevirtual 60, 5, 0, 0), (5, .ifCond .eq 20, 8, 25, 0), (8, .aload_n 0, 9, 0, 0), (9, .invokevirtual 64, 12, 0, 0), (12, .iconst (-1), 13, 0, (-1)), (13, .if_icmp .eq 12, 16, 25, 0),
  (16, .aload_n 0, 17, 0, 0), (17, .bipush 59, 19, 0, 59), (19, .invokevirtual 60, 22, 0, 0), (22, .ifCond .ne 5, 25, 27, 0), (25, .iconst 0, 26, 0, 0), (26, .ireturn, 27, 0, 0), (27, .aload_n 0, 28, 0, 0), (28, .getfield 15, 31, 0, 0),
  (31, .iload_n 2, 32, 0, 0), (32, .invokevirtual 67, 35, 0, 0), (35, .iconst 1, 36, 0, 1), (36, .ireturn, 37, 0, 0)]
abbrev M_X2_readPart : MI := (yX2_readPart, cX2_readPart, 3, (some .boolean), 2, P_X2_readPart)
theorem ok_X2_readPart : okP 2 cX2_readPart P_X2_readPart = true := by decide +kernel
def P_X2_joined : List PE := [(0, .iload_n 3, 1, 0, 0), (1, .iconst (-1), 2, 0, (-1)), (2, .if_icmp .ne 7, 5, 9, 0), (5, .iconst (-1), 6, 0, (-1)), (6, .goto 13, 9, 19, 0), (9, .aload_n 0, 10, 0, 0), (10, .getfield 15, 13, 0, 0), (13, .iload_n 1, 14, 0, 0),
  (14, .iload_n 2, 15, 0, 0), (15, .iload_n 3, 16, 0, 0), (16, .invokevirtual 71, 19, 0, 0), (19, .ireturn, 20, 0, 0)]
abbrev M_X2_joined : MI := (yX2_joined, cX2_joined, 4, (some .int), 2, P_X2_joined)
theorem ok_X2_joined : okP 2 cX2_joined P_X2_joined = true := by decide +kernel
def P_X2_readE : List PE := [(0, .aload_n 0, 1, 0, 0), (1, .invokevirtual 75, 4, 0, 0), (4, .istore_n 1, 5, 0, 0), (5, .iconst 0, 6, 0, 0), (6, .istore_n 2, 7, 0, 0), (7, .iload_n 2, 8, 0, 0), (8, .sipush 160, 11, 0, 160), (11, .if_icmp .ge 34, 14, 45, 0),
  (14, .iload_n 1, 15, 0, 0), (15, .iconst (-1), 16, 0, (-1)), (16, .if_icmp .eq 29, 19, 45, 0), (19, .aload_n 0, 20, 0, 0), (20, .bipush 7, 22, 0, 7), (22, .invokevirtual 60, 25, 0, 0), (25, .ifCond .eq 20, 28, 45, 0), (28, .aload_n 0, 29, 0, 0),
  (29, .iconst 2, 30, 0, 2), (30, .iload_n 1, 31, 0, 0), (31, .aload_n 0, 32, 0, 0), (32, .invokevirtual 75, 35, 0, 0), (35, .invokevirtual 78, 38, 0, 0), (38, .istore_n 1, 39, 0, 0), (39, .iinc 2 1, 42, 0, 1), (42, .goto (-35), 45, 7, 0),
  (45, .iload_n 1, 46, 0, 0), (46, .ireturn, 47, 0, 0)]
abbrev M_X2_readE : MI := (yX2_readE, cX2_readE, 3, (some .int), 2, P_X2_readE)
theorem ok_X2_readE : okP 2 cX2_readE P_X2_readE = true := by decide +kernel
def P_X2_readAnd : List PE := [(0, .aload_n 0, 1, 0, 0), (1, .invokevirtual 81, 4, 0, 0), (4, .istore_n 1, 5, 0, 0), (5, .iconst 0, 6, 0, 0), (6, .istore_n 2, 7, 0, 0), (7, .iload_n 2, 8, 0, 0), (8, .sipush 160, 11, 0, 160), (11, .if_icmp .ge 34, 14, 45, 0),
  (14, .iload_n 1, 15, 0, 0), (15, .iconst (-1), 16, 0, (-1)), (16, .if_icmp .eq 29, 19, 45, 0), (19, .aload_n 0, 20, 0, 0), (20, .bipush 8, 22, 0, 8), (22, .invokevirtual 60, 25, 0, 0), (25, .ifCond .eq 20, 28, 45, 0), (28, .aload_n 0, 29, 0, 0),
  (29, .iconst 3, 30, 0, 3), (30, .iload_n 1, 31, 0, 0), (31, .aload_n 0, 32, 0, 0), (32, .invokevirtual 81, 35, 0, 0), (35, .invokevirtual 78, 38, 0, 0), (38, .istore_n 1, 39, 0, 0), (39, .iinc 2 1, 42, 0, 1), (42, .goto (-35), 45, 7, 0),
  (45, .iload_n 1, 46, 0, 0), (46, .ireturn, 47, 0, 0)]
abbrev M_X2_readAnd : MI := (yX2_readAnd, cX2_readAnd, 3, (some .int), 2, P_X2_readAnd)
theorem ok_X2_readAnd : okP 2 cX2_readAnd P_X2_readAnd = true := by decide +kernel
def P_X2_readNot : List PE := [(0, .aload_n 0, 1, 0, 0), (1, .invokevirtual 40, 4, 0, 0), (4, .bipush 9, 6, 0, 9), (6, .if_icmp .eq 8, 9, 14, 0), (9, .aload_n 0, 10, 0, 0), (10, .invokevirtual 84, 13, 0, 0), (13, .ireturn, 14, 0, 0), (14, .aload_n 0, 15, 0, 0),
  (15, .invokevirtual 87, 18, 0, 0), (18, .ifCond .eq 15, 21, 33, 0), (21, .aload_n 0, 22, 0, 0), (22, .iconst 4, 23, 0, 4), (23, .aload_n 0, 24, 0, 0), (24, .invokevirtual 81, 27, 0, 0), (27, .invokevirtual 91, 30, 0, 0), (30, .goto 4, 33, 34, 0),
  (33, .iconst (-1), 34, 0, (-1)), (34, .ireturn, 35, 0, 0)]
abbrev M_X2_readNot : MI := (yX2_readNot, cX2_readNot, 1, (some .int), 2, P_X2_readNot)
theorem ok_X2_readNot : okP 2 cX2_readNot P_X2_readNot = true := by decide +kernel
def P_X2_readComparison : List PE := [(0, .aload_n 0, 1, 0, 0), (1, .invokevirtual 95, 4, 0, 0), (4, .istore_n 1, 5, 0, 0), (5, .iload_n 1, 6, 0, 0), (6, .iconst (-1), 7, 0, (-1)), (7, .if_icmp .eq 23, 10, 30, 0), (10, .aload_n 0, 11, 0, 0), (11, .bipush 60, 13, 0, 60),
  (13, .invokevirtual 60, 16, 0, 0), (16, .ifCond .eq 14, 19, 30, 0), (19, .aload_n 0, 20, 0, 0), (20, .iconst 5, 21, 0, 5), (21, .iload_n 1, 22, 0, 0), (22, .aload_n 0, 23, 0, 0), (23, .invokevirtual 95, 26, 0, 0), (26, .invokevirtual 78, 29, 0, 0),
  (29, .ireturn, 30, 0, 0), (30, .iload_n 1, 31, 0, 0), (31, .iconst (-1), 32, 0, (-1)), (32, .if_icmp .eq 24, 35, 56, 0), (35, .aload_n 0, 36, 0, 0), (36, .bipush 61, 38, 0, 61), (38, .invokevirtual 60, 41, 0, 0), (41, .ifCond .eq 15, 44, 56, 0),
  (44, .aload_n 0, 45, 0, 0), (45, .bipush 6, 47, 0, 6), (47, .iload_n 1, 48, 0, 0), (48, .aload_n 0, 49, 0, 0), (49, .invokevirtual 95, 52, 0, 0), (52, .invokevirtual 78, 55, 0, 0), (55, .ireturn, 56, 0, 0), (56, .iload_n 1, 57, 0, 0),
  (57, .ireturn, 58, 0, 0)]
abbrev M_X2_readComparison : MI := (yX2_readComparison, cX2_readComparison, 2, (some .int), 2, P_X2_readComparison)
theorem ok_X2_readComparison : okP 2 cX2_readComparison P_X2_readComparison = true := by decide +kernel
def P_X2_readSum : List PE := [(0, .aload_n 0, 1, 0, 0), (1, .invokevirtual 98, 4, 0, 0), (4, .istore_n 1, 5, 0, 0), (5, .iconst 0, 6, 0, 0), (6, .istore_n 2, 7, 0, 0), (7, .iload_n 2, 8, 0, 0), (8, .sipush 160, 11, 0, 160), (11, .if_icmp .ge 70, 14, 81, 0),
  (14, .iload_n 1, 15, 0, 0), (15, .iconst (-1), 16, 0, (-1)), (16, .if_icmp .eq 65, 19, 81, 0), (19, .aload_n 0, 20, 0, 0), (20, .invokevirtual 40, 23, 0, 0), (23, .bipush 43, 25, 0, 43), (25, .if_icmp .eq 12, 28, 37, 0), (28, .aload_n 0, 29, 0, 0),
  (29, .invokevirtual 40, 32, 0, 0), (32, .bipush 45, 34, 0, 45), (34, .if_icmp .ne 47, 37, 81, 0), (37, .aload_n 0, 38, 0, 0), (38, .invokevirtual 40, 41, 0, 0), (41, .bipush 43, 43, 0, 43), (43, .if_icmp .ne 8, 46, 51, 0), (46, .bipush 7, 48, 0, 7),
  (48, .goto 5, 51, 53, 0), (51, .bipush 8, 53, 0, 8), (53, .istore_n 3, 54, 0, 0), (54, .aload_n 0, 55, 0, 0), (55, .dup, 56, 0, 0), (56, .getfield 19, 59, 0, 0), (59, .iconst 1, 60, 0, 1), (60, .iadd, 61, 0, 0),
  (61, .putfield 19, 64, 0, 0), (64, .aload_n 0, 65, 0, 0), (65, .iload_n 3, 66, 0, 0), (66, .iload_n 1, 67, 0, 0), (67, .aload_n 0, 68, 0, 0), (68, .invokevirtual 98, 71, 0, 0), (71, .invokevirtual 78, 74, 0, 0), (74, .istore_n 1, 75, 0, 0),
  (75, .iinc 2 1, 78, 0, 1), (78, .goto (-71), 81, 7, 0), (81, .iload_n 1, 82, 0, 0), (82, .ireturn, 83, 0, 0)]
abbrev M_X2_readSum : MI := (yX2_readSum, cX2_readSum, 4, (some .int), 2, P_X2_readSum)
theorem ok_X2_readSum : okP 2 cX2_readSum P_X2_readSum = true := by decide +kernel
def P_X2_readTerm : List PE := [(0, .aload_n 0, 1, 0, 0), (1, .invokevirtual 101, 4, 0, 0), (4, .istore_n 1, 5, 0, 0), (5, .iconst 0, 6, 0, 0), (6, .istore_n 2, 7, 0, 0), (7, .iload_n 2, 8, 0, 0), (8, .sipush 160, 11, 0, 160), (11, .if_icmp .ge 35, 14, 46, 0),
  (14, .iload_n 1, 15, 0, 0), (15, .iconst (-1), 16, 0, (-1)), (16, .if_icmp .eq 30, 19, 46, 0), (19, .aload_n 0, 20, 0, 0), (20, .bipush 42, 22, 0, 42), (22, .invokevirtual 60, 25, 0, 0), (25, .ifCond .eq 21, 28, 46, 0), (28, .aload_n 0, 29, 0, 0),
  (29, .bipush 9, 31, 0, 9), (31, .iload_n 1, 32, 0, 0), (32, .aload_n 0, 33, 0, 0), (33, .invokevirtual 101, 36, 0, 0), (36, .invokevirtual 78, 39, 0, 0), (39, .istore_n 1, 40, 0, 0), (40, .iinc 2 1, 43, 0, 1), (43, .goto (-36), 46, 7, 0),
  (46, .iload_n 1, 47, 0, 0), (47, .ireturn, 48, 0, 0)]
abbrev M_X2_readTerm : MI := (yX2_readTerm, cX2_readTerm, 3, (some .int), 2, P_X2_readTerm)
theorem ok_X2_readTerm : okP 2 cX2_readTerm P_X2_readTerm = true := by decide +kernel
def P_X2_readOne : List PE := [(0, .aload_n 0, 1, 0, 0), (1, .invokevirtual 40, 4, 0, 0), (4, .lookupswitch 94 #[(2, 44), (3, 50), (40, 78), (45, 56)], 48, 0, 0), (48, .aload_n 0, 49, 0, 0), (49, .iconst 0, 50, 0, 0), (50, .invokevirtual 104, 53, 0, 0), (53, .ireturn, 54, 0, 0), (54, .aload_n 0, 55, 0, 0),
  (55, .iconst 1, 56, 0, 1), (56, .invokevirtual 104, 59, 0, 0), (59, .ireturn, 60, 0, 0), (60, .aload_n 0, 61, 0, 0), (61, .invokevirtual 87, 64, 0, 0), (64, .ifCond .eq 16, 67, 80, 0), (67, .aload_n 0, 68, 0, 0), (68, .bipush 10, 70, 0, 10),
  (70, .aload_n 0, 71, 0, 0), (71, .invokevirtual 101, 74, 0, 0), (74, .invokevirtual 91, 77, 0, 0), (77, .goto 4, 80, 81, 0), (80, .iconst (-1), 81, 0, (-1)), (81, .ireturn, 82, 0, 0), (82, .aload_n 0, 83, 0, 0), (83, .invokevirtual 87, 86, 0, 0),
  (86, .ifCond .eq 10, 89, 96, 0), (89, .aload_n 0, 90, 0, 0), (90, .invokevirtual 108, 93, 0, 0), (93, .goto 4, 96, 97, 0), (96, .iconst (-1), 97, 0, (-1)), (97, .ireturn, 98, 0, 0), (98, .iconst (-1), 99, 0, (-1)), (99, .ireturn, 100, 0, 0)]
abbrev M_X2_readOne : MI := (yX2_readOne, cX2_readOne, 1, (some .int), 2, P_X2_readOne)
theorem ok_X2_readOne : okP 2 cX2_readOne P_X2_readOne = true := by decide +kernel
def P_X2_readValue : List PE := [(0, .aload_n 0, 1, 0, 0), (1, .getfield 9, 4, 0, 0), (4, .getfield 111, 7, 0, 0), (7, .aload_n 0, 8, 0, 0), (8, .getfield 19, 11, 0, 0), (11, .iaload, 12, 0, 0), (12, .istore_n 2, 13, 0, 0), (13, .aload_n 0, 14, 0, 0),
  (14, .dup, 15, 0, 0), (15, .getfield 19, 18, 0, 0), (18, .iconst 1, 19, 0, 1), (19, .iadd, 20, 0, 0), (20, .putfield 19, 23, 0, 0), (23, .aload_n 0, 24, 0, 0), (24, .getfield 15, 27, 0, 0), (27, .iload_n 1, 28, 0, 0),
  (28, .iload_n 2, 29, 0, 0), (29, .iconst 0, 30, 0, 0), (30, .invokevirtual 71, 33, 0, 0), (33, .ireturn, 34, 0, 0)]
abbrev M_X2_readValue : MI := (yX2_readValue, cX2_readValue, 3, (some .int), 2, P_X2_readValue)
theorem ok_X2_readValue : okP 2 cX2_readValue P_X2_readValue = true := by decide +kernel
def P_X2_closed : List PE := [(0, .aload_n 0, 1, 0, 0), (1, .dup, 2, 0, 0), (2, .getfield 23, 5, 0, 0), (5, .iconst 1, 6, 0, 1), (6, .isub, 7, 0, 0), (7, .putfield 23, 10, 0, 0), (10, .iload_n 2, 11, 0, 0), (11, .iconst (-1), 12, 0, (-1)),
  (12, .if_icmp .ne 7, 15, 19, 0), (15, .iconst (-1), 16, 0, (-1)), (16, .goto 13, 19, 29, 0), (19, .aload_n 0, 20, 0, 0), (20, .getfield 15, 23, 0, 0), (23, .iload_n 1, 24, 0, 0), (24, .iload_n 2, 25, 0, 0), (25, .iconst 0, 26, 0, 0),
  (26, .invokevirtual 71, 29, 0, 0), (29, .ireturn, 30, 0, 0)]
abbrev M_X2_closed : MI := (yX2_closed, cX2_closed, 3, (some .int), 2, P_X2_closed)
theorem ok_X2_closed : okP 2 cX2_closed P_X2_closed = true := by decide +kernel
def P_X2_readToClosing : List PE := [(0, .aload_n 0, 1, 0, 0), (1, .invokevirtual 64, 4, 0, 0), (4, .istore_n 1, 5, 0, 0), (5, .iload_n 1, 6, 0, 0), (6, .iconst (-1), 7, 0, (-1)), (7, .if_icmp .eq 12, 10, 19, 0), (10, .aload_n 0, 11, 0, 0), (11, .bipush 41, 13, 0, 41),
  (13, .invokevirtual 60, 16, 0, 0), (16, .ifCond .ne 5, 19, 21, 0), (19, .iconst (-1), 20, 0, (-1)), (20, .ireturn, 21, 0, 0), (21, .aload_n 0, 22, 0, 0), (22, .dup, 23, 0, 0), (23, .getfield 23, 26, 0, 0), (26, .iconst 1, 27, 0, 1),
  (27, .isub, 28, 0, 0), (28, .putfield 23, 31, 0, 0), (31, .iload_n 1, 32, 0, 0), (32, .ireturn, 33, 0, 0)]
abbrev M_X2_readToClosing : MI := (yX2_readToClosing, cX2_readToClosing, 2, (some .int), 2, P_X2_readToClosing)
theorem ok_X2_readToClosing : okP 2 cX2_readToClosing P_X2_readToClosing = true := by decide +kernel
def P_X3_push : List PE := [(0, .aload_n 0, 1, 0, 0), (1, .getfield 15, 4, 0, 0), (4, .bipush 8, 6, 0, 8), (6, .if_icmp .ge 23, 9, 29, 0), (9, .aload_n 0, 10, 0, 0), (10, .getfield 9, 13, 0, 0), (13, .aload_n 0, 14, 0, 0), (14, .getfield 15, 17, 0, 0),
  (17, .iload_n 1, 18, 0, 0), (18, .iastore, 19, 0, 0), (19, .aload_n 0, 20, 0, 0), (20, .dup, 21, 0, 0), (21, .getfield 15, 24, 0, 0), (24, .iconst 1, 25, 0, 1), (25, .iadd, 26, 0, 0), (26, .putfield 15, 29, 0, 0),
  (29, .return_, 30, 0, 0)]
abbrev M_X3_push : MI := (yX3_push, cX3_push, 2, none, 3, P_X3_push)
theorem ok_X3_push : okP 3 cX3_push P_X3_push = true := by decide +kernel
def P_X3_last : List PE := [(0, .aload_n 0, 1, 0, 0), (1, .getfield 15, 4, 0, 0), (4, .ifCond .le 17, 7, 21, 0), (7, .aload_n 0, 8, 0, 0), (8, .getfield 9, 11, 0, 0), (11, .aload_n 0, 12, 0, 0), (12, .getfield 15, 15, 0, 0), (15, .iconst 1, 16, 0, 1),
  (16, .isub, 17, 0, 0), (17, .iaload, 18, 0, 0), (18, .goto 4, 21, 22, 0), (21, .iconst (-1), 22, 0, (-1)), (22, .ireturn, 23, 0, 0)]
abbrev M_X3_last : MI := (yX3_last, cX3_last, 1, (some .int), 3, P_X3_last)
theorem ok_X3_last : okP 3 cX3_last P_X3_last = true := by decide +kernel
def P_X3_become : List PE := [(0, .aload_n 1, 1, 0, 0), (1, .getfield 9, 4, 0, 0), (4, .iconst 0, 5, 0, 0), (5, .aload_n 0, 6, 0, 0), (6, .getfield 9, 9, 0, 0), (9, .iconst 0, 10, 0, 0), (10, .bipush 8, 12, 0, 8), (12, .invokestatic 19, 15, 0, 0),
  (15, .aload_n 0, 16, 0, 0), (16, .aload_n 1, 17, 0, 0), (17, .getfield 15, 20, 0, 0), (20, .putfield 15, 23, 0, 0), (23, .return_, 24, 0, 0)]
abbrev M_X3_become : MI := (yX3_become, cX3_become, 2, none, 3, P_X3_become)
theorem ok_X3_become : okP 3 cX3_become P_X3_become = true := by decide +kernel
def P_X3_becomeWithout : List PE := [(0, .aload_n 0, 1, 0, 0), (1, .iconst 0, 2, 0, 0), (2, .putfield 15, 5, 0, 0), (5, .iconst 0, 6, 0, 0), (6, .istore_n 3, 7, 0, 0), (7, .iload_n 3, 8, 0, 0), (8, .aload_n 1, 9, 0, 0), (9, .getfield 15, 12, 0, 0),
  (12, .if_icmp .ge 24, 15, 36, 0), (15, .iload_n 3, 16, 0, 0), (16, .iload_n 2, 17, 0, 0), (17, .if_icmp .eq 13, 20, 30, 0), (20, .aload_n 0, 21, 0, 0), (21, .aload_n 1, 22, 0, 0), (22, .getfield 9, 25, 0, 0), (25, .iload_n 3, 26, 0, 0),
  (26, .iaload, 27, 0, 0), (27, .invokevirtual 25, 30, 0, 0), (30, .iinc 3 1, 33, 0, 1), (33, .goto (-26), 36, 7, 0), (36, .return_, 37, 0, 0)]
abbrev M_X3_becomeWithout : MI := (yX3_becomeWithout, cX3_becomeWithout, 4, none, 3, P_X3_becomeWithout)
theorem ok_X3_becomeWithout : okP 3 cX3_becomeWithout P_X3_becomeWithout = true := by decide +kernel
def P_X3_draw : List PE := [(0, .aload_n 0, 1, 0, 0), (1, .iconst 0, 2, 0, 0), (2, .putfield 15, 5, 0, 0), (5, .iload_n 2, 6, 0, 0), (6, .ifCond .gt 4, 9, 10, 0), (9, .return_, 10, 0, 0), (10, .iload_n 1, 11, 0, 0), (11, .invokestatic 29, 14, 0, 0),
  (14, .istore_n 3, 15, 0, 0), (15, .iload_n 3, 16, 0, 0), (16, .bipush 9, 18, 0, 9), (18, .iushr, 19, 0, 0), (19, .iconst 4, 20, 0, 4), (20, .irem, 21, 0, 0), (21, .iconst 1, 22, 0, 1), (22, .iadd, 23, 0, 0),
  (23, .istore 4, 25, 0, 0), (25, .iconst 0, 26, 0, 0), (26, .istore 5, 28, 0, 0), (28, .iload 5, 30, 0, 0), (30, .iload 4, 32, 0, 0), (32, .if_icmp .ge 24, 35, 56, 0), (35, .iload_n 3, 36, 0, 0), (36, .invokestatic 29, 39, 0, 0),
  (39, .istore_n 3, 40, 0, 0), (40, .aload_n 0, 41, 0, 0), (41, .iload_n 3, 42, 0, 0), (42, .bipush 9, 44, 0, 9), (44, .iushr, 45, 0, 0), (45, .iload_n 2, 46, 0, 0), (46, .irem, 47, 0, 0), (47, .invokevirtual 25, 50, 0, 0),
  (50, .iinc 5 1, 53, 0, 1), (53, .goto (-25), 56, 28, 0), (56, .return_, 57, 0, 0)]
abbrev M_X3_draw : MI := (yX3_draw, cX3_draw, 6, none, 3, P_X3_draw)
theorem ok_X3_draw : okP 3 cX3_draw P_X3_draw = true := by decide +kernel
def P_X3_following : List PE := [(0, .iload_n 0, 1, 0, 0), (1, .ldc 33, 3, 999, 1103515245), (3, .imul, 4, 0, 0), (4, .sipush 12345, 7, 0, 12345), (7, .iadd, 8, 0, 0), (8, .ireturn, 9, 0, 0)]
abbrev M_X3_following : MI := (yX3_following, cX3_following, 1, (some .int), 3, P_X3_following)
theorem ok_X3_following : okP 3 cX3_following P_X3_following = true := by decide +kernel
def P_X4_isTooLong : List PE := [(0, .aload_n 0, 1, 0, 0), (1, .getfield 15, 4, 0, 0), (4, .iconst (-1), 5, 0, (-1)), (5, .if_icmp .ne 7, 8, 12, 0), (8, .iconst 1, 9, 0, 1), (9, .goto 4, 12, 13, 0), (12, .iconst 0, 13, 0, 0), (13, .ireturn, 14, 0, 0)]
abbrev M_X4_isTooLong : MI := (yX4_isTooLong, cX4_isTooLong, 1, (some .boolean), 4, P_X4_isTooLong)
theorem ok_X4_isTooLong : okP 4 cX4_isTooLong P_X4_isTooLong = true := by decide +kernel
def P_X4_begin : List PE := [(0, .aload_n 0, 1, 0, 0), (1, .aload_n 1, 2, 0, 0), (2, .getfield 19, 5, 0, 0), (5, .iload_n 2, 6, 0, 0), (6, .iaload, 7, 0, 0), (7, .putfield 15, 10, 0, 0), (10, .aload_n 1, 11, 0, 0), (11, .getfield 24, 14, 0, 0),
  (14, .iload_n 2, 15, 0, 0), (15, .aaload, 16, 0, 0), (16, .iconst 0, 17, 0, 0), (17, .aload_n 0, 18, 0, 0), (18, .getfield 9, 21, 0, 0), (21, .iconst 0, 22, 0, 0), (22, .aload_n 0, 23, 0, 0), (23, .getfield 15, 26, 0, 0),
  (26, .invokestatic 27, 29, 0, 0), (29, .return_, 30, 0, 0)]
abbrev M_X4_begin : MI := (yX4_begin, cX4_begin, 3, none, 4, P_X4_begin)
theorem ok_X4_begin : okP 4 cX4_begin P_X4_begin = true := by decide +kernel
def P_X4_say : List PE := [(0, .aload_n 0, 1, 0, 0), (1, .aload_n 1, 2, 0, 0), (2, .iload_n 3, 3, 0, 0), (3, .invokevirtual 33, 6, 0, 0), (6, .aload_n 0, 7, 0, 0), (7, .aload_n 1, 8, 0, 0), (8, .aload_n 2, 9, 0, 0), (9, .invokevirtual 37, 12, 0, 0),
  (12, .return_, 13, 0, 0)]
abbrev M_X4_say : MI := (yX4_say, cX4_say, 4, none, 4, P_X4_say)
theorem ok_X4_say : okP 4 cX4_say P_X4_say = true := by decide +kernel
def P_X4_sayByOne : List PE := [(0, .aload_n 0, 1, 0, 0), (1, .aload_n 1, 2, 0, 0), (2, .iload_n 3, 3, 0, 0), (3, .invokevirtual 33, 6, 0, 0), (6, .aload_n 0, 7, 0, 0), (7, .aload_n 1, 8, 0, 0), (8, .iload_n 2, 9, 0, 0), (9, .invokevirtual 41, 12, 0, 0),
  (12, .return_, 13, 0, 0)]
abbrev M_X4_sayByOne : MI := (yX4_sayByOne, cX4_sayByOne, 4, none, 4, P_X4_sayByOne)
theorem ok_X4_sayByOne : okP 4 cX4_sayByOne P_X4_sayByOne = true := by decide +kernel
def P_X4_become : List PE := [(0, .aload_n 0, 1, 0, 0), (1, .aload_n 1, 2, 0, 0), (2, .getfield 15, 5, 0, 0), (5, .putfield 15, 8, 0, 0), (8, .aload_n 0, 9, 0, 0), (9, .getfield 15, 12, 0, 0), (12, .ifCond .le 20, 15, 32, 0), (15, .aload_n 1, 16, 0, 0),
  (16, .getfield 9, 19, 0, 0), (19, .iconst 0, 20, 0, 0), (20, .aload_n 0, 21, 0, 0), (21, .getfield 9, 24, 0, 0), (24, .iconst 0, 25, 0, 0), (25, .aload_n 0, 26, 0, 0), (26, .getfield 15, 29, 0, 0), (29, .invokestatic 27, 32, 0, 0),
  (32, .return_, 33, 0, 0)]
abbrev M_X4_become : MI := (yX4_become, cX4_become, 2, none, 4, P_X4_become)
theorem ok_X4_become : okP 4 cX4_become P_X4_become = true := by decide +kernel
def P_X4_turnByRow : List PE := [(0, .iconst 0, 1, 0, 0), (1, .istore_n 3, 2, 0, 0), (2, .iload_n 3, 3, 0, 0), (3, .aload_n 2, 4, 0, 0), (4, .getfield 44, 7, 0, 0), (7, .if_icmp .ge 20, 10, 27, 0), (10, .aload_n 0, 11, 0, 0), (11, .aload_n 1, 12, 0, 0),
  (12, .aload_n 2, 13, 0, 0), (13, .getfield 47, 16, 0, 0), (16, .iload_n 3, 17, 0, 0), (17, .iaload, 18, 0, 0), (18, .invokevirtual 41, 21, 0, 0), (21, .iinc 3 1, 24, 0, 1), (24, .goto (-22), 27, 2, 0), (27, .return_, 28, 0, 0)]
abbrev M_X4_turnByRow : MI := (yX4_turnByRow, cX4_turnByRow, 4, none, 4, P_X4_turnByRow)
theorem ok_X4_turnByRow : okP 4 cX4_turnByRow P_X4_turnByRow = true := by decide +kernel
def P_X4_turn : List PE := [(0, .aload_n 0, 1, 0, 0), (1, .invokevirtual 50, 4, 0, 0), (4, .ifCond .eq 4, 7, 8, 0), (7, .return_, 8, 0, 0), (8, .aload_n 1, 9, 0, 0), (9, .getfield 54, 12, 0, 0), (12, .iload_n 2, 13, 0, 0), (13, .iaload, 14, 0, 0),
  (14, .tableswitch 109 1 5 #[34, 51, 64, 85, 102], 48, 0, 0), (48, .aload_n 0, 49, 0, 0), (49, .aload_n 1, 50, 0, 0), (50, .getfield 57, 53, 0, 0), (53, .iload_n 2, 54, 0, 0), (54, .iaload, 55, 0, 0), (55, .aload_n 1, 56, 0, 0), (56, .getfield 60, 59, 0, 0),
  (59, .invokevirtual 63, 62, 0, 0), (62, .goto 61, 65, 123, 0), (65, .aload_n 0, 66, 0, 0), (66, .aload_n 1, 67, 0, 0), (67, .getfield 67, 70, 0, 0), (70, .iload_n 2, 71, 0, 0), (71, .iaload, 72, 0, 0), (72, .invokevirtual 70, 75, 0, 0),
  (75, .goto 48, 78, 123, 0), (78, .aload_n 0, 79, 0, 0), (79, .aload_n 1, 80, 0, 0), (80, .getfield 57, 83, 0, 0), (83, .iload_n 2, 84, 0, 0), (84, .iaload, 85, 0, 0), (85, .aload_n 1, 86, 0, 0), (86, .getfield 60, 89, 0, 0),
  (89, .invokevirtual 63, 92, 0, 0), (92, .aload_n 0, 93, 0, 0), (93, .invokevirtual 74, 96, 0, 0), (96, .goto 27, 99, 123, 0), (99, .aload_n 0, 100, 0, 0), (100, .aload_n 1, 101, 0, 0), (101, .getfield 67, 104, 0, 0), (104, .iload_n 2, 105, 0, 0),
  (105, .iaload, 106, 0, 0), (106, .aload_n 1, 107, 0, 0), (107, .getfield 60, 110, 0, 0), (110, .invokevirtual 77, 113, 0, 0), (113, .goto 10, 116, 123, 0), (116, .aload_n 0, 117, 0, 0), (117, .invokevirtual 80, 120, 0, 0), (120, .goto 3, 123, 123, 0),
  (123, .return_, 124, 0, 0)]
abbrev M_X4_turn : MI := (yX4_turn, cX4_turn, 3, none, 4, P_X4_turn)
theorem ok_X4_turn : okP 4 cX4_turn P_X4_turn = true := by decide +kernel
def P_X4_vowelCount : List PE := [(0, .iconst 0, 1, 0, 0), (1, .istore_n 2, 2, 0, 0), (2, .iconst 0, 3, 0, 0), (3, .istore_n 3, 4, 0, 0), (4, .iload_n 3, 5, 0, 0), (5, .aload_n 0, 6, 0, 0), (6, .getfield 15, 9, 0, 0), (9, .if_icmp .ge 22, 12, 31, 0),
  (12, .iload_n 2, 13, 0, 0), (13, .iload_n 1, 14, 0, 0), (14, .aload_n 0, 15, 0, 0), (15, .getfield 9, 18, 0, 0), (18, .iload_n 3, 19, 0, 0), (19, .iaload, 20, 0, 0), (20, .iushr, 21, 0, 0), (21, .iconst 1, 22, 0, 1),
  (22, .iand, 23, 0, 0), (23, .iadd, 24, 0, 0), (24, .istore_n 2, 25, 0, 0), (25, .iinc 3 1, 28, 0, 1), (28, .goto (-24), 31, 4, 0), (31, .iload_n 2, 32, 0, 0), (32, .ireturn, 33, 0, 0)]
abbrev M_X4_vowelCount : MI := (yX4_vowelCount, cX4_vowelCount, 4, (some .int), 4, P_X4_vowelCount)
theorem ok_X4_vowelCount : okP 4 cX4_vowelCount P_X4_vowelCount = true := by decide +kernel
def P_X4_putAfterVowels : List PE := [(0, .aload_n 0, 1, 0, 0), (1, .getfield 15, 4, 0, 0), (4, .aload_n 0, 5, 0, 0), (5, .iload_n 2, 6, 0, 0), (6, .invokevirtual 83, 9, 0, 0), (9, .iadd, 10, 0, 0), (10, .istore_n 3, 11, 0, 0), (11, .iload_n 3, 12, 0, 0),
  (12, .bipush 40, 14, 0, 40), (14, .if_icmp .le 9, 17, 23, 0), (17, .aload_n 0, 18, 0, 0), (18, .iconst (-1), 19, 0, (-1)), (19, .putfield 15, 22, 0, 0), (22, .return_, 23, 0, 0), (23, .aload_n 0, 24, 0, 0), (24, .getfield 15, 27, 0, 0),
  (27, .iconst 1, 28, 0, 1), (28, .isub, 29, 0, 0), (29, .istore 4, 31, 0, 0), (31, .aload_n 0, 32, 0, 0), (32, .iload_n 3, 33, 0, 0), (33, .putfield 15, 36, 0, 0), (36, .iload 4, 38, 0, 0), (38, .ifCond .lt 48, 41, 86, 0),
  (41, .aload_n 0, 42, 0, 0), (42, .getfield 9, 45, 0, 0), (45, .iload 4, 47, 0, 0), (47, .iaload, 48, 0, 0), (48, .istore 5, 50, 0, 0), (50, .iload_n 2, 51, 0, 0), (51, .iload 5, 53, 0, 0), (53, .iushr, 54, 0, 0),
  (54, .iconst 1, 55, 0, 1), (55, .iand, 56, 0, 0), (56, .ifCond .eq 13, 59, 69, 0), (59, .iinc 3 (-1), 62, 0, (-1)), (62, .aload_n 0, 63, 0, 0), (63, .getfield 9, 66, 0, 0), (66, .iload_n 3, 67, 0, 0), (67, .iload_n 1, 68, 0, 0),
  (68, .iastore, 69, 0, 0), (69, .iinc 3 (-1), 72, 0, (-1)), (72, .aload_n 0, 73, 0, 0), (73, .getfield 9, 76, 0, 0), (76, .iload_n 3, 77, 0, 0), (77, .iload 5, 79, 0, 0), (79, .iastore, 80, 0, 0), (80, .iinc 4 (-1), 83, 0, (-1)),
  (83, .goto (-47), 86, 36, 0), (86, .return_, 87, 0, 0)]
abbrev M_X4_putAfterVowels : MI := (yX4_putAfterVowels, cX4_putAfterVowels, 6, none, 4, P_X4_putAfterVowels)
theorem ok_X4_putAfterVowels : okP 4 cX4_putAfterVowels P_X4_putAfterVowels = true := by decide +kernel
def P_X4_repeatFirst : List PE := [(0, .aload_n 0, 1, 0, 0), (1, .invokevirtual 50, 4, 0, 0), (4, .ifCond .eq 4, 7, 8, 0), (7, .return_, 8, 0, 0), (8, .aload_n 0, 9, 0, 0), (9, .getfield 15, 12, 0, 0), (12, .bipush 40, 14, 0, 40), (14, .if_icmp .ne 9, 17, 23, 0),
  (17, .aload_n 0, 18, 0, 0), (18, .iconst (-1), 19, 0, (-1)), (19, .putfield 15, 22, 0, 0), (22, .return_, 23, 0, 0), (23, .aload_n 0, 24, 0, 0), (24, .getfield 9, 27, 0, 0), (27, .aload_n 0, 28, 0, 0), (28, .getfield 15, 31, 0, 0),
  (31, .aload_n 0, 32, 0, 0), (32, .getfield 9, 35, 0, 0), (35, .iconst 0, 36, 0, 0), (36, .iaload, 37, 0, 0), (37, .iastore, 38, 0, 0), (38, .aload_n 0, 39, 0, 0), (39, .dup, 40, 0, 0), (40, .getfield 15, 43, 0, 0),
  (43, .iconst 1, 44, 0, 1), (44, .iadd, 45, 0, 0), (45, .putfield 15, 48, 0, 0), (48, .return_, 49, 0, 0)]
abbrev M_X4_repeatFirst : MI := (yX4_repeatFirst, cX4_repeatFirst, 1, none, 4, P_X4_repeatFirst)
theorem ok_X4_repeatFirst : okP 4 cX4_repeatFirst P_X4_repeatFirst = true := by decide +kernel
def P_X4_shift : List PE := [(0, .iconst 0, 1, 0, 0), (1, .istore_n 2, 2, 0, 0), (2, .iload_n 2, 3, 0, 0), (3, .aload_n 0, 4, 0, 0), (4, .getfield 15, 7, 0, 0), (7, .if_icmp .ge 26, 10, 33, 0), (10, .aload_n 0, 11, 0, 0), (11, .getfield 9, 14, 0, 0),
  (14, .iload_n 2, 15, 0, 0), (15, .aload_n 0, 16, 0, 0), (16, .getfield 9, 19, 0, 0), (19, .iload_n 2, 20, 0, 0), (20, .iaload, 21, 0, 0), (21, .iload_n 1, 22, 0, 0), (22, .iadd, 23, 0, 0), (23, .bipush 26, 25, 0, 26),
  (25, .irem, 26, 0, 0), (26, .iastore, 27, 0, 0), (27, .iinc 2 1, 30, 0, 1), (30, .goto (-28), 33, 2, 0), (33, .return_, 34, 0, 0)]
abbrev M_X4_shift : MI := (yX4_shift, cX4_shift, 3, none, 4, P_X4_shift)
theorem ok_X4_shift : okP 4 cX4_shift P_X4_shift = true := by decide +kernel
def P_X4_shiftVowels : List PE := [(0, .iconst 0, 1, 0, 0), (1, .istore_n 3, 2, 0, 0), (2, .iload_n 3, 3, 0, 0), (3, .aload_n 0, 4, 0, 0), (4, .getfield 15, 7, 0, 0), (7, .if_icmp .ge 39, 10, 46, 0), (10, .iload_n 2, 11, 0, 0), (11, .aload_n 0, 12, 0, 0),
  (12, .getfield 9, 15, 0, 0), (15, .iload_n 3, 16, 0, 0), (16, .iaload, 17, 0, 0), (17, .iushr, 18, 0, 0), (18, .iconst 1, 19, 0, 1), (19, .iand, 20, 0, 0), (20, .ifCond .eq 20, 23, 40, 0), (23, .aload_n 0, 24, 0, 0),
  (24, .getfield 9, 27, 0, 0), (27, .iload_n 3, 28, 0, 0), (28, .aload_n 0, 29, 0, 0), (29, .getfield 9, 32, 0, 0), (32, .iload_n 3, 33, 0, 0), (33, .iaload, 34, 0, 0), (34, .iload_n 1, 35, 0, 0), (35, .iadd, 36, 0, 0),
  (36, .bipush 26, 38, 0, 26), (38, .irem, 39, 0, 0), (39, .iastore, 40, 0, 0), (40, .iinc 3 1, 43, 0, 1), (43, .goto (-41), 46, 2, 0), (46, .return_, 47, 0, 0)]
abbrev M_X4_shiftVowels : MI := (yX4_shiftVowels, cX4_shiftVowels, 4, none, 4, P_X4_shiftVowels)
theorem ok_X4_shiftVowels : okP 4 cX4_shiftVowels P_X4_shiftVowels = true := by decide +kernel
def P_X4_reverse : List PE := [(0, .iconst 0, 1, 0, 0), (1, .istore_n 1, 2, 0, 0), (2, .aload_n 0, 3, 0, 0), (3, .getfield 15, 6, 0, 0), (6, .iconst 1, 7, 0, 1), (7, .isub, 8, 0, 0), (8, .istore_n 2, 9, 0, 0), (9, .iload_n 1, 10, 0, 0),
  (10, .iload_n 2, 11, 0, 0), (11, .if_icmp .ge 38, 14, 49, 0), (14, .aload_n 0, 15, 0, 0), (15, .getfield 9, 18, 0, 0), (18, .iload_n 1, 19, 0, 0), (19, .iaload, 20, 0, 0), (20, .istore_n 3, 21, 0, 0), (21, .aload_n 0, 22, 0, 0),
  (22, .getfield 9, 25, 0, 0), (25, .iload_n 1, 26, 0, 0), (26, .aload_n 0, 27, 0, 0), (27, .getfield 9, 30, 0, 0), (30, .iload_n 2, 31, 0, 0), (31, .iaload, 32, 0, 0), (32, .iastore, 33, 0, 0), (33, .aload_n 0, 34, 0, 0),
  (34, .getfield 9, 37, 0, 0), (37, .iload_n 2, 38, 0, 0), (38, .iload_n 3, 39, 0, 0), (39, .iastore, 40, 0, 0), (40, .iinc 1 1, 43, 0, 1), (43, .iinc 2 (-1), 46, 0, (-1)), (46, .goto (-37), 49, 9, 0), (49, .return_, 50, 0, 0)]
abbrev M_X4_reverse : MI := (yX4_reverse, cX4_reverse, 4, none, 4, P_X4_reverse)
theorem ok_X4_reverse : okP 4 cX4_reverse P_X4_reverse = true := by decide +kernel
def P_X4_answer : List PE := [(0, .aload_n 0, 1, 0, 0), (1, .invokevirtual 50, 4, 0, 0), (4, .ifCond .eq 6, 7, 10, 0), (7, .bipush (-3), 9, 0, (-3)), (9, .ireturn, 10, 0, 0), (10, .iload_n 1, 11, 0, 0), (11, .iconst (-1), 12, 0, (-1)), (12, .if_icmp .ne 8, 15, 20, 0),
  (15, .aload_n 0, 16, 0, 0), (16, .getfield 15, 19, 0, 0), (19, .ireturn, 20, 0, 0), (20, .iload_n 1, 21, 0, 0), (21, .ifCond .lt 20, 24, 41, 0), (24, .iload_n 1, 25, 0, 0), (25, .aload_n 0, 26, 0, 0), (26, .getfield 15, 29, 0, 0),
  (29, .if_icmp .ge 12, 32, 41, 0), (32, .aload_n 0, 33, 0, 0), (33, .getfield 9, 36, 0, 0), (36, .iload_n 1, 37, 0, 0), (37, .iaload, 38, 0, 0), (38, .goto 4, 41, 42, 0), (41, .iconst (-1), 42, 0, (-1)), (42, .ireturn, 43, 0, 0)]
abbrev M_X4_answer : MI := (yX4_answer, cX4_answer, 2, (some .int), 4, P_X4_answer)
theorem ok_X4_answer : okP 4 cX4_answer P_X4_answer = true := by decide +kernel
def P_X4_isLike : List PE := [(0, .aload_n 0, 1, 0, 0), (1, .invokevirtual 50, 4, 0, 0), (4, .ifCond .ne 14, 7, 18, 0), (7, .aload_n 0, 8, 0, 0), (8, .getfield 15, 11, 0, 0), (11, .aload_n 1, 12, 0, 0), (12, .getfield 15, 15, 0, 0), (15, .if_icmp .eq 5, 18, 20, 0),
  (18, .iconst 0, 19, 0, 0), (19, .ireturn, 20, 0, 0), (20, .iconst 0, 21, 0, 0), (21, .istore_n 2, 22, 0, 0), (22, .iload_n 2, 23, 0, 0), (23, .aload_n 0, 24, 0, 0), (24, .getfield 15, 27, 0, 0), (27, .if_icmp .ge 26, 30, 53, 0),
  (30, .aload_n 0, 31, 0, 0), (31, .getfield 9, 34, 0, 0), (34, .iload_n 2, 35, 0, 0), (35, .iaload, 36, 0, 0), (36, .aload_n 1, 37, 0, 0), (37, .getfield 9, 40, 0, 0), (40, .iload_n 2, 41, 0, 0), (41, .iaload, 42, 0, 0),
  (42, .if_icmp .eq 5, 45, 47, 0), (45, .iconst 0, 46, 0, 0), (46, .ireturn, 47, 0, 0), (47, .iinc 2 1, 50, 0, 1), (50, .goto (-28), 53, 22, 0), (53, .iconst 1, 54, 0, 1), (54, .ireturn, 55, 0, 0)]
abbrev M_X4_isLike : MI := (yX4_isLike, cX4_isLike, 3, (some .boolean), 4, P_X4_isLike)
theorem ok_X4_isLike : okP 4 cX4_isLike P_X4_isLike = true := by decide +kernel
def P_X4_isWord : List PE := [(0, .aload_n 0, 1, 0, 0), (1, .getfield 15, 4, 0, 0), (4, .aload_n 1, 5, 0, 0), (5, .getfield 19, 8, 0, 0), (8, .iload_n 2, 9, 0, 0), (9, .iaload, 10, 0, 0), (10, .if_icmp .eq 5, 13, 15, 0), (13, .iconst 0, 14, 0, 0),
  (14, .ireturn, 15, 0, 0), (15, .iconst 0, 16, 0, 0), (16, .istore_n 3, 17, 0, 0), (17, .iload_n 3, 18, 0, 0), (18, .aload_n 0, 19, 0, 0), (19, .getfield 15, 22, 0, 0), (22, .if_icmp .ge 28, 25, 50, 0), (25, .aload_n 0, 26, 0, 0),
  (26, .getfield 9, 29, 0, 0), (29, .iload_n 3, 30, 0, 0), (30, .iaload, 31, 0, 0), (31, .aload_n 1, 32, 0, 0), (32, .getfield 24, 35, 0, 0), (35, .iload_n 2, 36, 0, 0), (36, .aaload, 37, 0, 0), (37, .iload_n 3, 38, 0, 0),
  (38, .iaload, 39, 0, 0), (39, .if_icmp .eq 5, 42, 44, 0), (42, .iconst 0, 43, 0, 0), (43, .ireturn, 44, 0, 0), (44, .iinc 3 1, 47, 0, 1), (47, .goto (-30), 50, 17, 0), (50, .iconst 1, 51, 0, 1), (51, .ireturn, 52, 0, 0)]
abbrev M_X4_isWord : MI := (yX4_isWord, cX4_isWord, 4, (some .boolean), 4, P_X4_isWord)
theorem ok_X4_isWord : okP 4 cX4_isWord P_X4_isWord = true := by decide +kernel
def P_X4_differences : List PE := [(0, .iconst 0, 1, 0, 0), (1, .istore_n 2, 2, 0, 0), (2, .iconst 0, 3, 0, 0), (3, .istore_n 3, 4, 0, 0), (4, .iload_n 3, 5, 0, 0), (5, .aload_n 0, 6, 0, 0), (6, .getfield 15, 9, 0, 0), (9, .if_icmp .ge 27, 12, 36, 0),
  (12, .aload_n 0, 13, 0, 0), (13, .getfield 9, 16, 0, 0), (16, .iload_n 3, 17, 0, 0), (17, .iaload, 18, 0, 0), (18, .aload_n 1, 19, 0, 0), (19, .getfield 9, 22, 0, 0), (22, .iload_n 3, 23, 0, 0), (23, .iaload, 24, 0, 0),
  (24, .if_icmp .eq 6, 27, 30, 0), (27, .iinc 2 1, 30, 0, 1), (30, .iinc 3 1, 33, 0, 1), (33, .goto (-29), 36, 4, 0), (36, .iload_n 2, 37, 0, 0), (37, .ireturn, 38, 0, 0)]
abbrev M_X4_differences : MI := (yX4_differences, cX4_differences, 4, (some .int), 4, P_X4_differences)
theorem ok_X4_differences : okP 4 cX4_differences P_X4_differences = true := by decide +kernel
def P_X5_begin : List PE := [(0, .aload_n 0, 1, 0, 0), (1, .aload_n 1, 2, 0, 0), (2, .getfield 18, 5, 0, 0), (5, .putfield 24, 8, 0, 0), (8, .iconst 0, 9, 0, 0), (9, .istore_n 2, 10, 0, 0), (10, .iload_n 2, 11, 0, 0), (11, .aload_n 0, 12, 0, 0),
  (12, .getfield 24, 15, 0, 0), (15, .if_icmp .ge 20, 18, 35, 0), (18, .aload_n 0, 19, 0, 0), (19, .getfield 11, 22, 0, 0), (22, .iload_n 2, 23, 0, 0), (23, .aaload, 24, 0, 0), (24, .aload_n 1, 25, 0, 0), (25, .iload_n 2, 26, 0, 0),
  (26, .invokevirtual 27, 29, 0, 0), (29, .iinc 2 1, 32, 0, 1), (32, .goto (-22), 35, 10, 0), (35, .return_, 36, 0, 0)]
abbrev M_X5_begin : MI := (yX5_begin, cX5_begin, 3, none, 5, P_X5_begin)
theorem ok_X5_begin : okP 5 cX5_begin P_X5_begin = true := by decide +kernel
def P_X5_sayAll : List PE := [(0, .aload_n 0, 1, 0, 0), (1, .aload_n 1, 2, 0, 0), (2, .getfield 18, 5, 0, 0), (5, .putfield 24, 8, 0, 0), (8, .iconst 0, 9, 0, 0), (9, .istore_n 3, 10, 0, 0), (10, .iload_n 3, 11, 0, 0), (11, .aload_n 0, 12, 0, 0),
  (12, .getfield 24, 15, 0, 0), (15, .if_icmp .ge 31, 18, 46, 0), (18, .aload_n 0, 19, 0, 0), (19, .getfield 11, 22, 0, 0), (22, .iload_n 3, 23, 0, 0), (23, .aaload, 24, 0, 0), (24, .aload_n 1, 25, 0, 0), (25, .iload_n 3, 26, 0, 0),
  (26, .invokevirtual 27, 29, 0, 0), (29, .aload_n 0, 30, 0, 0), (30, .getfield 11, 33, 0, 0), (33, .iload_n 3, 34, 0, 0), (34, .aaload, 35, 0, 0), (35, .aload_n 1, 36, 0, 0), (36, .aload_n 2, 37, 0, 0), (37, .invokevirtual 31, 40, 0, 0),
  (40, .iinc 3 1, 43, 0, 1), (43, .goto (-33), 46, 10, 0), (46, .return_, 47, 0, 0)]
abbrev M_X5_sayAll : MI := (yX5_sayAll, cX5_sayAll, 4, none, 5, P_X5_sayAll)
theorem ok_X5_sayAll : okP 5 cX5_sayAll P_X5_sayAll = true := by decide +kernel
def P_X5_becomeTurned : List PE := [(0, .aload_n 0, 1, 0, 0), (1, .aload_n 1, 2, 0, 0), (2, .getfield 24, 5, 0, 0), (5, .putfield 24, 8, 0, 0), (8, .iconst 0, 9, 0, 0), (9, .istore 4, 11, 0, 0), (11, .iload 4, 13, 0, 0), (13, .aload_n 0, 14, 0, 0),
  (14, .getfield 24, 17, 0, 0), (17, .if_icmp .ge 38, 20, 55, 0), (20, .aload_n 0, 21, 0, 0), (21, .getfield 11, 24, 0, 0), (24, .iload 4, 26, 0, 0), (26, .aaload, 27, 0, 0), (27, .aload_n 1, 28, 0, 0), (28, .getfield 11, 31, 0, 0),
  (31, .iload 4, 33, 0, 0), (33, .aaload, 34, 0, 0), (34, .invokevirtual 35, 37, 0, 0), (37, .aload_n 0, 38, 0, 0), (38, .getfield 11, 41, 0, 0), (41, .iload 4, 43, 0, 0), (43, .aaload, 44, 0, 0), (44, .aload_n 2, 45, 0, 0),
  (45, .iload_n 3, 46, 0, 0), (46, .invokevirtual 39, 49, 0, 0), (49, .iinc 4 1, 52, 0, 1), (52, .goto (-41), 55, 11, 0), (55, .return_, 56, 0, 0)]
abbrev M_X5_becomeTurned : MI := (yX5_becomeTurned, cX5_becomeTurned, 5, none, 5, P_X5_becomeTurned)
theorem ok_X5_becomeTurned : okP 5 cX5_becomeTurned P_X5_becomeTurned = true := by decide +kernel
def P_X5_alike : List PE := [(0, .iconst 0, 1, 0, 0), (1, .istore_n 1, 2, 0, 0), (2, .iconst 0, 3, 0, 0), (3, .istore_n 2, 4, 0, 0), (4, .iload_n 2, 5, 0, 0), (5, .aload_n 0, 6, 0, 0), (6, .getfield 24, 9, 0, 0), (9, .if_icmp .ge 55, 12, 64, 0),
  (12, .iload_n 2, 13, 0, 0), (13, .iconst 1, 14, 0, 1), (14, .iadd, 15, 0, 0), (15, .istore_n 3, 16, 0, 0), (16, .iload_n 3, 17, 0, 0), (17, .aload_n 0, 18, 0, 0), (18, .getfield 24, 21, 0, 0), (21, .if_icmp .ge 37, 24, 58, 0),
  (24, .aload_n 0, 25, 0, 0), (25, .getfield 11, 28, 0, 0), (28, .iload_n 2, 29, 0, 0), (29, .aaload, 30, 0, 0), (30, .aload_n 0, 31, 0, 0), (31, .getfield 11, 34, 0, 0), (34, .iload_n 3, 35, 0, 0), (35, .aaload, 36, 0, 0),
  (36, .invokevirtual 42, 39, 0, 0), (39, .ifCond .eq 13, 42, 52, 0), (42, .iload_n 1, 43, 0, 0), (43, .iconst 1, 44, 0, 1), (44, .iload_n 2, 45, 0, 0), (45, .ishl, 46, 0, 0), (46, .iconst 1, 47, 0, 1), (47, .iload_n 3, 48, 0, 0),
  (48, .ishl, 49, 0, 0), (49, .ior, 50, 0, 0), (50, .ior, 51, 0, 0), (51, .istore_n 1, 52, 0, 0), (52, .iinc 3 1, 55, 0, 1), (55, .goto (-39), 58, 16, 0), (58, .iinc 2 1, 61, 0, 1), (61, .goto (-57), 64, 4, 0),
  (64, .iload_n 1, 65, 0, 0), (65, .ireturn, 66, 0, 0)]
abbrev M_X5_alike : MI := (yX5_alike, cX5_alike, 4, (some .int), 5, P_X5_alike)
theorem ok_X5_alike : okP 5 cX5_alike P_X5_alike = true := by decide +kernel
def P_X5_apart : List PE := [(0, .iconst (-1), 1, 0, (-1)), (1, .istore_n 1, 2, 0, 0), (2, .iconst 0, 3, 0, 0), (3, .istore_n 2, 4, 0, 0), (4, .iload_n 2, 5, 0, 0), (5, .aload_n 0, 6, 0, 0), (6, .getfield 24, 9, 0, 0), (9, .if_icmp .ge 94, 12, 103, 0),
  (12, .iload_n 2, 13, 0, 0), (13, .iconst 1, 14, 0, 1), (14, .iadd, 15, 0, 0), (15, .istore_n 3, 16, 0, 0), (16, .iload_n 3, 17, 0, 0), (17, .aload_n 0, 18, 0, 0), (18, .getfield 24, 21, 0, 0), (21, .if_icmp .ge 76, 24, 97, 0),
  (24, .aload_n 0, 25, 0, 0), (25, .getfield 11, 28, 0, 0), (28, .iload_n 2, 29, 0, 0), (29, .aaload, 30, 0, 0), (30, .invokevirtual 46, 33, 0, 0), (33, .ifCond .ne 58, 36, 91, 0), (36, .aload_n 0, 37, 0, 0), (37, .getfield 11, 40, 0, 0),
  (40, .iload_n 2, 41, 0, 0), (41, .aaload, 42, 0, 0), (42, .getfield 50, 45, 0, 0), (45, .aload_n 0, 46, 0, 0), (46, .getfield 11, 49, 0, 0), (49, .iload_n 3, 50, 0, 0), (50, .aaload, 51, 0, 0), (51, .getfield 50, 54, 0, 0),
  (54, .if_icmp .ne 37, 57, 91, 0), (57, .aload_n 0, 58, 0, 0), (58, .getfield 11, 61, 0, 0), (61, .iload_n 2, 62, 0, 0), (62, .aaload, 63, 0, 0), (63, .aload_n 0, 64, 0, 0), (64, .getfield 11, 67, 0, 0), (67, .iload_n 3, 68, 0, 0),
  (68, .aaload, 69, 0, 0), (69, .invokevirtual 51, 72, 0, 0), (72, .istore 4, 74, 0, 0), (74, .iload_n 1, 75, 0, 0), (75, .iconst (-1), 76, 0, (-1)), (76, .if_icmp .ne 8, 79, 84, 0), (79, .iload 4, 81, 0, 0), (81, .goto 9, 84, 90, 0),
  (84, .iload_n 1, 85, 0, 0), (85, .iload 4, 87, 0, 0), (87, .invokestatic 55, 90, 0, 0), (90, .istore_n 1, 91, 0, 0), (91, .iinc 3 1, 94, 0, 1), (94, .goto (-78), 97, 16, 0), (97, .iinc 2 1, 100, 0, 1), (100, .goto (-96), 103, 4, 0),
  (103, .iload_n 1, 104, 0, 0), (104, .ireturn, 105, 0, 0)]
abbrev M_X5_apart : MI := (yX5_apart, cX5_apart, 5, (some .int), 5, P_X5_apart)
theorem ok_X5_apart : okP 5 cX5_apart P_X5_apart = true := by decide +kernel
def P_X5_tooLong : List PE := [(0, .iconst 0, 1, 0, 0), (1, .istore_n 1, 2, 0, 0), (2, .iconst 0, 3, 0, 0), (3, .istore_n 2, 4, 0, 0), (4, .iload_n 2, 5, 0, 0), (5, .aload_n 0, 6, 0, 0), (6, .getfield 24, 9, 0, 0), (9, .if_icmp .ge 27, 12, 36, 0),
  (12, .aload_n 0, 13, 0, 0), (13, .getfield 11, 16, 0, 0), (16, .iload_n 2, 17, 0, 0), (17, .aaload, 18, 0, 0), (18, .invokevirtual 46, 21, 0, 0), (21, .ifCond .eq 9, 24, 30, 0), (24, .iload_n 1, 25, 0, 0), (25, .iconst 1, 26, 0, 1),
  (26, .iload_n 2, 27, 0, 0), (27, .ishl, 28, 0, 0), (28, .ior, 29, 0, 0), (29, .istore_n 1, 30, 0, 0), (30, .iinc 2 1, 33, 0, 1), (33, .goto (-29), 36, 4, 0), (36, .iload_n 1, 37, 0, 0), (37, .ireturn, 38, 0, 0)]
abbrev M_X5_tooLong : MI := (yX5_tooLong, cX5_tooLong, 3, (some .int), 5, P_X5_tooLong)
theorem ok_X5_tooLong : okP 5 cX5_tooLong P_X5_tooLong = true := by decide +kernel
def P_X5_hasAnother : List PE := [(0, .iconst 0, 1, 0, 0), (1, .istore_n 3, 2, 0, 0), (2, .iload_n 3, 3, 0, 0), (3, .aload_n 0, 4, 0, 0), (4, .getfield 24, 7, 0, 0), (7, .if_icmp .ge 29, 10, 36, 0), (10, .iload_n 3, 11, 0, 0), (11, .iload_n 2, 12, 0, 0),
  (12, .if_icmp .eq 18, 15, 30, 0), (15, .aload_n 1, 16, 0, 0), (16, .aload_n 0, 17, 0, 0), (17, .getfield 11, 20, 0, 0), (20, .iload_n 3, 21, 0, 0), (21, .aaload, 22, 0, 0), (22, .invokevirtual 42, 25, 0, 0), (25, .ifCond .eq 5, 28, 30, 0),
  (28, .iconst 1, 29, 0, 1), (29, .ireturn, 30, 0, 0), (30, .iinc 3 1, 33, 0, 1), (33, .goto (-31), 36, 2, 0), (36, .iconst 0, 37, 0, 0), (37, .ireturn, 38, 0, 0)]
abbrev M_X5_hasAnother : MI := (yX5_hasAnother, cX5_hasAnother, 4, (some .boolean), 5, P_X5_hasAnother)
theorem ok_X5_hasAnother : okP 5 cX5_hasAnother P_X5_hasAnother = true := by decide +kernel
def P_X6_isMissing : List PE := [(0, .aload_n 0, 1, 0, 0), (1, .getfield 15, 4, 0, 0), (4, .iconst (-1), 5, 0, (-1)), (5, .if_icmp .ne 7, 8, 12, 0), (8, .iconst 1, 9, 0, 1), (9, .goto 4, 12, 13, 0), (12, .iconst 0, 13, 0, 0), (13, .ireturn, 14, 0, 0)]
abbrev M_X6_isMissing : MI := (yX6_isMissing, cX6_isMissing, 1, (some .boolean), 6, P_X6_isMissing)
theorem ok_X6_isMissing : okP 6 cX6_isMissing P_X6_isMissing = true := by decide +kernel
def P_X6_become : List PE := [(0, .aload_n 0, 1, 0, 0), (1, .iload_n 1, 2, 0, 0), (2, .putfield 15, 5, 0, 0), (5, .aload_n 0, 6, 0, 0), (6, .iload_n 2, 7, 0, 0), (7, .putfield 19, 10, 0, 0), (10, .iconst 0, 11, 0, 0), (11, .istore_n 3, 12, 0, 0),
  (12, .iload_n 3, 13, 0, 0), (13, .bipush 40, 15, 0, 40), (15, .if_icmp .ge 16, 18, 31, 0), (18, .aload_n 0, 19, 0, 0), (19, .getfield 9, 22, 0, 0), (22, .iload_n 3, 23, 0, 0), (23, .iconst 0, 24, 0, 0), (24, .iastore, 25, 0, 0),
  (25, .iinc 3 1, 28, 0, 1), (28, .goto (-16), 31, 12, 0), (31, .return_, 32, 0, 0)]
abbrev M_X6_become : MI := (yX6_become, cX6_become, 4, none, 6, P_X6_become)
theorem ok_X6_become : okP 6 cX6_become P_X6_become = true := by decide +kernel
def P_X6_becomeSaying : List PE := [(0, .aload_n 0, 1, 0, 0), (1, .iconst 0, 2, 0, 0), (2, .aload_n 1, 3, 0, 0), (3, .getfield 22, 6, 0, 0), (6, .invokevirtual 25, 9, 0, 0), (9, .aload_n 1, 10, 0, 0), (10, .getfield 29, 13, 0, 0), (13, .iconst 0, 14, 0, 0),
  (14, .aload_n 0, 15, 0, 0), (15, .getfield 9, 18, 0, 0), (18, .iconst 0, 19, 0, 0), (19, .aload_n 1, 20, 0, 0), (20, .getfield 22, 23, 0, 0), (23, .invokestatic 32, 26, 0, 0), (26, .return_, 27, 0, 0)]
abbrev M_X6_becomeSaying : MI := (yX6_becomeSaying, cX6_becomeSaying, 2, none, 6, P_X6_becomeSaying)
theorem ok_X6_becomeSaying : okP 6 cX6_becomeSaying P_X6_becomeSaying = true := by decide +kernel
def P_X6_put : List PE := [(0, .aload_n 0, 1, 0, 0), (1, .getfield 15, 4, 0, 0), (4, .lookupswitch 50 #[(0, 28), (1, 39)], 32, 0, 0), (32, .aload_n 0, 33, 0, 0), (33, .getfield 9, 36, 0, 0), (36, .iload_n 1, 37, 0, 0), (37, .iload_n 2, 38, 0, 0), (38, .i2b, 39, 0, 0),
  (39, .iastore, 40, 0, 0), (40, .goto 21, 43, 61, 0), (43, .aload_n 0, 44, 0, 0), (44, .getfield 9, 47, 0, 0), (47, .iload_n 1, 48, 0, 0), (48, .iload_n 2, 49, 0, 0), (49, .i2s, 50, 0, 0), (50, .iastore, 51, 0, 0),
  (51, .goto 10, 54, 61, 0), (54, .aload_n 0, 55, 0, 0), (55, .getfield 9, 58, 0, 0), (58, .iload_n 1, 59, 0, 0), (59, .iload_n 2, 60, 0, 0), (60, .iastore, 61, 0, 0), (61, .return_, 62, 0, 0)]
abbrev M_X6_put : MI := (yX6_put, cX6_put, 3, none, 6, P_X6_put)
theorem ok_X6_put : okP 6 cX6_put P_X6_put = true := by decide +kernel
def P_X6_holds : List PE := [(0, .iload_n 1, 1, 0, 0), (1, .ifCond .lt 29, 4, 30, 0), (4, .iload_n 2, 5, 0, 0), (5, .ifCond .lt 25, 8, 30, 0), (8, .iload_n 1, 9, 0, 0), (9, .aload_n 0, 10, 0, 0), (10, .getfield 19, 13, 0, 0), (13, .if_icmp .gt 17, 16, 30, 0),
  (16, .iload_n 2, 17, 0, 0), (17, .aload_n 0, 18, 0, 0), (18, .getfield 19, 21, 0, 0), (21, .iload_n 1, 22, 0, 0), (22, .isub, 23, 0, 0), (23, .if_icmp .gt 7, 26, 30, 0), (26, .iconst 1, 27, 0, 1), (27, .goto 4, 30, 31, 0),
  (30, .iconst 0, 31, 0, 0), (31, .ireturn, 32, 0, 0)]
abbrev M_X6_holds : MI := (yX6_holds, cX6_holds, 3, (some .boolean), 6, P_X6_holds)
theorem ok_X6_holds : okP 6 cX6_holds P_X6_holds = true := by decide +kernel
def P_X6_tellsWord : List PE := [(0, .aload_n 0, 1, 0, 0), (1, .getfield 19, 4, 0, 0), (4, .iconst 1, 5, 0, 1), (5, .if_icmp .lt 12, 8, 17, 0), (8, .aload_n 0, 9, 0, 0), (9, .getfield 19, 12, 0, 0), (12, .bipush 10, 14, 0, 10), (14, .if_icmp .le 5, 17, 19, 0),
  (17, .iconst 0, 18, 0, 0), (18, .ireturn, 19, 0, 0), (19, .iconst 0, 20, 0, 0), (20, .istore_n 1, 21, 0, 0), (21, .iload_n 1, 22, 0, 0), (22, .aload_n 0, 23, 0, 0), (23, .getfield 19, 26, 0, 0), (26, .if_icmp .ge 23, 29, 49, 0),
  (29, .aload_n 0, 30, 0, 0), (30, .getfield 9, 33, 0, 0), (33, .iload_n 1, 34, 0, 0), (34, .iaload, 35, 0, 0), (35, .invokestatic 38, 38, 0, 0), (38, .ifCond .ne 5, 41, 43, 0), (41, .iconst 0, 42, 0, 0), (42, .ireturn, 43, 0, 0),
  (43, .iinc 1 1, 46, 0, 1), (46, .goto (-25), 49, 21, 0), (49, .iconst 1, 50, 0, 1), (50, .ireturn, 51, 0, 0)]
abbrev M_X6_tellsWord : MI := (yX6_tellsWord, cX6_tellsWord, 2, (some .boolean), 6, P_X6_tellsWord)
theorem ok_X6_tellsWord : okP 6 cX6_tellsWord P_X6_tellsWord = true := by decide +kernel
def P_X6_tells : List PE := [(0, .aload_n 1, 1, 0, 0), (1, .invokevirtual 42, 4, 0, 0), (4, .ifCond .ne 14, 7, 18, 0), (7, .aload_n 1, 8, 0, 0), (8, .getfield 22, 11, 0, 0), (11, .aload_n 0, 12, 0, 0), (12, .getfield 19, 15, 0, 0), (15, .if_icmp .eq 5, 18, 20, 0),
  (18, .iconst 0, 19, 0, 0), (19, .ireturn, 20, 0, 0), (20, .iconst 0, 21, 0, 0), (21, .istore_n 2, 22, 0, 0), (22, .iload_n 2, 23, 0, 0), (23, .aload_n 0, 24, 0, 0), (24, .getfield 19, 27, 0, 0), (27, .if_icmp .ge 26, 30, 53, 0),
  (30, .aload_n 0, 31, 0, 0), (31, .getfield 9, 34, 0, 0), (34, .iload_n 2, 35, 0, 0), (35, .iaload, 36, 0, 0), (36, .aload_n 1, 37, 0, 0), (37, .getfield 29, 40, 0, 0), (40, .iload_n 2, 41, 0, 0), (41, .iaload, 42, 0, 0),
  (42, .if_icmp .eq 5, 45, 47, 0), (45, .iconst 0, 46, 0, 0), (46, .ireturn, 47, 0, 0), (47, .iinc 2 1, 50, 0, 1), (50, .goto (-28), 53, 22, 0), (53, .iconst 1, 54, 0, 1), (54, .ireturn, 55, 0, 0)]
abbrev M_X6_tells : MI := (yX6_tells, cX6_tells, 3, (some .boolean), 6, P_X6_tells)
theorem ok_X6_tells : okP 6 cX6_tells P_X6_tells = true := by decide +kernel
def P_X7_hasWord : List PE := [(0, .iload_n 1, 1, 0, 0), (1, .ifCond .lt 15, 4, 16, 0), (4, .iload_n 1, 5, 0, 0), (5, .aload_n 0, 6, 0, 0), (6, .getfield 44, 9, 0, 0), (9, .if_icmp .ge 7, 12, 16, 0), (12, .iconst 1, 13, 0, 1), (13, .goto 4, 16, 17, 0),
  (16, .iconst 0, 17, 0, 0), (17, .ireturn, 18, 0, 0)]
abbrev M_X7_hasWord : MI := (yX7_hasWord, cX7_hasWord, 2, (some .boolean), 7, P_X7_hasWord)
theorem ok_X7_hasWord : okP 7 cX7_hasWord P_X7_hasWord = true := by decide +kernel
def P_X7_hasRule : List PE := [(0, .iload_n 1, 1, 0, 0), (1, .ifCond .lt 15, 4, 16, 0), (4, .iload_n 1, 5, 0, 0), (5, .aload_n 0, 6, 0, 0), (6, .getfield 47, 9, 0, 0), (9, .if_icmp .ge 7, 12, 16, 0), (12, .iconst 1, 13, 0, 1), (13, .goto 4, 16, 17, 0),
  (16, .iconst 0, 17, 0, 0), (17, .ireturn, 18, 0, 0)]
abbrev M_X7_hasRule : MI := (yX7_hasRule, cX7_hasRule, 2, (some .boolean), 7, P_X7_hasRule)
theorem ok_X7_hasRule : okP 7 cX7_hasRule P_X7_hasRule = true := by decide +kernel
def P_X7_addWord : List PE := [(0, .aload_n 1, 1, 0, 0), (1, .getfield 50, 4, 0, 0), (4, .iconst 0, 5, 0, 0), (5, .aload_n 0, 6, 0, 0), (6, .getfield 18, 9, 0, 0), (9, .aload_n 0, 10, 0, 0), (10, .getfield 44, 13, 0, 0), (13, .aaload, 14, 0, 0),
  (14, .iconst 0, 15, 0, 0), (15, .aload_n 1, 16, 0, 0), (16, .getfield 55, 19, 0, 0), (19, .invokestatic 58, 22, 0, 0), (22, .aload_n 0, 23, 0, 0), (23, .getfield 21, 26, 0, 0), (26, .aload_n 0, 27, 0, 0), (27, .getfield 44, 30, 0, 0),
  (30, .aload_n 1, 31, 0, 0), (31, .getfield 55, 34, 0, 0), (34, .iastore, 35, 0, 0), (35, .aload_n 0, 36, 0, 0), (36, .getfield 25, 39, 0, 0), (39, .aload_n 0, 40, 0, 0), (40, .getfield 44, 43, 0, 0), (43, .iload_n 2, 44, 0, 0),
  (44, .iastore, 45, 0, 0), (45, .aload_n 0, 46, 0, 0), (46, .dup, 47, 0, 0), (47, .getfield 44, 50, 0, 0), (50, .iconst 1, 51, 0, 1), (51, .iadd, 52, 0, 0), (52, .putfield 44, 55, 0, 0), (55, .aload_n 0, 56, 0, 0),
  (56, .getfield 44, 59, 0, 0), (59, .iconst 1, 60, 0, 1), (60, .isub, 61, 0, 0), (61, .ireturn, 62, 0, 0)]
abbrev M_X7_addWord : MI := (yX7_addWord, cX7_addWord, 3, (some .int), 7, P_X7_addWord)
theorem ok_X7_addWord : okP 7 cX7_addWord P_X7_addWord = true := by decide +kernel
def P_X7_addRule : List PE := [(0, .aload_n 0, 1, 0, 0), (1, .getfield 28, 4, 0, 0), (4, .aload_n 0, 5, 0, 0), (5, .getfield 47, 8, 0, 0), (8, .iload_n 1, 9, 0, 0), (9, .iastore, 10, 0, 0), (10, .aload_n 0, 11, 0, 0), (11, .getfield 31, 14, 0, 0),
  (14, .aload_n 0, 15, 0, 0), (15, .getfield 47, 18, 0, 0), (18, .iload_n 2, 19, 0, 0), (19, .iastore, 20, 0, 0), (20, .aload_n 0, 21, 0, 0), (21, .getfield 34, 24, 0, 0), (24, .aload_n 0, 25, 0, 0), (25, .getfield 47, 28, 0, 0),
  (28, .iload_n 3, 29, 0, 0), (29, .iastore, 30, 0, 0), (30, .aload_n 0, 31, 0, 0), (31, .dup, 32, 0, 0), (32, .getfield 47, 35, 0, 0), (35, .iconst 1, 36, 0, 1), (36, .iadd, 37, 0, 0), (37, .putfield 47, 40, 0, 0),
  (40, .aload_n 0, 41, 0, 0), (41, .getfield 47, 44, 0, 0), (44, .iconst 1, 45, 0, 1), (45, .isub, 46, 0, 0), (46, .ireturn, 47, 0, 0)]
abbrev M_X7_addRule : MI := (yX7_addRule, cX7_addRule, 4, (some .int), 7, P_X7_addRule)
theorem ok_X7_addRule : okP 7 cX7_addRule P_X7_addRule = true := by decide +kernel
def P_X7_letterOf : List PE := [(0, .iload_n 2, 1, 0, 0), (1, .aload_n 0, 2, 0, 0), (2, .getfield 21, 5, 0, 0), (5, .iload_n 1, 6, 0, 0), (6, .iaload, 7, 0, 0), (7, .if_icmp .ge 14, 10, 21, 0), (10, .aload_n 0, 11, 0, 0), (11, .getfield 18, 14, 0, 0),
  (14, .iload_n 1, 15, 0, 0), (15, .aaload, 16, 0, 0), (16, .iload_n 2, 17, 0, 0), (17, .iaload, 18, 0, 0), (18, .goto 4, 21, 22, 0), (21, .iconst (-1), 22, 0, (-1)), (22, .ireturn, 23, 0, 0)]
abbrev M_X7_letterOf : MI := (yX7_letterOf, cX7_letterOf, 3, (some .int), 7, P_X7_letterOf)
theorem ok_X7_letterOf : okP 7 cX7_letterOf P_X7_letterOf = true := by decide +kernel
def P_X7_hasPart : List PE := [(0, .iload_n 1, 1, 0, 0), (1, .tableswitch 70 0 4 #[35, 37, 43, 43, 49], 36, 0, 0), (36, .iconst 1, 37, 0, 1), (37, .ireturn, 38, 0, 0), (38, .aload_n 0, 39, 0, 0), (39, .iload_n 2, 40, 0, 0), (40, .invokevirtual 64, 43, 0, 0), (43, .ireturn, 44, 0, 0),
  (44, .aload_n 0, 45, 0, 0), (45, .iload_n 2, 46, 0, 0), (46, .invokevirtual 68, 49, 0, 0), (49, .ireturn, 50, 0, 0), (50, .iload_n 2, 51, 0, 0), (51, .ifCond .lt 18, 54, 69, 0), (54, .iload_n 2, 55, 0, 0), (55, .aload_n 0, 56, 0, 0),
  (56, .getfield 40, 59, 0, 0), (59, .getfield 71, 62, 0, 0), (62, .if_icmp .ge 7, 65, 69, 0), (65, .iconst 1, 66, 0, 1), (66, .goto 4, 69, 70, 0), (69, .iconst 0, 70, 0, 0), (70, .ireturn, 71, 0, 0), (71, .iconst 0, 72, 0, 0),
  (72, .ireturn, 73, 0, 0)]
abbrev M_X7_hasPart : MI := (yX7_hasPart, cX7_hasPart, 3, (some .boolean), 7, P_X7_hasPart)
theorem ok_X7_hasPart : okP 7 cX7_hasPart P_X7_hasPart = true := by decide +kernel
def P_X7_canHold : List PE := [(0, .iload_n 1, 1, 0, 0), (1, .tableswitch 64 0 4 #[35, 51, 64, 64, 58], 36, 0, 0), (36, .iload_n 2, 37, 0, 0), (37, .ifCond .lt 13, 40, 50, 0), (40, .iload_n 2, 41, 0, 0), (41, .ldc 72, 43, 999, 67108864), (43, .if_icmp .ge 7, 46, 50, 0), (46, .iconst 1, 47, 0, 1),
  (47, .goto 4, 50, 51, 0), (50, .iconst 0, 51, 0, 0), (51, .ireturn, 52, 0, 0), (52, .iload_n 2, 53, 0, 0), (53, .bipush 99, 55, 0, 99), (55, .invokestatic 73, 58, 0, 0), (58, .ireturn, 59, 0, 0), (59, .aload_n 0, 60, 0, 0),
  (60, .iload_n 2, 61, 0, 0), (61, .invokevirtual 68, 64, 0, 0), (64, .ireturn, 65, 0, 0), (65, .iload_n 2, 66, 0, 0), (66, .invokestatic 77, 69, 0, 0), (69, .ireturn, 70, 0, 0)]
abbrev M_X7_canHold : MI := (yX7_canHold, cX7_canHold, 3, (some .boolean), 7, P_X7_canHold)
theorem ok_X7_canHold : okP 7 cX7_canHold P_X7_canHold = true := by decide +kernel
def P_X7_part : List PE := [(0, .iload_n 1, 1, 0, 0), (1, .tableswitch 57 0 3 #[31, 36, 43, 50], 32, 0, 0), (32, .aload_n 0, 33, 0, 0), (33, .getfield 10, 36, 0, 0), (36, .ireturn, 37, 0, 0), (37, .aload_n 0, 38, 0, 0), (38, .getfield 25, 41, 0, 0), (41, .iload_n 2, 42, 0, 0),
  (42, .iaload, 43, 0, 0), (43, .ireturn, 44, 0, 0), (44, .aload_n 0, 45, 0, 0), (45, .getfield 31, 48, 0, 0), (48, .iload_n 2, 49, 0, 0), (49, .iaload, 50, 0, 0), (50, .ireturn, 51, 0, 0), (51, .aload_n 0, 52, 0, 0),
  (52, .getfield 34, 55, 0, 0), (55, .iload_n 2, 56, 0, 0), (56, .iaload, 57, 0, 0), (57, .ireturn, 58, 0, 0), (58, .aload_n 0, 59, 0, 0), (59, .getfield 40, 62, 0, 0), (62, .getfield 80, 65, 0, 0), (65, .iload_n 2, 66, 0, 0),
  (66, .iaload, 67, 0, 0), (67, .ireturn, 68, 0, 0)]
abbrev M_X7_part : MI := (yX7_part, cX7_part, 3, (some .int), 7, P_X7_part)
theorem ok_X7_part : okP 7 cX7_part P_X7_part = true := by decide +kernel
def P_X7_change : List PE := [(0, .iload_n 1, 1, 0, 0), (1, .tableswitch 69 0 3 #[31, 39, 49, 59], 32, 0, 0), (32, .aload_n 0, 33, 0, 0), (33, .iload_n 3, 34, 0, 0), (34, .putfield 10, 37, 0, 0), (37, .goto 43, 40, 80, 0), (40, .aload_n 0, 41, 0, 0), (41, .getfield 25, 44, 0, 0),
  (44, .iload_n 2, 45, 0, 0), (45, .iload_n 3, 46, 0, 0), (46, .iastore, 47, 0, 0), (47, .goto 33, 50, 80, 0), (50, .aload_n 0, 51, 0, 0), (51, .getfield 31, 54, 0, 0), (54, .iload_n 2, 55, 0, 0), (55, .iload_n 3, 56, 0, 0),
  (56, .iastore, 57, 0, 0), (57, .goto 23, 60, 80, 0), (60, .aload_n 0, 61, 0, 0), (61, .getfield 34, 64, 0, 0), (64, .iload_n 2, 65, 0, 0), (65, .iload_n 3, 66, 0, 0), (66, .iastore, 67, 0, 0), (67, .goto 13, 70, 80, 0),
  (70, .aload_n 0, 71, 0, 0), (71, .getfield 40, 74, 0, 0), (74, .getfield 80, 77, 0, 0), (77, .iload_n 2, 78, 0, 0), (78, .iload_n 3, 79, 0, 0), (79, .iastore, 80, 0, 0), (80, .return_, 81, 0, 0)]
abbrev M_X7_change : MI := (yX7_change, cX7_change, 4, none, 7, P_X7_change)
theorem ok_X7_change : okP 7 cX7_change P_X7_change = true := by decide +kernel
def P_X7_become : List PE := [(0, .aload_n 0, 1, 0, 0), (1, .aload_n 1, 2, 0, 0), (2, .getfield 10, 5, 0, 0), (5, .putfield 10, 8, 0, 0), (8, .iconst 0, 9, 0, 0), (9, .istore_n 2, 10, 0, 0), (10, .iload_n 2, 11, 0, 0), (11, .bipush 8, 13, 0, 8),
  (13, .if_icmp .ge 28, 16, 41, 0), (16, .aload_n 1, 17, 0, 0), (17, .getfield 18, 20, 0, 0), (20, .iload_n 2, 21, 0, 0), (21, .aaload, 22, 0, 0), (22, .iconst 0, 23, 0, 0), (23, .aload_n 0, 24, 0, 0), (24, .getfield 18, 27, 0, 0),
  (27, .iload_n 2, 28, 0, 0), (28, .aaload, 29, 0, 0), (29, .iconst 0, 30, 0, 0), (30, .bipush 10, 32, 0, 10), (32, .invokestatic 58, 35, 0, 0), (35, .iinc 2 1, 38, 0, 1), (38, .goto (-28), 41, 10, 0), (41, .aload_n 1, 42, 0, 0),
  (42, .getfield 21, 45, 0, 0), (45, .iconst 0, 46, 0, 0), (46, .aload_n 0, 47, 0, 0), (47, .getfield 21, 50, 0, 0), (50, .iconst 0, 51, 0, 0), (51, .bipush 8, 53, 0, 8), (53, .invokestatic 58, 56, 0, 0), (56, .aload_n 1, 57, 0, 0),
  (57, .getfield 25, 60, 0, 0), (60, .iconst 0, 61, 0, 0), (61, .aload_n 0, 62, 0, 0), (62, .getfield 25, 65, 0, 0), (65, .iconst 0, 66, 0, 0), (66, .bipush 8, 68, 0, 8), (68, .invokestatic 58, 71, 0, 0), (71, .aload_n 0, 72, 0, 0),
  (72, .aload_n 1, 73, 0, 0), (73, .getfield 44, 76, 0, 0), (76, .putfield 44, 79, 0, 0), (79, .aload_n 1, 80, 0, 0), (80, .getfield 28, 83, 0, 0), (83, .iconst 0, 84, 0, 0), (84, .aload_n 0, 85, 0, 0), (85, .getfield 28, 88, 0, 0),
  (88, .iconst 0, 89, 0, 0), (89, .bipush 6, 91, 0, 6), (91, .invokestatic 58, 94, 0, 0), (94, .aload_n 1, 95, 0, 0), (95, .getfield 31, 98, 0, 0), (98, .iconst 0, 99, 0, 0), (99, .aload_n 0, 100, 0, 0), (100, .getfield 31, 103, 0, 0),
  (103, .iconst 0, 104, 0, 0), (104, .bipush 6, 106, 0, 6), (106, .invokestatic 58, 109, 0, 0), (109, .aload_n 1, 110, 0, 0), (110, .getfield 34, 113, 0, 0), (113, .iconst 0, 114, 0, 0), (114, .aload_n 0, 115, 0, 0), (115, .getfield 34, 118, 0, 0),
  (118, .iconst 0, 119, 0, 0), (119, .bipush 6, 121, 0, 6), (121, .invokestatic 58, 124, 0, 0), (124, .aload_n 0, 125, 0, 0), (125, .aload_n 1, 126, 0, 0), (126, .getfield 47, 129, 0, 0), (129, .putfield 47, 132, 0, 0), (132, .aload_n 0, 133, 0, 0),
  (133, .getfield 40, 136, 0, 0), (136, .aload_n 1, 137, 0, 0), (137, .getfield 40, 140, 0, 0), (140, .invokevirtual 82, 143, 0, 0), (143, .aload_n 0, 144, 0, 0), (144, .aload_n 1, 145, 0, 0), (145, .getfield 86, 148, 0, 0), (148, .putfield 86, 151, 0, 0),
  (151, .return_, 152, 0, 0)]
abbrev M_X7_become : MI := (yX7_become, cX7_become, 3, none, 7, P_X7_become)
theorem ok_X7_become : okP 7 cX7_become P_X7_become = true := by decide +kernel
def P_X8_put : List PE := [(0, .aload_n 0, 1, 0, 0), (1, .getfield 24, 4, 0, 0), (4, .sipush 160, 7, 0, 160), (7, .if_icmp .ge 23, 10, 30, 0), (10, .aload_n 0, 11, 0, 0), (11, .getfield 9, 14, 0, 0), (14, .aload_n 0, 15, 0, 0), (15, .getfield 24, 18, 0, 0),
  (18, .iload_n 1, 19, 0, 0), (19, .iastore, 20, 0, 0), (20, .aload_n 0, 21, 0, 0), (21, .dup, 22, 0, 0), (22, .getfield 24, 25, 0, 0), (25, .iconst 1, 26, 0, 1), (26, .iadd, 27, 0, 0), (27, .putfield 24, 30, 0, 0),
  (30, .return_, 31, 0, 0)]
abbrev M_X8_put : MI := (yX8_put, cX8_put, 2, none, 8, P_X8_put)
theorem ok_X8_put : okP 8 cX8_put P_X8_put = true := by decide +kernel
def P_X8_scan : List PE := [(0, .aload_n 0, 1, 0, 0), (1, .iconst 0, 2, 0, 0), (2, .putfield 28, 5, 0, 0), (5, .iconst 0, 6, 0, 0), (6, .istore_n 1, 7, 0, 0), (7, .iconst 1, 8, 0, 1), (8, .istore_n 2, 9, 0, 0), (9, .iconst 0, 10, 0, 0),
  (10, .istore_n 3, 11, 0, 0), (11, .iload_n 3, 12, 0, 0), (12, .sipush 160, 15, 0, 160), (15, .if_icmp .gt 39, 18, 54, 0), (18, .iload_n 2, 19, 0, 0), (19, .ifCond .eq 35, 22, 54, 0), (22, .aload_n 0, 23, 0, 0), (23, .aload_n 0, 24, 0, 0),
  (24, .iload_n 1, 25, 0, 0), (25, .invokevirtual 31, 28, 0, 0), (28, .invokevirtual 35, 31, 0, 0), (31, .istore_n 1, 32, 0, 0), (32, .aload_n 0, 33, 0, 0), (33, .getfield 15, 36, 0, 0), (36, .iload_n 3, 37, 0, 0), (37, .iaload, 38, 0, 0),
  (38, .iconst 1, 39, 0, 1), (39, .if_icmp .le 7, 42, 46, 0), (42, .iconst 1, 43, 0, 1), (43, .goto 4, 46, 47, 0), (46, .iconst 0, 47, 0, 0), (47, .istore_n 2, 48, 0, 0), (48, .iinc 3 1, 51, 0, 1), (51, .goto (-40), 54, 11, 0),
  (54, .return_, 55, 0, 0)]
abbrev M_X8_scan : MI := (yX8_scan, cX8_scan, 4, none, 8, P_X8_scan)
theorem ok_X8_scan : okP 8 cX8_scan P_X8_scan = true := by decide +kernel
def P_X8_afterBlanks : List PE := [(0, .iload_n 1, 1, 0, 0), (1, .istore_n 2, 2, 0, 0), (2, .iload_n 2, 3, 0, 0), (3, .aload_n 0, 4, 0, 0), (4, .getfield 24, 7, 0, 0), (7, .if_icmp .ge 31, 10, 38, 0), (10, .aload_n 0, 11, 0, 0), (11, .getfield 9, 14, 0, 0),
  (14, .iload_n 2, 15, 0, 0), (15, .iaload, 16, 0, 0), (16, .bipush 32, 18, 0, 32), (18, .if_icmp .eq 14, 21, 32, 0), (21, .aload_n 0, 22, 0, 0), (22, .getfield 9, 25, 0, 0), (25, .iload_n 2, 26, 0, 0), (26, .iaload, 27, 0, 0),
  (27, .bipush 10, 29, 0, 10), (29, .if_icmp .ne 9, 32, 38, 0), (32, .iinc 2 1, 35, 0, 1), (35, .goto (-33), 38, 2, 0), (38, .iload_n 2, 39, 0, 0), (39, .ireturn, 40, 0, 0)]
abbrev M_X8_afterBlanks : MI := (yX8_afterBlanks, cX8_afterBlanks, 3, (some .int), 8, P_X8_afterBlanks)
theorem ok_X8_afterBlanks : okP 8 cX8_afterBlanks P_X8_afterBlanks = true := by decide +kernel
def P_X8_scanToken : List PE := [(0, .iload_n 1, 1, 0, 0), (1, .aload_n 0, 2, 0, 0), (2, .getfield 24, 5, 0, 0), (5, .if_icmp .lt 18, 8, 23, 0), (8, .aload_n 0, 9, 0, 0), (9, .iconst 0, 10, 0, 0), (10, .iconst 0, 11, 0, 0), (11, .aload_n 0, 12, 0, 0),
  (12, .getfield 24, 15, 0, 0), (15, .aload_n 0, 16, 0, 0), (16, .getfield 24, 19, 0, 0), (19, .invokevirtual 38, 22, 0, 0), (22, .ireturn, 23, 0, 0), (23, .aload_n 0, 24, 0, 0), (24, .getfield 9, 27, 0, 0), (27, .iload_n 1, 28, 0, 0),
  (28, .iaload, 29, 0, 0), (29, .istore_n 2, 30, 0, 0), (30, .iload_n 2, 31, 0, 0), (31, .bipush 97, 33, 0, 97), (33, .if_icmp .lt 15, 36, 48, 0), (36, .iload_n 2, 37, 0, 0), (37, .bipush 122, 39, 0, 122), (39, .if_icmp .gt 9, 42, 48, 0),
  (42, .aload_n 0, 43, 0, 0), (43, .iload_n 1, 44, 0, 0), (44, .invokevirtual 42, 47, 0, 0), (47, .ireturn, 48, 0, 0), (48, .iload_n 2, 49, 0, 0), (49, .bipush 48, 51, 0, 48), (51, .if_icmp .lt 15, 54, 66, 0), (54, .iload_n 2, 55, 0, 0),
  (55, .bipush 57, 57, 0, 57), (57, .if_icmp .gt 9, 60, 66, 0), (60, .aload_n 0, 61, 0, 0), (61, .iload_n 1, 62, 0, 0), (62, .invokevirtual 45, 65, 0, 0), (65, .ireturn, 66, 0, 0), (66, .aload_n 0, 67, 0, 0), (67, .ldc 48, 69, 13, 0),
  (69, .iload_n 2, 70, 0, 0), (70, .i2c, 71, 0, 0), (71, .invokevirtual 50, 74, 0, 0), (74, .ifCond .lt 7, 77, 81, 0), (77, .iload_n 2, 78, 0, 0), (78, .goto 4, 81, 82, 0), (81, .iconst 1, 82, 0, 1), (82, .iconst 0, 83, 0, 0),
  (83, .iload_n 1, 84, 0, 0), (84, .iload_n 1, 85, 0, 0), (85, .iconst 1, 86, 0, 1), (86, .iadd, 87, 0, 0), (87, .invokevirtual 38, 90, 0, 0), (90, .ireturn, 91, 0, 0)]
abbrev M_X8_scanToken : MI := (yX8_scanToken, cX8_scanToken, 3, (some .int), 8, P_X8_scanToken)
theorem ok_X8_scanToken : okP 8 cX8_scanToken P_X8_scanToken = true := by decide +kernel
def P_X8_scanWord : List PE := [(0, .iload_n 1, 1, 0, 0), (1, .istore_n 2, 2, 0, 0), (2, .iload_n 2, 3, 0, 0), (3, .aload_n 0, 4, 0, 0), (4, .getfield 24, 7, 0, 0), (7, .if_icmp .ge 31, 10, 38, 0), (10, .aload_n 0, 11, 0, 0), (11, .getfield 9, 14, 0, 0),
  (14, .iload_n 2, 15, 0, 0), (15, .iaload, 16, 0, 0), (16, .bipush 97, 18, 0, 97), (18, .if_icmp .lt 20, 21, 38, 0), (21, .aload_n 0, 22, 0, 0), (22, .getfield 9, 25, 0, 0), (25, .iload_n 2, 26, 0, 0), (26, .iaload, 27, 0, 0),
  (27, .bipush 122, 29, 0, 122), (29, .if_icmp .gt 9, 32, 38, 0), (32, .iinc 2 1, 35, 0, 1), (35, .goto (-33), 38, 2, 0), (38, .iconst 0, 39, 0, 0), (39, .istore_n 3, 40, 0, 0), (40, .iload_n 3, 41, 0, 0), (41, .bipush 12, 43, 0, 12),
  (43, .if_icmp .ge 46, 46, 89, 0), (46, .aload_n 0, 47, 0, 0), (47, .iload_n 3, 48, 0, 0), (48, .invokestatic 55, 51, 0, 0), (51, .iload_n 1, 52, 0, 0), (52, .iload_n 2, 53, 0, 0), (53, .invokevirtual 59, 56, 0, 0), (56, .ifCond .eq 27, 59, 83, 0),
  (59, .aload_n 0, 60, 0, 0), (60, .iload_n 3, 61, 0, 0), (61, .bipush 6, 63, 0, 6), (63, .if_icmp .ge 7, 66, 70, 0), (66, .iconst 3, 67, 0, 3), (67, .goto 9, 70, 76, 0), (70, .iconst 4, 71, 0, 4), (71, .iload_n 3, 72, 0, 0),
  (72, .iadd, 73, 0, 0), (73, .bipush 6, 75, 0, 6), (75, .isub, 76, 0, 0), (76, .iload_n 3, 77, 0, 0), (77, .iload_n 1, 78, 0, 0), (78, .iload_n 2, 79, 0, 0), (79, .invokevirtual 38, 82, 0, 0), (82, .ireturn, 83, 0, 0),
  (83, .iinc 3 1, 86, 0, 1), (86, .goto (-46), 89, 40, 0), (89, .aload_n 0, 90, 0, 0), (90, .iconst 1, 91, 0, 1), (91, .iconst 0, 92, 0, 0), (92, .iload_n 1, 93, 0, 0), (93, .iload_n 2, 94, 0, 0), (94, .invokevirtual 38, 97, 0, 0),
  (97, .ireturn, 98, 0, 0)]
abbrev M_X8_scanWord : MI := (yX8_scanWord, cX8_scanWord, 4, (some .int), 8, P_X8_scanWord)
theorem ok_X8_scanWord : okP 8 cX8_scanWord P_X8_scanWord = true := by decide +kernel
def P_X8_scanNumber : List PE := [(0, .iload_n 1, 1, 0, 0), (1, .istore_n 2, 2, 0, 0), (2, .iconst 0, 3, 0, 0), (3, .istore_n 3, 4, 0, 0), (4, .iload_n 2, 5, 0, 0), (5, .aload_n 0, 6, 0, 0), (6, .getfield 24, 9, 0, 0), (9, .if_icmp .ge 46, 12, 55, 0),
  (12, .aload_n 0, 13, 0, 0), (13, .getfield 9, 16, 0, 0), (16, .iload_n 2, 17, 0, 0), (17, .iaload, 18, 0, 0), (18, .bipush 48, 20, 0, 48), (20, .if_icmp .lt 35, 23, 55, 0), (23, .aload_n 0, 24, 0, 0), (24, .getfield 9, 27, 0, 0),
  (27, .iload_n 2, 28, 0, 0), (28, .iaload, 29, 0, 0), (29, .bipush 57, 31, 0, 57), (31, .if_icmp .gt 24, 34, 55, 0), (34, .iload_n 3, 35, 0, 0), (35, .bipush 10, 37, 0, 10), (37, .imul, 38, 0, 0), (38, .aload_n 0, 39, 0, 0),
  (39, .getfield 9, 42, 0, 0), (42, .iload_n 2, 43, 0, 0), (43, .iaload, 44, 0, 0), (44, .iadd, 45, 0, 0), (45, .bipush 48, 47, 0, 48), (47, .isub, 48, 0, 0), (48, .istore_n 3, 49, 0, 0), (49, .iinc 2 1, 52, 0, 1),
  (52, .goto (-48), 55, 4, 0), (55, .aload_n 0, 56, 0, 0), (56, .iload_n 2, 57, 0, 0), (57, .iload_n 1, 58, 0, 0), (58, .isub, 59, 0, 0), (59, .iconst 4, 60, 0, 4), (60, .if_icmp .le 7, 63, 67, 0), (63, .iconst 1, 64, 0, 1),
  (64, .goto 4, 67, 68, 0), (67, .iconst 2, 68, 0, 2), (68, .iload_n 3, 69, 0, 0), (69, .iload_n 1, 70, 0, 0), (70, .iload_n 2, 71, 0, 0), (71, .invokevirtual 38, 74, 0, 0), (74, .ireturn, 75, 0, 0)]
abbrev M_X8_scanNumber : MI := (yX8_scanNumber, cX8_scanNumber, 4, (some .int), 8, P_X8_scanNumber)
theorem ok_X8_scanNumber : okP 8 cX8_scanNumber P_X8_scanNumber = true := by decide +kernel
def P_X8_addToken : List PE := [(0, .aload_n 0, 1, 0, 0), (1, .getfield 28, 4, 0, 0), (4, .sipush 160, 7, 0, 160), (7, .if_icmp .gt 43, 10, 50, 0), (10, .aload_n 0, 11, 0, 0), (11, .getfield 15, 14, 0, 0), (14, .aload_n 0, 15, 0, 0), (15, .getfield 28, 18, 0, 0),
  (18, .iload_n 1, 19, 0, 0), (19, .iastore, 20, 0, 0), (20, .aload_n 0, 21, 0, 0), (21, .getfield 18, 24, 0, 0), (24, .aload_n 0, 25, 0, 0), (25, .getfield 28, 28, 0, 0), (28, .iload_n 2, 29, 0, 0), (29, .iastore, 30, 0, 0),
  (30, .aload_n 0, 31, 0, 0), (31, .getfield 21, 34, 0, 0), (34, .aload_n 0, 35, 0, 0), (35, .getfield 28, 38, 0, 0), (38, .iload_n 3, 39, 0, 0), (39, .iastore, 40, 0, 0), (40, .aload_n 0, 41, 0, 0), (41, .dup, 42, 0, 0),
  (42, .getfield 28, 45, 0, 0), (45, .iconst 1, 46, 0, 1), (46, .iadd, 47, 0, 0), (47, .putfield 28, 50, 0, 0), (50, .iload 4, 52, 0, 0), (52, .ireturn, 53, 0, 0)]
abbrev M_X8_addToken : MI := (yX8_addToken, cX8_addToken, 5, (some .int), 8, P_X8_addToken)
theorem ok_X8_addToken : okP 8 cX8_addToken P_X8_addToken = true := by decide +kernel
def P_X8_isSpelled : List PE := [(0, .aload_n 1, 1, 0, 0), (1, .invokevirtual 63, 4, 0, 0), (4, .iload_n 3, 5, 0, 0), (5, .iload_n 2, 6, 0, 0), (6, .isub, 7, 0, 0), (7, .if_icmp .eq 5, 10, 12, 0), (10, .iconst 0, 11, 0, 0), (11, .ireturn, 12, 0, 0),
  (12, .iconst 0, 13, 0, 0), (13, .istore 4, 15, 0, 0), (15, .iload 4, 17, 0, 0), (17, .aload_n 1, 18, 0, 0), (18, .invokevirtual 63, 21, 0, 0), (21, .if_icmp .ge 29, 24, 50, 0), (24, .aload_n 0, 25, 0, 0), (25, .getfield 9, 28, 0, 0),
  (28, .iload_n 2, 29, 0, 0), (29, .iload 4, 31, 0, 0), (31, .iadd, 32, 0, 0), (32, .iaload, 33, 0, 0), (33, .aload_n 1, 34, 0, 0), (34, .iload 4, 36, 0, 0), (36, .invokevirtual 67, 39, 0, 0), (39, .if_icmp .eq 5, 42, 44, 0),
  (42, .iconst 0, 43, 0, 0), (43, .ireturn, 44, 0, 0), (44, .iinc 4 1, 47, 0, 1), (47, .goto (-32), 50, 15, 0), (50, .iconst 1, 51, 0, 1), (51, .ireturn, 52, 0, 0)]
abbrev M_X8_isSpelled : MI := (yX8_isSpelled, cX8_isSpelled, 5, (some .boolean), 8, P_X8_isSpelled)
theorem ok_X8_isSpelled : okP 8 cX8_isSpelled P_X8_isSpelled = true := by decide +kernel
def P_X8_spelling : List PE := [(0, .iload_n 0, 1, 0, 0), (1, .tableswitch 92 0 10 #[59, 62, 65, 68, 71, 74, 77, 80, 83, 86, 89], 60, 0, 0), (60, .ldc 71, 62, 1, 0), (62, .areturn, 63, 0, 0), (63, .ldc 73, 65, 2, 0), (65, .areturn, 66, 0, 0), (66, .ldc 75, 68, 3, 0), (68, .areturn, 69, 0, 0),
  (69, .ldc 77, 71, 4, 0), (71, .areturn, 72, 0, 0), (72, .ldc 79, 74, 5, 0), (74, .areturn, 75, 0, 0), (75, .ldc 81, 77, 6, 0), (77, .areturn, 78, 0, 0), (78, .ldc 83, 80, 7, 0), (80, .areturn, 81, 0, 0),
  (81, .ldc 85, 83, 8, 0), (83, .areturn, 84, 0, 0), (84, .ldc 87, 86, 9, 0), (86, .areturn, 87, 0, 0), (87, .ldc 89, 89, 10, 0), (89, .areturn, 90, 0, 0), (90, .ldc 91, 92, 11, 0), (92, .areturn, 93, 0, 0),
  (93, .ldc 93, 95, 12, 0), (95, .areturn, 96, 0, 0)]
abbrev M_X8_spelling : MI := (yX8_spelling, cX8_spelling, 1, (some (.object "java/lang/String")), 8, P_X8_spelling)
theorem ok_X8_spelling : okP 8 cX8_spelling P_X8_spelling = true := by decide +kernel
def P_X9_empty : List PE := [(0, .aload_n 0, 1, 0, 0), (1, .iconst 0, 2, 0, 0), (2, .putfield 27, 5, 0, 0), (5, .return_, 6, 0, 0)]
abbrev M_X9_empty : MI := (yX9_empty, cX9_empty, 1, none, 9, P_X9_empty)
theorem ok_X9_empty : okP 9 cX9_empty P_X9_empty = true := by decide +kernel
def P_X9_add : List PE := [(0, .aload_n 0, 1, 0, 0), (1, .getfield 27, 4, 0, 0), (4, .sipush 160, 7, 0, 160), (7, .if_icmp .lt 5, 10, 12, 0), (10, .iconst (-1), 11, 0, (-1)), (11, .ireturn, 12, 0, 0), (12, .aload_n 0, 13, 0, 0), (13, .getfield 9, 16, 0, 0),
  (16, .aload_n 0, 17, 0, 0), (17, .getfield 27, 20, 0, 0), (20, .iload_n 1, 21, 0, 0), (21, .iastore, 22, 0, 0), (22, .aload_n 0, 23, 0, 0), (23, .getfield 15, 26, 0, 0), (26, .aload_n 0, 27, 0, 0), (27, .getfield 27, 30, 0, 0),
  (30, .iload_n 2, 31, 0, 0), (31, .iastore, 32, 0, 0), (32, .aload_n 0, 33, 0, 0), (33, .getfield 18, 36, 0, 0), (36, .aload_n 0, 37, 0, 0), (37, .getfield 27, 40, 0, 0), (40, .iload_n 3, 41, 0, 0), (41, .iastore, 42, 0, 0),
  (42, .aload_n 0, 43, 0, 0), (43, .dup, 44, 0, 0), (44, .getfield 27, 47, 0, 0), (47, .iconst 1, 48, 0, 1), (48, .iadd, 49, 0, 0), (49, .putfield 27, 52, 0, 0), (52, .aload_n 0, 53, 0, 0), (53, .getfield 27, 56, 0, 0),
  (56, .iconst 1, 57, 0, 1), (57, .isub, 58, 0, 0), (58, .ireturn, 59, 0, 0)]
abbrev M_X9_add : MI := (yX9_add, cX9_add, 4, (some .int), 9, P_X9_add)
theorem ok_X9_add : okP 9 cX9_add P_X9_add = true := by decide +kernel
def P_X9_endPart : List PE := [(0, .aload_n 0, 1, 0, 0), (1, .getfield 24, 4, 0, 0), (4, .iload_n 1, 5, 0, 0), (5, .aload_n 0, 6, 0, 0), (6, .getfield 27, 9, 0, 0), (9, .iastore, 10, 0, 0), (10, .return_, 11, 0, 0)]
abbrev M_X9_endPart : MI := (yX9_endPart, cX9_endPart, 2, none, 9, P_X9_endPart)
theorem ok_X9_endPart : okP 9 cX9_endPart P_X9_endPart = true := by decide +kernel
def P_X9_tells : List PE := [(0, .iconst 0, 1, 0, 0), (1, .istore_n 3, 2, 0, 0), (2, .iload_n 1, 3, 0, 0), (3, .ifCond .ne 7, 6, 10, 0), (6, .iconst 0, 7, 0, 0), (7, .goto 11, 10, 18, 0), (10, .aload_n 0, 11, 0, 0), (11, .getfield 24, 14, 0, 0),
  (14, .iload_n 1, 15, 0, 0), (15, .iconst 1, 16, 0, 1), (16, .isub, 17, 0, 0), (17, .iaload, 18, 0, 0), (18, .istore 4, 20, 0, 0), (20, .iload 4, 22, 0, 0), (22, .aload_n 0, 23, 0, 0), (23, .getfield 24, 26, 0, 0),
  (26, .iload_n 1, 27, 0, 0), (27, .iaload, 28, 0, 0), (28, .if_icmp .ge 44, 31, 72, 0), (31, .aload_n 0, 32, 0, 0), (32, .aload_n 0, 33, 0, 0), (33, .getfield 9, 36, 0, 0), (36, .iload 4, 38, 0, 0), (38, .iaload, 39, 0, 0),
  (39, .aload_n 0, 40, 0, 0), (40, .getfield 15, 43, 0, 0), (43, .iload 4, 45, 0, 0), (45, .iaload, 46, 0, 0), (46, .aload_n 0, 47, 0, 0), (47, .getfield 18, 50, 0, 0), (50, .iload 4, 52, 0, 0), (52, .iaload, 53, 0, 0),
  (53, .aload_n 2, 54, 0, 0), (54, .invokevirtual 31, 57, 0, 0), (57, .istore_n 3, 58, 0, 0), (58, .aload_n 0, 59, 0, 0), (59, .getfield 21, 62, 0, 0), (62, .iload 4, 64, 0, 0), (64, .iload_n 3, 65, 0, 0), (65, .iastore, 66, 0, 0),
  (66, .iinc 4 1, 69, 0, 1), (69, .goto (-49), 72, 20, 0), (72, .iconst 0, 73, 0, 0), (73, .bipush 99, 75, 0, 99), (75, .iload_n 3, 76, 0, 0), (76, .invokestatic 35, 79, 0, 0), (79, .invokestatic 41, 82, 0, 0), (82, .ireturn, 83, 0, 0)]
abbrev M_X9_tells : MI := (yX9_tells, cX9_tells, 5, (some .int), 9, P_X9_tells)
theorem ok_X9_tells : okP 9 cX9_tells P_X9_tells = true := by decide +kernel
def P_X9_worked : List PE := [(0, .iload_n 1, 1, 0, 0), (1, .tableswitch 209 0 9 #[55, 57, 62, 86, 110, 125, 146, 167, 181, 195], 56, 0, 0), (56, .iload_n 2, 57, 0, 0), (57, .ireturn, 58, 0, 0), (58, .aload 4, 60, 0, 0), (60, .iload_n 2, 61, 0, 0), (61, .iaload, 62, 0, 0), (62, .ireturn, 63, 0, 0),
  (63, .aload_n 0, 64, 0, 0), (64, .getfield 21, 67, 0, 0), (67, .iload_n 2, 68, 0, 0), (68, .iaload, 69, 0, 0), (69, .ifCond .ne 12, 72, 81, 0), (72, .aload_n 0, 73, 0, 0), (73, .getfield 21, 76, 0, 0), (76, .iload_n 3, 77, 0, 0),
  (77, .iaload, 78, 0, 0), (78, .ifCond .eq 7, 81, 85, 0), (81, .iconst 1, 82, 0, 1), (82, .goto 4, 85, 86, 0), (85, .iconst 0, 86, 0, 0), (86, .ireturn, 87, 0, 0), (87, .aload_n 0, 88, 0, 0), (88, .getfield 21, 91, 0, 0),
  (91, .iload_n 2, 92, 0, 0), (92, .iaload, 93, 0, 0), (93, .ifCond .eq 16, 96, 109, 0), (96, .aload_n 0, 97, 0, 0), (97, .getfield 21, 100, 0, 0), (100, .iload_n 3, 101, 0, 0), (101, .iaload, 102, 0, 0), (102, .ifCond .eq 7, 105, 109, 0),
  (105, .iconst 1, 106, 0, 1), (106, .goto 4, 109, 110, 0), (109, .iconst 0, 110, 0, 0), (110, .ireturn, 111, 0, 0), (111, .aload_n 0, 112, 0, 0), (112, .getfield 21, 115, 0, 0), (115, .iload_n 2, 116, 0, 0), (116, .iaload, 117, 0, 0),
  (117, .ifCond .ne 7, 120, 124, 0), (120, .iconst 1, 121, 0, 1), (121, .goto 4, 124, 125, 0), (124, .iconst 0, 125, 0, 0), (125, .ireturn, 126, 0, 0), (126, .aload_n 0, 127, 0, 0), (127, .getfield 21, 130, 0, 0), (130, .iload_n 2, 131, 0, 0),
  (131, .iaload, 132, 0, 0), (132, .aload_n 0, 133, 0, 0), (133, .getfield 21, 136, 0, 0), (136, .iload_n 3, 137, 0, 0), (137, .iaload, 138, 0, 0), (138, .if_icmp .ge 7, 141, 145, 0), (141, .iconst 1, 142, 0, 1), (142, .goto 4, 145, 146, 0),
  (145, .iconst 0, 146, 0, 0), (146, .ireturn, 147, 0, 0), (147, .aload_n 0, 148, 0, 0), (148, .getfield 21, 151, 0, 0), (151, .iload_n 2, 152, 0, 0), (152, .iaload, 153, 0, 0), (153, .aload_n 0, 154, 0, 0), (154, .getfield 21, 157, 0, 0),
  (157, .iload_n 3, 158, 0, 0), (158, .iaload, 159, 0, 0), (159, .if_icmp .ne 7, 162, 166, 0), (162, .iconst 1, 163, 0, 1), (163, .goto 4, 166, 167, 0), (166, .iconst 0, 167, 0, 0), (167, .ireturn, 168, 0, 0), (168, .aload_n 0, 169, 0, 0),
  (169, .getfield 21, 172, 0, 0), (172, .iload_n 2, 173, 0, 0), (173, .iaload, 174, 0, 0), (174, .aload_n 0, 175, 0, 0), (175, .getfield 21, 178, 0, 0), (178, .iload_n 3, 179, 0, 0), (179, .iaload, 180, 0, 0), (180, .iadd, 181, 0, 0),
  (181, .ireturn, 182, 0, 0), (182, .aload_n 0, 183, 0, 0), (183, .getfield 21, 186, 0, 0), (186, .iload_n 2, 187, 0, 0), (187, .iaload, 188, 0, 0), (188, .aload_n 0, 189, 0, 0), (189, .getfield 21, 192, 0, 0), (192, .iload_n 3, 193, 0, 0),
  (193, .iaload, 194, 0, 0), (194, .isub, 195, 0, 0), (195, .ireturn, 196, 0, 0), (196, .aload_n 0, 197, 0, 0), (197, .getfield 21, 200, 0, 0), (200, .iload_n 2, 201, 0, 0), (201, .iaload, 202, 0, 0), (202, .aload_n 0, 203, 0, 0),
  (203, .getfield 21, 206, 0, 0), (206, .iload_n 3, 207, 0, 0), (207, .iaload, 208, 0, 0), (208, .imul, 209, 0, 0), (209, .ireturn, 210, 0, 0), (210, .aload_n 0, 211, 0, 0), (211, .getfield 21, 214, 0, 0), (214, .iload_n 2, 215, 0, 0),
  (215, .iaload, 216, 0, 0), (216, .ineg, 217, 0, 0), (217, .ireturn, 218, 0, 0)]
abbrev M_X9_worked : MI := (yX9_worked, cX9_worked, 5, (some .int), 9, P_X9_worked)
theorem ok_X9_worked : okP 9 cX9_worked P_X9_worked = true := by decide +kernel
