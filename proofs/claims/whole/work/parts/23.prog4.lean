def P_X11_turned : List PE := [(0, .aload_n 0, 1, 0, 0), (1, .iload_n 1, 2, 0, 0), (2, .invokevirtual 58, 5, 0, 0), (5, .ifCond .eq 21, 8, 26, 0), (8, .aload_n 0, 9, 0, 0), (9, .iload_n 2, 10, 0, 0), (10, .invokevirtual 46, 13, 0, 0), (13, .ifCond .eq 13, 16, 26, 0),
  (16, .iload_n 3, 17, 0, 0), (17, .iconst (-1), 18, 0, (-1)), (18, .bipush 39, 20, 0, 39), (20, .invokestatic 7, 23, 0, 0), (23, .ifCond .ne 6, 26, 29, 0), (26, .bipush (-2), 28, 0, (-2)), (28, .ireturn, 29, 0, 0), (29, .aload_n 0, 30, 0, 0),
  (30, .iload_n 1, 31, 0, 0), (31, .invokevirtual 232, 34, 0, 0), (34, .aload_n 0, 35, 0, 0), (35, .iload_n 2, 36, 0, 0), (36, .invokevirtual 229, 39, 0, 0), (39, .iload_n 3, 40, 0, 0), (40, .aload_n 0, 41, 0, 0), (41, .getfield 226, 44, 0, 0),
  (44, .aload_n 0, 45, 0, 0), (45, .getfield 196, 48, 0, 0), (48, .iconst 0, 49, 0, 0), (49, .invokestatic 241, 52, 0, 0), (52, .ireturn, 53, 0, 0)]
abbrev M_X11_turned : MI := (yX11_turned, cX11_turned, 4, (some .int), 11, P_X11_turned)
theorem ok_X11_turned : okP 11 cX11_turned P_X11_turned = true := by decide +kernel
def P_X11_isAlike : List PE := [(0, .aload_n 0, 1, 0, 0), (1, .getfield 193, 4, 0, 0), (4, .iload_n 1, 5, 0, 0), (5, .iaload, 6, 0, 0), (6, .aload_n 0, 7, 0, 0), (7, .getfield 193, 10, 0, 0), (10, .iload_n 2, 11, 0, 0), (11, .iaload, 12, 0, 0),
  (12, .if_icmp .ne 16, 15, 28, 0), (15, .aload_n 0, 16, 0, 0), (16, .getfield 193, 19, 0, 0), (19, .iload_n 1, 20, 0, 0), (20, .iaload, 21, 0, 0), (21, .ifCond .le 7, 24, 28, 0), (24, .iconst 1, 25, 0, 1), (25, .goto 4, 28, 29, 0),
  (28, .iconst 0, 29, 0, 0), (29, .istore_n 3, 30, 0, 0), (30, .iconst 0, 31, 0, 0), (31, .istore 4, 33, 0, 0), (33, .iload 4, 35, 0, 0), (35, .aload_n 0, 36, 0, 0), (36, .getfield 193, 39, 0, 0), (39, .iload_n 1, 40, 0, 0),
  (40, .iaload, 41, 0, 0), (41, .if_icmp .ge 46, 44, 87, 0), (44, .iload_n 3, 45, 0, 0), (45, .ifCond .eq 42, 48, 87, 0), (48, .aload_n 0, 49, 0, 0), (49, .getfield 190, 52, 0, 0), (52, .bipush 40, 54, 0, 40), (54, .iload_n 1, 55, 0, 0),
  (55, .imul, 56, 0, 0), (56, .iload 4, 58, 0, 0), (58, .iadd, 59, 0, 0), (59, .iaload, 60, 0, 0), (60, .aload_n 0, 61, 0, 0), (61, .getfield 190, 64, 0, 0), (64, .bipush 40, 66, 0, 40), (66, .iload_n 2, 67, 0, 0),
  (67, .imul, 68, 0, 0), (68, .iload 4, 70, 0, 0), (70, .iadd, 71, 0, 0), (71, .iaload, 72, 0, 0), (72, .if_icmp .ne 7, 75, 79, 0), (75, .iconst 1, 76, 0, 1), (76, .goto 4, 79, 80, 0), (79, .iconst 0, 80, 0, 0),
  (80, .istore_n 3, 81, 0, 0), (81, .iinc 4 1, 84, 0, 1), (84, .goto (-51), 87, 33, 0), (87, .iload_n 3, 88, 0, 0), (88, .ireturn, 89, 0, 0)]
abbrev M_X11_isAlike : MI := (yX11_isAlike, cX11_isAlike, 5, (some .boolean), 11, P_X11_isAlike)
theorem ok_X11_isAlike : okP 11 cX11_isAlike P_X11_isAlike = true := by decide +kernel
def P_X11_alike : List PE := [(0, .iconst 0, 1, 0, 0), (1, .istore_n 1, 2, 0, 0), (2, .iconst 0, 3, 0, 0), (3, .istore_n 2, 4, 0, 0), (4, .iload_n 2, 5, 0, 0), (5, .aload_n 0, 6, 0, 0), (6, .getfield 1, 9, 0, 0), (9, .if_icmp .ge 49, 12, 58, 0),
  (12, .iconst 0, 13, 0, 0), (13, .istore_n 3, 14, 0, 0), (14, .iload_n 3, 15, 0, 0), (15, .aload_n 0, 16, 0, 0), (16, .getfield 1, 19, 0, 0), (19, .if_icmp .ge 33, 22, 52, 0), (22, .iload_n 1, 23, 0, 0), (23, .iload_n 2, 24, 0, 0),
  (24, .iload_n 3, 25, 0, 0), (25, .if_icmp .eq 18, 28, 43, 0), (28, .aload_n 0, 29, 0, 0), (29, .iload_n 2, 30, 0, 0), (30, .iload_n 3, 31, 0, 0), (31, .invokevirtual 245, 34, 0, 0), (34, .ifCond .eq 9, 37, 43, 0), (37, .iconst 1, 38, 0, 1),
  (38, .iload_n 2, 39, 0, 0), (39, .ishl, 40, 0, 0), (40, .goto 4, 43, 44, 0), (43, .iconst 0, 44, 0, 0), (44, .ior, 45, 0, 0), (45, .istore_n 1, 46, 0, 0), (46, .iinc 3 1, 49, 0, 1), (49, .goto (-35), 52, 14, 0),
  (52, .iinc 2 1, 55, 0, 1), (55, .goto (-51), 58, 4, 0), (58, .iload_n 1, 59, 0, 0), (59, .ireturn, 60, 0, 0)]
abbrev M_X11_alike : MI := (yX11_alike, cX11_alike, 4, (some .int), 11, P_X11_alike)
theorem ok_X11_alike : okP 11 cX11_alike P_X11_alike = true := by decide +kernel
def P_X11_hardOf : List PE := [(0, .aload_n 0, 1, 0, 0), (1, .getfield 193, 4, 0, 0), (4, .iload_n 1, 5, 0, 0), (5, .iaload, 6, 0, 0), (6, .bipush (-3), 8, 0, (-3)), (8, .if_icmp .ne 5, 11, 13, 0), (11, .iconst 0, 12, 0, 0), (12, .ireturn, 13, 0, 0),
  (13, .aload_n 0, 14, 0, 0), (14, .iconst 0, 15, 0, 0), (15, .iload_n 1, 16, 0, 0), (16, .invokevirtual 249, 19, 0, 0), (19, .istore_n 2, 20, 0, 0), (20, .aload_n 0, 21, 0, 0), (21, .getfield 49, 24, 0, 0), (24, .ifCond .ne 5, 27, 29, 0),
  (27, .iload_n 2, 28, 0, 0), (28, .ireturn, 29, 0, 0), (29, .aload_n 0, 30, 0, 0), (30, .getfield 52, 33, 0, 0), (33, .aload_n 0, 34, 0, 0), (34, .getfield 49, 37, 0, 0), (37, .iconst 1, 38, 0, 1), (38, .isub, 39, 0, 0),
  (39, .iaload, 40, 0, 0), (40, .istore_n 3, 41, 0, 0), (41, .aload_n 0, 42, 0, 0), (42, .getfield 37, 45, 0, 0), (45, .iload_n 3, 46, 0, 0), (46, .iaload, 47, 0, 0), (47, .iconst 1, 48, 0, 1), (48, .if_icmp .eq 13, 51, 61, 0),
  (51, .aload_n 0, 52, 0, 0), (52, .getfield 37, 55, 0, 0), (55, .iload_n 3, 56, 0, 0), (56, .iaload, 57, 0, 0), (57, .iconst 3, 58, 0, 3), (58, .if_icmp .ne 9, 61, 67, 0), (61, .iload_n 2, 62, 0, 0), (62, .iconst 1, 63, 0, 1),
  (63, .iadd, 64, 0, 0), (64, .goto 41, 67, 105, 0), (67, .aload_n 0, 68, 0, 0), (68, .getfield 37, 71, 0, 0), (71, .iload_n 3, 72, 0, 0), (72, .iaload, 73, 0, 0), (73, .iconst 2, 74, 0, 2), (74, .if_icmp .ne 9, 77, 83, 0),
  (77, .iconst 2, 78, 0, 2), (78, .iload_n 2, 79, 0, 0), (79, .imul, 80, 0, 0), (80, .goto 25, 83, 105, 0), (83, .aload_n 0, 84, 0, 0), (84, .getfield 37, 87, 0, 0), (87, .iload_n 3, 88, 0, 0), (88, .iaload, 89, 0, 0),
  (89, .iconst 5, 90, 0, 5), (90, .if_icmp .ne 14, 93, 104, 0), (93, .iload_n 2, 94, 0, 0), (94, .aload_n 0, 95, 0, 0), (95, .getfield 43, 98, 0, 0), (98, .iload_n 3, 99, 0, 0), (99, .iaload, 100, 0, 0), (100, .iadd, 101, 0, 0),
  (101, .goto 4, 104, 105, 0), (104, .iload_n 2, 105, 0, 0), (105, .ireturn, 106, 0, 0)]
abbrev M_X11_hardOf : MI := (yX11_hardOf, cX11_hardOf, 4, (some .int), 11, P_X11_hardOf)
theorem ok_X11_hardOf : okP 11 cX11_hardOf P_X11_hardOf = true := by decide +kernel
def P_X11_worthNow : List PE := [(0, .aload_n 0, 1, 0, 0), (1, .invokevirtual 252, 4, 0, 0), (4, .aload_n 0, 5, 0, 0), (5, .invokevirtual 255, 8, 0, 0), (8, .istore_n 1, 9, 0, 0), (9, .iconst 0, 10, 0, 0), (10, .istore_n 2, 11, 0, 0), (11, .iconst 0, 12, 0, 0),
  (12, .istore_n 3, 13, 0, 0), (13, .iload_n 3, 14, 0, 0), (14, .aload_n 0, 15, 0, 0), (15, .getfield 1, 18, 0, 0), (18, .if_icmp .ge 55, 21, 73, 0), (21, .aload_n 0, 22, 0, 0), (22, .getfield 193, 25, 0, 0), (25, .iload_n 3, 26, 0, 0),
  (26, .iaload, 27, 0, 0), (27, .bipush (-3), 29, 0, (-3)), (29, .if_icmp .eq 38, 32, 67, 0), (32, .iload_n 2, 33, 0, 0), (33, .aload_n 0, 34, 0, 0), (34, .iconst 1, 35, 0, 1), (35, .iload_n 3, 36, 0, 0), (36, .invokevirtual 249, 39, 0, 0),
  (39, .aload_n 0, 40, 0, 0), (40, .iload_n 3, 41, 0, 0), (41, .invokevirtual 259, 44, 0, 0), (44, .isub, 45, 0, 0), (45, .iload_n 1, 46, 0, 0), (46, .iload_n 3, 47, 0, 0), (47, .ishr, 48, 0, 0), (48, .iconst 1, 49, 0, 1),
  (49, .iand, 50, 0, 0), (50, .iconst 1, 51, 0, 1), (51, .if_icmp .ne 12, 54, 63, 0), (54, .aload_n 0, 55, 0, 0), (55, .iconst 2, 56, 0, 2), (56, .iload_n 3, 57, 0, 0), (57, .invokevirtual 249, 60, 0, 0), (60, .goto 4, 63, 64, 0),
  (63, .iconst 0, 64, 0, 0), (64, .isub, 65, 0, 0), (65, .iadd, 66, 0, 0), (66, .istore_n 2, 67, 0, 0), (67, .iinc 3 1, 70, 0, 1), (70, .goto (-57), 73, 13, 0), (73, .iload_n 2, 74, 0, 0), (74, .ireturn, 75, 0, 0)]
abbrev M_X11_worthNow : MI := (yX11_worthNow, cX11_worthNow, 4, (some .int), 11, P_X11_worthNow)
theorem ok_X11_worthNow : okP 11 cX11_worthNow P_X11_worthNow = true := by decide +kernel
def P_X11_isAsItWas : List PE := [(0, .aload_n 0, 1, 0, 0), (1, .getfield 226, 4, 0, 0), (4, .aload_n 0, 5, 0, 0), (5, .getfield 31, 8, 0, 0), (8, .iload_n 1, 9, 0, 0), (9, .iaload, 10, 0, 0), (10, .if_icmp .ne 7, 13, 17, 0), (13, .iconst 1, 14, 0, 1),
  (14, .goto 4, 17, 18, 0), (17, .iconst 0, 18, 0, 0), (18, .istore_n 2, 19, 0, 0), (19, .iconst 0, 20, 0, 0), (20, .istore_n 3, 21, 0, 0), (21, .iload_n 3, 22, 0, 0), (22, .aload_n 0, 23, 0, 0), (23, .getfield 31, 26, 0, 0),
  (26, .iload_n 1, 27, 0, 0), (27, .iaload, 28, 0, 0), (28, .if_icmp .ge 39, 31, 67, 0), (31, .iload_n 2, 32, 0, 0), (32, .ifCond .eq 35, 35, 67, 0), (35, .aload_n 0, 36, 0, 0), (36, .getfield 196, 39, 0, 0), (39, .iload_n 3, 40, 0, 0),
  (40, .iaload, 41, 0, 0), (41, .aload_n 0, 42, 0, 0), (42, .getfield 28, 45, 0, 0), (45, .bipush 10, 47, 0, 10), (47, .iload_n 1, 48, 0, 0), (48, .imul, 49, 0, 0), (49, .iload_n 3, 50, 0, 0), (50, .iadd, 51, 0, 0),
  (51, .iaload, 52, 0, 0), (52, .if_icmp .ne 7, 55, 59, 0), (55, .iconst 1, 56, 0, 1), (56, .goto 4, 59, 60, 0), (59, .iconst 0, 60, 0, 0), (60, .istore_n 2, 61, 0, 0), (61, .iinc 3 1, 64, 0, 1), (64, .goto (-43), 67, 21, 0),
  (67, .iload_n 2, 68, 0, 0), (68, .ireturn, 69, 0, 0)]
abbrev M_X11_isAsItWas : MI := (yX11_isAsItWas, cX11_isAsItWas, 4, (some .boolean), 11, P_X11_isAsItWas)
theorem ok_X11_isAsItWas : okP 11 cX11_isAsItWas P_X11_isAsItWas = true := by decide +kernel
def P_X11_round : List PE := [(0, .aload_n 0, 1, 0, 0), (1, .iload_n 1, 2, 0, 0), (2, .invokevirtual 232, 5, 0, 0), (5, .iconst 1, 6, 0, 1), (6, .istore_n 2, 7, 0, 0), (7, .iload_n 2, 8, 0, 0), (8, .bipush 60, 10, 0, 60), (10, .if_icmp .gt 34, 13, 44, 0),
  (13, .aload_n 0, 14, 0, 0), (14, .invokevirtual 235, 17, 0, 0), (17, .aload_n 0, 18, 0, 0), (18, .getfield 226, 21, 0, 0), (21, .bipush (-3), 23, 0, (-3)), (23, .if_icmp .ne 5, 26, 28, 0), (26, .iconst (-1), 27, 0, (-1)), (27, .ireturn, 28, 0, 0),
  (28, .aload_n 0, 29, 0, 0), (29, .iload_n 1, 30, 0, 0), (30, .invokevirtual 262, 33, 0, 0), (33, .ifCond .eq 5, 36, 38, 0), (36, .iload_n 2, 37, 0, 0), (37, .ireturn, 38, 0, 0), (38, .iinc 2 1, 41, 0, 1), (41, .goto (-34), 44, 7, 0),
  (44, .iconst (-1), 45, 0, (-1)), (45, .ireturn, 46, 0, 0)]
abbrev M_X11_round : MI := (yX11_round, cX11_round, 3, (some .int), 11, P_X11_round)
theorem ok_X11_round : okP 11 cX11_round P_X11_round = true := by decide +kernel
def P_X11_safe : List PE := [(0, .aload_n 0, 1, 0, 0), (1, .invokevirtual 252, 4, 0, 0), (4, .iconst 0, 5, 0, 0), (5, .istore_n 2, 6, 0, 0), (6, .iconst 0, 7, 0, 0), (7, .istore_n 3, 8, 0, 0), (8, .iload_n 3, 9, 0, 0), (9, .aload_n 0, 10, 0, 0),
  (10, .getfield 31, 13, 0, 0), (13, .iload_n 1, 14, 0, 0), (14, .iaload, 15, 0, 0), (15, .if_icmp .ge 117, 18, 132, 0), (18, .aload_n 0, 19, 0, 0), (19, .getfield 28, 22, 0, 0), (22, .bipush 10, 24, 0, 10), (24, .iload_n 1, 25, 0, 0),
  (25, .imul, 26, 0, 0), (26, .iload_n 3, 27, 0, 0), (27, .iadd, 28, 0, 0), (28, .iaload, 29, 0, 0), (29, .istore 4, 31, 0, 0), (31, .iconst 1, 32, 0, 1), (32, .istore 5, 34, 0, 0), (34, .iconst 0, 35, 0, 0),
  (35, .istore 6, 37, 0, 0), (37, .iload 6, 39, 0, 0), (39, .bipush 26, 41, 0, 26), (41, .if_icmp .ge 57, 44, 98, 0), (44, .iload 5, 46, 0, 0), (46, .ifCond .eq 52, 49, 98, 0), (49, .aload_n 0, 50, 0, 0), (50, .getfield 28, 53, 0, 0),
  (53, .bipush 10, 55, 0, 10), (55, .iload_n 1, 56, 0, 0), (56, .imul, 57, 0, 0), (57, .iload_n 3, 58, 0, 0), (58, .iadd, 59, 0, 0), (59, .iload 6, 61, 0, 0), (61, .iastore, 62, 0, 0), (62, .iload 6, 64, 0, 0),
  (64, .iload 4, 66, 0, 0), (66, .if_icmp .eq 26, 69, 92, 0), (69, .aload_n 0, 70, 0, 0), (70, .iload_n 1, 71, 0, 0), (71, .invokevirtual 238, 74, 0, 0), (74, .aload_n 0, 75, 0, 0), (75, .invokevirtual 255, 78, 0, 0), (78, .iload_n 1, 79, 0, 0),
  (79, .ishr, 80, 0, 0), (80, .iconst 1, 81, 0, 1), (81, .iand, 82, 0, 0), (82, .ifCond .ne 7, 85, 89, 0), (85, .iconst 1, 86, 0, 1), (86, .goto 4, 89, 90, 0), (89, .iconst 0, 90, 0, 0), (90, .istore 5, 92, 0, 0),
  (92, .iinc 6 1, 95, 0, 1), (95, .goto (-58), 98, 37, 0), (98, .aload_n 0, 99, 0, 0), (99, .getfield 28, 102, 0, 0), (102, .bipush 10, 104, 0, 10), (104, .iload_n 1, 105, 0, 0), (105, .imul, 106, 0, 0), (106, .iload_n 3, 107, 0, 0),
  (107, .iadd, 108, 0, 0), (108, .iload 4, 110, 0, 0), (110, .iastore, 111, 0, 0), (111, .iload_n 2, 112, 0, 0), (112, .iload 5, 114, 0, 0), (114, .ifCond .eq 9, 117, 123, 0), (117, .iconst 1, 118, 0, 1), (118, .iload_n 3, 119, 0, 0),
  (119, .ishl, 120, 0, 0), (120, .goto 4, 123, 124, 0), (123, .iconst 0, 124, 0, 0), (124, .ior, 125, 0, 0), (125, .istore_n 2, 126, 0, 0), (126, .iinc 3 1, 129, 0, 1), (129, .goto (-121), 132, 8, 0), (132, .iload_n 2, 133, 0, 0),
  (133, .ireturn, 134, 0, 0)]
abbrev M_X11_safe : MI := (yX11_safe, cX11_safe, 7, (some .int), 11, P_X11_safe)
theorem ok_X11_safe : okP 11 cX11_safe P_X11_safe = true := by decide +kernel
def P_X11_of : List PE := [(0, .aload_n 0, 1, 0, 0), (1, .iload_n 1, 2, 0, 0), (2, .invokevirtual 58, 5, 0, 0), (5, .ifCond .eq 12, 8, 17, 0), (8, .iload_n 2, 9, 0, 0), (9, .iconst 0, 10, 0, 0), (10, .iconst 4, 11, 0, 4), (11, .invokestatic 7, 14, 0, 0),
  (14, .ifCond .ne 6, 17, 20, 0), (17, .bipush (-2), 19, 0, (-2)), (19, .ireturn, 20, 0, 0), (20, .iload_n 2, 21, 0, 0), (21, .iconst 2, 22, 0, 2), (22, .if_icmp .le 22, 25, 44, 0), (25, .iload_n 2, 26, 0, 0), (26, .iconst 3, 27, 0, 3),
  (27, .if_icmp .ne 11, 30, 38, 0), (30, .aload_n 0, 31, 0, 0), (31, .iload_n 1, 32, 0, 0), (32, .invokevirtual 265, 35, 0, 0), (35, .goto 8, 38, 43, 0), (38, .aload_n 0, 39, 0, 0), (39, .iload_n 1, 40, 0, 0), (40, .invokevirtual 268, 43, 0, 0),
  (43, .ireturn, 44, 0, 0), (44, .aload_n 0, 45, 0, 0), (45, .iload_n 1, 46, 0, 0), (46, .invokevirtual 238, 49, 0, 0), (49, .iload_n 2, 50, 0, 0), (50, .ifCond .ne 11, 53, 61, 0), (53, .aload_n 0, 54, 0, 0), (54, .iload_n 1, 55, 0, 0),
  (55, .invokevirtual 259, 58, 0, 0), (58, .goto 24, 61, 82, 0), (61, .aload_n 0, 62, 0, 0), (62, .getfield 193, 65, 0, 0), (65, .iload_n 1, 66, 0, 0), (66, .iaload, 67, 0, 0), (67, .bipush (-3), 69, 0, (-3)), (69, .if_icmp .ne 7, 72, 76, 0),
  (72, .iconst 0, 73, 0, 0), (73, .goto 9, 76, 82, 0), (76, .aload_n 0, 77, 0, 0), (77, .iload_n 2, 78, 0, 0), (78, .iload_n 1, 79, 0, 0), (79, .invokevirtual 249, 82, 0, 0), (82, .ireturn, 83, 0, 0)]
abbrev M_X11_of : MI := (yX11_of, cX11_of, 3, (some .int), 11, P_X11_of)
theorem ok_X11_of : okP 11 cX11_of P_X11_of = true := by decide +kernel
def P_X11_apart : List PE := [(0, .iconst (-1), 1, 0, (-1)), (1, .istore_n 1, 2, 0, 0), (2, .iconst 0, 3, 0, 0), (3, .istore_n 2, 4, 0, 0), (4, .iload_n 2, 5, 0, 0), (5, .aload_n 0, 6, 0, 0), (6, .getfield 1, 9, 0, 0), (9, .if_icmp .ge 126, 12, 135, 0),
  (12, .iconst 0, 13, 0, 0), (13, .istore_n 3, 14, 0, 0), (14, .iload_n 3, 15, 0, 0), (15, .iload_n 2, 16, 0, 0), (16, .if_icmp .ge 113, 19, 129, 0), (19, .aload_n 0, 20, 0, 0), (20, .getfield 193, 23, 0, 0), (23, .iload_n 2, 24, 0, 0),
  (24, .iaload, 25, 0, 0), (25, .aload_n 0, 26, 0, 0), (26, .getfield 193, 29, 0, 0), (29, .iload_n 3, 30, 0, 0), (30, .iaload, 31, 0, 0), (31, .if_icmp .ne 92, 34, 123, 0), (34, .aload_n 0, 35, 0, 0), (35, .getfield 193, 38, 0, 0),
  (38, .iload_n 2, 39, 0, 0), (39, .iaload, 40, 0, 0), (40, .bipush (-3), 42, 0, (-3)), (42, .if_icmp .eq 81, 45, 123, 0), (45, .iconst 0, 46, 0, 0), (46, .istore 4, 48, 0, 0), (48, .iconst 0, 49, 0, 0), (49, .istore 5, 51, 0, 0),
  (51, .iload 5, 53, 0, 0), (53, .aload_n 0, 54, 0, 0), (54, .getfield 193, 57, 0, 0), (57, .iload_n 2, 58, 0, 0), (58, .iaload, 59, 0, 0), (59, .if_icmp .ge 46, 62, 105, 0), (62, .iload 4, 64, 0, 0), (64, .aload_n 0, 65, 0, 0),
  (65, .getfield 190, 68, 0, 0), (68, .bipush 40, 70, 0, 40), (70, .iload_n 2, 71, 0, 0), (71, .imul, 72, 0, 0), (72, .iload 5, 74, 0, 0), (74, .iadd, 75, 0, 0), (75, .iaload, 76, 0, 0), (76, .aload_n 0, 77, 0, 0),
  (77, .getfield 190, 80, 0, 0), (80, .bipush 40, 82, 0, 40), (82, .iload_n 3, 83, 0, 0), (83, .imul, 84, 0, 0), (84, .iload 5, 86, 0, 0), (86, .iadd, 87, 0, 0), (87, .iaload, 88, 0, 0), (88, .if_icmp .eq 7, 91, 95, 0),
  (91, .iconst 1, 92, 0, 1), (92, .goto 4, 95, 96, 0), (95, .iconst 0, 96, 0, 0), (96, .iadd, 97, 0, 0), (97, .istore 4, 99, 0, 0), (99, .iinc 5 1, 102, 0, 1), (102, .goto (-51), 105, 51, 0), (105, .iload_n 1, 106, 0, 0),
  (106, .iconst (-1), 107, 0, (-1)), (107, .if_icmp .eq 9, 110, 116, 0), (110, .iload 4, 112, 0, 0), (112, .iload_n 1, 113, 0, 0), (113, .if_icmp .ge 8, 116, 121, 0), (116, .iload 4, 118, 0, 0), (118, .goto 4, 121, 122, 0), (121, .iload_n 1, 122, 0, 0),
  (122, .istore_n 1, 123, 0, 0), (123, .iinc 3 1, 126, 0, 1), (126, .goto (-112), 129, 14, 0), (129, .iinc 2 1, 132, 0, 1), (132, .goto (-128), 135, 4, 0), (135, .iload_n 1, 136, 0, 0), (136, .ireturn, 137, 0, 0)]
abbrev M_X11_apart : MI := (yX11_apart, cX11_apart, 6, (some .int), 11, P_X11_apart)
theorem ok_X11_apart : okP 11 cX11_apart P_X11_apart = true := by decide +kernel
def P_X11_idle : List PE := [(0, .iconst 0, 1, 0, 0), (1, .istore_n 1, 2, 0, 0), (2, .iconst 0, 3, 0, 0), (3, .istore_n 2, 4, 0, 0), (4, .iload_n 2, 5, 0, 0), (5, .aload_n 0, 6, 0, 0), (6, .getfield 11, 9, 0, 0), (9, .if_icmp .ge 65, 12, 74, 0),
  (12, .iconst 1, 13, 0, 1), (13, .istore_n 3, 14, 0, 0), (14, .iconst 0, 15, 0, 0), (15, .istore 4, 17, 0, 0), (17, .iload 4, 19, 0, 0), (19, .aload_n 0, 20, 0, 0), (20, .getfield 1, 23, 0, 0), (23, .if_icmp .ge 31, 26, 54, 0),
  (26, .iload_n 3, 27, 0, 0), (27, .ifCond .eq 27, 30, 54, 0), (30, .aload_n 0, 31, 0, 0), (31, .iload 4, 33, 0, 0), (33, .invokevirtual 232, 36, 0, 0), (36, .aload_n 0, 37, 0, 0), (37, .iload_n 2, 38, 0, 0), (38, .invokevirtual 229, 41, 0, 0),
  (41, .aload_n 0, 42, 0, 0), (42, .iload 4, 44, 0, 0), (44, .invokevirtual 262, 47, 0, 0), (47, .istore_n 3, 48, 0, 0), (48, .iinc 4 1, 51, 0, 1), (51, .goto (-34), 54, 17, 0), (54, .iload_n 1, 55, 0, 0), (55, .iload_n 3, 56, 0, 0),
  (56, .ifCond .eq 9, 59, 65, 0), (59, .iconst 1, 60, 0, 1), (60, .iload_n 2, 61, 0, 0), (61, .ishl, 62, 0, 0), (62, .goto 4, 65, 66, 0), (65, .iconst 0, 66, 0, 0), (66, .ior, 67, 0, 0), (67, .istore_n 1, 68, 0, 0),
  (68, .iinc 2 1, 71, 0, 1), (71, .goto (-67), 74, 4, 0), (74, .iload_n 1, 75, 0, 0), (75, .ireturn, 76, 0, 0)]
abbrev M_X11_idle : MI := (yX11_idle, cX11_idle, 5, (some .int), 11, P_X11_idle)
theorem ok_X11_idle : okP 11 cX11_idle P_X11_idle = true := by decide +kernel
def P_X11_all : List PE := [(0, .iload_n 1, 1, 0, 0), (1, .iconst 0, 2, 0, 0), (2, .iconst 4, 3, 0, 4), (3, .invokestatic 7, 6, 0, 0), (6, .ifCond .ne 7, 9, 13, 0), (9, .ldc_w 271, 12, 999, (-100000)), (12, .ireturn, 13, 0, 0), (13, .aload_n 0, 14, 0, 0),
  (14, .invokevirtual 252, 17, 0, 0), (17, .iload_n 1, 18, 0, 0), (18, .tableswitch 50 0 3 #[30, 35, 40, 45], 48, 0, 0), (48, .aload_n 0, 49, 0, 0), (49, .invokevirtual 272, 52, 0, 0), (52, .ireturn, 53, 0, 0), (53, .aload_n 0, 54, 0, 0), (54, .invokevirtual 255, 57, 0, 0),
  (57, .ireturn, 58, 0, 0), (58, .aload_n 0, 59, 0, 0), (59, .invokevirtual 275, 62, 0, 0), (62, .ireturn, 63, 0, 0), (63, .aload_n 0, 64, 0, 0), (64, .invokevirtual 278, 67, 0, 0), (67, .ireturn, 68, 0, 0), (68, .iconst 0, 69, 0, 0),
  (69, .istore_n 2, 70, 0, 0), (70, .iconst 0, 71, 0, 0), (71, .istore_n 3, 72, 0, 0), (72, .iload_n 3, 73, 0, 0), (73, .aload_n 0, 74, 0, 0), (74, .getfield 1, 77, 0, 0), (77, .if_icmp .ge 30, 80, 107, 0), (80, .iload_n 2, 81, 0, 0),
  (81, .aload_n 0, 82, 0, 0), (82, .getfield 193, 85, 0, 0), (85, .iload_n 3, 86, 0, 0), (86, .iaload, 87, 0, 0), (87, .bipush (-3), 89, 0, (-3)), (89, .if_icmp .ne 9, 92, 98, 0), (92, .iconst 1, 93, 0, 1), (93, .iload_n 3, 94, 0, 0),
  (94, .ishl, 95, 0, 0), (95, .goto 4, 98, 99, 0), (98, .iconst 0, 99, 0, 0), (99, .ior, 100, 0, 0), (100, .istore_n 2, 101, 0, 0), (101, .iinc 3 1, 104, 0, 1), (104, .goto (-32), 107, 72, 0), (107, .iload_n 2, 108, 0, 0),
  (108, .ireturn, 109, 0, 0)]
abbrev M_X11_all : MI := (yX11_all, cX11_all, 4, (some .int), 11, P_X11_all)
theorem ok_X11_all : okP 11 cX11_all P_X11_all = true := by decide +kernel
def P_X11_layBy : List PE := [(0, .aload_n 0, 1, 0, 0), (1, .aload_n 0, 2, 0, 0), (2, .getfield 49, 5, 0, 0), (5, .putfield 281, 8, 0, 0), (8, .iconst 0, 9, 0, 0), (9, .istore_n 1, 10, 0, 0), (10, .iload_n 1, 11, 0, 0), (11, .bipush 8, 13, 0, 8),
  (13, .if_icmp .ge 21, 16, 34, 0), (16, .aload_n 0, 17, 0, 0), (17, .getfield 202, 20, 0, 0), (20, .iload_n 1, 21, 0, 0), (21, .aload_n 0, 22, 0, 0), (22, .getfield 52, 25, 0, 0), (25, .iload_n 1, 26, 0, 0), (26, .iaload, 27, 0, 0),
  (27, .iastore, 28, 0, 0), (28, .iinc 1 1, 31, 0, 1), (31, .goto (-21), 34, 10, 0), (34, .return_, 35, 0, 0)]
abbrev M_X11_layBy : MI := (yX11_layBy, cX11_layBy, 2, none, 11, P_X11_layBy)
theorem ok_X11_layBy : okP 11 cX11_layBy P_X11_layBy = true := by decide +kernel
def P_X11_layBack : List PE := [(0, .aload_n 0, 1, 0, 0), (1, .aload_n 0, 2, 0, 0), (2, .getfield 281, 5, 0, 0), (5, .putfield 49, 8, 0, 0), (8, .iconst 0, 9, 0, 0), (9, .istore_n 1, 10, 0, 0), (10, .iload_n 1, 11, 0, 0), (11, .bipush 8, 13, 0, 8),
  (13, .if_icmp .ge 21, 16, 34, 0), (16, .aload_n 0, 17, 0, 0), (17, .getfield 52, 20, 0, 0), (20, .iload_n 1, 21, 0, 0), (21, .aload_n 0, 22, 0, 0), (22, .getfield 202, 25, 0, 0), (25, .iload_n 1, 26, 0, 0), (26, .iaload, 27, 0, 0),
  (27, .iastore, 28, 0, 0), (28, .iinc 1 1, 31, 0, 1), (31, .goto (-21), 34, 10, 0), (34, .return_, 35, 0, 0)]
abbrev M_X11_layBack : MI := (yX11_layBack, cX11_layBack, 2, none, 11, P_X11_layBack)
theorem ok_X11_layBack : okP 11 cX11_layBack P_X11_layBack = true := by decide +kernel
def P_X11_leave : List PE := [(0, .iload_n 1, 1, 0, 0), (1, .iconst 0, 2, 0, 0), (2, .iconst 1, 3, 0, 1), (3, .invokestatic 7, 6, 0, 0), (6, .ifCond .ne 7, 9, 13, 0), (9, .ldc_w 271, 12, 999, (-100000)), (12, .ireturn, 13, 0, 0), (13, .iconst (-1), 14, 0, (-1)),
  (14, .istore_n 2, 15, 0, 0), (15, .aload_n 0, 16, 0, 0), (16, .invokevirtual 272, 19, 0, 0), (19, .istore_n 3, 20, 0, 0), (20, .aload_n 0, 21, 0, 0), (21, .invokevirtual 284, 24, 0, 0), (24, .iconst 0, 25, 0, 0), (25, .istore 4, 27, 0, 0),
  (27, .iload 4, 29, 0, 0), (29, .aload_n 0, 30, 0, 0), (30, .getfield 281, 33, 0, 0), (33, .if_icmp .ge 91, 36, 124, 0), (36, .aload_n 0, 37, 0, 0), (37, .iconst 0, 38, 0, 0), (38, .putfield 49, 41, 0, 0), (41, .iconst 0, 42, 0, 0),
  (42, .istore 5, 44, 0, 0), (44, .iload 5, 46, 0, 0), (46, .aload_n 0, 47, 0, 0), (47, .getfield 281, 50, 0, 0), (50, .if_icmp .ge 42, 53, 92, 0), (53, .iload 5, 55, 0, 0), (55, .iload 4, 57, 0, 0), (57, .if_icmp .eq 29, 60, 86, 0),
  (60, .aload_n 0, 61, 0, 0), (61, .getfield 52, 64, 0, 0), (64, .aload_n 0, 65, 0, 0), (65, .getfield 49, 68, 0, 0), (68, .aload_n 0, 69, 0, 0), (69, .getfield 202, 72, 0, 0), (72, .iload 5, 74, 0, 0), (74, .iaload, 75, 0, 0),
  (75, .iastore, 76, 0, 0), (76, .aload_n 0, 77, 0, 0), (77, .dup, 78, 0, 0), (78, .getfield 49, 81, 0, 0), (81, .iconst 1, 82, 0, 1), (82, .iadd, 83, 0, 0), (83, .putfield 49, 86, 0, 0), (86, .iinc 5 1, 89, 0, 1),
  (89, .goto (-45), 92, 44, 0), (92, .aload_n 0, 93, 0, 0), (93, .invokevirtual 272, 96, 0, 0), (96, .istore 5, 98, 0, 0), (98, .iload 5, 100, 0, 0), (100, .iload_n 3, 101, 0, 0), (101, .if_icmp .le 8, 104, 109, 0), (104, .iload 4, 106, 0, 0),
  (106, .goto 4, 109, 110, 0), (109, .iload_n 2, 110, 0, 0), (110, .istore_n 2, 111, 0, 0), (111, .iload_n 3, 112, 0, 0), (112, .iload 5, 114, 0, 0), (114, .invokestatic 223, 117, 0, 0), (117, .istore_n 3, 118, 0, 0), (118, .iinc 4 1, 121, 0, 1),
  (121, .goto (-94), 124, 27, 0), (124, .aload_n 0, 125, 0, 0), (125, .invokevirtual 287, 128, 0, 0), (128, .iload_n 1, 129, 0, 0), (129, .ifCond .ne 7, 132, 136, 0), (132, .iload_n 2, 133, 0, 0), (133, .goto 4, 136, 137, 0), (136, .iload_n 3, 137, 0, 0),
  (137, .ireturn, 138, 0, 0)]
abbrev M_X11_leave : MI := (yX11_leave, cX11_leave, 6, (some .int), 11, P_X11_leave)
theorem ok_X11_leave : okP 11 cX11_leave P_X11_leave = true := by decide +kernel
def P_X11_swap : List PE := [(0, .aload_n 0, 1, 0, 0), (1, .getfield 52, 4, 0, 0), (4, .iload_n 1, 5, 0, 0), (5, .iaload, 6, 0, 0), (6, .istore_n 3, 7, 0, 0), (7, .aload_n 0, 8, 0, 0), (8, .getfield 52, 11, 0, 0), (11, .iload_n 1, 12, 0, 0),
  (12, .aload_n 0, 13, 0, 0), (13, .getfield 52, 16, 0, 0), (16, .iload_n 2, 17, 0, 0), (17, .iaload, 18, 0, 0), (18, .iastore, 19, 0, 0), (19, .aload_n 0, 20, 0, 0), (20, .getfield 52, 23, 0, 0), (23, .iload_n 2, 24, 0, 0),
  (24, .iload_n 3, 25, 0, 0), (25, .iastore, 26, 0, 0), (26, .return_, 27, 0, 0)]
abbrev M_X11_swap : MI := (yX11_swap, cX11_swap, 4, none, 11, P_X11_swap)
theorem ok_X11_swap : okP 11 cX11_swap P_X11_swap = true := by decide +kernel
def P_X11_next_ : List PE := [(0, .iload_n 1, 1, 0, 0), (1, .iconst 2, 2, 0, 2), (2, .isub, 3, 0, 0), (3, .istore_n 2, 4, 0, 0), (4, .iload_n 2, 5, 0, 0), (5, .ifCond .lt 26, 8, 31, 0), (8, .aload_n 0, 9, 0, 0), (9, .getfield 52, 12, 0, 0),
  (12, .iload_n 2, 13, 0, 0), (13, .iaload, 14, 0, 0), (14, .aload_n 0, 15, 0, 0), (15, .getfield 52, 18, 0, 0), (18, .iload_n 2, 19, 0, 0), (19, .iconst 1, 20, 0, 1), (20, .iadd, 21, 0, 0), (21, .iaload, 22, 0, 0),
  (22, .if_icmp .le 9, 25, 31, 0), (25, .iinc 2 (-1), 28, 0, (-1)), (28, .goto (-24), 31, 4, 0), (31, .iload_n 2, 32, 0, 0), (32, .ifCond .ge 5, 35, 37, 0), (35, .iconst 0, 36, 0, 0), (36, .ireturn, 37, 0, 0), (37, .iload_n 1, 38, 0, 0),
  (38, .iconst 1, 39, 0, 1), (39, .isub, 40, 0, 0), (40, .istore_n 3, 41, 0, 0), (41, .aload_n 0, 42, 0, 0), (42, .getfield 52, 45, 0, 0), (45, .iload_n 3, 46, 0, 0), (46, .iaload, 47, 0, 0), (47, .aload_n 0, 48, 0, 0),
  (48, .getfield 52, 51, 0, 0), (51, .iload_n 2, 52, 0, 0), (52, .iaload, 53, 0, 0), (53, .if_icmp .ge 9, 56, 62, 0), (56, .iinc 3 (-1), 59, 0, (-1)), (59, .goto (-18), 62, 41, 0), (62, .aload_n 0, 63, 0, 0), (63, .iload_n 2, 64, 0, 0),
  (64, .iload_n 3, 65, 0, 0), (65, .invokevirtual 290, 68, 0, 0), (68, .iload_n 2, 69, 0, 0), (69, .iconst 1, 70, 0, 1), (70, .iadd, 71, 0, 0), (71, .istore 4, 73, 0, 0), (73, .iload_n 1, 74, 0, 0), (74, .iconst 1, 75, 0, 1),
  (75, .isub, 76, 0, 0), (76, .istore 5, 78, 0, 0), (78, .iload 4, 80, 0, 0), (80, .iload 5, 82, 0, 0), (82, .if_icmp .ge 20, 85, 102, 0), (85, .aload_n 0, 86, 0, 0), (86, .iload 4, 88, 0, 0), (88, .iload 5, 90, 0, 0),
  (90, .invokevirtual 290, 93, 0, 0), (93, .iinc 4 1, 96, 0, 1), (96, .iinc 5 (-1), 99, 0, (-1)), (99, .goto (-21), 102, 78, 0), (102, .iconst 1, 103, 0, 1), (103, .ireturn, 104, 0, 0)]
abbrev M_X11_next_ : MI := (yX11_next_, cX11_next_, 6, (some .boolean), 11, P_X11_next_)
theorem ok_X11_next_ : okP 11 cX11_next_ P_X11_next_ = true := by decide +kernel
def P_X11_order : List PE := [(0, .iload_n 1, 1, 0, 0), (1, .iconst 0, 2, 0, 0), (2, .iconst 1, 3, 0, 1), (3, .invokestatic 7, 6, 0, 0), (6, .ifCond .ne 7, 9, 13, 0), (9, .ldc_w 271, 12, 999, (-100000)), (12, .ireturn, 13, 0, 0), (13, .aload_n 0, 14, 0, 0),
  (14, .invokevirtual 284, 17, 0, 0), (17, .aload_n 0, 18, 0, 0), (18, .aload_n 0, 19, 0, 0), (19, .getfield 11, 22, 0, 0), (22, .putfield 49, 25, 0, 0), (25, .iconst 0, 26, 0, 0), (26, .istore_n 2, 27, 0, 0), (27, .iload_n 2, 28, 0, 0),
  (28, .aload_n 0, 29, 0, 0), (29, .getfield 11, 32, 0, 0), (32, .if_icmp .ge 16, 35, 48, 0), (35, .aload_n 0, 36, 0, 0), (36, .getfield 52, 39, 0, 0), (39, .iload_n 2, 40, 0, 0), (40, .iload_n 2, 41, 0, 0), (41, .iastore, 42, 0, 0),
  (42, .iinc 2 1, 45, 0, 1), (45, .goto (-18), 48, 27, 0), (48, .iconst (-1), 49, 0, (-1)), (49, .istore_n 2, 50, 0, 0), (50, .iconst 0, 51, 0, 0), (51, .istore_n 3, 52, 0, 0), (52, .iconst 1, 53, 0, 1), (53, .istore 4, 55, 0, 0),
  (55, .iload 4, 57, 0, 0), (57, .ifCond .eq 71, 60, 128, 0), (60, .aload_n 0, 61, 0, 0), (61, .invokevirtual 272, 64, 0, 0), (64, .istore 5, 66, 0, 0), (66, .iload_n 2, 67, 0, 0), (67, .iconst (-1), 68, 0, (-1)), (68, .if_icmp .eq 9, 71, 77, 0),
  (71, .iload 5, 73, 0, 0), (73, .iload_n 3, 74, 0, 0), (74, .if_icmp .le 41, 77, 115, 0), (77, .iload 5, 79, 0, 0), (79, .istore_n 3, 80, 0, 0), (80, .iconst 0, 81, 0, 0), (81, .istore_n 2, 82, 0, 0), (82, .iconst 0, 83, 0, 0),
  (83, .istore 6, 85, 0, 0), (85, .iload 6, 87, 0, 0), (87, .aload_n 0, 88, 0, 0), (88, .getfield 49, 91, 0, 0), (91, .if_icmp .ge 24, 94, 115, 0), (94, .bipush 10, 96, 0, 10), (96, .iload_n 2, 97, 0, 0), (97, .imul, 98, 0, 0),
  (98, .aload_n 0, 99, 0, 0), (99, .getfield 52, 102, 0, 0), (102, .iload 6, 104, 0, 0), (104, .iaload, 105, 0, 0), (105, .iadd, 106, 0, 0), (106, .iconst 1, 107, 0, 1), (107, .iadd, 108, 0, 0), (108, .istore_n 2, 109, 0, 0),
  (109, .iinc 6 1, 112, 0, 1), (112, .goto (-27), 115, 85, 0), (115, .aload_n 0, 116, 0, 0), (116, .aload_n 0, 117, 0, 0), (117, .getfield 49, 120, 0, 0), (120, .invokevirtual 294, 123, 0, 0), (123, .istore 4, 125, 0, 0), (125, .goto (-70), 128, 55, 0),
  (128, .aload_n 0, 129, 0, 0), (129, .invokevirtual 287, 132, 0, 0), (132, .iload_n 1, 133, 0, 0), (133, .ifCond .ne 7, 136, 140, 0), (136, .iload_n 3, 137, 0, 0), (137, .goto 4, 140, 141, 0), (140, .iload_n 2, 141, 0, 0), (141, .ireturn, 142, 0, 0)]
abbrev M_X11_order : MI := (yX11_order, cX11_order, 7, (some .int), 11, P_X11_order)
theorem ok_X11_order : okP 11 cX11_order P_X11_order = true := by decide +kernel
def P_X11_letter : List PE := [(0, .aload_n 0, 1, 0, 0), (1, .iload_n 1, 2, 0, 0), (2, .invokevirtual 46, 5, 0, 0), (5, .ifCond .eq 12, 8, 17, 0), (8, .iload_n 2, 9, 0, 0), (9, .iconst 0, 10, 0, 0), (10, .iconst 1, 11, 0, 1), (11, .invokestatic 7, 14, 0, 0),
  (14, .ifCond .ne 7, 17, 21, 0), (17, .ldc_w 271, 20, 999, (-100000)), (20, .ireturn, 21, 0, 0), (21, .aload_n 0, 22, 0, 0), (22, .getfield 40, 25, 0, 0), (25, .iload_n 1, 26, 0, 0), (26, .iaload, 27, 0, 0), (27, .istore_n 3, 28, 0, 0),
  (28, .iconst 0, 29, 0, 0), (29, .istore 4, 31, 0, 0), (31, .iconst 0, 32, 0, 0), (32, .istore 5, 34, 0, 0), (34, .iconst 0, 35, 0, 0), (35, .istore 6, 37, 0, 0), (37, .iload 6, 39, 0, 0), (39, .bipush 26, 41, 0, 26),
  (41, .if_icmp .ge 43, 44, 84, 0), (44, .aload_n 0, 45, 0, 0), (45, .getfield 40, 48, 0, 0), (48, .iload_n 1, 49, 0, 0), (49, .iload 6, 51, 0, 0), (51, .iastore, 52, 0, 0), (52, .aload_n 0, 53, 0, 0), (53, .invokevirtual 272, 56, 0, 0),
  (56, .istore 7, 58, 0, 0), (58, .iload 6, 60, 0, 0), (60, .ifCond .eq 10, 63, 70, 0), (63, .iload 7, 65, 0, 0), (65, .iload 5, 67, 0, 0), (67, .if_icmp .le 11, 70, 78, 0), (70, .iload 6, 72, 0, 0), (72, .istore 4, 74, 0, 0),
  (74, .iload 7, 76, 0, 0), (76, .istore 5, 78, 0, 0), (78, .iinc 6 1, 81, 0, 1), (81, .goto (-44), 84, 37, 0), (84, .aload_n 0, 85, 0, 0), (85, .getfield 40, 88, 0, 0), (88, .iload_n 1, 89, 0, 0), (89, .iload_n 3, 90, 0, 0),
  (90, .iastore, 91, 0, 0), (91, .iload_n 2, 92, 0, 0), (92, .ifCond .ne 8, 95, 100, 0), (95, .iload 4, 97, 0, 0), (97, .goto 5, 100, 102, 0), (100, .iload 5, 102, 0, 0), (102, .ireturn, 103, 0, 0)]
abbrev M_X11_letter : MI := (yX11_letter, cX11_letter, 8, (some .int), 11, P_X11_letter)
theorem ok_X11_letter : okP 11 cX11_letter P_X11_letter = true := by decide +kernel
def P_X11_isHeard : List PE := [(0, .aload_n 0, 1, 0, 0), (1, .getfield 226, 4, 0, 0), (4, .aload_n 0, 5, 0, 0), (5, .getfield 22, 8, 0, 0), (8, .iload_n 1, 9, 0, 0), (9, .iaload, 10, 0, 0), (10, .if_icmp .ne 7, 13, 17, 0), (13, .iconst 1, 14, 0, 1),
  (14, .goto 4, 17, 18, 0), (17, .iconst 0, 18, 0, 0), (18, .istore_n 2, 19, 0, 0), (19, .iconst 0, 20, 0, 0), (20, .istore_n 3, 21, 0, 0), (21, .iload_n 3, 22, 0, 0), (22, .aload_n 0, 23, 0, 0), (23, .getfield 226, 26, 0, 0),
  (26, .if_icmp .ge 39, 29, 65, 0), (29, .iload_n 2, 30, 0, 0), (30, .ifCond .eq 35, 33, 65, 0), (33, .aload_n 0, 34, 0, 0), (34, .getfield 196, 37, 0, 0), (37, .iload_n 3, 38, 0, 0), (38, .iaload, 39, 0, 0), (39, .aload_n 0, 40, 0, 0),
  (40, .getfield 25, 43, 0, 0), (43, .bipush 40, 45, 0, 40), (45, .iload_n 1, 46, 0, 0), (46, .imul, 47, 0, 0), (47, .iload_n 3, 48, 0, 0), (48, .iadd, 49, 0, 0), (49, .iaload, 50, 0, 0), (50, .if_icmp .ne 7, 53, 57, 0),
  (53, .iconst 1, 54, 0, 1), (54, .goto 4, 57, 58, 0), (57, .iconst 0, 58, 0, 0), (58, .istore_n 2, 59, 0, 0), (59, .iinc 3 1, 62, 0, 1), (62, .goto (-41), 65, 21, 0), (65, .iload_n 2, 66, 0, 0), (66, .ireturn, 67, 0, 0)]
abbrev M_X11_isHeard : MI := (yX11_isHeard, cX11_isHeard, 4, (some .boolean), 11, P_X11_isHeard)
theorem ok_X11_isHeard : okP 11 cX11_isHeard P_X11_isHeard = true := by decide +kernel
def P_X11_heard : List PE := [(0, .iload_n 1, 1, 0, 0), (1, .invokestatic 14, 4, 0, 0), (4, .ifCond .eq 12, 7, 16, 0), (7, .iload_n 2, 8, 0, 0), (8, .iconst 0, 9, 0, 0), (9, .iconst 2, 10, 0, 2), (10, .invokestatic 7, 13, 0, 0), (13, .ifCond .ne 6, 16, 19, 0),
  (16, .bipush (-2), 18, 0, (-2)), (18, .ireturn, 19, 0, 0), (19, .aload_n 0, 20, 0, 0), (20, .getfield 18, 23, 0, 0), (23, .iload_n 1, 24, 0, 0), (24, .iaload, 25, 0, 0), (25, .ifCond .ge 6, 28, 31, 0), (28, .bipush (-11), 30, 0, (-11)),
  (30, .ireturn, 31, 0, 0), (31, .iconst 0, 32, 0, 0), (32, .istore_n 3, 33, 0, 0), (33, .iconst 0, 34, 0, 0), (34, .istore 4, 36, 0, 0), (36, .iconst 0, 37, 0, 0), (37, .istore 5, 39, 0, 0), (39, .iconst 0, 40, 0, 0),
  (40, .istore 6, 42, 0, 0), (42, .iload 6, 44, 0, 0), (44, .aload_n 0, 45, 0, 0), (45, .getfield 1, 48, 0, 0), (48, .if_icmp .ge 88, 51, 136, 0), (51, .aload_n 0, 52, 0, 0), (52, .iload 6, 54, 0, 0), (54, .invokevirtual 232, 57, 0, 0),
  (57, .aload_n 0, 58, 0, 0), (58, .invokevirtual 235, 61, 0, 0), (61, .iload_n 3, 62, 0, 0), (62, .aload_n 0, 63, 0, 0), (63, .iload_n 1, 64, 0, 0), (64, .invokevirtual 296, 67, 0, 0), (67, .ifCond .eq 10, 70, 77, 0), (70, .iconst 1, 71, 0, 1),
  (71, .iload 6, 73, 0, 0), (73, .ishl, 74, 0, 0), (74, .goto 4, 77, 78, 0), (77, .iconst 0, 78, 0, 0), (78, .ior, 79, 0, 0), (79, .istore_n 3, 80, 0, 0), (80, .iconst 0, 81, 0, 0), (81, .istore 7, 83, 0, 0),
  (83, .iload 7, 85, 0, 0), (85, .aload_n 0, 86, 0, 0), (86, .getfield 11, 89, 0, 0), (89, .if_icmp .ge 41, 92, 130, 0), (92, .aload_n 0, 93, 0, 0), (93, .iload 6, 95, 0, 0), (95, .invokevirtual 232, 98, 0, 0), (98, .aload_n 0, 99, 0, 0),
  (99, .iload 7, 101, 0, 0), (101, .invokevirtual 229, 104, 0, 0), (104, .aload_n 0, 105, 0, 0), (105, .iload_n 1, 106, 0, 0), (106, .invokevirtual 296, 109, 0, 0), (109, .ifCond .eq 15, 112, 124, 0), (112, .iload 4, 114, 0, 0), (114, .iconst 1, 115, 0, 1),
  (115, .iload 7, 117, 0, 0), (117, .ishl, 118, 0, 0), (118, .ior, 119, 0, 0), (119, .istore 4, 121, 0, 0), (121, .iinc 5 1, 124, 0, 1), (124, .iinc 7 1, 127, 0, 1), (127, .goto (-44), 130, 83, 0), (130, .iinc 6 1, 133, 0, 1),
  (133, .goto (-91), 136, 42, 0), (136, .iload_n 2, 137, 0, 0), (137, .ifCond .ne 7, 140, 144, 0), (140, .iload_n 3, 141, 0, 0), (141, .goto 15, 144, 156, 0), (144, .iload_n 2, 145, 0, 0), (145, .iconst 1, 146, 0, 1), (146, .if_icmp .ne 8, 149, 154, 0),
  (149, .iload 4, 151, 0, 0), (151, .goto 5, 154, 156, 0), (154, .iload 5, 156, 0, 0), (156, .ireturn, 157, 0, 0)]
abbrev M_X11_heard : MI := (yX11_heard, cX11_heard, 8, (some .int), 11, P_X11_heard)
theorem ok_X11_heard : okP 11 cX11_heard P_X11_heard = true := by decide +kernel
def P_X11_found : List PE := [(0, .iload_n 1, 1, 0, 0), (1, .invokestatic 14, 4, 0, 0), (4, .ifCond .eq 29, 7, 33, 0), (7, .aload_n 0, 8, 0, 0), (8, .iload_n 2, 9, 0, 0), (9, .invokevirtual 58, 12, 0, 0), (12, .ifCond .eq 21, 15, 33, 0), (15, .aload_n 0, 16, 0, 0),
  (16, .iload_n 3, 17, 0, 0), (17, .invokevirtual 46, 20, 0, 0), (20, .ifCond .eq 13, 23, 33, 0), (23, .iload 4, 25, 0, 0), (25, .iconst 0, 26, 0, 0), (26, .iconst 2, 27, 0, 2), (27, .invokestatic 7, 30, 0, 0), (30, .ifCond .ne 6, 33, 36, 0),
  (33, .bipush (-2), 35, 0, (-2)), (35, .ireturn, 36, 0, 0), (36, .aload_n 0, 37, 0, 0), (37, .getfield 18, 40, 0, 0), (40, .iload_n 1, 41, 0, 0), (41, .iaload, 42, 0, 0), (42, .ifCond .ge 6, 45, 48, 0), (45, .bipush (-11), 47, 0, (-11)),
  (47, .ireturn, 48, 0, 0), (48, .aload_n 0, 49, 0, 0), (49, .getfield 40, 52, 0, 0), (52, .iload_n 3, 53, 0, 0), (53, .iaload, 54, 0, 0), (54, .istore 5, 56, 0, 0), (56, .aload_n 0, 57, 0, 0), (57, .getfield 43, 60, 0, 0),
  (60, .iload_n 3, 61, 0, 0), (61, .iaload, 62, 0, 0), (62, .istore 6, 64, 0, 0), (64, .aload_n 0, 65, 0, 0), (65, .getfield 37, 68, 0, 0), (68, .iload_n 3, 69, 0, 0), (69, .iaload, 70, 0, 0), (70, .istore 7, 72, 0, 0),
  (72, .iconst 0, 73, 0, 0), (73, .istore 8, 75, 0, 0), (75, .iconst 0, 76, 0, 0), (76, .istore 9, 78, 0, 0), (78, .iload 9, 80, 0, 0), (80, .iload 4, 82, 0, 0), (82, .iconst 2, 83, 0, 2), (83, .if_icmp .ne 8, 86, 91, 0),
  (86, .bipush 6, 88, 0, 6), (88, .goto 5, 91, 93, 0), (91, .bipush 26, 93, 0, 26), (93, .if_icmp .ge 95, 96, 188, 0), (96, .aload_n 0, 97, 0, 0), (97, .getfield 40, 100, 0, 0), (100, .iload_n 3, 101, 0, 0), (101, .iload 4, 103, 0, 0),
  (103, .ifCond .ne 8, 106, 111, 0), (106, .iload 9, 108, 0, 0), (108, .goto 5, 111, 113, 0), (111, .iload 5, 113, 0, 0), (113, .iastore, 114, 0, 0), (114, .aload_n 0, 115, 0, 0), (115, .getfield 43, 118, 0, 0), (118, .iload_n 3, 119, 0, 0),
  (119, .iload 4, 121, 0, 0), (121, .iconst 1, 122, 0, 1), (122, .if_icmp .ne 8, 125, 130, 0), (125, .iload 9, 127, 0, 0), (127, .goto 5, 130, 132, 0), (130, .iload 6, 132, 0, 0), (132, .iastore, 133, 0, 0), (133, .aload_n 0, 134, 0, 0),
  (134, .getfield 37, 137, 0, 0), (137, .iload_n 3, 138, 0, 0), (138, .iload 4, 140, 0, 0), (140, .iconst 2, 141, 0, 2), (141, .if_icmp .ne 8, 144, 149, 0), (144, .iload 9, 146, 0, 0), (146, .goto 5, 149, 151, 0), (149, .iload 7, 151, 0, 0),
  (151, .iastore, 152, 0, 0), (152, .aload_n 0, 153, 0, 0), (153, .iload_n 2, 154, 0, 0), (154, .invokevirtual 232, 157, 0, 0), (157, .aload_n 0, 158, 0, 0), (158, .invokevirtual 235, 161, 0, 0), (161, .iload 8, 163, 0, 0), (163, .aload_n 0, 164, 0, 0),
  (164, .iload_n 1, 165, 0, 0), (165, .invokevirtual 296, 168, 0, 0), (168, .ifCond .eq 10, 171, 178, 0), (171, .iconst 1, 172, 0, 1), (172, .iload 9, 174, 0, 0), (174, .ishl, 175, 0, 0), (175, .goto 4, 178, 179, 0), (178, .iconst 0, 179, 0, 0),
  (179, .ior, 180, 0, 0), (180, .istore 8, 182, 0, 0), (182, .iinc 9 1, 185, 0, 1), (185, .goto (-107), 188, 78, 0), (188, .aload_n 0, 189, 0, 0), (189, .getfield 40, 192, 0, 0), (192, .iload_n 3, 193, 0, 0), (193, .iload 5, 195, 0, 0),
  (195, .iastore, 196, 0, 0), (196, .aload_n 0, 197, 0, 0), (197, .getfield 43, 200, 0, 0), (200, .iload_n 3, 201, 0, 0), (201, .iload 6, 203, 0, 0), (203, .iastore, 204, 0, 0), (204, .aload_n 0, 205, 0, 0), (205, .getfield 37, 208, 0, 0),
  (208, .iload_n 3, 209, 0, 0), (209, .iload 7, 211, 0, 0), (211, .iastore, 212, 0, 0), (212, .iload 8, 214, 0, 0), (214, .ireturn, 215, 0, 0)]
abbrev M_X11_found : MI := (yX11_found, cX11_found, 10, (some .int), 11, P_X11_found)
theorem ok_X11_found : okP 11 cX11_found P_X11_found = true := by decide +kernel
def P_X11_alikeTexts : List PE := [(0, .aload_n 0, 1, 0, 0), (1, .getfield 175, 4, 0, 0), (4, .istore_n 1, 5, 0, 0), (5, .aload_n 0, 6, 0, 0), (6, .invokevirtual 272, 9, 0, 0), (9, .istore_n 2, 10, 0, 0), (10, .iconst 0, 11, 0, 0), (11, .istore_n 3, 12, 0, 0),
  (12, .iconst 0, 13, 0, 0), (13, .istore 4, 15, 0, 0), (15, .iload 4, 17, 0, 0), (17, .aload_n 0, 18, 0, 0), (18, .getfield 169, 21, 0, 0), (21, .if_icmp .ge 34, 24, 55, 0), (24, .aload_n 0, 25, 0, 0), (25, .iload 4, 27, 0, 0),
  (27, .putfield 175, 30, 0, 0), (30, .iload_n 3, 31, 0, 0), (31, .aload_n 0, 32, 0, 0), (32, .invokevirtual 272, 35, 0, 0), (35, .iload_n 2, 36, 0, 0), (36, .if_icmp .ne 10, 39, 46, 0), (39, .iconst 1, 40, 0, 1), (40, .iload 4, 42, 0, 0),
  (42, .ishl, 43, 0, 0), (43, .goto 4, 46, 47, 0), (46, .iconst 0, 47, 0, 0), (47, .ior, 48, 0, 0), (48, .istore_n 3, 49, 0, 0), (49, .iinc 4 1, 52, 0, 1), (52, .goto (-37), 55, 15, 0), (55, .aload_n 0, 56, 0, 0),
  (56, .iload_n 1, 57, 0, 0), (57, .putfield 175, 60, 0, 0), (60, .iload_n 3, 61, 0, 0), (61, .ireturn, 62, 0, 0)]
abbrev M_X11_alikeTexts : MI := (yX11_alikeTexts, cX11_alikeTexts, 5, (some .int), 11, P_X11_alikeTexts)
theorem ok_X11_alikeTexts : okP 11 cX11_alikeTexts P_X11_alikeTexts = true := by decide +kernel
def P_X11_film : List PE := [(0, .iload_n 1, 1, 0, 0), (1, .invokestatic 14, 4, 0, 0), (4, .ifCond .eq 11, 7, 15, 0), (7, .aload_n 0, 8, 0, 0), (8, .iload_n 2, 9, 0, 0), (9, .invokevirtual 58, 12, 0, 0), (12, .ifCond .ne 6, 15, 18, 0), (15, .bipush (-2), 17, 0, (-2)),
  (17, .ireturn, 18, 0, 0), (18, .aload_n 0, 19, 0, 0), (19, .iload_n 2, 20, 0, 0), (20, .invokevirtual 238, 23, 0, 0), (23, .aload_n 0, 24, 0, 0), (24, .getfield 193, 27, 0, 0), (27, .iload_n 2, 28, 0, 0), (28, .iaload, 29, 0, 0),
  (29, .bipush (-3), 31, 0, (-3)), (31, .if_icmp .ne 6, 34, 37, 0), (34, .bipush (-3), 36, 0, (-3)), (36, .ireturn, 37, 0, 0), (37, .aload_n 0, 38, 0, 0), (38, .iload_n 1, 39, 0, 0), (39, .iconst 0, 40, 0, 0), (40, .aload_n 0, 41, 0, 0),
  (41, .getfield 193, 44, 0, 0), (44, .iload_n 2, 45, 0, 0), (45, .iaload, 46, 0, 0), (46, .invokevirtual 299, 49, 0, 0), (49, .pop, 50, 0, 0), (50, .iconst 0, 51, 0, 0), (51, .istore_n 3, 52, 0, 0), (52, .iload_n 3, 53, 0, 0),
  (53, .aload_n 0, 54, 0, 0), (54, .getfield 193, 57, 0, 0), (57, .iload_n 2, 58, 0, 0), (58, .iaload, 59, 0, 0), (59, .if_icmp .ge 31, 62, 90, 0), (62, .aload_n 0, 63, 0, 0), (63, .getfield 25, 66, 0, 0), (66, .bipush 40, 68, 0, 40),
  (68, .iload_n 1, 69, 0, 0), (69, .imul, 70, 0, 0), (70, .iload_n 3, 71, 0, 0), (71, .iadd, 72, 0, 0), (72, .aload_n 0, 73, 0, 0), (73, .getfield 190, 76, 0, 0), (76, .bipush 40, 78, 0, 40), (78, .iload_n 2, 79, 0, 0),
  (79, .imul, 80, 0, 0), (80, .iload_n 3, 81, 0, 0), (81, .iadd, 82, 0, 0), (82, .iaload, 83, 0, 0), (83, .iastore, 84, 0, 0), (84, .iinc 3 1, 87, 0, 1), (87, .goto (-35), 90, 52, 0), (90, .aload_n 0, 91, 0, 0),
  (91, .getfield 193, 94, 0, 0), (94, .iload_n 2, 95, 0, 0), (95, .iaload, 96, 0, 0), (96, .ireturn, 97, 0, 0)]
abbrev M_X11_film : MI := (yX11_film, cX11_film, 4, (some .int), 11, P_X11_film)
theorem ok_X11_film : okP 11 cX11_film P_X11_film = true := by decide +kernel
def P_X11_drawRow : List PE := [(0, .iload_n 1, 1, 0, 0), (1, .ldc_w 302, 4, 999, 1103515245), (4, .imul, 5, 0, 0), (5, .sipush 12345, 8, 0, 12345), (8, .iadd, 9, 0, 0), (9, .istore_n 2, 10, 0, 0), (10, .iload_n 2, 11, 0, 0), (11, .bipush 9, 13, 0, 9),
  (13, .iushr, 14, 0, 0), (14, .iconst 4, 15, 0, 4), (15, .irem, 16, 0, 0), (16, .iconst 1, 17, 0, 1), (17, .iadd, 18, 0, 0), (18, .istore_n 3, 19, 0, 0), (19, .aload_n 0, 20, 0, 0), (20, .iconst 0, 21, 0, 0),
  (21, .putfield 49, 24, 0, 0), (24, .iconst 0, 25, 0, 0), (25, .istore 4, 27, 0, 0), (27, .iload 4, 29, 0, 0), (29, .iload_n 3, 30, 0, 0), (30, .if_icmp .ge 52, 33, 82, 0), (33, .aload_n 0, 34, 0, 0), (34, .getfield 11, 37, 0, 0),
  (37, .ifCond .le 45, 40, 82, 0), (40, .iload_n 2, 41, 0, 0), (41, .ldc_w 302, 44, 999, 1103515245), (44, .imul, 45, 0, 0), (45, .sipush 12345, 48, 0, 12345), (48, .iadd, 49, 0, 0), (49, .istore_n 2, 50, 0, 0), (50, .aload_n 0, 51, 0, 0),
  (51, .getfield 52, 54, 0, 0), (54, .iload 4, 56, 0, 0), (56, .iload_n 2, 57, 0, 0), (57, .bipush 9, 59, 0, 9), (59, .iushr, 60, 0, 0), (60, .aload_n 0, 61, 0, 0), (61, .getfield 11, 64, 0, 0), (64, .irem, 65, 0, 0),
  (65, .iastore, 66, 0, 0), (66, .aload_n 0, 67, 0, 0), (67, .dup, 68, 0, 0), (68, .getfield 49, 71, 0, 0), (71, .iconst 1, 72, 0, 1), (72, .iadd, 73, 0, 0), (73, .putfield 49, 76, 0, 0), (76, .iinc 4 1, 79, 0, 1),
  (79, .goto (-52), 82, 27, 0), (82, .return_, 83, 0, 0)]
abbrev M_X11_drawRow : MI := (yX11_drawRow, cX11_drawRow, 5, none, 11, P_X11_drawRow)
theorem ok_X11_drawRow : okP 11 cX11_drawRow P_X11_drawRow = true := by decide +kernel
def P_X11_drawn : List PE := [(0, .aload_n 0, 1, 0, 0), (1, .invokevirtual 284, 4, 0, 0), (4, .aload_n 0, 5, 0, 0), (5, .iload_n 1, 6, 0, 0), (6, .invokevirtual 303, 9, 0, 0), (9, .aload_n 0, 10, 0, 0), (10, .invokevirtual 272, 13, 0, 0), (13, .istore_n 2, 14, 0, 0),
  (14, .aload_n 0, 15, 0, 0), (15, .invokevirtual 287, 18, 0, 0), (18, .iload_n 2, 19, 0, 0), (19, .ireturn, 20, 0, 0)]
abbrev M_X11_drawn : MI := (yX11_drawn, cX11_drawn, 3, (some .int), 11, P_X11_drawn)
theorem ok_X11_drawn : okP 11 cX11_drawn P_X11_drawn = true := by decide +kernel
def P_X11_divisor : List PE := [(0, .lload_n 0, 1, 0, 0), (1, .lstore 4, 3, 0, 0), (3, .lload_n 2, 4, 0, 0), (4, .lstore 6, 6, 0, 0), (6, .lload 6, 8, 0, 0), (8, .lconst 0, 9, 0, 0), (9, .lcmp, 10, 0, 0), (10, .ifCond .eq 21, 13, 31, 0),
  (13, .lload 4, 15, 0, 0), (15, .lload 6, 17, 0, 0), (17, .lrem, 18, 0, 0), (18, .lstore 8, 20, 0, 0), (20, .lload 6, 22, 0, 0), (22, .lstore 4, 24, 0, 0), (24, .lload 8, 26, 0, 0), (26, .lstore 6, 28, 0, 0),
  (28, .goto (-22), 31, 6, 0), (31, .lload 4, 33, 0, 0), (33, .lreturn, 34, 0, 0)]
abbrev M_X11_divisor : MI := (yX11_divisor, cX11_divisor, 10, (some .long), 11, P_X11_divisor)
theorem ok_X11_divisor : okP 11 cX11_divisor P_X11_divisor = true := by decide +kernel
def P_X11_chance : List PE := [(0, .iload_n 2, 1, 0, 0), (1, .iconst 1, 2, 0, 1), (2, .bipush 20, 4, 0, 20), (4, .invokestatic 7, 7, 0, 0), (7, .ifCond .eq 12, 10, 19, 0), (10, .iload_n 3, 11, 0, 0), (11, .iconst 0, 12, 0, 0), (12, .iconst 1, 13, 0, 1),
  (13, .invokestatic 7, 16, 0, 0), (16, .ifCond .ne 7, 19, 23, 0), (19, .ldc2_w 306, 22, 0, 0), (22, .lreturn, 23, 0, 0), (23, .aload_n 0, 24, 0, 0), (24, .invokevirtual 284, 27, 0, 0), (27, .lconst 0, 28, 0, 0), (28, .lstore 4, 30, 0, 0),
  (30, .iconst 0, 31, 0, 0), (31, .istore 6, 33, 0, 0), (33, .iload 6, 35, 0, 0), (35, .iload_n 2, 36, 0, 0), (36, .if_icmp .ge 38, 39, 74, 0), (39, .aload_n 0, 40, 0, 0), (40, .iload_n 1, 41, 0, 0), (41, .iload 6, 43, 0, 0),
  (43, .iadd, 44, 0, 0), (44, .invokevirtual 303, 47, 0, 0), (47, .aload_n 0, 48, 0, 0), (48, .invokevirtual 252, 51, 0, 0), (51, .lload 4, 53, 0, 0), (53, .aload_n 0, 54, 0, 0), (54, .invokevirtual 255, 57, 0, 0), (57, .ifCond .ne 7, 60, 64, 0),
  (60, .lconst 1, 61, 0, 0), (61, .goto 4, 64, 65, 0), (64, .lconst 0, 65, 0, 0), (65, .ladd, 66, 0, 0), (66, .lstore 4, 68, 0, 0), (68, .iinc 6 1, 71, 0, 1), (71, .goto (-38), 74, 33, 0), (74, .aload_n 0, 75, 0, 0),
  (75, .invokevirtual 287, 78, 0, 0), (78, .lload 4, 80, 0, 0), (80, .iload_n 2, 81, 0, 0), (81, .i2l, 82, 0, 0), (82, .invokestatic 308, 85, 0, 0), (85, .lstore 6, 87, 0, 0), (87, .iload_n 3, 88, 0, 0), (88, .ifCond .ne 11, 91, 99, 0),
  (91, .lload 4, 93, 0, 0), (93, .lload 6, 95, 0, 0), (95, .ldiv, 96, 0, 0), (96, .goto 8, 99, 104, 0), (99, .iload_n 2, 100, 0, 0), (100, .i2l, 101, 0, 0), (101, .lload 6, 103, 0, 0), (103, .ldiv, 104, 0, 0),
  (104, .lreturn, 105, 0, 0)]
abbrev M_X11_chance : MI := (yX11_chance, cX11_chance, 8, (some .long), 11, P_X11_chance)
theorem ok_X11_chance : okP 11 cX11_chance P_X11_chance = true := by decide +kernel
def P_X11_move : List PE := [(0, .iconst 0, 1, 0, 0), (1, .istore 5, 3, 0, 0), (3, .iload 5, 5, 0, 0), (5, .iload 4, 7, 0, 0), (7, .if_icmp .ge 21, 10, 28, 0), (10, .aload_n 2, 11, 0, 0), (11, .iload_n 3, 12, 0, 0), (12, .iload 5, 14, 0, 0),
  (14, .iadd, 15, 0, 0), (15, .aload_n 0, 16, 0, 0), (16, .iload_n 1, 17, 0, 0), (17, .iload 5, 19, 0, 0), (19, .iadd, 20, 0, 0), (20, .iaload, 21, 0, 0), (21, .iastore, 22, 0, 0), (22, .iinc 5 1, 25, 0, 1),
  (25, .goto (-22), 28, 3, 0), (28, .return_, 29, 0, 0)]
abbrev M_X11_move : MI := (yX11_move, cX11_move, 6, none, 11, P_X11_move)
theorem ok_X11_move : okP 11 cX11_move P_X11_move = true := by decide +kernel
def P_X11_image : List PE := [(0, .aload_n 0, 1, 0, 0), (1, .iconst 1, 2, 0, 1), (2, .putfield 312, 5, 0, 0), (5, .aload_n 0, 6, 0, 0), (6, .getfield 205, 9, 0, 0), (9, .iconst 0, 10, 0, 0), (10, .aload_n 0, 11, 0, 0), (11, .getfield 55, 14, 0, 0),
  (14, .iastore, 15, 0, 0), (15, .aload_n 0, 16, 0, 0), (16, .getfield 205, 19, 0, 0), (19, .iconst 1, 20, 0, 1), (20, .aload_n 0, 21, 0, 0), (21, .getfield 1, 24, 0, 0), (24, .iastore, 25, 0, 0), (25, .aload_n 0, 26, 0, 0),
  (26, .getfield 205, 29, 0, 0), (29, .iconst 2, 30, 0, 2), (30, .aload_n 0, 31, 0, 0), (31, .getfield 11, 34, 0, 0), (34, .iastore, 35, 0, 0), (35, .aload_n 0, 36, 0, 0), (36, .getfield 205, 39, 0, 0), (39, .iconst 3, 40, 0, 3),
  (40, .aload_n 0, 41, 0, 0), (41, .getfield 49, 44, 0, 0), (44, .iastore, 45, 0, 0), (45, .aload_n 0, 46, 0, 0), (46, .getfield 205, 49, 0, 0), (49, .iconst 4, 50, 0, 4), (50, .aload_n 0, 51, 0, 0), (51, .getfield 175, 54, 0, 0),
  (54, .iastore, 55, 0, 0), (55, .aload_n 0, 56, 0, 0), (56, .getfield 28, 59, 0, 0), (59, .iconst 0, 60, 0, 0), (60, .aload_n 0, 61, 0, 0), (61, .getfield 205, 64, 0, 0), (64, .bipush 10, 66, 0, 10), (66, .bipush 80, 68, 0, 80),
  (68, .invokestatic 316, 71, 0, 0), (71, .aload_n 0, 72, 0, 0), (72, .getfield 31, 75, 0, 0), (75, .iconst 0, 76, 0, 0), (76, .aload_n 0, 77, 0, 0), (77, .getfield 205, 80, 0, 0), (80, .bipush 90, 82, 0, 90), (82, .bipush 8, 84, 0, 8),
  (84, .invokestatic 316, 87, 0, 0), (87, .aload_n 0, 88, 0, 0), (88, .getfield 34, 91, 0, 0), (91, .iconst 0, 92, 0, 0), (92, .aload_n 0, 93, 0, 0), (93, .getfield 205, 96, 0, 0), (96, .bipush 98, 98, 0, 98), (98, .bipush 8, 100, 0, 8),
  (100, .invokestatic 316, 103, 0, 0), (103, .aload_n 0, 104, 0, 0), (104, .getfield 40, 107, 0, 0), (107, .iconst 0, 108, 0, 0), (108, .aload_n 0, 109, 0, 0), (109, .getfield 205, 112, 0, 0), (112, .bipush 106, 114, 0, 106), (114, .bipush 6, 116, 0, 6),
  (116, .invokestatic 316, 119, 0, 0), (119, .aload_n 0, 120, 0, 0), (120, .getfield 43, 123, 0, 0), (123, .iconst 0, 124, 0, 0), (124, .aload_n 0, 125, 0, 0), (125, .getfield 205, 128, 0, 0), (128, .bipush 112, 130, 0, 112), (130, .bipush 6, 132, 0, 6),
  (132, .invokestatic 316, 135, 0, 0), (135, .aload_n 0, 136, 0, 0), (136, .getfield 52, 139, 0, 0), (139, .iconst 0, 140, 0, 0), (140, .aload_n 0, 141, 0, 0), (141, .getfield 205, 144, 0, 0), (144, .bipush 118, 146, 0, 118), (146, .bipush 8, 148, 0, 8),
  (148, .invokestatic 316, 151, 0, 0), (151, .aload_n 0, 152, 0, 0), (152, .getfield 1, 155, 0, 0), (155, .ireturn, 156, 0, 0)]
abbrev M_X11_image : MI := (yX11_image, cX11_image, 1, (some .int), 11, P_X11_image)
theorem ok_X11_image : okP 11 cX11_image P_X11_image = true := by decide +kernel
def P_X11_back : List PE := [(0, .aload_n 0, 1, 0, 0), (1, .getfield 312, 4, 0, 0), (4, .ifCond .ne 6, 7, 10, 0), (7, .bipush (-3), 9, 0, (-3)), (9, .ireturn, 10, 0, 0), (10, .aload_n 0, 11, 0, 0), (11, .aload_n 0, 12, 0, 0), (12, .getfield 205, 15, 0, 0),
  (15, .iconst 0, 16, 0, 0), (16, .iaload, 17, 0, 0), (17, .putfield 55, 20, 0, 0), (20, .aload_n 0, 21, 0, 0), (21, .aload_n 0, 22, 0, 0), (22, .getfield 205, 25, 0, 0), (25, .iconst 1, 26, 0, 1), (26, .iaload, 27, 0, 0),
  (27, .putfield 1, 30, 0, 0), (30, .aload_n 0, 31, 0, 0), (31, .aload_n 0, 32, 0, 0), (32, .getfield 205, 35, 0, 0), (35, .iconst 2, 36, 0, 2), (36, .iaload, 37, 0, 0), (37, .putfield 11, 40, 0, 0), (40, .aload_n 0, 41, 0, 0),
  (41, .aload_n 0, 42, 0, 0), (42, .getfield 205, 45, 0, 0), (45, .iconst 3, 46, 0, 3), (46, .iaload, 47, 0, 0), (47, .putfield 49, 50, 0, 0), (50, .aload_n 0, 51, 0, 0), (51, .aload_n 0, 52, 0, 0), (52, .getfield 205, 55, 0, 0),
  (55, .iconst 4, 56, 0, 4), (56, .iaload, 57, 0, 0), (57, .putfield 175, 60, 0, 0), (60, .aload_n 0, 61, 0, 0), (61, .getfield 205, 64, 0, 0), (64, .bipush 10, 66, 0, 10), (66, .aload_n 0, 67, 0, 0), (67, .getfield 28, 70, 0, 0),
  (70, .iconst 0, 71, 0, 0), (71, .bipush 80, 73, 0, 80), (73, .invokestatic 316, 76, 0, 0), (76, .aload_n 0, 77, 0, 0), (77, .getfield 205, 80, 0, 0), (80, .bipush 90, 82, 0, 90), (82, .aload_n 0, 83, 0, 0), (83, .getfield 31, 86, 0, 0),
  (86, .iconst 0, 87, 0, 0), (87, .bipush 8, 89, 0, 8), (89, .invokestatic 316, 92, 0, 0), (92, .aload_n 0, 93, 0, 0), (93, .getfield 205, 96, 0, 0), (96, .bipush 98, 98, 0, 98), (98, .aload_n 0, 99, 0, 0), (99, .getfield 34, 102, 0, 0),
  (102, .iconst 0, 103, 0, 0), (103, .bipush 8, 105, 0, 8), (105, .invokestatic 316, 108, 0, 0), (108, .aload_n 0, 109, 0, 0), (109, .getfield 205, 112, 0, 0), (112, .bipush 106, 114, 0, 106), (114, .aload_n 0, 115, 0, 0), (115, .getfield 40, 118, 0, 0),
  (118, .iconst 0, 119, 0, 0), (119, .bipush 6, 121, 0, 6), (121, .invokestatic 316, 124, 0, 0), (124, .aload_n 0, 125, 0, 0), (125, .getfield 205, 128, 0, 0), (128, .bipush 112, 130, 0, 112), (130, .aload_n 0, 131, 0, 0), (131, .getfield 43, 134, 0, 0),
  (134, .iconst 0, 135, 0, 0), (135, .bipush 6, 137, 0, 6), (137, .invokestatic 316, 140, 0, 0), (140, .aload_n 0, 141, 0, 0), (141, .getfield 205, 144, 0, 0), (144, .bipush 118, 146, 0, 118), (146, .aload_n 0, 147, 0, 0), (147, .getfield 52, 150, 0, 0),
  (150, .iconst 0, 151, 0, 0), (151, .bipush 8, 153, 0, 8), (153, .invokestatic 316, 156, 0, 0), (156, .aload_n 0, 157, 0, 0), (157, .getfield 1, 160, 0, 0), (160, .ireturn, 161, 0, 0)]
abbrev M_X11_back : MI := (yX11_back, cX11_back, 1, (some .int), 11, P_X11_back)
theorem ok_X11_back : okP 11 cX11_back P_X11_back = true := by decide +kernel
def P_X11_count : List PE := [(0, .iload_n 1, 1, 0, 0), (1, .tableswitch 69 0 5 #[39, 44, 49, 54, 59, 64], 40, 0, 0), (40, .aload_n 0, 41, 0, 0), (41, .getfield 1, 44, 0, 0), (44, .ireturn, 45, 0, 0), (45, .aload_n 0, 46, 0, 0), (46, .getfield 11, 49, 0, 0), (49, .ireturn, 50, 0, 0),
  (50, .aload_n 0, 51, 0, 0), (51, .getfield 49, 54, 0, 0), (54, .ireturn, 55, 0, 0), (55, .aload_n 0, 56, 0, 0), (56, .getfield 169, 59, 0, 0), (59, .ireturn, 60, 0, 0), (60, .aload_n 0, 61, 0, 0), (61, .getfield 66, 64, 0, 0),
  (64, .ireturn, 65, 0, 0), (65, .aload_n 0, 66, 0, 0), (66, .getfield 175, 69, 0, 0), (69, .ireturn, 70, 0, 0), (70, .bipush (-2), 72, 0, (-2)), (72, .ireturn, 73, 0, 0)]
abbrev M_X11_count : MI := (yX11_count, cX11_count, 2, (some .int), 11, P_X11_count)
theorem ok_X11_count : okP 11 cX11_count P_X11_count = true := by decide +kernel
def P_X11_isSheet : List PE := [(0, .iload_n 0, 1, 0, 0), (1, .iconst 0, 2, 0, 0), (2, .iconst 3, 3, 0, 3), (3, .invokestatic 7, 6, 0, 0), (6, .ireturn, 7, 0, 0)]
abbrev M_X11_isSheet : MI := (yX11_isSheet, cX11_isSheet, 1, (some .boolean), 11, P_X11_isSheet)
theorem ok_X11_isSheet : okP 11 cX11_isSheet P_X11_isSheet = true := by decide +kernel
def P_X11_sheet : List PE := [(0, .iload_n 1, 1, 0, 0), (1, .invokestatic 14, 4, 0, 0), (4, .ifCond .eq 22, 7, 26, 0), (7, .iload_n 2, 8, 0, 0), (8, .iconst (-1), 9, 0, (-1)), (9, .iconst 2, 10, 0, 2), (10, .invokestatic 7, 13, 0, 0), (13, .ifCond .eq 13, 16, 26, 0),
  (16, .iload_n 2, 17, 0, 0), (17, .ifCond .lt 12, 20, 29, 0), (20, .iload_n 3, 21, 0, 0), (21, .bipush 40, 23, 0, 40), (23, .if_icmp .le 6, 26, 29, 0), (26, .bipush (-2), 28, 0, (-2)), (28, .ireturn, 29, 0, 0), (29, .iload_n 2, 30, 0, 0),
  (30, .ifCond .lt 10, 33, 40, 0), (33, .iload_n 3, 34, 0, 0), (34, .ifCond .ge 6, 37, 40, 0), (37, .bipush (-14), 39, 0, (-14)), (39, .ireturn, 40, 0, 0), (40, .aload_n 0, 41, 0, 0), (41, .getfield 18, 44, 0, 0), (44, .iload_n 1, 45, 0, 0),
  (45, .iload_n 2, 46, 0, 0), (46, .iastore, 47, 0, 0), (47, .aload_n 0, 48, 0, 0), (48, .getfield 22, 51, 0, 0), (51, .iload_n 1, 52, 0, 0), (52, .iload_n 2, 53, 0, 0), (53, .ifCond .ge 7, 56, 60, 0), (56, .iconst 0, 57, 0, 0),
  (57, .goto 4, 60, 61, 0), (60, .iload_n 3, 61, 0, 0), (61, .iastore, 62, 0, 0), (62, .iconst 0, 63, 0, 0), (63, .istore 4, 65, 0, 0), (65, .iload 4, 67, 0, 0), (67, .bipush 40, 69, 0, 40), (69, .if_icmp .ge 22, 72, 91, 0),
  (72, .aload_n 0, 73, 0, 0), (73, .getfield 25, 76, 0, 0), (76, .bipush 40, 78, 0, 40), (78, .iload_n 1, 79, 0, 0), (79, .imul, 80, 0, 0), (80, .iload 4, 82, 0, 0), (82, .iadd, 83, 0, 0), (83, .iconst 0, 84, 0, 0),
  (84, .iastore, 85, 0, 0), (85, .iinc 4 1, 88, 0, 1), (88, .goto (-23), 91, 65, 0), (91, .iconst 1, 92, 0, 1), (92, .ireturn, 93, 0, 0)]
abbrev M_X11_sheet : MI := (yX11_sheet, cX11_sheet, 5, (some .int), 11, P_X11_sheet)
theorem ok_X11_sheet : okP 11 cX11_sheet P_X11_sheet = true := by decide +kernel
def P_X11_cell : List PE := [(0, .iload_n 1, 1, 0, 0), (1, .invokestatic 14, 4, 0, 0), (4, .ifCond .ne 6, 7, 10, 0), (7, .bipush (-2), 9, 0, (-2)), (9, .ireturn, 10, 0, 0), (10, .aload_n 0, 11, 0, 0), (11, .getfield 18, 14, 0, 0), (14, .iload_n 1, 15, 0, 0),
  (15, .iaload, 16, 0, 0), (16, .ifCond .ge 6, 19, 22, 0), (19, .bipush (-11), 21, 0, (-11)), (21, .ireturn, 22, 0, 0), (22, .iload_n 2, 23, 0, 0), (23, .iconst 0, 24, 0, 0), (24, .aload_n 0, 25, 0, 0), (25, .getfield 22, 28, 0, 0),
  (28, .iload_n 1, 29, 0, 0), (29, .iaload, 30, 0, 0), (30, .iconst 1, 31, 0, 1), (31, .isub, 32, 0, 0), (32, .invokestatic 7, 35, 0, 0), (35, .ifCond .ne 6, 38, 41, 0), (38, .bipush (-12), 40, 0, (-12)), (40, .ireturn, 41, 0, 0),
  (41, .aload_n 0, 42, 0, 0), (42, .getfield 25, 45, 0, 0), (45, .bipush 40, 47, 0, 40), (47, .iload_n 1, 48, 0, 0), (48, .imul, 49, 0, 0), (49, .iload_n 2, 50, 0, 0), (50, .iadd, 51, 0, 0), (51, .aload_n 0, 52, 0, 0),
  (52, .getfield 18, 55, 0, 0), (55, .iload_n 1, 56, 0, 0), (56, .iaload, 57, 0, 0), (57, .ifCond .ne 8, 60, 65, 0), (60, .iload_n 3, 61, 0, 0), (61, .i2b, 62, 0, 0), (62, .goto 19, 65, 81, 0), (65, .aload_n 0, 66, 0, 0),
  (66, .getfield 18, 69, 0, 0), (69, .iload_n 1, 70, 0, 0), (70, .iaload, 71, 0, 0), (71, .iconst 1, 72, 0, 1), (72, .if_icmp .ne 8, 75, 80, 0), (75, .iload_n 3, 76, 0, 0), (76, .i2s, 77, 0, 0), (77, .goto 4, 80, 81, 0),
  (80, .iload_n 3, 81, 0, 0), (81, .iastore, 82, 0, 0), (82, .iconst 1, 83, 0, 1), (83, .ireturn, 84, 0, 0)]
abbrev M_X11_cell : MI := (yX11_cell, cX11_cell, 4, (some .int), 11, P_X11_cell)
theorem ok_X11_cell : okP 11 cX11_cell P_X11_cell = true := by decide +kernel
def P_X11_copy : List PE := [(0, .iload_n 1, 1, 0, 0), (1, .invokestatic 14, 4, 0, 0), (4, .ifCond .eq 10, 7, 14, 0), (7, .iload_n 3, 8, 0, 0), (8, .invokestatic 14, 11, 0, 0), (11, .ifCond .ne 6, 14, 17, 0), (14, .bipush (-2), 16, 0, (-2)), (16, .ireturn, 17, 0, 0),
  (17, .aload_n 0, 18, 0, 0), (18, .getfield 18, 21, 0, 0), (21, .iload_n 1, 22, 0, 0), (22, .iaload, 23, 0, 0), (23, .ifCond .lt 12, 26, 35, 0), (26, .aload_n 0, 27, 0, 0), (27, .getfield 18, 30, 0, 0), (30, .iload_n 3, 31, 0, 0),
  (31, .iaload, 32, 0, 0), (32, .ifCond .ge 6, 35, 38, 0), (35, .bipush (-11), 37, 0, (-11)), (37, .ireturn, 38, 0, 0), (38, .aload_n 0, 39, 0, 0), (39, .getfield 18, 42, 0, 0), (42, .iload_n 1, 43, 0, 0), (43, .iaload, 44, 0, 0),
  (44, .aload_n 0, 45, 0, 0), (45, .getfield 18, 48, 0, 0), (48, .iload_n 3, 49, 0, 0), (49, .iaload, 50, 0, 0), (50, .if_icmp .eq 6, 53, 56, 0), (53, .bipush (-13), 55, 0, (-13)), (55, .ireturn, 56, 0, 0), (56, .iload 5, 58, 0, 0),
  (58, .ifCond .lt 39, 61, 97, 0), (61, .iload_n 2, 62, 0, 0), (62, .ifCond .lt 35, 65, 97, 0), (65, .iload 4, 67, 0, 0), (67, .ifCond .lt 30, 70, 97, 0), (70, .iload 5, 72, 0, 0), (72, .aload_n 0, 73, 0, 0), (73, .getfield 22, 76, 0, 0),
  (76, .iload_n 1, 77, 0, 0), (77, .iaload, 78, 0, 0), (78, .iload_n 2, 79, 0, 0), (79, .isub, 80, 0, 0), (80, .if_icmp .gt 17, 83, 97, 0), (83, .iload 5, 85, 0, 0), (85, .aload_n 0, 86, 0, 0), (86, .getfield 22, 89, 0, 0),
  (89, .iload_n 3, 90, 0, 0), (90, .iaload, 91, 0, 0), (91, .iload 4, 93, 0, 0), (93, .isub, 94, 0, 0), (94, .if_icmp .le 6, 97, 100, 0), (97, .bipush (-12), 99, 0, (-12)), (99, .ireturn, 100, 0, 0), (100, .iconst 0, 101, 0, 0),
  (101, .istore 6, 103, 0, 0), (103, .iload 6, 105, 0, 0), (105, .iload 5, 107, 0, 0), (107, .if_icmp .ge 30, 110, 137, 0), (110, .aload_n 0, 111, 0, 0), (111, .getfield 208, 114, 0, 0), (114, .iload 6, 116, 0, 0), (116, .aload_n 0, 117, 0, 0),
  (117, .getfield 25, 120, 0, 0), (120, .bipush 40, 122, 0, 40), (122, .iload_n 1, 123, 0, 0), (123, .imul, 124, 0, 0), (124, .iload_n 2, 125, 0, 0), (125, .iadd, 126, 0, 0), (126, .iload 6, 128, 0, 0), (128, .iadd, 129, 0, 0),
  (129, .iaload, 130, 0, 0), (130, .iastore, 131, 0, 0), (131, .iinc 6 1, 134, 0, 1), (134, .goto (-31), 137, 103, 0), (137, .iconst 0, 138, 0, 0), (138, .istore 6, 140, 0, 0), (140, .iload 6, 142, 0, 0), (142, .iload 5, 144, 0, 0),
  (144, .if_icmp .ge 31, 147, 175, 0), (147, .aload_n 0, 148, 0, 0), (148, .getfield 25, 151, 0, 0), (151, .bipush 40, 153, 0, 40), (153, .iload_n 3, 154, 0, 0), (154, .imul, 155, 0, 0), (155, .iload 4, 157, 0, 0), (157, .iadd, 158, 0, 0),
  (158, .iload 6, 160, 0, 0), (160, .iadd, 161, 0, 0), (161, .aload_n 0, 162, 0, 0), (162, .getfield 208, 165, 0, 0), (165, .iload 6, 167, 0, 0), (167, .iaload, 168, 0, 0), (168, .iastore, 169, 0, 0), (169, .iinc 6 1, 172, 0, 1),
  (172, .goto (-32), 175, 140, 0), (175, .iload 5, 177, 0, 0), (177, .ireturn, 178, 0, 0)]
abbrev M_X11_copy : MI := (yX11_copy, cX11_copy, 7, (some .int), 11, P_X11_copy)
theorem ok_X11_copy : okP 11 cX11_copy P_X11_copy = true := by decide +kernel
def P_X11_rules : List PE := [(0, .iload_n 1, 1, 0, 0), (1, .invokestatic 14, 4, 0, 0), (4, .ifCond .eq 23, 7, 27, 0), (7, .iload_n 2, 8, 0, 0), (8, .iconst 0, 9, 0, 0), (9, .iconst 2, 10, 0, 2), (10, .invokestatic 7, 13, 0, 0), (13, .ifCond .eq 14, 16, 27, 0),
  (16, .iload 4, 18, 0, 0), (18, .iconst 0, 19, 0, 0), (19, .bipush 6, 21, 0, 6), (21, .invokestatic 7, 24, 0, 0), (24, .ifCond .ne 6, 27, 30, 0), (27, .bipush (-2), 29, 0, (-2)), (29, .ireturn, 30, 0, 0), (30, .aload_n 0, 31, 0, 0),
  (31, .getfield 18, 34, 0, 0), (34, .iload_n 1, 35, 0, 0), (35, .iaload, 36, 0, 0), (36, .ifCond .ge 6, 39, 42, 0), (39, .bipush (-11), 41, 0, (-11)), (41, .ireturn, 42, 0, 0), (42, .aload_n 0, 43, 0, 0), (43, .getfield 18, 46, 0, 0),
  (46, .iload_n 1, 47, 0, 0), (47, .iaload, 48, 0, 0), (48, .iload_n 2, 49, 0, 0), (49, .if_icmp .eq 6, 52, 55, 0), (52, .bipush (-13), 54, 0, (-13)), (54, .ireturn, 55, 0, 0), (55, .iconst 0, 56, 0, 0), (56, .istore 5, 58, 0, 0),
  (58, .iconst 0, 59, 0, 0), (59, .istore 6, 61, 0, 0), (61, .iload 6, 63, 0, 0), (63, .iload 4, 65, 0, 0), (65, .if_icmp .ge 100, 68, 165, 0), (68, .iload_n 3, 69, 0, 0), (69, .i2l, 70, 0, 0), (70, .ldc2_w 320, 73, 0, 0),
  (73, .iload 6, 75, 0, 0), (75, .i2l, 76, 0, 0), (76, .lmul, 77, 0, 0), (77, .ladd, 78, 0, 0), (78, .lstore 7, 80, 0, 0), (80, .lload 7, 82, 0, 0), (82, .lconst 0, 83, 0, 0), (83, .lcmp, 84, 0, 0),
  (84, .ifCond .lt 20, 87, 104, 0), (87, .lload 7, 89, 0, 0), (89, .ldc2_w 322, 92, 0, 0), (92, .ladd, 93, 0, 0), (93, .aload_n 0, 94, 0, 0), (94, .getfield 22, 97, 0, 0), (97, .iload_n 1, 98, 0, 0), (98, .iaload, 99, 0, 0),
  (99, .i2l, 100, 0, 0), (100, .lcmp, 101, 0, 0), (101, .ifCond .lt 6, 104, 107, 0), (104, .bipush (-12), 106, 0, (-12)), (106, .ireturn, 107, 0, 0), (107, .bipush 40, 109, 0, 40), (109, .iload_n 1, 110, 0, 0), (110, .imul, 111, 0, 0),
  (111, .lload 7, 113, 0, 0), (113, .l2i, 114, 0, 0), (114, .iadd, 115, 0, 0), (115, .istore 9, 117, 0, 0), (117, .iload 5, 119, 0, 0), (119, .aload_n 0, 120, 0, 0), (120, .aload_n 0, 121, 0, 0), (121, .getfield 25, 124, 0, 0),
  (124, .iload 9, 126, 0, 0), (126, .iaload, 127, 0, 0), (127, .aload_n 0, 128, 0, 0), (128, .getfield 25, 131, 0, 0), (131, .iload 9, 133, 0, 0), (133, .iconst 1, 134, 0, 1), (134, .iadd, 135, 0, 0), (135, .iaload, 136, 0, 0),
  (136, .aload_n 0, 137, 0, 0), (137, .getfield 25, 140, 0, 0), (140, .iload 9, 142, 0, 0), (142, .iconst 2, 143, 0, 2), (143, .iadd, 144, 0, 0), (144, .iaload, 145, 0, 0), (145, .invokevirtual 324, 148, 0, 0), (148, .ifCond .lt 7, 151, 155, 0),
  (151, .iconst 1, 152, 0, 1), (152, .goto 4, 155, 156, 0), (155, .iconst 0, 156, 0, 0), (156, .iadd, 157, 0, 0), (157, .istore 5, 159, 0, 0), (159, .iinc 6 1, 162, 0, 1), (162, .goto (-101), 165, 61, 0), (165, .iload 5, 167, 0, 0),
  (167, .ireturn, 168, 0, 0)]
abbrev M_X11_rules : MI := (yX11_rules, cX11_rules, 10, (some .int), 11, P_X11_rules)
theorem ok_X11_rules : okP 11 cX11_rules P_X11_rules = true := by decide +kernel
def P_X11_taken : List PE := [(0, .iload_n 2, 1, 0, 0), (1, .iconst 0, 2, 0, 0), (2, .iconst 5, 3, 0, 5), (3, .invokestatic 7, 6, 0, 0), (6, .ifCond .ne 6, 9, 12, 0), (9, .bipush (-2), 11, 0, (-2)), (11, .ireturn, 12, 0, 0), (12, .aload_n 0, 13, 0, 0),
  (13, .iload_n 1, 14, 0, 0), (14, .invokevirtual 46, 17, 0, 0), (17, .ifCond .ne 6, 20, 23, 0), (20, .bipush (-11), 22, 0, (-11)), (22, .ireturn, 23, 0, 0), (23, .aload_n 0, 24, 0, 0), (24, .getfield 37, 27, 0, 0), (27, .iload_n 1, 28, 0, 0),
  (28, .iaload, 29, 0, 0), (29, .istore_n 3, 30, 0, 0), (30, .iload_n 2, 31, 0, 0), (31, .ifCond .eq 28, 34, 59, 0), (34, .iload_n 2, 35, 0, 0), (35, .iload_n 3, 36, 0, 0), (36, .if_icmp .eq 23, 39, 59, 0), (39, .iload_n 2, 40, 0, 0),
  (40, .iconst 1, 41, 0, 1), (41, .if_icmp .ne 8, 44, 49, 0), (44, .iload_n 3, 45, 0, 0), (45, .iconst 3, 46, 0, 3), (46, .if_icmp .eq 13, 49, 59, 0), (49, .iload_n 2, 50, 0, 0), (50, .iconst 2, 51, 0, 2), (51, .if_icmp .ne 17, 54, 68, 0),
  (54, .iload_n 3, 55, 0, 0), (55, .iconst 4, 56, 0, 4), (56, .if_icmp .ne 12, 59, 68, 0), (59, .aload_n 0, 60, 0, 0), (60, .getfield 43, 63, 0, 0), (63, .iload_n 1, 64, 0, 0), (64, .iaload, 65, 0, 0), (65, .goto 5, 68, 70, 0),
  (68, .bipush (-13), 70, 0, (-13)), (70, .ireturn, 71, 0, 0)]
abbrev M_X11_taken : MI := (yX11_taken, cX11_taken, 4, (some .int), 11, P_X11_taken)
theorem ok_X11_taken : okP 11 cX11_taken P_X11_taken = true := by decide +kernel
