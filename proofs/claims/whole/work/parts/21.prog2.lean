def P_X10_learn : List PE := [(0, .iload_n 1, 1, 0, 0), (1, .invokestatic 109, 4, 0, 0), (4, .ifCond .eq 12, 7, 16, 0), (7, .iload_n 2, 8, 0, 0), (8, .bipush 99, 10, 0, 99), (10, .invokestatic 113, 13, 0, 0), (13, .ifCond .ne 6, 16, 19, 0), (16, .bipush (-2), 18, 0, (-2)),
  (18, .ireturn, 19, 0, 0), (19, .aload_n 0, 20, 0, 0), (20, .getfield 41, 23, 0, 0), (23, .iload_n 1, 24, 0, 0), (24, .aaload, 25, 0, 0), (25, .astore_n 3, 26, 0, 0), (26, .aload_n 3, 27, 0, 0), (27, .invokevirtual 117, 30, 0, 0),
  (30, .ifCond .eq 6, 33, 36, 0), (33, .bipush (-11), 35, 0, (-11)), (35, .ireturn, 36, 0, 0), (36, .aload_n 3, 37, 0, 0), (37, .invokevirtual 121, 40, 0, 0), (40, .ifCond .ne 6, 43, 46, 0), (43, .bipush (-2), 45, 0, (-2)), (45, .ireturn, 46, 0, 0),
  (46, .aload_n 0, 47, 0, 0), (47, .getfield 10, 50, 0, 0), (50, .getfield 124, 53, 0, 0), (53, .bipush 8, 55, 0, 8), (55, .if_icmp .ne 8, 58, 63, 0), (58, .bipush (-4), 60, 0, (-4)), (60, .goto 12, 63, 72, 0), (63, .aload_n 0, 64, 0, 0),
  (64, .getfield 10, 67, 0, 0), (67, .aload_n 3, 68, 0, 0), (68, .iload_n 2, 69, 0, 0), (69, .invokevirtual 127, 72, 0, 0), (72, .ireturn, 73, 0, 0)]
abbrev M_X10_learn : MI := (yX10_learn, cX10_learn, 4, (some .int), 10, P_X10_learn)
theorem ok_X10_learn : okP 10 cX10_learn P_X10_learn = true := by decide +kernel
def P_X10_rule : List PE := [(0, .iload_n 1, 1, 0, 0), (1, .iload_n 2, 2, 0, 0), (2, .iload_n 3, 3, 0, 0), (3, .invokestatic 131, 6, 0, 0), (6, .ifCond .ne 6, 9, 12, 0), (9, .bipush (-2), 11, 0, (-2)), (11, .ireturn, 12, 0, 0), (12, .aload_n 0, 13, 0, 0),
  (13, .getfield 10, 16, 0, 0), (16, .getfield 135, 19, 0, 0), (19, .bipush 6, 21, 0, 6), (21, .if_icmp .ne 8, 24, 29, 0), (24, .bipush (-4), 26, 0, (-4)), (26, .goto 13, 29, 39, 0), (29, .aload_n 0, 30, 0, 0), (30, .getfield 10, 33, 0, 0),
  (33, .iload_n 1, 34, 0, 0), (34, .iload_n 2, 35, 0, 0), (35, .iload_n 3, 36, 0, 0), (36, .invokevirtual 138, 39, 0, 0), (39, .ireturn, 40, 0, 0)]
abbrev M_X10_rule : MI := (yX10_rule, cX10_rule, 4, (some .int), 10, P_X10_rule)
theorem ok_X10_rule : okP 10 cX10_rule P_X10_rule = true := by decide +kernel
def P_X10_then : List PE := [(0, .aload_n 0, 1, 0, 0), (1, .getfield 10, 4, 0, 0), (4, .iload_n 1, 5, 0, 0), (5, .invokevirtual 142, 8, 0, 0), (8, .ifCond .ne 6, 11, 14, 0), (11, .bipush (-2), 13, 0, (-2)), (13, .ireturn, 14, 0, 0), (14, .aload_n 0, 15, 0, 0),
  (15, .getfield 10, 18, 0, 0), (18, .getfield 145, 21, 0, 0), (21, .getfield 148, 24, 0, 0), (24, .bipush 8, 26, 0, 8), (26, .if_icmp .ne 6, 29, 32, 0), (29, .bipush (-4), 31, 0, (-4)), (31, .ireturn, 32, 0, 0), (32, .aload_n 0, 33, 0, 0),
  (33, .getfield 10, 36, 0, 0), (36, .getfield 145, 39, 0, 0), (39, .iload_n 1, 40, 0, 0), (40, .invokevirtual 149, 43, 0, 0), (43, .aload_n 0, 44, 0, 0), (44, .getfield 10, 47, 0, 0), (47, .getfield 145, 50, 0, 0), (50, .getfield 148, 53, 0, 0),
  (53, .ireturn, 54, 0, 0)]
abbrev M_X10_then : MI := (yX10_then, cX10_then, 2, (some .int), 10, P_X10_then)
theorem ok_X10_then : okP 10 cX10_then P_X10_then = true := by decide +kernel
def P_X10_clear : List PE := [(0, .aload_n 0, 1, 0, 0), (1, .getfield 10, 4, 0, 0), (4, .getfield 145, 7, 0, 0), (7, .getfield 148, 10, 0, 0), (10, .istore_n 1, 11, 0, 0), (11, .aload_n 0, 12, 0, 0), (12, .getfield 10, 15, 0, 0), (15, .getfield 145, 18, 0, 0),
  (18, .iconst 0, 19, 0, 0), (19, .putfield 148, 22, 0, 0), (22, .iload_n 1, 23, 0, 0), (23, .ireturn, 24, 0, 0)]
abbrev M_X10_clear : MI := (yX10_clear, cX10_clear, 2, (some .int), 10, P_X10_clear)
theorem ok_X10_clear : okP 10 cX10_clear P_X10_clear = true := by decide +kernel
def P_X10_set : List PE := [(0, .aload_n 0, 1, 0, 0), (1, .getfield 10, 4, 0, 0), (4, .iload_n 1, 5, 0, 0), (5, .iload_n 2, 6, 0, 0), (6, .invokevirtual 152, 9, 0, 0), (9, .ifCond .eq 15, 12, 24, 0), (12, .aload_n 0, 13, 0, 0), (13, .getfield 10, 16, 0, 0),
  (16, .iload_n 1, 17, 0, 0), (17, .iload_n 3, 18, 0, 0), (18, .invokevirtual 155, 21, 0, 0), (21, .ifCond .ne 6, 24, 27, 0), (24, .bipush (-100), 26, 0, (-100)), (26, .ireturn, 27, 0, 0), (27, .aload_n 0, 28, 0, 0), (28, .getfield 10, 31, 0, 0),
  (31, .iload_n 1, 32, 0, 0), (32, .iload_n 2, 33, 0, 0), (33, .invokevirtual 158, 36, 0, 0), (36, .istore 4, 38, 0, 0), (38, .aload_n 0, 39, 0, 0), (39, .getfield 10, 42, 0, 0), (42, .iload_n 1, 43, 0, 0), (43, .iload_n 2, 44, 0, 0),
  (44, .iload_n 3, 45, 0, 0), (45, .invokevirtual 162, 48, 0, 0), (48, .iload 4, 50, 0, 0), (50, .ireturn, 51, 0, 0)]
abbrev M_X10_set : MI := (yX10_set, cX10_set, 5, (some .int), 10, P_X10_set)
theorem ok_X10_set : okP 10 cX10_set P_X10_set = true := by decide +kernel
def P_X10_told : List PE := [(0, .iload_n 2, 1, 0, 0), (1, .bipush 10, 3, 0, 10), (3, .if_icmp .lt 38, 6, 41, 0), (6, .iload_n 2, 7, 0, 0), (7, .bipush 20, 9, 0, 20), (9, .if_icmp .ge 32, 12, 41, 0), (12, .aload_n 0, 13, 0, 0), (13, .getfield 10, 16, 0, 0),
  (16, .iload_n 1, 17, 0, 0), (17, .invokevirtual 166, 20, 0, 0), (20, .ifCond .eq 18, 23, 38, 0), (23, .aload_n 0, 24, 0, 0), (24, .getfield 10, 27, 0, 0), (27, .iload_n 1, 28, 0, 0), (28, .iload_n 2, 29, 0, 0), (29, .bipush 10, 31, 0, 10),
  (31, .isub, 32, 0, 0), (32, .invokevirtual 169, 35, 0, 0), (35, .goto 5, 38, 40, 0), (38, .bipush (-100), 40, 0, (-100)), (40, .ireturn, 41, 0, 0), (41, .iload_n 2, 42, 0, 0), (42, .lookupswitch 78 #[(5, 26), (6, 52)], 68, 0, 0), (68, .aload_n 0, 69, 0, 0),
  (69, .getfield 10, 72, 0, 0), (72, .iload_n 1, 73, 0, 0), (73, .invokevirtual 142, 76, 0, 0), (76, .ifCond .eq 15, 79, 91, 0), (79, .aload_n 0, 80, 0, 0), (80, .getfield 10, 83, 0, 0), (83, .getfield 172, 86, 0, 0), (86, .iload_n 1, 87, 0, 0),
  (87, .iaload, 88, 0, 0), (88, .goto 5, 91, 93, 0), (91, .bipush (-100), 93, 0, (-100)), (93, .ireturn, 94, 0, 0), (94, .aload_n 0, 95, 0, 0), (95, .getfield 10, 98, 0, 0), (98, .iload_n 1, 99, 0, 0), (99, .invokevirtual 166, 102, 0, 0),
  (102, .ifCond .eq 15, 105, 117, 0), (105, .aload_n 0, 106, 0, 0), (106, .getfield 10, 109, 0, 0), (109, .getfield 176, 112, 0, 0), (112, .iload_n 1, 113, 0, 0), (113, .iaload, 114, 0, 0), (114, .goto 5, 117, 119, 0), (117, .bipush (-100), 119, 0, (-100)),
  (119, .ireturn, 120, 0, 0), (120, .aload_n 0, 121, 0, 0), (121, .getfield 10, 124, 0, 0), (124, .iload_n 2, 125, 0, 0), (125, .iload_n 1, 126, 0, 0), (126, .invokevirtual 152, 129, 0, 0), (129, .ifCond .eq 15, 132, 144, 0), (132, .aload_n 0, 133, 0, 0),
  (133, .getfield 10, 136, 0, 0), (136, .iload_n 2, 137, 0, 0), (137, .iload_n 1, 138, 0, 0), (138, .invokevirtual 158, 141, 0, 0), (141, .goto 5, 144, 146, 0), (144, .bipush (-100), 146, 0, (-100)), (146, .ireturn, 147, 0, 0)]
abbrev M_X10_told : MI := (yX10_told, cX10_told, 3, (some .int), 10, P_X10_told)
theorem ok_X10_told : okP 10 cX10_told P_X10_told = true := by decide +kernel
def P_X10_feed : List PE := [(0, .iload_n 1, 1, 0, 0), (1, .sipush 255, 4, 0, 255), (4, .invokestatic 113, 7, 0, 0), (7, .ifCond .ne 6, 10, 13, 0), (10, .bipush (-2), 12, 0, (-2)), (12, .ireturn, 13, 0, 0), (13, .aload_n 0, 14, 0, 0), (14, .getfield 28, 17, 0, 0),
  (17, .getfield 102, 20, 0, 0), (20, .sipush 160, 23, 0, 160), (23, .if_icmp .ne 6, 26, 29, 0), (26, .bipush (-4), 28, 0, (-4)), (28, .ireturn, 29, 0, 0), (29, .aload_n 0, 30, 0, 0), (30, .getfield 28, 33, 0, 0), (33, .iload_n 1, 34, 0, 0),
  (34, .invokevirtual 94, 37, 0, 0), (37, .aload_n 0, 38, 0, 0), (38, .getfield 28, 41, 0, 0), (41, .getfield 102, 44, 0, 0), (44, .ireturn, 45, 0, 0)]
abbrev M_X10_feed : MI := (yX10_feed, cX10_feed, 2, (some .int), 10, P_X10_feed)
theorem ok_X10_feed : okP 10 cX10_feed P_X10_feed = true := by decide +kernel
def P_X10_text : List PE := [(0, .aload_n 0, 1, 0, 0), (1, .getfield 106, 4, 0, 0), (4, .bipush 6, 6, 0, 6), (6, .if_icmp .ne 6, 9, 12, 0), (9, .bipush (-4), 11, 0, (-4)), (11, .ireturn, 12, 0, 0), (12, .aload_n 0, 13, 0, 0), (13, .getfield 35, 16, 0, 0),
  (16, .aload_n 0, 17, 0, 0), (17, .getfield 28, 20, 0, 0), (20, .aload_n 0, 21, 0, 0), (21, .getfield 21, 24, 0, 0), (24, .aload_n 0, 25, 0, 0), (25, .getfield 106, 28, 0, 0), (28, .aaload, 29, 0, 0), (29, .invokevirtual 98, 32, 0, 0),
  (32, .istore_n 1, 33, 0, 0), (33, .aload_n 0, 34, 0, 0), (34, .getfield 28, 37, 0, 0), (37, .iconst 0, 38, 0, 0), (38, .putfield 102, 41, 0, 0), (41, .iload_n 1, 42, 0, 0), (42, .iconst (-1), 43, 0, (-1)), (43, .if_icmp .eq 8, 46, 51, 0),
  (46, .bipush (-100), 48, 0, (-100)), (48, .iload_n 1, 49, 0, 0), (49, .isub, 50, 0, 0), (50, .ireturn, 51, 0, 0), (51, .aload_n 0, 52, 0, 0), (52, .dup, 53, 0, 0), (53, .getfield 106, 56, 0, 0), (56, .iconst 1, 57, 0, 1),
  (57, .iadd, 58, 0, 0), (58, .putfield 106, 61, 0, 0), (61, .aload_n 0, 62, 0, 0), (62, .getfield 106, 65, 0, 0), (65, .iconst 1, 66, 0, 1), (66, .isub, 67, 0, 0), (67, .ireturn, 68, 0, 0)]
abbrev M_X10_text : MI := (yX10_text, cX10_text, 2, (some .int), 10, P_X10_text)
theorem ok_X10_text : okP 10 cX10_text P_X10_text = true := by decide +kernel
def P_X10_force : List PE := [(0, .iload_n 1, 1, 0, 0), (1, .ifCond .lt 11, 4, 12, 0), (4, .iload_n 1, 5, 0, 0), (5, .aload_n 0, 6, 0, 0), (6, .getfield 106, 9, 0, 0), (9, .if_icmp .lt 6, 12, 15, 0), (12, .bipush (-2), 14, 0, (-2)), (14, .ireturn, 15, 0, 0),
  (15, .aload_n 0, 16, 0, 0), (16, .getfield 10, 19, 0, 0), (19, .getfield 179, 22, 0, 0), (22, .istore_n 2, 23, 0, 0), (23, .aload_n 0, 24, 0, 0), (24, .getfield 10, 27, 0, 0), (27, .iload_n 1, 28, 0, 0), (28, .putfield 179, 31, 0, 0),
  (31, .iload_n 2, 32, 0, 0), (32, .ireturn, 33, 0, 0)]
abbrev M_X10_force : MI := (yX10_force, cX10_force, 3, (some .int), 10, P_X10_force)
theorem ok_X10_force : okP 10 cX10_force P_X10_force = true := by decide +kernel
def P_X10_said : List PE := [(0, .aload_n 0, 1, 0, 0), (1, .getfield 10, 4, 0, 0), (4, .iload_n 1, 5, 0, 0), (5, .invokevirtual 166, 8, 0, 0), (8, .ifCond .eq 10, 11, 18, 0), (11, .iload_n 2, 12, 0, 0), (12, .invokestatic 182, 15, 0, 0), (15, .ifCond .ne 6, 18, 21, 0),
  (18, .bipush (-2), 20, 0, (-2)), (20, .ireturn, 21, 0, 0), (21, .aload_n 0, 22, 0, 0), (22, .getfield 55, 25, 0, 0), (25, .aload_n 0, 26, 0, 0), (26, .getfield 10, 29, 0, 0), (29, .aload_n 0, 30, 0, 0), (30, .getfield 10, 33, 0, 0),
  (33, .getfield 145, 36, 0, 0), (36, .iload_n 1, 37, 0, 0), (37, .invokevirtual 185, 40, 0, 0), (40, .aload_n 0, 41, 0, 0), (41, .getfield 55, 44, 0, 0), (44, .iload_n 2, 45, 0, 0), (45, .invokevirtual 189, 48, 0, 0), (48, .ireturn, 49, 0, 0)]
abbrev M_X10_said : MI := (yX10_said, cX10_said, 3, (some .int), 10, P_X10_said)
theorem ok_X10_said : okP 10 cX10_said P_X10_said = true := by decide +kernel
def P_X10_turned : List PE := [(0, .aload_n 0, 1, 0, 0), (1, .getfield 10, 4, 0, 0), (4, .iload_n 1, 5, 0, 0), (5, .invokevirtual 166, 8, 0, 0), (8, .ifCond .eq 21, 11, 29, 0), (11, .aload_n 0, 12, 0, 0), (12, .getfield 10, 15, 0, 0), (15, .iload_n 2, 16, 0, 0),
  (16, .invokevirtual 142, 19, 0, 0), (19, .ifCond .eq 10, 22, 29, 0), (22, .iload_n 3, 23, 0, 0), (23, .invokestatic 182, 26, 0, 0), (26, .ifCond .ne 6, 29, 32, 0), (29, .bipush (-2), 31, 0, (-2)), (31, .ireturn, 32, 0, 0), (32, .aload_n 0, 33, 0, 0),
  (33, .getfield 55, 36, 0, 0), (36, .aload_n 0, 37, 0, 0), (37, .getfield 10, 40, 0, 0), (40, .iload_n 2, 41, 0, 0), (41, .iload_n 1, 42, 0, 0), (42, .invokevirtual 193, 45, 0, 0), (45, .aload_n 0, 46, 0, 0), (46, .getfield 55, 49, 0, 0),
  (49, .iload_n 3, 50, 0, 0), (50, .invokevirtual 189, 53, 0, 0), (53, .ireturn, 54, 0, 0)]
abbrev M_X10_turned : MI := (yX10_turned, cX10_turned, 4, (some .int), 10, P_X10_turned)
theorem ok_X10_turned : okP 10 cX10_turned P_X10_turned = true := by decide +kernel
def P_X10_of : List PE := [(0, .aload_n 0, 1, 0, 0), (1, .getfield 10, 4, 0, 0), (4, .iload_n 1, 5, 0, 0), (5, .invokevirtual 166, 8, 0, 0), (8, .ifCond .ne 6, 11, 14, 0), (11, .bipush (-2), 13, 0, (-2)), (13, .ireturn, 14, 0, 0), (14, .iload_n 2, 15, 0, 0),
  (15, .tableswitch 52 0 4 #[33, 33, 33, 40, 46], 48, 0, 0), (48, .aload_n 0, 49, 0, 0), (49, .iload_n 1, 50, 0, 0), (50, .iload_n 2, 51, 0, 0), (51, .invokevirtual 197, 54, 0, 0), (54, .ireturn, 55, 0, 0), (55, .aload_n 0, 56, 0, 0), (56, .iload_n 1, 57, 0, 0),
  (57, .invokevirtual 200, 60, 0, 0), (60, .ireturn, 61, 0, 0), (61, .aload_n 0, 62, 0, 0), (62, .iload_n 1, 63, 0, 0), (63, .invokevirtual 203, 66, 0, 0), (66, .ireturn, 67, 0, 0), (67, .bipush (-2), 69, 0, (-2)), (69, .ireturn, 70, 0, 0)]
abbrev M_X10_of : MI := (yX10_of, cX10_of, 3, (some .int), 10, P_X10_of)
theorem ok_X10_of : okP 10 cX10_of P_X10_of = true := by decide +kernel
def P_X10_all : List PE := [(0, .iload_n 1, 1, 0, 0), (1, .tableswitch 130 0 4 #[35, 47, 73, 99, 104], 36, 0, 0), (36, .aload_n 0, 37, 0, 0), (37, .aload_n 0, 38, 0, 0), (38, .getfield 10, 41, 0, 0), (41, .getfield 145, 44, 0, 0), (44, .invokevirtual 206, 47, 0, 0), (47, .ireturn, 48, 0, 0),
  (48, .aload_n 0, 49, 0, 0), (49, .getfield 48, 52, 0, 0), (52, .aload_n 0, 53, 0, 0), (53, .getfield 10, 56, 0, 0), (56, .aload_n 0, 57, 0, 0), (57, .getfield 10, 60, 0, 0), (60, .getfield 145, 63, 0, 0), (63, .invokevirtual 210, 66, 0, 0),
  (66, .aload_n 0, 67, 0, 0), (67, .getfield 48, 70, 0, 0), (70, .invokevirtual 214, 73, 0, 0), (73, .ireturn, 74, 0, 0), (74, .aload_n 0, 75, 0, 0), (75, .getfield 48, 78, 0, 0), (78, .aload_n 0, 79, 0, 0), (79, .getfield 10, 82, 0, 0),
  (82, .aload_n 0, 83, 0, 0), (83, .getfield 10, 86, 0, 0), (86, .getfield 145, 89, 0, 0), (89, .invokevirtual 210, 92, 0, 0), (92, .aload_n 0, 93, 0, 0), (93, .getfield 48, 96, 0, 0), (96, .invokevirtual 217, 99, 0, 0), (99, .ireturn, 100, 0, 0),
  (100, .aload_n 0, 101, 0, 0), (101, .invokevirtual 220, 104, 0, 0), (104, .ireturn, 105, 0, 0), (105, .aload_n 0, 106, 0, 0), (106, .getfield 48, 109, 0, 0), (109, .aload_n 0, 110, 0, 0), (110, .getfield 10, 113, 0, 0), (113, .aload_n 0, 114, 0, 0),
  (114, .getfield 10, 117, 0, 0), (117, .getfield 145, 120, 0, 0), (120, .invokevirtual 210, 123, 0, 0), (123, .aload_n 0, 124, 0, 0), (124, .getfield 48, 127, 0, 0), (127, .invokevirtual 223, 130, 0, 0), (130, .ireturn, 131, 0, 0), (131, .ldc 226, 133, 999, (-100000)),
  (133, .ireturn, 134, 0, 0)]
abbrev M_X10_all : MI := (yX10_all, cX10_all, 2, (some .int), 10, P_X10_all)
theorem ok_X10_all : okP 10 cX10_all P_X10_all = true := by decide +kernel
def P_X10_leave : List PE := [(0, .iload_n 1, 1, 0, 0), (1, .iconst 1, 2, 0, 1), (2, .invokestatic 113, 5, 0, 0), (5, .ifCond .ne 6, 8, 11, 0), (8, .ldc 226, 10, 999, (-100000)), (10, .ireturn, 11, 0, 0), (11, .iconst (-1), 12, 0, (-1)), (12, .istore_n 2, 13, 0, 0),
  (13, .aload_n 0, 14, 0, 0), (14, .aload_n 0, 15, 0, 0), (15, .getfield 10, 18, 0, 0), (18, .getfield 145, 21, 0, 0), (21, .invokevirtual 206, 24, 0, 0), (24, .istore_n 3, 25, 0, 0), (25, .iconst 0, 26, 0, 0), (26, .istore 4, 28, 0, 0),
  (28, .iload 4, 30, 0, 0), (30, .aload_n 0, 31, 0, 0), (31, .getfield 10, 34, 0, 0), (34, .getfield 145, 37, 0, 0), (37, .getfield 148, 40, 0, 0), (40, .if_icmp .ge 47, 43, 87, 0), (43, .aload_n 0, 44, 0, 0), (44, .getfield 62, 47, 0, 0),
  (47, .aload_n 0, 48, 0, 0), (48, .getfield 10, 51, 0, 0), (51, .getfield 145, 54, 0, 0), (54, .iload 4, 56, 0, 0), (56, .invokevirtual 227, 59, 0, 0), (59, .aload_n 0, 60, 0, 0), (60, .aload_n 0, 61, 0, 0), (61, .getfield 62, 64, 0, 0),
  (64, .invokevirtual 206, 67, 0, 0), (67, .istore 5, 69, 0, 0), (69, .iload 5, 71, 0, 0), (71, .iload_n 3, 72, 0, 0), (72, .if_icmp .le 9, 75, 81, 0), (75, .iload 5, 77, 0, 0), (77, .istore_n 3, 78, 0, 0), (78, .iload 4, 80, 0, 0),
  (80, .istore_n 2, 81, 0, 0), (81, .iinc 4 1, 84, 0, 1), (84, .goto (-56), 87, 28, 0), (87, .iload_n 1, 88, 0, 0), (88, .ifCond .ne 7, 91, 95, 0), (91, .iload_n 2, 92, 0, 0), (92, .goto 4, 95, 96, 0), (95, .iload_n 3, 96, 0, 0),
  (96, .ireturn, 97, 0, 0)]
abbrev M_X10_leave : MI := (yX10_leave, cX10_leave, 6, (some .int), 10, P_X10_leave)
theorem ok_X10_leave : okP 10 cX10_leave P_X10_leave = true := by decide +kernel
def P_X10_order : List PE := [(0, .iload_n 1, 1, 0, 0), (1, .iconst 1, 2, 0, 1), (2, .invokestatic 113, 5, 0, 0), (5, .ifCond .ne 6, 8, 11, 0), (8, .ldc 226, 10, 999, (-100000)), (10, .ireturn, 11, 0, 0), (11, .aload_n 0, 12, 0, 0), (12, .getfield 76, 15, 0, 0),
  (15, .aload_n 0, 16, 0, 0), (16, .getfield 10, 19, 0, 0), (19, .aload_n 0, 20, 0, 0), (20, .invokevirtual 231, 23, 0, 0), (23, .invokevirtual 234, 26, 0, 0), (26, .iload_n 1, 27, 0, 0), (27, .ifCond .ne 13, 30, 40, 0), (30, .aload_n 0, 31, 0, 0),
  (31, .getfield 76, 34, 0, 0), (34, .getfield 238, 37, 0, 0), (37, .goto 10, 40, 47, 0), (40, .aload_n 0, 41, 0, 0), (41, .getfield 76, 44, 0, 0), (44, .getfield 241, 47, 0, 0), (47, .ireturn, 48, 0, 0)]
abbrev M_X10_order : MI := (yX10_order, cX10_order, 2, (some .int), 10, P_X10_order)
theorem ok_X10_order : okP 10 cX10_order P_X10_order = true := by decide +kernel
def P_X10_letter : List PE := [(0, .iload_n 2, 1, 0, 0), (1, .iconst 1, 2, 0, 1), (2, .invokestatic 113, 5, 0, 0), (5, .ifCond .eq 14, 8, 19, 0), (8, .aload_n 0, 9, 0, 0), (9, .getfield 10, 12, 0, 0), (12, .iload_n 1, 13, 0, 0), (13, .invokevirtual 142, 16, 0, 0),
  (16, .ifCond .ne 6, 19, 22, 0), (19, .ldc 226, 21, 999, (-100000)), (21, .ireturn, 22, 0, 0), (22, .aload_n 0, 23, 0, 0), (23, .getfield 10, 26, 0, 0), (26, .getfield 244, 29, 0, 0), (29, .iload_n 1, 30, 0, 0), (30, .iaload, 31, 0, 0),
  (31, .istore_n 3, 32, 0, 0), (32, .iconst (-1), 33, 0, (-1)), (33, .istore 4, 35, 0, 0), (35, .iconst 0, 36, 0, 0), (36, .istore 5, 38, 0, 0), (38, .iconst 0, 39, 0, 0), (39, .istore 6, 41, 0, 0), (41, .iload 6, 43, 0, 0),
  (43, .bipush 26, 45, 0, 26), (45, .if_icmp .ge 54, 48, 99, 0), (48, .aload_n 0, 49, 0, 0), (49, .getfield 10, 52, 0, 0), (52, .getfield 244, 55, 0, 0), (55, .iload_n 1, 56, 0, 0), (56, .iload 6, 58, 0, 0), (58, .iastore, 59, 0, 0),
  (59, .aload_n 0, 60, 0, 0), (60, .aload_n 0, 61, 0, 0), (61, .getfield 10, 64, 0, 0), (64, .getfield 145, 67, 0, 0), (67, .invokevirtual 206, 70, 0, 0), (70, .istore 7, 72, 0, 0), (72, .iload 4, 74, 0, 0), (74, .iconst (-1), 75, 0, (-1)),
  (75, .if_icmp .eq 10, 78, 85, 0), (78, .iload 7, 80, 0, 0), (80, .iload 5, 82, 0, 0), (82, .if_icmp .le 11, 85, 93, 0), (85, .iload 7, 87, 0, 0), (87, .istore 5, 89, 0, 0), (89, .iload 6, 91, 0, 0), (91, .istore 4, 93, 0, 0),
  (93, .iinc 6 1, 96, 0, 1), (96, .goto (-55), 99, 41, 0), (99, .aload_n 0, 100, 0, 0), (100, .getfield 10, 103, 0, 0), (103, .getfield 244, 106, 0, 0), (106, .iload_n 1, 107, 0, 0), (107, .iload_n 3, 108, 0, 0), (108, .iastore, 109, 0, 0),
  (109, .iload_n 2, 110, 0, 0), (110, .ifCond .ne 8, 113, 118, 0), (113, .iload 4, 115, 0, 0), (115, .goto 5, 118, 120, 0), (118, .iload 5, 120, 0, 0), (120, .ireturn, 121, 0, 0)]
abbrev M_X10_letter : MI := (yX10_letter, cX10_letter, 8, (some .int), 10, P_X10_letter)
theorem ok_X10_letter : okP 10 cX10_letter P_X10_letter = true := by decide +kernel
def P_X10_heard : List PE := [(0, .iload_n 1, 1, 0, 0), (1, .invokestatic 109, 4, 0, 0), (4, .ifCond .eq 11, 7, 15, 0), (7, .iload_n 2, 8, 0, 0), (8, .iconst 2, 9, 0, 2), (9, .invokestatic 113, 12, 0, 0), (12, .ifCond .ne 6, 15, 18, 0), (15, .bipush (-2), 17, 0, (-2)),
  (17, .ireturn, 18, 0, 0), (18, .aload_n 0, 19, 0, 0), (19, .getfield 41, 22, 0, 0), (22, .iload_n 1, 23, 0, 0), (23, .aaload, 24, 0, 0), (24, .astore_n 3, 25, 0, 0), (25, .aload_n 3, 26, 0, 0), (26, .invokevirtual 117, 29, 0, 0),
  (29, .ifCond .eq 6, 32, 35, 0), (32, .bipush (-11), 34, 0, (-11)), (34, .ireturn, 35, 0, 0), (35, .iload_n 2, 36, 0, 0), (36, .lookupswitch 40 #[(0, 28), (1, 34)], 64, 0, 0), (64, .aload_n 0, 65, 0, 0), (65, .aload_n 3, 66, 0, 0), (66, .invokevirtual 247, 69, 0, 0),
  (69, .ireturn, 70, 0, 0), (70, .aload_n 0, 71, 0, 0), (71, .aload_n 3, 72, 0, 0), (72, .invokevirtual 251, 75, 0, 0), (75, .ireturn, 76, 0, 0), (76, .aload_n 0, 77, 0, 0), (77, .aload_n 3, 78, 0, 0), (78, .invokevirtual 254, 81, 0, 0),
  (81, .ireturn, 82, 0, 0)]
abbrev M_X10_heard : MI := (yX10_heard, cX10_heard, 4, (some .int), 10, P_X10_heard)
theorem ok_X10_heard : okP 10 cX10_heard P_X10_heard = true := by decide +kernel
def P_X10_found : List PE := [(0, .iload_n 1, 1, 0, 0), (1, .invokestatic 109, 4, 0, 0), (4, .ifCond .eq 34, 7, 38, 0), (7, .aload_n 0, 8, 0, 0), (8, .getfield 10, 11, 0, 0), (11, .iload_n 2, 12, 0, 0), (12, .invokevirtual 166, 15, 0, 0), (15, .ifCond .eq 23, 18, 38, 0),
  (18, .aload_n 0, 19, 0, 0), (19, .getfield 10, 22, 0, 0), (22, .iload_n 3, 23, 0, 0), (23, .invokevirtual 142, 26, 0, 0), (26, .ifCond .eq 12, 29, 38, 0), (29, .iload 4, 31, 0, 0), (31, .iconst 2, 32, 0, 2), (32, .invokestatic 113, 35, 0, 0),
  (35, .ifCond .ne 6, 38, 41, 0), (38, .bipush (-2), 40, 0, (-2)), (40, .ireturn, 41, 0, 0), (41, .aload_n 0, 42, 0, 0), (42, .getfield 41, 45, 0, 0), (45, .iload_n 1, 46, 0, 0), (46, .aaload, 47, 0, 0), (47, .astore 5, 49, 0, 0),
  (49, .aload 5, 51, 0, 0), (51, .invokevirtual 117, 54, 0, 0), (54, .ifCond .eq 6, 57, 60, 0), (57, .bipush (-11), 59, 0, (-11)), (59, .ireturn, 60, 0, 0), (60, .iload 4, 62, 0, 0), (62, .lookupswitch 62 #[(0, 26), (1, 44)], 88, 0, 0), (88, .aload_n 0, 89, 0, 0),
  (89, .aload 5, 91, 0, 0), (91, .iload_n 2, 92, 0, 0), (92, .aload_n 0, 93, 0, 0), (93, .getfield 10, 96, 0, 0), (96, .getfield 244, 99, 0, 0), (99, .iload_n 3, 100, 0, 0), (100, .bipush 26, 102, 0, 26), (102, .invokevirtual 257, 105, 0, 0),
  (105, .ireturn, 106, 0, 0), (106, .aload_n 0, 107, 0, 0), (107, .aload 5, 109, 0, 0), (109, .iload_n 2, 110, 0, 0), (110, .aload_n 0, 111, 0, 0), (111, .getfield 10, 114, 0, 0), (114, .getfield 261, 117, 0, 0), (117, .iload_n 3, 118, 0, 0),
  (118, .bipush 26, 120, 0, 26), (120, .invokevirtual 257, 123, 0, 0), (123, .ireturn, 124, 0, 0), (124, .aload_n 0, 125, 0, 0), (125, .aload 5, 127, 0, 0), (127, .iload_n 2, 128, 0, 0), (128, .aload_n 0, 129, 0, 0), (129, .getfield 10, 132, 0, 0),
  (132, .getfield 172, 135, 0, 0), (135, .iload_n 3, 136, 0, 0), (136, .bipush 6, 138, 0, 6), (138, .invokevirtual 257, 141, 0, 0), (141, .ireturn, 142, 0, 0)]
abbrev M_X10_found : MI := (yX10_found, cX10_found, 6, (some .int), 10, P_X10_found)
theorem ok_X10_found : okP 10 cX10_found P_X10_found = true := by decide +kernel
def P_X10_alikeTexts : List PE := [(0, .aload_n 0, 1, 0, 0), (1, .getfield 48, 4, 0, 0), (4, .aload_n 0, 5, 0, 0), (5, .getfield 10, 8, 0, 0), (8, .aload_n 0, 9, 0, 0), (9, .getfield 10, 12, 0, 0), (12, .getfield 145, 15, 0, 0), (15, .invokevirtual 210, 18, 0, 0),
  (18, .aload_n 0, 19, 0, 0), (19, .getfield 69, 22, 0, 0), (22, .aload_n 0, 23, 0, 0), (23, .getfield 10, 26, 0, 0), (26, .aload_n 0, 27, 0, 0), (27, .getfield 10, 30, 0, 0), (30, .getfield 145, 33, 0, 0), (33, .aload_n 0, 34, 0, 0),
  (34, .invokevirtual 231, 37, 0, 0), (37, .aload_n 0, 38, 0, 0), (38, .getfield 48, 41, 0, 0), (41, .invokevirtual 264, 44, 0, 0), (44, .istore_n 1, 45, 0, 0), (45, .iconst 0, 46, 0, 0), (46, .istore_n 2, 47, 0, 0), (47, .iconst 0, 48, 0, 0),
  (48, .istore_n 3, 49, 0, 0), (49, .iload_n 3, 50, 0, 0), (50, .aload_n 0, 51, 0, 0), (51, .getfield 106, 54, 0, 0), (54, .if_icmp .ge 47, 57, 101, 0), (57, .aload_n 0, 58, 0, 0), (58, .getfield 69, 61, 0, 0), (61, .aload_n 0, 62, 0, 0),
  (62, .getfield 10, 65, 0, 0), (65, .aload_n 0, 66, 0, 0), (66, .getfield 10, 69, 0, 0), (69, .getfield 145, 72, 0, 0), (72, .aload_n 0, 73, 0, 0), (73, .getfield 21, 76, 0, 0), (76, .iload_n 3, 77, 0, 0), (77, .aaload, 78, 0, 0),
  (78, .aload_n 0, 79, 0, 0), (79, .getfield 48, 82, 0, 0), (82, .invokevirtual 264, 85, 0, 0), (85, .iload_n 1, 86, 0, 0), (86, .if_icmp .ne 9, 89, 95, 0), (89, .iload_n 2, 90, 0, 0), (90, .iconst 1, 91, 0, 1), (91, .iload_n 3, 92, 0, 0),
  (92, .ishl, 93, 0, 0), (93, .ior, 94, 0, 0), (94, .istore_n 2, 95, 0, 0), (95, .iinc 3 1, 98, 0, 1), (98, .goto (-49), 101, 49, 0), (101, .iload_n 2, 102, 0, 0), (102, .ireturn, 103, 0, 0)]
abbrev M_X10_alikeTexts : MI := (yX10_alikeTexts, cX10_alikeTexts, 4, (some .int), 10, P_X10_alikeTexts)
theorem ok_X10_alikeTexts : okP 10 cX10_alikeTexts P_X10_alikeTexts = true := by decide +kernel
def P_X10_film : List PE := [(0, .iload_n 1, 1, 0, 0), (1, .invokestatic 109, 4, 0, 0), (4, .ifCond .eq 14, 7, 18, 0), (7, .aload_n 0, 8, 0, 0), (8, .getfield 10, 11, 0, 0), (11, .iload_n 2, 12, 0, 0), (12, .invokevirtual 166, 15, 0, 0), (15, .ifCond .ne 6, 18, 21, 0),
  (18, .bipush (-2), 20, 0, (-2)), (20, .ireturn, 21, 0, 0), (21, .aload_n 0, 22, 0, 0), (22, .getfield 55, 25, 0, 0), (25, .aload_n 0, 26, 0, 0), (26, .getfield 10, 29, 0, 0), (29, .aload_n 0, 30, 0, 0), (30, .getfield 10, 33, 0, 0),
  (33, .getfield 145, 36, 0, 0), (36, .iload_n 2, 37, 0, 0), (37, .invokevirtual 185, 40, 0, 0), (40, .aload_n 0, 41, 0, 0), (41, .getfield 55, 44, 0, 0), (44, .invokevirtual 268, 47, 0, 0), (47, .ifCond .eq 6, 50, 53, 0), (50, .bipush (-3), 52, 0, (-3)),
  (52, .ireturn, 53, 0, 0), (53, .aload_n 0, 54, 0, 0), (54, .getfield 41, 57, 0, 0), (57, .iload_n 1, 58, 0, 0), (58, .aaload, 59, 0, 0), (59, .aload_n 0, 60, 0, 0), (60, .getfield 55, 63, 0, 0), (63, .invokevirtual 271, 66, 0, 0),
  (66, .aload_n 0, 67, 0, 0), (67, .getfield 55, 70, 0, 0), (70, .getfield 275, 73, 0, 0), (73, .ireturn, 74, 0, 0)]
abbrev M_X10_film : MI := (yX10_film, cX10_film, 3, (some .int), 10, P_X10_film)
theorem ok_X10_film : okP 10 cX10_film P_X10_film = true := by decide +kernel
def P_X10_drawn : List PE := [(0, .aload_n 0, 1, 0, 0), (1, .getfield 62, 4, 0, 0), (4, .iload_n 1, 5, 0, 0), (5, .aload_n 0, 6, 0, 0), (6, .getfield 10, 9, 0, 0), (9, .getfield 135, 12, 0, 0), (12, .invokevirtual 276, 15, 0, 0), (15, .aload_n 0, 16, 0, 0),
  (16, .aload_n 0, 17, 0, 0), (17, .getfield 62, 20, 0, 0), (20, .invokevirtual 206, 23, 0, 0), (23, .ireturn, 24, 0, 0)]
abbrev M_X10_drawn : MI := (yX10_drawn, cX10_drawn, 2, (some .int), 10, P_X10_drawn)
theorem ok_X10_drawn : okP 10 cX10_drawn P_X10_drawn = true := by decide +kernel
def P_X10_chance : List PE := [(0, .iload_n 2, 1, 0, 0), (1, .iconst 1, 2, 0, 1), (2, .if_icmp .lt 17, 5, 19, 0), (5, .iload_n 2, 6, 0, 0), (6, .bipush 20, 8, 0, 20), (8, .if_icmp .gt 11, 11, 19, 0), (11, .iload_n 3, 12, 0, 0), (12, .iconst 1, 13, 0, 1),
  (13, .invokestatic 113, 16, 0, 0), (16, .ifCond .ne 7, 19, 23, 0), (19, .ldc2_w 280, 22, 0, 0), (22, .lreturn, 23, 0, 0), (23, .iconst 0, 24, 0, 0), (24, .istore 4, 26, 0, 0), (26, .iconst 0, 27, 0, 0), (27, .istore 5, 29, 0, 0),
  (29, .iload 5, 31, 0, 0), (31, .iload_n 2, 32, 0, 0), (32, .if_icmp .ge 55, 35, 87, 0), (35, .aload_n 0, 36, 0, 0), (36, .getfield 62, 39, 0, 0), (39, .iload_n 1, 40, 0, 0), (40, .iload 5, 42, 0, 0), (42, .iadd, 43, 0, 0),
  (43, .aload_n 0, 44, 0, 0), (44, .getfield 10, 47, 0, 0), (47, .getfield 135, 50, 0, 0), (50, .invokevirtual 276, 53, 0, 0), (53, .aload_n 0, 54, 0, 0), (54, .getfield 48, 57, 0, 0), (57, .aload_n 0, 58, 0, 0), (58, .getfield 10, 61, 0, 0),
  (61, .aload_n 0, 62, 0, 0), (62, .getfield 62, 65, 0, 0), (65, .invokevirtual 210, 68, 0, 0), (68, .aload_n 0, 69, 0, 0), (69, .getfield 48, 72, 0, 0), (72, .invokevirtual 214, 75, 0, 0), (75, .ifCond .ne 6, 78, 81, 0), (78, .iinc 4 1, 81, 0, 1),
  (81, .iinc 5 1, 84, 0, 1), (84, .goto (-55), 87, 29, 0), (87, .iload 4, 89, 0, 0), (89, .iload_n 2, 90, 0, 0), (90, .invokestatic 282, 93, 0, 0), (93, .istore 5, 95, 0, 0), (95, .iload_n 3, 96, 0, 0), (96, .ifCond .ne 12, 99, 108, 0),
  (99, .iload 4, 101, 0, 0), (101, .iload 5, 103, 0, 0), (103, .idiv, 104, 0, 0), (104, .i2l, 105, 0, 0), (105, .goto 8, 108, 113, 0), (108, .iload_n 2, 109, 0, 0), (109, .iload 5, 111, 0, 0), (111, .idiv, 112, 0, 0),
  (112, .i2l, 113, 0, 0), (113, .lreturn, 114, 0, 0)]
abbrev M_X10_chance : MI := (yX10_chance, cX10_chance, 6, (some .long), 10, P_X10_chance)
theorem ok_X10_chance : okP 10 cX10_chance P_X10_chance = true := by decide +kernel
def P_X10_image : List PE := [(0, .aload_n 0, 1, 0, 0), (1, .getfield 16, 4, 0, 0), (4, .aload_n 0, 5, 0, 0), (5, .getfield 10, 8, 0, 0), (8, .invokevirtual 285, 11, 0, 0), (11, .aload_n 0, 12, 0, 0), (12, .iconst 1, 13, 0, 1), (13, .putfield 289, 16, 0, 0),
  (16, .aload_n 0, 17, 0, 0), (17, .getfield 16, 20, 0, 0), (20, .getfield 124, 23, 0, 0), (23, .ireturn, 24, 0, 0)]
abbrev M_X10_image : MI := (yX10_image, cX10_image, 1, (some .int), 10, P_X10_image)
theorem ok_X10_image : okP 10 cX10_image P_X10_image = true := by decide +kernel
def P_X10_back : List PE := [(0, .aload_n 0, 1, 0, 0), (1, .getfield 289, 4, 0, 0), (4, .ifCond .ne 6, 7, 10, 0), (7, .bipush (-3), 9, 0, (-3)), (9, .ireturn, 10, 0, 0), (10, .aload_n 0, 11, 0, 0), (11, .getfield 10, 14, 0, 0), (14, .aload_n 0, 15, 0, 0),
  (15, .getfield 16, 18, 0, 0), (18, .invokevirtual 285, 21, 0, 0), (21, .aload_n 0, 22, 0, 0), (22, .getfield 10, 25, 0, 0), (25, .getfield 124, 28, 0, 0), (28, .ireturn, 29, 0, 0)]
abbrev M_X10_back : MI := (yX10_back, cX10_back, 1, (some .int), 10, P_X10_back)
theorem ok_X10_back : okP 10 cX10_back P_X10_back = true := by decide +kernel
def P_X10_count : List PE := [(0, .iload_n 1, 1, 0, 0), (1, .tableswitch 87 0 5 #[39, 47, 55, 66, 71, 79], 40, 0, 0), (40, .aload_n 0, 41, 0, 0), (41, .getfield 10, 44, 0, 0), (44, .getfield 124, 47, 0, 0), (47, .ireturn, 48, 0, 0), (48, .aload_n 0, 49, 0, 0), (49, .getfield 10, 52, 0, 0),
  (52, .getfield 135, 55, 0, 0), (55, .ireturn, 56, 0, 0), (56, .aload_n 0, 57, 0, 0), (57, .getfield 10, 60, 0, 0), (60, .getfield 145, 63, 0, 0), (63, .getfield 148, 66, 0, 0), (66, .ireturn, 67, 0, 0), (67, .aload_n 0, 68, 0, 0),
  (68, .getfield 106, 71, 0, 0), (71, .ireturn, 72, 0, 0), (72, .aload_n 0, 73, 0, 0), (73, .getfield 28, 76, 0, 0), (76, .getfield 102, 79, 0, 0), (79, .ireturn, 80, 0, 0), (80, .aload_n 0, 81, 0, 0), (81, .getfield 10, 84, 0, 0),
  (84, .getfield 179, 87, 0, 0), (87, .ireturn, 88, 0, 0), (88, .bipush (-2), 90, 0, (-2)), (90, .ireturn, 91, 0, 0)]
abbrev M_X10_count : MI := (yX10_count, cX10_count, 2, (some .int), 10, P_X10_count)
theorem ok_X10_count : okP 10 cX10_count P_X10_count = true := by decide +kernel
def P_X10_sheet : List PE := [(0, .iload_n 1, 1, 0, 0), (1, .invokestatic 109, 4, 0, 0), (4, .ifCond .eq 13, 7, 17, 0), (7, .iload_n 2, 8, 0, 0), (8, .iconst (-1), 9, 0, (-1)), (9, .if_icmp .lt 8, 12, 17, 0), (12, .iload_n 2, 13, 0, 0), (13, .iconst 2, 14, 0, 2),
  (14, .if_icmp .le 6, 17, 20, 0), (17, .bipush (-2), 19, 0, (-2)), (19, .ireturn, 20, 0, 0), (20, .iload_n 2, 21, 0, 0), (21, .iconst (-1), 22, 0, (-1)), (22, .if_icmp .ne 16, 25, 38, 0), (25, .aload_n 0, 26, 0, 0), (26, .getfield 41, 29, 0, 0),
  (29, .iload_n 1, 30, 0, 0), (30, .aaload, 31, 0, 0), (31, .iconst (-1), 32, 0, (-1)), (32, .iconst 0, 33, 0, 0), (33, .invokevirtual 293, 36, 0, 0), (36, .iconst 1, 37, 0, 1), (37, .ireturn, 38, 0, 0), (38, .iload_n 3, 39, 0, 0),
  (39, .bipush 40, 41, 0, 40), (41, .if_icmp .le 6, 44, 47, 0), (44, .bipush (-2), 46, 0, (-2)), (46, .ireturn, 47, 0, 0), (47, .iload_n 3, 48, 0, 0), (48, .ifCond .ge 6, 51, 54, 0), (51, .bipush (-14), 53, 0, (-14)), (53, .ireturn, 54, 0, 0),
  (54, .aload_n 0, 55, 0, 0), (55, .getfield 41, 58, 0, 0), (58, .iload_n 1, 59, 0, 0), (59, .aaload, 60, 0, 0), (60, .iload_n 2, 61, 0, 0), (61, .iload_n 3, 62, 0, 0), (62, .invokevirtual 293, 65, 0, 0), (65, .iconst 1, 66, 0, 1),
  (66, .ireturn, 67, 0, 0)]
abbrev M_X10_sheet : MI := (yX10_sheet, cX10_sheet, 4, (some .int), 10, P_X10_sheet)
theorem ok_X10_sheet : okP 10 cX10_sheet P_X10_sheet = true := by decide +kernel
def P_X10_cell : List PE := [(0, .iload_n 1, 1, 0, 0), (1, .invokestatic 109, 4, 0, 0), (4, .ifCond .ne 6, 7, 10, 0), (7, .bipush (-2), 9, 0, (-2)), (9, .ireturn, 10, 0, 0), (10, .aload_n 0, 11, 0, 0), (11, .getfield 41, 14, 0, 0), (14, .iload_n 1, 15, 0, 0),
  (15, .aaload, 16, 0, 0), (16, .astore 4, 18, 0, 0), (18, .aload 4, 20, 0, 0), (20, .invokevirtual 117, 23, 0, 0), (23, .ifCond .eq 6, 26, 29, 0), (26, .bipush (-11), 28, 0, (-11)), (28, .ireturn, 29, 0, 0), (29, .iload_n 2, 30, 0, 0),
  (30, .ifCond .lt 12, 33, 42, 0), (33, .iload_n 2, 34, 0, 0), (34, .aload 4, 36, 0, 0), (36, .getfield 295, 39, 0, 0), (39, .if_icmp .lt 6, 42, 45, 0), (42, .bipush (-12), 44, 0, (-12)), (44, .ireturn, 45, 0, 0), (45, .aload 4, 47, 0, 0),
  (47, .iload_n 2, 48, 0, 0), (48, .iload_n 3, 49, 0, 0), (49, .invokevirtual 296, 52, 0, 0), (52, .iconst 1, 53, 0, 1), (53, .ireturn, 54, 0, 0)]
abbrev M_X10_cell : MI := (yX10_cell, cX10_cell, 5, (some .int), 10, P_X10_cell)
theorem ok_X10_cell : okP 10 cX10_cell P_X10_cell = true := by decide +kernel
def P_X10_copy : List PE := [(0, .iload_n 1, 1, 0, 0), (1, .invokestatic 109, 4, 0, 0), (4, .ifCond .eq 10, 7, 14, 0), (7, .iload_n 3, 8, 0, 0), (8, .invokestatic 109, 11, 0, 0), (11, .ifCond .ne 6, 14, 17, 0), (14, .bipush (-2), 16, 0, (-2)), (16, .ireturn, 17, 0, 0),
  (17, .aload_n 0, 18, 0, 0), (18, .getfield 41, 21, 0, 0), (21, .iload_n 1, 22, 0, 0), (22, .aaload, 23, 0, 0), (23, .astore 6, 25, 0, 0), (25, .aload_n 0, 26, 0, 0), (26, .getfield 41, 29, 0, 0), (29, .iload_n 3, 30, 0, 0),
  (30, .aaload, 31, 0, 0), (31, .astore 7, 33, 0, 0), (33, .aload 6, 35, 0, 0), (35, .invokevirtual 117, 38, 0, 0), (38, .ifCond .ne 11, 41, 49, 0), (41, .aload 7, 43, 0, 0), (43, .invokevirtual 117, 46, 0, 0), (46, .ifCond .eq 6, 49, 52, 0),
  (49, .bipush (-11), 51, 0, (-11)), (51, .ireturn, 52, 0, 0), (52, .aload 6, 54, 0, 0), (54, .getfield 298, 57, 0, 0), (57, .aload 7, 59, 0, 0), (59, .getfield 298, 62, 0, 0), (62, .if_icmp .eq 6, 65, 68, 0), (65, .bipush (-13), 67, 0, (-13)),
  (67, .ireturn, 68, 0, 0), (68, .aload 6, 70, 0, 0), (70, .iload_n 2, 71, 0, 0), (71, .iload 5, 73, 0, 0), (73, .invokevirtual 301, 76, 0, 0), (76, .ifCond .eq 15, 79, 91, 0), (79, .aload 7, 81, 0, 0), (81, .iload 4, 83, 0, 0),
  (83, .iload 5, 85, 0, 0), (85, .invokevirtual 301, 88, 0, 0), (88, .ifCond .ne 6, 91, 94, 0), (91, .bipush (-12), 93, 0, (-12)), (93, .ireturn, 94, 0, 0), (94, .aload 6, 96, 0, 0), (96, .getfield 304, 99, 0, 0), (99, .iload_n 2, 100, 0, 0),
  (100, .aload 7, 102, 0, 0), (102, .getfield 304, 105, 0, 0), (105, .iload 4, 107, 0, 0), (107, .iload 5, 109, 0, 0), (109, .invokestatic 307, 112, 0, 0), (112, .iload 5, 114, 0, 0), (114, .ireturn, 115, 0, 0)]
abbrev M_X10_copy : MI := (yX10_copy, cX10_copy, 8, (some .int), 10, P_X10_copy)
theorem ok_X10_copy : okP 10 cX10_copy P_X10_copy = true := by decide +kernel
def P_X10_rules : List PE := [(0, .iload_n 1, 1, 0, 0), (1, .invokestatic 109, 4, 0, 0), (4, .ifCond .eq 22, 7, 26, 0), (7, .iload_n 2, 8, 0, 0), (8, .ifCond .lt 18, 11, 26, 0), (11, .iload_n 2, 12, 0, 0), (12, .iconst 2, 13, 0, 2), (13, .if_icmp .gt 13, 16, 26, 0),
  (16, .iload 4, 18, 0, 0), (18, .bipush 6, 20, 0, 6), (20, .invokestatic 113, 23, 0, 0), (23, .ifCond .ne 6, 26, 29, 0), (26, .bipush (-2), 28, 0, (-2)), (28, .ireturn, 29, 0, 0), (29, .aload_n 0, 30, 0, 0), (30, .getfield 41, 33, 0, 0),
  (33, .iload_n 1, 34, 0, 0), (34, .aaload, 35, 0, 0), (35, .astore 5, 37, 0, 0), (37, .aload 5, 39, 0, 0), (39, .invokevirtual 117, 42, 0, 0), (42, .ifCond .eq 6, 45, 48, 0), (45, .bipush (-11), 47, 0, (-11)), (47, .ireturn, 48, 0, 0),
  (48, .aload 5, 50, 0, 0), (50, .getfield 298, 53, 0, 0), (53, .iload_n 2, 54, 0, 0), (54, .if_icmp .eq 6, 57, 60, 0), (57, .bipush (-13), 59, 0, (-13)), (59, .ireturn, 60, 0, 0), (60, .iconst 0, 61, 0, 0), (61, .istore 6, 63, 0, 0),
  (63, .iconst 0, 64, 0, 0), (64, .istore 7, 66, 0, 0), (66, .iload 7, 68, 0, 0), (68, .iload 4, 70, 0, 0), (70, .if_icmp .ge 69, 73, 139, 0), (73, .iload_n 3, 74, 0, 0), (74, .iconst 3, 75, 0, 3), (75, .iload 7, 77, 0, 0),
  (77, .imul, 78, 0, 0), (78, .iadd, 79, 0, 0), (79, .istore 8, 81, 0, 0), (81, .aload 5, 83, 0, 0), (83, .iload 8, 85, 0, 0), (85, .iconst 3, 86, 0, 3), (86, .invokevirtual 301, 89, 0, 0), (89, .ifCond .ne 6, 92, 95, 0),
  (92, .bipush (-12), 94, 0, (-12)), (94, .ireturn, 95, 0, 0), (95, .aload_n 0, 96, 0, 0), (96, .aload 5, 98, 0, 0), (98, .getfield 304, 101, 0, 0), (101, .iload 8, 103, 0, 0), (103, .iaload, 104, 0, 0), (104, .aload 5, 106, 0, 0),
  (106, .getfield 304, 109, 0, 0), (109, .iload 8, 111, 0, 0), (111, .iconst 1, 112, 0, 1), (112, .iadd, 113, 0, 0), (113, .iaload, 114, 0, 0), (114, .aload 5, 116, 0, 0), (116, .getfield 304, 119, 0, 0), (119, .iload 8, 121, 0, 0),
  (121, .iconst 2, 122, 0, 2), (122, .iadd, 123, 0, 0), (123, .iaload, 124, 0, 0), (124, .invokevirtual 313, 127, 0, 0), (127, .ifCond .lt 6, 130, 133, 0), (130, .iinc 6 1, 133, 0, 1), (133, .iinc 7 1, 136, 0, 1), (136, .goto (-70), 139, 66, 0),
  (139, .iload 6, 141, 0, 0), (141, .ireturn, 142, 0, 0)]
abbrev M_X10_rules : MI := (yX10_rules, cX10_rules, 9, (some .int), 10, P_X10_rules)
theorem ok_X10_rules : okP 10 cX10_rules P_X10_rules = true := by decide +kernel
def P_X10_taken : List PE := [(0, .iload_n 2, 1, 0, 0), (1, .iconst 5, 2, 0, 5), (2, .invokestatic 113, 5, 0, 0), (5, .ifCond .ne 6, 8, 11, 0), (8, .bipush (-2), 10, 0, (-2)), (10, .ireturn, 11, 0, 0), (11, .aload_n 0, 12, 0, 0), (12, .getfield 10, 15, 0, 0),
  (15, .iload_n 1, 16, 0, 0), (16, .invokevirtual 142, 19, 0, 0), (19, .ifCond .ne 6, 22, 25, 0), (22, .bipush (-11), 24, 0, (-11)), (24, .ireturn, 25, 0, 0), (25, .aload_n 0, 26, 0, 0), (26, .getfield 10, 29, 0, 0), (29, .getfield 172, 32, 0, 0),
  (32, .iload_n 1, 33, 0, 0), (33, .iaload, 34, 0, 0), (34, .iload_n 2, 35, 0, 0), (35, .invokestatic 316, 38, 0, 0), (38, .ifCond .eq 15, 41, 53, 0), (41, .aload_n 0, 42, 0, 0), (42, .getfield 10, 45, 0, 0), (45, .getfield 261, 48, 0, 0),
  (48, .iload_n 1, 49, 0, 0), (49, .iaload, 50, 0, 0), (50, .goto 5, 53, 55, 0), (53, .bipush (-13), 55, 0, (-13)), (55, .ireturn, 56, 0, 0)]
abbrev M_X10_taken : MI := (yX10_taken, cX10_taken, 3, (some .int), 10, P_X10_taken)
theorem ok_X10_taken : okP 10 cX10_taken P_X10_taken = true := by decide +kernel
def P_X10_isWithin : List PE := [(0, .iload_n 0, 1, 0, 0), (1, .ifCond .lt 12, 4, 13, 0), (4, .iload_n 0, 5, 0, 0), (5, .iload_n 1, 6, 0, 0), (6, .if_icmp .gt 7, 9, 13, 0), (9, .iconst 1, 10, 0, 1), (10, .goto 4, 13, 14, 0), (13, .iconst 0, 14, 0, 0),
  (14, .ireturn, 15, 0, 0)]
abbrev M_X10_isWithin : MI := (yX10_isWithin, cX10_isWithin, 2, (some .boolean), 10, P_X10_isWithin)
theorem ok_X10_isWithin : okP 10 cX10_isWithin P_X10_isWithin = true := by decide +kernel
def P_X10_isSheet : List PE := [(0, .iload_n 0, 1, 0, 0), (1, .iconst 3, 2, 0, 3), (2, .invokestatic 113, 5, 0, 0), (5, .ireturn, 6, 0, 0)]
abbrev M_X10_isSheet : MI := (yX10_isSheet, cX10_isSheet, 1, (some .boolean), 10, P_X10_isSheet)
theorem ok_X10_isSheet : okP 10 cX10_isSheet P_X10_isSheet = true := by decide +kernel
def P_X10_isLetter : List PE := [(0, .iload_n 0, 1, 0, 0), (1, .bipush 25, 3, 0, 25), (3, .invokestatic 113, 6, 0, 0), (6, .ireturn, 7, 0, 0)]
abbrev M_X10_isLetter : MI := (yX10_isLetter, cX10_isLetter, 1, (some .boolean), 10, P_X10_isLetter)
theorem ok_X10_isLetter : okP 10 cX10_isLetter P_X10_isLetter = true := by decide +kernel
def P_X10_isRule : List PE := [(0, .iload_n 0, 1, 0, 0), (1, .iconst 5, 2, 0, 5), (2, .invokestatic 113, 5, 0, 0), (5, .ifCond .eq 21, 8, 26, 0), (8, .iload_n 1, 9, 0, 0), (9, .invokestatic 319, 12, 0, 0), (12, .ifCond .eq 14, 15, 26, 0), (15, .iload_n 2, 16, 0, 0),
  (16, .invokestatic 319, 19, 0, 0), (19, .ifCond .eq 7, 22, 26, 0), (22, .iconst 1, 23, 0, 1), (23, .goto 4, 26, 27, 0), (26, .iconst 0, 27, 0, 0), (27, .ireturn, 28, 0, 0)]
abbrev M_X10_isRule : MI := (yX10_isRule, cX10_isRule, 3, (some .boolean), 10, P_X10_isRule)
theorem ok_X10_isRule : okP 10 cX10_isRule P_X10_isRule = true := by decide +kernel
def P_X10_isSaidPlace : List PE := [(0, .iload_n 0, 1, 0, 0), (1, .iconst (-1), 2, 0, (-1)), (2, .if_icmp .lt 13, 5, 15, 0), (5, .iload_n 0, 6, 0, 0), (6, .bipush 40, 8, 0, 40), (8, .if_icmp .ge 7, 11, 15, 0), (11, .iconst 1, 12, 0, 1), (12, .goto 4, 15, 16, 0),
  (15, .iconst 0, 16, 0, 0), (16, .ireturn, 17, 0, 0)]
abbrev M_X10_isSaidPlace : MI := (yX10_isSaidPlace, cX10_isSaidPlace, 1, (some .boolean), 10, P_X10_isSaidPlace)
theorem ok_X10_isSaidPlace : okP 10 cX10_isSaidPlace P_X10_isSaidPlace = true := by decide +kernel
def P_X10_isUnder : List PE := [(0, .iload_n 0, 1, 0, 0), (1, .istore_n 2, 2, 0, 0), (2, .iconst 0, 3, 0, 0), (3, .istore_n 3, 4, 0, 0), (4, .iload_n 3, 5, 0, 0), (5, .bipush 6, 7, 0, 6), (7, .if_icmp .ge 30, 10, 37, 0), (10, .iload_n 2, 11, 0, 0),
  (11, .iconst 5, 12, 0, 5), (12, .invokestatic 113, 15, 0, 0), (15, .ifCond .eq 22, 18, 37, 0), (18, .iload_n 2, 19, 0, 0), (19, .iload_n 1, 20, 0, 0), (20, .if_icmp .ne 5, 23, 25, 0), (23, .iconst 1, 24, 0, 1), (24, .ireturn, 25, 0, 0),
  (25, .getstatic 322, 28, 0, 0), (28, .iload_n 2, 29, 0, 0), (29, .iaload, 30, 0, 0), (30, .istore_n 2, 31, 0, 0), (31, .iinc 3 1, 34, 0, 1), (34, .goto (-30), 37, 4, 0), (37, .iconst 0, 38, 0, 0), (38, .ireturn, 39, 0, 0)]
abbrev M_X10_isUnder : MI := (yX10_isUnder, cX10_isUnder, 4, (some .boolean), 10, P_X10_isUnder)
theorem ok_X10_isUnder : okP 10 cX10_isUnder P_X10_isUnder = true := by decide +kernel
def P_X10_commonDivisor : List PE := [(0, .iconst 1, 1, 0, 1), (1, .istore_n 2, 2, 0, 0), (2, .iconst 2, 3, 0, 2), (3, .istore_n 3, 4, 0, 0), (4, .iload_n 3, 5, 0, 0), (5, .iload_n 1, 6, 0, 0), (6, .if_icmp .gt 23, 9, 29, 0), (9, .iload_n 0, 10, 0, 0),
  (10, .iload_n 3, 11, 0, 0), (11, .irem, 12, 0, 0), (12, .ifCond .ne 11, 15, 23, 0), (15, .iload_n 1, 16, 0, 0), (16, .iload_n 3, 17, 0, 0), (17, .irem, 18, 0, 0), (18, .ifCond .ne 5, 21, 23, 0), (21, .iload_n 3, 22, 0, 0),
  (22, .istore_n 2, 23, 0, 0), (23, .iinc 3 1, 26, 0, 1), (26, .goto (-22), 29, 4, 0), (29, .iload_n 2, 30, 0, 0), (30, .ireturn, 31, 0, 0)]
abbrev M_X10_commonDivisor : MI := (yX10_commonDivisor, cX10_commonDivisor, 4, (some .int), 10, P_X10_commonDivisor)
theorem ok_X10_commonDivisor : okP 10 cX10_commonDivisor P_X10_commonDivisor = true := by decide +kernel
def P_X10_law : List PE := [(0, .aload_n 0, 1, 0, 0), (1, .getfield 21, 4, 0, 0), (4, .aload_n 0, 5, 0, 0), (5, .getfield 10, 8, 0, 0), (8, .getfield 179, 11, 0, 0), (11, .aaload, 12, 0, 0), (12, .areturn, 13, 0, 0)]
abbrev M_X10_law : MI := (yX10_law, cX10_law, 1, (some (.object "AfterEachVowel$Text")), 10, P_X10_law)
theorem ok_X10_law : okP 10 cX10_law P_X10_law = true := by decide +kernel
def P_X10_worthBy : List PE := [(0, .aload_n 0, 1, 0, 0), (1, .getfield 48, 4, 0, 0), (4, .aload_n 0, 5, 0, 0), (5, .getfield 10, 8, 0, 0), (8, .aload_n 1, 9, 0, 0), (9, .invokevirtual 210, 12, 0, 0), (12, .aload_n 0, 13, 0, 0), (13, .getfield 69, 16, 0, 0),
  (16, .aload_n 0, 17, 0, 0), (17, .getfield 10, 20, 0, 0), (20, .aload_n 1, 21, 0, 0), (21, .aload_n 0, 22, 0, 0), (22, .invokevirtual 231, 25, 0, 0), (25, .aload_n 0, 26, 0, 0), (26, .getfield 48, 29, 0, 0), (29, .invokevirtual 264, 32, 0, 0),
  (32, .ireturn, 33, 0, 0)]
abbrev M_X10_worthBy : MI := (yX10_worthBy, cX10_worthBy, 2, (some .int), 10, P_X10_worthBy)
theorem ok_X10_worthBy : okP 10 cX10_worthBy P_X10_worthBy = true := by decide +kernel
def P_X10_judged : List PE := [(0, .aload_n 0, 1, 0, 0), (1, .getfield 55, 4, 0, 0), (4, .aload_n 0, 5, 0, 0), (5, .getfield 10, 8, 0, 0), (8, .aload_n 0, 9, 0, 0), (9, .getfield 10, 12, 0, 0), (12, .getfield 145, 15, 0, 0), (15, .iload_n 1, 16, 0, 0),
  (16, .invokevirtual 185, 19, 0, 0), (19, .aload_n 0, 20, 0, 0), (20, .getfield 55, 23, 0, 0), (23, .invokevirtual 268, 26, 0, 0), (26, .ifCond .eq 5, 29, 31, 0), (29, .iconst 0, 30, 0, 0), (30, .ireturn, 31, 0, 0), (31, .aload_n 0, 32, 0, 0),
  (32, .getfield 69, 35, 0, 0), (35, .aload_n 0, 36, 0, 0), (36, .getfield 10, 39, 0, 0), (39, .aload_n 0, 40, 0, 0), (40, .getfield 10, 43, 0, 0), (43, .getfield 145, 46, 0, 0), (46, .iload_n 1, 47, 0, 0), (47, .aload_n 0, 48, 0, 0),
  (48, .getfield 55, 51, 0, 0), (51, .invokevirtual 325, 54, 0, 0), (54, .iload_n 2, 55, 0, 0), (55, .ifCond .ne 28, 58, 83, 0), (58, .aload_n 0, 59, 0, 0), (59, .getfield 69, 62, 0, 0), (62, .aload_n 0, 63, 0, 0), (63, .getfield 10, 66, 0, 0),
  (66, .aload_n 0, 67, 0, 0), (67, .getfield 10, 70, 0, 0), (70, .getfield 145, 73, 0, 0), (73, .aload_n 0, 74, 0, 0), (74, .invokevirtual 231, 77, 0, 0), (77, .invokevirtual 329, 80, 0, 0), (80, .goto 18, 83, 98, 0), (83, .aload_n 0, 84, 0, 0),
  (84, .invokevirtual 231, 87, 0, 0), (87, .iload_n 2, 88, 0, 0), (88, .aload_n 0, 89, 0, 0), (89, .getfield 69, 92, 0, 0), (92, .getfield 333, 95, 0, 0), (95, .invokevirtual 336, 98, 0, 0), (98, .ireturn, 99, 0, 0)]
abbrev M_X10_judged : MI := (yX10_judged, cX10_judged, 3, (some .int), 10, P_X10_judged)
theorem ok_X10_judged : okP 10 cX10_judged P_X10_judged = true := by decide +kernel
def P_X10_roundOf : List PE := [(0, .aload_n 0, 1, 0, 0), (1, .getfield 55, 4, 0, 0), (4, .aload_n 0, 5, 0, 0), (5, .getfield 10, 8, 0, 0), (8, .iload_n 1, 9, 0, 0), (9, .invokevirtual 340, 12, 0, 0), (12, .iconst 1, 13, 0, 1), (13, .istore_n 2, 14, 0, 0),
  (14, .iload_n 2, 15, 0, 0), (15, .bipush 60, 17, 0, 60), (17, .if_icmp .gt 65, 20, 82, 0), (20, .aload_n 0, 21, 0, 0), (21, .getfield 55, 24, 0, 0), (24, .aload_n 0, 25, 0, 0), (25, .getfield 10, 28, 0, 0), (28, .aload_n 0, 29, 0, 0),
  (29, .getfield 10, 32, 0, 0), (32, .getfield 145, 35, 0, 0), (35, .invokevirtual 344, 38, 0, 0), (38, .aload_n 0, 39, 0, 0), (39, .getfield 55, 42, 0, 0), (42, .getfield 275, 45, 0, 0), (45, .aload_n 0, 46, 0, 0), (46, .getfield 10, 49, 0, 0),
  (49, .getfield 176, 52, 0, 0), (52, .iload_n 1, 53, 0, 0), (53, .iaload, 54, 0, 0), (54, .if_icmp .eq 5, 57, 59, 0), (57, .iconst (-1), 58, 0, (-1)), (58, .ireturn, 59, 0, 0), (59, .aload_n 0, 60, 0, 0), (60, .getfield 55, 63, 0, 0),
  (63, .aload_n 0, 64, 0, 0), (64, .getfield 10, 67, 0, 0), (67, .iload_n 1, 68, 0, 0), (68, .invokevirtual 347, 71, 0, 0), (71, .ifCond .eq 5, 74, 76, 0), (74, .iload_n 2, 75, 0, 0), (75, .ireturn, 76, 0, 0), (76, .iinc 2 1, 79, 0, 1),
  (79, .goto (-65), 82, 14, 0), (82, .iconst (-1), 83, 0, (-1)), (83, .ireturn, 84, 0, 0)]
abbrev M_X10_roundOf : MI := (yX10_roundOf, cX10_roundOf, 3, (some .int), 10, P_X10_roundOf)
theorem ok_X10_roundOf : okP 10 cX10_roundOf P_X10_roundOf = true := by decide +kernel
def P_X10_safeLetters : List PE := [(0, .aload_n 0, 1, 0, 0), (1, .getfield 48, 4, 0, 0), (4, .aload_n 0, 5, 0, 0), (5, .getfield 10, 8, 0, 0), (8, .aload_n 0, 9, 0, 0), (9, .getfield 10, 12, 0, 0), (12, .getfield 145, 15, 0, 0), (15, .invokevirtual 210, 18, 0, 0),
  (18, .iconst 0, 19, 0, 0), (19, .istore_n 2, 20, 0, 0), (20, .iconst 0, 21, 0, 0), (21, .istore_n 3, 22, 0, 0), (22, .iload_n 3, 23, 0, 0), (23, .aload_n 0, 24, 0, 0), (24, .getfield 10, 27, 0, 0), (27, .getfield 176, 30, 0, 0),
  (30, .iload_n 1, 31, 0, 0), (31, .iaload, 32, 0, 0), (32, .if_icmp .ge 24, 35, 56, 0), (35, .aload_n 0, 36, 0, 0), (36, .iload_n 1, 37, 0, 0), (37, .iload_n 3, 38, 0, 0), (38, .invokevirtual 351, 41, 0, 0), (41, .ifCond .eq 9, 44, 50, 0),
  (44, .iload_n 2, 45, 0, 0), (45, .iconst 1, 46, 0, 1), (46, .iload_n 3, 47, 0, 0), (47, .ishl, 48, 0, 0), (48, .ior, 49, 0, 0), (49, .istore_n 2, 50, 0, 0), (50, .iinc 3 1, 53, 0, 1), (53, .goto (-31), 56, 22, 0),
  (56, .iload_n 2, 57, 0, 0), (57, .ireturn, 58, 0, 0)]
abbrev M_X10_safeLetters : MI := (yX10_safeLetters, cX10_safeLetters, 4, (some .int), 10, P_X10_safeLetters)
theorem ok_X10_safeLetters : okP 10 cX10_safeLetters P_X10_safeLetters = true := by decide +kernel
def P_X10_isSafe : List PE := [(0, .aload_n 0, 1, 0, 0), (1, .getfield 10, 4, 0, 0), (4, .getfield 354, 7, 0, 0), (7, .iload_n 1, 8, 0, 0), (8, .aaload, 9, 0, 0), (9, .astore_n 3, 10, 0, 0), (10, .aload_n 3, 11, 0, 0), (11, .iload_n 2, 12, 0, 0),
  (12, .iaload, 13, 0, 0), (13, .istore 4, 15, 0, 0), (15, .iconst 1, 16, 0, 1), (16, .istore 5, 18, 0, 0), (18, .iconst 0, 19, 0, 0), (19, .istore 6, 21, 0, 0), (21, .iload 6, 23, 0, 0), (23, .bipush 26, 25, 0, 26),
  (25, .if_icmp .ge 67, 28, 92, 0), (28, .iload 5, 30, 0, 0), (30, .ifCond .eq 62, 33, 92, 0), (33, .iload 6, 35, 0, 0), (35, .iload 4, 37, 0, 0), (37, .if_icmp .eq 49, 40, 86, 0), (40, .aload_n 3, 41, 0, 0), (41, .iload_n 2, 42, 0, 0),
  (42, .iload 6, 44, 0, 0), (44, .iastore, 45, 0, 0), (45, .aload_n 0, 46, 0, 0), (46, .getfield 55, 49, 0, 0), (49, .aload_n 0, 50, 0, 0), (50, .getfield 10, 53, 0, 0), (53, .aload_n 0, 54, 0, 0), (54, .getfield 10, 57, 0, 0),
  (57, .getfield 145, 60, 0, 0), (60, .iload_n 1, 61, 0, 0), (61, .invokevirtual 185, 64, 0, 0), (64, .aload_n 0, 65, 0, 0), (65, .getfield 48, 68, 0, 0), (68, .aload_n 0, 69, 0, 0), (69, .getfield 55, 72, 0, 0), (72, .iload_n 1, 73, 0, 0),
  (73, .invokevirtual 358, 76, 0, 0), (76, .ifCond .ne 7, 79, 83, 0), (79, .iconst 1, 80, 0, 1), (80, .goto 4, 83, 84, 0), (83, .iconst 0, 84, 0, 0), (84, .istore 5, 86, 0, 0), (86, .iinc 6 1, 89, 0, 1), (89, .goto (-68), 92, 21, 0),
  (92, .aload_n 3, 93, 0, 0), (93, .iload_n 2, 94, 0, 0), (94, .iload 4, 96, 0, 0), (96, .iastore, 97, 0, 0), (97, .iload 5, 99, 0, 0), (99, .ireturn, 100, 0, 0)]
abbrev M_X10_isSafe : MI := (yX10_isSafe, cX10_isSafe, 7, (some .boolean), 10, P_X10_isSafe)
theorem ok_X10_isSafe : okP 10 cX10_isSafe P_X10_isSafe = true := by decide +kernel
def P_X10_idleRules : List PE := [(0, .iconst 0, 1, 0, 0), (1, .istore_n 1, 2, 0, 0), (2, .iconst 0, 3, 0, 0), (3, .istore_n 2, 4, 0, 0), (4, .iload_n 2, 5, 0, 0), (5, .aload_n 0, 6, 0, 0), (6, .getfield 10, 9, 0, 0), (9, .getfield 135, 12, 0, 0),
  (12, .if_icmp .ge 23, 15, 35, 0), (15, .aload_n 0, 16, 0, 0), (16, .iload_n 2, 17, 0, 0), (17, .invokevirtual 362, 20, 0, 0), (20, .ifCond .eq 9, 23, 29, 0), (23, .iload_n 1, 24, 0, 0), (24, .iconst 1, 25, 0, 1), (25, .iload_n 2, 26, 0, 0),
  (26, .ishl, 27, 0, 0), (27, .ior, 28, 0, 0), (28, .istore_n 1, 29, 0, 0), (29, .iinc 2 1, 32, 0, 1), (32, .goto (-28), 35, 4, 0), (35, .iload_n 1, 36, 0, 0), (36, .ireturn, 37, 0, 0)]
abbrev M_X10_idleRules : MI := (yX10_idleRules, cX10_idleRules, 3, (some .int), 10, P_X10_idleRules)
theorem ok_X10_idleRules : okP 10 cX10_idleRules P_X10_idleRules = true := by decide +kernel
def P_X10_isIdle : List PE := [(0, .iconst 0, 1, 0, 0), (1, .istore_n 2, 2, 0, 0), (2, .iload_n 2, 3, 0, 0), (3, .aload_n 0, 4, 0, 0), (4, .getfield 10, 7, 0, 0), (7, .getfield 124, 10, 0, 0), (10, .if_icmp .ge 39, 13, 49, 0), (13, .aload_n 0, 14, 0, 0),
  (14, .getfield 55, 17, 0, 0), (17, .aload_n 0, 18, 0, 0), (18, .getfield 10, 21, 0, 0), (21, .iload_n 1, 22, 0, 0), (22, .iload_n 2, 23, 0, 0), (23, .invokevirtual 193, 26, 0, 0), (26, .aload_n 0, 27, 0, 0), (27, .getfield 55, 30, 0, 0),
  (30, .aload_n 0, 31, 0, 0), (31, .getfield 10, 34, 0, 0), (34, .iload_n 2, 35, 0, 0), (35, .invokevirtual 347, 38, 0, 0), (38, .ifCond .ne 5, 41, 43, 0), (41, .iconst 0, 42, 0, 0), (42, .ireturn, 43, 0, 0), (43, .iinc 2 1, 46, 0, 1),
  (46, .goto (-44), 49, 2, 0), (49, .iconst 1, 50, 0, 1), (50, .ireturn, 51, 0, 0)]
abbrev M_X10_isIdle : MI := (yX10_isIdle, cX10_isIdle, 3, (some .boolean), 10, P_X10_isIdle)
theorem ok_X10_isIdle : okP 10 cX10_isIdle P_X10_isIdle = true := by decide +kernel
def P_X10_wordsSaidAs : List PE := [(0, .iconst 0, 1, 0, 0), (1, .istore_n 2, 2, 0, 0), (2, .iconst 0, 3, 0, 0), (3, .istore_n 3, 4, 0, 0), (4, .iload_n 3, 5, 0, 0), (5, .aload_n 0, 6, 0, 0), (6, .getfield 10, 9, 0, 0), (9, .getfield 124, 12, 0, 0),
  (12, .if_icmp .ge 45, 15, 57, 0), (15, .aload_n 0, 16, 0, 0), (16, .getfield 55, 19, 0, 0), (19, .aload_n 0, 20, 0, 0), (20, .getfield 10, 23, 0, 0), (23, .aload_n 0, 24, 0, 0), (24, .getfield 10, 27, 0, 0), (27, .getfield 145, 30, 0, 0),
  (30, .iload_n 3, 31, 0, 0), (31, .invokevirtual 185, 34, 0, 0), (34, .aload_n 1, 35, 0, 0), (35, .aload_n 0, 36, 0, 0), (36, .getfield 55, 39, 0, 0), (39, .invokevirtual 365, 42, 0, 0), (42, .ifCond .eq 9, 45, 51, 0), (45, .iload_n 2, 46, 0, 0),
  (46, .iconst 1, 47, 0, 1), (47, .iload_n 3, 48, 0, 0), (48, .ishl, 49, 0, 0), (49, .ior, 50, 0, 0), (50, .istore_n 2, 51, 0, 0), (51, .iinc 3 1, 54, 0, 1), (54, .goto (-50), 57, 4, 0), (57, .iload_n 2, 58, 0, 0),
  (58, .ireturn, 59, 0, 0)]
abbrev M_X10_wordsSaidAs : MI := (yX10_wordsSaidAs, cX10_wordsSaidAs, 4, (some .int), 10, P_X10_wordsSaidAs)
theorem ok_X10_wordsSaidAs : okP 10 cX10_wordsSaidAs P_X10_wordsSaidAs = true := by decide +kernel
def P_X10_wordsTurningTo : List PE := [(0, .iconst 0, 1, 0, 0), (1, .istore_n 3, 2, 0, 0), (2, .iconst 0, 3, 0, 0), (3, .istore 4, 5, 0, 0), (5, .iload 4, 7, 0, 0), (7, .aload_n 0, 8, 0, 0), (8, .getfield 10, 11, 0, 0), (11, .getfield 124, 14, 0, 0),
  (14, .if_icmp .ge 37, 17, 51, 0), (17, .aload_n 0, 18, 0, 0), (18, .getfield 55, 21, 0, 0), (21, .aload_n 0, 22, 0, 0), (22, .getfield 10, 25, 0, 0), (25, .iload_n 2, 26, 0, 0), (26, .iload 4, 28, 0, 0), (28, .invokevirtual 193, 31, 0, 0),
  (31, .aload_n 1, 32, 0, 0), (32, .aload_n 0, 33, 0, 0), (33, .getfield 55, 36, 0, 0), (36, .invokevirtual 365, 39, 0, 0), (39, .ifCond .eq 6, 42, 45, 0), (42, .iinc 3 1, 45, 0, 1), (45, .iinc 4 1, 48, 0, 1), (48, .goto (-43), 51, 5, 0),
  (51, .iload_n 3, 52, 0, 0), (52, .ireturn, 53, 0, 0)]
abbrev M_X10_wordsTurningTo : MI := (yX10_wordsTurningTo, cX10_wordsTurningTo, 5, (some .int), 10, P_X10_wordsTurningTo)
theorem ok_X10_wordsTurningTo : okP 10 cX10_wordsTurningTo P_X10_wordsTurningTo = true := by decide +kernel
def P_X10_rulesTurningTo : List PE := [(0, .iconst 0, 1, 0, 0), (1, .istore_n 2, 2, 0, 0), (2, .iconst 0, 3, 0, 0), (3, .istore_n 3, 4, 0, 0), (4, .iload_n 3, 5, 0, 0), (5, .aload_n 0, 6, 0, 0), (6, .getfield 10, 9, 0, 0), (9, .getfield 135, 12, 0, 0),
  (12, .if_icmp .ge 24, 15, 36, 0), (15, .aload_n 0, 16, 0, 0), (16, .aload_n 1, 17, 0, 0), (17, .iload_n 3, 18, 0, 0), (18, .invokevirtual 368, 21, 0, 0), (21, .ifCond .le 9, 24, 30, 0), (24, .iload_n 2, 25, 0, 0), (25, .iconst 1, 26, 0, 1),
  (26, .iload_n 3, 27, 0, 0), (27, .ishl, 28, 0, 0), (28, .ior, 29, 0, 0), (29, .istore_n 2, 30, 0, 0), (30, .iinc 3 1, 33, 0, 1), (33, .goto (-29), 36, 4, 0), (36, .iload_n 2, 37, 0, 0), (37, .ireturn, 38, 0, 0)]
abbrev M_X10_rulesTurningTo : MI := (yX10_rulesTurningTo, cX10_rulesTurningTo, 4, (some .int), 10, P_X10_rulesTurningTo)
theorem ok_X10_rulesTurningTo : okP 10 cX10_rulesTurningTo P_X10_rulesTurningTo = true := by decide +kernel
def P_X10_pairsTurningTo : List PE := [(0, .iconst 0, 1, 0, 0), (1, .istore_n 2, 2, 0, 0), (2, .iconst 0, 3, 0, 0), (3, .istore_n 3, 4, 0, 0), (4, .iload_n 3, 5, 0, 0), (5, .aload_n 0, 6, 0, 0), (6, .getfield 10, 9, 0, 0), (9, .getfield 135, 12, 0, 0),
  (12, .if_icmp .ge 18, 15, 30, 0), (15, .iload_n 2, 16, 0, 0), (16, .aload_n 0, 17, 0, 0), (17, .aload_n 1, 18, 0, 0), (18, .iload_n 3, 19, 0, 0), (19, .invokevirtual 368, 22, 0, 0), (22, .iadd, 23, 0, 0), (23, .istore_n 2, 24, 0, 0),
  (24, .iinc 3 1, 27, 0, 1), (27, .goto (-23), 30, 4, 0), (30, .iload_n 2, 31, 0, 0), (31, .ireturn, 32, 0, 0)]
abbrev M_X10_pairsTurningTo : MI := (yX10_pairsTurningTo, cX10_pairsTurningTo, 4, (some .int), 10, P_X10_pairsTurningTo)
theorem ok_X10_pairsTurningTo : okP 10 cX10_pairsTurningTo P_X10_pairsTurningTo = true := by decide +kernel
def P_X10_fitting : List PE := [(0, .aload_n 3, 1, 0, 0), (1, .iload 4, 3, 0, 0), (3, .iaload, 4, 0, 0), (4, .istore 6, 6, 0, 0), (6, .iconst 0, 7, 0, 0), (7, .istore 7, 9, 0, 0), (9, .iconst 0, 10, 0, 0), (10, .istore 8, 12, 0, 0),
  (12, .iload 8, 14, 0, 0), (14, .iload 5, 16, 0, 0), (16, .if_icmp .ge 54, 19, 70, 0), (19, .aload_n 3, 20, 0, 0), (20, .iload 4, 22, 0, 0), (22, .iload 8, 24, 0, 0), (24, .iastore, 25, 0, 0), (25, .aload_n 0, 26, 0, 0),
  (26, .getfield 55, 29, 0, 0), (29, .aload_n 0, 30, 0, 0), (30, .getfield 10, 33, 0, 0), (33, .aload_n 0, 34, 0, 0), (34, .getfield 10, 37, 0, 0), (37, .getfield 145, 40, 0, 0), (40, .iload_n 2, 41, 0, 0), (41, .invokevirtual 185, 44, 0, 0),
  (44, .aload_n 1, 45, 0, 0), (45, .aload_n 0, 46, 0, 0), (46, .getfield 55, 49, 0, 0), (49, .invokevirtual 365, 52, 0, 0), (52, .ifCond .eq 12, 55, 64, 0), (55, .iload 7, 57, 0, 0), (57, .iconst 1, 58, 0, 1), (58, .iload 8, 60, 0, 0),
  (60, .ishl, 61, 0, 0), (61, .ior, 62, 0, 0), (62, .istore 7, 64, 0, 0), (64, .iinc 8 1, 67, 0, 1), (67, .goto (-55), 70, 12, 0), (70, .aload_n 3, 71, 0, 0), (71, .iload 4, 73, 0, 0), (73, .iload 6, 75, 0, 0),
  (75, .iastore, 76, 0, 0), (76, .iload 7, 78, 0, 0), (78, .ireturn, 79, 0, 0)]
abbrev M_X10_fitting : MI := (yX10_fitting, cX10_fitting, 9, (some .int), 10, P_X10_fitting)
theorem ok_X10_fitting : okP 10 cX10_fitting P_X10_fitting = true := by decide +kernel
