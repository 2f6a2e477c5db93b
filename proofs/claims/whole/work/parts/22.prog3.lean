def P_X11_isIn : List PE := [(0, .iload_n 0, 1, 0, 0), (1, .iload_n 1, 2, 0, 0), (2, .if_icmp .lt 12, 5, 14, 0), (5, .iload_n 0, 6, 0, 0), (6, .iload_n 2, 7, 0, 0), (7, .if_icmp .gt 7, 10, 14, 0), (10, .iconst 1, 11, 0, 1), (11, .goto 4, 14, 15, 0),
  (14, .iconst 0, 15, 0, 0), (15, .ireturn, 16, 0, 0)]
abbrev M_X11_isIn : MI := (yX11_isIn, cX11_isIn, 3, (some .boolean), 11, P_X11_isIn)
theorem ok_X11_isIn : okP 11 cX11_isIn P_X11_isIn = true := by decide +kernel
def P_X11_isWord : List PE := [(0, .iload_n 1, 1, 0, 0), (1, .iconst 0, 2, 0, 0), (2, .aload_n 0, 3, 0, 0), (3, .getfield 1, 6, 0, 0), (6, .iconst 1, 7, 0, 1), (7, .isub, 8, 0, 0), (8, .invokestatic 7, 11, 0, 0), (11, .ireturn, 12, 0, 0)]
abbrev M_X11_isWord : MI := (yX11_isWord, cX11_isWord, 2, (some .boolean), 11, P_X11_isWord)
theorem ok_X11_isWord : okP 11 cX11_isWord P_X11_isWord = true := by decide +kernel
def P_X11_isRule : List PE := [(0, .iload_n 1, 1, 0, 0), (1, .iconst 0, 2, 0, 0), (2, .aload_n 0, 3, 0, 0), (3, .getfield 11, 6, 0, 0), (6, .iconst 1, 7, 0, 1), (7, .isub, 8, 0, 0), (8, .invokestatic 7, 11, 0, 0), (11, .ireturn, 12, 0, 0)]
abbrev M_X11_isRule : MI := (yX11_isRule, cX11_isRule, 2, (some .boolean), 11, P_X11_isRule)
theorem ok_X11_isRule : okP 11 cX11_isRule P_X11_isRule = true := by decide +kernel
def P_X11_learn : List PE := [(0, .iload_n 1, 1, 0, 0), (1, .invokestatic 14, 4, 0, 0), (4, .ifCond .eq 13, 7, 17, 0), (7, .iload_n 2, 8, 0, 0), (8, .iconst 0, 9, 0, 0), (9, .bipush 99, 11, 0, 99), (11, .invokestatic 7, 14, 0, 0), (14, .ifCond .ne 6, 17, 20, 0),
  (17, .bipush (-2), 19, 0, (-2)), (19, .ireturn, 20, 0, 0), (20, .aload_n 0, 21, 0, 0), (21, .getfield 18, 24, 0, 0), (24, .iload_n 1, 25, 0, 0), (25, .iaload, 26, 0, 0), (26, .ifCond .ge 6, 29, 32, 0), (29, .bipush (-11), 31, 0, (-11)),
  (31, .ireturn, 32, 0, 0), (32, .aload_n 0, 33, 0, 0), (33, .getfield 22, 36, 0, 0), (36, .iload_n 1, 37, 0, 0), (37, .iaload, 38, 0, 0), (38, .iconst 1, 39, 0, 1), (39, .bipush 10, 41, 0, 10), (41, .invokestatic 7, 44, 0, 0),
  (44, .istore_n 3, 45, 0, 0), (45, .iconst 0, 46, 0, 0), (46, .istore 4, 48, 0, 0), (48, .iload 4, 50, 0, 0), (50, .aload_n 0, 51, 0, 0), (51, .getfield 22, 54, 0, 0), (54, .iload_n 1, 55, 0, 0), (55, .iaload, 56, 0, 0),
  (56, .if_icmp .ge 40, 59, 96, 0), (59, .iload_n 3, 60, 0, 0), (60, .ifCond .eq 28, 63, 88, 0), (63, .aload_n 0, 64, 0, 0), (64, .getfield 25, 67, 0, 0), (67, .bipush 40, 69, 0, 40), (69, .iload_n 1, 70, 0, 0), (70, .imul, 71, 0, 0),
  (71, .iload 4, 73, 0, 0), (73, .iadd, 74, 0, 0), (74, .iaload, 75, 0, 0), (75, .iconst 0, 76, 0, 0), (76, .bipush 25, 78, 0, 25), (78, .invokestatic 7, 81, 0, 0), (81, .ifCond .eq 7, 84, 88, 0), (84, .iconst 1, 85, 0, 1),
  (85, .goto 4, 88, 89, 0), (88, .iconst 0, 89, 0, 0), (89, .istore_n 3, 90, 0, 0), (90, .iinc 4 1, 93, 0, 1), (93, .goto (-45), 96, 48, 0), (96, .iload_n 3, 97, 0, 0), (97, .ifCond .ne 6, 100, 103, 0), (100, .bipush (-2), 102, 0, (-2)),
  (102, .ireturn, 103, 0, 0), (103, .aload_n 0, 104, 0, 0), (104, .getfield 1, 107, 0, 0), (107, .bipush 8, 109, 0, 8), (109, .if_icmp .ne 6, 112, 115, 0), (112, .bipush (-4), 114, 0, (-4)), (114, .ireturn, 115, 0, 0), (115, .iconst 0, 116, 0, 0),
  (116, .istore 4, 118, 0, 0), (118, .iload 4, 120, 0, 0), (120, .aload_n 0, 121, 0, 0), (121, .getfield 22, 124, 0, 0), (124, .iload_n 1, 125, 0, 0), (125, .iaload, 126, 0, 0), (126, .if_icmp .ge 36, 129, 162, 0), (129, .aload_n 0, 130, 0, 0),
  (130, .getfield 28, 133, 0, 0), (133, .bipush 10, 135, 0, 10), (135, .aload_n 0, 136, 0, 0), (136, .getfield 1, 139, 0, 0), (139, .imul, 140, 0, 0), (140, .iload 4, 142, 0, 0), (142, .iadd, 143, 0, 0), (143, .aload_n 0, 144, 0, 0),
  (144, .getfield 25, 147, 0, 0), (147, .bipush 40, 149, 0, 40), (149, .iload_n 1, 150, 0, 0), (150, .imul, 151, 0, 0), (151, .iload 4, 153, 0, 0), (153, .iadd, 154, 0, 0), (154, .iaload, 155, 0, 0), (155, .iastore, 156, 0, 0),
  (156, .iinc 4 1, 159, 0, 1), (159, .goto (-41), 162, 118, 0), (162, .aload_n 0, 163, 0, 0), (163, .getfield 31, 166, 0, 0), (166, .aload_n 0, 167, 0, 0), (167, .getfield 1, 170, 0, 0), (170, .aload_n 0, 171, 0, 0), (171, .getfield 22, 174, 0, 0),
  (174, .iload_n 1, 175, 0, 0), (175, .iaload, 176, 0, 0), (176, .iastore, 177, 0, 0), (177, .aload_n 0, 178, 0, 0), (178, .getfield 34, 181, 0, 0), (181, .aload_n 0, 182, 0, 0), (182, .getfield 1, 185, 0, 0), (185, .iload_n 2, 186, 0, 0),
  (186, .iastore, 187, 0, 0), (187, .aload_n 0, 188, 0, 0), (188, .dup, 189, 0, 0), (189, .getfield 1, 192, 0, 0), (192, .iconst 1, 193, 0, 1), (193, .iadd, 194, 0, 0), (194, .putfield 1, 197, 0, 0), (197, .aload_n 0, 198, 0, 0),
  (198, .getfield 1, 201, 0, 0), (201, .iconst 1, 202, 0, 1), (202, .isub, 203, 0, 0), (203, .ireturn, 204, 0, 0)]
abbrev M_X11_learn : MI := (yX11_learn, cX11_learn, 5, (some .int), 11, P_X11_learn)
theorem ok_X11_learn : okP 11 cX11_learn P_X11_learn = true := by decide +kernel
def P_X11_rule : List PE := [(0, .iload_n 1, 1, 0, 0), (1, .iconst 0, 2, 0, 0), (2, .iconst 5, 3, 0, 5), (3, .invokestatic 7, 6, 0, 0), (6, .ifCond .eq 23, 9, 29, 0), (9, .iload_n 2, 10, 0, 0), (10, .iconst 0, 11, 0, 0), (11, .bipush 25, 13, 0, 25),
  (13, .invokestatic 7, 16, 0, 0), (16, .ifCond .eq 13, 19, 29, 0), (19, .iload_n 3, 20, 0, 0), (20, .iconst 0, 21, 0, 0), (21, .bipush 25, 23, 0, 25), (23, .invokestatic 7, 26, 0, 0), (26, .ifCond .ne 6, 29, 32, 0), (29, .bipush (-2), 31, 0, (-2)),
  (31, .ireturn, 32, 0, 0), (32, .aload_n 0, 33, 0, 0), (33, .getfield 11, 36, 0, 0), (36, .bipush 6, 38, 0, 6), (38, .if_icmp .ne 6, 41, 44, 0), (41, .bipush (-4), 43, 0, (-4)), (43, .ireturn, 44, 0, 0), (44, .aload_n 0, 45, 0, 0),
  (45, .getfield 37, 48, 0, 0), (48, .aload_n 0, 49, 0, 0), (49, .getfield 11, 52, 0, 0), (52, .iload_n 1, 53, 0, 0), (53, .iastore, 54, 0, 0), (54, .aload_n 0, 55, 0, 0), (55, .getfield 40, 58, 0, 0), (58, .aload_n 0, 59, 0, 0),
  (59, .getfield 11, 62, 0, 0), (62, .iload_n 2, 63, 0, 0), (63, .iastore, 64, 0, 0), (64, .aload_n 0, 65, 0, 0), (65, .getfield 43, 68, 0, 0), (68, .aload_n 0, 69, 0, 0), (69, .getfield 11, 72, 0, 0), (72, .iload_n 3, 73, 0, 0),
  (73, .iastore, 74, 0, 0), (74, .aload_n 0, 75, 0, 0), (75, .dup, 76, 0, 0), (76, .getfield 11, 79, 0, 0), (79, .iconst 1, 80, 0, 1), (80, .iadd, 81, 0, 0), (81, .putfield 11, 84, 0, 0), (84, .aload_n 0, 85, 0, 0),
  (85, .getfield 11, 88, 0, 0), (88, .iconst 1, 89, 0, 1), (89, .isub, 90, 0, 0), (90, .ireturn, 91, 0, 0)]
abbrev M_X11_rule : MI := (yX11_rule, cX11_rule, 4, (some .int), 11, P_X11_rule)
theorem ok_X11_rule : okP 11 cX11_rule P_X11_rule = true := by decide +kernel
def P_X11_then : List PE := [(0, .aload_n 0, 1, 0, 0), (1, .iload_n 1, 2, 0, 0), (2, .invokevirtual 46, 5, 0, 0), (5, .ifCond .ne 6, 8, 11, 0), (8, .bipush (-2), 10, 0, (-2)), (10, .ireturn, 11, 0, 0), (11, .aload_n 0, 12, 0, 0), (12, .getfield 49, 15, 0, 0),
  (15, .bipush 8, 17, 0, 8), (17, .if_icmp .ne 6, 20, 23, 0), (20, .bipush (-4), 22, 0, (-4)), (22, .ireturn, 23, 0, 0), (23, .aload_n 0, 24, 0, 0), (24, .getfield 52, 27, 0, 0), (27, .aload_n 0, 28, 0, 0), (28, .getfield 49, 31, 0, 0),
  (31, .iload_n 1, 32, 0, 0), (32, .iastore, 33, 0, 0), (33, .aload_n 0, 34, 0, 0), (34, .dup, 35, 0, 0), (35, .getfield 49, 38, 0, 0), (38, .iconst 1, 39, 0, 1), (39, .iadd, 40, 0, 0), (40, .putfield 49, 43, 0, 0),
  (43, .aload_n 0, 44, 0, 0), (44, .getfield 49, 47, 0, 0), (47, .ireturn, 48, 0, 0)]
abbrev M_X11_then : MI := (yX11_then, cX11_then, 2, (some .int), 11, P_X11_then)
theorem ok_X11_then : okP 11 cX11_then P_X11_then = true := by decide +kernel
def P_X11_clear : List PE := [(0, .aload_n 0, 1, 0, 0), (1, .getfield 49, 4, 0, 0), (4, .istore_n 1, 5, 0, 0), (5, .aload_n 0, 6, 0, 0), (6, .iconst 0, 7, 0, 0), (7, .putfield 49, 10, 0, 0), (10, .iload_n 1, 11, 0, 0), (11, .ireturn, 12, 0, 0)]
abbrev M_X11_clear : MI := (yX11_clear, cX11_clear, 2, (some .int), 11, P_X11_clear)
theorem ok_X11_clear : okP 11 cX11_clear P_X11_clear = true := by decide +kernel
def P_X11_told : List PE := [(0, .iload_n 2, 1, 0, 0), (1, .tableswitch 174 0 6 #[43, 48, 68, 88, 108, 134, 154], 44, 0, 0), (44, .aload_n 0, 45, 0, 0), (45, .getfield 55, 48, 0, 0), (48, .ireturn, 49, 0, 0), (49, .aload_n 0, 50, 0, 0), (50, .iload_n 1, 51, 0, 0), (51, .invokevirtual 58, 54, 0, 0),
  (54, .ifCond .eq 12, 57, 66, 0), (57, .aload_n 0, 58, 0, 0), (58, .getfield 34, 61, 0, 0), (61, .iload_n 1, 62, 0, 0), (62, .iaload, 63, 0, 0), (63, .goto 5, 66, 68, 0), (66, .bipush (-100), 68, 0, (-100)), (68, .ireturn, 69, 0, 0),
  (69, .aload_n 0, 70, 0, 0), (70, .iload_n 1, 71, 0, 0), (71, .invokevirtual 46, 74, 0, 0), (74, .ifCond .eq 12, 77, 86, 0), (77, .aload_n 0, 78, 0, 0), (78, .getfield 40, 81, 0, 0), (81, .iload_n 1, 82, 0, 0), (82, .iaload, 83, 0, 0),
  (83, .goto 5, 86, 88, 0), (86, .bipush (-100), 88, 0, (-100)), (88, .ireturn, 89, 0, 0), (89, .aload_n 0, 90, 0, 0), (90, .iload_n 1, 91, 0, 0), (91, .invokevirtual 46, 94, 0, 0), (94, .ifCond .eq 12, 97, 106, 0), (97, .aload_n 0, 98, 0, 0),
  (98, .getfield 43, 101, 0, 0), (101, .iload_n 1, 102, 0, 0), (102, .iaload, 103, 0, 0), (103, .goto 5, 106, 108, 0), (106, .bipush (-100), 108, 0, (-100)), (108, .ireturn, 109, 0, 0), (109, .iload_n 1, 110, 0, 0), (110, .iconst 0, 111, 0, 0),
  (111, .aload_n 0, 112, 0, 0), (112, .getfield 49, 115, 0, 0), (115, .iconst 1, 116, 0, 1), (116, .isub, 117, 0, 0), (117, .invokestatic 7, 120, 0, 0), (120, .ifCond .eq 12, 123, 132, 0), (123, .aload_n 0, 124, 0, 0), (124, .getfield 52, 127, 0, 0),
  (127, .iload_n 1, 128, 0, 0), (128, .iaload, 129, 0, 0), (129, .goto 5, 132, 134, 0), (132, .bipush (-100), 134, 0, (-100)), (134, .ireturn, 135, 0, 0), (135, .aload_n 0, 136, 0, 0), (136, .iload_n 1, 137, 0, 0), (137, .invokevirtual 46, 140, 0, 0),
  (140, .ifCond .eq 12, 143, 152, 0), (143, .aload_n 0, 144, 0, 0), (144, .getfield 37, 147, 0, 0), (147, .iload_n 1, 148, 0, 0), (148, .iaload, 149, 0, 0), (149, .goto 5, 152, 154, 0), (152, .bipush (-100), 154, 0, (-100)), (154, .ireturn, 155, 0, 0),
  (155, .aload_n 0, 156, 0, 0), (156, .iload_n 1, 157, 0, 0), (157, .invokevirtual 58, 160, 0, 0), (160, .ifCond .eq 12, 163, 172, 0), (163, .aload_n 0, 164, 0, 0), (164, .getfield 31, 167, 0, 0), (167, .iload_n 1, 168, 0, 0), (168, .iaload, 169, 0, 0),
  (169, .goto 5, 172, 174, 0), (172, .bipush (-100), 174, 0, (-100)), (174, .ireturn, 175, 0, 0), (175, .aload_n 0, 176, 0, 0), (176, .iload_n 1, 177, 0, 0), (177, .invokevirtual 58, 180, 0, 0), (180, .ifCond .eq 14, 183, 194, 0), (183, .iload_n 2, 184, 0, 0),
  (184, .bipush 10, 186, 0, 10), (186, .bipush 19, 188, 0, 19), (188, .invokestatic 7, 191, 0, 0), (191, .ifCond .ne 6, 194, 197, 0), (194, .bipush (-100), 196, 0, (-100)), (196, .ireturn, 197, 0, 0), (197, .iload_n 2, 198, 0, 0), (198, .bipush 10, 200, 0, 10),
  (200, .isub, 201, 0, 0), (201, .aload_n 0, 202, 0, 0), (202, .getfield 31, 205, 0, 0), (205, .iload_n 1, 206, 0, 0), (206, .iaload, 207, 0, 0), (207, .if_icmp .ge 20, 210, 227, 0), (210, .aload_n 0, 211, 0, 0), (211, .getfield 28, 214, 0, 0),
  (214, .bipush 10, 216, 0, 10), (216, .iload_n 1, 217, 0, 0), (217, .imul, 218, 0, 0), (218, .iload_n 2, 219, 0, 0), (219, .iadd, 220, 0, 0), (220, .bipush 10, 222, 0, 10), (222, .isub, 223, 0, 0), (223, .iaload, 224, 0, 0),
  (224, .goto 4, 227, 228, 0), (227, .iconst (-1), 228, 0, (-1)), (228, .ireturn, 229, 0, 0)]
abbrev M_X11_told : MI := (yX11_told, cX11_told, 3, (some .int), 11, P_X11_told)
theorem ok_X11_told : okP 11 cX11_told P_X11_told = true := by decide +kernel
def P_X11_set : List PE := [(0, .iload_n 1, 1, 0, 0), (1, .iconst 0, 2, 0, 0), (2, .iconst 4, 3, 0, 4), (3, .invokestatic 7, 6, 0, 0), (6, .ifCond .eq 12, 9, 18, 0), (9, .aload_n 0, 10, 0, 0), (10, .iload_n 2, 11, 0, 0), (11, .iload_n 1, 12, 0, 0),
  (12, .invokevirtual 61, 15, 0, 0), (15, .goto 5, 18, 20, 0), (18, .bipush (-100), 20, 0, (-100)), (20, .istore 4, 22, 0, 0), (22, .iload_n 1, 23, 0, 0), (23, .ifCond .ne 8, 26, 31, 0), (26, .ldc 65, 28, 999, 67108863), (28, .goto 29, 31, 57, 0),
  (31, .iload_n 1, 32, 0, 0), (32, .iconst 1, 33, 0, 1), (33, .if_icmp .ne 8, 36, 41, 0), (36, .bipush 99, 38, 0, 99), (38, .goto 19, 41, 57, 0), (41, .iload_n 1, 42, 0, 0), (42, .iconst 4, 43, 0, 4), (43, .if_icmp .ne 12, 46, 55, 0),
  (46, .aload_n 0, 47, 0, 0), (47, .getfield 11, 50, 0, 0), (50, .iconst 1, 51, 0, 1), (51, .isub, 52, 0, 0), (52, .goto 5, 55, 57, 0), (55, .bipush 25, 57, 0, 25), (57, .istore 5, 59, 0, 0), (59, .iload 4, 61, 0, 0),
  (61, .bipush (-100), 63, 0, (-100)), (63, .if_icmp .eq 13, 66, 76, 0), (66, .iload_n 3, 67, 0, 0), (67, .iconst 0, 68, 0, 0), (68, .iload 5, 70, 0, 0), (70, .invokestatic 7, 73, 0, 0), (73, .ifCond .ne 6, 76, 79, 0), (76, .bipush (-100), 78, 0, (-100)),
  (78, .ireturn, 79, 0, 0), (79, .iload_n 1, 80, 0, 0), (80, .tableswitch 70 0 3 #[32, 40, 50, 60], 112, 0, 0), (112, .aload_n 0, 113, 0, 0), (113, .iload_n 3, 114, 0, 0), (114, .putfield 55, 117, 0, 0), (117, .goto 40, 120, 157, 0), (120, .aload_n 0, 121, 0, 0),
  (121, .getfield 34, 124, 0, 0), (124, .iload_n 2, 125, 0, 0), (125, .iload_n 3, 126, 0, 0), (126, .iastore, 127, 0, 0), (127, .goto 30, 130, 157, 0), (130, .aload_n 0, 131, 0, 0), (131, .getfield 40, 134, 0, 0), (134, .iload_n 2, 135, 0, 0),
  (135, .iload_n 3, 136, 0, 0), (136, .iastore, 137, 0, 0), (137, .goto 20, 140, 157, 0), (140, .aload_n 0, 141, 0, 0), (141, .getfield 43, 144, 0, 0), (144, .iload_n 2, 145, 0, 0), (145, .iload_n 3, 146, 0, 0), (146, .iastore, 147, 0, 0),
  (147, .goto 10, 150, 157, 0), (150, .aload_n 0, 151, 0, 0), (151, .getfield 52, 154, 0, 0), (154, .iload_n 2, 155, 0, 0), (155, .iload_n 3, 156, 0, 0), (156, .iastore, 157, 0, 0), (157, .iload 4, 159, 0, 0), (159, .ireturn, 160, 0, 0)]
abbrev M_X11_set : MI := (yX11_set, cX11_set, 6, (some .int), 11, P_X11_set)
theorem ok_X11_set : okP 11 cX11_set P_X11_set = true := by decide +kernel
def P_X11_feed : List PE := [(0, .iload_n 1, 1, 0, 0), (1, .iconst 0, 2, 0, 0), (2, .sipush 255, 5, 0, 255), (5, .invokestatic 7, 8, 0, 0), (8, .ifCond .ne 6, 11, 14, 0), (11, .bipush (-2), 13, 0, (-2)), (13, .ireturn, 14, 0, 0), (14, .aload_n 0, 15, 0, 0),
  (15, .getfield 66, 18, 0, 0), (18, .sipush 160, 21, 0, 160), (21, .if_icmp .ne 6, 24, 27, 0), (24, .bipush (-4), 26, 0, (-4)), (26, .ireturn, 27, 0, 0), (27, .aload_n 0, 28, 0, 0), (28, .getfield 69, 31, 0, 0), (31, .aload_n 0, 32, 0, 0),
  (32, .getfield 66, 35, 0, 0), (35, .iload_n 1, 36, 0, 0), (36, .iastore, 37, 0, 0), (37, .aload_n 0, 38, 0, 0), (38, .dup, 39, 0, 0), (39, .getfield 66, 42, 0, 0), (42, .iconst 1, 43, 0, 1), (43, .iadd, 44, 0, 0),
  (44, .putfield 66, 47, 0, 0), (47, .aload_n 0, 48, 0, 0), (48, .getfield 66, 51, 0, 0), (51, .ireturn, 52, 0, 0)]
abbrev M_X11_feed : MI := (yX11_feed, cX11_feed, 2, (some .int), 11, P_X11_feed)
theorem ok_X11_feed : okP 11 cX11_feed P_X11_feed = true := by decide +kernel
def P_X11_isLetter : List PE := [(0, .iload_n 1, 1, 0, 0), (1, .aload_n 0, 2, 0, 0), (2, .getfield 66, 5, 0, 0), (5, .if_icmp .ge 29, 8, 34, 0), (8, .aload_n 0, 9, 0, 0), (9, .getfield 69, 12, 0, 0), (12, .iload_n 1, 13, 0, 0), (13, .iaload, 14, 0, 0),
  (14, .bipush 97, 16, 0, 97), (16, .if_icmp .lt 18, 19, 34, 0), (19, .aload_n 0, 20, 0, 0), (20, .getfield 69, 23, 0, 0), (23, .iload_n 1, 24, 0, 0), (24, .iaload, 25, 0, 0), (25, .bipush 122, 27, 0, 122), (27, .if_icmp .gt 7, 30, 34, 0),
  (30, .iconst 1, 31, 0, 1), (31, .goto 4, 34, 35, 0), (34, .iconst 0, 35, 0, 0), (35, .ireturn, 36, 0, 0)]
abbrev M_X11_isLetter : MI := (yX11_isLetter, cX11_isLetter, 2, (some .boolean), 11, P_X11_isLetter)
theorem ok_X11_isLetter : okP 11 cX11_isLetter P_X11_isLetter = true := by decide +kernel
def P_X11_isDigit : List PE := [(0, .iload_n 1, 1, 0, 0), (1, .aload_n 0, 2, 0, 0), (2, .getfield 66, 5, 0, 0), (5, .if_icmp .ge 29, 8, 34, 0), (8, .aload_n 0, 9, 0, 0), (9, .getfield 69, 12, 0, 0), (12, .iload_n 1, 13, 0, 0), (13, .iaload, 14, 0, 0),
  (14, .bipush 48, 16, 0, 48), (16, .if_icmp .lt 18, 19, 34, 0), (19, .aload_n 0, 20, 0, 0), (20, .getfield 69, 23, 0, 0), (23, .iload_n 1, 24, 0, 0), (24, .iaload, 25, 0, 0), (25, .bipush 57, 27, 0, 57), (27, .if_icmp .gt 7, 30, 34, 0),
  (30, .iconst 1, 31, 0, 1), (31, .goto 4, 34, 35, 0), (34, .iconst 0, 35, 0, 0), (35, .ireturn, 36, 0, 0)]
abbrev M_X11_isDigit : MI := (yX11_isDigit, cX11_isDigit, 2, (some .boolean), 11, P_X11_isDigit)
theorem ok_X11_isDigit : okP 11 cX11_isDigit P_X11_isDigit = true := by decide +kernel
def P_X11_readWord : List PE := [(0, .aload_n 0, 1, 0, 0), (1, .aload_n 0, 2, 0, 0), (2, .getfield 72, 5, 0, 0), (5, .invokevirtual 75, 8, 0, 0), (8, .ifCond .eq 16, 11, 24, 0), (11, .aload_n 0, 12, 0, 0), (12, .dup, 13, 0, 0), (13, .getfield 72, 16, 0, 0),
  (16, .iconst 1, 17, 0, 1), (17, .iadd, 18, 0, 0), (18, .putfield 72, 21, 0, 0), (21, .goto (-21), 24, 0, 0), (24, .aload_n 0, 25, 0, 0), (25, .bipush 6, 27, 0, 6), (27, .putfield 78, 30, 0, 0), (30, .iconst 0, 31, 0, 0),
  (31, .istore_n 1, 32, 0, 0), (32, .iload_n 1, 33, 0, 0), (33, .bipush 12, 35, 0, 12), (35, .if_icmp .ge 135, 38, 170, 0), (38, .aload_n 0, 39, 0, 0), (39, .getfield 81, 42, 0, 0), (42, .iload_n 1, 43, 0, 0), (43, .iconst 1, 44, 0, 1),
  (44, .iadd, 45, 0, 0), (45, .iaload, 46, 0, 0), (46, .aload_n 0, 47, 0, 0), (47, .getfield 81, 50, 0, 0), (50, .iload_n 1, 51, 0, 0), (51, .iaload, 52, 0, 0), (52, .isub, 53, 0, 0), (53, .istore_n 2, 54, 0, 0),
  (54, .iload_n 2, 55, 0, 0), (55, .aload_n 0, 56, 0, 0), (56, .getfield 72, 59, 0, 0), (59, .aload_n 0, 60, 0, 0), (60, .getfield 84, 63, 0, 0), (63, .isub, 64, 0, 0), (64, .if_icmp .ne 7, 67, 71, 0), (67, .iconst 1, 68, 0, 1),
  (68, .goto 4, 71, 72, 0), (71, .iconst 0, 72, 0, 0), (72, .istore_n 3, 73, 0, 0), (73, .iconst 0, 74, 0, 0), (74, .istore 4, 76, 0, 0), (76, .iload 4, 78, 0, 0), (78, .iload_n 2, 79, 0, 0), (79, .if_icmp .ge 48, 82, 127, 0),
  (82, .iload_n 3, 83, 0, 0), (83, .ifCond .eq 44, 86, 127, 0), (86, .aload_n 0, 87, 0, 0), (87, .getfield 69, 90, 0, 0), (90, .aload_n 0, 91, 0, 0), (91, .getfield 84, 94, 0, 0), (94, .iload 4, 96, 0, 0), (96, .iadd, 97, 0, 0),
  (97, .iaload, 98, 0, 0), (98, .aload_n 0, 99, 0, 0), (99, .getfield 87, 102, 0, 0), (102, .aload_n 0, 103, 0, 0), (103, .getfield 81, 106, 0, 0), (106, .iload_n 1, 107, 0, 0), (107, .iaload, 108, 0, 0), (108, .iload 4, 110, 0, 0),
  (110, .iadd, 111, 0, 0), (111, .caload, 112, 0, 0), (112, .if_icmp .ne 7, 115, 119, 0), (115, .iconst 1, 116, 0, 1), (116, .goto 4, 119, 120, 0), (119, .iconst 0, 120, 0, 0), (120, .istore_n 3, 121, 0, 0), (121, .iinc 4 1, 124, 0, 1),
  (124, .goto (-48), 127, 76, 0), (127, .iload_n 3, 128, 0, 0), (128, .ifCond .eq 36, 131, 164, 0), (131, .aload_n 0, 132, 0, 0), (132, .iload_n 1, 133, 0, 0), (133, .bipush 6, 135, 0, 6), (135, .if_icmp .ge 7, 138, 142, 0), (138, .iconst 2, 139, 0, 2),
  (139, .goto 4, 142, 143, 0), (142, .iconst 3, 143, 0, 3), (143, .putfield 78, 146, 0, 0), (146, .aload_n 0, 147, 0, 0), (147, .iload_n 1, 148, 0, 0), (148, .bipush 6, 150, 0, 6), (150, .if_icmp .ge 7, 153, 157, 0), (153, .iload_n 1, 154, 0, 0),
  (154, .goto 7, 157, 161, 0), (157, .iload_n 1, 158, 0, 0), (158, .bipush 6, 160, 0, 6), (160, .isub, 161, 0, 0), (161, .putfield 91, 164, 0, 0), (164, .iinc 1 1, 167, 0, 1), (167, .goto (-135), 170, 32, 0), (170, .return_, 171, 0, 0)]
abbrev M_X11_readWord : MI := (yX11_readWord, cX11_readWord, 5, none, 11, P_X11_readWord)
theorem ok_X11_readWord : okP 11 cX11_readWord P_X11_readWord = true := by decide +kernel
def P_X11_readNumber : List PE := [(0, .aload_n 0, 1, 0, 0), (1, .iconst 0, 2, 0, 0), (2, .putfield 91, 5, 0, 0), (5, .aload_n 0, 6, 0, 0), (6, .aload_n 0, 7, 0, 0), (7, .getfield 72, 10, 0, 0), (10, .invokevirtual 94, 13, 0, 0), (13, .ifCond .eq 60, 16, 73, 0),
  (16, .aload_n 0, 17, 0, 0), (17, .aload_n 0, 18, 0, 0), (18, .getfield 72, 21, 0, 0), (21, .aload_n 0, 22, 0, 0), (22, .getfield 84, 25, 0, 0), (25, .isub, 26, 0, 0), (26, .iconst 4, 27, 0, 4), (27, .if_icmp .ge 26, 30, 53, 0),
  (30, .bipush 10, 32, 0, 10), (32, .aload_n 0, 33, 0, 0), (33, .getfield 91, 36, 0, 0), (36, .imul, 37, 0, 0), (37, .aload_n 0, 38, 0, 0), (38, .getfield 69, 41, 0, 0), (41, .aload_n 0, 42, 0, 0), (42, .getfield 72, 45, 0, 0),
  (45, .iaload, 46, 0, 0), (46, .iadd, 47, 0, 0), (47, .bipush 48, 49, 0, 48), (49, .isub, 50, 0, 0), (50, .goto 7, 53, 57, 0), (53, .aload_n 0, 54, 0, 0), (54, .getfield 91, 57, 0, 0), (57, .putfield 91, 60, 0, 0),
  (60, .aload_n 0, 61, 0, 0), (61, .dup, 62, 0, 0), (62, .getfield 72, 65, 0, 0), (65, .iconst 1, 66, 0, 1), (66, .iadd, 67, 0, 0), (67, .putfield 72, 70, 0, 0), (70, .goto (-65), 73, 5, 0), (73, .aload_n 0, 74, 0, 0),
  (74, .aload_n 0, 75, 0, 0), (75, .getfield 72, 78, 0, 0), (78, .aload_n 0, 79, 0, 0), (79, .getfield 84, 82, 0, 0), (82, .isub, 83, 0, 0), (83, .iconst 4, 84, 0, 4), (84, .if_icmp .le 8, 87, 92, 0), (87, .bipush 6, 89, 0, 6),
  (89, .goto 4, 92, 93, 0), (92, .iconst 1, 93, 0, 1), (93, .putfield 78, 96, 0, 0), (96, .return_, 97, 0, 0)]
abbrev M_X11_readNumber : MI := (yX11_readNumber, cX11_readNumber, 1, none, 11, P_X11_readNumber)
theorem ok_X11_readNumber : okP 11 cX11_readNumber P_X11_readNumber = true := by decide +kernel
def P_X11_next : List PE := [(0, .aload_n 0, 1, 0, 0), (1, .getfield 72, 4, 0, 0), (4, .aload_n 0, 5, 0, 0), (5, .getfield 66, 8, 0, 0), (8, .if_icmp .ge 44, 11, 52, 0), (11, .aload_n 0, 12, 0, 0), (12, .getfield 69, 15, 0, 0), (15, .aload_n 0, 16, 0, 0),
  (16, .getfield 72, 19, 0, 0), (19, .iaload, 20, 0, 0), (20, .bipush 32, 22, 0, 32), (22, .if_icmp .eq 17, 25, 39, 0), (25, .aload_n 0, 26, 0, 0), (26, .getfield 69, 29, 0, 0), (29, .aload_n 0, 30, 0, 0), (30, .getfield 72, 33, 0, 0),
  (33, .iaload, 34, 0, 0), (34, .bipush 10, 36, 0, 10), (36, .if_icmp .ne 16, 39, 52, 0), (39, .aload_n 0, 40, 0, 0), (40, .dup, 41, 0, 0), (41, .getfield 72, 44, 0, 0), (44, .iconst 1, 45, 0, 1), (45, .iadd, 46, 0, 0),
  (46, .putfield 72, 49, 0, 0), (49, .goto (-49), 52, 0, 0), (52, .aload_n 0, 53, 0, 0), (53, .aload_n 0, 54, 0, 0), (54, .getfield 72, 57, 0, 0), (57, .putfield 84, 60, 0, 0), (60, .aload_n 0, 61, 0, 0), (61, .getfield 72, 64, 0, 0),
  (64, .aload_n 0, 65, 0, 0), (65, .getfield 66, 68, 0, 0), (68, .if_icmp .ne 11, 71, 79, 0), (71, .aload_n 0, 72, 0, 0), (72, .iconst 5, 73, 0, 5), (73, .putfield 78, 76, 0, 0), (76, .goto 154, 79, 230, 0), (79, .aload_n 0, 80, 0, 0),
  (80, .aload_n 0, 81, 0, 0), (81, .getfield 72, 84, 0, 0), (84, .invokevirtual 75, 87, 0, 0), (87, .ifCond .eq 10, 90, 97, 0), (90, .aload_n 0, 91, 0, 0), (91, .invokevirtual 97, 94, 0, 0), (94, .goto 136, 97, 230, 0), (97, .aload_n 0, 98, 0, 0),
  (98, .aload_n 0, 99, 0, 0), (99, .getfield 72, 102, 0, 0), (102, .invokevirtual 94, 105, 0, 0), (105, .ifCond .eq 10, 108, 115, 0), (108, .aload_n 0, 109, 0, 0), (109, .invokevirtual 101, 112, 0, 0), (112, .goto 118, 115, 230, 0), (115, .aload_n 0, 116, 0, 0),
  (116, .aload_n 0, 117, 0, 0), (117, .getfield 69, 120, 0, 0), (120, .aload_n 0, 121, 0, 0), (121, .getfield 72, 124, 0, 0), (124, .iaload, 125, 0, 0), (125, .putfield 91, 128, 0, 0), (128, .aload_n 0, 129, 0, 0), (129, .getfield 91, 132, 0, 0),
  (132, .bipush 40, 134, 0, 40), (134, .if_icmp .eq 66, 137, 200, 0), (137, .aload_n 0, 138, 0, 0), (138, .getfield 91, 141, 0, 0), (141, .bipush 41, 143, 0, 41), (143, .if_icmp .eq 57, 146, 200, 0), (146, .aload_n 0, 147, 0, 0), (147, .getfield 91, 150, 0, 0),
  (150, .bipush 59, 152, 0, 59), (152, .if_icmp .eq 48, 155, 200, 0), (155, .aload_n 0, 156, 0, 0), (156, .getfield 91, 159, 0, 0), (159, .bipush 43, 161, 0, 43), (161, .if_icmp .eq 39, 164, 200, 0), (164, .aload_n 0, 165, 0, 0), (165, .getfield 91, 168, 0, 0),
  (168, .bipush 45, 170, 0, 45), (170, .if_icmp .eq 30, 173, 200, 0), (173, .aload_n 0, 174, 0, 0), (174, .getfield 91, 177, 0, 0), (177, .bipush 42, 179, 0, 42), (179, .if_icmp .eq 21, 182, 200, 0), (182, .aload_n 0, 183, 0, 0), (183, .getfield 91, 186, 0, 0),
  (186, .bipush 60, 188, 0, 60), (188, .if_icmp .eq 12, 191, 200, 0), (191, .aload_n 0, 192, 0, 0), (192, .getfield 91, 195, 0, 0), (195, .bipush 61, 197, 0, 61), (197, .if_icmp .ne 7, 200, 204, 0), (200, .iconst 1, 201, 0, 1), (201, .goto 4, 204, 205, 0),
  (204, .iconst 0, 205, 0, 0), (205, .istore_n 1, 206, 0, 0), (206, .aload_n 0, 207, 0, 0), (207, .iload_n 1, 208, 0, 0), (208, .ifCond .eq 7, 211, 215, 0), (211, .iconst 4, 212, 0, 4), (212, .goto 5, 215, 217, 0), (215, .bipush 6, 217, 0, 6),
  (217, .putfield 78, 220, 0, 0), (220, .aload_n 0, 221, 0, 0), (221, .dup, 222, 0, 0), (222, .getfield 72, 225, 0, 0), (225, .iconst 1, 226, 0, 1), (226, .iadd, 227, 0, 0), (227, .putfield 72, 230, 0, 0), (230, .return_, 231, 0, 0)]
abbrev M_X11_next : MI := (yX11_next, cX11_next, 2, none, 11, P_X11_next)
theorem ok_X11_next : okP 11 cX11_next P_X11_next = true := by decide +kernel
def P_X11_isSign : List PE := [(0, .aload_n 0, 1, 0, 0), (1, .getfield 78, 4, 0, 0), (4, .iconst 4, 5, 0, 4), (5, .if_icmp .ne 15, 8, 20, 0), (8, .aload_n 0, 9, 0, 0), (9, .getfield 91, 12, 0, 0), (12, .iload_n 1, 13, 0, 0), (13, .if_icmp .ne 7, 16, 20, 0),
  (16, .iconst 1, 17, 0, 1), (17, .goto 4, 20, 21, 0), (20, .iconst 0, 21, 0, 0), (21, .ireturn, 22, 0, 0)]
abbrev M_X11_isSign : MI := (yX11_isSign, cX11_isSign, 2, (some .boolean), 11, P_X11_isSign)
theorem ok_X11_isSign : okP 11 cX11_isSign P_X11_isSign = true := by decide +kernel
def P_X11_isKey : List PE := [(0, .aload_n 0, 1, 0, 0), (1, .getfield 78, 4, 0, 0), (4, .iconst 3, 5, 0, 3), (5, .if_icmp .ne 15, 8, 20, 0), (8, .aload_n 0, 9, 0, 0), (9, .getfield 91, 12, 0, 0), (12, .iload_n 1, 13, 0, 0), (13, .if_icmp .ne 7, 16, 20, 0),
  (16, .iconst 1, 17, 0, 1), (17, .goto 4, 20, 21, 0), (20, .iconst 0, 21, 0, 0), (21, .ireturn, 22, 0, 0)]
abbrev M_X11_isKey : MI := (yX11_isKey, cX11_isKey, 2, (some .boolean), 11, P_X11_isKey)
theorem ok_X11_isKey : okP 11 cX11_isKey P_X11_isKey = true := by decide +kernel
def P_X11_emit : List PE := [(0, .aload_n 0, 1, 0, 0), (1, .getfield 104, 4, 0, 0), (4, .aload_n 0, 5, 0, 0), (5, .getfield 107, 8, 0, 0), (8, .aload_n 0, 9, 0, 0), (9, .getfield 110, 12, 0, 0), (12, .iadd, 13, 0, 0), (13, .iload_n 1, 14, 0, 0),
  (14, .iastore, 15, 0, 0), (15, .aload_n 0, 16, 0, 0), (16, .dup, 17, 0, 0), (17, .getfield 110, 20, 0, 0), (20, .iconst 1, 21, 0, 1), (21, .iadd, 22, 0, 0), (22, .putfield 110, 25, 0, 0), (25, .return_, 26, 0, 0)]
abbrev M_X11_emit : MI := (yX11_emit, cX11_emit, 2, none, 11, P_X11_emit)
theorem ok_X11_emit : okP 11 cX11_emit P_X11_emit = true := by decide +kernel
def P_X11_rank : List PE := [(0, .iload_n 0, 1, 0, 0), (1, .bipush 10, 3, 0, 10), (3, .if_icmp .ne 7, 6, 10, 0), (6, .iconst 1, 7, 0, 1), (7, .goto 78, 10, 85, 0), (10, .iload_n 0, 11, 0, 0), (11, .bipush 11, 13, 0, 11), (13, .if_icmp .ne 7, 16, 20, 0),
  (16, .iconst 2, 17, 0, 2), (17, .goto 68, 20, 85, 0), (20, .iload_n 0, 21, 0, 0), (21, .bipush 12, 23, 0, 12), (23, .if_icmp .ne 7, 26, 30, 0), (26, .iconst 3, 27, 0, 3), (27, .goto 58, 30, 85, 0), (30, .iload_n 0, 31, 0, 0),
  (31, .bipush 13, 33, 0, 13), (33, .if_icmp .eq 9, 36, 42, 0), (36, .iload_n 0, 37, 0, 0), (37, .bipush 14, 39, 0, 14), (39, .if_icmp .ne 7, 42, 46, 0), (42, .iconst 4, 43, 0, 4), (43, .goto 42, 46, 85, 0), (46, .iload_n 0, 47, 0, 0),
  (47, .bipush 15, 49, 0, 15), (49, .if_icmp .eq 9, 52, 58, 0), (52, .iload_n 0, 53, 0, 0), (53, .bipush 16, 55, 0, 16), (55, .if_icmp .ne 7, 58, 62, 0), (58, .iconst 5, 59, 0, 5), (59, .goto 26, 62, 85, 0), (62, .iload_n 0, 63, 0, 0),
  (63, .bipush 17, 65, 0, 17), (65, .if_icmp .ne 8, 68, 73, 0), (68, .bipush 6, 70, 0, 6), (70, .goto 15, 73, 85, 0), (73, .iload_n 0, 74, 0, 0), (74, .bipush 18, 76, 0, 18), (76, .if_icmp .ne 8, 79, 84, 0), (79, .bipush 7, 81, 0, 7),
  (81, .goto 4, 84, 85, 0), (84, .iconst 0, 85, 0, 0), (85, .ireturn, 86, 0, 0)]
abbrev M_X11_rank : MI := (yX11_rank, cX11_rank, 1, (some .int), 11, P_X11_rank)
theorem ok_X11_rank : okP 11 cX11_rank P_X11_rank = true := by decide +kernel
def P_X11_doAll : List PE := [(0, .aload_n 0, 1, 0, 0), (1, .getfield 113, 4, 0, 0), (4, .ifCond .le 105, 7, 109, 0), (7, .aload_n 0, 8, 0, 0), (8, .getfield 116, 11, 0, 0), (11, .aload_n 0, 12, 0, 0), (12, .getfield 113, 15, 0, 0), (15, .iconst 1, 16, 0, 1),
  (16, .isub, 17, 0, 0), (17, .iaload, 18, 0, 0), (18, .bipush 30, 20, 0, 30), (20, .if_icmp .eq 89, 23, 109, 0), (23, .aload_n 0, 24, 0, 0), (24, .getfield 116, 27, 0, 0), (27, .aload_n 0, 28, 0, 0), (28, .getfield 113, 31, 0, 0),
  (31, .iconst 1, 32, 0, 1), (32, .isub, 33, 0, 0), (33, .iaload, 34, 0, 0), (34, .invokestatic 119, 37, 0, 0), (37, .iload_n 1, 38, 0, 0), (38, .if_icmp .lt 71, 41, 109, 0), (41, .aload_n 0, 42, 0, 0), (42, .dup, 43, 0, 0),
  (43, .getfield 113, 46, 0, 0), (46, .iconst 1, 47, 0, 1), (47, .isub, 48, 0, 0), (48, .putfield 113, 51, 0, 0), (51, .aload_n 0, 52, 0, 0), (52, .dup, 53, 0, 0), (53, .getfield 123, 56, 0, 0), (56, .aload_n 0, 57, 0, 0),
  (57, .getfield 116, 60, 0, 0), (60, .aload_n 0, 61, 0, 0), (61, .getfield 113, 64, 0, 0), (64, .iaload, 65, 0, 0), (65, .bipush 12, 67, 0, 12), (67, .if_icmp .eq 17, 70, 84, 0), (70, .aload_n 0, 71, 0, 0), (71, .getfield 116, 74, 0, 0),
  (74, .aload_n 0, 75, 0, 0), (75, .getfield 113, 78, 0, 0), (78, .iaload, 79, 0, 0), (79, .bipush 18, 81, 0, 18), (81, .if_icmp .ne 7, 84, 88, 0), (84, .iconst 1, 85, 0, 1), (85, .goto 4, 88, 89, 0), (88, .iconst 0, 89, 0, 0),
  (89, .isub, 90, 0, 0), (90, .putfield 123, 93, 0, 0), (93, .aload_n 0, 94, 0, 0), (94, .aload_n 0, 95, 0, 0), (95, .getfield 116, 98, 0, 0), (98, .aload_n 0, 99, 0, 0), (99, .getfield 113, 102, 0, 0), (102, .iaload, 103, 0, 0),
  (103, .invokevirtual 126, 106, 0, 0), (106, .goto (-106), 109, 0, 0), (109, .return_, 110, 0, 0)]
abbrev M_X11_doAll : MI := (yX11_doAll, cX11_doAll, 2, none, 11, P_X11_doAll)
theorem ok_X11_doAll : okP 11 cX11_doAll P_X11_doAll = true := by decide +kernel
def P_X11_await : List PE := [(0, .aload_n 0, 1, 0, 0), (1, .getfield 116, 4, 0, 0), (4, .aload_n 0, 5, 0, 0), (5, .getfield 113, 8, 0, 0), (8, .iload_n 1, 9, 0, 0), (9, .iastore, 10, 0, 0), (10, .aload_n 0, 11, 0, 0), (11, .dup, 12, 0, 0),
  (12, .getfield 113, 15, 0, 0), (15, .iconst 1, 16, 0, 1), (16, .iadd, 17, 0, 0), (17, .putfield 113, 20, 0, 0), (20, .return_, 21, 0, 0)]
abbrev M_X11_await : MI := (yX11_await, cX11_await, 2, none, 11, P_X11_await)
theorem ok_X11_await : okP 11 cX11_await P_X11_await = true := by decide +kernel
def P_X11_between : List PE := [(0, .aload_n 0, 1, 0, 0), (1, .bipush 43, 3, 0, 43), (3, .invokevirtual 130, 6, 0, 0), (6, .ifCond .eq 8, 9, 14, 0), (9, .bipush 15, 11, 0, 15), (11, .goto 86, 14, 97, 0), (14, .aload_n 0, 15, 0, 0), (15, .bipush 45, 17, 0, 45),
  (17, .invokevirtual 130, 20, 0, 0), (20, .ifCond .eq 8, 23, 28, 0), (23, .bipush 16, 25, 0, 16), (25, .goto 72, 28, 97, 0), (28, .aload_n 0, 29, 0, 0), (29, .bipush 42, 31, 0, 42), (31, .invokevirtual 130, 34, 0, 0), (34, .ifCond .eq 8, 37, 42, 0),
  (37, .bipush 17, 39, 0, 17), (39, .goto 58, 42, 97, 0), (42, .aload_n 0, 43, 0, 0), (43, .bipush 60, 45, 0, 60), (45, .invokevirtual 130, 48, 0, 0), (48, .ifCond .eq 8, 51, 56, 0), (51, .bipush 13, 53, 0, 13), (53, .goto 44, 56, 97, 0),
  (56, .aload_n 0, 57, 0, 0), (57, .bipush 61, 59, 0, 61), (59, .invokevirtual 130, 62, 0, 0), (62, .ifCond .eq 8, 65, 70, 0), (65, .bipush 14, 67, 0, 14), (67, .goto 30, 70, 97, 0), (70, .aload_n 0, 71, 0, 0), (71, .iconst 4, 72, 0, 4),
  (72, .invokevirtual 133, 75, 0, 0), (75, .ifCond .eq 8, 78, 83, 0), (78, .bipush 11, 80, 0, 11), (80, .goto 17, 83, 97, 0), (83, .aload_n 0, 84, 0, 0), (84, .iconst 3, 85, 0, 3), (85, .invokevirtual 133, 88, 0, 0), (88, .ifCond .eq 8, 91, 96, 0),
  (91, .bipush 10, 93, 0, 10), (93, .goto 4, 96, 97, 0), (96, .iconst (-1), 97, 0, (-1)), (97, .istore_n 1, 98, 0, 0), (98, .iload_n 1, 99, 0, 0), (99, .iconst (-1), 100, 0, (-1)), (100, .if_icmp .eq 23, 103, 123, 0), (103, .iload_n 1, 104, 0, 0),
  (104, .invokestatic 119, 107, 0, 0), (107, .iconst 4, 108, 0, 4), (108, .if_icmp .ne 17, 111, 125, 0), (111, .aload_n 0, 112, 0, 0), (112, .getfield 136, 115, 0, 0), (115, .aload_n 0, 116, 0, 0), (116, .getfield 140, 119, 0, 0), (119, .baload, 120, 0, 0),
  (120, .ifCond .eq 5, 123, 125, 0), (123, .iconst 0, 124, 0, 0), (124, .ireturn, 125, 0, 0), (125, .aload_n 0, 126, 0, 0), (126, .iload_n 1, 127, 0, 0), (127, .invokestatic 119, 130, 0, 0), (130, .invokevirtual 143, 133, 0, 0), (133, .aload_n 0, 134, 0, 0),
  (134, .iload_n 1, 135, 0, 0), (135, .invokevirtual 146, 138, 0, 0), (138, .aload_n 0, 139, 0, 0), (139, .getfield 136, 142, 0, 0), (142, .aload_n 0, 143, 0, 0), (143, .getfield 140, 146, 0, 0), (146, .iload_n 1, 147, 0, 0), (147, .invokestatic 119, 150, 0, 0),
  (150, .iconst 4, 151, 0, 4), (151, .if_icmp .eq 23, 154, 174, 0), (154, .iload_n 1, 155, 0, 0), (155, .invokestatic 119, 158, 0, 0), (158, .iconst 4, 159, 0, 4), (159, .if_icmp .le 19, 162, 178, 0), (162, .aload_n 0, 163, 0, 0), (163, .getfield 136, 166, 0, 0),
  (166, .aload_n 0, 167, 0, 0), (167, .getfield 140, 170, 0, 0), (170, .baload, 171, 0, 0), (171, .ifCond .eq 7, 174, 178, 0), (174, .iconst 1, 175, 0, 1), (175, .goto 4, 178, 179, 0), (178, .iconst 0, 179, 0, 0), (179, .bastore, 180, 0, 0),
  (180, .iconst 1, 181, 0, 1), (181, .ireturn, 182, 0, 0)]
abbrev M_X11_between : MI := (yX11_between, cX11_between, 2, (some .boolean), 11, P_X11_between)
theorem ok_X11_between : okP 11 cX11_between P_X11_between = true := by decide +kernel
def P_X11_closes : List PE := [(0, .aload_n 0, 1, 0, 0), (1, .bipush 41, 3, 0, 41), (3, .invokevirtual 130, 6, 0, 0), (6, .ifCond .eq 10, 9, 16, 0), (9, .aload_n 0, 10, 0, 0), (10, .getfield 140, 13, 0, 0), (13, .ifCond .ne 5, 16, 18, 0), (16, .iconst 0, 17, 0, 0),
  (17, .ireturn, 18, 0, 0), (18, .aload_n 0, 19, 0, 0), (19, .iconst 1, 20, 0, 1), (20, .invokevirtual 143, 23, 0, 0), (23, .aload_n 0, 24, 0, 0), (24, .dup, 25, 0, 0), (25, .getfield 113, 28, 0, 0), (28, .iconst 1, 29, 0, 1),
  (29, .isub, 30, 0, 0), (30, .putfield 113, 33, 0, 0), (33, .aload_n 0, 34, 0, 0), (34, .dup, 35, 0, 0), (35, .getfield 140, 38, 0, 0), (38, .iconst 1, 39, 0, 1), (39, .isub, 40, 0, 0), (40, .putfield 140, 43, 0, 0),
  (43, .aload_n 0, 44, 0, 0), (44, .dup, 45, 0, 0), (45, .getfield 123, 48, 0, 0), (48, .iconst 1, 49, 0, 1), (49, .isub, 50, 0, 0), (50, .putfield 123, 53, 0, 0), (53, .aload_n 0, 54, 0, 0), (54, .bipush 7, 56, 0, 7),
  (56, .invokevirtual 143, 59, 0, 0), (59, .iconst 1, 60, 0, 1), (60, .ireturn, 61, 0, 0)]
abbrev M_X11_closes : MI := (yX11_closes, cX11_closes, 1, (some .boolean), 11, P_X11_closes)
theorem ok_X11_closes : okP 11 cX11_closes P_X11_closes = true := by decide +kernel
def P_X11_ahead : List PE := [(0, .aload_n 0, 1, 0, 0), (1, .bipush 40, 3, 0, 40), (3, .invokevirtual 130, 6, 0, 0), (6, .ifCond .ne 24, 9, 30, 0), (9, .aload_n 0, 10, 0, 0), (10, .bipush 45, 12, 0, 45), (12, .invokevirtual 130, 15, 0, 0), (15, .ifCond .ne 15, 18, 30, 0),
  (18, .iload_n 1, 19, 0, 0), (19, .ifCond .eq 15, 22, 34, 0), (22, .aload_n 0, 23, 0, 0), (23, .iconst 5, 24, 0, 5), (24, .invokevirtual 133, 27, 0, 0), (27, .ifCond .eq 7, 30, 34, 0), (30, .iconst 1, 31, 0, 1), (31, .goto 4, 34, 35, 0),
  (34, .iconst 0, 35, 0, 0), (35, .istore_n 2, 36, 0, 0), (36, .iload_n 2, 37, 0, 0), (37, .ifCond .eq 11, 40, 48, 0), (40, .aload_n 0, 41, 0, 0), (41, .getfield 123, 44, 0, 0), (44, .iconst 5, 45, 0, 5), (45, .if_icmp .ne 5, 48, 50, 0),
  (48, .iconst 0, 49, 0, 0), (49, .ireturn, 50, 0, 0), (50, .aload_n 0, 51, 0, 0), (51, .dup, 52, 0, 0), (52, .getfield 123, 55, 0, 0), (55, .iconst 1, 56, 0, 1), (56, .iadd, 57, 0, 0), (57, .putfield 123, 60, 0, 0),
  (60, .aload_n 0, 61, 0, 0), (61, .bipush 40, 63, 0, 40), (63, .invokevirtual 130, 66, 0, 0), (66, .ifCond .eq 32, 69, 98, 0), (69, .aload_n 0, 70, 0, 0), (70, .bipush 30, 72, 0, 30), (72, .invokevirtual 146, 75, 0, 0), (75, .aload_n 0, 76, 0, 0),
  (76, .dup, 77, 0, 0), (77, .getfield 140, 80, 0, 0), (80, .iconst 1, 81, 0, 1), (81, .iadd, 82, 0, 0), (82, .putfield 140, 85, 0, 0), (85, .aload_n 0, 86, 0, 0), (86, .getfield 136, 89, 0, 0), (89, .aload_n 0, 90, 0, 0),
  (90, .getfield 140, 93, 0, 0), (93, .iconst 0, 94, 0, 0), (94, .bastore, 95, 0, 0), (95, .goto 22, 98, 117, 0), (98, .aload_n 0, 99, 0, 0), (99, .aload_n 0, 100, 0, 0), (100, .getfield 78, 103, 0, 0), (103, .iconst 3, 104, 0, 3),
  (104, .if_icmp .ne 8, 107, 112, 0), (107, .bipush 12, 109, 0, 12), (109, .goto 5, 112, 114, 0), (112, .bipush 18, 114, 0, 18), (114, .invokevirtual 146, 117, 0, 0), (117, .iconst 1, 118, 0, 1), (118, .ireturn, 119, 0, 0)]
abbrev M_X11_ahead : MI := (yX11_ahead, cX11_ahead, 3, (some .boolean), 11, P_X11_ahead)
theorem ok_X11_ahead : okP 11 cX11_ahead P_X11_ahead = true := by decide +kernel
def P_X11_readE : List PE := [(0, .aload_n 0, 1, 0, 0), (1, .sipush 160, 4, 0, 160), (4, .iload_n 1, 5, 0, 0), (5, .imul, 6, 0, 0), (6, .putfield 107, 9, 0, 0), (9, .aload_n 0, 10, 0, 0), (10, .iconst 0, 11, 0, 0), (11, .putfield 110, 14, 0, 0),
  (14, .aload_n 0, 15, 0, 0), (15, .iconst 0, 16, 0, 0), (16, .putfield 113, 19, 0, 0), (19, .aload_n 0, 20, 0, 0), (20, .iconst 0, 21, 0, 0), (21, .putfield 123, 24, 0, 0), (24, .aload_n 0, 25, 0, 0), (25, .iconst 0, 26, 0, 0),
  (26, .putfield 140, 29, 0, 0), (29, .aload_n 0, 30, 0, 0), (30, .getfield 136, 33, 0, 0), (33, .iconst 0, 34, 0, 0), (34, .iconst 0, 35, 0, 0), (35, .bastore, 36, 0, 0), (36, .iconst 1, 37, 0, 1), (37, .istore_n 2, 38, 0, 0),
  (38, .iconst 1, 39, 0, 1), (39, .istore_n 3, 40, 0, 0), (40, .iload_n 2, 41, 0, 0), (41, .ifCond .eq 55, 44, 96, 0), (44, .aload_n 0, 45, 0, 0), (45, .getfield 78, 48, 0, 0), (48, .iconst 1, 49, 0, 1), (49, .if_icmp .eq 11, 52, 60, 0),
  (52, .aload_n 0, 53, 0, 0), (53, .getfield 78, 56, 0, 0), (56, .iconst 2, 57, 0, 2), (57, .if_icmp .ne 39, 60, 96, 0), (60, .aload_n 0, 61, 0, 0), (61, .aload_n 0, 62, 0, 0), (62, .getfield 78, 65, 0, 0), (65, .iconst 1, 66, 0, 1),
  (66, .if_icmp .ne 12, 69, 78, 0), (69, .iconst (-1), 70, 0, (-1)), (70, .aload_n 0, 71, 0, 0), (71, .getfield 91, 74, 0, 0), (74, .isub, 75, 0, 0), (75, .goto 7, 78, 82, 0), (78, .aload_n 0, 79, 0, 0), (79, .getfield 91, 82, 0, 0),
  (82, .invokevirtual 126, 85, 0, 0), (85, .aload_n 0, 86, 0, 0), (86, .bipush 7, 88, 0, 7), (88, .invokevirtual 143, 91, 0, 0), (91, .iconst 0, 92, 0, 0), (92, .istore_n 2, 93, 0, 0), (93, .goto 115, 96, 208, 0), (96, .iload_n 2, 97, 0, 0),
  (97, .ifCond .eq 35, 100, 132, 0), (100, .aload_n 0, 101, 0, 0), (101, .bipush 45, 103, 0, 45), (103, .invokevirtual 130, 106, 0, 0), (106, .istore 4, 108, 0, 0), (108, .aload_n 0, 109, 0, 0), (109, .iload_n 3, 110, 0, 0), (110, .invokevirtual 149, 113, 0, 0),
  (113, .ifCond .ne 5, 116, 118, 0), (116, .iconst 0, 117, 0, 0), (117, .ireturn, 118, 0, 0), (118, .iload 4, 120, 0, 0), (120, .ifCond .ne 7, 123, 127, 0), (123, .iconst 1, 124, 0, 1), (124, .goto 4, 127, 128, 0), (127, .iconst 0, 128, 0, 0),
  (128, .istore_n 3, 129, 0, 0), (129, .goto 79, 132, 208, 0), (132, .aload_n 0, 133, 0, 0), (133, .bipush 59, 135, 0, 59), (135, .invokevirtual 130, 138, 0, 0), (138, .ifCond .eq 27, 141, 165, 0), (141, .aload_n 0, 142, 0, 0), (142, .getfield 140, 145, 0, 0),
  (145, .ifCond .ne 20, 148, 165, 0), (148, .aload_n 0, 149, 0, 0), (149, .iconst 1, 150, 0, 1), (150, .invokevirtual 143, 153, 0, 0), (153, .aload_n 0, 154, 0, 0), (154, .getfield 153, 157, 0, 0), (157, .iload_n 1, 158, 0, 0), (158, .aload_n 0, 159, 0, 0),
  (159, .getfield 110, 162, 0, 0), (162, .iastore, 163, 0, 0), (163, .iconst 1, 164, 0, 1), (164, .ireturn, 165, 0, 0), (165, .aload_n 0, 166, 0, 0), (166, .invokevirtual 156, 169, 0, 0), (169, .ifCond .eq 30, 172, 199, 0), (172, .iconst 1, 173, 0, 1),
  (173, .istore_n 2, 174, 0, 0), (174, .aload_n 0, 175, 0, 0), (175, .iconst 4, 176, 0, 4), (176, .invokevirtual 133, 179, 0, 0), (179, .ifCond .ne 11, 182, 190, 0), (182, .aload_n 0, 183, 0, 0), (183, .iconst 3, 184, 0, 3), (184, .invokevirtual 133, 187, 0, 0),
  (187, .ifCond .eq 7, 190, 194, 0), (190, .iconst 1, 191, 0, 1), (191, .goto 4, 194, 195, 0), (194, .iconst 0, 195, 0, 0), (195, .istore_n 3, 196, 0, 0), (196, .goto 12, 199, 208, 0), (199, .aload_n 0, 200, 0, 0), (200, .invokevirtual 160, 203, 0, 0),
  (203, .ifCond .ne 5, 206, 208, 0), (206, .iconst 0, 207, 0, 0), (207, .ireturn, 208, 0, 0), (208, .aload_n 0, 209, 0, 0), (209, .invokevirtual 163, 212, 0, 0), (212, .goto (-172), 215, 40, 0)]
abbrev M_X11_readE : MI := (yX11_readE, cX11_readE, 5, (some .boolean), 11, P_X11_readE)
theorem ok_X11_readE : okP 11 cX11_readE P_X11_readE = true := by decide +kernel
def P_X11_readAll : List PE := [(0, .aload_n 0, 1, 0, 0), (1, .iconst 0, 2, 0, 0), (2, .putfield 72, 5, 0, 0), (5, .iconst 0, 6, 0, 0), (6, .istore_n 2, 7, 0, 0), (7, .iload_n 2, 8, 0, 0), (8, .iconst 3, 9, 0, 3), (9, .if_icmp .ge 47, 12, 56, 0),
  (12, .aload_n 0, 13, 0, 0), (13, .invokevirtual 163, 16, 0, 0), (16, .aload_n 0, 17, 0, 0), (17, .iload_n 2, 18, 0, 0), (18, .invokevirtual 133, 21, 0, 0), (21, .ifCond .ne 8, 24, 29, 0), (24, .aload_n 0, 25, 0, 0), (25, .getfield 84, 28, 0, 0),
  (28, .ireturn, 29, 0, 0), (29, .aload_n 0, 30, 0, 0), (30, .invokevirtual 163, 33, 0, 0), (33, .aload_n 0, 34, 0, 0), (34, .iconst 3, 35, 0, 3), (35, .iload_n 1, 36, 0, 0), (36, .imul, 37, 0, 0), (37, .iload_n 2, 38, 0, 0),
  (38, .iadd, 39, 0, 0), (39, .invokevirtual 166, 42, 0, 0), (42, .ifCond .ne 8, 45, 50, 0), (45, .aload_n 0, 46, 0, 0), (46, .getfield 84, 49, 0, 0), (49, .ireturn, 50, 0, 0), (50, .iinc 2 1, 53, 0, 1), (53, .goto (-46), 56, 7, 0),
  (56, .aload_n 0, 57, 0, 0), (57, .invokevirtual 163, 60, 0, 0), (60, .aload_n 0, 61, 0, 0), (61, .getfield 78, 64, 0, 0), (64, .iconst 5, 65, 0, 5), (65, .if_icmp .ne 7, 68, 72, 0), (68, .iconst (-1), 69, 0, (-1)), (69, .goto 7, 72, 76, 0),
  (72, .aload_n 0, 73, 0, 0), (73, .getfield 84, 76, 0, 0), (76, .ireturn, 77, 0, 0)]
abbrev M_X11_readAll : MI := (yX11_readAll, cX11_readAll, 3, (some .int), 11, P_X11_readAll)
theorem ok_X11_readAll : okP 11 cX11_readAll P_X11_readAll = true := by decide +kernel
def P_X11_text : List PE := [(0, .aload_n 0, 1, 0, 0), (1, .getfield 169, 4, 0, 0), (4, .bipush 6, 6, 0, 6), (6, .if_icmp .ne 6, 9, 12, 0), (9, .bipush (-4), 11, 0, (-4)), (11, .ireturn, 12, 0, 0), (12, .aload_n 0, 13, 0, 0), (13, .aload_n 0, 14, 0, 0),
  (14, .getfield 169, 17, 0, 0), (17, .invokevirtual 172, 20, 0, 0), (20, .istore_n 1, 21, 0, 0), (21, .aload_n 0, 22, 0, 0), (22, .iconst 0, 23, 0, 0), (23, .putfield 66, 26, 0, 0), (26, .iload_n 1, 27, 0, 0), (27, .iconst (-1), 28, 0, (-1)),
  (28, .if_icmp .eq 8, 31, 36, 0), (31, .bipush (-100), 33, 0, (-100)), (33, .iload_n 1, 34, 0, 0), (34, .isub, 35, 0, 0), (35, .ireturn, 36, 0, 0), (36, .aload_n 0, 37, 0, 0), (37, .dup, 38, 0, 0), (38, .getfield 169, 41, 0, 0),
  (41, .iconst 1, 42, 0, 1), (42, .iadd, 43, 0, 0), (43, .putfield 169, 46, 0, 0), (46, .aload_n 0, 47, 0, 0), (47, .getfield 169, 50, 0, 0), (50, .iconst 1, 51, 0, 1), (51, .isub, 52, 0, 0), (52, .ireturn, 53, 0, 0)]
abbrev M_X11_text : MI := (yX11_text, cX11_text, 2, (some .int), 11, P_X11_text)
theorem ok_X11_text : okP 11 cX11_text P_X11_text = true := by decide +kernel
def P_X11_force : List PE := [(0, .iload_n 1, 1, 0, 0), (1, .iconst 0, 2, 0, 0), (2, .aload_n 0, 3, 0, 0), (3, .getfield 169, 6, 0, 0), (6, .iconst 1, 7, 0, 1), (7, .isub, 8, 0, 0), (8, .invokestatic 7, 11, 0, 0), (11, .ifCond .ne 6, 14, 17, 0),
  (14, .bipush (-2), 16, 0, (-2)), (16, .ireturn, 17, 0, 0), (17, .aload_n 0, 18, 0, 0), (18, .getfield 175, 21, 0, 0), (21, .istore_n 2, 22, 0, 0), (22, .aload_n 0, 23, 0, 0), (23, .iload_n 1, 24, 0, 0), (24, .putfield 175, 27, 0, 0),
  (27, .iload_n 2, 28, 0, 0), (28, .ireturn, 29, 0, 0)]
abbrev M_X11_force : MI := (yX11_force, cX11_force, 3, (some .int), 11, P_X11_force)
theorem ok_X11_force : okP 11 cX11_force P_X11_force = true := by decide +kernel
def P_X11_done : List PE := [(0, .iload_n 0, 1, 0, 0), (1, .tableswitch 91 11 17 #[77, 91, 55, 66, 43, 47, 51], 44, 0, 0), (44, .iload_n 1, 45, 0, 0), (45, .iload_n 2, 46, 0, 0), (46, .iadd, 47, 0, 0), (47, .ireturn, 48, 0, 0), (48, .iload_n 1, 49, 0, 0), (49, .iload_n 2, 50, 0, 0),
  (50, .isub, 51, 0, 0), (51, .ireturn, 52, 0, 0), (52, .iload_n 1, 53, 0, 0), (53, .iload_n 2, 54, 0, 0), (54, .imul, 55, 0, 0), (55, .ireturn, 56, 0, 0), (56, .iload_n 1, 57, 0, 0), (57, .iload_n 2, 58, 0, 0),
  (58, .if_icmp .ge 7, 61, 65, 0), (61, .iconst 1, 62, 0, 1), (62, .goto 4, 65, 66, 0), (65, .iconst 0, 66, 0, 0), (66, .ireturn, 67, 0, 0), (67, .iload_n 1, 68, 0, 0), (68, .iload_n 2, 69, 0, 0), (69, .if_icmp .ne 7, 72, 76, 0),
  (72, .iconst 1, 73, 0, 1), (73, .goto 4, 76, 77, 0), (76, .iconst 0, 77, 0, 0), (77, .ireturn, 78, 0, 0), (78, .iload_n 1, 79, 0, 0), (79, .ifCond .eq 11, 82, 90, 0), (82, .iload_n 2, 83, 0, 0), (83, .ifCond .eq 7, 86, 90, 0),
  (86, .iconst 1, 87, 0, 1), (87, .goto 4, 90, 91, 0), (90, .iconst 0, 91, 0, 0), (91, .ireturn, 92, 0, 0), (92, .iload_n 1, 93, 0, 0), (93, .ifCond .ne 7, 96, 100, 0), (96, .iload_n 2, 97, 0, 0), (97, .ifCond .eq 7, 100, 104, 0),
  (100, .iconst 1, 101, 0, 1), (101, .goto 4, 104, 105, 0), (104, .iconst 0, 105, 0, 0), (105, .ireturn, 106, 0, 0)]
abbrev M_X11_done : MI := (yX11_done, cX11_done, 3, (some .int), 11, P_X11_done)
theorem ok_X11_done : okP 11 cX11_done P_X11_done = true := by decide +kernel
def P_X11_says : List PE := [(0, .iconst 0, 1, 0, 0), (1, .istore_n 3, 2, 0, 0), (2, .iconst 0, 3, 0, 0), (3, .istore 4, 5, 0, 0), (5, .iload 4, 7, 0, 0), (7, .aload_n 0, 8, 0, 0), (8, .getfield 193, 11, 0, 0), (11, .iload_n 2, 12, 0, 0),
  (12, .iaload, 13, 0, 0), (13, .if_icmp .ge 36, 16, 49, 0), (16, .iload_n 3, 17, 0, 0), (17, .aload_n 0, 18, 0, 0), (18, .aload_n 0, 19, 0, 0), (19, .getfield 190, 22, 0, 0), (22, .bipush 40, 24, 0, 40), (24, .iload_n 2, 25, 0, 0),
  (25, .imul, 26, 0, 0), (26, .iload 4, 28, 0, 0), (28, .iadd, 29, 0, 0), (29, .iaload, 30, 0, 0), (30, .invokevirtual 211, 33, 0, 0), (33, .ifCond .eq 7, 36, 40, 0), (36, .iconst 1, 37, 0, 1), (37, .goto 4, 40, 41, 0),
  (40, .iconst 0, 41, 0, 0), (41, .iadd, 42, 0, 0), (42, .istore_n 3, 43, 0, 0), (43, .iinc 4 1, 46, 0, 1), (46, .goto (-41), 49, 5, 0), (49, .aload_n 0, 50, 0, 0), (50, .getfield 187, 53, 0, 0), (53, .iconst 0, 54, 0, 0),
  (54, .aload_n 0, 55, 0, 0), (55, .getfield 193, 58, 0, 0), (58, .iload_n 2, 59, 0, 0), (59, .iaload, 60, 0, 0), (60, .iastore, 61, 0, 0), (61, .aload_n 0, 62, 0, 0), (62, .getfield 187, 65, 0, 0), (65, .iconst 1, 66, 0, 1),
  (66, .iload_n 3, 67, 0, 0), (67, .iastore, 68, 0, 0), (68, .aload_n 0, 69, 0, 0), (69, .getfield 187, 72, 0, 0), (72, .iconst 2, 73, 0, 2), (73, .aload_n 0, 74, 0, 0), (74, .getfield 49, 77, 0, 0), (77, .iastore, 78, 0, 0),
  (78, .aload_n 0, 79, 0, 0), (79, .getfield 187, 82, 0, 0), (82, .iconst 3, 83, 0, 3), (83, .aload_n 0, 84, 0, 0), (84, .getfield 49, 87, 0, 0), (87, .ifCond .ne 7, 90, 94, 0), (90, .iconst 0, 91, 0, 0), (91, .goto 19, 94, 110, 0),
  (94, .aload_n 0, 95, 0, 0), (95, .getfield 43, 98, 0, 0), (98, .aload_n 0, 99, 0, 0), (99, .getfield 52, 102, 0, 0), (102, .aload_n 0, 103, 0, 0), (103, .getfield 49, 106, 0, 0), (106, .iconst 1, 107, 0, 1), (107, .isub, 108, 0, 0),
  (108, .iaload, 109, 0, 0), (109, .iaload, 110, 0, 0), (110, .iastore, 111, 0, 0), (111, .aload_n 0, 112, 0, 0), (112, .getfield 187, 115, 0, 0), (115, .iconst 4, 116, 0, 4), (116, .iload_n 2, 117, 0, 0), (117, .iastore, 118, 0, 0),
  (118, .aload_n 0, 119, 0, 0), (119, .getfield 187, 122, 0, 0), (122, .iconst 5, 123, 0, 5), (123, .aload_n 0, 124, 0, 0), (124, .getfield 34, 127, 0, 0), (127, .iload_n 2, 128, 0, 0), (128, .iaload, 129, 0, 0), (129, .iastore, 130, 0, 0),
  (130, .iconst 3, 131, 0, 3), (131, .aload_n 0, 132, 0, 0), (132, .getfield 175, 135, 0, 0), (135, .imul, 136, 0, 0), (136, .iload_n 1, 137, 0, 0), (137, .iadd, 138, 0, 0), (138, .istore 4, 140, 0, 0), (140, .iconst 0, 141, 0, 0),
  (141, .istore 5, 143, 0, 0), (143, .iconst 0, 144, 0, 0), (144, .istore 6, 146, 0, 0), (146, .iload 6, 148, 0, 0), (148, .aload_n 0, 149, 0, 0), (149, .getfield 153, 152, 0, 0), (152, .iload 4, 154, 0, 0), (154, .iaload, 155, 0, 0),
  (155, .if_icmp .ge 172, 158, 327, 0), (158, .aload_n 0, 159, 0, 0), (159, .getfield 104, 162, 0, 0), (162, .sipush 160, 165, 0, 160), (165, .iload 4, 167, 0, 0), (167, .imul, 168, 0, 0), (168, .iload 6, 170, 0, 0), (170, .iadd, 171, 0, 0),
  (171, .iaload, 172, 0, 0), (172, .istore 7, 174, 0, 0), (174, .iload 7, 176, 0, 0), (176, .ifCond .ge 20, 179, 196, 0), (179, .aload_n 0, 180, 0, 0), (180, .getfield 184, 183, 0, 0), (183, .iload 5, 185, 0, 0), (185, .iconst (-1), 186, 0, (-1)),
  (186, .iload 7, 188, 0, 0), (188, .isub, 189, 0, 0), (189, .iastore, 190, 0, 0), (190, .iinc 5 1, 193, 0, 1), (193, .goto 128, 196, 321, 0), (196, .iload 7, 198, 0, 0), (198, .bipush 6, 200, 0, 6), (200, .if_icmp .ge 23, 203, 223, 0),
  (203, .aload_n 0, 204, 0, 0), (204, .getfield 184, 207, 0, 0), (207, .iload 5, 209, 0, 0), (209, .aload_n 0, 210, 0, 0), (210, .getfield 187, 213, 0, 0), (213, .iload 7, 215, 0, 0), (215, .iaload, 216, 0, 0), (216, .iastore, 217, 0, 0),
  (217, .iinc 5 1, 220, 0, 1), (220, .goto 101, 223, 321, 0), (223, .iload 7, 225, 0, 0), (225, .bipush 12, 227, 0, 12), (227, .if_icmp .ne 32, 230, 259, 0), (230, .aload_n 0, 231, 0, 0), (231, .getfield 184, 234, 0, 0), (234, .iload 5, 236, 0, 0),
  (236, .iconst 1, 237, 0, 1), (237, .isub, 238, 0, 0), (238, .aload_n 0, 239, 0, 0), (239, .getfield 184, 242, 0, 0), (242, .iload 5, 244, 0, 0), (244, .iconst 1, 245, 0, 1), (245, .isub, 246, 0, 0), (246, .iaload, 247, 0, 0),
  (247, .ifCond .ne 7, 250, 254, 0), (250, .iconst 1, 251, 0, 1), (251, .goto 4, 254, 255, 0), (254, .iconst 0, 255, 0, 0), (255, .iastore, 256, 0, 0), (256, .goto 65, 259, 321, 0), (259, .iload 7, 261, 0, 0), (261, .bipush 18, 263, 0, 18),
  (263, .if_icmp .ne 25, 266, 288, 0), (266, .aload_n 0, 267, 0, 0), (267, .getfield 184, 270, 0, 0), (270, .iload 5, 272, 0, 0), (272, .iconst 1, 273, 0, 1), (273, .isub, 274, 0, 0), (274, .aload_n 0, 275, 0, 0), (275, .getfield 184, 278, 0, 0),
  (278, .iload 5, 280, 0, 0), (280, .iconst 1, 281, 0, 1), (281, .isub, 282, 0, 0), (282, .iaload, 283, 0, 0), (283, .ineg, 284, 0, 0), (284, .iastore, 285, 0, 0), (285, .goto 36, 288, 321, 0), (288, .iinc 5 (-1), 291, 0, (-1)),
  (291, .aload_n 0, 292, 0, 0), (292, .getfield 184, 295, 0, 0), (295, .iload 5, 297, 0, 0), (297, .iconst 1, 298, 0, 1), (298, .isub, 299, 0, 0), (299, .iload 7, 301, 0, 0), (301, .aload_n 0, 302, 0, 0), (302, .getfield 184, 305, 0, 0),
  (305, .iload 5, 307, 0, 0), (307, .iconst 1, 308, 0, 1), (308, .isub, 309, 0, 0), (309, .iaload, 310, 0, 0), (310, .aload_n 0, 311, 0, 0), (311, .getfield 184, 314, 0, 0), (314, .iload 5, 316, 0, 0), (316, .iaload, 317, 0, 0),
  (317, .invokestatic 214, 320, 0, 0), (320, .iastore, 321, 0, 0), (321, .iinc 6 1, 324, 0, 1), (324, .goto (-178), 327, 146, 0), (327, .iconst 0, 328, 0, 0), (328, .bipush 99, 330, 0, 99), (330, .aload_n 0, 331, 0, 0), (331, .getfield 184, 334, 0, 0),
  (334, .iconst 0, 335, 0, 0), (335, .iaload, 336, 0, 0), (336, .invokestatic 218, 339, 0, 0), (339, .invokestatic 223, 342, 0, 0), (342, .ireturn, 343, 0, 0)]
abbrev M_X11_says : MI := (yX11_says, cX11_says, 8, (some .int), 11, P_X11_says)
theorem ok_X11_says : okP 11 cX11_says P_X11_says = true := by decide +kernel
def P_X11_isVowel : List PE := [(0, .aload_n 0, 1, 0, 0), (1, .getfield 55, 4, 0, 0), (4, .iload_n 1, 5, 0, 0), (5, .ishr, 6, 0, 0), (6, .iconst 1, 7, 0, 1), (7, .iand, 8, 0, 0), (8, .iconst 1, 9, 0, 1), (9, .if_icmp .ne 7, 12, 16, 0),
  (12, .iconst 1, 13, 0, 1), (13, .goto 4, 16, 17, 0), (16, .iconst 0, 17, 0, 0), (17, .ireturn, 18, 0, 0)]
abbrev M_X11_isVowel : MI := (yX11_isVowel, cX11_isVowel, 2, (some .boolean), 11, P_X11_isVowel)
theorem ok_X11_isVowel : okP 11 cX11_isVowel P_X11_isVowel = true := by decide +kernel
def P_X11_turn : List PE := [(0, .iconst 0, 1, 0, 0), (1, .istore_n 2, 2, 0, 0), (2, .aload_n 0, 3, 0, 0), (3, .getfield 37, 6, 0, 0), (6, .iload_n 1, 7, 0, 0), (7, .iaload, 8, 0, 0), (8, .istore_n 3, 9, 0, 0), (9, .iconst 0, 10, 0, 0),
  (10, .istore 4, 12, 0, 0), (12, .iload 4, 14, 0, 0), (14, .aload_n 0, 15, 0, 0), (15, .getfield 226, 18, 0, 0), (18, .if_icmp .ge 131, 21, 149, 0), (21, .iload_n 3, 22, 0, 0), (22, .iconst 5, 23, 0, 5), (23, .if_icmp .ne 20, 26, 43, 0),
  (26, .aload_n 0, 27, 0, 0), (27, .getfield 196, 30, 0, 0), (30, .aload_n 0, 31, 0, 0), (31, .getfield 226, 34, 0, 0), (34, .iconst 1, 35, 0, 1), (35, .isub, 36, 0, 0), (36, .iload 4, 38, 0, 0), (38, .isub, 39, 0, 0),
  (39, .iaload, 40, 0, 0), (40, .goto 10, 43, 50, 0), (43, .aload_n 0, 44, 0, 0), (44, .getfield 196, 47, 0, 0), (47, .iload 4, 49, 0, 0), (49, .iaload, 50, 0, 0), (50, .istore 5, 52, 0, 0), (52, .iload_n 3, 53, 0, 0),
  (53, .iconst 2, 54, 0, 2), (54, .if_icmp .eq 17, 57, 71, 0), (57, .iload_n 3, 58, 0, 0), (58, .iconst 4, 59, 0, 4), (59, .if_icmp .ne 16, 62, 75, 0), (62, .aload_n 0, 63, 0, 0), (63, .iload 5, 65, 0, 0), (65, .invokevirtual 211, 68, 0, 0),
  (68, .ifCond .eq 7, 71, 75, 0), (71, .iconst 1, 72, 0, 1), (72, .goto 4, 75, 76, 0), (75, .iconst 0, 76, 0, 0), (76, .istore 6, 78, 0, 0), (78, .aload_n 0, 79, 0, 0), (79, .getfield 199, 82, 0, 0), (82, .iload_n 2, 83, 0, 0),
  (83, .iload 6, 85, 0, 0), (85, .ifCond .eq 18, 88, 103, 0), (88, .iload 5, 90, 0, 0), (90, .aload_n 0, 91, 0, 0), (91, .getfield 43, 94, 0, 0), (94, .iload_n 1, 95, 0, 0), (95, .iaload, 96, 0, 0), (96, .iadd, 97, 0, 0),
  (97, .bipush 26, 99, 0, 26), (99, .irem, 100, 0, 0), (100, .goto 5, 103, 105, 0), (103, .iload 5, 105, 0, 0), (105, .iastore, 106, 0, 0), (106, .iinc 2 1, 109, 0, 1), (109, .iload_n 3, 110, 0, 0), (110, .iconst 1, 111, 0, 1),
  (111, .if_icmp .eq 8, 114, 119, 0), (114, .iload_n 3, 115, 0, 0), (115, .iconst 3, 116, 0, 3), (116, .if_icmp .ne 27, 119, 143, 0), (119, .aload_n 0, 120, 0, 0), (120, .iload 5, 122, 0, 0), (122, .invokevirtual 211, 125, 0, 0), (125, .ifCond .eq 18, 128, 143, 0),
  (128, .aload_n 0, 129, 0, 0), (129, .getfield 199, 132, 0, 0), (132, .iload_n 2, 133, 0, 0), (133, .aload_n 0, 134, 0, 0), (134, .getfield 40, 137, 0, 0), (137, .iload_n 1, 138, 0, 0), (138, .iaload, 139, 0, 0), (139, .iastore, 140, 0, 0),
  (140, .iinc 2 1, 143, 0, 1), (143, .iinc 4 1, 146, 0, 1), (146, .goto (-134), 149, 12, 0), (149, .iload_n 3, 150, 0, 0), (150, .iconst 3, 151, 0, 3), (151, .if_icmp .ne 18, 154, 169, 0), (154, .aload_n 0, 155, 0, 0), (155, .getfield 199, 158, 0, 0),
  (158, .iload_n 2, 159, 0, 0), (159, .aload_n 0, 160, 0, 0), (160, .getfield 199, 163, 0, 0), (163, .iconst 0, 164, 0, 0), (164, .iaload, 165, 0, 0), (165, .iastore, 166, 0, 0), (166, .iinc 2 1, 169, 0, 1), (169, .aload_n 0, 170, 0, 0),
  (170, .iload_n 2, 171, 0, 0), (171, .bipush 40, 173, 0, 40), (173, .if_icmp .le 8, 176, 181, 0), (176, .bipush (-3), 178, 0, (-3)), (178, .goto 4, 181, 182, 0), (181, .iload_n 2, 182, 0, 0), (182, .putfield 226, 185, 0, 0), (185, .iconst 0, 186, 0, 0),
  (186, .istore 4, 188, 0, 0), (188, .iload 4, 190, 0, 0), (190, .aload_n 0, 191, 0, 0), (191, .getfield 226, 194, 0, 0), (194, .if_icmp .ge 23, 197, 217, 0), (197, .aload_n 0, 198, 0, 0), (198, .getfield 196, 201, 0, 0), (201, .iload 4, 203, 0, 0),
  (203, .aload_n 0, 204, 0, 0), (204, .getfield 199, 207, 0, 0), (207, .iload 4, 209, 0, 0), (209, .iaload, 210, 0, 0), (210, .iastore, 211, 0, 0), (211, .iinc 4 1, 214, 0, 1), (214, .goto (-26), 217, 188, 0), (217, .return_, 218, 0, 0)]
abbrev M_X11_turn : MI := (yX11_turn, cX11_turn, 7, none, 11, P_X11_turn)
theorem ok_X11_turn : okP 11 cX11_turn P_X11_turn = true := by decide +kernel
def P_X11_begin : List PE := [(0, .aload_n 0, 1, 0, 0), (1, .aload_n 0, 2, 0, 0), (2, .getfield 31, 5, 0, 0), (5, .iload_n 1, 6, 0, 0), (6, .iaload, 7, 0, 0), (7, .putfield 226, 10, 0, 0), (10, .iconst 0, 11, 0, 0), (11, .istore_n 2, 12, 0, 0),
  (12, .iload_n 2, 13, 0, 0), (13, .aload_n 0, 14, 0, 0), (14, .getfield 226, 17, 0, 0), (17, .if_icmp .ge 26, 20, 43, 0), (20, .aload_n 0, 21, 0, 0), (21, .getfield 196, 24, 0, 0), (24, .iload_n 2, 25, 0, 0), (25, .aload_n 0, 26, 0, 0),
  (26, .getfield 28, 29, 0, 0), (29, .bipush 10, 31, 0, 10), (31, .iload_n 1, 32, 0, 0), (32, .imul, 33, 0, 0), (33, .iload_n 2, 34, 0, 0), (34, .iadd, 35, 0, 0), (35, .iaload, 36, 0, 0), (36, .iastore, 37, 0, 0),
  (37, .iinc 2 1, 40, 0, 1), (40, .goto (-28), 43, 12, 0), (43, .return_, 44, 0, 0)]
abbrev M_X11_begin : MI := (yX11_begin, cX11_begin, 3, none, 11, P_X11_begin)
theorem ok_X11_begin : okP 11 cX11_begin P_X11_begin = true := by decide +kernel
def P_X11_turnByRow : List PE := [(0, .iconst 0, 1, 0, 0), (1, .istore_n 1, 2, 0, 0), (2, .iload_n 1, 3, 0, 0), (3, .aload_n 0, 4, 0, 0), (4, .getfield 49, 7, 0, 0), (7, .if_icmp .ge 26, 10, 33, 0), (10, .aload_n 0, 11, 0, 0), (11, .getfield 226, 14, 0, 0),
  (14, .ifCond .le 19, 17, 33, 0), (17, .aload_n 0, 18, 0, 0), (18, .aload_n 0, 19, 0, 0), (19, .getfield 52, 22, 0, 0), (22, .iload_n 1, 23, 0, 0), (23, .iaload, 24, 0, 0), (24, .invokevirtual 229, 27, 0, 0), (27, .iinc 1 1, 30, 0, 1),
  (30, .goto (-28), 33, 2, 0), (33, .return_, 34, 0, 0)]
abbrev M_X11_turnByRow : MI := (yX11_turnByRow, cX11_turnByRow, 2, none, 11, P_X11_turnByRow)
theorem ok_X11_turnByRow : okP 11 cX11_turnByRow P_X11_turnByRow = true := by decide +kernel
def P_X11_say : List PE := [(0, .aload_n 0, 1, 0, 0), (1, .iload_n 1, 2, 0, 0), (2, .invokevirtual 232, 5, 0, 0), (5, .aload_n 0, 6, 0, 0), (6, .invokevirtual 235, 9, 0, 0), (9, .aload_n 0, 10, 0, 0), (10, .getfield 193, 13, 0, 0), (13, .iload_n 1, 14, 0, 0),
  (14, .aload_n 0, 15, 0, 0), (15, .getfield 226, 18, 0, 0), (18, .iastore, 19, 0, 0), (19, .iconst 0, 20, 0, 0), (20, .istore_n 2, 21, 0, 0), (21, .iload_n 2, 22, 0, 0), (22, .aload_n 0, 23, 0, 0), (23, .getfield 226, 26, 0, 0),
  (26, .if_icmp .ge 26, 29, 52, 0), (29, .aload_n 0, 30, 0, 0), (30, .getfield 190, 33, 0, 0), (33, .bipush 40, 35, 0, 40), (35, .iload_n 1, 36, 0, 0), (36, .imul, 37, 0, 0), (37, .iload_n 2, 38, 0, 0), (38, .iadd, 39, 0, 0),
  (39, .aload_n 0, 40, 0, 0), (40, .getfield 196, 43, 0, 0), (43, .iload_n 2, 44, 0, 0), (44, .iaload, 45, 0, 0), (45, .iastore, 46, 0, 0), (46, .iinc 2 1, 49, 0, 1), (49, .goto (-28), 52, 21, 0), (52, .return_, 53, 0, 0)]
abbrev M_X11_say : MI := (yX11_say, cX11_say, 3, none, 11, P_X11_say)
theorem ok_X11_say : okP 11 cX11_say P_X11_say = true := by decide +kernel
def P_X11_sayAll : List PE := [(0, .iconst 0, 1, 0, 0), (1, .istore_n 1, 2, 0, 0), (2, .iload_n 1, 3, 0, 0), (3, .aload_n 0, 4, 0, 0), (4, .getfield 1, 7, 0, 0), (7, .if_icmp .ge 14, 10, 21, 0), (10, .aload_n 0, 11, 0, 0), (11, .iload_n 1, 12, 0, 0),
  (12, .invokevirtual 238, 15, 0, 0), (15, .iinc 1 1, 18, 0, 1), (18, .goto (-16), 21, 2, 0), (21, .return_, 22, 0, 0)]
abbrev M_X11_sayAll : MI := (yX11_sayAll, cX11_sayAll, 2, none, 11, P_X11_sayAll)
theorem ok_X11_sayAll : okP 11 cX11_sayAll P_X11_sayAll = true := by decide +kernel
def P_X11_letterAt : List PE := [(0, .iload_n 1, 1, 0, 0), (1, .bipush (-3), 3, 0, (-3)), (3, .if_icmp .ne 8, 6, 11, 0), (6, .bipush (-3), 8, 0, (-3)), (8, .goto 26, 11, 34, 0), (11, .iload_n 0, 12, 0, 0), (12, .iconst (-1), 13, 0, (-1)), (13, .if_icmp .ne 7, 16, 20, 0),
  (16, .iload_n 1, 17, 0, 0), (17, .goto 17, 20, 34, 0), (20, .iload_n 0, 21, 0, 0), (21, .iload_n 1, 22, 0, 0), (22, .if_icmp .ge 11, 25, 33, 0), (25, .aload_n 2, 26, 0, 0), (26, .iload_n 3, 27, 0, 0), (27, .iload_n 0, 28, 0, 0),
  (28, .iadd, 29, 0, 0), (29, .iaload, 30, 0, 0), (30, .goto 4, 33, 34, 0), (33, .iconst (-1), 34, 0, (-1)), (34, .ireturn, 35, 0, 0)]
abbrev M_X11_letterAt : MI := (yX11_letterAt, cX11_letterAt, 4, (some .int), 11, P_X11_letterAt)
theorem ok_X11_letterAt : okP 11 cX11_letterAt P_X11_letterAt = true := by decide +kernel
def P_X11_said : List PE := [(0, .aload_n 0, 1, 0, 0), (1, .iload_n 1, 2, 0, 0), (2, .invokevirtual 58, 5, 0, 0), (5, .ifCond .eq 13, 8, 18, 0), (8, .iload_n 2, 9, 0, 0), (9, .iconst (-1), 10, 0, (-1)), (10, .bipush 39, 12, 0, 39), (12, .invokestatic 7, 15, 0, 0),
  (15, .ifCond .ne 6, 18, 21, 0), (18, .bipush (-2), 20, 0, (-2)), (20, .ireturn, 21, 0, 0), (21, .aload_n 0, 22, 0, 0), (22, .iload_n 1, 23, 0, 0), (23, .invokevirtual 238, 26, 0, 0), (26, .iload_n 2, 27, 0, 0), (27, .aload_n 0, 28, 0, 0),
  (28, .getfield 193, 31, 0, 0), (31, .iload_n 1, 32, 0, 0), (32, .iaload, 33, 0, 0), (33, .aload_n 0, 34, 0, 0), (34, .getfield 190, 37, 0, 0), (37, .bipush 40, 39, 0, 40), (39, .iload_n 1, 40, 0, 0), (40, .imul, 41, 0, 0),
  (41, .invokestatic 241, 44, 0, 0), (44, .ireturn, 45, 0, 0)]
abbrev M_X11_said : MI := (yX11_said, cX11_said, 3, (some .int), 11, P_X11_said)
theorem ok_X11_said : okP 11 cX11_said P_X11_said = true := by decide +kernel
