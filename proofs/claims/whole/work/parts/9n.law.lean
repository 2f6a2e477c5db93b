-- ===== law: its instructions in pieces, its call sites, the script =====
def P_L0 : List PE := [(0, .new 7, 3, 0, 0), (3, .dup, 4, 0, 0), (4, .invokespecial 9, 7, 0, 0), (7, .astore_n 1, 8, 0, 0), (8, .new 10, 11, 0, 0), (11, .dup, 12, 0, 0), (12, .invokespecial 12, 15, 0, 0), (15, .astore_n 2, 16, 0, 0),
  (16, .iconst 0, 17, 0, 0), (17, .istore_n 3, 18, 0, 0), (18, .iload_n 3, 19, 0, 0), (19, .aload_n 0, 20, 0, 0), (20, .arraylength, 21, 0, 0), (21, .bipush 6, 23, 0, 6), (23, .isub, 24, 0, 0), (24, .if_icmp .gt 1091, 27, 1115, 0),
  (27, .aload_n 0, 28, 0, 0), (28, .iload_n 3, 29, 0, 0), (29, .iaload, 30, 0, 0), (30, .bipush 31, 32, 0, 31), (32, .iand, 33, 0, 0), (33, .tableswitch 1076 0 29 #[135, 168, 211, 234, 247, 290, 323, 346, 359, 382, 415, 458, 491, 514, 537, 560, 593, 626, 679, 692, 725, 748, 792, 805, 818, 841, 884, 927, 990, 1043], 168, 0, 0), (168, .aload_n 1, 169, 0, 0), (169, .aload_n 0, 170, 0, 0),
  (170, .iload_n 3, 171, 0, 0), (171, .iconst 1, 172, 0, 1), (172, .iadd, 173, 0, 0), (173, .iaload, 174, 0, 0), (174, .aload_n 0, 175, 0, 0), (175, .iload_n 3, 176, 0, 0), (176, .iconst 2, 177, 0, 2), (177, .iadd, 178, 0, 0),
  (178, .iaload, 179, 0, 0), (179, .invokevirtual 13, 182, 0, 0), (182, .aload_n 2, 183, 0, 0), (183, .aload_n 0, 184, 0, 0), (184, .iload_n 3, 185, 0, 0), (185, .iconst 1, 186, 0, 1), (186, .iadd, 187, 0, 0), (187, .iaload, 188, 0, 0)]
theorem ok_L0 : okP 12 cL_law P_L0 = true := by decide +kernel
def P_L1 : List PE := [(188, .aload_n 0, 189, 0, 0), (189, .iload_n 3, 190, 0, 0), (190, .iconst 2, 191, 0, 2), (191, .iadd, 192, 0, 0), (192, .iaload, 193, 0, 0), (193, .invokevirtual 17, 196, 0, 0), (196, .if_icmp .eq 913, 199, 1109, 0), (199, .iconst 0, 200, 0, 0),
  (200, .ireturn, 201, 0, 0), (201, .aload_n 1, 202, 0, 0), (202, .aload_n 0, 203, 0, 0), (203, .iload_n 3, 204, 0, 0), (204, .iconst 1, 205, 0, 1), (205, .iadd, 206, 0, 0), (206, .iaload, 207, 0, 0), (207, .aload_n 0, 208, 0, 0),
  (208, .iload_n 3, 209, 0, 0), (209, .iconst 2, 210, 0, 2), (210, .iadd, 211, 0, 0), (211, .iaload, 212, 0, 0), (212, .aload_n 0, 213, 0, 0), (213, .iload_n 3, 214, 0, 0), (214, .iconst 3, 215, 0, 3), (215, .iadd, 216, 0, 0),
  (216, .iaload, 217, 0, 0), (217, .invokevirtual 18, 220, 0, 0), (220, .aload_n 2, 221, 0, 0), (221, .aload_n 0, 222, 0, 0), (222, .iload_n 3, 223, 0, 0), (223, .iconst 1, 224, 0, 1), (224, .iadd, 225, 0, 0), (225, .iaload, 226, 0, 0),
  (226, .aload_n 0, 227, 0, 0), (227, .iload_n 3, 228, 0, 0), (228, .iconst 2, 229, 0, 2), (229, .iadd, 230, 0, 0), (230, .iaload, 231, 0, 0), (231, .aload_n 0, 232, 0, 0), (232, .iload_n 3, 233, 0, 0), (233, .iconst 3, 234, 0, 3)]
theorem ok_L1 : okP 12 cL_law P_L1 = true := by decide +kernel
def P_L2 : List PE := [(234, .iadd, 235, 0, 0), (235, .iaload, 236, 0, 0), (236, .invokevirtual 22, 239, 0, 0), (239, .if_icmp .eq 870, 242, 1109, 0), (242, .iconst 0, 243, 0, 0), (243, .ireturn, 244, 0, 0), (244, .aload_n 1, 245, 0, 0), (245, .aload_n 0, 246, 0, 0),
  (246, .iload_n 3, 247, 0, 0), (247, .iconst 1, 248, 0, 1), (248, .iadd, 249, 0, 0), (249, .iaload, 250, 0, 0), (250, .invokevirtual 23, 253, 0, 0), (253, .aload_n 2, 254, 0, 0), (254, .aload_n 0, 255, 0, 0), (255, .iload_n 3, 256, 0, 0),
  (256, .iconst 1, 257, 0, 1), (257, .iadd, 258, 0, 0), (258, .iaload, 259, 0, 0), (259, .invokevirtual 27, 262, 0, 0), (262, .if_icmp .eq 847, 265, 1109, 0), (265, .iconst 0, 266, 0, 0), (266, .ireturn, 267, 0, 0), (267, .aload_n 1, 268, 0, 0),
  (268, .invokevirtual 28, 271, 0, 0), (271, .aload_n 2, 272, 0, 0), (272, .invokevirtual 32, 275, 0, 0), (275, .if_icmp .eq 834, 278, 1109, 0), (278, .iconst 0, 279, 0, 0), (279, .ireturn, 280, 0, 0), (280, .aload_n 1, 281, 0, 0), (281, .aload_n 0, 282, 0, 0),
  (282, .iload_n 3, 283, 0, 0), (283, .iconst 1, 284, 0, 1), (284, .iadd, 285, 0, 0), (285, .iaload, 286, 0, 0), (286, .aload_n 0, 287, 0, 0), (287, .iload_n 3, 288, 0, 0), (288, .iconst 2, 289, 0, 2), (289, .iadd, 290, 0, 0)]
theorem ok_L2 : okP 12 cL_law P_L2 = true := by decide +kernel
def P_L3 : List PE := [(290, .iaload, 291, 0, 0), (291, .aload_n 0, 292, 0, 0), (292, .iload_n 3, 293, 0, 0), (293, .iconst 3, 294, 0, 3), (294, .iadd, 295, 0, 0), (295, .iaload, 296, 0, 0), (296, .invokevirtual 33, 299, 0, 0), (299, .aload_n 2, 300, 0, 0),
  (300, .aload_n 0, 301, 0, 0), (301, .iload_n 3, 302, 0, 0), (302, .iconst 1, 303, 0, 1), (303, .iadd, 304, 0, 0), (304, .iaload, 305, 0, 0), (305, .aload_n 0, 306, 0, 0), (306, .iload_n 3, 307, 0, 0), (307, .iconst 2, 308, 0, 2),
  (308, .iadd, 309, 0, 0), (309, .iaload, 310, 0, 0), (310, .aload_n 0, 311, 0, 0), (311, .iload_n 3, 312, 0, 0), (312, .iconst 3, 313, 0, 3), (313, .iadd, 314, 0, 0), (314, .iaload, 315, 0, 0), (315, .invokevirtual 36, 318, 0, 0),
  (318, .if_icmp .eq 791, 321, 1109, 0), (321, .iconst 0, 322, 0, 0), (322, .ireturn, 323, 0, 0), (323, .aload_n 1, 324, 0, 0), (324, .aload_n 0, 325, 0, 0), (325, .iload_n 3, 326, 0, 0), (326, .iconst 1, 327, 0, 1), (327, .iadd, 328, 0, 0),
  (328, .iaload, 329, 0, 0), (329, .aload_n 0, 330, 0, 0), (330, .iload_n 3, 331, 0, 0), (331, .iconst 2, 332, 0, 2), (332, .iadd, 333, 0, 0), (333, .iaload, 334, 0, 0), (334, .invokevirtual 37, 337, 0, 0), (337, .aload_n 2, 338, 0, 0)]
theorem ok_L3 : okP 12 cL_law P_L3 = true := by decide +kernel
def P_L4 : List PE := [(338, .aload_n 0, 339, 0, 0), (339, .iload_n 3, 340, 0, 0), (340, .iconst 1, 341, 0, 1), (341, .iadd, 342, 0, 0), (342, .iaload, 343, 0, 0), (343, .aload_n 0, 344, 0, 0), (344, .iload_n 3, 345, 0, 0), (345, .iconst 2, 346, 0, 2),
  (346, .iadd, 347, 0, 0), (347, .iaload, 348, 0, 0), (348, .invokevirtual 40, 351, 0, 0), (351, .if_icmp .eq 758, 354, 1109, 0), (354, .iconst 0, 355, 0, 0), (355, .ireturn, 356, 0, 0), (356, .aload_n 1, 357, 0, 0), (357, .aload_n 0, 358, 0, 0),
  (358, .iload_n 3, 359, 0, 0), (359, .iconst 1, 360, 0, 1), (360, .iadd, 361, 0, 0), (361, .iaload, 362, 0, 0), (362, .invokevirtual 41, 365, 0, 0), (365, .aload_n 2, 366, 0, 0), (366, .aload_n 0, 367, 0, 0), (367, .iload_n 3, 368, 0, 0),
  (368, .iconst 1, 369, 0, 1), (369, .iadd, 370, 0, 0), (370, .iaload, 371, 0, 0), (371, .invokevirtual 44, 374, 0, 0), (374, .if_icmp .eq 735, 377, 1109, 0), (377, .iconst 0, 378, 0, 0), (378, .ireturn, 379, 0, 0), (379, .aload_n 1, 380, 0, 0),
  (380, .invokevirtual 45, 383, 0, 0), (383, .aload_n 2, 384, 0, 0), (384, .invokevirtual 48, 387, 0, 0), (387, .if_icmp .eq 722, 390, 1109, 0), (390, .iconst 0, 391, 0, 0), (391, .ireturn, 392, 0, 0), (392, .aload_n 1, 393, 0, 0), (393, .aload_n 0, 394, 0, 0)]
theorem ok_L4 : okP 12 cL_law P_L4 = true := by decide +kernel
def P_L5 : List PE := [(394, .iload_n 3, 395, 0, 0), (395, .iconst 1, 396, 0, 1), (396, .iadd, 397, 0, 0), (397, .iaload, 398, 0, 0), (398, .invokevirtual 49, 401, 0, 0), (401, .aload_n 2, 402, 0, 0), (402, .aload_n 0, 403, 0, 0), (403, .iload_n 3, 404, 0, 0),
  (404, .iconst 1, 405, 0, 1), (405, .iadd, 406, 0, 0), (406, .iaload, 407, 0, 0), (407, .invokevirtual 52, 410, 0, 0), (410, .if_icmp .eq 699, 413, 1109, 0), (413, .iconst 0, 414, 0, 0), (414, .ireturn, 415, 0, 0), (415, .aload_n 1, 416, 0, 0),
  (416, .aload_n 0, 417, 0, 0), (417, .iload_n 3, 418, 0, 0), (418, .iconst 1, 419, 0, 1), (419, .iadd, 420, 0, 0), (420, .iaload, 421, 0, 0), (421, .aload_n 0, 422, 0, 0), (422, .iload_n 3, 423, 0, 0), (423, .iconst 2, 424, 0, 2),
  (424, .iadd, 425, 0, 0), (425, .iaload, 426, 0, 0), (426, .invokevirtual 53, 429, 0, 0), (429, .aload_n 2, 430, 0, 0), (430, .aload_n 0, 431, 0, 0), (431, .iload_n 3, 432, 0, 0), (432, .iconst 1, 433, 0, 1), (433, .iadd, 434, 0, 0),
  (434, .iaload, 435, 0, 0), (435, .aload_n 0, 436, 0, 0), (436, .iload_n 3, 437, 0, 0), (437, .iconst 2, 438, 0, 2), (438, .iadd, 439, 0, 0), (439, .iaload, 440, 0, 0), (440, .invokevirtual 56, 443, 0, 0), (443, .if_icmp .eq 666, 446, 1109, 0)]
theorem ok_L5 : okP 12 cL_law P_L5 = true := by decide +kernel
def P_L6 : List PE := [(446, .iconst 0, 447, 0, 0), (447, .ireturn, 448, 0, 0), (448, .aload_n 1, 449, 0, 0), (449, .aload_n 0, 450, 0, 0), (450, .iload_n 3, 451, 0, 0), (451, .iconst 1, 452, 0, 1), (452, .iadd, 453, 0, 0), (453, .iaload, 454, 0, 0),
  (454, .aload_n 0, 455, 0, 0), (455, .iload_n 3, 456, 0, 0), (456, .iconst 2, 457, 0, 2), (457, .iadd, 458, 0, 0), (458, .iaload, 459, 0, 0), (459, .aload_n 0, 460, 0, 0), (460, .iload_n 3, 461, 0, 0), (461, .iconst 3, 462, 0, 3),
  (462, .iadd, 463, 0, 0), (463, .iaload, 464, 0, 0), (464, .invokevirtual 57, 467, 0, 0), (467, .aload_n 2, 468, 0, 0), (468, .aload_n 0, 469, 0, 0), (469, .iload_n 3, 470, 0, 0), (470, .iconst 1, 471, 0, 1), (471, .iadd, 472, 0, 0),
  (472, .iaload, 473, 0, 0), (473, .aload_n 0, 474, 0, 0), (474, .iload_n 3, 475, 0, 0), (475, .iconst 2, 476, 0, 2), (476, .iadd, 477, 0, 0), (477, .iaload, 478, 0, 0), (478, .aload_n 0, 479, 0, 0), (479, .iload_n 3, 480, 0, 0),
  (480, .iconst 3, 481, 0, 3), (481, .iadd, 482, 0, 0), (482, .iaload, 483, 0, 0), (483, .invokevirtual 60, 486, 0, 0), (486, .if_icmp .eq 623, 489, 1109, 0), (489, .iconst 0, 490, 0, 0), (490, .ireturn, 491, 0, 0), (491, .aload_n 1, 492, 0, 0)]
theorem ok_L6 : okP 12 cL_law P_L6 = true := by decide +kernel
def P_L7 : List PE := [(492, .aload_n 0, 493, 0, 0), (493, .iload_n 3, 494, 0, 0), (494, .iconst 1, 495, 0, 1), (495, .iadd, 496, 0, 0), (496, .iaload, 497, 0, 0), (497, .aload_n 0, 498, 0, 0), (498, .iload_n 3, 499, 0, 0), (499, .iconst 2, 500, 0, 2),
  (500, .iadd, 501, 0, 0), (501, .iaload, 502, 0, 0), (502, .invokevirtual 61, 505, 0, 0), (505, .aload_n 2, 506, 0, 0), (506, .aload_n 0, 507, 0, 0), (507, .iload_n 3, 508, 0, 0), (508, .iconst 1, 509, 0, 1), (509, .iadd, 510, 0, 0),
  (510, .iaload, 511, 0, 0), (511, .aload_n 0, 512, 0, 0), (512, .iload_n 3, 513, 0, 0), (513, .iconst 2, 514, 0, 2), (514, .iadd, 515, 0, 0), (515, .iaload, 516, 0, 0), (516, .invokevirtual 64, 519, 0, 0), (519, .if_icmp .eq 590, 522, 1109, 0),
  (522, .iconst 0, 523, 0, 0), (523, .ireturn, 524, 0, 0), (524, .aload_n 1, 525, 0, 0), (525, .aload_n 0, 526, 0, 0), (526, .iload_n 3, 527, 0, 0), (527, .iconst 1, 528, 0, 1), (528, .iadd, 529, 0, 0), (529, .iaload, 530, 0, 0),
  (530, .invokevirtual 65, 533, 0, 0), (533, .aload_n 2, 534, 0, 0), (534, .aload_n 0, 535, 0, 0), (535, .iload_n 3, 536, 0, 0), (536, .iconst 1, 537, 0, 1), (537, .iadd, 538, 0, 0), (538, .iaload, 539, 0, 0), (539, .invokevirtual 68, 542, 0, 0)]
theorem ok_L7 : okP 12 cL_law P_L7 = true := by decide +kernel
def P_L8 : List PE := [(542, .if_icmp .eq 567, 545, 1109, 0), (545, .iconst 0, 546, 0, 0), (546, .ireturn, 547, 0, 0), (547, .aload_n 1, 548, 0, 0), (548, .aload_n 0, 549, 0, 0), (549, .iload_n 3, 550, 0, 0), (550, .iconst 1, 551, 0, 1), (551, .iadd, 552, 0, 0),
  (552, .iaload, 553, 0, 0), (553, .invokevirtual 69, 556, 0, 0), (556, .aload_n 2, 557, 0, 0), (557, .aload_n 0, 558, 0, 0), (558, .iload_n 3, 559, 0, 0), (559, .iconst 1, 560, 0, 1), (560, .iadd, 561, 0, 0), (561, .iaload, 562, 0, 0),
  (562, .invokevirtual 72, 565, 0, 0), (565, .if_icmp .eq 544, 568, 1109, 0), (568, .iconst 0, 569, 0, 0), (569, .ireturn, 570, 0, 0), (570, .aload_n 1, 571, 0, 0), (571, .aload_n 0, 572, 0, 0), (572, .iload_n 3, 573, 0, 0), (573, .iconst 1, 574, 0, 1),
  (574, .iadd, 575, 0, 0), (575, .iaload, 576, 0, 0), (576, .invokevirtual 73, 579, 0, 0), (579, .aload_n 2, 580, 0, 0), (580, .aload_n 0, 581, 0, 0), (581, .iload_n 3, 582, 0, 0), (582, .iconst 1, 583, 0, 1), (583, .iadd, 584, 0, 0),
  (584, .iaload, 585, 0, 0), (585, .invokevirtual 76, 588, 0, 0), (588, .if_icmp .eq 521, 591, 1109, 0), (591, .iconst 0, 592, 0, 0), (592, .ireturn, 593, 0, 0), (593, .aload_n 1, 594, 0, 0), (594, .aload_n 0, 595, 0, 0), (595, .iload_n 3, 596, 0, 0)]
theorem ok_L8 : okP 12 cL_law P_L8 = true := by decide +kernel
def P_L9 : List PE := [(596, .iconst 1, 597, 0, 1), (597, .iadd, 598, 0, 0), (598, .iaload, 599, 0, 0), (599, .aload_n 0, 600, 0, 0), (600, .iload_n 3, 601, 0, 0), (601, .iconst 2, 602, 0, 2), (602, .iadd, 603, 0, 0), (603, .iaload, 604, 0, 0),
  (604, .invokevirtual 77, 607, 0, 0), (607, .aload_n 2, 608, 0, 0), (608, .aload_n 0, 609, 0, 0), (609, .iload_n 3, 610, 0, 0), (610, .iconst 1, 611, 0, 1), (611, .iadd, 612, 0, 0), (612, .iaload, 613, 0, 0), (613, .aload_n 0, 614, 0, 0),
  (614, .iload_n 3, 615, 0, 0), (615, .iconst 2, 616, 0, 2), (616, .iadd, 617, 0, 0), (617, .iaload, 618, 0, 0), (618, .invokevirtual 80, 621, 0, 0), (621, .if_icmp .eq 488, 624, 1109, 0), (624, .iconst 0, 625, 0, 0), (625, .ireturn, 626, 0, 0),
  (626, .aload_n 1, 627, 0, 0), (627, .aload_n 0, 628, 0, 0), (628, .iload_n 3, 629, 0, 0), (629, .iconst 1, 630, 0, 1), (630, .iadd, 631, 0, 0), (631, .iaload, 632, 0, 0), (632, .aload_n 0, 633, 0, 0), (633, .iload_n 3, 634, 0, 0),
  (634, .iconst 2, 635, 0, 2), (635, .iadd, 636, 0, 0), (636, .iaload, 637, 0, 0), (637, .invokevirtual 81, 640, 0, 0), (640, .aload_n 2, 641, 0, 0), (641, .aload_n 0, 642, 0, 0), (642, .iload_n 3, 643, 0, 0), (643, .iconst 1, 644, 0, 1)]
theorem ok_L9 : okP 12 cL_law P_L9 = true := by decide +kernel
def P_L10 : List PE := [(644, .iadd, 645, 0, 0), (645, .iaload, 646, 0, 0), (646, .aload_n 0, 647, 0, 0), (647, .iload_n 3, 648, 0, 0), (648, .iconst 2, 649, 0, 2), (649, .iadd, 650, 0, 0), (650, .iaload, 651, 0, 0), (651, .invokevirtual 84, 654, 0, 0),
  (654, .if_icmp .eq 455, 657, 1109, 0), (657, .iconst 0, 658, 0, 0), (658, .ireturn, 659, 0, 0), (659, .aload_n 1, 660, 0, 0), (660, .aload_n 0, 661, 0, 0), (661, .iload_n 3, 662, 0, 0), (662, .iconst 1, 663, 0, 1), (663, .iadd, 664, 0, 0),
  (664, .iaload, 665, 0, 0), (665, .aload_n 0, 666, 0, 0), (666, .iload_n 3, 667, 0, 0), (667, .iconst 2, 668, 0, 2), (668, .iadd, 669, 0, 0), (669, .iaload, 670, 0, 0), (670, .aload_n 0, 671, 0, 0), (671, .iload_n 3, 672, 0, 0),
  (672, .iconst 3, 673, 0, 3), (673, .iadd, 674, 0, 0), (674, .iaload, 675, 0, 0), (675, .aload_n 0, 676, 0, 0), (676, .iload_n 3, 677, 0, 0), (677, .iconst 4, 678, 0, 4), (678, .iadd, 679, 0, 0), (679, .iaload, 680, 0, 0),
  (680, .invokevirtual 85, 683, 0, 0), (683, .aload_n 2, 684, 0, 0), (684, .aload_n 0, 685, 0, 0), (685, .iload_n 3, 686, 0, 0), (686, .iconst 1, 687, 0, 1), (687, .iadd, 688, 0, 0), (688, .iaload, 689, 0, 0), (689, .aload_n 0, 690, 0, 0)]
theorem ok_L10 : okP 12 cL_law P_L10 = true := by decide +kernel
def P_L11 : List PE := [(690, .iload_n 3, 691, 0, 0), (691, .iconst 2, 692, 0, 2), (692, .iadd, 693, 0, 0), (693, .iaload, 694, 0, 0), (694, .aload_n 0, 695, 0, 0), (695, .iload_n 3, 696, 0, 0), (696, .iconst 3, 697, 0, 3), (697, .iadd, 698, 0, 0),
  (698, .iaload, 699, 0, 0), (699, .aload_n 0, 700, 0, 0), (700, .iload_n 3, 701, 0, 0), (701, .iconst 4, 702, 0, 4), (702, .iadd, 703, 0, 0), (703, .iaload, 704, 0, 0), (704, .invokevirtual 89, 707, 0, 0), (707, .if_icmp .eq 402, 710, 1109, 0),
  (710, .iconst 0, 711, 0, 0), (711, .ireturn, 712, 0, 0), (712, .aload_n 1, 713, 0, 0), (713, .invokevirtual 90, 716, 0, 0), (716, .aload_n 2, 717, 0, 0), (717, .invokevirtual 93, 720, 0, 0), (720, .if_icmp .eq 389, 723, 1109, 0), (723, .iconst 0, 724, 0, 0),
  (724, .ireturn, 725, 0, 0), (725, .aload_n 1, 726, 0, 0), (726, .aload_n 0, 727, 0, 0), (727, .iload_n 3, 728, 0, 0), (728, .iconst 1, 729, 0, 1), (729, .iadd, 730, 0, 0), (730, .iaload, 731, 0, 0), (731, .aload_n 0, 732, 0, 0),
  (732, .iload_n 3, 733, 0, 0), (733, .iconst 2, 734, 0, 2), (734, .iadd, 735, 0, 0), (735, .iaload, 736, 0, 0), (736, .invokevirtual 94, 739, 0, 0), (739, .aload_n 2, 740, 0, 0), (740, .aload_n 0, 741, 0, 0), (741, .iload_n 3, 742, 0, 0)]
theorem ok_L11 : okP 12 cL_law P_L11 = true := by decide +kernel
def P_L12 : List PE := [(742, .iconst 1, 743, 0, 1), (743, .iadd, 744, 0, 0), (744, .iaload, 745, 0, 0), (745, .aload_n 0, 746, 0, 0), (746, .iload_n 3, 747, 0, 0), (747, .iconst 2, 748, 0, 2), (748, .iadd, 749, 0, 0), (749, .iaload, 750, 0, 0),
  (750, .invokevirtual 97, 753, 0, 0), (753, .if_icmp .eq 356, 756, 1109, 0), (756, .iconst 0, 757, 0, 0), (757, .ireturn, 758, 0, 0), (758, .aload_n 1, 759, 0, 0), (759, .aload_n 0, 760, 0, 0), (760, .iload_n 3, 761, 0, 0), (761, .iconst 1, 762, 0, 1),
  (762, .iadd, 763, 0, 0), (763, .iaload, 764, 0, 0), (764, .invokevirtual 98, 767, 0, 0), (767, .aload_n 2, 768, 0, 0), (768, .aload_n 0, 769, 0, 0), (769, .iload_n 3, 770, 0, 0), (770, .iconst 1, 771, 0, 1), (771, .iadd, 772, 0, 0),
  (772, .iaload, 773, 0, 0), (773, .invokevirtual 101, 776, 0, 0), (776, .if_icmp .eq 333, 779, 1109, 0), (779, .iconst 0, 780, 0, 0), (780, .ireturn, 781, 0, 0), (781, .aload_n 1, 782, 0, 0), (782, .aload_n 0, 783, 0, 0), (783, .iload_n 3, 784, 0, 0),
  (784, .iconst 1, 785, 0, 1), (785, .iadd, 786, 0, 0), (786, .iaload, 787, 0, 0), (787, .aload_n 0, 788, 0, 0), (788, .iload_n 3, 789, 0, 0), (789, .iconst 2, 790, 0, 2), (790, .iadd, 791, 0, 0), (791, .iaload, 792, 0, 0)]
theorem ok_L12 : okP 12 cL_law P_L12 = true := by decide +kernel
def P_L13 : List PE := [(792, .aload_n 0, 793, 0, 0), (793, .iload_n 3, 794, 0, 0), (794, .iconst 3, 795, 0, 3), (795, .iadd, 796, 0, 0), (796, .iaload, 797, 0, 0), (797, .invokevirtual 102, 800, 0, 0), (800, .aload_n 2, 801, 0, 0), (801, .aload_n 0, 802, 0, 0),
  (802, .iload_n 3, 803, 0, 0), (803, .iconst 1, 804, 0, 1), (804, .iadd, 805, 0, 0), (805, .iaload, 806, 0, 0), (806, .aload_n 0, 807, 0, 0), (807, .iload_n 3, 808, 0, 0), (808, .iconst 2, 809, 0, 2), (809, .iadd, 810, 0, 0),
  (810, .iaload, 811, 0, 0), (811, .aload_n 0, 812, 0, 0), (812, .iload_n 3, 813, 0, 0), (813, .iconst 3, 814, 0, 3), (814, .iadd, 815, 0, 0), (815, .iaload, 816, 0, 0), (816, .invokevirtual 106, 819, 0, 0), (819, .lcmp, 820, 0, 0),
  (820, .ifCond .eq 289, 823, 1109, 0), (823, .iconst 0, 824, 0, 0), (824, .ireturn, 825, 0, 0), (825, .aload_n 1, 826, 0, 0), (826, .invokevirtual 107, 829, 0, 0), (829, .aload_n 2, 830, 0, 0), (830, .invokevirtual 110, 833, 0, 0), (833, .if_icmp .eq 276, 836, 1109, 0),
  (836, .iconst 0, 837, 0, 0), (837, .ireturn, 838, 0, 0), (838, .aload_n 1, 839, 0, 0), (839, .invokevirtual 111, 842, 0, 0), (842, .aload_n 2, 843, 0, 0), (843, .invokevirtual 114, 846, 0, 0), (846, .if_icmp .eq 263, 849, 1109, 0), (849, .iconst 0, 850, 0, 0)]
theorem ok_L13 : okP 12 cL_law P_L13 = true := by decide +kernel
def P_L14 : List PE := [(850, .ireturn, 851, 0, 0), (851, .aload_n 1, 852, 0, 0), (852, .aload_n 0, 853, 0, 0), (853, .iload_n 3, 854, 0, 0), (854, .iconst 1, 855, 0, 1), (855, .iadd, 856, 0, 0), (856, .iaload, 857, 0, 0), (857, .invokevirtual 115, 860, 0, 0),
  (860, .aload_n 2, 861, 0, 0), (861, .aload_n 0, 862, 0, 0), (862, .iload_n 3, 863, 0, 0), (863, .iconst 1, 864, 0, 1), (864, .iadd, 865, 0, 0), (865, .iaload, 866, 0, 0), (866, .invokevirtual 118, 869, 0, 0), (869, .if_icmp .eq 240, 872, 1109, 0),
  (872, .iconst 0, 873, 0, 0), (873, .ireturn, 874, 0, 0), (874, .aload_n 1, 875, 0, 0), (875, .aload_n 0, 876, 0, 0), (876, .iload_n 3, 877, 0, 0), (877, .iconst 1, 878, 0, 1), (878, .iadd, 879, 0, 0), (879, .iaload, 880, 0, 0),
  (880, .aload_n 0, 881, 0, 0), (881, .iload_n 3, 882, 0, 0), (882, .iconst 2, 883, 0, 2), (883, .iadd, 884, 0, 0), (884, .iaload, 885, 0, 0), (885, .aload_n 0, 886, 0, 0), (886, .iload_n 3, 887, 0, 0), (887, .iconst 3, 888, 0, 3),
  (888, .iadd, 889, 0, 0), (889, .iaload, 890, 0, 0), (890, .invokevirtual 119, 893, 0, 0), (893, .aload_n 2, 894, 0, 0), (894, .aload_n 0, 895, 0, 0), (895, .iload_n 3, 896, 0, 0), (896, .iconst 1, 897, 0, 1), (897, .iadd, 898, 0, 0)]
theorem ok_L14 : okP 12 cL_law P_L14 = true := by decide +kernel
def P_L15 : List PE := [(898, .iaload, 899, 0, 0), (899, .aload_n 0, 900, 0, 0), (900, .iload_n 3, 901, 0, 0), (901, .iconst 2, 902, 0, 2), (902, .iadd, 903, 0, 0), (903, .iaload, 904, 0, 0), (904, .aload_n 0, 905, 0, 0), (905, .iload_n 3, 906, 0, 0),
  (906, .iconst 3, 907, 0, 3), (907, .iadd, 908, 0, 0), (908, .iaload, 909, 0, 0), (909, .invokevirtual 122, 912, 0, 0), (912, .if_icmp .eq 197, 915, 1109, 0), (915, .iconst 0, 916, 0, 0), (916, .ireturn, 917, 0, 0), (917, .aload_n 1, 918, 0, 0),
  (918, .aload_n 0, 919, 0, 0), (919, .iload_n 3, 920, 0, 0), (920, .iconst 1, 921, 0, 1), (921, .iadd, 922, 0, 0), (922, .iaload, 923, 0, 0), (923, .aload_n 0, 924, 0, 0), (924, .iload_n 3, 925, 0, 0), (925, .iconst 2, 926, 0, 2),
  (926, .iadd, 927, 0, 0), (927, .iaload, 928, 0, 0), (928, .aload_n 0, 929, 0, 0), (929, .iload_n 3, 930, 0, 0), (930, .iconst 3, 931, 0, 3), (931, .iadd, 932, 0, 0), (932, .iaload, 933, 0, 0), (933, .invokevirtual 123, 936, 0, 0),
  (936, .aload_n 2, 937, 0, 0), (937, .aload_n 0, 938, 0, 0), (938, .iload_n 3, 939, 0, 0), (939, .iconst 1, 940, 0, 1), (940, .iadd, 941, 0, 0), (941, .iaload, 942, 0, 0), (942, .aload_n 0, 943, 0, 0), (943, .iload_n 3, 944, 0, 0)]
theorem ok_L15 : okP 12 cL_law P_L15 = true := by decide +kernel
def P_L16 : List PE := [(944, .iconst 2, 945, 0, 2), (945, .iadd, 946, 0, 0), (946, .iaload, 947, 0, 0), (947, .aload_n 0, 948, 0, 0), (948, .iload_n 3, 949, 0, 0), (949, .iconst 3, 950, 0, 3), (950, .iadd, 951, 0, 0), (951, .iaload, 952, 0, 0),
  (952, .invokevirtual 126, 955, 0, 0), (955, .if_icmp .eq 154, 958, 1109, 0), (958, .iconst 0, 959, 0, 0), (959, .ireturn, 960, 0, 0), (960, .aload_n 1, 961, 0, 0), (961, .aload_n 0, 962, 0, 0), (962, .iload_n 3, 963, 0, 0), (963, .iconst 1, 964, 0, 1),
  (964, .iadd, 965, 0, 0), (965, .iaload, 966, 0, 0), (966, .aload_n 0, 967, 0, 0), (967, .iload_n 3, 968, 0, 0), (968, .iconst 2, 969, 0, 2), (969, .iadd, 970, 0, 0), (970, .iaload, 971, 0, 0), (971, .aload_n 0, 972, 0, 0),
  (972, .iload_n 3, 973, 0, 0), (973, .iconst 3, 974, 0, 3), (974, .iadd, 975, 0, 0), (975, .iaload, 976, 0, 0), (976, .aload_n 0, 977, 0, 0), (977, .iload_n 3, 978, 0, 0), (978, .iconst 4, 979, 0, 4), (979, .iadd, 980, 0, 0),
  (980, .iaload, 981, 0, 0), (981, .aload_n 0, 982, 0, 0), (982, .iload_n 3, 983, 0, 0), (983, .iconst 5, 984, 0, 5), (984, .iadd, 985, 0, 0), (985, .iaload, 986, 0, 0), (986, .invokevirtual 127, 989, 0, 0), (989, .aload_n 2, 990, 0, 0)]
theorem ok_L16 : okP 12 cL_law P_L16 = true := by decide +kernel
def P_L17 : List PE := [(990, .aload_n 0, 991, 0, 0), (991, .iload_n 3, 992, 0, 0), (992, .iconst 1, 993, 0, 1), (993, .iadd, 994, 0, 0), (994, .iaload, 995, 0, 0), (995, .aload_n 0, 996, 0, 0), (996, .iload_n 3, 997, 0, 0), (997, .iconst 2, 998, 0, 2),
  (998, .iadd, 999, 0, 0), (999, .iaload, 1000, 0, 0), (1000, .aload_n 0, 1001, 0, 0), (1001, .iload_n 3, 1002, 0, 0), (1002, .iconst 3, 1003, 0, 3), (1003, .iadd, 1004, 0, 0), (1004, .iaload, 1005, 0, 0), (1005, .aload_n 0, 1006, 0, 0),
  (1006, .iload_n 3, 1007, 0, 0), (1007, .iconst 4, 1008, 0, 4), (1008, .iadd, 1009, 0, 0), (1009, .iaload, 1010, 0, 0), (1010, .aload_n 0, 1011, 0, 0), (1011, .iload_n 3, 1012, 0, 0), (1012, .iconst 5, 1013, 0, 5), (1013, .iadd, 1014, 0, 0),
  (1014, .iaload, 1015, 0, 0), (1015, .invokevirtual 131, 1018, 0, 0), (1018, .if_icmp .eq 91, 1021, 1109, 0), (1021, .iconst 0, 1022, 0, 0), (1022, .ireturn, 1023, 0, 0), (1023, .aload_n 1, 1024, 0, 0), (1024, .aload_n 0, 1025, 0, 0), (1025, .iload_n 3, 1026, 0, 0),
  (1026, .iconst 1, 1027, 0, 1), (1027, .iadd, 1028, 0, 0), (1028, .iaload, 1029, 0, 0), (1029, .aload_n 0, 1030, 0, 0), (1030, .iload_n 3, 1031, 0, 0), (1031, .iconst 2, 1032, 0, 2), (1032, .iadd, 1033, 0, 0), (1033, .iaload, 1034, 0, 0)]
theorem ok_L17 : okP 12 cL_law P_L17 = true := by decide +kernel
def P_L18 : List PE := [(1034, .aload_n 0, 1035, 0, 0), (1035, .iload_n 3, 1036, 0, 0), (1036, .iconst 3, 1037, 0, 3), (1037, .iadd, 1038, 0, 0), (1038, .iaload, 1039, 0, 0), (1039, .aload_n 0, 1040, 0, 0), (1040, .iload_n 3, 1041, 0, 0), (1041, .iconst 4, 1042, 0, 4),
  (1042, .iadd, 1043, 0, 0), (1043, .iaload, 1044, 0, 0), (1044, .invokevirtual 132, 1047, 0, 0), (1047, .aload_n 2, 1048, 0, 0), (1048, .aload_n 0, 1049, 0, 0), (1049, .iload_n 3, 1050, 0, 0), (1050, .iconst 1, 1051, 0, 1), (1051, .iadd, 1052, 0, 0),
  (1052, .iaload, 1053, 0, 0), (1053, .aload_n 0, 1054, 0, 0), (1054, .iload_n 3, 1055, 0, 0), (1055, .iconst 2, 1056, 0, 2), (1056, .iadd, 1057, 0, 0), (1057, .iaload, 1058, 0, 0), (1058, .aload_n 0, 1059, 0, 0), (1059, .iload_n 3, 1060, 0, 0),
  (1060, .iconst 3, 1061, 0, 3), (1061, .iadd, 1062, 0, 0), (1062, .iaload, 1063, 0, 0), (1063, .aload_n 0, 1064, 0, 0), (1064, .iload_n 3, 1065, 0, 0), (1065, .iconst 4, 1066, 0, 4), (1066, .iadd, 1067, 0, 0), (1067, .iaload, 1068, 0, 0),
  (1068, .invokevirtual 135, 1071, 0, 0), (1071, .if_icmp .eq 38, 1074, 1109, 0), (1074, .iconst 0, 1075, 0, 0), (1075, .ireturn, 1076, 0, 0), (1076, .aload_n 1, 1077, 0, 0), (1077, .aload_n 0, 1078, 0, 0), (1078, .iload_n 3, 1079, 0, 0), (1079, .iconst 1, 1080, 0, 1)]
theorem ok_L18 : okP 12 cL_law P_L18 = true := by decide +kernel
def P_L19 : List PE := [(1080, .iadd, 1081, 0, 0), (1081, .iaload, 1082, 0, 0), (1082, .aload_n 0, 1083, 0, 0), (1083, .iload_n 3, 1084, 0, 0), (1084, .iconst 2, 1085, 0, 2), (1085, .iadd, 1086, 0, 0), (1086, .iaload, 1087, 0, 0), (1087, .invokevirtual 136, 1090, 0, 0),
  (1090, .aload_n 2, 1091, 0, 0), (1091, .aload_n 0, 1092, 0, 0), (1092, .iload_n 3, 1093, 0, 0), (1093, .iconst 1, 1094, 0, 1), (1094, .iadd, 1095, 0, 0), (1095, .iaload, 1096, 0, 0), (1096, .aload_n 0, 1097, 0, 0), (1097, .iload_n 3, 1098, 0, 0),
  (1098, .iconst 2, 1099, 0, 2), (1099, .iadd, 1100, 0, 0), (1100, .iaload, 1101, 0, 0), (1101, .invokevirtual 139, 1104, 0, 0), (1104, .if_icmp .eq 5, 1107, 1109, 0), (1107, .iconst 0, 1108, 0, 0), (1108, .ireturn, 1109, 0, 0), (1109, .iinc 3 6, 1112, 0, 6),
  (1112, .goto (-1094), 1115, 18, 0), (1115, .iconst 1, 1116, 0, 1), (1116, .ireturn, 1117, 0, 0)]
theorem ok_L19 : okP 12 cL_law P_L19 = true := by decide +kernel
theorem okP_app {own : Nat} {cc : ByteArray} {a b : List PE} (ha : okP own cc a = true) (hb : okP own cc b = true) : okP own cc (a ++ b) = true := by
  unfold okP at ha hb ⊢
  rw [List.all_append, ha, hb]
  rfl
def P_L_law : List PE := P_L0 ++ (P_L1 ++ (P_L2 ++ (P_L3 ++ (P_L4 ++ (P_L5 ++ (P_L6 ++ (P_L7 ++ (P_L8 ++ (P_L9 ++ (P_L10 ++ (P_L11 ++ (P_L12 ++ (P_L13 ++ (P_L14 ++ (P_L15 ++ (P_L16 ++ (P_L17 ++ (P_L18 ++ (P_L19)))))))))))))))))))
theorem ok_L_law : okP 12 cL_law P_L_law = true := okP_app ok_L0 (okP_app ok_L1 (okP_app ok_L2 (okP_app ok_L3 (okP_app ok_L4 (okP_app ok_L5 (okP_app ok_L6 (okP_app ok_L7 (okP_app ok_L8 (okP_app ok_L9 (okP_app ok_L10 (okP_app ok_L11 (okP_app ok_L12 (okP_app ok_L13 (okP_app ok_L14 (okP_app ok_L15 (okP_app ok_L16 (okP_app ok_L17 (okP_app ok_L18 (ok_L19)))))))))))))))))))
abbrev M_L_law : MI := (⟨RL, "law", "([I)Z"⟩, cL_law, 4, (some .boolean), 12, P_L_law)
theorem k_12_13 : CVok 12 13 M_X10_learn 2 := CV_of [655, 656, 657, 83, 658] (by decide +kernel) (by decide +kernel) (by decide +kernel)
theorem k_12_17 : CVok 12 17 M_X11_learn 2 := CV_of [1111, 1112, 1113, 100, 1114] (by decide +kernel) (by decide +kernel) (by decide +kernel)
theorem k_12_18 : CVok 12 18 M_X10_rule 3 := CV_of [683, 684, 685, 83, 686] (by decide +kernel) (by decide +kernel) (by decide +kernel)
theorem k_12_22 : CVok 12 22 M_X11_rule 3 := CV_of [1121, 1122, 1123, 100, 1124] (by decide +kernel) (by decide +kernel) (by decide +kernel)
theorem k_12_23 : CVok 12 23 M_X10_then 1 := CV_of [695, 696, 697, 83, 698] (by decide +kernel) (by decide +kernel) (by decide +kernel)
theorem k_12_27 : CVok 12 27 M_X11_then 1 := CV_of [1125, 1126, 1127, 100, 1128] (by decide +kernel) (by decide +kernel) (by decide +kernel)
theorem k_12_28 : CVok 12 28 M_X10_clear 0 := CV_of [707, 708, 709, 83, 710] (by decide +kernel) (by decide +kernel) (by decide +kernel)
theorem k_12_32 : CVok 12 32 M_X11_clear 0 := CV_of [1134, 1135, 1136, 100, 1137] (by decide +kernel) (by decide +kernel) (by decide +kernel)
theorem k_12_33 : CVok 12 33 M_X10_set 3 := CV_of [711, 712, 713, 83, 714] (by decide +kernel) (by decide +kernel) (by decide +kernel)
theorem k_12_36 : CVok 12 36 M_X11_set 3 := CV_of [1146, 1147, 1148, 100, 1149] (by decide +kernel) (by decide +kernel) (by decide +kernel)
theorem k_12_37 : CVok 12 37 M_X10_told 2 := CV_of [739, 740, 741, 83, 742] (by decide +kernel) (by decide +kernel) (by decide +kernel)
theorem k_12_40 : CVok 12 40 M_X11_told 2 := CV_of [1138, 1139, 1140, 100, 1141] (by decide +kernel) (by decide +kernel) (by decide +kernel)
theorem k_12_41 : CVok 12 41 M_X10_feed 1 := CV_of [748, 749, 750, 83, 751] (by decide +kernel) (by decide +kernel) (by decide +kernel)
theorem k_12_44 : CVok 12 44 M_X11_feed 1 := CV_of [1152, 1153, 1154, 100, 1155] (by decide +kernel) (by decide +kernel) (by decide +kernel)
theorem k_12_45 : CVok 12 45 M_X10_text 0 := CV_of [752, 753, 754, 83, 755] (by decide +kernel) (by decide +kernel) (by decide +kernel)
theorem k_12_48 : CVok 12 48 M_X11_text 0 := CV_of [1156, 1157, 1158, 100, 1159] (by decide +kernel) (by decide +kernel) (by decide +kernel)
theorem k_12_49 : CVok 12 49 M_X10_force 1 := CV_of [756, 757, 758, 83, 759] (by decide +kernel) (by decide +kernel) (by decide +kernel)
theorem k_12_52 : CVok 12 52 M_X11_force 1 := CV_of [1223, 1224, 1225, 100, 1226] (by decide +kernel) (by decide +kernel) (by decide +kernel)
theorem k_12_53 : CVok 12 53 M_X10_said 2 := CV_of [760, 761, 762, 83, 763] (by decide +kernel) (by decide +kernel) (by decide +kernel)
theorem k_12_56 : CVok 12 56 M_X11_said 2 := CV_of [1371, 1372, 1373, 100, 1374] (by decide +kernel) (by decide +kernel) (by decide +kernel)
theorem k_12_57 : CVok 12 57 M_X10_turned 3 := CV_of [816, 817, 818, 83, 819] (by decide +kernel) (by decide +kernel) (by decide +kernel)
theorem k_12_60 : CVok 12 60 M_X11_turned 3 := CV_of [1398, 1399, 1400, 100, 1401] (by decide +kernel) (by decide +kernel) (by decide +kernel)
theorem k_12_61 : CVok 12 61 M_X10_of 2 := CV_of [824, 825, 826, 83, 827] (by decide +kernel) (by decide +kernel) (by decide +kernel)
theorem k_12_64 : CVok 12 64 M_X11_of 2 := CV_of [1402, 1403, 1404, 100, 1405] (by decide +kernel) (by decide +kernel) (by decide +kernel)
theorem k_12_65 : CVok 12 65 M_X10_all 1 := CV_of [897, 898, 899, 83, 900] (by decide +kernel) (by decide +kernel) (by decide +kernel)
theorem k_12_68 : CVok 12 68 M_X11_all 1 := CV_of [1443, 1444, 1445, 100, 1446] (by decide +kernel) (by decide +kernel) (by decide +kernel)
theorem k_12_69 : CVok 12 69 M_X10_leave 1 := CV_of [940, 941, 942, 83, 943] (by decide +kernel) (by decide +kernel) (by decide +kernel)
theorem k_12_72 : CVok 12 72 M_X11_leave 1 := CV_of [1460, 1461, 1462, 100, 1463] (by decide +kernel) (by decide +kernel) (by decide +kernel)
theorem k_12_73 : CVok 12 73 M_X10_order 1 := CV_of [949, 950, 951, 83, 952] (by decide +kernel) (by decide +kernel) (by decide +kernel)
theorem k_12_76 : CVok 12 76 M_X11_order 1 := CV_of [1472, 1473, 1474, 100, 1475] (by decide +kernel) (by decide +kernel) (by decide +kernel)
theorem k_12_77 : CVok 12 77 M_X10_letter 2 := CV_of [980, 981, 982, 83, 983] (by decide +kernel) (by decide +kernel) (by decide +kernel)
theorem k_12_80 : CVok 12 80 M_X11_letter 2 := CV_of [1484, 1485, 1486, 100, 1487] (by decide +kernel) (by decide +kernel) (by decide +kernel)
theorem k_12_81 : CVok 12 81 M_X10_heard 2 := CV_of [984, 985, 986, 83, 987] (by decide +kernel) (by decide +kernel) (by decide +kernel)
theorem k_12_84 : CVok 12 84 M_X11_heard 2 := CV_of [1488, 1489, 1490, 100, 1491] (by decide +kernel) (by decide +kernel) (by decide +kernel)
theorem k_12_85 : CVok 12 85 M_X10_found 4 := CV_of [1009, 1010, 1011, 83, 1012] (by decide +kernel) (by decide +kernel) (by decide +kernel)
theorem k_12_89 : CVok 12 89 M_X11_found 4 := CV_of [1496, 1497, 1498, 100, 1499] (by decide +kernel) (by decide +kernel) (by decide +kernel)
theorem k_12_90 : CVok 12 90 M_X10_alikeTexts 0 := CV_of [1017, 1018, 1019, 83, 1020] (by decide +kernel) (by decide +kernel) (by decide +kernel)
theorem k_12_93 : CVok 12 93 M_X11_alikeTexts 0 := CV_of [1500, 1501, 1502, 100, 1503] (by decide +kernel) (by decide +kernel) (by decide +kernel)
theorem k_12_94 : CVok 12 94 M_X10_film 2 := CV_of [1021, 1022, 1023, 83, 1024] (by decide +kernel) (by decide +kernel) (by decide +kernel)
theorem k_12_97 : CVok 12 97 M_X11_film 2 := CV_of [1504, 1505, 1506, 100, 1507] (by decide +kernel) (by decide +kernel) (by decide +kernel)
theorem k_12_98 : CVok 12 98 M_X10_drawn 1 := CV_of [1034, 1035, 1036, 83, 1037] (by decide +kernel) (by decide +kernel) (by decide +kernel)
theorem k_12_101 : CVok 12 101 M_X11_drawn 1 := CV_of [1512, 1513, 1514, 100, 1515] (by decide +kernel) (by decide +kernel) (by decide +kernel)
theorem k_12_102 : CVok 12 102 M_X10_chance 3 := CV_of [1046, 1047, 1048, 83, 1049] (by decide +kernel) (by decide +kernel) (by decide +kernel)
theorem k_12_106 : CVok 12 106 M_X11_chance 3 := CV_of [1521, 1522, 1523, 100, 1524] (by decide +kernel) (by decide +kernel) (by decide +kernel)
theorem k_12_107 : CVok 12 107 M_X10_image 0 := CV_of [1054, 1055, 1056, 83, 1057] (by decide +kernel) (by decide +kernel) (by decide +kernel)
theorem k_12_110 : CVok 12 110 M_X11_image 0 := CV_of [1529, 1530, 1531, 100, 1532] (by decide +kernel) (by decide +kernel) (by decide +kernel)
theorem k_12_111 : CVok 12 111 M_X10_back 0 := CV_of [1067, 1068, 1069, 83, 1070] (by decide +kernel) (by decide +kernel) (by decide +kernel)
theorem k_12_114 : CVok 12 114 M_X11_back 0 := CV_of [1536, 1537, 1538, 100, 1539] (by decide +kernel) (by decide +kernel) (by decide +kernel)
theorem k_12_115 : CVok 12 115 M_X10_count 1 := CV_of [1071, 1072, 1073, 83, 1074] (by decide +kernel) (by decide +kernel) (by decide +kernel)
theorem k_12_118 : CVok 12 118 M_X11_count 1 := CV_of [1540, 1541, 1542, 100, 1543] (by decide +kernel) (by decide +kernel) (by decide +kernel)
theorem k_12_119 : CVok 12 119 M_X10_sheet 3 := CV_of [1075, 1076, 1077, 83, 1078] (by decide +kernel) (by decide +kernel) (by decide +kernel)
theorem k_12_122 : CVok 12 122 M_X11_sheet 3 := CV_of [1544, 1509, 1510, 100, 1511] (by decide +kernel) (by decide +kernel) (by decide +kernel)
theorem k_12_123 : CVok 12 123 M_X10_cell 3 := CV_of [1080, 1081, 1082, 83, 1083] (by decide +kernel) (by decide +kernel) (by decide +kernel)
theorem k_12_126 : CVok 12 126 M_X11_cell 3 := CV_of [1545, 1546, 1547, 100, 1548] (by decide +kernel) (by decide +kernel) (by decide +kernel)
theorem k_12_127 : CVok 12 127 M_X10_copy 5 := CV_of [1088, 1089, 1090, 83, 1091] (by decide +kernel) (by decide +kernel) (by decide +kernel)
theorem k_12_131 : CVok 12 131 M_X11_copy 5 := CV_of [1549, 1550, 1551, 100, 1552] (by decide +kernel) (by decide +kernel) (by decide +kernel)
theorem k_12_132 : CVok 12 132 M_X10_rules 4 := CV_of [1097, 1098, 1099, 83, 1100] (by decide +kernel) (by decide +kernel) (by decide +kernel)
theorem k_12_135 : CVok 12 135 M_X11_rules 4 := CV_of [1553, 1554, 1555, 100, 1556] (by decide +kernel) (by decide +kernel) (by decide +kernel)
theorem k_12_136 : CVok 12 136 M_X10_taken 2 := CV_of [1102, 1103, 1104, 83, 1105] (by decide +kernel) (by decide +kernel) (by decide +kernel)
theorem k_12_139 : CVok 12 139 M_X11_taken 2 := CV_of [1560, 1561, 1562, 100, 1563] (by decide +kernel) (by decide +kernel) (by decide +kernel)
