/-- the words that stay good while entries are resolved -/
def GT : List Cond := lw_tbl.filter goodWord
theorem GT_in {w : Cond} (i : Nat) (h : lw_tbl[i]? = some w) (g : goodWord w = true) : w ∈ GT := List.mem_filter.mpr ⟨List.mem_of_getElem? h, g⟩
theorem GT_good : GoodIn GT GT := fun w h => ⟨h, good_of_word (List.mem_filter.mp h).2⟩
def LAY : List Nat := [11, 8, 24, 1010, 1010, 1010, 1010, 1010, 1010, 1010, 1010, 1008, 1008, 1006, 1006, 1006, 4, 1008, 8, 24, 1010, 1010, 1010, 1010, 1010, 1010, 1010, 1010, 1008, 1008, 1006, 1006, 1006, 4, 1008, 20, 9, 1160, 1161, 1161, 1161, 3, 21, 6, 22, 5, 1040, 5, 1040, 5, 1040, 5, 1040, 5, 1040, 5, 1040, 5, 1040, 5, 1040, 5, 1040, 4, 1008, 1, 1006, 2, 23, 4, 1008, 1, 1006, 6, 22, 5, 1040, 5, 1040, 5, 1040, 5, 1040, 5, 1040, 5, 1040, 5, 1040, 5, 1040, 6, 22, 5, 1040, 5, 1040, 5, 1040, 5, 1040, 5, 1040, 5, 1040, 5, 1040, 5, 1040, 6, 22, 5, 1040, 5, 1040, 5, 1040, 5, 1040, 5, 1040, 5, 1040, 5, 1040, 5, 1040, 6, 22, 5, 1040, 5, 1040, 5, 1040, 5, 1040, 5, 1040, 5, 1040, 5, 1040, 5, 1040, 6, 22, 5, 1040, 5, 1040, 5, 1040, 5, 1040, 5, 1040, 5, 1040, 5, 1040, 5, 1040, 6, 22, 5, 1040, 5, 1040, 5, 1040, 5, 1040, 5, 1040, 5, 1040, 5, 1040, 5, 1040, 6, 22, 5, 1040, 5, 1040, 5, 1040, 5, 1040, 5, 1040, 5, 1040, 5, 1040, 5, 1040, 10, 1160, 1160, 1160, 1160, 1003, 10, 1160, 1160, 1160, 1160, 1003, 10, 1160, 1160, 1160, 1160, 1003, 10, 1160, 1160, 1160, 1160, 1003, 10, 1160, 1160, 1160, 1160, 1003, 10, 1160, 1160, 1160, 1160, 1003, 7, 1040, 7, 1040, 7, 1040, 7, 1040, 12, 1080, 1008, 1008, 1006, 1006, 1006, 1008, 1160, 3880, 1018, 5053, 1013, 1170, 4008, 1170, 1006, 1320, 1008, 1042, 1090, 1008, 1144, 1004, 1004, 1160, 1040]
abbrev NC : Nat := 243
abbrev NTT : Nat := 270
def SHP : List (List (Nat × Nat)) := [[], [(1006, 1)], [(23, 1), (4, 2), (1, 4), (0, 1), (0, 0), (0, 0)], [(9, 9999), (10, 9999), (0, 0), (0, 0)], [(1008, 1), (0, 0)], [(1040, 1), (0, 0)], [(22, 1), (0, 0)], [(1040, 1), (0, 0), (0, 0)], [(0, 0), (24, 1), (1008, 10), (1008, 11), (0, 0), (1006, 12), (1006, 13), (1006, 14), (0, 0), (4, 15), (0, 0)], [(1160, 1), (0, 0), (1161, 2), (1161, 3), (1161, 4), (0, 0)], [(1160, 1), (1160, 2), (1160, 3), (1160, 4), (1003, 5), (0, 0)], [(8, 1), (8, 18), (0, 1), (20, 35), (0, 0), (9, 36), (3, 41), (21, 42), (6, 43), (5, 61), (4, 63), (1, 65), (2, 67)], [(0, 0), (0, 0), (1080, 1), (1008, 2), (1008, 3), (0, 0), (1006, 4), (1006, 5), (1006, 6), (0, 0), (1008, 7), (1160, 8), (0, 0), (0, 0), (0, 0), (3880, 9), (1018, 10), (0, 0), (0, 0), (0, 0), (0, 0), (5053, 11), (1013, 12), (1170, 13), (0, 0), (0, 0), (0, 0), (4008, 14), (0, 0), (0, 0), (1170, 15), (1006, 16), (1320, 17), (1008, 18), (1042, 19), (1090, 20), (0, 0), (1008, 21), (0, 0), (0, 1), (1144, 22), (1004, 23), (1004, 24), (1160, 25), (1040, 26)]]
def Rn (k : Nat) : String := [RX0, RX1, RX2, RX3, RX4, RX5, RX6, RX7, RX8, RX9, RX10, RX11, RL, "java/lang/String", "java/lang/StringLatin1", "jdk/internal/util/Preconditions"].getD k ""
/-- per class: (entry, type of the object, slot, place of its word in lw_tbl) -/
def FTS : List (List (Nat × Nat × Nat × Nat)) := [[(11, 1, 0, 293), (23, 5, 1, 265), (29, 8, 0, 141), (38, 4, 1, 130), (39, 8, 7, 162), (42, 8, 3, 150), (51, 8, 5, 155), (69, 6, 1, 277), (70, 6, 0, 275)],
  [(11, 2, 0, 311), (20, 2, 1, 312), (27, 2, 2, 313), (32, 2, 3, 314), (36, 4, 1, 129), (48, 8, 8, 165), (69, 2, 4, 315), (72, 2, 5, 317)],
  [(9, 3, 0, 234), (15, 3, 1, 235), (19, 3, 2, 236), (23, 3, 3, 237), (47, 9, 5, 214), (50, 9, 2, 208), (54, 9, 4, 212), (57, 9, 1, 206), (111, 9, 3, 210)],
  [(9, 4, 0, 125), (15, 4, 1, 128)],
  [(9, 5, 0, 262), (15, 5, 1, 264), (19, 8, 2, 147), (24, 8, 1, 144), (44, 4, 1, 132), (47, 4, 0, 126), (54, 8, 5, 157), (57, 8, 6, 159), (60, 8, 0, 142), (67, 8, 7, 163)],
  [(11, 6, 0, 274), (18, 8, 4, 151), (24, 6, 1, 276), (50, 5, 1, 267)],
  [(9, 7, 0, 361), (15, 7, 1, 364), (19, 7, 2, 366), (22, 5, 1, 266), (29, 5, 0, 263)],
  [(10, 8, 0, 140), (18, 8, 1, 143), (21, 8, 2, 146), (25, 8, 3, 149), (28, 8, 5, 154), (31, 8, 6, 158), (34, 8, 7, 161), (40, 8, 9, 168), (44, 8, 4, 152), (47, 8, 8, 166), (50, 7, 0, 362), (55, 7, 2, 367), (71, 4, 1, 133), (80, 4, 0, 127), (86, 8, 10, 171)],
  [(9, 9, 0, 203), (15, 9, 2, 207), (18, 9, 3, 209), (21, 9, 4, 211), (24, 9, 1, 205), (28, 9, 5, 213)],
  [(9, 10, 0, 337), (15, 10, 1, 338), (18, 10, 2, 339), (21, 10, 3, 340), (24, 10, 4, 341), (27, 10, 5, 342)],
  [(10, 11, 0, 614), (16, 11, 1, 615), (21, 11, 3, 617), (28, 11, 5, 619), (35, 11, 6, 620), (41, 11, 7, 621), (48, 11, 8, 622), (55, 11, 9, 623), (62, 11, 10, 624), (69, 11, 11, 625), (76, 11, 12, 626), (102, 9, 1, 204), (106, 11, 4, 618), (124, 8, 4, 153), (135, 8, 8, 167), (145, 8, 9, 169), (148, 4, 1, 131), (172, 8, 5, 156), (176, 8, 2, 148), (179, 8, 10, 170), (238, 2, 4, 316), (241, 2, 5, 318), (244, 8, 6, 160), (261, 8, 7, 164), (275, 5, 1, 268), (289, 11, 2, 616), (295, 7, 2, 368), (298, 7, 1, 365), (304, 7, 0, 363), (333, 1, 0, 294), (354, 8, 1, 145)],
  [(1, 12, 1, 1234), (11, 12, 5, 1238), (18, 12, 41, 1274), (22, 12, 42, 1275), (25, 12, 43, 1276), (28, 12, 2, 1235), (31, 12, 3, 1236), (34, 12, 4, 1237), (37, 12, 6, 1239), (40, 12, 7, 1240), (43, 12, 8, 1241), (49, 12, 9, 1242), (52, 12, 10, 1243), (55, 12, 0, 1233), (66, 12, 12, 1245), (69, 12, 11, 1244), (72, 12, 17, 1250), (78, 12, 18, 1251), (81, 12, 22, 1255), (84, 12, 20, 1253), (87, 12, 21, 1254), (91, 12, 19, 1252), (104, 12, 15, 1248), (107, 12, 28, 1261), (110, 12, 29, 1262), (113, 12, 24, 1257), (116, 12, 23, 1256), (123, 12, 25, 1258), (136, 12, 27, 1260), (140, 12, 26, 1259), (153, 12, 16, 1249), (169, 12, 13, 1246), (175, 12, 14, 1247), (184, 12, 30, 1263), (187, 12, 31, 1264), (190, 12, 32, 1265), (193, 12, 33, 1266), (196, 12, 34, 1267), (199, 12, 35, 1268), (202, 12, 37, 1270), (205, 12, 40, 1273), (208, 12, 44, 1277), (226, 12, 36, 1269), (281, 12, 38, 1271), (312, 12, 39, 1272)],
  []]
def CTS : List (Nat × Nat × Int32 × Nat) := [(3, 33, 1103515245, 1045), (7, 9, 1065233, 116), (7, 72, 67108864, 728), (10, 226, (-100000), 939), (11, 65, 67108863, 1151), (11, 183, 1065233, 1232), (11, 271, (-100000), 1447), (11, 302, 1103515245, 1520)]
def LTS : List (Nat × Nat × Int64 × Nat) := [(10, 280, (-4611686018427387904), 1050), (11, 306, (-4611686018427387904), 1525), (11, 320, 3, 1557), (11, 322, 2, 1558)]
theorem inG0 : ∀ w ∈ u_ws RX0 TX0 1, w ∈ GT := by
  have h : u_ws RX0 TX0 1 = ([295] : List Nat).filterMap (fun i => lw_tbl[i]?) := by decide +kernel
  have g : (u_ws RX0 TX0 1).all goodWord = true := by decide +kernel
  intro w hw
  have g1 := List.all_eq_true.mp g w hw
  rw [h] at hw
  obtain ⟨i, -, hi⟩ := List.mem_filterMap.mp hw
  exact GT_in i hi g1
theorem inG1 : ∀ w ∈ u_ws RX1 TX1 6, w ∈ GT := by
  have h : u_ws RX1 TX1 6 = ([319, 321, 323, 325, 327, 329] : List Nat).filterMap (fun i => lw_tbl[i]?) := by decide +kernel
  have g : (u_ws RX1 TX1 6).all goodWord = true := by decide +kernel
  intro w hw
  have g1 := List.all_eq_true.mp g w hw
  rw [h] at hw
  obtain ⟨i, -, hi⟩ := List.mem_filterMap.mp hw
  exact GT_in i hi g1
theorem inG2 : ∀ w ∈ u_ws RX2 TX2 4, w ∈ GT := by
  have h : u_ws RX2 TX2 4 = ([238, 240, 242, 244] : List Nat).filterMap (fun i => lw_tbl[i]?) := by decide +kernel
  have g : (u_ws RX2 TX2 4).all goodWord = true := by decide +kernel
  intro w hw
  have g1 := List.all_eq_true.mp g w hw
  rw [h] at hw
  obtain ⟨i, -, hi⟩ := List.mem_filterMap.mp hw
  exact GT_in i hi g1
theorem inG3 : ∀ w ∈ u_ws RX3 TX3 2, w ∈ GT := by
  have h : u_ws RX3 TX3 2 = ([134, 136] : List Nat).filterMap (fun i => lw_tbl[i]?) := by decide +kernel
  have g : (u_ws RX3 TX3 2).all goodWord = true := by decide +kernel
  intro w hw
  have g1 := List.all_eq_true.mp g w hw
  rw [h] at hw
  obtain ⟨i, -, hi⟩ := List.mem_filterMap.mp hw
  exact GT_in i hi g1
theorem inG4 : ∀ w ∈ u_ws RX4 TX4 2, w ∈ GT := by
  have h : u_ws RX4 TX4 2 = ([269, 271] : List Nat).filterMap (fun i => lw_tbl[i]?) := by decide +kernel
  have g : (u_ws RX4 TX4 2).all goodWord = true := by decide +kernel
  intro w hw
  have g1 := List.all_eq_true.mp g w hw
  rw [h] at hw
  obtain ⟨i, -, hi⟩ := List.mem_filterMap.mp hw
  exact GT_in i hi g1
theorem inG5 : ∀ w ∈ u_ws RX5 TX5 2, w ∈ GT := by
  have h : u_ws RX5 TX5 2 = ([278, 280] : List Nat).filterMap (fun i => lw_tbl[i]?) := by decide +kernel
  have g : (u_ws RX5 TX5 2).all goodWord = true := by decide +kernel
  intro w hw
  have g1 := List.all_eq_true.mp g w hw
  rw [h] at hw
  obtain ⟨i, -, hi⟩ := List.mem_filterMap.mp hw
  exact GT_in i hi g1
theorem inG6 : ∀ w ∈ u_ws RX6 TX6 3, w ∈ GT := by
  have h : u_ws RX6 TX6 3 = ([369, 371, 373] : List Nat).filterMap (fun i => lw_tbl[i]?) := by decide +kernel
  have g : (u_ws RX6 TX6 3).all goodWord = true := by decide +kernel
  intro w hw
  have g1 := List.all_eq_true.mp g w hw
  rw [h] at hw
  obtain ⟨i, -, hi⟩ := List.mem_filterMap.mp hw
  exact GT_in i hi g1
theorem inG7 : ∀ w ∈ u_ws RX7 TX7 11, w ∈ GT := by
  have h : u_ws RX7 TX7 11 = ([172, 174, 176, 178, 180, 182, 184, 186, 188, 190, 192] : List Nat).filterMap (fun i => lw_tbl[i]?) := by decide +kernel
  have g : (u_ws RX7 TX7 11).all goodWord = true := by decide +kernel
  intro w hw
  have g1 := List.all_eq_true.mp g w hw
  rw [h] at hw
  obtain ⟨i, -, hi⟩ := List.mem_filterMap.mp hw
  exact GT_in i hi g1
theorem inG8 : ∀ w ∈ u_ws RX8 TX8 6, w ∈ GT := by
  have h : u_ws RX8 TX8 6 = ([215, 217, 219, 221, 223, 225] : List Nat).filterMap (fun i => lw_tbl[i]?) := by decide +kernel
  have g : (u_ws RX8 TX8 6).all goodWord = true := by decide +kernel
  intro w hw
  have g1 := List.all_eq_true.mp g w hw
  rw [h] at hw
  obtain ⟨i, -, hi⟩ := List.mem_filterMap.mp hw
  exact GT_in i hi g1
theorem inG9 : ∀ w ∈ u_ws RX9 TX9 6, w ∈ GT := by
  have h : u_ws RX9 TX9 6 = ([343, 345, 347, 349, 351, 353] : List Nat).filterMap (fun i => lw_tbl[i]?) := by decide +kernel
  have g : (u_ws RX9 TX9 6).all goodWord = true := by decide +kernel
  intro w hw
  have g1 := List.all_eq_true.mp g w hw
  rw [h] at hw
  obtain ⟨i, -, hi⟩ := List.mem_filterMap.mp hw
  exact GT_in i hi g1
theorem inG10 : ∀ w ∈ u_ws RX10 TX10 13, w ∈ GT := by
  have h : u_ws RX10 TX10 13 = ([627, 629, 631, 633, 635, 637, 639, 641, 643, 645, 647, 649, 651] : List Nat).filterMap (fun i => lw_tbl[i]?) := by decide +kernel
  have g : (u_ws RX10 TX10 13).all goodWord = true := by decide +kernel
  intro w hw
  have g1 := List.all_eq_true.mp g w hw
  rw [h] at hw
  obtain ⟨i, -, hi⟩ := List.mem_filterMap.mp hw
  exact GT_in i hi g1
theorem inG11 : ∀ w ∈ u_ws RX11 TX11 45, w ∈ GT := by
  have h : u_ws RX11 TX11 45 = ([1278, 1280, 1282, 1284, 1286, 1288, 1290, 1292, 1294, 1296, 1298, 1300, 1302, 1304, 1306, 1308, 1310, 1312, 1314, 1316, 1318, 1320, 1322, 1324, 1326, 1328, 1330, 1332, 1334, 1336, 1338, 1340, 1342, 1344, 1346, 1348, 1350, 1352, 1354, 1356, 1358, 1360, 1362, 1364, 1366] : List Nat).filterMap (fun i => lw_tbl[i]?) := by decide +kernel
  have g : (u_ws RX11 TX11 45).all goodWord = true := by decide +kernel
  intro w hw
  have g1 := List.all_eq_true.mp g w hw
  rw [h] at hw
  obtain ⟨i, -, hi⟩ := List.mem_filterMap.mp hw
  exact GT_in i hi g1
