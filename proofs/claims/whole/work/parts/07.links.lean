def xownL : List String := ["FlueHouse$Book", "FlueHouse$Flow", "FlueHouse$Hunt", "FlueHouse$Laws", "FlueHouse$Paper", "FlueHouse$Parter", "FlueHouse$Plant", "FlueHouse$Tape", "FlueHouse$Trays", "FlueHouse", "FlueHouseModel", "FlueHouseLaw", "java/util/Arrays", "java/lang/Integer", "java/lang/Math", "java/lang/String", "java/lang/StringLatin1", "jdk/internal/util/Preconditions"]
def xown (o : Nat) : String := xownL.getD o ""
def xTT (c : Nat) : u_T := match c with
  | 0 => TX0
  | 1 => TX1
  | 2 => TX2
  | 3 => TX3
  | 4 => TX4
  | 5 => TX5
  | 6 => TX6
  | 7 => TX7
  | 8 => TX8
  | 9 => TX9
  | _ => TX10
def xflT : List (Nat × Nat × Nat × Nat) := [(0, 9, 0, 0), (0, 15, 0, 1), (0, 19, 0, 2), (0, 22, 0, 3), (0, 25, 0, 4), (0, 28, 0, 5), (0, 31, 0, 6), (0, 34, 0, 7), (0, 37, 0, 8), (0, 40, 0, 9), (0, 43, 0, 10), (0, 46, 0, 11), (0, 49, 0, 12), (0, 52, 0, 13), (0, 56, 0, 14), (0, 59, 0, 15), (0, 63, 0, 16), (0, 66, 0, 17), (1, 9, 1, 0), (1, 15, 1, 1), (1, 19, 1, 2), (1, 22, 1, 3), (1, 25, 1, 4), (1, 28, 1, 5), (1, 31, 1, 6), (1, 34, 1, 7), (1, 40, 1, 8), (1, 44, 1, 9), (1, 47, 1, 10), (1, 51, 1, 11), (1, 73, 6, 0), (1, 94, 6, 1), (1, 97, 6, 12), (1, 100, 0, 14), (1, 112, 6, 7), (1, 115, 6, 4), (1, 122, 6, 6), (1, 128, 0, 12), (1, 139, 6, 5), (1, 155, 6, 9), (1, 158, 5, 0), (1, 162, 6, 11), (1, 171, 6, 10), (1, 174, 5, 1), (2, 12, 2, 0), (2, 18, 2, 1), (2, 22, 2, 2), (2, 26, 2, 3), (2, 29, 2, 4), (2, 32, 2, 5), (2, 35, 2, 6), (2, 38, 2, 7), (2, 41, 2, 8), (2, 44, 2, 9), (2, 48, 2, 10), (2, 51, 2, 11), (2, 63, 6, 0), (2, 68, 6, 4), (3, 9, 3, 0), (3, 15, 3, 1), (3, 19, 3, 2), (3, 23, 3, 3), (3, 26, 3, 4), (3, 29, 3, 5), (3, 32, 3, 6), (3, 35, 3, 7), (3, 38, 3, 8), (3, 41, 7, 7), (3, 62, 7, 8), (3, 91, 7, 11), (3, 107, 7, 9), (3, 110, 7, 10), (4, 9, 4, 0), (4, 15, 4, 1), (4, 18, 4, 2), (4, 21, 4, 3), (4, 24, 4, 4), (4, 27, 4, 5), (4, 30, 4, 6), (4, 34, 4, 7), (4, 37, 4, 8), (4, 40, 4, 9), (4, 43, 4, 10), (4, 46, 4, 11), (5, 9, 5, 0), (5, 15, 5, 1), (5, 19, 5, 2), (6, 9, 6, 0), (6, 15, 6, 1), (6, 18, 6, 2), (6, 22, 6, 3), (6, 25, 6, 4), (6, 29, 6, 5), (6, 32, 6, 6), (6, 35, 6, 7), (6, 38, 6, 8), (6, 42, 6, 9), (6, 45, 6, 10), (6, 48, 6, 11), (6, 51, 6, 12), (6, 54, 7, 7), (6, 59, 7, 9), (6, 84, 7, 8), (6, 125, 7, 11), (7, 9, 7, 0), (7, 15, 7, 1), (7, 19, 7, 2), (7, 22, 7, 3), (7, 27, 7, 4), (7, 31, 7, 5), (7, 34, 7, 6), (7, 37, 7, 7), (7, 40, 7, 8), (7, 44, 7, 9), (7, 47, 7, 10), (7, 50, 7, 11), (7, 53, 7, 12), (7, 56, 7, 13), (8, 9, 8, 0), (8, 15, 8, 1), (8, 19, 8, 2), (9, 9, 9, 0), (9, 16, 9, 1), (9, 23, 9, 2), (9, 30, 9, 3), (9, 34, 9, 4), (9, 40, 9, 5), (9, 44, 9, 6), (9, 50, 9, 7), (9, 57, 9, 8), (9, 64, 9, 9), (9, 71, 9, 10), (9, 78, 9, 11), (9, 135, 7, 1), (9, 153, 6, 0), (9, 164, 3, 0), (9, 165, 7, 12), (9, 168, 7, 13), (9, 174, 6, 4), (9, 178, 6, 9), (9, 181, 6, 5), (9, 187, 6, 12), (9, 240, 6, 1), (9, 243, 0, 14), (9, 246, 5, 0), (9, 254, 5, 1), (9, 257, 1, 1), (9, 260, 0, 12), (9, 287, 2, 6), (9, 290, 2, 7), (9, 293, 2, 8), (9, 313, 2, 11), (9, 332, 4, 6), (9, 335, 4, 5), (9, 344, 4, 8), (9, 370, 0, 13), (9, 380, 1, 0), (10, 7, 10, 1), (10, 13, 10, 2), (10, 16, 10, 3), (10, 20, 10, 4), (10, 24, 10, 5), (10, 27, 10, 13), (10, 31, 10, 14), (10, 34, 10, 17), (10, 37, 10, 18), (10, 40, 10, 19), (10, 43, 10, 20), (10, 46, 10, 21), (10, 49, 10, 22), (10, 52, 10, 23), (10, 55, 10, 24), (10, 58, 10, 25), (10, 61, 10, 26), (10, 64, 10, 27), (10, 67, 10, 32), (10, 70, 10, 33), (10, 73, 10, 34), (10, 76, 10, 35), (10, 79, 10, 36), (10, 82, 10, 37), (10, 85, 10, 38), (10, 88, 10, 39), (10, 91, 10, 44), (10, 94, 10, 45), (10, 97, 10, 46), (10, 100, 10, 47), (10, 103, 10, 48), (10, 106, 10, 49), (10, 109, 10, 50), (10, 112, 10, 51), (10, 115, 10, 52), (10, 118, 10, 53), (10, 121, 10, 54), (10, 124, 10, 55), (10, 127, 10, 56), (10, 130, 10, 57), (10, 133, 10, 58), (10, 136, 10, 62), (10, 139, 10, 63), (10, 142, 10, 64), (10, 145, 10, 65), (10, 148, 10, 66), (10, 151, 10, 67), (10, 154, 10, 68), (10, 157, 10, 69), (10, 160, 10, 70), (10, 163, 10, 71), (10, 166, 10, 72), (10, 169, 10, 73), (10, 172, 10, 74), (10, 175, 10, 77), (10, 178, 10, 79), (10, 181, 10, 80), (10, 184, 10, 81), (10, 187, 10, 82), (10, 190, 10, 83), (10, 193, 10, 84), (10, 196, 10, 85), (10, 199, 10, 86), (10, 202, 10, 87), (10, 205, 10, 88), (10, 208, 10, 89), (10, 211, 10, 90), (10, 214, 10, 94), (10, 217, 10, 95), (10, 220, 10, 96), (10, 223, 10, 97), (10, 226, 10, 98), (10, 229, 10, 99), (10, 232, 10, 100), (10, 235, 10, 101), (10, 238, 10, 102), (10, 241, 10, 103), (10, 244, 10, 106), (10, 247, 10, 0), (10, 267, 10, 6), (10, 274, 10, 7), (10, 277, 10, 10), (10, 284, 10, 9), (10, 287, 10, 11), (10, 290, 10, 8), (10, 305, 10, 16), (10, 322, 10, 15), (10, 340, 10, 12), (10, 345, 10, 28), (10, 348, 10, 29), (10, 393, 10, 30), (10, 396, 10, 31), (10, 399, 10, 59), (10, 402, 10, 60), (10, 408, 10, 43), (10, 415, 10, 41), (10, 424, 10, 40), (10, 427, 10, 42), (10, 445, 10, 61), (10, 455, 10, 78), (10, 458, 10, 75), (10, 461, 10, 76), (10, 515, 10, 91), (10, 518, 10, 92), (10, 521, 10, 93), (10, 546, 10, 104), (10, 552, 10, 105)]
set_option maxRecDepth 50000 in
theorem xflT_at : [216, 217, 218, 219, 220, 221, 222, 223, 224, 225, 226, 227, 228, 231, 233, 236, 237, 238, 302, 304, 306, 307, 308, 309, 310, 311, 312, 313, 314, 315, 118, 121, 145, 234, 135, 127, 133, 229, 130, 139, 289, 143, 141, 292, 351, 352, 353, 354, 355, 356, 357, 359, 361, 363, 364, 365, 117, 126, 181, 183, 184, 185, 186, 187, 188, 189, 190, 45, 48, 56, 52, 54, 398, 399, 400, 401, 402, 403, 405, 407, 408, 410, 411, 412, 288, 291, 294, 116, 120, 123, 124, 125, 129, 132, 134, 136, 137, 140, 142, 144, 46, 51, 49, 57, 36, 37, 39, 40, 41, 42, 43, 44, 47, 50, 53, 55, 58, 60, 98, 99, 100, 438, 439, 440, 441, 442, 443, 444, 445, 446, 447, 448, 449, 38, 119, 182, 59, 61, 128, 138, 131, 146, 122, 235, 290, 293, 305, 230, 358, 360, 362, 366, 406, 404, 409, 232, 303, 1279, 1280, 1281, 1282, 1283, 1291, 1292, 1295, 1296, 1297, 1298, 1299, 1300, 1301, 1302, 1303, 1304, 1305, 1310, 1311, 1312, 1313, 1314, 1315, 1316, 1317, 1322, 1323, 1324, 1325, 1326, 1327, 1328, 1329, 1330, 1331, 1332, 1333, 1334, 1335, 1336, 1340, 1341, 1342, 1343, 1344, 1345, 1346, 1347, 1348, 1349, 1350, 1351, 1352, 1355, 1357, 1358, 1359, 1360, 1361, 1362, 1363, 1364, 1365, 1366, 1367, 1368, 1372, 1373, 1374, 1375, 1376, 1377, 1378, 1379, 1380, 1381, 1384, 1278, 1284, 1285, 1288, 1287, 1289, 1286, 1294, 1293, 1290, 1306, 1307, 1308, 1309, 1337, 1338, 1321, 1319, 1318, 1320, 1339, 1356, 1353, 1354, 1369, 1370, 1371, 1382, 1383].map (fun i => tables_1[i]?) = (xflT.map fun e => Cond.fieldLink (xown e.1) e.2.1 (xTT e.2.2.1 e.2.2.2).1 (xTT e.2.2.1 e.2.2.2).2.1 (xTT e.2.2.1 e.2.2.2).2.2.1).map some := by decide +kernel
def xciT : List (Nat × Nat × Int) := [(13, 265, 1431655765), (13, 266, 858993459), (13, 267, 252645135), (9, 316, 40000), (10, 299, 1000000), (10, 529, 40000)]
set_option maxRecDepth 50000 in
theorem xciT_at : [1162, 1163, 1164, 1181, 1669, 1912].map (fun i => tables_1[i]?) = (xciT.map fun e => Cond.constant (xown e.1) e.2.1 (Int32.ofInt e.2.2)).map some := by decide +kernel
def xclT : List (Nat × Nat × Int) := [(7, 85, 32), (1, 165, 100), (5, 22, -1), (9, 296, 47), (4, 56, 9999), (4, 79, 100), (9, 347, 999), (9, 349, 99999), (10, 265, -1), (10, 524, 48), (10, 530, 1000), (10, 532, 100), (10, 538, 9999), (10, 555, 999), (10, 557, 99999), (11, 23, 4294967295)]
set_option maxRecDepth 50000 in
theorem xclT_at : [592, 1028, 1033, 1141, 1195, 1226, 1240, 1241, 1630, 1900, 1913, 1914, 1918, 1939, 1940, 1952].map (fun i => tables_1[i]?) = (xclT.map fun e => Cond.constantLong (xown e.1) e.2.1 (Int64.ofInt e.2.2)).map some := by decide +kernel
def xcnT : List (Nat × Nat × Nat) := [(11, 7, 9), (9, 13, 7), (9, 20, 8), (9, 27, 6), (9, 37, 3), (9, 47, 0), (9, 54, 1), (1, 37, 5), (9, 61, 5), (9, 68, 2), (2, 9, 1), (9, 75, 4), (11, 10, 10)]
set_option maxRecDepth 50000 in
theorem xcnT_at : [21, 29, 92, 110, 175, 210, 276, 282, 341, 343, 349, 392, 1272].map (fun i => tables_1[i]?) = (xcnT.map fun e => Cond.classLink (xown e.1) e.2.1 (xown e.2.2)).map some := by decide +kernel
theorem xins_at : [211, 277, 344, 176, 393, 283, 111, 30, 93, 22, 1273].map (fun i => tables_1[i]?) = ((List.range 11).map fun c => Cond.instantiable (xown c) (xnf c)).map some := by decide +kernel
theorem xini_at : [6, 7, 9, 5, 10, 8, 4, 2, 3, 1, 11, 0, 12, 20, 18, 14, 15, 16].map (fun i => tables_1[i]?) = ((List.range 18).map fun c => Cond.initialized (xown c)).map some := by decide +kernel
def xty (e : Nat) : FieldType := match e with | 0 => .int | 1 => .long | 2 => .byte | _ => .boolean
theorem xarc_at : [109, 108, 91, 174].map (fun i => tables_1[i]?) = ((List.range 4).map fun e => Cond.arrayClass (xty e)).map some := by decide +kernel
def xiVal : Nat := 9
def xiCod : Nat := 15
def xiCom : Nat := 38
def xiFor : Nat := 1053
theorem xstr_at : [1953, 1954, 605, 621].map (fun i => tables_1[i]?) = ([Cond.fieldLink "java/lang/String" xiVal "java/lang/String" "value" "[B", Cond.fieldLink "java/lang/String" xiCod "java/lang/String" "coder" "B", Cond.fieldLink "java/lang/String" xiCom "java/lang/String" "COMPACT_STRINGS" "Z", Cond.fieldLink "java/lang/String" xiFor "jdk/internal/util/Preconditions" "SIOOBE_FORMATTER" "Ljava/util/function/BiFunction;"] : List Cond).map some := by decide +kernel
theorem xmem {w : Cond} (h : w ∈ tables_1) (hg : goodWord w = true) : w ∈ xws := List.mem_filter.mpr ⟨xin_tbl h, hg⟩
theorem xfl_in {e : Nat × Nat × Nat × Nat} (h : e ∈ xflT) : Cond.fieldLink (xown e.1) e.2.1 (xTT e.2.2.1 e.2.2.2).1 (xTT e.2.2.1 e.2.2.2).2.1 (xTT e.2.2.1 e.2.2.2).2.2.1 ∈ xws := xmem (xin_of xflT_at _ (List.mem_map.mpr ⟨e, h, rfl⟩)) rfl
theorem xci_in {e : Nat × Nat × Int} (h : e ∈ xciT) : Cond.constant (xown e.1) e.2.1 (Int32.ofInt e.2.2) ∈ xws := xmem (xin_of xciT_at _ (List.mem_map.mpr ⟨e, h, rfl⟩)) rfl
theorem xcl_in {e : Nat × Nat × Int} (h : e ∈ xclT) : Cond.constantLong (xown e.1) e.2.1 (Int64.ofInt e.2.2) ∈ xws := xmem (xin_of xclT_at _ (List.mem_map.mpr ⟨e, h, rfl⟩)) rfl
theorem xcn_in {e : Nat × Nat × Nat} (h : e ∈ xcnT) : Cond.classLink (xown e.1) e.2.1 (xown e.2.2) ∈ xws := xmem (xin_of xcnT_at _ (List.mem_map.mpr ⟨e, h, rfl⟩)) rfl
theorem xins_in {c : Nat} (h : c < 11) : Cond.instantiable (xown c) (xnf c) ∈ xws := xmem (xin_of xins_at _ (List.mem_map.mpr ⟨c, List.mem_range.mpr h, rfl⟩)) rfl
theorem xini_in {c : Nat} (h : c < 18) : Cond.initialized (xown c) ∈ xws := xmem (xin_of xini_at _ (List.mem_map.mpr ⟨c, List.mem_range.mpr h, rfl⟩)) rfl
theorem xarc_in {c : Nat} (h : c < 4) : Cond.arrayClass (xty c) ∈ xws := xmem (xin_of xarc_at _ (List.mem_map.mpr ⟨c, List.mem_range.mpr h, rfl⟩)) rfl
theorem xstr_in : ∀ w ∈ ([Cond.fieldLink "java/lang/String" xiVal "java/lang/String" "value" "[B", Cond.fieldLink "java/lang/String" xiCod "java/lang/String" "coder" "B", Cond.fieldLink "java/lang/String" xiCom "java/lang/String" "COMPACT_STRINGS" "Z", Cond.fieldLink "java/lang/String" xiFor "jdk/internal/util/Preconditions" "SIOOBE_FORMATTER" "Ljava/util/function/BiFunction;"] : List Cond), w ∈ xws := by
  intro w hw
  refine xmem (xin_of xstr_at w hw) ?_
  simp only [List.mem_cons, List.not_mem_nil, or_false] at hw
  rcases hw with rfl | rfl | rfl | rfl <;> rfl
/-- a class by its number: what the tables say of it -/
def xCl (a : Nat) : Prop := xcl[a]? = some (xown a, xTT a, xnf a) ∧ (∀ w ∈ u_ws (xown a) (xTT a) (xnf a), w ∈ xws) ∧ (∀ k, k < xnf a → parseFieldDescriptor (xTT a k).2.2.1 = some (xTy a k)) ∧ (∀ i, i < xnf a → ∀ j, j < xnf a → i ≠ j → (xTT a i).2.1 ≠ (xTT a j).2.1) ∧ (∀ k, k < xnf a → (xTT a k).1 = xown a)
theorem xlay_good {C : String} {T : u_T} {N : Nat} : ∀ w ∈ u_ws C T N, goodWord w = true := by
  intro w hw
  obtain ⟨k, -, rfl⟩ := List.mem_map.mp hw
  unfold u_lay
  split <;> rfl
set_option maxRecDepth 20000 in
theorem xCl0 : xCl 0 := ⟨rfl, fun w h => xmem (xin_of xlay0 w h) (xlay_good w h), tyX0_ok, nmX0, by decide +kernel⟩
set_option maxRecDepth 20000 in
theorem xCl1 : xCl 1 := ⟨rfl, fun w h => xmem (xin_of xlay1 w h) (xlay_good w h), tyX1_ok, nmX1, by decide +kernel⟩
set_option maxRecDepth 20000 in
theorem xCl2 : xCl 2 := ⟨rfl, fun w h => xmem (xin_of xlay2 w h) (xlay_good w h), tyX2_ok, nmX2, by decide +kernel⟩
set_option maxRecDepth 20000 in
theorem xCl3 : xCl 3 := ⟨rfl, fun w h => xmem (xin_of xlay3 w h) (xlay_good w h), tyX3_ok, nmX3, by decide +kernel⟩
set_option maxRecDepth 20000 in
theorem xCl4 : xCl 4 := ⟨rfl, fun w h => xmem (xin_of xlay4 w h) (xlay_good w h), tyX4_ok, nmX4, by decide +kernel⟩
set_option maxRecDepth 20000 in
theorem xCl5 : xCl 5 := ⟨rfl, fun w h => xmem (xin_of xlay5 w h) (xlay_good w h), tyX5_ok, nmX5, by decide +kernel⟩
set_option maxRecDepth 20000 in
theorem xCl6 : xCl 6 := ⟨rfl, fun w h => xmem (xin_of xlay6 w h) (xlay_good w h), tyX6_ok, nmX6, by decide +kernel⟩
set_option maxRecDepth 20000 in
theorem xCl7 : xCl 7 := ⟨rfl, fun w h => xmem (xin_of xlay7 w h) (xlay_good w h), tyX7_ok, nmX7, by decide +kernel⟩
set_option maxRecDepth 20000 in
theorem xCl8 : xCl 8 := ⟨rfl, fun w h => xmem (xin_of xlay8 w h) (xlay_good w h), tyX8_ok, nmX8, by decide +kernel⟩
set_option maxRecDepth 20000 in
theorem xCl9 : xCl 9 := ⟨rfl, fun w h => xmem (xin_of xlay9 w h) (xlay_good w h), tyX9_ok, nmX9, by decide +kernel⟩
set_option maxRecDepth 20000 in
theorem xCl10 : xCl 10 := ⟨rfl, fun w h => xmem (xin_of xlay10 w h) (xlay_good w h), tyX10_ok, nmX10, by decide +kernel⟩
theorem xCl_of {a : Nat} (h : a < 11) : xCl a := by
  match a, h with
  | 0, _ => exact xCl0
  | 1, _ => exact xCl1
  | 2, _ => exact xCl2
  | 3, _ => exact xCl3
  | 4, _ => exact xCl4
  | 5, _ => exact xCl5
  | 6, _ => exact xCl6
  | 7, _ => exact xCl7
  | 8, _ => exact xCl8
  | 9, _ => exact xCl9
  | 10, _ => exact xCl10
set_option maxRecDepth 20000 in
theorem xfc_ty : ∀ a, a < 11 → ∀ k, k < xnf a → (xfc a k = 0 → xTy a k = .int) ∧ (xfc a k = 1 → xTy a k = .boolean) ∧ (xfc a k = 2 → xTy a k = .long) ∧ (3 ≤ xfc a k → refKind (xTy a k) = true ∧ xfc a k ≠ 99) := by decide +kernel
/-- the check of an instruction and its notes -/
def xr32 (b : Int) : Bool := decide (-2147483648 ≤ b) && decide (b < 2147483648)
def xr64 (b : Int) : Bool := decide (-9223372036854775808 ≤ b) && decide (b < 9223372036854775808)
def xtya (e : Nat) : ArrayType := match e with | 0 => .int | 1 => .long | 2 => .byte | _ => .boolean
def xldb (o n a : Nat) (b : Int) : Bool := match a with
  | 0 => decide ((o, n, b) ∈ xciT) && xr32 b
  | k + 1 => decide (k < 7) && decide ((xsR.getD k ("", 0, "")).1 = xown o ∧ (xsR.getD k ("", 0, "")).2.1 = n)
def xnb (o : Nat) (ini : Bool) (mL pc : Nat) (i : Instr) (n a : Nat) (b : Int) : Bool := match i with
  | .iconst v => Nat.beq n 1 && (decide (b = v) && xr32 b)
  | .bipush v => Nat.beq n 2 && (decide ((Int8.ofInt v).toInt32 = Int32.ofInt b) && xr32 b)
  | .sipush v => Nat.beq n 3 && (decide ((Int16.ofInt v).toInt32 = Int32.ofInt b) && xr32 b)
  | .ldc v => Nat.beq n 2 && xldb o v a b
  | .ldc_w v => Nat.beq n 3 && xldb o v a b
  | .lconst v => Nat.beq n 1 && decide (b = ((v : Nat) : Int))
  | .ldc2_w v => Nat.beq n 3 && (decide ((o, v, b) ∈ xclT) && xr64 b)
  | .iload _ => Nat.beq n 2
  | .lload _ => Nat.beq n 2
  | .aload _ => Nat.beq n 2
  | .istore v => Nat.beq n 2 && Nat.blt v mL
  | .istore_n v => Nat.beq n 1 && Nat.blt v.val mL
  | .lstore v => Nat.beq n 2 && Nat.blt (v + 1) mL
  | .lstore_n v => Nat.beq n 1 && Nat.blt (v.val + 1) mL
  | .astore v => Nat.beq n 2 && Nat.blt v mL
  | .astore_n v => Nat.beq n 1 && Nat.blt v.val mL
  | .iinc v _ => Nat.beq n 3 && Nat.blt v mL
  | .goto f => Nat.beq n 3 && (decide (0 ≤ b) && decide ((pc : Int) + f = b))
  | .ifCond _ f => Nat.beq n 3 && (match b with | .ofNat t => decide ((pc : Int) + f = (t : Int)) | _ => decide (0 ≤ (pc : Int) + f))
  | .if_icmp _ f => Nat.beq n 3 && (match b with | .ofNat t => decide ((pc : Int) + f = (t : Int)) | _ => decide (0 ≤ (pc : Int) + f))
  | .tableswitch d lo hi fs => decide (0 ≤ b) && (match a with
    | 0 => decide ((pc : Int) + d = b)
    | k + 1 => decide (fs[k]? = some (b - (pc : Int))) && decide (lo + (k : Int) ≤ hi))
  | .getfield v => Nat.beq n 3 && cond (Nat.beq a 99) (Nat.beq o 15 && (match b with | 0 => Nat.beq v xiVal | 1 => Nat.beq v xiCod | _ => false)) (decide ((o, v, a, b.toNat) ∈ xflT) && (Nat.blt a 11 && Nat.blt b.toNat (xnf a)))
  | .putfield v => Nat.beq n 3 && (decide ((o, v, a, b.toNat) ∈ xflT) && (Nat.blt a 11 && (Nat.blt b.toNat (xnf a) && (!(xTT a b.toNat).2.2.2 || (ini && Nat.beq o a)))))
  | .getstatic v => Nat.beq n 3 && (Nat.beq o 15 && (match a with | 0 => Nat.beq v xiCom | _ => Nat.beq v xiFor))
  | .new v => Nat.beq n 3 && (decide ((o, v, a) ∈ xcnT) && Nat.blt a 11)
  | .newarray t => Nat.beq n 2 && (decide (t = xtya (xae a)) && Nat.blt (xae a) 4)
  | _ => Nat.beq n 1
def xqb (o : Nat) (ini : Bool) (mL : Nat) (cc : ByteArray) (q : xI) : Bool := match decode cc q.1 with
  | .ok (i, n) => decide (i = q.2.1) && xnb o ini mL q.1 q.2.1 n q.2.2.1 q.2.2.2
  | _ => false
theorem xqb_spec {o : Nat} {ini : Bool} {mL : Nat} {cc : ByteArray} {pc a : Nat} {i : Instr} {b : Int} (h : xqb o ini mL cc (pc, i, a, b) = true) : ∃ n, decode cc pc = .ok (i, n) ∧ xnb o ini mL pc i n a b = true := by
  unfold xqb at h
  dsimp only at h
  split at h
  · rename_i j n hd
    rw [Bool.and_eq_true, decide_eq_true_eq] at h
    obtain ⟨rfl, h⟩ := h
    exact ⟨n, hd, h⟩
  · cases h
