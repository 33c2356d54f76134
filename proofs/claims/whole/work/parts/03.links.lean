def am_ownT : List String := [RX2, RX3, RX4, RX5, RX6, RX7, RX8, RX9, RX10, RX11, RX12, RX13, RX14, RX0, RX1, RL, RJ0, RJ1, RJ2, RJ3, RJ9, RJ10, RJ11]
def am_own (o : Nat) : String := am_ownT.getD o ""
def am_ksT : List (List Nat) := [[2, 0], [2, 2, 2, 2, 2, 2, 2, 2, 0, 0], [2, 2, 2, 0, 0, 0], [2, 2, 2, 2, 2, 2, 2, 2, 2, 0, 0, 0, 0, 0], [2, 2, 2, 2, 2, 0, 0, 0, 0], [2, 2, 2, 2, 2, 2, 2, 2, 2, 2, 0, 0, 0, 0, 3, 3], [2, 0], [2, 2, 2, 2, 2, 0, 0, 0, 1], [2, 2, 2], [2, 2, 2, 2, 2, 2, 0], [0, 0, 0, 0, 0, 2, 2, 2, 2, 2, 2, 2, 2, 0, 0, 2, 2, 2, 2, 2, 2, 0, 2, 0], [0, 0, 0, 0, 2, 2, 2, 2, 2, 2, 3, 2, 2, 2, 2], [0, 2, 0, 0, 2, 2, 2, 2, 2, 0, 0, 2, 2, 2, 2]]
def am_ks (c : Nat) : List Nat := am_ksT.getD c []
/-- owner, entry, class, field, place of its word, of a nest mate -/
def am_flT : List (Nat × Nat × Nat × Nat × Nat × Bool) := [(7, 9, 7, 0, 201, false), (7, 17, 7, 1, 202, false), (7, 21, 7, 2, 203, false), (7, 24, 7, 3, 204, false), (4, 198, 7, 3, 205, true), (7, 27, 7, 4, 206, false), (9, 57, 7, 5, 207, true), (7, 44, 7, 5, 208, false), (7, 50, 7, 6, 209, false), (7, 47, 7, 7, 210, false), (7, 60, 7, 8, 211, false), (1, 9, 1, 0, 246, false), (5, 149, 1, 0, 247, true), (1, 15, 1, 1, 248, false), (5, 146, 1, 1, 249, true), (1, 18, 1, 2, 250, false), (5, 143, 1, 2, 251, true), (1, 21, 1, 3, 252, false), (5, 133, 1, 3, 253, true), (1, 24, 1, 4, 254, false), (5, 136, 1, 4, 255, true), (1, 27, 1, 5, 256, false), (1, 30, 1, 6, 257, false), (5, 169, 1, 6, 258, true), (1, 33, 1, 7, 259, false), (5, 172, 1, 7, 260, true), (1, 36, 1, 8, 261, false), (4, 144, 1, 8, 262, true), (5, 118, 1, 8, 263, true), (1, 40, 1, 9, 264, false), (3, 9, 3, 0, 286, false), (8, 49, 3, 0, 287, true), (5, 267, 3, 0, 288, true), (3, 15, 3, 1, 289, false), (8, 55, 3, 1, 290, true), (5, 270, 3, 1, 291, true), (3, 18, 3, 2, 292, false), (5, 249, 3, 2, 293, true), (3, 21, 3, 3, 294, false), (5, 72, 3, 3, 295, true), (3, 24, 3, 4, 296, false), (5, 223, 3, 4, 297, true), (3, 27, 3, 5, 298, false), (5, 220, 3, 5, 299, true), (3, 30, 3, 6, 300, false), (5, 65, 3, 6, 301, true), (3, 33, 3, 7, 302, false), (3, 39, 3, 8, 303, false), (4, 91, 3, 8, 304, true), (5, 114, 3, 8, 305, true), (3, 43, 3, 9, 306, false), (8, 38, 3, 9, 307, true), (4, 116, 3, 9, 308, true), (5, 104, 3, 9, 309, true), (9, 163, 3, 9, 310, true), (3, 47, 3, 10, 311, false), (8, 32, 3, 10, 312, true), (4, 119, 3, 10, 313, true), (5, 111, 3, 10, 314, true), (9, 170, 3, 10, 315, true), (3, 50, 3, 11, 316, false), (9, 144, 3, 11, 317, true), (5, 229, 3, 11, 318, true), (3, 53, 3, 12, 319, false), (5, 82, 3, 12, 320, true), (9, 176, 3, 12, 321, true), (3, 56, 3, 13, 322, false), (9, 137, 3, 13, 323, true), (5, 255, 3, 13, 324, true), (8, 18, 8, 0, 360, false), (8, 9, 8, 1, 361, false), (8, 15, 8, 2, 362, false), (0, 13, 0, 0, 387, false), (0, 19, 0, 1, 388, false), (4, 33, 4, 0, 394, false), (4, 12, 4, 1, 395, false), (9, 81, 4, 1, 396, true), (4, 23, 4, 2, 397, false), (4, 27, 4, 3, 398, false), (4, 30, 4, 4, 399, false), (4, 55, 4, 5, 400, false), (4, 62, 4, 6, 401, false), (4, 48, 4, 7, 402, false), (4, 52, 4, 8, 403, false), (9, 80, 4, 8, 404, true), (2, 9, 2, 0, 436, false), (2, 15, 2, 1, 437, false), (2, 18, 2, 2, 438, false), (2, 50, 2, 3, 439, false), (2, 21, 2, 4, 440, false), (5, 257, 2, 4, 441, true), (9, 230, 2, 4, 442, true), (2, 25, 2, 5, 443, false), (5, 258, 2, 5, 444, true), (6, 9, 6, 0, 464, false), (6, 15, 6, 1, 465, false), (5, 44, 5, 0, 471, false), (5, 48, 5, 1, 472, false), (5, 9, 5, 2, 473, false), (9, 194, 5, 2, 474, true), (5, 15, 5, 3, 475, false), (5, 18, 5, 4, 476, false), (9, 156, 5, 4, 477, true), (5, 21, 5, 5, 478, false), (9, 108, 5, 5, 479, true), (5, 24, 5, 6, 480, false), (9, 122, 5, 6, 481, true), (5, 27, 5, 7, 482, false), (9, 141, 5, 7, 483, true), (5, 33, 5, 8, 484, false), (9, 125, 5, 8, 485, true), (5, 40, 5, 9, 486, false), (5, 52, 5, 10, 487, false), (9, 214, 5, 10, 488, true), (5, 56, 5, 11, 489, false), (9, 211, 5, 11, 490, true), (5, 59, 5, 12, 491, false), (5, 62, 5, 13, 492, false), (9, 219, 5, 13, 493, true), (5, 97, 5, 14, 494, false), (5, 101, 5, 15, 495, false), (9, 20, 9, 0, 529, false), (9, 29, 9, 1, 530, false), (9, 33, 9, 2, 531, false), (9, 37, 9, 3, 532, false), (9, 46, 9, 4, 533, false), (9, 50, 9, 5, 534, false), (9, 53, 9, 6, 535, false), (10, 9, 10, 0, 1339, false), (11, 87, 10, 0, 1340, true), (12, 256, 10, 0, 1341, true), (10, 15, 10, 1, 1342, false), (11, 92, 10, 1, 1343, true), (12, 259, 10, 1, 1344, true), (12, 60, 10, 2, 1345, true), (11, 145, 10, 2, 1346, true), (12, 67, 10, 3, 1347, true), (11, 133, 10, 3, 1348, true), (12, 70, 10, 4, 1349, true), (11, 159, 10, 4, 1350, true), (10, 18, 10, 5, 1351, false), (11, 85, 10, 5, 1352, true), (12, 272, 10, 5, 1353, true), (10, 22, 10, 6, 1354, false), (11, 90, 10, 6, 1355, true), (12, 275, 10, 6, 1356, true), (10, 25, 10, 7, 1357, false), (11, 148, 10, 7, 1358, true), (12, 278, 10, 7, 1359, true), (10, 28, 10, 8, 1360, false), (11, 74, 10, 8, 1361, true), (12, 281, 10, 8, 1362, true), (10, 31, 10, 9, 1363, false), (11, 118, 10, 9, 1364, true), (12, 262, 10, 9, 1365, true), (10, 34, 10, 10, 1366, false), (11, 127, 10, 10, 1367, true), (12, 290, 10, 10, 1368, true), (10, 37, 10, 11, 1369, false), (11, 71, 10, 11, 1370, true), (12, 293, 10, 11, 1371, true), (10, 40, 10, 12, 1372, false), (11, 162, 10, 12, 1373, true), (12, 249, 10, 12, 1374, true), (11, 215, 10, 13, 1375, true), (12, 234, 10, 13, 1376, true), (12, 162, 10, 14, 1377, true), (10, 43, 10, 15, 1378, false), (11, 195, 10, 15, 1379, true), (12, 237, 10, 15, 1380, true), (10, 46, 10, 16, 1381, false), (11, 198, 10, 16, 1382, true), (12, 243, 10, 16, 1383, true), (10, 49, 10, 17, 1384, false), (11, 186, 10, 17, 1385, true), (12, 165, 10, 17, 1386, true), (10, 52, 10, 18, 1387, false), (11, 189, 10, 18, 1388, true), (12, 171, 10, 18, 1389, true), (10, 55, 10, 19, 1390, false), (11, 212, 10, 19, 1391, true), (12, 174, 10, 19, 1392, true), (10, 58, 10, 20, 1393, false), (12, 131, 10, 20, 1394, true), (11, 238, 10, 20, 1395, true), (12, 134, 10, 21, 1396, true), (10, 61, 10, 22, 1397, false), (12, 193, 10, 22, 1398, true), (12, 196, 10, 23, 1399, true), (11, 44, 11, 0, 1455, false), (12, 325, 11, 0, 1456, true), (11, 48, 11, 1, 1457, false), (12, 388, 11, 1, 1458, true), (11, 51, 11, 2, 1459, false), (12, 386, 11, 2, 1460, true), (11, 54, 11, 3, 1461, false), (12, 384, 11, 3, 1462, true), (11, 15, 11, 4, 1463, false), (12, 350, 11, 4, 1464, true), (11, 19, 11, 5, 1465, false), (12, 364, 11, 5, 1466, true), (11, 22, 11, 6, 1467, false), (11, 25, 11, 7, 1468, false), (11, 29, 11, 8, 1469, false), (11, 32, 11, 9, 1470, false), (11, 57, 11, 10, 1471, false), (11, 35, 11, 11, 1472, false), (11, 38, 11, 12, 1473, false), (11, 41, 11, 13, 1474, false), (11, 3, 11, 14, 1475, false), (12, 57, 12, 0, 1512, false), (12, 9, 12, 1, 1513, false), (12, 83, 12, 2, 1514, false), (12, 13, 12, 3, 1515, false), (12, 17, 12, 4, 1516, false), (12, 20, 12, 5, 1517, false), (12, 23, 12, 6, 1518, false), (12, 26, 12, 7, 1519, false), (12, 29, 12, 8, 1520, false), (12, 122, 12, 9, 1521, false), (12, 190, 12, 10, 1522, false), (12, 35, 12, 11, 1523, false), (11, 67, 12, 11, 1524, true), (12, 39, 12, 12, 1525, false), (12, 47, 12, 13, 1526, false), (12, 51, 12, 14, 1527, false)]
def am_host (o : Nat) : String := match o with
  | 4 => "MarbledPaper"
  | 9 => "MarbledPaper"
  | 5 => "MarbledPaper"
  | 8 => "MarbledPaper"
  | 11 => "MarbledPaperModel"
  | 12 => "MarbledPaperModel"
  | _ => "MarbledPaper"
def am_fw (q : Nat × Nat × Nat × Nat × Nat × Bool) : Cond := match vwCl[q.2.2.1]? with
  | none => .tt
  | some r => if q.2.2.2.2.2 = true then .fieldLinkNest (am_own q.1) q.2.1 (r.2.1 q.2.2.2.1).1 (r.2.1 q.2.2.2.1).2.1 (r.2.1 q.2.2.2.1).2.2.1 (am_host q.1) else .fieldLink (am_own q.1) q.2.1 (r.2.1 q.2.2.2.1).1 (r.2.1 q.2.2.2.1).2.1 (r.2.1 q.2.2.2.1).2.2.1
def am_ldT : List (Nat × Nat × Int64 × Nat) := [(7, 42, 37, 200), (7, 83, 10, 589), (9, 233, 937, 1003), (9, 235, 31, 1004), (12, 407, 937, 2055), (12, 409, 31, 2056)]
def am_mmT : List (Nat × Nat × Nat × Nat) := [(0, 7, 2, 384), (17, 92, 2, 610), (17, 38, 1, 611), (18, 224, 2, 620), (18, 183, 1, 621), (3, 68, 1, 730), (1, 43, 1, 768), (13, 7, 1, 825), (5, 204, 1, 862), (13, 23, 2, 940), (5, 209, 2, 1017), (12, 74, 1, 1654), (11, 130, 1, 1839), (11, 153, 2, 1871), (12, 80, 2, 2019)]
def am_oiT : List (Nat × Nat × Nat) := [(9, 3, 142), (7, 3, 150), (3, 3, 239), (1, 3, 245), (8, 3, 359), (4, 3, 375), (0, 1, 383), (5, 3, 429), (2, 3, 435), (6, 3, 463), (12, 3, 1332), (10, 3, 1338), (11, 9, 1454)]
set_option maxRecDepth 100000 in
theorem am_fl_ok : am_flT.all (fun q => decide (lw_tbl[q.2.2.2.2.1]? = some (am_fw q))) = true := by decide +kernel
set_option maxRecDepth 100000 in
theorem am_ld_ok : am_ldT.all (fun q => decide (lw_tbl[q.2.2.2]? = some (.constantLong (am_own q.1) q.2.1 q.2.2.1))) = true := by decide +kernel
set_option maxRecDepth 100000 in
theorem am_mm_ok : am_mmT.all (fun q => decide (lw_tbl[q.2.2.2]? = some (.methodLink (am_own q.1) q.2.1 (if q.2.2.1 = 1 then Lib.Math.min.name else Lib.Math.max.name)))) = true := by decide +kernel
set_option maxRecDepth 100000 in
theorem am_oi_ok : am_oiT.all (fun q => decide (lw_tbl[q.2.2]? = some (.methodLink (am_own q.1) q.2.1 Lib.objectInit))) = true := by decide +kernel
/-- a kind of a field, and what the tables say of the field: 0 int, 1 long, 2 a reference, 3 boolean -/
def am_okf (c k t : Nat) : Bool := match vwCl[c]? with
  | none => false
  | some r => decide (k < r.2.2) && match t, parseFieldDescriptor (r.2.1 k).2.2.1 with
    | 0, some .int => true
    | 1, some .long => true
    | 3, some .boolean => true
    | 2, some (.object _) => true
    | 2, some (.array _) => true
    | _, _ => false
theorem am_ks_ok : (List.range 13).all (fun c => (List.range (am_ks c).length).all (fun k => am_okf c k ((am_ks c).getD k 9))) = true := by decide +kernel
theorem am_ks_len : (List.range 13).all (fun c => decide ((vwCl[c]?).map (fun r => r.2.2) = some (am_ks c).length)) = true := by decide +kernel

def am_all : List Cond := lw_tbl.filter goodWord
def am_nestW (w : Cond) : Bool := match w with
  | .fieldLinkNest .. => true
  | .methodLinkNest .. => true
  | _ => false
set_option maxRecDepth 100000 in
theorem am_in0 : ∀ w ∈ u_ws RX2 TX2 2, w ∈ lw_tbl := by decide +kernel
theorem am_gw0 : (u_ws RX2 TX2 2).all goodWord = true := by decide +kernel
set_option maxRecDepth 100000 in
theorem am_in1 : ∀ w ∈ u_ws RX3 TX3 10, w ∈ lw_tbl := by decide +kernel
theorem am_gw1 : (u_ws RX3 TX3 10).all goodWord = true := by decide +kernel
set_option maxRecDepth 100000 in
theorem am_in2 : ∀ w ∈ u_ws RX4 TX4 6, w ∈ lw_tbl := by decide +kernel
theorem am_gw2 : (u_ws RX4 TX4 6).all goodWord = true := by decide +kernel
set_option maxRecDepth 100000 in
theorem am_in3 : ∀ w ∈ u_ws RX5 TX5 14, w ∈ lw_tbl := by decide +kernel
theorem am_gw3 : (u_ws RX5 TX5 14).all goodWord = true := by decide +kernel
set_option maxRecDepth 100000 in
theorem am_in4 : ∀ w ∈ u_ws RX6 TX6 9, w ∈ lw_tbl := by decide +kernel
theorem am_gw4 : (u_ws RX6 TX6 9).all goodWord = true := by decide +kernel
set_option maxRecDepth 100000 in
theorem am_in5 : ∀ w ∈ u_ws RX7 TX7 16, w ∈ lw_tbl := by decide +kernel
theorem am_gw5 : (u_ws RX7 TX7 16).all goodWord = true := by decide +kernel
set_option maxRecDepth 100000 in
theorem am_in6 : ∀ w ∈ u_ws RX8 TX8 2, w ∈ lw_tbl := by decide +kernel
theorem am_gw6 : (u_ws RX8 TX8 2).all goodWord = true := by decide +kernel
set_option maxRecDepth 100000 in
theorem am_in7 : ∀ w ∈ u_ws RX9 TX9 9, w ∈ lw_tbl := by decide +kernel
theorem am_gw7 : (u_ws RX9 TX9 9).all goodWord = true := by decide +kernel
set_option maxRecDepth 100000 in
theorem am_in8 : ∀ w ∈ u_ws RX10 TX10 3, w ∈ lw_tbl := by decide +kernel
theorem am_gw8 : (u_ws RX10 TX10 3).all goodWord = true := by decide +kernel
set_option maxRecDepth 100000 in
theorem am_in9 : ∀ w ∈ u_ws RX11 TX11 7, w ∈ lw_tbl := by decide +kernel
theorem am_gw9 : (u_ws RX11 TX11 7).all goodWord = true := by decide +kernel
set_option maxRecDepth 100000 in
theorem am_in10 : ∀ w ∈ u_ws RX12 TX12 24, w ∈ lw_tbl := by decide +kernel
theorem am_gw10 : (u_ws RX12 TX12 24).all goodWord = true := by decide +kernel
set_option maxRecDepth 100000 in
theorem am_in11 : ∀ w ∈ u_ws RX13 TX13 15, w ∈ lw_tbl := by decide +kernel
theorem am_gw11 : (u_ws RX13 TX13 15).all goodWord = true := by decide +kernel
set_option maxRecDepth 100000 in
theorem am_in12 : ∀ w ∈ u_ws RX14 TX14 15, w ∈ lw_tbl := by decide +kernel
theorem am_gw12 : (u_ws RX14 TX14 15).all goodWord = true := by decide +kernel
theorem am_cls (c : Nat) (r : vw_C) (h : vwCl[c]? = some r) : (∀ w ∈ u_ws r.1 r.2.1 r.2.2, w ∈ am_all) ∧ (∀ a, a < r.2.2 → ∀ b, b < r.2.2 → a ≠ b → (r.2.1 a).2.1 ≠ (r.2.1 b).2.1) ∧ ∃ ty : Nat → FieldType, ∀ k, k < r.2.2 → parseFieldDescriptor (r.2.1 k).2.2.1 = some (ty k) := by
  match c, h with
  | 0, h => cases h; exact ⟨fun w hw => List.mem_filter.mpr ⟨am_in0 w hw, List.all_eq_true.mp am_gw0 w hw⟩, nmX2, tyX2, tyX2_ok⟩
  | 1, h => cases h; exact ⟨fun w hw => List.mem_filter.mpr ⟨am_in1 w hw, List.all_eq_true.mp am_gw1 w hw⟩, nmX3, tyX3, tyX3_ok⟩
  | 2, h => cases h; exact ⟨fun w hw => List.mem_filter.mpr ⟨am_in2 w hw, List.all_eq_true.mp am_gw2 w hw⟩, nmX4, tyX4, tyX4_ok⟩
  | 3, h => cases h; exact ⟨fun w hw => List.mem_filter.mpr ⟨am_in3 w hw, List.all_eq_true.mp am_gw3 w hw⟩, nmX5, tyX5, tyX5_ok⟩
  | 4, h => cases h; exact ⟨fun w hw => List.mem_filter.mpr ⟨am_in4 w hw, List.all_eq_true.mp am_gw4 w hw⟩, nmX6, tyX6, tyX6_ok⟩
  | 5, h => cases h; exact ⟨fun w hw => List.mem_filter.mpr ⟨am_in5 w hw, List.all_eq_true.mp am_gw5 w hw⟩, nmX7, tyX7, tyX7_ok⟩
  | 6, h => cases h; exact ⟨fun w hw => List.mem_filter.mpr ⟨am_in6 w hw, List.all_eq_true.mp am_gw6 w hw⟩, nmX8, tyX8, tyX8_ok⟩
  | 7, h => cases h; exact ⟨fun w hw => List.mem_filter.mpr ⟨am_in7 w hw, List.all_eq_true.mp am_gw7 w hw⟩, nmX9, tyX9, tyX9_ok⟩
  | 8, h => cases h; exact ⟨fun w hw => List.mem_filter.mpr ⟨am_in8 w hw, List.all_eq_true.mp am_gw8 w hw⟩, nmX10, tyX10, tyX10_ok⟩
  | 9, h => cases h; exact ⟨fun w hw => List.mem_filter.mpr ⟨am_in9 w hw, List.all_eq_true.mp am_gw9 w hw⟩, nmX11, tyX11, tyX11_ok⟩
  | 10, h => cases h; exact ⟨fun w hw => List.mem_filter.mpr ⟨am_in10 w hw, List.all_eq_true.mp am_gw10 w hw⟩, nmX12, tyX12, tyX12_ok⟩
  | 11, h => cases h; exact ⟨fun w hw => List.mem_filter.mpr ⟨am_in11 w hw, List.all_eq_true.mp am_gw11 w hw⟩, nmX13, tyX13, tyX13_ok⟩
  | 12, h => cases h; exact ⟨fun w hw => List.mem_filter.mpr ⟨am_in12 w hw, List.all_eq_true.mp am_gw12 w hw⟩, nmX14, tyX14, tyX14_ok⟩
  | n + 13, h => simp [vwCl] at h
