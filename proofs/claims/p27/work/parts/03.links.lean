def am_ownT : List String := [RJ0, RJ4, RX2, RX3, RX4, RX5, RX6, RX7, RX8, RX9, RX10, RX11, RX12, RX0, RX1, RL, RJ0, RJ1, RJ2, RJ3, RJ4, RJ5, RJ6, RJ7, RJ8, RJ9, RJ10, RJ11]
def am_own (o : Nat) : String := am_ownT.getD o ""
def am_ksT : List (List Nat) := [[2, 3, 0, 3], [2, 3, 3, 0], [2, 0], [2, 2, 2, 2, 2, 2, 2, 2, 0, 0], [2, 2, 2, 0, 0, 0], [2, 2, 2, 2, 2, 2, 2, 2, 2, 0, 0, 0, 0, 0], [2, 2, 2, 2, 2, 0, 0, 0, 0], [2, 2, 2, 2, 2, 2, 2, 2, 2, 2, 0, 0, 0, 0, 3, 3], [2, 0], [2, 2, 2, 2, 2, 0, 0, 0, 1], [2, 2, 2], [2, 2, 2, 2, 2, 2, 0], [0, 0, 2, 2, 2, 2, 0, 0, 0, 0]]
def am_ks (c : Nat) : List Nat := am_ksT.getD c []
/-- owner, entry, class, field, place of its word, of a nest mate -/
def am_flT : List (Nat × Nat × Nat × Nat × Nat × Bool) := [(9, 9, 9, 0, 140, false), (9, 17, 9, 1, 141, false), (9, 21, 9, 2, 142, false), (9, 24, 9, 3, 143, false), (6, 198, 9, 3, 144, true), (9, 27, 9, 4, 145, false), (11, 57, 9, 5, 146, true), (9, 44, 9, 5, 147, false), (9, 50, 9, 6, 148, false), (9, 47, 9, 7, 149, false), (9, 60, 9, 8, 150, false), (3, 9, 3, 0, 185, false), (7, 149, 3, 0, 186, true), (3, 15, 3, 1, 187, false), (7, 146, 3, 1, 188, true), (3, 18, 3, 2, 189, false), (7, 143, 3, 2, 190, true), (3, 21, 3, 3, 191, false), (7, 133, 3, 3, 192, true), (3, 24, 3, 4, 193, false), (7, 136, 3, 4, 194, true), (3, 27, 3, 5, 195, false), (3, 30, 3, 6, 196, false), (7, 169, 3, 6, 197, true), (3, 33, 3, 7, 198, false), (7, 172, 3, 7, 199, true), (3, 36, 3, 8, 200, false), (6, 144, 3, 8, 201, true), (7, 118, 3, 8, 202, true), (3, 40, 3, 9, 203, false), (5, 9, 5, 0, 225, false), (10, 49, 5, 0, 226, true), (7, 267, 5, 0, 227, true), (5, 15, 5, 1, 228, false), (10, 55, 5, 1, 229, true), (7, 270, 5, 1, 230, true), (5, 18, 5, 2, 231, false), (7, 249, 5, 2, 232, true), (5, 21, 5, 3, 233, false), (7, 72, 5, 3, 234, true), (5, 24, 5, 4, 235, false), (7, 223, 5, 4, 236, true), (5, 27, 5, 5, 237, false), (7, 220, 5, 5, 238, true), (5, 30, 5, 6, 239, false), (7, 65, 5, 6, 240, true), (5, 33, 5, 7, 241, false), (5, 39, 5, 8, 242, false), (6, 91, 5, 8, 243, true), (7, 114, 5, 8, 244, true), (5, 43, 5, 9, 245, false), (10, 38, 5, 9, 246, true), (6, 116, 5, 9, 247, true), (7, 104, 5, 9, 248, true), (11, 163, 5, 9, 249, true), (5, 47, 5, 10, 250, false), (10, 32, 5, 10, 251, true), (6, 119, 5, 10, 252, true), (7, 111, 5, 10, 253, true), (11, 170, 5, 10, 254, true), (5, 50, 5, 11, 255, false), (11, 144, 5, 11, 256, true), (7, 229, 5, 11, 257, true), (5, 53, 5, 12, 258, false), (7, 82, 5, 12, 259, true), (11, 176, 5, 12, 260, true), (5, 56, 5, 13, 261, false), (11, 137, 5, 13, 262, true), (7, 255, 5, 13, 263, true), (10, 18, 10, 0, 299, false), (10, 9, 10, 1, 300, false), (10, 15, 10, 2, 301, false), (2, 13, 2, 0, 326, false), (2, 19, 2, 1, 327, false), (6, 33, 6, 0, 333, false), (6, 12, 6, 1, 334, false), (11, 81, 6, 1, 335, true), (6, 23, 6, 2, 336, false), (6, 27, 6, 3, 337, false), (6, 30, 6, 4, 338, false), (6, 55, 6, 5, 339, false), (6, 62, 6, 6, 340, false), (6, 48, 6, 7, 341, false), (6, 52, 6, 8, 342, false), (11, 80, 6, 8, 343, true), (4, 9, 4, 0, 375, false), (4, 15, 4, 1, 376, false), (4, 18, 4, 2, 377, false), (4, 50, 4, 3, 378, false), (4, 21, 4, 4, 379, false), (7, 257, 4, 4, 380, true), (11, 230, 4, 4, 381, true), (4, 25, 4, 5, 382, false), (7, 258, 4, 5, 383, true), (8, 9, 8, 0, 403, false), (8, 15, 8, 1, 404, false), (7, 44, 7, 0, 410, false), (7, 48, 7, 1, 411, false), (7, 9, 7, 2, 412, false), (11, 194, 7, 2, 413, true), (7, 15, 7, 3, 414, false), (7, 18, 7, 4, 415, false), (11, 156, 7, 4, 416, true), (7, 21, 7, 5, 417, false), (11, 108, 7, 5, 418, true), (7, 24, 7, 6, 419, false), (11, 122, 7, 6, 420, true), (7, 27, 7, 7, 421, false), (11, 141, 7, 7, 422, true), (7, 33, 7, 8, 423, false), (11, 125, 7, 8, 424, true), (7, 40, 7, 9, 425, false), (7, 52, 7, 10, 426, false), (11, 214, 7, 10, 427, true), (7, 56, 7, 11, 428, false), (11, 211, 7, 11, 429, true), (7, 59, 7, 12, 430, false), (7, 62, 7, 13, 431, false), (11, 219, 7, 13, 432, true), (7, 97, 7, 14, 433, false), (7, 101, 7, 15, 434, false), (11, 20, 11, 0, 468, false), (11, 29, 11, 1, 469, false), (11, 33, 11, 2, 470, false), (11, 37, 11, 3, 471, false), (11, 46, 11, 4, 472, false), (11, 50, 11, 5, 473, false), (11, 53, 11, 6, 474, false), (12, 7, 12, 0, 1304, false), (15, 97, 12, 0, 1305, false), (12, 13, 12, 1, 1306, false), (15, 101, 12, 1, 1307, false), (12, 18, 12, 2, 1308, false), (15, 110, 12, 2, 1309, false), (12, 22, 12, 3, 1310, false), (15, 132, 12, 3, 1311, false), (12, 25, 12, 4, 1312, false), (15, 54, 12, 4, 1313, false), (12, 28, 12, 5, 1314, false), (15, 164, 12, 5, 1315, false), (15, 173, 12, 6, 1316, false), (12, 32, 12, 6, 1317, false), (15, 176, 12, 7, 1318, false), (12, 35, 12, 7, 1319, false), (12, 38, 12, 8, 1320, false), (15, 182, 12, 9, 1321, false), (12, 41, 12, 9, 1322, false), (21, 15, 1, 0, 1492, false), (21, 22, 1, 1, 1493, false), (0, 1048, 1, 2, 1494, false), (21, 79, 1, 3, 1495, false), (0, 9, 0, 0, 1552, false), (0, 15, 0, 1, 1553, false)]
def am_host (o : Nat) : String := match o with
  | 6 => "MarbledPaper"
  | 11 => "MarbledPaper"
  | 7 => "MarbledPaper"
  | 10 => "MarbledPaper"
  | 15 => "MarbledPaperLaw"
  | _ => "MarbledPaper"
def am_fw (q : Nat × Nat × Nat × Nat × Nat × Bool) : Cond := match vwCl[q.2.2.1]? with
  | none => .tt
  | some r => if q.2.2.2.2.2 = true then .fieldLinkNest (am_own q.1) q.2.1 (r.2.1 q.2.2.2.1).1 (r.2.1 q.2.2.2.1).2.1 (r.2.1 q.2.2.2.1).2.2.1 (am_host q.1) else .fieldLink (am_own q.1) q.2.1 (r.2.1 q.2.2.2.1).1 (r.2.1 q.2.2.2.1).2.1 (r.2.1 q.2.2.2.1).2.2.1
def am_ldT : List (Nat × Nat × Int64 × Nat) := [(9, 42, 37, 139), (11, 233, 937, 864), (11, 235, 31, 865), (9, 83, 10, 1054)]
def am_mmT : List (Nat × Nat × Nat × Nat) := [(2, 7, 2, 323), (13, 7, 1, 639), (13, 23, 2, 642), (7, 204, 1, 683), (7, 209, 2, 688), (12, 100, 1, 939), (12, 111, 2, 960), (17, 92, 2, 1075), (17, 38, 1, 1076), (18, 224, 2, 1083), (18, 183, 1, 1084), (5, 68, 1, 1189), (3, 43, 1, 1226), (24, 194, 2, 1368), (23, 304, 1, 1384), (15, 230, 2, 1610), (15, 225, 1, 1611)]
def am_oiT : List (Nat × Nat × Nat) := [(11, 3, 81), (9, 3, 89), (5, 3, 178), (3, 3, 184), (10, 3, 298), (6, 3, 314), (2, 1, 322), (7, 3, 368), (4, 3, 374), (8, 3, 402), (12, 1, 1301), (21, 3, 1491), (0, 1, 1518)]
set_option maxRecDepth 100000 in
theorem am_fl_ok : am_flT.all (fun q => decide (lw_tbl[q.2.2.2.2.1]? = some (am_fw q))) = true := by decide +kernel
set_option maxRecDepth 100000 in
theorem am_ld_ok : am_ldT.all (fun q => decide (lw_tbl[q.2.2.2]? = some (.constantLong (am_own q.1) q.2.1 q.2.2.1))) = true := by decide +kernel
set_option maxRecDepth 100000 in
theorem am_mm_ok : am_mmT.all (fun q => decide (lw_tbl[q.2.2.2]? = some (.methodLink (am_own q.1) q.2.1 (if q.2.2.1 = 1 then Lib.Math.min.name else Lib.Math.max.name)))) = true := by decide +kernel
set_option maxRecDepth 100000 in
theorem am_oi_ok : am_oiT.all (fun q => decide (lw_tbl[q.2.2]? = some (.methodLink (am_own q.1) q.2.1 Lib.objectInit))) = true := by decide +kernel
/-- a kind of a field, and what the tables say of the field: 0 int, 1 long, 2 a reference, 3 boolean -/
def am_okf (c k t : Nat) : Bool := match vwCl[c]? with
  | none => false
  | some r => decide (k < r.2.2) && match t, parseFieldDescriptor (r.2.1 k).2.2.1 with
    | 0, some .int => true
    | 1, some .long => true
    | 3, some .boolean => true
    | 3, some .byte => true
    | 2, some (.object _) => true
    | 2, some (.array _) => true
    | _, _ => false
theorem am_ks_ok : (List.range 13).all (fun c => (List.range (am_ks c).length).all (fun k => am_okf c k ((am_ks c).getD k 9))) = true := by decide +kernel
theorem am_ks_len : (List.range 13).all (fun c => decide ((vwCl[c]?).map (fun r => r.2.2) = some (am_ks c).length)) = true := by decide +kernel

def am_all : List Cond := lw_tbl.filter goodWord
def am_nestW (w : Cond) : Bool := match w with
  | .fieldLinkNest .. => true
  | .methodLinkNest .. => true
  | .castable .. => true
  | .privateMethod .. => true
  | .arrayOver (.array .int) => true
  | _ => false
set_option maxRecDepth 100000 in
theorem am_in0 : ∀ w ∈ u_ws RJ0 TJ0 4, w ∈ lw_tbl := by decide +kernel
theorem am_gw0 : (u_ws RJ0 TJ0 4).all goodWord = true := by decide +kernel
set_option maxRecDepth 100000 in
theorem am_in1 : ∀ w ∈ u_ws RJ4 TJ4 4, w ∈ lw_tbl := by decide +kernel
theorem am_gw1 : (u_ws RJ4 TJ4 4).all goodWord = true := by decide +kernel
set_option maxRecDepth 100000 in
theorem am_in2 : ∀ w ∈ u_ws RX2 TX2 2, w ∈ lw_tbl := by decide +kernel
theorem am_gw2 : (u_ws RX2 TX2 2).all goodWord = true := by decide +kernel
set_option maxRecDepth 100000 in
theorem am_in3 : ∀ w ∈ u_ws RX3 TX3 10, w ∈ lw_tbl := by decide +kernel
theorem am_gw3 : (u_ws RX3 TX3 10).all goodWord = true := by decide +kernel
set_option maxRecDepth 100000 in
theorem am_in4 : ∀ w ∈ u_ws RX4 TX4 6, w ∈ lw_tbl := by decide +kernel
theorem am_gw4 : (u_ws RX4 TX4 6).all goodWord = true := by decide +kernel
set_option maxRecDepth 100000 in
theorem am_in5 : ∀ w ∈ u_ws RX5 TX5 14, w ∈ lw_tbl := by decide +kernel
theorem am_gw5 : (u_ws RX5 TX5 14).all goodWord = true := by decide +kernel
set_option maxRecDepth 100000 in
theorem am_in6 : ∀ w ∈ u_ws RX6 TX6 9, w ∈ lw_tbl := by decide +kernel
theorem am_gw6 : (u_ws RX6 TX6 9).all goodWord = true := by decide +kernel
set_option maxRecDepth 100000 in
theorem am_in7 : ∀ w ∈ u_ws RX7 TX7 16, w ∈ lw_tbl := by decide +kernel
theorem am_gw7 : (u_ws RX7 TX7 16).all goodWord = true := by decide +kernel
set_option maxRecDepth 100000 in
theorem am_in8 : ∀ w ∈ u_ws RX8 TX8 2, w ∈ lw_tbl := by decide +kernel
theorem am_gw8 : (u_ws RX8 TX8 2).all goodWord = true := by decide +kernel
set_option maxRecDepth 100000 in
theorem am_in9 : ∀ w ∈ u_ws RX9 TX9 9, w ∈ lw_tbl := by decide +kernel
theorem am_gw9 : (u_ws RX9 TX9 9).all goodWord = true := by decide +kernel
set_option maxRecDepth 100000 in
theorem am_in10 : ∀ w ∈ u_ws RX10 TX10 3, w ∈ lw_tbl := by decide +kernel
theorem am_gw10 : (u_ws RX10 TX10 3).all goodWord = true := by decide +kernel
set_option maxRecDepth 100000 in
theorem am_in11 : ∀ w ∈ u_ws RX11 TX11 7, w ∈ lw_tbl := by decide +kernel
theorem am_gw11 : (u_ws RX11 TX11 7).all goodWord = true := by decide +kernel
set_option maxRecDepth 100000 in
theorem am_in12 : ∀ w ∈ u_ws RX12 TX12 10, w ∈ lw_tbl := by decide +kernel
theorem am_gw12 : (u_ws RX12 TX12 10).all goodWord = true := by decide +kernel
theorem am_cls (c : Nat) (r : vw_C) (h : vwCl[c]? = some r) : (∀ w ∈ u_ws r.1 r.2.1 r.2.2, w ∈ am_all) ∧ (∀ a, a < r.2.2 → ∀ b, b < r.2.2 → a ≠ b → (r.2.1 a).2.1 ≠ (r.2.1 b).2.1) ∧ ∃ ty : Nat → FieldType, ∀ k, k < r.2.2 → parseFieldDescriptor (r.2.1 k).2.2.1 = some (ty k) := by
  match c, h with
  | 0, h => cases h; exact ⟨fun w hw => List.mem_filter.mpr ⟨am_in0 w hw, List.all_eq_true.mp am_gw0 w hw⟩, nmJ0, tyJ0, tyJ0_ok⟩
  | 1, h => cases h; exact ⟨fun w hw => List.mem_filter.mpr ⟨am_in1 w hw, List.all_eq_true.mp am_gw1 w hw⟩, nmJ4, tyJ4, tyJ4_ok⟩
  | 2, h => cases h; exact ⟨fun w hw => List.mem_filter.mpr ⟨am_in2 w hw, List.all_eq_true.mp am_gw2 w hw⟩, nmX2, tyX2, tyX2_ok⟩
  | 3, h => cases h; exact ⟨fun w hw => List.mem_filter.mpr ⟨am_in3 w hw, List.all_eq_true.mp am_gw3 w hw⟩, nmX3, tyX3, tyX3_ok⟩
  | 4, h => cases h; exact ⟨fun w hw => List.mem_filter.mpr ⟨am_in4 w hw, List.all_eq_true.mp am_gw4 w hw⟩, nmX4, tyX4, tyX4_ok⟩
  | 5, h => cases h; exact ⟨fun w hw => List.mem_filter.mpr ⟨am_in5 w hw, List.all_eq_true.mp am_gw5 w hw⟩, nmX5, tyX5, tyX5_ok⟩
  | 6, h => cases h; exact ⟨fun w hw => List.mem_filter.mpr ⟨am_in6 w hw, List.all_eq_true.mp am_gw6 w hw⟩, nmX6, tyX6, tyX6_ok⟩
  | 7, h => cases h; exact ⟨fun w hw => List.mem_filter.mpr ⟨am_in7 w hw, List.all_eq_true.mp am_gw7 w hw⟩, nmX7, tyX7, tyX7_ok⟩
  | 8, h => cases h; exact ⟨fun w hw => List.mem_filter.mpr ⟨am_in8 w hw, List.all_eq_true.mp am_gw8 w hw⟩, nmX8, tyX8, tyX8_ok⟩
  | 9, h => cases h; exact ⟨fun w hw => List.mem_filter.mpr ⟨am_in9 w hw, List.all_eq_true.mp am_gw9 w hw⟩, nmX9, tyX9, tyX9_ok⟩
  | 10, h => cases h; exact ⟨fun w hw => List.mem_filter.mpr ⟨am_in10 w hw, List.all_eq_true.mp am_gw10 w hw⟩, nmX10, tyX10, tyX10_ok⟩
  | 11, h => cases h; exact ⟨fun w hw => List.mem_filter.mpr ⟨am_in11 w hw, List.all_eq_true.mp am_gw11 w hw⟩, nmX11, tyX11, tyX11_ok⟩
  | 12, h => cases h; exact ⟨fun w hw => List.mem_filter.mpr ⟨am_in12 w hw, List.all_eq_true.mp am_gw12 w hw⟩, nmX12, tyX12, tyX12_ok⟩
  | n + 13, h => simp [vwCl] at h
