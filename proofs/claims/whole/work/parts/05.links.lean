def mm_TT : List Cond := lw_tbl.filter goodWord
theorem mm_in {w : Cond} {i : Nat} (h : tables_1[i]? = some w) (hg : goodWord w = true) : w ∈ mm_TT := List.mem_filter.mpr ⟨List.mem_append_right _ (List.mem_of_getElem? h), hg⟩
theorem mm_inS {w : Cond} {i : Nat} (h : (k2_sels lw_privs)[i]? = some w) (hg : goodWord w = true) : w ∈ mm_TT := List.mem_filter.mpr ⟨List.mem_append_left _ (List.mem_of_getElem? h), hg⟩
def mm_ow : List String := [RX0, RX1, RX2, RX3, RX4, RX5, RX6, RX7, RX8, RX9, RX10, RX11, RJ6, RJ13, RJ9, RJ7, RL]
def mm_on (ow : Nat) : String := mm_ow.getD ow ""
def mm_ty (ci k : Nat) : FieldType := match ci with
  | 0 => tyX0 k
  | 1 => tyX1 k
  | 2 => tyX2 k
  | 3 => tyX3 k
  | 4 => tyX5 k
  | 5 => tyX7 k
  | 6 => tyX8 k
  | 7 => tyX9 k
  | 8 => tyX10 k
  | 9 => tyX11 k
  | _ => .int
def mm_fk : FieldType → Nat
  | .long => 1
  | .object _ => 2
  | .array _ => 2
  | .double => 3
  | .float => 3
  | _ => 0
def mm_pk : FieldType → Nat
  | .int => 0
  | .long => 1
  | .object _ => 2
  | .array _ => 2
  | .boolean => 3
  | _ => 9
def mm_fin (ci k : Nat) : Bool := match vwCl[ci]? with
  | some r => (r.2.1 k).2.2.2
  | none => true
def mm_co (ci : Nat) : Nat := match ci with
  | 0 => 0
  | 1 => 1
  | 2 => 2
  | 3 => 3
  | 4 => 5
  | 5 => 7
  | 6 => 8
  | 7 => 9
  | 8 => 10
  | 9 => 11
  | _ => 1000
def mm_ft (ow : Nat) : List (Nat × Nat × Nat) := match ow with
  | 0 => [(12, 0, 0), (18, 0, 1), (29, 1, 1), (37, 4, 2), (47, 1, 7), (51, 4, 0), (80, 1, 2), (87, 4, 5), (93, 1, 3), (96, 1, 4), (118, 4, 1)]
  | 1 => [(9, 1, 6), (15, 1, 7), (18, 1, 8), (21, 4, 0), (33, 1, 1), (37, 1, 2), (40, 1, 3), (43, 1, 4), (46, 1, 5), (49, 1, 9), (52, 1, 10), (77, 4, 3), (99, 4, 5)]
  | 2 => [(9, 2, 0), (21, 2, 1), (38, 4, 11), (43, 4, 14), (46, 4, 15)]
  | 3 => [(9, 3, 0), (15, 3, 1), (19, 1, 5), (24, 1, 8), (64, 3, 2), (67, 3, 3)]
  | 5 => [(9, 4, 12), (15, 4, 13), (19, 4, 14), (22, 4, 15), (25, 4, 16), (28, 4, 18), (34, 4, 0), (38, 4, 1), (41, 4, 2), (44, 4, 3), (47, 4, 4), (50, 4, 5), (53, 4, 6), (57, 4, 7), (60, 4, 8), (63, 4, 9), (66, 4, 10), (69, 4, 11), (72, 4, 17)]
  | 7 => [(12, 5, 0), (18, 5, 2), (22, 5, 4), (26, 5, 3), (35, 5, 1), (38, 5, 5), (44, 7, 2), (54, 7, 3), (91, 4, 10), (94, 4, 11), (97, 7, 4), (108, 4, 6), (120, 4, 7), (123, 4, 8), (126, 7, 6), (129, 7, 5), (171, 4, 9)]
  | 8 => [(11, 6, 1), (15, 6, 2), (18, 6, 3), (22, 6, 4), (25, 6, 5), (28, 6, 0)]
  | 9 => [(9, 7, 0), (15, 7, 8), (35, 7, 1), (38, 7, 7), (52, 7, 3), (55, 7, 2), (73, 7, 5), (77, 7, 6), (84, 7, 4)]
  | 10 => [(12, 8, 1), (16, 8, 2), (23, 8, 3), (30, 8, 4), (37, 8, 5), (44, 8, 6), (51, 8, 7), (55, 8, 8), (63, 8, 0), (67, 4, 1), (75, 5, 0), (79, 7, 1), (92, 3, 1), (93, 6, 0), (99, 4, 0), (102, 5, 1), (105, 5, 2), (108, 4, 2), (122, 1, 6), (126, 1, 7), (129, 1, 5), (132, 1, 8), (169, 3, 0), (218, 3, 2), (221, 3, 3), (245, 4, 11), (252, 2, 1), (266, 4, 13), (269, 8, 9), (305, 1, 0), (309, 1, 2), (315, 4, 10), (318, 4, 9), (321, 1, 3), (324, 1, 4)]
  | 11 => [(7, 9, 0), (13, 9, 3), (17, 9, 11), (20, 9, 12), (23, 9, 13), (26, 9, 14), (29, 9, 15), (32, 9, 16), (35, 9, 17), (38, 9, 24), (41, 9, 25), (44, 9, 26), (47, 9, 27), (50, 9, 28), (53, 9, 29), (56, 9, 30), (59, 9, 31), (62, 9, 32), (65, 9, 33), (68, 9, 34), (71, 9, 35), (75, 9, 36), (79, 9, 54), (82, 9, 55), (85, 9, 56), (88, 9, 57), (91, 9, 58), (94, 9, 65), (97, 9, 66), (100, 9, 67), (103, 9, 68), (106, 9, 69), (109, 9, 79), (112, 9, 81), (115, 9, 82), (118, 9, 83), (121, 9, 84), (124, 9, 85), (127, 9, 86), (130, 9, 87), (133, 9, 90), (136, 9, 91), (139, 9, 92), (142, 9, 93), (145, 9, 94), (148, 9, 95), (151, 9, 96), (154, 9, 97), (157, 9, 98), (160, 9, 47), (163, 9, 49), (166, 9, 52), (173, 9, 1), (179, 9, 4), (182, 9, 5), (189, 9, 7), (192, 9, 9), (196, 9, 8), (199, 9, 6), (206, 9, 10), (215, 9, 2), (280, 9, 18), (283, 9, 22), (286, 9, 23), (306, 9, 19), (332, 9, 37), (338, 9, 40), (341, 9, 41), (344, 9, 38), (347, 9, 39), (378, 9, 48), (381, 9, 50), (384, 9, 51), (387, 9, 53), (391, 9, 20), (394, 9, 42), (397, 9, 43), (400, 9, 44), (403, 9, 45), (406, 9, 46), (409, 9, 21), (412, 9, 88), (415, 9, 80), (418, 9, 59), (421, 9, 60), (424, 9, 61), (427, 9, 62), (430, 9, 64), (433, 9, 63), (436, 9, 78), (439, 9, 76), (442, 9, 77), (445, 9, 70), (448, 9, 71), (451, 9, 72), (454, 9, 73), (457, 9, 75), (460, 9, 74), (577, 9, 89)]
  | _ => []
def mm_lt (ow : Nat) : List (Nat × Nat × Int) := match ow with
  | 3 => [(72, 0, 2147483647)]
  | 4 => [(11, 0, 1000000)]
  | 9 => [(19, 1, 0)]
  | 10 => [(279, 0, 100000)]
  | 11 => [(580, 0, 100000)]
  | 12 => [(264, 0, 65536)]
  | _ => []
def mm_jt (ow : Nat) : List (Nat × Int) := match ow with
  | 0 => [(121, (-1))]
  | 1 => [(125, (-1))]
  | 3 => [(27, (-1))]
  | 4 => [(12, (-1))]
  | 6 => [(9, (-1))]
  | 7 => [(118, (-1))]
  | 8 => [(38, (-1))]
  | 9 => [(87, 32), (89, 97)]
  | 10 => [(143, (-1)), (159, (-2)), (330, 1000000000000)]
  | 11 => [(218, 495873781348), (220, 422608071022), (222, 1818584692), (224, 427071729268), (226, 1953854062), (228, 418346264942), (230, 6451065), (232, 444350952036), (234, 29807), (236, 491379060069), (238, 123581014175598), (240, 512970880104), (242, 431415719790), (244, 131277443786868), (246, 444250812007), (248, 1751478885), (250, 1818325876), (252, 512970876019), (254, 495689625203), (256, 6385252), (258, 28530), (260, 7237492), (507, (-1)), (516, (-2)), (522, 1000000000000)]
  | 13 => [(314, 6148914691236517205), (316, 3689348814741910323), (318, 1085102592571150095)]
  | 16 => [(75, 4294967295)]
  | _ => []
def mm_ct (ow : Nat) : List (Nat × Nat × Nat) := match ow with
  | 0 => [(9, 1, 11)]
  | 7 => [(9, 7, 9)]
  | 10 => [(9, 1, 11), (20, 0, 2), (27, 3, 4), (34, 2, 2), (41, 6, 6), (48, 4, 19), (58, 5, 6)]
  | 16 => [(7, 8, 10), (10, 9, 99)]
  | _ => []
def mm_qt (ow : Nat) : List (Nat) := match ow with
  | 10 => [9]
  | _ => []
def mm_mt (ow : Nat) : List (Nat × Nat × Nat × Nat × Int) := match ow with
  | 0 => [(62, 66, 1, 0, 0), (68, 65, 2, 0, 0), (99, 278, 1, 0, 0), (108, 276, 1, 0, 0)]
  | 1 => [(27, 64, 1, 0, 0), (55, 281, 2, 0, 0), (61, 0, 0, 0, 7), (67, 276, 1, 0, 0), (73, 65, 2, 0, 0), (80, 66, 1, 0, 0), (110, 70, 4, 0, 0), (117, 68, 3, 0, 0)]
  | 2 => [(15, 281, 2, 0, 0), (28, 40, 3, 0, 0), (47, 65, 2, 0, 0), (65, 66, 1, 0, 0), (69, 46, 2, 0, 0)]
  | 3 => [(29, 64, 1, 0, 0), (35, 65, 2, 0, 0), (39, 71, 3, 0, 0), (43, 36, 4, 0, 0), (47, 37, 2, 0, 0), (51, 66, 1, 0, 0), (54, 68, 3, 0, 0), (58, 46, 2, 0, 0), (77, 70, 4, 0, 0)]
  | 4 => [(14, 276, 1, 0, 0), (20, 45, 4, 0, 0), (24, 64, 1, 0, 0), (30, 69, 2, 0, 0), (34, 65, 2, 0, 0), (38, 66, 1, 0, 0), (41, 40, 3, 0, 0)]
  | 5 => [(75, 65, 2, 0, 0), (81, 61, 1, 0, 0), (85, 63, 3, 0, 0), (93, 280, 2, 0, 0), (99, 279, 2, 0, 0)]
  | 6 => [(11, 64, 1, 0, 0), (17, 276, 1, 0, 0), (23, 275, 1, 0, 0), (26, 67, 2, 0, 0), (30, 277, 2, 0, 0), (36, 69, 2, 0, 0)]
  | 7 => [(112, 64, 1, 0, 0), (168, 91, 1, 0, 0)]
  | 8 => [(32, 40, 3, 0, 0), (44, 281, 2, 0, 0), (58, 64, 1, 0, 0), (64, 69, 2, 0, 0), (68, 66, 1, 0, 0), (71, 279, 2, 0, 0)]
  | 9 => [(31, 110, 2, 0, 0), (48, 111, 1, 0, 0), (58, 112, 1, 0, 0), (64, 113, 1, 0, 0), (70, 114, 1, 0, 0)]
  | 10 => [(161, 162, 2, 0, 0), (179, 160, 2, 0, 0), (183, 41, 3, 0, 0), (189, 42, 3, 0, 0), (192, 43, 3, 0, 0), (196, 159, 1, 0, 0), (199, 64, 1, 0, 0), (205, 44, 2, 0, 0), (212, 163, 1, 0, 0), (224, 161, 1, 0, 0), (227, 47, 2, 0, 0), (242, 48, 1, 0, 0), (255, 32, 3, 0, 0)]
  | 11 => [(202, 169, 1, 0, 0), (209, 170, 1, 0, 0), (212, 171, 1, 0, 0), (297, 183, 1, 0, 0), (463, 205, 3, 0, 0), (518, 228, 2, 0, 0), (524, 234, 2, 0, 0), (527, 233, 3, 0, 0), (531, 238, 1, 0, 0), (534, 239, 1, 0, 0), (538, 240, 5, 0, 0), (545, 243, 2, 0, 0), (553, 248, 2, 0, 0), (556, 249, 1, 0, 0), (562, 257, 1, 0, 0), (571, 256, 3, 0, 0), (590, 270, 1, 0, 0)]
  | 13 => [(311, 274, 1, 0, 0)]
  | _ => []
def mm_vt (ow : Nat) : List (Nat × Nat × Nat × Nat × Int) := match ow with
  | 0 => [(21, 14, 1, 1, 0), (25, 19, 3, 1, 0), (33, 16, 1, 1, 0), (43, 1, 3, 0, 0), (54, 18, 1, 1, 0), (58, 5, 2, 0, 0), (72, 20, 1, 1, 0), (76, 21, 2, 1, 0), (83, 15, 0, 1, 0), (90, 7, 1, 0, 0), (105, 13, 2, 1, 0), (114, 10, 3, 0, 0)]
  | 1 => [(83, 15, 0, 1, 0), (87, 20, 1, 1, 0), (91, 21, 2, 1, 0), (95, 60, 3, 4, 0), (102, 17, 1, 1, 0), (106, 22, 3, 1, 0), (114, 23, 2, 1, 0), (121, 59, 1, 4, 0)]
  | 2 => [(25, 25, 0, 2, 0), (34, 26, 2, 2, 0), (53, 29, 1, 2, 0), (57, 28, 2, 2, 0), (61, 30, 2, 2, 0)]
  | 3 => [(73, 39, 4, 3, 0)]
  | 5 => [(31, 50, 0, 4, 0), (89, 62, 4, 4, 0)]
  | 7 => [(30, 50, 0, 4, 0), (41, 104, 0, 7, 0), (47, 76, 0, 5, 0), (51, 51, 0, 4, 0), (57, 74, 1, 5, 0), (61, 105, 0, 7, 0), (64, 77, 1, 5, 0), (67, 57, 0, 4, 0), (70, 84, 1, 5, 0), (73, 80, 0, 5, 0), (76, 81, 0, 5, 0), (79, 82, 0, 5, 0), (82, 83, 0, 5, 0), (85, 79, 1, 5, 0), (88, 75, 1, 5, 0), (100, 78, 2, 5, 0), (104, 52, 2, 4, 0), (132, 53, 1, 4, 0), (136, 55, 2, 4, 0), (140, 54, 1, 4, 0), (143, 56, 2, 4, 0), (146, 85, 1, 5, 0), (149, 58, 1, 4, 0), (153, 86, 1, 5, 0), (156, 87, 1, 5, 0), (159, 88, 1, 5, 0), (162, 89, 1, 5, 0), (165, 90, 1, 5, 0)]
  | 8 => [(40, 96, 1, 6, 0), (50, 100, 2, 6, 0), (54, 101, 2, 6, 0)]
  | 9 => [(21, 0, 0, 0, 8), (27, 0, 0, 0, 9), (41, 105, 0, 7, 0), (44, 109, 1, 7, 0), (61, 106, 0, 7, 0), (67, 107, 0, 7, 0), (80, 108, 1, 7, 0)]
  | 10 => [(71, 13, 2, 1, 0), (84, 103, 1, 7, 0), (88, 73, 1, 5, 0), (96, 156, 0, 8, 0), (111, 19, 3, 1, 0), (115, 157, 1, 8, 0), (119, 16, 1, 1, 0), (135, 1, 3, 0, 0), (139, 2, 3, 0, 0), (145, 3, 3, 0, 0), (148, 4, 3, 0, 0), (151, 6, 2, 0, 0), (155, 8, 2, 0, 0), (165, 9, 2, 0, 0), (171, 11, 1, 0, 0), (175, 34, 1, 3, 0), (209, 35, 1, 3, 0), (215, 38, 1, 3, 0), (231, 27, 2, 2, 0), (235, 30, 2, 2, 0), (238, 29, 1, 2, 0), (248, 28, 2, 2, 0), (258, 158, 2, 8, 0), (262, 31, 3, 2, 0), (272, 93, 4, 6, 0), (276, 94, 2, 6, 0), (280, 95, 1, 6, 0), (283, 97, 0, 6, 0), (287, 98, 0, 6, 0), (290, 99, 1, 6, 0), (293, 101, 2, 6, 0), (297, 155, 1, 8, 0), (301, 14, 1, 1, 0), (312, 15, 0, 1, 0), (327, 17, 1, 1, 0)]
  | 11 => [(169, 202, 1, 9, 0), (176, 166, 1, 9, 0), (185, 168, 1, 9, 0), (262, 174, 1, 9, 0), (266, 173, 1, 9, 0), (269, 172, 0, 9, 0), (272, 176, 1, 9, 0), (276, 177, 2, 9, 0), (289, 179, 2, 9, 0), (293, 180, 0, 9, 0), (300, 182, 0, 9, 0), (303, 186, 0, 9, 0), (309, 181, 1, 9, 0), (312, 188, 0, 9, 0), (315, 185, 0, 9, 0), (319, 184, 1, 9, 0), (322, 189, 0, 9, 0), (325, 187, 1, 9, 0), (328, 178, 3, 9, 0), (335, 175, 0, 9, 0), (350, 190, 0, 9, 0), (353, 191, 3, 9, 0), (357, 196, 0, 9, 0), (360, 192, 0, 9, 0), (363, 193, 0, 9, 0), (366, 194, 0, 9, 0), (369, 195, 0, 9, 0), (372, 197, 0, 9, 0), (375, 198, 0, 9, 0), (467, 206, 0, 9, 0), (470, 207, 1, 9, 0), (473, 210, 2, 9, 0), (476, 208, 0, 9, 0), (479, 209, 0, 9, 0), (482, 201, 1, 9, 0), (485, 211, 0, 9, 0), (488, 212, 0, 9, 0), (492, 204, 0, 9, 0), (495, 203, 0, 9, 0), (498, 216, 0, 9, 0), (501, 219, 1, 9, 0), (504, 221, 0, 9, 0), (509, 220, 2, 9, 0), (513, 225, 0, 9, 0), (542, 244, 3, 9, 0), (549, 246, 4, 9, 0), (559, 250, 2, 9, 0), (565, 255, 2, 9, 0), (568, 254, 0, 9, 0), (574, 259, 2, 9, 0), (581, 265, 2, 9, 0), (584, 266, 2, 9, 0), (587, 268, 2, 9, 0)]
  | 16 => [(13, 116, 5, 8, 0), (17, 165, 5, 9, 0), (18, 117, 1, 8, 0), (22, 167, 1, 9, 0), (23, 118, 0, 8, 0), (27, 199, 0, 9, 0), (28, 119, 1, 8, 0), (31, 200, 1, 9, 0), (32, 120, 1, 8, 0), (35, 213, 1, 9, 0), (36, 121, 2, 8, 0), (40, 214, 2, 9, 0), (41, 122, 1, 8, 0), (44, 215, 1, 9, 0), (45, 123, 0, 8, 0), (49, 217, 0, 9, 0), (50, 124, 1, 8, 0), (53, 218, 1, 9, 0), (54, 125, 1, 8, 0), (58, 222, 1, 9, 0), (59, 126, 1, 8, 0), (62, 223, 1, 9, 0), (63, 127, 1, 8, 0), (66, 224, 1, 9, 0), (67, 128, 0, 8, 0), (70, 226, 0, 9, 0), (71, 129, 1, 8, 0), (74, 227, 1, 9, 0), (77, 130, 1, 8, 0), (81, 229, 1, 9, 0), (82, 131, 1, 8, 0), (85, 230, 1, 9, 0), (86, 132, 1, 8, 0), (89, 231, 1, 9, 0), (90, 133, 0, 8, 0), (93, 232, 0, 9, 0), (94, 134, 3, 8, 0), (98, 235, 3, 9, 0), (99, 135, 3, 8, 0), (102, 236, 3, 9, 0), (103, 136, 3, 8, 0), (107, 237, 3, 9, 0), (108, 137, 2, 8, 0), (112, 241, 2, 9, 0), (113, 138, 2, 8, 0), (116, 242, 2, 9, 0), (117, 139, 1, 8, 0), (120, 245, 1, 9, 0), (121, 140, 2, 8, 0), (124, 247, 2, 9, 0), (125, 141, 2, 8, 0), (129, 251, 2, 9, 0), (130, 142, 3, 8, 0), (133, 252, 3, 9, 0), (134, 143, 1, 8, 0), (137, 253, 1, 9, 0), (138, 144, 3, 8, 0), (141, 258, 3, 9, 0), (142, 145, 2, 8, 0), (145, 260, 2, 9, 0), (146, 146, 3, 8, 0), (149, 261, 3, 9, 0), (150, 147, 3, 8, 0), (153, 262, 3, 9, 0), (154, 148, 1, 8, 0), (158, 263, 1, 9, 0), (159, 149, 1, 8, 0), (162, 264, 1, 9, 0), (163, 150, 2, 8, 0), (166, 267, 2, 9, 0), (167, 151, 3, 8, 0), (170, 269, 3, 9, 0), (171, 152, 1, 8, 0), (174, 271, 1, 9, 0), (175, 153, 1, 8, 0), (178, 272, 1, 9, 0), (179, 154, 1, 8, 0), (182, 273, 1, 9, 0)]
  | _ => []
def mm_it (ow : Nat) : List (Nat × Nat × Nat × Nat × Int) := match ow with
  | 0 => [(3, 0, 0, 0, 7), (11, 12, 0, 1, 1)]
  | 1 => [(3, 0, 0, 0, 7)]
  | 2 => [(3, 0, 0, 0, 7)]
  | 3 => [(3, 0, 0, 0, 7)]
  | 5 => [(3, 0, 0, 0, 7)]
  | 7 => [(3, 0, 0, 0, 7), (11, 102, 0, 7, 0)]
  | 8 => [(3, 0, 0, 0, 7)]
  | 9 => [(3, 0, 0, 0, 7)]
  | 10 => [(3, 0, 0, 0, 7), (11, 12, 0, 1, 1), (22, 0, 0, 0, 1), (29, 33, 0, 3, 1), (36, 24, 0, 2, 1), (43, 92, 0, 6, 1), (50, 49, 0, 4, 0), (60, 72, 1, 5, 0)]
  | 11 => [(1, 0, 0, 0, 7)]
  | 16 => [(9, 115, 0, 8, 0), (12, 164, 0, 9, 0)]
  | _ => []
def mm_fok (own : String) (q : Nat × Nat × Nat) : Prop := ∃ r : vw_C, vwCl[q.2.1]? = some r ∧ q.2.2 < r.2.2 ∧ Cond.fieldLink own q.1 (r.2.1 q.2.2).1 (r.2.1 q.2.2).2.1 (r.2.1 q.2.2).2.2.1 ∈ mm_TT
def mm_lok (own : String) (q : Nat × Nat × Int) : Prop := (q.2.1 = 0 ∧ Cond.constant own q.1 (Int32.ofInt q.2.2) ∈ mm_TT) ∨ (q.2.1 = 1 ∧ own = RX9 ∧ q.1 = 19)
def mm_jok (own : String) (q : Nat × Int) : Prop := Cond.constantLong own q.1 (Int64.ofInt q.2) ∈ mm_TT
def mm_kok (own : String) (q : Nat × Nat × Nat) : Prop := ∃ r : vw_C, vwCl[q.2.1]? = some r ∧ q.2.2 = r.2.2 ∧ Cond.classLink own q.1 r.1 ∈ mm_TT ∧ Cond.instantiable r.1 r.2.2 ∈ mm_TT ∧ Cond.initialized r.1 ∈ mm_TT
def mm_qok (own : String) (q : Nat) : Prop := Cond.classLink own q RX1 ∈ mm_TT
/-- a static call: the callee's number, its parameters -/
def mm_sok (own : String) (q : Nat × Nat × Nat × Nat × Int) : Prop := (q.2.2.2.2 = 7 ∧ Cond.methodLink own q.1 arraycopyName ∈ mm_TT) ∨ (q.2.2.2.2 = 0 ∧ q.2.1 < mm_T.length ∧ (mm_M q.2.1).2.2.2.2.2.2 = q.2.2.1 ∧ Cond.methodLink own q.1 (mm_M q.2.1).1 ∈ mm_TT ∧ Cond.static (mm_M q.2.1).1 ∈ mm_TT)
def mm_vok (own : String) (q : Nat × Nat × Nat × Nat × Int) : Prop := (q.2.2.2.2 = 8 ∧ own = RX9 ∧ q.1 = 21) ∨ (q.2.2.2.2 = 9 ∧ own = RX9 ∧ q.1 = 27) ∨ (q.2.2.2.2 = 0 ∧ q.2.1 < mm_T.length ∧ (mm_M q.2.1).2.2.2.2.2.2 = q.2.2.1 ∧ Cond.methodLink own q.1 (mm_M q.2.1).1 ∈ mm_TT ∧ Cond.instanceMethod (mm_M q.2.1).1 ∈ mm_TT ∧ Cond.selects (mm_M q.2.1).1.cls (mm_M q.2.1).1 (mm_M q.2.1).1 ∈ mm_TT ∧ ∃ r : vw_C, vwCl[q.2.2.2.1]? = some r ∧ r.1 = (mm_M q.2.1).1.cls)
def mm_iok (own : String) (q : Nat × Nat × Nat × Nat × Int) : Prop := (q.2.2.2.2 = 7 ∧ Cond.methodLink own q.1 objectInit ∈ mm_TT) ∨ ((q.2.2.2.2 = 0 ∧ Cond.methodLink own q.1 (mm_M q.2.1).1 ∈ mm_TT ∨ q.2.2.2.2 = 1 ∧ Cond.methodLinkNest own q.1 (mm_M q.2.1).1 RX10 ∈ lw_tbl) ∧ q.2.1 < mm_T.length ∧ (mm_M q.2.1).2.2.2.2.2.2 = q.2.2.1 ∧ (mm_M q.2.1).2.2.2.1 = none ∧ (mm_M q.2.1).1.name = "<init>" ∧ Cond.instanceMethod (mm_M q.2.1).1 ∈ mm_TT ∧ ∃ r : vw_C, vwCl[q.2.2.2.1]? = some r ∧ r.1 = (mm_M q.2.1).1.cls)
theorem mm_ff_0_0 : mm_fok (mm_on 0) (12, 0, 0) := ⟨_, rfl, by decide, mm_in (i := 95) (by decide +kernel) rfl⟩
theorem mm_ff_0_1 : mm_fok (mm_on 0) (18, 0, 1) := ⟨_, rfl, by decide, mm_in (i := 96) (by decide +kernel) rfl⟩
theorem mm_ff_0_2 : mm_fok (mm_on 0) (29, 1, 1) := ⟨_, rfl, by decide, mm_in (i := 39) (by decide +kernel) rfl⟩
theorem mm_ff_0_3 : mm_fok (mm_on 0) (37, 4, 2) := ⟨_, rfl, by decide, mm_in (i := 184) (by decide +kernel) rfl⟩
theorem mm_ff_0_4 : mm_fok (mm_on 0) (47, 1, 7) := ⟨_, rfl, by decide, mm_in (i := 55) (by decide +kernel) rfl⟩
theorem mm_ff_0_5 : mm_fok (mm_on 0) (51, 4, 0) := ⟨_, rfl, by decide, mm_in (i := 178) (by decide +kernel) rfl⟩
theorem mm_ff_0_6 : mm_fok (mm_on 0) (80, 1, 2) := ⟨_, rfl, by decide, mm_in (i := 41) (by decide +kernel) rfl⟩
theorem mm_ff_0_7 : mm_fok (mm_on 0) (87, 4, 5) := ⟨_, rfl, by decide, mm_in (i := 190) (by decide +kernel) rfl⟩
theorem mm_ff_0_8 : mm_fok (mm_on 0) (93, 1, 3) := ⟨_, rfl, by decide, mm_in (i := 44) (by decide +kernel) rfl⟩
theorem mm_ff_0_9 : mm_fok (mm_on 0) (96, 1, 4) := ⟨_, rfl, by decide, mm_in (i := 47) (by decide +kernel) rfl⟩
theorem mm_ff_0_10 : mm_fok (mm_on 0) (118, 4, 1) := ⟨_, rfl, by decide, mm_in (i := 182) (by decide +kernel) rfl⟩
theorem mm_ff_1_0 : mm_fok (mm_on 1) (9, 1, 6) := ⟨_, rfl, by decide, mm_in (i := 52) (by decide +kernel) rfl⟩
theorem mm_ff_1_1 : mm_fok (mm_on 1) (15, 1, 7) := ⟨_, rfl, by decide, mm_in (i := 54) (by decide +kernel) rfl⟩
theorem mm_ff_1_2 : mm_fok (mm_on 1) (18, 1, 8) := ⟨_, rfl, by decide, mm_in (i := 57) (by decide +kernel) rfl⟩
theorem mm_ff_1_3 : mm_fok (mm_on 1) (21, 4, 0) := ⟨_, rfl, by decide, mm_in (i := 177) (by decide +kernel) rfl⟩
theorem mm_ff_1_4 : mm_fok (mm_on 1) (33, 1, 1) := ⟨_, rfl, by decide, mm_in (i := 38) (by decide +kernel) rfl⟩
theorem mm_ff_1_5 : mm_fok (mm_on 1) (37, 1, 2) := ⟨_, rfl, by decide, mm_in (i := 40) (by decide +kernel) rfl⟩
theorem mm_ff_1_6 : mm_fok (mm_on 1) (40, 1, 3) := ⟨_, rfl, by decide, mm_in (i := 43) (by decide +kernel) rfl⟩
theorem mm_ff_1_7 : mm_fok (mm_on 1) (43, 1, 4) := ⟨_, rfl, by decide, mm_in (i := 46) (by decide +kernel) rfl⟩
theorem mm_ff_1_8 : mm_fok (mm_on 1) (46, 1, 5) := ⟨_, rfl, by decide, mm_in (i := 50) (by decide +kernel) rfl⟩
theorem mm_ff_1_9 : mm_fok (mm_on 1) (49, 1, 9) := ⟨_, rfl, by decide, mm_in (i := 60) (by decide +kernel) rfl⟩
theorem mm_ff_1_10 : mm_fok (mm_on 1) (52, 1, 10) := ⟨_, rfl, by decide, mm_in (i := 61) (by decide +kernel) rfl⟩
theorem mm_ff_1_11 : mm_fok (mm_on 1) (77, 4, 3) := ⟨_, rfl, by decide, mm_in (i := 187) (by decide +kernel) rfl⟩
theorem mm_ff_1_12 : mm_fok (mm_on 1) (99, 4, 5) := ⟨_, rfl, by decide, mm_in (i := 191) (by decide +kernel) rfl⟩
theorem mm_ff_2_0 : mm_fok (mm_on 2) (9, 2, 0) := ⟨_, rfl, by decide, mm_in (i := 131) (by decide +kernel) rfl⟩
theorem mm_ff_2_1 : mm_fok (mm_on 2) (21, 2, 1) := ⟨_, rfl, by decide, mm_in (i := 132) (by decide +kernel) rfl⟩
theorem mm_ff_2_2 : mm_fok (mm_on 2) (38, 4, 11) := ⟨_, rfl, by decide, mm_in (i := 205) (by decide +kernel) rfl⟩
theorem mm_ff_2_3 : mm_fok (mm_on 2) (43, 4, 14) := ⟨_, rfl, by decide, mm_in (i := 212) (by decide +kernel) rfl⟩
theorem mm_ff_2_4 : mm_fok (mm_on 2) (46, 4, 15) := ⟨_, rfl, by decide, mm_in (i := 214) (by decide +kernel) rfl⟩
theorem mm_ff_3_0 : mm_fok (mm_on 3) (9, 3, 0) := ⟨_, rfl, by decide, mm_in (i := 108) (by decide +kernel) rfl⟩
theorem mm_ff_3_1 : mm_fok (mm_on 3) (15, 3, 1) := ⟨_, rfl, by decide, mm_in (i := 110) (by decide +kernel) rfl⟩
theorem mm_ff_3_2 : mm_fok (mm_on 3) (19, 1, 5) := ⟨_, rfl, by decide, mm_in (i := 49) (by decide +kernel) rfl⟩
theorem mm_ff_3_3 : mm_fok (mm_on 3) (24, 1, 8) := ⟨_, rfl, by decide, mm_in (i := 58) (by decide +kernel) rfl⟩
theorem mm_ff_3_4 : mm_fok (mm_on 3) (64, 3, 2) := ⟨_, rfl, by decide, mm_in (i := 112) (by decide +kernel) rfl⟩
theorem mm_ff_3_5 : mm_fok (mm_on 3) (67, 3, 3) := ⟨_, rfl, by decide, mm_in (i := 114) (by decide +kernel) rfl⟩
theorem mm_ff_5_0 : mm_fok (mm_on 5) (9, 4, 12) := ⟨_, rfl, by decide, mm_in (i := 208) (by decide +kernel) rfl⟩
theorem mm_ff_5_1 : mm_fok (mm_on 5) (15, 4, 13) := ⟨_, rfl, by decide, mm_in (i := 209) (by decide +kernel) rfl⟩
theorem mm_ff_5_2 : mm_fok (mm_on 5) (19, 4, 14) := ⟨_, rfl, by decide, mm_in (i := 211) (by decide +kernel) rfl⟩
theorem mm_ff_5_3 : mm_fok (mm_on 5) (22, 4, 15) := ⟨_, rfl, by decide, mm_in (i := 213) (by decide +kernel) rfl⟩
theorem mm_ff_5_4 : mm_fok (mm_on 5) (25, 4, 16) := ⟨_, rfl, by decide, mm_in (i := 215) (by decide +kernel) rfl⟩
theorem mm_ff_5_5 : mm_fok (mm_on 5) (28, 4, 18) := ⟨_, rfl, by decide, mm_in (i := 217) (by decide +kernel) rfl⟩
theorem mm_ff_5_6 : mm_fok (mm_on 5) (34, 4, 0) := ⟨_, rfl, by decide, mm_in (i := 176) (by decide +kernel) rfl⟩
theorem mm_ff_5_7 : mm_fok (mm_on 5) (38, 4, 1) := ⟨_, rfl, by decide, mm_in (i := 181) (by decide +kernel) rfl⟩
theorem mm_ff_5_8 : mm_fok (mm_on 5) (41, 4, 2) := ⟨_, rfl, by decide, mm_in (i := 183) (by decide +kernel) rfl⟩
theorem mm_ff_5_9 : mm_fok (mm_on 5) (44, 4, 3) := ⟨_, rfl, by decide, mm_in (i := 186) (by decide +kernel) rfl⟩
theorem mm_ff_5_10 : mm_fok (mm_on 5) (47, 4, 4) := ⟨_, rfl, by decide, mm_in (i := 188) (by decide +kernel) rfl⟩
theorem mm_ff_5_11 : mm_fok (mm_on 5) (50, 4, 5) := ⟨_, rfl, by decide, mm_in (i := 189) (by decide +kernel) rfl⟩
theorem mm_ff_5_12 : mm_fok (mm_on 5) (53, 4, 6) := ⟨_, rfl, by decide, mm_in (i := 192) (by decide +kernel) rfl⟩
theorem mm_ff_5_13 : mm_fok (mm_on 5) (57, 4, 7) := ⟨_, rfl, by decide, mm_in (i := 194) (by decide +kernel) rfl⟩
theorem mm_ff_5_14 : mm_fok (mm_on 5) (60, 4, 8) := ⟨_, rfl, by decide, mm_in (i := 196) (by decide +kernel) rfl⟩
theorem mm_ff_5_15 : mm_fok (mm_on 5) (63, 4, 9) := ⟨_, rfl, by decide, mm_in (i := 198) (by decide +kernel) rfl⟩
theorem mm_ff_5_16 : mm_fok (mm_on 5) (66, 4, 10) := ⟨_, rfl, by decide, mm_in (i := 201) (by decide +kernel) rfl⟩
theorem mm_ff_5_17 : mm_fok (mm_on 5) (69, 4, 11) := ⟨_, rfl, by decide, mm_in (i := 204) (by decide +kernel) rfl⟩
theorem mm_ff_5_18 : mm_fok (mm_on 5) (72, 4, 17) := ⟨_, rfl, by decide, mm_in (i := 216) (by decide +kernel) rfl⟩
theorem mm_ff_7_0 : mm_fok (mm_on 7) (12, 5, 0) := ⟨_, rfl, by decide, mm_in (i := 358) (by decide +kernel) rfl⟩
theorem mm_ff_7_1 : mm_fok (mm_on 7) (18, 5, 2) := ⟨_, rfl, by decide, mm_in (i := 362) (by decide +kernel) rfl⟩
theorem mm_ff_7_2 : mm_fok (mm_on 7) (22, 5, 4) := ⟨_, rfl, by decide, mm_in (i := 365) (by decide +kernel) rfl⟩
theorem mm_ff_7_3 : mm_fok (mm_on 7) (26, 5, 3) := ⟨_, rfl, by decide, mm_in (i := 364) (by decide +kernel) rfl⟩
theorem mm_ff_7_4 : mm_fok (mm_on 7) (35, 5, 1) := ⟨_, rfl, by decide, mm_in (i := 360) (by decide +kernel) rfl⟩
theorem mm_ff_7_5 : mm_fok (mm_on 7) (38, 5, 5) := ⟨_, rfl, by decide, mm_in (i := 366) (by decide +kernel) rfl⟩
theorem mm_ff_7_6 : mm_fok (mm_on 7) (44, 7, 2) := ⟨_, rfl, by decide, mm_in (i := 326) (by decide +kernel) rfl⟩
theorem mm_ff_7_7 : mm_fok (mm_on 7) (54, 7, 3) := ⟨_, rfl, by decide, mm_in (i := 328) (by decide +kernel) rfl⟩
theorem mm_ff_7_8 : mm_fok (mm_on 7) (91, 4, 10) := ⟨_, rfl, by decide, mm_in (i := 202) (by decide +kernel) rfl⟩
theorem mm_ff_7_9 : mm_fok (mm_on 7) (94, 4, 11) := ⟨_, rfl, by decide, mm_in (i := 206) (by decide +kernel) rfl⟩
theorem mm_ff_7_10 : mm_fok (mm_on 7) (97, 7, 4) := ⟨_, rfl, by decide, mm_in (i := 331) (by decide +kernel) rfl⟩
theorem mm_ff_7_11 : mm_fok (mm_on 7) (108, 4, 6) := ⟨_, rfl, by decide, mm_in (i := 193) (by decide +kernel) rfl⟩
theorem mm_ff_7_12 : mm_fok (mm_on 7) (120, 4, 7) := ⟨_, rfl, by decide, mm_in (i := 195) (by decide +kernel) rfl⟩
theorem mm_ff_7_13 : mm_fok (mm_on 7) (123, 4, 8) := ⟨_, rfl, by decide, mm_in (i := 197) (by decide +kernel) rfl⟩
theorem mm_ff_7_14 : mm_fok (mm_on 7) (126, 7, 6) := ⟨_, rfl, by decide, mm_in (i := 335) (by decide +kernel) rfl⟩
theorem mm_ff_7_15 : mm_fok (mm_on 7) (129, 7, 5) := ⟨_, rfl, by decide, mm_in (i := 333) (by decide +kernel) rfl⟩
theorem mm_ff_7_16 : mm_fok (mm_on 7) (171, 4, 9) := ⟨_, rfl, by decide, mm_in (i := 199) (by decide +kernel) rfl⟩
theorem mm_ff_8_0 : mm_fok (mm_on 8) (11, 6, 1) := ⟨_, rfl, by decide, mm_in (i := 147) (by decide +kernel) rfl⟩
theorem mm_ff_8_1 : mm_fok (mm_on 8) (15, 6, 2) := ⟨_, rfl, by decide, mm_in (i := 148) (by decide +kernel) rfl⟩
theorem mm_ff_8_2 : mm_fok (mm_on 8) (18, 6, 3) := ⟨_, rfl, by decide, mm_in (i := 149) (by decide +kernel) rfl⟩
theorem mm_ff_8_3 : mm_fok (mm_on 8) (22, 6, 4) := ⟨_, rfl, by decide, mm_in (i := 150) (by decide +kernel) rfl⟩
theorem mm_ff_8_4 : mm_fok (mm_on 8) (25, 6, 5) := ⟨_, rfl, by decide, mm_in (i := 151) (by decide +kernel) rfl⟩
theorem mm_ff_8_5 : mm_fok (mm_on 8) (28, 6, 0) := ⟨_, rfl, by decide, mm_in (i := 145) (by decide +kernel) rfl⟩
theorem mm_ff_9_0 : mm_fok (mm_on 9) (9, 7, 0) := ⟨_, rfl, by decide, mm_in (i := 323) (by decide +kernel) rfl⟩
theorem mm_ff_9_1 : mm_fok (mm_on 9) (15, 7, 8) := ⟨_, rfl, by decide, mm_in (i := 337) (by decide +kernel) rfl⟩
theorem mm_ff_9_2 : mm_fok (mm_on 9) (35, 7, 1) := ⟨_, rfl, by decide, mm_in (i := 324) (by decide +kernel) rfl⟩
theorem mm_ff_9_3 : mm_fok (mm_on 9) (38, 7, 7) := ⟨_, rfl, by decide, mm_in (i := 336) (by decide +kernel) rfl⟩
theorem mm_ff_9_4 : mm_fok (mm_on 9) (52, 7, 3) := ⟨_, rfl, by decide, mm_in (i := 329) (by decide +kernel) rfl⟩
theorem mm_ff_9_5 : mm_fok (mm_on 9) (55, 7, 2) := ⟨_, rfl, by decide, mm_in (i := 327) (by decide +kernel) rfl⟩
theorem mm_ff_9_6 : mm_fok (mm_on 9) (73, 7, 5) := ⟨_, rfl, by decide, mm_in (i := 332) (by decide +kernel) rfl⟩
theorem mm_ff_9_7 : mm_fok (mm_on 9) (77, 7, 6) := ⟨_, rfl, by decide, mm_in (i := 334) (by decide +kernel) rfl⟩
theorem mm_ff_9_8 : mm_fok (mm_on 9) (84, 7, 4) := ⟨_, rfl, by decide, mm_in (i := 330) (by decide +kernel) rfl⟩
theorem mm_ff_10_0 : mm_fok (mm_on 10) (12, 8, 1) := ⟨_, rfl, by decide, mm_in (i := 392) (by decide +kernel) rfl⟩
theorem mm_ff_10_1 : mm_fok (mm_on 10) (16, 8, 2) := ⟨_, rfl, by decide, mm_in (i := 393) (by decide +kernel) rfl⟩
theorem mm_ff_10_2 : mm_fok (mm_on 10) (23, 8, 3) := ⟨_, rfl, by decide, mm_in (i := 394) (by decide +kernel) rfl⟩
theorem mm_ff_10_3 : mm_fok (mm_on 10) (30, 8, 4) := ⟨_, rfl, by decide, mm_in (i := 395) (by decide +kernel) rfl⟩
theorem mm_ff_10_4 : mm_fok (mm_on 10) (37, 8, 5) := ⟨_, rfl, by decide, mm_in (i := 396) (by decide +kernel) rfl⟩
theorem mm_ff_10_5 : mm_fok (mm_on 10) (44, 8, 6) := ⟨_, rfl, by decide, mm_in (i := 397) (by decide +kernel) rfl⟩
theorem mm_ff_10_6 : mm_fok (mm_on 10) (51, 8, 7) := ⟨_, rfl, by decide, mm_in (i := 398) (by decide +kernel) rfl⟩
theorem mm_ff_10_7 : mm_fok (mm_on 10) (55, 8, 8) := ⟨_, rfl, by decide, mm_in (i := 399) (by decide +kernel) rfl⟩
theorem mm_ff_10_8 : mm_fok (mm_on 10) (63, 8, 0) := ⟨_, rfl, by decide, mm_in (i := 400) (by decide +kernel) rfl⟩
theorem mm_ff_10_9 : mm_fok (mm_on 10) (67, 4, 1) := ⟨_, rfl, by decide, mm_in (i := 180) (by decide +kernel) rfl⟩
theorem mm_ff_10_10 : mm_fok (mm_on 10) (75, 5, 0) := ⟨_, rfl, by decide, mm_in (i := 359) (by decide +kernel) rfl⟩
theorem mm_ff_10_11 : mm_fok (mm_on 10) (79, 7, 1) := ⟨_, rfl, by decide, mm_in (i := 325) (by decide +kernel) rfl⟩
theorem mm_ff_10_12 : mm_fok (mm_on 10) (92, 3, 1) := ⟨_, rfl, by decide, mm_in (i := 111) (by decide +kernel) rfl⟩
theorem mm_ff_10_13 : mm_fok (mm_on 10) (93, 6, 0) := ⟨_, rfl, by decide, mm_in (i := 146) (by decide +kernel) rfl⟩
theorem mm_ff_10_14 : mm_fok (mm_on 10) (99, 4, 0) := ⟨_, rfl, by decide, mm_in (i := 179) (by decide +kernel) rfl⟩
theorem mm_ff_10_15 : mm_fok (mm_on 10) (102, 5, 1) := ⟨_, rfl, by decide, mm_in (i := 361) (by decide +kernel) rfl⟩
theorem mm_ff_10_16 : mm_fok (mm_on 10) (105, 5, 2) := ⟨_, rfl, by decide, mm_in (i := 363) (by decide +kernel) rfl⟩
theorem mm_ff_10_17 : mm_fok (mm_on 10) (108, 4, 2) := ⟨_, rfl, by decide, mm_in (i := 185) (by decide +kernel) rfl⟩
theorem mm_ff_10_18 : mm_fok (mm_on 10) (122, 1, 6) := ⟨_, rfl, by decide, mm_in (i := 53) (by decide +kernel) rfl⟩
theorem mm_ff_10_19 : mm_fok (mm_on 10) (126, 1, 7) := ⟨_, rfl, by decide, mm_in (i := 56) (by decide +kernel) rfl⟩
theorem mm_ff_10_20 : mm_fok (mm_on 10) (129, 1, 5) := ⟨_, rfl, by decide, mm_in (i := 51) (by decide +kernel) rfl⟩
theorem mm_ff_10_21 : mm_fok (mm_on 10) (132, 1, 8) := ⟨_, rfl, by decide, mm_in (i := 59) (by decide +kernel) rfl⟩
theorem mm_ff_10_22 : mm_fok (mm_on 10) (169, 3, 0) := ⟨_, rfl, by decide, mm_in (i := 109) (by decide +kernel) rfl⟩
theorem mm_ff_10_23 : mm_fok (mm_on 10) (218, 3, 2) := ⟨_, rfl, by decide, mm_in (i := 113) (by decide +kernel) rfl⟩
theorem mm_ff_10_24 : mm_fok (mm_on 10) (221, 3, 3) := ⟨_, rfl, by decide, mm_in (i := 115) (by decide +kernel) rfl⟩
theorem mm_ff_10_25 : mm_fok (mm_on 10) (245, 4, 11) := ⟨_, rfl, by decide, mm_in (i := 207) (by decide +kernel) rfl⟩
theorem mm_ff_10_26 : mm_fok (mm_on 10) (252, 2, 1) := ⟨_, rfl, by decide, mm_in (i := 133) (by decide +kernel) rfl⟩
theorem mm_ff_10_27 : mm_fok (mm_on 10) (266, 4, 13) := ⟨_, rfl, by decide, mm_in (i := 210) (by decide +kernel) rfl⟩
theorem mm_ff_10_28 : mm_fok (mm_on 10) (269, 8, 9) := ⟨_, rfl, by decide, mm_in (i := 401) (by decide +kernel) rfl⟩
theorem mm_ff_10_29 : mm_fok (mm_on 10) (305, 1, 0) := ⟨_, rfl, by decide, mm_in (i := 37) (by decide +kernel) rfl⟩
theorem mm_ff_10_30 : mm_fok (mm_on 10) (309, 1, 2) := ⟨_, rfl, by decide, mm_in (i := 42) (by decide +kernel) rfl⟩
theorem mm_ff_10_31 : mm_fok (mm_on 10) (315, 4, 10) := ⟨_, rfl, by decide, mm_in (i := 203) (by decide +kernel) rfl⟩
theorem mm_ff_10_32 : mm_fok (mm_on 10) (318, 4, 9) := ⟨_, rfl, by decide, mm_in (i := 200) (by decide +kernel) rfl⟩
theorem mm_ff_10_33 : mm_fok (mm_on 10) (321, 1, 3) := ⟨_, rfl, by decide, mm_in (i := 45) (by decide +kernel) rfl⟩
theorem mm_ff_10_34 : mm_fok (mm_on 10) (324, 1, 4) := ⟨_, rfl, by decide, mm_in (i := 48) (by decide +kernel) rfl⟩
theorem mm_ff_11_0 : mm_fok (mm_on 11) (7, 9, 0) := ⟨_, rfl, by decide, mm_in (i := 1091) (by decide +kernel) rfl⟩
theorem mm_ff_11_1 : mm_fok (mm_on 11) (13, 9, 3) := ⟨_, rfl, by decide, mm_in (i := 1094) (by decide +kernel) rfl⟩
theorem mm_ff_11_2 : mm_fok (mm_on 11) (17, 9, 11) := ⟨_, rfl, by decide, mm_in (i := 1102) (by decide +kernel) rfl⟩
theorem mm_ff_11_3 : mm_fok (mm_on 11) (20, 9, 12) := ⟨_, rfl, by decide, mm_in (i := 1103) (by decide +kernel) rfl⟩
theorem mm_ff_11_4 : mm_fok (mm_on 11) (23, 9, 13) := ⟨_, rfl, by decide, mm_in (i := 1104) (by decide +kernel) rfl⟩
theorem mm_ff_11_5 : mm_fok (mm_on 11) (26, 9, 14) := ⟨_, rfl, by decide, mm_in (i := 1105) (by decide +kernel) rfl⟩
theorem mm_ff_11_6 : mm_fok (mm_on 11) (29, 9, 15) := ⟨_, rfl, by decide, mm_in (i := 1106) (by decide +kernel) rfl⟩
theorem mm_ff_11_7 : mm_fok (mm_on 11) (32, 9, 16) := ⟨_, rfl, by decide, mm_in (i := 1107) (by decide +kernel) rfl⟩
theorem mm_ff_11_8 : mm_fok (mm_on 11) (35, 9, 17) := ⟨_, rfl, by decide, mm_in (i := 1108) (by decide +kernel) rfl⟩
theorem mm_ff_11_9 : mm_fok (mm_on 11) (38, 9, 24) := ⟨_, rfl, by decide, mm_in (i := 1115) (by decide +kernel) rfl⟩
theorem mm_ff_11_10 : mm_fok (mm_on 11) (41, 9, 25) := ⟨_, rfl, by decide, mm_in (i := 1116) (by decide +kernel) rfl⟩
theorem mm_ff_11_11 : mm_fok (mm_on 11) (44, 9, 26) := ⟨_, rfl, by decide, mm_in (i := 1117) (by decide +kernel) rfl⟩
theorem mm_ff_11_12 : mm_fok (mm_on 11) (47, 9, 27) := ⟨_, rfl, by decide, mm_in (i := 1118) (by decide +kernel) rfl⟩
theorem mm_ff_11_13 : mm_fok (mm_on 11) (50, 9, 28) := ⟨_, rfl, by decide, mm_in (i := 1119) (by decide +kernel) rfl⟩
theorem mm_ff_11_14 : mm_fok (mm_on 11) (53, 9, 29) := ⟨_, rfl, by decide, mm_in (i := 1120) (by decide +kernel) rfl⟩
theorem mm_ff_11_15 : mm_fok (mm_on 11) (56, 9, 30) := ⟨_, rfl, by decide, mm_in (i := 1121) (by decide +kernel) rfl⟩
theorem mm_ff_11_16 : mm_fok (mm_on 11) (59, 9, 31) := ⟨_, rfl, by decide, mm_in (i := 1122) (by decide +kernel) rfl⟩
theorem mm_ff_11_17 : mm_fok (mm_on 11) (62, 9, 32) := ⟨_, rfl, by decide, mm_in (i := 1123) (by decide +kernel) rfl⟩
theorem mm_ff_11_18 : mm_fok (mm_on 11) (65, 9, 33) := ⟨_, rfl, by decide, mm_in (i := 1124) (by decide +kernel) rfl⟩
theorem mm_ff_11_19 : mm_fok (mm_on 11) (68, 9, 34) := ⟨_, rfl, by decide, mm_in (i := 1125) (by decide +kernel) rfl⟩
theorem mm_ff_11_20 : mm_fok (mm_on 11) (71, 9, 35) := ⟨_, rfl, by decide, mm_in (i := 1126) (by decide +kernel) rfl⟩
theorem mm_ff_11_21 : mm_fok (mm_on 11) (75, 9, 36) := ⟨_, rfl, by decide, mm_in (i := 1127) (by decide +kernel) rfl⟩
theorem mm_ff_11_22 : mm_fok (mm_on 11) (79, 9, 54) := ⟨_, rfl, by decide, mm_in (i := 1145) (by decide +kernel) rfl⟩
theorem mm_ff_11_23 : mm_fok (mm_on 11) (82, 9, 55) := ⟨_, rfl, by decide, mm_in (i := 1146) (by decide +kernel) rfl⟩
theorem mm_ff_11_24 : mm_fok (mm_on 11) (85, 9, 56) := ⟨_, rfl, by decide, mm_in (i := 1147) (by decide +kernel) rfl⟩
theorem mm_ff_11_25 : mm_fok (mm_on 11) (88, 9, 57) := ⟨_, rfl, by decide, mm_in (i := 1148) (by decide +kernel) rfl⟩
theorem mm_ff_11_26 : mm_fok (mm_on 11) (91, 9, 58) := ⟨_, rfl, by decide, mm_in (i := 1149) (by decide +kernel) rfl⟩
theorem mm_ff_11_27 : mm_fok (mm_on 11) (94, 9, 65) := ⟨_, rfl, by decide, mm_in (i := 1156) (by decide +kernel) rfl⟩
theorem mm_ff_11_28 : mm_fok (mm_on 11) (97, 9, 66) := ⟨_, rfl, by decide, mm_in (i := 1157) (by decide +kernel) rfl⟩
theorem mm_ff_11_29 : mm_fok (mm_on 11) (100, 9, 67) := ⟨_, rfl, by decide, mm_in (i := 1158) (by decide +kernel) rfl⟩
theorem mm_ff_11_30 : mm_fok (mm_on 11) (103, 9, 68) := ⟨_, rfl, by decide, mm_in (i := 1159) (by decide +kernel) rfl⟩
theorem mm_ff_11_31 : mm_fok (mm_on 11) (106, 9, 69) := ⟨_, rfl, by decide, mm_in (i := 1160) (by decide +kernel) rfl⟩
theorem mm_ff_11_32 : mm_fok (mm_on 11) (109, 9, 79) := ⟨_, rfl, by decide, mm_in (i := 1170) (by decide +kernel) rfl⟩
theorem mm_ff_11_33 : mm_fok (mm_on 11) (112, 9, 81) := ⟨_, rfl, by decide, mm_in (i := 1172) (by decide +kernel) rfl⟩
theorem mm_ff_11_34 : mm_fok (mm_on 11) (115, 9, 82) := ⟨_, rfl, by decide, mm_in (i := 1173) (by decide +kernel) rfl⟩
theorem mm_ff_11_35 : mm_fok (mm_on 11) (118, 9, 83) := ⟨_, rfl, by decide, mm_in (i := 1174) (by decide +kernel) rfl⟩
theorem mm_ff_11_36 : mm_fok (mm_on 11) (121, 9, 84) := ⟨_, rfl, by decide, mm_in (i := 1175) (by decide +kernel) rfl⟩
theorem mm_ff_11_37 : mm_fok (mm_on 11) (124, 9, 85) := ⟨_, rfl, by decide, mm_in (i := 1176) (by decide +kernel) rfl⟩
theorem mm_ff_11_38 : mm_fok (mm_on 11) (127, 9, 86) := ⟨_, rfl, by decide, mm_in (i := 1177) (by decide +kernel) rfl⟩
theorem mm_ff_11_39 : mm_fok (mm_on 11) (130, 9, 87) := ⟨_, rfl, by decide, mm_in (i := 1178) (by decide +kernel) rfl⟩
theorem mm_ff_11_40 : mm_fok (mm_on 11) (133, 9, 90) := ⟨_, rfl, by decide, mm_in (i := 1181) (by decide +kernel) rfl⟩
theorem mm_ff_11_41 : mm_fok (mm_on 11) (136, 9, 91) := ⟨_, rfl, by decide, mm_in (i := 1182) (by decide +kernel) rfl⟩
theorem mm_ff_11_42 : mm_fok (mm_on 11) (139, 9, 92) := ⟨_, rfl, by decide, mm_in (i := 1183) (by decide +kernel) rfl⟩
theorem mm_ff_11_43 : mm_fok (mm_on 11) (142, 9, 93) := ⟨_, rfl, by decide, mm_in (i := 1184) (by decide +kernel) rfl⟩
theorem mm_ff_11_44 : mm_fok (mm_on 11) (145, 9, 94) := ⟨_, rfl, by decide, mm_in (i := 1185) (by decide +kernel) rfl⟩
theorem mm_ff_11_45 : mm_fok (mm_on 11) (148, 9, 95) := ⟨_, rfl, by decide, mm_in (i := 1186) (by decide +kernel) rfl⟩
theorem mm_ff_11_46 : mm_fok (mm_on 11) (151, 9, 96) := ⟨_, rfl, by decide, mm_in (i := 1187) (by decide +kernel) rfl⟩
theorem mm_ff_11_47 : mm_fok (mm_on 11) (154, 9, 97) := ⟨_, rfl, by decide, mm_in (i := 1188) (by decide +kernel) rfl⟩
theorem mm_ff_11_48 : mm_fok (mm_on 11) (157, 9, 98) := ⟨_, rfl, by decide, mm_in (i := 1189) (by decide +kernel) rfl⟩
theorem mm_ff_11_49 : mm_fok (mm_on 11) (160, 9, 47) := ⟨_, rfl, by decide, mm_in (i := 1138) (by decide +kernel) rfl⟩
theorem mm_ff_11_50 : mm_fok (mm_on 11) (163, 9, 49) := ⟨_, rfl, by decide, mm_in (i := 1140) (by decide +kernel) rfl⟩
theorem mm_ff_11_51 : mm_fok (mm_on 11) (166, 9, 52) := ⟨_, rfl, by decide, mm_in (i := 1143) (by decide +kernel) rfl⟩
theorem mm_ff_11_52 : mm_fok (mm_on 11) (173, 9, 1) := ⟨_, rfl, by decide, mm_in (i := 1092) (by decide +kernel) rfl⟩
theorem mm_ff_11_53 : mm_fok (mm_on 11) (179, 9, 4) := ⟨_, rfl, by decide, mm_in (i := 1095) (by decide +kernel) rfl⟩
theorem mm_ff_11_54 : mm_fok (mm_on 11) (182, 9, 5) := ⟨_, rfl, by decide, mm_in (i := 1096) (by decide +kernel) rfl⟩
theorem mm_ff_11_55 : mm_fok (mm_on 11) (189, 9, 7) := ⟨_, rfl, by decide, mm_in (i := 1098) (by decide +kernel) rfl⟩
theorem mm_ff_11_56 : mm_fok (mm_on 11) (192, 9, 9) := ⟨_, rfl, by decide, mm_in (i := 1100) (by decide +kernel) rfl⟩
theorem mm_ff_11_57 : mm_fok (mm_on 11) (196, 9, 8) := ⟨_, rfl, by decide, mm_in (i := 1099) (by decide +kernel) rfl⟩
theorem mm_ff_11_58 : mm_fok (mm_on 11) (199, 9, 6) := ⟨_, rfl, by decide, mm_in (i := 1097) (by decide +kernel) rfl⟩
theorem mm_ff_11_59 : mm_fok (mm_on 11) (206, 9, 10) := ⟨_, rfl, by decide, mm_in (i := 1101) (by decide +kernel) rfl⟩
theorem mm_ff_11_60 : mm_fok (mm_on 11) (215, 9, 2) := ⟨_, rfl, by decide, mm_in (i := 1093) (by decide +kernel) rfl⟩
theorem mm_ff_11_61 : mm_fok (mm_on 11) (280, 9, 18) := ⟨_, rfl, by decide, mm_in (i := 1109) (by decide +kernel) rfl⟩
theorem mm_ff_11_62 : mm_fok (mm_on 11) (283, 9, 22) := ⟨_, rfl, by decide, mm_in (i := 1113) (by decide +kernel) rfl⟩
theorem mm_ff_11_63 : mm_fok (mm_on 11) (286, 9, 23) := ⟨_, rfl, by decide, mm_in (i := 1114) (by decide +kernel) rfl⟩
theorem mm_ff_11_64 : mm_fok (mm_on 11) (306, 9, 19) := ⟨_, rfl, by decide, mm_in (i := 1110) (by decide +kernel) rfl⟩
theorem mm_ff_11_65 : mm_fok (mm_on 11) (332, 9, 37) := ⟨_, rfl, by decide, mm_in (i := 1128) (by decide +kernel) rfl⟩
theorem mm_ff_11_66 : mm_fok (mm_on 11) (338, 9, 40) := ⟨_, rfl, by decide, mm_in (i := 1131) (by decide +kernel) rfl⟩
theorem mm_ff_11_67 : mm_fok (mm_on 11) (341, 9, 41) := ⟨_, rfl, by decide, mm_in (i := 1132) (by decide +kernel) rfl⟩
theorem mm_ff_11_68 : mm_fok (mm_on 11) (344, 9, 38) := ⟨_, rfl, by decide, mm_in (i := 1129) (by decide +kernel) rfl⟩
theorem mm_ff_11_69 : mm_fok (mm_on 11) (347, 9, 39) := ⟨_, rfl, by decide, mm_in (i := 1130) (by decide +kernel) rfl⟩
theorem mm_ff_11_70 : mm_fok (mm_on 11) (378, 9, 48) := ⟨_, rfl, by decide, mm_in (i := 1139) (by decide +kernel) rfl⟩
theorem mm_ff_11_71 : mm_fok (mm_on 11) (381, 9, 50) := ⟨_, rfl, by decide, mm_in (i := 1141) (by decide +kernel) rfl⟩
theorem mm_ff_11_72 : mm_fok (mm_on 11) (384, 9, 51) := ⟨_, rfl, by decide, mm_in (i := 1142) (by decide +kernel) rfl⟩
theorem mm_ff_11_73 : mm_fok (mm_on 11) (387, 9, 53) := ⟨_, rfl, by decide, mm_in (i := 1144) (by decide +kernel) rfl⟩
theorem mm_ff_11_74 : mm_fok (mm_on 11) (391, 9, 20) := ⟨_, rfl, by decide, mm_in (i := 1111) (by decide +kernel) rfl⟩
theorem mm_ff_11_75 : mm_fok (mm_on 11) (394, 9, 42) := ⟨_, rfl, by decide, mm_in (i := 1133) (by decide +kernel) rfl⟩
theorem mm_ff_11_76 : mm_fok (mm_on 11) (397, 9, 43) := ⟨_, rfl, by decide, mm_in (i := 1134) (by decide +kernel) rfl⟩
theorem mm_ff_11_77 : mm_fok (mm_on 11) (400, 9, 44) := ⟨_, rfl, by decide, mm_in (i := 1135) (by decide +kernel) rfl⟩
theorem mm_ff_11_78 : mm_fok (mm_on 11) (403, 9, 45) := ⟨_, rfl, by decide, mm_in (i := 1136) (by decide +kernel) rfl⟩
theorem mm_ff_11_79 : mm_fok (mm_on 11) (406, 9, 46) := ⟨_, rfl, by decide, mm_in (i := 1137) (by decide +kernel) rfl⟩
theorem mm_ff_11_80 : mm_fok (mm_on 11) (409, 9, 21) := ⟨_, rfl, by decide, mm_in (i := 1112) (by decide +kernel) rfl⟩
theorem mm_ff_11_81 : mm_fok (mm_on 11) (412, 9, 88) := ⟨_, rfl, by decide, mm_in (i := 1179) (by decide +kernel) rfl⟩
theorem mm_ff_11_82 : mm_fok (mm_on 11) (415, 9, 80) := ⟨_, rfl, by decide, mm_in (i := 1171) (by decide +kernel) rfl⟩
theorem mm_ff_11_83 : mm_fok (mm_on 11) (418, 9, 59) := ⟨_, rfl, by decide, mm_in (i := 1150) (by decide +kernel) rfl⟩
theorem mm_ff_11_84 : mm_fok (mm_on 11) (421, 9, 60) := ⟨_, rfl, by decide, mm_in (i := 1151) (by decide +kernel) rfl⟩
theorem mm_ff_11_85 : mm_fok (mm_on 11) (424, 9, 61) := ⟨_, rfl, by decide, mm_in (i := 1152) (by decide +kernel) rfl⟩
theorem mm_ff_11_86 : mm_fok (mm_on 11) (427, 9, 62) := ⟨_, rfl, by decide, mm_in (i := 1153) (by decide +kernel) rfl⟩
theorem mm_ff_11_87 : mm_fok (mm_on 11) (430, 9, 64) := ⟨_, rfl, by decide, mm_in (i := 1155) (by decide +kernel) rfl⟩
theorem mm_ff_11_88 : mm_fok (mm_on 11) (433, 9, 63) := ⟨_, rfl, by decide, mm_in (i := 1154) (by decide +kernel) rfl⟩
theorem mm_ff_11_89 : mm_fok (mm_on 11) (436, 9, 78) := ⟨_, rfl, by decide, mm_in (i := 1169) (by decide +kernel) rfl⟩
theorem mm_ff_11_90 : mm_fok (mm_on 11) (439, 9, 76) := ⟨_, rfl, by decide, mm_in (i := 1167) (by decide +kernel) rfl⟩
theorem mm_ff_11_91 : mm_fok (mm_on 11) (442, 9, 77) := ⟨_, rfl, by decide, mm_in (i := 1168) (by decide +kernel) rfl⟩
theorem mm_ff_11_92 : mm_fok (mm_on 11) (445, 9, 70) := ⟨_, rfl, by decide, mm_in (i := 1161) (by decide +kernel) rfl⟩
theorem mm_ff_11_93 : mm_fok (mm_on 11) (448, 9, 71) := ⟨_, rfl, by decide, mm_in (i := 1162) (by decide +kernel) rfl⟩
theorem mm_ff_11_94 : mm_fok (mm_on 11) (451, 9, 72) := ⟨_, rfl, by decide, mm_in (i := 1163) (by decide +kernel) rfl⟩
theorem mm_ff_11_95 : mm_fok (mm_on 11) (454, 9, 73) := ⟨_, rfl, by decide, mm_in (i := 1164) (by decide +kernel) rfl⟩
theorem mm_ff_11_96 : mm_fok (mm_on 11) (457, 9, 75) := ⟨_, rfl, by decide, mm_in (i := 1166) (by decide +kernel) rfl⟩
theorem mm_ff_11_97 : mm_fok (mm_on 11) (460, 9, 74) := ⟨_, rfl, by decide, mm_in (i := 1165) (by decide +kernel) rfl⟩
theorem mm_ff_11_98 : mm_fok (mm_on 11) (577, 9, 89) := ⟨_, rfl, by decide, mm_in (i := 1180) (by decide +kernel) rfl⟩
theorem mm_ff_all : ∀ (ow : Nat), ∀ q ∈ mm_ft ow, mm_fok (mm_on ow) q := by
  intro ow
  match ow with
  | 0 => exact List.forall_mem_cons.mpr ⟨mm_ff_0_0, List.forall_mem_cons.mpr ⟨mm_ff_0_1, List.forall_mem_cons.mpr ⟨mm_ff_0_2, List.forall_mem_cons.mpr ⟨mm_ff_0_3, List.forall_mem_cons.mpr ⟨mm_ff_0_4, List.forall_mem_cons.mpr ⟨mm_ff_0_5, List.forall_mem_cons.mpr ⟨mm_ff_0_6, List.forall_mem_cons.mpr ⟨mm_ff_0_7, List.forall_mem_cons.mpr ⟨mm_ff_0_8, List.forall_mem_cons.mpr ⟨mm_ff_0_9, List.forall_mem_cons.mpr ⟨mm_ff_0_10, fun _ h => absurd h List.not_mem_nil⟩⟩⟩⟩⟩⟩⟩⟩⟩⟩⟩
  | 1 => exact List.forall_mem_cons.mpr ⟨mm_ff_1_0, List.forall_mem_cons.mpr ⟨mm_ff_1_1, List.forall_mem_cons.mpr ⟨mm_ff_1_2, List.forall_mem_cons.mpr ⟨mm_ff_1_3, List.forall_mem_cons.mpr ⟨mm_ff_1_4, List.forall_mem_cons.mpr ⟨mm_ff_1_5, List.forall_mem_cons.mpr ⟨mm_ff_1_6, List.forall_mem_cons.mpr ⟨mm_ff_1_7, List.forall_mem_cons.mpr ⟨mm_ff_1_8, List.forall_mem_cons.mpr ⟨mm_ff_1_9, List.forall_mem_cons.mpr ⟨mm_ff_1_10, List.forall_mem_cons.mpr ⟨mm_ff_1_11, List.forall_mem_cons.mpr ⟨mm_ff_1_12, fun _ h => absurd h List.not_mem_nil⟩⟩⟩⟩⟩⟩⟩⟩⟩⟩⟩⟩⟩
  | 2 => exact List.forall_mem_cons.mpr ⟨mm_ff_2_0, List.forall_mem_cons.mpr ⟨mm_ff_2_1, List.forall_mem_cons.mpr ⟨mm_ff_2_2, List.forall_mem_cons.mpr ⟨mm_ff_2_3, List.forall_mem_cons.mpr ⟨mm_ff_2_4, fun _ h => absurd h List.not_mem_nil⟩⟩⟩⟩⟩
  | 3 => exact List.forall_mem_cons.mpr ⟨mm_ff_3_0, List.forall_mem_cons.mpr ⟨mm_ff_3_1, List.forall_mem_cons.mpr ⟨mm_ff_3_2, List.forall_mem_cons.mpr ⟨mm_ff_3_3, List.forall_mem_cons.mpr ⟨mm_ff_3_4, List.forall_mem_cons.mpr ⟨mm_ff_3_5, fun _ h => absurd h List.not_mem_nil⟩⟩⟩⟩⟩⟩
  | 5 => exact List.forall_mem_cons.mpr ⟨mm_ff_5_0, List.forall_mem_cons.mpr ⟨mm_ff_5_1, List.forall_mem_cons.mpr ⟨mm_ff_5_2, List.forall_mem_cons.mpr ⟨mm_ff_5_3, List.forall_mem_cons.mpr ⟨mm_ff_5_4, List.forall_mem_cons.mpr ⟨mm_ff_5_5, List.forall_mem_cons.mpr ⟨mm_ff_5_6, List.forall_mem_cons.mpr ⟨mm_ff_5_7, List.forall_mem_cons.mpr ⟨mm_ff_5_8, List.forall_mem_cons.mpr ⟨mm_ff_5_9, List.forall_mem_cons.mpr ⟨mm_ff_5_10, List.forall_mem_cons.mpr ⟨mm_ff_5_11, List.forall_mem_cons.mpr ⟨mm_ff_5_12, List.forall_mem_cons.mpr ⟨mm_ff_5_13, List.forall_mem_cons.mpr ⟨mm_ff_5_14, List.forall_mem_cons.mpr ⟨mm_ff_5_15, List.forall_mem_cons.mpr ⟨mm_ff_5_16, List.forall_mem_cons.mpr ⟨mm_ff_5_17, List.forall_mem_cons.mpr ⟨mm_ff_5_18, fun _ h => absurd h List.not_mem_nil⟩⟩⟩⟩⟩⟩⟩⟩⟩⟩⟩⟩⟩⟩⟩⟩⟩⟩⟩
  | 7 => exact List.forall_mem_cons.mpr ⟨mm_ff_7_0, List.forall_mem_cons.mpr ⟨mm_ff_7_1, List.forall_mem_cons.mpr ⟨mm_ff_7_2, List.forall_mem_cons.mpr ⟨mm_ff_7_3, List.forall_mem_cons.mpr ⟨mm_ff_7_4, List.forall_mem_cons.mpr ⟨mm_ff_7_5, List.forall_mem_cons.mpr ⟨mm_ff_7_6, List.forall_mem_cons.mpr ⟨mm_ff_7_7, List.forall_mem_cons.mpr ⟨mm_ff_7_8, List.forall_mem_cons.mpr ⟨mm_ff_7_9, List.forall_mem_cons.mpr ⟨mm_ff_7_10, List.forall_mem_cons.mpr ⟨mm_ff_7_11, List.forall_mem_cons.mpr ⟨mm_ff_7_12, List.forall_mem_cons.mpr ⟨mm_ff_7_13, List.forall_mem_cons.mpr ⟨mm_ff_7_14, List.forall_mem_cons.mpr ⟨mm_ff_7_15, List.forall_mem_cons.mpr ⟨mm_ff_7_16, fun _ h => absurd h List.not_mem_nil⟩⟩⟩⟩⟩⟩⟩⟩⟩⟩⟩⟩⟩⟩⟩⟩⟩
  | 8 => exact List.forall_mem_cons.mpr ⟨mm_ff_8_0, List.forall_mem_cons.mpr ⟨mm_ff_8_1, List.forall_mem_cons.mpr ⟨mm_ff_8_2, List.forall_mem_cons.mpr ⟨mm_ff_8_3, List.forall_mem_cons.mpr ⟨mm_ff_8_4, List.forall_mem_cons.mpr ⟨mm_ff_8_5, fun _ h => absurd h List.not_mem_nil⟩⟩⟩⟩⟩⟩
  | 9 => exact List.forall_mem_cons.mpr ⟨mm_ff_9_0, List.forall_mem_cons.mpr ⟨mm_ff_9_1, List.forall_mem_cons.mpr ⟨mm_ff_9_2, List.forall_mem_cons.mpr ⟨mm_ff_9_3, List.forall_mem_cons.mpr ⟨mm_ff_9_4, List.forall_mem_cons.mpr ⟨mm_ff_9_5, List.forall_mem_cons.mpr ⟨mm_ff_9_6, List.forall_mem_cons.mpr ⟨mm_ff_9_7, List.forall_mem_cons.mpr ⟨mm_ff_9_8, fun _ h => absurd h List.not_mem_nil⟩⟩⟩⟩⟩⟩⟩⟩⟩
  | 10 => exact List.forall_mem_cons.mpr ⟨mm_ff_10_0, List.forall_mem_cons.mpr ⟨mm_ff_10_1, List.forall_mem_cons.mpr ⟨mm_ff_10_2, List.forall_mem_cons.mpr ⟨mm_ff_10_3, List.forall_mem_cons.mpr ⟨mm_ff_10_4, List.forall_mem_cons.mpr ⟨mm_ff_10_5, List.forall_mem_cons.mpr ⟨mm_ff_10_6, List.forall_mem_cons.mpr ⟨mm_ff_10_7, List.forall_mem_cons.mpr ⟨mm_ff_10_8, List.forall_mem_cons.mpr ⟨mm_ff_10_9, List.forall_mem_cons.mpr ⟨mm_ff_10_10, List.forall_mem_cons.mpr ⟨mm_ff_10_11, List.forall_mem_cons.mpr ⟨mm_ff_10_12, List.forall_mem_cons.mpr ⟨mm_ff_10_13, List.forall_mem_cons.mpr ⟨mm_ff_10_14, List.forall_mem_cons.mpr ⟨mm_ff_10_15, List.forall_mem_cons.mpr ⟨mm_ff_10_16, List.forall_mem_cons.mpr ⟨mm_ff_10_17, List.forall_mem_cons.mpr ⟨mm_ff_10_18, List.forall_mem_cons.mpr ⟨mm_ff_10_19, List.forall_mem_cons.mpr ⟨mm_ff_10_20, List.forall_mem_cons.mpr ⟨mm_ff_10_21, List.forall_mem_cons.mpr ⟨mm_ff_10_22, List.forall_mem_cons.mpr ⟨mm_ff_10_23, List.forall_mem_cons.mpr ⟨mm_ff_10_24, List.forall_mem_cons.mpr ⟨mm_ff_10_25, List.forall_mem_cons.mpr ⟨mm_ff_10_26, List.forall_mem_cons.mpr ⟨mm_ff_10_27, List.forall_mem_cons.mpr ⟨mm_ff_10_28, List.forall_mem_cons.mpr ⟨mm_ff_10_29, List.forall_mem_cons.mpr ⟨mm_ff_10_30, List.forall_mem_cons.mpr ⟨mm_ff_10_31, List.forall_mem_cons.mpr ⟨mm_ff_10_32, List.forall_mem_cons.mpr ⟨mm_ff_10_33, List.forall_mem_cons.mpr ⟨mm_ff_10_34, fun _ h => absurd h List.not_mem_nil⟩⟩⟩⟩⟩⟩⟩⟩⟩⟩⟩⟩⟩⟩⟩⟩⟩⟩⟩⟩⟩⟩⟩⟩⟩⟩⟩⟩⟩⟩⟩⟩⟩⟩⟩
  | 11 => exact List.forall_mem_cons.mpr ⟨mm_ff_11_0, List.forall_mem_cons.mpr ⟨mm_ff_11_1, List.forall_mem_cons.mpr ⟨mm_ff_11_2, List.forall_mem_cons.mpr ⟨mm_ff_11_3, List.forall_mem_cons.mpr ⟨mm_ff_11_4, List.forall_mem_cons.mpr ⟨mm_ff_11_5, List.forall_mem_cons.mpr ⟨mm_ff_11_6, List.forall_mem_cons.mpr ⟨mm_ff_11_7, List.forall_mem_cons.mpr ⟨mm_ff_11_8, List.forall_mem_cons.mpr ⟨mm_ff_11_9, List.forall_mem_cons.mpr ⟨mm_ff_11_10, List.forall_mem_cons.mpr ⟨mm_ff_11_11, List.forall_mem_cons.mpr ⟨mm_ff_11_12, List.forall_mem_cons.mpr ⟨mm_ff_11_13, List.forall_mem_cons.mpr ⟨mm_ff_11_14, List.forall_mem_cons.mpr ⟨mm_ff_11_15, List.forall_mem_cons.mpr ⟨mm_ff_11_16, List.forall_mem_cons.mpr ⟨mm_ff_11_17, List.forall_mem_cons.mpr ⟨mm_ff_11_18, List.forall_mem_cons.mpr ⟨mm_ff_11_19, List.forall_mem_cons.mpr ⟨mm_ff_11_20, List.forall_mem_cons.mpr ⟨mm_ff_11_21, List.forall_mem_cons.mpr ⟨mm_ff_11_22, List.forall_mem_cons.mpr ⟨mm_ff_11_23, List.forall_mem_cons.mpr ⟨mm_ff_11_24, List.forall_mem_cons.mpr ⟨mm_ff_11_25, List.forall_mem_cons.mpr ⟨mm_ff_11_26, List.forall_mem_cons.mpr ⟨mm_ff_11_27, List.forall_mem_cons.mpr ⟨mm_ff_11_28, List.forall_mem_cons.mpr ⟨mm_ff_11_29, List.forall_mem_cons.mpr ⟨mm_ff_11_30, List.forall_mem_cons.mpr ⟨mm_ff_11_31, List.forall_mem_cons.mpr ⟨mm_ff_11_32, List.forall_mem_cons.mpr ⟨mm_ff_11_33, List.forall_mem_cons.mpr ⟨mm_ff_11_34, List.forall_mem_cons.mpr ⟨mm_ff_11_35, List.forall_mem_cons.mpr ⟨mm_ff_11_36, List.forall_mem_cons.mpr ⟨mm_ff_11_37, List.forall_mem_cons.mpr ⟨mm_ff_11_38, List.forall_mem_cons.mpr ⟨mm_ff_11_39, List.forall_mem_cons.mpr ⟨mm_ff_11_40, List.forall_mem_cons.mpr ⟨mm_ff_11_41, List.forall_mem_cons.mpr ⟨mm_ff_11_42, List.forall_mem_cons.mpr ⟨mm_ff_11_43, List.forall_mem_cons.mpr ⟨mm_ff_11_44, List.forall_mem_cons.mpr ⟨mm_ff_11_45, List.forall_mem_cons.mpr ⟨mm_ff_11_46, List.forall_mem_cons.mpr ⟨mm_ff_11_47, List.forall_mem_cons.mpr ⟨mm_ff_11_48, List.forall_mem_cons.mpr ⟨mm_ff_11_49, List.forall_mem_cons.mpr ⟨mm_ff_11_50, List.forall_mem_cons.mpr ⟨mm_ff_11_51, List.forall_mem_cons.mpr ⟨mm_ff_11_52, List.forall_mem_cons.mpr ⟨mm_ff_11_53, List.forall_mem_cons.mpr ⟨mm_ff_11_54, List.forall_mem_cons.mpr ⟨mm_ff_11_55, List.forall_mem_cons.mpr ⟨mm_ff_11_56, List.forall_mem_cons.mpr ⟨mm_ff_11_57, List.forall_mem_cons.mpr ⟨mm_ff_11_58, List.forall_mem_cons.mpr ⟨mm_ff_11_59, List.forall_mem_cons.mpr ⟨mm_ff_11_60, List.forall_mem_cons.mpr ⟨mm_ff_11_61, List.forall_mem_cons.mpr ⟨mm_ff_11_62, List.forall_mem_cons.mpr ⟨mm_ff_11_63, List.forall_mem_cons.mpr ⟨mm_ff_11_64, List.forall_mem_cons.mpr ⟨mm_ff_11_65, List.forall_mem_cons.mpr ⟨mm_ff_11_66, List.forall_mem_cons.mpr ⟨mm_ff_11_67, List.forall_mem_cons.mpr ⟨mm_ff_11_68, List.forall_mem_cons.mpr ⟨mm_ff_11_69, List.forall_mem_cons.mpr ⟨mm_ff_11_70, List.forall_mem_cons.mpr ⟨mm_ff_11_71, List.forall_mem_cons.mpr ⟨mm_ff_11_72, List.forall_mem_cons.mpr ⟨mm_ff_11_73, List.forall_mem_cons.mpr ⟨mm_ff_11_74, List.forall_mem_cons.mpr ⟨mm_ff_11_75, List.forall_mem_cons.mpr ⟨mm_ff_11_76, List.forall_mem_cons.mpr ⟨mm_ff_11_77, List.forall_mem_cons.mpr ⟨mm_ff_11_78, List.forall_mem_cons.mpr ⟨mm_ff_11_79, List.forall_mem_cons.mpr ⟨mm_ff_11_80, List.forall_mem_cons.mpr ⟨mm_ff_11_81, List.forall_mem_cons.mpr ⟨mm_ff_11_82, List.forall_mem_cons.mpr ⟨mm_ff_11_83, List.forall_mem_cons.mpr ⟨mm_ff_11_84, List.forall_mem_cons.mpr ⟨mm_ff_11_85, List.forall_mem_cons.mpr ⟨mm_ff_11_86, List.forall_mem_cons.mpr ⟨mm_ff_11_87, List.forall_mem_cons.mpr ⟨mm_ff_11_88, List.forall_mem_cons.mpr ⟨mm_ff_11_89, List.forall_mem_cons.mpr ⟨mm_ff_11_90, List.forall_mem_cons.mpr ⟨mm_ff_11_91, List.forall_mem_cons.mpr ⟨mm_ff_11_92, List.forall_mem_cons.mpr ⟨mm_ff_11_93, List.forall_mem_cons.mpr ⟨mm_ff_11_94, List.forall_mem_cons.mpr ⟨mm_ff_11_95, List.forall_mem_cons.mpr ⟨mm_ff_11_96, List.forall_mem_cons.mpr ⟨mm_ff_11_97, List.forall_mem_cons.mpr ⟨mm_ff_11_98, fun _ h => absurd h List.not_mem_nil⟩⟩⟩⟩⟩⟩⟩⟩⟩⟩⟩⟩⟩⟩⟩⟩⟩⟩⟩⟩⟩⟩⟩⟩⟩⟩⟩⟩⟩⟩⟩⟩⟩⟩⟩⟩⟩⟩⟩⟩⟩⟩⟩⟩⟩⟩⟩⟩⟩⟩⟩⟩⟩⟩⟩⟩⟩⟩⟩⟩⟩⟩⟩⟩⟩⟩⟩⟩⟩⟩⟩⟩⟩⟩⟩⟩⟩⟩⟩⟩⟩⟩⟩⟩⟩⟩⟩⟩⟩⟩⟩⟩⟩⟩⟩⟩⟩⟩⟩
  | 4 => exact fun _ h => absurd h List.not_mem_nil
  | 6 => exact fun _ h => absurd h List.not_mem_nil
  | 12 => exact fun _ h => absurd h List.not_mem_nil
  | 13 => exact fun _ h => absurd h List.not_mem_nil
  | 14 => exact fun _ h => absurd h List.not_mem_nil
  | 15 => exact fun _ h => absurd h List.not_mem_nil
  | 16 => exact fun _ h => absurd h List.not_mem_nil
  | n + 17 => exact fun _ h => absurd h List.not_mem_nil
theorem mm_fl_3_0 : mm_lok (mm_on 3) (72, 0, 2147483647) := Or.inl ⟨rfl, mm_in (i := 912) (by decide +kernel) rfl⟩
theorem mm_fl_4_0 : mm_lok (mm_on 4) (11, 0, 1000000) := Or.inl ⟨rfl, mm_in (i := 838) (by decide +kernel) rfl⟩
theorem mm_fl_9_0 : mm_lok (mm_on 9) (19, 1, 0) := Or.inr ⟨rfl, rfl, rfl⟩
theorem mm_fl_10_0 : mm_lok (mm_on 10) (279, 0, 100000) := Or.inl ⟨rfl, mm_in (i := 1018) (by decide +kernel) rfl⟩
theorem mm_fl_11_0 : mm_lok (mm_on 11) (580, 0, 100000) := Or.inl ⟨rfl, mm_in (i := 1794) (by decide +kernel) rfl⟩
theorem mm_fl_12_0 : mm_lok (mm_on 12) (264, 0, 65536) := Or.inl ⟨rfl, mm_in (i := 671) (by decide +kernel) rfl⟩
theorem mm_fl_all : ∀ (ow : Nat), ∀ q ∈ mm_lt ow, mm_lok (mm_on ow) q := by
  intro ow
  match ow with
  | 3 => exact List.forall_mem_cons.mpr ⟨mm_fl_3_0, fun _ h => absurd h List.not_mem_nil⟩
  | 4 => exact List.forall_mem_cons.mpr ⟨mm_fl_4_0, fun _ h => absurd h List.not_mem_nil⟩
  | 9 => exact List.forall_mem_cons.mpr ⟨mm_fl_9_0, fun _ h => absurd h List.not_mem_nil⟩
  | 10 => exact List.forall_mem_cons.mpr ⟨mm_fl_10_0, fun _ h => absurd h List.not_mem_nil⟩
  | 11 => exact List.forall_mem_cons.mpr ⟨mm_fl_11_0, fun _ h => absurd h List.not_mem_nil⟩
  | 12 => exact List.forall_mem_cons.mpr ⟨mm_fl_12_0, fun _ h => absurd h List.not_mem_nil⟩
  | 0 => exact fun _ h => absurd h List.not_mem_nil
  | 1 => exact fun _ h => absurd h List.not_mem_nil
  | 2 => exact fun _ h => absurd h List.not_mem_nil
  | 5 => exact fun _ h => absurd h List.not_mem_nil
  | 6 => exact fun _ h => absurd h List.not_mem_nil
  | 7 => exact fun _ h => absurd h List.not_mem_nil
  | 8 => exact fun _ h => absurd h List.not_mem_nil
  | 13 => exact fun _ h => absurd h List.not_mem_nil
  | 14 => exact fun _ h => absurd h List.not_mem_nil
  | 15 => exact fun _ h => absurd h List.not_mem_nil
  | 16 => exact fun _ h => absurd h List.not_mem_nil
  | n + 17 => exact fun _ h => absurd h List.not_mem_nil
theorem mm_fj_0_0 : mm_jok (mm_on 0) (121, (-1)) := mm_in (i := 806) (by decide +kernel) rfl
theorem mm_fj_1_0 : mm_jok (mm_on 1) (125, (-1)) := mm_in (i := 686) (by decide +kernel) rfl
theorem mm_fj_3_0 : mm_jok (mm_on 3) (27, (-1)) := mm_in (i := 884) (by decide +kernel) rfl
theorem mm_fj_4_0 : mm_jok (mm_on 4) (12, (-1)) := mm_in (i := 846) (by decide +kernel) rfl
theorem mm_fj_6_0 : mm_jok (mm_on 6) (9, (-1)) := mm_in (i := 388) (by decide +kernel) rfl
theorem mm_fj_7_0 : mm_jok (mm_on 7) (118, (-1)) := mm_in (i := 545) (by decide +kernel) rfl
theorem mm_fj_8_0 : mm_jok (mm_on 8) (38, (-1)) := mm_in (i := 1027) (by decide +kernel) rfl
theorem mm_fj_9_0 : mm_jok (mm_on 9) (87, 32) := mm_in (i := 321) (by decide +kernel) rfl
theorem mm_fj_9_1 : mm_jok (mm_on 9) (89, 97) := mm_in (i := 322) (by decide +kernel) rfl
theorem mm_fj_10_0 : mm_jok (mm_on 10) (143, (-1)) := mm_in (i := 734) (by decide +kernel) rfl
theorem mm_fj_10_1 : mm_jok (mm_on 10) (159, (-2)) := mm_in (i := 788) (by decide +kernel) rfl
theorem mm_fj_10_2 : mm_jok (mm_on 10) (330, 1000000000000) := mm_in (i := 834) (by decide +kernel) rfl
theorem mm_fj_11_0 : mm_jok (mm_on 11) (218, 495873781348) := mm_in (i := 1430) (by decide +kernel) rfl
theorem mm_fj_11_1 : mm_jok (mm_on 11) (220, 422608071022) := mm_in (i := 1447) (by decide +kernel) rfl
theorem mm_fj_11_2 : mm_jok (mm_on 11) (222, 1818584692) := mm_in (i := 1448) (by decide +kernel) rfl
theorem mm_fj_11_3 : mm_jok (mm_on 11) (224, 427071729268) := mm_in (i := 1449) (by decide +kernel) rfl
theorem mm_fj_11_4 : mm_jok (mm_on 11) (226, 1953854062) := mm_in (i := 1509) (by decide +kernel) rfl
theorem mm_fj_11_5 : mm_jok (mm_on 11) (228, 418346264942) := mm_in (i := 1510) (by decide +kernel) rfl
theorem mm_fj_11_6 : mm_jok (mm_on 11) (230, 6451065) := mm_in (i := 1511) (by decide +kernel) rfl
theorem mm_fj_11_7 : mm_jok (mm_on 11) (232, 444350952036) := mm_in (i := 1512) (by decide +kernel) rfl
theorem mm_fj_11_8 : mm_jok (mm_on 11) (234, 29807) := mm_in (i := 1517) (by decide +kernel) rfl
theorem mm_fj_11_9 : mm_jok (mm_on 11) (236, 491379060069) := mm_in (i := 1526) (by decide +kernel) rfl
theorem mm_fj_11_10 : mm_jok (mm_on 11) (238, 123581014175598) := mm_in (i := 1535) (by decide +kernel) rfl
theorem mm_fj_11_11 : mm_jok (mm_on 11) (240, 512970880104) := mm_in (i := 1536) (by decide +kernel) rfl
theorem mm_fj_11_12 : mm_jok (mm_on 11) (242, 431415719790) := mm_in (i := 1537) (by decide +kernel) rfl
theorem mm_fj_11_13 : mm_jok (mm_on 11) (244, 131277443786868) := mm_in (i := 1538) (by decide +kernel) rfl
theorem mm_fj_11_14 : mm_jok (mm_on 11) (246, 444250812007) := mm_in (i := 1504) (by decide +kernel) rfl
theorem mm_fj_11_15 : mm_jok (mm_on 11) (248, 1751478885) := mm_in (i := 1505) (by decide +kernel) rfl
theorem mm_fj_11_16 : mm_jok (mm_on 11) (250, 1818325876) := mm_in (i := 1506) (by decide +kernel) rfl
theorem mm_fj_11_17 : mm_jok (mm_on 11) (252, 512970876019) := mm_in (i := 1507) (by decide +kernel) rfl
theorem mm_fj_11_18 : mm_jok (mm_on 11) (254, 495689625203) := mm_in (i := 1508) (by decide +kernel) rfl
theorem mm_fj_11_19 : mm_jok (mm_on 11) (256, 6385252) := mm_in (i := 1470) (by decide +kernel) rfl
theorem mm_fj_11_20 : mm_jok (mm_on 11) (258, 28530) := mm_in (i := 1471) (by decide +kernel) rfl
theorem mm_fj_11_21 : mm_jok (mm_on 11) (260, 7237492) := mm_in (i := 1499) (by decide +kernel) rfl
theorem mm_fj_11_22 : mm_jok (mm_on 11) (507, (-1)) := mm_in (i := 1622) (by decide +kernel) rfl
theorem mm_fj_11_23 : mm_jok (mm_on 11) (516, (-2)) := mm_in (i := 1655) (by decide +kernel) rfl
theorem mm_fj_11_24 : mm_jok (mm_on 11) (522, 1000000000000) := mm_in (i := 1682) (by decide +kernel) rfl
theorem mm_fj_13_0 : mm_jok (mm_on 13) (314, 6148914691236517205) := mm_in (i := 609) (by decide +kernel) rfl
theorem mm_fj_13_1 : mm_jok (mm_on 13) (316, 3689348814741910323) := mm_in (i := 610) (by decide +kernel) rfl
theorem mm_fj_13_2 : mm_jok (mm_on 13) (318, 1085102592571150095) := mm_in (i := 611) (by decide +kernel) rfl
theorem mm_fj_16_0 : mm_jok (mm_on 16) (75, 4294967295) := mm_in (i := 1830) (by decide +kernel) rfl
theorem mm_fj_all : ∀ (ow : Nat), ∀ q ∈ mm_jt ow, mm_jok (mm_on ow) q := by
  intro ow
  match ow with
  | 0 => exact List.forall_mem_cons.mpr ⟨mm_fj_0_0, fun _ h => absurd h List.not_mem_nil⟩
  | 1 => exact List.forall_mem_cons.mpr ⟨mm_fj_1_0, fun _ h => absurd h List.not_mem_nil⟩
  | 3 => exact List.forall_mem_cons.mpr ⟨mm_fj_3_0, fun _ h => absurd h List.not_mem_nil⟩
  | 4 => exact List.forall_mem_cons.mpr ⟨mm_fj_4_0, fun _ h => absurd h List.not_mem_nil⟩
  | 6 => exact List.forall_mem_cons.mpr ⟨mm_fj_6_0, fun _ h => absurd h List.not_mem_nil⟩
  | 7 => exact List.forall_mem_cons.mpr ⟨mm_fj_7_0, fun _ h => absurd h List.not_mem_nil⟩
  | 8 => exact List.forall_mem_cons.mpr ⟨mm_fj_8_0, fun _ h => absurd h List.not_mem_nil⟩
  | 9 => exact List.forall_mem_cons.mpr ⟨mm_fj_9_0, List.forall_mem_cons.mpr ⟨mm_fj_9_1, fun _ h => absurd h List.not_mem_nil⟩⟩
  | 10 => exact List.forall_mem_cons.mpr ⟨mm_fj_10_0, List.forall_mem_cons.mpr ⟨mm_fj_10_1, List.forall_mem_cons.mpr ⟨mm_fj_10_2, fun _ h => absurd h List.not_mem_nil⟩⟩⟩
  | 11 => exact List.forall_mem_cons.mpr ⟨mm_fj_11_0, List.forall_mem_cons.mpr ⟨mm_fj_11_1, List.forall_mem_cons.mpr ⟨mm_fj_11_2, List.forall_mem_cons.mpr ⟨mm_fj_11_3, List.forall_mem_cons.mpr ⟨mm_fj_11_4, List.forall_mem_cons.mpr ⟨mm_fj_11_5, List.forall_mem_cons.mpr ⟨mm_fj_11_6, List.forall_mem_cons.mpr ⟨mm_fj_11_7, List.forall_mem_cons.mpr ⟨mm_fj_11_8, List.forall_mem_cons.mpr ⟨mm_fj_11_9, List.forall_mem_cons.mpr ⟨mm_fj_11_10, List.forall_mem_cons.mpr ⟨mm_fj_11_11, List.forall_mem_cons.mpr ⟨mm_fj_11_12, List.forall_mem_cons.mpr ⟨mm_fj_11_13, List.forall_mem_cons.mpr ⟨mm_fj_11_14, List.forall_mem_cons.mpr ⟨mm_fj_11_15, List.forall_mem_cons.mpr ⟨mm_fj_11_16, List.forall_mem_cons.mpr ⟨mm_fj_11_17, List.forall_mem_cons.mpr ⟨mm_fj_11_18, List.forall_mem_cons.mpr ⟨mm_fj_11_19, List.forall_mem_cons.mpr ⟨mm_fj_11_20, List.forall_mem_cons.mpr ⟨mm_fj_11_21, List.forall_mem_cons.mpr ⟨mm_fj_11_22, List.forall_mem_cons.mpr ⟨mm_fj_11_23, List.forall_mem_cons.mpr ⟨mm_fj_11_24, fun _ h => absurd h List.not_mem_nil⟩⟩⟩⟩⟩⟩⟩⟩⟩⟩⟩⟩⟩⟩⟩⟩⟩⟩⟩⟩⟩⟩⟩⟩⟩
  | 13 => exact List.forall_mem_cons.mpr ⟨mm_fj_13_0, List.forall_mem_cons.mpr ⟨mm_fj_13_1, List.forall_mem_cons.mpr ⟨mm_fj_13_2, fun _ h => absurd h List.not_mem_nil⟩⟩⟩
  | 16 => exact List.forall_mem_cons.mpr ⟨mm_fj_16_0, fun _ h => absurd h List.not_mem_nil⟩
  | 2 => exact fun _ h => absurd h List.not_mem_nil
  | 5 => exact fun _ h => absurd h List.not_mem_nil
  | 12 => exact fun _ h => absurd h List.not_mem_nil
  | 14 => exact fun _ h => absurd h List.not_mem_nil
  | 15 => exact fun _ h => absurd h List.not_mem_nil
  | n + 17 => exact fun _ h => absurd h List.not_mem_nil
theorem mm_fc_0_0 : mm_kok (mm_on 0) (9, 1, 11) := ⟨_, rfl, rfl, mm_in (i := 93) (by decide +kernel) rfl, (mm_in (i := 32) (by decide +kernel) rfl), (mm_in (i := 2) (by decide +kernel) rfl)⟩
theorem mm_fc_7_0 : mm_kok (mm_on 7) (9, 7, 9) := ⟨_, rfl, rfl, mm_in (i := 263) (by decide +kernel) rfl, (mm_in (i := 264) (by decide +kernel) rfl), (mm_in (i := 9) (by decide +kernel) rfl)⟩
theorem mm_fc_10_0 : mm_kok (mm_on 10) (9, 1, 11) := ⟨_, rfl, rfl, mm_in (i := 31) (by decide +kernel) rfl, (mm_in (i := 32) (by decide +kernel) rfl), (mm_in (i := 2) (by decide +kernel) rfl)⟩
theorem mm_fc_10_1 : mm_kok (mm_on 10) (20, 0, 2) := ⟨_, rfl, rfl, mm_in (i := 87) (by decide +kernel) rfl, (mm_in (i := 88) (by decide +kernel) rfl), (mm_in (i := 3) (by decide +kernel) rfl)⟩
theorem mm_fc_10_2 : mm_kok (mm_on 10) (27, 3, 4) := ⟨_, rfl, rfl, mm_in (i := 102) (by decide +kernel) rfl, (mm_in (i := 103) (by decide +kernel) rfl), (mm_in (i := 4) (by decide +kernel) rfl)⟩
theorem mm_fc_10_3 : mm_kok (mm_on 10) (34, 2, 2) := ⟨_, rfl, rfl, mm_in (i := 125) (by decide +kernel) rfl, (mm_in (i := 126) (by decide +kernel) rfl), (mm_in (i := 5) (by decide +kernel) rfl)⟩
theorem mm_fc_10_4 : mm_kok (mm_on 10) (41, 6, 6) := ⟨_, rfl, rfl, mm_in (i := 139) (by decide +kernel) rfl, (mm_in (i := 140) (by decide +kernel) rfl), (mm_in (i := 6) (by decide +kernel) rfl)⟩
theorem mm_fc_10_5 : mm_kok (mm_on 10) (48, 4, 19) := ⟨_, rfl, rfl, mm_in (i := 166) (by decide +kernel) rfl, (mm_in (i := 167) (by decide +kernel) rfl), (mm_in (i := 7) (by decide +kernel) rfl)⟩
theorem mm_fc_10_6 : mm_kok (mm_on 10) (58, 5, 6) := ⟨_, rfl, rfl, mm_in (i := 257) (by decide +kernel) rfl, (mm_in (i := 258) (by decide +kernel) rfl), (mm_in (i := 8) (by decide +kernel) rfl)⟩
theorem mm_fc_16_0 : mm_kok (mm_on 16) (7, 8, 10) := ⟨_, rfl, rfl, mm_in (i := 23) (by decide +kernel) rfl, (mm_in (i := 24) (by decide +kernel) rfl), (mm_in (i := 1) (by decide +kernel) rfl)⟩
theorem mm_fc_16_1 : mm_kok (mm_on 16) (10, 9, 99) := ⟨_, rfl, rfl, mm_in (i := 1081) (by decide +kernel) rfl, (mm_in (i := 1082) (by decide +kernel) rfl), (mm_in (i := 16) (by decide +kernel) rfl)⟩
theorem mm_fc_all : ∀ (ow : Nat), ∀ q ∈ mm_ct ow, mm_kok (mm_on ow) q := by
  intro ow
  match ow with
  | 0 => exact List.forall_mem_cons.mpr ⟨mm_fc_0_0, fun _ h => absurd h List.not_mem_nil⟩
  | 7 => exact List.forall_mem_cons.mpr ⟨mm_fc_7_0, fun _ h => absurd h List.not_mem_nil⟩
  | 10 => exact List.forall_mem_cons.mpr ⟨mm_fc_10_0, List.forall_mem_cons.mpr ⟨mm_fc_10_1, List.forall_mem_cons.mpr ⟨mm_fc_10_2, List.forall_mem_cons.mpr ⟨mm_fc_10_3, List.forall_mem_cons.mpr ⟨mm_fc_10_4, List.forall_mem_cons.mpr ⟨mm_fc_10_5, List.forall_mem_cons.mpr ⟨mm_fc_10_6, fun _ h => absurd h List.not_mem_nil⟩⟩⟩⟩⟩⟩⟩
  | 16 => exact List.forall_mem_cons.mpr ⟨mm_fc_16_0, List.forall_mem_cons.mpr ⟨mm_fc_16_1, fun _ h => absurd h List.not_mem_nil⟩⟩
  | 1 => exact fun _ h => absurd h List.not_mem_nil
  | 2 => exact fun _ h => absurd h List.not_mem_nil
  | 3 => exact fun _ h => absurd h List.not_mem_nil
  | 4 => exact fun _ h => absurd h List.not_mem_nil
  | 5 => exact fun _ h => absurd h List.not_mem_nil
  | 6 => exact fun _ h => absurd h List.not_mem_nil
  | 8 => exact fun _ h => absurd h List.not_mem_nil
  | 9 => exact fun _ h => absurd h List.not_mem_nil
  | 11 => exact fun _ h => absurd h List.not_mem_nil
  | 12 => exact fun _ h => absurd h List.not_mem_nil
  | 13 => exact fun _ h => absurd h List.not_mem_nil
  | 14 => exact fun _ h => absurd h List.not_mem_nil
  | 15 => exact fun _ h => absurd h List.not_mem_nil
  | n + 17 => exact fun _ h => absurd h List.not_mem_nil
theorem mm_fq_10_0 : mm_qok (mm_on 10) 9 := mm_in (i := 31) (by decide +kernel) rfl
theorem mm_fq_all : ∀ (ow : Nat), ∀ q ∈ mm_qt ow, mm_qok (mm_on ow) q := by
  intro ow
  match ow with
  | 10 => exact List.forall_mem_cons.mpr ⟨mm_fq_10_0, fun _ h => absurd h List.not_mem_nil⟩
  | 0 => exact fun _ h => absurd h List.not_mem_nil
  | 1 => exact fun _ h => absurd h List.not_mem_nil
  | 2 => exact fun _ h => absurd h List.not_mem_nil
  | 3 => exact fun _ h => absurd h List.not_mem_nil
  | 4 => exact fun _ h => absurd h List.not_mem_nil
  | 5 => exact fun _ h => absurd h List.not_mem_nil
  | 6 => exact fun _ h => absurd h List.not_mem_nil
  | 7 => exact fun _ h => absurd h List.not_mem_nil
  | 8 => exact fun _ h => absurd h List.not_mem_nil
  | 9 => exact fun _ h => absurd h List.not_mem_nil
  | 11 => exact fun _ h => absurd h List.not_mem_nil
  | 12 => exact fun _ h => absurd h List.not_mem_nil
  | 13 => exact fun _ h => absurd h List.not_mem_nil
  | 14 => exact fun _ h => absurd h List.not_mem_nil
  | 15 => exact fun _ h => absurd h List.not_mem_nil
  | 16 => exact fun _ h => absurd h List.not_mem_nil
  | n + 17 => exact fun _ h => absurd h List.not_mem_nil
theorem mm_fs_0_0 : mm_sok (mm_on 0) (62, 66, 1, 0, 0) := Or.inr ⟨rfl, by decide +kernel, rfl, mm_in (i := 750) (by decide +kernel) rfl, (mm_in (i := 684) (by decide +kernel) rfl)⟩
theorem mm_fs_0_1 : mm_sok (mm_on 0) (68, 65, 2, 0, 0) := Or.inr ⟨rfl, by decide +kernel, rfl, mm_in (i := 759) (by decide +kernel) rfl, (mm_in (i := 681) (by decide +kernel) rfl)⟩
theorem mm_fs_0_2 : mm_sok (mm_on 0) (99, 278, 1, 0, 0) := Or.inr ⟨rfl, by decide +kernel, rfl, mm_in (i := 776) (by decide +kernel) rfl, (mm_in (i := 777) (by decide +kernel) rfl)⟩
theorem mm_fs_0_3 : mm_sok (mm_on 0) (108, 276, 1, 0, 0) := Or.inr ⟨rfl, by decide +kernel, rfl, mm_in (i := 801) (by decide +kernel) rfl, (mm_in (i := 607) (by decide +kernel) rfl)⟩
theorem mm_fs_1_0 : mm_sok (mm_on 1) (27, 64, 1, 0, 0) := Or.inr ⟨rfl, by decide +kernel, rfl, mm_in (i := 385) (by decide +kernel) rfl, (mm_in (i := 386) (by decide +kernel) rfl)⟩
theorem mm_fs_1_1 : mm_sok (mm_on 1) (55, 281, 2, 0, 0) := Or.inr ⟨rfl, by decide +kernel, rfl, mm_in (i := 389) (by decide +kernel) rfl, (mm_in (i := 390) (by decide +kernel) rfl)⟩
theorem mm_fs_1_2 : mm_sok (mm_on 1) (61, 0, 0, 0, 7) := Or.inl ⟨rfl, mm_in (i := 716) (by decide +kernel) rfl⟩
theorem mm_fs_1_3 : mm_sok (mm_on 1) (67, 276, 1, 0, 0) := Or.inr ⟨rfl, by decide +kernel, rfl, mm_in (i := 606) (by decide +kernel) rfl, (mm_in (i := 607) (by decide +kernel) rfl)⟩
theorem mm_fs_1_4 : mm_sok (mm_on 1) (73, 65, 2, 0, 0) := Or.inr ⟨rfl, by decide +kernel, rfl, mm_in (i := 699) (by decide +kernel) rfl, (mm_in (i := 681) (by decide +kernel) rfl)⟩
theorem mm_fs_1_5 : mm_sok (mm_on 1) (80, 66, 1, 0, 0) := Or.inr ⟨rfl, by decide +kernel, rfl, mm_in (i := 683) (by decide +kernel) rfl, (mm_in (i := 684) (by decide +kernel) rfl)⟩
theorem mm_fs_1_6 : mm_sok (mm_on 1) (110, 70, 4, 0, 0) := Or.inr ⟨rfl, by decide +kernel, rfl, mm_in (i := 651) (by decide +kernel) rfl, (mm_in (i := 652) (by decide +kernel) rfl)⟩
theorem mm_fs_1_7 : mm_sok (mm_on 1) (117, 68, 3, 0, 0) := Or.inr ⟨rfl, by decide +kernel, rfl, mm_in (i := 648) (by decide +kernel) rfl, (mm_in (i := 649) (by decide +kernel) rfl)⟩
theorem mm_fs_2_0 : mm_sok (mm_on 2) (15, 281, 2, 0, 0) := Or.inr ⟨rfl, by decide +kernel, rfl, mm_in (i := 943) (by decide +kernel) rfl, (mm_in (i := 390) (by decide +kernel) rfl)⟩
theorem mm_fs_2_1 : mm_sok (mm_on 2) (28, 40, 3, 0, 0) := Or.inr ⟨rfl, by decide +kernel, rfl, mm_in (i := 944) (by decide +kernel) rfl, (mm_in (i := 929) (by decide +kernel) rfl)⟩
theorem mm_fs_2_2 : mm_sok (mm_on 2) (47, 65, 2, 0, 0) := Or.inr ⟨rfl, by decide +kernel, rfl, mm_in (i := 953) (by decide +kernel) rfl, (mm_in (i := 681) (by decide +kernel) rfl)⟩
theorem mm_fs_2_3 : mm_sok (mm_on 2) (65, 66, 1, 0, 0) := Or.inr ⟨rfl, by decide +kernel, rfl, mm_in (i := 992) (by decide +kernel) rfl, (mm_in (i := 684) (by decide +kernel) rfl)⟩
theorem mm_fs_2_4 : mm_sok (mm_on 2) (69, 46, 2, 0, 0) := Or.inr ⟨rfl, by decide +kernel, rfl, mm_in (i := 977) (by decide +kernel) rfl, (mm_in (i := 897) (by decide +kernel) rfl)⟩
theorem mm_fs_3_0 : mm_sok (mm_on 3) (29, 64, 1, 0, 0) := Or.inr ⟨rfl, by decide +kernel, rfl, mm_in (i := 885) (by decide +kernel) rfl, (mm_in (i := 386) (by decide +kernel) rfl)⟩
theorem mm_fs_3_1 : mm_sok (mm_on 3) (35, 65, 2, 0, 0) := Or.inr ⟨rfl, by decide +kernel, rfl, mm_in (i := 886) (by decide +kernel) rfl, (mm_in (i := 681) (by decide +kernel) rfl)⟩
theorem mm_fs_3_2 : mm_sok (mm_on 3) (39, 71, 3, 0, 0) := Or.inr ⟨rfl, by decide +kernel, rfl, mm_in (i := 887) (by decide +kernel) rfl, (mm_in (i := 888) (by decide +kernel) rfl)⟩
theorem mm_fs_3_3 : mm_sok (mm_on 3) (43, 36, 4, 0, 0) := Or.inr ⟨rfl, by decide +kernel, rfl, mm_in (i := 890) (by decide +kernel) rfl, (mm_in (i := 891) (by decide +kernel) rfl)⟩
theorem mm_fs_3_4 : mm_sok (mm_on 3) (47, 37, 2, 0, 0) := Or.inr ⟨rfl, by decide +kernel, rfl, mm_in (i := 893) (by decide +kernel) rfl, (mm_in (i := 894) (by decide +kernel) rfl)⟩
theorem mm_fs_3_5 : mm_sok (mm_on 3) (51, 66, 1, 0, 0) := Or.inr ⟨rfl, by decide +kernel, rfl, mm_in (i := 899) (by decide +kernel) rfl, (mm_in (i := 684) (by decide +kernel) rfl)⟩
theorem mm_fs_3_6 : mm_sok (mm_on 3) (54, 68, 3, 0, 0) := Or.inr ⟨rfl, by decide +kernel, rfl, mm_in (i := 900) (by decide +kernel) rfl, (mm_in (i := 649) (by decide +kernel) rfl)⟩
theorem mm_fs_3_7 : mm_sok (mm_on 3) (58, 46, 2, 0, 0) := Or.inr ⟨rfl, by decide +kernel, rfl, mm_in (i := 896) (by decide +kernel) rfl, (mm_in (i := 897) (by decide +kernel) rfl)⟩
theorem mm_fs_3_8 : mm_sok (mm_on 3) (77, 70, 4, 0, 0) := Or.inr ⟨rfl, by decide +kernel, rfl, mm_in (i := 917) (by decide +kernel) rfl, (mm_in (i := 652) (by decide +kernel) rfl)⟩
theorem mm_fs_4_0 : mm_sok (mm_on 4) (14, 276, 1, 0, 0) := Or.inr ⟨rfl, by decide +kernel, rfl, mm_in (i := 864) (by decide +kernel) rfl, (mm_in (i := 607) (by decide +kernel) rfl)⟩
theorem mm_fs_4_1 : mm_sok (mm_on 4) (20, 45, 4, 0, 0) := Or.inr ⟨rfl, by decide +kernel, rfl, mm_in (i := 865) (by decide +kernel) rfl, (mm_in (i := 866) (by decide +kernel) rfl)⟩
theorem mm_fs_4_2 : mm_sok (mm_on 4) (24, 64, 1, 0, 0) := Or.inr ⟨rfl, by decide +kernel, rfl, mm_in (i := 868) (by decide +kernel) rfl, (mm_in (i := 386) (by decide +kernel) rfl)⟩
theorem mm_fs_4_3 : mm_sok (mm_on 4) (30, 69, 2, 0, 0) := Or.inr ⟨rfl, by decide +kernel, rfl, mm_in (i := 869) (by decide +kernel) rfl, (mm_in (i := 663) (by decide +kernel) rfl)⟩
theorem mm_fs_4_4 : mm_sok (mm_on 4) (34, 65, 2, 0, 0) := Or.inr ⟨rfl, by decide +kernel, rfl, mm_in (i := 870) (by decide +kernel) rfl, (mm_in (i := 681) (by decide +kernel) rfl)⟩
theorem mm_fs_4_5 : mm_sok (mm_on 4) (38, 66, 1, 0, 0) := Or.inr ⟨rfl, by decide +kernel, rfl, mm_in (i := 871) (by decide +kernel) rfl, (mm_in (i := 684) (by decide +kernel) rfl)⟩
theorem mm_fs_4_6 : mm_sok (mm_on 4) (41, 40, 3, 0, 0) := Or.inr ⟨rfl, by decide +kernel, rfl, mm_in (i := 928) (by decide +kernel) rfl, (mm_in (i := 929) (by decide +kernel) rfl)⟩
theorem mm_fs_5_0 : mm_sok (mm_on 5) (75, 65, 2, 0, 0) := Or.inr ⟨rfl, by decide +kernel, rfl, mm_in (i := 680) (by decide +kernel) rfl, (mm_in (i := 681) (by decide +kernel) rfl)⟩
theorem mm_fs_5_1 : mm_sok (mm_on 5) (81, 61, 1, 0, 0) := Or.inr ⟨rfl, by decide +kernel, rfl, mm_in (i := 620) (by decide +kernel) rfl, (mm_in (i := 621) (by decide +kernel) rfl)⟩
theorem mm_fs_5_2 : mm_sok (mm_on 5) (85, 63, 3, 0, 0) := Or.inr ⟨rfl, by decide +kernel, rfl, mm_in (i := 623) (by decide +kernel) rfl, (mm_in (i := 624) (by decide +kernel) rfl)⟩
theorem mm_fs_5_3 : mm_sok (mm_on 5) (93, 280, 2, 0, 0) := Or.inr ⟨rfl, by decide +kernel, rfl, mm_in (i := 630) (by decide +kernel) rfl, (mm_in (i := 631) (by decide +kernel) rfl)⟩
theorem mm_fs_5_4 : mm_sok (mm_on 5) (99, 279, 2, 0, 0) := Or.inr ⟨rfl, by decide +kernel, rfl, mm_in (i := 633) (by decide +kernel) rfl, (mm_in (i := 634) (by decide +kernel) rfl)⟩
theorem mm_fs_6_0 : mm_sok (mm_on 6) (11, 64, 1, 0, 0) := Or.inr ⟨rfl, by decide +kernel, rfl, mm_in (i := 658) (by decide +kernel) rfl, (mm_in (i := 386) (by decide +kernel) rfl)⟩
theorem mm_fs_6_1 : mm_sok (mm_on 6) (17, 276, 1, 0, 0) := Or.inr ⟨rfl, by decide +kernel, rfl, mm_in (i := 654) (by decide +kernel) rfl, (mm_in (i := 607) (by decide +kernel) rfl)⟩
theorem mm_fs_6_2 : mm_sok (mm_on 6) (23, 275, 1, 0, 0) := Or.inr ⟨rfl, by decide +kernel, rfl, mm_in (i := 665) (by decide +kernel) rfl, (mm_in (i := 666) (by decide +kernel) rfl)⟩
theorem mm_fs_6_3 : mm_sok (mm_on 6) (26, 67, 2, 0, 0) := Or.inr ⟨rfl, by decide +kernel, rfl, mm_in (i := 655) (by decide +kernel) rfl, (mm_in (i := 656) (by decide +kernel) rfl)⟩
theorem mm_fs_6_4 : mm_sok (mm_on 6) (30, 277, 2, 0, 0) := Or.inr ⟨rfl, by decide +kernel, rfl, mm_in (i := 659) (by decide +kernel) rfl, (mm_in (i := 660) (by decide +kernel) rfl)⟩
theorem mm_fs_6_5 : mm_sok (mm_on 6) (36, 69, 2, 0, 0) := Or.inr ⟨rfl, by decide +kernel, rfl, mm_in (i := 662) (by decide +kernel) rfl, (mm_in (i := 663) (by decide +kernel) rfl)⟩
theorem mm_fs_7_0 : mm_sok (mm_on 7) (112, 64, 1, 0, 0) := Or.inr ⟨rfl, by decide +kernel, rfl, mm_in (i := 544) (by decide +kernel) rfl, (mm_in (i := 386) (by decide +kernel) rfl)⟩
theorem mm_fs_7_1 : mm_sok (mm_on 7) (168, 91, 1, 0, 0) := Or.inr ⟨rfl, by decide +kernel, rfl, mm_in (i := 529) (by decide +kernel) rfl, (mm_in (i := 530) (by decide +kernel) rfl)⟩
theorem mm_fs_8_0 : mm_sok (mm_on 8) (32, 40, 3, 0, 0) := Or.inr ⟨rfl, by decide +kernel, rfl, mm_in (i := 1005) (by decide +kernel) rfl, (mm_in (i := 929) (by decide +kernel) rfl)⟩
theorem mm_fs_8_1 : mm_sok (mm_on 8) (44, 281, 2, 0, 0) := Or.inr ⟨rfl, by decide +kernel, rfl, mm_in (i := 1048) (by decide +kernel) rfl, (mm_in (i := 390) (by decide +kernel) rfl)⟩
theorem mm_fs_8_2 : mm_sok (mm_on 8) (58, 64, 1, 0, 0) := Or.inr ⟨rfl, by decide +kernel, rfl, mm_in (i := 1053) (by decide +kernel) rfl, (mm_in (i := 386) (by decide +kernel) rfl)⟩
theorem mm_fs_8_3 : mm_sok (mm_on 8) (64, 69, 2, 0, 0) := Or.inr ⟨rfl, by decide +kernel, rfl, mm_in (i := 1054) (by decide +kernel) rfl, (mm_in (i := 663) (by decide +kernel) rfl)⟩
theorem mm_fs_8_4 : mm_sok (mm_on 8) (68, 66, 1, 0, 0) := Or.inr ⟨rfl, by decide +kernel, rfl, mm_in (i := 1055) (by decide +kernel) rfl, (mm_in (i := 684) (by decide +kernel) rfl)⟩
theorem mm_fs_8_5 : mm_sok (mm_on 8) (71, 279, 2, 0, 0) := Or.inr ⟨rfl, by decide +kernel, rfl, mm_in (i := 1060) (by decide +kernel) rfl, (mm_in (i := 634) (by decide +kernel) rfl)⟩
theorem mm_fs_9_0 : mm_sok (mm_on 9) (31, 110, 2, 0, 0) := Or.inr ⟨rfl, by decide +kernel, rfl, mm_in (i := 318) (by decide +kernel) rfl, (mm_in (i := 319) (by decide +kernel) rfl)⟩
theorem mm_fs_9_1 : mm_sok (mm_on 9) (48, 111, 1, 0, 0) := Or.inr ⟨rfl, by decide +kernel, rfl, mm_in (i := 456) (by decide +kernel) rfl, (mm_in (i := 457) (by decide +kernel) rfl)⟩
theorem mm_fs_9_2 : mm_sok (mm_on 9) (58, 112, 1, 0, 0) := Or.inr ⟨rfl, by decide +kernel, rfl, mm_in (i := 459) (by decide +kernel) rfl, (mm_in (i := 460) (by decide +kernel) rfl)⟩
theorem mm_fs_9_3 : mm_sok (mm_on 9) (64, 113, 1, 0, 0) := Or.inr ⟨rfl, by decide +kernel, rfl, mm_in (i := 470) (by decide +kernel) rfl, (mm_in (i := 471) (by decide +kernel) rfl)⟩
theorem mm_fs_9_4 : mm_sok (mm_on 9) (70, 114, 1, 0, 0) := Or.inr ⟨rfl, by decide +kernel, rfl, mm_in (i := 477) (by decide +kernel) rfl, (mm_in (i := 478) (by decide +kernel) rfl)⟩
theorem mm_fs_10_0 : mm_sok (mm_on 10) (161, 162, 2, 0, 0) := Or.inr ⟨rfl, by decide +kernel, rfl, mm_in (i := 793) (by decide +kernel) rfl, (mm_in (i := 794) (by decide +kernel) rfl)⟩
theorem mm_fs_10_1 : mm_sok (mm_on 10) (179, 160, 2, 0, 0) := Or.inr ⟨rfl, by decide +kernel, rfl, mm_in (i := 831) (by decide +kernel) rfl, (mm_in (i := 832) (by decide +kernel) rfl)⟩
theorem mm_fs_10_2 : mm_sok (mm_on 10) (183, 41, 3, 0, 0) := Or.inr ⟨rfl, by decide +kernel, rfl, mm_in (i := 835) (by decide +kernel) rfl, (mm_in (i := 836) (by decide +kernel) rfl)⟩
theorem mm_fs_10_3 : mm_sok (mm_on 10) (189, 42, 3, 0, 0) := Or.inr ⟨rfl, by decide +kernel, rfl, mm_in (i := 843) (by decide +kernel) rfl, (mm_in (i := 844) (by decide +kernel) rfl)⟩
theorem mm_fs_10_4 : mm_sok (mm_on 10) (192, 43, 3, 0, 0) := Or.inr ⟨rfl, by decide +kernel, rfl, mm_in (i := 851) (by decide +kernel) rfl, (mm_in (i := 852) (by decide +kernel) rfl)⟩
theorem mm_fs_10_5 : mm_sok (mm_on 10) (196, 159, 1, 0, 0) := Or.inr ⟨rfl, by decide +kernel, rfl, mm_in (i := 858) (by decide +kernel) rfl, (mm_in (i := 859) (by decide +kernel) rfl)⟩
theorem mm_fs_10_6 : mm_sok (mm_on 10) (199, 64, 1, 0, 0) := Or.inr ⟨rfl, by decide +kernel, rfl, mm_in (i := 796) (by decide +kernel) rfl, (mm_in (i := 386) (by decide +kernel) rfl)⟩
theorem mm_fs_10_7 : mm_sok (mm_on 10) (205, 44, 2, 0, 0) := Or.inr ⟨rfl, by decide +kernel, rfl, mm_in (i := 861) (by decide +kernel) rfl, (mm_in (i := 862) (by decide +kernel) rfl)⟩
theorem mm_fs_10_8 : mm_sok (mm_on 10) (212, 163, 1, 0, 0) := Or.inr ⟨rfl, by decide +kernel, rfl, mm_in (i := 905) (by decide +kernel) rfl, (mm_in (i := 906) (by decide +kernel) rfl)⟩
theorem mm_fs_10_9 : mm_sok (mm_on 10) (224, 161, 1, 0, 0) := Or.inr ⟨rfl, by decide +kernel, rfl, mm_in (i := 922) (by decide +kernel) rfl, (mm_in (i := 923) (by decide +kernel) rfl)⟩
theorem mm_fs_10_10 : mm_sok (mm_on 10) (227, 47, 2, 0, 0) := Or.inr ⟨rfl, by decide +kernel, rfl, mm_in (i := 925) (by decide +kernel) rfl, (mm_in (i := 926) (by decide +kernel) rfl)⟩
theorem mm_fs_10_11 : mm_sok (mm_on 10) (242, 48, 1, 0, 0) := Or.inr ⟨rfl, by decide +kernel, rfl, mm_in (i := 963) (by decide +kernel) rfl, (mm_in (i := 964) (by decide +kernel) rfl)⟩
theorem mm_fs_10_12 : mm_sok (mm_on 10) (255, 32, 3, 0, 0) := Or.inr ⟨rfl, by decide +kernel, rfl, mm_in (i := 974) (by decide +kernel) rfl, (mm_in (i := 975) (by decide +kernel) rfl)⟩
theorem mm_fs_11_0 : mm_sok (mm_on 11) (202, 169, 1, 0, 0) := Or.inr ⟨rfl, by decide +kernel, rfl, mm_in (i := 1417) (by decide +kernel) rfl, (mm_in (i := 1418) (by decide +kernel) rfl)⟩
theorem mm_fs_11_1 : mm_sok (mm_on 11) (209, 170, 1, 0, 0) := Or.inr ⟨rfl, by decide +kernel, rfl, mm_in (i := 1420) (by decide +kernel) rfl, (mm_in (i := 1421) (by decide +kernel) rfl)⟩
theorem mm_fs_11_2 : mm_sok (mm_on 11) (212, 171, 1, 0, 0) := Or.inr ⟨rfl, by decide +kernel, rfl, mm_in (i := 1423) (by decide +kernel) rfl, (mm_in (i := 1424) (by decide +kernel) rfl)⟩
theorem mm_fs_11_3 : mm_sok (mm_on 11) (297, 183, 1, 0, 0) := Or.inr ⟨rfl, by decide +kernel, rfl, mm_in (i := 1480) (by decide +kernel) rfl, (mm_in (i := 1481) (by decide +kernel) rfl)⟩
theorem mm_fs_11_4 : mm_sok (mm_on 11) (463, 205, 3, 0, 0) := Or.inr ⟨rfl, by decide +kernel, rfl, mm_in (i := 1567) (by decide +kernel) rfl, (mm_in (i := 1568) (by decide +kernel) rfl)⟩
theorem mm_fs_11_5 : mm_sok (mm_on 11) (518, 228, 2, 0, 0) := Or.inr ⟨rfl, by decide +kernel, rfl, mm_in (i := 1660) (by decide +kernel) rfl, (mm_in (i := 1661) (by decide +kernel) rfl)⟩
theorem mm_fs_11_6 : mm_sok (mm_on 11) (524, 234, 2, 0, 0) := Or.inr ⟨rfl, by decide +kernel, rfl, mm_in (i := 1679) (by decide +kernel) rfl, (mm_in (i := 1680) (by decide +kernel) rfl)⟩
theorem mm_fs_11_7 : mm_sok (mm_on 11) (527, 233, 3, 0, 0) := Or.inr ⟨rfl, by decide +kernel, rfl, mm_in (i := 1683) (by decide +kernel) rfl, (mm_in (i := 1684) (by decide +kernel) rfl)⟩
theorem mm_fs_11_8 : mm_sok (mm_on 11) (531, 238, 1, 0, 0) := Or.inr ⟨rfl, by decide +kernel, rfl, mm_in (i := 1698) (by decide +kernel) rfl, (mm_in (i := 1699) (by decide +kernel) rfl)⟩
theorem mm_fs_11_9 : mm_sok (mm_on 11) (534, 239, 1, 0, 0) := Or.inr ⟨rfl, by decide +kernel, rfl, mm_in (i := 1701) (by decide +kernel) rfl, (mm_in (i := 1702) (by decide +kernel) rfl)⟩
theorem mm_fs_11_10 : mm_sok (mm_on 11) (538, 240, 5, 0, 0) := Or.inr ⟨rfl, by decide +kernel, rfl, mm_in (i := 1704) (by decide +kernel) rfl, (mm_in (i := 1705) (by decide +kernel) rfl)⟩
theorem mm_fs_11_11 : mm_sok (mm_on 11) (545, 243, 2, 0, 0) := Or.inr ⟨rfl, by decide +kernel, rfl, mm_in (i := 1719) (by decide +kernel) rfl, (mm_in (i := 1720) (by decide +kernel) rfl)⟩
theorem mm_fs_11_12 : mm_sok (mm_on 11) (553, 248, 2, 0, 0) := Or.inr ⟨rfl, by decide +kernel, rfl, mm_in (i := 1741) (by decide +kernel) rfl, (mm_in (i := 1742) (by decide +kernel) rfl)⟩
theorem mm_fs_11_13 : mm_sok (mm_on 11) (556, 249, 1, 0, 0) := Or.inr ⟨rfl, by decide +kernel, rfl, mm_in (i := 1734) (by decide +kernel) rfl, (mm_in (i := 1735) (by decide +kernel) rfl)⟩
theorem mm_fs_11_14 : mm_sok (mm_on 11) (562, 257, 1, 0, 0) := Or.inr ⟨rfl, by decide +kernel, rfl, mm_in (i := 1756) (by decide +kernel) rfl, (mm_in (i := 1757) (by decide +kernel) rfl)⟩
theorem mm_fs_11_15 : mm_sok (mm_on 11) (571, 256, 3, 0, 0) := Or.inr ⟨rfl, by decide +kernel, rfl, mm_in (i := 1767) (by decide +kernel) rfl, (mm_in (i := 1768) (by decide +kernel) rfl)⟩
theorem mm_fs_11_16 : mm_sok (mm_on 11) (590, 270, 1, 0, 0) := Or.inr ⟨rfl, by decide +kernel, rfl, mm_in (i := 1819) (by decide +kernel) rfl, (mm_in (i := 1820) (by decide +kernel) rfl)⟩
theorem mm_fs_13_0 : mm_sok (mm_on 13) (311, 274, 1, 0, 0) := Or.inr ⟨rfl, by decide +kernel, rfl, mm_in (i := 668) (by decide +kernel) rfl, (mm_in (i := 669) (by decide +kernel) rfl)⟩
theorem mm_fs_all : ∀ (ow : Nat), ∀ q ∈ mm_mt ow, mm_sok (mm_on ow) q := by
  intro ow
  match ow with
  | 0 => exact List.forall_mem_cons.mpr ⟨mm_fs_0_0, List.forall_mem_cons.mpr ⟨mm_fs_0_1, List.forall_mem_cons.mpr ⟨mm_fs_0_2, List.forall_mem_cons.mpr ⟨mm_fs_0_3, fun _ h => absurd h List.not_mem_nil⟩⟩⟩⟩
  | 1 => exact List.forall_mem_cons.mpr ⟨mm_fs_1_0, List.forall_mem_cons.mpr ⟨mm_fs_1_1, List.forall_mem_cons.mpr ⟨mm_fs_1_2, List.forall_mem_cons.mpr ⟨mm_fs_1_3, List.forall_mem_cons.mpr ⟨mm_fs_1_4, List.forall_mem_cons.mpr ⟨mm_fs_1_5, List.forall_mem_cons.mpr ⟨mm_fs_1_6, List.forall_mem_cons.mpr ⟨mm_fs_1_7, fun _ h => absurd h List.not_mem_nil⟩⟩⟩⟩⟩⟩⟩⟩
  | 2 => exact List.forall_mem_cons.mpr ⟨mm_fs_2_0, List.forall_mem_cons.mpr ⟨mm_fs_2_1, List.forall_mem_cons.mpr ⟨mm_fs_2_2, List.forall_mem_cons.mpr ⟨mm_fs_2_3, List.forall_mem_cons.mpr ⟨mm_fs_2_4, fun _ h => absurd h List.not_mem_nil⟩⟩⟩⟩⟩
  | 3 => exact List.forall_mem_cons.mpr ⟨mm_fs_3_0, List.forall_mem_cons.mpr ⟨mm_fs_3_1, List.forall_mem_cons.mpr ⟨mm_fs_3_2, List.forall_mem_cons.mpr ⟨mm_fs_3_3, List.forall_mem_cons.mpr ⟨mm_fs_3_4, List.forall_mem_cons.mpr ⟨mm_fs_3_5, List.forall_mem_cons.mpr ⟨mm_fs_3_6, List.forall_mem_cons.mpr ⟨mm_fs_3_7, List.forall_mem_cons.mpr ⟨mm_fs_3_8, fun _ h => absurd h List.not_mem_nil⟩⟩⟩⟩⟩⟩⟩⟩⟩
  | 4 => exact List.forall_mem_cons.mpr ⟨mm_fs_4_0, List.forall_mem_cons.mpr ⟨mm_fs_4_1, List.forall_mem_cons.mpr ⟨mm_fs_4_2, List.forall_mem_cons.mpr ⟨mm_fs_4_3, List.forall_mem_cons.mpr ⟨mm_fs_4_4, List.forall_mem_cons.mpr ⟨mm_fs_4_5, List.forall_mem_cons.mpr ⟨mm_fs_4_6, fun _ h => absurd h List.not_mem_nil⟩⟩⟩⟩⟩⟩⟩
  | 5 => exact List.forall_mem_cons.mpr ⟨mm_fs_5_0, List.forall_mem_cons.mpr ⟨mm_fs_5_1, List.forall_mem_cons.mpr ⟨mm_fs_5_2, List.forall_mem_cons.mpr ⟨mm_fs_5_3, List.forall_mem_cons.mpr ⟨mm_fs_5_4, fun _ h => absurd h List.not_mem_nil⟩⟩⟩⟩⟩
  | 6 => exact List.forall_mem_cons.mpr ⟨mm_fs_6_0, List.forall_mem_cons.mpr ⟨mm_fs_6_1, List.forall_mem_cons.mpr ⟨mm_fs_6_2, List.forall_mem_cons.mpr ⟨mm_fs_6_3, List.forall_mem_cons.mpr ⟨mm_fs_6_4, List.forall_mem_cons.mpr ⟨mm_fs_6_5, fun _ h => absurd h List.not_mem_nil⟩⟩⟩⟩⟩⟩
  | 7 => exact List.forall_mem_cons.mpr ⟨mm_fs_7_0, List.forall_mem_cons.mpr ⟨mm_fs_7_1, fun _ h => absurd h List.not_mem_nil⟩⟩
  | 8 => exact List.forall_mem_cons.mpr ⟨mm_fs_8_0, List.forall_mem_cons.mpr ⟨mm_fs_8_1, List.forall_mem_cons.mpr ⟨mm_fs_8_2, List.forall_mem_cons.mpr ⟨mm_fs_8_3, List.forall_mem_cons.mpr ⟨mm_fs_8_4, List.forall_mem_cons.mpr ⟨mm_fs_8_5, fun _ h => absurd h List.not_mem_nil⟩⟩⟩⟩⟩⟩
  | 9 => exact List.forall_mem_cons.mpr ⟨mm_fs_9_0, List.forall_mem_cons.mpr ⟨mm_fs_9_1, List.forall_mem_cons.mpr ⟨mm_fs_9_2, List.forall_mem_cons.mpr ⟨mm_fs_9_3, List.forall_mem_cons.mpr ⟨mm_fs_9_4, fun _ h => absurd h List.not_mem_nil⟩⟩⟩⟩⟩
  | 10 => exact List.forall_mem_cons.mpr ⟨mm_fs_10_0, List.forall_mem_cons.mpr ⟨mm_fs_10_1, List.forall_mem_cons.mpr ⟨mm_fs_10_2, List.forall_mem_cons.mpr ⟨mm_fs_10_3, List.forall_mem_cons.mpr ⟨mm_fs_10_4, List.forall_mem_cons.mpr ⟨mm_fs_10_5, List.forall_mem_cons.mpr ⟨mm_fs_10_6, List.forall_mem_cons.mpr ⟨mm_fs_10_7, List.forall_mem_cons.mpr ⟨mm_fs_10_8, List.forall_mem_cons.mpr ⟨mm_fs_10_9, List.forall_mem_cons.mpr ⟨mm_fs_10_10, List.forall_mem_cons.mpr ⟨mm_fs_10_11, List.forall_mem_cons.mpr ⟨mm_fs_10_12, fun _ h => absurd h List.not_mem_nil⟩⟩⟩⟩⟩⟩⟩⟩⟩⟩⟩⟩⟩
  | 11 => exact List.forall_mem_cons.mpr ⟨mm_fs_11_0, List.forall_mem_cons.mpr ⟨mm_fs_11_1, List.forall_mem_cons.mpr ⟨mm_fs_11_2, List.forall_mem_cons.mpr ⟨mm_fs_11_3, List.forall_mem_cons.mpr ⟨mm_fs_11_4, List.forall_mem_cons.mpr ⟨mm_fs_11_5, List.forall_mem_cons.mpr ⟨mm_fs_11_6, List.forall_mem_cons.mpr ⟨mm_fs_11_7, List.forall_mem_cons.mpr ⟨mm_fs_11_8, List.forall_mem_cons.mpr ⟨mm_fs_11_9, List.forall_mem_cons.mpr ⟨mm_fs_11_10, List.forall_mem_cons.mpr ⟨mm_fs_11_11, List.forall_mem_cons.mpr ⟨mm_fs_11_12, List.forall_mem_cons.mpr ⟨mm_fs_11_13, List.forall_mem_cons.mpr ⟨mm_fs_11_14, List.forall_mem_cons.mpr ⟨mm_fs_11_15, List.forall_mem_cons.mpr ⟨mm_fs_11_16, fun _ h => absurd h List.not_mem_nil⟩⟩⟩⟩⟩⟩⟩⟩⟩⟩⟩⟩⟩⟩⟩⟩⟩
  | 13 => exact List.forall_mem_cons.mpr ⟨mm_fs_13_0, fun _ h => absurd h List.not_mem_nil⟩
  | 12 => exact fun _ h => absurd h List.not_mem_nil
  | 14 => exact fun _ h => absurd h List.not_mem_nil
  | 15 => exact fun _ h => absurd h List.not_mem_nil
  | 16 => exact fun _ h => absurd h List.not_mem_nil
  | n + 17 => exact fun _ h => absurd h List.not_mem_nil
theorem mm_fv2_0_0 : mm_vok (mm_on 0) (21, 14, 1, 1, 0) := Or.inr (Or.inr ⟨rfl, by decide +kernel, rfl, mm_in (i := 712) (by decide +kernel) rfl, (mm_in (i := 713) (by decide +kernel) rfl), (mm_in (i := 714) (by decide +kernel) rfl), _, rfl, rfl⟩)
theorem mm_fv2_0_1 : mm_vok (mm_on 0) (25, 19, 3, 1, 0) := Or.inr (Or.inr ⟨rfl, by decide +kernel, rfl, mm_in (i := 719) (by decide +kernel) rfl, (mm_in (i := 599) (by decide +kernel) rfl), (mm_in (i := 600) (by decide +kernel) rfl), _, rfl, rfl⟩)
theorem mm_fv2_0_2 : mm_vok (mm_on 0) (33, 16, 1, 1, 0) := Or.inr (Or.inr ⟨rfl, by decide +kernel, rfl, mm_in (i := 728) (by decide +kernel) rfl, (mm_in (i := 696) (by decide +kernel) rfl), (mm_in (i := 697) (by decide +kernel) rfl), _, rfl, rfl⟩)
theorem mm_fv2_0_3 : mm_vok (mm_on 0) (43, 1, 3, 0, 0) := Or.inr (Or.inr ⟨rfl, by decide +kernel, rfl, mm_in (i := 729) (by decide +kernel) rfl, (mm_in (i := 709) (by decide +kernel) rfl), (mm_in (i := 710) (by decide +kernel) rfl), _, rfl, rfl⟩)
theorem mm_fv2_0_4 : mm_vok (mm_on 0) (54, 18, 1, 1, 0) := Or.inr (Or.inr ⟨rfl, by decide +kernel, rfl, mm_in (i := 739) (by decide +kernel) rfl, (mm_in (i := 740) (by decide +kernel) rfl), (mm_in (i := 741) (by decide +kernel) rfl), _, rfl, rfl⟩)
theorem mm_fv2_0_5 : mm_vok (mm_on 0) (58, 5, 2, 0, 0) := Or.inr (Or.inr ⟨rfl, by decide +kernel, rfl, mm_in (i := 743) (by decide +kernel) rfl, (mm_in (i := 745) (by decide +kernel) rfl), (mm_inS (i := 26) (by decide +kernel) rfl), _, rfl, rfl⟩)
theorem mm_fv2_0_6 : mm_vok (mm_on 0) (72, 20, 1, 1, 0) := Or.inr (Or.inr ⟨rfl, by decide +kernel, rfl, mm_in (i := 748) (by decide +kernel) rfl, (mm_in (i := 613) (by decide +kernel) rfl), (mm_in (i := 614) (by decide +kernel) rfl), _, rfl, rfl⟩)
theorem mm_fv2_0_7 : mm_vok (mm_on 0) (76, 21, 2, 1, 0) := Or.inr (Or.inr ⟨rfl, by decide +kernel, rfl, mm_in (i := 749) (by decide +kernel) rfl, (mm_in (i := 637) (by decide +kernel) rfl), (mm_in (i := 638) (by decide +kernel) rfl), _, rfl, rfl⟩)
theorem mm_fv2_0_8 : mm_vok (mm_on 0) (83, 15, 0, 1, 0) := Or.inr (Or.inr ⟨rfl, by decide +kernel, rfl, mm_in (i := 747) (by decide +kernel) rfl, (mm_in (i := 603) (by decide +kernel) rfl), (mm_in (i := 604) (by decide +kernel) rfl), _, rfl, rfl⟩)
theorem mm_fv2_0_9 : mm_vok (mm_on 0) (90, 7, 1, 0, 0) := Or.inr (Or.inr ⟨rfl, by decide +kernel, rfl, mm_in (i := 772) (by decide +kernel) rfl, (mm_in (i := 774) (by decide +kernel) rfl), (mm_inS (i := 27) (by decide +kernel) rfl), _, rfl, rfl⟩)
theorem mm_fv2_0_10 : mm_vok (mm_on 0) (105, 13, 2, 1, 0) := Or.inr (Or.inr ⟨rfl, by decide +kernel, rfl, mm_in (i := 787) (by decide +kernel) rfl, (mm_in (i := 382) (by decide +kernel) rfl), (mm_in (i := 383) (by decide +kernel) rfl), _, rfl, rfl⟩)
theorem mm_fv2_0_11 : mm_vok (mm_on 0) (114, 10, 3, 0, 0) := Or.inr (Or.inr ⟨rfl, by decide +kernel, rfl, mm_in (i := 802) (by decide +kernel) rfl, (mm_in (i := 804) (by decide +kernel) rfl), (mm_inS (i := 28) (by decide +kernel) rfl), _, rfl, rfl⟩)
theorem mm_fv2_1_0 : mm_vok (mm_on 1) (83, 15, 0, 1, 0) := Or.inr (Or.inr ⟨rfl, by decide +kernel, rfl, mm_in (i := 602) (by decide +kernel) rfl, (mm_in (i := 603) (by decide +kernel) rfl), (mm_in (i := 604) (by decide +kernel) rfl), _, rfl, rfl⟩)
theorem mm_fv2_1_1 : mm_vok (mm_on 1) (87, 20, 1, 1, 0) := Or.inr (Or.inr ⟨rfl, by decide +kernel, rfl, mm_in (i := 612) (by decide +kernel) rfl, (mm_in (i := 613) (by decide +kernel) rfl), (mm_in (i := 614) (by decide +kernel) rfl), _, rfl, rfl⟩)
theorem mm_fv2_1_2 : mm_vok (mm_on 1) (91, 21, 2, 1, 0) := Or.inr (Or.inr ⟨rfl, by decide +kernel, rfl, mm_in (i := 636) (by decide +kernel) rfl, (mm_in (i := 637) (by decide +kernel) rfl), (mm_in (i := 638) (by decide +kernel) rfl), _, rfl, rfl⟩)
theorem mm_fv2_1_3 : mm_vok (mm_on 1) (95, 60, 3, 4, 0) := Or.inr (Or.inr ⟨rfl, by decide +kernel, rfl, mm_in (i := 616) (by decide +kernel) rfl, (mm_in (i := 617) (by decide +kernel) rfl), (mm_in (i := 618) (by decide +kernel) rfl), _, rfl, rfl⟩)
theorem mm_fv2_1_4 : mm_vok (mm_on 1) (102, 17, 1, 1, 0) := Or.inr (Or.inr ⟨rfl, by decide +kernel, rfl, mm_in (i := 640) (by decide +kernel) rfl, (mm_in (i := 641) (by decide +kernel) rfl), (mm_in (i := 642) (by decide +kernel) rfl), _, rfl, rfl⟩)
theorem mm_fv2_1_5 : mm_vok (mm_on 1) (106, 22, 3, 1, 0) := Or.inr (Or.inr ⟨rfl, by decide +kernel, rfl, mm_in (i := 644) (by decide +kernel) rfl, (mm_in (i := 646) (by decide +kernel) rfl), (mm_inS (i := 23) (by decide +kernel) rfl), _, rfl, rfl⟩)
theorem mm_fv2_1_6 : mm_vok (mm_on 1) (114, 23, 2, 1, 0) := Or.inr (Or.inr ⟨rfl, by decide +kernel, rfl, mm_in (i := 672) (by decide +kernel) rfl, (mm_in (i := 674) (by decide +kernel) rfl), (mm_inS (i := 24) (by decide +kernel) rfl), _, rfl, rfl⟩)
theorem mm_fv2_1_7 : mm_vok (mm_on 1) (121, 59, 1, 4, 0) := Or.inr (Or.inr ⟨rfl, by decide +kernel, rfl, mm_in (i := 676) (by decide +kernel) rfl, (mm_in (i := 677) (by decide +kernel) rfl), (mm_in (i := 678) (by decide +kernel) rfl), _, rfl, rfl⟩)
theorem mm_fv2_2_0 : mm_vok (mm_on 2) (25, 25, 0, 2, 0) := Or.inr (Or.inr ⟨rfl, by decide +kernel, rfl, mm_in (i := 939) (by decide +kernel) rfl, (mm_in (i := 941) (by decide +kernel) rfl), (mm_inS (i := 30) (by decide +kernel) rfl), _, rfl, rfl⟩)
theorem mm_fv2_2_1 : mm_vok (mm_on 2) (34, 26, 2, 2, 0) := Or.inr (Or.inr ⟨rfl, by decide +kernel, rfl, mm_in (i := 945) (by decide +kernel) rfl, (mm_in (i := 947) (by decide +kernel) rfl), (mm_inS (i := 31) (by decide +kernel) rfl), _, rfl, rfl⟩)
theorem mm_fv2_2_2 : mm_vok (mm_on 2) (53, 29, 1, 2, 0) := Or.inr (Or.inr ⟨rfl, by decide +kernel, rfl, mm_in (i := 954) (by decide +kernel) rfl, (mm_in (i := 955) (by decide +kernel) rfl), (mm_in (i := 956) (by decide +kernel) rfl), _, rfl, rfl⟩)
theorem mm_fv2_2_3 : mm_vok (mm_on 2) (57, 28, 2, 2, 0) := Or.inr (Or.inr ⟨rfl, by decide +kernel, rfl, mm_in (i := 990) (by decide +kernel) rfl, (mm_in (i := 971) (by decide +kernel) rfl), (mm_in (i := 972) (by decide +kernel) rfl), _, rfl, rfl⟩)
theorem mm_fv2_2_4 : mm_vok (mm_on 2) (61, 30, 2, 2, 0) := Or.inr (Or.inr ⟨rfl, by decide +kernel, rfl, mm_in (i := 991) (by decide +kernel) rfl, (mm_in (i := 950) (by decide +kernel) rfl), (mm_in (i := 951) (by decide +kernel) rfl), _, rfl, rfl⟩)
theorem mm_fv2_3_0 : mm_vok (mm_on 3) (73, 39, 4, 3, 0) := Or.inr (Or.inr ⟨rfl, by decide +kernel, rfl, mm_in (i := 913) (by decide +kernel) rfl, (mm_in (i := 915) (by decide +kernel) rfl), (mm_inS (i := 29) (by decide +kernel) rfl), _, rfl, rfl⟩)
theorem mm_fv2_5_0 : mm_vok (mm_on 5) (31, 50, 0, 4, 0) := Or.inr (Or.inr ⟨rfl, by decide +kernel, rfl, mm_in (i := 172) (by decide +kernel) rfl, (mm_in (i := 173) (by decide +kernel) rfl), (mm_in (i := 174) (by decide +kernel) rfl), _, rfl, rfl⟩)
theorem mm_fv2_5_1 : mm_vok (mm_on 5) (89, 62, 4, 4, 0) := Or.inr (Or.inr ⟨rfl, by decide +kernel, rfl, mm_in (i := 626) (by decide +kernel) rfl, (mm_in (i := 628) (by decide +kernel) rfl), (mm_inS (i := 22) (by decide +kernel) rfl), _, rfl, rfl⟩)
theorem mm_fv2_7_0 : mm_vok (mm_on 7) (30, 50, 0, 4, 0) := Or.inr (Or.inr ⟨rfl, by decide +kernel, rfl, mm_in (i := 443) (by decide +kernel) rfl, (mm_in (i := 173) (by decide +kernel) rfl), (mm_in (i := 174) (by decide +kernel) rfl), _, rfl, rfl⟩)
theorem mm_fv2_7_1 : mm_vok (mm_on 7) (41, 104, 0, 7, 0) := Or.inr (Or.inr ⟨rfl, by decide +kernel, rfl, mm_in (i := 444) (by decide +kernel) rfl, (mm_in (i := 445) (by decide +kernel) rfl), (mm_in (i := 446) (by decide +kernel) rfl), _, rfl, rfl⟩)
theorem mm_fv2_7_2 : mm_vok (mm_on 7) (47, 76, 0, 5, 0) := Or.inr (Or.inr ⟨rfl, by decide +kernel, rfl, mm_in (i := 480) (by decide +kernel) rfl, (mm_in (i := 482) (by decide +kernel) rfl), (mm_inS (i := 4) (by decide +kernel) rfl), _, rfl, rfl⟩)
theorem mm_fv2_7_3 : mm_vok (mm_on 7) (51, 51, 0, 4, 0) := Or.inr (Or.inr ⟨rfl, by decide +kernel, rfl, mm_in (i := 582) (by decide +kernel) rfl, (mm_in (i := 583) (by decide +kernel) rfl), (mm_in (i := 584) (by decide +kernel) rfl), _, rfl, rfl⟩)
theorem mm_fv2_7_4 : mm_vok (mm_on 7) (57, 74, 1, 5, 0) := Or.inr (Or.inr ⟨rfl, by decide +kernel, rfl, mm_in (i := 488) (by decide +kernel) rfl, (mm_in (i := 490) (by decide +kernel) rfl), (mm_inS (i := 6) (by decide +kernel) rfl), _, rfl, rfl⟩)
theorem mm_fv2_7_5 : mm_vok (mm_on 7) (61, 105, 0, 7, 0) := Or.inr (Or.inr ⟨rfl, by decide +kernel, rfl, mm_in (i := 496) (by decide +kernel) rfl, (mm_in (i := 449) (by decide +kernel) rfl), (mm_in (i := 450) (by decide +kernel) rfl), _, rfl, rfl⟩)
theorem mm_fv2_7_6 : mm_vok (mm_on 7) (64, 77, 1, 5, 0) := Or.inr (Or.inr ⟨rfl, by decide +kernel, rfl, mm_in (i := 484) (by decide +kernel) rfl, (mm_in (i := 486) (by decide +kernel) rfl), (mm_inS (i := 5) (by decide +kernel) rfl), _, rfl, rfl⟩)
theorem mm_fv2_7_7 : mm_vok (mm_on 7) (67, 57, 0, 4, 0) := Or.inr (Or.inr ⟨rfl, by decide +kernel, rfl, mm_in (i := 492) (by decide +kernel) rfl, (mm_in (i := 493) (by decide +kernel) rfl), (mm_in (i := 494) (by decide +kernel) rfl), _, rfl, rfl⟩)
theorem mm_fv2_7_8 : mm_vok (mm_on 7) (70, 84, 1, 5, 0) := Or.inr (Or.inr ⟨rfl, by decide +kernel, rfl, mm_in (i := 497) (by decide +kernel) rfl, (mm_in (i := 499) (by decide +kernel) rfl), (mm_inS (i := 7) (by decide +kernel) rfl), _, rfl, rfl⟩)
theorem mm_fv2_7_9 : mm_vok (mm_on 7) (73, 80, 0, 5, 0) := Or.inr (Or.inr ⟨rfl, by decide +kernel, rfl, mm_in (i := 536) (by decide +kernel) rfl, (mm_in (i := 538) (by decide +kernel) rfl), (mm_inS (i := 15) (by decide +kernel) rfl), _, rfl, rfl⟩)
theorem mm_fv2_7_10 : mm_vok (mm_on 7) (76, 81, 0, 5, 0) := Or.inr (Or.inr ⟨rfl, by decide +kernel, rfl, mm_in (i := 546) (by decide +kernel) rfl, (mm_in (i := 548) (by decide +kernel) rfl), (mm_inS (i := 17) (by decide +kernel) rfl), _, rfl, rfl⟩)
theorem mm_fv2_7_11 : mm_vok (mm_on 7) (79, 82, 0, 5, 0) := Or.inr (Or.inr ⟨rfl, by decide +kernel, rfl, mm_in (i := 550) (by decide +kernel) rfl, (mm_in (i := 552) (by decide +kernel) rfl), (mm_inS (i := 18) (by decide +kernel) rfl), _, rfl, rfl⟩)
theorem mm_fv2_7_12 : mm_vok (mm_on 7) (82, 83, 0, 5, 0) := Or.inr (Or.inr ⟨rfl, by decide +kernel, rfl, mm_in (i := 562) (by decide +kernel) rfl, (mm_in (i := 564) (by decide +kernel) rfl), (mm_inS (i := 19) (by decide +kernel) rfl), _, rfl, rfl⟩)
theorem mm_fv2_7_13 : mm_vok (mm_on 7) (85, 79, 1, 5, 0) := Or.inr (Or.inr ⟨rfl, by decide +kernel, rfl, mm_in (i := 574) (by decide +kernel) rfl, (mm_in (i := 576) (by decide +kernel) rfl), (mm_inS (i := 20) (by decide +kernel) rfl), _, rfl, rfl⟩)
theorem mm_fv2_7_14 : mm_vok (mm_on 7) (88, 75, 1, 5, 0) := Or.inr (Or.inr ⟨rfl, by decide +kernel, rfl, mm_in (i := 532) (by decide +kernel) rfl, (mm_in (i := 534) (by decide +kernel) rfl), (mm_inS (i := 14) (by decide +kernel) rfl), _, rfl, rfl⟩)
theorem mm_fv2_7_15 : mm_vok (mm_on 7) (100, 78, 2, 5, 0) := Or.inr (Or.inr ⟨rfl, by decide +kernel, rfl, mm_in (i := 540) (by decide +kernel) rfl, (mm_in (i := 542) (by decide +kernel) rfl), (mm_inS (i := 16) (by decide +kernel) rfl), _, rfl, rfl⟩)
theorem mm_fv2_7_16 : mm_vok (mm_on 7) (104, 52, 2, 4, 0) := Or.inr (Or.inr ⟨rfl, by decide +kernel, rfl, mm_in (i := 578) (by decide +kernel) rfl, (mm_in (i := 579) (by decide +kernel) rfl), (mm_in (i := 580) (by decide +kernel) rfl), _, rfl, rfl⟩)
theorem mm_fv2_7_17 : mm_vok (mm_on 7) (132, 53, 1, 4, 0) := Or.inr (Or.inr ⟨rfl, by decide +kernel, rfl, mm_in (i := 554) (by decide +kernel) rfl, (mm_in (i := 555) (by decide +kernel) rfl), (mm_in (i := 556) (by decide +kernel) rfl), _, rfl, rfl⟩)
theorem mm_fv2_7_18 : mm_vok (mm_on 7) (136, 55, 2, 4, 0) := Or.inr (Or.inr ⟨rfl, by decide +kernel, rfl, mm_in (i := 558) (by decide +kernel) rfl, (mm_in (i := 559) (by decide +kernel) rfl), (mm_in (i := 560) (by decide +kernel) rfl), _, rfl, rfl⟩)
theorem mm_fv2_7_19 : mm_vok (mm_on 7) (140, 54, 1, 4, 0) := Or.inr (Or.inr ⟨rfl, by decide +kernel, rfl, mm_in (i := 566) (by decide +kernel) rfl, (mm_in (i := 567) (by decide +kernel) rfl), (mm_in (i := 568) (by decide +kernel) rfl), _, rfl, rfl⟩)
theorem mm_fv2_7_20 : mm_vok (mm_on 7) (143, 56, 2, 4, 0) := Or.inr (Or.inr ⟨rfl, by decide +kernel, rfl, mm_in (i := 570) (by decide +kernel) rfl, (mm_in (i := 571) (by decide +kernel) rfl), (mm_in (i := 572) (by decide +kernel) rfl), _, rfl, rfl⟩)
theorem mm_fv2_7_21 : mm_vok (mm_on 7) (146, 85, 1, 5, 0) := Or.inr (Or.inr ⟨rfl, by decide +kernel, rfl, mm_in (i := 501) (by decide +kernel) rfl, (mm_in (i := 503) (by decide +kernel) rfl), (mm_inS (i := 8) (by decide +kernel) rfl), _, rfl, rfl⟩)
theorem mm_fv2_7_22 : mm_vok (mm_on 7) (149, 58, 1, 4, 0) := Or.inr (Or.inr ⟨rfl, by decide +kernel, rfl, mm_in (i := 513) (by decide +kernel) rfl, (mm_in (i := 514) (by decide +kernel) rfl), (mm_in (i := 515) (by decide +kernel) rfl), _, rfl, rfl⟩)
theorem mm_fv2_7_23 : mm_vok (mm_on 7) (153, 86, 1, 5, 0) := Or.inr (Or.inr ⟨rfl, by decide +kernel, rfl, mm_in (i := 505) (by decide +kernel) rfl, (mm_in (i := 507) (by decide +kernel) rfl), (mm_inS (i := 9) (by decide +kernel) rfl), _, rfl, rfl⟩)
theorem mm_fv2_7_24 : mm_vok (mm_on 7) (156, 87, 1, 5, 0) := Or.inr (Or.inr ⟨rfl, by decide +kernel, rfl, mm_in (i := 509) (by decide +kernel) rfl, (mm_in (i := 511) (by decide +kernel) rfl), (mm_inS (i := 10) (by decide +kernel) rfl), _, rfl, rfl⟩)
theorem mm_fv2_7_25 : mm_vok (mm_on 7) (159, 88, 1, 5, 0) := Or.inr (Or.inr ⟨rfl, by decide +kernel, rfl, mm_in (i := 517) (by decide +kernel) rfl, (mm_in (i := 519) (by decide +kernel) rfl), (mm_inS (i := 11) (by decide +kernel) rfl), _, rfl, rfl⟩)
theorem mm_fv2_7_26 : mm_vok (mm_on 7) (162, 89, 1, 5, 0) := Or.inr (Or.inr ⟨rfl, by decide +kernel, rfl, mm_in (i := 521) (by decide +kernel) rfl, (mm_in (i := 523) (by decide +kernel) rfl), (mm_inS (i := 12) (by decide +kernel) rfl), _, rfl, rfl⟩)
theorem mm_fv2_7_27 : mm_vok (mm_on 7) (165, 90, 1, 5, 0) := Or.inr (Or.inr ⟨rfl, by decide +kernel, rfl, mm_in (i := 525) (by decide +kernel) rfl, (mm_in (i := 527) (by decide +kernel) rfl), (mm_inS (i := 13) (by decide +kernel) rfl), _, rfl, rfl⟩)
theorem mm_fv2_8_0 : mm_vok (mm_on 8) (40, 96, 1, 6, 0) := Or.inr (Or.inr ⟨rfl, by decide +kernel, rfl, mm_in (i := 1032) (by decide +kernel) rfl, (mm_in (i := 1034) (by decide +kernel) rfl), (mm_inS (i := 33) (by decide +kernel) rfl), _, rfl, rfl⟩)
theorem mm_fv2_8_1 : mm_vok (mm_on 8) (50, 100, 2, 6, 0) := Or.inr (Or.inr ⟨rfl, by decide +kernel, rfl, mm_in (i := 1049) (by decide +kernel) rfl, (mm_in (i := 1051) (by decide +kernel) rfl), (mm_inS (i := 34) (by decide +kernel) rfl), _, rfl, rfl⟩)
theorem mm_fv2_8_2 : mm_vok (mm_on 8) (54, 101, 2, 6, 0) := Or.inr (Or.inr ⟨rfl, by decide +kernel, rfl, mm_in (i := 1056) (by decide +kernel) rfl, (mm_in (i := 1057) (by decide +kernel) rfl), (mm_in (i := 1058) (by decide +kernel) rfl), _, rfl, rfl⟩)
theorem mm_fv2_9_0 : mm_vok (mm_on 9) (21, 0, 0, 0, 8) := Or.inl ⟨rfl, rfl, rfl⟩
theorem mm_fv2_9_1 : mm_vok (mm_on 9) (27, 0, 0, 0, 9) := Or.inr (Or.inl ⟨rfl, rfl, rfl⟩)
theorem mm_fv2_9_2 : mm_vok (mm_on 9) (41, 105, 0, 7, 0) := Or.inr (Or.inr ⟨rfl, by decide +kernel, rfl, mm_in (i := 448) (by decide +kernel) rfl, (mm_in (i := 449) (by decide +kernel) rfl), (mm_in (i := 450) (by decide +kernel) rfl), _, rfl, rfl⟩)
theorem mm_fv2_9_3 : mm_vok (mm_on 9) (44, 109, 1, 7, 0) := Or.inr (Or.inr ⟨rfl, by decide +kernel, rfl, mm_in (i := 452) (by decide +kernel) rfl, (mm_in (i := 454) (by decide +kernel) rfl), (mm_inS (i := 0) (by decide +kernel) rfl), _, rfl, rfl⟩)
theorem mm_fv2_9_4 : mm_vok (mm_on 9) (61, 106, 0, 7, 0) := Or.inr (Or.inr ⟨rfl, by decide +kernel, rfl, mm_in (i := 462) (by decide +kernel) rfl, (mm_in (i := 464) (by decide +kernel) rfl), (mm_inS (i := 1) (by decide +kernel) rfl), _, rfl, rfl⟩)
theorem mm_fv2_9_5 : mm_vok (mm_on 9) (67, 107, 0, 7, 0) := Or.inr (Or.inr ⟨rfl, by decide +kernel, rfl, mm_in (i := 473) (by decide +kernel) rfl, (mm_in (i := 475) (by decide +kernel) rfl), (mm_inS (i := 3) (by decide +kernel) rfl), _, rfl, rfl⟩)
theorem mm_fv2_9_6 : mm_vok (mm_on 9) (80, 108, 1, 7, 0) := Or.inr (Or.inr ⟨rfl, by decide +kernel, rfl, mm_in (i := 466) (by decide +kernel) rfl, (mm_in (i := 468) (by decide +kernel) rfl), (mm_inS (i := 2) (by decide +kernel) rfl), _, rfl, rfl⟩)
theorem mm_fv2_10_0 : mm_vok (mm_on 10) (71, 13, 2, 1, 0) := Or.inr (Or.inr ⟨rfl, by decide +kernel, rfl, mm_in (i := 381) (by decide +kernel) rfl, (mm_in (i := 382) (by decide +kernel) rfl), (mm_in (i := 383) (by decide +kernel) rfl), _, rfl, rfl⟩)
theorem mm_fv2_10_1 : mm_vok (mm_on 10) (84, 103, 1, 7, 0) := Or.inr (Or.inr ⟨rfl, by decide +kernel, rfl, mm_in (i := 427) (by decide +kernel) rfl, (mm_in (i := 428) (by decide +kernel) rfl), (mm_in (i := 429) (by decide +kernel) rfl), _, rfl, rfl⟩)
theorem mm_fv2_10_2 : mm_vok (mm_on 10) (88, 73, 1, 5, 0) := Or.inr (Or.inr ⟨rfl, by decide +kernel, rfl, mm_in (i := 439) (by decide +kernel) rfl, (mm_in (i := 440) (by decide +kernel) rfl), (mm_in (i := 441) (by decide +kernel) rfl), _, rfl, rfl⟩)
theorem mm_fv2_10_3 : mm_vok (mm_on 10) (96, 156, 0, 8, 0) := Or.inr (Or.inr ⟨rfl, by decide +kernel, rfl, mm_in (i := 586) (by decide +kernel) rfl, (mm_in (i := 588) (by decide +kernel) rfl), (mm_inS (i := 21) (by decide +kernel) rfl), _, rfl, rfl⟩)
theorem mm_fv2_10_4 : mm_vok (mm_on 10) (111, 19, 3, 1, 0) := Or.inr (Or.inr ⟨rfl, by decide +kernel, rfl, mm_in (i := 598) (by decide +kernel) rfl, (mm_in (i := 599) (by decide +kernel) rfl), (mm_in (i := 600) (by decide +kernel) rfl), _, rfl, rfl⟩)
theorem mm_fv2_10_5 : mm_vok (mm_on 10) (115, 157, 1, 8, 0) := Or.inr (Or.inr ⟨rfl, by decide +kernel, rfl, mm_in (i := 691) (by decide +kernel) rfl, (mm_in (i := 693) (by decide +kernel) rfl), (mm_inS (i := 25) (by decide +kernel) rfl), _, rfl, rfl⟩)
theorem mm_fv2_10_6 : mm_vok (mm_on 10) (119, 16, 1, 1, 0) := Or.inr (Or.inr ⟨rfl, by decide +kernel, rfl, mm_in (i := 695) (by decide +kernel) rfl, (mm_in (i := 696) (by decide +kernel) rfl), (mm_in (i := 697) (by decide +kernel) rfl), _, rfl, rfl⟩)
theorem mm_fv2_10_7 : mm_vok (mm_on 10) (135, 1, 3, 0, 0) := Or.inr (Or.inr ⟨rfl, by decide +kernel, rfl, mm_in (i := 708) (by decide +kernel) rfl, (mm_in (i := 709) (by decide +kernel) rfl), (mm_in (i := 710) (by decide +kernel) rfl), _, rfl, rfl⟩)
theorem mm_fv2_10_8 : mm_vok (mm_on 10) (139, 2, 3, 0, 0) := Or.inr (Or.inr ⟨rfl, by decide +kernel, rfl, mm_in (i := 724) (by decide +kernel) rfl, (mm_in (i := 725) (by decide +kernel) rfl), (mm_in (i := 726) (by decide +kernel) rfl), _, rfl, rfl⟩)
theorem mm_fv2_10_9 : mm_vok (mm_on 10) (145, 3, 3, 0, 0) := Or.inr (Or.inr ⟨rfl, by decide +kernel, rfl, mm_in (i := 735) (by decide +kernel) rfl, (mm_in (i := 736) (by decide +kernel) rfl), (mm_in (i := 737) (by decide +kernel) rfl), _, rfl, rfl⟩)
theorem mm_fv2_10_10 : mm_vok (mm_on 10) (148, 4, 3, 0, 0) := Or.inr (Or.inr ⟨rfl, by decide +kernel, rfl, mm_in (i := 755) (by decide +kernel) rfl, (mm_in (i := 756) (by decide +kernel) rfl), (mm_in (i := 757) (by decide +kernel) rfl), _, rfl, rfl⟩)
theorem mm_fv2_10_11 : mm_vok (mm_on 10) (151, 6, 2, 0, 0) := Or.inr (Or.inr ⟨rfl, by decide +kernel, rfl, mm_in (i := 768) (by decide +kernel) rfl, (mm_in (i := 769) (by decide +kernel) rfl), (mm_in (i := 770) (by decide +kernel) rfl), _, rfl, rfl⟩)
theorem mm_fv2_10_12 : mm_vok (mm_on 10) (155, 8, 2, 0, 0) := Or.inr (Or.inr ⟨rfl, by decide +kernel, rfl, mm_in (i := 783) (by decide +kernel) rfl, (mm_in (i := 784) (by decide +kernel) rfl), (mm_in (i := 785) (by decide +kernel) rfl), _, rfl, rfl⟩)
theorem mm_fv2_10_13 : mm_vok (mm_on 10) (165, 9, 2, 0, 0) := Or.inr (Or.inr ⟨rfl, by decide +kernel, rfl, mm_in (i := 797) (by decide +kernel) rfl, (mm_in (i := 798) (by decide +kernel) rfl), (mm_in (i := 799) (by decide +kernel) rfl), _, rfl, rfl⟩)
theorem mm_fv2_10_14 : mm_vok (mm_on 10) (171, 11, 1, 0, 0) := Or.inr (Or.inr ⟨rfl, by decide +kernel, rfl, mm_in (i := 819) (by decide +kernel) rfl, (mm_in (i := 820) (by decide +kernel) rfl), (mm_in (i := 821) (by decide +kernel) rfl), _, rfl, rfl⟩)
theorem mm_fv2_10_15 : mm_vok (mm_on 10) (175, 34, 1, 3, 0) := Or.inr (Or.inr ⟨rfl, by decide +kernel, rfl, mm_in (i := 823) (by decide +kernel) rfl, (mm_in (i := 824) (by decide +kernel) rfl), (mm_in (i := 825) (by decide +kernel) rfl), _, rfl, rfl⟩)
theorem mm_fv2_10_16 : mm_vok (mm_on 10) (209, 35, 1, 3, 0) := Or.inr (Or.inr ⟨rfl, by decide +kernel, rfl, mm_in (i := 880) (by decide +kernel) rfl, (mm_in (i := 881) (by decide +kernel) rfl), (mm_in (i := 882) (by decide +kernel) rfl), _, rfl, rfl⟩)
theorem mm_fv2_10_17 : mm_vok (mm_on 10) (215, 38, 1, 3, 0) := Or.inr (Or.inr ⟨rfl, by decide +kernel, rfl, mm_in (i := 908) (by decide +kernel) rfl, (mm_in (i := 909) (by decide +kernel) rfl), (mm_in (i := 910) (by decide +kernel) rfl), _, rfl, rfl⟩)
theorem mm_fv2_10_18 : mm_vok (mm_on 10) (231, 27, 2, 2, 0) := Or.inr (Or.inr ⟨rfl, by decide +kernel, rfl, mm_in (i := 935) (by decide +kernel) rfl, (mm_in (i := 936) (by decide +kernel) rfl), (mm_in (i := 937) (by decide +kernel) rfl), _, rfl, rfl⟩)
theorem mm_fv2_10_19 : mm_vok (mm_on 10) (235, 30, 2, 2, 0) := Or.inr (Or.inr ⟨rfl, by decide +kernel, rfl, mm_in (i := 949) (by decide +kernel) rfl, (mm_in (i := 950) (by decide +kernel) rfl), (mm_in (i := 951) (by decide +kernel) rfl), _, rfl, rfl⟩)
theorem mm_fv2_10_20 : mm_vok (mm_on 10) (238, 29, 1, 2, 0) := Or.inr (Or.inr ⟨rfl, by decide +kernel, rfl, mm_in (i := 958) (by decide +kernel) rfl, (mm_in (i := 955) (by decide +kernel) rfl), (mm_in (i := 956) (by decide +kernel) rfl), _, rfl, rfl⟩)
theorem mm_fv2_10_21 : mm_vok (mm_on 10) (248, 28, 2, 2, 0) := Or.inr (Or.inr ⟨rfl, by decide +kernel, rfl, mm_in (i := 970) (by decide +kernel) rfl, (mm_in (i := 971) (by decide +kernel) rfl), (mm_in (i := 972) (by decide +kernel) rfl), _, rfl, rfl⟩)
theorem mm_fv2_10_22 : mm_vok (mm_on 10) (258, 158, 2, 8, 0) := Or.inr (Or.inr ⟨rfl, by decide +kernel, rfl, mm_in (i := 982) (by decide +kernel) rfl, (mm_in (i := 984) (by decide +kernel) rfl), (mm_inS (i := 32) (by decide +kernel) rfl), _, rfl, rfl⟩)
theorem mm_fv2_10_23 : mm_vok (mm_on 10) (262, 31, 3, 2, 0) := Or.inr (Or.inr ⟨rfl, by decide +kernel, rfl, mm_in (i := 986) (by decide +kernel) rfl, (mm_in (i := 987) (by decide +kernel) rfl), (mm_in (i := 988) (by decide +kernel) rfl), _, rfl, rfl⟩)
theorem mm_fv2_10_24 : mm_vok (mm_on 10) (272, 93, 4, 6, 0) := Or.inr (Or.inr ⟨rfl, by decide +kernel, rfl, mm_in (i := 1001) (by decide +kernel) rfl, (mm_in (i := 1002) (by decide +kernel) rfl), (mm_in (i := 1003) (by decide +kernel) rfl), _, rfl, rfl⟩)
theorem mm_fv2_10_25 : mm_vok (mm_on 10) (276, 94, 2, 6, 0) := Or.inr (Or.inr ⟨rfl, by decide +kernel, rfl, mm_in (i := 1010) (by decide +kernel) rfl, (mm_in (i := 1011) (by decide +kernel) rfl), (mm_in (i := 1012) (by decide +kernel) rfl), _, rfl, rfl⟩)
theorem mm_fv2_10_26 : mm_vok (mm_on 10) (280, 95, 1, 6, 0) := Or.inr (Or.inr ⟨rfl, by decide +kernel, rfl, mm_in (i := 1023) (by decide +kernel) rfl, (mm_in (i := 1024) (by decide +kernel) rfl), (mm_in (i := 1025) (by decide +kernel) rfl), _, rfl, rfl⟩)
theorem mm_fv2_10_27 : mm_vok (mm_on 10) (283, 97, 0, 6, 0) := Or.inr (Or.inr ⟨rfl, by decide +kernel, rfl, mm_in (i := 1028) (by decide +kernel) rfl, (mm_in (i := 1029) (by decide +kernel) rfl), (mm_in (i := 1030) (by decide +kernel) rfl), _, rfl, rfl⟩)
theorem mm_fv2_10_28 : mm_vok (mm_on 10) (287, 98, 0, 6, 0) := Or.inr (Or.inr ⟨rfl, by decide +kernel, rfl, mm_in (i := 1036) (by decide +kernel) rfl, (mm_in (i := 1037) (by decide +kernel) rfl), (mm_in (i := 1038) (by decide +kernel) rfl), _, rfl, rfl⟩)
theorem mm_fv2_10_29 : mm_vok (mm_on 10) (290, 99, 1, 6, 0) := Or.inr (Or.inr ⟨rfl, by decide +kernel, rfl, mm_in (i := 1044) (by decide +kernel) rfl, (mm_in (i := 1045) (by decide +kernel) rfl), (mm_in (i := 1046) (by decide +kernel) rfl), _, rfl, rfl⟩)
theorem mm_fv2_10_30 : mm_vok (mm_on 10) (293, 101, 2, 6, 0) := Or.inr (Or.inr ⟨rfl, by decide +kernel, rfl, mm_in (i := 1061) (by decide +kernel) rfl, (mm_in (i := 1057) (by decide +kernel) rfl), (mm_in (i := 1058) (by decide +kernel) rfl), _, rfl, rfl⟩)
theorem mm_fv2_10_31 : mm_vok (mm_on 10) (297, 155, 1, 8, 0) := Or.inr (Or.inr ⟨rfl, by decide +kernel, rfl, mm_in (i := 1066) (by decide +kernel) rfl, (mm_in (i := 1068) (by decide +kernel) rfl), (mm_inS (i := 35) (by decide +kernel) rfl), _, rfl, rfl⟩)
theorem mm_fv2_10_32 : mm_vok (mm_on 10) (301, 14, 1, 1, 0) := Or.inr (Or.inr ⟨rfl, by decide +kernel, rfl, mm_in (i := 1070) (by decide +kernel) rfl, (mm_in (i := 713) (by decide +kernel) rfl), (mm_in (i := 714) (by decide +kernel) rfl), _, rfl, rfl⟩)
theorem mm_fv2_10_33 : mm_vok (mm_on 10) (312, 15, 0, 1, 0) := Or.inr (Or.inr ⟨rfl, by decide +kernel, rfl, mm_in (i := 1079) (by decide +kernel) rfl, (mm_in (i := 603) (by decide +kernel) rfl), (mm_in (i := 604) (by decide +kernel) rfl), _, rfl, rfl⟩)
theorem mm_fv2_10_34 : mm_vok (mm_on 10) (327, 17, 1, 1, 0) := Or.inr (Or.inr ⟨rfl, by decide +kernel, rfl, mm_in (i := 1080) (by decide +kernel) rfl, (mm_in (i := 641) (by decide +kernel) rfl), (mm_in (i := 642) (by decide +kernel) rfl), _, rfl, rfl⟩)
theorem mm_fv2_11_0 : mm_vok (mm_on 11) (169, 202, 1, 9, 0) := Or.inr (Or.inr ⟨rfl, by decide +kernel, rfl, mm_in (i := 1087) (by decide +kernel) rfl, (mm_in (i := 1089) (by decide +kernel) rfl), (mm_inS (i := 36) (by decide +kernel) rfl), _, rfl, rfl⟩)
theorem mm_fv2_11_1 : mm_vok (mm_on 11) (176, 166, 1, 9, 0) := Or.inr (Or.inr ⟨rfl, by decide +kernel, rfl, mm_in (i := 1393) (by decide +kernel) rfl, (mm_in (i := 1395) (by decide +kernel) rfl), (mm_inS (i := 37) (by decide +kernel) rfl), _, rfl, rfl⟩)
theorem mm_fv2_11_2 : mm_vok (mm_on 11) (185, 168, 1, 9, 0) := Or.inr (Or.inr ⟨rfl, by decide +kernel, rfl, mm_in (i := 1413) (by decide +kernel) rfl, (mm_in (i := 1415) (by decide +kernel) rfl), (mm_inS (i := 40) (by decide +kernel) rfl), _, rfl, rfl⟩)
theorem mm_fv2_11_3 : mm_vok (mm_on 11) (262, 174, 1, 9, 0) := Or.inr (Or.inr ⟨rfl, by decide +kernel, rfl, mm_in (i := 1431) (by decide +kernel) rfl, (mm_in (i := 1433) (by decide +kernel) rfl), (mm_inS (i := 42) (by decide +kernel) rfl), _, rfl, rfl⟩)
theorem mm_fv2_11_4 : mm_vok (mm_on 11) (266, 173, 1, 9, 0) := Or.inr (Or.inr ⟨rfl, by decide +kernel, rfl, mm_in (i := 1443) (by decide +kernel) rfl, (mm_in (i := 1445) (by decide +kernel) rfl), (mm_inS (i := 45) (by decide +kernel) rfl), _, rfl, rfl⟩)
theorem mm_fv2_11_5 : mm_vok (mm_on 11) (269, 172, 0, 9, 0) := Or.inr (Or.inr ⟨rfl, by decide +kernel, rfl, mm_in (i := 1409) (by decide +kernel) rfl, (mm_in (i := 1411) (by decide +kernel) rfl), (mm_inS (i := 39) (by decide +kernel) rfl), _, rfl, rfl⟩)
theorem mm_fv2_11_6 : mm_vok (mm_on 11) (272, 176, 1, 9, 0) := Or.inr (Or.inr ⟨rfl, by decide +kernel, rfl, mm_in (i := 1522) (by decide +kernel) rfl, (mm_in (i := 1524) (by decide +kernel) rfl), (mm_inS (i := 60) (by decide +kernel) rfl), _, rfl, rfl⟩)
theorem mm_fv2_11_7 : mm_vok (mm_on 11) (276, 177, 2, 9, 0) := Or.inr (Or.inr ⟨rfl, by decide +kernel, rfl, mm_in (i := 1439) (by decide +kernel) rfl, (mm_in (i := 1441) (by decide +kernel) rfl), (mm_inS (i := 44) (by decide +kernel) rfl), _, rfl, rfl⟩)
theorem mm_fv2_11_8 : mm_vok (mm_on 11) (289, 179, 2, 9, 0) := Or.inr (Or.inr ⟨rfl, by decide +kernel, rfl, mm_in (i := 1487) (by decide +kernel) rfl, (mm_in (i := 1489) (by decide +kernel) rfl), (mm_inS (i := 54) (by decide +kernel) rfl), _, rfl, rfl⟩)
theorem mm_fv2_11_9 : mm_vok (mm_on 11) (293, 180, 0, 9, 0) := Or.inr (Or.inr ⟨rfl, by decide +kernel, rfl, mm_in (i := 1476) (by decide +kernel) rfl, (mm_in (i := 1478) (by decide +kernel) rfl), (mm_inS (i := 52) (by decide +kernel) rfl), _, rfl, rfl⟩)
theorem mm_fv2_11_10 : mm_vok (mm_on 11) (300, 182, 0, 9, 0) := Or.inr (Or.inr ⟨rfl, by decide +kernel, rfl, mm_in (i := 1483) (by decide +kernel) rfl, (mm_in (i := 1485) (by decide +kernel) rfl), (mm_inS (i := 53) (by decide +kernel) rfl), _, rfl, rfl⟩)
theorem mm_fv2_11_11 : mm_vok (mm_on 11) (303, 186, 0, 9, 0) := Or.inr (Or.inr ⟨rfl, by decide +kernel, rfl, mm_in (i := 1500) (by decide +kernel) rfl, (mm_in (i := 1502) (by decide +kernel) rfl), (mm_inS (i := 57) (by decide +kernel) rfl), _, rfl, rfl⟩)
theorem mm_fv2_11_12 : mm_vok (mm_on 11) (309, 181, 1, 9, 0) := Or.inr (Or.inr ⟨rfl, by decide +kernel, rfl, mm_in (i := 1491) (by decide +kernel) rfl, (mm_in (i := 1493) (by decide +kernel) rfl), (mm_inS (i := 55) (by decide +kernel) rfl), _, rfl, rfl⟩)
theorem mm_fv2_11_13 : mm_vok (mm_on 11) (312, 188, 0, 9, 0) := Or.inr (Or.inr ⟨rfl, by decide +kernel, rfl, mm_in (i := 1466) (by decide +kernel) rfl, (mm_in (i := 1468) (by decide +kernel) rfl), (mm_inS (i := 50) (by decide +kernel) rfl), _, rfl, rfl⟩)
theorem mm_fv2_11_14 : mm_vok (mm_on 11) (315, 185, 0, 9, 0) := Or.inr (Or.inr ⟨rfl, by decide +kernel, rfl, mm_in (i := 1458) (by decide +kernel) rfl, (mm_in (i := 1460) (by decide +kernel) rfl), (mm_inS (i := 48) (by decide +kernel) rfl), _, rfl, rfl⟩)
theorem mm_fv2_11_15 : mm_vok (mm_on 11) (319, 184, 1, 9, 0) := Or.inr (Or.inr ⟨rfl, by decide +kernel, rfl, mm_in (i := 1472) (by decide +kernel) rfl, (mm_in (i := 1474) (by decide +kernel) rfl), (mm_inS (i := 51) (by decide +kernel) rfl), _, rfl, rfl⟩)
theorem mm_fv2_11_16 : mm_vok (mm_on 11) (322, 189, 0, 9, 0) := Or.inr (Or.inr ⟨rfl, by decide +kernel, rfl, mm_in (i := 1462) (by decide +kernel) rfl, (mm_in (i := 1464) (by decide +kernel) rfl), (mm_inS (i := 49) (by decide +kernel) rfl), _, rfl, rfl⟩)
theorem mm_fv2_11_17 : mm_vok (mm_on 11) (325, 187, 1, 9, 0) := Or.inr (Or.inr ⟨rfl, by decide +kernel, rfl, mm_in (i := 1495) (by decide +kernel) rfl, (mm_in (i := 1497) (by decide +kernel) rfl), (mm_inS (i := 56) (by decide +kernel) rfl), _, rfl, rfl⟩)
theorem mm_fv2_11_18 : mm_vok (mm_on 11) (328, 178, 3, 9, 0) := Or.inr (Or.inr ⟨rfl, by decide +kernel, rfl, mm_in (i := 1518) (by decide +kernel) rfl, (mm_in (i := 1520) (by decide +kernel) rfl), (mm_inS (i := 59) (by decide +kernel) rfl), _, rfl, rfl⟩)
theorem mm_fv2_11_19 : mm_vok (mm_on 11) (335, 175, 0, 9, 0) := Or.inr (Or.inr ⟨rfl, by decide +kernel, rfl, mm_in (i := 1531) (by decide +kernel) rfl, (mm_in (i := 1533) (by decide +kernel) rfl), (mm_inS (i := 62) (by decide +kernel) rfl), _, rfl, rfl⟩)
theorem mm_fv2_11_20 : mm_vok (mm_on 11) (350, 190, 0, 9, 0) := Or.inr (Or.inr ⟨rfl, by decide +kernel, rfl, mm_in (i := 1454) (by decide +kernel) rfl, (mm_in (i := 1456) (by decide +kernel) rfl), (mm_inS (i := 47) (by decide +kernel) rfl), _, rfl, rfl⟩)
theorem mm_fv2_11_21 : mm_vok (mm_on 11) (353, 191, 3, 9, 0) := Or.inr (Or.inr ⟨rfl, by decide +kernel, rfl, mm_in (i := 1435) (by decide +kernel) rfl, (mm_in (i := 1437) (by decide +kernel) rfl), (mm_inS (i := 43) (by decide +kernel) rfl), _, rfl, rfl⟩)
theorem mm_fv2_11_22 : mm_vok (mm_on 11) (357, 196, 0, 9, 0) := Or.inr (Or.inr ⟨rfl, by decide +kernel, rfl, mm_in (i := 1450) (by decide +kernel) rfl, (mm_in (i := 1452) (by decide +kernel) rfl), (mm_inS (i := 46) (by decide +kernel) rfl), _, rfl, rfl⟩)
theorem mm_fv2_11_23 : mm_vok (mm_on 11) (360, 192, 0, 9, 0) := Or.inr (Or.inr ⟨rfl, by decide +kernel, rfl, mm_in (i := 1513) (by decide +kernel) rfl, (mm_in (i := 1515) (by decide +kernel) rfl), (mm_inS (i := 58) (by decide +kernel) rfl), _, rfl, rfl⟩)
theorem mm_fv2_11_24 : mm_vok (mm_on 11) (363, 193, 0, 9, 0) := Or.inr (Or.inr ⟨rfl, by decide +kernel, rfl, mm_in (i := 1527) (by decide +kernel) rfl, (mm_in (i := 1529) (by decide +kernel) rfl), (mm_inS (i := 61) (by decide +kernel) rfl), _, rfl, rfl⟩)
theorem mm_fv2_11_25 : mm_vok (mm_on 11) (366, 194, 0, 9, 0) := Or.inr (Or.inr ⟨rfl, by decide +kernel, rfl, mm_in (i := 1539) (by decide +kernel) rfl, (mm_in (i := 1541) (by decide +kernel) rfl), (mm_inS (i := 63) (by decide +kernel) rfl), _, rfl, rfl⟩)
theorem mm_fv2_11_26 : mm_vok (mm_on 11) (369, 195, 0, 9, 0) := Or.inr (Or.inr ⟨rfl, by decide +kernel, rfl, mm_in (i := 1543) (by decide +kernel) rfl, (mm_in (i := 1545) (by decide +kernel) rfl), (mm_inS (i := 64) (by decide +kernel) rfl), _, rfl, rfl⟩)
theorem mm_fv2_11_27 : mm_vok (mm_on 11) (372, 197, 0, 9, 0) := Or.inr (Or.inr ⟨rfl, by decide +kernel, rfl, mm_in (i := 1426) (by decide +kernel) rfl, (mm_in (i := 1428) (by decide +kernel) rfl), (mm_inS (i := 41) (by decide +kernel) rfl), _, rfl, rfl⟩)
theorem mm_fv2_11_28 : mm_vok (mm_on 11) (375, 198, 0, 9, 0) := Or.inr (Or.inr ⟨rfl, by decide +kernel, rfl, mm_in (i := 1405) (by decide +kernel) rfl, (mm_in (i := 1407) (by decide +kernel) rfl), (mm_inS (i := 38) (by decide +kernel) rfl), _, rfl, rfl⟩)
theorem mm_fv2_11_29 : mm_vok (mm_on 11) (467, 206, 0, 9, 0) := Or.inr (Or.inr ⟨rfl, by decide +kernel, rfl, mm_in (i := 1563) (by decide +kernel) rfl, (mm_in (i := 1565) (by decide +kernel) rfl), (mm_inS (i := 67) (by decide +kernel) rfl), _, rfl, rfl⟩)
theorem mm_fv2_11_30 : mm_vok (mm_on 11) (470, 207, 1, 9, 0) := Or.inr (Or.inr ⟨rfl, by decide +kernel, rfl, mm_in (i := 1570) (by decide +kernel) rfl, (mm_in (i := 1572) (by decide +kernel) rfl), (mm_inS (i := 68) (by decide +kernel) rfl), _, rfl, rfl⟩)
theorem mm_fv2_11_31 : mm_vok (mm_on 11) (473, 210, 2, 9, 0) := Or.inr (Or.inr ⟨rfl, by decide +kernel, rfl, mm_in (i := 1574) (by decide +kernel) rfl, (mm_in (i := 1576) (by decide +kernel) rfl), (mm_inS (i := 69) (by decide +kernel) rfl), _, rfl, rfl⟩)
theorem mm_fv2_11_32 : mm_vok (mm_on 11) (476, 208, 0, 9, 0) := Or.inr (Or.inr ⟨rfl, by decide +kernel, rfl, mm_in (i := 1555) (by decide +kernel) rfl, (mm_in (i := 1557) (by decide +kernel) rfl), (mm_inS (i := 65) (by decide +kernel) rfl), _, rfl, rfl⟩)
theorem mm_fv2_11_33 : mm_vok (mm_on 11) (479, 209, 0, 9, 0) := Or.inr (Or.inr ⟨rfl, by decide +kernel, rfl, mm_in (i := 1559) (by decide +kernel) rfl, (mm_in (i := 1561) (by decide +kernel) rfl), (mm_inS (i := 66) (by decide +kernel) rfl), _, rfl, rfl⟩)
theorem mm_fv2_11_34 : mm_vok (mm_on 11) (482, 201, 1, 9, 0) := Or.inr (Or.inr ⟨rfl, by decide +kernel, rfl, mm_in (i := 1582) (by decide +kernel) rfl, (mm_in (i := 1584) (by decide +kernel) rfl), (mm_inS (i := 70) (by decide +kernel) rfl), _, rfl, rfl⟩)
theorem mm_fv2_11_35 : mm_vok (mm_on 11) (485, 211, 0, 9, 0) := Or.inr (Or.inr ⟨rfl, by decide +kernel, rfl, mm_in (i := 1602) (by decide +kernel) rfl, (mm_in (i := 1604) (by decide +kernel) rfl), (mm_inS (i := 73) (by decide +kernel) rfl), _, rfl, rfl⟩)
theorem mm_fv2_11_36 : mm_vok (mm_on 11) (488, 212, 0, 9, 0) := Or.inr (Or.inr ⟨rfl, by decide +kernel, rfl, mm_in (i := 1606) (by decide +kernel) rfl, (mm_in (i := 1608) (by decide +kernel) rfl), (mm_inS (i := 74) (by decide +kernel) rfl), _, rfl, rfl⟩)
theorem mm_fv2_11_37 : mm_vok (mm_on 11) (492, 204, 0, 9, 0) := Or.inr (Or.inr ⟨rfl, by decide +kernel, rfl, mm_in (i := 1610) (by decide +kernel) rfl, (mm_in (i := 1612) (by decide +kernel) rfl), (mm_inS (i := 75) (by decide +kernel) rfl), _, rfl, rfl⟩)
theorem mm_fv2_11_38 : mm_vok (mm_on 11) (495, 203, 0, 9, 0) := Or.inr (Or.inr ⟨rfl, by decide +kernel, rfl, mm_in (i := 1594) (by decide +kernel) rfl, (mm_in (i := 1596) (by decide +kernel) rfl), (mm_inS (i := 71) (by decide +kernel) rfl), _, rfl, rfl⟩)
theorem mm_fv2_11_39 : mm_vok (mm_on 11) (498, 216, 0, 9, 0) := Or.inr (Or.inr ⟨rfl, by decide +kernel, rfl, mm_in (i := 1598) (by decide +kernel) rfl, (mm_in (i := 1600) (by decide +kernel) rfl), (mm_inS (i := 72) (by decide +kernel) rfl), _, rfl, rfl⟩)
theorem mm_fv2_11_40 : mm_vok (mm_on 11) (501, 219, 1, 9, 0) := Or.inr (Or.inr ⟨rfl, by decide +kernel, rfl, mm_in (i := 1627) (by decide +kernel) rfl, (mm_in (i := 1629) (by decide +kernel) rfl), (mm_inS (i := 77) (by decide +kernel) rfl), _, rfl, rfl⟩)
theorem mm_fv2_11_41 : mm_vok (mm_on 11) (504, 221, 0, 9, 0) := Or.inr (Or.inr ⟨rfl, by decide +kernel, rfl, mm_in (i := 1631) (by decide +kernel) rfl, (mm_in (i := 1633) (by decide +kernel) rfl), (mm_inS (i := 78) (by decide +kernel) rfl), _, rfl, rfl⟩)
theorem mm_fv2_11_42 : mm_vok (mm_on 11) (509, 220, 2, 9, 0) := Or.inr (Or.inr ⟨rfl, by decide +kernel, rfl, mm_in (i := 1623) (by decide +kernel) rfl, (mm_in (i := 1625) (by decide +kernel) rfl), (mm_inS (i := 76) (by decide +kernel) rfl), _, rfl, rfl⟩)
theorem mm_fv2_11_43 : mm_vok (mm_on 11) (513, 225, 0, 9, 0) := Or.inr (Or.inr ⟨rfl, by decide +kernel, rfl, mm_in (i := 1647) (by decide +kernel) rfl, (mm_in (i := 1649) (by decide +kernel) rfl), (mm_inS (i := 79) (by decide +kernel) rfl), _, rfl, rfl⟩)
theorem mm_fv2_11_44 : mm_vok (mm_on 11) (542, 244, 3, 9, 0) := Or.inr (Or.inr ⟨rfl, by decide +kernel, rfl, mm_in (i := 1715) (by decide +kernel) rfl, (mm_in (i := 1717) (by decide +kernel) rfl), (mm_inS (i := 80) (by decide +kernel) rfl), _, rfl, rfl⟩)
theorem mm_fv2_11_45 : mm_vok (mm_on 11) (549, 246, 4, 9, 0) := Or.inr (Or.inr ⟨rfl, by decide +kernel, rfl, mm_in (i := 1726) (by decide +kernel) rfl, (mm_in (i := 1728) (by decide +kernel) rfl), (mm_inS (i := 81) (by decide +kernel) rfl), _, rfl, rfl⟩)
theorem mm_fv2_11_46 : mm_vok (mm_on 11) (559, 250, 2, 9, 0) := Or.inr (Or.inr ⟨rfl, by decide +kernel, rfl, mm_in (i := 1737) (by decide +kernel) rfl, (mm_in (i := 1739) (by decide +kernel) rfl), (mm_inS (i := 82) (by decide +kernel) rfl), _, rfl, rfl⟩)
theorem mm_fv2_11_47 : mm_vok (mm_on 11) (565, 255, 2, 9, 0) := Or.inr (Or.inr ⟨rfl, by decide +kernel, rfl, mm_in (i := 1759) (by decide +kernel) rfl, (mm_in (i := 1761) (by decide +kernel) rfl), (mm_inS (i := 83) (by decide +kernel) rfl), _, rfl, rfl⟩)
theorem mm_fv2_11_48 : mm_vok (mm_on 11) (568, 254, 0, 9, 0) := Or.inr (Or.inr ⟨rfl, by decide +kernel, rfl, mm_in (i := 1763) (by decide +kernel) rfl, (mm_in (i := 1765) (by decide +kernel) rfl), (mm_inS (i := 84) (by decide +kernel) rfl), _, rfl, rfl⟩)
theorem mm_fv2_11_49 : mm_vok (mm_on 11) (574, 259, 2, 9, 0) := Or.inr (Or.inr ⟨rfl, by decide +kernel, rfl, mm_in (i := 1774) (by decide +kernel) rfl, (mm_in (i := 1776) (by decide +kernel) rfl), (mm_inS (i := 85) (by decide +kernel) rfl), _, rfl, rfl⟩)
theorem mm_fv2_11_50 : mm_vok (mm_on 11) (581, 265, 2, 9, 0) := Or.inr (Or.inr ⟨rfl, by decide +kernel, rfl, mm_in (i := 1803) (by decide +kernel) rfl, (mm_in (i := 1805) (by decide +kernel) rfl), (mm_inS (i := 87) (by decide +kernel) rfl), _, rfl, rfl⟩)
theorem mm_fv2_11_51 : mm_vok (mm_on 11) (584, 266, 2, 9, 0) := Or.inr (Or.inr ⟨rfl, by decide +kernel, rfl, mm_in (i := 1799) (by decide +kernel) rfl, (mm_in (i := 1801) (by decide +kernel) rfl), (mm_inS (i := 86) (by decide +kernel) rfl), _, rfl, rfl⟩)
theorem mm_fv2_11_52 : mm_vok (mm_on 11) (587, 268, 2, 9, 0) := Or.inr (Or.inr ⟨rfl, by decide +kernel, rfl, mm_in (i := 1811) (by decide +kernel) rfl, (mm_in (i := 1813) (by decide +kernel) rfl), (mm_inS (i := 88) (by decide +kernel) rfl), _, rfl, rfl⟩)
theorem mm_fv2_16_0 : mm_vok (mm_on 16) (13, 116, 5, 8, 0) := Or.inr (Or.inr ⟨rfl, by decide +kernel, rfl, mm_in (i := 423) (by decide +kernel) rfl, (mm_in (i := 424) (by decide +kernel) rfl), (mm_in (i := 425) (by decide +kernel) rfl), _, rfl, rfl⟩)
theorem mm_fv2_16_1 : mm_vok (mm_on 16) (17, 165, 5, 9, 0) := Or.inr (Or.inr ⟨rfl, by decide +kernel, rfl, mm_in (i := 1389) (by decide +kernel) rfl, (mm_in (i := 1390) (by decide +kernel) rfl), (mm_in (i := 1391) (by decide +kernel) rfl), _, rfl, rfl⟩)
theorem mm_fv2_16_2 : mm_vok (mm_on 16) (18, 117, 1, 8, 0) := Or.inr (Or.inr ⟨rfl, by decide +kernel, rfl, mm_in (i := 431) (by decide +kernel) rfl, (mm_in (i := 432) (by decide +kernel) rfl), (mm_in (i := 433) (by decide +kernel) rfl), _, rfl, rfl⟩)
theorem mm_fv2_16_3 : mm_vok (mm_on 16) (22, 167, 1, 9, 0) := Or.inr (Or.inr ⟨rfl, by decide +kernel, rfl, mm_in (i := 1397) (by decide +kernel) rfl, (mm_in (i := 1398) (by decide +kernel) rfl), (mm_in (i := 1399) (by decide +kernel) rfl), _, rfl, rfl⟩)
theorem mm_fv2_16_4 : mm_vok (mm_on 16) (23, 118, 0, 8, 0) := Or.inr (Or.inr ⟨rfl, by decide +kernel, rfl, mm_in (i := 435) (by decide +kernel) rfl, (mm_in (i := 436) (by decide +kernel) rfl), (mm_in (i := 437) (by decide +kernel) rfl), _, rfl, rfl⟩)
theorem mm_fv2_16_5 : mm_vok (mm_on 16) (27, 199, 0, 9, 0) := Or.inr (Or.inr ⟨rfl, by decide +kernel, rfl, mm_in (i := 1401) (by decide +kernel) rfl, (mm_in (i := 1402) (by decide +kernel) rfl), (mm_in (i := 1403) (by decide +kernel) rfl), _, rfl, rfl⟩)
theorem mm_fv2_16_6 : mm_vok (mm_on 16) (28, 119, 1, 8, 0) := Or.inr (Or.inr ⟨rfl, by decide +kernel, rfl, mm_in (i := 590) (by decide +kernel) rfl, (mm_in (i := 591) (by decide +kernel) rfl), (mm_in (i := 592) (by decide +kernel) rfl), _, rfl, rfl⟩)
theorem mm_fv2_16_7 : mm_vok (mm_on 16) (31, 200, 1, 9, 0) := Or.inr (Or.inr ⟨rfl, by decide +kernel, rfl, mm_in (i := 1547) (by decide +kernel) rfl, (mm_in (i := 1548) (by decide +kernel) rfl), (mm_in (i := 1549) (by decide +kernel) rfl), _, rfl, rfl⟩)
theorem mm_fv2_16_8 : mm_vok (mm_on 16) (32, 120, 1, 8, 0) := Or.inr (Or.inr ⟨rfl, by decide +kernel, rfl, mm_in (i := 594) (by decide +kernel) rfl, (mm_in (i := 595) (by decide +kernel) rfl), (mm_in (i := 596) (by decide +kernel) rfl), _, rfl, rfl⟩)
theorem mm_fv2_16_9 : mm_vok (mm_on 16) (35, 213, 1, 9, 0) := Or.inr (Or.inr ⟨rfl, by decide +kernel, rfl, mm_in (i := 1551) (by decide +kernel) rfl, (mm_in (i := 1552) (by decide +kernel) rfl), (mm_in (i := 1553) (by decide +kernel) rfl), _, rfl, rfl⟩)
theorem mm_fv2_16_10 : mm_vok (mm_on 16) (36, 121, 2, 8, 0) := Or.inr (Or.inr ⟨rfl, by decide +kernel, rfl, mm_in (i := 687) (by decide +kernel) rfl, (mm_in (i := 688) (by decide +kernel) rfl), (mm_in (i := 689) (by decide +kernel) rfl), _, rfl, rfl⟩)
theorem mm_fv2_16_11 : mm_vok (mm_on 16) (40, 214, 2, 9, 0) := Or.inr (Or.inr ⟨rfl, by decide +kernel, rfl, mm_in (i := 1578) (by decide +kernel) rfl, (mm_in (i := 1579) (by decide +kernel) rfl), (mm_in (i := 1580) (by decide +kernel) rfl), _, rfl, rfl⟩)
theorem mm_fv2_16_12 : mm_vok (mm_on 16) (41, 122, 1, 8, 0) := Or.inr (Or.inr ⟨rfl, by decide +kernel, rfl, mm_in (i := 700) (by decide +kernel) rfl, (mm_in (i := 701) (by decide +kernel) rfl), (mm_in (i := 702) (by decide +kernel) rfl), _, rfl, rfl⟩)
theorem mm_fv2_16_13 : mm_vok (mm_on 16) (44, 215, 1, 9, 0) := Or.inr (Or.inr ⟨rfl, by decide +kernel, rfl, mm_in (i := 1586) (by decide +kernel) rfl, (mm_in (i := 1587) (by decide +kernel) rfl), (mm_in (i := 1588) (by decide +kernel) rfl), _, rfl, rfl⟩)
theorem mm_fv2_16_14 : mm_vok (mm_on 16) (45, 123, 0, 8, 0) := Or.inr (Or.inr ⟨rfl, by decide +kernel, rfl, mm_in (i := 704) (by decide +kernel) rfl, (mm_in (i := 705) (by decide +kernel) rfl), (mm_in (i := 706) (by decide +kernel) rfl), _, rfl, rfl⟩)
theorem mm_fv2_16_15 : mm_vok (mm_on 16) (49, 217, 0, 9, 0) := Or.inr (Or.inr ⟨rfl, by decide +kernel, rfl, mm_in (i := 1590) (by decide +kernel) rfl, (mm_in (i := 1591) (by decide +kernel) rfl), (mm_in (i := 1592) (by decide +kernel) rfl), _, rfl, rfl⟩)
theorem mm_fv2_16_16 : mm_vok (mm_on 16) (50, 124, 1, 8, 0) := Or.inr (Or.inr ⟨rfl, by decide +kernel, rfl, mm_in (i := 720) (by decide +kernel) rfl, (mm_in (i := 721) (by decide +kernel) rfl), (mm_in (i := 722) (by decide +kernel) rfl), _, rfl, rfl⟩)
theorem mm_fv2_16_17 : mm_vok (mm_on 16) (53, 218, 1, 9, 0) := Or.inr (Or.inr ⟨rfl, by decide +kernel, rfl, mm_in (i := 1614) (by decide +kernel) rfl, (mm_in (i := 1615) (by decide +kernel) rfl), (mm_in (i := 1616) (by decide +kernel) rfl), _, rfl, rfl⟩)
theorem mm_fv2_16_18 : mm_vok (mm_on 16) (54, 125, 1, 8, 0) := Or.inr (Or.inr ⟨rfl, by decide +kernel, rfl, mm_in (i := 730) (by decide +kernel) rfl, (mm_in (i := 731) (by decide +kernel) rfl), (mm_in (i := 732) (by decide +kernel) rfl), _, rfl, rfl⟩)
theorem mm_fv2_16_19 : mm_vok (mm_on 16) (58, 222, 1, 9, 0) := Or.inr (Or.inr ⟨rfl, by decide +kernel, rfl, mm_in (i := 1618) (by decide +kernel) rfl, (mm_in (i := 1619) (by decide +kernel) rfl), (mm_in (i := 1620) (by decide +kernel) rfl), _, rfl, rfl⟩)
theorem mm_fv2_16_20 : mm_vok (mm_on 16) (59, 126, 1, 8, 0) := Or.inr (Or.inr ⟨rfl, by decide +kernel, rfl, mm_in (i := 751) (by decide +kernel) rfl, (mm_in (i := 752) (by decide +kernel) rfl), (mm_in (i := 753) (by decide +kernel) rfl), _, rfl, rfl⟩)
theorem mm_fv2_16_21 : mm_vok (mm_on 16) (62, 223, 1, 9, 0) := Or.inr (Or.inr ⟨rfl, by decide +kernel, rfl, mm_in (i := 1635) (by decide +kernel) rfl, (mm_in (i := 1636) (by decide +kernel) rfl), (mm_in (i := 1637) (by decide +kernel) rfl), _, rfl, rfl⟩)
theorem mm_fv2_16_22 : mm_vok (mm_on 16) (63, 127, 1, 8, 0) := Or.inr (Or.inr ⟨rfl, by decide +kernel, rfl, mm_in (i := 760) (by decide +kernel) rfl, (mm_in (i := 761) (by decide +kernel) rfl), (mm_in (i := 762) (by decide +kernel) rfl), _, rfl, rfl⟩)
theorem mm_fv2_16_23 : mm_vok (mm_on 16) (66, 224, 1, 9, 0) := Or.inr (Or.inr ⟨rfl, by decide +kernel, rfl, mm_in (i := 1639) (by decide +kernel) rfl, (mm_in (i := 1640) (by decide +kernel) rfl), (mm_in (i := 1641) (by decide +kernel) rfl), _, rfl, rfl⟩)
theorem mm_fv2_16_24 : mm_vok (mm_on 16) (67, 128, 0, 8, 0) := Or.inr (Or.inr ⟨rfl, by decide +kernel, rfl, mm_in (i := 764) (by decide +kernel) rfl, (mm_in (i := 765) (by decide +kernel) rfl), (mm_in (i := 766) (by decide +kernel) rfl), _, rfl, rfl⟩)
theorem mm_fv2_16_25 : mm_vok (mm_on 16) (70, 226, 0, 9, 0) := Or.inr (Or.inr ⟨rfl, by decide +kernel, rfl, mm_in (i := 1643) (by decide +kernel) rfl, (mm_in (i := 1644) (by decide +kernel) rfl), (mm_in (i := 1645) (by decide +kernel) rfl), _, rfl, rfl⟩)
theorem mm_fv2_16_26 : mm_vok (mm_on 16) (71, 129, 1, 8, 0) := Or.inr (Or.inr ⟨rfl, by decide +kernel, rfl, mm_in (i := 779) (by decide +kernel) rfl, (mm_in (i := 780) (by decide +kernel) rfl), (mm_in (i := 781) (by decide +kernel) rfl), _, rfl, rfl⟩)
theorem mm_fv2_16_27 : mm_vok (mm_on 16) (74, 227, 1, 9, 0) := Or.inr (Or.inr ⟨rfl, by decide +kernel, rfl, mm_in (i := 1651) (by decide +kernel) rfl, (mm_in (i := 1652) (by decide +kernel) rfl), (mm_in (i := 1653) (by decide +kernel) rfl), _, rfl, rfl⟩)
theorem mm_fv2_16_28 : mm_vok (mm_on 16) (77, 130, 1, 8, 0) := Or.inr (Or.inr ⟨rfl, by decide +kernel, rfl, mm_in (i := 789) (by decide +kernel) rfl, (mm_in (i := 790) (by decide +kernel) rfl), (mm_in (i := 791) (by decide +kernel) rfl), _, rfl, rfl⟩)
theorem mm_fv2_16_29 : mm_vok (mm_on 16) (81, 229, 1, 9, 0) := Or.inr (Or.inr ⟨rfl, by decide +kernel, rfl, mm_in (i := 1656) (by decide +kernel) rfl, (mm_in (i := 1657) (by decide +kernel) rfl), (mm_in (i := 1658) (by decide +kernel) rfl), _, rfl, rfl⟩)
theorem mm_fv2_16_30 : mm_vok (mm_on 16) (82, 131, 1, 8, 0) := Or.inr (Or.inr ⟨rfl, by decide +kernel, rfl, mm_in (i := 807) (by decide +kernel) rfl, (mm_in (i := 808) (by decide +kernel) rfl), (mm_in (i := 809) (by decide +kernel) rfl), _, rfl, rfl⟩)
theorem mm_fv2_16_31 : mm_vok (mm_on 16) (85, 230, 1, 9, 0) := Or.inr (Or.inr ⟨rfl, by decide +kernel, rfl, mm_in (i := 1663) (by decide +kernel) rfl, (mm_in (i := 1664) (by decide +kernel) rfl), (mm_in (i := 1665) (by decide +kernel) rfl), _, rfl, rfl⟩)
theorem mm_fv2_16_32 : mm_vok (mm_on 16) (86, 132, 1, 8, 0) := Or.inr (Or.inr ⟨rfl, by decide +kernel, rfl, mm_in (i := 811) (by decide +kernel) rfl, (mm_in (i := 812) (by decide +kernel) rfl), (mm_in (i := 813) (by decide +kernel) rfl), _, rfl, rfl⟩)
theorem mm_fv2_16_33 : mm_vok (mm_on 16) (89, 231, 1, 9, 0) := Or.inr (Or.inr ⟨rfl, by decide +kernel, rfl, mm_in (i := 1667) (by decide +kernel) rfl, (mm_in (i := 1668) (by decide +kernel) rfl), (mm_in (i := 1669) (by decide +kernel) rfl), _, rfl, rfl⟩)
theorem mm_fv2_16_34 : mm_vok (mm_on 16) (90, 133, 0, 8, 0) := Or.inr (Or.inr ⟨rfl, by decide +kernel, rfl, mm_in (i := 815) (by decide +kernel) rfl, (mm_in (i := 816) (by decide +kernel) rfl), (mm_in (i := 817) (by decide +kernel) rfl), _, rfl, rfl⟩)
theorem mm_fv2_16_35 : mm_vok (mm_on 16) (93, 232, 0, 9, 0) := Or.inr (Or.inr ⟨rfl, by decide +kernel, rfl, mm_in (i := 1671) (by decide +kernel) rfl, (mm_in (i := 1672) (by decide +kernel) rfl), (mm_in (i := 1673) (by decide +kernel) rfl), _, rfl, rfl⟩)
theorem mm_fv2_16_36 : mm_vok (mm_on 16) (94, 134, 3, 8, 0) := Or.inr (Or.inr ⟨rfl, by decide +kernel, rfl, mm_in (i := 827) (by decide +kernel) rfl, (mm_in (i := 828) (by decide +kernel) rfl), (mm_in (i := 829) (by decide +kernel) rfl), _, rfl, rfl⟩)
theorem mm_fv2_16_37 : mm_vok (mm_on 16) (98, 235, 3, 9, 0) := Or.inr (Or.inr ⟨rfl, by decide +kernel, rfl, mm_in (i := 1675) (by decide +kernel) rfl, (mm_in (i := 1676) (by decide +kernel) rfl), (mm_in (i := 1677) (by decide +kernel) rfl), _, rfl, rfl⟩)
theorem mm_fv2_16_38 : mm_vok (mm_on 16) (99, 135, 3, 8, 0) := Or.inr (Or.inr ⟨rfl, by decide +kernel, rfl, mm_in (i := 839) (by decide +kernel) rfl, (mm_in (i := 840) (by decide +kernel) rfl), (mm_in (i := 841) (by decide +kernel) rfl), _, rfl, rfl⟩)
theorem mm_fv2_16_39 : mm_vok (mm_on 16) (102, 236, 3, 9, 0) := Or.inr (Or.inr ⟨rfl, by decide +kernel, rfl, mm_in (i := 1686) (by decide +kernel) rfl, (mm_in (i := 1687) (by decide +kernel) rfl), (mm_in (i := 1688) (by decide +kernel) rfl), _, rfl, rfl⟩)
theorem mm_fv2_16_40 : mm_vok (mm_on 16) (103, 136, 3, 8, 0) := Or.inr (Or.inr ⟨rfl, by decide +kernel, rfl, mm_in (i := 847) (by decide +kernel) rfl, (mm_in (i := 848) (by decide +kernel) rfl), (mm_in (i := 849) (by decide +kernel) rfl), _, rfl, rfl⟩)
theorem mm_fv2_16_41 : mm_vok (mm_on 16) (107, 237, 3, 9, 0) := Or.inr (Or.inr ⟨rfl, by decide +kernel, rfl, mm_in (i := 1690) (by decide +kernel) rfl, (mm_in (i := 1691) (by decide +kernel) rfl), (mm_in (i := 1692) (by decide +kernel) rfl), _, rfl, rfl⟩)
theorem mm_fv2_16_42 : mm_vok (mm_on 16) (108, 137, 2, 8, 0) := Or.inr (Or.inr ⟨rfl, by decide +kernel, rfl, mm_in (i := 854) (by decide +kernel) rfl, (mm_in (i := 855) (by decide +kernel) rfl), (mm_in (i := 856) (by decide +kernel) rfl), _, rfl, rfl⟩)
theorem mm_fv2_16_43 : mm_vok (mm_on 16) (112, 241, 2, 9, 0) := Or.inr (Or.inr ⟨rfl, by decide +kernel, rfl, mm_in (i := 1694) (by decide +kernel) rfl, (mm_in (i := 1695) (by decide +kernel) rfl), (mm_in (i := 1696) (by decide +kernel) rfl), _, rfl, rfl⟩)
theorem mm_fv2_16_44 : mm_vok (mm_on 16) (113, 138, 2, 8, 0) := Or.inr (Or.inr ⟨rfl, by decide +kernel, rfl, mm_in (i := 872) (by decide +kernel) rfl, (mm_in (i := 873) (by decide +kernel) rfl), (mm_in (i := 874) (by decide +kernel) rfl), _, rfl, rfl⟩)
theorem mm_fv2_16_45 : mm_vok (mm_on 16) (116, 242, 2, 9, 0) := Or.inr (Or.inr ⟨rfl, by decide +kernel, rfl, mm_in (i := 1707) (by decide +kernel) rfl, (mm_in (i := 1708) (by decide +kernel) rfl), (mm_in (i := 1709) (by decide +kernel) rfl), _, rfl, rfl⟩)
theorem mm_fv2_16_46 : mm_vok (mm_on 16) (117, 139, 1, 8, 0) := Or.inr (Or.inr ⟨rfl, by decide +kernel, rfl, mm_in (i := 876) (by decide +kernel) rfl, (mm_in (i := 877) (by decide +kernel) rfl), (mm_in (i := 878) (by decide +kernel) rfl), _, rfl, rfl⟩)
theorem mm_fv2_16_47 : mm_vok (mm_on 16) (120, 245, 1, 9, 0) := Or.inr (Or.inr ⟨rfl, by decide +kernel, rfl, mm_in (i := 1711) (by decide +kernel) rfl, (mm_in (i := 1712) (by decide +kernel) rfl), (mm_in (i := 1713) (by decide +kernel) rfl), _, rfl, rfl⟩)
theorem mm_fv2_16_48 : mm_vok (mm_on 16) (121, 140, 2, 8, 0) := Or.inr (Or.inr ⟨rfl, by decide +kernel, rfl, mm_in (i := 901) (by decide +kernel) rfl, (mm_in (i := 902) (by decide +kernel) rfl), (mm_in (i := 903) (by decide +kernel) rfl), _, rfl, rfl⟩)
theorem mm_fv2_16_49 : mm_vok (mm_on 16) (124, 247, 2, 9, 0) := Or.inr (Or.inr ⟨rfl, by decide +kernel, rfl, mm_in (i := 1722) (by decide +kernel) rfl, (mm_in (i := 1723) (by decide +kernel) rfl), (mm_in (i := 1724) (by decide +kernel) rfl), _, rfl, rfl⟩)
theorem mm_fv2_16_50 : mm_vok (mm_on 16) (125, 141, 2, 8, 0) := Or.inr (Or.inr ⟨rfl, by decide +kernel, rfl, mm_in (i := 918) (by decide +kernel) rfl, (mm_in (i := 919) (by decide +kernel) rfl), (mm_in (i := 920) (by decide +kernel) rfl), _, rfl, rfl⟩)
theorem mm_fv2_16_51 : mm_vok (mm_on 16) (129, 251, 2, 9, 0) := Or.inr (Or.inr ⟨rfl, by decide +kernel, rfl, mm_in (i := 1730) (by decide +kernel) rfl, (mm_in (i := 1731) (by decide +kernel) rfl), (mm_in (i := 1732) (by decide +kernel) rfl), _, rfl, rfl⟩)
theorem mm_fv2_16_52 : mm_vok (mm_on 16) (130, 142, 3, 8, 0) := Or.inr (Or.inr ⟨rfl, by decide +kernel, rfl, mm_in (i := 931) (by decide +kernel) rfl, (mm_in (i := 932) (by decide +kernel) rfl), (mm_in (i := 933) (by decide +kernel) rfl), _, rfl, rfl⟩)
theorem mm_fv2_16_53 : mm_vok (mm_on 16) (133, 252, 3, 9, 0) := Or.inr (Or.inr ⟨rfl, by decide +kernel, rfl, mm_in (i := 1744) (by decide +kernel) rfl, (mm_in (i := 1745) (by decide +kernel) rfl), (mm_in (i := 1746) (by decide +kernel) rfl), _, rfl, rfl⟩)
theorem mm_fv2_16_54 : mm_vok (mm_on 16) (134, 143, 1, 8, 0) := Or.inr (Or.inr ⟨rfl, by decide +kernel, rfl, mm_in (i := 959) (by decide +kernel) rfl, (mm_in (i := 960) (by decide +kernel) rfl), (mm_in (i := 961) (by decide +kernel) rfl), _, rfl, rfl⟩)
theorem mm_fv2_16_55 : mm_vok (mm_on 16) (137, 253, 1, 9, 0) := Or.inr (Or.inr ⟨rfl, by decide +kernel, rfl, mm_in (i := 1748) (by decide +kernel) rfl, (mm_in (i := 1749) (by decide +kernel) rfl), (mm_in (i := 1750) (by decide +kernel) rfl), _, rfl, rfl⟩)
theorem mm_fv2_16_56 : mm_vok (mm_on 16) (138, 144, 3, 8, 0) := Or.inr (Or.inr ⟨rfl, by decide +kernel, rfl, mm_in (i := 966) (by decide +kernel) rfl, (mm_in (i := 967) (by decide +kernel) rfl), (mm_in (i := 968) (by decide +kernel) rfl), _, rfl, rfl⟩)
theorem mm_fv2_16_57 : mm_vok (mm_on 16) (141, 258, 3, 9, 0) := Or.inr (Or.inr ⟨rfl, by decide +kernel, rfl, mm_in (i := 1752) (by decide +kernel) rfl, (mm_in (i := 1753) (by decide +kernel) rfl), (mm_in (i := 1754) (by decide +kernel) rfl), _, rfl, rfl⟩)
theorem mm_fv2_16_58 : mm_vok (mm_on 16) (142, 145, 2, 8, 0) := Or.inr (Or.inr ⟨rfl, by decide +kernel, rfl, mm_in (i := 978) (by decide +kernel) rfl, (mm_in (i := 979) (by decide +kernel) rfl), (mm_in (i := 980) (by decide +kernel) rfl), _, rfl, rfl⟩)
theorem mm_fv2_16_59 : mm_vok (mm_on 16) (145, 260, 2, 9, 0) := Or.inr (Or.inr ⟨rfl, by decide +kernel, rfl, mm_in (i := 1770) (by decide +kernel) rfl, (mm_in (i := 1771) (by decide +kernel) rfl), (mm_in (i := 1772) (by decide +kernel) rfl), _, rfl, rfl⟩)
theorem mm_fv2_16_60 : mm_vok (mm_on 16) (146, 146, 3, 8, 0) := Or.inr (Or.inr ⟨rfl, by decide +kernel, rfl, mm_in (i := 993) (by decide +kernel) rfl, (mm_in (i := 994) (by decide +kernel) rfl), (mm_in (i := 995) (by decide +kernel) rfl), _, rfl, rfl⟩)
theorem mm_fv2_16_61 : mm_vok (mm_on 16) (149, 261, 3, 9, 0) := Or.inr (Or.inr ⟨rfl, by decide +kernel, rfl, mm_in (i := 1778) (by decide +kernel) rfl, (mm_in (i := 1779) (by decide +kernel) rfl), (mm_in (i := 1780) (by decide +kernel) rfl), _, rfl, rfl⟩)
theorem mm_fv2_16_62 : mm_vok (mm_on 16) (150, 147, 3, 8, 0) := Or.inr (Or.inr ⟨rfl, by decide +kernel, rfl, mm_in (i := 997) (by decide +kernel) rfl, (mm_in (i := 998) (by decide +kernel) rfl), (mm_in (i := 999) (by decide +kernel) rfl), _, rfl, rfl⟩)
theorem mm_fv2_16_63 : mm_vok (mm_on 16) (153, 262, 3, 9, 0) := Or.inr (Or.inr ⟨rfl, by decide +kernel, rfl, mm_in (i := 1782) (by decide +kernel) rfl, (mm_in (i := 1783) (by decide +kernel) rfl), (mm_in (i := 1784) (by decide +kernel) rfl), _, rfl, rfl⟩)
theorem mm_fv2_16_64 : mm_vok (mm_on 16) (154, 148, 1, 8, 0) := Or.inr (Or.inr ⟨rfl, by decide +kernel, rfl, mm_in (i := 1006) (by decide +kernel) rfl, (mm_in (i := 1007) (by decide +kernel) rfl), (mm_in (i := 1008) (by decide +kernel) rfl), _, rfl, rfl⟩)
theorem mm_fv2_16_65 : mm_vok (mm_on 16) (158, 263, 1, 9, 0) := Or.inr (Or.inr ⟨rfl, by decide +kernel, rfl, mm_in (i := 1786) (by decide +kernel) rfl, (mm_in (i := 1787) (by decide +kernel) rfl), (mm_in (i := 1788) (by decide +kernel) rfl), _, rfl, rfl⟩)
theorem mm_fv2_16_66 : mm_vok (mm_on 16) (159, 149, 1, 8, 0) := Or.inr (Or.inr ⟨rfl, by decide +kernel, rfl, mm_in (i := 1014) (by decide +kernel) rfl, (mm_in (i := 1015) (by decide +kernel) rfl), (mm_in (i := 1016) (by decide +kernel) rfl), _, rfl, rfl⟩)
theorem mm_fv2_16_67 : mm_vok (mm_on 16) (162, 264, 1, 9, 0) := Or.inr (Or.inr ⟨rfl, by decide +kernel, rfl, mm_in (i := 1790) (by decide +kernel) rfl, (mm_in (i := 1791) (by decide +kernel) rfl), (mm_in (i := 1792) (by decide +kernel) rfl), _, rfl, rfl⟩)
theorem mm_fv2_16_68 : mm_vok (mm_on 16) (163, 150, 2, 8, 0) := Or.inr (Or.inr ⟨rfl, by decide +kernel, rfl, mm_in (i := 1019) (by decide +kernel) rfl, (mm_in (i := 1020) (by decide +kernel) rfl), (mm_in (i := 1021) (by decide +kernel) rfl), _, rfl, rfl⟩)
theorem mm_fv2_16_69 : mm_vok (mm_on 16) (166, 267, 2, 9, 0) := Or.inr (Or.inr ⟨rfl, by decide +kernel, rfl, mm_in (i := 1795) (by decide +kernel) rfl, (mm_in (i := 1796) (by decide +kernel) rfl), (mm_in (i := 1797) (by decide +kernel) rfl), _, rfl, rfl⟩)
theorem mm_fv2_16_70 : mm_vok (mm_on 16) (167, 151, 3, 8, 0) := Or.inr (Or.inr ⟨rfl, by decide +kernel, rfl, mm_in (i := 1040) (by decide +kernel) rfl, (mm_in (i := 1041) (by decide +kernel) rfl), (mm_in (i := 1042) (by decide +kernel) rfl), _, rfl, rfl⟩)
theorem mm_fv2_16_71 : mm_vok (mm_on 16) (170, 269, 3, 9, 0) := Or.inr (Or.inr ⟨rfl, by decide +kernel, rfl, mm_in (i := 1807) (by decide +kernel) rfl, (mm_in (i := 1808) (by decide +kernel) rfl), (mm_in (i := 1809) (by decide +kernel) rfl), _, rfl, rfl⟩)
theorem mm_fv2_16_72 : mm_vok (mm_on 16) (171, 152, 1, 8, 0) := Or.inr (Or.inr ⟨rfl, by decide +kernel, rfl, mm_in (i := 1062) (by decide +kernel) rfl, (mm_in (i := 1063) (by decide +kernel) rfl), (mm_in (i := 1064) (by decide +kernel) rfl), _, rfl, rfl⟩)
theorem mm_fv2_16_73 : mm_vok (mm_on 16) (174, 271, 1, 9, 0) := Or.inr (Or.inr ⟨rfl, by decide +kernel, rfl, mm_in (i := 1815) (by decide +kernel) rfl, (mm_in (i := 1816) (by decide +kernel) rfl), (mm_in (i := 1817) (by decide +kernel) rfl), _, rfl, rfl⟩)
theorem mm_fv2_16_74 : mm_vok (mm_on 16) (175, 153, 1, 8, 0) := Or.inr (Or.inr ⟨rfl, by decide +kernel, rfl, mm_in (i := 1071) (by decide +kernel) rfl, (mm_in (i := 1072) (by decide +kernel) rfl), (mm_in (i := 1073) (by decide +kernel) rfl), _, rfl, rfl⟩)
theorem mm_fv2_16_75 : mm_vok (mm_on 16) (178, 272, 1, 9, 0) := Or.inr (Or.inr ⟨rfl, by decide +kernel, rfl, mm_in (i := 1822) (by decide +kernel) rfl, (mm_in (i := 1823) (by decide +kernel) rfl), (mm_in (i := 1824) (by decide +kernel) rfl), _, rfl, rfl⟩)
theorem mm_fv2_16_76 : mm_vok (mm_on 16) (179, 154, 1, 8, 0) := Or.inr (Or.inr ⟨rfl, by decide +kernel, rfl, mm_in (i := 1075) (by decide +kernel) rfl, (mm_in (i := 1076) (by decide +kernel) rfl), (mm_in (i := 1077) (by decide +kernel) rfl), _, rfl, rfl⟩)
theorem mm_fv2_16_77 : mm_vok (mm_on 16) (182, 273, 1, 9, 0) := Or.inr (Or.inr ⟨rfl, by decide +kernel, rfl, mm_in (i := 1826) (by decide +kernel) rfl, (mm_in (i := 1827) (by decide +kernel) rfl), (mm_in (i := 1828) (by decide +kernel) rfl), _, rfl, rfl⟩)
theorem mm_fv2_all : ∀ (ow : Nat), ∀ q ∈ mm_vt ow, mm_vok (mm_on ow) q := by
  intro ow
  match ow with
  | 0 => exact List.forall_mem_cons.mpr ⟨mm_fv2_0_0, List.forall_mem_cons.mpr ⟨mm_fv2_0_1, List.forall_mem_cons.mpr ⟨mm_fv2_0_2, List.forall_mem_cons.mpr ⟨mm_fv2_0_3, List.forall_mem_cons.mpr ⟨mm_fv2_0_4, List.forall_mem_cons.mpr ⟨mm_fv2_0_5, List.forall_mem_cons.mpr ⟨mm_fv2_0_6, List.forall_mem_cons.mpr ⟨mm_fv2_0_7, List.forall_mem_cons.mpr ⟨mm_fv2_0_8, List.forall_mem_cons.mpr ⟨mm_fv2_0_9, List.forall_mem_cons.mpr ⟨mm_fv2_0_10, List.forall_mem_cons.mpr ⟨mm_fv2_0_11, fun _ h => absurd h List.not_mem_nil⟩⟩⟩⟩⟩⟩⟩⟩⟩⟩⟩⟩
  | 1 => exact List.forall_mem_cons.mpr ⟨mm_fv2_1_0, List.forall_mem_cons.mpr ⟨mm_fv2_1_1, List.forall_mem_cons.mpr ⟨mm_fv2_1_2, List.forall_mem_cons.mpr ⟨mm_fv2_1_3, List.forall_mem_cons.mpr ⟨mm_fv2_1_4, List.forall_mem_cons.mpr ⟨mm_fv2_1_5, List.forall_mem_cons.mpr ⟨mm_fv2_1_6, List.forall_mem_cons.mpr ⟨mm_fv2_1_7, fun _ h => absurd h List.not_mem_nil⟩⟩⟩⟩⟩⟩⟩⟩
  | 2 => exact List.forall_mem_cons.mpr ⟨mm_fv2_2_0, List.forall_mem_cons.mpr ⟨mm_fv2_2_1, List.forall_mem_cons.mpr ⟨mm_fv2_2_2, List.forall_mem_cons.mpr ⟨mm_fv2_2_3, List.forall_mem_cons.mpr ⟨mm_fv2_2_4, fun _ h => absurd h List.not_mem_nil⟩⟩⟩⟩⟩
  | 3 => exact List.forall_mem_cons.mpr ⟨mm_fv2_3_0, fun _ h => absurd h List.not_mem_nil⟩
  | 5 => exact List.forall_mem_cons.mpr ⟨mm_fv2_5_0, List.forall_mem_cons.mpr ⟨mm_fv2_5_1, fun _ h => absurd h List.not_mem_nil⟩⟩
  | 7 => exact List.forall_mem_cons.mpr ⟨mm_fv2_7_0, List.forall_mem_cons.mpr ⟨mm_fv2_7_1, List.forall_mem_cons.mpr ⟨mm_fv2_7_2, List.forall_mem_cons.mpr ⟨mm_fv2_7_3, List.forall_mem_cons.mpr ⟨mm_fv2_7_4, List.forall_mem_cons.mpr ⟨mm_fv2_7_5, List.forall_mem_cons.mpr ⟨mm_fv2_7_6, List.forall_mem_cons.mpr ⟨mm_fv2_7_7, List.forall_mem_cons.mpr ⟨mm_fv2_7_8, List.forall_mem_cons.mpr ⟨mm_fv2_7_9, List.forall_mem_cons.mpr ⟨mm_fv2_7_10, List.forall_mem_cons.mpr ⟨mm_fv2_7_11, List.forall_mem_cons.mpr ⟨mm_fv2_7_12, List.forall_mem_cons.mpr ⟨mm_fv2_7_13, List.forall_mem_cons.mpr ⟨mm_fv2_7_14, List.forall_mem_cons.mpr ⟨mm_fv2_7_15, List.forall_mem_cons.mpr ⟨mm_fv2_7_16, List.forall_mem_cons.mpr ⟨mm_fv2_7_17, List.forall_mem_cons.mpr ⟨mm_fv2_7_18, List.forall_mem_cons.mpr ⟨mm_fv2_7_19, List.forall_mem_cons.mpr ⟨mm_fv2_7_20, List.forall_mem_cons.mpr ⟨mm_fv2_7_21, List.forall_mem_cons.mpr ⟨mm_fv2_7_22, List.forall_mem_cons.mpr ⟨mm_fv2_7_23, List.forall_mem_cons.mpr ⟨mm_fv2_7_24, List.forall_mem_cons.mpr ⟨mm_fv2_7_25, List.forall_mem_cons.mpr ⟨mm_fv2_7_26, List.forall_mem_cons.mpr ⟨mm_fv2_7_27, fun _ h => absurd h List.not_mem_nil⟩⟩⟩⟩⟩⟩⟩⟩⟩⟩⟩⟩⟩⟩⟩⟩⟩⟩⟩⟩⟩⟩⟩⟩⟩⟩⟩⟩
  | 8 => exact List.forall_mem_cons.mpr ⟨mm_fv2_8_0, List.forall_mem_cons.mpr ⟨mm_fv2_8_1, List.forall_mem_cons.mpr ⟨mm_fv2_8_2, fun _ h => absurd h List.not_mem_nil⟩⟩⟩
  | 9 => exact List.forall_mem_cons.mpr ⟨mm_fv2_9_0, List.forall_mem_cons.mpr ⟨mm_fv2_9_1, List.forall_mem_cons.mpr ⟨mm_fv2_9_2, List.forall_mem_cons.mpr ⟨mm_fv2_9_3, List.forall_mem_cons.mpr ⟨mm_fv2_9_4, List.forall_mem_cons.mpr ⟨mm_fv2_9_5, List.forall_mem_cons.mpr ⟨mm_fv2_9_6, fun _ h => absurd h List.not_mem_nil⟩⟩⟩⟩⟩⟩⟩
  | 10 => exact List.forall_mem_cons.mpr ⟨mm_fv2_10_0, List.forall_mem_cons.mpr ⟨mm_fv2_10_1, List.forall_mem_cons.mpr ⟨mm_fv2_10_2, List.forall_mem_cons.mpr ⟨mm_fv2_10_3, List.forall_mem_cons.mpr ⟨mm_fv2_10_4, List.forall_mem_cons.mpr ⟨mm_fv2_10_5, List.forall_mem_cons.mpr ⟨mm_fv2_10_6, List.forall_mem_cons.mpr ⟨mm_fv2_10_7, List.forall_mem_cons.mpr ⟨mm_fv2_10_8, List.forall_mem_cons.mpr ⟨mm_fv2_10_9, List.forall_mem_cons.mpr ⟨mm_fv2_10_10, List.forall_mem_cons.mpr ⟨mm_fv2_10_11, List.forall_mem_cons.mpr ⟨mm_fv2_10_12, List.forall_mem_cons.mpr ⟨mm_fv2_10_13, List.forall_mem_cons.mpr ⟨mm_fv2_10_14, List.forall_mem_cons.mpr ⟨mm_fv2_10_15, List.forall_mem_cons.mpr ⟨mm_fv2_10_16, List.forall_mem_cons.mpr ⟨mm_fv2_10_17, List.forall_mem_cons.mpr ⟨mm_fv2_10_18, List.forall_mem_cons.mpr ⟨mm_fv2_10_19, List.forall_mem_cons.mpr ⟨mm_fv2_10_20, List.forall_mem_cons.mpr ⟨mm_fv2_10_21, List.forall_mem_cons.mpr ⟨mm_fv2_10_22, List.forall_mem_cons.mpr ⟨mm_fv2_10_23, List.forall_mem_cons.mpr ⟨mm_fv2_10_24, List.forall_mem_cons.mpr ⟨mm_fv2_10_25, List.forall_mem_cons.mpr ⟨mm_fv2_10_26, List.forall_mem_cons.mpr ⟨mm_fv2_10_27, List.forall_mem_cons.mpr ⟨mm_fv2_10_28, List.forall_mem_cons.mpr ⟨mm_fv2_10_29, List.forall_mem_cons.mpr ⟨mm_fv2_10_30, List.forall_mem_cons.mpr ⟨mm_fv2_10_31, List.forall_mem_cons.mpr ⟨mm_fv2_10_32, List.forall_mem_cons.mpr ⟨mm_fv2_10_33, List.forall_mem_cons.mpr ⟨mm_fv2_10_34, fun _ h => absurd h List.not_mem_nil⟩⟩⟩⟩⟩⟩⟩⟩⟩⟩⟩⟩⟩⟩⟩⟩⟩⟩⟩⟩⟩⟩⟩⟩⟩⟩⟩⟩⟩⟩⟩⟩⟩⟩⟩
  | 11 => exact List.forall_mem_cons.mpr ⟨mm_fv2_11_0, List.forall_mem_cons.mpr ⟨mm_fv2_11_1, List.forall_mem_cons.mpr ⟨mm_fv2_11_2, List.forall_mem_cons.mpr ⟨mm_fv2_11_3, List.forall_mem_cons.mpr ⟨mm_fv2_11_4, List.forall_mem_cons.mpr ⟨mm_fv2_11_5, List.forall_mem_cons.mpr ⟨mm_fv2_11_6, List.forall_mem_cons.mpr ⟨mm_fv2_11_7, List.forall_mem_cons.mpr ⟨mm_fv2_11_8, List.forall_mem_cons.mpr ⟨mm_fv2_11_9, List.forall_mem_cons.mpr ⟨mm_fv2_11_10, List.forall_mem_cons.mpr ⟨mm_fv2_11_11, List.forall_mem_cons.mpr ⟨mm_fv2_11_12, List.forall_mem_cons.mpr ⟨mm_fv2_11_13, List.forall_mem_cons.mpr ⟨mm_fv2_11_14, List.forall_mem_cons.mpr ⟨mm_fv2_11_15, List.forall_mem_cons.mpr ⟨mm_fv2_11_16, List.forall_mem_cons.mpr ⟨mm_fv2_11_17, List.forall_mem_cons.mpr ⟨mm_fv2_11_18, List.forall_mem_cons.mpr ⟨mm_fv2_11_19, List.forall_mem_cons.mpr ⟨mm_fv2_11_20, List.forall_mem_cons.mpr ⟨mm_fv2_11_21, List.forall_mem_cons.mpr ⟨mm_fv2_11_22, List.forall_mem_cons.mpr ⟨mm_fv2_11_23, List.forall_mem_cons.mpr ⟨mm_fv2_11_24, List.forall_mem_cons.mpr ⟨mm_fv2_11_25, List.forall_mem_cons.mpr ⟨mm_fv2_11_26, List.forall_mem_cons.mpr ⟨mm_fv2_11_27, List.forall_mem_cons.mpr ⟨mm_fv2_11_28, List.forall_mem_cons.mpr ⟨mm_fv2_11_29, List.forall_mem_cons.mpr ⟨mm_fv2_11_30, List.forall_mem_cons.mpr ⟨mm_fv2_11_31, List.forall_mem_cons.mpr ⟨mm_fv2_11_32, List.forall_mem_cons.mpr ⟨mm_fv2_11_33, List.forall_mem_cons.mpr ⟨mm_fv2_11_34, List.forall_mem_cons.mpr ⟨mm_fv2_11_35, List.forall_mem_cons.mpr ⟨mm_fv2_11_36, List.forall_mem_cons.mpr ⟨mm_fv2_11_37, List.forall_mem_cons.mpr ⟨mm_fv2_11_38, List.forall_mem_cons.mpr ⟨mm_fv2_11_39, List.forall_mem_cons.mpr ⟨mm_fv2_11_40, List.forall_mem_cons.mpr ⟨mm_fv2_11_41, List.forall_mem_cons.mpr ⟨mm_fv2_11_42, List.forall_mem_cons.mpr ⟨mm_fv2_11_43, List.forall_mem_cons.mpr ⟨mm_fv2_11_44, List.forall_mem_cons.mpr ⟨mm_fv2_11_45, List.forall_mem_cons.mpr ⟨mm_fv2_11_46, List.forall_mem_cons.mpr ⟨mm_fv2_11_47, List.forall_mem_cons.mpr ⟨mm_fv2_11_48, List.forall_mem_cons.mpr ⟨mm_fv2_11_49, List.forall_mem_cons.mpr ⟨mm_fv2_11_50, List.forall_mem_cons.mpr ⟨mm_fv2_11_51, List.forall_mem_cons.mpr ⟨mm_fv2_11_52, fun _ h => absurd h List.not_mem_nil⟩⟩⟩⟩⟩⟩⟩⟩⟩⟩⟩⟩⟩⟩⟩⟩⟩⟩⟩⟩⟩⟩⟩⟩⟩⟩⟩⟩⟩⟩⟩⟩⟩⟩⟩⟩⟩⟩⟩⟩⟩⟩⟩⟩⟩⟩⟩⟩⟩⟩⟩⟩⟩
  | 16 => exact List.forall_mem_cons.mpr ⟨mm_fv2_16_0, List.forall_mem_cons.mpr ⟨mm_fv2_16_1, List.forall_mem_cons.mpr ⟨mm_fv2_16_2, List.forall_mem_cons.mpr ⟨mm_fv2_16_3, List.forall_mem_cons.mpr ⟨mm_fv2_16_4, List.forall_mem_cons.mpr ⟨mm_fv2_16_5, List.forall_mem_cons.mpr ⟨mm_fv2_16_6, List.forall_mem_cons.mpr ⟨mm_fv2_16_7, List.forall_mem_cons.mpr ⟨mm_fv2_16_8, List.forall_mem_cons.mpr ⟨mm_fv2_16_9, List.forall_mem_cons.mpr ⟨mm_fv2_16_10, List.forall_mem_cons.mpr ⟨mm_fv2_16_11, List.forall_mem_cons.mpr ⟨mm_fv2_16_12, List.forall_mem_cons.mpr ⟨mm_fv2_16_13, List.forall_mem_cons.mpr ⟨mm_fv2_16_14, List.forall_mem_cons.mpr ⟨mm_fv2_16_15, List.forall_mem_cons.mpr ⟨mm_fv2_16_16, List.forall_mem_cons.mpr ⟨mm_fv2_16_17, List.forall_mem_cons.mpr ⟨mm_fv2_16_18, List.forall_mem_cons.mpr ⟨mm_fv2_16_19, List.forall_mem_cons.mpr ⟨mm_fv2_16_20, List.forall_mem_cons.mpr ⟨mm_fv2_16_21, List.forall_mem_cons.mpr ⟨mm_fv2_16_22, List.forall_mem_cons.mpr ⟨mm_fv2_16_23, List.forall_mem_cons.mpr ⟨mm_fv2_16_24, List.forall_mem_cons.mpr ⟨mm_fv2_16_25, List.forall_mem_cons.mpr ⟨mm_fv2_16_26, List.forall_mem_cons.mpr ⟨mm_fv2_16_27, List.forall_mem_cons.mpr ⟨mm_fv2_16_28, List.forall_mem_cons.mpr ⟨mm_fv2_16_29, List.forall_mem_cons.mpr ⟨mm_fv2_16_30, List.forall_mem_cons.mpr ⟨mm_fv2_16_31, List.forall_mem_cons.mpr ⟨mm_fv2_16_32, List.forall_mem_cons.mpr ⟨mm_fv2_16_33, List.forall_mem_cons.mpr ⟨mm_fv2_16_34, List.forall_mem_cons.mpr ⟨mm_fv2_16_35, List.forall_mem_cons.mpr ⟨mm_fv2_16_36, List.forall_mem_cons.mpr ⟨mm_fv2_16_37, List.forall_mem_cons.mpr ⟨mm_fv2_16_38, List.forall_mem_cons.mpr ⟨mm_fv2_16_39, List.forall_mem_cons.mpr ⟨mm_fv2_16_40, List.forall_mem_cons.mpr ⟨mm_fv2_16_41, List.forall_mem_cons.mpr ⟨mm_fv2_16_42, List.forall_mem_cons.mpr ⟨mm_fv2_16_43, List.forall_mem_cons.mpr ⟨mm_fv2_16_44, List.forall_mem_cons.mpr ⟨mm_fv2_16_45, List.forall_mem_cons.mpr ⟨mm_fv2_16_46, List.forall_mem_cons.mpr ⟨mm_fv2_16_47, List.forall_mem_cons.mpr ⟨mm_fv2_16_48, List.forall_mem_cons.mpr ⟨mm_fv2_16_49, List.forall_mem_cons.mpr ⟨mm_fv2_16_50, List.forall_mem_cons.mpr ⟨mm_fv2_16_51, List.forall_mem_cons.mpr ⟨mm_fv2_16_52, List.forall_mem_cons.mpr ⟨mm_fv2_16_53, List.forall_mem_cons.mpr ⟨mm_fv2_16_54, List.forall_mem_cons.mpr ⟨mm_fv2_16_55, List.forall_mem_cons.mpr ⟨mm_fv2_16_56, List.forall_mem_cons.mpr ⟨mm_fv2_16_57, List.forall_mem_cons.mpr ⟨mm_fv2_16_58, List.forall_mem_cons.mpr ⟨mm_fv2_16_59, List.forall_mem_cons.mpr ⟨mm_fv2_16_60, List.forall_mem_cons.mpr ⟨mm_fv2_16_61, List.forall_mem_cons.mpr ⟨mm_fv2_16_62, List.forall_mem_cons.mpr ⟨mm_fv2_16_63, List.forall_mem_cons.mpr ⟨mm_fv2_16_64, List.forall_mem_cons.mpr ⟨mm_fv2_16_65, List.forall_mem_cons.mpr ⟨mm_fv2_16_66, List.forall_mem_cons.mpr ⟨mm_fv2_16_67, List.forall_mem_cons.mpr ⟨mm_fv2_16_68, List.forall_mem_cons.mpr ⟨mm_fv2_16_69, List.forall_mem_cons.mpr ⟨mm_fv2_16_70, List.forall_mem_cons.mpr ⟨mm_fv2_16_71, List.forall_mem_cons.mpr ⟨mm_fv2_16_72, List.forall_mem_cons.mpr ⟨mm_fv2_16_73, List.forall_mem_cons.mpr ⟨mm_fv2_16_74, List.forall_mem_cons.mpr ⟨mm_fv2_16_75, List.forall_mem_cons.mpr ⟨mm_fv2_16_76, List.forall_mem_cons.mpr ⟨mm_fv2_16_77, fun _ h => absurd h List.not_mem_nil⟩⟩⟩⟩⟩⟩⟩⟩⟩⟩⟩⟩⟩⟩⟩⟩⟩⟩⟩⟩⟩⟩⟩⟩⟩⟩⟩⟩⟩⟩⟩⟩⟩⟩⟩⟩⟩⟩⟩⟩⟩⟩⟩⟩⟩⟩⟩⟩⟩⟩⟩⟩⟩⟩⟩⟩⟩⟩⟩⟩⟩⟩⟩⟩⟩⟩⟩⟩⟩⟩⟩⟩⟩⟩⟩⟩⟩⟩
  | 4 => exact fun _ h => absurd h List.not_mem_nil
  | 6 => exact fun _ h => absurd h List.not_mem_nil
  | 12 => exact fun _ h => absurd h List.not_mem_nil
  | 13 => exact fun _ h => absurd h List.not_mem_nil
  | 14 => exact fun _ h => absurd h List.not_mem_nil
  | 15 => exact fun _ h => absurd h List.not_mem_nil
  | n + 17 => exact fun _ h => absurd h List.not_mem_nil
theorem mm_fi_0_0 : mm_iok (mm_on 0) (3, 0, 0, 0, 7) := Or.inl ⟨rfl, mm_in (i := 92) (by decide +kernel) rfl⟩
theorem mm_fi_0_1 : mm_iok (mm_on 0) (11, 12, 0, 1, 1) := Or.inr ⟨Or.inr ⟨rfl, List.mem_append_right _ (List.mem_of_getElem? (i := 94) (by decide +kernel))⟩, by decide +kernel, rfl, rfl, rfl, (mm_in (i := 34) (by decide +kernel) rfl), _, rfl, rfl⟩
theorem mm_fi_1_0 : mm_iok (mm_on 1) (3, 0, 0, 0, 7) := Or.inl ⟨rfl, mm_in (i := 36) (by decide +kernel) rfl⟩
theorem mm_fi_2_0 : mm_iok (mm_on 2) (3, 0, 0, 0, 7) := Or.inl ⟨rfl, mm_in (i := 130) (by decide +kernel) rfl⟩
theorem mm_fi_3_0 : mm_iok (mm_on 3) (3, 0, 0, 0, 7) := Or.inl ⟨rfl, mm_in (i := 107) (by decide +kernel) rfl⟩
theorem mm_fi_5_0 : mm_iok (mm_on 5) (3, 0, 0, 0, 7) := Or.inl ⟨rfl, mm_in (i := 171) (by decide +kernel) rfl⟩
theorem mm_fi_7_0 : mm_iok (mm_on 7) (3, 0, 0, 0, 7) := Or.inl ⟨rfl, mm_in (i := 262) (by decide +kernel) rfl⟩
theorem mm_fi_7_1 : mm_iok (mm_on 7) (11, 102, 0, 7, 0) := Or.inr ⟨Or.inl ⟨rfl, mm_in (i := 265) (by decide +kernel) rfl⟩, by decide +kernel, rfl, rfl, rfl, (mm_in (i := 266) (by decide +kernel) rfl), _, rfl, rfl⟩
theorem mm_fi_8_0 : mm_iok (mm_on 8) (3, 0, 0, 0, 7) := Or.inl ⟨rfl, mm_in (i := 144) (by decide +kernel) rfl⟩
theorem mm_fi_9_0 : mm_iok (mm_on 9) (3, 0, 0, 0, 7) := Or.inl ⟨rfl, mm_in (i := 268) (by decide +kernel) rfl⟩
theorem mm_fi_10_0 : mm_iok (mm_on 10) (3, 0, 0, 0, 7) := Or.inl ⟨rfl, mm_in (i := 28) (by decide +kernel) rfl⟩
theorem mm_fi_10_1 : mm_iok (mm_on 10) (11, 12, 0, 1, 1) := Or.inr ⟨Or.inr ⟨rfl, List.mem_append_right _ (List.mem_of_getElem? (i := 33) (by decide +kernel))⟩, by decide +kernel, rfl, rfl, rfl, (mm_in (i := 34) (by decide +kernel) rfl), _, rfl, rfl⟩
theorem mm_fi_10_2 : mm_iok (mm_on 10) (22, 0, 0, 0, 1) := Or.inr ⟨Or.inr ⟨rfl, List.mem_append_right _ (List.mem_of_getElem? (i := 89) (by decide +kernel))⟩, by decide +kernel, rfl, rfl, rfl, (mm_in (i := 90) (by decide +kernel) rfl), _, rfl, rfl⟩
theorem mm_fi_10_3 : mm_iok (mm_on 10) (29, 33, 0, 3, 1) := Or.inr ⟨Or.inr ⟨rfl, List.mem_append_right _ (List.mem_of_getElem? (i := 104) (by decide +kernel))⟩, by decide +kernel, rfl, rfl, rfl, (mm_in (i := 105) (by decide +kernel) rfl), _, rfl, rfl⟩
theorem mm_fi_10_4 : mm_iok (mm_on 10) (36, 24, 0, 2, 1) := Or.inr ⟨Or.inr ⟨rfl, List.mem_append_right _ (List.mem_of_getElem? (i := 127) (by decide +kernel))⟩, by decide +kernel, rfl, rfl, rfl, (mm_in (i := 128) (by decide +kernel) rfl), _, rfl, rfl⟩
theorem mm_fi_10_5 : mm_iok (mm_on 10) (43, 92, 0, 6, 1) := Or.inr ⟨Or.inr ⟨rfl, List.mem_append_right _ (List.mem_of_getElem? (i := 141) (by decide +kernel))⟩, by decide +kernel, rfl, rfl, rfl, (mm_in (i := 142) (by decide +kernel) rfl), _, rfl, rfl⟩
theorem mm_fi_10_6 : mm_iok (mm_on 10) (50, 49, 0, 4, 0) := Or.inr ⟨Or.inl ⟨rfl, mm_in (i := 168) (by decide +kernel) rfl⟩, by decide +kernel, rfl, rfl, rfl, (mm_in (i := 169) (by decide +kernel) rfl), _, rfl, rfl⟩
theorem mm_fi_10_7 : mm_iok (mm_on 10) (60, 72, 1, 5, 0) := Or.inr ⟨Or.inl ⟨rfl, mm_in (i := 259) (by decide +kernel) rfl⟩, by decide +kernel, rfl, rfl, rfl, (mm_in (i := 260) (by decide +kernel) rfl), _, rfl, rfl⟩
theorem mm_fi_11_0 : mm_iok (mm_on 11) (1, 0, 0, 0, 7) := Or.inl ⟨rfl, mm_in (i := 1086) (by decide +kernel) rfl⟩
theorem mm_fi_16_0 : mm_iok (mm_on 16) (9, 115, 0, 8, 0) := Or.inr ⟨Or.inl ⟨rfl, mm_in (i := 25) (by decide +kernel) rfl⟩, by decide +kernel, rfl, rfl, rfl, (mm_in (i := 26) (by decide +kernel) rfl), _, rfl, rfl⟩
theorem mm_fi_16_1 : mm_iok (mm_on 16) (12, 164, 0, 9, 0) := Or.inr ⟨Or.inl ⟨rfl, mm_in (i := 1083) (by decide +kernel) rfl⟩, by decide +kernel, rfl, rfl, rfl, (mm_in (i := 1084) (by decide +kernel) rfl), _, rfl, rfl⟩
theorem mm_fi_all : ∀ (ow : Nat), ∀ q ∈ mm_it ow, mm_iok (mm_on ow) q := by
  intro ow
  match ow with
  | 0 => exact List.forall_mem_cons.mpr ⟨mm_fi_0_0, List.forall_mem_cons.mpr ⟨mm_fi_0_1, fun _ h => absurd h List.not_mem_nil⟩⟩
  | 1 => exact List.forall_mem_cons.mpr ⟨mm_fi_1_0, fun _ h => absurd h List.not_mem_nil⟩
  | 2 => exact List.forall_mem_cons.mpr ⟨mm_fi_2_0, fun _ h => absurd h List.not_mem_nil⟩
  | 3 => exact List.forall_mem_cons.mpr ⟨mm_fi_3_0, fun _ h => absurd h List.not_mem_nil⟩
  | 5 => exact List.forall_mem_cons.mpr ⟨mm_fi_5_0, fun _ h => absurd h List.not_mem_nil⟩
  | 7 => exact List.forall_mem_cons.mpr ⟨mm_fi_7_0, List.forall_mem_cons.mpr ⟨mm_fi_7_1, fun _ h => absurd h List.not_mem_nil⟩⟩
  | 8 => exact List.forall_mem_cons.mpr ⟨mm_fi_8_0, fun _ h => absurd h List.not_mem_nil⟩
  | 9 => exact List.forall_mem_cons.mpr ⟨mm_fi_9_0, fun _ h => absurd h List.not_mem_nil⟩
  | 10 => exact List.forall_mem_cons.mpr ⟨mm_fi_10_0, List.forall_mem_cons.mpr ⟨mm_fi_10_1, List.forall_mem_cons.mpr ⟨mm_fi_10_2, List.forall_mem_cons.mpr ⟨mm_fi_10_3, List.forall_mem_cons.mpr ⟨mm_fi_10_4, List.forall_mem_cons.mpr ⟨mm_fi_10_5, List.forall_mem_cons.mpr ⟨mm_fi_10_6, List.forall_mem_cons.mpr ⟨mm_fi_10_7, fun _ h => absurd h List.not_mem_nil⟩⟩⟩⟩⟩⟩⟩⟩
  | 11 => exact List.forall_mem_cons.mpr ⟨mm_fi_11_0, fun _ h => absurd h List.not_mem_nil⟩
  | 16 => exact List.forall_mem_cons.mpr ⟨mm_fi_16_0, List.forall_mem_cons.mpr ⟨mm_fi_16_1, fun _ h => absurd h List.not_mem_nil⟩⟩
  | 4 => exact fun _ h => absurd h List.not_mem_nil
  | 6 => exact fun _ h => absurd h List.not_mem_nil
  | 12 => exact fun _ h => absurd h List.not_mem_nil
  | 13 => exact fun _ h => absurd h List.not_mem_nil
  | 14 => exact fun _ h => absurd h List.not_mem_nil
  | 15 => exact fun _ h => absurd h List.not_mem_nil
  | n + 17 => exact fun _ h => absurd h List.not_mem_nil
