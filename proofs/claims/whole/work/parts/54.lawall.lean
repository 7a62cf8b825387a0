/-! THE LAW: its code as a whole -/
def k_law (L : Nat) (xs : Nat → Int32) : List (Nat × aI) := [
  (0, i_new 6 8 [.null, .null, .null, .null, .null, .null, .null, .null]),
  (3, i_dup),
  (4, i_init79),
  (7, i_astore 1 1),
  (8, i_new 7 28 [.int 0, .int 0, .null, .int 0, .null, .null, .null, .int 0, .null, .null, .null, .null, .int 0, .int 0, .int 0, .int 0, .null, .null, .null, .null, .null, .null, .int 0, .null, .null, .null, .null, .int 0]),
  (11, i_dup),
  (12, i_callI 120 1),
  (15, i_astore 2 1),
  (16, i_push (.int 0) 1),
  (17, i_istore 3 1),
  (18, i_iload 3 1),
  (19, i_aload 0 1),
  (20, (i_slenL L)),
  (21, i_push (.int 6) 2),
  (23, i_bin (fun x y => x - y)),
  (24, i_icmp (fun x y => y < x) 1031 27),
  (27, i_aload 0 1),
  (28, i_iload 3 1),
  (29, (i_sld L xs)),
  (30, i_push (.int 31) 2),
  (32, i_bin (fun x y => x &&& y)),
  (33, i_tsw 0 30 [172, 195, 208, 221, 234, 267, 300, 323, 346, 389, 412, 435, 458, 491, 504, 547, 580, 593, 616, 649, 682, 715, 768, 781, 804, 827, 870, 933, 976, 989, 1002] 1025),
  (172, i_aload 1 1),
  (173, i_aload 0 1),
  (174, i_iload 3 1),
  (175, i_push (.int 1) 1),
  (176, i_bin (fun x y => x + y)),
  (177, (i_sld L xs)),
  (178, i_callV 80 2 6),
  (181, i_aload 2 1),
  (182, i_aload 0 1),
  (183, i_iload 3 1),
  (184, i_push (.int 1) 1),
  (185, i_bin (fun x y => x + y)),
  (186, (i_sld L xs)),
  (187, i_callV 124 2 7),
  (190, i_icmp (fun x y => x = y) 1025 193),
  (193, i_push (.int 0) 1),
  (194, i_zret),
  (195, i_aload 1 1),
  (196, i_callV 81 1 6),
  (199, i_aload 2 1),
  (200, i_callV 125 1 7),
  (203, i_icmp (fun x y => x = y) 1025 206),
  (206, i_push (.int 0) 1),
  (207, i_zret),
  (208, i_aload 1 1),
  (209, i_callV 82 1 6),
  (212, i_aload 2 1),
  (213, i_callV 133 1 7),
  (216, i_icmp (fun x y => x = y) 1025 219),
  (219, i_push (.int 0) 1),
  (220, i_zret),
  (221, i_aload 1 1),
  (222, i_callV 83 1 6),
  (225, i_aload 2 1),
  (226, i_callV 134 1 7),
  (229, i_icmp (fun x y => x = y) 1025 232),
  (232, i_push (.int 0) 1),
  (233, i_zret),
  (234, i_aload 1 1),
  (235, i_aload 0 1),
  (236, i_iload 3 1),
  (237, i_push (.int 1) 1),
  (238, i_bin (fun x y => x + y)),
  (239, (i_sld L xs)),
  (240, i_aload 0 1),
  (241, i_iload 3 1),
  (242, i_push (.int 2) 1),
  (243, i_bin (fun x y => x + y)),
  (244, (i_sld L xs)),
  (245, i_callV 84 3 6),
  (248, i_aload 2 1),
  (249, i_aload 0 1),
  (250, i_iload 3 1),
  (251, i_push (.int 1) 1),
  (252, i_bin (fun x y => x + y)),
  (253, (i_sld L xs)),
  (254, i_aload 0 1),
  (255, i_iload 3 1),
  (256, i_push (.int 2) 1),
  (257, i_bin (fun x y => x + y)),
  (258, (i_sld L xs)),
  (259, i_callV 135 3 7),
  (262, i_icmp (fun x y => x = y) 1025 265),
  (265, i_push (.int 0) 1),
  (266, i_zret),
  (267, i_aload 1 1),
  (268, i_aload 0 1),
  (269, i_iload 3 1),
  (270, i_push (.int 1) 1),
  (271, i_bin (fun x y => x + y)),
  (272, (i_sld L xs)),
  (273, i_aload 0 1),
  (274, i_iload 3 1),
  (275, i_push (.int 2) 1),
  (276, i_bin (fun x y => x + y)),
  (277, (i_sld L xs)),
  (278, i_callV 85 3 6),
  (281, i_aload 2 1),
  (282, i_aload 0 1),
  (283, i_iload 3 1),
  (284, i_push (.int 1) 1),
  (285, i_bin (fun x y => x + y)),
  (286, (i_sld L xs)),
  (287, i_aload 0 1),
  (288, i_iload 3 1),
  (289, i_push (.int 2) 1),
  (290, i_bin (fun x y => x + y)),
  (291, (i_sld L xs)),
  (292, i_callV 136 3 7),
  (295, i_icmp (fun x y => x = y) 1025 298),
  (298, i_push (.int 0) 1),
  (299, i_zret),
  (300, i_aload 1 1),
  (301, i_aload 0 1),
  (302, i_iload 3 1),
  (303, i_push (.int 1) 1),
  (304, i_bin (fun x y => x + y)),
  (305, (i_sld L xs)),
  (306, i_callV 86 2 6),
  (309, i_aload 2 1),
  (310, i_aload 0 1),
  (311, i_iload 3 1),
  (312, i_push (.int 1) 1),
  (313, i_bin (fun x y => x + y)),
  (314, (i_sld L xs)),
  (315, i_callV 137 2 7),
  (318, i_icmp (fun x y => x = y) 1025 321),
  (321, i_push (.int 0) 1),
  (322, i_zret),
  (323, i_aload 1 1),
  (324, i_aload 0 1),
  (325, i_iload 3 1),
  (326, i_push (.int 1) 1),
  (327, i_bin (fun x y => x + y)),
  (328, (i_sld L xs)),
  (329, i_callV 87 2 6),
  (332, i_aload 2 1),
  (333, i_aload 0 1),
  (334, i_iload 3 1),
  (335, i_push (.int 1) 1),
  (336, i_bin (fun x y => x + y)),
  (337, (i_sld L xs)),
  (338, i_callV 147 2 7),
  (341, i_icmp (fun x y => x = y) 1025 344),
  (344, i_push (.int 0) 1),
  (345, i_zret),
  (346, i_aload 1 1),
  (347, i_aload 0 1),
  (348, i_iload 3 1),
  (349, i_push (.int 1) 1),
  (350, i_bin (fun x y => x + y)),
  (351, (i_sld L xs)),
  (352, i_aload 0 1),
  (353, i_iload 3 1),
  (354, i_push (.int 2) 1),
  (355, i_bin (fun x y => x + y)),
  (356, (i_sld L xs)),
  (357, i_aload 0 1),
  (358, i_iload 3 1),
  (359, i_push (.int 3) 1),
  (360, i_bin (fun x y => x + y)),
  (361, (i_sld L xs)),
  (362, i_callV 88 4 6),
  (365, i_aload 2 1),
  (366, i_aload 0 1),
  (367, i_iload 3 1),
  (368, i_push (.int 1) 1),
  (369, i_bin (fun x y => x + y)),
  (370, (i_sld L xs)),
  (371, i_aload 0 1),
  (372, i_iload 3 1),
  (373, i_push (.int 2) 1),
  (374, i_bin (fun x y => x + y)),
  (375, (i_sld L xs)),
  (376, i_aload 0 1),
  (377, i_iload 3 1),
  (378, i_push (.int 3) 1),
  (379, i_bin (fun x y => x + y)),
  (380, (i_sld L xs)),
  (381, i_callV 148 4 7),
  (384, i_icmp (fun x y => x = y) 1025 387),
  (387, i_push (.int 0) 1),
  (388, i_zret),
  (389, i_aload 1 1),
  (390, i_aload 0 1),
  (391, i_iload 3 1),
  (392, i_push (.int 1) 1),
  (393, i_bin (fun x y => x + y)),
  (394, (i_sld L xs)),
  (395, i_callV 89 2 6),
  (398, i_aload 2 1),
  (399, i_aload 0 1),
  (400, i_iload 3 1),
  (401, i_push (.int 1) 1),
  (402, i_bin (fun x y => x + y)),
  (403, (i_sld L xs)),
  (404, i_callV 150 2 7),
  (407, i_icmp (fun x y => x = y) 1025 410),
  (410, i_push (.int 0) 1),
  (411, i_zret),
  (412, i_aload 1 1),
  (413, i_aload 0 1),
  (414, i_iload 3 1),
  (415, i_push (.int 1) 1),
  (416, i_bin (fun x y => x + y)),
  (417, (i_sld L xs)),
  (418, i_callV 90 2 6),
  (421, i_aload 2 1),
  (422, i_aload 0 1),
  (423, i_iload 3 1),
  (424, i_push (.int 1) 1),
  (425, i_bin (fun x y => x + y)),
  (426, (i_sld L xs)),
  (427, i_callV 152 2 7),
  (430, i_icmp (fun x y => x = y) 1025 433),
  (433, i_push (.int 0) 1),
  (434, i_zret),
  (435, i_aload 1 1),
  (436, i_aload 0 1),
  (437, i_iload 3 1),
  (438, i_push (.int 1) 1),
  (439, i_bin (fun x y => x + y)),
  (440, (i_sld L xs)),
  (441, i_callV 91 2 6),
  (444, i_aload 2 1),
  (445, i_aload 0 1),
  (446, i_iload 3 1),
  (447, i_push (.int 1) 1),
  (448, i_bin (fun x y => x + y)),
  (449, (i_sld L xs)),
  (450, i_callV 153 2 7),
  (453, i_icmp (fun x y => x = y) 1025 456),
  (456, i_push (.int 0) 1),
  (457, i_zret),
  (458, i_aload 1 1),
  (459, i_aload 0 1),
  (460, i_iload 3 1),
  (461, i_push (.int 1) 1),
  (462, i_bin (fun x y => x + y)),
  (463, (i_sld L xs)),
  (464, i_aload 0 1),
  (465, i_iload 3 1),
  (466, i_push (.int 2) 1),
  (467, i_bin (fun x y => x + y)),
  (468, (i_sld L xs)),
  (469, i_callV 92 3 6),
  (472, i_aload 2 1),
  (473, i_aload 0 1),
  (474, i_iload 3 1),
  (475, i_push (.int 1) 1),
  (476, i_bin (fun x y => x + y)),
  (477, (i_sld L xs)),
  (478, i_aload 0 1),
  (479, i_iload 3 1),
  (480, i_push (.int 2) 1),
  (481, i_bin (fun x y => x + y)),
  (482, (i_sld L xs)),
  (483, i_callV 154 3 7),
  (486, i_icmp (fun x y => x = y) 1025 489),
  (489, i_push (.int 0) 1),
  (490, i_zret),
  (491, i_aload 1 1),
  (492, i_callV 93 1 6),
  (495, i_aload 2 1),
  (496, i_callV 155 1 7),
  (499, i_icmp (fun x y => x = y) 1025 502),
  (502, i_push (.int 0) 1),
  (503, i_zret),
  (504, i_aload 1 1),
  (505, i_aload 0 1),
  (506, i_iload 3 1),
  (507, i_push (.int 1) 1),
  (508, i_bin (fun x y => x + y)),
  (509, (i_sld L xs)),
  (510, i_aload 0 1),
  (511, i_iload 3 1),
  (512, i_push (.int 2) 1),
  (513, i_bin (fun x y => x + y)),
  (514, (i_sld L xs)),
  (515, i_aload 0 1),
  (516, i_iload 3 1),
  (517, i_push (.int 3) 1),
  (518, i_bin (fun x y => x + y)),
  (519, (i_sld L xs)),
  (520, i_callV 94 4 6),
  (523, i_aload 2 1),
  (524, i_aload 0 1),
  (525, i_iload 3 1),
  (526, i_push (.int 1) 1),
  (527, i_bin (fun x y => x + y)),
  (528, (i_sld L xs)),
  (529, i_aload 0 1),
  (530, i_iload 3 1),
  (531, i_push (.int 2) 1),
  (532, i_bin (fun x y => x + y)),
  (533, (i_sld L xs)),
  (534, i_aload 0 1),
  (535, i_iload 3 1),
  (536, i_push (.int 3) 1),
  (537, i_bin (fun x y => x + y)),
  (538, (i_sld L xs)),
  (539, i_callV 158 4 7),
  (542, i_icmp (fun x y => x = y) 1025 545),
  (545, i_push (.int 0) 1),
  (546, i_zret),
  (547, i_aload 1 1),
  (548, i_aload 0 1),
  (549, i_iload 3 1),
  (550, i_push (.int 1) 1),
  (551, i_bin (fun x y => x + y)),
  (552, (i_sld L xs)),
  (553, i_aload 0 1),
  (554, i_iload 3 1),
  (555, i_push (.int 2) 1),
  (556, i_bin (fun x y => x + y)),
  (557, (i_sld L xs)),
  (558, i_callV 95 3 6),
  (561, i_aload 2 1),
  (562, i_aload 0 1),
  (563, i_iload 3 1),
  (564, i_push (.int 1) 1),
  (565, i_bin (fun x y => x + y)),
  (566, (i_sld L xs)),
  (567, i_aload 0 1),
  (568, i_iload 3 1),
  (569, i_push (.int 2) 1),
  (570, i_bin (fun x y => x + y)),
  (571, (i_sld L xs)),
  (572, i_callV 159 3 7),
  (575, i_icmp (fun x y => x = y) 1025 578),
  (578, i_push (.int 0) 1),
  (579, i_zret),
  (580, i_aload 1 1),
  (581, i_callV 96 1 6),
  (584, i_aload 2 1),
  (585, i_callV 160 1 7),
  (588, i_icmp (fun x y => x = y) 1025 591),
  (591, i_push (.int 0) 1),
  (592, i_zret),
  (593, i_aload 1 1),
  (594, i_aload 0 1),
  (595, i_iload 3 1),
  (596, i_push (.int 1) 1),
  (597, i_bin (fun x y => x + y)),
  (598, (i_sld L xs)),
  (599, i_callV 97 2 6),
  (602, i_aload 2 1),
  (603, i_aload 0 1),
  (604, i_iload 3 1),
  (605, i_push (.int 1) 1),
  (606, i_bin (fun x y => x + y)),
  (607, (i_sld L xs)),
  (608, i_callV 162 2 7),
  (611, i_icmp (fun x y => x = y) 1025 614),
  (614, i_push (.int 0) 1),
  (615, i_zret),
  (616, i_aload 1 1),
  (617, i_aload 0 1),
  (618, i_iload 3 1),
  (619, i_push (.int 1) 1),
  (620, i_bin (fun x y => x + y)),
  (621, (i_sld L xs)),
  (622, i_aload 0 1),
  (623, i_iload 3 1),
  (624, i_push (.int 2) 1),
  (625, i_bin (fun x y => x + y)),
  (626, (i_sld L xs)),
  (627, i_callV 98 3 6),
  (630, i_aload 2 1),
  (631, i_aload 0 1),
  (632, i_iload 3 1),
  (633, i_push (.int 1) 1),
  (634, i_bin (fun x y => x + y)),
  (635, (i_sld L xs)),
  (636, i_aload 0 1),
  (637, i_iload 3 1),
  (638, i_push (.int 2) 1),
  (639, i_bin (fun x y => x + y)),
  (640, (i_sld L xs)),
  (641, i_callV 164 3 7),
  (644, i_icmp (fun x y => x = y) 1025 647),
  (647, i_push (.int 0) 1),
  (648, i_zret),
  (649, i_aload 1 1),
  (650, i_aload 0 1),
  (651, i_iload 3 1),
  (652, i_push (.int 1) 1),
  (653, i_bin (fun x y => x + y)),
  (654, (i_sld L xs)),
  (655, i_aload 0 1),
  (656, i_iload 3 1),
  (657, i_push (.int 2) 1),
  (658, i_bin (fun x y => x + y)),
  (659, (i_sld L xs)),
  (660, i_callV 99 3 6),
  (663, i_aload 2 1),
  (664, i_aload 0 1),
  (665, i_iload 3 1),
  (666, i_push (.int 1) 1),
  (667, i_bin (fun x y => x + y)),
  (668, (i_sld L xs)),
  (669, i_aload 0 1),
  (670, i_iload 3 1),
  (671, i_push (.int 2) 1),
  (672, i_bin (fun x y => x + y)),
  (673, (i_sld L xs)),
  (674, i_callV 165 3 7),
  (677, i_icmp (fun x y => x = y) 1025 680),
  (680, i_push (.int 0) 1),
  (681, i_zret),
  (682, i_aload 1 1),
  (683, i_aload 0 1),
  (684, i_iload 3 1),
  (685, i_push (.int 1) 1),
  (686, i_bin (fun x y => x + y)),
  (687, (i_sld L xs)),
  (688, i_aload 0 1),
  (689, i_iload 3 1),
  (690, i_push (.int 2) 1),
  (691, i_bin (fun x y => x + y)),
  (692, (i_sld L xs)),
  (693, i_callV 100 3 6),
  (696, i_aload 2 1),
  (697, i_aload 0 1),
  (698, i_iload 3 1),
  (699, i_push (.int 1) 1),
  (700, i_bin (fun x y => x + y)),
  (701, (i_sld L xs)),
  (702, i_aload 0 1),
  (703, i_iload 3 1),
  (704, i_push (.int 2) 1),
  (705, i_bin (fun x y => x + y)),
  (706, (i_sld L xs)),
  (707, i_callV 166 3 7),
  (710, i_icmp (fun x y => x = y) 1025 713),
  (713, i_push (.int 0) 1),
  (714, i_zret),
  (715, i_aload 1 1),
  (716, i_aload 0 1),
  (717, i_iload 3 1),
  (718, i_push (.int 1) 1),
  (719, i_bin (fun x y => x + y)),
  (720, (i_sld L xs)),
  (721, i_aload 0 1),
  (722, i_iload 3 1),
  (723, i_push (.int 2) 1),
  (724, i_bin (fun x y => x + y)),
  (725, (i_sld L xs)),
  (726, i_aload 0 1),
  (727, i_iload 3 1),
  (728, i_push (.int 3) 1),
  (729, i_bin (fun x y => x + y)),
  (730, (i_sld L xs)),
  (731, i_aload 0 1),
  (732, i_iload 3 1),
  (733, i_push (.int 4) 1),
  (734, i_bin (fun x y => x + y)),
  (735, (i_sld L xs)),
  (736, i_callV 101 5 6),
  (739, i_aload 2 1),
  (740, i_aload 0 1),
  (741, i_iload 3 1),
  (742, i_push (.int 1) 1),
  (743, i_bin (fun x y => x + y)),
  (744, (i_sld L xs)),
  (745, i_aload 0 1),
  (746, i_iload 3 1),
  (747, i_push (.int 2) 1),
  (748, i_bin (fun x y => x + y)),
  (749, (i_sld L xs)),
  (750, i_aload 0 1),
  (751, i_iload 3 1),
  (752, i_push (.int 3) 1),
  (753, i_bin (fun x y => x + y)),
  (754, (i_sld L xs)),
  (755, i_aload 0 1),
  (756, i_iload 3 1),
  (757, i_push (.int 4) 1),
  (758, i_bin (fun x y => x + y)),
  (759, (i_sld L xs)),
  (760, i_callV 167 5 7),
  (763, i_icmp (fun x y => x = y) 1025 766),
  (766, i_push (.int 0) 1),
  (767, i_zret),
  (768, i_aload 1 1),
  (769, i_callV 102 1 6),
  (772, i_aload 2 1),
  (773, i_callV 168 1 7),
  (776, i_icmp (fun x y => x = y) 1025 779),
  (779, i_push (.int 0) 1),
  (780, i_zret),
  (781, i_aload 1 1),
  (782, i_aload 0 1),
  (783, i_iload 3 1),
  (784, i_push (.int 1) 1),
  (785, i_bin (fun x y => x + y)),
  (786, (i_sld L xs)),
  (787, i_callV 103 2 6),
  (790, i_aload 2 1),
  (791, i_aload 0 1),
  (792, i_iload 3 1),
  (793, i_push (.int 1) 1),
  (794, i_bin (fun x y => x + y)),
  (795, (i_sld L xs)),
  (796, i_callV 170 2 7),
  (799, i_icmp (fun x y => x = y) 1025 802),
  (802, i_push (.int 0) 1),
  (803, i_zret),
  (804, i_aload 1 1),
  (805, i_aload 0 1),
  (806, i_iload 3 1),
  (807, i_push (.int 1) 1),
  (808, i_bin (fun x y => x + y)),
  (809, (i_sld L xs)),
  (810, i_callV 104 2 6),
  (813, i_aload 2 1),
  (814, i_aload 0 1),
  (815, i_iload 3 1),
  (816, i_push (.int 1) 1),
  (817, i_bin (fun x y => x + y)),
  (818, (i_sld L xs)),
  (819, i_callV 171 2 7),
  (822, i_icmp (fun x y => x = y) 1025 825),
  (825, i_push (.int 0) 1),
  (826, i_zret),
  (827, i_aload 1 1),
  (828, i_aload 0 1),
  (829, i_iload 3 1),
  (830, i_push (.int 1) 1),
  (831, i_bin (fun x y => x + y)),
  (832, (i_sld L xs)),
  (833, i_aload 0 1),
  (834, i_iload 3 1),
  (835, i_push (.int 2) 1),
  (836, i_bin (fun x y => x + y)),
  (837, (i_sld L xs)),
  (838, i_aload 0 1),
  (839, i_iload 3 1),
  (840, i_push (.int 3) 1),
  (841, i_bin (fun x y => x + y)),
  (842, (i_sld L xs)),
  (843, i_callV 105 4 6),
  (846, i_aload 2 1),
  (847, i_aload 0 1),
  (848, i_iload 3 1),
  (849, i_push (.int 1) 1),
  (850, i_bin (fun x y => x + y)),
  (851, (i_sld L xs)),
  (852, i_aload 0 1),
  (853, i_iload 3 1),
  (854, i_push (.int 2) 1),
  (855, i_bin (fun x y => x + y)),
  (856, (i_sld L xs)),
  (857, i_aload 0 1),
  (858, i_iload 3 1),
  (859, i_push (.int 3) 1),
  (860, i_bin (fun x y => x + y)),
  (861, (i_sld L xs)),
  (862, i_callV 174 4 7),
  (865, i_icmp (fun x y => x = y) 1025 868),
  (868, i_push (.int 0) 1),
  (869, i_zret),
  (870, i_aload 1 1),
  (871, i_aload 0 1),
  (872, i_iload 3 1),
  (873, i_push (.int 1) 1),
  (874, i_bin (fun x y => x + y)),
  (875, (i_sld L xs)),
  (876, i_aload 0 1),
  (877, i_iload 3 1),
  (878, i_push (.int 2) 1),
  (879, i_bin (fun x y => x + y)),
  (880, (i_sld L xs)),
  (881, i_aload 0 1),
  (882, i_iload 3 1),
  (883, i_push (.int 3) 1),
  (884, i_bin (fun x y => x + y)),
  (885, (i_sld L xs)),
  (886, i_aload 0 1),
  (887, i_iload 3 1),
  (888, i_push (.int 4) 1),
  (889, i_bin (fun x y => x + y)),
  (890, (i_sld L xs)),
  (891, i_aload 0 1),
  (892, i_iload 3 1),
  (893, i_push (.int 5) 1),
  (894, i_bin (fun x y => x + y)),
  (895, (i_sld L xs)),
  (896, i_callV 106 6 6),
  (899, i_aload 2 1),
  (900, i_aload 0 1),
  (901, i_iload 3 1),
  (902, i_push (.int 1) 1),
  (903, i_bin (fun x y => x + y)),
  (904, (i_sld L xs)),
  (905, i_aload 0 1),
  (906, i_iload 3 1),
  (907, i_push (.int 2) 1),
  (908, i_bin (fun x y => x + y)),
  (909, (i_sld L xs)),
  (910, i_aload 0 1),
  (911, i_iload 3 1),
  (912, i_push (.int 3) 1),
  (913, i_bin (fun x y => x + y)),
  (914, (i_sld L xs)),
  (915, i_aload 0 1),
  (916, i_iload 3 1),
  (917, i_push (.int 4) 1),
  (918, i_bin (fun x y => x + y)),
  (919, (i_sld L xs)),
  (920, i_aload 0 1),
  (921, i_iload 3 1),
  (922, i_push (.int 5) 1),
  (923, i_bin (fun x y => x + y)),
  (924, (i_sld L xs)),
  (925, i_callV 176 6 7),
  (928, i_icmp (fun x y => x = y) 1025 931),
  (931, i_push (.int 0) 1),
  (932, i_zret),
  (933, i_aload 1 1),
  (934, i_aload 0 1),
  (935, i_iload 3 1),
  (936, i_push (.int 1) 1),
  (937, i_bin (fun x y => x + y)),
  (938, (i_sld L xs)),
  (939, i_aload 0 1),
  (940, i_iload 3 1),
  (941, i_push (.int 2) 1),
  (942, i_bin (fun x y => x + y)),
  (943, (i_sld L xs)),
  (944, i_aload 0 1),
  (945, i_iload 3 1),
  (946, i_push (.int 3) 1),
  (947, i_bin (fun x y => x + y)),
  (948, (i_sld L xs)),
  (949, i_callV 107 4 6),
  (952, i_aload 2 1),
  (953, i_aload 0 1),
  (954, i_iload 3 1),
  (955, i_push (.int 1) 1),
  (956, i_bin (fun x y => x + y)),
  (957, (i_sld L xs)),
  (958, i_aload 0 1),
  (959, i_iload 3 1),
  (960, i_push (.int 2) 1),
  (961, i_bin (fun x y => x + y)),
  (962, (i_sld L xs)),
  (963, i_aload 0 1),
  (964, i_iload 3 1),
  (965, i_push (.int 3) 1),
  (966, i_bin (fun x y => x + y)),
  (967, (i_sld L xs)),
  (968, i_callV 177 4 7),
  (971, i_icmp (fun x y => x = y) 1025 974),
  (974, i_push (.int 0) 1),
  (975, i_zret),
  (976, i_aload 1 1),
  (977, i_callV 108 1 6),
  (980, i_aload 2 1),
  (981, i_callV 178 1 7),
  (984, i_icmp (fun x y => x = y) 1025 987),
  (987, i_push (.int 0) 1),
  (988, i_zret),
  (989, i_aload 1 1),
  (990, i_callV 109 1 6),
  (993, i_aload 2 1),
  (994, i_callV 179 1 7),
  (997, i_icmp (fun x y => x = y) 1025 1000),
  (1000, i_push (.int 0) 1),
  (1001, i_zret),
  (1002, i_aload 1 1),
  (1003, i_aload 0 1),
  (1004, i_iload 3 1),
  (1005, i_push (.int 1) 1),
  (1006, i_bin (fun x y => x + y)),
  (1007, (i_sld L xs)),
  (1008, i_callV 110 2 6),
  (1011, i_aload 2 1),
  (1012, i_aload 0 1),
  (1013, i_iload 3 1),
  (1014, i_push (.int 1) 1),
  (1015, i_bin (fun x y => x + y)),
  (1016, (i_sld L xs)),
  (1017, i_callV 180 2 7),
  (1020, i_icmp (fun x y => x = y) 1025 1023),
  (1023, i_push (.int 0) 1),
  (1024, i_zret),
  (1025, i_iinc 3 6),
  (1028, i_goto 18),
  (1031, i_push (.int 1) 1),
  (1032, i_zret)]
theorem s_law (L : Nat) (xs : Nat → Int32) : ∀ q ∈ k_law L xs, SndL L xs q.1 q.2 := by
  unfold k_law
  refine List.forall_mem_cons.mpr ⟨sl_0 L xs, ?_⟩
  refine List.forall_mem_cons.mpr ⟨sl_3 L xs, ?_⟩
  refine List.forall_mem_cons.mpr ⟨sl_4 L xs, ?_⟩
  refine List.forall_mem_cons.mpr ⟨sl_7 L xs, ?_⟩
  refine List.forall_mem_cons.mpr ⟨sl_8 L xs, ?_⟩
  refine List.forall_mem_cons.mpr ⟨sl_11 L xs, ?_⟩
  refine List.forall_mem_cons.mpr ⟨sl_12 L xs, ?_⟩
  refine List.forall_mem_cons.mpr ⟨sl_15 L xs, ?_⟩
  refine List.forall_mem_cons.mpr ⟨sl_16 L xs, ?_⟩
  refine List.forall_mem_cons.mpr ⟨sl_17 L xs, ?_⟩
  refine List.forall_mem_cons.mpr ⟨sl_18 L xs, ?_⟩
  refine List.forall_mem_cons.mpr ⟨sl_19 L xs, ?_⟩
  refine List.forall_mem_cons.mpr ⟨sl_20 L xs, ?_⟩
  refine List.forall_mem_cons.mpr ⟨sl_21 L xs, ?_⟩
  refine List.forall_mem_cons.mpr ⟨sl_23 L xs, ?_⟩
  refine List.forall_mem_cons.mpr ⟨sl_24 L xs, ?_⟩
  refine List.forall_mem_cons.mpr ⟨sl_27 L xs, ?_⟩
  refine List.forall_mem_cons.mpr ⟨sl_28 L xs, ?_⟩
  refine List.forall_mem_cons.mpr ⟨sl_29 L xs, ?_⟩
  refine List.forall_mem_cons.mpr ⟨sl_30 L xs, ?_⟩
  refine List.forall_mem_cons.mpr ⟨sl_32 L xs, ?_⟩
  refine List.forall_mem_cons.mpr ⟨sl_33 L xs, ?_⟩
  refine List.forall_mem_cons.mpr ⟨sl_172 L xs, ?_⟩
  refine List.forall_mem_cons.mpr ⟨sl_173 L xs, ?_⟩
  refine List.forall_mem_cons.mpr ⟨sl_174 L xs, ?_⟩
  refine List.forall_mem_cons.mpr ⟨sl_175 L xs, ?_⟩
  refine List.forall_mem_cons.mpr ⟨sl_176 L xs, ?_⟩
  refine List.forall_mem_cons.mpr ⟨sl_177 L xs, ?_⟩
  refine List.forall_mem_cons.mpr ⟨sl_178 L xs, ?_⟩
  refine List.forall_mem_cons.mpr ⟨sl_181 L xs, ?_⟩
  refine List.forall_mem_cons.mpr ⟨sl_182 L xs, ?_⟩
  refine List.forall_mem_cons.mpr ⟨sl_183 L xs, ?_⟩
  refine List.forall_mem_cons.mpr ⟨sl_184 L xs, ?_⟩
  refine List.forall_mem_cons.mpr ⟨sl_185 L xs, ?_⟩
  refine List.forall_mem_cons.mpr ⟨sl_186 L xs, ?_⟩
  refine List.forall_mem_cons.mpr ⟨sl_187 L xs, ?_⟩
  refine List.forall_mem_cons.mpr ⟨sl_190 L xs, ?_⟩
  refine List.forall_mem_cons.mpr ⟨sl_193 L xs, ?_⟩
  refine List.forall_mem_cons.mpr ⟨sl_194 L xs, ?_⟩
  refine List.forall_mem_cons.mpr ⟨sl_195 L xs, ?_⟩
  refine List.forall_mem_cons.mpr ⟨sl_196 L xs, ?_⟩
  refine List.forall_mem_cons.mpr ⟨sl_199 L xs, ?_⟩
  refine List.forall_mem_cons.mpr ⟨sl_200 L xs, ?_⟩
  refine List.forall_mem_cons.mpr ⟨sl_203 L xs, ?_⟩
  refine List.forall_mem_cons.mpr ⟨sl_206 L xs, ?_⟩
  refine List.forall_mem_cons.mpr ⟨sl_207 L xs, ?_⟩
  refine List.forall_mem_cons.mpr ⟨sl_208 L xs, ?_⟩
  refine List.forall_mem_cons.mpr ⟨sl_209 L xs, ?_⟩
  refine List.forall_mem_cons.mpr ⟨sl_212 L xs, ?_⟩
  refine List.forall_mem_cons.mpr ⟨sl_213 L xs, ?_⟩
  refine List.forall_mem_cons.mpr ⟨sl_216 L xs, ?_⟩
  refine List.forall_mem_cons.mpr ⟨sl_219 L xs, ?_⟩
  refine List.forall_mem_cons.mpr ⟨sl_220 L xs, ?_⟩
  refine List.forall_mem_cons.mpr ⟨sl_221 L xs, ?_⟩
  refine List.forall_mem_cons.mpr ⟨sl_222 L xs, ?_⟩
  refine List.forall_mem_cons.mpr ⟨sl_225 L xs, ?_⟩
  refine List.forall_mem_cons.mpr ⟨sl_226 L xs, ?_⟩
  refine List.forall_mem_cons.mpr ⟨sl_229 L xs, ?_⟩
  refine List.forall_mem_cons.mpr ⟨sl_232 L xs, ?_⟩
  refine List.forall_mem_cons.mpr ⟨sl_233 L xs, ?_⟩
  refine List.forall_mem_cons.mpr ⟨sl_234 L xs, ?_⟩
  refine List.forall_mem_cons.mpr ⟨sl_235 L xs, ?_⟩
  refine List.forall_mem_cons.mpr ⟨sl_236 L xs, ?_⟩
  refine List.forall_mem_cons.mpr ⟨sl_237 L xs, ?_⟩
  refine List.forall_mem_cons.mpr ⟨sl_238 L xs, ?_⟩
  refine List.forall_mem_cons.mpr ⟨sl_239 L xs, ?_⟩
  refine List.forall_mem_cons.mpr ⟨sl_240 L xs, ?_⟩
  refine List.forall_mem_cons.mpr ⟨sl_241 L xs, ?_⟩
  refine List.forall_mem_cons.mpr ⟨sl_242 L xs, ?_⟩
  refine List.forall_mem_cons.mpr ⟨sl_243 L xs, ?_⟩
  refine List.forall_mem_cons.mpr ⟨sl_244 L xs, ?_⟩
  refine List.forall_mem_cons.mpr ⟨sl_245 L xs, ?_⟩
  refine List.forall_mem_cons.mpr ⟨sl_248 L xs, ?_⟩
  refine List.forall_mem_cons.mpr ⟨sl_249 L xs, ?_⟩
  refine List.forall_mem_cons.mpr ⟨sl_250 L xs, ?_⟩
  refine List.forall_mem_cons.mpr ⟨sl_251 L xs, ?_⟩
  refine List.forall_mem_cons.mpr ⟨sl_252 L xs, ?_⟩
  refine List.forall_mem_cons.mpr ⟨sl_253 L xs, ?_⟩
  refine List.forall_mem_cons.mpr ⟨sl_254 L xs, ?_⟩
  refine List.forall_mem_cons.mpr ⟨sl_255 L xs, ?_⟩
  refine List.forall_mem_cons.mpr ⟨sl_256 L xs, ?_⟩
  refine List.forall_mem_cons.mpr ⟨sl_257 L xs, ?_⟩
  refine List.forall_mem_cons.mpr ⟨sl_258 L xs, ?_⟩
  refine List.forall_mem_cons.mpr ⟨sl_259 L xs, ?_⟩
  refine List.forall_mem_cons.mpr ⟨sl_262 L xs, ?_⟩
  refine List.forall_mem_cons.mpr ⟨sl_265 L xs, ?_⟩
  refine List.forall_mem_cons.mpr ⟨sl_266 L xs, ?_⟩
  refine List.forall_mem_cons.mpr ⟨sl_267 L xs, ?_⟩
  refine List.forall_mem_cons.mpr ⟨sl_268 L xs, ?_⟩
  refine List.forall_mem_cons.mpr ⟨sl_269 L xs, ?_⟩
  refine List.forall_mem_cons.mpr ⟨sl_270 L xs, ?_⟩
  refine List.forall_mem_cons.mpr ⟨sl_271 L xs, ?_⟩
  refine List.forall_mem_cons.mpr ⟨sl_272 L xs, ?_⟩
  refine List.forall_mem_cons.mpr ⟨sl_273 L xs, ?_⟩
  refine List.forall_mem_cons.mpr ⟨sl_274 L xs, ?_⟩
  refine List.forall_mem_cons.mpr ⟨sl_275 L xs, ?_⟩
  refine List.forall_mem_cons.mpr ⟨sl_276 L xs, ?_⟩
  refine List.forall_mem_cons.mpr ⟨sl_277 L xs, ?_⟩
  refine List.forall_mem_cons.mpr ⟨sl_278 L xs, ?_⟩
  refine List.forall_mem_cons.mpr ⟨sl_281 L xs, ?_⟩
  refine List.forall_mem_cons.mpr ⟨sl_282 L xs, ?_⟩
  refine List.forall_mem_cons.mpr ⟨sl_283 L xs, ?_⟩
  refine List.forall_mem_cons.mpr ⟨sl_284 L xs, ?_⟩
  refine List.forall_mem_cons.mpr ⟨sl_285 L xs, ?_⟩
  refine List.forall_mem_cons.mpr ⟨sl_286 L xs, ?_⟩
  refine List.forall_mem_cons.mpr ⟨sl_287 L xs, ?_⟩
  refine List.forall_mem_cons.mpr ⟨sl_288 L xs, ?_⟩
  refine List.forall_mem_cons.mpr ⟨sl_289 L xs, ?_⟩
  refine List.forall_mem_cons.mpr ⟨sl_290 L xs, ?_⟩
  refine List.forall_mem_cons.mpr ⟨sl_291 L xs, ?_⟩
  refine List.forall_mem_cons.mpr ⟨sl_292 L xs, ?_⟩
  refine List.forall_mem_cons.mpr ⟨sl_295 L xs, ?_⟩
  refine List.forall_mem_cons.mpr ⟨sl_298 L xs, ?_⟩
  refine List.forall_mem_cons.mpr ⟨sl_299 L xs, ?_⟩
  refine List.forall_mem_cons.mpr ⟨sl_300 L xs, ?_⟩
  refine List.forall_mem_cons.mpr ⟨sl_301 L xs, ?_⟩
  refine List.forall_mem_cons.mpr ⟨sl_302 L xs, ?_⟩
  refine List.forall_mem_cons.mpr ⟨sl_303 L xs, ?_⟩
  refine List.forall_mem_cons.mpr ⟨sl_304 L xs, ?_⟩
  refine List.forall_mem_cons.mpr ⟨sl_305 L xs, ?_⟩
  refine List.forall_mem_cons.mpr ⟨sl_306 L xs, ?_⟩
  refine List.forall_mem_cons.mpr ⟨sl_309 L xs, ?_⟩
  refine List.forall_mem_cons.mpr ⟨sl_310 L xs, ?_⟩
  refine List.forall_mem_cons.mpr ⟨sl_311 L xs, ?_⟩
  refine List.forall_mem_cons.mpr ⟨sl_312 L xs, ?_⟩
  refine List.forall_mem_cons.mpr ⟨sl_313 L xs, ?_⟩
  refine List.forall_mem_cons.mpr ⟨sl_314 L xs, ?_⟩
  refine List.forall_mem_cons.mpr ⟨sl_315 L xs, ?_⟩
  refine List.forall_mem_cons.mpr ⟨sl_318 L xs, ?_⟩
  refine List.forall_mem_cons.mpr ⟨sl_321 L xs, ?_⟩
  refine List.forall_mem_cons.mpr ⟨sl_322 L xs, ?_⟩
  refine List.forall_mem_cons.mpr ⟨sl_323 L xs, ?_⟩
  refine List.forall_mem_cons.mpr ⟨sl_324 L xs, ?_⟩
  refine List.forall_mem_cons.mpr ⟨sl_325 L xs, ?_⟩
  refine List.forall_mem_cons.mpr ⟨sl_326 L xs, ?_⟩
  refine List.forall_mem_cons.mpr ⟨sl_327 L xs, ?_⟩
  refine List.forall_mem_cons.mpr ⟨sl_328 L xs, ?_⟩
  refine List.forall_mem_cons.mpr ⟨sl_329 L xs, ?_⟩
  refine List.forall_mem_cons.mpr ⟨sl_332 L xs, ?_⟩
  refine List.forall_mem_cons.mpr ⟨sl_333 L xs, ?_⟩
  refine List.forall_mem_cons.mpr ⟨sl_334 L xs, ?_⟩
  refine List.forall_mem_cons.mpr ⟨sl_335 L xs, ?_⟩
  refine List.forall_mem_cons.mpr ⟨sl_336 L xs, ?_⟩
  refine List.forall_mem_cons.mpr ⟨sl_337 L xs, ?_⟩
  refine List.forall_mem_cons.mpr ⟨sl_338 L xs, ?_⟩
  refine List.forall_mem_cons.mpr ⟨sl_341 L xs, ?_⟩
  refine List.forall_mem_cons.mpr ⟨sl_344 L xs, ?_⟩
  refine List.forall_mem_cons.mpr ⟨sl_345 L xs, ?_⟩
  refine List.forall_mem_cons.mpr ⟨sl_346 L xs, ?_⟩
  refine List.forall_mem_cons.mpr ⟨sl_347 L xs, ?_⟩
  refine List.forall_mem_cons.mpr ⟨sl_348 L xs, ?_⟩
  refine List.forall_mem_cons.mpr ⟨sl_349 L xs, ?_⟩
  refine List.forall_mem_cons.mpr ⟨sl_350 L xs, ?_⟩
  refine List.forall_mem_cons.mpr ⟨sl_351 L xs, ?_⟩
  refine List.forall_mem_cons.mpr ⟨sl_352 L xs, ?_⟩
  refine List.forall_mem_cons.mpr ⟨sl_353 L xs, ?_⟩
  refine List.forall_mem_cons.mpr ⟨sl_354 L xs, ?_⟩
  refine List.forall_mem_cons.mpr ⟨sl_355 L xs, ?_⟩
  refine List.forall_mem_cons.mpr ⟨sl_356 L xs, ?_⟩
  refine List.forall_mem_cons.mpr ⟨sl_357 L xs, ?_⟩
  refine List.forall_mem_cons.mpr ⟨sl_358 L xs, ?_⟩
  refine List.forall_mem_cons.mpr ⟨sl_359 L xs, ?_⟩
  refine List.forall_mem_cons.mpr ⟨sl_360 L xs, ?_⟩
  refine List.forall_mem_cons.mpr ⟨sl_361 L xs, ?_⟩
  refine List.forall_mem_cons.mpr ⟨sl_362 L xs, ?_⟩
  refine List.forall_mem_cons.mpr ⟨sl_365 L xs, ?_⟩
  refine List.forall_mem_cons.mpr ⟨sl_366 L xs, ?_⟩
  refine List.forall_mem_cons.mpr ⟨sl_367 L xs, ?_⟩
  refine List.forall_mem_cons.mpr ⟨sl_368 L xs, ?_⟩
  refine List.forall_mem_cons.mpr ⟨sl_369 L xs, ?_⟩
  refine List.forall_mem_cons.mpr ⟨sl_370 L xs, ?_⟩
  refine List.forall_mem_cons.mpr ⟨sl_371 L xs, ?_⟩
  refine List.forall_mem_cons.mpr ⟨sl_372 L xs, ?_⟩
  refine List.forall_mem_cons.mpr ⟨sl_373 L xs, ?_⟩
  refine List.forall_mem_cons.mpr ⟨sl_374 L xs, ?_⟩
  refine List.forall_mem_cons.mpr ⟨sl_375 L xs, ?_⟩
  refine List.forall_mem_cons.mpr ⟨sl_376 L xs, ?_⟩
  refine List.forall_mem_cons.mpr ⟨sl_377 L xs, ?_⟩
  refine List.forall_mem_cons.mpr ⟨sl_378 L xs, ?_⟩
  refine List.forall_mem_cons.mpr ⟨sl_379 L xs, ?_⟩
  refine List.forall_mem_cons.mpr ⟨sl_380 L xs, ?_⟩
  refine List.forall_mem_cons.mpr ⟨sl_381 L xs, ?_⟩
  refine List.forall_mem_cons.mpr ⟨sl_384 L xs, ?_⟩
  refine List.forall_mem_cons.mpr ⟨sl_387 L xs, ?_⟩
  refine List.forall_mem_cons.mpr ⟨sl_388 L xs, ?_⟩
  refine List.forall_mem_cons.mpr ⟨sl_389 L xs, ?_⟩
  refine List.forall_mem_cons.mpr ⟨sl_390 L xs, ?_⟩
  refine List.forall_mem_cons.mpr ⟨sl_391 L xs, ?_⟩
  refine List.forall_mem_cons.mpr ⟨sl_392 L xs, ?_⟩
  refine List.forall_mem_cons.mpr ⟨sl_393 L xs, ?_⟩
  refine List.forall_mem_cons.mpr ⟨sl_394 L xs, ?_⟩
  refine List.forall_mem_cons.mpr ⟨sl_395 L xs, ?_⟩
  refine List.forall_mem_cons.mpr ⟨sl_398 L xs, ?_⟩
  refine List.forall_mem_cons.mpr ⟨sl_399 L xs, ?_⟩
  refine List.forall_mem_cons.mpr ⟨sl_400 L xs, ?_⟩
  refine List.forall_mem_cons.mpr ⟨sl_401 L xs, ?_⟩
  refine List.forall_mem_cons.mpr ⟨sl_402 L xs, ?_⟩
  refine List.forall_mem_cons.mpr ⟨sl_403 L xs, ?_⟩
  refine List.forall_mem_cons.mpr ⟨sl_404 L xs, ?_⟩
  refine List.forall_mem_cons.mpr ⟨sl_407 L xs, ?_⟩
  refine List.forall_mem_cons.mpr ⟨sl_410 L xs, ?_⟩
  refine List.forall_mem_cons.mpr ⟨sl_411 L xs, ?_⟩
  refine List.forall_mem_cons.mpr ⟨sl_412 L xs, ?_⟩
  refine List.forall_mem_cons.mpr ⟨sl_413 L xs, ?_⟩
  refine List.forall_mem_cons.mpr ⟨sl_414 L xs, ?_⟩
  refine List.forall_mem_cons.mpr ⟨sl_415 L xs, ?_⟩
  refine List.forall_mem_cons.mpr ⟨sl_416 L xs, ?_⟩
  refine List.forall_mem_cons.mpr ⟨sl_417 L xs, ?_⟩
  refine List.forall_mem_cons.mpr ⟨sl_418 L xs, ?_⟩
  refine List.forall_mem_cons.mpr ⟨sl_421 L xs, ?_⟩
  refine List.forall_mem_cons.mpr ⟨sl_422 L xs, ?_⟩
  refine List.forall_mem_cons.mpr ⟨sl_423 L xs, ?_⟩
  refine List.forall_mem_cons.mpr ⟨sl_424 L xs, ?_⟩
  refine List.forall_mem_cons.mpr ⟨sl_425 L xs, ?_⟩
  refine List.forall_mem_cons.mpr ⟨sl_426 L xs, ?_⟩
  refine List.forall_mem_cons.mpr ⟨sl_427 L xs, ?_⟩
  refine List.forall_mem_cons.mpr ⟨sl_430 L xs, ?_⟩
  refine List.forall_mem_cons.mpr ⟨sl_433 L xs, ?_⟩
  refine List.forall_mem_cons.mpr ⟨sl_434 L xs, ?_⟩
  refine List.forall_mem_cons.mpr ⟨sl_435 L xs, ?_⟩
  refine List.forall_mem_cons.mpr ⟨sl_436 L xs, ?_⟩
  refine List.forall_mem_cons.mpr ⟨sl_437 L xs, ?_⟩
  refine List.forall_mem_cons.mpr ⟨sl_438 L xs, ?_⟩
  refine List.forall_mem_cons.mpr ⟨sl_439 L xs, ?_⟩
  refine List.forall_mem_cons.mpr ⟨sl_440 L xs, ?_⟩
  refine List.forall_mem_cons.mpr ⟨sl_441 L xs, ?_⟩
  refine List.forall_mem_cons.mpr ⟨sl_444 L xs, ?_⟩
  refine List.forall_mem_cons.mpr ⟨sl_445 L xs, ?_⟩
  refine List.forall_mem_cons.mpr ⟨sl_446 L xs, ?_⟩
  refine List.forall_mem_cons.mpr ⟨sl_447 L xs, ?_⟩
  refine List.forall_mem_cons.mpr ⟨sl_448 L xs, ?_⟩
  refine List.forall_mem_cons.mpr ⟨sl_449 L xs, ?_⟩
  refine List.forall_mem_cons.mpr ⟨sl_450 L xs, ?_⟩
  refine List.forall_mem_cons.mpr ⟨sl_453 L xs, ?_⟩
  refine List.forall_mem_cons.mpr ⟨sl_456 L xs, ?_⟩
  refine List.forall_mem_cons.mpr ⟨sl_457 L xs, ?_⟩
  refine List.forall_mem_cons.mpr ⟨sl_458 L xs, ?_⟩
  refine List.forall_mem_cons.mpr ⟨sl_459 L xs, ?_⟩
  refine List.forall_mem_cons.mpr ⟨sl_460 L xs, ?_⟩
  refine List.forall_mem_cons.mpr ⟨sl_461 L xs, ?_⟩
  refine List.forall_mem_cons.mpr ⟨sl_462 L xs, ?_⟩
  refine List.forall_mem_cons.mpr ⟨sl_463 L xs, ?_⟩
  refine List.forall_mem_cons.mpr ⟨sl_464 L xs, ?_⟩
  refine List.forall_mem_cons.mpr ⟨sl_465 L xs, ?_⟩
  refine List.forall_mem_cons.mpr ⟨sl_466 L xs, ?_⟩
  refine List.forall_mem_cons.mpr ⟨sl_467 L xs, ?_⟩
  refine List.forall_mem_cons.mpr ⟨sl_468 L xs, ?_⟩
  refine List.forall_mem_cons.mpr ⟨sl_469 L xs, ?_⟩
  refine List.forall_mem_cons.mpr ⟨sl_472 L xs, ?_⟩
  refine List.forall_mem_cons.mpr ⟨sl_473 L xs, ?_⟩
  refine List.forall_mem_cons.mpr ⟨sl_474 L xs, ?_⟩
  refine List.forall_mem_cons.mpr ⟨sl_475 L xs, ?_⟩
  refine List.forall_mem_cons.mpr ⟨sl_476 L xs, ?_⟩
  refine List.forall_mem_cons.mpr ⟨sl_477 L xs, ?_⟩
  refine List.forall_mem_cons.mpr ⟨sl_478 L xs, ?_⟩
  refine List.forall_mem_cons.mpr ⟨sl_479 L xs, ?_⟩
  refine List.forall_mem_cons.mpr ⟨sl_480 L xs, ?_⟩
  refine List.forall_mem_cons.mpr ⟨sl_481 L xs, ?_⟩
  refine List.forall_mem_cons.mpr ⟨sl_482 L xs, ?_⟩
  refine List.forall_mem_cons.mpr ⟨sl_483 L xs, ?_⟩
  refine List.forall_mem_cons.mpr ⟨sl_486 L xs, ?_⟩
  refine List.forall_mem_cons.mpr ⟨sl_489 L xs, ?_⟩
  refine List.forall_mem_cons.mpr ⟨sl_490 L xs, ?_⟩
  refine List.forall_mem_cons.mpr ⟨sl_491 L xs, ?_⟩
  refine List.forall_mem_cons.mpr ⟨sl_492 L xs, ?_⟩
  refine List.forall_mem_cons.mpr ⟨sl_495 L xs, ?_⟩
  refine List.forall_mem_cons.mpr ⟨sl_496 L xs, ?_⟩
  refine List.forall_mem_cons.mpr ⟨sl_499 L xs, ?_⟩
  refine List.forall_mem_cons.mpr ⟨sl_502 L xs, ?_⟩
  refine List.forall_mem_cons.mpr ⟨sl_503 L xs, ?_⟩
  refine List.forall_mem_cons.mpr ⟨sl_504 L xs, ?_⟩
  refine List.forall_mem_cons.mpr ⟨sl_505 L xs, ?_⟩
  refine List.forall_mem_cons.mpr ⟨sl_506 L xs, ?_⟩
  refine List.forall_mem_cons.mpr ⟨sl_507 L xs, ?_⟩
  refine List.forall_mem_cons.mpr ⟨sl_508 L xs, ?_⟩
  refine List.forall_mem_cons.mpr ⟨sl_509 L xs, ?_⟩
  refine List.forall_mem_cons.mpr ⟨sl_510 L xs, ?_⟩
  refine List.forall_mem_cons.mpr ⟨sl_511 L xs, ?_⟩
  refine List.forall_mem_cons.mpr ⟨sl_512 L xs, ?_⟩
  refine List.forall_mem_cons.mpr ⟨sl_513 L xs, ?_⟩
  refine List.forall_mem_cons.mpr ⟨sl_514 L xs, ?_⟩
  refine List.forall_mem_cons.mpr ⟨sl_515 L xs, ?_⟩
  refine List.forall_mem_cons.mpr ⟨sl_516 L xs, ?_⟩
  refine List.forall_mem_cons.mpr ⟨sl_517 L xs, ?_⟩
  refine List.forall_mem_cons.mpr ⟨sl_518 L xs, ?_⟩
  refine List.forall_mem_cons.mpr ⟨sl_519 L xs, ?_⟩
  refine List.forall_mem_cons.mpr ⟨sl_520 L xs, ?_⟩
  refine List.forall_mem_cons.mpr ⟨sl_523 L xs, ?_⟩
  refine List.forall_mem_cons.mpr ⟨sl_524 L xs, ?_⟩
  refine List.forall_mem_cons.mpr ⟨sl_525 L xs, ?_⟩
  refine List.forall_mem_cons.mpr ⟨sl_526 L xs, ?_⟩
  refine List.forall_mem_cons.mpr ⟨sl_527 L xs, ?_⟩
  refine List.forall_mem_cons.mpr ⟨sl_528 L xs, ?_⟩
  refine List.forall_mem_cons.mpr ⟨sl_529 L xs, ?_⟩
  refine List.forall_mem_cons.mpr ⟨sl_530 L xs, ?_⟩
  refine List.forall_mem_cons.mpr ⟨sl_531 L xs, ?_⟩
  refine List.forall_mem_cons.mpr ⟨sl_532 L xs, ?_⟩
  refine List.forall_mem_cons.mpr ⟨sl_533 L xs, ?_⟩
  refine List.forall_mem_cons.mpr ⟨sl_534 L xs, ?_⟩
  refine List.forall_mem_cons.mpr ⟨sl_535 L xs, ?_⟩
  refine List.forall_mem_cons.mpr ⟨sl_536 L xs, ?_⟩
  refine List.forall_mem_cons.mpr ⟨sl_537 L xs, ?_⟩
  refine List.forall_mem_cons.mpr ⟨sl_538 L xs, ?_⟩
  refine List.forall_mem_cons.mpr ⟨sl_539 L xs, ?_⟩
  refine List.forall_mem_cons.mpr ⟨sl_542 L xs, ?_⟩
  refine List.forall_mem_cons.mpr ⟨sl_545 L xs, ?_⟩
  refine List.forall_mem_cons.mpr ⟨sl_546 L xs, ?_⟩
  refine List.forall_mem_cons.mpr ⟨sl_547 L xs, ?_⟩
  refine List.forall_mem_cons.mpr ⟨sl_548 L xs, ?_⟩
  refine List.forall_mem_cons.mpr ⟨sl_549 L xs, ?_⟩
  refine List.forall_mem_cons.mpr ⟨sl_550 L xs, ?_⟩
  refine List.forall_mem_cons.mpr ⟨sl_551 L xs, ?_⟩
  refine List.forall_mem_cons.mpr ⟨sl_552 L xs, ?_⟩
  refine List.forall_mem_cons.mpr ⟨sl_553 L xs, ?_⟩
  refine List.forall_mem_cons.mpr ⟨sl_554 L xs, ?_⟩
  refine List.forall_mem_cons.mpr ⟨sl_555 L xs, ?_⟩
  refine List.forall_mem_cons.mpr ⟨sl_556 L xs, ?_⟩
  refine List.forall_mem_cons.mpr ⟨sl_557 L xs, ?_⟩
  refine List.forall_mem_cons.mpr ⟨sl_558 L xs, ?_⟩
  refine List.forall_mem_cons.mpr ⟨sl_561 L xs, ?_⟩
  refine List.forall_mem_cons.mpr ⟨sl_562 L xs, ?_⟩
  refine List.forall_mem_cons.mpr ⟨sl_563 L xs, ?_⟩
  refine List.forall_mem_cons.mpr ⟨sl_564 L xs, ?_⟩
  refine List.forall_mem_cons.mpr ⟨sl_565 L xs, ?_⟩
  refine List.forall_mem_cons.mpr ⟨sl_566 L xs, ?_⟩
  refine List.forall_mem_cons.mpr ⟨sl_567 L xs, ?_⟩
  refine List.forall_mem_cons.mpr ⟨sl_568 L xs, ?_⟩
  refine List.forall_mem_cons.mpr ⟨sl_569 L xs, ?_⟩
  refine List.forall_mem_cons.mpr ⟨sl_570 L xs, ?_⟩
  refine List.forall_mem_cons.mpr ⟨sl_571 L xs, ?_⟩
  refine List.forall_mem_cons.mpr ⟨sl_572 L xs, ?_⟩
  refine List.forall_mem_cons.mpr ⟨sl_575 L xs, ?_⟩
  refine List.forall_mem_cons.mpr ⟨sl_578 L xs, ?_⟩
  refine List.forall_mem_cons.mpr ⟨sl_579 L xs, ?_⟩
  refine List.forall_mem_cons.mpr ⟨sl_580 L xs, ?_⟩
  refine List.forall_mem_cons.mpr ⟨sl_581 L xs, ?_⟩
  refine List.forall_mem_cons.mpr ⟨sl_584 L xs, ?_⟩
  refine List.forall_mem_cons.mpr ⟨sl_585 L xs, ?_⟩
  refine List.forall_mem_cons.mpr ⟨sl_588 L xs, ?_⟩
  refine List.forall_mem_cons.mpr ⟨sl_591 L xs, ?_⟩
  refine List.forall_mem_cons.mpr ⟨sl_592 L xs, ?_⟩
  refine List.forall_mem_cons.mpr ⟨sl_593 L xs, ?_⟩
  refine List.forall_mem_cons.mpr ⟨sl_594 L xs, ?_⟩
  refine List.forall_mem_cons.mpr ⟨sl_595 L xs, ?_⟩
  refine List.forall_mem_cons.mpr ⟨sl_596 L xs, ?_⟩
  refine List.forall_mem_cons.mpr ⟨sl_597 L xs, ?_⟩
  refine List.forall_mem_cons.mpr ⟨sl_598 L xs, ?_⟩
  refine List.forall_mem_cons.mpr ⟨sl_599 L xs, ?_⟩
  refine List.forall_mem_cons.mpr ⟨sl_602 L xs, ?_⟩
  refine List.forall_mem_cons.mpr ⟨sl_603 L xs, ?_⟩
  refine List.forall_mem_cons.mpr ⟨sl_604 L xs, ?_⟩
  refine List.forall_mem_cons.mpr ⟨sl_605 L xs, ?_⟩
  refine List.forall_mem_cons.mpr ⟨sl_606 L xs, ?_⟩
  refine List.forall_mem_cons.mpr ⟨sl_607 L xs, ?_⟩
  refine List.forall_mem_cons.mpr ⟨sl_608 L xs, ?_⟩
  refine List.forall_mem_cons.mpr ⟨sl_611 L xs, ?_⟩
  refine List.forall_mem_cons.mpr ⟨sl_614 L xs, ?_⟩
  refine List.forall_mem_cons.mpr ⟨sl_615 L xs, ?_⟩
  refine List.forall_mem_cons.mpr ⟨sl_616 L xs, ?_⟩
  refine List.forall_mem_cons.mpr ⟨sl_617 L xs, ?_⟩
  refine List.forall_mem_cons.mpr ⟨sl_618 L xs, ?_⟩
  refine List.forall_mem_cons.mpr ⟨sl_619 L xs, ?_⟩
  refine List.forall_mem_cons.mpr ⟨sl_620 L xs, ?_⟩
  refine List.forall_mem_cons.mpr ⟨sl_621 L xs, ?_⟩
  refine List.forall_mem_cons.mpr ⟨sl_622 L xs, ?_⟩
  refine List.forall_mem_cons.mpr ⟨sl_623 L xs, ?_⟩
  refine List.forall_mem_cons.mpr ⟨sl_624 L xs, ?_⟩
  refine List.forall_mem_cons.mpr ⟨sl_625 L xs, ?_⟩
  refine List.forall_mem_cons.mpr ⟨sl_626 L xs, ?_⟩
  refine List.forall_mem_cons.mpr ⟨sl_627 L xs, ?_⟩
  refine List.forall_mem_cons.mpr ⟨sl_630 L xs, ?_⟩
  refine List.forall_mem_cons.mpr ⟨sl_631 L xs, ?_⟩
  refine List.forall_mem_cons.mpr ⟨sl_632 L xs, ?_⟩
  refine List.forall_mem_cons.mpr ⟨sl_633 L xs, ?_⟩
  refine List.forall_mem_cons.mpr ⟨sl_634 L xs, ?_⟩
  refine List.forall_mem_cons.mpr ⟨sl_635 L xs, ?_⟩
  refine List.forall_mem_cons.mpr ⟨sl_636 L xs, ?_⟩
  refine List.forall_mem_cons.mpr ⟨sl_637 L xs, ?_⟩
  refine List.forall_mem_cons.mpr ⟨sl_638 L xs, ?_⟩
  refine List.forall_mem_cons.mpr ⟨sl_639 L xs, ?_⟩
  refine List.forall_mem_cons.mpr ⟨sl_640 L xs, ?_⟩
  refine List.forall_mem_cons.mpr ⟨sl_641 L xs, ?_⟩
  refine List.forall_mem_cons.mpr ⟨sl_644 L xs, ?_⟩
  refine List.forall_mem_cons.mpr ⟨sl_647 L xs, ?_⟩
  refine List.forall_mem_cons.mpr ⟨sl_648 L xs, ?_⟩
  refine List.forall_mem_cons.mpr ⟨sl_649 L xs, ?_⟩
  refine List.forall_mem_cons.mpr ⟨sl_650 L xs, ?_⟩
  refine List.forall_mem_cons.mpr ⟨sl_651 L xs, ?_⟩
  refine List.forall_mem_cons.mpr ⟨sl_652 L xs, ?_⟩
  refine List.forall_mem_cons.mpr ⟨sl_653 L xs, ?_⟩
  refine List.forall_mem_cons.mpr ⟨sl_654 L xs, ?_⟩
  refine List.forall_mem_cons.mpr ⟨sl_655 L xs, ?_⟩
  refine List.forall_mem_cons.mpr ⟨sl_656 L xs, ?_⟩
  refine List.forall_mem_cons.mpr ⟨sl_657 L xs, ?_⟩
  refine List.forall_mem_cons.mpr ⟨sl_658 L xs, ?_⟩
  refine List.forall_mem_cons.mpr ⟨sl_659 L xs, ?_⟩
  refine List.forall_mem_cons.mpr ⟨sl_660 L xs, ?_⟩
  refine List.forall_mem_cons.mpr ⟨sl_663 L xs, ?_⟩
  refine List.forall_mem_cons.mpr ⟨sl_664 L xs, ?_⟩
  refine List.forall_mem_cons.mpr ⟨sl_665 L xs, ?_⟩
  refine List.forall_mem_cons.mpr ⟨sl_666 L xs, ?_⟩
  refine List.forall_mem_cons.mpr ⟨sl_667 L xs, ?_⟩
  refine List.forall_mem_cons.mpr ⟨sl_668 L xs, ?_⟩
  refine List.forall_mem_cons.mpr ⟨sl_669 L xs, ?_⟩
  refine List.forall_mem_cons.mpr ⟨sl_670 L xs, ?_⟩
  refine List.forall_mem_cons.mpr ⟨sl_671 L xs, ?_⟩
  refine List.forall_mem_cons.mpr ⟨sl_672 L xs, ?_⟩
  refine List.forall_mem_cons.mpr ⟨sl_673 L xs, ?_⟩
  refine List.forall_mem_cons.mpr ⟨sl_674 L xs, ?_⟩
  refine List.forall_mem_cons.mpr ⟨sl_677 L xs, ?_⟩
  refine List.forall_mem_cons.mpr ⟨sl_680 L xs, ?_⟩
  refine List.forall_mem_cons.mpr ⟨sl_681 L xs, ?_⟩
  refine List.forall_mem_cons.mpr ⟨sl_682 L xs, ?_⟩
  refine List.forall_mem_cons.mpr ⟨sl_683 L xs, ?_⟩
  refine List.forall_mem_cons.mpr ⟨sl_684 L xs, ?_⟩
  refine List.forall_mem_cons.mpr ⟨sl_685 L xs, ?_⟩
  refine List.forall_mem_cons.mpr ⟨sl_686 L xs, ?_⟩
  refine List.forall_mem_cons.mpr ⟨sl_687 L xs, ?_⟩
  refine List.forall_mem_cons.mpr ⟨sl_688 L xs, ?_⟩
  refine List.forall_mem_cons.mpr ⟨sl_689 L xs, ?_⟩
  refine List.forall_mem_cons.mpr ⟨sl_690 L xs, ?_⟩
  refine List.forall_mem_cons.mpr ⟨sl_691 L xs, ?_⟩
  refine List.forall_mem_cons.mpr ⟨sl_692 L xs, ?_⟩
  refine List.forall_mem_cons.mpr ⟨sl_693 L xs, ?_⟩
  refine List.forall_mem_cons.mpr ⟨sl_696 L xs, ?_⟩
  refine List.forall_mem_cons.mpr ⟨sl_697 L xs, ?_⟩
  refine List.forall_mem_cons.mpr ⟨sl_698 L xs, ?_⟩
  refine List.forall_mem_cons.mpr ⟨sl_699 L xs, ?_⟩
  refine List.forall_mem_cons.mpr ⟨sl_700 L xs, ?_⟩
  refine List.forall_mem_cons.mpr ⟨sl_701 L xs, ?_⟩
  refine List.forall_mem_cons.mpr ⟨sl_702 L xs, ?_⟩
  refine List.forall_mem_cons.mpr ⟨sl_703 L xs, ?_⟩
  refine List.forall_mem_cons.mpr ⟨sl_704 L xs, ?_⟩
  refine List.forall_mem_cons.mpr ⟨sl_705 L xs, ?_⟩
  refine List.forall_mem_cons.mpr ⟨sl_706 L xs, ?_⟩
  refine List.forall_mem_cons.mpr ⟨sl_707 L xs, ?_⟩
  refine List.forall_mem_cons.mpr ⟨sl_710 L xs, ?_⟩
  refine List.forall_mem_cons.mpr ⟨sl_713 L xs, ?_⟩
  refine List.forall_mem_cons.mpr ⟨sl_714 L xs, ?_⟩
  refine List.forall_mem_cons.mpr ⟨sl_715 L xs, ?_⟩
  refine List.forall_mem_cons.mpr ⟨sl_716 L xs, ?_⟩
  refine List.forall_mem_cons.mpr ⟨sl_717 L xs, ?_⟩
  refine List.forall_mem_cons.mpr ⟨sl_718 L xs, ?_⟩
  refine List.forall_mem_cons.mpr ⟨sl_719 L xs, ?_⟩
  refine List.forall_mem_cons.mpr ⟨sl_720 L xs, ?_⟩
  refine List.forall_mem_cons.mpr ⟨sl_721 L xs, ?_⟩
  refine List.forall_mem_cons.mpr ⟨sl_722 L xs, ?_⟩
  refine List.forall_mem_cons.mpr ⟨sl_723 L xs, ?_⟩
  refine List.forall_mem_cons.mpr ⟨sl_724 L xs, ?_⟩
  refine List.forall_mem_cons.mpr ⟨sl_725 L xs, ?_⟩
  refine List.forall_mem_cons.mpr ⟨sl_726 L xs, ?_⟩
  refine List.forall_mem_cons.mpr ⟨sl_727 L xs, ?_⟩
  refine List.forall_mem_cons.mpr ⟨sl_728 L xs, ?_⟩
  refine List.forall_mem_cons.mpr ⟨sl_729 L xs, ?_⟩
  refine List.forall_mem_cons.mpr ⟨sl_730 L xs, ?_⟩
  refine List.forall_mem_cons.mpr ⟨sl_731 L xs, ?_⟩
  refine List.forall_mem_cons.mpr ⟨sl_732 L xs, ?_⟩
  refine List.forall_mem_cons.mpr ⟨sl_733 L xs, ?_⟩
  refine List.forall_mem_cons.mpr ⟨sl_734 L xs, ?_⟩
  refine List.forall_mem_cons.mpr ⟨sl_735 L xs, ?_⟩
  refine List.forall_mem_cons.mpr ⟨sl_736 L xs, ?_⟩
  refine List.forall_mem_cons.mpr ⟨sl_739 L xs, ?_⟩
  refine List.forall_mem_cons.mpr ⟨sl_740 L xs, ?_⟩
  refine List.forall_mem_cons.mpr ⟨sl_741 L xs, ?_⟩
  refine List.forall_mem_cons.mpr ⟨sl_742 L xs, ?_⟩
  refine List.forall_mem_cons.mpr ⟨sl_743 L xs, ?_⟩
  refine List.forall_mem_cons.mpr ⟨sl_744 L xs, ?_⟩
  refine List.forall_mem_cons.mpr ⟨sl_745 L xs, ?_⟩
  refine List.forall_mem_cons.mpr ⟨sl_746 L xs, ?_⟩
  refine List.forall_mem_cons.mpr ⟨sl_747 L xs, ?_⟩
  refine List.forall_mem_cons.mpr ⟨sl_748 L xs, ?_⟩
  refine List.forall_mem_cons.mpr ⟨sl_749 L xs, ?_⟩
  refine List.forall_mem_cons.mpr ⟨sl_750 L xs, ?_⟩
  refine List.forall_mem_cons.mpr ⟨sl_751 L xs, ?_⟩
  refine List.forall_mem_cons.mpr ⟨sl_752 L xs, ?_⟩
  refine List.forall_mem_cons.mpr ⟨sl_753 L xs, ?_⟩
  refine List.forall_mem_cons.mpr ⟨sl_754 L xs, ?_⟩
  refine List.forall_mem_cons.mpr ⟨sl_755 L xs, ?_⟩
  refine List.forall_mem_cons.mpr ⟨sl_756 L xs, ?_⟩
  refine List.forall_mem_cons.mpr ⟨sl_757 L xs, ?_⟩
  refine List.forall_mem_cons.mpr ⟨sl_758 L xs, ?_⟩
  refine List.forall_mem_cons.mpr ⟨sl_759 L xs, ?_⟩
  refine List.forall_mem_cons.mpr ⟨sl_760 L xs, ?_⟩
  refine List.forall_mem_cons.mpr ⟨sl_763 L xs, ?_⟩
  refine List.forall_mem_cons.mpr ⟨sl_766 L xs, ?_⟩
  refine List.forall_mem_cons.mpr ⟨sl_767 L xs, ?_⟩
  refine List.forall_mem_cons.mpr ⟨sl_768 L xs, ?_⟩
  refine List.forall_mem_cons.mpr ⟨sl_769 L xs, ?_⟩
  refine List.forall_mem_cons.mpr ⟨sl_772 L xs, ?_⟩
  refine List.forall_mem_cons.mpr ⟨sl_773 L xs, ?_⟩
  refine List.forall_mem_cons.mpr ⟨sl_776 L xs, ?_⟩
  refine List.forall_mem_cons.mpr ⟨sl_779 L xs, ?_⟩
  refine List.forall_mem_cons.mpr ⟨sl_780 L xs, ?_⟩
  refine List.forall_mem_cons.mpr ⟨sl_781 L xs, ?_⟩
  refine List.forall_mem_cons.mpr ⟨sl_782 L xs, ?_⟩
  refine List.forall_mem_cons.mpr ⟨sl_783 L xs, ?_⟩
  refine List.forall_mem_cons.mpr ⟨sl_784 L xs, ?_⟩
  refine List.forall_mem_cons.mpr ⟨sl_785 L xs, ?_⟩
  refine List.forall_mem_cons.mpr ⟨sl_786 L xs, ?_⟩
  refine List.forall_mem_cons.mpr ⟨sl_787 L xs, ?_⟩
  refine List.forall_mem_cons.mpr ⟨sl_790 L xs, ?_⟩
  refine List.forall_mem_cons.mpr ⟨sl_791 L xs, ?_⟩
  refine List.forall_mem_cons.mpr ⟨sl_792 L xs, ?_⟩
  refine List.forall_mem_cons.mpr ⟨sl_793 L xs, ?_⟩
  refine List.forall_mem_cons.mpr ⟨sl_794 L xs, ?_⟩
  refine List.forall_mem_cons.mpr ⟨sl_795 L xs, ?_⟩
  refine List.forall_mem_cons.mpr ⟨sl_796 L xs, ?_⟩
  refine List.forall_mem_cons.mpr ⟨sl_799 L xs, ?_⟩
  refine List.forall_mem_cons.mpr ⟨sl_802 L xs, ?_⟩
  refine List.forall_mem_cons.mpr ⟨sl_803 L xs, ?_⟩
  refine List.forall_mem_cons.mpr ⟨sl_804 L xs, ?_⟩
  refine List.forall_mem_cons.mpr ⟨sl_805 L xs, ?_⟩
  refine List.forall_mem_cons.mpr ⟨sl_806 L xs, ?_⟩
  refine List.forall_mem_cons.mpr ⟨sl_807 L xs, ?_⟩
  refine List.forall_mem_cons.mpr ⟨sl_808 L xs, ?_⟩
  refine List.forall_mem_cons.mpr ⟨sl_809 L xs, ?_⟩
  refine List.forall_mem_cons.mpr ⟨sl_810 L xs, ?_⟩
  refine List.forall_mem_cons.mpr ⟨sl_813 L xs, ?_⟩
  refine List.forall_mem_cons.mpr ⟨sl_814 L xs, ?_⟩
  refine List.forall_mem_cons.mpr ⟨sl_815 L xs, ?_⟩
  refine List.forall_mem_cons.mpr ⟨sl_816 L xs, ?_⟩
  refine List.forall_mem_cons.mpr ⟨sl_817 L xs, ?_⟩
  refine List.forall_mem_cons.mpr ⟨sl_818 L xs, ?_⟩
  refine List.forall_mem_cons.mpr ⟨sl_819 L xs, ?_⟩
  refine List.forall_mem_cons.mpr ⟨sl_822 L xs, ?_⟩
  refine List.forall_mem_cons.mpr ⟨sl_825 L xs, ?_⟩
  refine List.forall_mem_cons.mpr ⟨sl_826 L xs, ?_⟩
  refine List.forall_mem_cons.mpr ⟨sl_827 L xs, ?_⟩
  refine List.forall_mem_cons.mpr ⟨sl_828 L xs, ?_⟩
  refine List.forall_mem_cons.mpr ⟨sl_829 L xs, ?_⟩
  refine List.forall_mem_cons.mpr ⟨sl_830 L xs, ?_⟩
  refine List.forall_mem_cons.mpr ⟨sl_831 L xs, ?_⟩
  refine List.forall_mem_cons.mpr ⟨sl_832 L xs, ?_⟩
  refine List.forall_mem_cons.mpr ⟨sl_833 L xs, ?_⟩
  refine List.forall_mem_cons.mpr ⟨sl_834 L xs, ?_⟩
  refine List.forall_mem_cons.mpr ⟨sl_835 L xs, ?_⟩
  refine List.forall_mem_cons.mpr ⟨sl_836 L xs, ?_⟩
  refine List.forall_mem_cons.mpr ⟨sl_837 L xs, ?_⟩
  refine List.forall_mem_cons.mpr ⟨sl_838 L xs, ?_⟩
  refine List.forall_mem_cons.mpr ⟨sl_839 L xs, ?_⟩
  refine List.forall_mem_cons.mpr ⟨sl_840 L xs, ?_⟩
  refine List.forall_mem_cons.mpr ⟨sl_841 L xs, ?_⟩
  refine List.forall_mem_cons.mpr ⟨sl_842 L xs, ?_⟩
  refine List.forall_mem_cons.mpr ⟨sl_843 L xs, ?_⟩
  refine List.forall_mem_cons.mpr ⟨sl_846 L xs, ?_⟩
  refine List.forall_mem_cons.mpr ⟨sl_847 L xs, ?_⟩
  refine List.forall_mem_cons.mpr ⟨sl_848 L xs, ?_⟩
  refine List.forall_mem_cons.mpr ⟨sl_849 L xs, ?_⟩
  refine List.forall_mem_cons.mpr ⟨sl_850 L xs, ?_⟩
  refine List.forall_mem_cons.mpr ⟨sl_851 L xs, ?_⟩
  refine List.forall_mem_cons.mpr ⟨sl_852 L xs, ?_⟩
  refine List.forall_mem_cons.mpr ⟨sl_853 L xs, ?_⟩
  refine List.forall_mem_cons.mpr ⟨sl_854 L xs, ?_⟩
  refine List.forall_mem_cons.mpr ⟨sl_855 L xs, ?_⟩
  refine List.forall_mem_cons.mpr ⟨sl_856 L xs, ?_⟩
  refine List.forall_mem_cons.mpr ⟨sl_857 L xs, ?_⟩
  refine List.forall_mem_cons.mpr ⟨sl_858 L xs, ?_⟩
  refine List.forall_mem_cons.mpr ⟨sl_859 L xs, ?_⟩
  refine List.forall_mem_cons.mpr ⟨sl_860 L xs, ?_⟩
  refine List.forall_mem_cons.mpr ⟨sl_861 L xs, ?_⟩
  refine List.forall_mem_cons.mpr ⟨sl_862 L xs, ?_⟩
  refine List.forall_mem_cons.mpr ⟨sl_865 L xs, ?_⟩
  refine List.forall_mem_cons.mpr ⟨sl_868 L xs, ?_⟩
  refine List.forall_mem_cons.mpr ⟨sl_869 L xs, ?_⟩
  refine List.forall_mem_cons.mpr ⟨sl_870 L xs, ?_⟩
  refine List.forall_mem_cons.mpr ⟨sl_871 L xs, ?_⟩
  refine List.forall_mem_cons.mpr ⟨sl_872 L xs, ?_⟩
  refine List.forall_mem_cons.mpr ⟨sl_873 L xs, ?_⟩
  refine List.forall_mem_cons.mpr ⟨sl_874 L xs, ?_⟩
  refine List.forall_mem_cons.mpr ⟨sl_875 L xs, ?_⟩
  refine List.forall_mem_cons.mpr ⟨sl_876 L xs, ?_⟩
  refine List.forall_mem_cons.mpr ⟨sl_877 L xs, ?_⟩
  refine List.forall_mem_cons.mpr ⟨sl_878 L xs, ?_⟩
  refine List.forall_mem_cons.mpr ⟨sl_879 L xs, ?_⟩
  refine List.forall_mem_cons.mpr ⟨sl_880 L xs, ?_⟩
  refine List.forall_mem_cons.mpr ⟨sl_881 L xs, ?_⟩
  refine List.forall_mem_cons.mpr ⟨sl_882 L xs, ?_⟩
  refine List.forall_mem_cons.mpr ⟨sl_883 L xs, ?_⟩
  refine List.forall_mem_cons.mpr ⟨sl_884 L xs, ?_⟩
  refine List.forall_mem_cons.mpr ⟨sl_885 L xs, ?_⟩
  refine List.forall_mem_cons.mpr ⟨sl_886 L xs, ?_⟩
  refine List.forall_mem_cons.mpr ⟨sl_887 L xs, ?_⟩
  refine List.forall_mem_cons.mpr ⟨sl_888 L xs, ?_⟩
  refine List.forall_mem_cons.mpr ⟨sl_889 L xs, ?_⟩
  refine List.forall_mem_cons.mpr ⟨sl_890 L xs, ?_⟩
  refine List.forall_mem_cons.mpr ⟨sl_891 L xs, ?_⟩
  refine List.forall_mem_cons.mpr ⟨sl_892 L xs, ?_⟩
  refine List.forall_mem_cons.mpr ⟨sl_893 L xs, ?_⟩
  refine List.forall_mem_cons.mpr ⟨sl_894 L xs, ?_⟩
  refine List.forall_mem_cons.mpr ⟨sl_895 L xs, ?_⟩
  refine List.forall_mem_cons.mpr ⟨sl_896 L xs, ?_⟩
  refine List.forall_mem_cons.mpr ⟨sl_899 L xs, ?_⟩
  refine List.forall_mem_cons.mpr ⟨sl_900 L xs, ?_⟩
  refine List.forall_mem_cons.mpr ⟨sl_901 L xs, ?_⟩
  refine List.forall_mem_cons.mpr ⟨sl_902 L xs, ?_⟩
  refine List.forall_mem_cons.mpr ⟨sl_903 L xs, ?_⟩
  refine List.forall_mem_cons.mpr ⟨sl_904 L xs, ?_⟩
  refine List.forall_mem_cons.mpr ⟨sl_905 L xs, ?_⟩
  refine List.forall_mem_cons.mpr ⟨sl_906 L xs, ?_⟩
  refine List.forall_mem_cons.mpr ⟨sl_907 L xs, ?_⟩
  refine List.forall_mem_cons.mpr ⟨sl_908 L xs, ?_⟩
  refine List.forall_mem_cons.mpr ⟨sl_909 L xs, ?_⟩
  refine List.forall_mem_cons.mpr ⟨sl_910 L xs, ?_⟩
  refine List.forall_mem_cons.mpr ⟨sl_911 L xs, ?_⟩
  refine List.forall_mem_cons.mpr ⟨sl_912 L xs, ?_⟩
  refine List.forall_mem_cons.mpr ⟨sl_913 L xs, ?_⟩
  refine List.forall_mem_cons.mpr ⟨sl_914 L xs, ?_⟩
  refine List.forall_mem_cons.mpr ⟨sl_915 L xs, ?_⟩
  refine List.forall_mem_cons.mpr ⟨sl_916 L xs, ?_⟩
  refine List.forall_mem_cons.mpr ⟨sl_917 L xs, ?_⟩
  refine List.forall_mem_cons.mpr ⟨sl_918 L xs, ?_⟩
  refine List.forall_mem_cons.mpr ⟨sl_919 L xs, ?_⟩
  refine List.forall_mem_cons.mpr ⟨sl_920 L xs, ?_⟩
  refine List.forall_mem_cons.mpr ⟨sl_921 L xs, ?_⟩
  refine List.forall_mem_cons.mpr ⟨sl_922 L xs, ?_⟩
  refine List.forall_mem_cons.mpr ⟨sl_923 L xs, ?_⟩
  refine List.forall_mem_cons.mpr ⟨sl_924 L xs, ?_⟩
  refine List.forall_mem_cons.mpr ⟨sl_925 L xs, ?_⟩
  refine List.forall_mem_cons.mpr ⟨sl_928 L xs, ?_⟩
  refine List.forall_mem_cons.mpr ⟨sl_931 L xs, ?_⟩
  refine List.forall_mem_cons.mpr ⟨sl_932 L xs, ?_⟩
  refine List.forall_mem_cons.mpr ⟨sl_933 L xs, ?_⟩
  refine List.forall_mem_cons.mpr ⟨sl_934 L xs, ?_⟩
  refine List.forall_mem_cons.mpr ⟨sl_935 L xs, ?_⟩
  refine List.forall_mem_cons.mpr ⟨sl_936 L xs, ?_⟩
  refine List.forall_mem_cons.mpr ⟨sl_937 L xs, ?_⟩
  refine List.forall_mem_cons.mpr ⟨sl_938 L xs, ?_⟩
  refine List.forall_mem_cons.mpr ⟨sl_939 L xs, ?_⟩
  refine List.forall_mem_cons.mpr ⟨sl_940 L xs, ?_⟩
  refine List.forall_mem_cons.mpr ⟨sl_941 L xs, ?_⟩
  refine List.forall_mem_cons.mpr ⟨sl_942 L xs, ?_⟩
  refine List.forall_mem_cons.mpr ⟨sl_943 L xs, ?_⟩
  refine List.forall_mem_cons.mpr ⟨sl_944 L xs, ?_⟩
  refine List.forall_mem_cons.mpr ⟨sl_945 L xs, ?_⟩
  refine List.forall_mem_cons.mpr ⟨sl_946 L xs, ?_⟩
  refine List.forall_mem_cons.mpr ⟨sl_947 L xs, ?_⟩
  refine List.forall_mem_cons.mpr ⟨sl_948 L xs, ?_⟩
  refine List.forall_mem_cons.mpr ⟨sl_949 L xs, ?_⟩
  refine List.forall_mem_cons.mpr ⟨sl_952 L xs, ?_⟩
  refine List.forall_mem_cons.mpr ⟨sl_953 L xs, ?_⟩
  refine List.forall_mem_cons.mpr ⟨sl_954 L xs, ?_⟩
  refine List.forall_mem_cons.mpr ⟨sl_955 L xs, ?_⟩
  refine List.forall_mem_cons.mpr ⟨sl_956 L xs, ?_⟩
  refine List.forall_mem_cons.mpr ⟨sl_957 L xs, ?_⟩
  refine List.forall_mem_cons.mpr ⟨sl_958 L xs, ?_⟩
  refine List.forall_mem_cons.mpr ⟨sl_959 L xs, ?_⟩
  refine List.forall_mem_cons.mpr ⟨sl_960 L xs, ?_⟩
  refine List.forall_mem_cons.mpr ⟨sl_961 L xs, ?_⟩
  refine List.forall_mem_cons.mpr ⟨sl_962 L xs, ?_⟩
  refine List.forall_mem_cons.mpr ⟨sl_963 L xs, ?_⟩
  refine List.forall_mem_cons.mpr ⟨sl_964 L xs, ?_⟩
  refine List.forall_mem_cons.mpr ⟨sl_965 L xs, ?_⟩
  refine List.forall_mem_cons.mpr ⟨sl_966 L xs, ?_⟩
  refine List.forall_mem_cons.mpr ⟨sl_967 L xs, ?_⟩
  refine List.forall_mem_cons.mpr ⟨sl_968 L xs, ?_⟩
  refine List.forall_mem_cons.mpr ⟨sl_971 L xs, ?_⟩
  refine List.forall_mem_cons.mpr ⟨sl_974 L xs, ?_⟩
  refine List.forall_mem_cons.mpr ⟨sl_975 L xs, ?_⟩
  refine List.forall_mem_cons.mpr ⟨sl_976 L xs, ?_⟩
  refine List.forall_mem_cons.mpr ⟨sl_977 L xs, ?_⟩
  refine List.forall_mem_cons.mpr ⟨sl_980 L xs, ?_⟩
  refine List.forall_mem_cons.mpr ⟨sl_981 L xs, ?_⟩
  refine List.forall_mem_cons.mpr ⟨sl_984 L xs, ?_⟩
  refine List.forall_mem_cons.mpr ⟨sl_987 L xs, ?_⟩
  refine List.forall_mem_cons.mpr ⟨sl_988 L xs, ?_⟩
  refine List.forall_mem_cons.mpr ⟨sl_989 L xs, ?_⟩
  refine List.forall_mem_cons.mpr ⟨sl_990 L xs, ?_⟩
  refine List.forall_mem_cons.mpr ⟨sl_993 L xs, ?_⟩
  refine List.forall_mem_cons.mpr ⟨sl_994 L xs, ?_⟩
  refine List.forall_mem_cons.mpr ⟨sl_997 L xs, ?_⟩
  refine List.forall_mem_cons.mpr ⟨sl_1000 L xs, ?_⟩
  refine List.forall_mem_cons.mpr ⟨sl_1001 L xs, ?_⟩
  refine List.forall_mem_cons.mpr ⟨sl_1002 L xs, ?_⟩
  refine List.forall_mem_cons.mpr ⟨sl_1003 L xs, ?_⟩
  refine List.forall_mem_cons.mpr ⟨sl_1004 L xs, ?_⟩
  refine List.forall_mem_cons.mpr ⟨sl_1005 L xs, ?_⟩
  refine List.forall_mem_cons.mpr ⟨sl_1006 L xs, ?_⟩
  refine List.forall_mem_cons.mpr ⟨sl_1007 L xs, ?_⟩
  refine List.forall_mem_cons.mpr ⟨sl_1008 L xs, ?_⟩
  refine List.forall_mem_cons.mpr ⟨sl_1011 L xs, ?_⟩
  refine List.forall_mem_cons.mpr ⟨sl_1012 L xs, ?_⟩
  refine List.forall_mem_cons.mpr ⟨sl_1013 L xs, ?_⟩
  refine List.forall_mem_cons.mpr ⟨sl_1014 L xs, ?_⟩
  refine List.forall_mem_cons.mpr ⟨sl_1015 L xs, ?_⟩
  refine List.forall_mem_cons.mpr ⟨sl_1016 L xs, ?_⟩
  refine List.forall_mem_cons.mpr ⟨sl_1017 L xs, ?_⟩
  refine List.forall_mem_cons.mpr ⟨sl_1020 L xs, ?_⟩
  refine List.forall_mem_cons.mpr ⟨sl_1023 L xs, ?_⟩
  refine List.forall_mem_cons.mpr ⟨sl_1024 L xs, ?_⟩
  refine List.forall_mem_cons.mpr ⟨sl_1025 L xs, ?_⟩
  refine List.forall_mem_cons.mpr ⟨sl_1028 L xs, ?_⟩
  refine List.forall_mem_cons.mpr ⟨sl_1031 L xs, ?_⟩
  refine List.forall_mem_cons.mpr ⟨sl_1032 L xs, ?_⟩
  exact fun _ h => absurd h List.not_mem_nil
theorem m_law (L : Nat) (xs : Nat → Int32) : ∀ q ∈ k_law L xs, Mono q.2 := by
  unfold k_law
  refine List.forall_mem_cons.mpr ⟨mo_new _ _ _, ?_⟩
  refine List.forall_mem_cons.mpr ⟨mo_dup, ?_⟩
  refine List.forall_mem_cons.mpr ⟨mo_init79, ?_⟩
  refine List.forall_mem_cons.mpr ⟨mo_astore _ _, ?_⟩
  refine List.forall_mem_cons.mpr ⟨mo_new _ _ _, ?_⟩
  refine List.forall_mem_cons.mpr ⟨mo_dup, ?_⟩
  refine List.forall_mem_cons.mpr ⟨mo_call _ _ _, ?_⟩
  refine List.forall_mem_cons.mpr ⟨mo_astore _ _, ?_⟩
  refine List.forall_mem_cons.mpr ⟨mo_push _ _, ?_⟩
  refine List.forall_mem_cons.mpr ⟨mo_istore _ _, ?_⟩
  refine List.forall_mem_cons.mpr ⟨mo_iload _ _, ?_⟩
  refine List.forall_mem_cons.mpr ⟨mo_aload _ _, ?_⟩
  refine List.forall_mem_cons.mpr ⟨mo_slenL, ?_⟩
  refine List.forall_mem_cons.mpr ⟨mo_push _ _, ?_⟩
  refine List.forall_mem_cons.mpr ⟨mo_bin _, ?_⟩
  refine List.forall_mem_cons.mpr ⟨mo_icmp _ _ _, ?_⟩
  refine List.forall_mem_cons.mpr ⟨mo_aload _ _, ?_⟩
  refine List.forall_mem_cons.mpr ⟨mo_iload _ _, ?_⟩
  refine List.forall_mem_cons.mpr ⟨mo_sld, ?_⟩
  refine List.forall_mem_cons.mpr ⟨mo_push _ _, ?_⟩
  refine List.forall_mem_cons.mpr ⟨mo_bin _, ?_⟩
  refine List.forall_mem_cons.mpr ⟨mo_tsw _ _ _ _, ?_⟩
  refine List.forall_mem_cons.mpr ⟨mo_aload _ _, ?_⟩
  refine List.forall_mem_cons.mpr ⟨mo_aload _ _, ?_⟩
  refine List.forall_mem_cons.mpr ⟨mo_iload _ _, ?_⟩
  refine List.forall_mem_cons.mpr ⟨mo_push _ _, ?_⟩
  refine List.forall_mem_cons.mpr ⟨mo_bin _, ?_⟩
  refine List.forall_mem_cons.mpr ⟨mo_sld, ?_⟩
  refine List.forall_mem_cons.mpr ⟨mo_call _ _ _, ?_⟩
  refine List.forall_mem_cons.mpr ⟨mo_aload _ _, ?_⟩
  refine List.forall_mem_cons.mpr ⟨mo_aload _ _, ?_⟩
  refine List.forall_mem_cons.mpr ⟨mo_iload _ _, ?_⟩
  refine List.forall_mem_cons.mpr ⟨mo_push _ _, ?_⟩
  refine List.forall_mem_cons.mpr ⟨mo_bin _, ?_⟩
  refine List.forall_mem_cons.mpr ⟨mo_sld, ?_⟩
  refine List.forall_mem_cons.mpr ⟨mo_call _ _ _, ?_⟩
  refine List.forall_mem_cons.mpr ⟨mo_icmp _ _ _, ?_⟩
  refine List.forall_mem_cons.mpr ⟨mo_push _ _, ?_⟩
  refine List.forall_mem_cons.mpr ⟨mo_zret, ?_⟩
  refine List.forall_mem_cons.mpr ⟨mo_aload _ _, ?_⟩
  refine List.forall_mem_cons.mpr ⟨mo_call _ _ _, ?_⟩
  refine List.forall_mem_cons.mpr ⟨mo_aload _ _, ?_⟩
  refine List.forall_mem_cons.mpr ⟨mo_call _ _ _, ?_⟩
  refine List.forall_mem_cons.mpr ⟨mo_icmp _ _ _, ?_⟩
  refine List.forall_mem_cons.mpr ⟨mo_push _ _, ?_⟩
  refine List.forall_mem_cons.mpr ⟨mo_zret, ?_⟩
  refine List.forall_mem_cons.mpr ⟨mo_aload _ _, ?_⟩
  refine List.forall_mem_cons.mpr ⟨mo_call _ _ _, ?_⟩
  refine List.forall_mem_cons.mpr ⟨mo_aload _ _, ?_⟩
  refine List.forall_mem_cons.mpr ⟨mo_call _ _ _, ?_⟩
  refine List.forall_mem_cons.mpr ⟨mo_icmp _ _ _, ?_⟩
  refine List.forall_mem_cons.mpr ⟨mo_push _ _, ?_⟩
  refine List.forall_mem_cons.mpr ⟨mo_zret, ?_⟩
  refine List.forall_mem_cons.mpr ⟨mo_aload _ _, ?_⟩
  refine List.forall_mem_cons.mpr ⟨mo_call _ _ _, ?_⟩
  refine List.forall_mem_cons.mpr ⟨mo_aload _ _, ?_⟩
  refine List.forall_mem_cons.mpr ⟨mo_call _ _ _, ?_⟩
  refine List.forall_mem_cons.mpr ⟨mo_icmp _ _ _, ?_⟩
  refine List.forall_mem_cons.mpr ⟨mo_push _ _, ?_⟩
  refine List.forall_mem_cons.mpr ⟨mo_zret, ?_⟩
  refine List.forall_mem_cons.mpr ⟨mo_aload _ _, ?_⟩
  refine List.forall_mem_cons.mpr ⟨mo_aload _ _, ?_⟩
  refine List.forall_mem_cons.mpr ⟨mo_iload _ _, ?_⟩
  refine List.forall_mem_cons.mpr ⟨mo_push _ _, ?_⟩
  refine List.forall_mem_cons.mpr ⟨mo_bin _, ?_⟩
  refine List.forall_mem_cons.mpr ⟨mo_sld, ?_⟩
  refine List.forall_mem_cons.mpr ⟨mo_aload _ _, ?_⟩
  refine List.forall_mem_cons.mpr ⟨mo_iload _ _, ?_⟩
  refine List.forall_mem_cons.mpr ⟨mo_push _ _, ?_⟩
  refine List.forall_mem_cons.mpr ⟨mo_bin _, ?_⟩
  refine List.forall_mem_cons.mpr ⟨mo_sld, ?_⟩
  refine List.forall_mem_cons.mpr ⟨mo_call _ _ _, ?_⟩
  refine List.forall_mem_cons.mpr ⟨mo_aload _ _, ?_⟩
  refine List.forall_mem_cons.mpr ⟨mo_aload _ _, ?_⟩
  refine List.forall_mem_cons.mpr ⟨mo_iload _ _, ?_⟩
  refine List.forall_mem_cons.mpr ⟨mo_push _ _, ?_⟩
  refine List.forall_mem_cons.mpr ⟨mo_bin _, ?_⟩
  refine List.forall_mem_cons.mpr ⟨mo_sld, ?_⟩
  refine List.forall_mem_cons.mpr ⟨mo_aload _ _, ?_⟩
  refine List.forall_mem_cons.mpr ⟨mo_iload _ _, ?_⟩
  refine List.forall_mem_cons.mpr ⟨mo_push _ _, ?_⟩
  refine List.forall_mem_cons.mpr ⟨mo_bin _, ?_⟩
  refine List.forall_mem_cons.mpr ⟨mo_sld, ?_⟩
  refine List.forall_mem_cons.mpr ⟨mo_call _ _ _, ?_⟩
  refine List.forall_mem_cons.mpr ⟨mo_icmp _ _ _, ?_⟩
  refine List.forall_mem_cons.mpr ⟨mo_push _ _, ?_⟩
  refine List.forall_mem_cons.mpr ⟨mo_zret, ?_⟩
  refine List.forall_mem_cons.mpr ⟨mo_aload _ _, ?_⟩
  refine List.forall_mem_cons.mpr ⟨mo_aload _ _, ?_⟩
  refine List.forall_mem_cons.mpr ⟨mo_iload _ _, ?_⟩
  refine List.forall_mem_cons.mpr ⟨mo_push _ _, ?_⟩
  refine List.forall_mem_cons.mpr ⟨mo_bin _, ?_⟩
  refine List.forall_mem_cons.mpr ⟨mo_sld, ?_⟩
  refine List.forall_mem_cons.mpr ⟨mo_aload _ _, ?_⟩
  refine List.forall_mem_cons.mpr ⟨mo_iload _ _, ?_⟩
  refine List.forall_mem_cons.mpr ⟨mo_push _ _, ?_⟩
  refine List.forall_mem_cons.mpr ⟨mo_bin _, ?_⟩
  refine List.forall_mem_cons.mpr ⟨mo_sld, ?_⟩
  refine List.forall_mem_cons.mpr ⟨mo_call _ _ _, ?_⟩
  refine List.forall_mem_cons.mpr ⟨mo_aload _ _, ?_⟩
  refine List.forall_mem_cons.mpr ⟨mo_aload _ _, ?_⟩
  refine List.forall_mem_cons.mpr ⟨mo_iload _ _, ?_⟩
  refine List.forall_mem_cons.mpr ⟨mo_push _ _, ?_⟩
  refine List.forall_mem_cons.mpr ⟨mo_bin _, ?_⟩
  refine List.forall_mem_cons.mpr ⟨mo_sld, ?_⟩
  refine List.forall_mem_cons.mpr ⟨mo_aload _ _, ?_⟩
  refine List.forall_mem_cons.mpr ⟨mo_iload _ _, ?_⟩
  refine List.forall_mem_cons.mpr ⟨mo_push _ _, ?_⟩
  refine List.forall_mem_cons.mpr ⟨mo_bin _, ?_⟩
  refine List.forall_mem_cons.mpr ⟨mo_sld, ?_⟩
  refine List.forall_mem_cons.mpr ⟨mo_call _ _ _, ?_⟩
  refine List.forall_mem_cons.mpr ⟨mo_icmp _ _ _, ?_⟩
  refine List.forall_mem_cons.mpr ⟨mo_push _ _, ?_⟩
  refine List.forall_mem_cons.mpr ⟨mo_zret, ?_⟩
  refine List.forall_mem_cons.mpr ⟨mo_aload _ _, ?_⟩
  refine List.forall_mem_cons.mpr ⟨mo_aload _ _, ?_⟩
  refine List.forall_mem_cons.mpr ⟨mo_iload _ _, ?_⟩
  refine List.forall_mem_cons.mpr ⟨mo_push _ _, ?_⟩
  refine List.forall_mem_cons.mpr ⟨mo_bin _, ?_⟩
  refine List.forall_mem_cons.mpr ⟨mo_sld, ?_⟩
  refine List.forall_mem_cons.mpr ⟨mo_call _ _ _, ?_⟩
  refine List.forall_mem_cons.mpr ⟨mo_aload _ _, ?_⟩
  refine List.forall_mem_cons.mpr ⟨mo_aload _ _, ?_⟩
  refine List.forall_mem_cons.mpr ⟨mo_iload _ _, ?_⟩
  refine List.forall_mem_cons.mpr ⟨mo_push _ _, ?_⟩
  refine List.forall_mem_cons.mpr ⟨mo_bin _, ?_⟩
  refine List.forall_mem_cons.mpr ⟨mo_sld, ?_⟩
  refine List.forall_mem_cons.mpr ⟨mo_call _ _ _, ?_⟩
  refine List.forall_mem_cons.mpr ⟨mo_icmp _ _ _, ?_⟩
  refine List.forall_mem_cons.mpr ⟨mo_push _ _, ?_⟩
  refine List.forall_mem_cons.mpr ⟨mo_zret, ?_⟩
  refine List.forall_mem_cons.mpr ⟨mo_aload _ _, ?_⟩
  refine List.forall_mem_cons.mpr ⟨mo_aload _ _, ?_⟩
  refine List.forall_mem_cons.mpr ⟨mo_iload _ _, ?_⟩
  refine List.forall_mem_cons.mpr ⟨mo_push _ _, ?_⟩
  refine List.forall_mem_cons.mpr ⟨mo_bin _, ?_⟩
  refine List.forall_mem_cons.mpr ⟨mo_sld, ?_⟩
  refine List.forall_mem_cons.mpr ⟨mo_call _ _ _, ?_⟩
  refine List.forall_mem_cons.mpr ⟨mo_aload _ _, ?_⟩
  refine List.forall_mem_cons.mpr ⟨mo_aload _ _, ?_⟩
  refine List.forall_mem_cons.mpr ⟨mo_iload _ _, ?_⟩
  refine List.forall_mem_cons.mpr ⟨mo_push _ _, ?_⟩
  refine List.forall_mem_cons.mpr ⟨mo_bin _, ?_⟩
  refine List.forall_mem_cons.mpr ⟨mo_sld, ?_⟩
  refine List.forall_mem_cons.mpr ⟨mo_call _ _ _, ?_⟩
  refine List.forall_mem_cons.mpr ⟨mo_icmp _ _ _, ?_⟩
  refine List.forall_mem_cons.mpr ⟨mo_push _ _, ?_⟩
  refine List.forall_mem_cons.mpr ⟨mo_zret, ?_⟩
  refine List.forall_mem_cons.mpr ⟨mo_aload _ _, ?_⟩
  refine List.forall_mem_cons.mpr ⟨mo_aload _ _, ?_⟩
  refine List.forall_mem_cons.mpr ⟨mo_iload _ _, ?_⟩
  refine List.forall_mem_cons.mpr ⟨mo_push _ _, ?_⟩
  refine List.forall_mem_cons.mpr ⟨mo_bin _, ?_⟩
  refine List.forall_mem_cons.mpr ⟨mo_sld, ?_⟩
  refine List.forall_mem_cons.mpr ⟨mo_aload _ _, ?_⟩
  refine List.forall_mem_cons.mpr ⟨mo_iload _ _, ?_⟩
  refine List.forall_mem_cons.mpr ⟨mo_push _ _, ?_⟩
  refine List.forall_mem_cons.mpr ⟨mo_bin _, ?_⟩
  refine List.forall_mem_cons.mpr ⟨mo_sld, ?_⟩
  refine List.forall_mem_cons.mpr ⟨mo_aload _ _, ?_⟩
  refine List.forall_mem_cons.mpr ⟨mo_iload _ _, ?_⟩
  refine List.forall_mem_cons.mpr ⟨mo_push _ _, ?_⟩
  refine List.forall_mem_cons.mpr ⟨mo_bin _, ?_⟩
  refine List.forall_mem_cons.mpr ⟨mo_sld, ?_⟩
  refine List.forall_mem_cons.mpr ⟨mo_call _ _ _, ?_⟩
  refine List.forall_mem_cons.mpr ⟨mo_aload _ _, ?_⟩
  refine List.forall_mem_cons.mpr ⟨mo_aload _ _, ?_⟩
  refine List.forall_mem_cons.mpr ⟨mo_iload _ _, ?_⟩
  refine List.forall_mem_cons.mpr ⟨mo_push _ _, ?_⟩
  refine List.forall_mem_cons.mpr ⟨mo_bin _, ?_⟩
  refine List.forall_mem_cons.mpr ⟨mo_sld, ?_⟩
  refine List.forall_mem_cons.mpr ⟨mo_aload _ _, ?_⟩
  refine List.forall_mem_cons.mpr ⟨mo_iload _ _, ?_⟩
  refine List.forall_mem_cons.mpr ⟨mo_push _ _, ?_⟩
  refine List.forall_mem_cons.mpr ⟨mo_bin _, ?_⟩
  refine List.forall_mem_cons.mpr ⟨mo_sld, ?_⟩
  refine List.forall_mem_cons.mpr ⟨mo_aload _ _, ?_⟩
  refine List.forall_mem_cons.mpr ⟨mo_iload _ _, ?_⟩
  refine List.forall_mem_cons.mpr ⟨mo_push _ _, ?_⟩
  refine List.forall_mem_cons.mpr ⟨mo_bin _, ?_⟩
  refine List.forall_mem_cons.mpr ⟨mo_sld, ?_⟩
  refine List.forall_mem_cons.mpr ⟨mo_call _ _ _, ?_⟩
  refine List.forall_mem_cons.mpr ⟨mo_icmp _ _ _, ?_⟩
  refine List.forall_mem_cons.mpr ⟨mo_push _ _, ?_⟩
  refine List.forall_mem_cons.mpr ⟨mo_zret, ?_⟩
  refine List.forall_mem_cons.mpr ⟨mo_aload _ _, ?_⟩
  refine List.forall_mem_cons.mpr ⟨mo_aload _ _, ?_⟩
  refine List.forall_mem_cons.mpr ⟨mo_iload _ _, ?_⟩
  refine List.forall_mem_cons.mpr ⟨mo_push _ _, ?_⟩
  refine List.forall_mem_cons.mpr ⟨mo_bin _, ?_⟩
  refine List.forall_mem_cons.mpr ⟨mo_sld, ?_⟩
  refine List.forall_mem_cons.mpr ⟨mo_call _ _ _, ?_⟩
  refine List.forall_mem_cons.mpr ⟨mo_aload _ _, ?_⟩
  refine List.forall_mem_cons.mpr ⟨mo_aload _ _, ?_⟩
  refine List.forall_mem_cons.mpr ⟨mo_iload _ _, ?_⟩
  refine List.forall_mem_cons.mpr ⟨mo_push _ _, ?_⟩
  refine List.forall_mem_cons.mpr ⟨mo_bin _, ?_⟩
  refine List.forall_mem_cons.mpr ⟨mo_sld, ?_⟩
  refine List.forall_mem_cons.mpr ⟨mo_call _ _ _, ?_⟩
  refine List.forall_mem_cons.mpr ⟨mo_icmp _ _ _, ?_⟩
  refine List.forall_mem_cons.mpr ⟨mo_push _ _, ?_⟩
  refine List.forall_mem_cons.mpr ⟨mo_zret, ?_⟩
  refine List.forall_mem_cons.mpr ⟨mo_aload _ _, ?_⟩
  refine List.forall_mem_cons.mpr ⟨mo_aload _ _, ?_⟩
  refine List.forall_mem_cons.mpr ⟨mo_iload _ _, ?_⟩
  refine List.forall_mem_cons.mpr ⟨mo_push _ _, ?_⟩
  refine List.forall_mem_cons.mpr ⟨mo_bin _, ?_⟩
  refine List.forall_mem_cons.mpr ⟨mo_sld, ?_⟩
  refine List.forall_mem_cons.mpr ⟨mo_call _ _ _, ?_⟩
  refine List.forall_mem_cons.mpr ⟨mo_aload _ _, ?_⟩
  refine List.forall_mem_cons.mpr ⟨mo_aload _ _, ?_⟩
  refine List.forall_mem_cons.mpr ⟨mo_iload _ _, ?_⟩
  refine List.forall_mem_cons.mpr ⟨mo_push _ _, ?_⟩
  refine List.forall_mem_cons.mpr ⟨mo_bin _, ?_⟩
  refine List.forall_mem_cons.mpr ⟨mo_sld, ?_⟩
  refine List.forall_mem_cons.mpr ⟨mo_call _ _ _, ?_⟩
  refine List.forall_mem_cons.mpr ⟨mo_icmp _ _ _, ?_⟩
  refine List.forall_mem_cons.mpr ⟨mo_push _ _, ?_⟩
  refine List.forall_mem_cons.mpr ⟨mo_zret, ?_⟩
  refine List.forall_mem_cons.mpr ⟨mo_aload _ _, ?_⟩
  refine List.forall_mem_cons.mpr ⟨mo_aload _ _, ?_⟩
  refine List.forall_mem_cons.mpr ⟨mo_iload _ _, ?_⟩
  refine List.forall_mem_cons.mpr ⟨mo_push _ _, ?_⟩
  refine List.forall_mem_cons.mpr ⟨mo_bin _, ?_⟩
  refine List.forall_mem_cons.mpr ⟨mo_sld, ?_⟩
  refine List.forall_mem_cons.mpr ⟨mo_call _ _ _, ?_⟩
  refine List.forall_mem_cons.mpr ⟨mo_aload _ _, ?_⟩
  refine List.forall_mem_cons.mpr ⟨mo_aload _ _, ?_⟩
  refine List.forall_mem_cons.mpr ⟨mo_iload _ _, ?_⟩
  refine List.forall_mem_cons.mpr ⟨mo_push _ _, ?_⟩
  refine List.forall_mem_cons.mpr ⟨mo_bin _, ?_⟩
  refine List.forall_mem_cons.mpr ⟨mo_sld, ?_⟩
  refine List.forall_mem_cons.mpr ⟨mo_call _ _ _, ?_⟩
  refine List.forall_mem_cons.mpr ⟨mo_icmp _ _ _, ?_⟩
  refine List.forall_mem_cons.mpr ⟨mo_push _ _, ?_⟩
  refine List.forall_mem_cons.mpr ⟨mo_zret, ?_⟩
  refine List.forall_mem_cons.mpr ⟨mo_aload _ _, ?_⟩
  refine List.forall_mem_cons.mpr ⟨mo_aload _ _, ?_⟩
  refine List.forall_mem_cons.mpr ⟨mo_iload _ _, ?_⟩
  refine List.forall_mem_cons.mpr ⟨mo_push _ _, ?_⟩
  refine List.forall_mem_cons.mpr ⟨mo_bin _, ?_⟩
  refine List.forall_mem_cons.mpr ⟨mo_sld, ?_⟩
  refine List.forall_mem_cons.mpr ⟨mo_aload _ _, ?_⟩
  refine List.forall_mem_cons.mpr ⟨mo_iload _ _, ?_⟩
  refine List.forall_mem_cons.mpr ⟨mo_push _ _, ?_⟩
  refine List.forall_mem_cons.mpr ⟨mo_bin _, ?_⟩
  refine List.forall_mem_cons.mpr ⟨mo_sld, ?_⟩
  refine List.forall_mem_cons.mpr ⟨mo_call _ _ _, ?_⟩
  refine List.forall_mem_cons.mpr ⟨mo_aload _ _, ?_⟩
  refine List.forall_mem_cons.mpr ⟨mo_aload _ _, ?_⟩
  refine List.forall_mem_cons.mpr ⟨mo_iload _ _, ?_⟩
  refine List.forall_mem_cons.mpr ⟨mo_push _ _, ?_⟩
  refine List.forall_mem_cons.mpr ⟨mo_bin _, ?_⟩
  refine List.forall_mem_cons.mpr ⟨mo_sld, ?_⟩
  refine List.forall_mem_cons.mpr ⟨mo_aload _ _, ?_⟩
  refine List.forall_mem_cons.mpr ⟨mo_iload _ _, ?_⟩
  refine List.forall_mem_cons.mpr ⟨mo_push _ _, ?_⟩
  refine List.forall_mem_cons.mpr ⟨mo_bin _, ?_⟩
  refine List.forall_mem_cons.mpr ⟨mo_sld, ?_⟩
  refine List.forall_mem_cons.mpr ⟨mo_call _ _ _, ?_⟩
  refine List.forall_mem_cons.mpr ⟨mo_icmp _ _ _, ?_⟩
  refine List.forall_mem_cons.mpr ⟨mo_push _ _, ?_⟩
  refine List.forall_mem_cons.mpr ⟨mo_zret, ?_⟩
  refine List.forall_mem_cons.mpr ⟨mo_aload _ _, ?_⟩
  refine List.forall_mem_cons.mpr ⟨mo_call _ _ _, ?_⟩
  refine List.forall_mem_cons.mpr ⟨mo_aload _ _, ?_⟩
  refine List.forall_mem_cons.mpr ⟨mo_call _ _ _, ?_⟩
  refine List.forall_mem_cons.mpr ⟨mo_icmp _ _ _, ?_⟩
  refine List.forall_mem_cons.mpr ⟨mo_push _ _, ?_⟩
  refine List.forall_mem_cons.mpr ⟨mo_zret, ?_⟩
  refine List.forall_mem_cons.mpr ⟨mo_aload _ _, ?_⟩
  refine List.forall_mem_cons.mpr ⟨mo_aload _ _, ?_⟩
  refine List.forall_mem_cons.mpr ⟨mo_iload _ _, ?_⟩
  refine List.forall_mem_cons.mpr ⟨mo_push _ _, ?_⟩
  refine List.forall_mem_cons.mpr ⟨mo_bin _, ?_⟩
  refine List.forall_mem_cons.mpr ⟨mo_sld, ?_⟩
  refine List.forall_mem_cons.mpr ⟨mo_aload _ _, ?_⟩
  refine List.forall_mem_cons.mpr ⟨mo_iload _ _, ?_⟩
  refine List.forall_mem_cons.mpr ⟨mo_push _ _, ?_⟩
  refine List.forall_mem_cons.mpr ⟨mo_bin _, ?_⟩
  refine List.forall_mem_cons.mpr ⟨mo_sld, ?_⟩
  refine List.forall_mem_cons.mpr ⟨mo_aload _ _, ?_⟩
  refine List.forall_mem_cons.mpr ⟨mo_iload _ _, ?_⟩
  refine List.forall_mem_cons.mpr ⟨mo_push _ _, ?_⟩
  refine List.forall_mem_cons.mpr ⟨mo_bin _, ?_⟩
  refine List.forall_mem_cons.mpr ⟨mo_sld, ?_⟩
  refine List.forall_mem_cons.mpr ⟨mo_call _ _ _, ?_⟩
  refine List.forall_mem_cons.mpr ⟨mo_aload _ _, ?_⟩
  refine List.forall_mem_cons.mpr ⟨mo_aload _ _, ?_⟩
  refine List.forall_mem_cons.mpr ⟨mo_iload _ _, ?_⟩
  refine List.forall_mem_cons.mpr ⟨mo_push _ _, ?_⟩
  refine List.forall_mem_cons.mpr ⟨mo_bin _, ?_⟩
  refine List.forall_mem_cons.mpr ⟨mo_sld, ?_⟩
  refine List.forall_mem_cons.mpr ⟨mo_aload _ _, ?_⟩
  refine List.forall_mem_cons.mpr ⟨mo_iload _ _, ?_⟩
  refine List.forall_mem_cons.mpr ⟨mo_push _ _, ?_⟩
  refine List.forall_mem_cons.mpr ⟨mo_bin _, ?_⟩
  refine List.forall_mem_cons.mpr ⟨mo_sld, ?_⟩
  refine List.forall_mem_cons.mpr ⟨mo_aload _ _, ?_⟩
  refine List.forall_mem_cons.mpr ⟨mo_iload _ _, ?_⟩
  refine List.forall_mem_cons.mpr ⟨mo_push _ _, ?_⟩
  refine List.forall_mem_cons.mpr ⟨mo_bin _, ?_⟩
  refine List.forall_mem_cons.mpr ⟨mo_sld, ?_⟩
  refine List.forall_mem_cons.mpr ⟨mo_call _ _ _, ?_⟩
  refine List.forall_mem_cons.mpr ⟨mo_icmp _ _ _, ?_⟩
  refine List.forall_mem_cons.mpr ⟨mo_push _ _, ?_⟩
  refine List.forall_mem_cons.mpr ⟨mo_zret, ?_⟩
  refine List.forall_mem_cons.mpr ⟨mo_aload _ _, ?_⟩
  refine List.forall_mem_cons.mpr ⟨mo_aload _ _, ?_⟩
  refine List.forall_mem_cons.mpr ⟨mo_iload _ _, ?_⟩
  refine List.forall_mem_cons.mpr ⟨mo_push _ _, ?_⟩
  refine List.forall_mem_cons.mpr ⟨mo_bin _, ?_⟩
  refine List.forall_mem_cons.mpr ⟨mo_sld, ?_⟩
  refine List.forall_mem_cons.mpr ⟨mo_aload _ _, ?_⟩
  refine List.forall_mem_cons.mpr ⟨mo_iload _ _, ?_⟩
  refine List.forall_mem_cons.mpr ⟨mo_push _ _, ?_⟩
  refine List.forall_mem_cons.mpr ⟨mo_bin _, ?_⟩
  refine List.forall_mem_cons.mpr ⟨mo_sld, ?_⟩
  refine List.forall_mem_cons.mpr ⟨mo_call _ _ _, ?_⟩
  refine List.forall_mem_cons.mpr ⟨mo_aload _ _, ?_⟩
  refine List.forall_mem_cons.mpr ⟨mo_aload _ _, ?_⟩
  refine List.forall_mem_cons.mpr ⟨mo_iload _ _, ?_⟩
  refine List.forall_mem_cons.mpr ⟨mo_push _ _, ?_⟩
  refine List.forall_mem_cons.mpr ⟨mo_bin _, ?_⟩
  refine List.forall_mem_cons.mpr ⟨mo_sld, ?_⟩
  refine List.forall_mem_cons.mpr ⟨mo_aload _ _, ?_⟩
  refine List.forall_mem_cons.mpr ⟨mo_iload _ _, ?_⟩
  refine List.forall_mem_cons.mpr ⟨mo_push _ _, ?_⟩
  refine List.forall_mem_cons.mpr ⟨mo_bin _, ?_⟩
  refine List.forall_mem_cons.mpr ⟨mo_sld, ?_⟩
  refine List.forall_mem_cons.mpr ⟨mo_call _ _ _, ?_⟩
  refine List.forall_mem_cons.mpr ⟨mo_icmp _ _ _, ?_⟩
  refine List.forall_mem_cons.mpr ⟨mo_push _ _, ?_⟩
  refine List.forall_mem_cons.mpr ⟨mo_zret, ?_⟩
  refine List.forall_mem_cons.mpr ⟨mo_aload _ _, ?_⟩
  refine List.forall_mem_cons.mpr ⟨mo_call _ _ _, ?_⟩
  refine List.forall_mem_cons.mpr ⟨mo_aload _ _, ?_⟩
  refine List.forall_mem_cons.mpr ⟨mo_call _ _ _, ?_⟩
  refine List.forall_mem_cons.mpr ⟨mo_icmp _ _ _, ?_⟩
  refine List.forall_mem_cons.mpr ⟨mo_push _ _, ?_⟩
  refine List.forall_mem_cons.mpr ⟨mo_zret, ?_⟩
  refine List.forall_mem_cons.mpr ⟨mo_aload _ _, ?_⟩
  refine List.forall_mem_cons.mpr ⟨mo_aload _ _, ?_⟩
  refine List.forall_mem_cons.mpr ⟨mo_iload _ _, ?_⟩
  refine List.forall_mem_cons.mpr ⟨mo_push _ _, ?_⟩
  refine List.forall_mem_cons.mpr ⟨mo_bin _, ?_⟩
  refine List.forall_mem_cons.mpr ⟨mo_sld, ?_⟩
  refine List.forall_mem_cons.mpr ⟨mo_call _ _ _, ?_⟩
  refine List.forall_mem_cons.mpr ⟨mo_aload _ _, ?_⟩
  refine List.forall_mem_cons.mpr ⟨mo_aload _ _, ?_⟩
  refine List.forall_mem_cons.mpr ⟨mo_iload _ _, ?_⟩
  refine List.forall_mem_cons.mpr ⟨mo_push _ _, ?_⟩
  refine List.forall_mem_cons.mpr ⟨mo_bin _, ?_⟩
  refine List.forall_mem_cons.mpr ⟨mo_sld, ?_⟩
  refine List.forall_mem_cons.mpr ⟨mo_call _ _ _, ?_⟩
  refine List.forall_mem_cons.mpr ⟨mo_icmp _ _ _, ?_⟩
  refine List.forall_mem_cons.mpr ⟨mo_push _ _, ?_⟩
  refine List.forall_mem_cons.mpr ⟨mo_zret, ?_⟩
  refine List.forall_mem_cons.mpr ⟨mo_aload _ _, ?_⟩
  refine List.forall_mem_cons.mpr ⟨mo_aload _ _, ?_⟩
  refine List.forall_mem_cons.mpr ⟨mo_iload _ _, ?_⟩
  refine List.forall_mem_cons.mpr ⟨mo_push _ _, ?_⟩
  refine List.forall_mem_cons.mpr ⟨mo_bin _, ?_⟩
  refine List.forall_mem_cons.mpr ⟨mo_sld, ?_⟩
  refine List.forall_mem_cons.mpr ⟨mo_aload _ _, ?_⟩
  refine List.forall_mem_cons.mpr ⟨mo_iload _ _, ?_⟩
  refine List.forall_mem_cons.mpr ⟨mo_push _ _, ?_⟩
  refine List.forall_mem_cons.mpr ⟨mo_bin _, ?_⟩
  refine List.forall_mem_cons.mpr ⟨mo_sld, ?_⟩
  refine List.forall_mem_cons.mpr ⟨mo_call _ _ _, ?_⟩
  refine List.forall_mem_cons.mpr ⟨mo_aload _ _, ?_⟩
  refine List.forall_mem_cons.mpr ⟨mo_aload _ _, ?_⟩
  refine List.forall_mem_cons.mpr ⟨mo_iload _ _, ?_⟩
  refine List.forall_mem_cons.mpr ⟨mo_push _ _, ?_⟩
  refine List.forall_mem_cons.mpr ⟨mo_bin _, ?_⟩
  refine List.forall_mem_cons.mpr ⟨mo_sld, ?_⟩
  refine List.forall_mem_cons.mpr ⟨mo_aload _ _, ?_⟩
  refine List.forall_mem_cons.mpr ⟨mo_iload _ _, ?_⟩
  refine List.forall_mem_cons.mpr ⟨mo_push _ _, ?_⟩
  refine List.forall_mem_cons.mpr ⟨mo_bin _, ?_⟩
  refine List.forall_mem_cons.mpr ⟨mo_sld, ?_⟩
  refine List.forall_mem_cons.mpr ⟨mo_call _ _ _, ?_⟩
  refine List.forall_mem_cons.mpr ⟨mo_icmp _ _ _, ?_⟩
  refine List.forall_mem_cons.mpr ⟨mo_push _ _, ?_⟩
  refine List.forall_mem_cons.mpr ⟨mo_zret, ?_⟩
  refine List.forall_mem_cons.mpr ⟨mo_aload _ _, ?_⟩
  refine List.forall_mem_cons.mpr ⟨mo_aload _ _, ?_⟩
  refine List.forall_mem_cons.mpr ⟨mo_iload _ _, ?_⟩
  refine List.forall_mem_cons.mpr ⟨mo_push _ _, ?_⟩
  refine List.forall_mem_cons.mpr ⟨mo_bin _, ?_⟩
  refine List.forall_mem_cons.mpr ⟨mo_sld, ?_⟩
  refine List.forall_mem_cons.mpr ⟨mo_aload _ _, ?_⟩
  refine List.forall_mem_cons.mpr ⟨mo_iload _ _, ?_⟩
  refine List.forall_mem_cons.mpr ⟨mo_push _ _, ?_⟩
  refine List.forall_mem_cons.mpr ⟨mo_bin _, ?_⟩
  refine List.forall_mem_cons.mpr ⟨mo_sld, ?_⟩
  refine List.forall_mem_cons.mpr ⟨mo_call _ _ _, ?_⟩
  refine List.forall_mem_cons.mpr ⟨mo_aload _ _, ?_⟩
  refine List.forall_mem_cons.mpr ⟨mo_aload _ _, ?_⟩
  refine List.forall_mem_cons.mpr ⟨mo_iload _ _, ?_⟩
  refine List.forall_mem_cons.mpr ⟨mo_push _ _, ?_⟩
  refine List.forall_mem_cons.mpr ⟨mo_bin _, ?_⟩
  refine List.forall_mem_cons.mpr ⟨mo_sld, ?_⟩
  refine List.forall_mem_cons.mpr ⟨mo_aload _ _, ?_⟩
  refine List.forall_mem_cons.mpr ⟨mo_iload _ _, ?_⟩
  refine List.forall_mem_cons.mpr ⟨mo_push _ _, ?_⟩
  refine List.forall_mem_cons.mpr ⟨mo_bin _, ?_⟩
  refine List.forall_mem_cons.mpr ⟨mo_sld, ?_⟩
  refine List.forall_mem_cons.mpr ⟨mo_call _ _ _, ?_⟩
  refine List.forall_mem_cons.mpr ⟨mo_icmp _ _ _, ?_⟩
  refine List.forall_mem_cons.mpr ⟨mo_push _ _, ?_⟩
  refine List.forall_mem_cons.mpr ⟨mo_zret, ?_⟩
  refine List.forall_mem_cons.mpr ⟨mo_aload _ _, ?_⟩
  refine List.forall_mem_cons.mpr ⟨mo_aload _ _, ?_⟩
  refine List.forall_mem_cons.mpr ⟨mo_iload _ _, ?_⟩
  refine List.forall_mem_cons.mpr ⟨mo_push _ _, ?_⟩
  refine List.forall_mem_cons.mpr ⟨mo_bin _, ?_⟩
  refine List.forall_mem_cons.mpr ⟨mo_sld, ?_⟩
  refine List.forall_mem_cons.mpr ⟨mo_aload _ _, ?_⟩
  refine List.forall_mem_cons.mpr ⟨mo_iload _ _, ?_⟩
  refine List.forall_mem_cons.mpr ⟨mo_push _ _, ?_⟩
  refine List.forall_mem_cons.mpr ⟨mo_bin _, ?_⟩
  refine List.forall_mem_cons.mpr ⟨mo_sld, ?_⟩
  refine List.forall_mem_cons.mpr ⟨mo_call _ _ _, ?_⟩
  refine List.forall_mem_cons.mpr ⟨mo_aload _ _, ?_⟩
  refine List.forall_mem_cons.mpr ⟨mo_aload _ _, ?_⟩
  refine List.forall_mem_cons.mpr ⟨mo_iload _ _, ?_⟩
  refine List.forall_mem_cons.mpr ⟨mo_push _ _, ?_⟩
  refine List.forall_mem_cons.mpr ⟨mo_bin _, ?_⟩
  refine List.forall_mem_cons.mpr ⟨mo_sld, ?_⟩
  refine List.forall_mem_cons.mpr ⟨mo_aload _ _, ?_⟩
  refine List.forall_mem_cons.mpr ⟨mo_iload _ _, ?_⟩
  refine List.forall_mem_cons.mpr ⟨mo_push _ _, ?_⟩
  refine List.forall_mem_cons.mpr ⟨mo_bin _, ?_⟩
  refine List.forall_mem_cons.mpr ⟨mo_sld, ?_⟩
  refine List.forall_mem_cons.mpr ⟨mo_call _ _ _, ?_⟩
  refine List.forall_mem_cons.mpr ⟨mo_icmp _ _ _, ?_⟩
  refine List.forall_mem_cons.mpr ⟨mo_push _ _, ?_⟩
  refine List.forall_mem_cons.mpr ⟨mo_zret, ?_⟩
  refine List.forall_mem_cons.mpr ⟨mo_aload _ _, ?_⟩
  refine List.forall_mem_cons.mpr ⟨mo_aload _ _, ?_⟩
  refine List.forall_mem_cons.mpr ⟨mo_iload _ _, ?_⟩
  refine List.forall_mem_cons.mpr ⟨mo_push _ _, ?_⟩
  refine List.forall_mem_cons.mpr ⟨mo_bin _, ?_⟩
  refine List.forall_mem_cons.mpr ⟨mo_sld, ?_⟩
  refine List.forall_mem_cons.mpr ⟨mo_aload _ _, ?_⟩
  refine List.forall_mem_cons.mpr ⟨mo_iload _ _, ?_⟩
  refine List.forall_mem_cons.mpr ⟨mo_push _ _, ?_⟩
  refine List.forall_mem_cons.mpr ⟨mo_bin _, ?_⟩
  refine List.forall_mem_cons.mpr ⟨mo_sld, ?_⟩
  refine List.forall_mem_cons.mpr ⟨mo_aload _ _, ?_⟩
  refine List.forall_mem_cons.mpr ⟨mo_iload _ _, ?_⟩
  refine List.forall_mem_cons.mpr ⟨mo_push _ _, ?_⟩
  refine List.forall_mem_cons.mpr ⟨mo_bin _, ?_⟩
  refine List.forall_mem_cons.mpr ⟨mo_sld, ?_⟩
  refine List.forall_mem_cons.mpr ⟨mo_aload _ _, ?_⟩
  refine List.forall_mem_cons.mpr ⟨mo_iload _ _, ?_⟩
  refine List.forall_mem_cons.mpr ⟨mo_push _ _, ?_⟩
  refine List.forall_mem_cons.mpr ⟨mo_bin _, ?_⟩
  refine List.forall_mem_cons.mpr ⟨mo_sld, ?_⟩
  refine List.forall_mem_cons.mpr ⟨mo_call _ _ _, ?_⟩
  refine List.forall_mem_cons.mpr ⟨mo_aload _ _, ?_⟩
  refine List.forall_mem_cons.mpr ⟨mo_aload _ _, ?_⟩
  refine List.forall_mem_cons.mpr ⟨mo_iload _ _, ?_⟩
  refine List.forall_mem_cons.mpr ⟨mo_push _ _, ?_⟩
  refine List.forall_mem_cons.mpr ⟨mo_bin _, ?_⟩
  refine List.forall_mem_cons.mpr ⟨mo_sld, ?_⟩
  refine List.forall_mem_cons.mpr ⟨mo_aload _ _, ?_⟩
  refine List.forall_mem_cons.mpr ⟨mo_iload _ _, ?_⟩
  refine List.forall_mem_cons.mpr ⟨mo_push _ _, ?_⟩
  refine List.forall_mem_cons.mpr ⟨mo_bin _, ?_⟩
  refine List.forall_mem_cons.mpr ⟨mo_sld, ?_⟩
  refine List.forall_mem_cons.mpr ⟨mo_aload _ _, ?_⟩
  refine List.forall_mem_cons.mpr ⟨mo_iload _ _, ?_⟩
  refine List.forall_mem_cons.mpr ⟨mo_push _ _, ?_⟩
  refine List.forall_mem_cons.mpr ⟨mo_bin _, ?_⟩
  refine List.forall_mem_cons.mpr ⟨mo_sld, ?_⟩
  refine List.forall_mem_cons.mpr ⟨mo_aload _ _, ?_⟩
  refine List.forall_mem_cons.mpr ⟨mo_iload _ _, ?_⟩
  refine List.forall_mem_cons.mpr ⟨mo_push _ _, ?_⟩
  refine List.forall_mem_cons.mpr ⟨mo_bin _, ?_⟩
  refine List.forall_mem_cons.mpr ⟨mo_sld, ?_⟩
  refine List.forall_mem_cons.mpr ⟨mo_call _ _ _, ?_⟩
  refine List.forall_mem_cons.mpr ⟨mo_icmp _ _ _, ?_⟩
  refine List.forall_mem_cons.mpr ⟨mo_push _ _, ?_⟩
  refine List.forall_mem_cons.mpr ⟨mo_zret, ?_⟩
  refine List.forall_mem_cons.mpr ⟨mo_aload _ _, ?_⟩
  refine List.forall_mem_cons.mpr ⟨mo_call _ _ _, ?_⟩
  refine List.forall_mem_cons.mpr ⟨mo_aload _ _, ?_⟩
  refine List.forall_mem_cons.mpr ⟨mo_call _ _ _, ?_⟩
  refine List.forall_mem_cons.mpr ⟨mo_icmp _ _ _, ?_⟩
  refine List.forall_mem_cons.mpr ⟨mo_push _ _, ?_⟩
  refine List.forall_mem_cons.mpr ⟨mo_zret, ?_⟩
  refine List.forall_mem_cons.mpr ⟨mo_aload _ _, ?_⟩
  refine List.forall_mem_cons.mpr ⟨mo_aload _ _, ?_⟩
  refine List.forall_mem_cons.mpr ⟨mo_iload _ _, ?_⟩
  refine List.forall_mem_cons.mpr ⟨mo_push _ _, ?_⟩
  refine List.forall_mem_cons.mpr ⟨mo_bin _, ?_⟩
  refine List.forall_mem_cons.mpr ⟨mo_sld, ?_⟩
  refine List.forall_mem_cons.mpr ⟨mo_call _ _ _, ?_⟩
  refine List.forall_mem_cons.mpr ⟨mo_aload _ _, ?_⟩
  refine List.forall_mem_cons.mpr ⟨mo_aload _ _, ?_⟩
  refine List.forall_mem_cons.mpr ⟨mo_iload _ _, ?_⟩
  refine List.forall_mem_cons.mpr ⟨mo_push _ _, ?_⟩
  refine List.forall_mem_cons.mpr ⟨mo_bin _, ?_⟩
  refine List.forall_mem_cons.mpr ⟨mo_sld, ?_⟩
  refine List.forall_mem_cons.mpr ⟨mo_call _ _ _, ?_⟩
  refine List.forall_mem_cons.mpr ⟨mo_icmp _ _ _, ?_⟩
  refine List.forall_mem_cons.mpr ⟨mo_push _ _, ?_⟩
  refine List.forall_mem_cons.mpr ⟨mo_zret, ?_⟩
  refine List.forall_mem_cons.mpr ⟨mo_aload _ _, ?_⟩
  refine List.forall_mem_cons.mpr ⟨mo_aload _ _, ?_⟩
  refine List.forall_mem_cons.mpr ⟨mo_iload _ _, ?_⟩
  refine List.forall_mem_cons.mpr ⟨mo_push _ _, ?_⟩
  refine List.forall_mem_cons.mpr ⟨mo_bin _, ?_⟩
  refine List.forall_mem_cons.mpr ⟨mo_sld, ?_⟩
  refine List.forall_mem_cons.mpr ⟨mo_call _ _ _, ?_⟩
  refine List.forall_mem_cons.mpr ⟨mo_aload _ _, ?_⟩
  refine List.forall_mem_cons.mpr ⟨mo_aload _ _, ?_⟩
  refine List.forall_mem_cons.mpr ⟨mo_iload _ _, ?_⟩
  refine List.forall_mem_cons.mpr ⟨mo_push _ _, ?_⟩
  refine List.forall_mem_cons.mpr ⟨mo_bin _, ?_⟩
  refine List.forall_mem_cons.mpr ⟨mo_sld, ?_⟩
  refine List.forall_mem_cons.mpr ⟨mo_call _ _ _, ?_⟩
  refine List.forall_mem_cons.mpr ⟨mo_icmp _ _ _, ?_⟩
  refine List.forall_mem_cons.mpr ⟨mo_push _ _, ?_⟩
  refine List.forall_mem_cons.mpr ⟨mo_zret, ?_⟩
  refine List.forall_mem_cons.mpr ⟨mo_aload _ _, ?_⟩
  refine List.forall_mem_cons.mpr ⟨mo_aload _ _, ?_⟩
  refine List.forall_mem_cons.mpr ⟨mo_iload _ _, ?_⟩
  refine List.forall_mem_cons.mpr ⟨mo_push _ _, ?_⟩
  refine List.forall_mem_cons.mpr ⟨mo_bin _, ?_⟩
  refine List.forall_mem_cons.mpr ⟨mo_sld, ?_⟩
  refine List.forall_mem_cons.mpr ⟨mo_aload _ _, ?_⟩
  refine List.forall_mem_cons.mpr ⟨mo_iload _ _, ?_⟩
  refine List.forall_mem_cons.mpr ⟨mo_push _ _, ?_⟩
  refine List.forall_mem_cons.mpr ⟨mo_bin _, ?_⟩
  refine List.forall_mem_cons.mpr ⟨mo_sld, ?_⟩
  refine List.forall_mem_cons.mpr ⟨mo_aload _ _, ?_⟩
  refine List.forall_mem_cons.mpr ⟨mo_iload _ _, ?_⟩
  refine List.forall_mem_cons.mpr ⟨mo_push _ _, ?_⟩
  refine List.forall_mem_cons.mpr ⟨mo_bin _, ?_⟩
  refine List.forall_mem_cons.mpr ⟨mo_sld, ?_⟩
  refine List.forall_mem_cons.mpr ⟨mo_call _ _ _, ?_⟩
  refine List.forall_mem_cons.mpr ⟨mo_aload _ _, ?_⟩
  refine List.forall_mem_cons.mpr ⟨mo_aload _ _, ?_⟩
  refine List.forall_mem_cons.mpr ⟨mo_iload _ _, ?_⟩
  refine List.forall_mem_cons.mpr ⟨mo_push _ _, ?_⟩
  refine List.forall_mem_cons.mpr ⟨mo_bin _, ?_⟩
  refine List.forall_mem_cons.mpr ⟨mo_sld, ?_⟩
  refine List.forall_mem_cons.mpr ⟨mo_aload _ _, ?_⟩
  refine List.forall_mem_cons.mpr ⟨mo_iload _ _, ?_⟩
  refine List.forall_mem_cons.mpr ⟨mo_push _ _, ?_⟩
  refine List.forall_mem_cons.mpr ⟨mo_bin _, ?_⟩
  refine List.forall_mem_cons.mpr ⟨mo_sld, ?_⟩
  refine List.forall_mem_cons.mpr ⟨mo_aload _ _, ?_⟩
  refine List.forall_mem_cons.mpr ⟨mo_iload _ _, ?_⟩
  refine List.forall_mem_cons.mpr ⟨mo_push _ _, ?_⟩
  refine List.forall_mem_cons.mpr ⟨mo_bin _, ?_⟩
  refine List.forall_mem_cons.mpr ⟨mo_sld, ?_⟩
  refine List.forall_mem_cons.mpr ⟨mo_call _ _ _, ?_⟩
  refine List.forall_mem_cons.mpr ⟨mo_icmp _ _ _, ?_⟩
  refine List.forall_mem_cons.mpr ⟨mo_push _ _, ?_⟩
  refine List.forall_mem_cons.mpr ⟨mo_zret, ?_⟩
  refine List.forall_mem_cons.mpr ⟨mo_aload _ _, ?_⟩
  refine List.forall_mem_cons.mpr ⟨mo_aload _ _, ?_⟩
  refine List.forall_mem_cons.mpr ⟨mo_iload _ _, ?_⟩
  refine List.forall_mem_cons.mpr ⟨mo_push _ _, ?_⟩
  refine List.forall_mem_cons.mpr ⟨mo_bin _, ?_⟩
  refine List.forall_mem_cons.mpr ⟨mo_sld, ?_⟩
  refine List.forall_mem_cons.mpr ⟨mo_aload _ _, ?_⟩
  refine List.forall_mem_cons.mpr ⟨mo_iload _ _, ?_⟩
  refine List.forall_mem_cons.mpr ⟨mo_push _ _, ?_⟩
  refine List.forall_mem_cons.mpr ⟨mo_bin _, ?_⟩
  refine List.forall_mem_cons.mpr ⟨mo_sld, ?_⟩
  refine List.forall_mem_cons.mpr ⟨mo_aload _ _, ?_⟩
  refine List.forall_mem_cons.mpr ⟨mo_iload _ _, ?_⟩
  refine List.forall_mem_cons.mpr ⟨mo_push _ _, ?_⟩
  refine List.forall_mem_cons.mpr ⟨mo_bin _, ?_⟩
  refine List.forall_mem_cons.mpr ⟨mo_sld, ?_⟩
  refine List.forall_mem_cons.mpr ⟨mo_aload _ _, ?_⟩
  refine List.forall_mem_cons.mpr ⟨mo_iload _ _, ?_⟩
  refine List.forall_mem_cons.mpr ⟨mo_push _ _, ?_⟩
  refine List.forall_mem_cons.mpr ⟨mo_bin _, ?_⟩
  refine List.forall_mem_cons.mpr ⟨mo_sld, ?_⟩
  refine List.forall_mem_cons.mpr ⟨mo_aload _ _, ?_⟩
  refine List.forall_mem_cons.mpr ⟨mo_iload _ _, ?_⟩
  refine List.forall_mem_cons.mpr ⟨mo_push _ _, ?_⟩
  refine List.forall_mem_cons.mpr ⟨mo_bin _, ?_⟩
  refine List.forall_mem_cons.mpr ⟨mo_sld, ?_⟩
  refine List.forall_mem_cons.mpr ⟨mo_call _ _ _, ?_⟩
  refine List.forall_mem_cons.mpr ⟨mo_aload _ _, ?_⟩
  refine List.forall_mem_cons.mpr ⟨mo_aload _ _, ?_⟩
  refine List.forall_mem_cons.mpr ⟨mo_iload _ _, ?_⟩
  refine List.forall_mem_cons.mpr ⟨mo_push _ _, ?_⟩
  refine List.forall_mem_cons.mpr ⟨mo_bin _, ?_⟩
  refine List.forall_mem_cons.mpr ⟨mo_sld, ?_⟩
  refine List.forall_mem_cons.mpr ⟨mo_aload _ _, ?_⟩
  refine List.forall_mem_cons.mpr ⟨mo_iload _ _, ?_⟩
  refine List.forall_mem_cons.mpr ⟨mo_push _ _, ?_⟩
  refine List.forall_mem_cons.mpr ⟨mo_bin _, ?_⟩
  refine List.forall_mem_cons.mpr ⟨mo_sld, ?_⟩
  refine List.forall_mem_cons.mpr ⟨mo_aload _ _, ?_⟩
  refine List.forall_mem_cons.mpr ⟨mo_iload _ _, ?_⟩
  refine List.forall_mem_cons.mpr ⟨mo_push _ _, ?_⟩
  refine List.forall_mem_cons.mpr ⟨mo_bin _, ?_⟩
  refine List.forall_mem_cons.mpr ⟨mo_sld, ?_⟩
  refine List.forall_mem_cons.mpr ⟨mo_aload _ _, ?_⟩
  refine List.forall_mem_cons.mpr ⟨mo_iload _ _, ?_⟩
  refine List.forall_mem_cons.mpr ⟨mo_push _ _, ?_⟩
  refine List.forall_mem_cons.mpr ⟨mo_bin _, ?_⟩
  refine List.forall_mem_cons.mpr ⟨mo_sld, ?_⟩
  refine List.forall_mem_cons.mpr ⟨mo_aload _ _, ?_⟩
  refine List.forall_mem_cons.mpr ⟨mo_iload _ _, ?_⟩
  refine List.forall_mem_cons.mpr ⟨mo_push _ _, ?_⟩
  refine List.forall_mem_cons.mpr ⟨mo_bin _, ?_⟩
  refine List.forall_mem_cons.mpr ⟨mo_sld, ?_⟩
  refine List.forall_mem_cons.mpr ⟨mo_call _ _ _, ?_⟩
  refine List.forall_mem_cons.mpr ⟨mo_icmp _ _ _, ?_⟩
  refine List.forall_mem_cons.mpr ⟨mo_push _ _, ?_⟩
  refine List.forall_mem_cons.mpr ⟨mo_zret, ?_⟩
  refine List.forall_mem_cons.mpr ⟨mo_aload _ _, ?_⟩
  refine List.forall_mem_cons.mpr ⟨mo_aload _ _, ?_⟩
  refine List.forall_mem_cons.mpr ⟨mo_iload _ _, ?_⟩
  refine List.forall_mem_cons.mpr ⟨mo_push _ _, ?_⟩
  refine List.forall_mem_cons.mpr ⟨mo_bin _, ?_⟩
  refine List.forall_mem_cons.mpr ⟨mo_sld, ?_⟩
  refine List.forall_mem_cons.mpr ⟨mo_aload _ _, ?_⟩
  refine List.forall_mem_cons.mpr ⟨mo_iload _ _, ?_⟩
  refine List.forall_mem_cons.mpr ⟨mo_push _ _, ?_⟩
  refine List.forall_mem_cons.mpr ⟨mo_bin _, ?_⟩
  refine List.forall_mem_cons.mpr ⟨mo_sld, ?_⟩
  refine List.forall_mem_cons.mpr ⟨mo_aload _ _, ?_⟩
  refine List.forall_mem_cons.mpr ⟨mo_iload _ _, ?_⟩
  refine List.forall_mem_cons.mpr ⟨mo_push _ _, ?_⟩
  refine List.forall_mem_cons.mpr ⟨mo_bin _, ?_⟩
  refine List.forall_mem_cons.mpr ⟨mo_sld, ?_⟩
  refine List.forall_mem_cons.mpr ⟨mo_call _ _ _, ?_⟩
  refine List.forall_mem_cons.mpr ⟨mo_aload _ _, ?_⟩
  refine List.forall_mem_cons.mpr ⟨mo_aload _ _, ?_⟩
  refine List.forall_mem_cons.mpr ⟨mo_iload _ _, ?_⟩
  refine List.forall_mem_cons.mpr ⟨mo_push _ _, ?_⟩
  refine List.forall_mem_cons.mpr ⟨mo_bin _, ?_⟩
  refine List.forall_mem_cons.mpr ⟨mo_sld, ?_⟩
  refine List.forall_mem_cons.mpr ⟨mo_aload _ _, ?_⟩
  refine List.forall_mem_cons.mpr ⟨mo_iload _ _, ?_⟩
  refine List.forall_mem_cons.mpr ⟨mo_push _ _, ?_⟩
  refine List.forall_mem_cons.mpr ⟨mo_bin _, ?_⟩
  refine List.forall_mem_cons.mpr ⟨mo_sld, ?_⟩
  refine List.forall_mem_cons.mpr ⟨mo_aload _ _, ?_⟩
  refine List.forall_mem_cons.mpr ⟨mo_iload _ _, ?_⟩
  refine List.forall_mem_cons.mpr ⟨mo_push _ _, ?_⟩
  refine List.forall_mem_cons.mpr ⟨mo_bin _, ?_⟩
  refine List.forall_mem_cons.mpr ⟨mo_sld, ?_⟩
  refine List.forall_mem_cons.mpr ⟨mo_call _ _ _, ?_⟩
  refine List.forall_mem_cons.mpr ⟨mo_icmp _ _ _, ?_⟩
  refine List.forall_mem_cons.mpr ⟨mo_push _ _, ?_⟩
  refine List.forall_mem_cons.mpr ⟨mo_zret, ?_⟩
  refine List.forall_mem_cons.mpr ⟨mo_aload _ _, ?_⟩
  refine List.forall_mem_cons.mpr ⟨mo_call _ _ _, ?_⟩
  refine List.forall_mem_cons.mpr ⟨mo_aload _ _, ?_⟩
  refine List.forall_mem_cons.mpr ⟨mo_call _ _ _, ?_⟩
  refine List.forall_mem_cons.mpr ⟨mo_icmp _ _ _, ?_⟩
  refine List.forall_mem_cons.mpr ⟨mo_push _ _, ?_⟩
  refine List.forall_mem_cons.mpr ⟨mo_zret, ?_⟩
  refine List.forall_mem_cons.mpr ⟨mo_aload _ _, ?_⟩
  refine List.forall_mem_cons.mpr ⟨mo_call _ _ _, ?_⟩
  refine List.forall_mem_cons.mpr ⟨mo_aload _ _, ?_⟩
  refine List.forall_mem_cons.mpr ⟨mo_call _ _ _, ?_⟩
  refine List.forall_mem_cons.mpr ⟨mo_icmp _ _ _, ?_⟩
  refine List.forall_mem_cons.mpr ⟨mo_push _ _, ?_⟩
  refine List.forall_mem_cons.mpr ⟨mo_zret, ?_⟩
  refine List.forall_mem_cons.mpr ⟨mo_aload _ _, ?_⟩
  refine List.forall_mem_cons.mpr ⟨mo_aload _ _, ?_⟩
  refine List.forall_mem_cons.mpr ⟨mo_iload _ _, ?_⟩
  refine List.forall_mem_cons.mpr ⟨mo_push _ _, ?_⟩
  refine List.forall_mem_cons.mpr ⟨mo_bin _, ?_⟩
  refine List.forall_mem_cons.mpr ⟨mo_sld, ?_⟩
  refine List.forall_mem_cons.mpr ⟨mo_call _ _ _, ?_⟩
  refine List.forall_mem_cons.mpr ⟨mo_aload _ _, ?_⟩
  refine List.forall_mem_cons.mpr ⟨mo_aload _ _, ?_⟩
  refine List.forall_mem_cons.mpr ⟨mo_iload _ _, ?_⟩
  refine List.forall_mem_cons.mpr ⟨mo_push _ _, ?_⟩
  refine List.forall_mem_cons.mpr ⟨mo_bin _, ?_⟩
  refine List.forall_mem_cons.mpr ⟨mo_sld, ?_⟩
  refine List.forall_mem_cons.mpr ⟨mo_call _ _ _, ?_⟩
  refine List.forall_mem_cons.mpr ⟨mo_icmp _ _ _, ?_⟩
  refine List.forall_mem_cons.mpr ⟨mo_push _ _, ?_⟩
  refine List.forall_mem_cons.mpr ⟨mo_zret, ?_⟩
  refine List.forall_mem_cons.mpr ⟨mo_iinc _ _, ?_⟩
  refine List.forall_mem_cons.mpr ⟨mo_goto _, ?_⟩
  refine List.forall_mem_cons.mpr ⟨mo_push _ _, ?_⟩
  refine List.forall_mem_cons.mpr ⟨mo_zret, ?_⟩
  exact fun _ h => absurd h List.not_mem_nil
