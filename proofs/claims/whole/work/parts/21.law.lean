def mL_law (Ls : Nat) (xs : Nat → Int32) : MI := ("HillSketchLaw", code, 4, ret, "law", 15, 700, LX Ls xs)
def dtL_law_0 : List (Nat × Instr × Nat) := [(0, .new 7, 3), (3, .dup, 1), (4, .invokespecial 9, 3), (7, .astore_n 1, 1), (8, .new 10, 3), (11, .dup, 1), (12, .invokespecial 12, 3), (15, .astore_n 2, 1), (16, .iconst 0, 1), (17, .istore_n 3, 1), (18, .iload_n 3, 1), (19, .aload_n 0, 1), (20, .arraylength, 1), (21, .bipush 9, 2), (23, .isub, 1), (24, .if_icmp .gt 2220, 3), (27, .aload_n 0, 1), (28, .iload_n 3, 1), (29, .iaload, 1), (30, .bipush 63, 2), (32, .iand, 1), (33, .tableswitch 2205 0 43 #[191, 254, 277, 310, 333, 366, 399, 442, 475, 518, 561, 604, 647, 700, 763, 816, 869, 922, 965, 1008, 1041, 1100, 1153, 1206, 1269, 1322, 1355, 1388, 1411, 1464, 1507, 1614, 1667, 1726, 1813, 1928, 1971, 1994, 2027, 2080, 2113, 2136, 2159, 2182], 191), (224, .aload_n 1, 1), (225, .aload_n 0, 1), (226, .iload_n 3, 1), (227, .iconst 1, 1), (228, .iadd, 1), (229, .iaload, 1), (230, .aload_n 0, 1), (231, .iload_n 3, 1), (232, .iconst 2, 1), (233, .iadd, 1), (234, .iaload, 1), (235, .aload_n 0, 1), (236, .iload_n 3, 1), (237, .iconst 3, 1), (238, .iadd, 1), (239, .iaload, 1), (240, .aload_n 0, 1), (241, .iload_n 3, 1), (242, .iconst 4, 1), (243, .iadd, 1), (244, .iaload, 1), (245, .aload_n 0, 1), (246, .iload_n 3, 1), (247, .iconst 5, 1), (248, .iadd, 1), (249, .iaload, 1), (250, .invokevirtual 13, 3), (253, .aload_n 2, 1), (254, .aload_n 0, 1), (255, .iload_n 3, 1), (256, .iconst 1, 1), (257, .iadd, 1), (258, .iaload, 1), (259, .aload_n 0, 1), (260, .iload_n 3, 1), (261, .iconst 2, 1), (262, .iadd, 1), (263, .iaload, 1), (264, .aload_n 0, 1), (265, .iload_n 3, 1), (266, .iconst 3, 1), (267, .iadd, 1)]
theorem ddL_law_0 : (dtL_law_0.all fun e => decide (decode code e.1 = .ok (e.2.1, e.2.2))) = true := by decide +kernel
theorem daL_law_0 (j : Nat) {pc n : Nat} {i : Instr} (h : dtL_law_0[j]? = some (pc, i, n)) : decode code pc = .ok (i, n) := dec_of (c := code) ddL_law_0 h
def dtL_law_1 : List (Nat × Instr × Nat) := [(268, .iaload, 1), (269, .aload_n 0, 1), (270, .iload_n 3, 1), (271, .iconst 4, 1), (272, .iadd, 1), (273, .iaload, 1), (274, .aload_n 0, 1), (275, .iload_n 3, 1), (276, .iconst 5, 1), (277, .iadd, 1), (278, .iaload, 1), (279, .invokevirtual 17, 3), (282, .if_icmp .eq 1956, 3), (285, .iconst 0, 1), (286, .ireturn, 1), (287, .aload_n 1, 1), (288, .aload_n 0, 1), (289, .iload_n 3, 1), (290, .iconst 1, 1), (291, .iadd, 1), (292, .iaload, 1), (293, .invokevirtual 18, 3), (296, .aload_n 2, 1), (297, .aload_n 0, 1), (298, .iload_n 3, 1), (299, .iconst 1, 1), (300, .iadd, 1), (301, .iaload, 1), (302, .invokevirtual 22, 3), (305, .if_icmp .eq 1933, 3), (308, .iconst 0, 1), (309, .ireturn, 1), (310, .aload_n 1, 1), (311, .aload_n 0, 1), (312, .iload_n 3, 1), (313, .iconst 1, 1), (314, .iadd, 1), (315, .iaload, 1), (316, .aload_n 0, 1), (317, .iload_n 3, 1), (318, .iconst 2, 1), (319, .iadd, 1), (320, .iaload, 1), (321, .invokevirtual 23, 3), (324, .aload_n 2, 1), (325, .aload_n 0, 1), (326, .iload_n 3, 1), (327, .iconst 1, 1), (328, .iadd, 1), (329, .iaload, 1), (330, .aload_n 0, 1), (331, .iload_n 3, 1), (332, .iconst 2, 1), (333, .iadd, 1), (334, .iaload, 1), (335, .invokevirtual 27, 3), (338, .if_icmp .eq 1900, 3), (341, .iconst 0, 1), (342, .ireturn, 1), (343, .aload_n 1, 1), (344, .aload_n 0, 1), (345, .iload_n 3, 1), (346, .iconst 1, 1), (347, .iadd, 1)]
theorem ddL_law_1 : (dtL_law_1.all fun e => decide (decode code e.1 = .ok (e.2.1, e.2.2))) = true := by decide +kernel
theorem daL_law_1 (j : Nat) {pc n : Nat} {i : Instr} (h : dtL_law_1[j]? = some (pc, i, n)) : decode code pc = .ok (i, n) := dec_of (c := code) ddL_law_1 h
def dtL_law_2 : List (Nat × Instr × Nat) := [(348, .iaload, 1), (349, .invokevirtual 28, 3), (352, .aload_n 2, 1), (353, .aload_n 0, 1), (354, .iload_n 3, 1), (355, .iconst 1, 1), (356, .iadd, 1), (357, .iaload, 1), (358, .invokevirtual 31, 3), (361, .if_icmp .eq 1877, 3), (364, .iconst 0, 1), (365, .ireturn, 1), (366, .aload_n 1, 1), (367, .aload_n 0, 1), (368, .iload_n 3, 1), (369, .iconst 1, 1), (370, .iadd, 1), (371, .iaload, 1), (372, .aload_n 0, 1), (373, .iload_n 3, 1), (374, .iconst 2, 1), (375, .iadd, 1), (376, .iaload, 1), (377, .invokevirtual 32, 3), (380, .aload_n 2, 1), (381, .aload_n 0, 1), (382, .iload_n 3, 1), (383, .iconst 1, 1), (384, .iadd, 1), (385, .iaload, 1), (386, .aload_n 0, 1), (387, .iload_n 3, 1), (388, .iconst 2, 1), (389, .iadd, 1), (390, .iaload, 1), (391, .invokevirtual 35, 3), (394, .if_icmp .eq 1844, 3), (397, .iconst 0, 1), (398, .ireturn, 1), (399, .aload_n 1, 1), (400, .aload_n 0, 1), (401, .iload_n 3, 1), (402, .iconst 1, 1), (403, .iadd, 1), (404, .iaload, 1), (405, .aload_n 0, 1), (406, .iload_n 3, 1), (407, .iconst 2, 1), (408, .iadd, 1), (409, .iaload, 1), (410, .invokevirtual 36, 3), (413, .aload_n 2, 1), (414, .aload_n 0, 1), (415, .iload_n 3, 1), (416, .iconst 1, 1), (417, .iadd, 1), (418, .iaload, 1), (419, .aload_n 0, 1), (420, .iload_n 3, 1), (421, .iconst 2, 1), (422, .iadd, 1), (423, .iaload, 1), (424, .invokevirtual 39, 3), (427, .if_icmp .eq 1811, 3)]
theorem ddL_law_2 : (dtL_law_2.all fun e => decide (decode code e.1 = .ok (e.2.1, e.2.2))) = true := by decide +kernel
theorem daL_law_2 (j : Nat) {pc n : Nat} {i : Instr} (h : dtL_law_2[j]? = some (pc, i, n)) : decode code pc = .ok (i, n) := dec_of (c := code) ddL_law_2 h
def dtL_law_3 : List (Nat × Instr × Nat) := [(430, .iconst 0, 1), (431, .ireturn, 1), (432, .aload_n 1, 1), (433, .aload_n 0, 1), (434, .iload_n 3, 1), (435, .iconst 1, 1), (436, .iadd, 1), (437, .iaload, 1), (438, .aload_n 0, 1), (439, .iload_n 3, 1), (440, .iconst 2, 1), (441, .iadd, 1), (442, .iaload, 1), (443, .aload_n 0, 1), (444, .iload_n 3, 1), (445, .iconst 3, 1), (446, .iadd, 1), (447, .iaload, 1), (448, .invokevirtual 40, 3), (451, .aload_n 2, 1), (452, .aload_n 0, 1), (453, .iload_n 3, 1), (454, .iconst 1, 1), (455, .iadd, 1), (456, .iaload, 1), (457, .aload_n 0, 1), (458, .iload_n 3, 1), (459, .iconst 2, 1), (460, .iadd, 1), (461, .iaload, 1), (462, .aload_n 0, 1), (463, .iload_n 3, 1), (464, .iconst 3, 1), (465, .iadd, 1), (466, .iaload, 1), (467, .invokevirtual 44, 3), (470, .if_icmp .eq 1768, 3), (473, .iconst 0, 1), (474, .ireturn, 1), (475, .aload_n 1, 1), (476, .aload_n 0, 1), (477, .iload_n 3, 1), (478, .iconst 1, 1), (479, .iadd, 1), (480, .iaload, 1), (481, .aload_n 0, 1), (482, .iload_n 3, 1), (483, .iconst 2, 1), (484, .iadd, 1), (485, .iaload, 1), (486, .invokevirtual 45, 3), (489, .aload_n 2, 1), (490, .aload_n 0, 1), (491, .iload_n 3, 1), (492, .iconst 1, 1), (493, .iadd, 1), (494, .iaload, 1), (495, .aload_n 0, 1), (496, .iload_n 3, 1), (497, .iconst 2, 1), (498, .iadd, 1), (499, .iaload, 1), (500, .invokevirtual 48, 3), (503, .if_icmp .eq 1735, 3)]
theorem ddL_law_3 : (dtL_law_3.all fun e => decide (decode code e.1 = .ok (e.2.1, e.2.2))) = true := by decide +kernel
theorem daL_law_3 (j : Nat) {pc n : Nat} {i : Instr} (h : dtL_law_3[j]? = some (pc, i, n)) : decode code pc = .ok (i, n) := dec_of (c := code) ddL_law_3 h
def dtL_law_4 : List (Nat × Instr × Nat) := [(506, .iconst 0, 1), (507, .ireturn, 1), (508, .aload_n 1, 1), (509, .aload_n 0, 1), (510, .iload_n 3, 1), (511, .iconst 1, 1), (512, .iadd, 1), (513, .iaload, 1), (514, .aload_n 0, 1), (515, .iload_n 3, 1), (516, .iconst 2, 1), (517, .iadd, 1), (518, .iaload, 1), (519, .aload_n 0, 1), (520, .iload_n 3, 1), (521, .iconst 3, 1), (522, .iadd, 1), (523, .iaload, 1), (524, .invokevirtual 49, 3), (527, .aload_n 2, 1), (528, .aload_n 0, 1), (529, .iload_n 3, 1), (530, .iconst 1, 1), (531, .iadd, 1), (532, .iaload, 1), (533, .aload_n 0, 1), (534, .iload_n 3, 1), (535, .iconst 2, 1), (536, .iadd, 1), (537, .iaload, 1), (538, .aload_n 0, 1), (539, .iload_n 3, 1), (540, .iconst 3, 1), (541, .iadd, 1), (542, .iaload, 1), (543, .invokevirtual 53, 3), (546, .if_icmp .eq 1692, 3), (549, .iconst 0, 1), (550, .ireturn, 1), (551, .aload_n 1, 1), (552, .aload_n 0, 1), (553, .iload_n 3, 1), (554, .iconst 1, 1), (555, .iadd, 1), (556, .iaload, 1), (557, .aload_n 0, 1), (558, .iload_n 3, 1), (559, .iconst 2, 1), (560, .iadd, 1), (561, .iaload, 1), (562, .aload_n 0, 1), (563, .iload_n 3, 1), (564, .iconst 3, 1), (565, .iadd, 1), (566, .iaload, 1), (567, .invokevirtual 54, 3), (570, .aload_n 2, 1), (571, .aload_n 0, 1), (572, .iload_n 3, 1), (573, .iconst 1, 1), (574, .iadd, 1), (575, .iaload, 1), (576, .aload_n 0, 1), (577, .iload_n 3, 1)]
theorem ddL_law_4 : (dtL_law_4.all fun e => decide (decode code e.1 = .ok (e.2.1, e.2.2))) = true := by decide +kernel
theorem daL_law_4 (j : Nat) {pc n : Nat} {i : Instr} (h : dtL_law_4[j]? = some (pc, i, n)) : decode code pc = .ok (i, n) := dec_of (c := code) ddL_law_4 h
def dtL_law_5 : List (Nat × Instr × Nat) := [(578, .iconst 2, 1), (579, .iadd, 1), (580, .iaload, 1), (581, .aload_n 0, 1), (582, .iload_n 3, 1), (583, .iconst 3, 1), (584, .iadd, 1), (585, .iaload, 1), (586, .invokevirtual 57, 3), (589, .if_icmp .eq 1649, 3), (592, .iconst 0, 1), (593, .ireturn, 1), (594, .aload_n 1, 1), (595, .aload_n 0, 1), (596, .iload_n 3, 1), (597, .iconst 1, 1), (598, .iadd, 1), (599, .iaload, 1), (600, .aload_n 0, 1), (601, .iload_n 3, 1), (602, .iconst 2, 1), (603, .iadd, 1), (604, .iaload, 1), (605, .aload_n 0, 1), (606, .iload_n 3, 1), (607, .iconst 3, 1), (608, .iadd, 1), (609, .iaload, 1), (610, .invokevirtual 58, 3), (613, .aload_n 2, 1), (614, .aload_n 0, 1), (615, .iload_n 3, 1), (616, .iconst 1, 1), (617, .iadd, 1), (618, .iaload, 1), (619, .aload_n 0, 1), (620, .iload_n 3, 1), (621, .iconst 2, 1), (622, .iadd, 1), (623, .iaload, 1), (624, .aload_n 0, 1), (625, .iload_n 3, 1), (626, .iconst 3, 1), (627, .iadd, 1), (628, .iaload, 1), (629, .invokevirtual 61, 3), (632, .if_icmp .eq 1606, 3), (635, .iconst 0, 1), (636, .ireturn, 1), (637, .aload_n 1, 1), (638, .aload_n 0, 1), (639, .iload_n 3, 1), (640, .iconst 1, 1), (641, .iadd, 1), (642, .iaload, 1), (643, .aload_n 0, 1), (644, .iload_n 3, 1), (645, .iconst 2, 1), (646, .iadd, 1), (647, .iaload, 1), (648, .aload_n 0, 1), (649, .iload_n 3, 1), (650, .iconst 3, 1), (651, .iadd, 1)]
theorem ddL_law_5 : (dtL_law_5.all fun e => decide (decode code e.1 = .ok (e.2.1, e.2.2))) = true := by decide +kernel
theorem daL_law_5 (j : Nat) {pc n : Nat} {i : Instr} (h : dtL_law_5[j]? = some (pc, i, n)) : decode code pc = .ok (i, n) := dec_of (c := code) ddL_law_5 h
def dtL_law_6 : List (Nat × Instr × Nat) := [(652, .iaload, 1), (653, .invokevirtual 62, 3), (656, .aload_n 2, 1), (657, .aload_n 0, 1), (658, .iload_n 3, 1), (659, .iconst 1, 1), (660, .iadd, 1), (661, .iaload, 1), (662, .aload_n 0, 1), (663, .iload_n 3, 1), (664, .iconst 2, 1), (665, .iadd, 1), (666, .iaload, 1), (667, .aload_n 0, 1), (668, .iload_n 3, 1), (669, .iconst 3, 1), (670, .iadd, 1), (671, .iaload, 1), (672, .invokevirtual 65, 3), (675, .if_icmp .eq 1563, 3), (678, .iconst 0, 1), (679, .ireturn, 1), (680, .aload_n 1, 1), (681, .aload_n 0, 1), (682, .iload_n 3, 1), (683, .iconst 1, 1), (684, .iadd, 1), (685, .iaload, 1), (686, .aload_n 0, 1), (687, .iload_n 3, 1), (688, .iconst 2, 1), (689, .iadd, 1), (690, .iaload, 1), (691, .aload_n 0, 1), (692, .iload_n 3, 1), (693, .iconst 3, 1), (694, .iadd, 1), (695, .iaload, 1), (696, .aload_n 0, 1), (697, .iload_n 3, 1), (698, .iconst 4, 1), (699, .iadd, 1), (700, .iaload, 1), (701, .invokevirtual 66, 3), (704, .aload_n 2, 1), (705, .aload_n 0, 1), (706, .iload_n 3, 1), (707, .iconst 1, 1), (708, .iadd, 1), (709, .iaload, 1), (710, .aload_n 0, 1), (711, .iload_n 3, 1), (712, .iconst 2, 1), (713, .iadd, 1), (714, .iaload, 1), (715, .aload_n 0, 1), (716, .iload_n 3, 1), (717, .iconst 3, 1), (718, .iadd, 1), (719, .iaload, 1), (720, .aload_n 0, 1), (721, .iload_n 3, 1), (722, .iconst 4, 1), (723, .iadd, 1)]
theorem ddL_law_6 : (dtL_law_6.all fun e => decide (decode code e.1 = .ok (e.2.1, e.2.2))) = true := by decide +kernel
theorem daL_law_6 (j : Nat) {pc n : Nat} {i : Instr} (h : dtL_law_6[j]? = some (pc, i, n)) : decode code pc = .ok (i, n) := dec_of (c := code) ddL_law_6 h
def dtL_law_7 : List (Nat × Instr × Nat) := [(724, .iaload, 1), (725, .invokevirtual 70, 3), (728, .if_icmp .eq 1510, 3), (731, .iconst 0, 1), (732, .ireturn, 1), (733, .aload_n 1, 1), (734, .aload_n 0, 1), (735, .iload_n 3, 1), (736, .iconst 1, 1), (737, .iadd, 1), (738, .iaload, 1), (739, .aload_n 0, 1), (740, .iload_n 3, 1), (741, .iconst 2, 1), (742, .iadd, 1), (743, .iaload, 1), (744, .aload_n 0, 1), (745, .iload_n 3, 1), (746, .iconst 3, 1), (747, .iadd, 1), (748, .iaload, 1), (749, .aload_n 0, 1), (750, .iload_n 3, 1), (751, .iconst 4, 1), (752, .iadd, 1), (753, .iaload, 1), (754, .aload_n 0, 1), (755, .iload_n 3, 1), (756, .iconst 5, 1), (757, .iadd, 1), (758, .iaload, 1), (759, .invokevirtual 71, 3), (762, .aload_n 2, 1), (763, .aload_n 0, 1), (764, .iload_n 3, 1), (765, .iconst 1, 1), (766, .iadd, 1), (767, .iaload, 1), (768, .aload_n 0, 1), (769, .iload_n 3, 1), (770, .iconst 2, 1), (771, .iadd, 1), (772, .iaload, 1), (773, .aload_n 0, 1), (774, .iload_n 3, 1), (775, .iconst 3, 1), (776, .iadd, 1), (777, .iaload, 1), (778, .aload_n 0, 1), (779, .iload_n 3, 1), (780, .iconst 4, 1), (781, .iadd, 1), (782, .iaload, 1), (783, .aload_n 0, 1), (784, .iload_n 3, 1), (785, .iconst 5, 1), (786, .iadd, 1), (787, .iaload, 1), (788, .invokevirtual 74, 3), (791, .if_icmp .eq 1447, 3), (794, .iconst 0, 1), (795, .ireturn, 1), (796, .aload_n 1, 1), (797, .aload_n 0, 1)]
theorem ddL_law_7 : (dtL_law_7.all fun e => decide (decode code e.1 = .ok (e.2.1, e.2.2))) = true := by decide +kernel
theorem daL_law_7 (j : Nat) {pc n : Nat} {i : Instr} (h : dtL_law_7[j]? = some (pc, i, n)) : decode code pc = .ok (i, n) := dec_of (c := code) ddL_law_7 h
def dtL_law_8 : List (Nat × Instr × Nat) := [(798, .iload_n 3, 1), (799, .iconst 1, 1), (800, .iadd, 1), (801, .iaload, 1), (802, .aload_n 0, 1), (803, .iload_n 3, 1), (804, .iconst 2, 1), (805, .iadd, 1), (806, .iaload, 1), (807, .aload_n 0, 1), (808, .iload_n 3, 1), (809, .iconst 3, 1), (810, .iadd, 1), (811, .iaload, 1), (812, .aload_n 0, 1), (813, .iload_n 3, 1), (814, .iconst 4, 1), (815, .iadd, 1), (816, .iaload, 1), (817, .invokevirtual 75, 3), (820, .aload_n 2, 1), (821, .aload_n 0, 1), (822, .iload_n 3, 1), (823, .iconst 1, 1), (824, .iadd, 1), (825, .iaload, 1), (826, .aload_n 0, 1), (827, .iload_n 3, 1), (828, .iconst 2, 1), (829, .iadd, 1), (830, .iaload, 1), (831, .aload_n 0, 1), (832, .iload_n 3, 1), (833, .iconst 3, 1), (834, .iadd, 1), (835, .iaload, 1), (836, .aload_n 0, 1), (837, .iload_n 3, 1), (838, .iconst 4, 1), (839, .iadd, 1), (840, .iaload, 1), (841, .invokevirtual 78, 3), (844, .if_icmp .eq 1394, 3), (847, .iconst 0, 1), (848, .ireturn, 1), (849, .aload_n 1, 1), (850, .aload_n 0, 1), (851, .iload_n 3, 1), (852, .iconst 1, 1), (853, .iadd, 1), (854, .iaload, 1), (855, .aload_n 0, 1), (856, .iload_n 3, 1), (857, .iconst 2, 1), (858, .iadd, 1), (859, .iaload, 1), (860, .aload_n 0, 1), (861, .iload_n 3, 1), (862, .iconst 3, 1), (863, .iadd, 1), (864, .iaload, 1), (865, .aload_n 0, 1), (866, .iload_n 3, 1), (867, .iconst 4, 1)]
theorem ddL_law_8 : (dtL_law_8.all fun e => decide (decode code e.1 = .ok (e.2.1, e.2.2))) = true := by decide +kernel
theorem daL_law_8 (j : Nat) {pc n : Nat} {i : Instr} (h : dtL_law_8[j]? = some (pc, i, n)) : decode code pc = .ok (i, n) := dec_of (c := code) ddL_law_8 h
def dtL_law_9 : List (Nat × Instr × Nat) := [(868, .iadd, 1), (869, .iaload, 1), (870, .invokevirtual 79, 3), (873, .aload_n 2, 1), (874, .aload_n 0, 1), (875, .iload_n 3, 1), (876, .iconst 1, 1), (877, .iadd, 1), (878, .iaload, 1), (879, .aload_n 0, 1), (880, .iload_n 3, 1), (881, .iconst 2, 1), (882, .iadd, 1), (883, .iaload, 1), (884, .aload_n 0, 1), (885, .iload_n 3, 1), (886, .iconst 3, 1), (887, .iadd, 1), (888, .iaload, 1), (889, .aload_n 0, 1), (890, .iload_n 3, 1), (891, .iconst 4, 1), (892, .iadd, 1), (893, .iaload, 1), (894, .invokevirtual 82, 3), (897, .if_icmp .eq 1341, 3), (900, .iconst 0, 1), (901, .ireturn, 1), (902, .aload_n 1, 1), (903, .aload_n 0, 1), (904, .iload_n 3, 1), (905, .iconst 1, 1), (906, .iadd, 1), (907, .iaload, 1), (908, .aload_n 0, 1), (909, .iload_n 3, 1), (910, .iconst 2, 1), (911, .iadd, 1), (912, .iaload, 1), (913, .aload_n 0, 1), (914, .iload_n 3, 1), (915, .iconst 3, 1), (916, .iadd, 1), (917, .iaload, 1), (918, .aload_n 0, 1), (919, .iload_n 3, 1), (920, .iconst 4, 1), (921, .iadd, 1), (922, .iaload, 1), (923, .invokevirtual 83, 3), (926, .aload_n 2, 1), (927, .aload_n 0, 1), (928, .iload_n 3, 1), (929, .iconst 1, 1), (930, .iadd, 1), (931, .iaload, 1), (932, .aload_n 0, 1), (933, .iload_n 3, 1), (934, .iconst 2, 1), (935, .iadd, 1), (936, .iaload, 1), (937, .aload_n 0, 1), (938, .iload_n 3, 1), (939, .iconst 3, 1)]
theorem ddL_law_9 : (dtL_law_9.all fun e => decide (decode code e.1 = .ok (e.2.1, e.2.2))) = true := by decide +kernel
theorem daL_law_9 (j : Nat) {pc n : Nat} {i : Instr} (h : dtL_law_9[j]? = some (pc, i, n)) : decode code pc = .ok (i, n) := dec_of (c := code) ddL_law_9 h
def dtL_law_10 : List (Nat × Instr × Nat) := [(940, .iadd, 1), (941, .iaload, 1), (942, .aload_n 0, 1), (943, .iload_n 3, 1), (944, .iconst 4, 1), (945, .iadd, 1), (946, .iaload, 1), (947, .invokevirtual 86, 3), (950, .if_icmp .eq 1288, 3), (953, .iconst 0, 1), (954, .ireturn, 1), (955, .aload_n 1, 1), (956, .aload_n 0, 1), (957, .iload_n 3, 1), (958, .iconst 1, 1), (959, .iadd, 1), (960, .iaload, 1), (961, .aload_n 0, 1), (962, .iload_n 3, 1), (963, .iconst 2, 1), (964, .iadd, 1), (965, .iaload, 1), (966, .aload_n 0, 1), (967, .iload_n 3, 1), (968, .iconst 3, 1), (969, .iadd, 1), (970, .iaload, 1), (971, .invokevirtual 87, 3), (974, .aload_n 2, 1), (975, .aload_n 0, 1), (976, .iload_n 3, 1), (977, .iconst 1, 1), (978, .iadd, 1), (979, .iaload, 1), (980, .aload_n 0, 1), (981, .iload_n 3, 1), (982, .iconst 2, 1), (983, .iadd, 1), (984, .iaload, 1), (985, .aload_n 0, 1), (986, .iload_n 3, 1), (987, .iconst 3, 1), (988, .iadd, 1), (989, .iaload, 1), (990, .invokevirtual 90, 3), (993, .if_icmp .eq 1245, 3), (996, .iconst 0, 1), (997, .ireturn, 1), (998, .aload_n 1, 1), (999, .aload_n 0, 1), (1000, .iload_n 3, 1), (1001, .iconst 1, 1), (1002, .iadd, 1), (1003, .iaload, 1), (1004, .aload_n 0, 1), (1005, .iload_n 3, 1), (1006, .iconst 2, 1), (1007, .iadd, 1), (1008, .iaload, 1), (1009, .aload_n 0, 1), (1010, .iload_n 3, 1), (1011, .iconst 3, 1), (1012, .iadd, 1), (1013, .iaload, 1)]
theorem ddL_law_10 : (dtL_law_10.all fun e => decide (decode code e.1 = .ok (e.2.1, e.2.2))) = true := by decide +kernel
theorem daL_law_10 (j : Nat) {pc n : Nat} {i : Instr} (h : dtL_law_10[j]? = some (pc, i, n)) : decode code pc = .ok (i, n) := dec_of (c := code) ddL_law_10 h
def dtL_law_11 : List (Nat × Instr × Nat) := [(1014, .invokevirtual 91, 3), (1017, .aload_n 2, 1), (1018, .aload_n 0, 1), (1019, .iload_n 3, 1), (1020, .iconst 1, 1), (1021, .iadd, 1), (1022, .iaload, 1), (1023, .aload_n 0, 1), (1024, .iload_n 3, 1), (1025, .iconst 2, 1), (1026, .iadd, 1), (1027, .iaload, 1), (1028, .aload_n 0, 1), (1029, .iload_n 3, 1), (1030, .iconst 3, 1), (1031, .iadd, 1), (1032, .iaload, 1), (1033, .invokevirtual 94, 3), (1036, .if_icmp .eq 1202, 3), (1039, .iconst 0, 1), (1040, .ireturn, 1), (1041, .aload_n 1, 1), (1042, .aload_n 0, 1), (1043, .iload_n 3, 1), (1044, .iconst 1, 1), (1045, .iadd, 1), (1046, .iaload, 1), (1047, .aload_n 0, 1), (1048, .iload_n 3, 1), (1049, .iconst 2, 1), (1050, .iadd, 1), (1051, .iaload, 1), (1052, .invokevirtual 95, 3), (1055, .aload_n 2, 1), (1056, .aload_n 0, 1), (1057, .iload_n 3, 1), (1058, .iconst 1, 1), (1059, .iadd, 1), (1060, .iaload, 1), (1061, .aload_n 0, 1), (1062, .iload_n 3, 1), (1063, .iconst 2, 1), (1064, .iadd, 1), (1065, .iaload, 1), (1066, .invokevirtual 98, 3), (1069, .if_icmp .eq 1169, 3), (1072, .iconst 0, 1), (1073, .ireturn, 1), (1074, .aload_n 1, 1), (1075, .aload_n 0, 1), (1076, .iload_n 3, 1), (1077, .iconst 1, 1), (1078, .iadd, 1), (1079, .iaload, 1), (1080, .aload_n 0, 1), (1081, .iload_n 3, 1), (1082, .iconst 2, 1), (1083, .iadd, 1), (1084, .iaload, 1), (1085, .aload_n 0, 1), (1086, .iload_n 3, 1), (1087, .iconst 3, 1), (1088, .iadd, 1), (1089, .iaload, 1)]
theorem ddL_law_11 : (dtL_law_11.all fun e => decide (decode code e.1 = .ok (e.2.1, e.2.2))) = true := by decide +kernel
theorem daL_law_11 (j : Nat) {pc n : Nat} {i : Instr} (h : dtL_law_11[j]? = some (pc, i, n)) : decode code pc = .ok (i, n) := dec_of (c := code) ddL_law_11 h
def dtL_law_12 : List (Nat × Instr × Nat) := [(1090, .ifCond .eq 7, 3), (1093, .iconst 1, 1), (1094, .goto 4, 3), (1097, .iconst 0, 1), (1098, .invokevirtual 99, 3), (1101, .aload_n 2, 1), (1102, .aload_n 0, 1), (1103, .iload_n 3, 1), (1104, .iconst 1, 1), (1105, .iadd, 1), (1106, .iaload, 1), (1107, .aload_n 0, 1), (1108, .iload_n 3, 1), (1109, .iconst 2, 1), (1110, .iadd, 1), (1111, .iaload, 1), (1112, .aload_n 0, 1), (1113, .iload_n 3, 1), (1114, .iconst 3, 1), (1115, .iadd, 1), (1116, .iaload, 1), (1117, .ifCond .eq 7, 3), (1120, .iconst 1, 1), (1121, .goto 4, 3), (1124, .iconst 0, 1), (1125, .invokevirtual 103, 3), (1128, .if_icmp .eq 1110, 3), (1131, .iconst 0, 1), (1132, .ireturn, 1), (1133, .aload_n 1, 1), (1134, .aload_n 0, 1), (1135, .iload_n 3, 1), (1136, .iconst 1, 1), (1137, .iadd, 1), (1138, .iaload, 1), (1139, .aload_n 0, 1), (1140, .iload_n 3, 1), (1141, .iconst 2, 1), (1142, .iadd, 1), (1143, .iaload, 1), (1144, .aload_n 0, 1), (1145, .iload_n 3, 1), (1146, .iconst 3, 1), (1147, .iadd, 1), (1148, .iaload, 1), (1149, .aload_n 0, 1), (1150, .iload_n 3, 1), (1151, .iconst 4, 1), (1152, .iadd, 1), (1153, .iaload, 1), (1154, .invokevirtual 104, 3), (1157, .aload_n 2, 1), (1158, .aload_n 0, 1), (1159, .iload_n 3, 1), (1160, .iconst 1, 1), (1161, .iadd, 1), (1162, .iaload, 1), (1163, .aload_n 0, 1), (1164, .iload_n 3, 1), (1165, .iconst 2, 1), (1166, .iadd, 1), (1167, .iaload, 1), (1168, .aload_n 0, 1), (1169, .iload_n 3, 1)]
theorem ddL_law_12 : (dtL_law_12.all fun e => decide (decode code e.1 = .ok (e.2.1, e.2.2))) = true := by decide +kernel
theorem daL_law_12 (j : Nat) {pc n : Nat} {i : Instr} (h : dtL_law_12[j]? = some (pc, i, n)) : decode code pc = .ok (i, n) := dec_of (c := code) ddL_law_12 h
def dtL_law_13 : List (Nat × Instr × Nat) := [(1170, .iconst 3, 1), (1171, .iadd, 1), (1172, .iaload, 1), (1173, .aload_n 0, 1), (1174, .iload_n 3, 1), (1175, .iconst 4, 1), (1176, .iadd, 1), (1177, .iaload, 1), (1178, .invokevirtual 107, 3), (1181, .if_icmp .eq 1057, 3), (1184, .iconst 0, 1), (1185, .ireturn, 1), (1186, .aload_n 1, 1), (1187, .aload_n 0, 1), (1188, .iload_n 3, 1), (1189, .iconst 1, 1), (1190, .iadd, 1), (1191, .iaload, 1), (1192, .aload_n 0, 1), (1193, .iload_n 3, 1), (1194, .iconst 2, 1), (1195, .iadd, 1), (1196, .iaload, 1), (1197, .aload_n 0, 1), (1198, .iload_n 3, 1), (1199, .iconst 3, 1), (1200, .iadd, 1), (1201, .iaload, 1), (1202, .aload_n 0, 1), (1203, .iload_n 3, 1), (1204, .iconst 4, 1), (1205, .iadd, 1), (1206, .iaload, 1), (1207, .invokevirtual 108, 3), (1210, .aload_n 2, 1), (1211, .aload_n 0, 1), (1212, .iload_n 3, 1), (1213, .iconst 1, 1), (1214, .iadd, 1), (1215, .iaload, 1), (1216, .aload_n 0, 1), (1217, .iload_n 3, 1), (1218, .iconst 2, 1), (1219, .iadd, 1), (1220, .iaload, 1), (1221, .aload_n 0, 1), (1222, .iload_n 3, 1), (1223, .iconst 3, 1), (1224, .iadd, 1), (1225, .iaload, 1), (1226, .aload_n 0, 1), (1227, .iload_n 3, 1), (1228, .iconst 4, 1), (1229, .iadd, 1), (1230, .iaload, 1), (1231, .invokevirtual 111, 3), (1234, .if_icmp .eq 1004, 3), (1237, .iconst 0, 1), (1238, .ireturn, 1), (1239, .aload_n 1, 1), (1240, .aload_n 0, 1), (1241, .iload_n 3, 1), (1242, .iconst 1, 1), (1243, .iadd, 1)]
theorem ddL_law_13 : (dtL_law_13.all fun e => decide (decode code e.1 = .ok (e.2.1, e.2.2))) = true := by decide +kernel
theorem daL_law_13 (j : Nat) {pc n : Nat} {i : Instr} (h : dtL_law_13[j]? = some (pc, i, n)) : decode code pc = .ok (i, n) := dec_of (c := code) ddL_law_13 h
def dtL_law_14 : List (Nat × Instr × Nat) := [(1244, .iaload, 1), (1245, .aload_n 0, 1), (1246, .iload_n 3, 1), (1247, .iconst 2, 1), (1248, .iadd, 1), (1249, .iaload, 1), (1250, .aload_n 0, 1), (1251, .iload_n 3, 1), (1252, .iconst 3, 1), (1253, .iadd, 1), (1254, .iaload, 1), (1255, .aload_n 0, 1), (1256, .iload_n 3, 1), (1257, .iconst 4, 1), (1258, .iadd, 1), (1259, .iaload, 1), (1260, .aload_n 0, 1), (1261, .iload_n 3, 1), (1262, .iconst 5, 1), (1263, .iadd, 1), (1264, .iaload, 1), (1265, .invokevirtual 112, 3), (1268, .aload_n 2, 1), (1269, .aload_n 0, 1), (1270, .iload_n 3, 1), (1271, .iconst 1, 1), (1272, .iadd, 1), (1273, .iaload, 1), (1274, .aload_n 0, 1), (1275, .iload_n 3, 1), (1276, .iconst 2, 1), (1277, .iadd, 1), (1278, .iaload, 1), (1279, .aload_n 0, 1), (1280, .iload_n 3, 1), (1281, .iconst 3, 1), (1282, .iadd, 1), (1283, .iaload, 1), (1284, .aload_n 0, 1), (1285, .iload_n 3, 1), (1286, .iconst 4, 1), (1287, .iadd, 1), (1288, .iaload, 1), (1289, .aload_n 0, 1), (1290, .iload_n 3, 1), (1291, .iconst 5, 1), (1292, .iadd, 1), (1293, .iaload, 1), (1294, .invokevirtual 115, 3), (1297, .if_icmp .eq 941, 3), (1300, .iconst 0, 1), (1301, .ireturn, 1), (1302, .aload_n 1, 1), (1303, .aload_n 0, 1), (1304, .iload_n 3, 1), (1305, .iconst 1, 1), (1306, .iadd, 1), (1307, .iaload, 1), (1308, .aload_n 0, 1), (1309, .iload_n 3, 1), (1310, .iconst 2, 1), (1311, .iadd, 1), (1312, .iaload, 1), (1313, .aload_n 0, 1)]
theorem ddL_law_14 : (dtL_law_14.all fun e => decide (decode code e.1 = .ok (e.2.1, e.2.2))) = true := by decide +kernel
theorem daL_law_14 (j : Nat) {pc n : Nat} {i : Instr} (h : dtL_law_14[j]? = some (pc, i, n)) : decode code pc = .ok (i, n) := dec_of (c := code) ddL_law_14 h
def dtL_law_15 : List (Nat × Instr × Nat) := [(1314, .iload_n 3, 1), (1315, .iconst 3, 1), (1316, .iadd, 1), (1317, .iaload, 1), (1318, .aload_n 0, 1), (1319, .iload_n 3, 1), (1320, .iconst 4, 1), (1321, .iadd, 1), (1322, .iaload, 1), (1323, .invokevirtual 116, 3), (1326, .aload_n 2, 1), (1327, .aload_n 0, 1), (1328, .iload_n 3, 1), (1329, .iconst 1, 1), (1330, .iadd, 1), (1331, .iaload, 1), (1332, .aload_n 0, 1), (1333, .iload_n 3, 1), (1334, .iconst 2, 1), (1335, .iadd, 1), (1336, .iaload, 1), (1337, .aload_n 0, 1), (1338, .iload_n 3, 1), (1339, .iconst 3, 1), (1340, .iadd, 1), (1341, .iaload, 1), (1342, .aload_n 0, 1), (1343, .iload_n 3, 1), (1344, .iconst 4, 1), (1345, .iadd, 1), (1346, .iaload, 1), (1347, .invokevirtual 119, 3), (1350, .if_icmp .eq 888, 3), (1353, .iconst 0, 1), (1354, .ireturn, 1), (1355, .aload_n 1, 1), (1356, .aload_n 0, 1), (1357, .iload_n 3, 1), (1358, .iconst 1, 1), (1359, .iadd, 1), (1360, .iaload, 1), (1361, .aload_n 0, 1), (1362, .iload_n 3, 1), (1363, .iconst 2, 1), (1364, .iadd, 1), (1365, .iaload, 1), (1366, .invokevirtual 120, 3), (1369, .aload_n 2, 1), (1370, .aload_n 0, 1), (1371, .iload_n 3, 1), (1372, .iconst 1, 1), (1373, .iadd, 1), (1374, .iaload, 1), (1375, .aload_n 0, 1), (1376, .iload_n 3, 1), (1377, .iconst 2, 1), (1378, .iadd, 1), (1379, .iaload, 1), (1380, .invokevirtual 123, 3), (1383, .if_icmp .eq 855, 3), (1386, .iconst 0, 1), (1387, .ireturn, 1), (1388, .aload_n 1, 1), (1389, .aload_n 0, 1)]
theorem ddL_law_15 : (dtL_law_15.all fun e => decide (decode code e.1 = .ok (e.2.1, e.2.2))) = true := by decide +kernel
theorem daL_law_15 (j : Nat) {pc n : Nat} {i : Instr} (h : dtL_law_15[j]? = some (pc, i, n)) : decode code pc = .ok (i, n) := dec_of (c := code) ddL_law_15 h
def dtL_law_16 : List (Nat × Instr × Nat) := [(1390, .iload_n 3, 1), (1391, .iconst 1, 1), (1392, .iadd, 1), (1393, .iaload, 1), (1394, .aload_n 0, 1), (1395, .iload_n 3, 1), (1396, .iconst 2, 1), (1397, .iadd, 1), (1398, .iaload, 1), (1399, .invokevirtual 124, 3), (1402, .aload_n 2, 1), (1403, .aload_n 0, 1), (1404, .iload_n 3, 1), (1405, .iconst 1, 1), (1406, .iadd, 1), (1407, .iaload, 1), (1408, .aload_n 0, 1), (1409, .iload_n 3, 1), (1410, .iconst 2, 1), (1411, .iadd, 1), (1412, .iaload, 1), (1413, .invokevirtual 127, 3), (1416, .if_icmp .eq 822, 3), (1419, .iconst 0, 1), (1420, .ireturn, 1), (1421, .aload_n 1, 1), (1422, .aload_n 0, 1), (1423, .iload_n 3, 1), (1424, .iconst 1, 1), (1425, .iadd, 1), (1426, .iaload, 1), (1427, .invokevirtual 128, 3), (1430, .aload_n 2, 1), (1431, .aload_n 0, 1), (1432, .iload_n 3, 1), (1433, .iconst 1, 1), (1434, .iadd, 1), (1435, .iaload, 1), (1436, .invokevirtual 131, 3), (1439, .if_icmp .eq 799, 3), (1442, .iconst 0, 1), (1443, .ireturn, 1), (1444, .aload_n 1, 1), (1445, .aload_n 0, 1), (1446, .iload_n 3, 1), (1447, .iconst 1, 1), (1448, .iadd, 1), (1449, .iaload, 1), (1450, .aload_n 0, 1), (1451, .iload_n 3, 1), (1452, .iconst 2, 1), (1453, .iadd, 1), (1454, .iaload, 1), (1455, .aload_n 0, 1), (1456, .iload_n 3, 1), (1457, .iconst 3, 1), (1458, .iadd, 1), (1459, .iaload, 1), (1460, .aload_n 0, 1), (1461, .iload_n 3, 1), (1462, .iconst 4, 1), (1463, .iadd, 1), (1464, .iaload, 1), (1465, .invokevirtual 132, 3)]
theorem ddL_law_16 : (dtL_law_16.all fun e => decide (decode code e.1 = .ok (e.2.1, e.2.2))) = true := by decide +kernel
theorem daL_law_16 (j : Nat) {pc n : Nat} {i : Instr} (h : dtL_law_16[j]? = some (pc, i, n)) : decode code pc = .ok (i, n) := dec_of (c := code) ddL_law_16 h
def dtL_law_17 : List (Nat × Instr × Nat) := [(1468, .aload_n 2, 1), (1469, .aload_n 0, 1), (1470, .iload_n 3, 1), (1471, .iconst 1, 1), (1472, .iadd, 1), (1473, .iaload, 1), (1474, .aload_n 0, 1), (1475, .iload_n 3, 1), (1476, .iconst 2, 1), (1477, .iadd, 1), (1478, .iaload, 1), (1479, .aload_n 0, 1), (1480, .iload_n 3, 1), (1481, .iconst 3, 1), (1482, .iadd, 1), (1483, .iaload, 1), (1484, .aload_n 0, 1), (1485, .iload_n 3, 1), (1486, .iconst 4, 1), (1487, .iadd, 1), (1488, .iaload, 1), (1489, .invokevirtual 135, 3), (1492, .if_icmp .eq 746, 3), (1495, .iconst 0, 1), (1496, .ireturn, 1), (1497, .aload_n 1, 1), (1498, .aload_n 0, 1), (1499, .iload_n 3, 1), (1500, .iconst 1, 1), (1501, .iadd, 1), (1502, .iaload, 1), (1503, .aload_n 0, 1), (1504, .iload_n 3, 1), (1505, .iconst 2, 1), (1506, .iadd, 1), (1507, .iaload, 1), (1508, .aload_n 0, 1), (1509, .iload_n 3, 1), (1510, .iconst 3, 1), (1511, .iadd, 1), (1512, .iaload, 1), (1513, .invokevirtual 136, 3), (1516, .aload_n 2, 1), (1517, .aload_n 0, 1), (1518, .iload_n 3, 1), (1519, .iconst 1, 1), (1520, .iadd, 1), (1521, .iaload, 1), (1522, .aload_n 0, 1), (1523, .iload_n 3, 1), (1524, .iconst 2, 1), (1525, .iadd, 1), (1526, .iaload, 1), (1527, .aload_n 0, 1), (1528, .iload_n 3, 1), (1529, .iconst 3, 1), (1530, .iadd, 1), (1531, .iaload, 1), (1532, .invokevirtual 139, 3), (1535, .if_icmp .eq 703, 3), (1538, .iconst 0, 1), (1539, .ireturn, 1), (1540, .aload_n 1, 1), (1541, .aload_n 0, 1)]
theorem ddL_law_17 : (dtL_law_17.all fun e => decide (decode code e.1 = .ok (e.2.1, e.2.2))) = true := by decide +kernel
theorem daL_law_17 (j : Nat) {pc n : Nat} {i : Instr} (h : dtL_law_17[j]? = some (pc, i, n)) : decode code pc = .ok (i, n) := dec_of (c := code) ddL_law_17 h
def dtL_law_18 : List (Nat × Instr × Nat) := [(1542, .iload_n 3, 1), (1543, .iconst 1, 1), (1544, .iadd, 1), (1545, .iaload, 1), (1546, .aload_n 0, 1), (1547, .iload_n 3, 1), (1548, .iconst 2, 1), (1549, .iadd, 1), (1550, .iaload, 1), (1551, .aload_n 0, 1), (1552, .iload_n 3, 1), (1553, .iconst 3, 1), (1554, .iadd, 1), (1555, .iaload, 1), (1556, .aload_n 0, 1), (1557, .iload_n 3, 1), (1558, .iconst 4, 1), (1559, .iadd, 1), (1560, .iaload, 1), (1561, .aload_n 0, 1), (1562, .iload_n 3, 1), (1563, .iconst 5, 1), (1564, .iadd, 1), (1565, .iaload, 1), (1566, .ifCond .eq 7, 3), (1569, .iconst 1, 1), (1570, .goto 4, 3), (1573, .iconst 0, 1), (1574, .aload_n 0, 1), (1575, .iload_n 3, 1), (1576, .bipush 6, 2), (1578, .iadd, 1), (1579, .iaload, 1), (1580, .ifCond .eq 7, 3), (1583, .iconst 1, 1), (1584, .goto 4, 3), (1587, .iconst 0, 1), (1588, .invokevirtual 140, 3), (1591, .aload_n 2, 1), (1592, .aload_n 0, 1), (1593, .iload_n 3, 1), (1594, .iconst 1, 1), (1595, .iadd, 1), (1596, .iaload, 1), (1597, .aload_n 0, 1), (1598, .iload_n 3, 1), (1599, .iconst 2, 1), (1600, .iadd, 1), (1601, .iaload, 1), (1602, .aload_n 0, 1), (1603, .iload_n 3, 1), (1604, .iconst 3, 1), (1605, .iadd, 1), (1606, .iaload, 1), (1607, .aload_n 0, 1), (1608, .iload_n 3, 1), (1609, .iconst 4, 1), (1610, .iadd, 1), (1611, .iaload, 1), (1612, .aload_n 0, 1), (1613, .iload_n 3, 1), (1614, .iconst 5, 1), (1615, .iadd, 1), (1616, .iaload, 1)]
theorem ddL_law_18 : (dtL_law_18.all fun e => decide (decode code e.1 = .ok (e.2.1, e.2.2))) = true := by decide +kernel
theorem daL_law_18 (j : Nat) {pc n : Nat} {i : Instr} (h : dtL_law_18[j]? = some (pc, i, n)) : decode code pc = .ok (i, n) := dec_of (c := code) ddL_law_18 h
def dtL_law_19 : List (Nat × Instr × Nat) := [(1617, .ifCond .eq 7, 3), (1620, .iconst 1, 1), (1621, .goto 4, 3), (1624, .iconst 0, 1), (1625, .aload_n 0, 1), (1626, .iload_n 3, 1), (1627, .bipush 6, 2), (1629, .iadd, 1), (1630, .iaload, 1), (1631, .ifCond .eq 7, 3), (1634, .iconst 1, 1), (1635, .goto 4, 3), (1638, .iconst 0, 1), (1639, .invokevirtual 144, 3), (1642, .if_icmp .eq 596, 3), (1645, .iconst 0, 1), (1646, .ireturn, 1), (1647, .aload_n 1, 1), (1648, .aload_n 0, 1), (1649, .iload_n 3, 1), (1650, .iconst 1, 1), (1651, .iadd, 1), (1652, .iaload, 1), (1653, .aload_n 0, 1), (1654, .iload_n 3, 1), (1655, .iconst 2, 1), (1656, .iadd, 1), (1657, .iaload, 1), (1658, .aload_n 0, 1), (1659, .iload_n 3, 1), (1660, .iconst 3, 1), (1661, .iadd, 1), (1662, .iaload, 1), (1663, .aload_n 0, 1), (1664, .iload_n 3, 1), (1665, .iconst 4, 1), (1666, .iadd, 1), (1667, .iaload, 1), (1668, .invokevirtual 145, 3), (1671, .aload_n 2, 1), (1672, .aload_n 0, 1), (1673, .iload_n 3, 1), (1674, .iconst 1, 1), (1675, .iadd, 1), (1676, .iaload, 1), (1677, .aload_n 0, 1), (1678, .iload_n 3, 1), (1679, .iconst 2, 1), (1680, .iadd, 1), (1681, .iaload, 1), (1682, .aload_n 0, 1), (1683, .iload_n 3, 1), (1684, .iconst 3, 1), (1685, .iadd, 1), (1686, .iaload, 1), (1687, .aload_n 0, 1), (1688, .iload_n 3, 1), (1689, .iconst 4, 1), (1690, .iadd, 1), (1691, .iaload, 1), (1692, .invokevirtual 148, 3), (1695, .if_icmp .eq 543, 3), (1698, .iconst 0, 1), (1699, .ireturn, 1)]
theorem ddL_law_19 : (dtL_law_19.all fun e => decide (decode code e.1 = .ok (e.2.1, e.2.2))) = true := by decide +kernel
theorem daL_law_19 (j : Nat) {pc n : Nat} {i : Instr} (h : dtL_law_19[j]? = some (pc, i, n)) : decode code pc = .ok (i, n) := dec_of (c := code) ddL_law_19 h
def dtL_law_20 : List (Nat × Instr × Nat) := [(1700, .aload_n 1, 1), (1701, .aload_n 0, 1), (1702, .iload_n 3, 1), (1703, .iconst 1, 1), (1704, .iadd, 1), (1705, .iaload, 1), (1706, .aload_n 0, 1), (1707, .iload_n 3, 1), (1708, .iconst 2, 1), (1709, .iadd, 1), (1710, .iaload, 1), (1711, .aload_n 0, 1), (1712, .iload_n 3, 1), (1713, .iconst 3, 1), (1714, .iadd, 1), (1715, .iaload, 1), (1716, .ifCond .eq 7, 3), (1719, .iconst 1, 1), (1720, .goto 4, 3), (1723, .iconst 0, 1), (1724, .invokevirtual 149, 3), (1727, .aload_n 2, 1), (1728, .aload_n 0, 1), (1729, .iload_n 3, 1), (1730, .iconst 1, 1), (1731, .iadd, 1), (1732, .iaload, 1), (1733, .aload_n 0, 1), (1734, .iload_n 3, 1), (1735, .iconst 2, 1), (1736, .iadd, 1), (1737, .iaload, 1), (1738, .aload_n 0, 1), (1739, .iload_n 3, 1), (1740, .iconst 3, 1), (1741, .iadd, 1), (1742, .iaload, 1), (1743, .ifCond .eq 7, 3), (1746, .iconst 1, 1), (1747, .goto 4, 3), (1750, .iconst 0, 1), (1751, .invokevirtual 152, 3), (1754, .if_icmp .eq 484, 3), (1757, .iconst 0, 1), (1758, .ireturn, 1), (1759, .aload_n 1, 1), (1760, .aload_n 0, 1), (1761, .iload_n 3, 1), (1762, .iconst 1, 1), (1763, .iadd, 1), (1764, .iaload, 1), (1765, .aload_n 0, 1), (1766, .iload_n 3, 1), (1767, .iconst 2, 1), (1768, .iadd, 1), (1769, .iaload, 1), (1770, .aload_n 0, 1), (1771, .iload_n 3, 1), (1772, .iconst 3, 1), (1773, .iadd, 1), (1774, .iaload, 1), (1775, .aload_n 0, 1), (1776, .iload_n 3, 1), (1777, .iconst 4, 1)]
theorem ddL_law_20 : (dtL_law_20.all fun e => decide (decode code e.1 = .ok (e.2.1, e.2.2))) = true := by decide +kernel
theorem daL_law_20 (j : Nat) {pc n : Nat} {i : Instr} (h : dtL_law_20[j]? = some (pc, i, n)) : decode code pc = .ok (i, n) := dec_of (c := code) ddL_law_20 h
def dtL_law_21 : List (Nat × Instr × Nat) := [(1778, .iadd, 1), (1779, .iaload, 1), (1780, .aload_n 0, 1), (1781, .iload_n 3, 1), (1782, .iconst 5, 1), (1783, .iadd, 1), (1784, .iaload, 1), (1785, .aload_n 0, 1), (1786, .iload_n 3, 1), (1787, .bipush 6, 2), (1789, .iadd, 1), (1790, .iaload, 1), (1791, .aload_n 0, 1), (1792, .iload_n 3, 1), (1793, .bipush 7, 2), (1795, .iadd, 1), (1796, .iaload, 1), (1797, .invokevirtual 153, 3), (1800, .aload_n 2, 1), (1801, .aload_n 0, 1), (1802, .iload_n 3, 1), (1803, .iconst 1, 1), (1804, .iadd, 1), (1805, .iaload, 1), (1806, .aload_n 0, 1), (1807, .iload_n 3, 1), (1808, .iconst 2, 1), (1809, .iadd, 1), (1810, .iaload, 1), (1811, .aload_n 0, 1), (1812, .iload_n 3, 1), (1813, .iconst 3, 1), (1814, .iadd, 1), (1815, .iaload, 1), (1816, .aload_n 0, 1), (1817, .iload_n 3, 1), (1818, .iconst 4, 1), (1819, .iadd, 1), (1820, .iaload, 1), (1821, .aload_n 0, 1), (1822, .iload_n 3, 1), (1823, .iconst 5, 1), (1824, .iadd, 1), (1825, .iaload, 1), (1826, .aload_n 0, 1), (1827, .iload_n 3, 1), (1828, .bipush 6, 2), (1830, .iadd, 1), (1831, .iaload, 1), (1832, .aload_n 0, 1), (1833, .iload_n 3, 1), (1834, .bipush 7, 2), (1836, .iadd, 1), (1837, .iaload, 1), (1838, .invokevirtual 157, 3), (1841, .if_icmp .eq 397, 3), (1844, .iconst 0, 1), (1845, .ireturn, 1), (1846, .aload_n 1, 1), (1847, .aload_n 0, 1), (1848, .iload_n 3, 1), (1849, .iconst 1, 1), (1850, .iadd, 1), (1851, .iaload, 1)]
theorem ddL_law_21 : (dtL_law_21.all fun e => decide (decode code e.1 = .ok (e.2.1, e.2.2))) = true := by decide +kernel
theorem daL_law_21 (j : Nat) {pc n : Nat} {i : Instr} (h : dtL_law_21[j]? = some (pc, i, n)) : decode code pc = .ok (i, n) := dec_of (c := code) ddL_law_21 h
def dtL_law_22 : List (Nat × Instr × Nat) := [(1852, .aload_n 0, 1), (1853, .iload_n 3, 1), (1854, .iconst 2, 1), (1855, .iadd, 1), (1856, .iaload, 1), (1857, .aload_n 0, 1), (1858, .iload_n 3, 1), (1859, .iconst 3, 1), (1860, .iadd, 1), (1861, .iaload, 1), (1862, .aload_n 0, 1), (1863, .iload_n 3, 1), (1864, .iconst 4, 1), (1865, .iadd, 1), (1866, .iaload, 1), (1867, .aload_n 0, 1), (1868, .iload_n 3, 1), (1869, .iconst 5, 1), (1870, .iadd, 1), (1871, .iaload, 1), (1872, .aload_n 0, 1), (1873, .iload_n 3, 1), (1874, .bipush 6, 2), (1876, .iadd, 1), (1877, .iaload, 1), (1878, .aload_n 0, 1), (1879, .iload_n 3, 1), (1880, .bipush 7, 2), (1882, .iadd, 1), (1883, .iaload, 1), (1884, .aload_n 0, 1), (1885, .iload_n 3, 1), (1886, .bipush 8, 2), (1888, .iadd, 1), (1889, .iaload, 1), (1890, .ifCond .eq 7, 3), (1893, .iconst 1, 1), (1894, .goto 4, 3), (1897, .iconst 0, 1), (1898, .invokevirtual 158, 3), (1901, .aload_n 2, 1), (1902, .aload_n 0, 1), (1903, .iload_n 3, 1), (1904, .iconst 1, 1), (1905, .iadd, 1), (1906, .iaload, 1), (1907, .aload_n 0, 1), (1908, .iload_n 3, 1), (1909, .iconst 2, 1), (1910, .iadd, 1), (1911, .iaload, 1), (1912, .aload_n 0, 1), (1913, .iload_n 3, 1), (1914, .iconst 3, 1), (1915, .iadd, 1), (1916, .iaload, 1), (1917, .aload_n 0, 1), (1918, .iload_n 3, 1), (1919, .iconst 4, 1), (1920, .iadd, 1), (1921, .iaload, 1), (1922, .aload_n 0, 1), (1923, .iload_n 3, 1), (1924, .iconst 5, 1)]
theorem ddL_law_22 : (dtL_law_22.all fun e => decide (decode code e.1 = .ok (e.2.1, e.2.2))) = true := by decide +kernel
theorem daL_law_22 (j : Nat) {pc n : Nat} {i : Instr} (h : dtL_law_22[j]? = some (pc, i, n)) : decode code pc = .ok (i, n) := dec_of (c := code) ddL_law_22 h
def dtL_law_23 : List (Nat × Instr × Nat) := [(1925, .iadd, 1), (1926, .iaload, 1), (1927, .aload_n 0, 1), (1928, .iload_n 3, 1), (1929, .bipush 6, 2), (1931, .iadd, 1), (1932, .iaload, 1), (1933, .aload_n 0, 1), (1934, .iload_n 3, 1), (1935, .bipush 7, 2), (1937, .iadd, 1), (1938, .iaload, 1), (1939, .aload_n 0, 1), (1940, .iload_n 3, 1), (1941, .bipush 8, 2), (1943, .iadd, 1), (1944, .iaload, 1), (1945, .ifCond .eq 7, 3), (1948, .iconst 1, 1), (1949, .goto 4, 3), (1952, .iconst 0, 1), (1953, .invokevirtual 162, 3), (1956, .if_icmp .eq 282, 3), (1959, .iconst 0, 1), (1960, .ireturn, 1), (1961, .aload_n 1, 1), (1962, .aload_n 0, 1), (1963, .iload_n 3, 1), (1964, .iconst 1, 1), (1965, .iadd, 1), (1966, .iaload, 1), (1967, .aload_n 0, 1), (1968, .iload_n 3, 1), (1969, .iconst 2, 1), (1970, .iadd, 1), (1971, .iaload, 1), (1972, .aload_n 0, 1), (1973, .iload_n 3, 1), (1974, .iconst 3, 1), (1975, .iadd, 1), (1976, .iaload, 1), (1977, .invokevirtual 163, 3), (1980, .aload_n 2, 1), (1981, .aload_n 0, 1), (1982, .iload_n 3, 1), (1983, .iconst 1, 1), (1984, .iadd, 1), (1985, .iaload, 1), (1986, .aload_n 0, 1), (1987, .iload_n 3, 1), (1988, .iconst 2, 1), (1989, .iadd, 1), (1990, .iaload, 1), (1991, .aload_n 0, 1), (1992, .iload_n 3, 1), (1993, .iconst 3, 1), (1994, .iadd, 1), (1995, .iaload, 1), (1996, .invokevirtual 166, 3), (1999, .if_icmp .eq 239, 3), (2002, .iconst 0, 1), (2003, .ireturn, 1), (2004, .aload_n 1, 1), (2005, .aload_n 0, 1)]
theorem ddL_law_23 : (dtL_law_23.all fun e => decide (decode code e.1 = .ok (e.2.1, e.2.2))) = true := by decide +kernel
theorem daL_law_23 (j : Nat) {pc n : Nat} {i : Instr} (h : dtL_law_23[j]? = some (pc, i, n)) : decode code pc = .ok (i, n) := dec_of (c := code) ddL_law_23 h
def dtL_law_24 : List (Nat × Instr × Nat) := [(2006, .iload_n 3, 1), (2007, .iconst 1, 1), (2008, .iadd, 1), (2009, .iaload, 1), (2010, .invokevirtual 167, 3), (2013, .aload_n 2, 1), (2014, .aload_n 0, 1), (2015, .iload_n 3, 1), (2016, .iconst 1, 1), (2017, .iadd, 1), (2018, .iaload, 1), (2019, .invokevirtual 170, 3), (2022, .if_icmp .eq 216, 3), (2025, .iconst 0, 1), (2026, .ireturn, 1), (2027, .aload_n 1, 1), (2028, .aload_n 0, 1), (2029, .iload_n 3, 1), (2030, .iconst 1, 1), (2031, .iadd, 1), (2032, .iaload, 1), (2033, .aload_n 0, 1), (2034, .iload_n 3, 1), (2035, .iconst 2, 1), (2036, .iadd, 1), (2037, .iaload, 1), (2038, .invokevirtual 171, 3), (2041, .aload_n 2, 1), (2042, .aload_n 0, 1), (2043, .iload_n 3, 1), (2044, .iconst 1, 1), (2045, .iadd, 1), (2046, .iaload, 1), (2047, .aload_n 0, 1), (2048, .iload_n 3, 1), (2049, .iconst 2, 1), (2050, .iadd, 1), (2051, .iaload, 1), (2052, .invokevirtual 174, 3), (2055, .if_icmp .eq 183, 3), (2058, .iconst 0, 1), (2059, .ireturn, 1), (2060, .aload_n 1, 1), (2061, .aload_n 0, 1), (2062, .iload_n 3, 1), (2063, .iconst 1, 1), (2064, .iadd, 1), (2065, .iaload, 1), (2066, .aload_n 0, 1), (2067, .iload_n 3, 1), (2068, .iconst 2, 1), (2069, .iadd, 1), (2070, .iaload, 1), (2071, .aload_n 0, 1), (2072, .iload_n 3, 1), (2073, .iconst 3, 1), (2074, .iadd, 1), (2075, .iaload, 1), (2076, .aload_n 0, 1), (2077, .iload_n 3, 1), (2078, .iconst 4, 1), (2079, .iadd, 1), (2080, .iaload, 1), (2081, .invokevirtual 175, 3)]
theorem ddL_law_24 : (dtL_law_24.all fun e => decide (decode code e.1 = .ok (e.2.1, e.2.2))) = true := by decide +kernel
theorem daL_law_24 (j : Nat) {pc n : Nat} {i : Instr} (h : dtL_law_24[j]? = some (pc, i, n)) : decode code pc = .ok (i, n) := dec_of (c := code) ddL_law_24 h
def dtL_law_25 : List (Nat × Instr × Nat) := [(2084, .aload_n 2, 1), (2085, .aload_n 0, 1), (2086, .iload_n 3, 1), (2087, .iconst 1, 1), (2088, .iadd, 1), (2089, .iaload, 1), (2090, .aload_n 0, 1), (2091, .iload_n 3, 1), (2092, .iconst 2, 1), (2093, .iadd, 1), (2094, .iaload, 1), (2095, .aload_n 0, 1), (2096, .iload_n 3, 1), (2097, .iconst 3, 1), (2098, .iadd, 1), (2099, .iaload, 1), (2100, .aload_n 0, 1), (2101, .iload_n 3, 1), (2102, .iconst 4, 1), (2103, .iadd, 1), (2104, .iaload, 1), (2105, .invokevirtual 178, 3), (2108, .if_icmp .eq 130, 3), (2111, .iconst 0, 1), (2112, .ireturn, 1), (2113, .aload_n 1, 1), (2114, .aload_n 0, 1), (2115, .iload_n 3, 1), (2116, .iconst 1, 1), (2117, .iadd, 1), (2118, .iaload, 1), (2119, .aload_n 0, 1), (2120, .iload_n 3, 1), (2121, .iconst 2, 1), (2122, .iadd, 1), (2123, .iaload, 1), (2124, .invokevirtual 179, 3), (2127, .aload_n 2, 1), (2128, .aload_n 0, 1), (2129, .iload_n 3, 1), (2130, .iconst 1, 1), (2131, .iadd, 1), (2132, .iaload, 1), (2133, .aload_n 0, 1), (2134, .iload_n 3, 1), (2135, .iconst 2, 1), (2136, .iadd, 1), (2137, .iaload, 1), (2138, .invokevirtual 182, 3), (2141, .if_icmp .eq 97, 3), (2144, .iconst 0, 1), (2145, .ireturn, 1), (2146, .aload_n 1, 1), (2147, .aload_n 0, 1), (2148, .iload_n 3, 1), (2149, .iconst 1, 1), (2150, .iadd, 1), (2151, .iaload, 1), (2152, .invokevirtual 183, 3), (2155, .aload_n 2, 1), (2156, .aload_n 0, 1), (2157, .iload_n 3, 1), (2158, .iconst 1, 1), (2159, .iadd, 1)]
theorem ddL_law_25 : (dtL_law_25.all fun e => decide (decode code e.1 = .ok (e.2.1, e.2.2))) = true := by decide +kernel
theorem daL_law_25 (j : Nat) {pc n : Nat} {i : Instr} (h : dtL_law_25[j]? = some (pc, i, n)) : decode code pc = .ok (i, n) := dec_of (c := code) ddL_law_25 h
def dtL_law_26 : List (Nat × Instr × Nat) := [(2160, .iaload, 1), (2161, .invokevirtual 186, 3), (2164, .if_icmp .eq 74, 3), (2167, .iconst 0, 1), (2168, .ireturn, 1), (2169, .aload_n 1, 1), (2170, .aload_n 0, 1), (2171, .iload_n 3, 1), (2172, .iconst 1, 1), (2173, .iadd, 1), (2174, .iaload, 1), (2175, .invokevirtual 187, 3), (2178, .aload_n 2, 1), (2179, .aload_n 0, 1), (2180, .iload_n 3, 1), (2181, .iconst 1, 1), (2182, .iadd, 1), (2183, .iaload, 1), (2184, .invokevirtual 190, 3), (2187, .if_icmp .eq 51, 3), (2190, .iconst 0, 1), (2191, .ireturn, 1), (2192, .aload_n 1, 1), (2193, .aload_n 0, 1), (2194, .iload_n 3, 1), (2195, .iconst 1, 1), (2196, .iadd, 1), (2197, .iaload, 1), (2198, .invokevirtual 191, 3), (2201, .aload_n 2, 1), (2202, .aload_n 0, 1), (2203, .iload_n 3, 1), (2204, .iconst 1, 1), (2205, .iadd, 1), (2206, .iaload, 1), (2207, .invokevirtual 195, 3), (2210, .if_icmp .eq 28, 3), (2213, .iconst 0, 1), (2214, .ireturn, 1), (2215, .aload_n 1, 1), (2216, .aload_n 0, 1), (2217, .iload_n 3, 1), (2218, .iconst 1, 1), (2219, .iadd, 1), (2220, .iaload, 1), (2221, .invokevirtual 196, 3), (2224, .aload_n 2, 1), (2225, .aload_n 0, 1), (2226, .iload_n 3, 1), (2227, .iconst 1, 1), (2228, .iadd, 1), (2229, .iaload, 1), (2230, .invokevirtual 199, 3), (2233, .if_icmp .eq 5, 3), (2236, .iconst 0, 1), (2237, .ireturn, 1), (2238, .iinc 3 9, 3), (2241, .goto (-2223), 3), (2244, .iconst 1, 1), (2245, .ireturn, 1)]
theorem ddL_law_26 : (dtL_law_26.all fun e => decide (decode code e.1 = .ok (e.2.1, e.2.2))) = true := by decide +kernel
theorem daL_law_26 (j : Nat) {pc n : Nat} {i : Instr} (h : dtL_law_26[j]? = some (pc, i, n)) : decode code pc = .ok (i, n) := dec_of (c := code) ddL_law_26 h
def jL_law_1953 (Ls : Nat) (xs : Nat → Int32) (v1 v2 v3 s0 s1 s2 s3 s4 s5 s6 s7 s8 s9 : Int) (μ : Mm) : Option (((Int × Mm) ⊕ Mm) × Nat × Nat) :=
  chk (KD s8 = 11) (
  (fX11_found s8 s7 s6 s5 s4 s3 s2 s1 s0 μ).bind fun (r2, μ2) =>
  if s9 = r2 then
    some (.inl (w32 (v3 + 9), μ2), 0, 0)
  else
    none)
def jL_law_1751 (Ls : Nat) (xs : Nat → Int32) (v1 v2 v3 s0 s1 s2 s3 s4 : Int) (μ : Mm) : Option (((Int × Mm) ⊕ Mm) × Nat × Nat) :=
  chk (KD s3 = 11) (
  (fX11_nearest s3 s2 s1 s0 μ).bind fun (r5, μ5) =>
  if s4 = r5 then
    some (.inl (w32 (v3 + 9), μ5), 0, 0)
  else
    none)
def jL_law_1125 (Ls : Nat) (xs : Nat → Int32) (v1 v2 v3 s0 s1 s2 s3 s4 : Int) (μ : Mm) : Option (((Int × Mm) ⊕ Mm) × Nat × Nat) :=
  chk (KD s3 = 11) (
  (fX11_since s3 s2 s1 s0 μ).bind fun (r8, μ8) =>
  if s4 = r8 then
    some (.inl (w32 (v3 + 9), μ8), 0, 0)
  else
    none)
def jL_law_1639 (Ls : Nat) (xs : Nat → Int32) (v1 v2 v3 s0 s1 s2 s3 s4 s5 s6 s7 : Int) (μ : Mm) : Option (((Int × Mm) ⊕ Mm) × Nat × Nat) :=
  chk (KD s6 = 11) (
  (fX11_stretch s6 s5 s4 s3 s2 s1 s0 μ).bind fun (r11, μ11) =>
  if s7 = r11 then
    some (.inl (w32 (v3 + 9), μ11), 0, 0)
  else
    none)
def jL_law_1625 (Ls : Nat) (xs : Nat → Int32) (v1 v2 v3 s0 s1 s2 s3 s4 s5 s6 : Int) (μ : Mm) : Option (((Int × Mm) ⊕ Mm) × Nat × Nat) :=
  chk (0 ≤ w32 (v3 + 6) ∧ w32 (v3 + 6) < (Ls : Int)) (
  if (xs (w32 (v3 + 6)).toNat).toInt = 0 then
    jL_law_1639 Ls xs v1 v2 v3 0 s0 s1 s2 s3 s4 s5 s6 μ
  else
    jL_law_1639 Ls xs v1 v2 v3 1 s0 s1 s2 s3 s4 s5 s6 μ)
def jL_law_1421 (Ls : Nat) (xs : Nat → Int32) (v1 v2 v3 : Int) (μ : Mm) : Option (((Int × Mm) ⊕ Mm) × Nat × Nat) :=
  chk (0 ≤ w32 (v3 + 1) ∧ w32 (v3 + 1) < (Ls : Int)) (
  chk (KD v1 = 10) (
  (fX10_most v1 ((xs (w32 (v3 + 1)).toNat).toInt) μ).bind fun ((r17, μ17), c17, n17) =>
  pay c17 n17 (
  chk (KD v2 = 11) (
  (fX11_most v2 ((xs (w32 (v3 + 1)).toNat).toInt) μ17).bind fun r20 =>
  if r17 = r20 then
    some (.inl (w32 (v3 + 9), μ17), 0, 0)
  else
    none))))
def jL_law_2192 (Ls : Nat) (xs : Nat → Int32) (v1 v2 v3 : Int) (μ : Mm) : Option (((Int × Mm) ⊕ Mm) × Nat × Nat) :=
  chk (0 ≤ w32 (v3 + 1) ∧ w32 (v3 + 1) < (Ls : Int)) (
  chk (KD v1 = 10) (
  (fX10_image v1 ((xs (w32 (v3 + 1)).toNat).toInt) μ).bind fun ((r24, μ24), c24, n24) =>
  pay c24 n24 (
  chk (KD v2 = 11) (
  (fX11_image v2 ((xs (w32 (v3 + 1)).toNat).toInt) μ24).bind fun (r27, μ27) =>
  if r24 = r27 then
    some (.inl (w32 (v3 + 9), μ27), 0, 0)
  else
    none))))
def jL_law_287 (Ls : Nat) (xs : Nat → Int32) (v1 v2 v3 : Int) (μ : Mm) : Option (((Int × Mm) ⊕ Mm) × Nat × Nat) :=
  chk (0 ≤ w32 (v3 + 1) ∧ w32 (v3 + 1) < (Ls : Int)) (
  chk (KD v1 = 10) (
  (fX10_end v1 ((xs (w32 (v3 + 1)).toNat).toInt) μ).bind fun (r31, μ31) =>
  chk (KD v2 = 11) (
  (fX11_end v2 ((xs (w32 (v3 + 1)).toNat).toInt) μ31).bind fun (r33, μ33) =>
  if r31 = r33 then
    some (.inl (w32 (v3 + 9), μ33), 0, 0)
  else
    none)))
def jL_law_2215 (Ls : Nat) (xs : Nat → Int32) (v1 v2 v3 : Int) (μ : Mm) : Option (((Int × Mm) ⊕ Mm) × Nat × Nat) :=
  chk (0 ≤ w32 (v3 + 1) ∧ w32 (v3 + 1) < (Ls : Int)) (
  chk (KD v1 = 10) (
  (fX10_again v1 ((xs (w32 (v3 + 1)).toNat).toInt) μ).bind fun (r37, μ37) =>
  chk (KD v2 = 11) (
  (fX11_again v2 ((xs (w32 (v3 + 1)).toNat).toInt) μ37).bind fun (r39, μ39) =>
  if r37 = r39 then
    some (.inl (w32 (v3 + 9), μ39), 0, 0)
  else
    none)))
def jL_law_2004 (Ls : Nat) (xs : Nat → Int32) (v1 v2 v3 : Int) (μ : Mm) : Option (((Int × Mm) ⊕ Mm) × Nat × Nat) :=
  chk (0 ≤ w32 (v3 + 1) ∧ w32 (v3 + 1) < (Ls : Int)) (
  chk (KD v1 = 10) (
  (fX10_hidden v1 ((xs (w32 (v3 + 1)).toNat).toInt) μ).bind fun ((r43, μ43), c43, n43) =>
  pay c43 n43 (
  chk (KD v2 = 11) (
  (fX11_hidden v2 ((xs (w32 (v3 + 1)).toNat).toInt) μ43).bind fun r46 =>
  if r43 = r46 then
    some (.inl (w32 (v3 + 9), μ43), 0, 0)
  else
    none))))
def jL_law_343 (Ls : Nat) (xs : Nat → Int32) (v1 v2 v3 : Int) (μ : Mm) : Option (((Int × Mm) ⊕ Mm) × Nat × Nat) :=
  chk (0 ≤ w32 (v3 + 1) ∧ w32 (v3 + 1) < (Ls : Int)) (
  chk (KD v1 = 10) (
  (fX10_fault v1 ((xs (w32 (v3 + 1)).toNat).toInt) μ).bind fun r50 =>
  chk (KD v2 = 11) (
  (fX11_fault v2 ((xs (w32 (v3 + 1)).toNat).toInt) μ).bind fun r52 =>
  if r50 = r52 then
    some (.inl (w32 (v3 + 9), μ), 0, 0)
  else
    none)))
def jL_law_2146 (Ls : Nat) (xs : Nat → Int32) (v1 v2 v3 : Int) (μ : Mm) : Option (((Int × Mm) ⊕ Mm) × Nat × Nat) :=
  chk (0 ≤ w32 (v3 + 1) ∧ w32 (v3 + 1) < (Ls : Int)) (
  chk (KD v1 = 10) (
  (fX10_peaks v1 ((xs (w32 (v3 + 1)).toNat).toInt) μ).bind fun r56 =>
  chk (KD v2 = 11) (
  (fX11_peaks v2 ((xs (w32 (v3 + 1)).toNat).toInt) μ).bind fun r58 =>
  if r56 = r58 then
    some (.inl (w32 (v3 + 9), μ), 0, 0)
  else
    none)))
def jL_law_2169 (Ls : Nat) (xs : Nat → Int32) (v1 v2 v3 : Int) (μ : Mm) : Option (((Int × Mm) ⊕ Mm) × Nat × Nat) :=
  chk (0 ≤ w32 (v3 + 1) ∧ w32 (v3 + 1) < (Ls : Int)) (
  chk (KD v1 = 10) (
  (fX10_count v1 ((xs (w32 (v3 + 1)).toNat).toInt) μ).bind fun r62 =>
  chk (KD v2 = 11) (
  (fX11_count v2 ((xs (w32 (v3 + 1)).toNat).toInt) μ).bind fun r64 =>
  if r62 = r64 then
    some (.inl (w32 (v3 + 9), μ), 0, 0)
  else
    none)))
def jL_law_1724 (Ls : Nat) (xs : Nat → Int32) (v1 v2 v3 s0 s1 s2 s3 : Int) (μ : Mm) : Option (((Int × Mm) ⊕ Mm) × Nat × Nat) :=
  chk (KD s3 = 10) (
  (fX10_nearest s3 s2 s1 s0 μ).bind fun ((r67, μ67), c67, n67) =>
  pay c67 n67 (
  chk (0 ≤ w32 (v3 + 1) ∧ w32 (v3 + 1) < (Ls : Int)) (
  chk (0 ≤ w32 (v3 + 2) ∧ w32 (v3 + 2) < (Ls : Int)) (
  chk (0 ≤ w32 (v3 + 3) ∧ w32 (v3 + 3) < (Ls : Int)) (
  if (xs (w32 (v3 + 3)).toNat).toInt = 0 then
    jL_law_1751 Ls xs v1 v2 v3 0 ((xs (w32 (v3 + 2)).toNat).toInt) ((xs (w32 (v3 + 1)).toNat).toInt) v2 r67 μ67
  else
    jL_law_1751 Ls xs v1 v2 v3 1 ((xs (w32 (v3 + 2)).toNat).toInt) ((xs (w32 (v3 + 1)).toNat).toInt) v2 r67 μ67)))))
def jL_law_1098 (Ls : Nat) (xs : Nat → Int32) (v1 v2 v3 s0 s1 s2 s3 : Int) (μ : Mm) : Option (((Int × Mm) ⊕ Mm) × Nat × Nat) :=
  chk (KD s3 = 10) (
  (fX10_since s3 s2 s1 s0 μ).bind fun ((r74, μ74), c74, n74) =>
  pay c74 n74 (
  chk (0 ≤ w32 (v3 + 1) ∧ w32 (v3 + 1) < (Ls : Int)) (
  chk (0 ≤ w32 (v3 + 2) ∧ w32 (v3 + 2) < (Ls : Int)) (
  chk (0 ≤ w32 (v3 + 3) ∧ w32 (v3 + 3) < (Ls : Int)) (
  if (xs (w32 (v3 + 3)).toNat).toInt = 0 then
    jL_law_1125 Ls xs v1 v2 v3 0 ((xs (w32 (v3 + 2)).toNat).toInt) ((xs (w32 (v3 + 1)).toNat).toInt) v2 r74 μ74
  else
    jL_law_1125 Ls xs v1 v2 v3 1 ((xs (w32 (v3 + 2)).toNat).toInt) ((xs (w32 (v3 + 1)).toNat).toInt) v2 r74 μ74)))))
def jL_law_399 (Ls : Nat) (xs : Nat → Int32) (v1 v2 v3 : Int) (μ : Mm) : Option (((Int × Mm) ⊕ Mm) × Nat × Nat) :=
  chk (0 ≤ w32 (v3 + 1) ∧ w32 (v3 + 1) < (Ls : Int)) (
  chk (0 ≤ w32 (v3 + 2) ∧ w32 (v3 + 2) < (Ls : Int)) (
  chk (KD v1 = 10) (
  (fX10_height v1 ((xs (w32 (v3 + 1)).toNat).toInt) ((xs (w32 (v3 + 2)).toNat).toInt) μ).bind fun r83 =>
  chk (KD v2 = 11) (
  (fX11_height v2 ((xs (w32 (v3 + 1)).toNat).toInt) ((xs (w32 (v3 + 2)).toNat).toInt) μ).bind fun r85 =>
  if r83 = r85 then
    some (.inl (w32 (v3 + 9), μ), 0, 0)
  else
    none))))
def jL_law_1041 (Ls : Nat) (xs : Nat → Int32) (v1 v2 v3 : Int) (μ : Mm) : Option (((Int × Mm) ⊕ Mm) × Nat × Nat) :=
  chk (0 ≤ w32 (v3 + 1) ∧ w32 (v3 + 1) < (Ls : Int)) (
  chk (0 ≤ w32 (v3 + 2) ∧ w32 (v3 + 2) < (Ls : Int)) (
  chk (KD v1 = 10) (
  (fX10_doubt v1 ((xs (w32 (v3 + 1)).toNat).toInt) ((xs (w32 (v3 + 2)).toNat).toInt) μ).bind fun ((r90, μ90), c90, n90) =>
  pay c90 n90 (
  chk (KD v2 = 11) (
  (fX11_doubt v2 ((xs (w32 (v3 + 1)).toNat).toInt) ((xs (w32 (v3 + 2)).toNat).toInt) μ90).bind fun (r93, μ93) =>
  if r90 = r93 then
    some (.inl (w32 (v3 + 9), μ93), 0, 0)
  else
    none)))))
def jL_law_310 (Ls : Nat) (xs : Nat → Int32) (v1 v2 v3 : Int) (μ : Mm) : Option (((Int × Mm) ⊕ Mm) × Nat × Nat) :=
  chk (0 ≤ w32 (v3 + 1) ∧ w32 (v3 + 1) < (Ls : Int)) (
  chk (0 ≤ w32 (v3 + 2) ∧ w32 (v3 + 2) < (Ls : Int)) (
  chk (KD v1 = 10) (
  (fX10_text v1 ((xs (w32 (v3 + 1)).toNat).toInt) ((xs (w32 (v3 + 2)).toNat).toInt) μ).bind fun (r98, μ98) =>
  chk (KD v2 = 11) (
  (fX11_text v2 ((xs (w32 (v3 + 1)).toNat).toInt) ((xs (w32 (v3 + 2)).toNat).toInt) μ98).bind fun (r100, μ100) =>
  if r98 = r100 then
    some (.inl (w32 (v3 + 9), μ100), 0, 0)
  else
    none))))
def jL_law_2113 (Ls : Nat) (xs : Nat → Int32) (v1 v2 v3 : Int) (μ : Mm) : Option (((Int × Mm) ⊕ Mm) × Nat × Nat) :=
  chk (0 ≤ w32 (v3 + 1) ∧ w32 (v3 + 1) < (Ls : Int)) (
  chk (0 ≤ w32 (v3 + 2) ∧ w32 (v3 + 2) < (Ls : Int)) (
  chk (KD v1 = 10) (
  (fX10_proud v1 ((xs (w32 (v3 + 1)).toNat).toInt) ((xs (w32 (v3 + 2)).toNat).toInt) μ).bind fun (r105, μ105) =>
  chk (KD v2 = 11) (
  (fX11_proud v2 ((xs (w32 (v3 + 1)).toNat).toInt) ((xs (w32 (v3 + 2)).toNat).toInt) μ105).bind fun (r107, μ107) =>
  if r105 = r107 then
    some (.inl (w32 (v3 + 9), μ107), 0, 0)
  else
    none))))
def jL_law_1355 (Ls : Nat) (xs : Nat → Int32) (v1 v2 v3 : Int) (μ : Mm) : Option (((Int × Mm) ⊕ Mm) × Nat × Nat) :=
  chk (0 ≤ w32 (v3 + 1) ∧ w32 (v3 + 1) < (Ls : Int)) (
  chk (0 ≤ w32 (v3 + 2) ∧ w32 (v3 + 2) < (Ls : Int)) (
  chk (KD v1 = 10) (
  (fX10_known v1 ((xs (w32 (v3 + 1)).toNat).toInt) ((xs (w32 (v3 + 2)).toNat).toInt) μ).bind fun ((r112, μ112), c112, n112) =>
  pay c112 n112 (
  chk (KD v2 = 11) (
  (fX11_known v2 ((xs (w32 (v3 + 1)).toNat).toInt) ((xs (w32 (v3 + 2)).toNat).toInt) μ112).bind fun (r115, μ115) =>
  if r112 = r115 then
    some (.inl (w32 (v3 + 9), μ115), 0, 0)
  else
    none)))))
def jL_law_475 (Ls : Nat) (xs : Nat → Int32) (v1 v2 v3 : Int) (μ : Mm) : Option (((Int × Mm) ⊕ Mm) × Nat × Nat) :=
  chk (0 ≤ w32 (v3 + 1) ∧ w32 (v3 + 1) < (Ls : Int)) (
  chk (0 ≤ w32 (v3 + 2) ∧ w32 (v3 + 2) < (Ls : Int)) (
  chk (KD v1 = 10) (
  (fX10_sketch v1 ((xs (w32 (v3 + 1)).toNat).toInt) ((xs (w32 (v3 + 2)).toNat).toInt) μ).bind fun r120 =>
  chk (KD v2 = 11) (
  (fX11_sketch v2 ((xs (w32 (v3 + 1)).toNat).toInt) ((xs (w32 (v3 + 2)).toNat).toInt) μ).bind fun r122 =>
  if r120 = r122 then
    some (.inl (w32 (v3 + 9), μ), 0, 0)
  else
    none))))
def jL_law_2027 (Ls : Nat) (xs : Nat → Int32) (v1 v2 v3 : Int) (μ : Mm) : Option (((Int × Mm) ⊕ Mm) × Nat × Nat) :=
  chk (0 ≤ w32 (v3 + 1) ∧ w32 (v3 + 1) < (Ls : Int)) (
  chk (0 ≤ w32 (v3 + 2) ∧ w32 (v3 + 2) < (Ls : Int)) (
  chk (KD v1 = 10) (
  (fX10_guards v1 ((xs (w32 (v3 + 1)).toNat).toInt) ((xs (w32 (v3 + 2)).toNat).toInt) μ).bind fun ((r127, μ127), c127, n127) =>
  pay c127 n127 (
  chk (KD v2 = 11) (
  (fX11_guards v2 ((xs (w32 (v3 + 1)).toNat).toInt) ((xs (w32 (v3 + 2)).toNat).toInt) μ127).bind fun (r130, μ130) =>
  if r127 = r130 then
    some (.inl (w32 (v3 + 9), μ130), 0, 0)
  else
    none)))))
def jL_law_1388 (Ls : Nat) (xs : Nat → Int32) (v1 v2 v3 : Int) (μ : Mm) : Option (((Int × Mm) ⊕ Mm) × Nat × Nat) :=
  chk (0 ≤ w32 (v3 + 1) ∧ w32 (v3 + 1) < (Ls : Int)) (
  chk (0 ≤ w32 (v3 + 2) ∧ w32 (v3 + 2) < (Ls : Int)) (
  chk (KD v1 = 10) (
  (fX10_sees v1 ((xs (w32 (v3 + 1)).toNat).toInt) ((xs (w32 (v3 + 2)).toNat).toInt) μ).bind fun ((r135, μ135), c135, n135) =>
  pay c135 n135 (
  chk (KD v2 = 11) (
  (fX11_sees v2 ((xs (w32 (v3 + 1)).toNat).toInt) ((xs (w32 (v3 + 2)).toNat).toInt) μ135).bind fun r138 =>
  if r135 = r138 then
    some (.inl (w32 (v3 + 9), μ135), 0, 0)
  else
    none)))))
def jL_law_366 (Ls : Nat) (xs : Nat → Int32) (v1 v2 v3 : Int) (μ : Mm) : Option (((Int × Mm) ⊕ Mm) × Nat × Nat) :=
  chk (0 ≤ w32 (v3 + 1) ∧ w32 (v3 + 1) < (Ls : Int)) (
  chk (0 ≤ w32 (v3 + 2) ∧ w32 (v3 + 2) < (Ls : Int)) (
  chk (KD v1 = 10) (
  (fX10_land v1 ((xs (w32 (v3 + 1)).toNat).toInt) ((xs (w32 (v3 + 2)).toNat).toInt) μ).bind fun r143 =>
  chk (KD v2 = 11) (
  (fX11_land v2 ((xs (w32 (v3 + 1)).toNat).toInt) ((xs (w32 (v3 + 2)).toNat).toInt) μ).bind fun r145 =>
  if r143 = r145 then
    some (.inl (w32 (v3 + 9), μ), 0, 0)
  else
    none))))
def jL_law_551 (Ls : Nat) (xs : Nat → Int32) (v1 v2 v3 : Int) (μ : Mm) : Option (((Int × Mm) ⊕ Mm) × Nat × Nat) :=
  chk (0 ≤ w32 (v3 + 1) ∧ w32 (v3 + 1) < (Ls : Int)) (
  chk (0 ≤ w32 (v3 + 2) ∧ w32 (v3 + 2) < (Ls : Int)) (
  chk (0 ≤ w32 (v3 + 3) ∧ w32 (v3 + 3) < (Ls : Int)) (
  chk (KD v1 = 10) (
  (fX10_seen v1 ((xs (w32 (v3 + 1)).toNat).toInt) ((xs (w32 (v3 + 2)).toNat).toInt) ((xs (w32 (v3 + 3)).toNat).toInt) μ).bind fun ((r151, μ151), c151, n151) =>
  pay c151 n151 (
  chk (KD v2 = 11) (
  (fX11_seen v2 ((xs (w32 (v3 + 1)).toNat).toInt) ((xs (w32 (v3 + 2)).toNat).toInt) ((xs (w32 (v3 + 3)).toNat).toInt) μ151).bind fun r154 =>
  if r151 = r154 then
    some (.inl (w32 (v3 + 9), μ151), 0, 0)
  else
    none))))))
def jL_law_1961 (Ls : Nat) (xs : Nat → Int32) (v1 v2 v3 : Int) (μ : Mm) : Option (((Int × Mm) ⊕ Mm) × Nat × Nat) :=
  chk (0 ≤ w32 (v3 + 1) ∧ w32 (v3 + 1) < (Ls : Int)) (
  chk (0 ≤ w32 (v3 + 2) ∧ w32 (v3 + 2) < (Ls : Int)) (
  chk (0 ≤ w32 (v3 + 3) ∧ w32 (v3 + 3) < (Ls : Int)) (
  chk (KD v1 = 10) (
  (fX10_differs v1 ((xs (w32 (v3 + 1)).toNat).toInt) ((xs (w32 (v3 + 2)).toNat).toInt) ((xs (w32 (v3 + 3)).toNat).toInt) μ).bind fun ((r160, μ160), c160, n160) =>
  pay c160 n160 (
  chk (KD v2 = 11) (
  (fX11_differs v2 ((xs (w32 (v3 + 1)).toNat).toInt) ((xs (w32 (v3 + 2)).toNat).toInt) ((xs (w32 (v3 + 3)).toNat).toInt) μ160).bind fun (r163, μ163) =>
  if r160 = r163 then
    some (.inl (w32 (v3 + 9), μ163), 0, 0)
  else
    none))))))
def jL_law_432 (Ls : Nat) (xs : Nat → Int32) (v1 v2 v3 : Int) (μ : Mm) : Option (((Int × Mm) ⊕ Mm) × Nat × Nat) :=
  chk (0 ≤ w32 (v3 + 1) ∧ w32 (v3 + 1) < (Ls : Int)) (
  chk (0 ≤ w32 (v3 + 2) ∧ w32 (v3 + 2) < (Ls : Int)) (
  chk (0 ≤ w32 (v3 + 3) ∧ w32 (v3 + 3) < (Ls : Int)) (
  chk (KD v1 = 10) (
  (fX10_mend v1 ((xs (w32 (v3 + 1)).toNat).toInt) ((xs (w32 (v3 + 2)).toNat).toInt) ((xs (w32 (v3 + 3)).toNat).toInt) μ).bind fun (r169, μ169) =>
  chk (KD v2 = 11) (
  (fX11_mend v2 ((xs (w32 (v3 + 1)).toNat).toInt) ((xs (w32 (v3 + 2)).toNat).toInt) ((xs (w32 (v3 + 3)).toNat).toInt) μ169).bind fun (r171, μ171) =>
  if r169 = r171 then
    some (.inl (w32 (v3 + 9), μ171), 0, 0)
  else
    none)))))
def jL_law_955 (Ls : Nat) (xs : Nat → Int32) (v1 v2 v3 : Int) (μ : Mm) : Option (((Int × Mm) ⊕ Mm) × Nat × Nat) :=
  chk (0 ≤ w32 (v3 + 1) ∧ w32 (v3 + 1) < (Ls : Int)) (
  chk (0 ≤ w32 (v3 + 2) ∧ w32 (v3 + 2) < (Ls : Int)) (
  chk (0 ≤ w32 (v3 + 3) ∧ w32 (v3 + 3) < (Ls : Int)) (
  chk (KD v1 = 10) (
  (fX10_sure v1 ((xs (w32 (v3 + 1)).toNat).toInt) ((xs (w32 (v3 + 2)).toNat).toInt) ((xs (w32 (v3 + 3)).toNat).toInt) μ).bind fun ((r177, μ177), c177, n177) =>
  pay c177 n177 (
  chk (KD v2 = 11) (
  (fX11_sure v2 ((xs (w32 (v3 + 1)).toNat).toInt) ((xs (w32 (v3 + 2)).toNat).toInt) ((xs (w32 (v3 + 3)).toNat).toInt) μ177).bind fun (r180, μ180) =>
  if r177 = r180 then
    some (.inl (w32 (v3 + 9), μ180), 0, 0)
  else
    none))))))
def jL_law_594 (Ls : Nat) (xs : Nat → Int32) (v1 v2 v3 : Int) (μ : Mm) : Option (((Int × Mm) ⊕ Mm) × Nat × Nat) :=
  chk (0 ≤ w32 (v3 + 1) ∧ w32 (v3 + 1) < (Ls : Int)) (
  chk (0 ≤ w32 (v3 + 2) ∧ w32 (v3 + 2) < (Ls : Int)) (
  chk (0 ≤ w32 (v3 + 3) ∧ w32 (v3 + 3) < (Ls : Int)) (
  chk (KD v1 = 10) (
  (fX10_ray v1 ((xs (w32 (v3 + 1)).toNat).toInt) ((xs (w32 (v3 + 2)).toNat).toInt) ((xs (w32 (v3 + 3)).toNat).toInt) μ).bind fun ((r186, μ186), c186, n186) =>
  pay c186 n186 (
  chk (KD v2 = 11) (
  (fX11_ray v2 ((xs (w32 (v3 + 1)).toNat).toInt) ((xs (w32 (v3 + 2)).toNat).toInt) ((xs (w32 (v3 + 3)).toNat).toInt) μ186).bind fun (r189, μ189) =>
  if r186 = r189 then
    some (.inl (w32 (v3 + 9), μ189), 0, 0)
  else
    none))))))
def jL_law_1497 (Ls : Nat) (xs : Nat → Int32) (v1 v2 v3 : Int) (μ : Mm) : Option (((Int × Mm) ⊕ Mm) × Nat × Nat) :=
  chk (0 ≤ w32 (v3 + 1) ∧ w32 (v3 + 1) < (Ls : Int)) (
  chk (0 ≤ w32 (v3 + 2) ∧ w32 (v3 + 2) < (Ls : Int)) (
  chk (0 ≤ w32 (v3 + 3) ∧ w32 (v3 + 3) < (Ls : Int)) (
  chk (KD v1 = 10) (
  (fX10_shift v1 ((xs (w32 (v3 + 1)).toNat).toInt) ((xs (w32 (v3 + 2)).toNat).toInt) ((xs (w32 (v3 + 3)).toNat).toInt) μ).bind fun ((r195, μ195), c195, n195) =>
  pay c195 n195 (
  chk (KD v2 = 11) (
  (fX11_shift v2 ((xs (w32 (v3 + 1)).toNat).toInt) ((xs (w32 (v3 + 2)).toNat).toInt) ((xs (w32 (v3 + 3)).toNat).toInt) μ195).bind fun (r198, μ198) =>
  if r195 = r198 then
    some (.inl (w32 (v3 + 9), μ198), 0, 0)
  else
    none))))))
def jL_law_998 (Ls : Nat) (xs : Nat → Int32) (v1 v2 v3 : Int) (μ : Mm) : Option (((Int × Mm) ⊕ Mm) × Nat × Nat) :=
  chk (0 ≤ w32 (v3 + 1) ∧ w32 (v3 + 1) < (Ls : Int)) (
  chk (0 ≤ w32 (v3 + 2) ∧ w32 (v3 + 2) < (Ls : Int)) (
  chk (0 ≤ w32 (v3 + 3) ∧ w32 (v3 + 3) < (Ls : Int)) (
  chk (KD v1 = 10) (
  (fX10_bars v1 ((xs (w32 (v3 + 1)).toNat).toInt) ((xs (w32 (v3 + 2)).toNat).toInt) ((xs (w32 (v3 + 3)).toNat).toInt) μ).bind fun ((r204, μ204), c204, n204) =>
  pay c204 n204 (
  chk (KD v2 = 11) (
  (fX11_bars v2 ((xs (w32 (v3 + 1)).toNat).toInt) ((xs (w32 (v3 + 2)).toNat).toInt) ((xs (w32 (v3 + 3)).toNat).toInt) μ204).bind fun (r207, μ207) =>
  if r204 = r207 then
    some (.inl (w32 (v3 + 9), μ207), 0, 0)
  else
    none))))))
def jL_law_508 (Ls : Nat) (xs : Nat → Int32) (v1 v2 v3 : Int) (μ : Mm) : Option (((Int × Mm) ⊕ Mm) × Nat × Nat) :=
  chk (0 ≤ w32 (v3 + 1) ∧ w32 (v3 + 1) < (Ls : Int)) (
  chk (0 ≤ w32 (v3 + 2) ∧ w32 (v3 + 2) < (Ls : Int)) (
  chk (0 ≤ w32 (v3 + 3) ∧ w32 (v3 + 3) < (Ls : Int)) (
  chk (KD v1 = 10) (
  (fX10_rise v1 ((xs (w32 (v3 + 1)).toNat).toInt) ((xs (w32 (v3 + 2)).toNat).toInt) ((xs (w32 (v3 + 3)).toNat).toInt) μ).bind fun r213 =>
  chk (KD v2 = 11) (
  (fX11_rise v2 ((xs (w32 (v3 + 1)).toNat).toInt) ((xs (w32 (v3 + 2)).toNat).toInt) ((xs (w32 (v3 + 3)).toNat).toInt) μ).bind fun r215 =>
  if r213 = r215 then
    some (.inl (w32 (v3 + 9), μ), 0, 0)
  else
    none)))))
def jL_law_637 (Ls : Nat) (xs : Nat → Int32) (v1 v2 v3 : Int) (μ : Mm) : Option (((Int × Mm) ⊕ Mm) × Nat × Nat) :=
  chk (0 ≤ w32 (v3 + 1) ∧ w32 (v3 + 1) < (Ls : Int)) (
  chk (0 ≤ w32 (v3 + 2) ∧ w32 (v3 + 2) < (Ls : Int)) (
  chk (0 ≤ w32 (v3 + 3) ∧ w32 (v3 + 3) < (Ls : Int)) (
  chk (KD v1 = 10) (
  (fX10_hump v1 ((xs (w32 (v3 + 1)).toNat).toInt) ((xs (w32 (v3 + 2)).toNat).toInt) ((xs (w32 (v3 + 3)).toNat).toInt) μ).bind fun ((r221, μ221), c221, n221) =>
  pay c221 n221 (
  chk (KD v2 = 11) (
  (fX11_hump v2 ((xs (w32 (v3 + 1)).toNat).toInt) ((xs (w32 (v3 + 2)).toNat).toInt) ((xs (w32 (v3 + 3)).toNat).toInt) μ221).bind fun (r224, μ224) =>
  if r221 = r224 then
    some (.inl (w32 (v3 + 9), μ224), 0, 0)
  else
    none))))))
def jL_law_1588 (Ls : Nat) (xs : Nat → Int32) (v1 v2 v3 s0 s1 s2 s3 s4 s5 s6 : Int) (μ : Mm) : Option (((Int × Mm) ⊕ Mm) × Nat × Nat) :=
  chk (KD s6 = 10) (
  (fX10_stretch s6 s5 s4 s3 s2 s1 s0 μ).bind fun ((r227, μ227), c227, n227) =>
  pay c227 n227 (
  chk (0 ≤ w32 (v3 + 1) ∧ w32 (v3 + 1) < (Ls : Int)) (
  chk (0 ≤ w32 (v3 + 2) ∧ w32 (v3 + 2) < (Ls : Int)) (
  chk (0 ≤ w32 (v3 + 3) ∧ w32 (v3 + 3) < (Ls : Int)) (
  chk (0 ≤ w32 (v3 + 4) ∧ w32 (v3 + 4) < (Ls : Int)) (
  chk (0 ≤ w32 (v3 + 5) ∧ w32 (v3 + 5) < (Ls : Int)) (
  if (xs (w32 (v3 + 5)).toNat).toInt = 0 then
    jL_law_1625 Ls xs v1 v2 v3 0 ((xs (w32 (v3 + 4)).toNat).toInt) ((xs (w32 (v3 + 3)).toNat).toInt) ((xs (w32 (v3 + 2)).toNat).toInt) ((xs (w32 (v3 + 1)).toNat).toInt) v2 r227 μ227
  else
    jL_law_1625 Ls xs v1 v2 v3 1 ((xs (w32 (v3 + 4)).toNat).toInt) ((xs (w32 (v3 + 3)).toNat).toInt) ((xs (w32 (v3 + 2)).toNat).toInt) ((xs (w32 (v3 + 1)).toNat).toInt) v2 r227 μ227)))))))
def jL_law_1700 (Ls : Nat) (xs : Nat → Int32) (v1 v2 v3 : Int) (μ : Mm) : Option (((Int × Mm) ⊕ Mm) × Nat × Nat) :=
  chk (0 ≤ w32 (v3 + 1) ∧ w32 (v3 + 1) < (Ls : Int)) (
  chk (0 ≤ w32 (v3 + 2) ∧ w32 (v3 + 2) < (Ls : Int)) (
  chk (0 ≤ w32 (v3 + 3) ∧ w32 (v3 + 3) < (Ls : Int)) (
  if (xs (w32 (v3 + 3)).toNat).toInt = 0 then
    jL_law_1724 Ls xs v1 v2 v3 0 ((xs (w32 (v3 + 2)).toNat).toInt) ((xs (w32 (v3 + 1)).toNat).toInt) v1 μ
  else
    jL_law_1724 Ls xs v1 v2 v3 1 ((xs (w32 (v3 + 2)).toNat).toInt) ((xs (w32 (v3 + 1)).toNat).toInt) v1 μ)))
def jL_law_1074 (Ls : Nat) (xs : Nat → Int32) (v1 v2 v3 : Int) (μ : Mm) : Option (((Int × Mm) ⊕ Mm) × Nat × Nat) :=
  chk (0 ≤ w32 (v3 + 1) ∧ w32 (v3 + 1) < (Ls : Int)) (
  chk (0 ≤ w32 (v3 + 2) ∧ w32 (v3 + 2) < (Ls : Int)) (
  chk (0 ≤ w32 (v3 + 3) ∧ w32 (v3 + 3) < (Ls : Int)) (
  if (xs (w32 (v3 + 3)).toNat).toInt = 0 then
    jL_law_1098 Ls xs v1 v2 v3 0 ((xs (w32 (v3 + 2)).toNat).toInt) ((xs (w32 (v3 + 1)).toNat).toInt) v1 μ
  else
    jL_law_1098 Ls xs v1 v2 v3 1 ((xs (w32 (v3 + 2)).toNat).toInt) ((xs (w32 (v3 + 1)).toNat).toInt) v1 μ)))
def jL_law_902 (Ls : Nat) (xs : Nat → Int32) (v1 v2 v3 : Int) (μ : Mm) : Option (((Int × Mm) ⊕ Mm) × Nat × Nat) :=
  chk (0 ≤ w32 (v3 + 1) ∧ w32 (v3 + 1) < (Ls : Int)) (
  chk (0 ≤ w32 (v3 + 2) ∧ w32 (v3 + 2) < (Ls : Int)) (
  chk (0 ≤ w32 (v3 + 3) ∧ w32 (v3 + 3) < (Ls : Int)) (
  chk (0 ≤ w32 (v3 + 4) ∧ w32 (v3 + 4) < (Ls : Int)) (
  chk (KD v1 = 10) (
  (fX10_hills v1 ((xs (w32 (v3 + 1)).toNat).toInt) ((xs (w32 (v3 + 2)).toNat).toInt) ((xs (w32 (v3 + 3)).toNat).toInt) ((xs (w32 (v3 + 4)).toNat).toInt) μ).bind fun ((r248, μ248), c248, n248) =>
  pay c248 n248 (
  chk (KD v2 = 11) (
  (fX11_hills v2 ((xs (w32 (v3 + 1)).toNat).toInt) ((xs (w32 (v3 + 2)).toNat).toInt) ((xs (w32 (v3 + 3)).toNat).toInt) ((xs (w32 (v3 + 4)).toNat).toInt) μ248).bind fun (r251, μ251) =>
  if r248 = r251 then
    some (.inl (w32 (v3 + 9), μ251), 0, 0)
  else
    none)))))))
def jL_law_2060 (Ls : Nat) (xs : Nat → Int32) (v1 v2 v3 : Int) (μ : Mm) : Option (((Int × Mm) ⊕ Mm) × Nat × Nat) :=
  chk (0 ≤ w32 (v3 + 1) ∧ w32 (v3 + 1) < (Ls : Int)) (
  chk (0 ≤ w32 (v3 + 2) ∧ w32 (v3 + 2) < (Ls : Int)) (
  chk (0 ≤ w32 (v3 + 3) ∧ w32 (v3 + 3) < (Ls : Int)) (
  chk (0 ≤ w32 (v3 + 4) ∧ w32 (v3 + 4) < (Ls : Int)) (
  chk (KD v1 = 10) (
  (fX10_sneak v1 ((xs (w32 (v3 + 1)).toNat).toInt) ((xs (w32 (v3 + 2)).toNat).toInt) ((xs (w32 (v3 + 3)).toNat).toInt) ((xs (w32 (v3 + 4)).toNat).toInt) μ).bind fun ((r258, μ258), c258, n258) =>
  pay c258 n258 (
  chk (KD v2 = 11) (
  (fX11_sneak v2 ((xs (w32 (v3 + 1)).toNat).toInt) ((xs (w32 (v3 + 2)).toNat).toInt) ((xs (w32 (v3 + 3)).toNat).toInt) ((xs (w32 (v3 + 4)).toNat).toInt) μ258).bind fun (r261, μ261) =>
  if r258 = r261 then
    some (.inl (w32 (v3 + 9), μ261), 0, 0)
  else
    none)))))))
def jL_law_1302 (Ls : Nat) (xs : Nat → Int32) (v1 v2 v3 : Int) (μ : Mm) : Option (((Int × Mm) ⊕ Mm) × Nat × Nat) :=
  chk (0 ≤ w32 (v3 + 1) ∧ w32 (v3 + 1) < (Ls : Int)) (
  chk (0 ≤ w32 (v3 + 2) ∧ w32 (v3 + 2) < (Ls : Int)) (
  chk (0 ≤ w32 (v3 + 3) ∧ w32 (v3 + 3) < (Ls : Int)) (
  chk (0 ≤ w32 (v3 + 4) ∧ w32 (v3 + 4) < (Ls : Int)) (
  chk (KD v1 = 10) (
  (fX10_rivals v1 ((xs (w32 (v3 + 1)).toNat).toInt) ((xs (w32 (v3 + 2)).toNat).toInt) ((xs (w32 (v3 + 3)).toNat).toInt) ((xs (w32 (v3 + 4)).toNat).toInt) μ).bind fun ((r268, μ268), c268, n268) =>
  pay c268 n268 (
  chk (KD v2 = 11) (
  (fX11_rivals v2 ((xs (w32 (v3 + 1)).toNat).toInt) ((xs (w32 (v3 + 2)).toNat).toInt) ((xs (w32 (v3 + 3)).toNat).toInt) ((xs (w32 (v3 + 4)).toNat).toInt) μ268).bind fun (r271, μ271) =>
  if r268 = r271 then
    some (.inl (w32 (v3 + 9), μ271), 0, 0)
  else
    none)))))))
def jL_law_796 (Ls : Nat) (xs : Nat → Int32) (v1 v2 v3 : Int) (μ : Mm) : Option (((Int × Mm) ⊕ Mm) × Nat × Nat) :=
  chk (0 ≤ w32 (v3 + 1) ∧ w32 (v3 + 1) < (Ls : Int)) (
  chk (0 ≤ w32 (v3 + 2) ∧ w32 (v3 + 2) < (Ls : Int)) (
  chk (0 ≤ w32 (v3 + 3) ∧ w32 (v3 + 3) < (Ls : Int)) (
  chk (0 ≤ w32 (v3 + 4) ∧ w32 (v3 + 4) < (Ls : Int)) (
  chk (KD v1 = 10) (
  (fX10_fits v1 ((xs (w32 (v3 + 1)).toNat).toInt) ((xs (w32 (v3 + 2)).toNat).toInt) ((xs (w32 (v3 + 3)).toNat).toInt) ((xs (w32 (v3 + 4)).toNat).toInt) μ).bind fun ((r278, μ278), c278, n278) =>
  pay c278 n278 (
  chk (KD v2 = 11) (
  (fX11_fits v2 ((xs (w32 (v3 + 1)).toNat).toInt) ((xs (w32 (v3 + 2)).toNat).toInt) ((xs (w32 (v3 + 3)).toNat).toInt) ((xs (w32 (v3 + 4)).toNat).toInt) μ278).bind fun (r281, μ281) =>
  if r278 = r281 then
    some (.inl (w32 (v3 + 9), μ281), 0, 0)
  else
    none)))))))
def jL_law_1186 (Ls : Nat) (xs : Nat → Int32) (v1 v2 v3 : Int) (μ : Mm) : Option (((Int × Mm) ⊕ Mm) × Nat × Nat) :=
  chk (0 ≤ w32 (v3 + 1) ∧ w32 (v3 + 1) < (Ls : Int)) (
  chk (0 ≤ w32 (v3 + 2) ∧ w32 (v3 + 2) < (Ls : Int)) (
  chk (0 ≤ w32 (v3 + 3) ∧ w32 (v3 + 3) < (Ls : Int)) (
  chk (0 ≤ w32 (v3 + 4) ∧ w32 (v3 + 4) < (Ls : Int)) (
  chk (KD v1 = 10) (
  (fX10_way v1 ((xs (w32 (v3 + 1)).toNat).toInt) ((xs (w32 (v3 + 2)).toNat).toInt) ((xs (w32 (v3 + 3)).toNat).toInt) ((xs (w32 (v3 + 4)).toNat).toInt) μ).bind fun ((r288, μ288), c288, n288) =>
  pay c288 n288 (
  chk (KD v2 = 11) (
  (fX11_way v2 ((xs (w32 (v3 + 1)).toNat).toInt) ((xs (w32 (v3 + 2)).toNat).toInt) ((xs (w32 (v3 + 3)).toNat).toInt) ((xs (w32 (v3 + 4)).toNat).toInt) μ288).bind fun (r291, μ291) =>
  if r288 = r291 then
    some (.inl (w32 (v3 + 9), μ291), 0, 0)
  else
    none)))))))
def jL_law_1444 (Ls : Nat) (xs : Nat → Int32) (v1 v2 v3 : Int) (μ : Mm) : Option (((Int × Mm) ⊕ Mm) × Nat × Nat) :=
  chk (0 ≤ w32 (v3 + 1) ∧ w32 (v3 + 1) < (Ls : Int)) (
  chk (0 ≤ w32 (v3 + 2) ∧ w32 (v3 + 2) < (Ls : Int)) (
  chk (0 ≤ w32 (v3 + 3) ∧ w32 (v3 + 3) < (Ls : Int)) (
  chk (0 ≤ w32 (v3 + 4) ∧ w32 (v3 + 4) < (Ls : Int)) (
  chk (KD v1 = 10) (
  (fX10_lacks v1 ((xs (w32 (v3 + 1)).toNat).toInt) ((xs (w32 (v3 + 2)).toNat).toInt) ((xs (w32 (v3 + 3)).toNat).toInt) ((xs (w32 (v3 + 4)).toNat).toInt) μ).bind fun (r298, μ298) =>
  chk (KD v2 = 11) (
  (fX11_lacks v2 ((xs (w32 (v3 + 1)).toNat).toInt) ((xs (w32 (v3 + 2)).toNat).toInt) ((xs (w32 (v3 + 3)).toNat).toInt) ((xs (w32 (v3 + 4)).toNat).toInt) μ298).bind fun (r300, μ300) =>
  if r298 = r300 then
    some (.inl (w32 (v3 + 9), μ300), 0, 0)
  else
    none))))))
def jL_law_680 (Ls : Nat) (xs : Nat → Int32) (v1 v2 v3 : Int) (μ : Mm) : Option (((Int × Mm) ⊕ Mm) × Nat × Nat) :=
  chk (0 ≤ w32 (v3 + 1) ∧ w32 (v3 + 1) < (Ls : Int)) (
  chk (0 ≤ w32 (v3 + 2) ∧ w32 (v3 + 2) < (Ls : Int)) (
  chk (0 ≤ w32 (v3 + 3) ∧ w32 (v3 + 3) < (Ls : Int)) (
  chk (0 ≤ w32 (v3 + 4) ∧ w32 (v3 + 4) < (Ls : Int)) (
  chk (KD v1 = 10) (
  (fX10_steeper v1 ((xs (w32 (v3 + 1)).toNat).toInt) ((xs (w32 (v3 + 2)).toNat).toInt) ((xs (w32 (v3 + 3)).toNat).toInt) ((xs (w32 (v3 + 4)).toNat).toInt) μ).bind fun ((r307, μ307), c307, n307) =>
  pay c307 n307 (
  chk (KD v2 = 11) (
  (fX11_steeper v2 ((xs (w32 (v3 + 1)).toNat).toInt) ((xs (w32 (v3 + 2)).toNat).toInt) ((xs (w32 (v3 + 3)).toNat).toInt) ((xs (w32 (v3 + 4)).toNat).toInt) μ307).bind fun (r310, μ310) =>
  if r307 = r310 then
    some (.inl (w32 (v3 + 9), μ310), 0, 0)
  else
    none)))))))
def jL_law_849 (Ls : Nat) (xs : Nat → Int32) (v1 v2 v3 : Int) (μ : Mm) : Option (((Int × Mm) ⊕ Mm) × Nat × Nat) :=
  chk (0 ≤ w32 (v3 + 1) ∧ w32 (v3 + 1) < (Ls : Int)) (
  chk (0 ≤ w32 (v3 + 2) ∧ w32 (v3 + 2) < (Ls : Int)) (
  chk (0 ≤ w32 (v3 + 3) ∧ w32 (v3 + 3) < (Ls : Int)) (
  chk (0 ≤ w32 (v3 + 4) ∧ w32 (v3 + 4) < (Ls : Int)) (
  chk (KD v1 = 10) (
  (fX10_where v1 ((xs (w32 (v3 + 1)).toNat).toInt) ((xs (w32 (v3 + 2)).toNat).toInt) ((xs (w32 (v3 + 3)).toNat).toInt) ((xs (w32 (v3 + 4)).toNat).toInt) μ).bind fun ((r317, μ317), c317, n317) =>
  pay c317 n317 (
  chk (KD v2 = 11) (
  (fX11_where v2 ((xs (w32 (v3 + 1)).toNat).toInt) ((xs (w32 (v3 + 2)).toNat).toInt) ((xs (w32 (v3 + 3)).toNat).toInt) ((xs (w32 (v3 + 4)).toNat).toInt) μ317).bind fun (r320, μ320) =>
  if r317 = r320 then
    some (.inl (w32 (v3 + 9), μ320), 0, 0)
  else
    none)))))))
def jL_law_1133 (Ls : Nat) (xs : Nat → Int32) (v1 v2 v3 : Int) (μ : Mm) : Option (((Int × Mm) ⊕ Mm) × Nat × Nat) :=
  chk (0 ≤ w32 (v3 + 1) ∧ w32 (v3 + 1) < (Ls : Int)) (
  chk (0 ≤ w32 (v3 + 2) ∧ w32 (v3 + 2) < (Ls : Int)) (
  chk (0 ≤ w32 (v3 + 3) ∧ w32 (v3 + 3) < (Ls : Int)) (
  chk (0 ≤ w32 (v3 + 4) ∧ w32 (v3 + 4) < (Ls : Int)) (
  chk (KD v1 = 10) (
  (fX10_pairs v1 ((xs (w32 (v3 + 1)).toNat).toInt) ((xs (w32 (v3 + 2)).toNat).toInt) ((xs (w32 (v3 + 3)).toNat).toInt) ((xs (w32 (v3 + 4)).toNat).toInt) μ).bind fun ((r327, μ327), c327, n327) =>
  pay c327 n327 (
  chk (KD v2 = 11) (
  (fX11_pairs v2 ((xs (w32 (v3 + 1)).toNat).toInt) ((xs (w32 (v3 + 2)).toNat).toInt) ((xs (w32 (v3 + 3)).toNat).toInt) ((xs (w32 (v3 + 4)).toNat).toInt) μ327).bind fun (r330, μ330) =>
  if r327 = r330 then
    some (.inl (w32 (v3 + 9), μ330), 0, 0)
  else
    none)))))))
def jL_law_1647 (Ls : Nat) (xs : Nat → Int32) (v1 v2 v3 : Int) (μ : Mm) : Option (((Int × Mm) ⊕ Mm) × Nat × Nat) :=
  chk (0 ≤ w32 (v3 + 1) ∧ w32 (v3 + 1) < (Ls : Int)) (
  chk (0 ≤ w32 (v3 + 2) ∧ w32 (v3 + 2) < (Ls : Int)) (
  chk (0 ≤ w32 (v3 + 3) ∧ w32 (v3 + 3) < (Ls : Int)) (
  chk (0 ≤ w32 (v3 + 4) ∧ w32 (v3 + 4) < (Ls : Int)) (
  chk (KD v1 = 10) (
  (fX10_wrong v1 ((xs (w32 (v3 + 1)).toNat).toInt) ((xs (w32 (v3 + 2)).toNat).toInt) ((xs (w32 (v3 + 3)).toNat).toInt) ((xs (w32 (v3 + 4)).toNat).toInt) μ).bind fun ((r337, μ337), c337, n337) =>
  pay c337 n337 (
  chk (KD v2 = 11) (
  (fX11_wrong v2 ((xs (w32 (v3 + 1)).toNat).toInt) ((xs (w32 (v3 + 2)).toNat).toInt) ((xs (w32 (v3 + 3)).toNat).toInt) ((xs (w32 (v3 + 4)).toNat).toInt) μ337).bind fun (r340, μ340) =>
  if r337 = r340 then
    some (.inl (w32 (v3 + 9), μ340), 0, 0)
  else
    none)))))))
def jL_law_1898 (Ls : Nat) (xs : Nat → Int32) (v1 v2 v3 s0 s1 s2 s3 s4 s5 s6 s7 s8 : Int) (μ : Mm) : Option (((Int × Mm) ⊕ Mm) × Nat × Nat) :=
  chk (KD s8 = 10) (
  (fX10_found s8 s7 s6 s5 s4 s3 s2 s1 s0 μ).bind fun ((r343, μ343), c343, n343) =>
  pay c343 n343 (
  chk (0 ≤ w32 (v3 + 1) ∧ w32 (v3 + 1) < (Ls : Int)) (
  chk (0 ≤ w32 (v3 + 2) ∧ w32 (v3 + 2) < (Ls : Int)) (
  chk (0 ≤ w32 (v3 + 3) ∧ w32 (v3 + 3) < (Ls : Int)) (
  chk (0 ≤ w32 (v3 + 4) ∧ w32 (v3 + 4) < (Ls : Int)) (
  chk (0 ≤ w32 (v3 + 5) ∧ w32 (v3 + 5) < (Ls : Int)) (
  chk (0 ≤ w32 (v3 + 6) ∧ w32 (v3 + 6) < (Ls : Int)) (
  chk (0 ≤ w32 (v3 + 7) ∧ w32 (v3 + 7) < (Ls : Int)) (
  chk (0 ≤ w32 (v3 + 8) ∧ w32 (v3 + 8) < (Ls : Int)) (
  if (xs (w32 (v3 + 8)).toNat).toInt = 0 then
    jL_law_1953 Ls xs v1 v2 v3 0 ((xs (w32 (v3 + 7)).toNat).toInt) ((xs (w32 (v3 + 6)).toNat).toInt) ((xs (w32 (v3 + 5)).toNat).toInt) ((xs (w32 (v3 + 4)).toNat).toInt) ((xs (w32 (v3 + 3)).toNat).toInt) ((xs (w32 (v3 + 2)).toNat).toInt) ((xs (w32 (v3 + 1)).toNat).toInt) v2 r343 μ343
  else
    jL_law_1953 Ls xs v1 v2 v3 1 ((xs (w32 (v3 + 7)).toNat).toInt) ((xs (w32 (v3 + 6)).toNat).toInt) ((xs (w32 (v3 + 5)).toNat).toInt) ((xs (w32 (v3 + 4)).toNat).toInt) ((xs (w32 (v3 + 3)).toNat).toInt) ((xs (w32 (v3 + 2)).toNat).toInt) ((xs (w32 (v3 + 1)).toNat).toInt) v2 r343 μ343))))))))))
def jL_law_1574 (Ls : Nat) (xs : Nat → Int32) (v1 v2 v3 s0 s1 s2 s3 s4 s5 : Int) (μ : Mm) : Option (((Int × Mm) ⊕ Mm) × Nat × Nat) :=
  chk (0 ≤ w32 (v3 + 6) ∧ w32 (v3 + 6) < (Ls : Int)) (
  if (xs (w32 (v3 + 6)).toNat).toInt = 0 then
    jL_law_1588 Ls xs v1 v2 v3 0 s0 s1 s2 s3 s4 s5 μ
  else
    jL_law_1588 Ls xs v1 v2 v3 1 s0 s1 s2 s3 s4 s5 μ)
def jL_law_1239 (Ls : Nat) (xs : Nat → Int32) (v1 v2 v3 : Int) (μ : Mm) : Option (((Int × Mm) ⊕ Mm) × Nat × Nat) :=
  chk (0 ≤ w32 (v3 + 1) ∧ w32 (v3 + 1) < (Ls : Int)) (
  chk (0 ≤ w32 (v3 + 2) ∧ w32 (v3 + 2) < (Ls : Int)) (
  chk (0 ≤ w32 (v3 + 3) ∧ w32 (v3 + 3) < (Ls : Int)) (
  chk (0 ≤ w32 (v3 + 4) ∧ w32 (v3 + 4) < (Ls : Int)) (
  chk (0 ≤ w32 (v3 + 5) ∧ w32 (v3 + 5) < (Ls : Int)) (
  chk (KD v1 = 10) (
  (fX10_draw v1 ((xs (w32 (v3 + 1)).toNat).toInt) ((xs (w32 (v3 + 2)).toNat).toInt) ((xs (w32 (v3 + 3)).toNat).toInt) ((xs (w32 (v3 + 4)).toNat).toInt) ((xs (w32 (v3 + 5)).toNat).toInt) μ).bind fun ((r362, μ362), c362, n362) =>
  pay c362 n362 (
  chk (KD v2 = 11) (
  (fX11_draw v2 ((xs (w32 (v3 + 1)).toNat).toInt) ((xs (w32 (v3 + 2)).toNat).toInt) ((xs (w32 (v3 + 3)).toNat).toInt) ((xs (w32 (v3 + 4)).toNat).toInt) ((xs (w32 (v3 + 5)).toNat).toInt) μ362).bind fun (r365, μ365) =>
  if r362 = r365 then
    some (.inl (w32 (v3 + 9), μ365), 0, 0)
  else
    none))))))))
def jL_law_733 (Ls : Nat) (xs : Nat → Int32) (v1 v2 v3 : Int) (μ : Mm) : Option (((Int × Mm) ⊕ Mm) × Nat × Nat) :=
  chk (0 ≤ w32 (v3 + 1) ∧ w32 (v3 + 1) < (Ls : Int)) (
  chk (0 ≤ w32 (v3 + 2) ∧ w32 (v3 + 2) < (Ls : Int)) (
  chk (0 ≤ w32 (v3 + 3) ∧ w32 (v3 + 3) < (Ls : Int)) (
  chk (0 ≤ w32 (v3 + 4) ∧ w32 (v3 + 4) < (Ls : Int)) (
  chk (0 ≤ w32 (v3 + 5) ∧ w32 (v3 + 5) < (Ls : Int)) (
  chk (KD v1 = 10) (
  (fX10_first v1 ((xs (w32 (v3 + 1)).toNat).toInt) ((xs (w32 (v3 + 2)).toNat).toInt) ((xs (w32 (v3 + 3)).toNat).toInt) ((xs (w32 (v3 + 4)).toNat).toInt) ((xs (w32 (v3 + 5)).toNat).toInt) μ).bind fun ((r373, μ373), c373, n373) =>
  pay c373 n373 (
  chk (KD v2 = 11) (
  (fX11_first v2 ((xs (w32 (v3 + 1)).toNat).toInt) ((xs (w32 (v3 + 2)).toNat).toInt) ((xs (w32 (v3 + 3)).toNat).toInt) ((xs (w32 (v3 + 4)).toNat).toInt) ((xs (w32 (v3 + 5)).toNat).toInt) μ373).bind fun (r376, μ376) =>
  if r373 = r376 then
    some (.inl (w32 (v3 + 9), μ376), 0, 0)
  else
    none))))))))
def jL_law_224 (Ls : Nat) (xs : Nat → Int32) (v1 v2 v3 : Int) (μ : Mm) : Option (((Int × Mm) ⊕ Mm) × Nat × Nat) :=
  chk (0 ≤ w32 (v3 + 1) ∧ w32 (v3 + 1) < (Ls : Int)) (
  chk (0 ≤ w32 (v3 + 2) ∧ w32 (v3 + 2) < (Ls : Int)) (
  chk (0 ≤ w32 (v3 + 3) ∧ w32 (v3 + 3) < (Ls : Int)) (
  chk (0 ≤ w32 (v3 + 4) ∧ w32 (v3 + 4) < (Ls : Int)) (
  chk (0 ≤ w32 (v3 + 5) ∧ w32 (v3 + 5) < (Ls : Int)) (
  chk (KD v1 = 10) (
  (fX10_feed v1 ((xs (w32 (v3 + 1)).toNat).toInt) ((xs (w32 (v3 + 2)).toNat).toInt) ((xs (w32 (v3 + 3)).toNat).toInt) ((xs (w32 (v3 + 4)).toNat).toInt) ((xs (w32 (v3 + 5)).toNat).toInt) μ).bind fun (r384, μ384) =>
  chk (KD v2 = 11) (
  (fX11_feed v2 ((xs (w32 (v3 + 1)).toNat).toInt) ((xs (w32 (v3 + 2)).toNat).toInt) ((xs (w32 (v3 + 3)).toNat).toInt) ((xs (w32 (v3 + 4)).toNat).toInt) ((xs (w32 (v3 + 5)).toNat).toInt) μ384).bind fun (r386, μ386) =>
  if r384 = r386 then
    some (.inl (w32 (v3 + 9), μ386), 0, 0)
  else
    none)))))))
def jL_law_1759 (Ls : Nat) (xs : Nat → Int32) (v1 v2 v3 : Int) (μ : Mm) : Option (((Int × Mm) ⊕ Mm) × Nat × Nat) :=
  chk (0 ≤ w32 (v3 + 1) ∧ w32 (v3 + 1) < (Ls : Int)) (
  chk (0 ≤ w32 (v3 + 2) ∧ w32 (v3 + 2) < (Ls : Int)) (
  chk (0 ≤ w32 (v3 + 3) ∧ w32 (v3 + 3) < (Ls : Int)) (
  chk (0 ≤ w32 (v3 + 4) ∧ w32 (v3 + 4) < (Ls : Int)) (
  chk (0 ≤ w32 (v3 + 5) ∧ w32 (v3 + 5) < (Ls : Int)) (
  chk (0 ≤ w32 (v3 + 6) ∧ w32 (v3 + 6) < (Ls : Int)) (
  chk (0 ≤ w32 (v3 + 7) ∧ w32 (v3 + 7) < (Ls : Int)) (
  chk (KD v1 = 10) (
  (fX10_scrawl v1 ((xs (w32 (v3 + 1)).toNat).toInt) ((xs (w32 (v3 + 2)).toNat).toInt) ((xs (w32 (v3 + 3)).toNat).toInt) ((xs (w32 (v3 + 4)).toNat).toInt) ((xs (w32 (v3 + 5)).toNat).toInt) ((xs (w32 (v3 + 6)).toNat).toInt) ((xs (w32 (v3 + 7)).toNat).toInt) μ).bind fun ((r396, μ396), c396, n396) =>
  pay c396 n396 (
  chk (KD v2 = 11) (
  (fX11_scrawl v2 ((xs (w32 (v3 + 1)).toNat).toInt) ((xs (w32 (v3 + 2)).toNat).toInt) ((xs (w32 (v3 + 3)).toNat).toInt) ((xs (w32 (v3 + 4)).toNat).toInt) ((xs (w32 (v3 + 5)).toNat).toInt) ((xs (w32 (v3 + 6)).toNat).toInt) ((xs (w32 (v3 + 7)).toNat).toInt) μ396).bind fun (r399, μ399) =>
  if r396 = r399 then
    some (.inl (w32 (v3 + 9), μ399), 0, 0)
  else
    none))))))))))
def jL_law_1540 (Ls : Nat) (xs : Nat → Int32) (v1 v2 v3 : Int) (μ : Mm) : Option (((Int × Mm) ⊕ Mm) × Nat × Nat) :=
  chk (0 ≤ w32 (v3 + 1) ∧ w32 (v3 + 1) < (Ls : Int)) (
  chk (0 ≤ w32 (v3 + 2) ∧ w32 (v3 + 2) < (Ls : Int)) (
  chk (0 ≤ w32 (v3 + 3) ∧ w32 (v3 + 3) < (Ls : Int)) (
  chk (0 ≤ w32 (v3 + 4) ∧ w32 (v3 + 4) < (Ls : Int)) (
  chk (0 ≤ w32 (v3 + 5) ∧ w32 (v3 + 5) < (Ls : Int)) (
  if (xs (w32 (v3 + 5)).toNat).toInt = 0 then
    jL_law_1574 Ls xs v1 v2 v3 0 ((xs (w32 (v3 + 4)).toNat).toInt) ((xs (w32 (v3 + 3)).toNat).toInt) ((xs (w32 (v3 + 2)).toNat).toInt) ((xs (w32 (v3 + 1)).toNat).toInt) v1 μ
  else
    jL_law_1574 Ls xs v1 v2 v3 1 ((xs (w32 (v3 + 4)).toNat).toInt) ((xs (w32 (v3 + 3)).toNat).toInt) ((xs (w32 (v3 + 2)).toNat).toInt) ((xs (w32 (v3 + 1)).toNat).toInt) v1 μ)))))
def jL_law_1846 (Ls : Nat) (xs : Nat → Int32) (v1 v2 v3 : Int) (μ : Mm) : Option (((Int × Mm) ⊕ Mm) × Nat × Nat) :=
  chk (0 ≤ w32 (v3 + 1) ∧ w32 (v3 + 1) < (Ls : Int)) (
  chk (0 ≤ w32 (v3 + 2) ∧ w32 (v3 + 2) < (Ls : Int)) (
  chk (0 ≤ w32 (v3 + 3) ∧ w32 (v3 + 3) < (Ls : Int)) (
  chk (0 ≤ w32 (v3 + 4) ∧ w32 (v3 + 4) < (Ls : Int)) (
  chk (0 ≤ w32 (v3 + 5) ∧ w32 (v3 + 5) < (Ls : Int)) (
  chk (0 ≤ w32 (v3 + 6) ∧ w32 (v3 + 6) < (Ls : Int)) (
  chk (0 ≤ w32 (v3 + 7) ∧ w32 (v3 + 7) < (Ls : Int)) (
  chk (0 ≤ w32 (v3 + 8) ∧ w32 (v3 + 8) < (Ls : Int)) (
  if (xs (w32 (v3 + 8)).toNat).toInt = 0 then
    jL_law_1898 Ls xs v1 v2 v3 0 ((xs (w32 (v3 + 7)).toNat).toInt) ((xs (w32 (v3 + 6)).toNat).toInt) ((xs (w32 (v3 + 5)).toNat).toInt) ((xs (w32 (v3 + 4)).toNat).toInt) ((xs (w32 (v3 + 3)).toNat).toInt) ((xs (w32 (v3 + 2)).toNat).toInt) ((xs (w32 (v3 + 1)).toNat).toInt) v1 μ
  else
    jL_law_1898 Ls xs v1 v2 v3 1 ((xs (w32 (v3 + 7)).toNat).toInt) ((xs (w32 (v3 + 6)).toNat).toInt) ((xs (w32 (v3 + 5)).toNat).toInt) ((xs (w32 (v3 + 4)).toNat).toInt) ((xs (w32 (v3 + 3)).toNat).toInt) ((xs (w32 (v3 + 2)).toNat).toInt) ((xs (w32 (v3 + 1)).toNat).toInt) v1 μ))))))))
def zL_law_18 (Ls : Nat) (xs : Nat → Int32) (l : Launch) (F : FI) (v1 v2 : Int) (k n : Nat) : (Int × Mm) ⊕ Mm → Prop
  | .inl (v3, μ) => GM l (mL_law Ls xs) F k n 18 [(0, (3, 34)), (1, (3, v1)), (2, (3, v2)), (3, (0, v3))] [] μ
  | .inr μ => GM l (mL_law Ls xs) F k n 2244 [] [] μ
def sL_law_18 (Ls : Nat) (xs : Nat → Int32) (v1 v2 : Int) : (Int × Mm) → Option (((Int × Mm) ⊕ Mm) × Nat × Nat) := fun (v3, μ) =>
  if w32 ((Ls : Int) - 9) < v3 then
    some (.inr μ, 0, 0)
  else
    chk (0 ≤ v3 ∧ v3 < (Ls : Int)) (
    if iand ((xs (v3).toNat).toInt) 63 = 0 then
      jL_law_224 Ls xs v1 v2 v3 μ
    else
    if iand ((xs (v3).toNat).toInt) 63 = 1 then
      jL_law_287 Ls xs v1 v2 v3 μ
    else
    if iand ((xs (v3).toNat).toInt) 63 = 2 then
      jL_law_310 Ls xs v1 v2 v3 μ
    else
    if iand ((xs (v3).toNat).toInt) 63 = 3 then
      jL_law_343 Ls xs v1 v2 v3 μ
    else
    if iand ((xs (v3).toNat).toInt) 63 = 4 then
      jL_law_366 Ls xs v1 v2 v3 μ
    else
    if iand ((xs (v3).toNat).toInt) 63 = 5 then
      jL_law_399 Ls xs v1 v2 v3 μ
    else
    if iand ((xs (v3).toNat).toInt) 63 = 6 then
      jL_law_432 Ls xs v1 v2 v3 μ
    else
    if iand ((xs (v3).toNat).toInt) 63 = 7 then
      jL_law_475 Ls xs v1 v2 v3 μ
    else
    if iand ((xs (v3).toNat).toInt) 63 = 8 then
      jL_law_508 Ls xs v1 v2 v3 μ
    else
    if iand ((xs (v3).toNat).toInt) 63 = 9 then
      jL_law_551 Ls xs v1 v2 v3 μ
    else
    if iand ((xs (v3).toNat).toInt) 63 = 10 then
      jL_law_594 Ls xs v1 v2 v3 μ
    else
    if iand ((xs (v3).toNat).toInt) 63 = 11 then
      jL_law_637 Ls xs v1 v2 v3 μ
    else
    if iand ((xs (v3).toNat).toInt) 63 = 12 then
      jL_law_680 Ls xs v1 v2 v3 μ
    else
    if iand ((xs (v3).toNat).toInt) 63 = 13 then
      jL_law_733 Ls xs v1 v2 v3 μ
    else
    if iand ((xs (v3).toNat).toInt) 63 = 14 then
      jL_law_796 Ls xs v1 v2 v3 μ
    else
    if iand ((xs (v3).toNat).toInt) 63 = 15 then
      jL_law_849 Ls xs v1 v2 v3 μ
    else
    if iand ((xs (v3).toNat).toInt) 63 = 16 then
      jL_law_902 Ls xs v1 v2 v3 μ
    else
    if iand ((xs (v3).toNat).toInt) 63 = 17 then
      jL_law_955 Ls xs v1 v2 v3 μ
    else
    if iand ((xs (v3).toNat).toInt) 63 = 18 then
      jL_law_998 Ls xs v1 v2 v3 μ
    else
    if iand ((xs (v3).toNat).toInt) 63 = 19 then
      jL_law_1041 Ls xs v1 v2 v3 μ
    else
    if iand ((xs (v3).toNat).toInt) 63 = 20 then
      jL_law_1074 Ls xs v1 v2 v3 μ
    else
    if iand ((xs (v3).toNat).toInt) 63 = 21 then
      jL_law_1133 Ls xs v1 v2 v3 μ
    else
    if iand ((xs (v3).toNat).toInt) 63 = 22 then
      jL_law_1186 Ls xs v1 v2 v3 μ
    else
    if iand ((xs (v3).toNat).toInt) 63 = 23 then
      jL_law_1239 Ls xs v1 v2 v3 μ
    else
    if iand ((xs (v3).toNat).toInt) 63 = 24 then
      jL_law_1302 Ls xs v1 v2 v3 μ
    else
    if iand ((xs (v3).toNat).toInt) 63 = 25 then
      jL_law_1355 Ls xs v1 v2 v3 μ
    else
    if iand ((xs (v3).toNat).toInt) 63 = 26 then
      jL_law_1388 Ls xs v1 v2 v3 μ
    else
    if iand ((xs (v3).toNat).toInt) 63 = 27 then
      jL_law_1421 Ls xs v1 v2 v3 μ
    else
    if iand ((xs (v3).toNat).toInt) 63 = 28 then
      jL_law_1444 Ls xs v1 v2 v3 μ
    else
    if iand ((xs (v3).toNat).toInt) 63 = 29 then
      jL_law_1497 Ls xs v1 v2 v3 μ
    else
    if iand ((xs (v3).toNat).toInt) 63 = 30 then
      jL_law_1540 Ls xs v1 v2 v3 μ
    else
    if iand ((xs (v3).toNat).toInt) 63 = 31 then
      jL_law_1647 Ls xs v1 v2 v3 μ
    else
    if iand ((xs (v3).toNat).toInt) 63 = 32 then
      jL_law_1700 Ls xs v1 v2 v3 μ
    else
    if iand ((xs (v3).toNat).toInt) 63 = 33 then
      jL_law_1759 Ls xs v1 v2 v3 μ
    else
    if iand ((xs (v3).toNat).toInt) 63 = 34 then
      jL_law_1846 Ls xs v1 v2 v3 μ
    else
    if iand ((xs (v3).toNat).toInt) 63 = 35 then
      jL_law_1961 Ls xs v1 v2 v3 μ
    else
    if iand ((xs (v3).toNat).toInt) 63 = 36 then
      jL_law_2004 Ls xs v1 v2 v3 μ
    else
    if iand ((xs (v3).toNat).toInt) 63 = 37 then
      jL_law_2027 Ls xs v1 v2 v3 μ
    else
    if iand ((xs (v3).toNat).toInt) 63 = 38 then
      jL_law_2060 Ls xs v1 v2 v3 μ
    else
    if iand ((xs (v3).toNat).toInt) 63 = 39 then
      jL_law_2113 Ls xs v1 v2 v3 μ
    else
    if iand ((xs (v3).toNat).toInt) 63 = 40 then
      jL_law_2146 Ls xs v1 v2 v3 μ
    else
    if iand ((xs (v3).toNat).toInt) 63 = 41 then
      jL_law_2169 Ls xs v1 v2 v3 μ
    else
    if iand ((xs (v3).toNat).toInt) 63 = 42 then
      jL_law_2192 Ls xs v1 v2 v3 μ
    else
    if iand ((xs (v3).toNat).toInt) 63 = 43 then
      jL_law_2215 Ls xs v1 v2 v3 μ
    else
      some (.inl (w32 (v3 + 9), μ), 0, 0))
def fL_law (Ls : Nat) (xs : Nat → Int32) (μ : Mm) : Option ((Int × Mm) × Nat × Nat) :=
  chk (KD 100 = 10 ∧ μ 0 100 = 0) (
  pay 1 11 (
  lm (mnw μ 100) fun μ464 =>
  (fX10_init 100 μ464).bind fun (μ465, c465, n465) =>
  pay c465 n465 (
  chk (KD 20000 = 11 ∧ μ465 0 20000 = 0) (
  pay 1 34 (
  lm (mnw μ465 20000) fun μ469 =>
  (fX11_init 20000 μ469).bind fun (μ470, c470, n470) =>
  pay c470 n470 (
  (lopA (sL_law_18 Ls xs 100 20000) FU (0, μ470)).bind fun (μ_473, ccx472, nnx472) =>
    pay ccx472 nnx472 (
    some ((1, μ_473), 0, 0))))))))
set_option maxRecDepth 20000 in
theorem gL_law_1953 (Ls : Nat) (xs : Nat → Int32) (hLs : Ls < 100000) (l : Launch) {F : FI} {v1 v2 v3 s0 s1 s2 s3 s4 s5 s6 s7 s8 s9 : Int} {μ : Mm} {t : ((Int × Mm) ⊕ Mm)} {c0 n0 k n : Nat} (h : jL_law_1953 Ls xs v1 v2 v3 s0 s1 s2 s3 s4 s5 s6 s7 s8 s9 μ = some (t, c0, n0)) (hK : zL_law_18 Ls xs l F v1 v2 k n t) : GM l (mL_law Ls xs) F (c0 + k) (n0 + n) 1953 [(0, (3, 34)), (1, (3, v1)), (2, (3, v2)), (3, (0, v3))] [(0, s0), (0, s1), (0, s2), (0, s3), (0, s4), (0, s5), (0, s6), (0, s7), (3, s8), (0, s9)] μ := by
  unfold jL_law_1953 at h
  obtain ⟨hc1, h⟩ := chk_inv h
  obtain ⟨⟨r2, μ2⟩, hf2, h⟩ := Option.bind_eq_some_iff.mp h
  dsimp only at h
  refine GM_callV0 (pc := 1953) [(0, s7), (0, s6), (0, s5), (0, s4), (0, s3), (0, s2), (0, s1), (0, s0)] (tX11_found l hf2) cwX11_found 11 (Nat.le_of_ble_eq_true rfl) rfl kv_X11_found ke_X11_found km_L_162 hc1 ⟨Nat.le_of_ble_eq_true rfl, Nat.le_of_ble_eq_true rfl⟩ (Nat.le_of_ble_eq_true rfl) (Nat.le_of_ble_eq_true rfl) (daL_law_23 21 rfl) ?_
  refine GM_icmp_eq (pc := 1956) 2238 (daL_law_23 22 rfl) rfl (fun c3 => ?_) (fun c3 => ?_)
  · skip
    rw [if_pos c3] at h
    refine GM_iinc (L' := [(3, (0, w32 (v3 + 9))), (0, (3, 34)), (1, (3, v1)), (2, (3, v2))]) (pc := 2238) 3 rfl (daL_law_26 56 rfl) (Nat.le_of_ble_eq_true rfl) rfl ?_
    refine GM_goto (pc := 2241) 18 (daL_law_26 57 rfl) rfl ?_
    refine GM_pick [1, 2, 3, 0] rfl ?_
    cases h
    rw [Nat.zero_add, Nat.zero_add]
    exact hK
  · skip
    rw [if_neg c3] at h
    cases h
set_option maxRecDepth 20000 in
theorem gL_law_1751 (Ls : Nat) (xs : Nat → Int32) (hLs : Ls < 100000) (l : Launch) {F : FI} {v1 v2 v3 s0 s1 s2 s3 s4 : Int} {μ : Mm} {t : ((Int × Mm) ⊕ Mm)} {c0 n0 k n : Nat} (h : jL_law_1751 Ls xs v1 v2 v3 s0 s1 s2 s3 s4 μ = some (t, c0, n0)) (hK : zL_law_18 Ls xs l F v1 v2 k n t) : GM l (mL_law Ls xs) F (c0 + k) (n0 + n) 1751 [(0, (3, 34)), (1, (3, v1)), (2, (3, v2)), (3, (0, v3))] [(0, s0), (0, s1), (0, s2), (3, s3), (0, s4)] μ := by
  unfold jL_law_1751 at h
  obtain ⟨hc4, h⟩ := chk_inv h
  obtain ⟨⟨r5, μ5⟩, hf5, h⟩ := Option.bind_eq_some_iff.mp h
  dsimp only at h
  refine GM_callV0 (pc := 1751) [(0, s2), (0, s1), (0, s0)] (tX11_nearest l hf5) cwX11_nearest 11 (Nat.le_of_ble_eq_true rfl) rfl kv_X11_nearest ke_X11_nearest km_L_152 hc4 ⟨Nat.le_of_ble_eq_true rfl, Nat.le_of_ble_eq_true rfl⟩ (Nat.le_of_ble_eq_true rfl) (Nat.le_of_ble_eq_true rfl) (daL_law_20 41 rfl) ?_
  refine GM_icmp_eq (pc := 1754) 2238 (daL_law_20 42 rfl) rfl (fun c6 => ?_) (fun c6 => ?_)
  · skip
    rw [if_pos c6] at h
    refine GM_iinc (L' := [(3, (0, w32 (v3 + 9))), (0, (3, 34)), (1, (3, v1)), (2, (3, v2))]) (pc := 2238) 3 rfl (daL_law_26 56 rfl) (Nat.le_of_ble_eq_true rfl) rfl ?_
    refine GM_goto (pc := 2241) 18 (daL_law_26 57 rfl) rfl ?_
    refine GM_pick [1, 2, 3, 0] rfl ?_
    cases h
    rw [Nat.zero_add, Nat.zero_add]
    exact hK
  · skip
    rw [if_neg c6] at h
    cases h
set_option maxRecDepth 20000 in
theorem gL_law_1125 (Ls : Nat) (xs : Nat → Int32) (hLs : Ls < 100000) (l : Launch) {F : FI} {v1 v2 v3 s0 s1 s2 s3 s4 : Int} {μ : Mm} {t : ((Int × Mm) ⊕ Mm)} {c0 n0 k n : Nat} (h : jL_law_1125 Ls xs v1 v2 v3 s0 s1 s2 s3 s4 μ = some (t, c0, n0)) (hK : zL_law_18 Ls xs l F v1 v2 k n t) : GM l (mL_law Ls xs) F (c0 + k) (n0 + n) 1125 [(0, (3, 34)), (1, (3, v1)), (2, (3, v2)), (3, (0, v3))] [(0, s0), (0, s1), (0, s2), (3, s3), (0, s4)] μ := by
  unfold jL_law_1125 at h
  obtain ⟨hc7, h⟩ := chk_inv h
  obtain ⟨⟨r8, μ8⟩, hf8, h⟩ := Option.bind_eq_some_iff.mp h
  dsimp only at h
  refine GM_callV0 (pc := 1125) [(0, s2), (0, s1), (0, s0)] (tX11_since l hf8) cwX11_since 11 (Nat.le_of_ble_eq_true rfl) rfl kv_X11_since ke_X11_since km_L_103 hc7 ⟨Nat.le_of_ble_eq_true rfl, Nat.le_of_ble_eq_true rfl⟩ (Nat.le_of_ble_eq_true rfl) (Nat.le_of_ble_eq_true rfl) (daL_law_12 25 rfl) ?_
  refine GM_icmp_eq (pc := 1128) 2238 (daL_law_12 26 rfl) rfl (fun c9 => ?_) (fun c9 => ?_)
  · skip
    rw [if_pos c9] at h
    refine GM_iinc (L' := [(3, (0, w32 (v3 + 9))), (0, (3, 34)), (1, (3, v1)), (2, (3, v2))]) (pc := 2238) 3 rfl (daL_law_26 56 rfl) (Nat.le_of_ble_eq_true rfl) rfl ?_
    refine GM_goto (pc := 2241) 18 (daL_law_26 57 rfl) rfl ?_
    refine GM_pick [1, 2, 3, 0] rfl ?_
    cases h
    rw [Nat.zero_add, Nat.zero_add]
    exact hK
  · skip
    rw [if_neg c9] at h
    cases h
set_option maxRecDepth 20000 in
theorem gL_law_1639 (Ls : Nat) (xs : Nat → Int32) (hLs : Ls < 100000) (l : Launch) {F : FI} {v1 v2 v3 s0 s1 s2 s3 s4 s5 s6 s7 : Int} {μ : Mm} {t : ((Int × Mm) ⊕ Mm)} {c0 n0 k n : Nat} (h : jL_law_1639 Ls xs v1 v2 v3 s0 s1 s2 s3 s4 s5 s6 s7 μ = some (t, c0, n0)) (hK : zL_law_18 Ls xs l F v1 v2 k n t) : GM l (mL_law Ls xs) F (c0 + k) (n0 + n) 1639 [(0, (3, 34)), (1, (3, v1)), (2, (3, v2)), (3, (0, v3))] [(0, s0), (0, s1), (0, s2), (0, s3), (0, s4), (0, s5), (3, s6), (0, s7)] μ := by
  unfold jL_law_1639 at h
  obtain ⟨hc10, h⟩ := chk_inv h
  obtain ⟨⟨r11, μ11⟩, hf11, h⟩ := Option.bind_eq_some_iff.mp h
  dsimp only at h
  refine GM_callV0 (pc := 1639) [(0, s5), (0, s4), (0, s3), (0, s2), (0, s1), (0, s0)] (tX11_stretch l hf11) cwX11_stretch 11 (Nat.le_of_ble_eq_true rfl) rfl kv_X11_stretch ke_X11_stretch km_L_144 hc10 ⟨Nat.le_of_ble_eq_true rfl, Nat.le_of_ble_eq_true rfl⟩ (Nat.le_of_ble_eq_true rfl) (Nat.le_of_ble_eq_true rfl) (daL_law_19 13 rfl) ?_
  refine GM_icmp_eq (pc := 1642) 2238 (daL_law_19 14 rfl) rfl (fun c12 => ?_) (fun c12 => ?_)
  · skip
    rw [if_pos c12] at h
    refine GM_iinc (L' := [(3, (0, w32 (v3 + 9))), (0, (3, 34)), (1, (3, v1)), (2, (3, v2))]) (pc := 2238) 3 rfl (daL_law_26 56 rfl) (Nat.le_of_ble_eq_true rfl) rfl ?_
    refine GM_goto (pc := 2241) 18 (daL_law_26 57 rfl) rfl ?_
    refine GM_pick [1, 2, 3, 0] rfl ?_
    cases h
    rw [Nat.zero_add, Nat.zero_add]
    exact hK
  · skip
    rw [if_neg c12] at h
    cases h
set_option maxRecDepth 20000 in
theorem gL_law_1625 (Ls : Nat) (xs : Nat → Int32) (hLs : Ls < 100000) (l : Launch) {F : FI} {v1 v2 v3 s0 s1 s2 s3 s4 s5 s6 : Int} {μ : Mm} {t : ((Int × Mm) ⊕ Mm)} {c0 n0 k n : Nat} (h : jL_law_1625 Ls xs v1 v2 v3 s0 s1 s2 s3 s4 s5 s6 μ = some (t, c0, n0)) (hK : zL_law_18 Ls xs l F v1 v2 k n t) : GM l (mL_law Ls xs) F (c0 + k) (n0 + n) 1625 [(0, (3, 34)), (1, (3, v1)), (2, (3, v2)), (3, (0, v3))] [(0, s0), (0, s1), (0, s2), (0, s3), (0, s4), (3, s5), (0, s6)] μ := by
  unfold jL_law_1625 at h
  refine GM_aload_n (pc := 1625) 0 rfl (daL_law_19 4 rfl) rfl ?_
  refine GM_iload_n (pc := 1626) 3 rfl (daL_law_19 5 rfl) rfl ?_
  refine GM_bipush (pc := 1627) 6 (daL_law_19 6 rfl) rfl (R32_b rfl) ?_
  refine GM_iadd (pc := 1629) (daL_law_19 7 rfl) ?_
  obtain ⟨hc13, h⟩ := chk_inv h
  refine GM_sld (Ls := Ls) (xs := xs) (pc := 1630) rfl hc13.1 hc13.2 (daL_law_19 8 rfl) ?_
  refine GM_if_eq (pc := 1631) 1638 (daL_law_19 9 rfl) rfl (fun c14 => ?_) (fun c14 => ?_)
  · skip
    rw [if_pos c14] at h
    refine GM_iconst (pc := 1638) 0 (daL_law_19 12 rfl) rfl (R32_b rfl) ?_
    exact gL_law_1639 Ls xs hLs l h hK
  · skip
    rw [if_neg c14] at h
    refine GM_iconst (pc := 1634) 1 (daL_law_19 10 rfl) rfl (R32_b rfl) ?_
    refine GM_goto (pc := 1635) 1639 (daL_law_19 11 rfl) rfl ?_
    exact gL_law_1639 Ls xs hLs l h hK
set_option maxRecDepth 20000 in
theorem gL_law_1421 (Ls : Nat) (xs : Nat → Int32) (hLs : Ls < 100000) (l : Launch) {F : FI} {v1 v2 v3 : Int} {μ : Mm} {t : ((Int × Mm) ⊕ Mm)} {c0 n0 k n : Nat} (h : jL_law_1421 Ls xs v1 v2 v3 μ = some (t, c0, n0)) (hK : zL_law_18 Ls xs l F v1 v2 k n t) : GM l (mL_law Ls xs) F (c0 + k) (n0 + n) 1421 [(0, (3, 34)), (1, (3, v1)), (2, (3, v2)), (3, (0, v3))] [] μ := by
  unfold jL_law_1421 at h
  refine GM_aload_n (pc := 1421) 1 rfl (daL_law_16 25 rfl) rfl ?_
  refine GM_aload_n (pc := 1422) 0 rfl (daL_law_16 26 rfl) rfl ?_
  refine GM_iload_n (pc := 1423) 3 rfl (daL_law_16 27 rfl) rfl ?_
  refine GM_iconst (pc := 1424) 1 (daL_law_16 28 rfl) rfl (R32_b rfl) ?_
  refine GM_iadd (pc := 1425) (daL_law_16 29 rfl) ?_
  obtain ⟨hc15, h⟩ := chk_inv h
  refine GM_sld (Ls := Ls) (xs := xs) (pc := 1426) rfl hc15.1 hc15.2 (daL_law_16 30 rfl) ?_
  obtain ⟨hc16, h⟩ := chk_inv h
  obtain ⟨⟨⟨r17, μ17⟩, c17, n17⟩, hf17, h⟩ := Option.bind_eq_some_iff.mp h
  dsimp only at h
  obtain ⟨c18, n18, hp, e1, e2⟩ := pay_inv h
  subst e1 e2
  replace h := hp
  clear hp
  rw [Nat.add_assoc, Nat.add_assoc]
  refine GM_callV (pc := 1427) [(0, (xs (w32 (v3 + 1)).toNat).toInt)] (tX10_most l hf17) cwX10_most 10 (Nat.le_of_ble_eq_true rfl) rfl kv_X10_most ke_X10_most km_L_128 hc16 ⟨Nat.le_of_ble_eq_true rfl, Nat.le_of_ble_eq_true rfl⟩ (Nat.le_of_ble_eq_true rfl) (Nat.le_of_ble_eq_true rfl) (daL_law_16 31 rfl) ?_
  refine GM_aload_n (pc := 1430) 2 rfl (daL_law_16 32 rfl) rfl ?_
  refine GM_aload_n (pc := 1431) 0 rfl (daL_law_16 33 rfl) rfl ?_
  refine GM_iload_n (pc := 1432) 3 rfl (daL_law_16 34 rfl) rfl ?_
  refine GM_iconst (pc := 1433) 1 (daL_law_16 35 rfl) rfl (R32_b rfl) ?_
  refine GM_iadd (pc := 1434) (daL_law_16 36 rfl) ?_
  refine GM_sld (Ls := Ls) (xs := xs) (pc := 1435) rfl hc15.1 hc15.2 (daL_law_16 37 rfl) ?_
  obtain ⟨hc19, h⟩ := chk_inv h
  obtain ⟨r20, hf20, h⟩ := Option.bind_eq_some_iff.mp h
  refine GM_callV0 (pc := 1436) [(0, (xs (w32 (v3 + 1)).toNat).toInt)] (tX11_most l hf20) cwX11_most 11 (Nat.le_of_ble_eq_true rfl) rfl kv_X11_most ke_X11_most km_L_131 hc19 ⟨Nat.le_of_ble_eq_true rfl, Nat.le_of_ble_eq_true rfl⟩ (Nat.le_of_ble_eq_true rfl) (Nat.le_of_ble_eq_true rfl) (daL_law_16 38 rfl) ?_
  refine GM_icmp_eq (pc := 1439) 2238 (daL_law_16 39 rfl) rfl (fun c21 => ?_) (fun c21 => ?_)
  · skip
    rw [if_pos c21] at h
    refine GM_iinc (L' := [(3, (0, w32 (v3 + 9))), (0, (3, 34)), (1, (3, v1)), (2, (3, v2))]) (pc := 2238) 3 rfl (daL_law_26 56 rfl) (Nat.le_of_ble_eq_true rfl) rfl ?_
    refine GM_goto (pc := 2241) 18 (daL_law_26 57 rfl) rfl ?_
    refine GM_pick [1, 2, 3, 0] rfl ?_
    cases h
    rw [Nat.zero_add, Nat.zero_add]
    exact hK
  · skip
    rw [if_neg c21] at h
    cases h
set_option maxRecDepth 20000 in
theorem gL_law_2192 (Ls : Nat) (xs : Nat → Int32) (hLs : Ls < 100000) (l : Launch) {F : FI} {v1 v2 v3 : Int} {μ : Mm} {t : ((Int × Mm) ⊕ Mm)} {c0 n0 k n : Nat} (h : jL_law_2192 Ls xs v1 v2 v3 μ = some (t, c0, n0)) (hK : zL_law_18 Ls xs l F v1 v2 k n t) : GM l (mL_law Ls xs) F (c0 + k) (n0 + n) 2192 [(0, (3, 34)), (1, (3, v1)), (2, (3, v2)), (3, (0, v3))] [] μ := by
  unfold jL_law_2192 at h
  refine GM_aload_n (pc := 2192) 1 rfl (daL_law_26 22 rfl) rfl ?_
  refine GM_aload_n (pc := 2193) 0 rfl (daL_law_26 23 rfl) rfl ?_
  refine GM_iload_n (pc := 2194) 3 rfl (daL_law_26 24 rfl) rfl ?_
  refine GM_iconst (pc := 2195) 1 (daL_law_26 25 rfl) rfl (R32_b rfl) ?_
  refine GM_iadd (pc := 2196) (daL_law_26 26 rfl) ?_
  obtain ⟨hc22, h⟩ := chk_inv h
  refine GM_sld (Ls := Ls) (xs := xs) (pc := 2197) rfl hc22.1 hc22.2 (daL_law_26 27 rfl) ?_
  obtain ⟨hc23, h⟩ := chk_inv h
  obtain ⟨⟨⟨r24, μ24⟩, c24, n24⟩, hf24, h⟩ := Option.bind_eq_some_iff.mp h
  dsimp only at h
  obtain ⟨c25, n25, hp, e1, e2⟩ := pay_inv h
  subst e1 e2
  replace h := hp
  clear hp
  rw [Nat.add_assoc, Nat.add_assoc]
  refine GM_callV (pc := 2198) [(0, (xs (w32 (v3 + 1)).toNat).toInt)] (tX10_image l hf24) cwX10_image 10 (Nat.le_of_ble_eq_true rfl) rfl kv_X10_image ke_X10_image km_L_191 hc23 ⟨Nat.le_of_ble_eq_true rfl, Nat.le_of_ble_eq_true rfl⟩ (Nat.le_of_ble_eq_true rfl) (Nat.le_of_ble_eq_true rfl) (daL_law_26 28 rfl) ?_
  refine GM_aload_n (pc := 2201) 2 rfl (daL_law_26 29 rfl) rfl ?_
  refine GM_aload_n (pc := 2202) 0 rfl (daL_law_26 30 rfl) rfl ?_
  refine GM_iload_n (pc := 2203) 3 rfl (daL_law_26 31 rfl) rfl ?_
  refine GM_iconst (pc := 2204) 1 (daL_law_26 32 rfl) rfl (R32_b rfl) ?_
  refine GM_iadd (pc := 2205) (daL_law_26 33 rfl) ?_
  refine GM_sld (Ls := Ls) (xs := xs) (pc := 2206) rfl hc22.1 hc22.2 (daL_law_26 34 rfl) ?_
  obtain ⟨hc26, h⟩ := chk_inv h
  obtain ⟨⟨r27, μ27⟩, hf27, h⟩ := Option.bind_eq_some_iff.mp h
  dsimp only at h
  refine GM_callV0 (pc := 2207) [(0, (xs (w32 (v3 + 1)).toNat).toInt)] (tX11_image l hf27) cwX11_image 11 (Nat.le_of_ble_eq_true rfl) rfl kv_X11_image ke_X11_image km_L_195 hc26 ⟨Nat.le_of_ble_eq_true rfl, Nat.le_of_ble_eq_true rfl⟩ (Nat.le_of_ble_eq_true rfl) (Nat.le_of_ble_eq_true rfl) (daL_law_26 35 rfl) ?_
  refine GM_icmp_eq (pc := 2210) 2238 (daL_law_26 36 rfl) rfl (fun c28 => ?_) (fun c28 => ?_)
  · skip
    rw [if_pos c28] at h
    refine GM_iinc (L' := [(3, (0, w32 (v3 + 9))), (0, (3, 34)), (1, (3, v1)), (2, (3, v2))]) (pc := 2238) 3 rfl (daL_law_26 56 rfl) (Nat.le_of_ble_eq_true rfl) rfl ?_
    refine GM_goto (pc := 2241) 18 (daL_law_26 57 rfl) rfl ?_
    refine GM_pick [1, 2, 3, 0] rfl ?_
    cases h
    rw [Nat.zero_add, Nat.zero_add]
    exact hK
  · skip
    rw [if_neg c28] at h
    cases h
set_option maxRecDepth 20000 in
theorem gL_law_287 (Ls : Nat) (xs : Nat → Int32) (hLs : Ls < 100000) (l : Launch) {F : FI} {v1 v2 v3 : Int} {μ : Mm} {t : ((Int × Mm) ⊕ Mm)} {c0 n0 k n : Nat} (h : jL_law_287 Ls xs v1 v2 v3 μ = some (t, c0, n0)) (hK : zL_law_18 Ls xs l F v1 v2 k n t) : GM l (mL_law Ls xs) F (c0 + k) (n0 + n) 287 [(0, (3, 34)), (1, (3, v1)), (2, (3, v2)), (3, (0, v3))] [] μ := by
  unfold jL_law_287 at h
  refine GM_aload_n (pc := 287) 1 rfl (daL_law_1 15 rfl) rfl ?_
  refine GM_aload_n (pc := 288) 0 rfl (daL_law_1 16 rfl) rfl ?_
  refine GM_iload_n (pc := 289) 3 rfl (daL_law_1 17 rfl) rfl ?_
  refine GM_iconst (pc := 290) 1 (daL_law_1 18 rfl) rfl (R32_b rfl) ?_
  refine GM_iadd (pc := 291) (daL_law_1 19 rfl) ?_
  obtain ⟨hc29, h⟩ := chk_inv h
  refine GM_sld (Ls := Ls) (xs := xs) (pc := 292) rfl hc29.1 hc29.2 (daL_law_1 20 rfl) ?_
  obtain ⟨hc30, h⟩ := chk_inv h
  obtain ⟨⟨r31, μ31⟩, hf31, h⟩ := Option.bind_eq_some_iff.mp h
  dsimp only at h
  refine GM_callV0 (pc := 293) [(0, (xs (w32 (v3 + 1)).toNat).toInt)] (tX10_end l hf31) cwX10_end 10 (Nat.le_of_ble_eq_true rfl) rfl kv_X10_end ke_X10_end km_L_18 hc30 ⟨Nat.le_of_ble_eq_true rfl, Nat.le_of_ble_eq_true rfl⟩ (Nat.le_of_ble_eq_true rfl) (Nat.le_of_ble_eq_true rfl) (daL_law_1 21 rfl) ?_
  refine GM_aload_n (pc := 296) 2 rfl (daL_law_1 22 rfl) rfl ?_
  refine GM_aload_n (pc := 297) 0 rfl (daL_law_1 23 rfl) rfl ?_
  refine GM_iload_n (pc := 298) 3 rfl (daL_law_1 24 rfl) rfl ?_
  refine GM_iconst (pc := 299) 1 (daL_law_1 25 rfl) rfl (R32_b rfl) ?_
  refine GM_iadd (pc := 300) (daL_law_1 26 rfl) ?_
  refine GM_sld (Ls := Ls) (xs := xs) (pc := 301) rfl hc29.1 hc29.2 (daL_law_1 27 rfl) ?_
  obtain ⟨hc32, h⟩ := chk_inv h
  obtain ⟨⟨r33, μ33⟩, hf33, h⟩ := Option.bind_eq_some_iff.mp h
  dsimp only at h
  refine GM_callV0 (pc := 302) [(0, (xs (w32 (v3 + 1)).toNat).toInt)] (tX11_end l hf33) cwX11_end 11 (Nat.le_of_ble_eq_true rfl) rfl kv_X11_end ke_X11_end km_L_22 hc32 ⟨Nat.le_of_ble_eq_true rfl, Nat.le_of_ble_eq_true rfl⟩ (Nat.le_of_ble_eq_true rfl) (Nat.le_of_ble_eq_true rfl) (daL_law_1 28 rfl) ?_
  refine GM_icmp_eq (pc := 305) 2238 (daL_law_1 29 rfl) rfl (fun c34 => ?_) (fun c34 => ?_)
  · skip
    rw [if_pos c34] at h
    refine GM_iinc (L' := [(3, (0, w32 (v3 + 9))), (0, (3, 34)), (1, (3, v1)), (2, (3, v2))]) (pc := 2238) 3 rfl (daL_law_26 56 rfl) (Nat.le_of_ble_eq_true rfl) rfl ?_
    refine GM_goto (pc := 2241) 18 (daL_law_26 57 rfl) rfl ?_
    refine GM_pick [1, 2, 3, 0] rfl ?_
    cases h
    rw [Nat.zero_add, Nat.zero_add]
    exact hK
  · skip
    rw [if_neg c34] at h
    cases h
set_option maxRecDepth 20000 in
theorem gL_law_2215 (Ls : Nat) (xs : Nat → Int32) (hLs : Ls < 100000) (l : Launch) {F : FI} {v1 v2 v3 : Int} {μ : Mm} {t : ((Int × Mm) ⊕ Mm)} {c0 n0 k n : Nat} (h : jL_law_2215 Ls xs v1 v2 v3 μ = some (t, c0, n0)) (hK : zL_law_18 Ls xs l F v1 v2 k n t) : GM l (mL_law Ls xs) F (c0 + k) (n0 + n) 2215 [(0, (3, 34)), (1, (3, v1)), (2, (3, v2)), (3, (0, v3))] [] μ := by
  unfold jL_law_2215 at h
  refine GM_aload_n (pc := 2215) 1 rfl (daL_law_26 39 rfl) rfl ?_
  refine GM_aload_n (pc := 2216) 0 rfl (daL_law_26 40 rfl) rfl ?_
  refine GM_iload_n (pc := 2217) 3 rfl (daL_law_26 41 rfl) rfl ?_
  refine GM_iconst (pc := 2218) 1 (daL_law_26 42 rfl) rfl (R32_b rfl) ?_
  refine GM_iadd (pc := 2219) (daL_law_26 43 rfl) ?_
  obtain ⟨hc35, h⟩ := chk_inv h
  refine GM_sld (Ls := Ls) (xs := xs) (pc := 2220) rfl hc35.1 hc35.2 (daL_law_26 44 rfl) ?_
  obtain ⟨hc36, h⟩ := chk_inv h
  obtain ⟨⟨r37, μ37⟩, hf37, h⟩ := Option.bind_eq_some_iff.mp h
  dsimp only at h
  refine GM_callV0 (pc := 2221) [(0, (xs (w32 (v3 + 1)).toNat).toInt)] (tX10_again l hf37) cwX10_again 10 (Nat.le_of_ble_eq_true rfl) rfl kv_X10_again ke_X10_again km_L_196 hc36 ⟨Nat.le_of_ble_eq_true rfl, Nat.le_of_ble_eq_true rfl⟩ (Nat.le_of_ble_eq_true rfl) (Nat.le_of_ble_eq_true rfl) (daL_law_26 45 rfl) ?_
  refine GM_aload_n (pc := 2224) 2 rfl (daL_law_26 46 rfl) rfl ?_
  refine GM_aload_n (pc := 2225) 0 rfl (daL_law_26 47 rfl) rfl ?_
  refine GM_iload_n (pc := 2226) 3 rfl (daL_law_26 48 rfl) rfl ?_
  refine GM_iconst (pc := 2227) 1 (daL_law_26 49 rfl) rfl (R32_b rfl) ?_
  refine GM_iadd (pc := 2228) (daL_law_26 50 rfl) ?_
  refine GM_sld (Ls := Ls) (xs := xs) (pc := 2229) rfl hc35.1 hc35.2 (daL_law_26 51 rfl) ?_
  obtain ⟨hc38, h⟩ := chk_inv h
  obtain ⟨⟨r39, μ39⟩, hf39, h⟩ := Option.bind_eq_some_iff.mp h
  dsimp only at h
  refine GM_callV0 (pc := 2230) [(0, (xs (w32 (v3 + 1)).toNat).toInt)] (tX11_again l hf39) cwX11_again 11 (Nat.le_of_ble_eq_true rfl) rfl kv_X11_again ke_X11_again km_L_199 hc38 ⟨Nat.le_of_ble_eq_true rfl, Nat.le_of_ble_eq_true rfl⟩ (Nat.le_of_ble_eq_true rfl) (Nat.le_of_ble_eq_true rfl) (daL_law_26 52 rfl) ?_
  refine GM_icmp_eq (pc := 2233) 2238 (daL_law_26 53 rfl) rfl (fun c40 => ?_) (fun c40 => ?_)
  · skip
    rw [if_pos c40] at h
    refine GM_iinc (L' := [(3, (0, w32 (v3 + 9))), (0, (3, 34)), (1, (3, v1)), (2, (3, v2))]) (pc := 2238) 3 rfl (daL_law_26 56 rfl) (Nat.le_of_ble_eq_true rfl) rfl ?_
    refine GM_goto (pc := 2241) 18 (daL_law_26 57 rfl) rfl ?_
    refine GM_pick [1, 2, 3, 0] rfl ?_
    cases h
    rw [Nat.zero_add, Nat.zero_add]
    exact hK
  · skip
    rw [if_neg c40] at h
    cases h
set_option maxRecDepth 20000 in
theorem gL_law_2004 (Ls : Nat) (xs : Nat → Int32) (hLs : Ls < 100000) (l : Launch) {F : FI} {v1 v2 v3 : Int} {μ : Mm} {t : ((Int × Mm) ⊕ Mm)} {c0 n0 k n : Nat} (h : jL_law_2004 Ls xs v1 v2 v3 μ = some (t, c0, n0)) (hK : zL_law_18 Ls xs l F v1 v2 k n t) : GM l (mL_law Ls xs) F (c0 + k) (n0 + n) 2004 [(0, (3, 34)), (1, (3, v1)), (2, (3, v2)), (3, (0, v3))] [] μ := by
  unfold jL_law_2004 at h
  refine GM_aload_n (pc := 2004) 1 rfl (daL_law_23 62 rfl) rfl ?_
  refine GM_aload_n (pc := 2005) 0 rfl (daL_law_23 63 rfl) rfl ?_
  refine GM_iload_n (pc := 2006) 3 rfl (daL_law_24 0 rfl) rfl ?_
  refine GM_iconst (pc := 2007) 1 (daL_law_24 1 rfl) rfl (R32_b rfl) ?_
  refine GM_iadd (pc := 2008) (daL_law_24 2 rfl) ?_
  obtain ⟨hc41, h⟩ := chk_inv h
  refine GM_sld (Ls := Ls) (xs := xs) (pc := 2009) rfl hc41.1 hc41.2 (daL_law_24 3 rfl) ?_
  obtain ⟨hc42, h⟩ := chk_inv h
  obtain ⟨⟨⟨r43, μ43⟩, c43, n43⟩, hf43, h⟩ := Option.bind_eq_some_iff.mp h
  dsimp only at h
  obtain ⟨c44, n44, hp, e1, e2⟩ := pay_inv h
  subst e1 e2
  replace h := hp
  clear hp
  rw [Nat.add_assoc, Nat.add_assoc]
  refine GM_callV (pc := 2010) [(0, (xs (w32 (v3 + 1)).toNat).toInt)] (tX10_hidden l hf43) cwX10_hidden 10 (Nat.le_of_ble_eq_true rfl) rfl kv_X10_hidden ke_X10_hidden km_L_167 hc42 ⟨Nat.le_of_ble_eq_true rfl, Nat.le_of_ble_eq_true rfl⟩ (Nat.le_of_ble_eq_true rfl) (Nat.le_of_ble_eq_true rfl) (daL_law_24 4 rfl) ?_
  refine GM_aload_n (pc := 2013) 2 rfl (daL_law_24 5 rfl) rfl ?_
  refine GM_aload_n (pc := 2014) 0 rfl (daL_law_24 6 rfl) rfl ?_
  refine GM_iload_n (pc := 2015) 3 rfl (daL_law_24 7 rfl) rfl ?_
  refine GM_iconst (pc := 2016) 1 (daL_law_24 8 rfl) rfl (R32_b rfl) ?_
  refine GM_iadd (pc := 2017) (daL_law_24 9 rfl) ?_
  refine GM_sld (Ls := Ls) (xs := xs) (pc := 2018) rfl hc41.1 hc41.2 (daL_law_24 10 rfl) ?_
  obtain ⟨hc45, h⟩ := chk_inv h
  obtain ⟨r46, hf46, h⟩ := Option.bind_eq_some_iff.mp h
  refine GM_callV0 (pc := 2019) [(0, (xs (w32 (v3 + 1)).toNat).toInt)] (tX11_hidden l hf46) cwX11_hidden 11 (Nat.le_of_ble_eq_true rfl) rfl kv_X11_hidden ke_X11_hidden km_L_170 hc45 ⟨Nat.le_of_ble_eq_true rfl, Nat.le_of_ble_eq_true rfl⟩ (Nat.le_of_ble_eq_true rfl) (Nat.le_of_ble_eq_true rfl) (daL_law_24 11 rfl) ?_
  refine GM_icmp_eq (pc := 2022) 2238 (daL_law_24 12 rfl) rfl (fun c47 => ?_) (fun c47 => ?_)
  · skip
    rw [if_pos c47] at h
    refine GM_iinc (L' := [(3, (0, w32 (v3 + 9))), (0, (3, 34)), (1, (3, v1)), (2, (3, v2))]) (pc := 2238) 3 rfl (daL_law_26 56 rfl) (Nat.le_of_ble_eq_true rfl) rfl ?_
    refine GM_goto (pc := 2241) 18 (daL_law_26 57 rfl) rfl ?_
    refine GM_pick [1, 2, 3, 0] rfl ?_
    cases h
    rw [Nat.zero_add, Nat.zero_add]
    exact hK
  · skip
    rw [if_neg c47] at h
    cases h
set_option maxRecDepth 20000 in
theorem gL_law_343 (Ls : Nat) (xs : Nat → Int32) (hLs : Ls < 100000) (l : Launch) {F : FI} {v1 v2 v3 : Int} {μ : Mm} {t : ((Int × Mm) ⊕ Mm)} {c0 n0 k n : Nat} (h : jL_law_343 Ls xs v1 v2 v3 μ = some (t, c0, n0)) (hK : zL_law_18 Ls xs l F v1 v2 k n t) : GM l (mL_law Ls xs) F (c0 + k) (n0 + n) 343 [(0, (3, 34)), (1, (3, v1)), (2, (3, v2)), (3, (0, v3))] [] μ := by
  unfold jL_law_343 at h
  refine GM_aload_n (pc := 343) 1 rfl (daL_law_1 59 rfl) rfl ?_
  refine GM_aload_n (pc := 344) 0 rfl (daL_law_1 60 rfl) rfl ?_
  refine GM_iload_n (pc := 345) 3 rfl (daL_law_1 61 rfl) rfl ?_
  refine GM_iconst (pc := 346) 1 (daL_law_1 62 rfl) rfl (R32_b rfl) ?_
  refine GM_iadd (pc := 347) (daL_law_1 63 rfl) ?_
  obtain ⟨hc48, h⟩ := chk_inv h
  refine GM_sld (Ls := Ls) (xs := xs) (pc := 348) rfl hc48.1 hc48.2 (daL_law_2 0 rfl) ?_
  obtain ⟨hc49, h⟩ := chk_inv h
  obtain ⟨r50, hf50, h⟩ := Option.bind_eq_some_iff.mp h
  refine GM_callV0 (pc := 349) [(0, (xs (w32 (v3 + 1)).toNat).toInt)] (tX10_fault l hf50) cwX10_fault 10 (Nat.le_of_ble_eq_true rfl) rfl kv_X10_fault ke_X10_fault km_L_28 hc49 ⟨Nat.le_of_ble_eq_true rfl, Nat.le_of_ble_eq_true rfl⟩ (Nat.le_of_ble_eq_true rfl) (Nat.le_of_ble_eq_true rfl) (daL_law_2 1 rfl) ?_
  refine GM_aload_n (pc := 352) 2 rfl (daL_law_2 2 rfl) rfl ?_
  refine GM_aload_n (pc := 353) 0 rfl (daL_law_2 3 rfl) rfl ?_
  refine GM_iload_n (pc := 354) 3 rfl (daL_law_2 4 rfl) rfl ?_
  refine GM_iconst (pc := 355) 1 (daL_law_2 5 rfl) rfl (R32_b rfl) ?_
  refine GM_iadd (pc := 356) (daL_law_2 6 rfl) ?_
  refine GM_sld (Ls := Ls) (xs := xs) (pc := 357) rfl hc48.1 hc48.2 (daL_law_2 7 rfl) ?_
  obtain ⟨hc51, h⟩ := chk_inv h
  obtain ⟨r52, hf52, h⟩ := Option.bind_eq_some_iff.mp h
  refine GM_callV0 (pc := 358) [(0, (xs (w32 (v3 + 1)).toNat).toInt)] (tX11_fault l hf52) cwX11_fault 11 (Nat.le_of_ble_eq_true rfl) rfl kv_X11_fault ke_X11_fault km_L_31 hc51 ⟨Nat.le_of_ble_eq_true rfl, Nat.le_of_ble_eq_true rfl⟩ (Nat.le_of_ble_eq_true rfl) (Nat.le_of_ble_eq_true rfl) (daL_law_2 8 rfl) ?_
  refine GM_icmp_eq (pc := 361) 2238 (daL_law_2 9 rfl) rfl (fun c53 => ?_) (fun c53 => ?_)
  · skip
    rw [if_pos c53] at h
    refine GM_iinc (L' := [(3, (0, w32 (v3 + 9))), (0, (3, 34)), (1, (3, v1)), (2, (3, v2))]) (pc := 2238) 3 rfl (daL_law_26 56 rfl) (Nat.le_of_ble_eq_true rfl) rfl ?_
    refine GM_goto (pc := 2241) 18 (daL_law_26 57 rfl) rfl ?_
    refine GM_pick [1, 2, 3, 0] rfl ?_
    cases h
    rw [Nat.zero_add, Nat.zero_add]
    exact hK
  · skip
    rw [if_neg c53] at h
    cases h
set_option maxRecDepth 20000 in
theorem gL_law_2146 (Ls : Nat) (xs : Nat → Int32) (hLs : Ls < 100000) (l : Launch) {F : FI} {v1 v2 v3 : Int} {μ : Mm} {t : ((Int × Mm) ⊕ Mm)} {c0 n0 k n : Nat} (h : jL_law_2146 Ls xs v1 v2 v3 μ = some (t, c0, n0)) (hK : zL_law_18 Ls xs l F v1 v2 k n t) : GM l (mL_law Ls xs) F (c0 + k) (n0 + n) 2146 [(0, (3, 34)), (1, (3, v1)), (2, (3, v2)), (3, (0, v3))] [] μ := by
  unfold jL_law_2146 at h
  refine GM_aload_n (pc := 2146) 1 rfl (daL_law_25 52 rfl) rfl ?_
  refine GM_aload_n (pc := 2147) 0 rfl (daL_law_25 53 rfl) rfl ?_
  refine GM_iload_n (pc := 2148) 3 rfl (daL_law_25 54 rfl) rfl ?_
  refine GM_iconst (pc := 2149) 1 (daL_law_25 55 rfl) rfl (R32_b rfl) ?_
  refine GM_iadd (pc := 2150) (daL_law_25 56 rfl) ?_
  obtain ⟨hc54, h⟩ := chk_inv h
  refine GM_sld (Ls := Ls) (xs := xs) (pc := 2151) rfl hc54.1 hc54.2 (daL_law_25 57 rfl) ?_
  obtain ⟨hc55, h⟩ := chk_inv h
  obtain ⟨r56, hf56, h⟩ := Option.bind_eq_some_iff.mp h
  refine GM_callV0 (pc := 2152) [(0, (xs (w32 (v3 + 1)).toNat).toInt)] (tX10_peaks l hf56) cwX10_peaks 10 (Nat.le_of_ble_eq_true rfl) rfl kv_X10_peaks ke_X10_peaks km_L_183 hc55 ⟨Nat.le_of_ble_eq_true rfl, Nat.le_of_ble_eq_true rfl⟩ (Nat.le_of_ble_eq_true rfl) (Nat.le_of_ble_eq_true rfl) (daL_law_25 58 rfl) ?_
  refine GM_aload_n (pc := 2155) 2 rfl (daL_law_25 59 rfl) rfl ?_
  refine GM_aload_n (pc := 2156) 0 rfl (daL_law_25 60 rfl) rfl ?_
  refine GM_iload_n (pc := 2157) 3 rfl (daL_law_25 61 rfl) rfl ?_
  refine GM_iconst (pc := 2158) 1 (daL_law_25 62 rfl) rfl (R32_b rfl) ?_
  refine GM_iadd (pc := 2159) (daL_law_25 63 rfl) ?_
  refine GM_sld (Ls := Ls) (xs := xs) (pc := 2160) rfl hc54.1 hc54.2 (daL_law_26 0 rfl) ?_
  obtain ⟨hc57, h⟩ := chk_inv h
  obtain ⟨r58, hf58, h⟩ := Option.bind_eq_some_iff.mp h
  refine GM_callV0 (pc := 2161) [(0, (xs (w32 (v3 + 1)).toNat).toInt)] (tX11_peaks l hf58) cwX11_peaks 11 (Nat.le_of_ble_eq_true rfl) rfl kv_X11_peaks ke_X11_peaks km_L_186 hc57 ⟨Nat.le_of_ble_eq_true rfl, Nat.le_of_ble_eq_true rfl⟩ (Nat.le_of_ble_eq_true rfl) (Nat.le_of_ble_eq_true rfl) (daL_law_26 1 rfl) ?_
  refine GM_icmp_eq (pc := 2164) 2238 (daL_law_26 2 rfl) rfl (fun c59 => ?_) (fun c59 => ?_)
  · skip
    rw [if_pos c59] at h
    refine GM_iinc (L' := [(3, (0, w32 (v3 + 9))), (0, (3, 34)), (1, (3, v1)), (2, (3, v2))]) (pc := 2238) 3 rfl (daL_law_26 56 rfl) (Nat.le_of_ble_eq_true rfl) rfl ?_
    refine GM_goto (pc := 2241) 18 (daL_law_26 57 rfl) rfl ?_
    refine GM_pick [1, 2, 3, 0] rfl ?_
    cases h
    rw [Nat.zero_add, Nat.zero_add]
    exact hK
  · skip
    rw [if_neg c59] at h
    cases h
set_option maxRecDepth 20000 in
theorem gL_law_2169 (Ls : Nat) (xs : Nat → Int32) (hLs : Ls < 100000) (l : Launch) {F : FI} {v1 v2 v3 : Int} {μ : Mm} {t : ((Int × Mm) ⊕ Mm)} {c0 n0 k n : Nat} (h : jL_law_2169 Ls xs v1 v2 v3 μ = some (t, c0, n0)) (hK : zL_law_18 Ls xs l F v1 v2 k n t) : GM l (mL_law Ls xs) F (c0 + k) (n0 + n) 2169 [(0, (3, 34)), (1, (3, v1)), (2, (3, v2)), (3, (0, v3))] [] μ := by
  unfold jL_law_2169 at h
  refine GM_aload_n (pc := 2169) 1 rfl (daL_law_26 5 rfl) rfl ?_
  refine GM_aload_n (pc := 2170) 0 rfl (daL_law_26 6 rfl) rfl ?_
  refine GM_iload_n (pc := 2171) 3 rfl (daL_law_26 7 rfl) rfl ?_
  refine GM_iconst (pc := 2172) 1 (daL_law_26 8 rfl) rfl (R32_b rfl) ?_
  refine GM_iadd (pc := 2173) (daL_law_26 9 rfl) ?_
  obtain ⟨hc60, h⟩ := chk_inv h
  refine GM_sld (Ls := Ls) (xs := xs) (pc := 2174) rfl hc60.1 hc60.2 (daL_law_26 10 rfl) ?_
  obtain ⟨hc61, h⟩ := chk_inv h
  obtain ⟨r62, hf62, h⟩ := Option.bind_eq_some_iff.mp h
  refine GM_callV0 (pc := 2175) [(0, (xs (w32 (v3 + 1)).toNat).toInt)] (tX10_count l hf62) cwX10_count 10 (Nat.le_of_ble_eq_true rfl) rfl kv_X10_count ke_X10_count km_L_187 hc61 ⟨Nat.le_of_ble_eq_true rfl, Nat.le_of_ble_eq_true rfl⟩ (Nat.le_of_ble_eq_true rfl) (Nat.le_of_ble_eq_true rfl) (daL_law_26 11 rfl) ?_
  refine GM_aload_n (pc := 2178) 2 rfl (daL_law_26 12 rfl) rfl ?_
  refine GM_aload_n (pc := 2179) 0 rfl (daL_law_26 13 rfl) rfl ?_
  refine GM_iload_n (pc := 2180) 3 rfl (daL_law_26 14 rfl) rfl ?_
  refine GM_iconst (pc := 2181) 1 (daL_law_26 15 rfl) rfl (R32_b rfl) ?_
  refine GM_iadd (pc := 2182) (daL_law_26 16 rfl) ?_
  refine GM_sld (Ls := Ls) (xs := xs) (pc := 2183) rfl hc60.1 hc60.2 (daL_law_26 17 rfl) ?_
  obtain ⟨hc63, h⟩ := chk_inv h
  obtain ⟨r64, hf64, h⟩ := Option.bind_eq_some_iff.mp h
  refine GM_callV0 (pc := 2184) [(0, (xs (w32 (v3 + 1)).toNat).toInt)] (tX11_count l hf64) cwX11_count 11 (Nat.le_of_ble_eq_true rfl) rfl kv_X11_count ke_X11_count km_L_190 hc63 ⟨Nat.le_of_ble_eq_true rfl, Nat.le_of_ble_eq_true rfl⟩ (Nat.le_of_ble_eq_true rfl) (Nat.le_of_ble_eq_true rfl) (daL_law_26 18 rfl) ?_
  refine GM_icmp_eq (pc := 2187) 2238 (daL_law_26 19 rfl) rfl (fun c65 => ?_) (fun c65 => ?_)
  · skip
    rw [if_pos c65] at h
    refine GM_iinc (L' := [(3, (0, w32 (v3 + 9))), (0, (3, 34)), (1, (3, v1)), (2, (3, v2))]) (pc := 2238) 3 rfl (daL_law_26 56 rfl) (Nat.le_of_ble_eq_true rfl) rfl ?_
    refine GM_goto (pc := 2241) 18 (daL_law_26 57 rfl) rfl ?_
    refine GM_pick [1, 2, 3, 0] rfl ?_
    cases h
    rw [Nat.zero_add, Nat.zero_add]
    exact hK
  · skip
    rw [if_neg c65] at h
    cases h
set_option maxRecDepth 20000 in
theorem gL_law_1724 (Ls : Nat) (xs : Nat → Int32) (hLs : Ls < 100000) (l : Launch) {F : FI} {v1 v2 v3 s0 s1 s2 s3 : Int} {μ : Mm} {t : ((Int × Mm) ⊕ Mm)} {c0 n0 k n : Nat} (h : jL_law_1724 Ls xs v1 v2 v3 s0 s1 s2 s3 μ = some (t, c0, n0)) (hK : zL_law_18 Ls xs l F v1 v2 k n t) : GM l (mL_law Ls xs) F (c0 + k) (n0 + n) 1724 [(0, (3, 34)), (1, (3, v1)), (2, (3, v2)), (3, (0, v3))] [(0, s0), (0, s1), (0, s2), (3, s3)] μ := by
  unfold jL_law_1724 at h
  obtain ⟨hc66, h⟩ := chk_inv h
  obtain ⟨⟨⟨r67, μ67⟩, c67, n67⟩, hf67, h⟩ := Option.bind_eq_some_iff.mp h
  dsimp only at h
  obtain ⟨c68, n68, hp, e1, e2⟩ := pay_inv h
  subst e1 e2
  replace h := hp
  clear hp
  rw [Nat.add_assoc, Nat.add_assoc]
  refine GM_callV (pc := 1724) [(0, s2), (0, s1), (0, s0)] (tX10_nearest l hf67) cwX10_nearest 10 (Nat.le_of_ble_eq_true rfl) rfl kv_X10_nearest ke_X10_nearest km_L_149 hc66 ⟨Nat.le_of_ble_eq_true rfl, Nat.le_of_ble_eq_true rfl⟩ (Nat.le_of_ble_eq_true rfl) (Nat.le_of_ble_eq_true rfl) (daL_law_20 20 rfl) ?_
  refine GM_aload_n (pc := 1727) 2 rfl (daL_law_20 21 rfl) rfl ?_
  refine GM_aload_n (pc := 1728) 0 rfl (daL_law_20 22 rfl) rfl ?_
  refine GM_iload_n (pc := 1729) 3 rfl (daL_law_20 23 rfl) rfl ?_
  refine GM_iconst (pc := 1730) 1 (daL_law_20 24 rfl) rfl (R32_b rfl) ?_
  refine GM_iadd (pc := 1731) (daL_law_20 25 rfl) ?_
  obtain ⟨hc69, h⟩ := chk_inv h
  refine GM_sld (Ls := Ls) (xs := xs) (pc := 1732) rfl hc69.1 hc69.2 (daL_law_20 26 rfl) ?_
  refine GM_aload_n (pc := 1733) 0 rfl (daL_law_20 27 rfl) rfl ?_
  refine GM_iload_n (pc := 1734) 3 rfl (daL_law_20 28 rfl) rfl ?_
  refine GM_iconst (pc := 1735) 2 (daL_law_20 29 rfl) rfl (R32_b rfl) ?_
  refine GM_iadd (pc := 1736) (daL_law_20 30 rfl) ?_
  obtain ⟨hc70, h⟩ := chk_inv h
  refine GM_sld (Ls := Ls) (xs := xs) (pc := 1737) rfl hc70.1 hc70.2 (daL_law_20 31 rfl) ?_
  refine GM_aload_n (pc := 1738) 0 rfl (daL_law_20 32 rfl) rfl ?_
  refine GM_iload_n (pc := 1739) 3 rfl (daL_law_20 33 rfl) rfl ?_
  refine GM_iconst (pc := 1740) 3 (daL_law_20 34 rfl) rfl (R32_b rfl) ?_
  refine GM_iadd (pc := 1741) (daL_law_20 35 rfl) ?_
  obtain ⟨hc71, h⟩ := chk_inv h
  refine GM_sld (Ls := Ls) (xs := xs) (pc := 1742) rfl hc71.1 hc71.2 (daL_law_20 36 rfl) ?_
  refine GM_if_eq (pc := 1743) 1750 (daL_law_20 37 rfl) rfl (fun c72 => ?_) (fun c72 => ?_)
  · skip
    rw [if_pos c72] at h
    refine GM_iconst (pc := 1750) 0 (daL_law_20 40 rfl) rfl (R32_b rfl) ?_
    exact gL_law_1751 Ls xs hLs l h hK
  · skip
    rw [if_neg c72] at h
    refine GM_iconst (pc := 1746) 1 (daL_law_20 38 rfl) rfl (R32_b rfl) ?_
    refine GM_goto (pc := 1747) 1751 (daL_law_20 39 rfl) rfl ?_
    exact gL_law_1751 Ls xs hLs l h hK
set_option maxRecDepth 20000 in
theorem gL_law_1098 (Ls : Nat) (xs : Nat → Int32) (hLs : Ls < 100000) (l : Launch) {F : FI} {v1 v2 v3 s0 s1 s2 s3 : Int} {μ : Mm} {t : ((Int × Mm) ⊕ Mm)} {c0 n0 k n : Nat} (h : jL_law_1098 Ls xs v1 v2 v3 s0 s1 s2 s3 μ = some (t, c0, n0)) (hK : zL_law_18 Ls xs l F v1 v2 k n t) : GM l (mL_law Ls xs) F (c0 + k) (n0 + n) 1098 [(0, (3, 34)), (1, (3, v1)), (2, (3, v2)), (3, (0, v3))] [(0, s0), (0, s1), (0, s2), (3, s3)] μ := by
  unfold jL_law_1098 at h
  obtain ⟨hc73, h⟩ := chk_inv h
  obtain ⟨⟨⟨r74, μ74⟩, c74, n74⟩, hf74, h⟩ := Option.bind_eq_some_iff.mp h
  dsimp only at h
  obtain ⟨c75, n75, hp, e1, e2⟩ := pay_inv h
  subst e1 e2
  replace h := hp
  clear hp
  rw [Nat.add_assoc, Nat.add_assoc]
  refine GM_callV (pc := 1098) [(0, s2), (0, s1), (0, s0)] (tX10_since l hf74) cwX10_since 10 (Nat.le_of_ble_eq_true rfl) rfl kv_X10_since ke_X10_since km_L_99 hc73 ⟨Nat.le_of_ble_eq_true rfl, Nat.le_of_ble_eq_true rfl⟩ (Nat.le_of_ble_eq_true rfl) (Nat.le_of_ble_eq_true rfl) (daL_law_12 4 rfl) ?_
  refine GM_aload_n (pc := 1101) 2 rfl (daL_law_12 5 rfl) rfl ?_
  refine GM_aload_n (pc := 1102) 0 rfl (daL_law_12 6 rfl) rfl ?_
  refine GM_iload_n (pc := 1103) 3 rfl (daL_law_12 7 rfl) rfl ?_
  refine GM_iconst (pc := 1104) 1 (daL_law_12 8 rfl) rfl (R32_b rfl) ?_
  refine GM_iadd (pc := 1105) (daL_law_12 9 rfl) ?_
  obtain ⟨hc76, h⟩ := chk_inv h
  refine GM_sld (Ls := Ls) (xs := xs) (pc := 1106) rfl hc76.1 hc76.2 (daL_law_12 10 rfl) ?_
  refine GM_aload_n (pc := 1107) 0 rfl (daL_law_12 11 rfl) rfl ?_
  refine GM_iload_n (pc := 1108) 3 rfl (daL_law_12 12 rfl) rfl ?_
  refine GM_iconst (pc := 1109) 2 (daL_law_12 13 rfl) rfl (R32_b rfl) ?_
  refine GM_iadd (pc := 1110) (daL_law_12 14 rfl) ?_
  obtain ⟨hc77, h⟩ := chk_inv h
  refine GM_sld (Ls := Ls) (xs := xs) (pc := 1111) rfl hc77.1 hc77.2 (daL_law_12 15 rfl) ?_
  refine GM_aload_n (pc := 1112) 0 rfl (daL_law_12 16 rfl) rfl ?_
  refine GM_iload_n (pc := 1113) 3 rfl (daL_law_12 17 rfl) rfl ?_
  refine GM_iconst (pc := 1114) 3 (daL_law_12 18 rfl) rfl (R32_b rfl) ?_
  refine GM_iadd (pc := 1115) (daL_law_12 19 rfl) ?_
  obtain ⟨hc78, h⟩ := chk_inv h
  refine GM_sld (Ls := Ls) (xs := xs) (pc := 1116) rfl hc78.1 hc78.2 (daL_law_12 20 rfl) ?_
  refine GM_if_eq (pc := 1117) 1124 (daL_law_12 21 rfl) rfl (fun c79 => ?_) (fun c79 => ?_)
  · skip
    rw [if_pos c79] at h
    refine GM_iconst (pc := 1124) 0 (daL_law_12 24 rfl) rfl (R32_b rfl) ?_
    exact gL_law_1125 Ls xs hLs l h hK
  · skip
    rw [if_neg c79] at h
    refine GM_iconst (pc := 1120) 1 (daL_law_12 22 rfl) rfl (R32_b rfl) ?_
    refine GM_goto (pc := 1121) 1125 (daL_law_12 23 rfl) rfl ?_
    exact gL_law_1125 Ls xs hLs l h hK
set_option maxRecDepth 20000 in
theorem gL_law_399 (Ls : Nat) (xs : Nat → Int32) (hLs : Ls < 100000) (l : Launch) {F : FI} {v1 v2 v3 : Int} {μ : Mm} {t : ((Int × Mm) ⊕ Mm)} {c0 n0 k n : Nat} (h : jL_law_399 Ls xs v1 v2 v3 μ = some (t, c0, n0)) (hK : zL_law_18 Ls xs l F v1 v2 k n t) : GM l (mL_law Ls xs) F (c0 + k) (n0 + n) 399 [(0, (3, 34)), (1, (3, v1)), (2, (3, v2)), (3, (0, v3))] [] μ := by
  unfold jL_law_399 at h
  refine GM_aload_n (pc := 399) 1 rfl (daL_law_2 39 rfl) rfl ?_
  refine GM_aload_n (pc := 400) 0 rfl (daL_law_2 40 rfl) rfl ?_
  refine GM_iload_n (pc := 401) 3 rfl (daL_law_2 41 rfl) rfl ?_
  refine GM_iconst (pc := 402) 1 (daL_law_2 42 rfl) rfl (R32_b rfl) ?_
  refine GM_iadd (pc := 403) (daL_law_2 43 rfl) ?_
  obtain ⟨hc80, h⟩ := chk_inv h
  refine GM_sld (Ls := Ls) (xs := xs) (pc := 404) rfl hc80.1 hc80.2 (daL_law_2 44 rfl) ?_
  refine GM_aload_n (pc := 405) 0 rfl (daL_law_2 45 rfl) rfl ?_
  refine GM_iload_n (pc := 406) 3 rfl (daL_law_2 46 rfl) rfl ?_
  refine GM_iconst (pc := 407) 2 (daL_law_2 47 rfl) rfl (R32_b rfl) ?_
  refine GM_iadd (pc := 408) (daL_law_2 48 rfl) ?_
  obtain ⟨hc81, h⟩ := chk_inv h
  refine GM_sld (Ls := Ls) (xs := xs) (pc := 409) rfl hc81.1 hc81.2 (daL_law_2 49 rfl) ?_
  obtain ⟨hc82, h⟩ := chk_inv h
  obtain ⟨r83, hf83, h⟩ := Option.bind_eq_some_iff.mp h
  refine GM_callV0 (pc := 410) [(0, (xs (w32 (v3 + 1)).toNat).toInt), (0, (xs (w32 (v3 + 2)).toNat).toInt)] (tX10_height l hf83) cwX10_height 10 (Nat.le_of_ble_eq_true rfl) rfl kv_X10_height ke_X10_height km_L_36 hc82 ⟨Nat.le_of_ble_eq_true rfl, Nat.le_of_ble_eq_true rfl⟩ (Nat.le_of_ble_eq_true rfl) (Nat.le_of_ble_eq_true rfl) (daL_law_2 50 rfl) ?_
  refine GM_aload_n (pc := 413) 2 rfl (daL_law_2 51 rfl) rfl ?_
  refine GM_aload_n (pc := 414) 0 rfl (daL_law_2 52 rfl) rfl ?_
  refine GM_iload_n (pc := 415) 3 rfl (daL_law_2 53 rfl) rfl ?_
  refine GM_iconst (pc := 416) 1 (daL_law_2 54 rfl) rfl (R32_b rfl) ?_
  refine GM_iadd (pc := 417) (daL_law_2 55 rfl) ?_
  refine GM_sld (Ls := Ls) (xs := xs) (pc := 418) rfl hc80.1 hc80.2 (daL_law_2 56 rfl) ?_
  refine GM_aload_n (pc := 419) 0 rfl (daL_law_2 57 rfl) rfl ?_
  refine GM_iload_n (pc := 420) 3 rfl (daL_law_2 58 rfl) rfl ?_
  refine GM_iconst (pc := 421) 2 (daL_law_2 59 rfl) rfl (R32_b rfl) ?_
  refine GM_iadd (pc := 422) (daL_law_2 60 rfl) ?_
  refine GM_sld (Ls := Ls) (xs := xs) (pc := 423) rfl hc81.1 hc81.2 (daL_law_2 61 rfl) ?_
  obtain ⟨hc84, h⟩ := chk_inv h
  obtain ⟨r85, hf85, h⟩ := Option.bind_eq_some_iff.mp h
  refine GM_callV0 (pc := 424) [(0, (xs (w32 (v3 + 1)).toNat).toInt), (0, (xs (w32 (v3 + 2)).toNat).toInt)] (tX11_height l hf85) cwX11_height 11 (Nat.le_of_ble_eq_true rfl) rfl kv_X11_height ke_X11_height km_L_39 hc84 ⟨Nat.le_of_ble_eq_true rfl, Nat.le_of_ble_eq_true rfl⟩ (Nat.le_of_ble_eq_true rfl) (Nat.le_of_ble_eq_true rfl) (daL_law_2 62 rfl) ?_
  refine GM_icmp_eq (pc := 427) 2238 (daL_law_2 63 rfl) rfl (fun c86 => ?_) (fun c86 => ?_)
  · skip
    rw [if_pos c86] at h
    refine GM_iinc (L' := [(3, (0, w32 (v3 + 9))), (0, (3, 34)), (1, (3, v1)), (2, (3, v2))]) (pc := 2238) 3 rfl (daL_law_26 56 rfl) (Nat.le_of_ble_eq_true rfl) rfl ?_
    refine GM_goto (pc := 2241) 18 (daL_law_26 57 rfl) rfl ?_
    refine GM_pick [1, 2, 3, 0] rfl ?_
    cases h
    rw [Nat.zero_add, Nat.zero_add]
    exact hK
  · skip
    rw [if_neg c86] at h
    cases h
set_option maxRecDepth 20000 in
theorem gL_law_1041 (Ls : Nat) (xs : Nat → Int32) (hLs : Ls < 100000) (l : Launch) {F : FI} {v1 v2 v3 : Int} {μ : Mm} {t : ((Int × Mm) ⊕ Mm)} {c0 n0 k n : Nat} (h : jL_law_1041 Ls xs v1 v2 v3 μ = some (t, c0, n0)) (hK : zL_law_18 Ls xs l F v1 v2 k n t) : GM l (mL_law Ls xs) F (c0 + k) (n0 + n) 1041 [(0, (3, 34)), (1, (3, v1)), (2, (3, v2)), (3, (0, v3))] [] μ := by
  unfold jL_law_1041 at h
  refine GM_aload_n (pc := 1041) 1 rfl (daL_law_11 21 rfl) rfl ?_
  refine GM_aload_n (pc := 1042) 0 rfl (daL_law_11 22 rfl) rfl ?_
  refine GM_iload_n (pc := 1043) 3 rfl (daL_law_11 23 rfl) rfl ?_
  refine GM_iconst (pc := 1044) 1 (daL_law_11 24 rfl) rfl (R32_b rfl) ?_
  refine GM_iadd (pc := 1045) (daL_law_11 25 rfl) ?_
  obtain ⟨hc87, h⟩ := chk_inv h
  refine GM_sld (Ls := Ls) (xs := xs) (pc := 1046) rfl hc87.1 hc87.2 (daL_law_11 26 rfl) ?_
  refine GM_aload_n (pc := 1047) 0 rfl (daL_law_11 27 rfl) rfl ?_
  refine GM_iload_n (pc := 1048) 3 rfl (daL_law_11 28 rfl) rfl ?_
  refine GM_iconst (pc := 1049) 2 (daL_law_11 29 rfl) rfl (R32_b rfl) ?_
  refine GM_iadd (pc := 1050) (daL_law_11 30 rfl) ?_
  obtain ⟨hc88, h⟩ := chk_inv h
  refine GM_sld (Ls := Ls) (xs := xs) (pc := 1051) rfl hc88.1 hc88.2 (daL_law_11 31 rfl) ?_
  obtain ⟨hc89, h⟩ := chk_inv h
  obtain ⟨⟨⟨r90, μ90⟩, c90, n90⟩, hf90, h⟩ := Option.bind_eq_some_iff.mp h
  dsimp only at h
  obtain ⟨c91, n91, hp, e1, e2⟩ := pay_inv h
  subst e1 e2
  replace h := hp
  clear hp
  rw [Nat.add_assoc, Nat.add_assoc]
  refine GM_callV (pc := 1052) [(0, (xs (w32 (v3 + 1)).toNat).toInt), (0, (xs (w32 (v3 + 2)).toNat).toInt)] (tX10_doubt l hf90) cwX10_doubt 10 (Nat.le_of_ble_eq_true rfl) rfl kv_X10_doubt ke_X10_doubt km_L_95 hc89 ⟨Nat.le_of_ble_eq_true rfl, Nat.le_of_ble_eq_true rfl⟩ (Nat.le_of_ble_eq_true rfl) (Nat.le_of_ble_eq_true rfl) (daL_law_11 32 rfl) ?_
  refine GM_aload_n (pc := 1055) 2 rfl (daL_law_11 33 rfl) rfl ?_
  refine GM_aload_n (pc := 1056) 0 rfl (daL_law_11 34 rfl) rfl ?_
  refine GM_iload_n (pc := 1057) 3 rfl (daL_law_11 35 rfl) rfl ?_
  refine GM_iconst (pc := 1058) 1 (daL_law_11 36 rfl) rfl (R32_b rfl) ?_
  refine GM_iadd (pc := 1059) (daL_law_11 37 rfl) ?_
  refine GM_sld (Ls := Ls) (xs := xs) (pc := 1060) rfl hc87.1 hc87.2 (daL_law_11 38 rfl) ?_
  refine GM_aload_n (pc := 1061) 0 rfl (daL_law_11 39 rfl) rfl ?_
  refine GM_iload_n (pc := 1062) 3 rfl (daL_law_11 40 rfl) rfl ?_
  refine GM_iconst (pc := 1063) 2 (daL_law_11 41 rfl) rfl (R32_b rfl) ?_
  refine GM_iadd (pc := 1064) (daL_law_11 42 rfl) ?_
  refine GM_sld (Ls := Ls) (xs := xs) (pc := 1065) rfl hc88.1 hc88.2 (daL_law_11 43 rfl) ?_
  obtain ⟨hc92, h⟩ := chk_inv h
  obtain ⟨⟨r93, μ93⟩, hf93, h⟩ := Option.bind_eq_some_iff.mp h
  dsimp only at h
  refine GM_callV0 (pc := 1066) [(0, (xs (w32 (v3 + 1)).toNat).toInt), (0, (xs (w32 (v3 + 2)).toNat).toInt)] (tX11_doubt l hf93) cwX11_doubt 11 (Nat.le_of_ble_eq_true rfl) rfl kv_X11_doubt ke_X11_doubt km_L_98 hc92 ⟨Nat.le_of_ble_eq_true rfl, Nat.le_of_ble_eq_true rfl⟩ (Nat.le_of_ble_eq_true rfl) (Nat.le_of_ble_eq_true rfl) (daL_law_11 44 rfl) ?_
  refine GM_icmp_eq (pc := 1069) 2238 (daL_law_11 45 rfl) rfl (fun c94 => ?_) (fun c94 => ?_)
  · skip
    rw [if_pos c94] at h
    refine GM_iinc (L' := [(3, (0, w32 (v3 + 9))), (0, (3, 34)), (1, (3, v1)), (2, (3, v2))]) (pc := 2238) 3 rfl (daL_law_26 56 rfl) (Nat.le_of_ble_eq_true rfl) rfl ?_
    refine GM_goto (pc := 2241) 18 (daL_law_26 57 rfl) rfl ?_
    refine GM_pick [1, 2, 3, 0] rfl ?_
    cases h
    rw [Nat.zero_add, Nat.zero_add]
    exact hK
  · skip
    rw [if_neg c94] at h
    cases h
set_option maxRecDepth 20000 in
theorem gL_law_310 (Ls : Nat) (xs : Nat → Int32) (hLs : Ls < 100000) (l : Launch) {F : FI} {v1 v2 v3 : Int} {μ : Mm} {t : ((Int × Mm) ⊕ Mm)} {c0 n0 k n : Nat} (h : jL_law_310 Ls xs v1 v2 v3 μ = some (t, c0, n0)) (hK : zL_law_18 Ls xs l F v1 v2 k n t) : GM l (mL_law Ls xs) F (c0 + k) (n0 + n) 310 [(0, (3, 34)), (1, (3, v1)), (2, (3, v2)), (3, (0, v3))] [] μ := by
  unfold jL_law_310 at h
  refine GM_aload_n (pc := 310) 1 rfl (daL_law_1 32 rfl) rfl ?_
  refine GM_aload_n (pc := 311) 0 rfl (daL_law_1 33 rfl) rfl ?_
  refine GM_iload_n (pc := 312) 3 rfl (daL_law_1 34 rfl) rfl ?_
  refine GM_iconst (pc := 313) 1 (daL_law_1 35 rfl) rfl (R32_b rfl) ?_
  refine GM_iadd (pc := 314) (daL_law_1 36 rfl) ?_
  obtain ⟨hc95, h⟩ := chk_inv h
  refine GM_sld (Ls := Ls) (xs := xs) (pc := 315) rfl hc95.1 hc95.2 (daL_law_1 37 rfl) ?_
  refine GM_aload_n (pc := 316) 0 rfl (daL_law_1 38 rfl) rfl ?_
  refine GM_iload_n (pc := 317) 3 rfl (daL_law_1 39 rfl) rfl ?_
  refine GM_iconst (pc := 318) 2 (daL_law_1 40 rfl) rfl (R32_b rfl) ?_
  refine GM_iadd (pc := 319) (daL_law_1 41 rfl) ?_
  obtain ⟨hc96, h⟩ := chk_inv h
  refine GM_sld (Ls := Ls) (xs := xs) (pc := 320) rfl hc96.1 hc96.2 (daL_law_1 42 rfl) ?_
  obtain ⟨hc97, h⟩ := chk_inv h
  obtain ⟨⟨r98, μ98⟩, hf98, h⟩ := Option.bind_eq_some_iff.mp h
  dsimp only at h
  refine GM_callV0 (pc := 321) [(0, (xs (w32 (v3 + 1)).toNat).toInt), (0, (xs (w32 (v3 + 2)).toNat).toInt)] (tX10_text l hf98) cwX10_text 10 (Nat.le_of_ble_eq_true rfl) rfl kv_X10_text ke_X10_text km_L_23 hc97 ⟨Nat.le_of_ble_eq_true rfl, Nat.le_of_ble_eq_true rfl⟩ (Nat.le_of_ble_eq_true rfl) (Nat.le_of_ble_eq_true rfl) (daL_law_1 43 rfl) ?_
  refine GM_aload_n (pc := 324) 2 rfl (daL_law_1 44 rfl) rfl ?_
  refine GM_aload_n (pc := 325) 0 rfl (daL_law_1 45 rfl) rfl ?_
  refine GM_iload_n (pc := 326) 3 rfl (daL_law_1 46 rfl) rfl ?_
  refine GM_iconst (pc := 327) 1 (daL_law_1 47 rfl) rfl (R32_b rfl) ?_
  refine GM_iadd (pc := 328) (daL_law_1 48 rfl) ?_
  refine GM_sld (Ls := Ls) (xs := xs) (pc := 329) rfl hc95.1 hc95.2 (daL_law_1 49 rfl) ?_
  refine GM_aload_n (pc := 330) 0 rfl (daL_law_1 50 rfl) rfl ?_
  refine GM_iload_n (pc := 331) 3 rfl (daL_law_1 51 rfl) rfl ?_
  refine GM_iconst (pc := 332) 2 (daL_law_1 52 rfl) rfl (R32_b rfl) ?_
  refine GM_iadd (pc := 333) (daL_law_1 53 rfl) ?_
  refine GM_sld (Ls := Ls) (xs := xs) (pc := 334) rfl hc96.1 hc96.2 (daL_law_1 54 rfl) ?_
  obtain ⟨hc99, h⟩ := chk_inv h
  obtain ⟨⟨r100, μ100⟩, hf100, h⟩ := Option.bind_eq_some_iff.mp h
  dsimp only at h
  refine GM_callV0 (pc := 335) [(0, (xs (w32 (v3 + 1)).toNat).toInt), (0, (xs (w32 (v3 + 2)).toNat).toInt)] (tX11_text l hf100) cwX11_text 11 (Nat.le_of_ble_eq_true rfl) rfl kv_X11_text ke_X11_text km_L_27 hc99 ⟨Nat.le_of_ble_eq_true rfl, Nat.le_of_ble_eq_true rfl⟩ (Nat.le_of_ble_eq_true rfl) (Nat.le_of_ble_eq_true rfl) (daL_law_1 55 rfl) ?_
  refine GM_icmp_eq (pc := 338) 2238 (daL_law_1 56 rfl) rfl (fun c101 => ?_) (fun c101 => ?_)
  · skip
    rw [if_pos c101] at h
    refine GM_iinc (L' := [(3, (0, w32 (v3 + 9))), (0, (3, 34)), (1, (3, v1)), (2, (3, v2))]) (pc := 2238) 3 rfl (daL_law_26 56 rfl) (Nat.le_of_ble_eq_true rfl) rfl ?_
    refine GM_goto (pc := 2241) 18 (daL_law_26 57 rfl) rfl ?_
    refine GM_pick [1, 2, 3, 0] rfl ?_
    cases h
    rw [Nat.zero_add, Nat.zero_add]
    exact hK
  · skip
    rw [if_neg c101] at h
    cases h
set_option maxRecDepth 20000 in
theorem gL_law_2113 (Ls : Nat) (xs : Nat → Int32) (hLs : Ls < 100000) (l : Launch) {F : FI} {v1 v2 v3 : Int} {μ : Mm} {t : ((Int × Mm) ⊕ Mm)} {c0 n0 k n : Nat} (h : jL_law_2113 Ls xs v1 v2 v3 μ = some (t, c0, n0)) (hK : zL_law_18 Ls xs l F v1 v2 k n t) : GM l (mL_law Ls xs) F (c0 + k) (n0 + n) 2113 [(0, (3, 34)), (1, (3, v1)), (2, (3, v2)), (3, (0, v3))] [] μ := by
  unfold jL_law_2113 at h
  refine GM_aload_n (pc := 2113) 1 rfl (daL_law_25 25 rfl) rfl ?_
  refine GM_aload_n (pc := 2114) 0 rfl (daL_law_25 26 rfl) rfl ?_
  refine GM_iload_n (pc := 2115) 3 rfl (daL_law_25 27 rfl) rfl ?_
  refine GM_iconst (pc := 2116) 1 (daL_law_25 28 rfl) rfl (R32_b rfl) ?_
  refine GM_iadd (pc := 2117) (daL_law_25 29 rfl) ?_
  obtain ⟨hc102, h⟩ := chk_inv h
  refine GM_sld (Ls := Ls) (xs := xs) (pc := 2118) rfl hc102.1 hc102.2 (daL_law_25 30 rfl) ?_
  refine GM_aload_n (pc := 2119) 0 rfl (daL_law_25 31 rfl) rfl ?_
  refine GM_iload_n (pc := 2120) 3 rfl (daL_law_25 32 rfl) rfl ?_
  refine GM_iconst (pc := 2121) 2 (daL_law_25 33 rfl) rfl (R32_b rfl) ?_
  refine GM_iadd (pc := 2122) (daL_law_25 34 rfl) ?_
  obtain ⟨hc103, h⟩ := chk_inv h
  refine GM_sld (Ls := Ls) (xs := xs) (pc := 2123) rfl hc103.1 hc103.2 (daL_law_25 35 rfl) ?_
  obtain ⟨hc104, h⟩ := chk_inv h
  obtain ⟨⟨r105, μ105⟩, hf105, h⟩ := Option.bind_eq_some_iff.mp h
  dsimp only at h
  refine GM_callV0 (pc := 2124) [(0, (xs (w32 (v3 + 1)).toNat).toInt), (0, (xs (w32 (v3 + 2)).toNat).toInt)] (tX10_proud l hf105) cwX10_proud 10 (Nat.le_of_ble_eq_true rfl) rfl kv_X10_proud ke_X10_proud km_L_179 hc104 ⟨Nat.le_of_ble_eq_true rfl, Nat.le_of_ble_eq_true rfl⟩ (Nat.le_of_ble_eq_true rfl) (Nat.le_of_ble_eq_true rfl) (daL_law_25 36 rfl) ?_
  refine GM_aload_n (pc := 2127) 2 rfl (daL_law_25 37 rfl) rfl ?_
  refine GM_aload_n (pc := 2128) 0 rfl (daL_law_25 38 rfl) rfl ?_
  refine GM_iload_n (pc := 2129) 3 rfl (daL_law_25 39 rfl) rfl ?_
  refine GM_iconst (pc := 2130) 1 (daL_law_25 40 rfl) rfl (R32_b rfl) ?_
  refine GM_iadd (pc := 2131) (daL_law_25 41 rfl) ?_
  refine GM_sld (Ls := Ls) (xs := xs) (pc := 2132) rfl hc102.1 hc102.2 (daL_law_25 42 rfl) ?_
  refine GM_aload_n (pc := 2133) 0 rfl (daL_law_25 43 rfl) rfl ?_
  refine GM_iload_n (pc := 2134) 3 rfl (daL_law_25 44 rfl) rfl ?_
  refine GM_iconst (pc := 2135) 2 (daL_law_25 45 rfl) rfl (R32_b rfl) ?_
  refine GM_iadd (pc := 2136) (daL_law_25 46 rfl) ?_
  refine GM_sld (Ls := Ls) (xs := xs) (pc := 2137) rfl hc103.1 hc103.2 (daL_law_25 47 rfl) ?_
  obtain ⟨hc106, h⟩ := chk_inv h
  obtain ⟨⟨r107, μ107⟩, hf107, h⟩ := Option.bind_eq_some_iff.mp h
  dsimp only at h
  refine GM_callV0 (pc := 2138) [(0, (xs (w32 (v3 + 1)).toNat).toInt), (0, (xs (w32 (v3 + 2)).toNat).toInt)] (tX11_proud l hf107) cwX11_proud 11 (Nat.le_of_ble_eq_true rfl) rfl kv_X11_proud ke_X11_proud km_L_182 hc106 ⟨Nat.le_of_ble_eq_true rfl, Nat.le_of_ble_eq_true rfl⟩ (Nat.le_of_ble_eq_true rfl) (Nat.le_of_ble_eq_true rfl) (daL_law_25 48 rfl) ?_
  refine GM_icmp_eq (pc := 2141) 2238 (daL_law_25 49 rfl) rfl (fun c108 => ?_) (fun c108 => ?_)
  · skip
    rw [if_pos c108] at h
    refine GM_iinc (L' := [(3, (0, w32 (v3 + 9))), (0, (3, 34)), (1, (3, v1)), (2, (3, v2))]) (pc := 2238) 3 rfl (daL_law_26 56 rfl) (Nat.le_of_ble_eq_true rfl) rfl ?_
    refine GM_goto (pc := 2241) 18 (daL_law_26 57 rfl) rfl ?_
    refine GM_pick [1, 2, 3, 0] rfl ?_
    cases h
    rw [Nat.zero_add, Nat.zero_add]
    exact hK
  · skip
    rw [if_neg c108] at h
    cases h
set_option maxRecDepth 20000 in
theorem gL_law_1355 (Ls : Nat) (xs : Nat → Int32) (hLs : Ls < 100000) (l : Launch) {F : FI} {v1 v2 v3 : Int} {μ : Mm} {t : ((Int × Mm) ⊕ Mm)} {c0 n0 k n : Nat} (h : jL_law_1355 Ls xs v1 v2 v3 μ = some (t, c0, n0)) (hK : zL_law_18 Ls xs l F v1 v2 k n t) : GM l (mL_law Ls xs) F (c0 + k) (n0 + n) 1355 [(0, (3, 34)), (1, (3, v1)), (2, (3, v2)), (3, (0, v3))] [] μ := by
  unfold jL_law_1355 at h
  refine GM_aload_n (pc := 1355) 1 rfl (daL_law_15 35 rfl) rfl ?_
  refine GM_aload_n (pc := 1356) 0 rfl (daL_law_15 36 rfl) rfl ?_
  refine GM_iload_n (pc := 1357) 3 rfl (daL_law_15 37 rfl) rfl ?_
  refine GM_iconst (pc := 1358) 1 (daL_law_15 38 rfl) rfl (R32_b rfl) ?_
  refine GM_iadd (pc := 1359) (daL_law_15 39 rfl) ?_
  obtain ⟨hc109, h⟩ := chk_inv h
  refine GM_sld (Ls := Ls) (xs := xs) (pc := 1360) rfl hc109.1 hc109.2 (daL_law_15 40 rfl) ?_
  refine GM_aload_n (pc := 1361) 0 rfl (daL_law_15 41 rfl) rfl ?_
  refine GM_iload_n (pc := 1362) 3 rfl (daL_law_15 42 rfl) rfl ?_
  refine GM_iconst (pc := 1363) 2 (daL_law_15 43 rfl) rfl (R32_b rfl) ?_
  refine GM_iadd (pc := 1364) (daL_law_15 44 rfl) ?_
  obtain ⟨hc110, h⟩ := chk_inv h
  refine GM_sld (Ls := Ls) (xs := xs) (pc := 1365) rfl hc110.1 hc110.2 (daL_law_15 45 rfl) ?_
  obtain ⟨hc111, h⟩ := chk_inv h
  obtain ⟨⟨⟨r112, μ112⟩, c112, n112⟩, hf112, h⟩ := Option.bind_eq_some_iff.mp h
  dsimp only at h
  obtain ⟨c113, n113, hp, e1, e2⟩ := pay_inv h
  subst e1 e2
  replace h := hp
  clear hp
  rw [Nat.add_assoc, Nat.add_assoc]
  refine GM_callV (pc := 1366) [(0, (xs (w32 (v3 + 1)).toNat).toInt), (0, (xs (w32 (v3 + 2)).toNat).toInt)] (tX10_known l hf112) cwX10_known 10 (Nat.le_of_ble_eq_true rfl) rfl kv_X10_known ke_X10_known km_L_120 hc111 ⟨Nat.le_of_ble_eq_true rfl, Nat.le_of_ble_eq_true rfl⟩ (Nat.le_of_ble_eq_true rfl) (Nat.le_of_ble_eq_true rfl) (daL_law_15 46 rfl) ?_
  refine GM_aload_n (pc := 1369) 2 rfl (daL_law_15 47 rfl) rfl ?_
  refine GM_aload_n (pc := 1370) 0 rfl (daL_law_15 48 rfl) rfl ?_
  refine GM_iload_n (pc := 1371) 3 rfl (daL_law_15 49 rfl) rfl ?_
  refine GM_iconst (pc := 1372) 1 (daL_law_15 50 rfl) rfl (R32_b rfl) ?_
  refine GM_iadd (pc := 1373) (daL_law_15 51 rfl) ?_
  refine GM_sld (Ls := Ls) (xs := xs) (pc := 1374) rfl hc109.1 hc109.2 (daL_law_15 52 rfl) ?_
  refine GM_aload_n (pc := 1375) 0 rfl (daL_law_15 53 rfl) rfl ?_
  refine GM_iload_n (pc := 1376) 3 rfl (daL_law_15 54 rfl) rfl ?_
  refine GM_iconst (pc := 1377) 2 (daL_law_15 55 rfl) rfl (R32_b rfl) ?_
  refine GM_iadd (pc := 1378) (daL_law_15 56 rfl) ?_
  refine GM_sld (Ls := Ls) (xs := xs) (pc := 1379) rfl hc110.1 hc110.2 (daL_law_15 57 rfl) ?_
  obtain ⟨hc114, h⟩ := chk_inv h
  obtain ⟨⟨r115, μ115⟩, hf115, h⟩ := Option.bind_eq_some_iff.mp h
  dsimp only at h
  refine GM_callV0 (pc := 1380) [(0, (xs (w32 (v3 + 1)).toNat).toInt), (0, (xs (w32 (v3 + 2)).toNat).toInt)] (tX11_known l hf115) cwX11_known 11 (Nat.le_of_ble_eq_true rfl) rfl kv_X11_known ke_X11_known km_L_123 hc114 ⟨Nat.le_of_ble_eq_true rfl, Nat.le_of_ble_eq_true rfl⟩ (Nat.le_of_ble_eq_true rfl) (Nat.le_of_ble_eq_true rfl) (daL_law_15 58 rfl) ?_
  refine GM_icmp_eq (pc := 1383) 2238 (daL_law_15 59 rfl) rfl (fun c116 => ?_) (fun c116 => ?_)
  · skip
    rw [if_pos c116] at h
    refine GM_iinc (L' := [(3, (0, w32 (v3 + 9))), (0, (3, 34)), (1, (3, v1)), (2, (3, v2))]) (pc := 2238) 3 rfl (daL_law_26 56 rfl) (Nat.le_of_ble_eq_true rfl) rfl ?_
    refine GM_goto (pc := 2241) 18 (daL_law_26 57 rfl) rfl ?_
    refine GM_pick [1, 2, 3, 0] rfl ?_
    cases h
    rw [Nat.zero_add, Nat.zero_add]
    exact hK
  · skip
    rw [if_neg c116] at h
    cases h
set_option maxRecDepth 20000 in
theorem gL_law_475 (Ls : Nat) (xs : Nat → Int32) (hLs : Ls < 100000) (l : Launch) {F : FI} {v1 v2 v3 : Int} {μ : Mm} {t : ((Int × Mm) ⊕ Mm)} {c0 n0 k n : Nat} (h : jL_law_475 Ls xs v1 v2 v3 μ = some (t, c0, n0)) (hK : zL_law_18 Ls xs l F v1 v2 k n t) : GM l (mL_law Ls xs) F (c0 + k) (n0 + n) 475 [(0, (3, 34)), (1, (3, v1)), (2, (3, v2)), (3, (0, v3))] [] μ := by
  unfold jL_law_475 at h
  refine GM_aload_n (pc := 475) 1 rfl (daL_law_3 39 rfl) rfl ?_
  refine GM_aload_n (pc := 476) 0 rfl (daL_law_3 40 rfl) rfl ?_
  refine GM_iload_n (pc := 477) 3 rfl (daL_law_3 41 rfl) rfl ?_
  refine GM_iconst (pc := 478) 1 (daL_law_3 42 rfl) rfl (R32_b rfl) ?_
  refine GM_iadd (pc := 479) (daL_law_3 43 rfl) ?_
  obtain ⟨hc117, h⟩ := chk_inv h
  refine GM_sld (Ls := Ls) (xs := xs) (pc := 480) rfl hc117.1 hc117.2 (daL_law_3 44 rfl) ?_
  refine GM_aload_n (pc := 481) 0 rfl (daL_law_3 45 rfl) rfl ?_
  refine GM_iload_n (pc := 482) 3 rfl (daL_law_3 46 rfl) rfl ?_
  refine GM_iconst (pc := 483) 2 (daL_law_3 47 rfl) rfl (R32_b rfl) ?_
  refine GM_iadd (pc := 484) (daL_law_3 48 rfl) ?_
  obtain ⟨hc118, h⟩ := chk_inv h
  refine GM_sld (Ls := Ls) (xs := xs) (pc := 485) rfl hc118.1 hc118.2 (daL_law_3 49 rfl) ?_
  obtain ⟨hc119, h⟩ := chk_inv h
  obtain ⟨r120, hf120, h⟩ := Option.bind_eq_some_iff.mp h
  refine GM_callV0 (pc := 486) [(0, (xs (w32 (v3 + 1)).toNat).toInt), (0, (xs (w32 (v3 + 2)).toNat).toInt)] (tX10_sketch l hf120) cwX10_sketch 10 (Nat.le_of_ble_eq_true rfl) rfl kv_X10_sketch ke_X10_sketch km_L_45 hc119 ⟨Nat.le_of_ble_eq_true rfl, Nat.le_of_ble_eq_true rfl⟩ (Nat.le_of_ble_eq_true rfl) (Nat.le_of_ble_eq_true rfl) (daL_law_3 50 rfl) ?_
  refine GM_aload_n (pc := 489) 2 rfl (daL_law_3 51 rfl) rfl ?_
  refine GM_aload_n (pc := 490) 0 rfl (daL_law_3 52 rfl) rfl ?_
  refine GM_iload_n (pc := 491) 3 rfl (daL_law_3 53 rfl) rfl ?_
  refine GM_iconst (pc := 492) 1 (daL_law_3 54 rfl) rfl (R32_b rfl) ?_
  refine GM_iadd (pc := 493) (daL_law_3 55 rfl) ?_
  refine GM_sld (Ls := Ls) (xs := xs) (pc := 494) rfl hc117.1 hc117.2 (daL_law_3 56 rfl) ?_
  refine GM_aload_n (pc := 495) 0 rfl (daL_law_3 57 rfl) rfl ?_
  refine GM_iload_n (pc := 496) 3 rfl (daL_law_3 58 rfl) rfl ?_
  refine GM_iconst (pc := 497) 2 (daL_law_3 59 rfl) rfl (R32_b rfl) ?_
  refine GM_iadd (pc := 498) (daL_law_3 60 rfl) ?_
  refine GM_sld (Ls := Ls) (xs := xs) (pc := 499) rfl hc118.1 hc118.2 (daL_law_3 61 rfl) ?_
  obtain ⟨hc121, h⟩ := chk_inv h
  obtain ⟨r122, hf122, h⟩ := Option.bind_eq_some_iff.mp h
  refine GM_callV0 (pc := 500) [(0, (xs (w32 (v3 + 1)).toNat).toInt), (0, (xs (w32 (v3 + 2)).toNat).toInt)] (tX11_sketch l hf122) cwX11_sketch 11 (Nat.le_of_ble_eq_true rfl) rfl kv_X11_sketch ke_X11_sketch km_L_48 hc121 ⟨Nat.le_of_ble_eq_true rfl, Nat.le_of_ble_eq_true rfl⟩ (Nat.le_of_ble_eq_true rfl) (Nat.le_of_ble_eq_true rfl) (daL_law_3 62 rfl) ?_
  refine GM_icmp_eq (pc := 503) 2238 (daL_law_3 63 rfl) rfl (fun c123 => ?_) (fun c123 => ?_)
  · skip
    rw [if_pos c123] at h
    refine GM_iinc (L' := [(3, (0, w32 (v3 + 9))), (0, (3, 34)), (1, (3, v1)), (2, (3, v2))]) (pc := 2238) 3 rfl (daL_law_26 56 rfl) (Nat.le_of_ble_eq_true rfl) rfl ?_
    refine GM_goto (pc := 2241) 18 (daL_law_26 57 rfl) rfl ?_
    refine GM_pick [1, 2, 3, 0] rfl ?_
    cases h
    rw [Nat.zero_add, Nat.zero_add]
    exact hK
  · skip
    rw [if_neg c123] at h
    cases h
set_option maxRecDepth 20000 in
theorem gL_law_2027 (Ls : Nat) (xs : Nat → Int32) (hLs : Ls < 100000) (l : Launch) {F : FI} {v1 v2 v3 : Int} {μ : Mm} {t : ((Int × Mm) ⊕ Mm)} {c0 n0 k n : Nat} (h : jL_law_2027 Ls xs v1 v2 v3 μ = some (t, c0, n0)) (hK : zL_law_18 Ls xs l F v1 v2 k n t) : GM l (mL_law Ls xs) F (c0 + k) (n0 + n) 2027 [(0, (3, 34)), (1, (3, v1)), (2, (3, v2)), (3, (0, v3))] [] μ := by
  unfold jL_law_2027 at h
  refine GM_aload_n (pc := 2027) 1 rfl (daL_law_24 15 rfl) rfl ?_
  refine GM_aload_n (pc := 2028) 0 rfl (daL_law_24 16 rfl) rfl ?_
  refine GM_iload_n (pc := 2029) 3 rfl (daL_law_24 17 rfl) rfl ?_
  refine GM_iconst (pc := 2030) 1 (daL_law_24 18 rfl) rfl (R32_b rfl) ?_
  refine GM_iadd (pc := 2031) (daL_law_24 19 rfl) ?_
  obtain ⟨hc124, h⟩ := chk_inv h
  refine GM_sld (Ls := Ls) (xs := xs) (pc := 2032) rfl hc124.1 hc124.2 (daL_law_24 20 rfl) ?_
  refine GM_aload_n (pc := 2033) 0 rfl (daL_law_24 21 rfl) rfl ?_
  refine GM_iload_n (pc := 2034) 3 rfl (daL_law_24 22 rfl) rfl ?_
  refine GM_iconst (pc := 2035) 2 (daL_law_24 23 rfl) rfl (R32_b rfl) ?_
  refine GM_iadd (pc := 2036) (daL_law_24 24 rfl) ?_
  obtain ⟨hc125, h⟩ := chk_inv h
  refine GM_sld (Ls := Ls) (xs := xs) (pc := 2037) rfl hc125.1 hc125.2 (daL_law_24 25 rfl) ?_
  obtain ⟨hc126, h⟩ := chk_inv h
  obtain ⟨⟨⟨r127, μ127⟩, c127, n127⟩, hf127, h⟩ := Option.bind_eq_some_iff.mp h
  dsimp only at h
  obtain ⟨c128, n128, hp, e1, e2⟩ := pay_inv h
  subst e1 e2
  replace h := hp
  clear hp
  rw [Nat.add_assoc, Nat.add_assoc]
  refine GM_callV (pc := 2038) [(0, (xs (w32 (v3 + 1)).toNat).toInt), (0, (xs (w32 (v3 + 2)).toNat).toInt)] (tX10_guards l hf127) cwX10_guards 10 (Nat.le_of_ble_eq_true rfl) rfl kv_X10_guards ke_X10_guards km_L_171 hc126 ⟨Nat.le_of_ble_eq_true rfl, Nat.le_of_ble_eq_true rfl⟩ (Nat.le_of_ble_eq_true rfl) (Nat.le_of_ble_eq_true rfl) (daL_law_24 26 rfl) ?_
  refine GM_aload_n (pc := 2041) 2 rfl (daL_law_24 27 rfl) rfl ?_
  refine GM_aload_n (pc := 2042) 0 rfl (daL_law_24 28 rfl) rfl ?_
  refine GM_iload_n (pc := 2043) 3 rfl (daL_law_24 29 rfl) rfl ?_
  refine GM_iconst (pc := 2044) 1 (daL_law_24 30 rfl) rfl (R32_b rfl) ?_
  refine GM_iadd (pc := 2045) (daL_law_24 31 rfl) ?_
  refine GM_sld (Ls := Ls) (xs := xs) (pc := 2046) rfl hc124.1 hc124.2 (daL_law_24 32 rfl) ?_
  refine GM_aload_n (pc := 2047) 0 rfl (daL_law_24 33 rfl) rfl ?_
  refine GM_iload_n (pc := 2048) 3 rfl (daL_law_24 34 rfl) rfl ?_
  refine GM_iconst (pc := 2049) 2 (daL_law_24 35 rfl) rfl (R32_b rfl) ?_
  refine GM_iadd (pc := 2050) (daL_law_24 36 rfl) ?_
  refine GM_sld (Ls := Ls) (xs := xs) (pc := 2051) rfl hc125.1 hc125.2 (daL_law_24 37 rfl) ?_
  obtain ⟨hc129, h⟩ := chk_inv h
  obtain ⟨⟨r130, μ130⟩, hf130, h⟩ := Option.bind_eq_some_iff.mp h
  dsimp only at h
  refine GM_callV0 (pc := 2052) [(0, (xs (w32 (v3 + 1)).toNat).toInt), (0, (xs (w32 (v3 + 2)).toNat).toInt)] (tX11_guards l hf130) cwX11_guards 11 (Nat.le_of_ble_eq_true rfl) rfl kv_X11_guards ke_X11_guards km_L_174 hc129 ⟨Nat.le_of_ble_eq_true rfl, Nat.le_of_ble_eq_true rfl⟩ (Nat.le_of_ble_eq_true rfl) (Nat.le_of_ble_eq_true rfl) (daL_law_24 38 rfl) ?_
  refine GM_icmp_eq (pc := 2055) 2238 (daL_law_24 39 rfl) rfl (fun c131 => ?_) (fun c131 => ?_)
  · skip
    rw [if_pos c131] at h
    refine GM_iinc (L' := [(3, (0, w32 (v3 + 9))), (0, (3, 34)), (1, (3, v1)), (2, (3, v2))]) (pc := 2238) 3 rfl (daL_law_26 56 rfl) (Nat.le_of_ble_eq_true rfl) rfl ?_
    refine GM_goto (pc := 2241) 18 (daL_law_26 57 rfl) rfl ?_
    refine GM_pick [1, 2, 3, 0] rfl ?_
    cases h
    rw [Nat.zero_add, Nat.zero_add]
    exact hK
  · skip
    rw [if_neg c131] at h
    cases h
set_option maxRecDepth 20000 in
theorem gL_law_1388 (Ls : Nat) (xs : Nat → Int32) (hLs : Ls < 100000) (l : Launch) {F : FI} {v1 v2 v3 : Int} {μ : Mm} {t : ((Int × Mm) ⊕ Mm)} {c0 n0 k n : Nat} (h : jL_law_1388 Ls xs v1 v2 v3 μ = some (t, c0, n0)) (hK : zL_law_18 Ls xs l F v1 v2 k n t) : GM l (mL_law Ls xs) F (c0 + k) (n0 + n) 1388 [(0, (3, 34)), (1, (3, v1)), (2, (3, v2)), (3, (0, v3))] [] μ := by
  unfold jL_law_1388 at h
  refine GM_aload_n (pc := 1388) 1 rfl (daL_law_15 62 rfl) rfl ?_
  refine GM_aload_n (pc := 1389) 0 rfl (daL_law_15 63 rfl) rfl ?_
  refine GM_iload_n (pc := 1390) 3 rfl (daL_law_16 0 rfl) rfl ?_
  refine GM_iconst (pc := 1391) 1 (daL_law_16 1 rfl) rfl (R32_b rfl) ?_
  refine GM_iadd (pc := 1392) (daL_law_16 2 rfl) ?_
  obtain ⟨hc132, h⟩ := chk_inv h
  refine GM_sld (Ls := Ls) (xs := xs) (pc := 1393) rfl hc132.1 hc132.2 (daL_law_16 3 rfl) ?_
  refine GM_aload_n (pc := 1394) 0 rfl (daL_law_16 4 rfl) rfl ?_
  refine GM_iload_n (pc := 1395) 3 rfl (daL_law_16 5 rfl) rfl ?_
  refine GM_iconst (pc := 1396) 2 (daL_law_16 6 rfl) rfl (R32_b rfl) ?_
  refine GM_iadd (pc := 1397) (daL_law_16 7 rfl) ?_
  obtain ⟨hc133, h⟩ := chk_inv h
  refine GM_sld (Ls := Ls) (xs := xs) (pc := 1398) rfl hc133.1 hc133.2 (daL_law_16 8 rfl) ?_
  obtain ⟨hc134, h⟩ := chk_inv h
  obtain ⟨⟨⟨r135, μ135⟩, c135, n135⟩, hf135, h⟩ := Option.bind_eq_some_iff.mp h
  dsimp only at h
  obtain ⟨c136, n136, hp, e1, e2⟩ := pay_inv h
  subst e1 e2
  replace h := hp
  clear hp
  rw [Nat.add_assoc, Nat.add_assoc]
  refine GM_callV (pc := 1399) [(0, (xs (w32 (v3 + 1)).toNat).toInt), (0, (xs (w32 (v3 + 2)).toNat).toInt)] (tX10_sees l hf135) cwX10_sees 10 (Nat.le_of_ble_eq_true rfl) rfl kv_X10_sees ke_X10_sees km_L_124 hc134 ⟨Nat.le_of_ble_eq_true rfl, Nat.le_of_ble_eq_true rfl⟩ (Nat.le_of_ble_eq_true rfl) (Nat.le_of_ble_eq_true rfl) (daL_law_16 9 rfl) ?_
  refine GM_aload_n (pc := 1402) 2 rfl (daL_law_16 10 rfl) rfl ?_
  refine GM_aload_n (pc := 1403) 0 rfl (daL_law_16 11 rfl) rfl ?_
  refine GM_iload_n (pc := 1404) 3 rfl (daL_law_16 12 rfl) rfl ?_
  refine GM_iconst (pc := 1405) 1 (daL_law_16 13 rfl) rfl (R32_b rfl) ?_
  refine GM_iadd (pc := 1406) (daL_law_16 14 rfl) ?_
  refine GM_sld (Ls := Ls) (xs := xs) (pc := 1407) rfl hc132.1 hc132.2 (daL_law_16 15 rfl) ?_
  refine GM_aload_n (pc := 1408) 0 rfl (daL_law_16 16 rfl) rfl ?_
  refine GM_iload_n (pc := 1409) 3 rfl (daL_law_16 17 rfl) rfl ?_
  refine GM_iconst (pc := 1410) 2 (daL_law_16 18 rfl) rfl (R32_b rfl) ?_
  refine GM_iadd (pc := 1411) (daL_law_16 19 rfl) ?_
  refine GM_sld (Ls := Ls) (xs := xs) (pc := 1412) rfl hc133.1 hc133.2 (daL_law_16 20 rfl) ?_
  obtain ⟨hc137, h⟩ := chk_inv h
  obtain ⟨r138, hf138, h⟩ := Option.bind_eq_some_iff.mp h
  refine GM_callV0 (pc := 1413) [(0, (xs (w32 (v3 + 1)).toNat).toInt), (0, (xs (w32 (v3 + 2)).toNat).toInt)] (tX11_sees l hf138) cwX11_sees 11 (Nat.le_of_ble_eq_true rfl) rfl kv_X11_sees ke_X11_sees km_L_127 hc137 ⟨Nat.le_of_ble_eq_true rfl, Nat.le_of_ble_eq_true rfl⟩ (Nat.le_of_ble_eq_true rfl) (Nat.le_of_ble_eq_true rfl) (daL_law_16 21 rfl) ?_
  refine GM_icmp_eq (pc := 1416) 2238 (daL_law_16 22 rfl) rfl (fun c139 => ?_) (fun c139 => ?_)
  · skip
    rw [if_pos c139] at h
    refine GM_iinc (L' := [(3, (0, w32 (v3 + 9))), (0, (3, 34)), (1, (3, v1)), (2, (3, v2))]) (pc := 2238) 3 rfl (daL_law_26 56 rfl) (Nat.le_of_ble_eq_true rfl) rfl ?_
    refine GM_goto (pc := 2241) 18 (daL_law_26 57 rfl) rfl ?_
    refine GM_pick [1, 2, 3, 0] rfl ?_
    cases h
    rw [Nat.zero_add, Nat.zero_add]
    exact hK
  · skip
    rw [if_neg c139] at h
    cases h
set_option maxRecDepth 20000 in
theorem gL_law_366 (Ls : Nat) (xs : Nat → Int32) (hLs : Ls < 100000) (l : Launch) {F : FI} {v1 v2 v3 : Int} {μ : Mm} {t : ((Int × Mm) ⊕ Mm)} {c0 n0 k n : Nat} (h : jL_law_366 Ls xs v1 v2 v3 μ = some (t, c0, n0)) (hK : zL_law_18 Ls xs l F v1 v2 k n t) : GM l (mL_law Ls xs) F (c0 + k) (n0 + n) 366 [(0, (3, 34)), (1, (3, v1)), (2, (3, v2)), (3, (0, v3))] [] μ := by
  unfold jL_law_366 at h
  refine GM_aload_n (pc := 366) 1 rfl (daL_law_2 12 rfl) rfl ?_
  refine GM_aload_n (pc := 367) 0 rfl (daL_law_2 13 rfl) rfl ?_
  refine GM_iload_n (pc := 368) 3 rfl (daL_law_2 14 rfl) rfl ?_
  refine GM_iconst (pc := 369) 1 (daL_law_2 15 rfl) rfl (R32_b rfl) ?_
  refine GM_iadd (pc := 370) (daL_law_2 16 rfl) ?_
  obtain ⟨hc140, h⟩ := chk_inv h
  refine GM_sld (Ls := Ls) (xs := xs) (pc := 371) rfl hc140.1 hc140.2 (daL_law_2 17 rfl) ?_
  refine GM_aload_n (pc := 372) 0 rfl (daL_law_2 18 rfl) rfl ?_
  refine GM_iload_n (pc := 373) 3 rfl (daL_law_2 19 rfl) rfl ?_
  refine GM_iconst (pc := 374) 2 (daL_law_2 20 rfl) rfl (R32_b rfl) ?_
  refine GM_iadd (pc := 375) (daL_law_2 21 rfl) ?_
  obtain ⟨hc141, h⟩ := chk_inv h
  refine GM_sld (Ls := Ls) (xs := xs) (pc := 376) rfl hc141.1 hc141.2 (daL_law_2 22 rfl) ?_
  obtain ⟨hc142, h⟩ := chk_inv h
  obtain ⟨r143, hf143, h⟩ := Option.bind_eq_some_iff.mp h
  refine GM_callV0 (pc := 377) [(0, (xs (w32 (v3 + 1)).toNat).toInt), (0, (xs (w32 (v3 + 2)).toNat).toInt)] (tX10_land l hf143) cwX10_land 10 (Nat.le_of_ble_eq_true rfl) rfl kv_X10_land ke_X10_land km_L_32 hc142 ⟨Nat.le_of_ble_eq_true rfl, Nat.le_of_ble_eq_true rfl⟩ (Nat.le_of_ble_eq_true rfl) (Nat.le_of_ble_eq_true rfl) (daL_law_2 23 rfl) ?_
  refine GM_aload_n (pc := 380) 2 rfl (daL_law_2 24 rfl) rfl ?_
  refine GM_aload_n (pc := 381) 0 rfl (daL_law_2 25 rfl) rfl ?_
  refine GM_iload_n (pc := 382) 3 rfl (daL_law_2 26 rfl) rfl ?_
  refine GM_iconst (pc := 383) 1 (daL_law_2 27 rfl) rfl (R32_b rfl) ?_
  refine GM_iadd (pc := 384) (daL_law_2 28 rfl) ?_
  refine GM_sld (Ls := Ls) (xs := xs) (pc := 385) rfl hc140.1 hc140.2 (daL_law_2 29 rfl) ?_
  refine GM_aload_n (pc := 386) 0 rfl (daL_law_2 30 rfl) rfl ?_
  refine GM_iload_n (pc := 387) 3 rfl (daL_law_2 31 rfl) rfl ?_
  refine GM_iconst (pc := 388) 2 (daL_law_2 32 rfl) rfl (R32_b rfl) ?_
  refine GM_iadd (pc := 389) (daL_law_2 33 rfl) ?_
  refine GM_sld (Ls := Ls) (xs := xs) (pc := 390) rfl hc141.1 hc141.2 (daL_law_2 34 rfl) ?_
  obtain ⟨hc144, h⟩ := chk_inv h
  obtain ⟨r145, hf145, h⟩ := Option.bind_eq_some_iff.mp h
  refine GM_callV0 (pc := 391) [(0, (xs (w32 (v3 + 1)).toNat).toInt), (0, (xs (w32 (v3 + 2)).toNat).toInt)] (tX11_land l hf145) cwX11_land 11 (Nat.le_of_ble_eq_true rfl) rfl kv_X11_land ke_X11_land km_L_35 hc144 ⟨Nat.le_of_ble_eq_true rfl, Nat.le_of_ble_eq_true rfl⟩ (Nat.le_of_ble_eq_true rfl) (Nat.le_of_ble_eq_true rfl) (daL_law_2 35 rfl) ?_
  refine GM_icmp_eq (pc := 394) 2238 (daL_law_2 36 rfl) rfl (fun c146 => ?_) (fun c146 => ?_)
  · skip
    rw [if_pos c146] at h
    refine GM_iinc (L' := [(3, (0, w32 (v3 + 9))), (0, (3, 34)), (1, (3, v1)), (2, (3, v2))]) (pc := 2238) 3 rfl (daL_law_26 56 rfl) (Nat.le_of_ble_eq_true rfl) rfl ?_
    refine GM_goto (pc := 2241) 18 (daL_law_26 57 rfl) rfl ?_
    refine GM_pick [1, 2, 3, 0] rfl ?_
    cases h
    rw [Nat.zero_add, Nat.zero_add]
    exact hK
  · skip
    rw [if_neg c146] at h
    cases h
set_option maxRecDepth 20000 in
theorem gL_law_551 (Ls : Nat) (xs : Nat → Int32) (hLs : Ls < 100000) (l : Launch) {F : FI} {v1 v2 v3 : Int} {μ : Mm} {t : ((Int × Mm) ⊕ Mm)} {c0 n0 k n : Nat} (h : jL_law_551 Ls xs v1 v2 v3 μ = some (t, c0, n0)) (hK : zL_law_18 Ls xs l F v1 v2 k n t) : GM l (mL_law Ls xs) F (c0 + k) (n0 + n) 551 [(0, (3, 34)), (1, (3, v1)), (2, (3, v2)), (3, (0, v3))] [] μ := by
  unfold jL_law_551 at h
  refine GM_aload_n (pc := 551) 1 rfl (daL_law_4 39 rfl) rfl ?_
  refine GM_aload_n (pc := 552) 0 rfl (daL_law_4 40 rfl) rfl ?_
  refine GM_iload_n (pc := 553) 3 rfl (daL_law_4 41 rfl) rfl ?_
  refine GM_iconst (pc := 554) 1 (daL_law_4 42 rfl) rfl (R32_b rfl) ?_
  refine GM_iadd (pc := 555) (daL_law_4 43 rfl) ?_
  obtain ⟨hc147, h⟩ := chk_inv h
  refine GM_sld (Ls := Ls) (xs := xs) (pc := 556) rfl hc147.1 hc147.2 (daL_law_4 44 rfl) ?_
  refine GM_aload_n (pc := 557) 0 rfl (daL_law_4 45 rfl) rfl ?_
  refine GM_iload_n (pc := 558) 3 rfl (daL_law_4 46 rfl) rfl ?_
  refine GM_iconst (pc := 559) 2 (daL_law_4 47 rfl) rfl (R32_b rfl) ?_
  refine GM_iadd (pc := 560) (daL_law_4 48 rfl) ?_
  obtain ⟨hc148, h⟩ := chk_inv h
  refine GM_sld (Ls := Ls) (xs := xs) (pc := 561) rfl hc148.1 hc148.2 (daL_law_4 49 rfl) ?_
  refine GM_aload_n (pc := 562) 0 rfl (daL_law_4 50 rfl) rfl ?_
  refine GM_iload_n (pc := 563) 3 rfl (daL_law_4 51 rfl) rfl ?_
  refine GM_iconst (pc := 564) 3 (daL_law_4 52 rfl) rfl (R32_b rfl) ?_
  refine GM_iadd (pc := 565) (daL_law_4 53 rfl) ?_
  obtain ⟨hc149, h⟩ := chk_inv h
  refine GM_sld (Ls := Ls) (xs := xs) (pc := 566) rfl hc149.1 hc149.2 (daL_law_4 54 rfl) ?_
  obtain ⟨hc150, h⟩ := chk_inv h
  obtain ⟨⟨⟨r151, μ151⟩, c151, n151⟩, hf151, h⟩ := Option.bind_eq_some_iff.mp h
  dsimp only at h
  obtain ⟨c152, n152, hp, e1, e2⟩ := pay_inv h
  subst e1 e2
  replace h := hp
  clear hp
  rw [Nat.add_assoc, Nat.add_assoc]
  refine GM_callV (pc := 567) [(0, (xs (w32 (v3 + 1)).toNat).toInt), (0, (xs (w32 (v3 + 2)).toNat).toInt), (0, (xs (w32 (v3 + 3)).toNat).toInt)] (tX10_seen l hf151) cwX10_seen 10 (Nat.le_of_ble_eq_true rfl) rfl kv_X10_seen ke_X10_seen km_L_54 hc150 ⟨Nat.le_of_ble_eq_true rfl, Nat.le_of_ble_eq_true rfl⟩ (Nat.le_of_ble_eq_true rfl) (Nat.le_of_ble_eq_true rfl) (daL_law_4 55 rfl) ?_
  refine GM_aload_n (pc := 570) 2 rfl (daL_law_4 56 rfl) rfl ?_
  refine GM_aload_n (pc := 571) 0 rfl (daL_law_4 57 rfl) rfl ?_
  refine GM_iload_n (pc := 572) 3 rfl (daL_law_4 58 rfl) rfl ?_
  refine GM_iconst (pc := 573) 1 (daL_law_4 59 rfl) rfl (R32_b rfl) ?_
  refine GM_iadd (pc := 574) (daL_law_4 60 rfl) ?_
  refine GM_sld (Ls := Ls) (xs := xs) (pc := 575) rfl hc147.1 hc147.2 (daL_law_4 61 rfl) ?_
  refine GM_aload_n (pc := 576) 0 rfl (daL_law_4 62 rfl) rfl ?_
  refine GM_iload_n (pc := 577) 3 rfl (daL_law_4 63 rfl) rfl ?_
  refine GM_iconst (pc := 578) 2 (daL_law_5 0 rfl) rfl (R32_b rfl) ?_
  refine GM_iadd (pc := 579) (daL_law_5 1 rfl) ?_
  refine GM_sld (Ls := Ls) (xs := xs) (pc := 580) rfl hc148.1 hc148.2 (daL_law_5 2 rfl) ?_
  refine GM_aload_n (pc := 581) 0 rfl (daL_law_5 3 rfl) rfl ?_
  refine GM_iload_n (pc := 582) 3 rfl (daL_law_5 4 rfl) rfl ?_
  refine GM_iconst (pc := 583) 3 (daL_law_5 5 rfl) rfl (R32_b rfl) ?_
  refine GM_iadd (pc := 584) (daL_law_5 6 rfl) ?_
  refine GM_sld (Ls := Ls) (xs := xs) (pc := 585) rfl hc149.1 hc149.2 (daL_law_5 7 rfl) ?_
  obtain ⟨hc153, h⟩ := chk_inv h
  obtain ⟨r154, hf154, h⟩ := Option.bind_eq_some_iff.mp h
  refine GM_callV0 (pc := 586) [(0, (xs (w32 (v3 + 1)).toNat).toInt), (0, (xs (w32 (v3 + 2)).toNat).toInt), (0, (xs (w32 (v3 + 3)).toNat).toInt)] (tX11_seen l hf154) cwX11_seen 11 (Nat.le_of_ble_eq_true rfl) rfl kv_X11_seen ke_X11_seen km_L_57 hc153 ⟨Nat.le_of_ble_eq_true rfl, Nat.le_of_ble_eq_true rfl⟩ (Nat.le_of_ble_eq_true rfl) (Nat.le_of_ble_eq_true rfl) (daL_law_5 8 rfl) ?_
  refine GM_icmp_eq (pc := 589) 2238 (daL_law_5 9 rfl) rfl (fun c155 => ?_) (fun c155 => ?_)
  · skip
    rw [if_pos c155] at h
    refine GM_iinc (L' := [(3, (0, w32 (v3 + 9))), (0, (3, 34)), (1, (3, v1)), (2, (3, v2))]) (pc := 2238) 3 rfl (daL_law_26 56 rfl) (Nat.le_of_ble_eq_true rfl) rfl ?_
    refine GM_goto (pc := 2241) 18 (daL_law_26 57 rfl) rfl ?_
    refine GM_pick [1, 2, 3, 0] rfl ?_
    cases h
    rw [Nat.zero_add, Nat.zero_add]
    exact hK
  · skip
    rw [if_neg c155] at h
    cases h
set_option maxRecDepth 20000 in
theorem gL_law_1961 (Ls : Nat) (xs : Nat → Int32) (hLs : Ls < 100000) (l : Launch) {F : FI} {v1 v2 v3 : Int} {μ : Mm} {t : ((Int × Mm) ⊕ Mm)} {c0 n0 k n : Nat} (h : jL_law_1961 Ls xs v1 v2 v3 μ = some (t, c0, n0)) (hK : zL_law_18 Ls xs l F v1 v2 k n t) : GM l (mL_law Ls xs) F (c0 + k) (n0 + n) 1961 [(0, (3, 34)), (1, (3, v1)), (2, (3, v2)), (3, (0, v3))] [] μ := by
  unfold jL_law_1961 at h
  refine GM_aload_n (pc := 1961) 1 rfl (daL_law_23 25 rfl) rfl ?_
  refine GM_aload_n (pc := 1962) 0 rfl (daL_law_23 26 rfl) rfl ?_
  refine GM_iload_n (pc := 1963) 3 rfl (daL_law_23 27 rfl) rfl ?_
  refine GM_iconst (pc := 1964) 1 (daL_law_23 28 rfl) rfl (R32_b rfl) ?_
  refine GM_iadd (pc := 1965) (daL_law_23 29 rfl) ?_
  obtain ⟨hc156, h⟩ := chk_inv h
  refine GM_sld (Ls := Ls) (xs := xs) (pc := 1966) rfl hc156.1 hc156.2 (daL_law_23 30 rfl) ?_
  refine GM_aload_n (pc := 1967) 0 rfl (daL_law_23 31 rfl) rfl ?_
  refine GM_iload_n (pc := 1968) 3 rfl (daL_law_23 32 rfl) rfl ?_
  refine GM_iconst (pc := 1969) 2 (daL_law_23 33 rfl) rfl (R32_b rfl) ?_
  refine GM_iadd (pc := 1970) (daL_law_23 34 rfl) ?_
  obtain ⟨hc157, h⟩ := chk_inv h
  refine GM_sld (Ls := Ls) (xs := xs) (pc := 1971) rfl hc157.1 hc157.2 (daL_law_23 35 rfl) ?_
  refine GM_aload_n (pc := 1972) 0 rfl (daL_law_23 36 rfl) rfl ?_
  refine GM_iload_n (pc := 1973) 3 rfl (daL_law_23 37 rfl) rfl ?_
  refine GM_iconst (pc := 1974) 3 (daL_law_23 38 rfl) rfl (R32_b rfl) ?_
  refine GM_iadd (pc := 1975) (daL_law_23 39 rfl) ?_
  obtain ⟨hc158, h⟩ := chk_inv h
  refine GM_sld (Ls := Ls) (xs := xs) (pc := 1976) rfl hc158.1 hc158.2 (daL_law_23 40 rfl) ?_
  obtain ⟨hc159, h⟩ := chk_inv h
  obtain ⟨⟨⟨r160, μ160⟩, c160, n160⟩, hf160, h⟩ := Option.bind_eq_some_iff.mp h
  dsimp only at h
  obtain ⟨c161, n161, hp, e1, e2⟩ := pay_inv h
  subst e1 e2
  replace h := hp
  clear hp
  rw [Nat.add_assoc, Nat.add_assoc]
  refine GM_callV (pc := 1977) [(0, (xs (w32 (v3 + 1)).toNat).toInt), (0, (xs (w32 (v3 + 2)).toNat).toInt), (0, (xs (w32 (v3 + 3)).toNat).toInt)] (tX10_differs l hf160) cwX10_differs 10 (Nat.le_of_ble_eq_true rfl) rfl kv_X10_differs ke_X10_differs km_L_163 hc159 ⟨Nat.le_of_ble_eq_true rfl, Nat.le_of_ble_eq_true rfl⟩ (Nat.le_of_ble_eq_true rfl) (Nat.le_of_ble_eq_true rfl) (daL_law_23 41 rfl) ?_
  refine GM_aload_n (pc := 1980) 2 rfl (daL_law_23 42 rfl) rfl ?_
  refine GM_aload_n (pc := 1981) 0 rfl (daL_law_23 43 rfl) rfl ?_
  refine GM_iload_n (pc := 1982) 3 rfl (daL_law_23 44 rfl) rfl ?_
  refine GM_iconst (pc := 1983) 1 (daL_law_23 45 rfl) rfl (R32_b rfl) ?_
  refine GM_iadd (pc := 1984) (daL_law_23 46 rfl) ?_
  refine GM_sld (Ls := Ls) (xs := xs) (pc := 1985) rfl hc156.1 hc156.2 (daL_law_23 47 rfl) ?_
  refine GM_aload_n (pc := 1986) 0 rfl (daL_law_23 48 rfl) rfl ?_
  refine GM_iload_n (pc := 1987) 3 rfl (daL_law_23 49 rfl) rfl ?_
  refine GM_iconst (pc := 1988) 2 (daL_law_23 50 rfl) rfl (R32_b rfl) ?_
  refine GM_iadd (pc := 1989) (daL_law_23 51 rfl) ?_
  refine GM_sld (Ls := Ls) (xs := xs) (pc := 1990) rfl hc157.1 hc157.2 (daL_law_23 52 rfl) ?_
  refine GM_aload_n (pc := 1991) 0 rfl (daL_law_23 53 rfl) rfl ?_
  refine GM_iload_n (pc := 1992) 3 rfl (daL_law_23 54 rfl) rfl ?_
  refine GM_iconst (pc := 1993) 3 (daL_law_23 55 rfl) rfl (R32_b rfl) ?_
  refine GM_iadd (pc := 1994) (daL_law_23 56 rfl) ?_
  refine GM_sld (Ls := Ls) (xs := xs) (pc := 1995) rfl hc158.1 hc158.2 (daL_law_23 57 rfl) ?_
  obtain ⟨hc162, h⟩ := chk_inv h
  obtain ⟨⟨r163, μ163⟩, hf163, h⟩ := Option.bind_eq_some_iff.mp h
  dsimp only at h
  refine GM_callV0 (pc := 1996) [(0, (xs (w32 (v3 + 1)).toNat).toInt), (0, (xs (w32 (v3 + 2)).toNat).toInt), (0, (xs (w32 (v3 + 3)).toNat).toInt)] (tX11_differs l hf163) cwX11_differs 11 (Nat.le_of_ble_eq_true rfl) rfl kv_X11_differs ke_X11_differs km_L_166 hc162 ⟨Nat.le_of_ble_eq_true rfl, Nat.le_of_ble_eq_true rfl⟩ (Nat.le_of_ble_eq_true rfl) (Nat.le_of_ble_eq_true rfl) (daL_law_23 58 rfl) ?_
  refine GM_icmp_eq (pc := 1999) 2238 (daL_law_23 59 rfl) rfl (fun c164 => ?_) (fun c164 => ?_)
  · skip
    rw [if_pos c164] at h
    refine GM_iinc (L' := [(3, (0, w32 (v3 + 9))), (0, (3, 34)), (1, (3, v1)), (2, (3, v2))]) (pc := 2238) 3 rfl (daL_law_26 56 rfl) (Nat.le_of_ble_eq_true rfl) rfl ?_
    refine GM_goto (pc := 2241) 18 (daL_law_26 57 rfl) rfl ?_
    refine GM_pick [1, 2, 3, 0] rfl ?_
    cases h
    rw [Nat.zero_add, Nat.zero_add]
    exact hK
  · skip
    rw [if_neg c164] at h
    cases h
set_option maxRecDepth 20000 in
theorem gL_law_432 (Ls : Nat) (xs : Nat → Int32) (hLs : Ls < 100000) (l : Launch) {F : FI} {v1 v2 v3 : Int} {μ : Mm} {t : ((Int × Mm) ⊕ Mm)} {c0 n0 k n : Nat} (h : jL_law_432 Ls xs v1 v2 v3 μ = some (t, c0, n0)) (hK : zL_law_18 Ls xs l F v1 v2 k n t) : GM l (mL_law Ls xs) F (c0 + k) (n0 + n) 432 [(0, (3, 34)), (1, (3, v1)), (2, (3, v2)), (3, (0, v3))] [] μ := by
  unfold jL_law_432 at h
  refine GM_aload_n (pc := 432) 1 rfl (daL_law_3 2 rfl) rfl ?_
  refine GM_aload_n (pc := 433) 0 rfl (daL_law_3 3 rfl) rfl ?_
  refine GM_iload_n (pc := 434) 3 rfl (daL_law_3 4 rfl) rfl ?_
  refine GM_iconst (pc := 435) 1 (daL_law_3 5 rfl) rfl (R32_b rfl) ?_
  refine GM_iadd (pc := 436) (daL_law_3 6 rfl) ?_
  obtain ⟨hc165, h⟩ := chk_inv h
  refine GM_sld (Ls := Ls) (xs := xs) (pc := 437) rfl hc165.1 hc165.2 (daL_law_3 7 rfl) ?_
  refine GM_aload_n (pc := 438) 0 rfl (daL_law_3 8 rfl) rfl ?_
  refine GM_iload_n (pc := 439) 3 rfl (daL_law_3 9 rfl) rfl ?_
  refine GM_iconst (pc := 440) 2 (daL_law_3 10 rfl) rfl (R32_b rfl) ?_
  refine GM_iadd (pc := 441) (daL_law_3 11 rfl) ?_
  obtain ⟨hc166, h⟩ := chk_inv h
  refine GM_sld (Ls := Ls) (xs := xs) (pc := 442) rfl hc166.1 hc166.2 (daL_law_3 12 rfl) ?_
  refine GM_aload_n (pc := 443) 0 rfl (daL_law_3 13 rfl) rfl ?_
  refine GM_iload_n (pc := 444) 3 rfl (daL_law_3 14 rfl) rfl ?_
  refine GM_iconst (pc := 445) 3 (daL_law_3 15 rfl) rfl (R32_b rfl) ?_
  refine GM_iadd (pc := 446) (daL_law_3 16 rfl) ?_
  obtain ⟨hc167, h⟩ := chk_inv h
  refine GM_sld (Ls := Ls) (xs := xs) (pc := 447) rfl hc167.1 hc167.2 (daL_law_3 17 rfl) ?_
  obtain ⟨hc168, h⟩ := chk_inv h
  obtain ⟨⟨r169, μ169⟩, hf169, h⟩ := Option.bind_eq_some_iff.mp h
  dsimp only at h
  refine GM_callV0 (pc := 448) [(0, (xs (w32 (v3 + 1)).toNat).toInt), (0, (xs (w32 (v3 + 2)).toNat).toInt), (0, (xs (w32 (v3 + 3)).toNat).toInt)] (tX10_mend l hf169) cwX10_mend 10 (Nat.le_of_ble_eq_true rfl) rfl kv_X10_mend ke_X10_mend km_L_40 hc168 ⟨Nat.le_of_ble_eq_true rfl, Nat.le_of_ble_eq_true rfl⟩ (Nat.le_of_ble_eq_true rfl) (Nat.le_of_ble_eq_true rfl) (daL_law_3 18 rfl) ?_
  refine GM_aload_n (pc := 451) 2 rfl (daL_law_3 19 rfl) rfl ?_
  refine GM_aload_n (pc := 452) 0 rfl (daL_law_3 20 rfl) rfl ?_
  refine GM_iload_n (pc := 453) 3 rfl (daL_law_3 21 rfl) rfl ?_
  refine GM_iconst (pc := 454) 1 (daL_law_3 22 rfl) rfl (R32_b rfl) ?_
  refine GM_iadd (pc := 455) (daL_law_3 23 rfl) ?_
  refine GM_sld (Ls := Ls) (xs := xs) (pc := 456) rfl hc165.1 hc165.2 (daL_law_3 24 rfl) ?_
  refine GM_aload_n (pc := 457) 0 rfl (daL_law_3 25 rfl) rfl ?_
  refine GM_iload_n (pc := 458) 3 rfl (daL_law_3 26 rfl) rfl ?_
  refine GM_iconst (pc := 459) 2 (daL_law_3 27 rfl) rfl (R32_b rfl) ?_
  refine GM_iadd (pc := 460) (daL_law_3 28 rfl) ?_
  refine GM_sld (Ls := Ls) (xs := xs) (pc := 461) rfl hc166.1 hc166.2 (daL_law_3 29 rfl) ?_
  refine GM_aload_n (pc := 462) 0 rfl (daL_law_3 30 rfl) rfl ?_
  refine GM_iload_n (pc := 463) 3 rfl (daL_law_3 31 rfl) rfl ?_
  refine GM_iconst (pc := 464) 3 (daL_law_3 32 rfl) rfl (R32_b rfl) ?_
  refine GM_iadd (pc := 465) (daL_law_3 33 rfl) ?_
  refine GM_sld (Ls := Ls) (xs := xs) (pc := 466) rfl hc167.1 hc167.2 (daL_law_3 34 rfl) ?_
  obtain ⟨hc170, h⟩ := chk_inv h
  obtain ⟨⟨r171, μ171⟩, hf171, h⟩ := Option.bind_eq_some_iff.mp h
  dsimp only at h
  refine GM_callV0 (pc := 467) [(0, (xs (w32 (v3 + 1)).toNat).toInt), (0, (xs (w32 (v3 + 2)).toNat).toInt), (0, (xs (w32 (v3 + 3)).toNat).toInt)] (tX11_mend l hf171) cwX11_mend 11 (Nat.le_of_ble_eq_true rfl) rfl kv_X11_mend ke_X11_mend km_L_44 hc170 ⟨Nat.le_of_ble_eq_true rfl, Nat.le_of_ble_eq_true rfl⟩ (Nat.le_of_ble_eq_true rfl) (Nat.le_of_ble_eq_true rfl) (daL_law_3 35 rfl) ?_
  refine GM_icmp_eq (pc := 470) 2238 (daL_law_3 36 rfl) rfl (fun c172 => ?_) (fun c172 => ?_)
  · skip
    rw [if_pos c172] at h
    refine GM_iinc (L' := [(3, (0, w32 (v3 + 9))), (0, (3, 34)), (1, (3, v1)), (2, (3, v2))]) (pc := 2238) 3 rfl (daL_law_26 56 rfl) (Nat.le_of_ble_eq_true rfl) rfl ?_
    refine GM_goto (pc := 2241) 18 (daL_law_26 57 rfl) rfl ?_
    refine GM_pick [1, 2, 3, 0] rfl ?_
    cases h
    rw [Nat.zero_add, Nat.zero_add]
    exact hK
  · skip
    rw [if_neg c172] at h
    cases h
set_option maxRecDepth 20000 in
theorem gL_law_955 (Ls : Nat) (xs : Nat → Int32) (hLs : Ls < 100000) (l : Launch) {F : FI} {v1 v2 v3 : Int} {μ : Mm} {t : ((Int × Mm) ⊕ Mm)} {c0 n0 k n : Nat} (h : jL_law_955 Ls xs v1 v2 v3 μ = some (t, c0, n0)) (hK : zL_law_18 Ls xs l F v1 v2 k n t) : GM l (mL_law Ls xs) F (c0 + k) (n0 + n) 955 [(0, (3, 34)), (1, (3, v1)), (2, (3, v2)), (3, (0, v3))] [] μ := by
  unfold jL_law_955 at h
  refine GM_aload_n (pc := 955) 1 rfl (daL_law_10 11 rfl) rfl ?_
  refine GM_aload_n (pc := 956) 0 rfl (daL_law_10 12 rfl) rfl ?_
  refine GM_iload_n (pc := 957) 3 rfl (daL_law_10 13 rfl) rfl ?_
  refine GM_iconst (pc := 958) 1 (daL_law_10 14 rfl) rfl (R32_b rfl) ?_
  refine GM_iadd (pc := 959) (daL_law_10 15 rfl) ?_
  obtain ⟨hc173, h⟩ := chk_inv h
  refine GM_sld (Ls := Ls) (xs := xs) (pc := 960) rfl hc173.1 hc173.2 (daL_law_10 16 rfl) ?_
  refine GM_aload_n (pc := 961) 0 rfl (daL_law_10 17 rfl) rfl ?_
  refine GM_iload_n (pc := 962) 3 rfl (daL_law_10 18 rfl) rfl ?_
  refine GM_iconst (pc := 963) 2 (daL_law_10 19 rfl) rfl (R32_b rfl) ?_
  refine GM_iadd (pc := 964) (daL_law_10 20 rfl) ?_
  obtain ⟨hc174, h⟩ := chk_inv h
  refine GM_sld (Ls := Ls) (xs := xs) (pc := 965) rfl hc174.1 hc174.2 (daL_law_10 21 rfl) ?_
  refine GM_aload_n (pc := 966) 0 rfl (daL_law_10 22 rfl) rfl ?_
  refine GM_iload_n (pc := 967) 3 rfl (daL_law_10 23 rfl) rfl ?_
  refine GM_iconst (pc := 968) 3 (daL_law_10 24 rfl) rfl (R32_b rfl) ?_
  refine GM_iadd (pc := 969) (daL_law_10 25 rfl) ?_
  obtain ⟨hc175, h⟩ := chk_inv h
  refine GM_sld (Ls := Ls) (xs := xs) (pc := 970) rfl hc175.1 hc175.2 (daL_law_10 26 rfl) ?_
  obtain ⟨hc176, h⟩ := chk_inv h
  obtain ⟨⟨⟨r177, μ177⟩, c177, n177⟩, hf177, h⟩ := Option.bind_eq_some_iff.mp h
  dsimp only at h
  obtain ⟨c178, n178, hp, e1, e2⟩ := pay_inv h
  subst e1 e2
  replace h := hp
  clear hp
  rw [Nat.add_assoc, Nat.add_assoc]
  refine GM_callV (pc := 971) [(0, (xs (w32 (v3 + 1)).toNat).toInt), (0, (xs (w32 (v3 + 2)).toNat).toInt), (0, (xs (w32 (v3 + 3)).toNat).toInt)] (tX10_sure l hf177) cwX10_sure 10 (Nat.le_of_ble_eq_true rfl) rfl kv_X10_sure ke_X10_sure km_L_87 hc176 ⟨Nat.le_of_ble_eq_true rfl, Nat.le_of_ble_eq_true rfl⟩ (Nat.le_of_ble_eq_true rfl) (Nat.le_of_ble_eq_true rfl) (daL_law_10 27 rfl) ?_
  refine GM_aload_n (pc := 974) 2 rfl (daL_law_10 28 rfl) rfl ?_
  refine GM_aload_n (pc := 975) 0 rfl (daL_law_10 29 rfl) rfl ?_
  refine GM_iload_n (pc := 976) 3 rfl (daL_law_10 30 rfl) rfl ?_
  refine GM_iconst (pc := 977) 1 (daL_law_10 31 rfl) rfl (R32_b rfl) ?_
  refine GM_iadd (pc := 978) (daL_law_10 32 rfl) ?_
  refine GM_sld (Ls := Ls) (xs := xs) (pc := 979) rfl hc173.1 hc173.2 (daL_law_10 33 rfl) ?_
  refine GM_aload_n (pc := 980) 0 rfl (daL_law_10 34 rfl) rfl ?_
  refine GM_iload_n (pc := 981) 3 rfl (daL_law_10 35 rfl) rfl ?_
  refine GM_iconst (pc := 982) 2 (daL_law_10 36 rfl) rfl (R32_b rfl) ?_
  refine GM_iadd (pc := 983) (daL_law_10 37 rfl) ?_
  refine GM_sld (Ls := Ls) (xs := xs) (pc := 984) rfl hc174.1 hc174.2 (daL_law_10 38 rfl) ?_
  refine GM_aload_n (pc := 985) 0 rfl (daL_law_10 39 rfl) rfl ?_
  refine GM_iload_n (pc := 986) 3 rfl (daL_law_10 40 rfl) rfl ?_
  refine GM_iconst (pc := 987) 3 (daL_law_10 41 rfl) rfl (R32_b rfl) ?_
  refine GM_iadd (pc := 988) (daL_law_10 42 rfl) ?_
  refine GM_sld (Ls := Ls) (xs := xs) (pc := 989) rfl hc175.1 hc175.2 (daL_law_10 43 rfl) ?_
  obtain ⟨hc179, h⟩ := chk_inv h
  obtain ⟨⟨r180, μ180⟩, hf180, h⟩ := Option.bind_eq_some_iff.mp h
  dsimp only at h
  refine GM_callV0 (pc := 990) [(0, (xs (w32 (v3 + 1)).toNat).toInt), (0, (xs (w32 (v3 + 2)).toNat).toInt), (0, (xs (w32 (v3 + 3)).toNat).toInt)] (tX11_sure l hf180) cwX11_sure 11 (Nat.le_of_ble_eq_true rfl) rfl kv_X11_sure ke_X11_sure km_L_90 hc179 ⟨Nat.le_of_ble_eq_true rfl, Nat.le_of_ble_eq_true rfl⟩ (Nat.le_of_ble_eq_true rfl) (Nat.le_of_ble_eq_true rfl) (daL_law_10 44 rfl) ?_
  refine GM_icmp_eq (pc := 993) 2238 (daL_law_10 45 rfl) rfl (fun c181 => ?_) (fun c181 => ?_)
  · skip
    rw [if_pos c181] at h
    refine GM_iinc (L' := [(3, (0, w32 (v3 + 9))), (0, (3, 34)), (1, (3, v1)), (2, (3, v2))]) (pc := 2238) 3 rfl (daL_law_26 56 rfl) (Nat.le_of_ble_eq_true rfl) rfl ?_
    refine GM_goto (pc := 2241) 18 (daL_law_26 57 rfl) rfl ?_
    refine GM_pick [1, 2, 3, 0] rfl ?_
    cases h
    rw [Nat.zero_add, Nat.zero_add]
    exact hK
  · skip
    rw [if_neg c181] at h
    cases h
set_option maxRecDepth 20000 in
theorem gL_law_594 (Ls : Nat) (xs : Nat → Int32) (hLs : Ls < 100000) (l : Launch) {F : FI} {v1 v2 v3 : Int} {μ : Mm} {t : ((Int × Mm) ⊕ Mm)} {c0 n0 k n : Nat} (h : jL_law_594 Ls xs v1 v2 v3 μ = some (t, c0, n0)) (hK : zL_law_18 Ls xs l F v1 v2 k n t) : GM l (mL_law Ls xs) F (c0 + k) (n0 + n) 594 [(0, (3, 34)), (1, (3, v1)), (2, (3, v2)), (3, (0, v3))] [] μ := by
  unfold jL_law_594 at h
  refine GM_aload_n (pc := 594) 1 rfl (daL_law_5 12 rfl) rfl ?_
  refine GM_aload_n (pc := 595) 0 rfl (daL_law_5 13 rfl) rfl ?_
  refine GM_iload_n (pc := 596) 3 rfl (daL_law_5 14 rfl) rfl ?_
  refine GM_iconst (pc := 597) 1 (daL_law_5 15 rfl) rfl (R32_b rfl) ?_
  refine GM_iadd (pc := 598) (daL_law_5 16 rfl) ?_
  obtain ⟨hc182, h⟩ := chk_inv h
  refine GM_sld (Ls := Ls) (xs := xs) (pc := 599) rfl hc182.1 hc182.2 (daL_law_5 17 rfl) ?_
  refine GM_aload_n (pc := 600) 0 rfl (daL_law_5 18 rfl) rfl ?_
  refine GM_iload_n (pc := 601) 3 rfl (daL_law_5 19 rfl) rfl ?_
  refine GM_iconst (pc := 602) 2 (daL_law_5 20 rfl) rfl (R32_b rfl) ?_
  refine GM_iadd (pc := 603) (daL_law_5 21 rfl) ?_
  obtain ⟨hc183, h⟩ := chk_inv h
  refine GM_sld (Ls := Ls) (xs := xs) (pc := 604) rfl hc183.1 hc183.2 (daL_law_5 22 rfl) ?_
  refine GM_aload_n (pc := 605) 0 rfl (daL_law_5 23 rfl) rfl ?_
  refine GM_iload_n (pc := 606) 3 rfl (daL_law_5 24 rfl) rfl ?_
  refine GM_iconst (pc := 607) 3 (daL_law_5 25 rfl) rfl (R32_b rfl) ?_
  refine GM_iadd (pc := 608) (daL_law_5 26 rfl) ?_
  obtain ⟨hc184, h⟩ := chk_inv h
  refine GM_sld (Ls := Ls) (xs := xs) (pc := 609) rfl hc184.1 hc184.2 (daL_law_5 27 rfl) ?_
  obtain ⟨hc185, h⟩ := chk_inv h
  obtain ⟨⟨⟨r186, μ186⟩, c186, n186⟩, hf186, h⟩ := Option.bind_eq_some_iff.mp h
  dsimp only at h
  obtain ⟨c187, n187, hp, e1, e2⟩ := pay_inv h
  subst e1 e2
  replace h := hp
  clear hp
  rw [Nat.add_assoc, Nat.add_assoc]
  refine GM_callV (pc := 610) [(0, (xs (w32 (v3 + 1)).toNat).toInt), (0, (xs (w32 (v3 + 2)).toNat).toInt), (0, (xs (w32 (v3 + 3)).toNat).toInt)] (tX10_ray l hf186) cwX10_ray 10 (Nat.le_of_ble_eq_true rfl) rfl kv_X10_ray ke_X10_ray km_L_58 hc185 ⟨Nat.le_of_ble_eq_true rfl, Nat.le_of_ble_eq_true rfl⟩ (Nat.le_of_ble_eq_true rfl) (Nat.le_of_ble_eq_true rfl) (daL_law_5 28 rfl) ?_
  refine GM_aload_n (pc := 613) 2 rfl (daL_law_5 29 rfl) rfl ?_
  refine GM_aload_n (pc := 614) 0 rfl (daL_law_5 30 rfl) rfl ?_
  refine GM_iload_n (pc := 615) 3 rfl (daL_law_5 31 rfl) rfl ?_
  refine GM_iconst (pc := 616) 1 (daL_law_5 32 rfl) rfl (R32_b rfl) ?_
  refine GM_iadd (pc := 617) (daL_law_5 33 rfl) ?_
  refine GM_sld (Ls := Ls) (xs := xs) (pc := 618) rfl hc182.1 hc182.2 (daL_law_5 34 rfl) ?_
  refine GM_aload_n (pc := 619) 0 rfl (daL_law_5 35 rfl) rfl ?_
  refine GM_iload_n (pc := 620) 3 rfl (daL_law_5 36 rfl) rfl ?_
  refine GM_iconst (pc := 621) 2 (daL_law_5 37 rfl) rfl (R32_b rfl) ?_
  refine GM_iadd (pc := 622) (daL_law_5 38 rfl) ?_
  refine GM_sld (Ls := Ls) (xs := xs) (pc := 623) rfl hc183.1 hc183.2 (daL_law_5 39 rfl) ?_
  refine GM_aload_n (pc := 624) 0 rfl (daL_law_5 40 rfl) rfl ?_
  refine GM_iload_n (pc := 625) 3 rfl (daL_law_5 41 rfl) rfl ?_
  refine GM_iconst (pc := 626) 3 (daL_law_5 42 rfl) rfl (R32_b rfl) ?_
  refine GM_iadd (pc := 627) (daL_law_5 43 rfl) ?_
  refine GM_sld (Ls := Ls) (xs := xs) (pc := 628) rfl hc184.1 hc184.2 (daL_law_5 44 rfl) ?_
  obtain ⟨hc188, h⟩ := chk_inv h
  obtain ⟨⟨r189, μ189⟩, hf189, h⟩ := Option.bind_eq_some_iff.mp h
  dsimp only at h
  refine GM_callV0 (pc := 629) [(0, (xs (w32 (v3 + 1)).toNat).toInt), (0, (xs (w32 (v3 + 2)).toNat).toInt), (0, (xs (w32 (v3 + 3)).toNat).toInt)] (tX11_ray l hf189) cwX11_ray 11 (Nat.le_of_ble_eq_true rfl) rfl kv_X11_ray ke_X11_ray km_L_61 hc188 ⟨Nat.le_of_ble_eq_true rfl, Nat.le_of_ble_eq_true rfl⟩ (Nat.le_of_ble_eq_true rfl) (Nat.le_of_ble_eq_true rfl) (daL_law_5 45 rfl) ?_
  refine GM_icmp_eq (pc := 632) 2238 (daL_law_5 46 rfl) rfl (fun c190 => ?_) (fun c190 => ?_)
  · skip
    rw [if_pos c190] at h
    refine GM_iinc (L' := [(3, (0, w32 (v3 + 9))), (0, (3, 34)), (1, (3, v1)), (2, (3, v2))]) (pc := 2238) 3 rfl (daL_law_26 56 rfl) (Nat.le_of_ble_eq_true rfl) rfl ?_
    refine GM_goto (pc := 2241) 18 (daL_law_26 57 rfl) rfl ?_
    refine GM_pick [1, 2, 3, 0] rfl ?_
    cases h
    rw [Nat.zero_add, Nat.zero_add]
    exact hK
  · skip
    rw [if_neg c190] at h
    cases h
set_option maxRecDepth 20000 in
theorem gL_law_1497 (Ls : Nat) (xs : Nat → Int32) (hLs : Ls < 100000) (l : Launch) {F : FI} {v1 v2 v3 : Int} {μ : Mm} {t : ((Int × Mm) ⊕ Mm)} {c0 n0 k n : Nat} (h : jL_law_1497 Ls xs v1 v2 v3 μ = some (t, c0, n0)) (hK : zL_law_18 Ls xs l F v1 v2 k n t) : GM l (mL_law Ls xs) F (c0 + k) (n0 + n) 1497 [(0, (3, 34)), (1, (3, v1)), (2, (3, v2)), (3, (0, v3))] [] μ := by
  unfold jL_law_1497 at h
  refine GM_aload_n (pc := 1497) 1 rfl (daL_law_17 25 rfl) rfl ?_
  refine GM_aload_n (pc := 1498) 0 rfl (daL_law_17 26 rfl) rfl ?_
  refine GM_iload_n (pc := 1499) 3 rfl (daL_law_17 27 rfl) rfl ?_
  refine GM_iconst (pc := 1500) 1 (daL_law_17 28 rfl) rfl (R32_b rfl) ?_
  refine GM_iadd (pc := 1501) (daL_law_17 29 rfl) ?_
  obtain ⟨hc191, h⟩ := chk_inv h
  refine GM_sld (Ls := Ls) (xs := xs) (pc := 1502) rfl hc191.1 hc191.2 (daL_law_17 30 rfl) ?_
  refine GM_aload_n (pc := 1503) 0 rfl (daL_law_17 31 rfl) rfl ?_
  refine GM_iload_n (pc := 1504) 3 rfl (daL_law_17 32 rfl) rfl ?_
  refine GM_iconst (pc := 1505) 2 (daL_law_17 33 rfl) rfl (R32_b rfl) ?_
  refine GM_iadd (pc := 1506) (daL_law_17 34 rfl) ?_
  obtain ⟨hc192, h⟩ := chk_inv h
  refine GM_sld (Ls := Ls) (xs := xs) (pc := 1507) rfl hc192.1 hc192.2 (daL_law_17 35 rfl) ?_
  refine GM_aload_n (pc := 1508) 0 rfl (daL_law_17 36 rfl) rfl ?_
  refine GM_iload_n (pc := 1509) 3 rfl (daL_law_17 37 rfl) rfl ?_
  refine GM_iconst (pc := 1510) 3 (daL_law_17 38 rfl) rfl (R32_b rfl) ?_
  refine GM_iadd (pc := 1511) (daL_law_17 39 rfl) ?_
  obtain ⟨hc193, h⟩ := chk_inv h
  refine GM_sld (Ls := Ls) (xs := xs) (pc := 1512) rfl hc193.1 hc193.2 (daL_law_17 40 rfl) ?_
  obtain ⟨hc194, h⟩ := chk_inv h
  obtain ⟨⟨⟨r195, μ195⟩, c195, n195⟩, hf195, h⟩ := Option.bind_eq_some_iff.mp h
  dsimp only at h
  obtain ⟨c196, n196, hp, e1, e2⟩ := pay_inv h
  subst e1 e2
  replace h := hp
  clear hp
  rw [Nat.add_assoc, Nat.add_assoc]
  refine GM_callV (pc := 1513) [(0, (xs (w32 (v3 + 1)).toNat).toInt), (0, (xs (w32 (v3 + 2)).toNat).toInt), (0, (xs (w32 (v3 + 3)).toNat).toInt)] (tX10_shift l hf195) cwX10_shift 10 (Nat.le_of_ble_eq_true rfl) rfl kv_X10_shift ke_X10_shift km_L_136 hc194 ⟨Nat.le_of_ble_eq_true rfl, Nat.le_of_ble_eq_true rfl⟩ (Nat.le_of_ble_eq_true rfl) (Nat.le_of_ble_eq_true rfl) (daL_law_17 41 rfl) ?_
  refine GM_aload_n (pc := 1516) 2 rfl (daL_law_17 42 rfl) rfl ?_
  refine GM_aload_n (pc := 1517) 0 rfl (daL_law_17 43 rfl) rfl ?_
  refine GM_iload_n (pc := 1518) 3 rfl (daL_law_17 44 rfl) rfl ?_
  refine GM_iconst (pc := 1519) 1 (daL_law_17 45 rfl) rfl (R32_b rfl) ?_
  refine GM_iadd (pc := 1520) (daL_law_17 46 rfl) ?_
  refine GM_sld (Ls := Ls) (xs := xs) (pc := 1521) rfl hc191.1 hc191.2 (daL_law_17 47 rfl) ?_
  refine GM_aload_n (pc := 1522) 0 rfl (daL_law_17 48 rfl) rfl ?_
  refine GM_iload_n (pc := 1523) 3 rfl (daL_law_17 49 rfl) rfl ?_
  refine GM_iconst (pc := 1524) 2 (daL_law_17 50 rfl) rfl (R32_b rfl) ?_
  refine GM_iadd (pc := 1525) (daL_law_17 51 rfl) ?_
  refine GM_sld (Ls := Ls) (xs := xs) (pc := 1526) rfl hc192.1 hc192.2 (daL_law_17 52 rfl) ?_
  refine GM_aload_n (pc := 1527) 0 rfl (daL_law_17 53 rfl) rfl ?_
  refine GM_iload_n (pc := 1528) 3 rfl (daL_law_17 54 rfl) rfl ?_
  refine GM_iconst (pc := 1529) 3 (daL_law_17 55 rfl) rfl (R32_b rfl) ?_
  refine GM_iadd (pc := 1530) (daL_law_17 56 rfl) ?_
  refine GM_sld (Ls := Ls) (xs := xs) (pc := 1531) rfl hc193.1 hc193.2 (daL_law_17 57 rfl) ?_
  obtain ⟨hc197, h⟩ := chk_inv h
  obtain ⟨⟨r198, μ198⟩, hf198, h⟩ := Option.bind_eq_some_iff.mp h
  dsimp only at h
  refine GM_callV0 (pc := 1532) [(0, (xs (w32 (v3 + 1)).toNat).toInt), (0, (xs (w32 (v3 + 2)).toNat).toInt), (0, (xs (w32 (v3 + 3)).toNat).toInt)] (tX11_shift l hf198) cwX11_shift 11 (Nat.le_of_ble_eq_true rfl) rfl kv_X11_shift ke_X11_shift km_L_139 hc197 ⟨Nat.le_of_ble_eq_true rfl, Nat.le_of_ble_eq_true rfl⟩ (Nat.le_of_ble_eq_true rfl) (Nat.le_of_ble_eq_true rfl) (daL_law_17 58 rfl) ?_
  refine GM_icmp_eq (pc := 1535) 2238 (daL_law_17 59 rfl) rfl (fun c199 => ?_) (fun c199 => ?_)
  · skip
    rw [if_pos c199] at h
    refine GM_iinc (L' := [(3, (0, w32 (v3 + 9))), (0, (3, 34)), (1, (3, v1)), (2, (3, v2))]) (pc := 2238) 3 rfl (daL_law_26 56 rfl) (Nat.le_of_ble_eq_true rfl) rfl ?_
    refine GM_goto (pc := 2241) 18 (daL_law_26 57 rfl) rfl ?_
    refine GM_pick [1, 2, 3, 0] rfl ?_
    cases h
    rw [Nat.zero_add, Nat.zero_add]
    exact hK
  · skip
    rw [if_neg c199] at h
    cases h
set_option maxRecDepth 20000 in
theorem gL_law_998 (Ls : Nat) (xs : Nat → Int32) (hLs : Ls < 100000) (l : Launch) {F : FI} {v1 v2 v3 : Int} {μ : Mm} {t : ((Int × Mm) ⊕ Mm)} {c0 n0 k n : Nat} (h : jL_law_998 Ls xs v1 v2 v3 μ = some (t, c0, n0)) (hK : zL_law_18 Ls xs l F v1 v2 k n t) : GM l (mL_law Ls xs) F (c0 + k) (n0 + n) 998 [(0, (3, 34)), (1, (3, v1)), (2, (3, v2)), (3, (0, v3))] [] μ := by
  unfold jL_law_998 at h
  refine GM_aload_n (pc := 998) 1 rfl (daL_law_10 48 rfl) rfl ?_
  refine GM_aload_n (pc := 999) 0 rfl (daL_law_10 49 rfl) rfl ?_
  refine GM_iload_n (pc := 1000) 3 rfl (daL_law_10 50 rfl) rfl ?_
  refine GM_iconst (pc := 1001) 1 (daL_law_10 51 rfl) rfl (R32_b rfl) ?_
  refine GM_iadd (pc := 1002) (daL_law_10 52 rfl) ?_
  obtain ⟨hc200, h⟩ := chk_inv h
  refine GM_sld (Ls := Ls) (xs := xs) (pc := 1003) rfl hc200.1 hc200.2 (daL_law_10 53 rfl) ?_
  refine GM_aload_n (pc := 1004) 0 rfl (daL_law_10 54 rfl) rfl ?_
  refine GM_iload_n (pc := 1005) 3 rfl (daL_law_10 55 rfl) rfl ?_
  refine GM_iconst (pc := 1006) 2 (daL_law_10 56 rfl) rfl (R32_b rfl) ?_
  refine GM_iadd (pc := 1007) (daL_law_10 57 rfl) ?_
  obtain ⟨hc201, h⟩ := chk_inv h
  refine GM_sld (Ls := Ls) (xs := xs) (pc := 1008) rfl hc201.1 hc201.2 (daL_law_10 58 rfl) ?_
  refine GM_aload_n (pc := 1009) 0 rfl (daL_law_10 59 rfl) rfl ?_
  refine GM_iload_n (pc := 1010) 3 rfl (daL_law_10 60 rfl) rfl ?_
  refine GM_iconst (pc := 1011) 3 (daL_law_10 61 rfl) rfl (R32_b rfl) ?_
  refine GM_iadd (pc := 1012) (daL_law_10 62 rfl) ?_
  obtain ⟨hc202, h⟩ := chk_inv h
  refine GM_sld (Ls := Ls) (xs := xs) (pc := 1013) rfl hc202.1 hc202.2 (daL_law_10 63 rfl) ?_
  obtain ⟨hc203, h⟩ := chk_inv h
  obtain ⟨⟨⟨r204, μ204⟩, c204, n204⟩, hf204, h⟩ := Option.bind_eq_some_iff.mp h
  dsimp only at h
  obtain ⟨c205, n205, hp, e1, e2⟩ := pay_inv h
  subst e1 e2
  replace h := hp
  clear hp
  rw [Nat.add_assoc, Nat.add_assoc]
  refine GM_callV (pc := 1014) [(0, (xs (w32 (v3 + 1)).toNat).toInt), (0, (xs (w32 (v3 + 2)).toNat).toInt), (0, (xs (w32 (v3 + 3)).toNat).toInt)] (tX10_bars l hf204) cwX10_bars 10 (Nat.le_of_ble_eq_true rfl) rfl kv_X10_bars ke_X10_bars km_L_91 hc203 ⟨Nat.le_of_ble_eq_true rfl, Nat.le_of_ble_eq_true rfl⟩ (Nat.le_of_ble_eq_true rfl) (Nat.le_of_ble_eq_true rfl) (daL_law_11 0 rfl) ?_
  refine GM_aload_n (pc := 1017) 2 rfl (daL_law_11 1 rfl) rfl ?_
  refine GM_aload_n (pc := 1018) 0 rfl (daL_law_11 2 rfl) rfl ?_
  refine GM_iload_n (pc := 1019) 3 rfl (daL_law_11 3 rfl) rfl ?_
  refine GM_iconst (pc := 1020) 1 (daL_law_11 4 rfl) rfl (R32_b rfl) ?_
  refine GM_iadd (pc := 1021) (daL_law_11 5 rfl) ?_
  refine GM_sld (Ls := Ls) (xs := xs) (pc := 1022) rfl hc200.1 hc200.2 (daL_law_11 6 rfl) ?_
  refine GM_aload_n (pc := 1023) 0 rfl (daL_law_11 7 rfl) rfl ?_
  refine GM_iload_n (pc := 1024) 3 rfl (daL_law_11 8 rfl) rfl ?_
  refine GM_iconst (pc := 1025) 2 (daL_law_11 9 rfl) rfl (R32_b rfl) ?_
  refine GM_iadd (pc := 1026) (daL_law_11 10 rfl) ?_
  refine GM_sld (Ls := Ls) (xs := xs) (pc := 1027) rfl hc201.1 hc201.2 (daL_law_11 11 rfl) ?_
  refine GM_aload_n (pc := 1028) 0 rfl (daL_law_11 12 rfl) rfl ?_
  refine GM_iload_n (pc := 1029) 3 rfl (daL_law_11 13 rfl) rfl ?_
  refine GM_iconst (pc := 1030) 3 (daL_law_11 14 rfl) rfl (R32_b rfl) ?_
  refine GM_iadd (pc := 1031) (daL_law_11 15 rfl) ?_
  refine GM_sld (Ls := Ls) (xs := xs) (pc := 1032) rfl hc202.1 hc202.2 (daL_law_11 16 rfl) ?_
  obtain ⟨hc206, h⟩ := chk_inv h
  obtain ⟨⟨r207, μ207⟩, hf207, h⟩ := Option.bind_eq_some_iff.mp h
  dsimp only at h
  refine GM_callV0 (pc := 1033) [(0, (xs (w32 (v3 + 1)).toNat).toInt), (0, (xs (w32 (v3 + 2)).toNat).toInt), (0, (xs (w32 (v3 + 3)).toNat).toInt)] (tX11_bars l hf207) cwX11_bars 11 (Nat.le_of_ble_eq_true rfl) rfl kv_X11_bars ke_X11_bars km_L_94 hc206 ⟨Nat.le_of_ble_eq_true rfl, Nat.le_of_ble_eq_true rfl⟩ (Nat.le_of_ble_eq_true rfl) (Nat.le_of_ble_eq_true rfl) (daL_law_11 17 rfl) ?_
  refine GM_icmp_eq (pc := 1036) 2238 (daL_law_11 18 rfl) rfl (fun c208 => ?_) (fun c208 => ?_)
  · skip
    rw [if_pos c208] at h
    refine GM_iinc (L' := [(3, (0, w32 (v3 + 9))), (0, (3, 34)), (1, (3, v1)), (2, (3, v2))]) (pc := 2238) 3 rfl (daL_law_26 56 rfl) (Nat.le_of_ble_eq_true rfl) rfl ?_
    refine GM_goto (pc := 2241) 18 (daL_law_26 57 rfl) rfl ?_
    refine GM_pick [1, 2, 3, 0] rfl ?_
    cases h
    rw [Nat.zero_add, Nat.zero_add]
    exact hK
  · skip
    rw [if_neg c208] at h
    cases h
set_option maxRecDepth 20000 in
theorem gL_law_508 (Ls : Nat) (xs : Nat → Int32) (hLs : Ls < 100000) (l : Launch) {F : FI} {v1 v2 v3 : Int} {μ : Mm} {t : ((Int × Mm) ⊕ Mm)} {c0 n0 k n : Nat} (h : jL_law_508 Ls xs v1 v2 v3 μ = some (t, c0, n0)) (hK : zL_law_18 Ls xs l F v1 v2 k n t) : GM l (mL_law Ls xs) F (c0 + k) (n0 + n) 508 [(0, (3, 34)), (1, (3, v1)), (2, (3, v2)), (3, (0, v3))] [] μ := by
  unfold jL_law_508 at h
  refine GM_aload_n (pc := 508) 1 rfl (daL_law_4 2 rfl) rfl ?_
  refine GM_aload_n (pc := 509) 0 rfl (daL_law_4 3 rfl) rfl ?_
  refine GM_iload_n (pc := 510) 3 rfl (daL_law_4 4 rfl) rfl ?_
  refine GM_iconst (pc := 511) 1 (daL_law_4 5 rfl) rfl (R32_b rfl) ?_
  refine GM_iadd (pc := 512) (daL_law_4 6 rfl) ?_
  obtain ⟨hc209, h⟩ := chk_inv h
  refine GM_sld (Ls := Ls) (xs := xs) (pc := 513) rfl hc209.1 hc209.2 (daL_law_4 7 rfl) ?_
  refine GM_aload_n (pc := 514) 0 rfl (daL_law_4 8 rfl) rfl ?_
  refine GM_iload_n (pc := 515) 3 rfl (daL_law_4 9 rfl) rfl ?_
  refine GM_iconst (pc := 516) 2 (daL_law_4 10 rfl) rfl (R32_b rfl) ?_
  refine GM_iadd (pc := 517) (daL_law_4 11 rfl) ?_
  obtain ⟨hc210, h⟩ := chk_inv h
  refine GM_sld (Ls := Ls) (xs := xs) (pc := 518) rfl hc210.1 hc210.2 (daL_law_4 12 rfl) ?_
  refine GM_aload_n (pc := 519) 0 rfl (daL_law_4 13 rfl) rfl ?_
  refine GM_iload_n (pc := 520) 3 rfl (daL_law_4 14 rfl) rfl ?_
  refine GM_iconst (pc := 521) 3 (daL_law_4 15 rfl) rfl (R32_b rfl) ?_
  refine GM_iadd (pc := 522) (daL_law_4 16 rfl) ?_
  obtain ⟨hc211, h⟩ := chk_inv h
  refine GM_sld (Ls := Ls) (xs := xs) (pc := 523) rfl hc211.1 hc211.2 (daL_law_4 17 rfl) ?_
  obtain ⟨hc212, h⟩ := chk_inv h
  obtain ⟨r213, hf213, h⟩ := Option.bind_eq_some_iff.mp h
  refine GM_callV0 (pc := 524) [(0, (xs (w32 (v3 + 1)).toNat).toInt), (0, (xs (w32 (v3 + 2)).toNat).toInt), (0, (xs (w32 (v3 + 3)).toNat).toInt)] (tX10_rise l hf213) cwX10_rise 10 (Nat.le_of_ble_eq_true rfl) rfl kv_X10_rise ke_X10_rise km_L_49 hc212 ⟨Nat.le_of_ble_eq_true rfl, Nat.le_of_ble_eq_true rfl⟩ (Nat.le_of_ble_eq_true rfl) (Nat.le_of_ble_eq_true rfl) (daL_law_4 18 rfl) ?_
  refine GM_aload_n (pc := 527) 2 rfl (daL_law_4 19 rfl) rfl ?_
  refine GM_aload_n (pc := 528) 0 rfl (daL_law_4 20 rfl) rfl ?_
  refine GM_iload_n (pc := 529) 3 rfl (daL_law_4 21 rfl) rfl ?_
  refine GM_iconst (pc := 530) 1 (daL_law_4 22 rfl) rfl (R32_b rfl) ?_
  refine GM_iadd (pc := 531) (daL_law_4 23 rfl) ?_
  refine GM_sld (Ls := Ls) (xs := xs) (pc := 532) rfl hc209.1 hc209.2 (daL_law_4 24 rfl) ?_
  refine GM_aload_n (pc := 533) 0 rfl (daL_law_4 25 rfl) rfl ?_
  refine GM_iload_n (pc := 534) 3 rfl (daL_law_4 26 rfl) rfl ?_
  refine GM_iconst (pc := 535) 2 (daL_law_4 27 rfl) rfl (R32_b rfl) ?_
  refine GM_iadd (pc := 536) (daL_law_4 28 rfl) ?_
  refine GM_sld (Ls := Ls) (xs := xs) (pc := 537) rfl hc210.1 hc210.2 (daL_law_4 29 rfl) ?_
  refine GM_aload_n (pc := 538) 0 rfl (daL_law_4 30 rfl) rfl ?_
  refine GM_iload_n (pc := 539) 3 rfl (daL_law_4 31 rfl) rfl ?_
  refine GM_iconst (pc := 540) 3 (daL_law_4 32 rfl) rfl (R32_b rfl) ?_
  refine GM_iadd (pc := 541) (daL_law_4 33 rfl) ?_
  refine GM_sld (Ls := Ls) (xs := xs) (pc := 542) rfl hc211.1 hc211.2 (daL_law_4 34 rfl) ?_
  obtain ⟨hc214, h⟩ := chk_inv h
  obtain ⟨r215, hf215, h⟩ := Option.bind_eq_some_iff.mp h
  refine GM_callV0 (pc := 543) [(0, (xs (w32 (v3 + 1)).toNat).toInt), (0, (xs (w32 (v3 + 2)).toNat).toInt), (0, (xs (w32 (v3 + 3)).toNat).toInt)] (tX11_rise l hf215) cwX11_rise 11 (Nat.le_of_ble_eq_true rfl) rfl kv_X11_rise ke_X11_rise km_L_53 hc214 ⟨Nat.le_of_ble_eq_true rfl, Nat.le_of_ble_eq_true rfl⟩ (Nat.le_of_ble_eq_true rfl) (Nat.le_of_ble_eq_true rfl) (daL_law_4 35 rfl) ?_
  refine GM_icmp_eq (pc := 546) 2238 (daL_law_4 36 rfl) rfl (fun c216 => ?_) (fun c216 => ?_)
  · skip
    rw [if_pos c216] at h
    refine GM_iinc (L' := [(3, (0, w32 (v3 + 9))), (0, (3, 34)), (1, (3, v1)), (2, (3, v2))]) (pc := 2238) 3 rfl (daL_law_26 56 rfl) (Nat.le_of_ble_eq_true rfl) rfl ?_
    refine GM_goto (pc := 2241) 18 (daL_law_26 57 rfl) rfl ?_
    refine GM_pick [1, 2, 3, 0] rfl ?_
    cases h
    rw [Nat.zero_add, Nat.zero_add]
    exact hK
  · skip
    rw [if_neg c216] at h
    cases h
set_option maxRecDepth 20000 in
theorem gL_law_637 (Ls : Nat) (xs : Nat → Int32) (hLs : Ls < 100000) (l : Launch) {F : FI} {v1 v2 v3 : Int} {μ : Mm} {t : ((Int × Mm) ⊕ Mm)} {c0 n0 k n : Nat} (h : jL_law_637 Ls xs v1 v2 v3 μ = some (t, c0, n0)) (hK : zL_law_18 Ls xs l F v1 v2 k n t) : GM l (mL_law Ls xs) F (c0 + k) (n0 + n) 637 [(0, (3, 34)), (1, (3, v1)), (2, (3, v2)), (3, (0, v3))] [] μ := by
  unfold jL_law_637 at h
  refine GM_aload_n (pc := 637) 1 rfl (daL_law_5 49 rfl) rfl ?_
  refine GM_aload_n (pc := 638) 0 rfl (daL_law_5 50 rfl) rfl ?_
  refine GM_iload_n (pc := 639) 3 rfl (daL_law_5 51 rfl) rfl ?_
  refine GM_iconst (pc := 640) 1 (daL_law_5 52 rfl) rfl (R32_b rfl) ?_
  refine GM_iadd (pc := 641) (daL_law_5 53 rfl) ?_
  obtain ⟨hc217, h⟩ := chk_inv h
  refine GM_sld (Ls := Ls) (xs := xs) (pc := 642) rfl hc217.1 hc217.2 (daL_law_5 54 rfl) ?_
  refine GM_aload_n (pc := 643) 0 rfl (daL_law_5 55 rfl) rfl ?_
  refine GM_iload_n (pc := 644) 3 rfl (daL_law_5 56 rfl) rfl ?_
  refine GM_iconst (pc := 645) 2 (daL_law_5 57 rfl) rfl (R32_b rfl) ?_
  refine GM_iadd (pc := 646) (daL_law_5 58 rfl) ?_
  obtain ⟨hc218, h⟩ := chk_inv h
  refine GM_sld (Ls := Ls) (xs := xs) (pc := 647) rfl hc218.1 hc218.2 (daL_law_5 59 rfl) ?_
  refine GM_aload_n (pc := 648) 0 rfl (daL_law_5 60 rfl) rfl ?_
  refine GM_iload_n (pc := 649) 3 rfl (daL_law_5 61 rfl) rfl ?_
  refine GM_iconst (pc := 650) 3 (daL_law_5 62 rfl) rfl (R32_b rfl) ?_
  refine GM_iadd (pc := 651) (daL_law_5 63 rfl) ?_
  obtain ⟨hc219, h⟩ := chk_inv h
  refine GM_sld (Ls := Ls) (xs := xs) (pc := 652) rfl hc219.1 hc219.2 (daL_law_6 0 rfl) ?_
  obtain ⟨hc220, h⟩ := chk_inv h
  obtain ⟨⟨⟨r221, μ221⟩, c221, n221⟩, hf221, h⟩ := Option.bind_eq_some_iff.mp h
  dsimp only at h
  obtain ⟨c222, n222, hp, e1, e2⟩ := pay_inv h
  subst e1 e2
  replace h := hp
  clear hp
  rw [Nat.add_assoc, Nat.add_assoc]
  refine GM_callV (pc := 653) [(0, (xs (w32 (v3 + 1)).toNat).toInt), (0, (xs (w32 (v3 + 2)).toNat).toInt), (0, (xs (w32 (v3 + 3)).toNat).toInt)] (tX10_hump l hf221) cwX10_hump 10 (Nat.le_of_ble_eq_true rfl) rfl kv_X10_hump ke_X10_hump km_L_62 hc220 ⟨Nat.le_of_ble_eq_true rfl, Nat.le_of_ble_eq_true rfl⟩ (Nat.le_of_ble_eq_true rfl) (Nat.le_of_ble_eq_true rfl) (daL_law_6 1 rfl) ?_
  refine GM_aload_n (pc := 656) 2 rfl (daL_law_6 2 rfl) rfl ?_
  refine GM_aload_n (pc := 657) 0 rfl (daL_law_6 3 rfl) rfl ?_
  refine GM_iload_n (pc := 658) 3 rfl (daL_law_6 4 rfl) rfl ?_
  refine GM_iconst (pc := 659) 1 (daL_law_6 5 rfl) rfl (R32_b rfl) ?_
  refine GM_iadd (pc := 660) (daL_law_6 6 rfl) ?_
  refine GM_sld (Ls := Ls) (xs := xs) (pc := 661) rfl hc217.1 hc217.2 (daL_law_6 7 rfl) ?_
  refine GM_aload_n (pc := 662) 0 rfl (daL_law_6 8 rfl) rfl ?_
  refine GM_iload_n (pc := 663) 3 rfl (daL_law_6 9 rfl) rfl ?_
  refine GM_iconst (pc := 664) 2 (daL_law_6 10 rfl) rfl (R32_b rfl) ?_
  refine GM_iadd (pc := 665) (daL_law_6 11 rfl) ?_
  refine GM_sld (Ls := Ls) (xs := xs) (pc := 666) rfl hc218.1 hc218.2 (daL_law_6 12 rfl) ?_
  refine GM_aload_n (pc := 667) 0 rfl (daL_law_6 13 rfl) rfl ?_
  refine GM_iload_n (pc := 668) 3 rfl (daL_law_6 14 rfl) rfl ?_
  refine GM_iconst (pc := 669) 3 (daL_law_6 15 rfl) rfl (R32_b rfl) ?_
  refine GM_iadd (pc := 670) (daL_law_6 16 rfl) ?_
  refine GM_sld (Ls := Ls) (xs := xs) (pc := 671) rfl hc219.1 hc219.2 (daL_law_6 17 rfl) ?_
  obtain ⟨hc223, h⟩ := chk_inv h
  obtain ⟨⟨r224, μ224⟩, hf224, h⟩ := Option.bind_eq_some_iff.mp h
  dsimp only at h
  refine GM_callV0 (pc := 672) [(0, (xs (w32 (v3 + 1)).toNat).toInt), (0, (xs (w32 (v3 + 2)).toNat).toInt), (0, (xs (w32 (v3 + 3)).toNat).toInt)] (tX11_hump l hf224) cwX11_hump 11 (Nat.le_of_ble_eq_true rfl) rfl kv_X11_hump ke_X11_hump km_L_65 hc223 ⟨Nat.le_of_ble_eq_true rfl, Nat.le_of_ble_eq_true rfl⟩ (Nat.le_of_ble_eq_true rfl) (Nat.le_of_ble_eq_true rfl) (daL_law_6 18 rfl) ?_
  refine GM_icmp_eq (pc := 675) 2238 (daL_law_6 19 rfl) rfl (fun c225 => ?_) (fun c225 => ?_)
  · skip
    rw [if_pos c225] at h
    refine GM_iinc (L' := [(3, (0, w32 (v3 + 9))), (0, (3, 34)), (1, (3, v1)), (2, (3, v2))]) (pc := 2238) 3 rfl (daL_law_26 56 rfl) (Nat.le_of_ble_eq_true rfl) rfl ?_
    refine GM_goto (pc := 2241) 18 (daL_law_26 57 rfl) rfl ?_
    refine GM_pick [1, 2, 3, 0] rfl ?_
    cases h
    rw [Nat.zero_add, Nat.zero_add]
    exact hK
  · skip
    rw [if_neg c225] at h
    cases h
set_option maxRecDepth 20000 in
theorem gL_law_1588 (Ls : Nat) (xs : Nat → Int32) (hLs : Ls < 100000) (l : Launch) {F : FI} {v1 v2 v3 s0 s1 s2 s3 s4 s5 s6 : Int} {μ : Mm} {t : ((Int × Mm) ⊕ Mm)} {c0 n0 k n : Nat} (h : jL_law_1588 Ls xs v1 v2 v3 s0 s1 s2 s3 s4 s5 s6 μ = some (t, c0, n0)) (hK : zL_law_18 Ls xs l F v1 v2 k n t) : GM l (mL_law Ls xs) F (c0 + k) (n0 + n) 1588 [(0, (3, 34)), (1, (3, v1)), (2, (3, v2)), (3, (0, v3))] [(0, s0), (0, s1), (0, s2), (0, s3), (0, s4), (0, s5), (3, s6)] μ := by
  unfold jL_law_1588 at h
  obtain ⟨hc226, h⟩ := chk_inv h
  obtain ⟨⟨⟨r227, μ227⟩, c227, n227⟩, hf227, h⟩ := Option.bind_eq_some_iff.mp h
  dsimp only at h
  obtain ⟨c228, n228, hp, e1, e2⟩ := pay_inv h
  subst e1 e2
  replace h := hp
  clear hp
  rw [Nat.add_assoc, Nat.add_assoc]
  refine GM_callV (pc := 1588) [(0, s5), (0, s4), (0, s3), (0, s2), (0, s1), (0, s0)] (tX10_stretch l hf227) cwX10_stretch 10 (Nat.le_of_ble_eq_true rfl) rfl kv_X10_stretch ke_X10_stretch km_L_140 hc226 ⟨Nat.le_of_ble_eq_true rfl, Nat.le_of_ble_eq_true rfl⟩ (Nat.le_of_ble_eq_true rfl) (Nat.le_of_ble_eq_true rfl) (daL_law_18 37 rfl) ?_
  refine GM_aload_n (pc := 1591) 2 rfl (daL_law_18 38 rfl) rfl ?_
  refine GM_aload_n (pc := 1592) 0 rfl (daL_law_18 39 rfl) rfl ?_
  refine GM_iload_n (pc := 1593) 3 rfl (daL_law_18 40 rfl) rfl ?_
  refine GM_iconst (pc := 1594) 1 (daL_law_18 41 rfl) rfl (R32_b rfl) ?_
  refine GM_iadd (pc := 1595) (daL_law_18 42 rfl) ?_
  obtain ⟨hc229, h⟩ := chk_inv h
  refine GM_sld (Ls := Ls) (xs := xs) (pc := 1596) rfl hc229.1 hc229.2 (daL_law_18 43 rfl) ?_
  refine GM_aload_n (pc := 1597) 0 rfl (daL_law_18 44 rfl) rfl ?_
  refine GM_iload_n (pc := 1598) 3 rfl (daL_law_18 45 rfl) rfl ?_
  refine GM_iconst (pc := 1599) 2 (daL_law_18 46 rfl) rfl (R32_b rfl) ?_
  refine GM_iadd (pc := 1600) (daL_law_18 47 rfl) ?_
  obtain ⟨hc230, h⟩ := chk_inv h
  refine GM_sld (Ls := Ls) (xs := xs) (pc := 1601) rfl hc230.1 hc230.2 (daL_law_18 48 rfl) ?_
  refine GM_aload_n (pc := 1602) 0 rfl (daL_law_18 49 rfl) rfl ?_
  refine GM_iload_n (pc := 1603) 3 rfl (daL_law_18 50 rfl) rfl ?_
  refine GM_iconst (pc := 1604) 3 (daL_law_18 51 rfl) rfl (R32_b rfl) ?_
  refine GM_iadd (pc := 1605) (daL_law_18 52 rfl) ?_
  obtain ⟨hc231, h⟩ := chk_inv h
  refine GM_sld (Ls := Ls) (xs := xs) (pc := 1606) rfl hc231.1 hc231.2 (daL_law_18 53 rfl) ?_
  refine GM_aload_n (pc := 1607) 0 rfl (daL_law_18 54 rfl) rfl ?_
  refine GM_iload_n (pc := 1608) 3 rfl (daL_law_18 55 rfl) rfl ?_
  refine GM_iconst (pc := 1609) 4 (daL_law_18 56 rfl) rfl (R32_b rfl) ?_
  refine GM_iadd (pc := 1610) (daL_law_18 57 rfl) ?_
  obtain ⟨hc232, h⟩ := chk_inv h
  refine GM_sld (Ls := Ls) (xs := xs) (pc := 1611) rfl hc232.1 hc232.2 (daL_law_18 58 rfl) ?_
  refine GM_aload_n (pc := 1612) 0 rfl (daL_law_18 59 rfl) rfl ?_
  refine GM_iload_n (pc := 1613) 3 rfl (daL_law_18 60 rfl) rfl ?_
  refine GM_iconst (pc := 1614) 5 (daL_law_18 61 rfl) rfl (R32_b rfl) ?_
  refine GM_iadd (pc := 1615) (daL_law_18 62 rfl) ?_
  obtain ⟨hc233, h⟩ := chk_inv h
  refine GM_sld (Ls := Ls) (xs := xs) (pc := 1616) rfl hc233.1 hc233.2 (daL_law_18 63 rfl) ?_
  refine GM_if_eq (pc := 1617) 1624 (daL_law_19 0 rfl) rfl (fun c234 => ?_) (fun c234 => ?_)
  · skip
    rw [if_pos c234] at h
    refine GM_iconst (pc := 1624) 0 (daL_law_19 3 rfl) rfl (R32_b rfl) ?_
    exact gL_law_1625 Ls xs hLs l h hK
  · skip
    rw [if_neg c234] at h
    refine GM_iconst (pc := 1620) 1 (daL_law_19 1 rfl) rfl (R32_b rfl) ?_
    refine GM_goto (pc := 1621) 1625 (daL_law_19 2 rfl) rfl ?_
    exact gL_law_1625 Ls xs hLs l h hK
set_option maxRecDepth 20000 in
theorem gL_law_1700 (Ls : Nat) (xs : Nat → Int32) (hLs : Ls < 100000) (l : Launch) {F : FI} {v1 v2 v3 : Int} {μ : Mm} {t : ((Int × Mm) ⊕ Mm)} {c0 n0 k n : Nat} (h : jL_law_1700 Ls xs v1 v2 v3 μ = some (t, c0, n0)) (hK : zL_law_18 Ls xs l F v1 v2 k n t) : GM l (mL_law Ls xs) F (c0 + k) (n0 + n) 1700 [(0, (3, 34)), (1, (3, v1)), (2, (3, v2)), (3, (0, v3))] [] μ := by
  unfold jL_law_1700 at h
  refine GM_aload_n (pc := 1700) 1 rfl (daL_law_20 0 rfl) rfl ?_
  refine GM_aload_n (pc := 1701) 0 rfl (daL_law_20 1 rfl) rfl ?_
  refine GM_iload_n (pc := 1702) 3 rfl (daL_law_20 2 rfl) rfl ?_
  refine GM_iconst (pc := 1703) 1 (daL_law_20 3 rfl) rfl (R32_b rfl) ?_
  refine GM_iadd (pc := 1704) (daL_law_20 4 rfl) ?_
  obtain ⟨hc235, h⟩ := chk_inv h
  refine GM_sld (Ls := Ls) (xs := xs) (pc := 1705) rfl hc235.1 hc235.2 (daL_law_20 5 rfl) ?_
  refine GM_aload_n (pc := 1706) 0 rfl (daL_law_20 6 rfl) rfl ?_
  refine GM_iload_n (pc := 1707) 3 rfl (daL_law_20 7 rfl) rfl ?_
  refine GM_iconst (pc := 1708) 2 (daL_law_20 8 rfl) rfl (R32_b rfl) ?_
  refine GM_iadd (pc := 1709) (daL_law_20 9 rfl) ?_
  obtain ⟨hc236, h⟩ := chk_inv h
  refine GM_sld (Ls := Ls) (xs := xs) (pc := 1710) rfl hc236.1 hc236.2 (daL_law_20 10 rfl) ?_
  refine GM_aload_n (pc := 1711) 0 rfl (daL_law_20 11 rfl) rfl ?_
  refine GM_iload_n (pc := 1712) 3 rfl (daL_law_20 12 rfl) rfl ?_
  refine GM_iconst (pc := 1713) 3 (daL_law_20 13 rfl) rfl (R32_b rfl) ?_
  refine GM_iadd (pc := 1714) (daL_law_20 14 rfl) ?_
  obtain ⟨hc237, h⟩ := chk_inv h
  refine GM_sld (Ls := Ls) (xs := xs) (pc := 1715) rfl hc237.1 hc237.2 (daL_law_20 15 rfl) ?_
  refine GM_if_eq (pc := 1716) 1723 (daL_law_20 16 rfl) rfl (fun c238 => ?_) (fun c238 => ?_)
  · skip
    rw [if_pos c238] at h
    refine GM_iconst (pc := 1723) 0 (daL_law_20 19 rfl) rfl (R32_b rfl) ?_
    exact gL_law_1724 Ls xs hLs l h hK
  · skip
    rw [if_neg c238] at h
    refine GM_iconst (pc := 1719) 1 (daL_law_20 17 rfl) rfl (R32_b rfl) ?_
    refine GM_goto (pc := 1720) 1724 (daL_law_20 18 rfl) rfl ?_
    exact gL_law_1724 Ls xs hLs l h hK
set_option maxRecDepth 20000 in
theorem gL_law_1074 (Ls : Nat) (xs : Nat → Int32) (hLs : Ls < 100000) (l : Launch) {F : FI} {v1 v2 v3 : Int} {μ : Mm} {t : ((Int × Mm) ⊕ Mm)} {c0 n0 k n : Nat} (h : jL_law_1074 Ls xs v1 v2 v3 μ = some (t, c0, n0)) (hK : zL_law_18 Ls xs l F v1 v2 k n t) : GM l (mL_law Ls xs) F (c0 + k) (n0 + n) 1074 [(0, (3, 34)), (1, (3, v1)), (2, (3, v2)), (3, (0, v3))] [] μ := by
  unfold jL_law_1074 at h
  refine GM_aload_n (pc := 1074) 1 rfl (daL_law_11 48 rfl) rfl ?_
  refine GM_aload_n (pc := 1075) 0 rfl (daL_law_11 49 rfl) rfl ?_
  refine GM_iload_n (pc := 1076) 3 rfl (daL_law_11 50 rfl) rfl ?_
  refine GM_iconst (pc := 1077) 1 (daL_law_11 51 rfl) rfl (R32_b rfl) ?_
  refine GM_iadd (pc := 1078) (daL_law_11 52 rfl) ?_
  obtain ⟨hc239, h⟩ := chk_inv h
  refine GM_sld (Ls := Ls) (xs := xs) (pc := 1079) rfl hc239.1 hc239.2 (daL_law_11 53 rfl) ?_
  refine GM_aload_n (pc := 1080) 0 rfl (daL_law_11 54 rfl) rfl ?_
  refine GM_iload_n (pc := 1081) 3 rfl (daL_law_11 55 rfl) rfl ?_
  refine GM_iconst (pc := 1082) 2 (daL_law_11 56 rfl) rfl (R32_b rfl) ?_
  refine GM_iadd (pc := 1083) (daL_law_11 57 rfl) ?_
  obtain ⟨hc240, h⟩ := chk_inv h
  refine GM_sld (Ls := Ls) (xs := xs) (pc := 1084) rfl hc240.1 hc240.2 (daL_law_11 58 rfl) ?_
  refine GM_aload_n (pc := 1085) 0 rfl (daL_law_11 59 rfl) rfl ?_
  refine GM_iload_n (pc := 1086) 3 rfl (daL_law_11 60 rfl) rfl ?_
  refine GM_iconst (pc := 1087) 3 (daL_law_11 61 rfl) rfl (R32_b rfl) ?_
  refine GM_iadd (pc := 1088) (daL_law_11 62 rfl) ?_
  obtain ⟨hc241, h⟩ := chk_inv h
  refine GM_sld (Ls := Ls) (xs := xs) (pc := 1089) rfl hc241.1 hc241.2 (daL_law_11 63 rfl) ?_
  refine GM_if_eq (pc := 1090) 1097 (daL_law_12 0 rfl) rfl (fun c242 => ?_) (fun c242 => ?_)
  · skip
    rw [if_pos c242] at h
    refine GM_iconst (pc := 1097) 0 (daL_law_12 3 rfl) rfl (R32_b rfl) ?_
    exact gL_law_1098 Ls xs hLs l h hK
  · skip
    rw [if_neg c242] at h
    refine GM_iconst (pc := 1093) 1 (daL_law_12 1 rfl) rfl (R32_b rfl) ?_
    refine GM_goto (pc := 1094) 1098 (daL_law_12 2 rfl) rfl ?_
    exact gL_law_1098 Ls xs hLs l h hK
set_option maxRecDepth 20000 in
theorem gL_law_902 (Ls : Nat) (xs : Nat → Int32) (hLs : Ls < 100000) (l : Launch) {F : FI} {v1 v2 v3 : Int} {μ : Mm} {t : ((Int × Mm) ⊕ Mm)} {c0 n0 k n : Nat} (h : jL_law_902 Ls xs v1 v2 v3 μ = some (t, c0, n0)) (hK : zL_law_18 Ls xs l F v1 v2 k n t) : GM l (mL_law Ls xs) F (c0 + k) (n0 + n) 902 [(0, (3, 34)), (1, (3, v1)), (2, (3, v2)), (3, (0, v3))] [] μ := by
  unfold jL_law_902 at h
  refine GM_aload_n (pc := 902) 1 rfl (daL_law_9 28 rfl) rfl ?_
  refine GM_aload_n (pc := 903) 0 rfl (daL_law_9 29 rfl) rfl ?_
  refine GM_iload_n (pc := 904) 3 rfl (daL_law_9 30 rfl) rfl ?_
  refine GM_iconst (pc := 905) 1 (daL_law_9 31 rfl) rfl (R32_b rfl) ?_
  refine GM_iadd (pc := 906) (daL_law_9 32 rfl) ?_
  obtain ⟨hc243, h⟩ := chk_inv h
  refine GM_sld (Ls := Ls) (xs := xs) (pc := 907) rfl hc243.1 hc243.2 (daL_law_9 33 rfl) ?_
  refine GM_aload_n (pc := 908) 0 rfl (daL_law_9 34 rfl) rfl ?_
  refine GM_iload_n (pc := 909) 3 rfl (daL_law_9 35 rfl) rfl ?_
  refine GM_iconst (pc := 910) 2 (daL_law_9 36 rfl) rfl (R32_b rfl) ?_
  refine GM_iadd (pc := 911) (daL_law_9 37 rfl) ?_
  obtain ⟨hc244, h⟩ := chk_inv h
  refine GM_sld (Ls := Ls) (xs := xs) (pc := 912) rfl hc244.1 hc244.2 (daL_law_9 38 rfl) ?_
  refine GM_aload_n (pc := 913) 0 rfl (daL_law_9 39 rfl) rfl ?_
  refine GM_iload_n (pc := 914) 3 rfl (daL_law_9 40 rfl) rfl ?_
  refine GM_iconst (pc := 915) 3 (daL_law_9 41 rfl) rfl (R32_b rfl) ?_
  refine GM_iadd (pc := 916) (daL_law_9 42 rfl) ?_
  obtain ⟨hc245, h⟩ := chk_inv h
  refine GM_sld (Ls := Ls) (xs := xs) (pc := 917) rfl hc245.1 hc245.2 (daL_law_9 43 rfl) ?_
  refine GM_aload_n (pc := 918) 0 rfl (daL_law_9 44 rfl) rfl ?_
  refine GM_iload_n (pc := 919) 3 rfl (daL_law_9 45 rfl) rfl ?_
  refine GM_iconst (pc := 920) 4 (daL_law_9 46 rfl) rfl (R32_b rfl) ?_
  refine GM_iadd (pc := 921) (daL_law_9 47 rfl) ?_
  obtain ⟨hc246, h⟩ := chk_inv h
  refine GM_sld (Ls := Ls) (xs := xs) (pc := 922) rfl hc246.1 hc246.2 (daL_law_9 48 rfl) ?_
  obtain ⟨hc247, h⟩ := chk_inv h
  obtain ⟨⟨⟨r248, μ248⟩, c248, n248⟩, hf248, h⟩ := Option.bind_eq_some_iff.mp h
  dsimp only at h
  obtain ⟨c249, n249, hp, e1, e2⟩ := pay_inv h
  subst e1 e2
  replace h := hp
  clear hp
  rw [Nat.add_assoc, Nat.add_assoc]
  refine GM_callV (pc := 923) [(0, (xs (w32 (v3 + 1)).toNat).toInt), (0, (xs (w32 (v3 + 2)).toNat).toInt), (0, (xs (w32 (v3 + 3)).toNat).toInt), (0, (xs (w32 (v3 + 4)).toNat).toInt)] (tX10_hills l hf248) cwX10_hills 10 (Nat.le_of_ble_eq_true rfl) rfl kv_X10_hills ke_X10_hills km_L_83 hc247 ⟨Nat.le_of_ble_eq_true rfl, Nat.le_of_ble_eq_true rfl⟩ (Nat.le_of_ble_eq_true rfl) (Nat.le_of_ble_eq_true rfl) (daL_law_9 49 rfl) ?_
  refine GM_aload_n (pc := 926) 2 rfl (daL_law_9 50 rfl) rfl ?_
  refine GM_aload_n (pc := 927) 0 rfl (daL_law_9 51 rfl) rfl ?_
  refine GM_iload_n (pc := 928) 3 rfl (daL_law_9 52 rfl) rfl ?_
  refine GM_iconst (pc := 929) 1 (daL_law_9 53 rfl) rfl (R32_b rfl) ?_
  refine GM_iadd (pc := 930) (daL_law_9 54 rfl) ?_
  refine GM_sld (Ls := Ls) (xs := xs) (pc := 931) rfl hc243.1 hc243.2 (daL_law_9 55 rfl) ?_
  refine GM_aload_n (pc := 932) 0 rfl (daL_law_9 56 rfl) rfl ?_
  refine GM_iload_n (pc := 933) 3 rfl (daL_law_9 57 rfl) rfl ?_
  refine GM_iconst (pc := 934) 2 (daL_law_9 58 rfl) rfl (R32_b rfl) ?_
  refine GM_iadd (pc := 935) (daL_law_9 59 rfl) ?_
  refine GM_sld (Ls := Ls) (xs := xs) (pc := 936) rfl hc244.1 hc244.2 (daL_law_9 60 rfl) ?_
  refine GM_aload_n (pc := 937) 0 rfl (daL_law_9 61 rfl) rfl ?_
  refine GM_iload_n (pc := 938) 3 rfl (daL_law_9 62 rfl) rfl ?_
  refine GM_iconst (pc := 939) 3 (daL_law_9 63 rfl) rfl (R32_b rfl) ?_
  refine GM_iadd (pc := 940) (daL_law_10 0 rfl) ?_
  refine GM_sld (Ls := Ls) (xs := xs) (pc := 941) rfl hc245.1 hc245.2 (daL_law_10 1 rfl) ?_
  refine GM_aload_n (pc := 942) 0 rfl (daL_law_10 2 rfl) rfl ?_
  refine GM_iload_n (pc := 943) 3 rfl (daL_law_10 3 rfl) rfl ?_
  refine GM_iconst (pc := 944) 4 (daL_law_10 4 rfl) rfl (R32_b rfl) ?_
  refine GM_iadd (pc := 945) (daL_law_10 5 rfl) ?_
  refine GM_sld (Ls := Ls) (xs := xs) (pc := 946) rfl hc246.1 hc246.2 (daL_law_10 6 rfl) ?_
  obtain ⟨hc250, h⟩ := chk_inv h
  obtain ⟨⟨r251, μ251⟩, hf251, h⟩ := Option.bind_eq_some_iff.mp h
  dsimp only at h
  refine GM_callV0 (pc := 947) [(0, (xs (w32 (v3 + 1)).toNat).toInt), (0, (xs (w32 (v3 + 2)).toNat).toInt), (0, (xs (w32 (v3 + 3)).toNat).toInt), (0, (xs (w32 (v3 + 4)).toNat).toInt)] (tX11_hills l hf251) cwX11_hills 11 (Nat.le_of_ble_eq_true rfl) rfl kv_X11_hills ke_X11_hills km_L_86 hc250 ⟨Nat.le_of_ble_eq_true rfl, Nat.le_of_ble_eq_true rfl⟩ (Nat.le_of_ble_eq_true rfl) (Nat.le_of_ble_eq_true rfl) (daL_law_10 7 rfl) ?_
  refine GM_icmp_eq (pc := 950) 2238 (daL_law_10 8 rfl) rfl (fun c252 => ?_) (fun c252 => ?_)
  · skip
    rw [if_pos c252] at h
    refine GM_iinc (L' := [(3, (0, w32 (v3 + 9))), (0, (3, 34)), (1, (3, v1)), (2, (3, v2))]) (pc := 2238) 3 rfl (daL_law_26 56 rfl) (Nat.le_of_ble_eq_true rfl) rfl ?_
    refine GM_goto (pc := 2241) 18 (daL_law_26 57 rfl) rfl ?_
    refine GM_pick [1, 2, 3, 0] rfl ?_
    cases h
    rw [Nat.zero_add, Nat.zero_add]
    exact hK
  · skip
    rw [if_neg c252] at h
    cases h
set_option maxRecDepth 20000 in
theorem gL_law_2060 (Ls : Nat) (xs : Nat → Int32) (hLs : Ls < 100000) (l : Launch) {F : FI} {v1 v2 v3 : Int} {μ : Mm} {t : ((Int × Mm) ⊕ Mm)} {c0 n0 k n : Nat} (h : jL_law_2060 Ls xs v1 v2 v3 μ = some (t, c0, n0)) (hK : zL_law_18 Ls xs l F v1 v2 k n t) : GM l (mL_law Ls xs) F (c0 + k) (n0 + n) 2060 [(0, (3, 34)), (1, (3, v1)), (2, (3, v2)), (3, (0, v3))] [] μ := by
  unfold jL_law_2060 at h
  refine GM_aload_n (pc := 2060) 1 rfl (daL_law_24 42 rfl) rfl ?_
  refine GM_aload_n (pc := 2061) 0 rfl (daL_law_24 43 rfl) rfl ?_
  refine GM_iload_n (pc := 2062) 3 rfl (daL_law_24 44 rfl) rfl ?_
  refine GM_iconst (pc := 2063) 1 (daL_law_24 45 rfl) rfl (R32_b rfl) ?_
  refine GM_iadd (pc := 2064) (daL_law_24 46 rfl) ?_
  obtain ⟨hc253, h⟩ := chk_inv h
  refine GM_sld (Ls := Ls) (xs := xs) (pc := 2065) rfl hc253.1 hc253.2 (daL_law_24 47 rfl) ?_
  refine GM_aload_n (pc := 2066) 0 rfl (daL_law_24 48 rfl) rfl ?_
  refine GM_iload_n (pc := 2067) 3 rfl (daL_law_24 49 rfl) rfl ?_
  refine GM_iconst (pc := 2068) 2 (daL_law_24 50 rfl) rfl (R32_b rfl) ?_
  refine GM_iadd (pc := 2069) (daL_law_24 51 rfl) ?_
  obtain ⟨hc254, h⟩ := chk_inv h
  refine GM_sld (Ls := Ls) (xs := xs) (pc := 2070) rfl hc254.1 hc254.2 (daL_law_24 52 rfl) ?_
  refine GM_aload_n (pc := 2071) 0 rfl (daL_law_24 53 rfl) rfl ?_
  refine GM_iload_n (pc := 2072) 3 rfl (daL_law_24 54 rfl) rfl ?_
  refine GM_iconst (pc := 2073) 3 (daL_law_24 55 rfl) rfl (R32_b rfl) ?_
  refine GM_iadd (pc := 2074) (daL_law_24 56 rfl) ?_
  obtain ⟨hc255, h⟩ := chk_inv h
  refine GM_sld (Ls := Ls) (xs := xs) (pc := 2075) rfl hc255.1 hc255.2 (daL_law_24 57 rfl) ?_
  refine GM_aload_n (pc := 2076) 0 rfl (daL_law_24 58 rfl) rfl ?_
  refine GM_iload_n (pc := 2077) 3 rfl (daL_law_24 59 rfl) rfl ?_
  refine GM_iconst (pc := 2078) 4 (daL_law_24 60 rfl) rfl (R32_b rfl) ?_
  refine GM_iadd (pc := 2079) (daL_law_24 61 rfl) ?_
  obtain ⟨hc256, h⟩ := chk_inv h
  refine GM_sld (Ls := Ls) (xs := xs) (pc := 2080) rfl hc256.1 hc256.2 (daL_law_24 62 rfl) ?_
  obtain ⟨hc257, h⟩ := chk_inv h
  obtain ⟨⟨⟨r258, μ258⟩, c258, n258⟩, hf258, h⟩ := Option.bind_eq_some_iff.mp h
  dsimp only at h
  obtain ⟨c259, n259, hp, e1, e2⟩ := pay_inv h
  subst e1 e2
  replace h := hp
  clear hp
  rw [Nat.add_assoc, Nat.add_assoc]
  refine GM_callV (pc := 2081) [(0, (xs (w32 (v3 + 1)).toNat).toInt), (0, (xs (w32 (v3 + 2)).toNat).toInt), (0, (xs (w32 (v3 + 3)).toNat).toInt), (0, (xs (w32 (v3 + 4)).toNat).toInt)] (tX10_sneak l hf258) cwX10_sneak 10 (Nat.le_of_ble_eq_true rfl) rfl kv_X10_sneak ke_X10_sneak km_L_175 hc257 ⟨Nat.le_of_ble_eq_true rfl, Nat.le_of_ble_eq_true rfl⟩ (Nat.le_of_ble_eq_true rfl) (Nat.le_of_ble_eq_true rfl) (daL_law_24 63 rfl) ?_
  refine GM_aload_n (pc := 2084) 2 rfl (daL_law_25 0 rfl) rfl ?_
  refine GM_aload_n (pc := 2085) 0 rfl (daL_law_25 1 rfl) rfl ?_
  refine GM_iload_n (pc := 2086) 3 rfl (daL_law_25 2 rfl) rfl ?_
  refine GM_iconst (pc := 2087) 1 (daL_law_25 3 rfl) rfl (R32_b rfl) ?_
  refine GM_iadd (pc := 2088) (daL_law_25 4 rfl) ?_
  refine GM_sld (Ls := Ls) (xs := xs) (pc := 2089) rfl hc253.1 hc253.2 (daL_law_25 5 rfl) ?_
  refine GM_aload_n (pc := 2090) 0 rfl (daL_law_25 6 rfl) rfl ?_
  refine GM_iload_n (pc := 2091) 3 rfl (daL_law_25 7 rfl) rfl ?_
  refine GM_iconst (pc := 2092) 2 (daL_law_25 8 rfl) rfl (R32_b rfl) ?_
  refine GM_iadd (pc := 2093) (daL_law_25 9 rfl) ?_
  refine GM_sld (Ls := Ls) (xs := xs) (pc := 2094) rfl hc254.1 hc254.2 (daL_law_25 10 rfl) ?_
  refine GM_aload_n (pc := 2095) 0 rfl (daL_law_25 11 rfl) rfl ?_
  refine GM_iload_n (pc := 2096) 3 rfl (daL_law_25 12 rfl) rfl ?_
  refine GM_iconst (pc := 2097) 3 (daL_law_25 13 rfl) rfl (R32_b rfl) ?_
  refine GM_iadd (pc := 2098) (daL_law_25 14 rfl) ?_
  refine GM_sld (Ls := Ls) (xs := xs) (pc := 2099) rfl hc255.1 hc255.2 (daL_law_25 15 rfl) ?_
  refine GM_aload_n (pc := 2100) 0 rfl (daL_law_25 16 rfl) rfl ?_
  refine GM_iload_n (pc := 2101) 3 rfl (daL_law_25 17 rfl) rfl ?_
  refine GM_iconst (pc := 2102) 4 (daL_law_25 18 rfl) rfl (R32_b rfl) ?_
  refine GM_iadd (pc := 2103) (daL_law_25 19 rfl) ?_
  refine GM_sld (Ls := Ls) (xs := xs) (pc := 2104) rfl hc256.1 hc256.2 (daL_law_25 20 rfl) ?_
  obtain ⟨hc260, h⟩ := chk_inv h
  obtain ⟨⟨r261, μ261⟩, hf261, h⟩ := Option.bind_eq_some_iff.mp h
  dsimp only at h
  refine GM_callV0 (pc := 2105) [(0, (xs (w32 (v3 + 1)).toNat).toInt), (0, (xs (w32 (v3 + 2)).toNat).toInt), (0, (xs (w32 (v3 + 3)).toNat).toInt), (0, (xs (w32 (v3 + 4)).toNat).toInt)] (tX11_sneak l hf261) cwX11_sneak 11 (Nat.le_of_ble_eq_true rfl) rfl kv_X11_sneak ke_X11_sneak km_L_178 hc260 ⟨Nat.le_of_ble_eq_true rfl, Nat.le_of_ble_eq_true rfl⟩ (Nat.le_of_ble_eq_true rfl) (Nat.le_of_ble_eq_true rfl) (daL_law_25 21 rfl) ?_
  refine GM_icmp_eq (pc := 2108) 2238 (daL_law_25 22 rfl) rfl (fun c262 => ?_) (fun c262 => ?_)
  · skip
    rw [if_pos c262] at h
    refine GM_iinc (L' := [(3, (0, w32 (v3 + 9))), (0, (3, 34)), (1, (3, v1)), (2, (3, v2))]) (pc := 2238) 3 rfl (daL_law_26 56 rfl) (Nat.le_of_ble_eq_true rfl) rfl ?_
    refine GM_goto (pc := 2241) 18 (daL_law_26 57 rfl) rfl ?_
    refine GM_pick [1, 2, 3, 0] rfl ?_
    cases h
    rw [Nat.zero_add, Nat.zero_add]
    exact hK
  · skip
    rw [if_neg c262] at h
    cases h
set_option maxRecDepth 20000 in
theorem gL_law_1302 (Ls : Nat) (xs : Nat → Int32) (hLs : Ls < 100000) (l : Launch) {F : FI} {v1 v2 v3 : Int} {μ : Mm} {t : ((Int × Mm) ⊕ Mm)} {c0 n0 k n : Nat} (h : jL_law_1302 Ls xs v1 v2 v3 μ = some (t, c0, n0)) (hK : zL_law_18 Ls xs l F v1 v2 k n t) : GM l (mL_law Ls xs) F (c0 + k) (n0 + n) 1302 [(0, (3, 34)), (1, (3, v1)), (2, (3, v2)), (3, (0, v3))] [] μ := by
  unfold jL_law_1302 at h
  refine GM_aload_n (pc := 1302) 1 rfl (daL_law_14 52 rfl) rfl ?_
  refine GM_aload_n (pc := 1303) 0 rfl (daL_law_14 53 rfl) rfl ?_
  refine GM_iload_n (pc := 1304) 3 rfl (daL_law_14 54 rfl) rfl ?_
  refine GM_iconst (pc := 1305) 1 (daL_law_14 55 rfl) rfl (R32_b rfl) ?_
  refine GM_iadd (pc := 1306) (daL_law_14 56 rfl) ?_
  obtain ⟨hc263, h⟩ := chk_inv h
  refine GM_sld (Ls := Ls) (xs := xs) (pc := 1307) rfl hc263.1 hc263.2 (daL_law_14 57 rfl) ?_
  refine GM_aload_n (pc := 1308) 0 rfl (daL_law_14 58 rfl) rfl ?_
  refine GM_iload_n (pc := 1309) 3 rfl (daL_law_14 59 rfl) rfl ?_
  refine GM_iconst (pc := 1310) 2 (daL_law_14 60 rfl) rfl (R32_b rfl) ?_
  refine GM_iadd (pc := 1311) (daL_law_14 61 rfl) ?_
  obtain ⟨hc264, h⟩ := chk_inv h
  refine GM_sld (Ls := Ls) (xs := xs) (pc := 1312) rfl hc264.1 hc264.2 (daL_law_14 62 rfl) ?_
  refine GM_aload_n (pc := 1313) 0 rfl (daL_law_14 63 rfl) rfl ?_
  refine GM_iload_n (pc := 1314) 3 rfl (daL_law_15 0 rfl) rfl ?_
  refine GM_iconst (pc := 1315) 3 (daL_law_15 1 rfl) rfl (R32_b rfl) ?_
  refine GM_iadd (pc := 1316) (daL_law_15 2 rfl) ?_
  obtain ⟨hc265, h⟩ := chk_inv h
  refine GM_sld (Ls := Ls) (xs := xs) (pc := 1317) rfl hc265.1 hc265.2 (daL_law_15 3 rfl) ?_
  refine GM_aload_n (pc := 1318) 0 rfl (daL_law_15 4 rfl) rfl ?_
  refine GM_iload_n (pc := 1319) 3 rfl (daL_law_15 5 rfl) rfl ?_
  refine GM_iconst (pc := 1320) 4 (daL_law_15 6 rfl) rfl (R32_b rfl) ?_
  refine GM_iadd (pc := 1321) (daL_law_15 7 rfl) ?_
  obtain ⟨hc266, h⟩ := chk_inv h
  refine GM_sld (Ls := Ls) (xs := xs) (pc := 1322) rfl hc266.1 hc266.2 (daL_law_15 8 rfl) ?_
  obtain ⟨hc267, h⟩ := chk_inv h
  obtain ⟨⟨⟨r268, μ268⟩, c268, n268⟩, hf268, h⟩ := Option.bind_eq_some_iff.mp h
  dsimp only at h
  obtain ⟨c269, n269, hp, e1, e2⟩ := pay_inv h
  subst e1 e2
  replace h := hp
  clear hp
  rw [Nat.add_assoc, Nat.add_assoc]
  refine GM_callV (pc := 1323) [(0, (xs (w32 (v3 + 1)).toNat).toInt), (0, (xs (w32 (v3 + 2)).toNat).toInt), (0, (xs (w32 (v3 + 3)).toNat).toInt), (0, (xs (w32 (v3 + 4)).toNat).toInt)] (tX10_rivals l hf268) cwX10_rivals 10 (Nat.le_of_ble_eq_true rfl) rfl kv_X10_rivals ke_X10_rivals km_L_116 hc267 ⟨Nat.le_of_ble_eq_true rfl, Nat.le_of_ble_eq_true rfl⟩ (Nat.le_of_ble_eq_true rfl) (Nat.le_of_ble_eq_true rfl) (daL_law_15 9 rfl) ?_
  refine GM_aload_n (pc := 1326) 2 rfl (daL_law_15 10 rfl) rfl ?_
  refine GM_aload_n (pc := 1327) 0 rfl (daL_law_15 11 rfl) rfl ?_
  refine GM_iload_n (pc := 1328) 3 rfl (daL_law_15 12 rfl) rfl ?_
  refine GM_iconst (pc := 1329) 1 (daL_law_15 13 rfl) rfl (R32_b rfl) ?_
  refine GM_iadd (pc := 1330) (daL_law_15 14 rfl) ?_
  refine GM_sld (Ls := Ls) (xs := xs) (pc := 1331) rfl hc263.1 hc263.2 (daL_law_15 15 rfl) ?_
  refine GM_aload_n (pc := 1332) 0 rfl (daL_law_15 16 rfl) rfl ?_
  refine GM_iload_n (pc := 1333) 3 rfl (daL_law_15 17 rfl) rfl ?_
  refine GM_iconst (pc := 1334) 2 (daL_law_15 18 rfl) rfl (R32_b rfl) ?_
  refine GM_iadd (pc := 1335) (daL_law_15 19 rfl) ?_
  refine GM_sld (Ls := Ls) (xs := xs) (pc := 1336) rfl hc264.1 hc264.2 (daL_law_15 20 rfl) ?_
  refine GM_aload_n (pc := 1337) 0 rfl (daL_law_15 21 rfl) rfl ?_
  refine GM_iload_n (pc := 1338) 3 rfl (daL_law_15 22 rfl) rfl ?_
  refine GM_iconst (pc := 1339) 3 (daL_law_15 23 rfl) rfl (R32_b rfl) ?_
  refine GM_iadd (pc := 1340) (daL_law_15 24 rfl) ?_
  refine GM_sld (Ls := Ls) (xs := xs) (pc := 1341) rfl hc265.1 hc265.2 (daL_law_15 25 rfl) ?_
  refine GM_aload_n (pc := 1342) 0 rfl (daL_law_15 26 rfl) rfl ?_
  refine GM_iload_n (pc := 1343) 3 rfl (daL_law_15 27 rfl) rfl ?_
  refine GM_iconst (pc := 1344) 4 (daL_law_15 28 rfl) rfl (R32_b rfl) ?_
  refine GM_iadd (pc := 1345) (daL_law_15 29 rfl) ?_
  refine GM_sld (Ls := Ls) (xs := xs) (pc := 1346) rfl hc266.1 hc266.2 (daL_law_15 30 rfl) ?_
  obtain ⟨hc270, h⟩ := chk_inv h
  obtain ⟨⟨r271, μ271⟩, hf271, h⟩ := Option.bind_eq_some_iff.mp h
  dsimp only at h
  refine GM_callV0 (pc := 1347) [(0, (xs (w32 (v3 + 1)).toNat).toInt), (0, (xs (w32 (v3 + 2)).toNat).toInt), (0, (xs (w32 (v3 + 3)).toNat).toInt), (0, (xs (w32 (v3 + 4)).toNat).toInt)] (tX11_rivals l hf271) cwX11_rivals 11 (Nat.le_of_ble_eq_true rfl) rfl kv_X11_rivals ke_X11_rivals km_L_119 hc270 ⟨Nat.le_of_ble_eq_true rfl, Nat.le_of_ble_eq_true rfl⟩ (Nat.le_of_ble_eq_true rfl) (Nat.le_of_ble_eq_true rfl) (daL_law_15 31 rfl) ?_
  refine GM_icmp_eq (pc := 1350) 2238 (daL_law_15 32 rfl) rfl (fun c272 => ?_) (fun c272 => ?_)
  · skip
    rw [if_pos c272] at h
    refine GM_iinc (L' := [(3, (0, w32 (v3 + 9))), (0, (3, 34)), (1, (3, v1)), (2, (3, v2))]) (pc := 2238) 3 rfl (daL_law_26 56 rfl) (Nat.le_of_ble_eq_true rfl) rfl ?_
    refine GM_goto (pc := 2241) 18 (daL_law_26 57 rfl) rfl ?_
    refine GM_pick [1, 2, 3, 0] rfl ?_
    cases h
    rw [Nat.zero_add, Nat.zero_add]
    exact hK
  · skip
    rw [if_neg c272] at h
    cases h
set_option maxRecDepth 20000 in
theorem gL_law_796 (Ls : Nat) (xs : Nat → Int32) (hLs : Ls < 100000) (l : Launch) {F : FI} {v1 v2 v3 : Int} {μ : Mm} {t : ((Int × Mm) ⊕ Mm)} {c0 n0 k n : Nat} (h : jL_law_796 Ls xs v1 v2 v3 μ = some (t, c0, n0)) (hK : zL_law_18 Ls xs l F v1 v2 k n t) : GM l (mL_law Ls xs) F (c0 + k) (n0 + n) 796 [(0, (3, 34)), (1, (3, v1)), (2, (3, v2)), (3, (0, v3))] [] μ := by
  unfold jL_law_796 at h
  refine GM_aload_n (pc := 796) 1 rfl (daL_law_7 62 rfl) rfl ?_
  refine GM_aload_n (pc := 797) 0 rfl (daL_law_7 63 rfl) rfl ?_
  refine GM_iload_n (pc := 798) 3 rfl (daL_law_8 0 rfl) rfl ?_
  refine GM_iconst (pc := 799) 1 (daL_law_8 1 rfl) rfl (R32_b rfl) ?_
  refine GM_iadd (pc := 800) (daL_law_8 2 rfl) ?_
  obtain ⟨hc273, h⟩ := chk_inv h
  refine GM_sld (Ls := Ls) (xs := xs) (pc := 801) rfl hc273.1 hc273.2 (daL_law_8 3 rfl) ?_
  refine GM_aload_n (pc := 802) 0 rfl (daL_law_8 4 rfl) rfl ?_
  refine GM_iload_n (pc := 803) 3 rfl (daL_law_8 5 rfl) rfl ?_
  refine GM_iconst (pc := 804) 2 (daL_law_8 6 rfl) rfl (R32_b rfl) ?_
  refine GM_iadd (pc := 805) (daL_law_8 7 rfl) ?_
  obtain ⟨hc274, h⟩ := chk_inv h
  refine GM_sld (Ls := Ls) (xs := xs) (pc := 806) rfl hc274.1 hc274.2 (daL_law_8 8 rfl) ?_
  refine GM_aload_n (pc := 807) 0 rfl (daL_law_8 9 rfl) rfl ?_
  refine GM_iload_n (pc := 808) 3 rfl (daL_law_8 10 rfl) rfl ?_
  refine GM_iconst (pc := 809) 3 (daL_law_8 11 rfl) rfl (R32_b rfl) ?_
  refine GM_iadd (pc := 810) (daL_law_8 12 rfl) ?_
  obtain ⟨hc275, h⟩ := chk_inv h
  refine GM_sld (Ls := Ls) (xs := xs) (pc := 811) rfl hc275.1 hc275.2 (daL_law_8 13 rfl) ?_
  refine GM_aload_n (pc := 812) 0 rfl (daL_law_8 14 rfl) rfl ?_
  refine GM_iload_n (pc := 813) 3 rfl (daL_law_8 15 rfl) rfl ?_
  refine GM_iconst (pc := 814) 4 (daL_law_8 16 rfl) rfl (R32_b rfl) ?_
  refine GM_iadd (pc := 815) (daL_law_8 17 rfl) ?_
  obtain ⟨hc276, h⟩ := chk_inv h
  refine GM_sld (Ls := Ls) (xs := xs) (pc := 816) rfl hc276.1 hc276.2 (daL_law_8 18 rfl) ?_
  obtain ⟨hc277, h⟩ := chk_inv h
  obtain ⟨⟨⟨r278, μ278⟩, c278, n278⟩, hf278, h⟩ := Option.bind_eq_some_iff.mp h
  dsimp only at h
  obtain ⟨c279, n279, hp, e1, e2⟩ := pay_inv h
  subst e1 e2
  replace h := hp
  clear hp
  rw [Nat.add_assoc, Nat.add_assoc]
  refine GM_callV (pc := 817) [(0, (xs (w32 (v3 + 1)).toNat).toInt), (0, (xs (w32 (v3 + 2)).toNat).toInt), (0, (xs (w32 (v3 + 3)).toNat).toInt), (0, (xs (w32 (v3 + 4)).toNat).toInt)] (tX10_fits l hf278) cwX10_fits 10 (Nat.le_of_ble_eq_true rfl) rfl kv_X10_fits ke_X10_fits km_L_75 hc277 ⟨Nat.le_of_ble_eq_true rfl, Nat.le_of_ble_eq_true rfl⟩ (Nat.le_of_ble_eq_true rfl) (Nat.le_of_ble_eq_true rfl) (daL_law_8 19 rfl) ?_
  refine GM_aload_n (pc := 820) 2 rfl (daL_law_8 20 rfl) rfl ?_
  refine GM_aload_n (pc := 821) 0 rfl (daL_law_8 21 rfl) rfl ?_
  refine GM_iload_n (pc := 822) 3 rfl (daL_law_8 22 rfl) rfl ?_
  refine GM_iconst (pc := 823) 1 (daL_law_8 23 rfl) rfl (R32_b rfl) ?_
  refine GM_iadd (pc := 824) (daL_law_8 24 rfl) ?_
  refine GM_sld (Ls := Ls) (xs := xs) (pc := 825) rfl hc273.1 hc273.2 (daL_law_8 25 rfl) ?_
  refine GM_aload_n (pc := 826) 0 rfl (daL_law_8 26 rfl) rfl ?_
  refine GM_iload_n (pc := 827) 3 rfl (daL_law_8 27 rfl) rfl ?_
  refine GM_iconst (pc := 828) 2 (daL_law_8 28 rfl) rfl (R32_b rfl) ?_
  refine GM_iadd (pc := 829) (daL_law_8 29 rfl) ?_
  refine GM_sld (Ls := Ls) (xs := xs) (pc := 830) rfl hc274.1 hc274.2 (daL_law_8 30 rfl) ?_
  refine GM_aload_n (pc := 831) 0 rfl (daL_law_8 31 rfl) rfl ?_
  refine GM_iload_n (pc := 832) 3 rfl (daL_law_8 32 rfl) rfl ?_
  refine GM_iconst (pc := 833) 3 (daL_law_8 33 rfl) rfl (R32_b rfl) ?_
  refine GM_iadd (pc := 834) (daL_law_8 34 rfl) ?_
  refine GM_sld (Ls := Ls) (xs := xs) (pc := 835) rfl hc275.1 hc275.2 (daL_law_8 35 rfl) ?_
  refine GM_aload_n (pc := 836) 0 rfl (daL_law_8 36 rfl) rfl ?_
  refine GM_iload_n (pc := 837) 3 rfl (daL_law_8 37 rfl) rfl ?_
  refine GM_iconst (pc := 838) 4 (daL_law_8 38 rfl) rfl (R32_b rfl) ?_
  refine GM_iadd (pc := 839) (daL_law_8 39 rfl) ?_
  refine GM_sld (Ls := Ls) (xs := xs) (pc := 840) rfl hc276.1 hc276.2 (daL_law_8 40 rfl) ?_
  obtain ⟨hc280, h⟩ := chk_inv h
  obtain ⟨⟨r281, μ281⟩, hf281, h⟩ := Option.bind_eq_some_iff.mp h
  dsimp only at h
  refine GM_callV0 (pc := 841) [(0, (xs (w32 (v3 + 1)).toNat).toInt), (0, (xs (w32 (v3 + 2)).toNat).toInt), (0, (xs (w32 (v3 + 3)).toNat).toInt), (0, (xs (w32 (v3 + 4)).toNat).toInt)] (tX11_fits l hf281) cwX11_fits 11 (Nat.le_of_ble_eq_true rfl) rfl kv_X11_fits ke_X11_fits km_L_78 hc280 ⟨Nat.le_of_ble_eq_true rfl, Nat.le_of_ble_eq_true rfl⟩ (Nat.le_of_ble_eq_true rfl) (Nat.le_of_ble_eq_true rfl) (daL_law_8 41 rfl) ?_
  refine GM_icmp_eq (pc := 844) 2238 (daL_law_8 42 rfl) rfl (fun c282 => ?_) (fun c282 => ?_)
  · skip
    rw [if_pos c282] at h
    refine GM_iinc (L' := [(3, (0, w32 (v3 + 9))), (0, (3, 34)), (1, (3, v1)), (2, (3, v2))]) (pc := 2238) 3 rfl (daL_law_26 56 rfl) (Nat.le_of_ble_eq_true rfl) rfl ?_
    refine GM_goto (pc := 2241) 18 (daL_law_26 57 rfl) rfl ?_
    refine GM_pick [1, 2, 3, 0] rfl ?_
    cases h
    rw [Nat.zero_add, Nat.zero_add]
    exact hK
  · skip
    rw [if_neg c282] at h
    cases h
set_option maxRecDepth 20000 in
theorem gL_law_1186 (Ls : Nat) (xs : Nat → Int32) (hLs : Ls < 100000) (l : Launch) {F : FI} {v1 v2 v3 : Int} {μ : Mm} {t : ((Int × Mm) ⊕ Mm)} {c0 n0 k n : Nat} (h : jL_law_1186 Ls xs v1 v2 v3 μ = some (t, c0, n0)) (hK : zL_law_18 Ls xs l F v1 v2 k n t) : GM l (mL_law Ls xs) F (c0 + k) (n0 + n) 1186 [(0, (3, 34)), (1, (3, v1)), (2, (3, v2)), (3, (0, v3))] [] μ := by
  unfold jL_law_1186 at h
  refine GM_aload_n (pc := 1186) 1 rfl (daL_law_13 12 rfl) rfl ?_
  refine GM_aload_n (pc := 1187) 0 rfl (daL_law_13 13 rfl) rfl ?_
  refine GM_iload_n (pc := 1188) 3 rfl (daL_law_13 14 rfl) rfl ?_
  refine GM_iconst (pc := 1189) 1 (daL_law_13 15 rfl) rfl (R32_b rfl) ?_
  refine GM_iadd (pc := 1190) (daL_law_13 16 rfl) ?_
  obtain ⟨hc283, h⟩ := chk_inv h
  refine GM_sld (Ls := Ls) (xs := xs) (pc := 1191) rfl hc283.1 hc283.2 (daL_law_13 17 rfl) ?_
  refine GM_aload_n (pc := 1192) 0 rfl (daL_law_13 18 rfl) rfl ?_
  refine GM_iload_n (pc := 1193) 3 rfl (daL_law_13 19 rfl) rfl ?_
  refine GM_iconst (pc := 1194) 2 (daL_law_13 20 rfl) rfl (R32_b rfl) ?_
  refine GM_iadd (pc := 1195) (daL_law_13 21 rfl) ?_
  obtain ⟨hc284, h⟩ := chk_inv h
  refine GM_sld (Ls := Ls) (xs := xs) (pc := 1196) rfl hc284.1 hc284.2 (daL_law_13 22 rfl) ?_
  refine GM_aload_n (pc := 1197) 0 rfl (daL_law_13 23 rfl) rfl ?_
  refine GM_iload_n (pc := 1198) 3 rfl (daL_law_13 24 rfl) rfl ?_
  refine GM_iconst (pc := 1199) 3 (daL_law_13 25 rfl) rfl (R32_b rfl) ?_
  refine GM_iadd (pc := 1200) (daL_law_13 26 rfl) ?_
  obtain ⟨hc285, h⟩ := chk_inv h
  refine GM_sld (Ls := Ls) (xs := xs) (pc := 1201) rfl hc285.1 hc285.2 (daL_law_13 27 rfl) ?_
  refine GM_aload_n (pc := 1202) 0 rfl (daL_law_13 28 rfl) rfl ?_
  refine GM_iload_n (pc := 1203) 3 rfl (daL_law_13 29 rfl) rfl ?_
  refine GM_iconst (pc := 1204) 4 (daL_law_13 30 rfl) rfl (R32_b rfl) ?_
  refine GM_iadd (pc := 1205) (daL_law_13 31 rfl) ?_
  obtain ⟨hc286, h⟩ := chk_inv h
  refine GM_sld (Ls := Ls) (xs := xs) (pc := 1206) rfl hc286.1 hc286.2 (daL_law_13 32 rfl) ?_
  obtain ⟨hc287, h⟩ := chk_inv h
  obtain ⟨⟨⟨r288, μ288⟩, c288, n288⟩, hf288, h⟩ := Option.bind_eq_some_iff.mp h
  dsimp only at h
  obtain ⟨c289, n289, hp, e1, e2⟩ := pay_inv h
  subst e1 e2
  replace h := hp
  clear hp
  rw [Nat.add_assoc, Nat.add_assoc]
  refine GM_callV (pc := 1207) [(0, (xs (w32 (v3 + 1)).toNat).toInt), (0, (xs (w32 (v3 + 2)).toNat).toInt), (0, (xs (w32 (v3 + 3)).toNat).toInt), (0, (xs (w32 (v3 + 4)).toNat).toInt)] (tX10_way l hf288) cwX10_way 10 (Nat.le_of_ble_eq_true rfl) rfl kv_X10_way ke_X10_way km_L_108 hc287 ⟨Nat.le_of_ble_eq_true rfl, Nat.le_of_ble_eq_true rfl⟩ (Nat.le_of_ble_eq_true rfl) (Nat.le_of_ble_eq_true rfl) (daL_law_13 33 rfl) ?_
  refine GM_aload_n (pc := 1210) 2 rfl (daL_law_13 34 rfl) rfl ?_
  refine GM_aload_n (pc := 1211) 0 rfl (daL_law_13 35 rfl) rfl ?_
  refine GM_iload_n (pc := 1212) 3 rfl (daL_law_13 36 rfl) rfl ?_
  refine GM_iconst (pc := 1213) 1 (daL_law_13 37 rfl) rfl (R32_b rfl) ?_
  refine GM_iadd (pc := 1214) (daL_law_13 38 rfl) ?_
  refine GM_sld (Ls := Ls) (xs := xs) (pc := 1215) rfl hc283.1 hc283.2 (daL_law_13 39 rfl) ?_
  refine GM_aload_n (pc := 1216) 0 rfl (daL_law_13 40 rfl) rfl ?_
  refine GM_iload_n (pc := 1217) 3 rfl (daL_law_13 41 rfl) rfl ?_
  refine GM_iconst (pc := 1218) 2 (daL_law_13 42 rfl) rfl (R32_b rfl) ?_
  refine GM_iadd (pc := 1219) (daL_law_13 43 rfl) ?_
  refine GM_sld (Ls := Ls) (xs := xs) (pc := 1220) rfl hc284.1 hc284.2 (daL_law_13 44 rfl) ?_
  refine GM_aload_n (pc := 1221) 0 rfl (daL_law_13 45 rfl) rfl ?_
  refine GM_iload_n (pc := 1222) 3 rfl (daL_law_13 46 rfl) rfl ?_
  refine GM_iconst (pc := 1223) 3 (daL_law_13 47 rfl) rfl (R32_b rfl) ?_
  refine GM_iadd (pc := 1224) (daL_law_13 48 rfl) ?_
  refine GM_sld (Ls := Ls) (xs := xs) (pc := 1225) rfl hc285.1 hc285.2 (daL_law_13 49 rfl) ?_
  refine GM_aload_n (pc := 1226) 0 rfl (daL_law_13 50 rfl) rfl ?_
  refine GM_iload_n (pc := 1227) 3 rfl (daL_law_13 51 rfl) rfl ?_
  refine GM_iconst (pc := 1228) 4 (daL_law_13 52 rfl) rfl (R32_b rfl) ?_
  refine GM_iadd (pc := 1229) (daL_law_13 53 rfl) ?_
  refine GM_sld (Ls := Ls) (xs := xs) (pc := 1230) rfl hc286.1 hc286.2 (daL_law_13 54 rfl) ?_
  obtain ⟨hc290, h⟩ := chk_inv h
  obtain ⟨⟨r291, μ291⟩, hf291, h⟩ := Option.bind_eq_some_iff.mp h
  dsimp only at h
  refine GM_callV0 (pc := 1231) [(0, (xs (w32 (v3 + 1)).toNat).toInt), (0, (xs (w32 (v3 + 2)).toNat).toInt), (0, (xs (w32 (v3 + 3)).toNat).toInt), (0, (xs (w32 (v3 + 4)).toNat).toInt)] (tX11_way l hf291) cwX11_way 11 (Nat.le_of_ble_eq_true rfl) rfl kv_X11_way ke_X11_way km_L_111 hc290 ⟨Nat.le_of_ble_eq_true rfl, Nat.le_of_ble_eq_true rfl⟩ (Nat.le_of_ble_eq_true rfl) (Nat.le_of_ble_eq_true rfl) (daL_law_13 55 rfl) ?_
  refine GM_icmp_eq (pc := 1234) 2238 (daL_law_13 56 rfl) rfl (fun c292 => ?_) (fun c292 => ?_)
  · skip
    rw [if_pos c292] at h
    refine GM_iinc (L' := [(3, (0, w32 (v3 + 9))), (0, (3, 34)), (1, (3, v1)), (2, (3, v2))]) (pc := 2238) 3 rfl (daL_law_26 56 rfl) (Nat.le_of_ble_eq_true rfl) rfl ?_
    refine GM_goto (pc := 2241) 18 (daL_law_26 57 rfl) rfl ?_
    refine GM_pick [1, 2, 3, 0] rfl ?_
    cases h
    rw [Nat.zero_add, Nat.zero_add]
    exact hK
  · skip
    rw [if_neg c292] at h
    cases h
set_option maxRecDepth 20000 in
theorem gL_law_1444 (Ls : Nat) (xs : Nat → Int32) (hLs : Ls < 100000) (l : Launch) {F : FI} {v1 v2 v3 : Int} {μ : Mm} {t : ((Int × Mm) ⊕ Mm)} {c0 n0 k n : Nat} (h : jL_law_1444 Ls xs v1 v2 v3 μ = some (t, c0, n0)) (hK : zL_law_18 Ls xs l F v1 v2 k n t) : GM l (mL_law Ls xs) F (c0 + k) (n0 + n) 1444 [(0, (3, 34)), (1, (3, v1)), (2, (3, v2)), (3, (0, v3))] [] μ := by
  unfold jL_law_1444 at h
  refine GM_aload_n (pc := 1444) 1 rfl (daL_law_16 42 rfl) rfl ?_
  refine GM_aload_n (pc := 1445) 0 rfl (daL_law_16 43 rfl) rfl ?_
  refine GM_iload_n (pc := 1446) 3 rfl (daL_law_16 44 rfl) rfl ?_
  refine GM_iconst (pc := 1447) 1 (daL_law_16 45 rfl) rfl (R32_b rfl) ?_
  refine GM_iadd (pc := 1448) (daL_law_16 46 rfl) ?_
  obtain ⟨hc293, h⟩ := chk_inv h
  refine GM_sld (Ls := Ls) (xs := xs) (pc := 1449) rfl hc293.1 hc293.2 (daL_law_16 47 rfl) ?_
  refine GM_aload_n (pc := 1450) 0 rfl (daL_law_16 48 rfl) rfl ?_
  refine GM_iload_n (pc := 1451) 3 rfl (daL_law_16 49 rfl) rfl ?_
  refine GM_iconst (pc := 1452) 2 (daL_law_16 50 rfl) rfl (R32_b rfl) ?_
  refine GM_iadd (pc := 1453) (daL_law_16 51 rfl) ?_
  obtain ⟨hc294, h⟩ := chk_inv h
  refine GM_sld (Ls := Ls) (xs := xs) (pc := 1454) rfl hc294.1 hc294.2 (daL_law_16 52 rfl) ?_
  refine GM_aload_n (pc := 1455) 0 rfl (daL_law_16 53 rfl) rfl ?_
  refine GM_iload_n (pc := 1456) 3 rfl (daL_law_16 54 rfl) rfl ?_
  refine GM_iconst (pc := 1457) 3 (daL_law_16 55 rfl) rfl (R32_b rfl) ?_
  refine GM_iadd (pc := 1458) (daL_law_16 56 rfl) ?_
  obtain ⟨hc295, h⟩ := chk_inv h
  refine GM_sld (Ls := Ls) (xs := xs) (pc := 1459) rfl hc295.1 hc295.2 (daL_law_16 57 rfl) ?_
  refine GM_aload_n (pc := 1460) 0 rfl (daL_law_16 58 rfl) rfl ?_
  refine GM_iload_n (pc := 1461) 3 rfl (daL_law_16 59 rfl) rfl ?_
  refine GM_iconst (pc := 1462) 4 (daL_law_16 60 rfl) rfl (R32_b rfl) ?_
  refine GM_iadd (pc := 1463) (daL_law_16 61 rfl) ?_
  obtain ⟨hc296, h⟩ := chk_inv h
  refine GM_sld (Ls := Ls) (xs := xs) (pc := 1464) rfl hc296.1 hc296.2 (daL_law_16 62 rfl) ?_
  obtain ⟨hc297, h⟩ := chk_inv h
  obtain ⟨⟨r298, μ298⟩, hf298, h⟩ := Option.bind_eq_some_iff.mp h
  dsimp only at h
  refine GM_callV0 (pc := 1465) [(0, (xs (w32 (v3 + 1)).toNat).toInt), (0, (xs (w32 (v3 + 2)).toNat).toInt), (0, (xs (w32 (v3 + 3)).toNat).toInt), (0, (xs (w32 (v3 + 4)).toNat).toInt)] (tX10_lacks l hf298) cwX10_lacks 10 (Nat.le_of_ble_eq_true rfl) rfl kv_X10_lacks ke_X10_lacks km_L_132 hc297 ⟨Nat.le_of_ble_eq_true rfl, Nat.le_of_ble_eq_true rfl⟩ (Nat.le_of_ble_eq_true rfl) (Nat.le_of_ble_eq_true rfl) (daL_law_16 63 rfl) ?_
  refine GM_aload_n (pc := 1468) 2 rfl (daL_law_17 0 rfl) rfl ?_
  refine GM_aload_n (pc := 1469) 0 rfl (daL_law_17 1 rfl) rfl ?_
  refine GM_iload_n (pc := 1470) 3 rfl (daL_law_17 2 rfl) rfl ?_
  refine GM_iconst (pc := 1471) 1 (daL_law_17 3 rfl) rfl (R32_b rfl) ?_
  refine GM_iadd (pc := 1472) (daL_law_17 4 rfl) ?_
  refine GM_sld (Ls := Ls) (xs := xs) (pc := 1473) rfl hc293.1 hc293.2 (daL_law_17 5 rfl) ?_
  refine GM_aload_n (pc := 1474) 0 rfl (daL_law_17 6 rfl) rfl ?_
  refine GM_iload_n (pc := 1475) 3 rfl (daL_law_17 7 rfl) rfl ?_
  refine GM_iconst (pc := 1476) 2 (daL_law_17 8 rfl) rfl (R32_b rfl) ?_
  refine GM_iadd (pc := 1477) (daL_law_17 9 rfl) ?_
  refine GM_sld (Ls := Ls) (xs := xs) (pc := 1478) rfl hc294.1 hc294.2 (daL_law_17 10 rfl) ?_
  refine GM_aload_n (pc := 1479) 0 rfl (daL_law_17 11 rfl) rfl ?_
  refine GM_iload_n (pc := 1480) 3 rfl (daL_law_17 12 rfl) rfl ?_
  refine GM_iconst (pc := 1481) 3 (daL_law_17 13 rfl) rfl (R32_b rfl) ?_
  refine GM_iadd (pc := 1482) (daL_law_17 14 rfl) ?_
  refine GM_sld (Ls := Ls) (xs := xs) (pc := 1483) rfl hc295.1 hc295.2 (daL_law_17 15 rfl) ?_
  refine GM_aload_n (pc := 1484) 0 rfl (daL_law_17 16 rfl) rfl ?_
  refine GM_iload_n (pc := 1485) 3 rfl (daL_law_17 17 rfl) rfl ?_
  refine GM_iconst (pc := 1486) 4 (daL_law_17 18 rfl) rfl (R32_b rfl) ?_
  refine GM_iadd (pc := 1487) (daL_law_17 19 rfl) ?_
  refine GM_sld (Ls := Ls) (xs := xs) (pc := 1488) rfl hc296.1 hc296.2 (daL_law_17 20 rfl) ?_
  obtain ⟨hc299, h⟩ := chk_inv h
  obtain ⟨⟨r300, μ300⟩, hf300, h⟩ := Option.bind_eq_some_iff.mp h
  dsimp only at h
  refine GM_callV0 (pc := 1489) [(0, (xs (w32 (v3 + 1)).toNat).toInt), (0, (xs (w32 (v3 + 2)).toNat).toInt), (0, (xs (w32 (v3 + 3)).toNat).toInt), (0, (xs (w32 (v3 + 4)).toNat).toInt)] (tX11_lacks l hf300) cwX11_lacks 11 (Nat.le_of_ble_eq_true rfl) rfl kv_X11_lacks ke_X11_lacks km_L_135 hc299 ⟨Nat.le_of_ble_eq_true rfl, Nat.le_of_ble_eq_true rfl⟩ (Nat.le_of_ble_eq_true rfl) (Nat.le_of_ble_eq_true rfl) (daL_law_17 21 rfl) ?_
  refine GM_icmp_eq (pc := 1492) 2238 (daL_law_17 22 rfl) rfl (fun c301 => ?_) (fun c301 => ?_)
  · skip
    rw [if_pos c301] at h
    refine GM_iinc (L' := [(3, (0, w32 (v3 + 9))), (0, (3, 34)), (1, (3, v1)), (2, (3, v2))]) (pc := 2238) 3 rfl (daL_law_26 56 rfl) (Nat.le_of_ble_eq_true rfl) rfl ?_
    refine GM_goto (pc := 2241) 18 (daL_law_26 57 rfl) rfl ?_
    refine GM_pick [1, 2, 3, 0] rfl ?_
    cases h
    rw [Nat.zero_add, Nat.zero_add]
    exact hK
  · skip
    rw [if_neg c301] at h
    cases h
set_option maxRecDepth 20000 in
theorem gL_law_680 (Ls : Nat) (xs : Nat → Int32) (hLs : Ls < 100000) (l : Launch) {F : FI} {v1 v2 v3 : Int} {μ : Mm} {t : ((Int × Mm) ⊕ Mm)} {c0 n0 k n : Nat} (h : jL_law_680 Ls xs v1 v2 v3 μ = some (t, c0, n0)) (hK : zL_law_18 Ls xs l F v1 v2 k n t) : GM l (mL_law Ls xs) F (c0 + k) (n0 + n) 680 [(0, (3, 34)), (1, (3, v1)), (2, (3, v2)), (3, (0, v3))] [] μ := by
  unfold jL_law_680 at h
  refine GM_aload_n (pc := 680) 1 rfl (daL_law_6 22 rfl) rfl ?_
  refine GM_aload_n (pc := 681) 0 rfl (daL_law_6 23 rfl) rfl ?_
  refine GM_iload_n (pc := 682) 3 rfl (daL_law_6 24 rfl) rfl ?_
  refine GM_iconst (pc := 683) 1 (daL_law_6 25 rfl) rfl (R32_b rfl) ?_
  refine GM_iadd (pc := 684) (daL_law_6 26 rfl) ?_
  obtain ⟨hc302, h⟩ := chk_inv h
  refine GM_sld (Ls := Ls) (xs := xs) (pc := 685) rfl hc302.1 hc302.2 (daL_law_6 27 rfl) ?_
  refine GM_aload_n (pc := 686) 0 rfl (daL_law_6 28 rfl) rfl ?_
  refine GM_iload_n (pc := 687) 3 rfl (daL_law_6 29 rfl) rfl ?_
  refine GM_iconst (pc := 688) 2 (daL_law_6 30 rfl) rfl (R32_b rfl) ?_
  refine GM_iadd (pc := 689) (daL_law_6 31 rfl) ?_
  obtain ⟨hc303, h⟩ := chk_inv h
  refine GM_sld (Ls := Ls) (xs := xs) (pc := 690) rfl hc303.1 hc303.2 (daL_law_6 32 rfl) ?_
  refine GM_aload_n (pc := 691) 0 rfl (daL_law_6 33 rfl) rfl ?_
  refine GM_iload_n (pc := 692) 3 rfl (daL_law_6 34 rfl) rfl ?_
  refine GM_iconst (pc := 693) 3 (daL_law_6 35 rfl) rfl (R32_b rfl) ?_
  refine GM_iadd (pc := 694) (daL_law_6 36 rfl) ?_
  obtain ⟨hc304, h⟩ := chk_inv h
  refine GM_sld (Ls := Ls) (xs := xs) (pc := 695) rfl hc304.1 hc304.2 (daL_law_6 37 rfl) ?_
  refine GM_aload_n (pc := 696) 0 rfl (daL_law_6 38 rfl) rfl ?_
  refine GM_iload_n (pc := 697) 3 rfl (daL_law_6 39 rfl) rfl ?_
  refine GM_iconst (pc := 698) 4 (daL_law_6 40 rfl) rfl (R32_b rfl) ?_
  refine GM_iadd (pc := 699) (daL_law_6 41 rfl) ?_
  obtain ⟨hc305, h⟩ := chk_inv h
  refine GM_sld (Ls := Ls) (xs := xs) (pc := 700) rfl hc305.1 hc305.2 (daL_law_6 42 rfl) ?_
  obtain ⟨hc306, h⟩ := chk_inv h
  obtain ⟨⟨⟨r307, μ307⟩, c307, n307⟩, hf307, h⟩ := Option.bind_eq_some_iff.mp h
  dsimp only at h
  obtain ⟨c308, n308, hp, e1, e2⟩ := pay_inv h
  subst e1 e2
  replace h := hp
  clear hp
  rw [Nat.add_assoc, Nat.add_assoc]
  refine GM_callV (pc := 701) [(0, (xs (w32 (v3 + 1)).toNat).toInt), (0, (xs (w32 (v3 + 2)).toNat).toInt), (0, (xs (w32 (v3 + 3)).toNat).toInt), (0, (xs (w32 (v3 + 4)).toNat).toInt)] (tX10_steeper l hf307) cwX10_steeper 10 (Nat.le_of_ble_eq_true rfl) rfl kv_X10_steeper ke_X10_steeper km_L_66 hc306 ⟨Nat.le_of_ble_eq_true rfl, Nat.le_of_ble_eq_true rfl⟩ (Nat.le_of_ble_eq_true rfl) (Nat.le_of_ble_eq_true rfl) (daL_law_6 43 rfl) ?_
  refine GM_aload_n (pc := 704) 2 rfl (daL_law_6 44 rfl) rfl ?_
  refine GM_aload_n (pc := 705) 0 rfl (daL_law_6 45 rfl) rfl ?_
  refine GM_iload_n (pc := 706) 3 rfl (daL_law_6 46 rfl) rfl ?_
  refine GM_iconst (pc := 707) 1 (daL_law_6 47 rfl) rfl (R32_b rfl) ?_
  refine GM_iadd (pc := 708) (daL_law_6 48 rfl) ?_
  refine GM_sld (Ls := Ls) (xs := xs) (pc := 709) rfl hc302.1 hc302.2 (daL_law_6 49 rfl) ?_
  refine GM_aload_n (pc := 710) 0 rfl (daL_law_6 50 rfl) rfl ?_
  refine GM_iload_n (pc := 711) 3 rfl (daL_law_6 51 rfl) rfl ?_
  refine GM_iconst (pc := 712) 2 (daL_law_6 52 rfl) rfl (R32_b rfl) ?_
  refine GM_iadd (pc := 713) (daL_law_6 53 rfl) ?_
  refine GM_sld (Ls := Ls) (xs := xs) (pc := 714) rfl hc303.1 hc303.2 (daL_law_6 54 rfl) ?_
  refine GM_aload_n (pc := 715) 0 rfl (daL_law_6 55 rfl) rfl ?_
  refine GM_iload_n (pc := 716) 3 rfl (daL_law_6 56 rfl) rfl ?_
  refine GM_iconst (pc := 717) 3 (daL_law_6 57 rfl) rfl (R32_b rfl) ?_
  refine GM_iadd (pc := 718) (daL_law_6 58 rfl) ?_
  refine GM_sld (Ls := Ls) (xs := xs) (pc := 719) rfl hc304.1 hc304.2 (daL_law_6 59 rfl) ?_
  refine GM_aload_n (pc := 720) 0 rfl (daL_law_6 60 rfl) rfl ?_
  refine GM_iload_n (pc := 721) 3 rfl (daL_law_6 61 rfl) rfl ?_
  refine GM_iconst (pc := 722) 4 (daL_law_6 62 rfl) rfl (R32_b rfl) ?_
  refine GM_iadd (pc := 723) (daL_law_6 63 rfl) ?_
  refine GM_sld (Ls := Ls) (xs := xs) (pc := 724) rfl hc305.1 hc305.2 (daL_law_7 0 rfl) ?_
  obtain ⟨hc309, h⟩ := chk_inv h
  obtain ⟨⟨r310, μ310⟩, hf310, h⟩ := Option.bind_eq_some_iff.mp h
  dsimp only at h
  refine GM_callV0 (pc := 725) [(0, (xs (w32 (v3 + 1)).toNat).toInt), (0, (xs (w32 (v3 + 2)).toNat).toInt), (0, (xs (w32 (v3 + 3)).toNat).toInt), (0, (xs (w32 (v3 + 4)).toNat).toInt)] (tX11_steeper l hf310) cwX11_steeper 11 (Nat.le_of_ble_eq_true rfl) rfl kv_X11_steeper ke_X11_steeper km_L_70 hc309 ⟨Nat.le_of_ble_eq_true rfl, Nat.le_of_ble_eq_true rfl⟩ (Nat.le_of_ble_eq_true rfl) (Nat.le_of_ble_eq_true rfl) (daL_law_7 1 rfl) ?_
  refine GM_icmp_eq (pc := 728) 2238 (daL_law_7 2 rfl) rfl (fun c311 => ?_) (fun c311 => ?_)
  · skip
    rw [if_pos c311] at h
    refine GM_iinc (L' := [(3, (0, w32 (v3 + 9))), (0, (3, 34)), (1, (3, v1)), (2, (3, v2))]) (pc := 2238) 3 rfl (daL_law_26 56 rfl) (Nat.le_of_ble_eq_true rfl) rfl ?_
    refine GM_goto (pc := 2241) 18 (daL_law_26 57 rfl) rfl ?_
    refine GM_pick [1, 2, 3, 0] rfl ?_
    cases h
    rw [Nat.zero_add, Nat.zero_add]
    exact hK
  · skip
    rw [if_neg c311] at h
    cases h
set_option maxRecDepth 20000 in
theorem gL_law_849 (Ls : Nat) (xs : Nat → Int32) (hLs : Ls < 100000) (l : Launch) {F : FI} {v1 v2 v3 : Int} {μ : Mm} {t : ((Int × Mm) ⊕ Mm)} {c0 n0 k n : Nat} (h : jL_law_849 Ls xs v1 v2 v3 μ = some (t, c0, n0)) (hK : zL_law_18 Ls xs l F v1 v2 k n t) : GM l (mL_law Ls xs) F (c0 + k) (n0 + n) 849 [(0, (3, 34)), (1, (3, v1)), (2, (3, v2)), (3, (0, v3))] [] μ := by
  unfold jL_law_849 at h
  refine GM_aload_n (pc := 849) 1 rfl (daL_law_8 45 rfl) rfl ?_
  refine GM_aload_n (pc := 850) 0 rfl (daL_law_8 46 rfl) rfl ?_
  refine GM_iload_n (pc := 851) 3 rfl (daL_law_8 47 rfl) rfl ?_
  refine GM_iconst (pc := 852) 1 (daL_law_8 48 rfl) rfl (R32_b rfl) ?_
  refine GM_iadd (pc := 853) (daL_law_8 49 rfl) ?_
  obtain ⟨hc312, h⟩ := chk_inv h
  refine GM_sld (Ls := Ls) (xs := xs) (pc := 854) rfl hc312.1 hc312.2 (daL_law_8 50 rfl) ?_
  refine GM_aload_n (pc := 855) 0 rfl (daL_law_8 51 rfl) rfl ?_
  refine GM_iload_n (pc := 856) 3 rfl (daL_law_8 52 rfl) rfl ?_
  refine GM_iconst (pc := 857) 2 (daL_law_8 53 rfl) rfl (R32_b rfl) ?_
  refine GM_iadd (pc := 858) (daL_law_8 54 rfl) ?_
  obtain ⟨hc313, h⟩ := chk_inv h
  refine GM_sld (Ls := Ls) (xs := xs) (pc := 859) rfl hc313.1 hc313.2 (daL_law_8 55 rfl) ?_
  refine GM_aload_n (pc := 860) 0 rfl (daL_law_8 56 rfl) rfl ?_
  refine GM_iload_n (pc := 861) 3 rfl (daL_law_8 57 rfl) rfl ?_
  refine GM_iconst (pc := 862) 3 (daL_law_8 58 rfl) rfl (R32_b rfl) ?_
  refine GM_iadd (pc := 863) (daL_law_8 59 rfl) ?_
  obtain ⟨hc314, h⟩ := chk_inv h
  refine GM_sld (Ls := Ls) (xs := xs) (pc := 864) rfl hc314.1 hc314.2 (daL_law_8 60 rfl) ?_
  refine GM_aload_n (pc := 865) 0 rfl (daL_law_8 61 rfl) rfl ?_
  refine GM_iload_n (pc := 866) 3 rfl (daL_law_8 62 rfl) rfl ?_
  refine GM_iconst (pc := 867) 4 (daL_law_8 63 rfl) rfl (R32_b rfl) ?_
  refine GM_iadd (pc := 868) (daL_law_9 0 rfl) ?_
  obtain ⟨hc315, h⟩ := chk_inv h
  refine GM_sld (Ls := Ls) (xs := xs) (pc := 869) rfl hc315.1 hc315.2 (daL_law_9 1 rfl) ?_
  obtain ⟨hc316, h⟩ := chk_inv h
  obtain ⟨⟨⟨r317, μ317⟩, c317, n317⟩, hf317, h⟩ := Option.bind_eq_some_iff.mp h
  dsimp only at h
  obtain ⟨c318, n318, hp, e1, e2⟩ := pay_inv h
  subst e1 e2
  replace h := hp
  clear hp
  rw [Nat.add_assoc, Nat.add_assoc]
  refine GM_callV (pc := 870) [(0, (xs (w32 (v3 + 1)).toNat).toInt), (0, (xs (w32 (v3 + 2)).toNat).toInt), (0, (xs (w32 (v3 + 3)).toNat).toInt), (0, (xs (w32 (v3 + 4)).toNat).toInt)] (tX10_where l hf317) cwX10_where 10 (Nat.le_of_ble_eq_true rfl) rfl kv_X10_where ke_X10_where km_L_79 hc316 ⟨Nat.le_of_ble_eq_true rfl, Nat.le_of_ble_eq_true rfl⟩ (Nat.le_of_ble_eq_true rfl) (Nat.le_of_ble_eq_true rfl) (daL_law_9 2 rfl) ?_
  refine GM_aload_n (pc := 873) 2 rfl (daL_law_9 3 rfl) rfl ?_
  refine GM_aload_n (pc := 874) 0 rfl (daL_law_9 4 rfl) rfl ?_
  refine GM_iload_n (pc := 875) 3 rfl (daL_law_9 5 rfl) rfl ?_
  refine GM_iconst (pc := 876) 1 (daL_law_9 6 rfl) rfl (R32_b rfl) ?_
  refine GM_iadd (pc := 877) (daL_law_9 7 rfl) ?_
  refine GM_sld (Ls := Ls) (xs := xs) (pc := 878) rfl hc312.1 hc312.2 (daL_law_9 8 rfl) ?_
  refine GM_aload_n (pc := 879) 0 rfl (daL_law_9 9 rfl) rfl ?_
  refine GM_iload_n (pc := 880) 3 rfl (daL_law_9 10 rfl) rfl ?_
  refine GM_iconst (pc := 881) 2 (daL_law_9 11 rfl) rfl (R32_b rfl) ?_
  refine GM_iadd (pc := 882) (daL_law_9 12 rfl) ?_
  refine GM_sld (Ls := Ls) (xs := xs) (pc := 883) rfl hc313.1 hc313.2 (daL_law_9 13 rfl) ?_
  refine GM_aload_n (pc := 884) 0 rfl (daL_law_9 14 rfl) rfl ?_
  refine GM_iload_n (pc := 885) 3 rfl (daL_law_9 15 rfl) rfl ?_
  refine GM_iconst (pc := 886) 3 (daL_law_9 16 rfl) rfl (R32_b rfl) ?_
  refine GM_iadd (pc := 887) (daL_law_9 17 rfl) ?_
  refine GM_sld (Ls := Ls) (xs := xs) (pc := 888) rfl hc314.1 hc314.2 (daL_law_9 18 rfl) ?_
  refine GM_aload_n (pc := 889) 0 rfl (daL_law_9 19 rfl) rfl ?_
  refine GM_iload_n (pc := 890) 3 rfl (daL_law_9 20 rfl) rfl ?_
  refine GM_iconst (pc := 891) 4 (daL_law_9 21 rfl) rfl (R32_b rfl) ?_
  refine GM_iadd (pc := 892) (daL_law_9 22 rfl) ?_
  refine GM_sld (Ls := Ls) (xs := xs) (pc := 893) rfl hc315.1 hc315.2 (daL_law_9 23 rfl) ?_
  obtain ⟨hc319, h⟩ := chk_inv h
  obtain ⟨⟨r320, μ320⟩, hf320, h⟩ := Option.bind_eq_some_iff.mp h
  dsimp only at h
  refine GM_callV0 (pc := 894) [(0, (xs (w32 (v3 + 1)).toNat).toInt), (0, (xs (w32 (v3 + 2)).toNat).toInt), (0, (xs (w32 (v3 + 3)).toNat).toInt), (0, (xs (w32 (v3 + 4)).toNat).toInt)] (tX11_where l hf320) cwX11_where 11 (Nat.le_of_ble_eq_true rfl) rfl kv_X11_where ke_X11_where km_L_82 hc319 ⟨Nat.le_of_ble_eq_true rfl, Nat.le_of_ble_eq_true rfl⟩ (Nat.le_of_ble_eq_true rfl) (Nat.le_of_ble_eq_true rfl) (daL_law_9 24 rfl) ?_
  refine GM_icmp_eq (pc := 897) 2238 (daL_law_9 25 rfl) rfl (fun c321 => ?_) (fun c321 => ?_)
  · skip
    rw [if_pos c321] at h
    refine GM_iinc (L' := [(3, (0, w32 (v3 + 9))), (0, (3, 34)), (1, (3, v1)), (2, (3, v2))]) (pc := 2238) 3 rfl (daL_law_26 56 rfl) (Nat.le_of_ble_eq_true rfl) rfl ?_
    refine GM_goto (pc := 2241) 18 (daL_law_26 57 rfl) rfl ?_
    refine GM_pick [1, 2, 3, 0] rfl ?_
    cases h
    rw [Nat.zero_add, Nat.zero_add]
    exact hK
  · skip
    rw [if_neg c321] at h
    cases h
set_option maxRecDepth 20000 in
theorem gL_law_1133 (Ls : Nat) (xs : Nat → Int32) (hLs : Ls < 100000) (l : Launch) {F : FI} {v1 v2 v3 : Int} {μ : Mm} {t : ((Int × Mm) ⊕ Mm)} {c0 n0 k n : Nat} (h : jL_law_1133 Ls xs v1 v2 v3 μ = some (t, c0, n0)) (hK : zL_law_18 Ls xs l F v1 v2 k n t) : GM l (mL_law Ls xs) F (c0 + k) (n0 + n) 1133 [(0, (3, 34)), (1, (3, v1)), (2, (3, v2)), (3, (0, v3))] [] μ := by
  unfold jL_law_1133 at h
  refine GM_aload_n (pc := 1133) 1 rfl (daL_law_12 29 rfl) rfl ?_
  refine GM_aload_n (pc := 1134) 0 rfl (daL_law_12 30 rfl) rfl ?_
  refine GM_iload_n (pc := 1135) 3 rfl (daL_law_12 31 rfl) rfl ?_
  refine GM_iconst (pc := 1136) 1 (daL_law_12 32 rfl) rfl (R32_b rfl) ?_
  refine GM_iadd (pc := 1137) (daL_law_12 33 rfl) ?_
  obtain ⟨hc322, h⟩ := chk_inv h
  refine GM_sld (Ls := Ls) (xs := xs) (pc := 1138) rfl hc322.1 hc322.2 (daL_law_12 34 rfl) ?_
  refine GM_aload_n (pc := 1139) 0 rfl (daL_law_12 35 rfl) rfl ?_
  refine GM_iload_n (pc := 1140) 3 rfl (daL_law_12 36 rfl) rfl ?_
  refine GM_iconst (pc := 1141) 2 (daL_law_12 37 rfl) rfl (R32_b rfl) ?_
  refine GM_iadd (pc := 1142) (daL_law_12 38 rfl) ?_
  obtain ⟨hc323, h⟩ := chk_inv h
  refine GM_sld (Ls := Ls) (xs := xs) (pc := 1143) rfl hc323.1 hc323.2 (daL_law_12 39 rfl) ?_
  refine GM_aload_n (pc := 1144) 0 rfl (daL_law_12 40 rfl) rfl ?_
  refine GM_iload_n (pc := 1145) 3 rfl (daL_law_12 41 rfl) rfl ?_
  refine GM_iconst (pc := 1146) 3 (daL_law_12 42 rfl) rfl (R32_b rfl) ?_
  refine GM_iadd (pc := 1147) (daL_law_12 43 rfl) ?_
  obtain ⟨hc324, h⟩ := chk_inv h
  refine GM_sld (Ls := Ls) (xs := xs) (pc := 1148) rfl hc324.1 hc324.2 (daL_law_12 44 rfl) ?_
  refine GM_aload_n (pc := 1149) 0 rfl (daL_law_12 45 rfl) rfl ?_
  refine GM_iload_n (pc := 1150) 3 rfl (daL_law_12 46 rfl) rfl ?_
  refine GM_iconst (pc := 1151) 4 (daL_law_12 47 rfl) rfl (R32_b rfl) ?_
  refine GM_iadd (pc := 1152) (daL_law_12 48 rfl) ?_
  obtain ⟨hc325, h⟩ := chk_inv h
  refine GM_sld (Ls := Ls) (xs := xs) (pc := 1153) rfl hc325.1 hc325.2 (daL_law_12 49 rfl) ?_
  obtain ⟨hc326, h⟩ := chk_inv h
  obtain ⟨⟨⟨r327, μ327⟩, c327, n327⟩, hf327, h⟩ := Option.bind_eq_some_iff.mp h
  dsimp only at h
  obtain ⟨c328, n328, hp, e1, e2⟩ := pay_inv h
  subst e1 e2
  replace h := hp
  clear hp
  rw [Nat.add_assoc, Nat.add_assoc]
  refine GM_callV (pc := 1154) [(0, (xs (w32 (v3 + 1)).toNat).toInt), (0, (xs (w32 (v3 + 2)).toNat).toInt), (0, (xs (w32 (v3 + 3)).toNat).toInt), (0, (xs (w32 (v3 + 4)).toNat).toInt)] (tX10_pairs l hf327) cwX10_pairs 10 (Nat.le_of_ble_eq_true rfl) rfl kv_X10_pairs ke_X10_pairs km_L_104 hc326 ⟨Nat.le_of_ble_eq_true rfl, Nat.le_of_ble_eq_true rfl⟩ (Nat.le_of_ble_eq_true rfl) (Nat.le_of_ble_eq_true rfl) (daL_law_12 50 rfl) ?_
  refine GM_aload_n (pc := 1157) 2 rfl (daL_law_12 51 rfl) rfl ?_
  refine GM_aload_n (pc := 1158) 0 rfl (daL_law_12 52 rfl) rfl ?_
  refine GM_iload_n (pc := 1159) 3 rfl (daL_law_12 53 rfl) rfl ?_
  refine GM_iconst (pc := 1160) 1 (daL_law_12 54 rfl) rfl (R32_b rfl) ?_
  refine GM_iadd (pc := 1161) (daL_law_12 55 rfl) ?_
  refine GM_sld (Ls := Ls) (xs := xs) (pc := 1162) rfl hc322.1 hc322.2 (daL_law_12 56 rfl) ?_
  refine GM_aload_n (pc := 1163) 0 rfl (daL_law_12 57 rfl) rfl ?_
  refine GM_iload_n (pc := 1164) 3 rfl (daL_law_12 58 rfl) rfl ?_
  refine GM_iconst (pc := 1165) 2 (daL_law_12 59 rfl) rfl (R32_b rfl) ?_
  refine GM_iadd (pc := 1166) (daL_law_12 60 rfl) ?_
  refine GM_sld (Ls := Ls) (xs := xs) (pc := 1167) rfl hc323.1 hc323.2 (daL_law_12 61 rfl) ?_
  refine GM_aload_n (pc := 1168) 0 rfl (daL_law_12 62 rfl) rfl ?_
  refine GM_iload_n (pc := 1169) 3 rfl (daL_law_12 63 rfl) rfl ?_
  refine GM_iconst (pc := 1170) 3 (daL_law_13 0 rfl) rfl (R32_b rfl) ?_
  refine GM_iadd (pc := 1171) (daL_law_13 1 rfl) ?_
  refine GM_sld (Ls := Ls) (xs := xs) (pc := 1172) rfl hc324.1 hc324.2 (daL_law_13 2 rfl) ?_
  refine GM_aload_n (pc := 1173) 0 rfl (daL_law_13 3 rfl) rfl ?_
  refine GM_iload_n (pc := 1174) 3 rfl (daL_law_13 4 rfl) rfl ?_
  refine GM_iconst (pc := 1175) 4 (daL_law_13 5 rfl) rfl (R32_b rfl) ?_
  refine GM_iadd (pc := 1176) (daL_law_13 6 rfl) ?_
  refine GM_sld (Ls := Ls) (xs := xs) (pc := 1177) rfl hc325.1 hc325.2 (daL_law_13 7 rfl) ?_
  obtain ⟨hc329, h⟩ := chk_inv h
  obtain ⟨⟨r330, μ330⟩, hf330, h⟩ := Option.bind_eq_some_iff.mp h
  dsimp only at h
  refine GM_callV0 (pc := 1178) [(0, (xs (w32 (v3 + 1)).toNat).toInt), (0, (xs (w32 (v3 + 2)).toNat).toInt), (0, (xs (w32 (v3 + 3)).toNat).toInt), (0, (xs (w32 (v3 + 4)).toNat).toInt)] (tX11_pairs l hf330) cwX11_pairs 11 (Nat.le_of_ble_eq_true rfl) rfl kv_X11_pairs ke_X11_pairs km_L_107 hc329 ⟨Nat.le_of_ble_eq_true rfl, Nat.le_of_ble_eq_true rfl⟩ (Nat.le_of_ble_eq_true rfl) (Nat.le_of_ble_eq_true rfl) (daL_law_13 8 rfl) ?_
  refine GM_icmp_eq (pc := 1181) 2238 (daL_law_13 9 rfl) rfl (fun c331 => ?_) (fun c331 => ?_)
  · skip
    rw [if_pos c331] at h
    refine GM_iinc (L' := [(3, (0, w32 (v3 + 9))), (0, (3, 34)), (1, (3, v1)), (2, (3, v2))]) (pc := 2238) 3 rfl (daL_law_26 56 rfl) (Nat.le_of_ble_eq_true rfl) rfl ?_
    refine GM_goto (pc := 2241) 18 (daL_law_26 57 rfl) rfl ?_
    refine GM_pick [1, 2, 3, 0] rfl ?_
    cases h
    rw [Nat.zero_add, Nat.zero_add]
    exact hK
  · skip
    rw [if_neg c331] at h
    cases h
set_option maxRecDepth 20000 in
theorem gL_law_1647 (Ls : Nat) (xs : Nat → Int32) (hLs : Ls < 100000) (l : Launch) {F : FI} {v1 v2 v3 : Int} {μ : Mm} {t : ((Int × Mm) ⊕ Mm)} {c0 n0 k n : Nat} (h : jL_law_1647 Ls xs v1 v2 v3 μ = some (t, c0, n0)) (hK : zL_law_18 Ls xs l F v1 v2 k n t) : GM l (mL_law Ls xs) F (c0 + k) (n0 + n) 1647 [(0, (3, 34)), (1, (3, v1)), (2, (3, v2)), (3, (0, v3))] [] μ := by
  unfold jL_law_1647 at h
  refine GM_aload_n (pc := 1647) 1 rfl (daL_law_19 17 rfl) rfl ?_
  refine GM_aload_n (pc := 1648) 0 rfl (daL_law_19 18 rfl) rfl ?_
  refine GM_iload_n (pc := 1649) 3 rfl (daL_law_19 19 rfl) rfl ?_
  refine GM_iconst (pc := 1650) 1 (daL_law_19 20 rfl) rfl (R32_b rfl) ?_
  refine GM_iadd (pc := 1651) (daL_law_19 21 rfl) ?_
  obtain ⟨hc332, h⟩ := chk_inv h
  refine GM_sld (Ls := Ls) (xs := xs) (pc := 1652) rfl hc332.1 hc332.2 (daL_law_19 22 rfl) ?_
  refine GM_aload_n (pc := 1653) 0 rfl (daL_law_19 23 rfl) rfl ?_
  refine GM_iload_n (pc := 1654) 3 rfl (daL_law_19 24 rfl) rfl ?_
  refine GM_iconst (pc := 1655) 2 (daL_law_19 25 rfl) rfl (R32_b rfl) ?_
  refine GM_iadd (pc := 1656) (daL_law_19 26 rfl) ?_
  obtain ⟨hc333, h⟩ := chk_inv h
  refine GM_sld (Ls := Ls) (xs := xs) (pc := 1657) rfl hc333.1 hc333.2 (daL_law_19 27 rfl) ?_
  refine GM_aload_n (pc := 1658) 0 rfl (daL_law_19 28 rfl) rfl ?_
  refine GM_iload_n (pc := 1659) 3 rfl (daL_law_19 29 rfl) rfl ?_
  refine GM_iconst (pc := 1660) 3 (daL_law_19 30 rfl) rfl (R32_b rfl) ?_
  refine GM_iadd (pc := 1661) (daL_law_19 31 rfl) ?_
  obtain ⟨hc334, h⟩ := chk_inv h
  refine GM_sld (Ls := Ls) (xs := xs) (pc := 1662) rfl hc334.1 hc334.2 (daL_law_19 32 rfl) ?_
  refine GM_aload_n (pc := 1663) 0 rfl (daL_law_19 33 rfl) rfl ?_
  refine GM_iload_n (pc := 1664) 3 rfl (daL_law_19 34 rfl) rfl ?_
  refine GM_iconst (pc := 1665) 4 (daL_law_19 35 rfl) rfl (R32_b rfl) ?_
  refine GM_iadd (pc := 1666) (daL_law_19 36 rfl) ?_
  obtain ⟨hc335, h⟩ := chk_inv h
  refine GM_sld (Ls := Ls) (xs := xs) (pc := 1667) rfl hc335.1 hc335.2 (daL_law_19 37 rfl) ?_
  obtain ⟨hc336, h⟩ := chk_inv h
  obtain ⟨⟨⟨r337, μ337⟩, c337, n337⟩, hf337, h⟩ := Option.bind_eq_some_iff.mp h
  dsimp only at h
  obtain ⟨c338, n338, hp, e1, e2⟩ := pay_inv h
  subst e1 e2
  replace h := hp
  clear hp
  rw [Nat.add_assoc, Nat.add_assoc]
  refine GM_callV (pc := 1668) [(0, (xs (w32 (v3 + 1)).toNat).toInt), (0, (xs (w32 (v3 + 2)).toNat).toInt), (0, (xs (w32 (v3 + 3)).toNat).toInt), (0, (xs (w32 (v3 + 4)).toNat).toInt)] (tX10_wrong l hf337) cwX10_wrong 10 (Nat.le_of_ble_eq_true rfl) rfl kv_X10_wrong ke_X10_wrong km_L_145 hc336 ⟨Nat.le_of_ble_eq_true rfl, Nat.le_of_ble_eq_true rfl⟩ (Nat.le_of_ble_eq_true rfl) (Nat.le_of_ble_eq_true rfl) (daL_law_19 38 rfl) ?_
  refine GM_aload_n (pc := 1671) 2 rfl (daL_law_19 39 rfl) rfl ?_
  refine GM_aload_n (pc := 1672) 0 rfl (daL_law_19 40 rfl) rfl ?_
  refine GM_iload_n (pc := 1673) 3 rfl (daL_law_19 41 rfl) rfl ?_
  refine GM_iconst (pc := 1674) 1 (daL_law_19 42 rfl) rfl (R32_b rfl) ?_
  refine GM_iadd (pc := 1675) (daL_law_19 43 rfl) ?_
  refine GM_sld (Ls := Ls) (xs := xs) (pc := 1676) rfl hc332.1 hc332.2 (daL_law_19 44 rfl) ?_
  refine GM_aload_n (pc := 1677) 0 rfl (daL_law_19 45 rfl) rfl ?_
  refine GM_iload_n (pc := 1678) 3 rfl (daL_law_19 46 rfl) rfl ?_
  refine GM_iconst (pc := 1679) 2 (daL_law_19 47 rfl) rfl (R32_b rfl) ?_
  refine GM_iadd (pc := 1680) (daL_law_19 48 rfl) ?_
  refine GM_sld (Ls := Ls) (xs := xs) (pc := 1681) rfl hc333.1 hc333.2 (daL_law_19 49 rfl) ?_
  refine GM_aload_n (pc := 1682) 0 rfl (daL_law_19 50 rfl) rfl ?_
  refine GM_iload_n (pc := 1683) 3 rfl (daL_law_19 51 rfl) rfl ?_
  refine GM_iconst (pc := 1684) 3 (daL_law_19 52 rfl) rfl (R32_b rfl) ?_
  refine GM_iadd (pc := 1685) (daL_law_19 53 rfl) ?_
  refine GM_sld (Ls := Ls) (xs := xs) (pc := 1686) rfl hc334.1 hc334.2 (daL_law_19 54 rfl) ?_
  refine GM_aload_n (pc := 1687) 0 rfl (daL_law_19 55 rfl) rfl ?_
  refine GM_iload_n (pc := 1688) 3 rfl (daL_law_19 56 rfl) rfl ?_
  refine GM_iconst (pc := 1689) 4 (daL_law_19 57 rfl) rfl (R32_b rfl) ?_
  refine GM_iadd (pc := 1690) (daL_law_19 58 rfl) ?_
  refine GM_sld (Ls := Ls) (xs := xs) (pc := 1691) rfl hc335.1 hc335.2 (daL_law_19 59 rfl) ?_
  obtain ⟨hc339, h⟩ := chk_inv h
  obtain ⟨⟨r340, μ340⟩, hf340, h⟩ := Option.bind_eq_some_iff.mp h
  dsimp only at h
  refine GM_callV0 (pc := 1692) [(0, (xs (w32 (v3 + 1)).toNat).toInt), (0, (xs (w32 (v3 + 2)).toNat).toInt), (0, (xs (w32 (v3 + 3)).toNat).toInt), (0, (xs (w32 (v3 + 4)).toNat).toInt)] (tX11_wrong l hf340) cwX11_wrong 11 (Nat.le_of_ble_eq_true rfl) rfl kv_X11_wrong ke_X11_wrong km_L_148 hc339 ⟨Nat.le_of_ble_eq_true rfl, Nat.le_of_ble_eq_true rfl⟩ (Nat.le_of_ble_eq_true rfl) (Nat.le_of_ble_eq_true rfl) (daL_law_19 60 rfl) ?_
  refine GM_icmp_eq (pc := 1695) 2238 (daL_law_19 61 rfl) rfl (fun c341 => ?_) (fun c341 => ?_)
  · skip
    rw [if_pos c341] at h
    refine GM_iinc (L' := [(3, (0, w32 (v3 + 9))), (0, (3, 34)), (1, (3, v1)), (2, (3, v2))]) (pc := 2238) 3 rfl (daL_law_26 56 rfl) (Nat.le_of_ble_eq_true rfl) rfl ?_
    refine GM_goto (pc := 2241) 18 (daL_law_26 57 rfl) rfl ?_
    refine GM_pick [1, 2, 3, 0] rfl ?_
    cases h
    rw [Nat.zero_add, Nat.zero_add]
    exact hK
  · skip
    rw [if_neg c341] at h
    cases h
set_option maxRecDepth 20000 in
theorem gL_law_1898 (Ls : Nat) (xs : Nat → Int32) (hLs : Ls < 100000) (l : Launch) {F : FI} {v1 v2 v3 s0 s1 s2 s3 s4 s5 s6 s7 s8 : Int} {μ : Mm} {t : ((Int × Mm) ⊕ Mm)} {c0 n0 k n : Nat} (h : jL_law_1898 Ls xs v1 v2 v3 s0 s1 s2 s3 s4 s5 s6 s7 s8 μ = some (t, c0, n0)) (hK : zL_law_18 Ls xs l F v1 v2 k n t) : GM l (mL_law Ls xs) F (c0 + k) (n0 + n) 1898 [(0, (3, 34)), (1, (3, v1)), (2, (3, v2)), (3, (0, v3))] [(0, s0), (0, s1), (0, s2), (0, s3), (0, s4), (0, s5), (0, s6), (0, s7), (3, s8)] μ := by
  unfold jL_law_1898 at h
  obtain ⟨hc342, h⟩ := chk_inv h
  obtain ⟨⟨⟨r343, μ343⟩, c343, n343⟩, hf343, h⟩ := Option.bind_eq_some_iff.mp h
  dsimp only at h
  obtain ⟨c344, n344, hp, e1, e2⟩ := pay_inv h
  subst e1 e2
  replace h := hp
  clear hp
  rw [Nat.add_assoc, Nat.add_assoc]
  refine GM_callV (pc := 1898) [(0, s7), (0, s6), (0, s5), (0, s4), (0, s3), (0, s2), (0, s1), (0, s0)] (tX10_found l hf343) cwX10_found 10 (Nat.le_of_ble_eq_true rfl) rfl kv_X10_found ke_X10_found km_L_158 hc342 ⟨Nat.le_of_ble_eq_true rfl, Nat.le_of_ble_eq_true rfl⟩ (Nat.le_of_ble_eq_true rfl) (Nat.le_of_ble_eq_true rfl) (daL_law_22 39 rfl) ?_
  refine GM_aload_n (pc := 1901) 2 rfl (daL_law_22 40 rfl) rfl ?_
  refine GM_aload_n (pc := 1902) 0 rfl (daL_law_22 41 rfl) rfl ?_
  refine GM_iload_n (pc := 1903) 3 rfl (daL_law_22 42 rfl) rfl ?_
  refine GM_iconst (pc := 1904) 1 (daL_law_22 43 rfl) rfl (R32_b rfl) ?_
  refine GM_iadd (pc := 1905) (daL_law_22 44 rfl) ?_
  obtain ⟨hc345, h⟩ := chk_inv h
  refine GM_sld (Ls := Ls) (xs := xs) (pc := 1906) rfl hc345.1 hc345.2 (daL_law_22 45 rfl) ?_
  refine GM_aload_n (pc := 1907) 0 rfl (daL_law_22 46 rfl) rfl ?_
  refine GM_iload_n (pc := 1908) 3 rfl (daL_law_22 47 rfl) rfl ?_
  refine GM_iconst (pc := 1909) 2 (daL_law_22 48 rfl) rfl (R32_b rfl) ?_
  refine GM_iadd (pc := 1910) (daL_law_22 49 rfl) ?_
  obtain ⟨hc346, h⟩ := chk_inv h
  refine GM_sld (Ls := Ls) (xs := xs) (pc := 1911) rfl hc346.1 hc346.2 (daL_law_22 50 rfl) ?_
  refine GM_aload_n (pc := 1912) 0 rfl (daL_law_22 51 rfl) rfl ?_
  refine GM_iload_n (pc := 1913) 3 rfl (daL_law_22 52 rfl) rfl ?_
  refine GM_iconst (pc := 1914) 3 (daL_law_22 53 rfl) rfl (R32_b rfl) ?_
  refine GM_iadd (pc := 1915) (daL_law_22 54 rfl) ?_
  obtain ⟨hc347, h⟩ := chk_inv h
  refine GM_sld (Ls := Ls) (xs := xs) (pc := 1916) rfl hc347.1 hc347.2 (daL_law_22 55 rfl) ?_
  refine GM_aload_n (pc := 1917) 0 rfl (daL_law_22 56 rfl) rfl ?_
  refine GM_iload_n (pc := 1918) 3 rfl (daL_law_22 57 rfl) rfl ?_
  refine GM_iconst (pc := 1919) 4 (daL_law_22 58 rfl) rfl (R32_b rfl) ?_
  refine GM_iadd (pc := 1920) (daL_law_22 59 rfl) ?_
  obtain ⟨hc348, h⟩ := chk_inv h
  refine GM_sld (Ls := Ls) (xs := xs) (pc := 1921) rfl hc348.1 hc348.2 (daL_law_22 60 rfl) ?_
  refine GM_aload_n (pc := 1922) 0 rfl (daL_law_22 61 rfl) rfl ?_
  refine GM_iload_n (pc := 1923) 3 rfl (daL_law_22 62 rfl) rfl ?_
  refine GM_iconst (pc := 1924) 5 (daL_law_22 63 rfl) rfl (R32_b rfl) ?_
  refine GM_iadd (pc := 1925) (daL_law_23 0 rfl) ?_
  obtain ⟨hc349, h⟩ := chk_inv h
  refine GM_sld (Ls := Ls) (xs := xs) (pc := 1926) rfl hc349.1 hc349.2 (daL_law_23 1 rfl) ?_
  refine GM_aload_n (pc := 1927) 0 rfl (daL_law_23 2 rfl) rfl ?_
  refine GM_iload_n (pc := 1928) 3 rfl (daL_law_23 3 rfl) rfl ?_
  refine GM_bipush (pc := 1929) 6 (daL_law_23 4 rfl) rfl (R32_b rfl) ?_
  refine GM_iadd (pc := 1931) (daL_law_23 5 rfl) ?_
  obtain ⟨hc350, h⟩ := chk_inv h
  refine GM_sld (Ls := Ls) (xs := xs) (pc := 1932) rfl hc350.1 hc350.2 (daL_law_23 6 rfl) ?_
  refine GM_aload_n (pc := 1933) 0 rfl (daL_law_23 7 rfl) rfl ?_
  refine GM_iload_n (pc := 1934) 3 rfl (daL_law_23 8 rfl) rfl ?_
  refine GM_bipush (pc := 1935) 7 (daL_law_23 9 rfl) rfl (R32_b rfl) ?_
  refine GM_iadd (pc := 1937) (daL_law_23 10 rfl) ?_
  obtain ⟨hc351, h⟩ := chk_inv h
  refine GM_sld (Ls := Ls) (xs := xs) (pc := 1938) rfl hc351.1 hc351.2 (daL_law_23 11 rfl) ?_
  refine GM_aload_n (pc := 1939) 0 rfl (daL_law_23 12 rfl) rfl ?_
  refine GM_iload_n (pc := 1940) 3 rfl (daL_law_23 13 rfl) rfl ?_
  refine GM_bipush (pc := 1941) 8 (daL_law_23 14 rfl) rfl (R32_b rfl) ?_
  refine GM_iadd (pc := 1943) (daL_law_23 15 rfl) ?_
  obtain ⟨hc352, h⟩ := chk_inv h
  refine GM_sld (Ls := Ls) (xs := xs) (pc := 1944) rfl hc352.1 hc352.2 (daL_law_23 16 rfl) ?_
  refine GM_if_eq (pc := 1945) 1952 (daL_law_23 17 rfl) rfl (fun c353 => ?_) (fun c353 => ?_)
  · skip
    rw [if_pos c353] at h
    refine GM_iconst (pc := 1952) 0 (daL_law_23 20 rfl) rfl (R32_b rfl) ?_
    exact gL_law_1953 Ls xs hLs l h hK
  · skip
    rw [if_neg c353] at h
    refine GM_iconst (pc := 1948) 1 (daL_law_23 18 rfl) rfl (R32_b rfl) ?_
    refine GM_goto (pc := 1949) 1953 (daL_law_23 19 rfl) rfl ?_
    exact gL_law_1953 Ls xs hLs l h hK
set_option maxRecDepth 20000 in
theorem gL_law_1574 (Ls : Nat) (xs : Nat → Int32) (hLs : Ls < 100000) (l : Launch) {F : FI} {v1 v2 v3 s0 s1 s2 s3 s4 s5 : Int} {μ : Mm} {t : ((Int × Mm) ⊕ Mm)} {c0 n0 k n : Nat} (h : jL_law_1574 Ls xs v1 v2 v3 s0 s1 s2 s3 s4 s5 μ = some (t, c0, n0)) (hK : zL_law_18 Ls xs l F v1 v2 k n t) : GM l (mL_law Ls xs) F (c0 + k) (n0 + n) 1574 [(0, (3, 34)), (1, (3, v1)), (2, (3, v2)), (3, (0, v3))] [(0, s0), (0, s1), (0, s2), (0, s3), (0, s4), (3, s5)] μ := by
  unfold jL_law_1574 at h
  refine GM_aload_n (pc := 1574) 0 rfl (daL_law_18 28 rfl) rfl ?_
  refine GM_iload_n (pc := 1575) 3 rfl (daL_law_18 29 rfl) rfl ?_
  refine GM_bipush (pc := 1576) 6 (daL_law_18 30 rfl) rfl (R32_b rfl) ?_
  refine GM_iadd (pc := 1578) (daL_law_18 31 rfl) ?_
  obtain ⟨hc354, h⟩ := chk_inv h
  refine GM_sld (Ls := Ls) (xs := xs) (pc := 1579) rfl hc354.1 hc354.2 (daL_law_18 32 rfl) ?_
  refine GM_if_eq (pc := 1580) 1587 (daL_law_18 33 rfl) rfl (fun c355 => ?_) (fun c355 => ?_)
  · skip
    rw [if_pos c355] at h
    refine GM_iconst (pc := 1587) 0 (daL_law_18 36 rfl) rfl (R32_b rfl) ?_
    exact gL_law_1588 Ls xs hLs l h hK
  · skip
    rw [if_neg c355] at h
    refine GM_iconst (pc := 1583) 1 (daL_law_18 34 rfl) rfl (R32_b rfl) ?_
    refine GM_goto (pc := 1584) 1588 (daL_law_18 35 rfl) rfl ?_
    exact gL_law_1588 Ls xs hLs l h hK
set_option maxRecDepth 20000 in
theorem gL_law_1239 (Ls : Nat) (xs : Nat → Int32) (hLs : Ls < 100000) (l : Launch) {F : FI} {v1 v2 v3 : Int} {μ : Mm} {t : ((Int × Mm) ⊕ Mm)} {c0 n0 k n : Nat} (h : jL_law_1239 Ls xs v1 v2 v3 μ = some (t, c0, n0)) (hK : zL_law_18 Ls xs l F v1 v2 k n t) : GM l (mL_law Ls xs) F (c0 + k) (n0 + n) 1239 [(0, (3, 34)), (1, (3, v1)), (2, (3, v2)), (3, (0, v3))] [] μ := by
  unfold jL_law_1239 at h
  refine GM_aload_n (pc := 1239) 1 rfl (daL_law_13 59 rfl) rfl ?_
  refine GM_aload_n (pc := 1240) 0 rfl (daL_law_13 60 rfl) rfl ?_
  refine GM_iload_n (pc := 1241) 3 rfl (daL_law_13 61 rfl) rfl ?_
  refine GM_iconst (pc := 1242) 1 (daL_law_13 62 rfl) rfl (R32_b rfl) ?_
  refine GM_iadd (pc := 1243) (daL_law_13 63 rfl) ?_
  obtain ⟨hc356, h⟩ := chk_inv h
  refine GM_sld (Ls := Ls) (xs := xs) (pc := 1244) rfl hc356.1 hc356.2 (daL_law_14 0 rfl) ?_
  refine GM_aload_n (pc := 1245) 0 rfl (daL_law_14 1 rfl) rfl ?_
  refine GM_iload_n (pc := 1246) 3 rfl (daL_law_14 2 rfl) rfl ?_
  refine GM_iconst (pc := 1247) 2 (daL_law_14 3 rfl) rfl (R32_b rfl) ?_
  refine GM_iadd (pc := 1248) (daL_law_14 4 rfl) ?_
  obtain ⟨hc357, h⟩ := chk_inv h
  refine GM_sld (Ls := Ls) (xs := xs) (pc := 1249) rfl hc357.1 hc357.2 (daL_law_14 5 rfl) ?_
  refine GM_aload_n (pc := 1250) 0 rfl (daL_law_14 6 rfl) rfl ?_
  refine GM_iload_n (pc := 1251) 3 rfl (daL_law_14 7 rfl) rfl ?_
  refine GM_iconst (pc := 1252) 3 (daL_law_14 8 rfl) rfl (R32_b rfl) ?_
  refine GM_iadd (pc := 1253) (daL_law_14 9 rfl) ?_
  obtain ⟨hc358, h⟩ := chk_inv h
  refine GM_sld (Ls := Ls) (xs := xs) (pc := 1254) rfl hc358.1 hc358.2 (daL_law_14 10 rfl) ?_
  refine GM_aload_n (pc := 1255) 0 rfl (daL_law_14 11 rfl) rfl ?_
  refine GM_iload_n (pc := 1256) 3 rfl (daL_law_14 12 rfl) rfl ?_
  refine GM_iconst (pc := 1257) 4 (daL_law_14 13 rfl) rfl (R32_b rfl) ?_
  refine GM_iadd (pc := 1258) (daL_law_14 14 rfl) ?_
  obtain ⟨hc359, h⟩ := chk_inv h
  refine GM_sld (Ls := Ls) (xs := xs) (pc := 1259) rfl hc359.1 hc359.2 (daL_law_14 15 rfl) ?_
  refine GM_aload_n (pc := 1260) 0 rfl (daL_law_14 16 rfl) rfl ?_
  refine GM_iload_n (pc := 1261) 3 rfl (daL_law_14 17 rfl) rfl ?_
  refine GM_iconst (pc := 1262) 5 (daL_law_14 18 rfl) rfl (R32_b rfl) ?_
  refine GM_iadd (pc := 1263) (daL_law_14 19 rfl) ?_
  obtain ⟨hc360, h⟩ := chk_inv h
  refine GM_sld (Ls := Ls) (xs := xs) (pc := 1264) rfl hc360.1 hc360.2 (daL_law_14 20 rfl) ?_
  obtain ⟨hc361, h⟩ := chk_inv h
  obtain ⟨⟨⟨r362, μ362⟩, c362, n362⟩, hf362, h⟩ := Option.bind_eq_some_iff.mp h
  dsimp only at h
  obtain ⟨c363, n363, hp, e1, e2⟩ := pay_inv h
  subst e1 e2
  replace h := hp
  clear hp
  rw [Nat.add_assoc, Nat.add_assoc]
  refine GM_callV (pc := 1265) [(0, (xs (w32 (v3 + 1)).toNat).toInt), (0, (xs (w32 (v3 + 2)).toNat).toInt), (0, (xs (w32 (v3 + 3)).toNat).toInt), (0, (xs (w32 (v3 + 4)).toNat).toInt), (0, (xs (w32 (v3 + 5)).toNat).toInt)] (tX10_draw l hf362) cwX10_draw 10 (Nat.le_of_ble_eq_true rfl) rfl kv_X10_draw ke_X10_draw km_L_112 hc361 ⟨Nat.le_of_ble_eq_true rfl, Nat.le_of_ble_eq_true rfl⟩ (Nat.le_of_ble_eq_true rfl) (Nat.le_of_ble_eq_true rfl) (daL_law_14 21 rfl) ?_
  refine GM_aload_n (pc := 1268) 2 rfl (daL_law_14 22 rfl) rfl ?_
  refine GM_aload_n (pc := 1269) 0 rfl (daL_law_14 23 rfl) rfl ?_
  refine GM_iload_n (pc := 1270) 3 rfl (daL_law_14 24 rfl) rfl ?_
  refine GM_iconst (pc := 1271) 1 (daL_law_14 25 rfl) rfl (R32_b rfl) ?_
  refine GM_iadd (pc := 1272) (daL_law_14 26 rfl) ?_
  refine GM_sld (Ls := Ls) (xs := xs) (pc := 1273) rfl hc356.1 hc356.2 (daL_law_14 27 rfl) ?_
  refine GM_aload_n (pc := 1274) 0 rfl (daL_law_14 28 rfl) rfl ?_
  refine GM_iload_n (pc := 1275) 3 rfl (daL_law_14 29 rfl) rfl ?_
  refine GM_iconst (pc := 1276) 2 (daL_law_14 30 rfl) rfl (R32_b rfl) ?_
  refine GM_iadd (pc := 1277) (daL_law_14 31 rfl) ?_
  refine GM_sld (Ls := Ls) (xs := xs) (pc := 1278) rfl hc357.1 hc357.2 (daL_law_14 32 rfl) ?_
  refine GM_aload_n (pc := 1279) 0 rfl (daL_law_14 33 rfl) rfl ?_
  refine GM_iload_n (pc := 1280) 3 rfl (daL_law_14 34 rfl) rfl ?_
  refine GM_iconst (pc := 1281) 3 (daL_law_14 35 rfl) rfl (R32_b rfl) ?_
  refine GM_iadd (pc := 1282) (daL_law_14 36 rfl) ?_
  refine GM_sld (Ls := Ls) (xs := xs) (pc := 1283) rfl hc358.1 hc358.2 (daL_law_14 37 rfl) ?_
  refine GM_aload_n (pc := 1284) 0 rfl (daL_law_14 38 rfl) rfl ?_
  refine GM_iload_n (pc := 1285) 3 rfl (daL_law_14 39 rfl) rfl ?_
  refine GM_iconst (pc := 1286) 4 (daL_law_14 40 rfl) rfl (R32_b rfl) ?_
  refine GM_iadd (pc := 1287) (daL_law_14 41 rfl) ?_
  refine GM_sld (Ls := Ls) (xs := xs) (pc := 1288) rfl hc359.1 hc359.2 (daL_law_14 42 rfl) ?_
  refine GM_aload_n (pc := 1289) 0 rfl (daL_law_14 43 rfl) rfl ?_
  refine GM_iload_n (pc := 1290) 3 rfl (daL_law_14 44 rfl) rfl ?_
  refine GM_iconst (pc := 1291) 5 (daL_law_14 45 rfl) rfl (R32_b rfl) ?_
  refine GM_iadd (pc := 1292) (daL_law_14 46 rfl) ?_
  refine GM_sld (Ls := Ls) (xs := xs) (pc := 1293) rfl hc360.1 hc360.2 (daL_law_14 47 rfl) ?_
  obtain ⟨hc364, h⟩ := chk_inv h
  obtain ⟨⟨r365, μ365⟩, hf365, h⟩ := Option.bind_eq_some_iff.mp h
  dsimp only at h
  refine GM_callV0 (pc := 1294) [(0, (xs (w32 (v3 + 1)).toNat).toInt), (0, (xs (w32 (v3 + 2)).toNat).toInt), (0, (xs (w32 (v3 + 3)).toNat).toInt), (0, (xs (w32 (v3 + 4)).toNat).toInt), (0, (xs (w32 (v3 + 5)).toNat).toInt)] (tX11_draw l hf365) cwX11_draw 11 (Nat.le_of_ble_eq_true rfl) rfl kv_X11_draw ke_X11_draw km_L_115 hc364 ⟨Nat.le_of_ble_eq_true rfl, Nat.le_of_ble_eq_true rfl⟩ (Nat.le_of_ble_eq_true rfl) (Nat.le_of_ble_eq_true rfl) (daL_law_14 48 rfl) ?_
  refine GM_icmp_eq (pc := 1297) 2238 (daL_law_14 49 rfl) rfl (fun c366 => ?_) (fun c366 => ?_)
  · skip
    rw [if_pos c366] at h
    refine GM_iinc (L' := [(3, (0, w32 (v3 + 9))), (0, (3, 34)), (1, (3, v1)), (2, (3, v2))]) (pc := 2238) 3 rfl (daL_law_26 56 rfl) (Nat.le_of_ble_eq_true rfl) rfl ?_
    refine GM_goto (pc := 2241) 18 (daL_law_26 57 rfl) rfl ?_
    refine GM_pick [1, 2, 3, 0] rfl ?_
    cases h
    rw [Nat.zero_add, Nat.zero_add]
    exact hK
  · skip
    rw [if_neg c366] at h
    cases h
set_option maxRecDepth 20000 in
theorem gL_law_733 (Ls : Nat) (xs : Nat → Int32) (hLs : Ls < 100000) (l : Launch) {F : FI} {v1 v2 v3 : Int} {μ : Mm} {t : ((Int × Mm) ⊕ Mm)} {c0 n0 k n : Nat} (h : jL_law_733 Ls xs v1 v2 v3 μ = some (t, c0, n0)) (hK : zL_law_18 Ls xs l F v1 v2 k n t) : GM l (mL_law Ls xs) F (c0 + k) (n0 + n) 733 [(0, (3, 34)), (1, (3, v1)), (2, (3, v2)), (3, (0, v3))] [] μ := by
  unfold jL_law_733 at h
  refine GM_aload_n (pc := 733) 1 rfl (daL_law_7 5 rfl) rfl ?_
  refine GM_aload_n (pc := 734) 0 rfl (daL_law_7 6 rfl) rfl ?_
  refine GM_iload_n (pc := 735) 3 rfl (daL_law_7 7 rfl) rfl ?_
  refine GM_iconst (pc := 736) 1 (daL_law_7 8 rfl) rfl (R32_b rfl) ?_
  refine GM_iadd (pc := 737) (daL_law_7 9 rfl) ?_
  obtain ⟨hc367, h⟩ := chk_inv h
  refine GM_sld (Ls := Ls) (xs := xs) (pc := 738) rfl hc367.1 hc367.2 (daL_law_7 10 rfl) ?_
  refine GM_aload_n (pc := 739) 0 rfl (daL_law_7 11 rfl) rfl ?_
  refine GM_iload_n (pc := 740) 3 rfl (daL_law_7 12 rfl) rfl ?_
  refine GM_iconst (pc := 741) 2 (daL_law_7 13 rfl) rfl (R32_b rfl) ?_
  refine GM_iadd (pc := 742) (daL_law_7 14 rfl) ?_
  obtain ⟨hc368, h⟩ := chk_inv h
  refine GM_sld (Ls := Ls) (xs := xs) (pc := 743) rfl hc368.1 hc368.2 (daL_law_7 15 rfl) ?_
  refine GM_aload_n (pc := 744) 0 rfl (daL_law_7 16 rfl) rfl ?_
  refine GM_iload_n (pc := 745) 3 rfl (daL_law_7 17 rfl) rfl ?_
  refine GM_iconst (pc := 746) 3 (daL_law_7 18 rfl) rfl (R32_b rfl) ?_
  refine GM_iadd (pc := 747) (daL_law_7 19 rfl) ?_
  obtain ⟨hc369, h⟩ := chk_inv h
  refine GM_sld (Ls := Ls) (xs := xs) (pc := 748) rfl hc369.1 hc369.2 (daL_law_7 20 rfl) ?_
  refine GM_aload_n (pc := 749) 0 rfl (daL_law_7 21 rfl) rfl ?_
  refine GM_iload_n (pc := 750) 3 rfl (daL_law_7 22 rfl) rfl ?_
  refine GM_iconst (pc := 751) 4 (daL_law_7 23 rfl) rfl (R32_b rfl) ?_
  refine GM_iadd (pc := 752) (daL_law_7 24 rfl) ?_
  obtain ⟨hc370, h⟩ := chk_inv h
  refine GM_sld (Ls := Ls) (xs := xs) (pc := 753) rfl hc370.1 hc370.2 (daL_law_7 25 rfl) ?_
  refine GM_aload_n (pc := 754) 0 rfl (daL_law_7 26 rfl) rfl ?_
  refine GM_iload_n (pc := 755) 3 rfl (daL_law_7 27 rfl) rfl ?_
  refine GM_iconst (pc := 756) 5 (daL_law_7 28 rfl) rfl (R32_b rfl) ?_
  refine GM_iadd (pc := 757) (daL_law_7 29 rfl) ?_
  obtain ⟨hc371, h⟩ := chk_inv h
  refine GM_sld (Ls := Ls) (xs := xs) (pc := 758) rfl hc371.1 hc371.2 (daL_law_7 30 rfl) ?_
  obtain ⟨hc372, h⟩ := chk_inv h
  obtain ⟨⟨⟨r373, μ373⟩, c373, n373⟩, hf373, h⟩ := Option.bind_eq_some_iff.mp h
  dsimp only at h
  obtain ⟨c374, n374, hp, e1, e2⟩ := pay_inv h
  subst e1 e2
  replace h := hp
  clear hp
  rw [Nat.add_assoc, Nat.add_assoc]
  refine GM_callV (pc := 759) [(0, (xs (w32 (v3 + 1)).toNat).toInt), (0, (xs (w32 (v3 + 2)).toNat).toInt), (0, (xs (w32 (v3 + 3)).toNat).toInt), (0, (xs (w32 (v3 + 4)).toNat).toInt), (0, (xs (w32 (v3 + 5)).toNat).toInt)] (tX10_first l hf373) cwX10_first 10 (Nat.le_of_ble_eq_true rfl) rfl kv_X10_first ke_X10_first km_L_71 hc372 ⟨Nat.le_of_ble_eq_true rfl, Nat.le_of_ble_eq_true rfl⟩ (Nat.le_of_ble_eq_true rfl) (Nat.le_of_ble_eq_true rfl) (daL_law_7 31 rfl) ?_
  refine GM_aload_n (pc := 762) 2 rfl (daL_law_7 32 rfl) rfl ?_
  refine GM_aload_n (pc := 763) 0 rfl (daL_law_7 33 rfl) rfl ?_
  refine GM_iload_n (pc := 764) 3 rfl (daL_law_7 34 rfl) rfl ?_
  refine GM_iconst (pc := 765) 1 (daL_law_7 35 rfl) rfl (R32_b rfl) ?_
  refine GM_iadd (pc := 766) (daL_law_7 36 rfl) ?_
  refine GM_sld (Ls := Ls) (xs := xs) (pc := 767) rfl hc367.1 hc367.2 (daL_law_7 37 rfl) ?_
  refine GM_aload_n (pc := 768) 0 rfl (daL_law_7 38 rfl) rfl ?_
  refine GM_iload_n (pc := 769) 3 rfl (daL_law_7 39 rfl) rfl ?_
  refine GM_iconst (pc := 770) 2 (daL_law_7 40 rfl) rfl (R32_b rfl) ?_
  refine GM_iadd (pc := 771) (daL_law_7 41 rfl) ?_
  refine GM_sld (Ls := Ls) (xs := xs) (pc := 772) rfl hc368.1 hc368.2 (daL_law_7 42 rfl) ?_
  refine GM_aload_n (pc := 773) 0 rfl (daL_law_7 43 rfl) rfl ?_
  refine GM_iload_n (pc := 774) 3 rfl (daL_law_7 44 rfl) rfl ?_
  refine GM_iconst (pc := 775) 3 (daL_law_7 45 rfl) rfl (R32_b rfl) ?_
  refine GM_iadd (pc := 776) (daL_law_7 46 rfl) ?_
  refine GM_sld (Ls := Ls) (xs := xs) (pc := 777) rfl hc369.1 hc369.2 (daL_law_7 47 rfl) ?_
  refine GM_aload_n (pc := 778) 0 rfl (daL_law_7 48 rfl) rfl ?_
  refine GM_iload_n (pc := 779) 3 rfl (daL_law_7 49 rfl) rfl ?_
  refine GM_iconst (pc := 780) 4 (daL_law_7 50 rfl) rfl (R32_b rfl) ?_
  refine GM_iadd (pc := 781) (daL_law_7 51 rfl) ?_
  refine GM_sld (Ls := Ls) (xs := xs) (pc := 782) rfl hc370.1 hc370.2 (daL_law_7 52 rfl) ?_
  refine GM_aload_n (pc := 783) 0 rfl (daL_law_7 53 rfl) rfl ?_
  refine GM_iload_n (pc := 784) 3 rfl (daL_law_7 54 rfl) rfl ?_
  refine GM_iconst (pc := 785) 5 (daL_law_7 55 rfl) rfl (R32_b rfl) ?_
  refine GM_iadd (pc := 786) (daL_law_7 56 rfl) ?_
  refine GM_sld (Ls := Ls) (xs := xs) (pc := 787) rfl hc371.1 hc371.2 (daL_law_7 57 rfl) ?_
  obtain ⟨hc375, h⟩ := chk_inv h
  obtain ⟨⟨r376, μ376⟩, hf376, h⟩ := Option.bind_eq_some_iff.mp h
  dsimp only at h
  refine GM_callV0 (pc := 788) [(0, (xs (w32 (v3 + 1)).toNat).toInt), (0, (xs (w32 (v3 + 2)).toNat).toInt), (0, (xs (w32 (v3 + 3)).toNat).toInt), (0, (xs (w32 (v3 + 4)).toNat).toInt), (0, (xs (w32 (v3 + 5)).toNat).toInt)] (tX11_first l hf376) cwX11_first 11 (Nat.le_of_ble_eq_true rfl) rfl kv_X11_first ke_X11_first km_L_74 hc375 ⟨Nat.le_of_ble_eq_true rfl, Nat.le_of_ble_eq_true rfl⟩ (Nat.le_of_ble_eq_true rfl) (Nat.le_of_ble_eq_true rfl) (daL_law_7 58 rfl) ?_
  refine GM_icmp_eq (pc := 791) 2238 (daL_law_7 59 rfl) rfl (fun c377 => ?_) (fun c377 => ?_)
  · skip
    rw [if_pos c377] at h
    refine GM_iinc (L' := [(3, (0, w32 (v3 + 9))), (0, (3, 34)), (1, (3, v1)), (2, (3, v2))]) (pc := 2238) 3 rfl (daL_law_26 56 rfl) (Nat.le_of_ble_eq_true rfl) rfl ?_
    refine GM_goto (pc := 2241) 18 (daL_law_26 57 rfl) rfl ?_
    refine GM_pick [1, 2, 3, 0] rfl ?_
    cases h
    rw [Nat.zero_add, Nat.zero_add]
    exact hK
  · skip
    rw [if_neg c377] at h
    cases h
set_option maxRecDepth 20000 in
theorem gL_law_224 (Ls : Nat) (xs : Nat → Int32) (hLs : Ls < 100000) (l : Launch) {F : FI} {v1 v2 v3 : Int} {μ : Mm} {t : ((Int × Mm) ⊕ Mm)} {c0 n0 k n : Nat} (h : jL_law_224 Ls xs v1 v2 v3 μ = some (t, c0, n0)) (hK : zL_law_18 Ls xs l F v1 v2 k n t) : GM l (mL_law Ls xs) F (c0 + k) (n0 + n) 224 [(0, (3, 34)), (1, (3, v1)), (2, (3, v2)), (3, (0, v3))] [] μ := by
  unfold jL_law_224 at h
  refine GM_aload_n (pc := 224) 1 rfl (daL_law_0 22 rfl) rfl ?_
  refine GM_aload_n (pc := 225) 0 rfl (daL_law_0 23 rfl) rfl ?_
  refine GM_iload_n (pc := 226) 3 rfl (daL_law_0 24 rfl) rfl ?_
  refine GM_iconst (pc := 227) 1 (daL_law_0 25 rfl) rfl (R32_b rfl) ?_
  refine GM_iadd (pc := 228) (daL_law_0 26 rfl) ?_
  obtain ⟨hc378, h⟩ := chk_inv h
  refine GM_sld (Ls := Ls) (xs := xs) (pc := 229) rfl hc378.1 hc378.2 (daL_law_0 27 rfl) ?_
  refine GM_aload_n (pc := 230) 0 rfl (daL_law_0 28 rfl) rfl ?_
  refine GM_iload_n (pc := 231) 3 rfl (daL_law_0 29 rfl) rfl ?_
  refine GM_iconst (pc := 232) 2 (daL_law_0 30 rfl) rfl (R32_b rfl) ?_
  refine GM_iadd (pc := 233) (daL_law_0 31 rfl) ?_
  obtain ⟨hc379, h⟩ := chk_inv h
  refine GM_sld (Ls := Ls) (xs := xs) (pc := 234) rfl hc379.1 hc379.2 (daL_law_0 32 rfl) ?_
  refine GM_aload_n (pc := 235) 0 rfl (daL_law_0 33 rfl) rfl ?_
  refine GM_iload_n (pc := 236) 3 rfl (daL_law_0 34 rfl) rfl ?_
  refine GM_iconst (pc := 237) 3 (daL_law_0 35 rfl) rfl (R32_b rfl) ?_
  refine GM_iadd (pc := 238) (daL_law_0 36 rfl) ?_
  obtain ⟨hc380, h⟩ := chk_inv h
  refine GM_sld (Ls := Ls) (xs := xs) (pc := 239) rfl hc380.1 hc380.2 (daL_law_0 37 rfl) ?_
  refine GM_aload_n (pc := 240) 0 rfl (daL_law_0 38 rfl) rfl ?_
  refine GM_iload_n (pc := 241) 3 rfl (daL_law_0 39 rfl) rfl ?_
  refine GM_iconst (pc := 242) 4 (daL_law_0 40 rfl) rfl (R32_b rfl) ?_
  refine GM_iadd (pc := 243) (daL_law_0 41 rfl) ?_
  obtain ⟨hc381, h⟩ := chk_inv h
  refine GM_sld (Ls := Ls) (xs := xs) (pc := 244) rfl hc381.1 hc381.2 (daL_law_0 42 rfl) ?_
  refine GM_aload_n (pc := 245) 0 rfl (daL_law_0 43 rfl) rfl ?_
  refine GM_iload_n (pc := 246) 3 rfl (daL_law_0 44 rfl) rfl ?_
  refine GM_iconst (pc := 247) 5 (daL_law_0 45 rfl) rfl (R32_b rfl) ?_
  refine GM_iadd (pc := 248) (daL_law_0 46 rfl) ?_
  obtain ⟨hc382, h⟩ := chk_inv h
  refine GM_sld (Ls := Ls) (xs := xs) (pc := 249) rfl hc382.1 hc382.2 (daL_law_0 47 rfl) ?_
  obtain ⟨hc383, h⟩ := chk_inv h
  obtain ⟨⟨r384, μ384⟩, hf384, h⟩ := Option.bind_eq_some_iff.mp h
  dsimp only at h
  refine GM_callV0 (pc := 250) [(0, (xs (w32 (v3 + 1)).toNat).toInt), (0, (xs (w32 (v3 + 2)).toNat).toInt), (0, (xs (w32 (v3 + 3)).toNat).toInt), (0, (xs (w32 (v3 + 4)).toNat).toInt), (0, (xs (w32 (v3 + 5)).toNat).toInt)] (tX10_feed l hf384) cwX10_feed 10 (Nat.le_of_ble_eq_true rfl) rfl kv_X10_feed ke_X10_feed km_L_13 hc383 ⟨Nat.le_of_ble_eq_true rfl, Nat.le_of_ble_eq_true rfl⟩ (Nat.le_of_ble_eq_true rfl) (Nat.le_of_ble_eq_true rfl) (daL_law_0 48 rfl) ?_
  refine GM_aload_n (pc := 253) 2 rfl (daL_law_0 49 rfl) rfl ?_
  refine GM_aload_n (pc := 254) 0 rfl (daL_law_0 50 rfl) rfl ?_
  refine GM_iload_n (pc := 255) 3 rfl (daL_law_0 51 rfl) rfl ?_
  refine GM_iconst (pc := 256) 1 (daL_law_0 52 rfl) rfl (R32_b rfl) ?_
  refine GM_iadd (pc := 257) (daL_law_0 53 rfl) ?_
  refine GM_sld (Ls := Ls) (xs := xs) (pc := 258) rfl hc378.1 hc378.2 (daL_law_0 54 rfl) ?_
  refine GM_aload_n (pc := 259) 0 rfl (daL_law_0 55 rfl) rfl ?_
  refine GM_iload_n (pc := 260) 3 rfl (daL_law_0 56 rfl) rfl ?_
  refine GM_iconst (pc := 261) 2 (daL_law_0 57 rfl) rfl (R32_b rfl) ?_
  refine GM_iadd (pc := 262) (daL_law_0 58 rfl) ?_
  refine GM_sld (Ls := Ls) (xs := xs) (pc := 263) rfl hc379.1 hc379.2 (daL_law_0 59 rfl) ?_
  refine GM_aload_n (pc := 264) 0 rfl (daL_law_0 60 rfl) rfl ?_
  refine GM_iload_n (pc := 265) 3 rfl (daL_law_0 61 rfl) rfl ?_
  refine GM_iconst (pc := 266) 3 (daL_law_0 62 rfl) rfl (R32_b rfl) ?_
  refine GM_iadd (pc := 267) (daL_law_0 63 rfl) ?_
  refine GM_sld (Ls := Ls) (xs := xs) (pc := 268) rfl hc380.1 hc380.2 (daL_law_1 0 rfl) ?_
  refine GM_aload_n (pc := 269) 0 rfl (daL_law_1 1 rfl) rfl ?_
  refine GM_iload_n (pc := 270) 3 rfl (daL_law_1 2 rfl) rfl ?_
  refine GM_iconst (pc := 271) 4 (daL_law_1 3 rfl) rfl (R32_b rfl) ?_
  refine GM_iadd (pc := 272) (daL_law_1 4 rfl) ?_
  refine GM_sld (Ls := Ls) (xs := xs) (pc := 273) rfl hc381.1 hc381.2 (daL_law_1 5 rfl) ?_
  refine GM_aload_n (pc := 274) 0 rfl (daL_law_1 6 rfl) rfl ?_
  refine GM_iload_n (pc := 275) 3 rfl (daL_law_1 7 rfl) rfl ?_
  refine GM_iconst (pc := 276) 5 (daL_law_1 8 rfl) rfl (R32_b rfl) ?_
  refine GM_iadd (pc := 277) (daL_law_1 9 rfl) ?_
  refine GM_sld (Ls := Ls) (xs := xs) (pc := 278) rfl hc382.1 hc382.2 (daL_law_1 10 rfl) ?_
  obtain ⟨hc385, h⟩ := chk_inv h
  obtain ⟨⟨r386, μ386⟩, hf386, h⟩ := Option.bind_eq_some_iff.mp h
  dsimp only at h
  refine GM_callV0 (pc := 279) [(0, (xs (w32 (v3 + 1)).toNat).toInt), (0, (xs (w32 (v3 + 2)).toNat).toInt), (0, (xs (w32 (v3 + 3)).toNat).toInt), (0, (xs (w32 (v3 + 4)).toNat).toInt), (0, (xs (w32 (v3 + 5)).toNat).toInt)] (tX11_feed l hf386) cwX11_feed 11 (Nat.le_of_ble_eq_true rfl) rfl kv_X11_feed ke_X11_feed km_L_17 hc385 ⟨Nat.le_of_ble_eq_true rfl, Nat.le_of_ble_eq_true rfl⟩ (Nat.le_of_ble_eq_true rfl) (Nat.le_of_ble_eq_true rfl) (daL_law_1 11 rfl) ?_
  refine GM_icmp_eq (pc := 282) 2238 (daL_law_1 12 rfl) rfl (fun c387 => ?_) (fun c387 => ?_)
  · skip
    rw [if_pos c387] at h
    refine GM_iinc (L' := [(3, (0, w32 (v3 + 9))), (0, (3, 34)), (1, (3, v1)), (2, (3, v2))]) (pc := 2238) 3 rfl (daL_law_26 56 rfl) (Nat.le_of_ble_eq_true rfl) rfl ?_
    refine GM_goto (pc := 2241) 18 (daL_law_26 57 rfl) rfl ?_
    refine GM_pick [1, 2, 3, 0] rfl ?_
    cases h
    rw [Nat.zero_add, Nat.zero_add]
    exact hK
  · skip
    rw [if_neg c387] at h
    cases h
set_option maxRecDepth 20000 in
theorem gL_law_1759 (Ls : Nat) (xs : Nat → Int32) (hLs : Ls < 100000) (l : Launch) {F : FI} {v1 v2 v3 : Int} {μ : Mm} {t : ((Int × Mm) ⊕ Mm)} {c0 n0 k n : Nat} (h : jL_law_1759 Ls xs v1 v2 v3 μ = some (t, c0, n0)) (hK : zL_law_18 Ls xs l F v1 v2 k n t) : GM l (mL_law Ls xs) F (c0 + k) (n0 + n) 1759 [(0, (3, 34)), (1, (3, v1)), (2, (3, v2)), (3, (0, v3))] [] μ := by
  unfold jL_law_1759 at h
  refine GM_aload_n (pc := 1759) 1 rfl (daL_law_20 45 rfl) rfl ?_
  refine GM_aload_n (pc := 1760) 0 rfl (daL_law_20 46 rfl) rfl ?_
  refine GM_iload_n (pc := 1761) 3 rfl (daL_law_20 47 rfl) rfl ?_
  refine GM_iconst (pc := 1762) 1 (daL_law_20 48 rfl) rfl (R32_b rfl) ?_
  refine GM_iadd (pc := 1763) (daL_law_20 49 rfl) ?_
  obtain ⟨hc388, h⟩ := chk_inv h
  refine GM_sld (Ls := Ls) (xs := xs) (pc := 1764) rfl hc388.1 hc388.2 (daL_law_20 50 rfl) ?_
  refine GM_aload_n (pc := 1765) 0 rfl (daL_law_20 51 rfl) rfl ?_
  refine GM_iload_n (pc := 1766) 3 rfl (daL_law_20 52 rfl) rfl ?_
  refine GM_iconst (pc := 1767) 2 (daL_law_20 53 rfl) rfl (R32_b rfl) ?_
  refine GM_iadd (pc := 1768) (daL_law_20 54 rfl) ?_
  obtain ⟨hc389, h⟩ := chk_inv h
  refine GM_sld (Ls := Ls) (xs := xs) (pc := 1769) rfl hc389.1 hc389.2 (daL_law_20 55 rfl) ?_
  refine GM_aload_n (pc := 1770) 0 rfl (daL_law_20 56 rfl) rfl ?_
  refine GM_iload_n (pc := 1771) 3 rfl (daL_law_20 57 rfl) rfl ?_
  refine GM_iconst (pc := 1772) 3 (daL_law_20 58 rfl) rfl (R32_b rfl) ?_
  refine GM_iadd (pc := 1773) (daL_law_20 59 rfl) ?_
  obtain ⟨hc390, h⟩ := chk_inv h
  refine GM_sld (Ls := Ls) (xs := xs) (pc := 1774) rfl hc390.1 hc390.2 (daL_law_20 60 rfl) ?_
  refine GM_aload_n (pc := 1775) 0 rfl (daL_law_20 61 rfl) rfl ?_
  refine GM_iload_n (pc := 1776) 3 rfl (daL_law_20 62 rfl) rfl ?_
  refine GM_iconst (pc := 1777) 4 (daL_law_20 63 rfl) rfl (R32_b rfl) ?_
  refine GM_iadd (pc := 1778) (daL_law_21 0 rfl) ?_
  obtain ⟨hc391, h⟩ := chk_inv h
  refine GM_sld (Ls := Ls) (xs := xs) (pc := 1779) rfl hc391.1 hc391.2 (daL_law_21 1 rfl) ?_
  refine GM_aload_n (pc := 1780) 0 rfl (daL_law_21 2 rfl) rfl ?_
  refine GM_iload_n (pc := 1781) 3 rfl (daL_law_21 3 rfl) rfl ?_
  refine GM_iconst (pc := 1782) 5 (daL_law_21 4 rfl) rfl (R32_b rfl) ?_
  refine GM_iadd (pc := 1783) (daL_law_21 5 rfl) ?_
  obtain ⟨hc392, h⟩ := chk_inv h
  refine GM_sld (Ls := Ls) (xs := xs) (pc := 1784) rfl hc392.1 hc392.2 (daL_law_21 6 rfl) ?_
  refine GM_aload_n (pc := 1785) 0 rfl (daL_law_21 7 rfl) rfl ?_
  refine GM_iload_n (pc := 1786) 3 rfl (daL_law_21 8 rfl) rfl ?_
  refine GM_bipush (pc := 1787) 6 (daL_law_21 9 rfl) rfl (R32_b rfl) ?_
  refine GM_iadd (pc := 1789) (daL_law_21 10 rfl) ?_
  obtain ⟨hc393, h⟩ := chk_inv h
  refine GM_sld (Ls := Ls) (xs := xs) (pc := 1790) rfl hc393.1 hc393.2 (daL_law_21 11 rfl) ?_
  refine GM_aload_n (pc := 1791) 0 rfl (daL_law_21 12 rfl) rfl ?_
  refine GM_iload_n (pc := 1792) 3 rfl (daL_law_21 13 rfl) rfl ?_
  refine GM_bipush (pc := 1793) 7 (daL_law_21 14 rfl) rfl (R32_b rfl) ?_
  refine GM_iadd (pc := 1795) (daL_law_21 15 rfl) ?_
  obtain ⟨hc394, h⟩ := chk_inv h
  refine GM_sld (Ls := Ls) (xs := xs) (pc := 1796) rfl hc394.1 hc394.2 (daL_law_21 16 rfl) ?_
  obtain ⟨hc395, h⟩ := chk_inv h
  obtain ⟨⟨⟨r396, μ396⟩, c396, n396⟩, hf396, h⟩ := Option.bind_eq_some_iff.mp h
  dsimp only at h
  obtain ⟨c397, n397, hp, e1, e2⟩ := pay_inv h
  subst e1 e2
  replace h := hp
  clear hp
  rw [Nat.add_assoc, Nat.add_assoc]
  refine GM_callV (pc := 1797) [(0, (xs (w32 (v3 + 1)).toNat).toInt), (0, (xs (w32 (v3 + 2)).toNat).toInt), (0, (xs (w32 (v3 + 3)).toNat).toInt), (0, (xs (w32 (v3 + 4)).toNat).toInt), (0, (xs (w32 (v3 + 5)).toNat).toInt), (0, (xs (w32 (v3 + 6)).toNat).toInt), (0, (xs (w32 (v3 + 7)).toNat).toInt)] (tX10_scrawl l hf396) cwX10_scrawl 10 (Nat.le_of_ble_eq_true rfl) rfl kv_X10_scrawl ke_X10_scrawl km_L_153 hc395 ⟨Nat.le_of_ble_eq_true rfl, Nat.le_of_ble_eq_true rfl⟩ (Nat.le_of_ble_eq_true rfl) (Nat.le_of_ble_eq_true rfl) (daL_law_21 17 rfl) ?_
  refine GM_aload_n (pc := 1800) 2 rfl (daL_law_21 18 rfl) rfl ?_
  refine GM_aload_n (pc := 1801) 0 rfl (daL_law_21 19 rfl) rfl ?_
  refine GM_iload_n (pc := 1802) 3 rfl (daL_law_21 20 rfl) rfl ?_
  refine GM_iconst (pc := 1803) 1 (daL_law_21 21 rfl) rfl (R32_b rfl) ?_
  refine GM_iadd (pc := 1804) (daL_law_21 22 rfl) ?_
  refine GM_sld (Ls := Ls) (xs := xs) (pc := 1805) rfl hc388.1 hc388.2 (daL_law_21 23 rfl) ?_
  refine GM_aload_n (pc := 1806) 0 rfl (daL_law_21 24 rfl) rfl ?_
  refine GM_iload_n (pc := 1807) 3 rfl (daL_law_21 25 rfl) rfl ?_
  refine GM_iconst (pc := 1808) 2 (daL_law_21 26 rfl) rfl (R32_b rfl) ?_
  refine GM_iadd (pc := 1809) (daL_law_21 27 rfl) ?_
  refine GM_sld (Ls := Ls) (xs := xs) (pc := 1810) rfl hc389.1 hc389.2 (daL_law_21 28 rfl) ?_
  refine GM_aload_n (pc := 1811) 0 rfl (daL_law_21 29 rfl) rfl ?_
  refine GM_iload_n (pc := 1812) 3 rfl (daL_law_21 30 rfl) rfl ?_
  refine GM_iconst (pc := 1813) 3 (daL_law_21 31 rfl) rfl (R32_b rfl) ?_
  refine GM_iadd (pc := 1814) (daL_law_21 32 rfl) ?_
  refine GM_sld (Ls := Ls) (xs := xs) (pc := 1815) rfl hc390.1 hc390.2 (daL_law_21 33 rfl) ?_
  refine GM_aload_n (pc := 1816) 0 rfl (daL_law_21 34 rfl) rfl ?_
  refine GM_iload_n (pc := 1817) 3 rfl (daL_law_21 35 rfl) rfl ?_
  refine GM_iconst (pc := 1818) 4 (daL_law_21 36 rfl) rfl (R32_b rfl) ?_
  refine GM_iadd (pc := 1819) (daL_law_21 37 rfl) ?_
  refine GM_sld (Ls := Ls) (xs := xs) (pc := 1820) rfl hc391.1 hc391.2 (daL_law_21 38 rfl) ?_
  refine GM_aload_n (pc := 1821) 0 rfl (daL_law_21 39 rfl) rfl ?_
  refine GM_iload_n (pc := 1822) 3 rfl (daL_law_21 40 rfl) rfl ?_
  refine GM_iconst (pc := 1823) 5 (daL_law_21 41 rfl) rfl (R32_b rfl) ?_
  refine GM_iadd (pc := 1824) (daL_law_21 42 rfl) ?_
  refine GM_sld (Ls := Ls) (xs := xs) (pc := 1825) rfl hc392.1 hc392.2 (daL_law_21 43 rfl) ?_
  refine GM_aload_n (pc := 1826) 0 rfl (daL_law_21 44 rfl) rfl ?_
  refine GM_iload_n (pc := 1827) 3 rfl (daL_law_21 45 rfl) rfl ?_
  refine GM_bipush (pc := 1828) 6 (daL_law_21 46 rfl) rfl (R32_b rfl) ?_
  refine GM_iadd (pc := 1830) (daL_law_21 47 rfl) ?_
  refine GM_sld (Ls := Ls) (xs := xs) (pc := 1831) rfl hc393.1 hc393.2 (daL_law_21 48 rfl) ?_
  refine GM_aload_n (pc := 1832) 0 rfl (daL_law_21 49 rfl) rfl ?_
  refine GM_iload_n (pc := 1833) 3 rfl (daL_law_21 50 rfl) rfl ?_
  refine GM_bipush (pc := 1834) 7 (daL_law_21 51 rfl) rfl (R32_b rfl) ?_
  refine GM_iadd (pc := 1836) (daL_law_21 52 rfl) ?_
  refine GM_sld (Ls := Ls) (xs := xs) (pc := 1837) rfl hc394.1 hc394.2 (daL_law_21 53 rfl) ?_
  obtain ⟨hc398, h⟩ := chk_inv h
  obtain ⟨⟨r399, μ399⟩, hf399, h⟩ := Option.bind_eq_some_iff.mp h
  dsimp only at h
  refine GM_callV0 (pc := 1838) [(0, (xs (w32 (v3 + 1)).toNat).toInt), (0, (xs (w32 (v3 + 2)).toNat).toInt), (0, (xs (w32 (v3 + 3)).toNat).toInt), (0, (xs (w32 (v3 + 4)).toNat).toInt), (0, (xs (w32 (v3 + 5)).toNat).toInt), (0, (xs (w32 (v3 + 6)).toNat).toInt), (0, (xs (w32 (v3 + 7)).toNat).toInt)] (tX11_scrawl l hf399) cwX11_scrawl 11 (Nat.le_of_ble_eq_true rfl) rfl kv_X11_scrawl ke_X11_scrawl km_L_157 hc398 ⟨Nat.le_of_ble_eq_true rfl, Nat.le_of_ble_eq_true rfl⟩ (Nat.le_of_ble_eq_true rfl) (Nat.le_of_ble_eq_true rfl) (daL_law_21 54 rfl) ?_
  refine GM_icmp_eq (pc := 1841) 2238 (daL_law_21 55 rfl) rfl (fun c400 => ?_) (fun c400 => ?_)
  · skip
    rw [if_pos c400] at h
    refine GM_iinc (L' := [(3, (0, w32 (v3 + 9))), (0, (3, 34)), (1, (3, v1)), (2, (3, v2))]) (pc := 2238) 3 rfl (daL_law_26 56 rfl) (Nat.le_of_ble_eq_true rfl) rfl ?_
    refine GM_goto (pc := 2241) 18 (daL_law_26 57 rfl) rfl ?_
    refine GM_pick [1, 2, 3, 0] rfl ?_
    cases h
    rw [Nat.zero_add, Nat.zero_add]
    exact hK
  · skip
    rw [if_neg c400] at h
    cases h
set_option maxRecDepth 20000 in
theorem gL_law_1540 (Ls : Nat) (xs : Nat → Int32) (hLs : Ls < 100000) (l : Launch) {F : FI} {v1 v2 v3 : Int} {μ : Mm} {t : ((Int × Mm) ⊕ Mm)} {c0 n0 k n : Nat} (h : jL_law_1540 Ls xs v1 v2 v3 μ = some (t, c0, n0)) (hK : zL_law_18 Ls xs l F v1 v2 k n t) : GM l (mL_law Ls xs) F (c0 + k) (n0 + n) 1540 [(0, (3, 34)), (1, (3, v1)), (2, (3, v2)), (3, (0, v3))] [] μ := by
  unfold jL_law_1540 at h
  refine GM_aload_n (pc := 1540) 1 rfl (daL_law_17 62 rfl) rfl ?_
  refine GM_aload_n (pc := 1541) 0 rfl (daL_law_17 63 rfl) rfl ?_
  refine GM_iload_n (pc := 1542) 3 rfl (daL_law_18 0 rfl) rfl ?_
  refine GM_iconst (pc := 1543) 1 (daL_law_18 1 rfl) rfl (R32_b rfl) ?_
  refine GM_iadd (pc := 1544) (daL_law_18 2 rfl) ?_
  obtain ⟨hc401, h⟩ := chk_inv h
  refine GM_sld (Ls := Ls) (xs := xs) (pc := 1545) rfl hc401.1 hc401.2 (daL_law_18 3 rfl) ?_
  refine GM_aload_n (pc := 1546) 0 rfl (daL_law_18 4 rfl) rfl ?_
  refine GM_iload_n (pc := 1547) 3 rfl (daL_law_18 5 rfl) rfl ?_
  refine GM_iconst (pc := 1548) 2 (daL_law_18 6 rfl) rfl (R32_b rfl) ?_
  refine GM_iadd (pc := 1549) (daL_law_18 7 rfl) ?_
  obtain ⟨hc402, h⟩ := chk_inv h
  refine GM_sld (Ls := Ls) (xs := xs) (pc := 1550) rfl hc402.1 hc402.2 (daL_law_18 8 rfl) ?_
  refine GM_aload_n (pc := 1551) 0 rfl (daL_law_18 9 rfl) rfl ?_
  refine GM_iload_n (pc := 1552) 3 rfl (daL_law_18 10 rfl) rfl ?_
  refine GM_iconst (pc := 1553) 3 (daL_law_18 11 rfl) rfl (R32_b rfl) ?_
  refine GM_iadd (pc := 1554) (daL_law_18 12 rfl) ?_
  obtain ⟨hc403, h⟩ := chk_inv h
  refine GM_sld (Ls := Ls) (xs := xs) (pc := 1555) rfl hc403.1 hc403.2 (daL_law_18 13 rfl) ?_
  refine GM_aload_n (pc := 1556) 0 rfl (daL_law_18 14 rfl) rfl ?_
  refine GM_iload_n (pc := 1557) 3 rfl (daL_law_18 15 rfl) rfl ?_
  refine GM_iconst (pc := 1558) 4 (daL_law_18 16 rfl) rfl (R32_b rfl) ?_
  refine GM_iadd (pc := 1559) (daL_law_18 17 rfl) ?_
  obtain ⟨hc404, h⟩ := chk_inv h
  refine GM_sld (Ls := Ls) (xs := xs) (pc := 1560) rfl hc404.1 hc404.2 (daL_law_18 18 rfl) ?_
  refine GM_aload_n (pc := 1561) 0 rfl (daL_law_18 19 rfl) rfl ?_
  refine GM_iload_n (pc := 1562) 3 rfl (daL_law_18 20 rfl) rfl ?_
  refine GM_iconst (pc := 1563) 5 (daL_law_18 21 rfl) rfl (R32_b rfl) ?_
  refine GM_iadd (pc := 1564) (daL_law_18 22 rfl) ?_
  obtain ⟨hc405, h⟩ := chk_inv h
  refine GM_sld (Ls := Ls) (xs := xs) (pc := 1565) rfl hc405.1 hc405.2 (daL_law_18 23 rfl) ?_
  refine GM_if_eq (pc := 1566) 1573 (daL_law_18 24 rfl) rfl (fun c406 => ?_) (fun c406 => ?_)
  · skip
    rw [if_pos c406] at h
    refine GM_iconst (pc := 1573) 0 (daL_law_18 27 rfl) rfl (R32_b rfl) ?_
    exact gL_law_1574 Ls xs hLs l h hK
  · skip
    rw [if_neg c406] at h
    refine GM_iconst (pc := 1569) 1 (daL_law_18 25 rfl) rfl (R32_b rfl) ?_
    refine GM_goto (pc := 1570) 1574 (daL_law_18 26 rfl) rfl ?_
    exact gL_law_1574 Ls xs hLs l h hK
set_option maxRecDepth 20000 in
theorem gL_law_1846 (Ls : Nat) (xs : Nat → Int32) (hLs : Ls < 100000) (l : Launch) {F : FI} {v1 v2 v3 : Int} {μ : Mm} {t : ((Int × Mm) ⊕ Mm)} {c0 n0 k n : Nat} (h : jL_law_1846 Ls xs v1 v2 v3 μ = some (t, c0, n0)) (hK : zL_law_18 Ls xs l F v1 v2 k n t) : GM l (mL_law Ls xs) F (c0 + k) (n0 + n) 1846 [(0, (3, 34)), (1, (3, v1)), (2, (3, v2)), (3, (0, v3))] [] μ := by
  unfold jL_law_1846 at h
  refine GM_aload_n (pc := 1846) 1 rfl (daL_law_21 58 rfl) rfl ?_
  refine GM_aload_n (pc := 1847) 0 rfl (daL_law_21 59 rfl) rfl ?_
  refine GM_iload_n (pc := 1848) 3 rfl (daL_law_21 60 rfl) rfl ?_
  refine GM_iconst (pc := 1849) 1 (daL_law_21 61 rfl) rfl (R32_b rfl) ?_
  refine GM_iadd (pc := 1850) (daL_law_21 62 rfl) ?_
  obtain ⟨hc407, h⟩ := chk_inv h
  refine GM_sld (Ls := Ls) (xs := xs) (pc := 1851) rfl hc407.1 hc407.2 (daL_law_21 63 rfl) ?_
  refine GM_aload_n (pc := 1852) 0 rfl (daL_law_22 0 rfl) rfl ?_
  refine GM_iload_n (pc := 1853) 3 rfl (daL_law_22 1 rfl) rfl ?_
  refine GM_iconst (pc := 1854) 2 (daL_law_22 2 rfl) rfl (R32_b rfl) ?_
  refine GM_iadd (pc := 1855) (daL_law_22 3 rfl) ?_
  obtain ⟨hc408, h⟩ := chk_inv h
  refine GM_sld (Ls := Ls) (xs := xs) (pc := 1856) rfl hc408.1 hc408.2 (daL_law_22 4 rfl) ?_
  refine GM_aload_n (pc := 1857) 0 rfl (daL_law_22 5 rfl) rfl ?_
  refine GM_iload_n (pc := 1858) 3 rfl (daL_law_22 6 rfl) rfl ?_
  refine GM_iconst (pc := 1859) 3 (daL_law_22 7 rfl) rfl (R32_b rfl) ?_
  refine GM_iadd (pc := 1860) (daL_law_22 8 rfl) ?_
  obtain ⟨hc409, h⟩ := chk_inv h
  refine GM_sld (Ls := Ls) (xs := xs) (pc := 1861) rfl hc409.1 hc409.2 (daL_law_22 9 rfl) ?_
  refine GM_aload_n (pc := 1862) 0 rfl (daL_law_22 10 rfl) rfl ?_
  refine GM_iload_n (pc := 1863) 3 rfl (daL_law_22 11 rfl) rfl ?_
  refine GM_iconst (pc := 1864) 4 (daL_law_22 12 rfl) rfl (R32_b rfl) ?_
  refine GM_iadd (pc := 1865) (daL_law_22 13 rfl) ?_
  obtain ⟨hc410, h⟩ := chk_inv h
  refine GM_sld (Ls := Ls) (xs := xs) (pc := 1866) rfl hc410.1 hc410.2 (daL_law_22 14 rfl) ?_
  refine GM_aload_n (pc := 1867) 0 rfl (daL_law_22 15 rfl) rfl ?_
  refine GM_iload_n (pc := 1868) 3 rfl (daL_law_22 16 rfl) rfl ?_
  refine GM_iconst (pc := 1869) 5 (daL_law_22 17 rfl) rfl (R32_b rfl) ?_
  refine GM_iadd (pc := 1870) (daL_law_22 18 rfl) ?_
  obtain ⟨hc411, h⟩ := chk_inv h
  refine GM_sld (Ls := Ls) (xs := xs) (pc := 1871) rfl hc411.1 hc411.2 (daL_law_22 19 rfl) ?_
  refine GM_aload_n (pc := 1872) 0 rfl (daL_law_22 20 rfl) rfl ?_
  refine GM_iload_n (pc := 1873) 3 rfl (daL_law_22 21 rfl) rfl ?_
  refine GM_bipush (pc := 1874) 6 (daL_law_22 22 rfl) rfl (R32_b rfl) ?_
  refine GM_iadd (pc := 1876) (daL_law_22 23 rfl) ?_
  obtain ⟨hc412, h⟩ := chk_inv h
  refine GM_sld (Ls := Ls) (xs := xs) (pc := 1877) rfl hc412.1 hc412.2 (daL_law_22 24 rfl) ?_
  refine GM_aload_n (pc := 1878) 0 rfl (daL_law_22 25 rfl) rfl ?_
  refine GM_iload_n (pc := 1879) 3 rfl (daL_law_22 26 rfl) rfl ?_
  refine GM_bipush (pc := 1880) 7 (daL_law_22 27 rfl) rfl (R32_b rfl) ?_
  refine GM_iadd (pc := 1882) (daL_law_22 28 rfl) ?_
  obtain ⟨hc413, h⟩ := chk_inv h
  refine GM_sld (Ls := Ls) (xs := xs) (pc := 1883) rfl hc413.1 hc413.2 (daL_law_22 29 rfl) ?_
  refine GM_aload_n (pc := 1884) 0 rfl (daL_law_22 30 rfl) rfl ?_
  refine GM_iload_n (pc := 1885) 3 rfl (daL_law_22 31 rfl) rfl ?_
  refine GM_bipush (pc := 1886) 8 (daL_law_22 32 rfl) rfl (R32_b rfl) ?_
  refine GM_iadd (pc := 1888) (daL_law_22 33 rfl) ?_
  obtain ⟨hc414, h⟩ := chk_inv h
  refine GM_sld (Ls := Ls) (xs := xs) (pc := 1889) rfl hc414.1 hc414.2 (daL_law_22 34 rfl) ?_
  refine GM_if_eq (pc := 1890) 1897 (daL_law_22 35 rfl) rfl (fun c415 => ?_) (fun c415 => ?_)
  · skip
    rw [if_pos c415] at h
    refine GM_iconst (pc := 1897) 0 (daL_law_22 38 rfl) rfl (R32_b rfl) ?_
    exact gL_law_1898 Ls xs hLs l h hK
  · skip
    rw [if_neg c415] at h
    refine GM_iconst (pc := 1893) 1 (daL_law_22 36 rfl) rfl (R32_b rfl) ?_
    refine GM_goto (pc := 1894) 1898 (daL_law_22 37 rfl) rfl ?_
    exact gL_law_1898 Ls xs hLs l h hK
set_option maxRecDepth 20000 in
theorem qL_law_18 (Ls : Nat) (xs : Nat → Int32) (hLs : Ls < 100000) (l : Launch) (F : FI) (v1 v2 : Int) : ∀ (q : (Int × Mm)) (t : ((Int × Mm) ⊕ Mm)) (c0 n0 : Nat), sL_law_18 Ls xs v1 v2 q = some (t, c0, n0) → ∀ k n, zL_law_18 Ls xs l F v1 v2 k n t → zL_law_18 Ls xs l F v1 v2 (c0 + k) (n0 + n) (.inl q) := by
  intro q t c0 n0 h k n hK
  obtain ⟨v3, μ⟩ := q
  unfold sL_law_18 at h
  try dsimp only at h
  show GM l (mL_law Ls xs) F (c0 + k) (n0 + n) 18 [(0, (3, 34)), (1, (3, v1)), (2, (3, v2)), (3, (0, v3))] [] μ
  refine GM_iload_n (pc := 18) 3 rfl (daL_law_0 10 rfl) rfl ?_
  refine GM_aload_n (pc := 19) 0 rfl (daL_law_0 11 rfl) rfl ?_
  refine GM_slen (Ls := Ls) (xs := xs) (pc := 20) rfl hLs (daL_law_0 12 rfl) ?_
  refine GM_bipush (pc := 21) 9 (daL_law_0 13 rfl) rfl (R32_b rfl) ?_
  refine GM_isub (pc := 23) (daL_law_0 14 rfl) ?_
  refine GM_icmp_gt (pc := 24) 2244 (daL_law_0 15 rfl) rfl (fun c416 => ?_) (fun c416 => ?_)
  · skip
    rw [if_pos c416] at h
    refine GM_pick [] rfl ?_
    cases h
    rw [Nat.zero_add, Nat.zero_add]
    exact hK
  · skip
    rw [if_neg c416] at h
    refine GM_aload_n (pc := 27) 0 rfl (daL_law_0 16 rfl) rfl ?_
    refine GM_iload_n (pc := 28) 3 rfl (daL_law_0 17 rfl) rfl ?_
    obtain ⟨hc417, h⟩ := chk_inv h
    refine GM_sld (Ls := Ls) (xs := xs) (pc := 29) rfl hc417.1 hc417.2 (daL_law_0 18 rfl) ?_
    refine GM_bipush (pc := 30) 63 (daL_law_0 19 rfl) rfl (R32_b rfl) ?_
    refine GM_iand (pc := 32) (daL_law_0 20 rfl) ?_
    by_cases c418 : iand ((xs (v3).toNat).toInt) 63 = 0
    · rw [if_pos c418] at h
      refine GM_tableIn (pc := 33) 224 (daL_law_0 21 rfl) (by omega) (by omega) (by rw [c418]; rfl) rfl ?_
      exact gL_law_224 Ls xs hLs l h hK
    rw [if_neg c418] at h
    by_cases c419 : iand ((xs (v3).toNat).toInt) 63 = 1
    · rw [if_pos c419] at h
      refine GM_tableIn (pc := 33) 287 (daL_law_0 21 rfl) (by omega) (by omega) (by rw [c419]; rfl) rfl ?_
      exact gL_law_287 Ls xs hLs l h hK
    rw [if_neg c419] at h
    by_cases c420 : iand ((xs (v3).toNat).toInt) 63 = 2
    · rw [if_pos c420] at h
      refine GM_tableIn (pc := 33) 310 (daL_law_0 21 rfl) (by omega) (by omega) (by rw [c420]; rfl) rfl ?_
      exact gL_law_310 Ls xs hLs l h hK
    rw [if_neg c420] at h
    by_cases c421 : iand ((xs (v3).toNat).toInt) 63 = 3
    · rw [if_pos c421] at h
      refine GM_tableIn (pc := 33) 343 (daL_law_0 21 rfl) (by omega) (by omega) (by rw [c421]; rfl) rfl ?_
      exact gL_law_343 Ls xs hLs l h hK
    rw [if_neg c421] at h
    by_cases c422 : iand ((xs (v3).toNat).toInt) 63 = 4
    · rw [if_pos c422] at h
      refine GM_tableIn (pc := 33) 366 (daL_law_0 21 rfl) (by omega) (by omega) (by rw [c422]; rfl) rfl ?_
      exact gL_law_366 Ls xs hLs l h hK
    rw [if_neg c422] at h
    by_cases c423 : iand ((xs (v3).toNat).toInt) 63 = 5
    · rw [if_pos c423] at h
      refine GM_tableIn (pc := 33) 399 (daL_law_0 21 rfl) (by omega) (by omega) (by rw [c423]; rfl) rfl ?_
      exact gL_law_399 Ls xs hLs l h hK
    rw [if_neg c423] at h
    by_cases c424 : iand ((xs (v3).toNat).toInt) 63 = 6
    · rw [if_pos c424] at h
      refine GM_tableIn (pc := 33) 432 (daL_law_0 21 rfl) (by omega) (by omega) (by rw [c424]; rfl) rfl ?_
      exact gL_law_432 Ls xs hLs l h hK
    rw [if_neg c424] at h
    by_cases c425 : iand ((xs (v3).toNat).toInt) 63 = 7
    · rw [if_pos c425] at h
      refine GM_tableIn (pc := 33) 475 (daL_law_0 21 rfl) (by omega) (by omega) (by rw [c425]; rfl) rfl ?_
      exact gL_law_475 Ls xs hLs l h hK
    rw [if_neg c425] at h
    by_cases c426 : iand ((xs (v3).toNat).toInt) 63 = 8
    · rw [if_pos c426] at h
      refine GM_tableIn (pc := 33) 508 (daL_law_0 21 rfl) (by omega) (by omega) (by rw [c426]; rfl) rfl ?_
      exact gL_law_508 Ls xs hLs l h hK
    rw [if_neg c426] at h
    by_cases c427 : iand ((xs (v3).toNat).toInt) 63 = 9
    · rw [if_pos c427] at h
      refine GM_tableIn (pc := 33) 551 (daL_law_0 21 rfl) (by omega) (by omega) (by rw [c427]; rfl) rfl ?_
      exact gL_law_551 Ls xs hLs l h hK
    rw [if_neg c427] at h
    by_cases c428 : iand ((xs (v3).toNat).toInt) 63 = 10
    · rw [if_pos c428] at h
      refine GM_tableIn (pc := 33) 594 (daL_law_0 21 rfl) (by omega) (by omega) (by rw [c428]; rfl) rfl ?_
      exact gL_law_594 Ls xs hLs l h hK
    rw [if_neg c428] at h
    by_cases c429 : iand ((xs (v3).toNat).toInt) 63 = 11
    · rw [if_pos c429] at h
      refine GM_tableIn (pc := 33) 637 (daL_law_0 21 rfl) (by omega) (by omega) (by rw [c429]; rfl) rfl ?_
      exact gL_law_637 Ls xs hLs l h hK
    rw [if_neg c429] at h
    by_cases c430 : iand ((xs (v3).toNat).toInt) 63 = 12
    · rw [if_pos c430] at h
      refine GM_tableIn (pc := 33) 680 (daL_law_0 21 rfl) (by omega) (by omega) (by rw [c430]; rfl) rfl ?_
      exact gL_law_680 Ls xs hLs l h hK
    rw [if_neg c430] at h
    by_cases c431 : iand ((xs (v3).toNat).toInt) 63 = 13
    · rw [if_pos c431] at h
      refine GM_tableIn (pc := 33) 733 (daL_law_0 21 rfl) (by omega) (by omega) (by rw [c431]; rfl) rfl ?_
      exact gL_law_733 Ls xs hLs l h hK
    rw [if_neg c431] at h
    by_cases c432 : iand ((xs (v3).toNat).toInt) 63 = 14
    · rw [if_pos c432] at h
      refine GM_tableIn (pc := 33) 796 (daL_law_0 21 rfl) (by omega) (by omega) (by rw [c432]; rfl) rfl ?_
      exact gL_law_796 Ls xs hLs l h hK
    rw [if_neg c432] at h
    by_cases c433 : iand ((xs (v3).toNat).toInt) 63 = 15
    · rw [if_pos c433] at h
      refine GM_tableIn (pc := 33) 849 (daL_law_0 21 rfl) (by omega) (by omega) (by rw [c433]; rfl) rfl ?_
      exact gL_law_849 Ls xs hLs l h hK
    rw [if_neg c433] at h
    by_cases c434 : iand ((xs (v3).toNat).toInt) 63 = 16
    · rw [if_pos c434] at h
      refine GM_tableIn (pc := 33) 902 (daL_law_0 21 rfl) (by omega) (by omega) (by rw [c434]; rfl) rfl ?_
      exact gL_law_902 Ls xs hLs l h hK
    rw [if_neg c434] at h
    by_cases c435 : iand ((xs (v3).toNat).toInt) 63 = 17
    · rw [if_pos c435] at h
      refine GM_tableIn (pc := 33) 955 (daL_law_0 21 rfl) (by omega) (by omega) (by rw [c435]; rfl) rfl ?_
      exact gL_law_955 Ls xs hLs l h hK
    rw [if_neg c435] at h
    by_cases c436 : iand ((xs (v3).toNat).toInt) 63 = 18
    · rw [if_pos c436] at h
      refine GM_tableIn (pc := 33) 998 (daL_law_0 21 rfl) (by omega) (by omega) (by rw [c436]; rfl) rfl ?_
      exact gL_law_998 Ls xs hLs l h hK
    rw [if_neg c436] at h
    by_cases c437 : iand ((xs (v3).toNat).toInt) 63 = 19
    · rw [if_pos c437] at h
      refine GM_tableIn (pc := 33) 1041 (daL_law_0 21 rfl) (by omega) (by omega) (by rw [c437]; rfl) rfl ?_
      exact gL_law_1041 Ls xs hLs l h hK
    rw [if_neg c437] at h
    by_cases c438 : iand ((xs (v3).toNat).toInt) 63 = 20
    · rw [if_pos c438] at h
      refine GM_tableIn (pc := 33) 1074 (daL_law_0 21 rfl) (by omega) (by omega) (by rw [c438]; rfl) rfl ?_
      exact gL_law_1074 Ls xs hLs l h hK
    rw [if_neg c438] at h
    by_cases c439 : iand ((xs (v3).toNat).toInt) 63 = 21
    · rw [if_pos c439] at h
      refine GM_tableIn (pc := 33) 1133 (daL_law_0 21 rfl) (by omega) (by omega) (by rw [c439]; rfl) rfl ?_
      exact gL_law_1133 Ls xs hLs l h hK
    rw [if_neg c439] at h
    by_cases c440 : iand ((xs (v3).toNat).toInt) 63 = 22
    · rw [if_pos c440] at h
      refine GM_tableIn (pc := 33) 1186 (daL_law_0 21 rfl) (by omega) (by omega) (by rw [c440]; rfl) rfl ?_
      exact gL_law_1186 Ls xs hLs l h hK
    rw [if_neg c440] at h
    by_cases c441 : iand ((xs (v3).toNat).toInt) 63 = 23
    · rw [if_pos c441] at h
      refine GM_tableIn (pc := 33) 1239 (daL_law_0 21 rfl) (by omega) (by omega) (by rw [c441]; rfl) rfl ?_
      exact gL_law_1239 Ls xs hLs l h hK
    rw [if_neg c441] at h
    by_cases c442 : iand ((xs (v3).toNat).toInt) 63 = 24
    · rw [if_pos c442] at h
      refine GM_tableIn (pc := 33) 1302 (daL_law_0 21 rfl) (by omega) (by omega) (by rw [c442]; rfl) rfl ?_
      exact gL_law_1302 Ls xs hLs l h hK
    rw [if_neg c442] at h
    by_cases c443 : iand ((xs (v3).toNat).toInt) 63 = 25
    · rw [if_pos c443] at h
      refine GM_tableIn (pc := 33) 1355 (daL_law_0 21 rfl) (by omega) (by omega) (by rw [c443]; rfl) rfl ?_
      exact gL_law_1355 Ls xs hLs l h hK
    rw [if_neg c443] at h
    by_cases c444 : iand ((xs (v3).toNat).toInt) 63 = 26
    · rw [if_pos c444] at h
      refine GM_tableIn (pc := 33) 1388 (daL_law_0 21 rfl) (by omega) (by omega) (by rw [c444]; rfl) rfl ?_
      exact gL_law_1388 Ls xs hLs l h hK
    rw [if_neg c444] at h
    by_cases c445 : iand ((xs (v3).toNat).toInt) 63 = 27
    · rw [if_pos c445] at h
      refine GM_tableIn (pc := 33) 1421 (daL_law_0 21 rfl) (by omega) (by omega) (by rw [c445]; rfl) rfl ?_
      exact gL_law_1421 Ls xs hLs l h hK
    rw [if_neg c445] at h
    by_cases c446 : iand ((xs (v3).toNat).toInt) 63 = 28
    · rw [if_pos c446] at h
      refine GM_tableIn (pc := 33) 1444 (daL_law_0 21 rfl) (by omega) (by omega) (by rw [c446]; rfl) rfl ?_
      exact gL_law_1444 Ls xs hLs l h hK
    rw [if_neg c446] at h
    by_cases c447 : iand ((xs (v3).toNat).toInt) 63 = 29
    · rw [if_pos c447] at h
      refine GM_tableIn (pc := 33) 1497 (daL_law_0 21 rfl) (by omega) (by omega) (by rw [c447]; rfl) rfl ?_
      exact gL_law_1497 Ls xs hLs l h hK
    rw [if_neg c447] at h
    by_cases c448 : iand ((xs (v3).toNat).toInt) 63 = 30
    · rw [if_pos c448] at h
      refine GM_tableIn (pc := 33) 1540 (daL_law_0 21 rfl) (by omega) (by omega) (by rw [c448]; rfl) rfl ?_
      exact gL_law_1540 Ls xs hLs l h hK
    rw [if_neg c448] at h
    by_cases c449 : iand ((xs (v3).toNat).toInt) 63 = 31
    · rw [if_pos c449] at h
      refine GM_tableIn (pc := 33) 1647 (daL_law_0 21 rfl) (by omega) (by omega) (by rw [c449]; rfl) rfl ?_
      exact gL_law_1647 Ls xs hLs l h hK
    rw [if_neg c449] at h
    by_cases c450 : iand ((xs (v3).toNat).toInt) 63 = 32
    · rw [if_pos c450] at h
      refine GM_tableIn (pc := 33) 1700 (daL_law_0 21 rfl) (by omega) (by omega) (by rw [c450]; rfl) rfl ?_
      exact gL_law_1700 Ls xs hLs l h hK
    rw [if_neg c450] at h
    by_cases c451 : iand ((xs (v3).toNat).toInt) 63 = 33
    · rw [if_pos c451] at h
      refine GM_tableIn (pc := 33) 1759 (daL_law_0 21 rfl) (by omega) (by omega) (by rw [c451]; rfl) rfl ?_
      exact gL_law_1759 Ls xs hLs l h hK
    rw [if_neg c451] at h
    by_cases c452 : iand ((xs (v3).toNat).toInt) 63 = 34
    · rw [if_pos c452] at h
      refine GM_tableIn (pc := 33) 1846 (daL_law_0 21 rfl) (by omega) (by omega) (by rw [c452]; rfl) rfl ?_
      exact gL_law_1846 Ls xs hLs l h hK
    rw [if_neg c452] at h
    by_cases c453 : iand ((xs (v3).toNat).toInt) 63 = 35
    · rw [if_pos c453] at h
      refine GM_tableIn (pc := 33) 1961 (daL_law_0 21 rfl) (by omega) (by omega) (by rw [c453]; rfl) rfl ?_
      exact gL_law_1961 Ls xs hLs l h hK
    rw [if_neg c453] at h
    by_cases c454 : iand ((xs (v3).toNat).toInt) 63 = 36
    · rw [if_pos c454] at h
      refine GM_tableIn (pc := 33) 2004 (daL_law_0 21 rfl) (by omega) (by omega) (by rw [c454]; rfl) rfl ?_
      exact gL_law_2004 Ls xs hLs l h hK
    rw [if_neg c454] at h
    by_cases c455 : iand ((xs (v3).toNat).toInt) 63 = 37
    · rw [if_pos c455] at h
      refine GM_tableIn (pc := 33) 2027 (daL_law_0 21 rfl) (by omega) (by omega) (by rw [c455]; rfl) rfl ?_
      exact gL_law_2027 Ls xs hLs l h hK
    rw [if_neg c455] at h
    by_cases c456 : iand ((xs (v3).toNat).toInt) 63 = 38
    · rw [if_pos c456] at h
      refine GM_tableIn (pc := 33) 2060 (daL_law_0 21 rfl) (by omega) (by omega) (by rw [c456]; rfl) rfl ?_
      exact gL_law_2060 Ls xs hLs l h hK
    rw [if_neg c456] at h
    by_cases c457 : iand ((xs (v3).toNat).toInt) 63 = 39
    · rw [if_pos c457] at h
      refine GM_tableIn (pc := 33) 2113 (daL_law_0 21 rfl) (by omega) (by omega) (by rw [c457]; rfl) rfl ?_
      exact gL_law_2113 Ls xs hLs l h hK
    rw [if_neg c457] at h
    by_cases c458 : iand ((xs (v3).toNat).toInt) 63 = 40
    · rw [if_pos c458] at h
      refine GM_tableIn (pc := 33) 2146 (daL_law_0 21 rfl) (by omega) (by omega) (by rw [c458]; rfl) rfl ?_
      exact gL_law_2146 Ls xs hLs l h hK
    rw [if_neg c458] at h
    by_cases c459 : iand ((xs (v3).toNat).toInt) 63 = 41
    · rw [if_pos c459] at h
      refine GM_tableIn (pc := 33) 2169 (daL_law_0 21 rfl) (by omega) (by omega) (by rw [c459]; rfl) rfl ?_
      exact gL_law_2169 Ls xs hLs l h hK
    rw [if_neg c459] at h
    by_cases c460 : iand ((xs (v3).toNat).toInt) 63 = 42
    · rw [if_pos c460] at h
      refine GM_tableIn (pc := 33) 2192 (daL_law_0 21 rfl) (by omega) (by omega) (by rw [c460]; rfl) rfl ?_
      exact gL_law_2192 Ls xs hLs l h hK
    rw [if_neg c460] at h
    by_cases c461 : iand ((xs (v3).toNat).toInt) 63 = 43
    · rw [if_pos c461] at h
      refine GM_tableIn (pc := 33) 2215 (daL_law_0 21 rfl) (by omega) (by omega) (by rw [c461]; rfl) rfl ?_
      exact gL_law_2215 Ls xs hLs l h hK
    rw [if_neg c461] at h
    refine GM_tableOut (pc := 33) 2238 (daL_law_0 21 rfl) (by omega) rfl ?_
    refine GM_iinc (L' := [(3, (0, w32 (v3 + 9))), (0, (3, 34)), (1, (3, v1)), (2, (3, v2))]) (pc := 2238) 3 rfl (daL_law_26 56 rfl) (Nat.le_of_ble_eq_true rfl) rfl ?_
    refine GM_goto (pc := 2241) 18 (daL_law_26 57 rfl) rfl ?_
    refine GM_pick [1, 2, 3, 0] rfl ?_
    cases h
    rw [Nat.zero_add, Nat.zero_add]
    exact hK
set_option maxRecDepth 20000 in
theorem gL_law_0 (Ls : Nat) (xs : Nat → Int32) (hLs : Ls < 100000) (l : Launch) {F : FI} {μ : Mm} {t : (Int × Mm)} {c0 n0 k n : Nat} (h : fL_law Ls xs μ = some (t, c0, n0)) (hK : F.1 = [(0, t.1)] ∧ F.2.1 = t.2) : GM l (mL_law Ls xs) F (c0 + k) (n0 + n) 0 [(0, (3, 34))] [] μ := by
  unfold fL_law at h
  obtain ⟨hc462, h⟩ := chk_inv h
  obtain ⟨c463, n463, hp, e1, e2⟩ := pay_inv h
  subst e1 e2
  replace h := hp
  clear hp
  rw [Nat.add_assoc, Nat.add_assoc]
  obtain ⟨μ464, hμ464, h⟩ := lm_inv h
  refine GM_new (pc := 0) 10 100 (by decide) kc_L_7 (daL_law_0 0 rfl) hc462.1 hc462.2 ?_
  refine GM_mem hμ464 ?_
  refine GM_dup (pc := 3) (daL_law_0 1 rfl) (Nat.ne_of_beq_eq_false rfl) ?_
  obtain ⟨⟨μ465, c465, n465⟩, hf465, h⟩ := Option.bind_eq_some_iff.mp h
  dsimp only at h
  obtain ⟨c466, n466, hp, e1, e2⟩ := pay_inv h
  subst e1 e2
  replace h := hp
  clear hp
  rw [Nat.add_assoc, Nat.add_assoc]
  refine GM_callI (pc := 4) [] (tX10_init l hf465) cwX10_init rfl rfl kv_X10_init km_L_9 (by decide) ⟨Nat.le_of_ble_eq_true rfl, Nat.le_of_ble_eq_true rfl⟩ (Nat.le_of_ble_eq_true rfl) (Nat.le_of_ble_eq_true rfl) (daL_law_0 2 rfl) ?_
  refine GM_astore_n (L' := [(1, (3, 100)), (0, (3, 34))]) (pc := 7) (daL_law_0 3 rfl) rfl (Nat.le_of_ble_eq_true rfl) rfl ?_
  obtain ⟨hc467, h⟩ := chk_inv h
  obtain ⟨c468, n468, hp, e1, e2⟩ := pay_inv h
  subst e1 e2
  replace h := hp
  clear hp
  rw [Nat.add_assoc, Nat.add_assoc]
  obtain ⟨μ469, hμ469, h⟩ := lm_inv h
  refine GM_new (pc := 8) 11 20000 (by decide) kc_L_10 (daL_law_0 4 rfl) hc467.1 hc467.2 ?_
  refine GM_mem hμ469 ?_
  refine GM_dup (pc := 11) (daL_law_0 5 rfl) (Nat.ne_of_beq_eq_false rfl) ?_
  obtain ⟨⟨μ470, c470, n470⟩, hf470, h⟩ := Option.bind_eq_some_iff.mp h
  dsimp only at h
  obtain ⟨c471, n471, hp, e1, e2⟩ := pay_inv h
  subst e1 e2
  replace h := hp
  clear hp
  rw [Nat.add_assoc, Nat.add_assoc]
  refine GM_callI (pc := 12) [] (tX11_init l hf470) cwX11_init rfl rfl kv_X11_init km_L_12 (by decide) ⟨Nat.le_of_ble_eq_true rfl, Nat.le_of_ble_eq_true rfl⟩ (Nat.le_of_ble_eq_true rfl) (Nat.le_of_ble_eq_true rfl) (daL_law_0 6 rfl) ?_
  refine GM_astore_n (L' := [(2, (3, 20000)), (1, (3, 100)), (0, (3, 34))]) (pc := 15) (daL_law_0 7 rfl) rfl (Nat.le_of_ble_eq_true rfl) rfl ?_
  refine GM_iconst (pc := 16) 0 (daL_law_0 8 rfl) rfl (R32_b rfl) ?_
  refine GM_istore_n (L' := [(3, (0, 0)), (2, (3, 20000)), (1, (3, 100)), (0, (3, 34))]) (pc := 17) (daL_law_0 9 rfl) rfl (Nat.le_of_ble_eq_true rfl) rfl ?_
  refine GM_pick [3, 2, 1, 0] rfl ?_
  obtain ⟨x472, hqx472, h⟩ := Option.bind_eq_some_iff.mp h
  obtain ⟨x472, ccx472, nnx472⟩ := x472
  dsimp only at h
  obtain ⟨c474, n474, hp, e1, e2⟩ := pay_inv h
  subst e1 e2
  replace h := hp
  clear hp
  rw [Nat.add_assoc, Nat.add_assoc]
  refine lopA_ind (fun k n => zL_law_18 Ls xs l F 100 20000 k n) (qL_law_18 Ls xs hLs l F 100 20000) FU _ x472 _ _ hqx472 _ _ ?_
  obtain ⟨μ_473, hqq⟩ : ∃ z, z = x472 := ⟨x472, rfl⟩
  subst hqq
  show GM l (mL_law Ls xs) F (c474 + k) (n474 + n) 2244 [] [] μ_473
  refine GM_iconst (pc := 2244) 1 (daL_law_26 58 rfl) rfl (R32_b rfl) ?_
  cases h
  exact GM_zret (pc := 2245) (daL_law_26 59 rfl) rfl (Or.inr rfl) hK
