/-! ===== the law: rows of its own method ===== -/
def l_Law_law_0 : List (Nat × Instr × Nat) := [(0, .new 8, 3), (3, .dup, 1), (4, .invokespecial 37, 3), (7, .astore_n 1, 1), (8, .new 38, 3), (11, .dup, 1), (12, .invokespecial 40, 3), (15, .astore_n 2, 1), (16, .iconst 1, 1), (17, .newarray .long, 2), (19, .astore_n 3, 1), (20, .iconst 0, 1), (21, .istore 4, 2), (23, .iload 4, 2), (25, .aload_n 0, 1), (26, .arraylength, 1), (27, .iconst 4, 1), (28, .isub, 1), (29, .if_icmp .gt 827, 3), (32, .aload_n 0, 1), (33, .iload 4, 2), (35, .iaload, 1), (36, .bipush 31, 2), (38, .iand, 1)]
set_option maxRecDepth 20000 in
theorem m_Law_law_0 : l_Law_law_0.all (fun q => decide (decode code q.1 = .ok (q.2.1, q.2.2))) = true := by decide +kernel
def l_Law_law_1 : List (Nat × Instr × Nat) := [(39, .tableswitch 811 0 16 #[81, 137, 205, 273, 329, 413, 469, 525, 562, 599, 624, 673, 710, 723, 736, 761, 798], 81), (120, .aload_n 1, 1), (121, .aload_n 0, 1), (122, .iload 4, 2), (124, .iconst 1, 1), (125, .iadd, 1), (126, .iaload, 1), (127, .aload_n 3, 1), (128, .invokestatic 41, 3), (131, .istore 5, 2), (133, .aload_n 2, 1), (134, .aload_n 0, 1), (135, .iload 4, 2), (137, .iconst 1, 1), (138, .iadd, 1), (139, .iaload, 1), (140, .invokevirtual 46, 3), (143, .istore 6, 2), (145, .aload_n 2, 1), (146, .invokevirtual 47, 3), (149, .iload 5, 2), (151, .if_icmp .eq 5, 3), (154, .iconst 0, 1), (155, .ireturn, 1)]
set_option maxRecDepth 20000 in
theorem m_Law_law_1 : l_Law_law_1.all (fun q => decide (decode code q.1 = .ok (q.2.1, q.2.2))) = true := by decide +kernel
def l_Law_law_2 : List (Nat × Instr × Nat) := [(156, .iload 5, 2), (158, .ifCond .ne 15, 3), (161, .aload_n 3, 1), (162, .iconst 0, 1), (163, .laload, 1), (164, .iload 6, 2), (166, .i2l, 1), (167, .lcmp, 1), (168, .ifCond .eq 5, 3), (171, .iconst 0, 1), (172, .ireturn, 1), (173, .goto 677, 3), (176, .aload_n 1, 1), (177, .aload_n 0, 1), (178, .iload 4, 2), (180, .iconst 1, 1), (181, .iadd, 1), (182, .iaload, 1), (183, .aload_n 0, 1), (184, .iload 4, 2), (186, .iconst 2, 1), (187, .iadd, 1), (188, .iaload, 1), (189, .aload_n 3, 1)]
set_option maxRecDepth 20000 in
theorem m_Law_law_2 : l_Law_law_2.all (fun q => decide (decode code q.1 = .ok (q.2.1, q.2.2))) = true := by decide +kernel
def l_Law_law_3 : List (Nat × Instr × Nat) := [(190, .invokestatic 51, 3), (193, .istore 5, 2), (195, .aload_n 2, 1), (196, .aload_n 0, 1), (197, .iload 4, 2), (199, .iconst 1, 1), (200, .iadd, 1), (201, .iaload, 1), (202, .aload_n 0, 1), (203, .iload 4, 2), (205, .iconst 2, 1), (206, .iadd, 1), (207, .iaload, 1), (208, .invokevirtual 54, 3), (211, .istore 6, 2), (213, .aload_n 2, 1), (214, .invokevirtual 47, 3), (217, .iload 5, 2), (219, .if_icmp .eq 5, 3), (222, .iconst 0, 1), (223, .ireturn, 1), (224, .iload 5, 2), (226, .ifCond .ne 15, 3), (229, .aload_n 3, 1)]
set_option maxRecDepth 20000 in
theorem m_Law_law_3 : l_Law_law_3.all (fun q => decide (decode code q.1 = .ok (q.2.1, q.2.2))) = true := by decide +kernel
def l_Law_law_4 : List (Nat × Instr × Nat) := [(230, .iconst 0, 1), (231, .laload, 1), (232, .iload 6, 2), (234, .i2l, 1), (235, .lcmp, 1), (236, .ifCond .eq 5, 3), (239, .iconst 0, 1), (240, .ireturn, 1), (241, .goto 609, 3), (244, .aload_n 1, 1), (245, .aload_n 0, 1), (246, .iload 4, 2), (248, .iconst 1, 1), (249, .iadd, 1), (250, .iaload, 1), (251, .aload_n 0, 1), (252, .iload 4, 2), (254, .iconst 2, 1), (255, .iadd, 1), (256, .iaload, 1), (257, .aload_n 3, 1), (258, .invokestatic 55, 3), (261, .istore 5, 2), (263, .aload_n 2, 1)]
set_option maxRecDepth 20000 in
theorem m_Law_law_4 : l_Law_law_4.all (fun q => decide (decode code q.1 = .ok (q.2.1, q.2.2))) = true := by decide +kernel
def l_Law_law_5 : List (Nat × Instr × Nat) := [(264, .aload_n 0, 1), (265, .iload 4, 2), (267, .iconst 1, 1), (268, .iadd, 1), (269, .iaload, 1), (270, .aload_n 0, 1), (271, .iload 4, 2), (273, .iconst 2, 1), (274, .iadd, 1), (275, .iaload, 1), (276, .invokevirtual 57, 3), (279, .istore 6, 2), (281, .aload_n 2, 1), (282, .invokevirtual 47, 3), (285, .iload 5, 2), (287, .if_icmp .eq 5, 3), (290, .iconst 0, 1), (291, .ireturn, 1), (292, .iload 5, 2), (294, .ifCond .ne 15, 3), (297, .aload_n 3, 1), (298, .iconst 0, 1), (299, .laload, 1), (300, .iload 6, 2)]
set_option maxRecDepth 20000 in
theorem m_Law_law_5 : l_Law_law_5.all (fun q => decide (decode code q.1 = .ok (q.2.1, q.2.2))) = true := by decide +kernel
def l_Law_law_6 : List (Nat × Instr × Nat) := [(302, .i2l, 1), (303, .lcmp, 1), (304, .ifCond .eq 5, 3), (307, .iconst 0, 1), (308, .ireturn, 1), (309, .goto 541, 3), (312, .aload_n 1, 1), (313, .aload_n 0, 1), (314, .iload 4, 2), (316, .iconst 1, 1), (317, .iadd, 1), (318, .iaload, 1), (319, .aload_n 3, 1), (320, .invokestatic 58, 3), (323, .istore 5, 2), (325, .aload_n 2, 1), (326, .aload_n 0, 1), (327, .iload 4, 2), (329, .iconst 1, 1), (330, .iadd, 1), (331, .iaload, 1), (332, .invokevirtual 60, 3), (335, .istore 6, 2), (337, .aload_n 2, 1)]
set_option maxRecDepth 20000 in
theorem m_Law_law_6 : l_Law_law_6.all (fun q => decide (decode code q.1 = .ok (q.2.1, q.2.2))) = true := by decide +kernel
def l_Law_law_7 : List (Nat × Instr × Nat) := [(338, .invokevirtual 47, 3), (341, .iload 5, 2), (343, .if_icmp .eq 5, 3), (346, .iconst 0, 1), (347, .ireturn, 1), (348, .iload 5, 2), (350, .ifCond .ne 15, 3), (353, .aload_n 3, 1), (354, .iconst 0, 1), (355, .laload, 1), (356, .iload 6, 2), (358, .i2l, 1), (359, .lcmp, 1), (360, .ifCond .eq 5, 3), (363, .iconst 0, 1), (364, .ireturn, 1), (365, .goto 485, 3), (368, .aload_n 1, 1), (369, .aload_n 0, 1), (370, .iload 4, 2), (372, .iconst 1, 1), (373, .iadd, 1), (374, .iaload, 1), (375, .aload_n 0, 1)]
set_option maxRecDepth 20000 in
theorem m_Law_law_7 : l_Law_law_7.all (fun q => decide (decode code q.1 = .ok (q.2.1, q.2.2))) = true := by decide +kernel
def l_Law_law_8 : List (Nat × Instr × Nat) := [(376, .iload 4, 2), (378, .iconst 2, 1), (379, .iadd, 1), (380, .iaload, 1), (381, .ifCond .eq 7, 3), (384, .iconst 1, 1), (385, .goto 4, 3), (388, .iconst 0, 1), (389, .aload_n 3, 1), (390, .invokestatic 61, 3), (393, .istore 5, 2), (395, .aload_n 2, 1), (396, .aload_n 0, 1), (397, .iload 4, 2), (399, .iconst 1, 1), (400, .iadd, 1), (401, .iaload, 1), (402, .aload_n 0, 1), (403, .iload 4, 2), (405, .iconst 2, 1), (406, .iadd, 1), (407, .iaload, 1), (408, .ifCond .eq 7, 3), (411, .iconst 1, 1)]
set_option maxRecDepth 20000 in
theorem m_Law_law_8 : l_Law_law_8.all (fun q => decide (decode code q.1 = .ok (q.2.1, q.2.2))) = true := by decide +kernel
def l_Law_law_9 : List (Nat × Instr × Nat) := [(412, .goto 4, 3), (415, .iconst 0, 1), (416, .invokevirtual 64, 3), (419, .istore 6, 2), (421, .aload_n 2, 1), (422, .invokevirtual 47, 3), (425, .iload 5, 2), (427, .if_icmp .eq 5, 3), (430, .iconst 0, 1), (431, .ireturn, 1), (432, .iload 5, 2), (434, .ifCond .ne 15, 3), (437, .aload_n 3, 1), (438, .iconst 0, 1), (439, .laload, 1), (440, .iload 6, 2), (442, .i2l, 1), (443, .lcmp, 1), (444, .ifCond .eq 5, 3), (447, .iconst 0, 1), (448, .ireturn, 1), (449, .goto 401, 3), (452, .aload_n 1, 1), (453, .aload_n 0, 1)]
set_option maxRecDepth 20000 in
theorem m_Law_law_9 : l_Law_law_9.all (fun q => decide (decode code q.1 = .ok (q.2.1, q.2.2))) = true := by decide +kernel
def l_Law_law_10 : List (Nat × Instr × Nat) := [(454, .iload 4, 2), (456, .iconst 1, 1), (457, .iadd, 1), (458, .iaload, 1), (459, .aload_n 3, 1), (460, .invokestatic 65, 3), (463, .istore 5, 2), (465, .aload_n 2, 1), (466, .aload_n 0, 1), (467, .iload 4, 2), (469, .iconst 1, 1), (470, .iadd, 1), (471, .iaload, 1), (472, .invokevirtual 67, 3), (475, .istore 6, 2), (477, .aload_n 2, 1), (478, .invokevirtual 47, 3), (481, .iload 5, 2), (483, .if_icmp .eq 5, 3), (486, .iconst 0, 1), (487, .ireturn, 1), (488, .iload 5, 2), (490, .ifCond .ne 15, 3), (493, .aload_n 3, 1)]
set_option maxRecDepth 20000 in
theorem m_Law_law_10 : l_Law_law_10.all (fun q => decide (decode code q.1 = .ok (q.2.1, q.2.2))) = true := by decide +kernel
def l_Law_law_11 : List (Nat × Instr × Nat) := [(494, .iconst 0, 1), (495, .laload, 1), (496, .iload 6, 2), (498, .i2l, 1), (499, .lcmp, 1), (500, .ifCond .eq 5, 3), (503, .iconst 0, 1), (504, .ireturn, 1), (505, .goto 345, 3), (508, .aload_n 1, 1), (509, .aload_n 0, 1), (510, .iload 4, 2), (512, .iconst 1, 1), (513, .iadd, 1), (514, .iaload, 1), (515, .aload_n 3, 1), (516, .invokestatic 68, 3), (519, .istore 5, 2), (521, .aload_n 2, 1), (522, .aload_n 0, 1), (523, .iload 4, 2), (525, .iconst 1, 1), (526, .iadd, 1), (527, .iaload, 1)]
set_option maxRecDepth 20000 in
theorem m_Law_law_11 : l_Law_law_11.all (fun q => decide (decode code q.1 = .ok (q.2.1, q.2.2))) = true := by decide +kernel
def l_Law_law_12 : List (Nat × Instr × Nat) := [(528, .invokevirtual 70, 3), (531, .istore 6, 2), (533, .aload_n 2, 1), (534, .invokevirtual 47, 3), (537, .iload 5, 2), (539, .if_icmp .eq 5, 3), (542, .iconst 0, 1), (543, .ireturn, 1), (544, .iload 5, 2), (546, .ifCond .ne 15, 3), (549, .aload_n 3, 1), (550, .iconst 0, 1), (551, .laload, 1), (552, .iload 6, 2), (554, .i2l, 1), (555, .lcmp, 1), (556, .ifCond .eq 5, 3), (559, .iconst 0, 1), (560, .ireturn, 1), (561, .goto 289, 3), (564, .aload_n 1, 1), (565, .aload_n 0, 1), (566, .iload 4, 2), (568, .iconst 1, 1)]
set_option maxRecDepth 20000 in
theorem m_Law_law_12 : l_Law_law_12.all (fun q => decide (decode code q.1 = .ok (q.2.1, q.2.2))) = true := by decide +kernel
def l_Law_law_13 : List (Nat × Instr × Nat) := [(569, .iadd, 1), (570, .iaload, 1), (571, .aload_n 0, 1), (572, .iload 4, 2), (574, .iconst 2, 1), (575, .iadd, 1), (576, .iaload, 1), (577, .invokevirtual 71, 3), (580, .aload_n 2, 1), (581, .aload_n 0, 1), (582, .iload 4, 2), (584, .iconst 1, 1), (585, .iadd, 1), (586, .iaload, 1), (587, .aload_n 0, 1), (588, .iload 4, 2), (590, .iconst 2, 1), (591, .iadd, 1), (592, .iaload, 1), (593, .invokevirtual 74, 3), (596, .if_icmp .eq 254, 3), (599, .iconst 0, 1), (600, .ireturn, 1), (601, .aload_n 1, 1)]
set_option maxRecDepth 20000 in
theorem m_Law_law_13 : l_Law_law_13.all (fun q => decide (decode code q.1 = .ok (q.2.1, q.2.2))) = true := by decide +kernel
def l_Law_law_14 : List (Nat × Instr × Nat) := [(602, .aload_n 0, 1), (603, .iload 4, 2), (605, .iconst 1, 1), (606, .iadd, 1), (607, .iaload, 1), (608, .aload_n 0, 1), (609, .iload 4, 2), (611, .iconst 2, 1), (612, .iadd, 1), (613, .iaload, 1), (614, .invokevirtual 75, 3), (617, .aload_n 2, 1), (618, .aload_n 0, 1), (619, .iload 4, 2), (621, .iconst 1, 1), (622, .iadd, 1), (623, .iaload, 1), (624, .aload_n 0, 1), (625, .iload 4, 2), (627, .iconst 2, 1), (628, .iadd, 1), (629, .iaload, 1), (630, .invokevirtual 79, 3), (633, .if_icmp .eq 217, 3)]
set_option maxRecDepth 20000 in
theorem m_Law_law_14 : l_Law_law_14.all (fun q => decide (decode code q.1 = .ok (q.2.1, q.2.2))) = true := by decide +kernel
def l_Law_law_15 : List (Nat × Instr × Nat) := [(636, .iconst 0, 1), (637, .ireturn, 1), (638, .aload_n 1, 1), (639, .aload_n 0, 1), (640, .iload 4, 2), (642, .iconst 1, 1), (643, .iadd, 1), (644, .iaload, 1), (645, .invokevirtual 80, 3), (648, .aload_n 2, 1), (649, .aload_n 0, 1), (650, .iload 4, 2), (652, .iconst 1, 1), (653, .iadd, 1), (654, .iaload, 1), (655, .invokevirtual 84, 3), (658, .if_icmp .eq 192, 3), (661, .iconst 0, 1), (662, .ireturn, 1), (663, .aload_n 1, 1), (664, .aload_n 0, 1), (665, .iload 4, 2), (667, .iconst 1, 1), (668, .iadd, 1)]
set_option maxRecDepth 20000 in
theorem m_Law_law_15 : l_Law_law_15.all (fun q => decide (decode code q.1 = .ok (q.2.1, q.2.2))) = true := by decide +kernel
def l_Law_law_16 : List (Nat × Instr × Nat) := [(669, .iaload, 1), (670, .aload_n 0, 1), (671, .iload 4, 2), (673, .iconst 2, 1), (674, .iadd, 1), (675, .iaload, 1), (676, .aload_n 0, 1), (677, .iload 4, 2), (679, .iconst 3, 1), (680, .iadd, 1), (681, .iaload, 1), (682, .invokevirtual 85, 3), (685, .aload_n 2, 1), (686, .aload_n 0, 1), (687, .iload 4, 2), (689, .iconst 1, 1), (690, .iadd, 1), (691, .iaload, 1), (692, .aload_n 0, 1), (693, .iload 4, 2), (695, .iconst 2, 1), (696, .iadd, 1), (697, .iaload, 1), (698, .aload_n 0, 1)]
set_option maxRecDepth 20000 in
theorem m_Law_law_16 : l_Law_law_16.all (fun q => decide (decode code q.1 = .ok (q.2.1, q.2.2))) = true := by decide +kernel
def l_Law_law_17 : List (Nat × Instr × Nat) := [(699, .iload 4, 2), (701, .iconst 3, 1), (702, .iadd, 1), (703, .iaload, 1), (704, .invokevirtual 89, 3), (707, .if_icmp .eq 143, 3), (710, .iconst 0, 1), (711, .ireturn, 1), (712, .aload_n 1, 1), (713, .aload_n 0, 1), (714, .iload 4, 2), (716, .iconst 1, 1), (717, .iadd, 1), (718, .iaload, 1), (719, .aload_n 0, 1), (720, .iload 4, 2), (722, .iconst 2, 1), (723, .iadd, 1), (724, .iaload, 1), (725, .invokevirtual 90, 3), (728, .aload_n 2, 1), (729, .aload_n 0, 1), (730, .iload 4, 2), (732, .iconst 1, 1)]
set_option maxRecDepth 20000 in
theorem m_Law_law_17 : l_Law_law_17.all (fun q => decide (decode code q.1 = .ok (q.2.1, q.2.2))) = true := by decide +kernel
def l_Law_law_18 : List (Nat × Instr × Nat) := [(733, .iadd, 1), (734, .iaload, 1), (735, .aload_n 0, 1), (736, .iload 4, 2), (738, .iconst 2, 1), (739, .iadd, 1), (740, .iaload, 1), (741, .invokevirtual 93, 3), (744, .if_icmp .eq 106, 3), (747, .iconst 0, 1), (748, .ireturn, 1), (749, .aload_n 1, 1), (750, .invokevirtual 94, 3), (753, .aload_n 2, 1), (754, .invokevirtual 97, 3), (757, .if_icmp .eq 93, 3), (760, .iconst 0, 1), (761, .ireturn, 1), (762, .aload_n 1, 1), (763, .invokevirtual 98, 3), (766, .aload_n 2, 1), (767, .invokevirtual 101, 3), (770, .if_icmp .eq 80, 3), (773, .iconst 0, 1)]
set_option maxRecDepth 20000 in
theorem m_Law_law_18 : l_Law_law_18.all (fun q => decide (decode code q.1 = .ok (q.2.1, q.2.2))) = true := by decide +kernel
def l_Law_law_19 : List (Nat × Instr × Nat) := [(774, .ireturn, 1), (775, .aload_n 1, 1), (776, .aload_n 0, 1), (777, .iload 4, 2), (779, .iconst 1, 1), (780, .iadd, 1), (781, .iaload, 1), (782, .invokevirtual 102, 3), (785, .aload_n 2, 1), (786, .aload_n 0, 1), (787, .iload 4, 2), (789, .iconst 1, 1), (790, .iadd, 1), (791, .iaload, 1), (792, .invokevirtual 105, 3), (795, .if_icmp .eq 55, 3), (798, .iconst 0, 1), (799, .ireturn, 1), (800, .aload_n 1, 1), (801, .aload_n 0, 1), (802, .iload 4, 2), (804, .iconst 1, 1), (805, .iadd, 1), (806, .iaload, 1)]
set_option maxRecDepth 20000 in
theorem m_Law_law_19 : l_Law_law_19.all (fun q => decide (decode code q.1 = .ok (q.2.1, q.2.2))) = true := by decide +kernel
def l_Law_law_20 : List (Nat × Instr × Nat) := [(807, .aload_n 0, 1), (808, .iload 4, 2), (810, .iconst 2, 1), (811, .iadd, 1), (812, .iaload, 1), (813, .invokevirtual 106, 3), (816, .aload_n 2, 1), (817, .aload_n 0, 1), (818, .iload 4, 2), (820, .iconst 1, 1), (821, .iadd, 1), (822, .iaload, 1), (823, .aload_n 0, 1), (824, .iload 4, 2), (826, .iconst 2, 1), (827, .iadd, 1), (828, .iaload, 1), (829, .invokevirtual 109, 3), (832, .if_icmp .eq 18, 3), (835, .iconst 0, 1), (836, .ireturn, 1), (837, .aload_n 1, 1), (838, .invokevirtual 110, 3), (841, .aload_n 2, 1)]
set_option maxRecDepth 20000 in
theorem m_Law_law_20 : l_Law_law_20.all (fun q => decide (decode code q.1 = .ok (q.2.1, q.2.2))) = true := by decide +kernel
def l_Law_law_21 : List (Nat × Instr × Nat) := [(842, .invokevirtual 113, 3), (845, .if_icmp .eq 5, 3), (848, .iconst 0, 1), (849, .ireturn, 1), (850, .iinc 4 4, 3), (853, .goto (-830), 3), (856, .iconst 1, 1), (857, .ireturn, 1)]
set_option maxRecDepth 20000 in
theorem m_Law_law_21 : l_Law_law_21.all (fun q => decide (decode code q.1 = .ok (q.2.1, q.2.2))) = true := by decide +kernel
theorem q_callW {p : Program} {l : Launch} {e : Env} {R : Room} {s : State} {m : MethodId} {args : Array Value} {below : List Frame} {meth : Method} {c : Code} {T : State} {locs : List Loc} {n k : Nat} {g : q_G} {y : MethodName} {cy : ByteArray} {ny : Nat} {ry : Option FieldType} {hs : List (Nat × Nat × Nat × Nat)} {dy mc ms : Nat} {av : List Value} {h : q_H} {post : q_R → q_H → Prop}
    (X : Stand p l e R s m args below meth c T locs n k) (hM : MGW g y cy ny ry hs dy mc ms av h post) (htr : ∀ e, l.admits e → e.platform.stackTraces = false)
    {f : JFrame} (hg : f.method = m) (hsize : f.locals.size = c.maxLocals) {ig : Instr} (hdg : decode c.code f.pc = .ok (ig, 3)) (hst : 2 * f.monitorRoom + (f.stack.map fun v => v.category).sum ≤ 8) {mk : MethodId} (hn : T.methodNamed? y = some mk)
    (hfr : dy + 1 ≤ R.frames) (hlo : 8 + (ny + 11) + 64 * dy ≤ R.locals) (hc1 : n + mc ≤ R.cells) (hs1 : k + ms ≤ R.slots) (hts : ∀ w ∈ q_T, w.before args s = true) (hcw : Cond.codeWith y cy ny ry hs ∈ q_T) (hini : (Cond.initialized y.cls).before args s = true) (hK : q_K g s) (hH : q_HR g h T.heap) :
    q_Back p l e R s m args below meth c T locs (n + mc) (k + ms) g (q_A h T.heap.size) post (doInvoke e (T.setTop f) [] mk av.toArray).1 f := by
  have hat : At T f.method c below := by rw [hg]; exact X.here
  have hwd : ∀ w ∈ q_T, ∀ a' : Array Value, w.before a' T = true := fun w hw a' => word_at X.warmed (q_T_good hw) (hts w hw)
  obtain ⟨m0, methY, cY, h00, hmY, hcY, -, hlY, -⟩ := Cond.codeWith_spec (hwd _ hcw av.toArray)
  cases hn.symm.trans h00
  obtain ⟨kY, hkY, -⟩ := className_of_methodNamed hn
  have hinitY : kY.init = .initialized := Cond.initialized_spec (findClass_of_methodNamed hn) hkY (word_at (a' := av.toArray) X.warmed (Or.inl (by first | rfl | simp [Cond.onTables, Cond.keeps, Cond.steady])) hini)
  have hpre : (headSpec (Cond.codeWith y cy ny ry hs :: q_T) (q_rm dy mc ms)).pre.before av.toArray T = true := by
    refine atoms_intro fun w hw => ?_
    rcases List.mem_cons.mp hw with rfl | hw
    · exact hwd _ hcw _
    · exact hwd _ hw _
  have happ : (headSpec (Cond.codeWith y cy ny ry hs :: q_T) (q_rm dy mc ms)).appliesLoose y e.platform (T.calling f mk av.toArray) = true :=
    Spec.appliesLoose_calling (g := f) hat hdg hn hkY hinitY
      (X.room_calling (g := f) (R' := q_rm dy mc ms) hsize hmY hcY hfr (by rw [hlY]; show _ + (64 * dy) ≤ _; omega) hc1 hs1) hpre
  obtain ⟨mid, hmid⟩ := hat.above
  have hfr2 : (T.setTop f).frames = (.java f :: mid) ++ below := by rw [State.frames_setTop' f hat.top, hmid]; rfl
  have hPc : q_Pc g av h T.heap.size av.toArray (T.calling f mk av.toArray) := ⟨rfl, rfl, hH, q_K.moved (u := s) X.warmed hK⟩
  obtain ⟨o, s₂, hsteps, -, hend, hq⟩ := Steps.callFree (hM l htr T.heap.size) p X.admits X.cas X.clock (acts := []) hfr2 happ hPc trivial
  rw [State.frames_setTop' f hat.top, X.tail] at hend
  have hq' : q_Qc g h T.heap.size mc ms (q_A h T.heap.size) post (T.calling f mk av.toArray) o s₂ := hq
  obtain ⟨⟨r, h', hres, hpost, hHR, hdom⟩, hF, hW₂, L, hsame, hL⟩ := hq'
  cases r with
  | inl v =>
    cases hres
    obtain ⟨T', X', -, -, ht⟩ := X.outOf hg hdg hend hW₂ hsame
    have hheap : s₂.heap = T'.heap := by rw [ht]; rfl
    refine ⟨.inl v, h', T', L, X', hL, hpost, by rw [← hheap]; exact hHR, hdom, by rw [← hheap]; exact hF.1, fun q h1 h2 => by rw [← hheap]; exact hF.2 q h1 h2, fun target hs => ?_⟩
    refine hsteps.trans ?_
    rw [ht]
    exact hs
  | inr kx =>
    obtain ⟨x, cell, rfl, hx1, hx2, hx3⟩ := hres
    obtain ⟨T', X', -, -, ht⟩ := X.outOfThrown hg hend hW₂ hsame
    have hheap : s₂.heap = T'.heap := by rw [ht]; rfl
    have hvm : s₂.vm = T'.vm := by rw [ht]; rfl
    refine ⟨.inr kx, h', T', L, X', hL, hpost, by rw [← hheap]; exact hHR, hdom, by rw [← hheap]; exact hF.1, fun q h1 h2 => by rw [← hheap]; exact hF.2 q h1 h2, x, cell, by rw [← hheap]; exact hx1, by rw [← hvm]; exact hx2, hx3, fun target hs => ?_⟩
    refine hsteps.trans ?_
    rw [ht]
    exact hs

def q_CSW (own : String) (index : Nat) (y : MethodName) (cy : ByteArray) (ny : Nat) (ry : Option FieldType) (hs : List (Nat × Nat × Nat × Nat)) (na : Nat) : Prop := Cond.methodLink own index y ∈ q_T ∧ Cond.static y ∈ q_T ∧ Cond.initialized y.cls ∈ q_T ∧ Cond.codeWith y cy ny ry hs ∈ q_T ∧ (y.cls ≠ "java/lang/invoke/MethodHandle" ∧ y.cls ≠ "java/lang/invoke/VarHandle") ∧ (parseMethodDescriptor y.desc).map (fun d => d.parameters.length) = some na ∧ ny ≤ 45
section GWL
variable {g : q_G} {Z : q_Z} {A : Nat → Prop} {post postc : q_R → q_H → Prop} {rc rs rc' rs' : Nat} {h : q_H} {pc pc' : Nat} {ls : List (Option Value)} {st rest : List Value} {own name : String} {cc : ByteArray} {nL d : Nat} {ret : Option FieldType}
theorem g_callSW (ok : q_ok g Z A own name cc nL ret d) {index : Nat} {y : MethodName} {cy : ByteArray} {ny : Nat} {ry : Option FieldType} {hs : List (Nat × Nat × Nat × Nat)} {dy mc ms na : Nat} {av : List Value} (hd : decode cc pc = .ok (.invokestatic index, 3)) (hp : pc + 3 = pc') (hcs : q_CSW own index y cy ny ry hs na) (hM : MGW g y cy ny ry hs dy mc ms av h postc) (hav : av.length = na) (hst : st = av.reverse ++ rest) (hrest : (rest.map fun v => v.category).sum ≤ 8) (hdy : dy + 1 ≤ d) (hlen : ls.length = nL) (hc1 : rc' + mc ≤ rc) (hs1 : rs' + ms ≤ rs)
    (kr : ∀ v h', postc (.inl v) h' → GW g Z A post rc' rs' h' pc' ls (v.toList ++ rest)) (kx : ∀ i h', postc (.inr i) h' → post (.inr i) h') : GW g Z A post rc rs h pc ls st := by
  have ok' := ok
  obtain ⟨hx, hb, hml, hown, hts, hK, hA, hlk, hrt, hnm, hfr, hlo, hcode, htr, hbs, hAb, hnh, hns⟩ := ok
  obtain ⟨hl, hs, hi, hw, hy, hpl, hny⟩ := hcs
  subst hp
  subst hst
  intro H locs la n k hH hD hS hL hn hk T hT X
  subst hT
  obtain ⟨mk, methM, cM, hnamed, hmethM, -, -, -, -, -, -, hsigM⟩ := Cond.codeWith_spec (hts _ hw)
  have hstatic : methM.isStatic = true := Cond.static_spec hnamed hmethM (hts _ hs)
  obtain ⟨kP, hkP, -⟩ := className_of_methodNamed hnamed
  have hinitP : kP.init = .initialized := Cond.initialized_spec (findClass_of_methodNamed hnamed) hkP (hts _ hi)
  obtain ⟨vm₁, X₁, hstep₁⟩ := X.invokestatic hx hown (hts _ hl) hnamed hmethM hstatic hkP hinitP hy (g := F0 (zm Z) pc la (av.reverse ++ rest)) rfl (argsL := av) (rest := rest) (hav.trans (q_plen hpl _ hsigM)) rfl (by rw [hb]; exact hd)
  have B := q_callW X₁ hM htr (f := F0 (zm Z) pc la rest) rfl (by show la.size = _; rw [hL.1, hlen, hml]) (by rw [hb]; exact hd) (lv_room hrest) (X₁.named hnamed) (by omega) (by omega) (by omega) (by omega) hts hw (hts _ hi) hK hH
  obtain ⟨t, a1, b1⟩ := q_use (rc' := rc') (rs' := rs') ok' B hD hS hL (by omega) (by omega) kr kx
  exact ⟨t, hstep₁ _ fun acts => by rw [doInvoke_state]; exact a1, b1⟩
theorem g_sld (ok : q_ok g Z A own name cc nL ret d) {b L j : Nat} {xs : Nat → Int32} {i : Int32} (hX : va_X b L xs (zs Z) (zs Z).heap) (hbl : b < (zs Z).heap.size) (hbA : ¬ A b) (hd : decode cc pc = .ok (.iaload, 1)) (hp : pc + 1 = pc') (hi : i = nI j) (hj : j < L) (hL2 : L < 2 ^ 31) (kk : GW g Z A post rc rs h pc' ls (.int (xs j) :: st)) : GW g Z A post rc rs h pc ls (.int i :: .ref b :: st) := by
  obtain ⟨hx, hb, -⟩ := ok
  subst hp
  subst hi
  intro H locs la n k hH hD hS hL hn hk
  refine va_sld hx hb hX hbl hbA hS (vp_in_nI hj hL2) hd ?_
  rw [nI_clamp (by omega)]
  exact kk H locs la n k hH hD hS hL hn hk
theorem g_slen (ok : q_ok g Z A own name cc nL ret d) {b L : Nat} {xs : Nat → Int32} (hX : va_X b L xs (zs Z) (zs Z).heap) (hbl : b < (zs Z).heap.size) (hbA : ¬ A b) (hd : decode cc pc = .ok (.arraylength, 1)) (hp : pc + 1 = pc') (kk : GW g Z A post rc rs h pc' ls (.int (nI L) :: st)) : GW g Z A post rc rs h pc ls (.ref b :: st) := by
  obtain ⟨hx, hb, -⟩ := ok
  subst hp
  intro H locs la n k hH hD hS hL hn hk
  exact va_slen hx hb hX hbl hbA hS hd (kk H locs la n k hH hD hS hL hn hk)
theorem g_lald (ok : q_ok g Z A own name cc nL ret d) {a N j : Nat} {f : Nat → Int64} (hd : decode cc pc = .ok (.laload, 1)) (hp : pc + 1 = pc') (ha : h a = some (.inr (3, N, .inr (.inl f)))) (hj : j < N) (hN : N < 2 ^ 31) (kk : GW g Z A post rc rs h pc' ls (.long (f j) :: st)) : GW g Z A post rc rs h pc ls (.int (nI j) :: .ref a :: st) := by
  obtain ⟨hx, hb, hml, hown, hts, hK, -⟩ := ok
  subst hp
  intro H locs la n k hH hD hS hL hn hk
  refine va_lald hx hb hK.1 (hH.one ha) 0 3 rfl rfl (vp_in_nI hj hN) hd ?_
  rw [nI_clamp (by omega)]
  exact kk H locs la n k hH hD hS hL hn hk
theorem g_lcmp (ok : q_ok g Z A own name cc nL ret d) {x y : Int64} {v : Int32} (hd : decode cc pc = .ok (.lcmp, 1)) (hp : pc + 1 = pc') (hv : (if x > y then (1 : Int32) else if x == y then 0 else -1) = v) (kk : GW g Z A post rc rs h pc' ls (.int v :: st)) : GW g Z A post rc rs h pc ls (.long y :: .long x :: st) := by
  obtain ⟨hx, hb, -⟩ := ok
  subst hp
  intro H locs la n k hH hD hS hL hn hk T hT X
  obtain ⟨t, a, b⟩ := kk H locs la n k hH hD hS hL hn hk T hT X
  refine ⟨t, ?_, b⟩
  subst hv
  by_cases c1 : x > y
  · rw [if_pos c1] at a
    jvm_step X.here [X.here.top, hx, hb, hd, c1]
    simpa [c1] using a
  · by_cases c2 : x = y
    · subst c2
      simp only [if_neg c1, beq_self_eq_true, if_true] at a
      jvm_step X.here [X.here.top, hx, hb, hd, c1]
      simpa [c1] using a
    · have c3 : (x == y) = false := by simpa using c2
      simp only [if_neg c1, c3, Bool.false_eq_true, if_false] at a
      jvm_step X.here [X.here.top, hx, hb, hd, c1, c3]
      simpa [c1, c2, c3] using a
theorem g_newL (ok : q_ok g Z A own name cc nL ret d) {N : Nat} (hd : decode cc pc = .ok (.newarray .long, 2)) (hp : pc + 2 = pc') (hN : N * 8 ≤ 536870912) {rc' rs' : Nat} (hc1 : rc' + 1 ≤ rc) (hs1 : rs' + N ≤ rs) (kk : ∀ q : Nat, h q = none → q_bs g ≤ q → GW g Z A post rc' rs' (q_up h q (.inr (3, N, .inr (.inl (fun _ => 0))))) pc' ls (.ref q :: st)) : GW g Z A post rc rs h pc ls (.int (nI N) :: st) := by
  obtain ⟨hx, hb, hml, hown, hts, hK, hA, -⟩ := ok
  subst hp
  intro H locs la n k hH hD hS hL hn hk
  have hw : Cond.arrayClass (newarray.typeOf .long) ∈ q_T := q_T_in 1273 (by decide +kernel) rfl
  refine va_newaK hx hb (hts _ hw) rfl hd rfl (nI_pos (by omega)) (nI_clamp (by omega)) hN (by omega) (by omega) rfl fun H1 cA e1 z1 o1 hAr hNm => ?_
  refine kk H.size hH.fresh hH.1 H1 locs la (n + 1) (k + N) (hH.push o1 z1 ?_) (q_dom_up hD (hA _ hS.1)) (q_S.push hS o1 z1) hL (by omega) (by omega)
  have hcA : cA = q_dA g 3 := by
    have h1 := (hK.1.2 3 _ rfl).2
    exact Option.some.inj (hNm.symm.trans h1)
  subst hcA
  show H1[H.size]? = some (vp_cell _ _)
  rw [vp_cell_l, e1]
  rfl
end GWL
theorem c_Law_41 : q_CSW "RatchetGroupLaw" 41 y_Law_offer b_Law_offer 4 (some .int) [(0, 9, 12, 13), (0, 9, 15, 15)] 3 := ⟨q_T_in 486 (by decide +kernel) rfl, q_T_in 487 (by decide +kernel) rfl, q_T_in 0 (by decide +kernel) rfl, w_Law_offer, ⟨by decide +kernel, by decide +kernel⟩, by decide +kernel, by decide⟩
theorem c_Law_51 : q_CSW "RatchetGroupLaw" 51 y_Law_add b_Law_add 5 (some .int) [(0, 10, 13, 13), (0, 10, 17, 15)] 4 := ⟨q_T_in 612 (by decide +kernel) rfl, q_T_in 613 (by decide +kernel) rfl, q_T_in 0 (by decide +kernel) rfl, w_Law_add, ⟨by decide +kernel, by decide +kernel⟩, by decide +kernel, by decide⟩
theorem c_Law_55 : q_CSW "RatchetGroupLaw" 55 y_Law_remove b_Law_remove 5 (some .int) [(0, 10, 13, 13), (0, 10, 17, 15)] 4 := ⟨q_T_in 637 (by decide +kernel) rfl, q_T_in 638 (by decide +kernel) rfl, q_T_in 0 (by decide +kernel) rfl, w_Law_remove, ⟨by decide +kernel, by decide +kernel⟩, by decide +kernel, by decide⟩
theorem c_Law_58 : q_CSW "RatchetGroupLaw" 58 y_Law_update b_Law_update 4 (some .int) [(0, 9, 12, 13), (0, 9, 15, 15)] 3 := ⟨q_T_in 656 (by decide +kernel) rfl, q_T_in 657 (by decide +kernel) rfl, q_T_in 0 (by decide +kernel) rfl, w_Law_update, ⟨by decide +kernel, by decide +kernel⟩, by decide +kernel, by decide⟩
theorem c_Law_61 : q_CSW "RatchetGroupLaw" 61 y_Law_commit b_Law_commit 5 (some .int) [(0, 10, 13, 13), (0, 10, 17, 15)] 4 := ⟨q_T_in 683 (by decide +kernel) rfl, q_T_in 684 (by decide +kernel) rfl, q_T_in 0 (by decide +kernel) rfl, w_Law_commit, ⟨by decide +kernel, by decide +kernel⟩, by decide +kernel, by decide⟩
theorem c_Law_65 : q_CSW "RatchetGroupLaw" 65 y_Law_come b_Law_come 4 (some .int) [(0, 9, 12, 13), (0, 9, 15, 15)] 3 := ⟨q_T_in 844 (by decide +kernel) rfl, q_T_in 845 (by decide +kernel) rfl, q_T_in 0 (by decide +kernel) rfl, w_Law_come, ⟨by decide +kernel, by decide +kernel⟩, by decide +kernel, by decide⟩
theorem c_Law_68 : q_CSW "RatchetGroupLaw" 68 y_Law_compromise b_Law_compromise 4 (some .int) [(0, 9, 12, 13)] 3 := ⟨q_T_in 872 (by decide +kernel) rfl, q_T_in 873 (by decide +kernel) rfl, q_T_in 0 (by decide +kernel) rfl, w_Law_compromise, ⟨by decide +kernel, by decide +kernel⟩, by decide +kernel, by decide⟩
