/-! the law, in pieces -/
set_option maxRecDepth 20000 in
def tLw0 : List (Nat × Instr × Nat) := [(0, .new 8, 3), (3, .dup, 1), (4, .invokespecial 19, 3), (7, .astore_n 1, 1), (8, .new 20, 3), (11, .dup, 1), (12, .invokespecial 22, 3), (15, .astore_n 2, 1), (16, .iconst 1, 1), (17, .newarray .long, 2), (19, .astore_n 3, 1), (20, .iconst 0, 1), (21, .istore 4, 2)]
set_option maxRecDepth 20000 in
theorem dLw0 : tLw0.all (fun q => decide (decode code q.1 = .ok q.2)) = true := by decide +kernel
set_option maxRecDepth 20000 in
def tLw1 : List (Nat × Instr × Nat) := [(23, .iload 4, 2), (25, .aload_n 0, 1), (26, .arraylength, 1), (27, .bipush 6, 2), (29, .isub, 1), (30, .if_icmp .gt 1397, 3), (33, .aload_n 0, 1), (34, .iload 4, 2), (36, .iaload, 1), (37, .bipush 63, 2), (39, .iand, 1), (40, .tableswitch 1381 0 34 #[156, 229, 254, 267, 292, 317, 342, 410, 466, 491, 504, 529, 554, 591, 640, 701, 738, 799, 848, 885, 898, 923, 948, 997, 1022, 1071, 1144, 1169, 1194, 1207, 1256, 1281, 1306, 1343, 1368], 156)]
set_option maxRecDepth 20000 in
theorem dLw1 : tLw1.all (fun q => decide (decode code q.1 = .ok q.2)) = true := by decide +kernel
set_option maxRecDepth 20000 in
def tLw2 : List (Nat × Instr × Nat) := [(196, .aload_n 1, 1), (197, .aload_n 0, 1), (198, .iload 4, 2), (200, .iconst 1, 1), (201, .iadd, 1), (202, .iaload, 1), (203, .aload_n 0, 1), (204, .iload 4, 2), (206, .iconst 2, 1), (207, .iadd, 1), (208, .iaload, 1), (209, .aload_n 0, 1), (210, .iload 4, 2), (212, .iconst 3, 1), (213, .iadd, 1), (214, .iaload, 1), (215, .aload_n 0, 1), (216, .iload 4, 2), (218, .iconst 4, 1), (219, .iadd, 1), (220, .iaload, 1), (221, .aload_n 0, 1), (222, .iload 4, 2), (224, .iconst 5, 1), (225, .iadd, 1), (226, .iaload, 1), (227, .invokevirtual 23, 3), (230, .aload_n 2, 1), (231, .aload_n 0, 1), (232, .iload 4, 2), (234, .iconst 1, 1), (235, .iadd, 1), (236, .iaload, 1), (237, .aload_n 0, 1), (238, .iload 4, 2), (240, .iconst 2, 1), (241, .iadd, 1), (242, .iaload, 1), (243, .aload_n 0, 1), (244, .iload 4, 2), (246, .iconst 3, 1), (247, .iadd, 1), (248, .iaload, 1), (249, .aload_n 0, 1), (250, .iload 4, 2), (252, .iconst 4, 1), (253, .iadd, 1), (254, .iaload, 1), (255, .aload_n 0, 1), (256, .iload 4, 2), (258, .iconst 5, 1), (259, .iadd, 1), (260, .iaload, 1), (261, .invokevirtual 27, 3), (264, .if_icmp .eq 1157, 3), (267, .iconst 0, 1), (268, .ireturn, 1)]
set_option maxRecDepth 20000 in
theorem dLw2 : tLw2.all (fun q => decide (decode code q.1 = .ok q.2)) = true := by decide +kernel
set_option maxRecDepth 20000 in
def tLw3 : List (Nat × Instr × Nat) := [(269, .aload_n 1, 1), (270, .aload_n 0, 1), (271, .iload 4, 2), (273, .iconst 1, 1), (274, .iadd, 1), (275, .iaload, 1), (276, .invokevirtual 28, 3), (279, .aload_n 2, 1), (280, .aload_n 0, 1), (281, .iload 4, 2), (283, .iconst 1, 1), (284, .iadd, 1), (285, .iaload, 1), (286, .invokevirtual 31, 3), (289, .if_icmp .eq 1132, 3), (292, .iconst 0, 1), (293, .ireturn, 1)]
set_option maxRecDepth 20000 in
theorem dLw3 : tLw3.all (fun q => decide (decode code q.1 = .ok q.2)) = true := by decide +kernel
set_option maxRecDepth 20000 in
def tLw4 : List (Nat × Instr × Nat) := [(294, .aload_n 1, 1), (295, .invokevirtual 32, 3), (298, .aload_n 2, 1), (299, .invokevirtual 36, 3), (302, .if_icmp .eq 1119, 3), (305, .iconst 0, 1), (306, .ireturn, 1)]
set_option maxRecDepth 20000 in
theorem dLw4 : tLw4.all (fun q => decide (decode code q.1 = .ok q.2)) = true := by decide +kernel
set_option maxRecDepth 20000 in
def tLw5 : List (Nat × Instr × Nat) := [(307, .aload_n 1, 1), (308, .aload_n 0, 1), (309, .iload 4, 2), (311, .iconst 1, 1), (312, .iadd, 1), (313, .iaload, 1), (314, .invokevirtual 37, 3), (317, .aload_n 2, 1), (318, .aload_n 0, 1), (319, .iload 4, 2), (321, .iconst 1, 1), (322, .iadd, 1), (323, .iaload, 1), (324, .invokevirtual 40, 3), (327, .if_icmp .eq 1094, 3), (330, .iconst 0, 1), (331, .ireturn, 1)]
set_option maxRecDepth 20000 in
theorem dLw5 : tLw5.all (fun q => decide (decode code q.1 = .ok q.2)) = true := by decide +kernel
set_option maxRecDepth 20000 in
def tLw6 : List (Nat × Instr × Nat) := [(332, .aload_n 1, 1), (333, .aload_n 0, 1), (334, .iload 4, 2), (336, .iconst 1, 1), (337, .iadd, 1), (338, .iaload, 1), (339, .invokevirtual 41, 3), (342, .aload_n 2, 1), (343, .aload_n 0, 1), (344, .iload 4, 2), (346, .iconst 1, 1), (347, .iadd, 1), (348, .iaload, 1), (349, .invokevirtual 44, 3), (352, .if_icmp .eq 1069, 3), (355, .iconst 0, 1), (356, .ireturn, 1)]
set_option maxRecDepth 20000 in
theorem dLw6 : tLw6.all (fun q => decide (decode code q.1 = .ok q.2)) = true := by decide +kernel
set_option maxRecDepth 20000 in
def tLw7 : List (Nat × Instr × Nat) := [(357, .aload_n 1, 1), (358, .aload_n 0, 1), (359, .iload 4, 2), (361, .iconst 1, 1), (362, .iadd, 1), (363, .iaload, 1), (364, .invokevirtual 45, 3), (367, .aload_n 2, 1), (368, .aload_n 0, 1), (369, .iload 4, 2), (371, .iconst 1, 1), (372, .iadd, 1), (373, .iaload, 1), (374, .invokevirtual 48, 3), (377, .if_icmp .eq 1044, 3), (380, .iconst 0, 1), (381, .ireturn, 1)]
set_option maxRecDepth 20000 in
theorem dLw7 : tLw7.all (fun q => decide (decode code q.1 = .ok q.2)) = true := by decide +kernel
set_option maxRecDepth 20000 in
def tLw8 : List (Nat × Instr × Nat) := [(382, .aload_n 1, 1), (383, .aload_n 0, 1), (384, .iload 4, 2), (386, .iconst 1, 1), (387, .iadd, 1), (388, .iaload, 1), (389, .aload_n 0, 1), (390, .iload 4, 2), (392, .iconst 2, 1), (393, .iadd, 1), (394, .iaload, 1), (395, .aload_n 3, 1), (396, .invokestatic 49, 3), (399, .istore 5, 2), (401, .aload_n 2, 1), (402, .aload_n 0, 1), (403, .iload 4, 2), (405, .iconst 1, 1), (406, .iadd, 1), (407, .iaload, 1), (408, .aload_n 0, 1), (409, .iload 4, 2), (411, .iconst 2, 1), (412, .iadd, 1), (413, .iaload, 1), (414, .invokevirtual 54, 3), (417, .istore 6, 2), (419, .aload_n 2, 1), (420, .invokevirtual 55, 3), (423, .iload 5, 2), (425, .if_icmp .eq 5, 3), (428, .iconst 0, 1), (429, .ireturn, 1), (430, .iload 5, 2), (432, .ifCond .ne 15, 3), (435, .aload_n 3, 1), (436, .iconst 0, 1), (437, .laload, 1), (438, .iload 6, 2), (440, .i2l, 1), (441, .lcmp, 1), (442, .ifCond .eq 5, 3), (445, .iconst 0, 1), (446, .ireturn, 1), (447, .goto 974, 3)]
set_option maxRecDepth 20000 in
theorem dLw8 : tLw8.all (fun q => decide (decode code q.1 = .ok q.2)) = true := by decide +kernel
set_option maxRecDepth 20000 in
def tLw9 : List (Nat × Instr × Nat) := [(450, .aload_n 1, 1), (451, .aload_n 0, 1), (452, .iload 4, 2), (454, .iconst 1, 1), (455, .iadd, 1), (456, .iaload, 1), (457, .aload_n 3, 1), (458, .invokestatic 58, 3), (461, .istore 5, 2), (463, .aload_n 2, 1), (464, .aload_n 0, 1), (465, .iload 4, 2), (467, .iconst 1, 1), (468, .iadd, 1), (469, .iaload, 1), (470, .invokevirtual 61, 3), (473, .istore 6, 2), (475, .aload_n 2, 1), (476, .invokevirtual 55, 3), (479, .iload 5, 2), (481, .if_icmp .eq 5, 3), (484, .iconst 0, 1), (485, .ireturn, 1), (486, .iload 5, 2), (488, .ifCond .ne 15, 3), (491, .aload_n 3, 1), (492, .iconst 0, 1), (493, .laload, 1), (494, .iload 6, 2), (496, .i2l, 1), (497, .lcmp, 1), (498, .ifCond .eq 5, 3), (501, .iconst 0, 1), (502, .ireturn, 1), (503, .goto 918, 3)]
set_option maxRecDepth 20000 in
theorem dLw9 : tLw9.all (fun q => decide (decode code q.1 = .ok q.2)) = true := by decide +kernel
set_option maxRecDepth 20000 in
def tLw10 : List (Nat × Instr × Nat) := [(506, .aload_n 1, 1), (507, .aload_n 0, 1), (508, .iload 4, 2), (510, .iconst 1, 1), (511, .iadd, 1), (512, .iaload, 1), (513, .invokevirtual 62, 3), (516, .aload_n 2, 1), (517, .aload_n 0, 1), (518, .iload 4, 2), (520, .iconst 1, 1), (521, .iadd, 1), (522, .iaload, 1), (523, .invokevirtual 65, 3), (526, .if_icmp .eq 895, 3), (529, .iconst 0, 1), (530, .ireturn, 1)]
set_option maxRecDepth 20000 in
theorem dLw10 : tLw10.all (fun q => decide (decode code q.1 = .ok q.2)) = true := by decide +kernel
set_option maxRecDepth 20000 in
def tLw11 : List (Nat × Instr × Nat) := [(531, .aload_n 1, 1), (532, .invokevirtual 66, 3), (535, .aload_n 2, 1), (536, .invokevirtual 69, 3), (539, .if_icmp .eq 882, 3), (542, .iconst 0, 1), (543, .ireturn, 1)]
set_option maxRecDepth 20000 in
theorem dLw11 : tLw11.all (fun q => decide (decode code q.1 = .ok q.2)) = true := by decide +kernel
set_option maxRecDepth 20000 in
def tLw12 : List (Nat × Instr × Nat) := [(544, .aload_n 1, 1), (545, .aload_n 0, 1), (546, .iload 4, 2), (548, .iconst 1, 1), (549, .iadd, 1), (550, .iaload, 1), (551, .invokevirtual 70, 3), (554, .aload_n 2, 1), (555, .aload_n 0, 1), (556, .iload 4, 2), (558, .iconst 1, 1), (559, .iadd, 1), (560, .iaload, 1), (561, .invokevirtual 73, 3), (564, .if_icmp .eq 857, 3), (567, .iconst 0, 1), (568, .ireturn, 1)]
set_option maxRecDepth 20000 in
theorem dLw12 : tLw12.all (fun q => decide (decode code q.1 = .ok q.2)) = true := by decide +kernel
set_option maxRecDepth 20000 in
def tLw13 : List (Nat × Instr × Nat) := [(569, .aload_n 1, 1), (570, .aload_n 0, 1), (571, .iload 4, 2), (573, .iconst 1, 1), (574, .iadd, 1), (575, .iaload, 1), (576, .invokevirtual 74, 3), (579, .aload_n 2, 1), (580, .aload_n 0, 1), (581, .iload 4, 2), (583, .iconst 1, 1), (584, .iadd, 1), (585, .iaload, 1), (586, .invokevirtual 77, 3), (589, .if_icmp .eq 832, 3), (592, .iconst 0, 1), (593, .ireturn, 1)]
set_option maxRecDepth 20000 in
theorem dLw13 : tLw13.all (fun q => decide (decode code q.1 = .ok q.2)) = true := by decide +kernel
set_option maxRecDepth 20000 in
def tLw14 : List (Nat × Instr × Nat) := [(594, .aload_n 1, 1), (595, .aload_n 0, 1), (596, .iload 4, 2), (598, .iconst 1, 1), (599, .iadd, 1), (600, .iaload, 1), (601, .aload_n 0, 1), (602, .iload 4, 2), (604, .iconst 2, 1), (605, .iadd, 1), (606, .iaload, 1), (607, .invokevirtual 78, 3), (610, .aload_n 2, 1), (611, .aload_n 0, 1), (612, .iload 4, 2), (614, .iconst 1, 1), (615, .iadd, 1), (616, .iaload, 1), (617, .aload_n 0, 1), (618, .iload 4, 2), (620, .iconst 2, 1), (621, .iadd, 1), (622, .iaload, 1), (623, .invokevirtual 81, 3), (626, .if_icmp .eq 795, 3), (629, .iconst 0, 1), (630, .ireturn, 1)]
set_option maxRecDepth 20000 in
theorem dLw14 : tLw14.all (fun q => decide (decode code q.1 = .ok q.2)) = true := by decide +kernel
set_option maxRecDepth 20000 in
def tLw15 : List (Nat × Instr × Nat) := [(631, .aload_n 1, 1), (632, .aload_n 0, 1), (633, .iload 4, 2), (635, .iconst 1, 1), (636, .iadd, 1), (637, .iaload, 1), (638, .aload_n 0, 1), (639, .iload 4, 2), (641, .iconst 2, 1), (642, .iadd, 1), (643, .iaload, 1), (644, .aload_n 0, 1), (645, .iload 4, 2), (647, .iconst 3, 1), (648, .iadd, 1), (649, .iaload, 1), (650, .invokevirtual 82, 3), (653, .aload_n 2, 1), (654, .aload_n 0, 1), (655, .iload 4, 2), (657, .iconst 1, 1), (658, .iadd, 1), (659, .iaload, 1), (660, .aload_n 0, 1), (661, .iload 4, 2), (663, .iconst 2, 1), (664, .iadd, 1), (665, .iaload, 1), (666, .aload_n 0, 1), (667, .iload 4, 2), (669, .iconst 3, 1), (670, .iadd, 1), (671, .iaload, 1), (672, .invokevirtual 86, 3), (675, .if_icmp .eq 746, 3), (678, .iconst 0, 1), (679, .ireturn, 1)]
set_option maxRecDepth 20000 in
theorem dLw15 : tLw15.all (fun q => decide (decode code q.1 = .ok q.2)) = true := by decide +kernel
set_option maxRecDepth 20000 in
def tLw16 : List (Nat × Instr × Nat) := [(680, .aload_n 1, 1), (681, .aload_n 0, 1), (682, .iload 4, 2), (684, .iconst 1, 1), (685, .iadd, 1), (686, .iaload, 1), (687, .aload_n 0, 1), (688, .iload 4, 2), (690, .iconst 2, 1), (691, .iadd, 1), (692, .iaload, 1), (693, .aload_n 0, 1), (694, .iload 4, 2), (696, .iconst 3, 1), (697, .iadd, 1), (698, .iaload, 1), (699, .aload_n 0, 1), (700, .iload 4, 2), (702, .iconst 4, 1), (703, .iadd, 1), (704, .iaload, 1), (705, .invokevirtual 87, 3), (708, .aload_n 2, 1), (709, .aload_n 0, 1), (710, .iload 4, 2), (712, .iconst 1, 1), (713, .iadd, 1), (714, .iaload, 1), (715, .aload_n 0, 1), (716, .iload 4, 2), (718, .iconst 2, 1), (719, .iadd, 1), (720, .iaload, 1), (721, .aload_n 0, 1), (722, .iload 4, 2), (724, .iconst 3, 1), (725, .iadd, 1), (726, .iaload, 1), (727, .aload_n 0, 1), (728, .iload 4, 2), (730, .iconst 4, 1), (731, .iadd, 1), (732, .iaload, 1), (733, .invokevirtual 91, 3), (736, .if_icmp .eq 685, 3), (739, .iconst 0, 1), (740, .ireturn, 1)]
set_option maxRecDepth 20000 in
theorem dLw16 : tLw16.all (fun q => decide (decode code q.1 = .ok q.2)) = true := by decide +kernel
set_option maxRecDepth 20000 in
def tLw17 : List (Nat × Instr × Nat) := [(741, .aload_n 1, 1), (742, .aload_n 0, 1), (743, .iload 4, 2), (745, .iconst 1, 1), (746, .iadd, 1), (747, .iaload, 1), (748, .aload_n 0, 1), (749, .iload 4, 2), (751, .iconst 2, 1), (752, .iadd, 1), (753, .iaload, 1), (754, .invokevirtual 92, 3), (757, .aload_n 2, 1), (758, .aload_n 0, 1), (759, .iload 4, 2), (761, .iconst 1, 1), (762, .iadd, 1), (763, .iaload, 1), (764, .aload_n 0, 1), (765, .iload 4, 2), (767, .iconst 2, 1), (768, .iadd, 1), (769, .iaload, 1), (770, .invokevirtual 95, 3), (773, .if_icmp .eq 648, 3), (776, .iconst 0, 1), (777, .ireturn, 1)]
set_option maxRecDepth 20000 in
theorem dLw17 : tLw17.all (fun q => decide (decode code q.1 = .ok q.2)) = true := by decide +kernel
set_option maxRecDepth 20000 in
def tLw18 : List (Nat × Instr × Nat) := [(778, .aload_n 1, 1), (779, .aload_n 0, 1), (780, .iload 4, 2), (782, .iconst 1, 1), (783, .iadd, 1), (784, .iaload, 1), (785, .aload_n 0, 1), (786, .iload 4, 2), (788, .iconst 2, 1), (789, .iadd, 1), (790, .iaload, 1), (791, .aload_n 0, 1), (792, .iload 4, 2), (794, .iconst 3, 1), (795, .iadd, 1), (796, .iaload, 1), (797, .aload_n 0, 1), (798, .iload 4, 2), (800, .iconst 4, 1), (801, .iadd, 1), (802, .iaload, 1), (803, .invokevirtual 96, 3), (806, .aload_n 2, 1), (807, .aload_n 0, 1), (808, .iload 4, 2), (810, .iconst 1, 1), (811, .iadd, 1), (812, .iaload, 1), (813, .aload_n 0, 1), (814, .iload 4, 2), (816, .iconst 2, 1), (817, .iadd, 1), (818, .iaload, 1), (819, .aload_n 0, 1), (820, .iload 4, 2), (822, .iconst 3, 1), (823, .iadd, 1), (824, .iaload, 1), (825, .aload_n 0, 1), (826, .iload 4, 2), (828, .iconst 4, 1), (829, .iadd, 1), (830, .iaload, 1), (831, .invokevirtual 99, 3), (834, .if_icmp .eq 587, 3), (837, .iconst 0, 1), (838, .ireturn, 1)]
set_option maxRecDepth 20000 in
theorem dLw18 : tLw18.all (fun q => decide (decode code q.1 = .ok q.2)) = true := by decide +kernel
set_option maxRecDepth 20000 in
def tLw19 : List (Nat × Instr × Nat) := [(839, .aload_n 1, 1), (840, .aload_n 0, 1), (841, .iload 4, 2), (843, .iconst 1, 1), (844, .iadd, 1), (845, .iaload, 1), (846, .aload_n 0, 1), (847, .iload 4, 2), (849, .iconst 2, 1), (850, .iadd, 1), (851, .iaload, 1), (852, .aload_n 0, 1), (853, .iload 4, 2), (855, .iconst 3, 1), (856, .iadd, 1), (857, .iaload, 1), (858, .invokevirtual 100, 3), (861, .aload_n 2, 1), (862, .aload_n 0, 1), (863, .iload 4, 2), (865, .iconst 1, 1), (866, .iadd, 1), (867, .iaload, 1), (868, .aload_n 0, 1), (869, .iload 4, 2), (871, .iconst 2, 1), (872, .iadd, 1), (873, .iaload, 1), (874, .aload_n 0, 1), (875, .iload 4, 2), (877, .iconst 3, 1), (878, .iadd, 1), (879, .iaload, 1), (880, .invokevirtual 103, 3), (883, .if_icmp .eq 538, 3), (886, .iconst 0, 1), (887, .ireturn, 1)]
set_option maxRecDepth 20000 in
theorem dLw19 : tLw19.all (fun q => decide (decode code q.1 = .ok q.2)) = true := by decide +kernel
set_option maxRecDepth 20000 in
def tLw20 : List (Nat × Instr × Nat) := [(888, .aload_n 1, 1), (889, .aload_n 0, 1), (890, .iload 4, 2), (892, .iconst 1, 1), (893, .iadd, 1), (894, .iaload, 1), (895, .aload_n 0, 1), (896, .iload 4, 2), (898, .iconst 2, 1), (899, .iadd, 1), (900, .iaload, 1), (901, .invokevirtual 104, 3), (904, .aload_n 2, 1), (905, .aload_n 0, 1), (906, .iload 4, 2), (908, .iconst 1, 1), (909, .iadd, 1), (910, .iaload, 1), (911, .aload_n 0, 1), (912, .iload 4, 2), (914, .iconst 2, 1), (915, .iadd, 1), (916, .iaload, 1), (917, .invokevirtual 107, 3), (920, .if_icmp .eq 501, 3), (923, .iconst 0, 1), (924, .ireturn, 1)]
set_option maxRecDepth 20000 in
theorem dLw20 : tLw20.all (fun q => decide (decode code q.1 = .ok q.2)) = true := by decide +kernel
set_option maxRecDepth 20000 in
def tLw21 : List (Nat × Instr × Nat) := [(925, .aload_n 1, 1), (926, .invokevirtual 108, 3), (929, .aload_n 2, 1), (930, .invokevirtual 111, 3), (933, .if_icmp .eq 488, 3), (936, .iconst 0, 1), (937, .ireturn, 1)]
set_option maxRecDepth 20000 in
theorem dLw21 : tLw21.all (fun q => decide (decode code q.1 = .ok q.2)) = true := by decide +kernel
set_option maxRecDepth 20000 in
def tLw22 : List (Nat × Instr × Nat) := [(938, .aload_n 1, 1), (939, .aload_n 0, 1), (940, .iload 4, 2), (942, .iconst 1, 1), (943, .iadd, 1), (944, .iaload, 1), (945, .invokevirtual 112, 3), (948, .aload_n 2, 1), (949, .aload_n 0, 1), (950, .iload 4, 2), (952, .iconst 1, 1), (953, .iadd, 1), (954, .iaload, 1), (955, .invokevirtual 115, 3), (958, .if_icmp .eq 463, 3), (961, .iconst 0, 1), (962, .ireturn, 1)]
set_option maxRecDepth 20000 in
theorem dLw22 : tLw22.all (fun q => decide (decode code q.1 = .ok q.2)) = true := by decide +kernel
set_option maxRecDepth 20000 in
def tLw23 : List (Nat × Instr × Nat) := [(963, .aload_n 1, 1), (964, .aload_n 0, 1), (965, .iload 4, 2), (967, .iconst 1, 1), (968, .iadd, 1), (969, .iaload, 1), (970, .invokevirtual 116, 3), (973, .aload_n 2, 1), (974, .aload_n 0, 1), (975, .iload 4, 2), (977, .iconst 1, 1), (978, .iadd, 1), (979, .iaload, 1), (980, .invokevirtual 119, 3), (983, .if_icmp .eq 438, 3), (986, .iconst 0, 1), (987, .ireturn, 1)]
set_option maxRecDepth 20000 in
theorem dLw23 : tLw23.all (fun q => decide (decode code q.1 = .ok q.2)) = true := by decide +kernel
set_option maxRecDepth 20000 in
def tLw24 : List (Nat × Instr × Nat) := [(988, .aload_n 1, 1), (989, .aload_n 0, 1), (990, .iload 4, 2), (992, .iconst 1, 1), (993, .iadd, 1), (994, .iaload, 1), (995, .aload_n 0, 1), (996, .iload 4, 2), (998, .iconst 2, 1), (999, .iadd, 1), (1000, .iaload, 1), (1001, .aload_n 0, 1), (1002, .iload 4, 2), (1004, .iconst 3, 1), (1005, .iadd, 1), (1006, .iaload, 1), (1007, .invokevirtual 120, 3), (1010, .aload_n 2, 1), (1011, .aload_n 0, 1), (1012, .iload 4, 2), (1014, .iconst 1, 1), (1015, .iadd, 1), (1016, .iaload, 1), (1017, .aload_n 0, 1), (1018, .iload 4, 2), (1020, .iconst 2, 1), (1021, .iadd, 1), (1022, .iaload, 1), (1023, .aload_n 0, 1), (1024, .iload 4, 2), (1026, .iconst 3, 1), (1027, .iadd, 1), (1028, .iaload, 1), (1029, .invokevirtual 123, 3), (1032, .if_icmp .eq 389, 3), (1035, .iconst 0, 1), (1036, .ireturn, 1)]
set_option maxRecDepth 20000 in
theorem dLw24 : tLw24.all (fun q => decide (decode code q.1 = .ok q.2)) = true := by decide +kernel
set_option maxRecDepth 20000 in
def tLw25 : List (Nat × Instr × Nat) := [(1037, .aload_n 1, 1), (1038, .aload_n 0, 1), (1039, .iload 4, 2), (1041, .iconst 1, 1), (1042, .iadd, 1), (1043, .iaload, 1), (1044, .invokevirtual 124, 3), (1047, .aload_n 2, 1), (1048, .aload_n 0, 1), (1049, .iload 4, 2), (1051, .iconst 1, 1), (1052, .iadd, 1), (1053, .iaload, 1), (1054, .invokevirtual 127, 3), (1057, .if_icmp .eq 364, 3), (1060, .iconst 0, 1), (1061, .ireturn, 1)]
set_option maxRecDepth 20000 in
theorem dLw25 : tLw25.all (fun q => decide (decode code q.1 = .ok q.2)) = true := by decide +kernel
set_option maxRecDepth 20000 in
def tLw26 : List (Nat × Instr × Nat) := [(1062, .aload_n 1, 1), (1063, .aload_n 0, 1), (1064, .iload 4, 2), (1066, .iconst 1, 1), (1067, .iadd, 1), (1068, .iaload, 1), (1069, .aload_n 0, 1), (1070, .iload 4, 2), (1072, .iconst 2, 1), (1073, .iadd, 1), (1074, .iaload, 1), (1075, .aload_n 0, 1), (1076, .iload 4, 2), (1078, .iconst 3, 1), (1079, .iadd, 1), (1080, .iaload, 1), (1081, .invokevirtual 128, 3), (1084, .aload_n 2, 1), (1085, .aload_n 0, 1), (1086, .iload 4, 2), (1088, .iconst 1, 1), (1089, .iadd, 1), (1090, .iaload, 1), (1091, .aload_n 0, 1), (1092, .iload 4, 2), (1094, .iconst 2, 1), (1095, .iadd, 1), (1096, .iaload, 1), (1097, .aload_n 0, 1), (1098, .iload 4, 2), (1100, .iconst 3, 1), (1101, .iadd, 1), (1102, .iaload, 1), (1103, .invokevirtual 131, 3), (1106, .if_icmp .eq 315, 3), (1109, .iconst 0, 1), (1110, .ireturn, 1)]
set_option maxRecDepth 20000 in
theorem dLw26 : tLw26.all (fun q => decide (decode code q.1 = .ok q.2)) = true := by decide +kernel
set_option maxRecDepth 20000 in
def tLw27 : List (Nat × Instr × Nat) := [(1111, .aload_n 1, 1), (1112, .aload_n 0, 1), (1113, .iload 4, 2), (1115, .iconst 1, 1), (1116, .iadd, 1), (1117, .iaload, 1), (1118, .aload_n 0, 1), (1119, .iload 4, 2), (1121, .iconst 2, 1), (1122, .iadd, 1), (1123, .iaload, 1), (1124, .aload_n 0, 1), (1125, .iload 4, 2), (1127, .iconst 3, 1), (1128, .iadd, 1), (1129, .iaload, 1), (1130, .aload_n 0, 1), (1131, .iload 4, 2), (1133, .iconst 4, 1), (1134, .iadd, 1), (1135, .iaload, 1), (1136, .aload_n 0, 1), (1137, .iload 4, 2), (1139, .iconst 5, 1), (1140, .iadd, 1), (1141, .iaload, 1), (1142, .invokevirtual 132, 3), (1145, .aload_n 2, 1), (1146, .aload_n 0, 1), (1147, .iload 4, 2), (1149, .iconst 1, 1), (1150, .iadd, 1), (1151, .iaload, 1), (1152, .aload_n 0, 1), (1153, .iload 4, 2), (1155, .iconst 2, 1), (1156, .iadd, 1), (1157, .iaload, 1), (1158, .aload_n 0, 1), (1159, .iload 4, 2), (1161, .iconst 3, 1), (1162, .iadd, 1), (1163, .iaload, 1), (1164, .aload_n 0, 1), (1165, .iload 4, 2), (1167, .iconst 4, 1), (1168, .iadd, 1), (1169, .iaload, 1), (1170, .aload_n 0, 1), (1171, .iload 4, 2), (1173, .iconst 5, 1), (1174, .iadd, 1), (1175, .iaload, 1), (1176, .invokevirtual 135, 3), (1179, .if_icmp .eq 242, 3), (1182, .iconst 0, 1), (1183, .ireturn, 1)]
set_option maxRecDepth 20000 in
theorem dLw27 : tLw27.all (fun q => decide (decode code q.1 = .ok q.2)) = true := by decide +kernel
set_option maxRecDepth 20000 in
def tLw28 : List (Nat × Instr × Nat) := [(1184, .aload_n 1, 1), (1185, .aload_n 0, 1), (1186, .iload 4, 2), (1188, .iconst 1, 1), (1189, .iadd, 1), (1190, .iaload, 1), (1191, .invokevirtual 136, 3), (1194, .aload_n 2, 1), (1195, .aload_n 0, 1), (1196, .iload 4, 2), (1198, .iconst 1, 1), (1199, .iadd, 1), (1200, .iaload, 1), (1201, .invokevirtual 139, 3), (1204, .if_icmp .eq 217, 3), (1207, .iconst 0, 1), (1208, .ireturn, 1)]
set_option maxRecDepth 20000 in
theorem dLw28 : tLw28.all (fun q => decide (decode code q.1 = .ok q.2)) = true := by decide +kernel
set_option maxRecDepth 20000 in
def tLw29 : List (Nat × Instr × Nat) := [(1209, .aload_n 1, 1), (1210, .aload_n 0, 1), (1211, .iload 4, 2), (1213, .iconst 1, 1), (1214, .iadd, 1), (1215, .iaload, 1), (1216, .invokevirtual 140, 3), (1219, .aload_n 2, 1), (1220, .aload_n 0, 1), (1221, .iload 4, 2), (1223, .iconst 1, 1), (1224, .iadd, 1), (1225, .iaload, 1), (1226, .invokevirtual 143, 3), (1229, .if_icmp .eq 192, 3), (1232, .iconst 0, 1), (1233, .ireturn, 1)]
set_option maxRecDepth 20000 in
theorem dLw29 : tLw29.all (fun q => decide (decode code q.1 = .ok q.2)) = true := by decide +kernel
set_option maxRecDepth 20000 in
def tLw30 : List (Nat × Instr × Nat) := [(1234, .aload_n 1, 1), (1235, .invokevirtual 144, 3), (1238, .aload_n 2, 1), (1239, .invokevirtual 147, 3), (1242, .if_icmp .eq 179, 3), (1245, .iconst 0, 1), (1246, .ireturn, 1)]
set_option maxRecDepth 20000 in
theorem dLw30 : tLw30.all (fun q => decide (decode code q.1 = .ok q.2)) = true := by decide +kernel
set_option maxRecDepth 20000 in
def tLw31 : List (Nat × Instr × Nat) := [(1247, .aload_n 1, 1), (1248, .aload_n 0, 1), (1249, .iload 4, 2), (1251, .iconst 1, 1), (1252, .iadd, 1), (1253, .iaload, 1), (1254, .aload_n 0, 1), (1255, .iload 4, 2), (1257, .iconst 2, 1), (1258, .iadd, 1), (1259, .iaload, 1), (1260, .aload_n 0, 1), (1261, .iload 4, 2), (1263, .iconst 3, 1), (1264, .iadd, 1), (1265, .iaload, 1), (1266, .invokevirtual 148, 3), (1269, .aload_n 2, 1), (1270, .aload_n 0, 1), (1271, .iload 4, 2), (1273, .iconst 1, 1), (1274, .iadd, 1), (1275, .iaload, 1), (1276, .aload_n 0, 1), (1277, .iload 4, 2), (1279, .iconst 2, 1), (1280, .iadd, 1), (1281, .iaload, 1), (1282, .aload_n 0, 1), (1283, .iload 4, 2), (1285, .iconst 3, 1), (1286, .iadd, 1), (1287, .iaload, 1), (1288, .invokevirtual 152, 3), (1291, .if_icmp .eq 130, 3), (1294, .iconst 0, 1), (1295, .ireturn, 1)]
set_option maxRecDepth 20000 in
theorem dLw31 : tLw31.all (fun q => decide (decode code q.1 = .ok q.2)) = true := by decide +kernel
set_option maxRecDepth 20000 in
def tLw32 : List (Nat × Instr × Nat) := [(1296, .aload_n 1, 1), (1297, .aload_n 0, 1), (1298, .iload 4, 2), (1300, .iconst 1, 1), (1301, .iadd, 1), (1302, .iaload, 1), (1303, .invokevirtual 153, 3), (1306, .aload_n 2, 1), (1307, .aload_n 0, 1), (1308, .iload 4, 2), (1310, .iconst 1, 1), (1311, .iadd, 1), (1312, .iaload, 1), (1313, .invokevirtual 157, 3), (1316, .if_icmp .eq 105, 3), (1319, .iconst 0, 1), (1320, .ireturn, 1)]
set_option maxRecDepth 20000 in
theorem dLw32 : tLw32.all (fun q => decide (decode code q.1 = .ok q.2)) = true := by decide +kernel
set_option maxRecDepth 20000 in
def tLw33 : List (Nat × Instr × Nat) := [(1321, .aload_n 1, 1), (1322, .aload_n 0, 1), (1323, .iload 4, 2), (1325, .iconst 1, 1), (1326, .iadd, 1), (1327, .iaload, 1), (1328, .invokevirtual 158, 3), (1331, .aload_n 2, 1), (1332, .aload_n 0, 1), (1333, .iload 4, 2), (1335, .iconst 1, 1), (1336, .iadd, 1), (1337, .iaload, 1), (1338, .invokevirtual 161, 3), (1341, .if_icmp .eq 80, 3), (1344, .iconst 0, 1), (1345, .ireturn, 1)]
set_option maxRecDepth 20000 in
theorem dLw33 : tLw33.all (fun q => decide (decode code q.1 = .ok q.2)) = true := by decide +kernel
set_option maxRecDepth 20000 in
def tLw34 : List (Nat × Instr × Nat) := [(1346, .aload_n 1, 1), (1347, .aload_n 0, 1), (1348, .iload 4, 2), (1350, .iconst 1, 1), (1351, .iadd, 1), (1352, .iaload, 1), (1353, .aload_n 0, 1), (1354, .iload 4, 2), (1356, .iconst 2, 1), (1357, .iadd, 1), (1358, .iaload, 1), (1359, .invokevirtual 162, 3), (1362, .aload_n 2, 1), (1363, .aload_n 0, 1), (1364, .iload 4, 2), (1366, .iconst 1, 1), (1367, .iadd, 1), (1368, .iaload, 1), (1369, .aload_n 0, 1), (1370, .iload 4, 2), (1372, .iconst 2, 1), (1373, .iadd, 1), (1374, .iaload, 1), (1375, .invokevirtual 165, 3), (1378, .if_icmp .eq 43, 3), (1381, .iconst 0, 1), (1382, .ireturn, 1)]
set_option maxRecDepth 20000 in
theorem dLw34 : tLw34.all (fun q => decide (decode code q.1 = .ok q.2)) = true := by decide +kernel
set_option maxRecDepth 20000 in
def tLw35 : List (Nat × Instr × Nat) := [(1383, .aload_n 1, 1), (1384, .aload_n 0, 1), (1385, .iload 4, 2), (1387, .iconst 1, 1), (1388, .iadd, 1), (1389, .iaload, 1), (1390, .invokevirtual 166, 3), (1393, .aload_n 2, 1), (1394, .aload_n 0, 1), (1395, .iload 4, 2), (1397, .iconst 1, 1), (1398, .iadd, 1), (1399, .iaload, 1), (1400, .invokevirtual 169, 3), (1403, .if_icmp .eq 18, 3), (1406, .iconst 0, 1), (1407, .ireturn, 1)]
set_option maxRecDepth 20000 in
theorem dLw35 : tLw35.all (fun q => decide (decode code q.1 = .ok q.2)) = true := by decide +kernel
set_option maxRecDepth 20000 in
def tLw36 : List (Nat × Instr × Nat) := [(1408, .aload_n 1, 1), (1409, .invokevirtual 170, 3), (1412, .aload_n 2, 1), (1413, .invokevirtual 174, 3), (1416, .if_icmp .eq 5, 3), (1419, .iconst 0, 1), (1420, .ireturn, 1)]
set_option maxRecDepth 20000 in
theorem dLw36 : tLw36.all (fun q => decide (decode code q.1 = .ok q.2)) = true := by decide +kernel
set_option maxRecDepth 20000 in
def tLw37 : List (Nat × Instr × Nat) := [(1421, .iinc 4 6, 3), (1424, .goto (-1401), 3), (1427, .iconst 1, 1), (1428, .ireturn, 1)]
set_option maxRecDepth 20000 in
theorem dLw37 : tLw37.all (fun q => decide (decode code q.1 = .ok q.2)) = true := by decide +kernel
