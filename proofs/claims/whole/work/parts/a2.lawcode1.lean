theorem z_chk_app {j : Nat} {a b : List BK} (ha : z_chkM j a = true) (hb : z_chkM j b = true) : z_chkM j (a ++ b) = true := by
  unfold z_chkM z_chk at *
  rw [List.all_append, ha, hb]
  rfl
def bLh : List BK := [(0, [(0, .new 7, 0, 9), (3, .dup, 0, 0), (4, .invokespecial 9, 77, 1), (7, .astore_n 1, 0, 0), (8, .new 10, 0, 10), (11, .dup, 0, 0), (12, .invokespecial 12, 146, 1), (15, .astore_n 2, 0, 0), (16, .iconst 0, 0, 0), (17, .istore_n 3, 0, 0)], 18),
  (18, [(18, .iload_n 3, 0, 0), (19, .aload_n 0, 0, 0), (20, .arraylength, 0, 0), (21, .bipush 6, 6, 0), (23, .isub, 0, 0), (24, .if_icmp .gt 1762, 1786, 0)], 27)]
theorem tLh : z_chkM 279 bLh = true := by decide +kernel
def bLs : List BK := [(27, [(27, .aload_n 0, 0, 0), (28, .iload_n 3, 0, 0), (29, .iaload, 0, 0), (30, .bipush 63, 63, 0), (32, .iand, 0, 0), (33, .tableswitch 1747 0 42 #[187, 250, 273, 286, 349, 382, 425, 478, 521, 584, 617, 650, 693, 726, 739, 762, 785, 818, 861, 894, 918, 961, 1004, 1037, 1090, 1133, 1156, 1179, 1222, 1255, 1288, 1321, 1344, 1367, 1390, 1443, 1466, 1519, 1562, 1585, 1638, 1701, 1724], 0, 0)], 220)]
theorem tLs : z_chkM 279 bLs = true := by decide +kernel
def bLt : List BK := [(1780, [(1780, .iinc 3 6, 6, 0), (1783, .goto (-1765), 18, 0)], 1786),
  (1786, [(1786, .iconst 1, 1, 0), (1787, .ireturn, 0, 0)], 1788)]
theorem tLt : z_chkM 279 bLt = true := by decide +kernel
def bLa0 : List BK := [(220, [(220, .aload_n 1, 0, 0), (221, .aload_n 0, 0, 0), (222, .iload_n 3, 0, 0), (223, .iconst 1, 1, 0), (224, .iadd, 0, 0), (225, .iaload, 0, 0), (226, .aload_n 0, 0, 0), (227, .iload_n 3, 0, 0), (228, .iconst 2, 2, 0), (229, .iadd, 0, 0), (230, .iaload, 0, 0), (231, .aload_n 0, 0, 0), (232, .iload_n 3, 0, 0), (233, .iconst 3, 3, 0), (234, .iadd, 0, 0), (235, .iaload, 0, 0), (236, .aload_n 0, 0, 0), (237, .iload_n 3, 0, 0), (238, .iconst 4, 4, 0), (239, .iadd, 0, 0), (240, .iaload, 0, 0), (241, .aload_n 0, 0, 0), (242, .iload_n 3, 0, 0), (243, .iconst 5, 5, 0), (244, .iadd, 0, 0), (245, .iaload, 0, 0), (246, .invokevirtual 13, 78, 6)], 249)]
theorem tLa0 : z_chkM 279 bLa0 = true := by decide +kernel
def bLb0 : List BK := [(249, [(249, .aload_n 2, 0, 0), (250, .aload_n 0, 0, 0), (251, .iload_n 3, 0, 0), (252, .iconst 1, 1, 0), (253, .iadd, 0, 0), (254, .iaload, 0, 0), (255, .aload_n 0, 0, 0), (256, .iload_n 3, 0, 0), (257, .iconst 2, 2, 0), (258, .iadd, 0, 0), (259, .iaload, 0, 0), (260, .aload_n 0, 0, 0), (261, .iload_n 3, 0, 0), (262, .iconst 3, 3, 0), (263, .iadd, 0, 0), (264, .iaload, 0, 0), (265, .aload_n 0, 0, 0), (266, .iload_n 3, 0, 0), (267, .iconst 4, 4, 0), (268, .iadd, 0, 0), (269, .iaload, 0, 0), (270, .aload_n 0, 0, 0), (271, .iload_n 3, 0, 0), (272, .iconst 5, 5, 0), (273, .iadd, 0, 0), (274, .iaload, 0, 0), (275, .invokevirtual 17, 233, 6), (278, .if_icmp .eq 1502, 1780, 0)], 281),
  (281, [(281, .iconst 0, 0, 0), (282, .ireturn, 0, 0)], 283)]
theorem tLb0 : z_chkM 279 bLb0 = true := by decide +kernel
def bLa1 : List BK := [(283, [(283, .aload_n 1, 0, 0), (284, .aload_n 0, 0, 0), (285, .iload_n 3, 0, 0), (286, .iconst 1, 1, 0), (287, .iadd, 0, 0), (288, .iaload, 0, 0), (289, .invokevirtual 18, 79, 2)], 292)]
theorem tLa1 : z_chkM 279 bLa1 = true := by decide +kernel
def bLb1 : List BK := [(292, [(292, .aload_n 2, 0, 0), (293, .aload_n 0, 0, 0), (294, .iload_n 3, 0, 0), (295, .iconst 1, 1, 0), (296, .iadd, 0, 0), (297, .iaload, 0, 0), (298, .invokevirtual 22, 234, 2), (301, .if_icmp .eq 1479, 1780, 0)], 304),
  (304, [(304, .iconst 0, 0, 0), (305, .ireturn, 0, 0)], 306)]
theorem tLb1 : z_chkM 279 bLb1 = true := by decide +kernel
def bLa2 : List BK := [(306, [(306, .aload_n 1, 0, 0), (307, .invokevirtual 23, 80, 1)], 310)]
theorem tLa2 : z_chkM 279 bLa2 = true := by decide +kernel
def bLb2 : List BK := [(310, [(310, .aload_n 2, 0, 0), (311, .invokevirtual 27, 252, 1), (314, .if_icmp .eq 1466, 1780, 0)], 317),
  (317, [(317, .iconst 0, 0, 0), (318, .ireturn, 0, 0)], 319)]
theorem tLb2 : z_chkM 279 bLb2 = true := by decide +kernel
def bLa3 : List BK := [(319, [(319, .aload_n 1, 0, 0), (320, .aload_n 0, 0, 0), (321, .iload_n 3, 0, 0), (322, .iconst 1, 1, 0), (323, .iadd, 0, 0), (324, .iaload, 0, 0), (325, .aload_n 0, 0, 0), (326, .iload_n 3, 0, 0), (327, .iconst 2, 2, 0), (328, .iadd, 0, 0), (329, .iaload, 0, 0), (330, .aload_n 0, 0, 0), (331, .iload_n 3, 0, 0), (332, .iconst 3, 3, 0), (333, .iadd, 0, 0), (334, .iaload, 0, 0), (335, .aload_n 0, 0, 0), (336, .iload_n 3, 0, 0), (337, .iconst 4, 4, 0), (338, .iadd, 0, 0), (339, .iaload, 0, 0), (340, .aload_n 0, 0, 0), (341, .iload_n 3, 0, 0), (342, .iconst 5, 5, 0), (343, .iadd, 0, 0), (344, .iaload, 0, 0), (345, .invokevirtual 28, 81, 6)], 348)]
theorem tLa3 : z_chkM 279 bLa3 = true := by decide +kernel
def bLb3 : List BK := [(348, [(348, .aload_n 2, 0, 0), (349, .aload_n 0, 0, 0), (350, .iload_n 3, 0, 0), (351, .iconst 1, 1, 0), (352, .iadd, 0, 0), (353, .iaload, 0, 0), (354, .aload_n 0, 0, 0), (355, .iload_n 3, 0, 0), (356, .iconst 2, 2, 0), (357, .iadd, 0, 0), (358, .iaload, 0, 0), (359, .aload_n 0, 0, 0), (360, .iload_n 3, 0, 0), (361, .iconst 3, 3, 0), (362, .iadd, 0, 0), (363, .iaload, 0, 0), (364, .aload_n 0, 0, 0), (365, .iload_n 3, 0, 0), (366, .iconst 4, 4, 0), (367, .iadd, 0, 0), (368, .iaload, 0, 0), (369, .aload_n 0, 0, 0), (370, .iload_n 3, 0, 0), (371, .iconst 5, 5, 0), (372, .iadd, 0, 0), (373, .iaload, 0, 0), (374, .invokevirtual 31, 214, 6), (377, .if_icmp .eq 1403, 1780, 0)], 380),
  (380, [(380, .iconst 0, 0, 0), (381, .ireturn, 0, 0)], 382)]
theorem tLb3 : z_chkM 279 bLb3 = true := by decide +kernel
def bLa4 : List BK := [(382, [(382, .aload_n 1, 0, 0), (383, .aload_n 0, 0, 0), (384, .iload_n 3, 0, 0), (385, .iconst 1, 1, 0), (386, .iadd, 0, 0), (387, .iaload, 0, 0), (388, .aload_n 0, 0, 0), (389, .iload_n 3, 0, 0), (390, .iconst 2, 2, 0), (391, .iadd, 0, 0), (392, .iaload, 0, 0), (393, .invokevirtual 32, 82, 3)], 396)]
theorem tLa4 : z_chkM 279 bLa4 = true := by decide +kernel
def bLb4 : List BK := [(396, [(396, .aload_n 2, 0, 0), (397, .aload_n 0, 0, 0), (398, .iload_n 3, 0, 0), (399, .iconst 1, 1, 0), (400, .iadd, 0, 0), (401, .iaload, 0, 0), (402, .aload_n 0, 0, 0), (403, .iload_n 3, 0, 0), (404, .iconst 2, 2, 0), (405, .iadd, 0, 0), (406, .iaload, 0, 0), (407, .invokevirtual 36, 216, 3), (410, .if_icmp .eq 1370, 1780, 0)], 413),
  (413, [(413, .iconst 0, 0, 0), (414, .ireturn, 0, 0)], 415)]
theorem tLb4 : z_chkM 279 bLb4 = true := by decide +kernel
def bLa5 : List BK := [(415, [(415, .aload_n 1, 0, 0), (416, .aload_n 0, 0, 0), (417, .iload_n 3, 0, 0), (418, .iconst 1, 1, 0), (419, .iadd, 0, 0), (420, .iaload, 0, 0), (421, .aload_n 0, 0, 0), (422, .iload_n 3, 0, 0), (423, .iconst 2, 2, 0), (424, .iadd, 0, 0), (425, .iaload, 0, 0), (426, .aload_n 0, 0, 0), (427, .iload_n 3, 0, 0), (428, .iconst 3, 3, 0), (429, .iadd, 0, 0), (430, .iaload, 0, 0), (431, .invokevirtual 37, 83, 4)], 434)]
theorem tLa5 : z_chkM 279 bLa5 = true := by decide +kernel
def bLb5 : List BK := [(434, [(434, .aload_n 2, 0, 0), (435, .aload_n 0, 0, 0), (436, .iload_n 3, 0, 0), (437, .iconst 1, 1, 0), (438, .iadd, 0, 0), (439, .iaload, 0, 0), (440, .aload_n 0, 0, 0), (441, .iload_n 3, 0, 0), (442, .iconst 2, 2, 0), (443, .iadd, 0, 0), (444, .iaload, 0, 0), (445, .aload_n 0, 0, 0), (446, .iload_n 3, 0, 0), (447, .iconst 3, 3, 0), (448, .iadd, 0, 0), (449, .iaload, 0, 0), (450, .invokevirtual 41, 217, 4), (453, .if_icmp .eq 1327, 1780, 0)], 456),
  (456, [(456, .iconst 0, 0, 0), (457, .ireturn, 0, 0)], 458)]
theorem tLb5 : z_chkM 279 bLb5 = true := by decide +kernel
def bLa6 : List BK := [(458, [(458, .aload_n 1, 0, 0), (459, .aload_n 0, 0, 0), (460, .iload_n 3, 0, 0), (461, .iconst 1, 1, 0), (462, .iadd, 0, 0), (463, .iaload, 0, 0), (464, .aload_n 0, 0, 0), (465, .iload_n 3, 0, 0), (466, .iconst 2, 2, 0), (467, .iadd, 0, 0), (468, .iaload, 0, 0), (469, .aload_n 0, 0, 0), (470, .iload_n 3, 0, 0), (471, .iconst 3, 3, 0), (472, .iadd, 0, 0), (473, .iaload, 0, 0), (474, .aload_n 0, 0, 0), (475, .iload_n 3, 0, 0), (476, .iconst 4, 4, 0), (477, .iadd, 0, 0), (478, .iaload, 0, 0), (479, .invokevirtual 42, 84, 5)], 482)]
theorem tLa6 : z_chkM 279 bLa6 = true := by decide +kernel
def bLb6 : List BK := [(482, [(482, .aload_n 2, 0, 0), (483, .aload_n 0, 0, 0), (484, .iload_n 3, 0, 0), (485, .iconst 1, 1, 0), (486, .iadd, 0, 0), (487, .iaload, 0, 0), (488, .aload_n 0, 0, 0), (489, .iload_n 3, 0, 0), (490, .iconst 2, 2, 0), (491, .iadd, 0, 0), (492, .iaload, 0, 0), (493, .aload_n 0, 0, 0), (494, .iload_n 3, 0, 0), (495, .iconst 3, 3, 0), (496, .iadd, 0, 0), (497, .iaload, 0, 0), (498, .aload_n 0, 0, 0), (499, .iload_n 3, 0, 0), (500, .iconst 4, 4, 0), (501, .iadd, 0, 0), (502, .iaload, 0, 0), (503, .invokevirtual 46, 220, 5), (506, .if_icmp .eq 1274, 1780, 0)], 509),
  (509, [(509, .iconst 0, 0, 0), (510, .ireturn, 0, 0)], 511)]
theorem tLb6 : z_chkM 279 bLb6 = true := by decide +kernel
def bLa7 : List BK := [(511, [(511, .aload_n 1, 0, 0), (512, .aload_n 0, 0, 0), (513, .iload_n 3, 0, 0), (514, .iconst 1, 1, 0), (515, .iadd, 0, 0), (516, .iaload, 0, 0), (517, .aload_n 0, 0, 0), (518, .iload_n 3, 0, 0), (519, .iconst 2, 2, 0), (520, .iadd, 0, 0), (521, .iaload, 0, 0), (522, .aload_n 0, 0, 0), (523, .iload_n 3, 0, 0), (524, .iconst 3, 3, 0), (525, .iadd, 0, 0), (526, .iaload, 0, 0), (527, .invokevirtual 47, 85, 4)], 530)]
theorem tLa7 : z_chkM 279 bLa7 = true := by decide +kernel
def bLb7 : List BK := [(530, [(530, .aload_n 2, 0, 0), (531, .aload_n 0, 0, 0), (532, .iload_n 3, 0, 0), (533, .iconst 1, 1, 0), (534, .iadd, 0, 0), (535, .iaload, 0, 0), (536, .aload_n 0, 0, 0), (537, .iload_n 3, 0, 0), (538, .iconst 2, 2, 0), (539, .iadd, 0, 0), (540, .iaload, 0, 0), (541, .aload_n 0, 0, 0), (542, .iload_n 3, 0, 0), (543, .iconst 3, 3, 0), (544, .iadd, 0, 0), (545, .iaload, 0, 0), (546, .invokevirtual 50, 221, 4), (549, .if_icmp .eq 1231, 1780, 0)], 552),
  (552, [(552, .iconst 0, 0, 0), (553, .ireturn, 0, 0)], 554)]
theorem tLb7 : z_chkM 279 bLb7 = true := by decide +kernel
def bLa8 : List BK := [(554, [(554, .aload_n 1, 0, 0), (555, .aload_n 0, 0, 0), (556, .iload_n 3, 0, 0), (557, .iconst 1, 1, 0), (558, .iadd, 0, 0), (559, .iaload, 0, 0), (560, .aload_n 0, 0, 0), (561, .iload_n 3, 0, 0), (562, .iconst 2, 2, 0), (563, .iadd, 0, 0), (564, .iaload, 0, 0), (565, .aload_n 0, 0, 0), (566, .iload_n 3, 0, 0), (567, .iconst 3, 3, 0), (568, .iadd, 0, 0), (569, .iaload, 0, 0), (570, .aload_n 0, 0, 0), (571, .iload_n 3, 0, 0), (572, .iconst 4, 4, 0), (573, .iadd, 0, 0), (574, .iaload, 0, 0), (575, .aload_n 0, 0, 0), (576, .iload_n 3, 0, 0), (577, .iconst 5, 5, 0), (578, .iadd, 0, 0), (579, .iaload, 0, 0), (580, .invokevirtual 51, 86, 6)], 583)]
theorem tLa8 : z_chkM 279 bLa8 = true := by decide +kernel
def bLb8 : List BK := [(583, [(583, .aload_n 2, 0, 0), (584, .aload_n 0, 0, 0), (585, .iload_n 3, 0, 0), (586, .iconst 1, 1, 0), (587, .iadd, 0, 0), (588, .iaload, 0, 0), (589, .aload_n 0, 0, 0), (590, .iload_n 3, 0, 0), (591, .iconst 2, 2, 0), (592, .iadd, 0, 0), (593, .iaload, 0, 0), (594, .aload_n 0, 0, 0), (595, .iload_n 3, 0, 0), (596, .iconst 3, 3, 0), (597, .iadd, 0, 0), (598, .iaload, 0, 0), (599, .aload_n 0, 0, 0), (600, .iload_n 3, 0, 0), (601, .iconst 4, 4, 0), (602, .iadd, 0, 0), (603, .iaload, 0, 0), (604, .aload_n 0, 0, 0), (605, .iload_n 3, 0, 0), (606, .iconst 5, 5, 0), (607, .iadd, 0, 0), (608, .iaload, 0, 0), (609, .invokevirtual 54, 222, 6), (612, .if_icmp .eq 1168, 1780, 0)], 615),
  (615, [(615, .iconst 0, 0, 0), (616, .ireturn, 0, 0)], 617)]
theorem tLb8 : z_chkM 279 bLb8 = true := by decide +kernel
def bLa9 : List BK := [(617, [(617, .aload_n 1, 0, 0), (618, .aload_n 0, 0, 0), (619, .iload_n 3, 0, 0), (620, .iconst 1, 1, 0), (621, .iadd, 0, 0), (622, .iaload, 0, 0), (623, .aload_n 0, 0, 0), (624, .iload_n 3, 0, 0), (625, .iconst 2, 2, 0), (626, .iadd, 0, 0), (627, .iaload, 0, 0), (628, .invokevirtual 55, 87, 3)], 631)]
theorem tLa9 : z_chkM 279 bLa9 = true := by decide +kernel
def bLb9 : List BK := [(631, [(631, .aload_n 2, 0, 0), (632, .aload_n 0, 0, 0), (633, .iload_n 3, 0, 0), (634, .iconst 1, 1, 0), (635, .iadd, 0, 0), (636, .iaload, 0, 0), (637, .aload_n 0, 0, 0), (638, .iload_n 3, 0, 0), (639, .iconst 2, 2, 0), (640, .iadd, 0, 0), (641, .iaload, 0, 0), (642, .invokevirtual 58, 223, 3), (645, .if_icmp .eq 1135, 1780, 0)], 648),
  (648, [(648, .iconst 0, 0, 0), (649, .ireturn, 0, 0)], 650)]
theorem tLb9 : z_chkM 279 bLb9 = true := by decide +kernel
def bLa10 : List BK := [(650, [(650, .aload_n 1, 0, 0), (651, .aload_n 0, 0, 0), (652, .iload_n 3, 0, 0), (653, .iconst 1, 1, 0), (654, .iadd, 0, 0), (655, .iaload, 0, 0), (656, .aload_n 0, 0, 0), (657, .iload_n 3, 0, 0), (658, .iconst 2, 2, 0), (659, .iadd, 0, 0), (660, .iaload, 0, 0), (661, .invokevirtual 59, 88, 3)], 664)]
theorem tLa10 : z_chkM 279 bLa10 = true := by decide +kernel
def bLb10 : List BK := [(664, [(664, .aload_n 2, 0, 0), (665, .aload_n 0, 0, 0), (666, .iload_n 3, 0, 0), (667, .iconst 1, 1, 0), (668, .iadd, 0, 0), (669, .iaload, 0, 0), (670, .aload_n 0, 0, 0), (671, .iload_n 3, 0, 0), (672, .iconst 2, 2, 0), (673, .iadd, 0, 0), (674, .iaload, 0, 0), (675, .invokevirtual 62, 224, 3), (678, .if_icmp .eq 1102, 1780, 0)], 681),
  (681, [(681, .iconst 0, 0, 0), (682, .ireturn, 0, 0)], 683)]
theorem tLb10 : z_chkM 279 bLb10 = true := by decide +kernel
def bLa11 : List BK := [(683, [(683, .aload_n 1, 0, 0), (684, .aload_n 0, 0, 0), (685, .iload_n 3, 0, 0), (686, .iconst 1, 1, 0), (687, .iadd, 0, 0), (688, .iaload, 0, 0), (689, .aload_n 0, 0, 0), (690, .iload_n 3, 0, 0), (691, .iconst 2, 2, 0), (692, .iadd, 0, 0), (693, .iaload, 0, 0), (694, .aload_n 0, 0, 0), (695, .iload_n 3, 0, 0), (696, .iconst 3, 3, 0), (697, .iadd, 0, 0), (698, .iaload, 0, 0), (699, .invokevirtual 63, 89, 4)], 702)]
theorem tLa11 : z_chkM 279 bLa11 = true := by decide +kernel
def bLb11 : List BK := [(702, [(702, .aload_n 2, 0, 0), (703, .aload_n 0, 0, 0), (704, .iload_n 3, 0, 0), (705, .iconst 1, 1, 0), (706, .iadd, 0, 0), (707, .iaload, 0, 0), (708, .aload_n 0, 0, 0), (709, .iload_n 3, 0, 0), (710, .iconst 2, 2, 0), (711, .iadd, 0, 0), (712, .iaload, 0, 0), (713, .aload_n 0, 0, 0), (714, .iload_n 3, 0, 0), (715, .iconst 3, 3, 0), (716, .iadd, 0, 0), (717, .iaload, 0, 0), (718, .invokevirtual 66, 226, 4), (721, .if_icmp .eq 1059, 1780, 0)], 724),
  (724, [(724, .iconst 0, 0, 0), (725, .ireturn, 0, 0)], 726)]
theorem tLb11 : z_chkM 279 bLb11 = true := by decide +kernel
def bLa12 : List BK := [(726, [(726, .aload_n 1, 0, 0), (727, .aload_n 0, 0, 0), (728, .iload_n 3, 0, 0), (729, .iconst 1, 1, 0), (730, .iadd, 0, 0), (731, .iaload, 0, 0), (732, .aload_n 0, 0, 0), (733, .iload_n 3, 0, 0), (734, .iconst 2, 2, 0), (735, .iadd, 0, 0), (736, .iaload, 0, 0), (737, .invokevirtual 67, 90, 3)], 740)]
theorem tLa12 : z_chkM 279 bLa12 = true := by decide +kernel
def bLb12 : List BK := [(740, [(740, .aload_n 2, 0, 0), (741, .aload_n 0, 0, 0), (742, .iload_n 3, 0, 0), (743, .iconst 1, 1, 0), (744, .iadd, 0, 0), (745, .iaload, 0, 0), (746, .aload_n 0, 0, 0), (747, .iload_n 3, 0, 0), (748, .iconst 2, 2, 0), (749, .iadd, 0, 0), (750, .iaload, 0, 0), (751, .invokevirtual 70, 228, 3), (754, .if_icmp .eq 1026, 1780, 0)], 757),
  (757, [(757, .iconst 0, 0, 0), (758, .ireturn, 0, 0)], 759)]
theorem tLb12 : z_chkM 279 bLb12 = true := by decide +kernel
def bLa13 : List BK := [(759, [(759, .aload_n 1, 0, 0), (760, .invokevirtual 71, 91, 1)], 763)]
theorem tLa13 : z_chkM 279 bLa13 = true := by decide +kernel
def bLb13 : List BK := [(763, [(763, .aload_n 2, 0, 0), (764, .invokevirtual 74, 229, 1), (767, .if_icmp .eq 1013, 1780, 0)], 770),
  (770, [(770, .iconst 0, 0, 0), (771, .ireturn, 0, 0)], 772)]
theorem tLb13 : z_chkM 279 bLb13 = true := by decide +kernel
def bLa14 : List BK := [(772, [(772, .aload_n 1, 0, 0), (773, .aload_n 0, 0, 0), (774, .iload_n 3, 0, 0), (775, .iconst 1, 1, 0), (776, .iadd, 0, 0), (777, .iaload, 0, 0), (778, .invokevirtual 75, 92, 2)], 781)]
theorem tLa14 : z_chkM 279 bLa14 = true := by decide +kernel
def bLb14 : List BK := [(781, [(781, .aload_n 2, 0, 0), (782, .aload_n 0, 0, 0), (783, .iload_n 3, 0, 0), (784, .iconst 1, 1, 0), (785, .iadd, 0, 0), (786, .iaload, 0, 0), (787, .invokevirtual 78, 230, 2), (790, .if_icmp .eq 990, 1780, 0)], 793),
  (793, [(793, .iconst 0, 0, 0), (794, .ireturn, 0, 0)], 795)]
theorem tLb14 : z_chkM 279 bLb14 = true := by decide +kernel
