/-! the law: its code, lifted -/
def kL_law : List (Nat × am_I) := [(0, (.new 8, 3, 8, 0, 113, .null)),
  (3, (.dup, 1, 0, 0, 0, .null)),
  (4, (.invokespecial 15, 3, 77, 1, 115, .null)),
  (7, (.astore_n 1, 1, 0, 0, 0, .null)),
  (8, (.new 16, 3, 9, 0, 1156, .null)),
  (11, (.dup, 1, 0, 0, 0, .null)),
  (12, (.invokespecial 18, 3, 137, 1, 1157, .null)),
  (15, (.astore_n 2, 1, 0, 0, 0, .null)),
  (16, (.iconst 1, 1, 0, 0, 0, .int 1)),
  (17, (.newarray .long, 2, 1, 0, 304, .null)),
  (19, (.astore_n 3, 1, 0, 0, 0, .null)),
  (20, (.iconst 0, 1, 0, 0, 0, .int 0)),
  (21, (.istore 4, 2, 0, 0, 0, .null)),
  (23, (.iload 4, 2, 0, 0, 0, .null)),
  (25, (.aload_n 0, 1, 0, 0, 0, .null)),
  (26, (.arraylength, 1, 0, 0, 0, .null)),
  (27, (.bipush 7, 2, 0, 0, 0, .int 7)),
  (29, (.isub, 1, 0, 0, 0, .null)),
  (30, (.if_icmp .gt 1252, 3, 0, 0, 0, .null)),
  (33, (.aload_n 0, 1, 0, 0, 0, .null)),
  (34, (.iload 4, 2, 0, 0, 0, .null)),
  (36, (.iaload, 1, 0, 0, 0, .null)),
  (37, (.bipush 63, 2, 0, 0, 0, .int 63)),
  (39, (.iand, 1, 0, 0, 0, .null)),
  (40, (.tableswitch 1236 0 34 #[156, 303, 316, 329, 366, 403, 416, 453, 478, 503, 516, 541, 578, 603, 628, 641, 666, 703, 740, 753, 766, 791, 828, 841, 854, 891, 904, 917, 930, 955, 968, 1017, 1109, 1158, 1211], 156, 0, 0, 0, .null)),
  (196, (.aload_n 1, 1, 0, 0, 0, .null)),
  (197, (.aload_n 0, 1, 0, 0, 0, .null)),
  (198, (.iload 4, 2, 0, 0, 0, .null)),
  (200, (.iconst 1, 1, 0, 0, 0, .int 1)),
  (201, (.iadd, 1, 0, 0, 0, .null)),
  (202, (.iaload, 1, 0, 0, 0, .null)),
  (203, (.i2l, 1, 0, 0, 0, .null)),
  (204, (.bipush 32, 2, 0, 0, 0, .int 32)),
  (206, (.lshl, 1, 0, 0, 0, .null)),
  (207, (.aload_n 0, 1, 0, 0, 0, .null)),
  (208, (.iload 4, 2, 0, 0, 0, .null)),
  (210, (.iconst 2, 1, 0, 0, 0, .int 2)),
  (211, (.iadd, 1, 0, 0, 0, .null)),
  (212, (.iaload, 1, 0, 0, 0, .null)),
  (213, (.i2l, 1, 0, 0, 0, .null)),
  (214, (.ldc2_w 19, 3, 0, 0, 1696, .long 4294967295)),
  (217, (.land, 1, 0, 0, 0, .null)),
  (218, (.lor, 1, 0, 0, 0, .null)),
  (219, (.aload_n 0, 1, 0, 0, 0, .null)),
  (220, (.iload 4, 2, 0, 0, 0, .null)),
  (222, (.iconst 3, 1, 0, 0, 0, .int 3)),
  (223, (.iadd, 1, 0, 0, 0, .null)),
  (224, (.iaload, 1, 0, 0, 0, .null)),
  (225, (.i2l, 1, 0, 0, 0, .null)),
  (226, (.bipush 32, 2, 0, 0, 0, .int 32)),
  (228, (.lshl, 1, 0, 0, 0, .null)),
  (229, (.aload_n 0, 1, 0, 0, 0, .null)),
  (230, (.iload 4, 2, 0, 0, 0, .null)),
  (232, (.iconst 4, 1, 0, 0, 0, .int 4)),
  (233, (.iadd, 1, 0, 0, 0, .null)),
  (234, (.iaload, 1, 0, 0, 0, .null)),
  (235, (.i2l, 1, 0, 0, 0, .null)),
  (236, (.ldc2_w 19, 3, 0, 0, 1696, .long 4294967295)),
  (239, (.land, 1, 0, 0, 0, .null)),
  (240, (.lor, 1, 0, 0, 0, .null)),
  (241, (.aload_n 0, 1, 0, 0, 0, .null)),
  (242, (.iload 4, 2, 0, 0, 0, .null)),
  (244, (.iconst 5, 1, 0, 0, 0, .int 5)),
  (245, (.iadd, 1, 0, 0, 0, .null)),
  (246, (.iaload, 1, 0, 0, 0, .null)),
  (247, (.i2l, 1, 0, 0, 0, .null)),
  (248, (.bipush 32, 2, 0, 0, 0, .int 32)),
  (250, (.lshl, 1, 0, 0, 0, .null)),
  (251, (.aload_n 0, 1, 0, 0, 0, .null)),
  (252, (.iload 4, 2, 0, 0, 0, .null)),
  (254, (.bipush 6, 2, 0, 0, 0, .int 6)),
  (256, (.iadd, 1, 0, 0, 0, .null)),
  (257, (.iaload, 1, 0, 0, 0, .null)),
  (258, (.i2l, 1, 0, 0, 0, .null)),
  (259, (.ldc2_w 19, 3, 0, 0, 1696, .long 4294967295)),
  (262, (.land, 1, 0, 0, 0, .null)),
  (263, (.lor, 1, 0, 0, 0, .null)),
  (264, (.invokevirtual 21, 3, 78, 4, 448, .null)),
  (267, (.aload_n 2, 1, 0, 0, 0, .null)),
  (268, (.aload_n 0, 1, 0, 0, 0, .null)),
  (269, (.iload 4, 2, 0, 0, 0, .null)),
  (271, (.iconst 1, 1, 0, 0, 0, .int 1)),
  (272, (.iadd, 1, 0, 0, 0, .null)),
  (273, (.iaload, 1, 0, 0, 0, .null)),
  (274, (.i2l, 1, 0, 0, 0, .null)),
  (275, (.bipush 32, 2, 0, 0, 0, .int 32)),
  (277, (.lshl, 1, 0, 0, 0, .null)),
  (278, (.aload_n 0, 1, 0, 0, 0, .null)),
  (279, (.iload 4, 2, 0, 0, 0, .null)),
  (281, (.iconst 2, 1, 0, 0, 0, .int 2)),
  (282, (.iadd, 1, 0, 0, 0, .null)),
  (283, (.iaload, 1, 0, 0, 0, .null)),
  (284, (.i2l, 1, 0, 0, 0, .null)),
  (285, (.ldc2_w 19, 3, 0, 0, 1696, .long 4294967295)),
  (288, (.land, 1, 0, 0, 0, .null)),
  (289, (.lor, 1, 0, 0, 0, .null)),
  (290, (.aload_n 0, 1, 0, 0, 0, .null)),
  (291, (.iload 4, 2, 0, 0, 0, .null)),
  (293, (.iconst 3, 1, 0, 0, 0, .int 3)),
  (294, (.iadd, 1, 0, 0, 0, .null)),
  (295, (.iaload, 1, 0, 0, 0, .null)),
  (296, (.i2l, 1, 0, 0, 0, .null)),
  (297, (.bipush 32, 2, 0, 0, 0, .int 32)),
  (299, (.lshl, 1, 0, 0, 0, .null)),
  (300, (.aload_n 0, 1, 0, 0, 0, .null)),
  (301, (.iload 4, 2, 0, 0, 0, .null)),
  (303, (.iconst 4, 1, 0, 0, 0, .int 4)),
  (304, (.iadd, 1, 0, 0, 0, .null)),
  (305, (.iaload, 1, 0, 0, 0, .null)),
  (306, (.i2l, 1, 0, 0, 0, .null)),
  (307, (.ldc2_w 19, 3, 0, 0, 1696, .long 4294967295)),
  (310, (.land, 1, 0, 0, 0, .null)),
  (311, (.lor, 1, 0, 0, 0, .null)),
  (312, (.aload_n 0, 1, 0, 0, 0, .null)),
  (313, (.iload 4, 2, 0, 0, 0, .null)),
  (315, (.iconst 5, 1, 0, 0, 0, .int 5)),
  (316, (.iadd, 1, 0, 0, 0, .null)),
  (317, (.iaload, 1, 0, 0, 0, .null)),
  (318, (.i2l, 1, 0, 0, 0, .null)),
  (319, (.bipush 32, 2, 0, 0, 0, .int 32)),
  (321, (.lshl, 1, 0, 0, 0, .null)),
  (322, (.aload_n 0, 1, 0, 0, 0, .null)),
  (323, (.iload 4, 2, 0, 0, 0, .null)),
  (325, (.bipush 6, 2, 0, 0, 0, .int 6)),
  (327, (.iadd, 1, 0, 0, 0, .null)),
  (328, (.iaload, 1, 0, 0, 0, .null)),
  (329, (.i2l, 1, 0, 0, 0, .null)),
  (330, (.ldc2_w 19, 3, 0, 0, 1696, .long 4294967295)),
  (333, (.land, 1, 0, 0, 0, .null)),
  (334, (.lor, 1, 0, 0, 0, .null)),
  (335, (.invokevirtual 25, 3, 135, 4, 1147, .null)),
  (338, (.if_icmp .eq 938, 3, 0, 0, 0, .null)),
  (341, (.iconst 0, 1, 0, 0, 0, .int 0)),
  (342, (.ireturn, 1, 0, 0, 0, .null)),
  (343, (.aload_n 1, 1, 0, 0, 0, .null)),
  (344, (.invokevirtual 26, 3, 80, 1, 463, .null)),
  (347, (.aload_n 2, 1, 0, 0, 0, .null)),
  (348, (.invokevirtual 30, 3, 159, 1, 1316, .null)),
  (351, (.if_icmp .eq 925, 3, 0, 0, 0, .null)),
  (354, (.iconst 0, 1, 0, 0, 0, .int 0)),
  (355, (.ireturn, 1, 0, 0, 0, .null)),
  (356, (.aload_n 1, 1, 0, 0, 0, .null)),
  (357, (.invokevirtual 31, 3, 82, 1, 715, .null)),
  (360, (.aload_n 2, 1, 0, 0, 0, .null)),
  (361, (.invokevirtual 34, 3, 165, 1, 1442, .null)),
  (364, (.if_icmp .eq 912, 3, 0, 0, 0, .null)),
  (367, (.iconst 0, 1, 0, 0, 0, .int 0)),
  (368, (.ireturn, 1, 0, 0, 0, .null)),
  (369, (.aload_n 1, 1, 0, 0, 0, .null)),
  (370, (.aload_n 0, 1, 0, 0, 0, .null)),
  (371, (.iload 4, 2, 0, 0, 0, .null)),
  (373, (.iconst 1, 1, 0, 0, 0, .int 1)),
  (374, (.iadd, 1, 0, 0, 0, .null)),
  (375, (.iaload, 1, 0, 0, 0, .null)),
  (376, (.aload_n 0, 1, 0, 0, 0, .null)),
  (377, (.iload 4, 2, 0, 0, 0, .null)),
  (379, (.iconst 2, 1, 0, 0, 0, .int 2)),
  (380, (.iadd, 1, 0, 0, 0, .null)),
  (381, (.iaload, 1, 0, 0, 0, .null)),
  (382, (.invokevirtual 35, 3, 83, 3, 736, .null)),
  (385, (.aload_n 2, 1, 0, 0, 0, .null)),
  (386, (.aload_n 0, 1, 0, 0, 0, .null)),
  (387, (.iload 4, 2, 0, 0, 0, .null)),
  (389, (.iconst 1, 1, 0, 0, 0, .int 1)),
  (390, (.iadd, 1, 0, 0, 0, .null)),
  (391, (.iaload, 1, 0, 0, 0, .null)),
  (392, (.aload_n 0, 1, 0, 0, 0, .null)),
  (393, (.iload 4, 2, 0, 0, 0, .null)),
  (395, (.iconst 2, 1, 0, 0, 0, .int 2)),
  (396, (.iadd, 1, 0, 0, 0, .null)),
  (397, (.iaload, 1, 0, 0, 0, .null)),
  (398, (.invokevirtual 39, 3, 197, 3, 1446, .null)),
  (401, (.if_icmp .eq 875, 3, 0, 0, 0, .null)),
  (404, (.iconst 0, 1, 0, 0, 0, .int 0)),
  (405, (.ireturn, 1, 0, 0, 0, .null)),
  (406, (.aload_n 1, 1, 0, 0, 0, .null)),
  (407, (.aload_n 0, 1, 0, 0, 0, .null)),
  (408, (.iload 4, 2, 0, 0, 0, .null)),
  (410, (.iconst 1, 1, 0, 0, 0, .int 1)),
  (411, (.iadd, 1, 0, 0, 0, .null)),
  (412, (.iaload, 1, 0, 0, 0, .null)),
  (413, (.aload_n 0, 1, 0, 0, 0, .null)),
  (414, (.iload 4, 2, 0, 0, 0, .null)),
  (416, (.iconst 2, 1, 0, 0, 0, .int 2)),
  (417, (.iadd, 1, 0, 0, 0, .null)),
  (418, (.iaload, 1, 0, 0, 0, .null)),
  (419, (.invokevirtual 40, 3, 84, 3, 757, .null)),
  (422, (.aload_n 2, 1, 0, 0, 0, .null)),
  (423, (.aload_n 0, 1, 0, 0, 0, .null)),
  (424, (.iload 4, 2, 0, 0, 0, .null)),
  (426, (.iconst 1, 1, 0, 0, 0, .int 1)),
  (427, (.iadd, 1, 0, 0, 0, .null)),
  (428, (.iaload, 1, 0, 0, 0, .null)),
  (429, (.aload_n 0, 1, 0, 0, 0, .null)),
  (430, (.iload 4, 2, 0, 0, 0, .null)),
  (432, (.iconst 2, 1, 0, 0, 0, .int 2)),
  (433, (.iadd, 1, 0, 0, 0, .null)),
  (434, (.iaload, 1, 0, 0, 0, .null)),
  (435, (.invokevirtual 43, 3, 198, 3, 1470, .null)),
  (438, (.if_icmp .eq 838, 3, 0, 0, 0, .null)),
  (441, (.iconst 0, 1, 0, 0, 0, .int 0)),
  (442, (.ireturn, 1, 0, 0, 0, .null)),
  (443, (.aload_n 1, 1, 0, 0, 0, .null)),
  (444, (.invokevirtual 44, 3, 85, 1, 765, .null)),
  (447, (.aload_n 2, 1, 0, 0, 0, .null)),
  (448, (.invokevirtual 47, 3, 199, 1, 1478, .null)),
  (451, (.if_icmp .eq 825, 3, 0, 0, 0, .null)),
  (454, (.iconst 0, 1, 0, 0, 0, .int 0)),
  (455, (.ireturn, 1, 0, 0, 0, .null)),
  (456, (.aload_n 1, 1, 0, 0, 0, .null)),
  (457, (.aload_n 0, 1, 0, 0, 0, .null)),
  (458, (.iload 4, 2, 0, 0, 0, .null)),
  (460, (.iconst 1, 1, 0, 0, 0, .int 1)),
  (461, (.iadd, 1, 0, 0, 0, .null)),
  (462, (.iaload, 1, 0, 0, 0, .null)),
  (463, (.aload_n 0, 1, 0, 0, 0, .null)),
  (464, (.iload 4, 2, 0, 0, 0, .null)),
  (466, (.iconst 2, 1, 0, 0, 0, .int 2)),
  (467, (.iadd, 1, 0, 0, 0, .null)),
  (468, (.iaload, 1, 0, 0, 0, .null)),
  (469, (.invokevirtual 48, 3, 86, 3, 831, .null)),
  (472, (.aload_n 2, 1, 0, 0, 0, .null)),
  (473, (.aload_n 0, 1, 0, 0, 0, .null)),
  (474, (.iload 4, 2, 0, 0, 0, .null)),
  (476, (.iconst 1, 1, 0, 0, 0, .int 1)),
  (477, (.iadd, 1, 0, 0, 0, .null)),
  (478, (.iaload, 1, 0, 0, 0, .null)),
  (479, (.aload_n 0, 1, 0, 0, 0, .null)),
  (480, (.iload 4, 2, 0, 0, 0, .null)),
  (482, (.iconst 2, 1, 0, 0, 0, .int 2)),
  (483, (.iadd, 1, 0, 0, 0, .null)),
  (484, (.iaload, 1, 0, 0, 0, .null)),
  (485, (.invokevirtual 52, 3, 201, 3, 1524, .null)),
  (488, (.if_icmp .eq 788, 3, 0, 0, 0, .null)),
  (491, (.iconst 0, 1, 0, 0, 0, .int 0)),
  (492, (.ireturn, 1, 0, 0, 0, .null)),
  (493, (.aload_n 1, 1, 0, 0, 0, .null)),
  (494, (.aload_n 0, 1, 0, 0, 0, .null)),
  (495, (.iload 4, 2, 0, 0, 0, .null)),
  (497, (.iconst 1, 1, 0, 0, 0, .int 1)),
  (498, (.iadd, 1, 0, 0, 0, .null)),
  (499, (.iaload, 1, 0, 0, 0, .null)),
  (500, (.invokevirtual 53, 3, 87, 2, 843, .null)),
  (503, (.aload_n 2, 1, 0, 0, 0, .null)),
  (504, (.aload_n 0, 1, 0, 0, 0, .null)),
  (505, (.iload 4, 2, 0, 0, 0, .null)),
  (507, (.iconst 1, 1, 0, 0, 0, .int 1)),
  (508, (.iadd, 1, 0, 0, 0, .null)),
  (509, (.iaload, 1, 0, 0, 0, .null)),
  (510, (.invokevirtual 57, 3, 202, 2, 1532, .null)),
  (513, (.if_icmp .eq 763, 3, 0, 0, 0, .null)),
  (516, (.iconst 0, 1, 0, 0, 0, .int 0)),
  (517, (.ireturn, 1, 0, 0, 0, .null)),
  (518, (.aload_n 1, 1, 0, 0, 0, .null)),
  (519, (.aload_n 0, 1, 0, 0, 0, .null)),
  (520, (.iload 4, 2, 0, 0, 0, .null)),
  (522, (.iconst 1, 1, 0, 0, 0, .int 1)),
  (523, (.iadd, 1, 0, 0, 0, .null)),
  (524, (.iaload, 1, 0, 0, 0, .null)),
  (525, (.invokevirtual 58, 3, 88, 2, 848, .null)),
  (528, (.aload_n 2, 1, 0, 0, 0, .null)),
  (529, (.aload_n 0, 1, 0, 0, 0, .null)),
  (530, (.iload 4, 2, 0, 0, 0, .null)),
  (532, (.iconst 1, 1, 0, 0, 0, .int 1)),
  (533, (.iadd, 1, 0, 0, 0, .null)),
  (534, (.iaload, 1, 0, 0, 0, .null)),
  (535, (.invokevirtual 62, 3, 203, 2, 1536, .null)),
  (538, (.if_icmp .eq 738, 3, 0, 0, 0, .null)),
  (541, (.iconst 0, 1, 0, 0, 0, .int 0)),
  (542, (.ireturn, 1, 0, 0, 0, .null)),
  (543, (.aload_n 1, 1, 0, 0, 0, .null)),
  (544, (.invokevirtual 63, 3, 89, 1, 852, .null)),
  (547, (.aload_n 2, 1, 0, 0, 0, .null)),
  (548, (.invokevirtual 67, 3, 204, 1, 1540, .null)),
  (551, (.if_icmp .eq 725, 3, 0, 0, 0, .null)),
  (554, (.iconst 0, 1, 0, 0, 0, .int 0)),
  (555, (.ireturn, 1, 0, 0, 0, .null)),
  (556, (.aload_n 1, 1, 0, 0, 0, .null)),
  (557, (.aload_n 0, 1, 0, 0, 0, .null)),
  (558, (.iload 4, 2, 0, 0, 0, .null)),
  (560, (.iconst 1, 1, 0, 0, 0, .int 1)),
  (561, (.iadd, 1, 0, 0, 0, .null)),
  (562, (.iaload, 1, 0, 0, 0, .null)),
  (563, (.invokevirtual 68, 3, 90, 2, 860, .null)),
  (566, (.aload_n 2, 1, 0, 0, 0, .null)),
  (567, (.aload_n 0, 1, 0, 0, 0, .null)),
  (568, (.iload 4, 2, 0, 0, 0, .null)),
  (570, (.iconst 1, 1, 0, 0, 0, .int 1)),
  (571, (.iadd, 1, 0, 0, 0, .null)),
  (572, (.iaload, 1, 0, 0, 0, .null)),
  (573, (.invokevirtual 71, 3, 205, 2, 1544, .null)),
  (576, (.if_icmp .eq 700, 3, 0, 0, 0, .null)),
  (579, (.iconst 0, 1, 0, 0, 0, .int 0)),
  (580, (.ireturn, 1, 0, 0, 0, .null)),
  (581, (.aload_n 1, 1, 0, 0, 0, .null)),
  (582, (.aload_n 0, 1, 0, 0, 0, .null)),
  (583, (.iload 4, 2, 0, 0, 0, .null)),
  (585, (.iconst 1, 1, 0, 0, 0, .int 1)),
  (586, (.iadd, 1, 0, 0, 0, .null)),
  (587, (.iaload, 1, 0, 0, 0, .null)),
  (588, (.aload_n 0, 1, 0, 0, 0, .null)),
  (589, (.iload 4, 2, 0, 0, 0, .null)),
  (591, (.iconst 2, 1, 0, 0, 0, .int 2)),
  (592, (.iadd, 1, 0, 0, 0, .null)),
  (593, (.iaload, 1, 0, 0, 0, .null)),
  (594, (.invokevirtual 72, 3, 91, 3, 872, .null)),
  (597, (.aload_n 2, 1, 0, 0, 0, .null)),
  (598, (.aload_n 0, 1, 0, 0, 0, .null)),
  (599, (.iload 4, 2, 0, 0, 0, .null)),
  (601, (.iconst 1, 1, 0, 0, 0, .int 1)),
  (602, (.iadd, 1, 0, 0, 0, .null)),
  (603, (.iaload, 1, 0, 0, 0, .null)),
  (604, (.aload_n 0, 1, 0, 0, 0, .null)),
  (605, (.iload 4, 2, 0, 0, 0, .null)),
  (607, (.iconst 2, 1, 0, 0, 0, .int 2)),
  (608, (.iadd, 1, 0, 0, 0, .null)),
  (609, (.iaload, 1, 0, 0, 0, .null)),
  (610, (.invokevirtual 75, 3, 207, 3, 1548, .null)),
  (613, (.if_icmp .eq 663, 3, 0, 0, 0, .null)),
  (616, (.iconst 0, 1, 0, 0, 0, .int 0)),
  (617, (.ireturn, 1, 0, 0, 0, .null)),
  (618, (.aload_n 1, 1, 0, 0, 0, .null)),
  (619, (.aload_n 0, 1, 0, 0, 0, .null)),
  (620, (.iload 4, 2, 0, 0, 0, .null)),
  (622, (.iconst 1, 1, 0, 0, 0, .int 1)),
  (623, (.iadd, 1, 0, 0, 0, .null)),
  (624, (.iaload, 1, 0, 0, 0, .null)),
  (625, (.invokevirtual 76, 3, 92, 2, 877, .null)),
  (628, (.aload_n 2, 1, 0, 0, 0, .null)),
  (629, (.aload_n 0, 1, 0, 0, 0, .null)),
  (630, (.iload 4, 2, 0, 0, 0, .null)),
  (632, (.iconst 1, 1, 0, 0, 0, .int 1)),
  (633, (.iadd, 1, 0, 0, 0, .null)),
  (634, (.iaload, 1, 0, 0, 0, .null)),
  (635, (.invokevirtual 79, 3, 208, 2, 1556, .null)),
  (638, (.if_icmp .eq 638, 3, 0, 0, 0, .null)),
  (641, (.iconst 0, 1, 0, 0, 0, .int 0)),
  (642, (.ireturn, 1, 0, 0, 0, .null)),
  (643, (.aload_n 1, 1, 0, 0, 0, .null)),
  (644, (.aload_n 0, 1, 0, 0, 0, .null)),
  (645, (.iload 4, 2, 0, 0, 0, .null)),
  (647, (.iconst 1, 1, 0, 0, 0, .int 1)),
  (648, (.iadd, 1, 0, 0, 0, .null)),
  (649, (.iaload, 1, 0, 0, 0, .null)),
  (650, (.invokevirtual 80, 3, 93, 2, 882, .null)),
  (653, (.aload_n 2, 1, 0, 0, 0, .null)),
  (654, (.aload_n 0, 1, 0, 0, 0, .null)),
  (655, (.iload 4, 2, 0, 0, 0, .null)),
  (657, (.iconst 1, 1, 0, 0, 0, .int 1)),
  (658, (.iadd, 1, 0, 0, 0, .null)),
  (659, (.iaload, 1, 0, 0, 0, .null)),
  (660, (.invokevirtual 83, 3, 209, 2, 1560, .null)),
  (663, (.if_icmp .eq 613, 3, 0, 0, 0, .null)),
  (666, (.iconst 0, 1, 0, 0, 0, .int 0)),
  (667, (.ireturn, 1, 0, 0, 0, .null)),
  (668, (.aload_n 1, 1, 0, 0, 0, .null)),
  (669, (.invokevirtual 84, 3, 94, 1, 886, .null)),
  (672, (.aload_n 2, 1, 0, 0, 0, .null)),
  (673, (.invokevirtual 87, 3, 210, 1, 1564, .null)),
  (676, (.if_icmp .eq 600, 3, 0, 0, 0, .null)),
  (679, (.iconst 0, 1, 0, 0, 0, .int 0)),
  (680, (.ireturn, 1, 0, 0, 0, .null)),
  (681, (.aload_n 1, 1, 0, 0, 0, .null)),
  (682, (.aload_n 0, 1, 0, 0, 0, .null)),
  (683, (.iload 4, 2, 0, 0, 0, .null)),
  (685, (.iconst 1, 1, 0, 0, 0, .int 1)),
  (686, (.iadd, 1, 0, 0, 0, .null)),
  (687, (.iaload, 1, 0, 0, 0, .null)),
  (688, (.invokevirtual 88, 3, 95, 2, 895, .null)),
  (691, (.aload_n 2, 1, 0, 0, 0, .null)),
  (692, (.aload_n 0, 1, 0, 0, 0, .null)),
  (693, (.iload 4, 2, 0, 0, 0, .null)),
  (695, (.iconst 1, 1, 0, 0, 0, .int 1)),
  (696, (.iadd, 1, 0, 0, 0, .null)),
  (697, (.iaload, 1, 0, 0, 0, .null)),
  (698, (.invokevirtual 91, 3, 211, 2, 1572, .null)),
  (701, (.if_icmp .eq 575, 3, 0, 0, 0, .null)),
  (704, (.iconst 0, 1, 0, 0, 0, .int 0)),
  (705, (.ireturn, 1, 0, 0, 0, .null)),
  (706, (.aload_n 1, 1, 0, 0, 0, .null)),
  (707, (.aload_n 0, 1, 0, 0, 0, .null)),
  (708, (.iload 4, 2, 0, 0, 0, .null)),
  (710, (.iconst 1, 1, 0, 0, 0, .int 1)),
  (711, (.iadd, 1, 0, 0, 0, .null)),
  (712, (.iaload, 1, 0, 0, 0, .null)),
  (713, (.aload_n 0, 1, 0, 0, 0, .null)),
  (714, (.iload 4, 2, 0, 0, 0, .null)),
  (716, (.iconst 2, 1, 0, 0, 0, .int 2)),
  (717, (.iadd, 1, 0, 0, 0, .null)),
  (718, (.iaload, 1, 0, 0, 0, .null)),
  (719, (.invokevirtual 92, 3, 96, 3, 903, .null)),
  (722, (.aload_n 2, 1, 0, 0, 0, .null)),
  (723, (.aload_n 0, 1, 0, 0, 0, .null)),
  (724, (.iload 4, 2, 0, 0, 0, .null)),
  (726, (.iconst 1, 1, 0, 0, 0, .int 1)),
  (727, (.iadd, 1, 0, 0, 0, .null)),
  (728, (.iaload, 1, 0, 0, 0, .null)),
  (729, (.aload_n 0, 1, 0, 0, 0, .null)),
  (730, (.iload 4, 2, 0, 0, 0, .null)),
  (732, (.iconst 2, 1, 0, 0, 0, .int 2)),
  (733, (.iadd, 1, 0, 0, 0, .null)),
  (734, (.iaload, 1, 0, 0, 0, .null)),
  (735, (.invokevirtual 95, 3, 212, 3, 1576, .null)),
  (738, (.if_icmp .eq 538, 3, 0, 0, 0, .null)),
  (741, (.iconst 0, 1, 0, 0, 0, .int 0)),
  (742, (.ireturn, 1, 0, 0, 0, .null)),
  (743, (.aload_n 1, 1, 0, 0, 0, .null)),
  (744, (.aload_n 0, 1, 0, 0, 0, .null)),
  (745, (.iload 4, 2, 0, 0, 0, .null)),
  (747, (.iconst 1, 1, 0, 0, 0, .int 1)),
  (748, (.iadd, 1, 0, 0, 0, .null)),
  (749, (.iaload, 1, 0, 0, 0, .null)),
  (750, (.aload_n 0, 1, 0, 0, 0, .null)),
  (751, (.iload 4, 2, 0, 0, 0, .null)),
  (753, (.iconst 2, 1, 0, 0, 0, .int 2)),
  (754, (.iadd, 1, 0, 0, 0, .null)),
  (755, (.iaload, 1, 0, 0, 0, .null)),
  (756, (.invokevirtual 96, 3, 97, 3, 907, .null)),
  (759, (.aload_n 2, 1, 0, 0, 0, .null)),
  (760, (.aload_n 0, 1, 0, 0, 0, .null)),
  (761, (.iload 4, 2, 0, 0, 0, .null)),
  (763, (.iconst 1, 1, 0, 0, 0, .int 1)),
  (764, (.iadd, 1, 0, 0, 0, .null)),
  (765, (.iaload, 1, 0, 0, 0, .null)),
  (766, (.aload_n 0, 1, 0, 0, 0, .null)),
  (767, (.iload 4, 2, 0, 0, 0, .null)),
  (769, (.iconst 2, 1, 0, 0, 0, .int 2)),
  (770, (.iadd, 1, 0, 0, 0, .null)),
  (771, (.iaload, 1, 0, 0, 0, .null)),
  (772, (.invokevirtual 99, 3, 215, 3, 1580, .null)),
  (775, (.if_icmp .eq 501, 3, 0, 0, 0, .null)),
  (778, (.iconst 0, 1, 0, 0, 0, .int 0)),
  (779, (.ireturn, 1, 0, 0, 0, .null)),
  (780, (.aload_n 1, 1, 0, 0, 0, .null)),
  (781, (.invokevirtual 100, 3, 102, 1, 927, .null)),
  (784, (.aload_n 2, 1, 0, 0, 0, .null)),
  (785, (.invokevirtual 103, 3, 217, 1, 1592, .null)),
  (788, (.if_icmp .eq 488, 3, 0, 0, 0, .null)),
  (791, (.iconst 0, 1, 0, 0, 0, .int 0)),
  (792, (.ireturn, 1, 0, 0, 0, .null)),
  (793, (.aload_n 1, 1, 0, 0, 0, .null)),
  (794, (.invokevirtual 104, 3, 104, 1, 935, .null)),
  (797, (.aload_n 2, 1, 0, 0, 0, .null)),
  (798, (.invokevirtual 107, 3, 219, 1, 1600, .null)),
  (801, (.if_icmp .eq 475, 3, 0, 0, 0, .null)),
  (804, (.iconst 0, 1, 0, 0, 0, .int 0)),
  (805, (.ireturn, 1, 0, 0, 0, .null)),
  (806, (.aload_n 1, 1, 0, 0, 0, .null)),
  (807, (.aload_n 0, 1, 0, 0, 0, .null)),
  (808, (.iload 4, 2, 0, 0, 0, .null)),
  (810, (.iconst 1, 1, 0, 0, 0, .int 1)),
  (811, (.iadd, 1, 0, 0, 0, .null)),
  (812, (.iaload, 1, 0, 0, 0, .null)),
  (813, (.invokevirtual 108, 3, 107, 2, 947, .null)),
  (816, (.aload_n 2, 1, 0, 0, 0, .null)),
  (817, (.aload_n 0, 1, 0, 0, 0, .null)),
  (818, (.iload 4, 2, 0, 0, 0, .null)),
  (820, (.iconst 1, 1, 0, 0, 0, .int 1)),
  (821, (.iadd, 1, 0, 0, 0, .null)),
  (822, (.iaload, 1, 0, 0, 0, .null)),
  (823, (.invokevirtual 111, 3, 220, 2, 1608, .null)),
  (826, (.if_icmp .eq 450, 3, 0, 0, 0, .null)),
  (829, (.iconst 0, 1, 0, 0, 0, .int 0)),
  (830, (.ireturn, 1, 0, 0, 0, .null)),
  (831, (.aload_n 1, 1, 0, 0, 0, .null)),
  (832, (.aload_n 0, 1, 0, 0, 0, .null)),
  (833, (.iload 4, 2, 0, 0, 0, .null)),
  (835, (.iconst 1, 1, 0, 0, 0, .int 1)),
  (836, (.iadd, 1, 0, 0, 0, .null)),
  (837, (.iaload, 1, 0, 0, 0, .null)),
  (838, (.aload_n 0, 1, 0, 0, 0, .null)),
  (839, (.iload 4, 2, 0, 0, 0, .null)),
  (841, (.iconst 2, 1, 0, 0, 0, .int 2)),
  (842, (.iadd, 1, 0, 0, 0, .null)),
  (843, (.iaload, 1, 0, 0, 0, .null)),
  (844, (.invokevirtual 112, 3, 109, 3, 955, .null)),
  (847, (.aload_n 2, 1, 0, 0, 0, .null)),
  (848, (.aload_n 0, 1, 0, 0, 0, .null)),
  (849, (.iload 4, 2, 0, 0, 0, .null)),
  (851, (.iconst 1, 1, 0, 0, 0, .int 1)),
  (852, (.iadd, 1, 0, 0, 0, .null)),
  (853, (.iaload, 1, 0, 0, 0, .null)),
  (854, (.aload_n 0, 1, 0, 0, 0, .null)),
  (855, (.iload 4, 2, 0, 0, 0, .null)),
  (857, (.iconst 2, 1, 0, 0, 0, .int 2)),
  (858, (.iadd, 1, 0, 0, 0, .null)),
  (859, (.iaload, 1, 0, 0, 0, .null)),
  (860, (.invokevirtual 115, 3, 222, 3, 1616, .null)),
  (863, (.if_icmp .eq 413, 3, 0, 0, 0, .null)),
  (866, (.iconst 0, 1, 0, 0, 0, .int 0)),
  (867, (.ireturn, 1, 0, 0, 0, .null)),
  (868, (.aload_n 1, 1, 0, 0, 0, .null)),
  (869, (.invokevirtual 116, 3, 110, 1, 963, .null)),
  (872, (.aload_n 2, 1, 0, 0, 0, .null)),
  (873, (.invokevirtual 119, 3, 224, 1, 1620, .null)),
  (876, (.if_icmp .eq 400, 3, 0, 0, 0, .null)),
  (879, (.iconst 0, 1, 0, 0, 0, .int 0)),
  (880, (.ireturn, 1, 0, 0, 0, .null)),
  (881, (.aload_n 1, 1, 0, 0, 0, .null)),
  (882, (.invokevirtual 120, 3, 111, 1, 967, .null)),
  (885, (.aload_n 2, 1, 0, 0, 0, .null)),
  (886, (.invokevirtual 123, 3, 225, 1, 1628, .null)),
  (889, (.if_icmp .eq 387, 3, 0, 0, 0, .null)),
  (892, (.iconst 0, 1, 0, 0, 0, .int 0)),
  (893, (.ireturn, 1, 0, 0, 0, .null)),
  (894, (.aload_n 1, 1, 0, 0, 0, .null)),
  (895, (.aload_n 0, 1, 0, 0, 0, .null)),
  (896, (.iload 4, 2, 0, 0, 0, .null)),
  (898, (.iconst 1, 1, 0, 0, 0, .int 1)),
  (899, (.iadd, 1, 0, 0, 0, .null)),
  (900, (.iaload, 1, 0, 0, 0, .null)),
  (901, (.aload_n 0, 1, 0, 0, 0, .null)),
  (902, (.iload 4, 2, 0, 0, 0, .null)),
  (904, (.iconst 2, 1, 0, 0, 0, .int 2)),
  (905, (.iadd, 1, 0, 0, 0, .null)),
  (906, (.iaload, 1, 0, 0, 0, .null)),
  (907, (.invokevirtual 124, 3, 113, 3, 976, .null)),
  (910, (.aload_n 2, 1, 0, 0, 0, .null)),
  (911, (.aload_n 0, 1, 0, 0, 0, .null)),
  (912, (.iload 4, 2, 0, 0, 0, .null)),
  (914, (.iconst 1, 1, 0, 0, 0, .int 1)),
  (915, (.iadd, 1, 0, 0, 0, .null)),
  (916, (.iaload, 1, 0, 0, 0, .null)),
  (917, (.aload_n 0, 1, 0, 0, 0, .null)),
  (918, (.iload 4, 2, 0, 0, 0, .null)),
  (920, (.iconst 2, 1, 0, 0, 0, .int 2)),
  (921, (.iadd, 1, 0, 0, 0, .null)),
  (922, (.iaload, 1, 0, 0, 0, .null)),
  (923, (.invokevirtual 127, 3, 226, 3, 1632, .null)),
  (926, (.if_icmp .eq 350, 3, 0, 0, 0, .null)),
  (929, (.iconst 0, 1, 0, 0, 0, .int 0)),
  (930, (.ireturn, 1, 0, 0, 0, .null)),
  (931, (.aload_n 1, 1, 0, 0, 0, .null)),
  (932, (.invokevirtual 128, 3, 115, 1, 984, .null)),
  (935, (.aload_n 2, 1, 0, 0, 0, .null)),
  (936, (.invokevirtual 131, 3, 227, 1, 1636, .null)),
  (939, (.if_icmp .eq 337, 3, 0, 0, 0, .null)),
  (942, (.iconst 0, 1, 0, 0, 0, .int 0)),
  (943, (.ireturn, 1, 0, 0, 0, .null)),
  (944, (.aload_n 1, 1, 0, 0, 0, .null)),
  (945, (.invokevirtual 132, 3, 116, 1, 988, .null)),
  (948, (.aload_n 2, 1, 0, 0, 0, .null)),
  (949, (.invokevirtual 135, 3, 228, 1, 1640, .null)),
  (952, (.if_icmp .eq 324, 3, 0, 0, 0, .null)),
  (955, (.iconst 0, 1, 0, 0, 0, .int 0)),
  (956, (.ireturn, 1, 0, 0, 0, .null)),
  (957, (.aload_n 1, 1, 0, 0, 0, .null)),
  (958, (.invokevirtual 136, 3, 117, 1, 992, .null)),
  (961, (.aload_n 2, 1, 0, 0, 0, .null)),
  (962, (.invokevirtual 139, 3, 230, 1, 1648, .null)),
  (965, (.if_icmp .eq 311, 3, 0, 0, 0, .null)),
  (968, (.iconst 0, 1, 0, 0, 0, .int 0)),
  (969, (.ireturn, 1, 0, 0, 0, .null)),
  (970, (.aload_n 1, 1, 0, 0, 0, .null)),
  (971, (.aload_n 0, 1, 0, 0, 0, .null)),
  (972, (.iload 4, 2, 0, 0, 0, .null)),
  (974, (.iconst 1, 1, 0, 0, 0, .int 1)),
  (975, (.iadd, 1, 0, 0, 0, .null)),
  (976, (.iaload, 1, 0, 0, 0, .null)),
  (977, (.invokevirtual 140, 3, 118, 2, 996, .null)),
  (980, (.aload_n 2, 1, 0, 0, 0, .null)),
  (981, (.aload_n 0, 1, 0, 0, 0, .null)),
  (982, (.iload 4, 2, 0, 0, 0, .null)),
  (984, (.iconst 1, 1, 0, 0, 0, .int 1)),
  (985, (.iadd, 1, 0, 0, 0, .null)),
  (986, (.iaload, 1, 0, 0, 0, .null)),
  (987, (.invokevirtual 143, 3, 229, 2, 1644, .null)),
  (990, (.if_icmp .eq 286, 3, 0, 0, 0, .null)),
  (993, (.iconst 0, 1, 0, 0, 0, .int 0)),
  (994, (.ireturn, 1, 0, 0, 0, .null)),
  (995, (.aload_n 1, 1, 0, 0, 0, .null)),
  (996, (.invokevirtual 144, 3, 119, 1, 1000, .null)),
  (999, (.aload_n 2, 1, 0, 0, 0, .null)),
  (1000, (.invokevirtual 147, 3, 221, 1, 1612, .null)),
  (1003, (.if_icmp .eq 273, 3, 0, 0, 0, .null)),
  (1006, (.iconst 0, 1, 0, 0, 0, .int 0)),
  (1007, (.ireturn, 1, 0, 0, 0, .null)),
  (1008, (.aload_n 1, 1, 0, 0, 0, .null)),
  (1009, (.aload_n 0, 1, 0, 0, 0, .null)),
  (1010, (.iload 4, 2, 0, 0, 0, .null)),
  (1012, (.iconst 1, 1, 0, 0, 0, .int 1)),
  (1013, (.iadd, 1, 0, 0, 0, .null)),
  (1014, (.iaload, 1, 0, 0, 0, .null)),
  (1015, (.aload_n 0, 1, 0, 0, 0, .null)),
  (1016, (.iload 4, 2, 0, 0, 0, .null)),
  (1018, (.iconst 2, 1, 0, 0, 0, .int 2)),
  (1019, (.iadd, 1, 0, 0, 0, .null)),
  (1020, (.iaload, 1, 0, 0, 0, .null)),
  (1021, (.aload_n 0, 1, 0, 0, 0, .null)),
  (1022, (.iload 4, 2, 0, 0, 0, .null)),
  (1024, (.iconst 3, 1, 0, 0, 0, .int 3)),
  (1025, (.iadd, 1, 0, 0, 0, .null)),
  (1026, (.iaload, 1, 0, 0, 0, .null)),
  (1027, (.invokevirtual 148, 3, 120, 4, 1004, .null)),
  (1030, (.aload_n 2, 1, 0, 0, 0, .null)),
  (1031, (.aload_n 0, 1, 0, 0, 0, .null)),
  (1032, (.iload 4, 2, 0, 0, 0, .null)),
  (1034, (.iconst 1, 1, 0, 0, 0, .int 1)),
  (1035, (.iadd, 1, 0, 0, 0, .null)),
  (1036, (.iaload, 1, 0, 0, 0, .null)),
  (1037, (.aload_n 0, 1, 0, 0, 0, .null)),
  (1038, (.iload 4, 2, 0, 0, 0, .null)),
  (1040, (.iconst 2, 1, 0, 0, 0, .int 2)),
  (1041, (.iadd, 1, 0, 0, 0, .null)),
  (1042, (.iaload, 1, 0, 0, 0, .null)),
  (1043, (.aload_n 0, 1, 0, 0, 0, .null)),
  (1044, (.iload 4, 2, 0, 0, 0, .null)),
  (1046, (.iconst 3, 1, 0, 0, 0, .int 3)),
  (1047, (.iadd, 1, 0, 0, 0, .null)),
  (1048, (.iaload, 1, 0, 0, 0, .null)),
  (1049, (.invokevirtual 152, 3, 231, 4, 1652, .null)),
  (1052, (.if_icmp .eq 224, 3, 0, 0, 0, .null)),
  (1055, (.iconst 0, 1, 0, 0, 0, .int 0)),
  (1056, (.ireturn, 1, 0, 0, 0, .null)),
  (1057, (.aload_n 1, 1, 0, 0, 0, .null)),
  (1058, (.aload_n 0, 1, 0, 0, 0, .null)),
  (1059, (.iload 4, 2, 0, 0, 0, .null)),
  (1061, (.iconst 1, 1, 0, 0, 0, .int 1)),
  (1062, (.iadd, 1, 0, 0, 0, .null)),
  (1063, (.iaload, 1, 0, 0, 0, .null)),
  (1064, (.aload_n 0, 1, 0, 0, 0, .null)),
  (1065, (.iload 4, 2, 0, 0, 0, .null)),
  (1067, (.iconst 2, 1, 0, 0, 0, .int 2)),
  (1068, (.iadd, 1, 0, 0, 0, .null)),
  (1069, (.iaload, 1, 0, 0, 0, .null)),
  (1070, (.aload_n 0, 1, 0, 0, 0, .null)),
  (1071, (.iload 4, 2, 0, 0, 0, .null)),
  (1073, (.iconst 3, 1, 0, 0, 0, .int 3)),
  (1074, (.iadd, 1, 0, 0, 0, .null)),
  (1075, (.iaload, 1, 0, 0, 0, .null)),
  (1076, (.aload_n 0, 1, 0, 0, 0, .null)),
  (1077, (.iload 4, 2, 0, 0, 0, .null)),
  (1079, (.iconst 4, 1, 0, 0, 0, .int 4)),
  (1080, (.iadd, 1, 0, 0, 0, .null)),
  (1081, (.iaload, 1, 0, 0, 0, .null)),
  (1082, (.aload_n 3, 1, 0, 0, 0, .null)),
  (1083, (.invokestatic 153, 3, 903, 6, 1066, .null)),
  (1086, (.istore 5, 2, 0, 0, 0, .null)),
  (1088, (.aload_n 2, 1, 0, 0, 0, .null)),
  (1089, (.aload_n 0, 1, 0, 0, 0, .null)),
  (1090, (.iload 4, 2, 0, 0, 0, .null)),
  (1092, (.iconst 1, 1, 0, 0, 0, .int 1)),
  (1093, (.iadd, 1, 0, 0, 0, .null)),
  (1094, (.iaload, 1, 0, 0, 0, .null)),
  (1095, (.aload_n 0, 1, 0, 0, 0, .null)),
  (1096, (.iload 4, 2, 0, 0, 0, .null)),
  (1098, (.iconst 2, 1, 0, 0, 0, .int 2)),
  (1099, (.iadd, 1, 0, 0, 0, .null)),
  (1100, (.iaload, 1, 0, 0, 0, .null)),
  (1101, (.aload_n 0, 1, 0, 0, 0, .null)),
  (1102, (.iload 4, 2, 0, 0, 0, .null)),
  (1104, (.iconst 3, 1, 0, 0, 0, .int 3)),
  (1105, (.iadd, 1, 0, 0, 0, .null)),
  (1106, (.iaload, 1, 0, 0, 0, .null)),
  (1107, (.aload_n 0, 1, 0, 0, 0, .null)),
  (1108, (.iload 4, 2, 0, 0, 0, .null)),
  (1110, (.iconst 4, 1, 0, 0, 0, .int 4)),
  (1111, (.iadd, 1, 0, 0, 0, .null)),
  (1112, (.iaload, 1, 0, 0, 0, .null)),
  (1113, (.invokevirtual 158, 3, 233, 5, 1657, .null)),
  (1116, (.istore 6, 2, 0, 0, 0, .null)),
  (1118, (.aload_n 2, 1, 0, 0, 0, .null)),
  (1119, (.invokevirtual 159, 3, 134, 1, 1143, .null)),
  (1122, (.iload 5, 2, 0, 0, 0, .null)),
  (1124, (.if_icmp .eq 5, 3, 0, 0, 0, .null)),
  (1127, (.iconst 0, 1, 0, 0, 0, .int 0)),
  (1128, (.ireturn, 1, 0, 0, 0, .null)),
  (1129, (.iload 5, 2, 0, 0, 0, .null)),
  (1131, (.ifCond .ne 15, 3, 0, 0, 0, .null)),
  (1134, (.aload_n 3, 1, 0, 0, 0, .null)),
  (1135, (.iconst 0, 1, 0, 0, 0, .int 0)),
  (1136, (.laload, 1, 0, 0, 0, .null)),
  (1137, (.iload 6, 2, 0, 0, 0, .null)),
  (1139, (.i2l, 1, 0, 0, 0, .null)),
  (1140, (.lcmp, 1, 0, 0, 0, .null)),
  (1141, (.ifCond .eq 5, 3, 0, 0, 0, .null)),
  (1144, (.iconst 0, 1, 0, 0, 0, .int 0)),
  (1145, (.ireturn, 1, 0, 0, 0, .null)),
  (1146, (.goto 130, 3, 0, 0, 0, .null)),
  (1149, (.aload_n 1, 1, 0, 0, 0, .null)),
  (1150, (.aload_n 0, 1, 0, 0, 0, .null)),
  (1151, (.iload 4, 2, 0, 0, 0, .null)),
  (1153, (.iconst 1, 1, 0, 0, 0, .int 1)),
  (1154, (.iadd, 1, 0, 0, 0, .null)),
  (1155, (.iaload, 1, 0, 0, 0, .null)),
  (1156, (.aload_n 0, 1, 0, 0, 0, .null)),
  (1157, (.iload 4, 2, 0, 0, 0, .null)),
  (1159, (.iconst 2, 1, 0, 0, 0, .int 2)),
  (1160, (.iadd, 1, 0, 0, 0, .null)),
  (1161, (.iaload, 1, 0, 0, 0, .null)),
  (1162, (.aload_n 0, 1, 0, 0, 0, .null)),
  (1163, (.iload 4, 2, 0, 0, 0, .null)),
  (1165, (.iconst 3, 1, 0, 0, 0, .int 3)),
  (1166, (.iadd, 1, 0, 0, 0, .null)),
  (1167, (.iaload, 1, 0, 0, 0, .null)),
  (1168, (.invokevirtual 162, 3, 124, 4, 1019, .null)),
  (1171, (.aload_n 2, 1, 0, 0, 0, .null)),
  (1172, (.aload_n 0, 1, 0, 0, 0, .null)),
  (1173, (.iload 4, 2, 0, 0, 0, .null)),
  (1175, (.iconst 1, 1, 0, 0, 0, .int 1)),
  (1176, (.iadd, 1, 0, 0, 0, .null)),
  (1177, (.iaload, 1, 0, 0, 0, .null)),
  (1178, (.aload_n 0, 1, 0, 0, 0, .null)),
  (1179, (.iload 4, 2, 0, 0, 0, .null)),
  (1181, (.iconst 2, 1, 0, 0, 0, .int 2)),
  (1182, (.iadd, 1, 0, 0, 0, .null)),
  (1183, (.iaload, 1, 0, 0, 0, .null)),
  (1184, (.aload_n 0, 1, 0, 0, 0, .null)),
  (1185, (.iload 4, 2, 0, 0, 0, .null)),
  (1187, (.iconst 3, 1, 0, 0, 0, .int 3)),
  (1188, (.iadd, 1, 0, 0, 0, .null)),
  (1189, (.iaload, 1, 0, 0, 0, .null)),
  (1190, (.invokevirtual 165, 3, 236, 4, 1664, .null)),
  (1193, (.if_icmp .eq 83, 3, 0, 0, 0, .null)),
  (1196, (.iconst 0, 1, 0, 0, 0, .int 0)),
  (1197, (.ireturn, 1, 0, 0, 0, .null)),
  (1198, (.aload_n 1, 1, 0, 0, 0, .null)),
  (1199, (.aload_n 0, 1, 0, 0, 0, .null)),
  (1200, (.iload 4, 2, 0, 0, 0, .null)),
  (1202, (.iconst 1, 1, 0, 0, 0, .int 1)),
  (1203, (.iadd, 1, 0, 0, 0, .null)),
  (1204, (.iaload, 1, 0, 0, 0, .null)),
  (1205, (.aload_n 0, 1, 0, 0, 0, .null)),
  (1206, (.iload 4, 2, 0, 0, 0, .null)),
  (1208, (.iconst 2, 1, 0, 0, 0, .int 2)),
  (1209, (.iadd, 1, 0, 0, 0, .null)),
  (1210, (.iaload, 1, 0, 0, 0, .null)),
  (1211, (.ifCond .eq 7, 3, 0, 0, 0, .null)),
  (1214, (.iconst 1, 1, 0, 0, 0, .int 1)),
  (1215, (.goto 4, 3, 0, 0, 0, .null)),
  (1218, (.iconst 0, 1, 0, 0, 0, .int 0)),
  (1219, (.invokevirtual 166, 3, 127, 3, 1039, .null)),
  (1222, (.aload_n 2, 1, 0, 0, 0, .null)),
  (1223, (.aload_n 0, 1, 0, 0, 0, .null)),
  (1224, (.iload 4, 2, 0, 0, 0, .null)),
  (1226, (.iconst 1, 1, 0, 0, 0, .int 1)),
  (1227, (.iadd, 1, 0, 0, 0, .null)),
  (1228, (.iaload, 1, 0, 0, 0, .null)),
  (1229, (.aload_n 0, 1, 0, 0, 0, .null)),
  (1230, (.iload 4, 2, 0, 0, 0, .null)),
  (1232, (.iconst 2, 1, 0, 0, 0, .int 2)),
  (1233, (.iadd, 1, 0, 0, 0, .null)),
  (1234, (.iaload, 1, 0, 0, 0, .null)),
  (1235, (.ifCond .eq 7, 3, 0, 0, 0, .null)),
  (1238, (.iconst 1, 1, 0, 0, 0, .int 1)),
  (1239, (.goto 4, 3, 0, 0, 0, .null)),
  (1242, (.iconst 0, 1, 0, 0, 0, .int 0)),
  (1243, (.invokevirtual 170, 3, 237, 3, 1680, .null)),
  (1246, (.if_icmp .eq 30, 3, 0, 0, 0, .null)),
  (1249, (.iconst 0, 1, 0, 0, 0, .int 0)),
  (1250, (.ireturn, 1, 0, 0, 0, .null)),
  (1251, (.aload_n 1, 1, 0, 0, 0, .null)),
  (1252, (.aload_n 0, 1, 0, 0, 0, .null)),
  (1253, (.iload 4, 2, 0, 0, 0, .null)),
  (1255, (.iconst 1, 1, 0, 0, 0, .int 1)),
  (1256, (.iadd, 1, 0, 0, 0, .null)),
  (1257, (.iaload, 1, 0, 0, 0, .null)),
  (1258, (.invokevirtual 171, 3, 128, 2, 1054, .null)),
  (1261, (.aload_n 2, 1, 0, 0, 0, .null)),
  (1262, (.aload_n 0, 1, 0, 0, 0, .null)),
  (1263, (.iload 4, 2, 0, 0, 0, .null)),
  (1265, (.iconst 1, 1, 0, 0, 0, .int 1)),
  (1266, (.iadd, 1, 0, 0, 0, .null)),
  (1267, (.iaload, 1, 0, 0, 0, .null)),
  (1268, (.invokevirtual 174, 3, 240, 2, 1684, .null)),
  (1271, (.if_icmp .eq 5, 3, 0, 0, 0, .null)),
  (1274, (.iconst 0, 1, 0, 0, 0, .int 0)),
  (1275, (.ireturn, 1, 0, 0, 0, .null)),
  (1276, (.iinc 4 7, 3, 0, 0, 0, .int 7)),
  (1279, (.goto (-1256), 3, 0, 0, 0, .null)),
  (1282, (.iconst 1, 1, 0, 0, 0, .int 1)),
  (1283, (.ireturn, 1, 0, 0, 0, .null))]
def qL_law : am_Q := (yL_law, cL_law, 7, 2, 1, 1, am_at kL_law)
/-- the script, read where no cell of the law lies -/
def am_aS (sc : Nat × (Nat → Int32)) (h : am_H) (j : Int32) : Option Int32 := if h.length ≤ am_SB ∧ ¬ (j < 0 ∨ sc.1 ≤ j.toNatClampNeg) then some (sc.2 j.toNatClampNeg) else none
def am_lS (sc : Nat × (Nat → Int32)) (h : am_H) : Option Int32 := if h.length ≤ am_SB then some (Int32.ofNat sc.1) else none
theorem am_none {h : am_H} (hl : h.length ≤ am_SB) : h[am_SC]? = none := List.getElem?_eq_none (Nat.le_trans hl (by decide))
theorem am_G.aS {sc : Nat × (Nat → Int32)} {C : am_C} {cd : Nat → Option am_I} {P : am_F × am_H → Prop} {pc : Nat} {ls : am_L} {r : List Value} {h : am_H} {z : Nat × Nat × Nat × Value} {j x : Int32} (hc : cd pc = some (.iaload, 1, z)) (e : am_aS sc h j = some x) (k : am_G sc C cd P ((pc + 1, ls, .int x :: r), h)) : am_G sc C cd P ((pc, ls, .int j :: .ref 2000000 :: r), h) := by
  unfold am_aS at e
  split at e
  · rename_i hh
    cases e
    obtain ⟨z1, z2, z3, z4⟩ := z
    refine am_G.hp hc rfl rfl ?_ k
    have hn : h[2000000]? = none := am_none hh.1
    have hg : am_aI h 0 2000000 j = none := by
      unfold am_aI
      rw [hn]
    show (match am_aI h 0 2000000 j with
      | some v => some (Value.int v :: r, h)
      | none => if 2000000 = am_SC ∧ ¬ (j < 0 ∨ sc.1 ≤ j.toNatClampNeg) then some (Value.int (sc.2 j.toNatClampNeg) :: r, h) else none) = _
    rw [hg]
    exact if_pos ⟨rfl, hh.2⟩
  · cases e
theorem am_G.lS {sc : Nat × (Nat → Int32)} {C : am_C} {cd : Nat → Option am_I} {P : am_F × am_H → Prop} {pc : Nat} {ls : am_L} {r : List Value} {h : am_H} {z : Nat × Nat × Nat × Value} {x : Int32} (hc : cd pc = some (.arraylength, 1, z)) (e : am_lS sc h = some x) (k : am_G sc C cd P ((pc + 1, ls, .int x :: r), h)) : am_G sc C cd P ((pc, ls, .ref 2000000 :: r), h) := by
  unfold am_lS at e
  split at e
  · rename_i hh
    cases e
    obtain ⟨z1, z2, z3, z4⟩ := z
    refine am_G.hp hc rfl rfl ?_ k
    have hn : h[2000000]? = none := am_none hh
    have hg : am_len h 2000000 = none := by
      unfold am_len
      rw [hn]
    show (match am_len h 2000000 with
      | some v => some (Value.int v :: r, h)
      | none => if 2000000 = am_SC then some (Value.int (Int32.ofNat sc.1) :: r, h) else none) = _
    rw [hg]
    exact if_pos rfl
  · cases e
/-- DateValeLaw.rests: what the class's rests answers into out, or that it threw -/
def fL_rests (x : Nat) (p0 p1 p2 p3 : Int32) (o : Nat) (h : am_H) : Option (Int32 × am_H) := match h[x]?, h[o]? with
  | some (.inr (8, _)), some (.inl (1, n, .inr (.inl f))) => if 0 < n then (match am_rests p0 p1 p2 p3 with
    | some r => some (0, h.set o (.inl (1, n, .inr (.inl (vp_updL f 0 r.toInt64)))))
    | none => if h.length < am_SB then some (1, h ++ [.inr (10, [])]) else none) else none
  | _, _ => none
theorem lL_rests {sc : Nat × (Nat → Int32)} {d x o : Nat} {p0 p1 p2 p3 r : Int32} {h h1 : am_H} (H : fL_rests x p0 p1 p2 p3 o h = some (r, h1)) : am_Cl am_T am_N sc (d + 9) 903 [.ref x, .int p0, .int p1, .int p2, .int p3, .ref o] h (some (.int r)) h1 := by
  refine Or.inr ⟨rfl, by omega, Or.inr (Or.inr ⟨rfl, ?_⟩)⟩
  unfold fL_rests at H
  split at H
  · rename_i fs n f g1 g2
    split at H
    · rename_i hn
      refine ⟨x, p0, p1, p2, p3, o, n, f, fs, rfl, g1, g2, hn, ?_⟩
      split at H
      · rename_i r' hr
        obtain ⟨rfl, rfl⟩ := am_inj2 H
        rw [hr]
        exact ⟨rfl, rfl⟩
      · rename_i hr
        split at H
        · rename_i hl
          obtain ⟨rfl, rfl⟩ := am_inj2 H
          rw [hr]
          exact ⟨rfl, hl, rfl⟩
        · cases H
    · cases H
  · cases H
def fL_law_L23 (sc : Nat × (Nat → Int32)) : Nat → Nat → Nat → Nat → Int32 → am_H → Option ((am_H) ⊕ (Int32 × am_H))
  | 0, _, _, _, _, _ => none
  | n + 1, v1, v2, v3, v4, h =>
    (am_lS sc h).bind fun n14 =>
    if (n14 - ((7 : Int32))) < v4 then
      some (.inl h)
    else
      (am_aS sc h v4).bind fun x17 =>
      if (x17 &&& ((63 : Int32))).toInt < 0 ∨ 34 < (x17 &&& ((63 : Int32))).toInt then
        fL_law_L23 sc n v1 v2 v3 (v4 + (7 : Int32)) h
      else (some ((x17 &&& ((63 : Int32))).toInt - 0).toNat).bind fun k20 =>
      if k20 = 0 then
        (am_aS sc h (v4 + ((1 : Int32)))).bind fun x22 =>
        (am_aS sc h (v4 + ((2 : Int32)))).bind fun x24 =>
        (am_aS sc h (v4 + ((3 : Int32)))).bind fun x26 =>
        (am_aS sc h (v4 + ((4 : Int32)))).bind fun x28 =>
        (am_aS sc h (v4 + ((5 : Int32)))).bind fun x30 =>
        (am_aS sc h (v4 + ((6 : Int32)))).bind fun x32 =>
        am_b2 (fX9_feed v1 ((x22.toInt64 <<< (((32 : Int32)).toInt64 &&& 63)) ||| (x24.toInt64 &&& ((4294967295 : Int64)))) ((x26.toInt64 <<< (((32 : Int32)).toInt64 &&& 63)) ||| (x28.toInt64 &&& ((4294967295 : Int64)))) ((x30.toInt64 <<< (((32 : Int32)).toInt64 &&& 63)) ||| (x32.toInt64 &&& ((4294967295 : Int64)))) h) fun x35 hh36 =>
        (am_aS sc hh36 (v4 + ((1 : Int32)))).bind fun x37 =>
        (am_aS sc hh36 (v4 + ((2 : Int32)))).bind fun x39 =>
        (am_aS sc hh36 (v4 + ((3 : Int32)))).bind fun x41 =>
        (am_aS sc hh36 (v4 + ((4 : Int32)))).bind fun x43 =>
        (am_aS sc hh36 (v4 + ((5 : Int32)))).bind fun x45 =>
        (am_aS sc hh36 (v4 + ((6 : Int32)))).bind fun x47 =>
        am_b2 (fX10_feed v2 ((x37.toInt64 <<< (((32 : Int32)).toInt64 &&& 63)) ||| (x39.toInt64 &&& ((4294967295 : Int64)))) ((x41.toInt64 <<< (((32 : Int32)).toInt64 &&& 63)) ||| (x43.toInt64 &&& ((4294967295 : Int64)))) ((x45.toInt64 <<< (((32 : Int32)).toInt64 &&& 63)) ||| (x47.toInt64 &&& ((4294967295 : Int64)))) hh36) fun x50 hh51 =>
        if x35 = x50 then
          fL_law_L23 sc n v1 v2 v3 (v4 + (7 : Int32)) hh51
        else
          some (.inr ((0 : Int32), hh51))
      else if k20 = 1 then
        am_b2 (fX9_vale v1 h) fun x55 hh56 =>
        am_b2 (fX10_vale v2 hh56) fun x58 hh59 =>
        if x55 = x58 then
          fL_law_L23 sc n v1 v2 v3 (v4 + (7 : Int32)) hh59
        else
          some (.inr ((0 : Int32), hh59))
      else if k20 = 2 then
        am_b2 (fX9_year v1 h) fun x63 hh64 =>
        am_b2 (fX10_year v2 hh64) fun x66 hh67 =>
        if x63 = x66 then
          fL_law_L23 sc n v1 v2 v3 (v4 + (7 : Int32)) hh67
        else
          some (.inr ((0 : Int32), hh67))
      else if k20 = 3 then
        (am_aS sc h (v4 + ((1 : Int32)))).bind fun x70 =>
        (am_aS sc h (v4 + ((2 : Int32)))).bind fun x72 =>
        (fX9_house v1 x70 x72 h).bind fun x75 =>
        (am_aS sc h (v4 + ((1 : Int32)))).bind fun x76 =>
        (am_aS sc h (v4 + ((2 : Int32)))).bind fun x78 =>
        am_b2 (fX10_house v2 x76 x78 h) fun x81 hh82 =>
        if x75 = x81 then
          fL_law_L23 sc n v1 v2 v3 (v4 + (7 : Int32)) hh82
        else
          some (.inr ((0 : Int32), hh82))
      else if k20 = 4 then
        (am_aS sc h (v4 + ((1 : Int32)))).bind fun x85 =>
        (am_aS sc h (v4 + ((2 : Int32)))).bind fun x87 =>
        (fX9_day v1 x85 x87 h).bind fun x90 =>
        (am_aS sc h (v4 + ((1 : Int32)))).bind fun x91 =>
        (am_aS sc h (v4 + ((2 : Int32)))).bind fun x93 =>
        am_b2 (fX10_day v2 x91 x93 h) fun x96 hh97 =>
        if x90 = x96 then
          fL_law_L23 sc n v1 v2 v3 (v4 + (7 : Int32)) hh97
        else
          some (.inr ((0 : Int32), hh97))
      else if k20 = 5 then
        am_b2 (fX9_date v1 h) fun x101 hh102 =>
        am_b2 (fX10_date v2 hh102) fun x104 hh105 =>
        if x101 = x104 then
          fL_law_L23 sc n v1 v2 v3 (v4 + (7 : Int32)) hh105
        else
          some (.inr ((0 : Int32), hh105))
      else if k20 = 6 then
        (am_aS sc h (v4 + ((1 : Int32)))).bind fun x108 =>
        (am_aS sc h (v4 + ((2 : Int32)))).bind fun x110 =>
        am_b2 (fX9_move v1 x108 x110 h) fun x113 hh114 =>
        (am_aS sc hh114 (v4 + ((1 : Int32)))).bind fun x115 =>
        (am_aS sc hh114 (v4 + ((2 : Int32)))).bind fun x117 =>
        am_b2 (fX10_move v2 x115 x117 hh114) fun x120 hh121 =>
        if x113 = x120 then
          fL_law_L23 sc n v1 v2 v3 (v4 + (7 : Int32)) hh121
        else
          some (.inr ((0 : Int32), hh121))
      else if k20 = 7 then
        (am_aS sc h (v4 + ((1 : Int32)))).bind fun x124 =>
        am_b2 (fX9_send v1 x124 h) fun x127 hh128 =>
        (am_aS sc hh128 (v4 + ((1 : Int32)))).bind fun x129 =>
        am_b2 (fX10_send v2 x129 hh128) fun x132 hh133 =>
        if x127 = x132 then
          fL_law_L23 sc n v1 v2 v3 (v4 + (7 : Int32)) hh133
        else
          some (.inr ((0 : Int32), hh133))
      else if k20 = 8 then
        (am_aS sc h (v4 + ((1 : Int32)))).bind fun x136 =>
        am_b2 (fX9_build v1 x136 h) fun x139 hh140 =>
        (am_aS sc hh140 (v4 + ((1 : Int32)))).bind fun x141 =>
        am_b2 (fX10_build v2 x141 hh140) fun x144 hh145 =>
        if x139 = x144 then
          fL_law_L23 sc n v1 v2 v3 (v4 + (7 : Int32)) hh145
        else
          some (.inr ((0 : Int32), hh145))
      else if k20 = 9 then
        am_b2 (fX9_undo v1 h) fun x149 hh150 =>
        am_b2 (fX10_undo v2 hh150) fun x152 hh153 =>
        if x149 = x152 then
          fL_law_L23 sc n v1 v2 v3 (v4 + (7 : Int32)) hh153
        else
          some (.inr ((0 : Int32), hh153))
      else if k20 = 10 then
        (am_aS sc h (v4 + ((1 : Int32)))).bind fun x156 =>
        am_b2 (fX9_judged v1 x156 h) fun x159 hh160 =>
        (am_aS sc hh160 (v4 + ((1 : Int32)))).bind fun x161 =>
        am_b2 (fX10_judged v2 x161 hh160) fun x164 hh165 =>
        if x159 = x164 then
          fL_law_L23 sc n v1 v2 v3 (v4 + (7 : Int32)) hh165
        else
          some (.inr ((0 : Int32), hh165))
      else if k20 = 11 then
        (am_aS sc h (v4 + ((1 : Int32)))).bind fun x168 =>
        (am_aS sc h (v4 + ((2 : Int32)))).bind fun x170 =>
        am_b2 (fX9_where v1 x168 x170 h) fun x173 hh174 =>
        (am_aS sc hh174 (v4 + ((1 : Int32)))).bind fun x175 =>
        (am_aS sc hh174 (v4 + ((2 : Int32)))).bind fun x177 =>
        am_b2 (fX10_where v2 x175 x177 hh174) fun x180 hh181 =>
        if x173 = x180 then
          fL_law_L23 sc n v1 v2 v3 (v4 + (7 : Int32)) hh181
        else
          some (.inr ((0 : Int32), hh181))
      else if k20 = 12 then
        (am_aS sc h (v4 + ((1 : Int32)))).bind fun x184 =>
        am_b2 (fX9_next v1 x184 h) fun x187 hh188 =>
        (am_aS sc hh188 (v4 + ((1 : Int32)))).bind fun x189 =>
        am_b2 (fX10_next v2 x189 hh188) fun x192 hh193 =>
        if x187 = x192 then
          fL_law_L23 sc n v1 v2 v3 (v4 + (7 : Int32)) hh193
        else
          some (.inr ((0 : Int32), hh193))
      else if k20 = 13 then
        (am_aS sc h (v4 + ((1 : Int32)))).bind fun x196 =>
        am_b2 (fX9_gone v1 x196 h) fun x199 hh200 =>
        (am_aS sc hh200 (v4 + ((1 : Int32)))).bind fun x201 =>
        am_b2 (fX10_gone v2 x201 hh200) fun x204 hh205 =>
        if x199 = x204 then
          fL_law_L23 sc n v1 v2 v3 (v4 + (7 : Int32)) hh205
        else
          some (.inr ((0 : Int32), hh205))
      else if k20 = 14 then
        am_b2 (fX9_crowd v1 h) fun x209 hh210 =>
        am_b2 (fX10_crowd v2 hh210) fun x212 hh213 =>
        if x209 = x212 then
          fL_law_L23 sc n v1 v2 v3 (v4 + (7 : Int32)) hh213
        else
          some (.inr ((0 : Int32), hh213))
      else if k20 = 15 then
        (am_aS sc h (v4 + ((1 : Int32)))).bind fun x216 =>
        am_b2 (fX9_refused v1 x216 h) fun x219 hh220 =>
        (am_aS sc hh220 (v4 + ((1 : Int32)))).bind fun x221 =>
        am_b2 (fX10_refused v2 x221 hh220) fun x224 hh225 =>
        if x219 = x224 then
          fL_law_L23 sc n v1 v2 v3 (v4 + (7 : Int32)) hh225
        else
          some (.inr ((0 : Int32), hh225))
      else if k20 = 16 then
        (am_aS sc h (v4 + ((1 : Int32)))).bind fun x228 =>
        (am_aS sc h (v4 + ((2 : Int32)))).bind fun x230 =>
        am_b2 (fX9_meets v1 x228 x230 h) fun x233 hh234 =>
        (am_aS sc hh234 (v4 + ((1 : Int32)))).bind fun x235 =>
        (am_aS sc hh234 (v4 + ((2 : Int32)))).bind fun x237 =>
        am_b2 (fX10_meets v2 x235 x237 hh234) fun x240 hh241 =>
        if x233 = x240 then
          fL_law_L23 sc n v1 v2 v3 (v4 + (7 : Int32)) hh241
        else
          some (.inr ((0 : Int32), hh241))
      else if k20 = 17 then
        (am_aS sc h (v4 + ((1 : Int32)))).bind fun x244 =>
        (am_aS sc h (v4 + ((2 : Int32)))).bind fun x246 =>
        am_b2 (fX9_beds v1 x244 x246 h) fun x249 hh250 =>
        (am_aS sc hh250 (v4 + ((1 : Int32)))).bind fun x251 =>
        (am_aS sc hh250 (v4 + ((2 : Int32)))).bind fun x253 =>
        am_b2 (fX10_beds v2 x251 x253 hh250) fun x256 hh257 =>
        if x249 = x256 then
          fL_law_L23 sc n v1 v2 v3 (v4 + (7 : Int32)) hh257
        else
          some (.inr ((0 : Int32), hh257))
      else if k20 = 18 then
        am_b2 (fX9_laying v1 h) fun x261 hh262 =>
        am_b2 (fX10_laying v2 hh262) fun x264 hh265 =>
        if x261 = x264 then
          fL_law_L23 sc n v1 v2 v3 (v4 + (7 : Int32)) hh265
        else
          some (.inr ((0 : Int32), hh265))
      else if k20 = 19 then
        am_b2 (fX9_apart v1 h) fun x269 hh270 =>
        am_b2 (fX10_apart v2 hh270) fun x272 hh273 =>
        if x269 = x272 then
          fL_law_L23 sc n v1 v2 v3 (v4 + (7 : Int32)) hh273
        else
          some (.inr ((0 : Int32), hh273))
      else if k20 = 20 then
        (am_aS sc h (v4 + ((1 : Int32)))).bind fun x276 =>
        am_b2 (fX9_defer v1 x276 h) fun x279 hh280 =>
        (am_aS sc hh280 (v4 + ((1 : Int32)))).bind fun x281 =>
        am_b2 (fX10_defer v2 x281 hh280) fun x284 hh285 =>
        if x279 = x284 then
          fL_law_L23 sc n v1 v2 v3 (v4 + (7 : Int32)) hh285
        else
          some (.inr ((0 : Int32), hh285))
      else if k20 = 21 then
        (am_aS sc h (v4 + ((1 : Int32)))).bind fun x288 =>
        (am_aS sc h (v4 + ((2 : Int32)))).bind fun x290 =>
        am_b2 (fX9_see v1 x288 x290 h) fun x293 hh294 =>
        (am_aS sc hh294 (v4 + ((1 : Int32)))).bind fun x295 =>
        (am_aS sc hh294 (v4 + ((2 : Int32)))).bind fun x297 =>
        am_b2 (fX10_see v2 x295 x297 hh294) fun x300 hh301 =>
        if x293 = x300 then
          fL_law_L23 sc n v1 v2 v3 (v4 + (7 : Int32)) hh301
        else
          some (.inr ((0 : Int32), hh301))
      else if k20 = 22 then
        am_b2 (fX9_who v1 h) fun x305 hh306 =>
        am_b2 (fX10_who v2 hh306) fun x308 hh309 =>
        if x305 = x308 then
          fL_law_L23 sc n v1 v2 v3 (v4 + (7 : Int32)) hh309
        else
          some (.inr ((0 : Int32), hh309))
      else if k20 = 23 then
        am_b2 (fX9_look v1 h) fun x313 hh314 =>
        am_b2 (fX10_look v2 hh314) fun x316 hh317 =>
        if x313 = x316 then
          fL_law_L23 sc n v1 v2 v3 (v4 + (7 : Int32)) hh317
        else
          some (.inr ((0 : Int32), hh317))
      else if k20 = 24 then
        (am_aS sc h (v4 + ((1 : Int32)))).bind fun x320 =>
        (am_aS sc h (v4 + ((2 : Int32)))).bind fun x322 =>
        (fX9_through v1 x320 x322 h).bind fun x325 =>
        (am_aS sc h (v4 + ((1 : Int32)))).bind fun x326 =>
        (am_aS sc h (v4 + ((2 : Int32)))).bind fun x328 =>
        am_b2 (fX10_through v2 x326 x328 h) fun x331 hh332 =>
        if x325 = x331 then
          fL_law_L23 sc n v1 v2 v3 (v4 + (7 : Int32)) hh332
        else
          some (.inr ((0 : Int32), hh332))
      else if k20 = 25 then
        (fX9_quiet v1 h).bind fun x336 =>
        am_b2 (fX10_quiet v2 h) fun x338 hh339 =>
        if x336 = x338 then
          fL_law_L23 sc n v1 v2 v3 (v4 + (7 : Int32)) hh339
        else
          some (.inr ((0 : Int32), hh339))
      else if k20 = 26 then
        (fX9_peace v1 h).bind fun x343 =>
        am_b2 (fX10_peace v2 h) fun x345 hh346 =>
        if x343 = x345 then
          fL_law_L23 sc n v1 v2 v3 (v4 + (7 : Int32)) hh346
        else
          some (.inr ((0 : Int32), hh346))
      else if k20 = 27 then
        (fX9_loudest v1 h).bind fun x350 =>
        am_b2 (fX10_loudest v2 h) fun x352 hh353 =>
        if x350 = x352 then
          fL_law_L23 sc n v1 v2 v3 (v4 + (7 : Int32)) hh353
        else
          some (.inr ((0 : Int32), hh353))
      else if k20 = 28 then
        (am_aS sc h (v4 + ((1 : Int32)))).bind fun x356 =>
        (fX9_eldest v1 x356 h).bind fun x359 =>
        (am_aS sc h (v4 + ((1 : Int32)))).bind fun x360 =>
        am_b2 (fX10_eldest v2 x360 h) fun x363 hh364 =>
        if x359 = x363 then
          fL_law_L23 sc n v1 v2 v3 (v4 + (7 : Int32)) hh364
        else
          some (.inr ((0 : Int32), hh364))
      else if k20 = 29 then
        am_b2 (fX9_spare v1 h) fun x368 hh369 =>
        am_b2 (fX10_spare v2 hh369) fun x371 hh372 =>
        if x368 = x371 then
          fL_law_L23 sc n v1 v2 v3 (v4 + (7 : Int32)) hh372
        else
          some (.inr ((0 : Int32), hh372))
      else if k20 = 30 then
        (am_aS sc h (v4 + ((1 : Int32)))).bind fun x375 =>
        (am_aS sc h (v4 + ((2 : Int32)))).bind fun x377 =>
        (am_aS sc h (v4 + ((3 : Int32)))).bind fun x379 =>
        am_b2 (fX9_chance v1 x375 x377 x379 h) fun x382 hh383 =>
        (am_aS sc hh383 (v4 + ((1 : Int32)))).bind fun x384 =>
        (am_aS sc hh383 (v4 + ((2 : Int32)))).bind fun x386 =>
        (am_aS sc hh383 (v4 + ((3 : Int32)))).bind fun x388 =>
        am_b2 (fX10_chance v2 x384 x386 x388 hh383) fun x391 hh392 =>
        if x382 = x391 then
          fL_law_L23 sc n v1 v2 v3 (v4 + (7 : Int32)) hh392
        else
          some (.inr ((0 : Int32), hh392))
      else if k20 = 31 then
        (am_aS sc h (v4 + ((1 : Int32)))).bind fun x395 =>
        (am_aS sc h (v4 + ((2 : Int32)))).bind fun x397 =>
        (am_aS sc h (v4 + ((3 : Int32)))).bind fun x399 =>
        (am_aS sc h (v4 + ((4 : Int32)))).bind fun x401 =>
        am_b2 (fL_rests v1 x395 x397 x399 x401 v3 h) fun x404 hh405 =>
        (am_aS sc hh405 (v4 + ((1 : Int32)))).bind fun x406 =>
        (am_aS sc hh405 (v4 + ((2 : Int32)))).bind fun x408 =>
        (am_aS sc hh405 (v4 + ((3 : Int32)))).bind fun x410 =>
        (am_aS sc hh405 (v4 + ((4 : Int32)))).bind fun x412 =>
        am_b2 (fX10_rests v2 x406 x408 x410 x412 hh405) fun x415 hh416 =>
        (fX10_thrown v2 hh416).bind fun x418 =>
        if x418 = x404 then
          if ¬ x404 = 0 then
            fL_law_L23 sc n v1 v2 v3 (v4 + (7 : Int32)) hh416
          else
            (am_aL hh416 v3 ((0 : Int32))).bind fun x421 =>
            if (lg_cmp x421 x415.toInt64) = 0 then
              fL_law_L23 sc n v1 v2 v3 (v4 + (7 : Int32)) hh416
            else
              some (.inr ((0 : Int32), hh416))
        else
          some (.inr ((0 : Int32), hh416))
      else if k20 = 32 then
        (am_aS sc h (v4 + ((1 : Int32)))).bind fun x425 =>
        (am_aS sc h (v4 + ((2 : Int32)))).bind fun x427 =>
        (am_aS sc h (v4 + ((3 : Int32)))).bind fun x429 =>
        am_b2 (fX9_ages v1 x425 x427 x429 h) fun x432 hh433 =>
        (am_aS sc hh433 (v4 + ((1 : Int32)))).bind fun x434 =>
        (am_aS sc hh433 (v4 + ((2 : Int32)))).bind fun x436 =>
        (am_aS sc hh433 (v4 + ((3 : Int32)))).bind fun x438 =>
        am_b2 (fX10_ages v2 x434 x436 x438 hh433) fun x441 hh442 =>
        if x432 = x441 then
          fL_law_L23 sc n v1 v2 v3 (v4 + (7 : Int32)) hh442
        else
          some (.inr ((0 : Int32), hh442))
      else if k20 = 33 then
        (am_aS sc h (v4 + ((1 : Int32)))).bind fun x445 =>
        (am_aS sc h (v4 + ((2 : Int32)))).bind fun x447 =>
        Option.bind (
          if x447 = 0 then
            some ((0 : Int32))
          else
            some ((1 : Int32))) fun js449 =>
        am_b2 (fX9_mark v1 x445 js449 h) fun x452 hh453 =>
        (am_aS sc hh453 (v4 + ((1 : Int32)))).bind fun x454 =>
        (am_aS sc hh453 (v4 + ((2 : Int32)))).bind fun x456 =>
        Option.bind (
          if x456 = 0 then
            some ((0 : Int32))
          else
            some ((1 : Int32))) fun js458 =>
        am_b2 (fX10_mark v2 x454 js458 hh453) fun x461 hh462 =>
        if x452 = x461 then
          fL_law_L23 sc n v1 v2 v3 (v4 + (7 : Int32)) hh462
        else
          some (.inr ((0 : Int32), hh462))
      else if k20 = 34 then
        (am_aS sc h (v4 + ((1 : Int32)))).bind fun x467 =>
        (fX9_count v1 x467 h).bind fun x470 =>
        (am_aS sc h (v4 + ((1 : Int32)))).bind fun x471 =>
        am_b2 (fX10_count v2 x471 h) fun x474 hh475 =>
        if x470 = x474 then
          fL_law_L23 sc n v1 v2 v3 (v4 + (7 : Int32)) hh475
        else
          some (.inr ((0 : Int32), hh475))
      else none
def fL_law (sc : Nat × (Nat → Int32)) (h : am_H) : Option (Int32 × am_H) :=
  am_b2 (am_nO h 8) fun a1 hh2 =>
  (fX9_init a1 hh2).bind fun hh5 =>
  am_b2 (am_nO hh5 9) fun a6 hh7 =>
  (fX10_init a6 hh7).bind fun hh10 =>
  am_b2 (am_nA hh10 1 ((1 : Int32))) fun a11 hh12 =>
  (fL_law_L23 sc 4000 a1 a6 a11 ((0 : Int32)) hh12).bind fun o480 => match o480 with
    | .inl hh478 =>
      some ((1 : Int32), hh478)
    | .inr y481 => some y481
set_option maxHeartbeats 4000000 in
set_option maxRecDepth 100000 in
theorem lL_law_L23 {sc : Nat × (Nat → Int32)} : ∀ (n : Nat) (v1 : Nat) (v2 : Nat) (v3 : Nat) (v4 : Int32) (h : am_H) (o : (am_H) ⊕ (Int32 × am_H)), fL_law_L23 sc n v1 v2 v3 v4 h = some o → am_G sc (am_Cl am_T am_N sc 76) (am_at kL_law) (fun t => match o with
    | .inl h1 => t = ((1282, [none, none, none, none, none, none, none], []), h1)
    | .inr y => t.2 = y.2 ∧ am_ret 2 (am_at kL_law) t.1 = some (some (.int y.1))) ((23, [some (.ref 2000000), some (.ref v1), some (.ref v2), some (.ref v3), some (.int v4), none, none], []), h) := by
  intro n
  induction n with
  | zero => intro _ _ _ _ _ _ H; cases H
  | succ n ih =>
    intro v1 v2 v3 v4 h o H
    rw [fL_law_L23] at H
    refine am_G.fr 2 (g := (26, [some (.ref 2000000), some (.ref v1), some (.ref v2), some (.ref v3), some (.int v4), none, none], [.ref 2000000, .int v4])) rfl ?_
    obtain ⟨n14, e15, H⟩ := am_bd H
    refine am_G.lS rfl e15 ?_
    refine am_G.fr 2 (g := (30, [some (.ref 2000000), some (.ref v1), some (.ref v2), some (.ref v3), some (.int v4), none, none], [.int (n14 - ((7 : Int32))), .int v4])) rfl ?_
    by_cases c16 : (n14 - ((7 : Int32))) < v4
    · rw [if_pos c16] at H
      refine am_G.br (tgt := 1282) rfl rfl (if_pos c16) rfl ?_
      obtain rfl := Option.some.inj H
      refine am_G.fg [none, none, none, none, none, none, none] (by simp only [am_sub, and_self]) ?_
      exact am_G.nd rfl
    · rw [if_neg c16] at H
      refine am_G.br (tgt := 33) rfl rfl (if_neg c16) rfl ?_
      refine am_G.fr 2 (g := (36, [some (.ref 2000000), some (.ref v1), some (.ref v2), some (.ref v3), some (.int v4), none, none], [.int v4, .ref 2000000])) rfl ?_
      obtain ⟨x17, e18, H⟩ := am_bd H
      refine am_G.aS rfl e18 ?_
      refine am_G.fr 2 (g := (40, [some (.ref 2000000), some (.ref v1), some (.ref v2), some (.ref v3), some (.int v4), none, none], [.int (x17 &&& ((63 : Int32)))])) rfl ?_
      by_cases c19 : (x17 &&& ((63 : Int32))).toInt < 0 ∨ 34 < (x17 &&& ((63 : Int32))).toInt
      · rw [if_pos c19] at H
        refine am_G.swD (tgt := 1276) rfl c19 rfl ?_
        refine am_G.fr 2 (g := (23, [some (.ref 2000000), some (.ref v1), some (.ref v2), some (.ref v3), some (.int (v4 + (7 : Int32))), none, none], [])) rfl ?_
        exact ih _ _ _ _ _ _ H
      · rw [if_neg c19] at H
        obtain ⟨k20, e21, H⟩ := am_bd H
        by_cases c53 : k20 = 0
        · rw [if_pos c53] at H
          refine am_G.sw (tgt := 196) (k0 := 0) rfl c19 ((Option.some.inj e21).trans c53) rfl rfl ?_
          refine am_G.fr 5 (g := (202, [some (.ref 2000000), some (.ref v1), some (.ref v2), some (.ref v3), some (.int v4), none, none], [.int (v4 + ((1 : Int32))), .ref 2000000, .ref v1])) rfl ?_
          obtain ⟨x22, e23, H⟩ := am_bd H
          refine am_G.aS rfl e23 ?_
          refine am_G.fr 7 (g := (212, [some (.ref 2000000), some (.ref v1), some (.ref v2), some (.ref v3), some (.int v4), none, none], [.int (v4 + ((2 : Int32))), .ref 2000000, .long (x22.toInt64 <<< (((32 : Int32)).toInt64 &&& 63)), .ref v1])) rfl ?_
          obtain ⟨x24, e25, H⟩ := am_bd H
          refine am_G.aS rfl e25 ?_
          refine am_G.fr 8 (g := (224, [some (.ref 2000000), some (.ref v1), some (.ref v2), some (.ref v3), some (.int v4), none, none], [.int (v4 + ((3 : Int32))), .ref 2000000, .long ((x22.toInt64 <<< (((32 : Int32)).toInt64 &&& 63)) ||| (x24.toInt64 &&& ((4294967295 : Int64)))), .ref v1])) rfl ?_
          obtain ⟨x26, e27, H⟩ := am_bd H
          refine am_G.aS rfl e27 ?_
          refine am_G.fr 7 (g := (234, [some (.ref 2000000), some (.ref v1), some (.ref v2), some (.ref v3), some (.int v4), none, none], [.int (v4 + ((4 : Int32))), .ref 2000000, .long (x26.toInt64 <<< (((32 : Int32)).toInt64 &&& 63)), .long ((x22.toInt64 <<< (((32 : Int32)).toInt64 &&& 63)) ||| (x24.toInt64 &&& ((4294967295 : Int64)))), .ref v1])) rfl ?_
          obtain ⟨x28, e29, H⟩ := am_bd H
          refine am_G.aS rfl e29 ?_
          refine am_G.fr 8 (g := (246, [some (.ref 2000000), some (.ref v1), some (.ref v2), some (.ref v3), some (.int v4), none, none], [.int (v4 + ((5 : Int32))), .ref 2000000, .long ((x26.toInt64 <<< (((32 : Int32)).toInt64 &&& 63)) ||| (x28.toInt64 &&& ((4294967295 : Int64)))), .long ((x22.toInt64 <<< (((32 : Int32)).toInt64 &&& 63)) ||| (x24.toInt64 &&& ((4294967295 : Int64)))), .ref v1])) rfl ?_
          obtain ⟨x30, e31, H⟩ := am_bd H
          refine am_G.aS rfl e31 ?_
          refine am_G.fr 7 (g := (257, [some (.ref 2000000), some (.ref v1), some (.ref v2), some (.ref v3), some (.int v4), none, none], [.int (v4 + ((6 : Int32))), .ref 2000000, .long (x30.toInt64 <<< (((32 : Int32)).toInt64 &&& 63)), .long ((x26.toInt64 <<< (((32 : Int32)).toInt64 &&& 63)) ||| (x28.toInt64 &&& ((4294967295 : Int64)))), .long ((x22.toInt64 <<< (((32 : Int32)).toInt64 &&& 63)) ||| (x24.toInt64 &&& ((4294967295 : Int64)))), .ref v1])) rfl ?_
          obtain ⟨x32, e33, H⟩ := am_bd H
          refine am_G.aS rfl e33 ?_
          refine am_G.fr 4 (g := (264, [some (.ref 2000000), some (.ref v1), some (.ref v2), some (.ref v3), some (.int v4), none, none], [.long ((x30.toInt64 <<< (((32 : Int32)).toInt64 &&& 63)) ||| (x32.toInt64 &&& ((4294967295 : Int64)))), .long ((x26.toInt64 <<< (((32 : Int32)).toInt64 &&& 63)) ||| (x28.toInt64 &&& ((4294967295 : Int64)))), .long ((x22.toInt64 <<< (((32 : Int32)).toInt64 &&& 63)) ||| (x24.toInt64 &&& ((4294967295 : Int64)))), .ref v1])) rfl ?_
          obtain ⟨x35, hh36, e34, H⟩ := am_bd2 H
          refine am_G.cl [.ref v1, .long ((x22.toInt64 <<< (((32 : Int32)).toInt64 &&& 63)) ||| (x24.toInt64 &&& ((4294967295 : Int64)))), .long ((x26.toInt64 <<< (((32 : Int32)).toInt64 &&& 63)) ||| (x28.toInt64 &&& ((4294967295 : Int64)))), .long ((x30.toInt64 <<< (((32 : Int32)).toInt64 &&& 63)) ||| (x32.toInt64 &&& ((4294967295 : Int64))))] [] (am_Cl.mono (by decide) (lX9_feed e34)) rfl rfl rfl rfl (Nat.le_of_ble_eq_true rfl) ?_
          refine am_G.fr 5 (g := (273, [some (.ref 2000000), some (.ref v1), some (.ref v2), some (.ref v3), some (.int v4), none, none], [.int (v4 + ((1 : Int32))), .ref 2000000, .ref v2, .int x35])) rfl ?_
          obtain ⟨x37, e38, H⟩ := am_bd H
          refine am_G.aS rfl e38 ?_
          refine am_G.fr 7 (g := (283, [some (.ref 2000000), some (.ref v1), some (.ref v2), some (.ref v3), some (.int v4), none, none], [.int (v4 + ((2 : Int32))), .ref 2000000, .long (x37.toInt64 <<< (((32 : Int32)).toInt64 &&& 63)), .ref v2, .int x35])) rfl ?_
          obtain ⟨x39, e40, H⟩ := am_bd H
          refine am_G.aS rfl e40 ?_
          refine am_G.fr 8 (g := (295, [some (.ref 2000000), some (.ref v1), some (.ref v2), some (.ref v3), some (.int v4), none, none], [.int (v4 + ((3 : Int32))), .ref 2000000, .long ((x37.toInt64 <<< (((32 : Int32)).toInt64 &&& 63)) ||| (x39.toInt64 &&& ((4294967295 : Int64)))), .ref v2, .int x35])) rfl ?_
          obtain ⟨x41, e42, H⟩ := am_bd H
          refine am_G.aS rfl e42 ?_
          refine am_G.fr 7 (g := (305, [some (.ref 2000000), some (.ref v1), some (.ref v2), some (.ref v3), some (.int v4), none, none], [.int (v4 + ((4 : Int32))), .ref 2000000, .long (x41.toInt64 <<< (((32 : Int32)).toInt64 &&& 63)), .long ((x37.toInt64 <<< (((32 : Int32)).toInt64 &&& 63)) ||| (x39.toInt64 &&& ((4294967295 : Int64)))), .ref v2, .int x35])) rfl ?_
          obtain ⟨x43, e44, H⟩ := am_bd H
          refine am_G.aS rfl e44 ?_
          refine am_G.fr 8 (g := (317, [some (.ref 2000000), some (.ref v1), some (.ref v2), some (.ref v3), some (.int v4), none, none], [.int (v4 + ((5 : Int32))), .ref 2000000, .long ((x41.toInt64 <<< (((32 : Int32)).toInt64 &&& 63)) ||| (x43.toInt64 &&& ((4294967295 : Int64)))), .long ((x37.toInt64 <<< (((32 : Int32)).toInt64 &&& 63)) ||| (x39.toInt64 &&& ((4294967295 : Int64)))), .ref v2, .int x35])) rfl ?_
          obtain ⟨x45, e46, H⟩ := am_bd H
          refine am_G.aS rfl e46 ?_
          refine am_G.fr 7 (g := (328, [some (.ref 2000000), some (.ref v1), some (.ref v2), some (.ref v3), some (.int v4), none, none], [.int (v4 + ((6 : Int32))), .ref 2000000, .long (x45.toInt64 <<< (((32 : Int32)).toInt64 &&& 63)), .long ((x41.toInt64 <<< (((32 : Int32)).toInt64 &&& 63)) ||| (x43.toInt64 &&& ((4294967295 : Int64)))), .long ((x37.toInt64 <<< (((32 : Int32)).toInt64 &&& 63)) ||| (x39.toInt64 &&& ((4294967295 : Int64)))), .ref v2, .int x35])) rfl ?_
          obtain ⟨x47, e48, H⟩ := am_bd H
          refine am_G.aS rfl e48 ?_
          refine am_G.fr 4 (g := (335, [some (.ref 2000000), some (.ref v1), some (.ref v2), some (.ref v3), some (.int v4), none, none], [.long ((x45.toInt64 <<< (((32 : Int32)).toInt64 &&& 63)) ||| (x47.toInt64 &&& ((4294967295 : Int64)))), .long ((x41.toInt64 <<< (((32 : Int32)).toInt64 &&& 63)) ||| (x43.toInt64 &&& ((4294967295 : Int64)))), .long ((x37.toInt64 <<< (((32 : Int32)).toInt64 &&& 63)) ||| (x39.toInt64 &&& ((4294967295 : Int64)))), .ref v2, .int x35])) rfl ?_
          obtain ⟨x50, hh51, e49, H⟩ := am_bd2 H
          refine am_G.cl [.ref v2, .long ((x37.toInt64 <<< (((32 : Int32)).toInt64 &&& 63)) ||| (x39.toInt64 &&& ((4294967295 : Int64)))), .long ((x41.toInt64 <<< (((32 : Int32)).toInt64 &&& 63)) ||| (x43.toInt64 &&& ((4294967295 : Int64)))), .long ((x45.toInt64 <<< (((32 : Int32)).toInt64 &&& 63)) ||| (x47.toInt64 &&& ((4294967295 : Int64))))] [.int x35] (am_Cl.mono (by decide) (lX10_feed e49)) rfl rfl rfl rfl (Nat.le_of_ble_eq_true rfl) ?_
          by_cases c52 : x35 = x50
          · rw [if_pos c52] at H
            refine am_G.br (tgt := 1276) rfl rfl (if_pos c52) rfl ?_
            refine am_G.fr 2 (g := (23, [some (.ref 2000000), some (.ref v1), some (.ref v2), some (.ref v3), some (.int (v4 + (7 : Int32))), none, none], [])) rfl ?_
            exact ih _ _ _ _ _ _ H
          · rw [if_neg c52] at H
            refine am_G.br (tgt := 341) rfl rfl (if_neg c52) rfl ?_
            refine am_G.fr 1 (g := (342, [some (.ref 2000000), some (.ref v1), some (.ref v2), some (.ref v3), some (.int v4), none, none], [.int ((0 : Int32))])) rfl ?_
            obtain rfl := Option.some.inj H
            exact am_G.nd ⟨rfl, am_ret2 rfl (if_pos (by decide))⟩
        · rw [if_neg c53] at H
          by_cases c61 : k20 = 1
          · rw [if_pos c61] at H
            refine am_G.sw (tgt := 343) (k0 := 1) rfl c19 ((Option.some.inj e21).trans c61) rfl rfl ?_
            refine am_G.fr 1 (g := (344, [some (.ref 2000000), some (.ref v1), some (.ref v2), some (.ref v3), some (.int v4), none, none], [.ref v1])) rfl ?_
            obtain ⟨x55, hh56, e54, H⟩ := am_bd2 H
            refine am_G.cl [.ref v1] [] (am_Cl.mono (by decide) (lX9_vale e54)) rfl rfl rfl rfl (Nat.le_of_ble_eq_true rfl) ?_
            refine am_G.fr 1 (g := (348, [some (.ref 2000000), some (.ref v1), some (.ref v2), some (.ref v3), some (.int v4), none, none], [.ref v2, .int x55])) rfl ?_
            obtain ⟨x58, hh59, e57, H⟩ := am_bd2 H
            refine am_G.cl [.ref v2] [.int x55] (am_Cl.mono (by decide) (lX10_vale e57)) rfl rfl rfl rfl (Nat.le_of_ble_eq_true rfl) ?_
            by_cases c60 : x55 = x58
            · rw [if_pos c60] at H
              refine am_G.br (tgt := 1276) rfl rfl (if_pos c60) rfl ?_
              refine am_G.fr 2 (g := (23, [some (.ref 2000000), some (.ref v1), some (.ref v2), some (.ref v3), some (.int (v4 + (7 : Int32))), none, none], [])) rfl ?_
              exact ih _ _ _ _ _ _ H
            · rw [if_neg c60] at H
              refine am_G.br (tgt := 354) rfl rfl (if_neg c60) rfl ?_
              refine am_G.fr 1 (g := (355, [some (.ref 2000000), some (.ref v1), some (.ref v2), some (.ref v3), some (.int v4), none, none], [.int ((0 : Int32))])) rfl ?_
              obtain rfl := Option.some.inj H
              exact am_G.nd ⟨rfl, am_ret2 rfl (if_pos (by decide))⟩
          · rw [if_neg c61] at H
            by_cases c69 : k20 = 2
            · rw [if_pos c69] at H
              refine am_G.sw (tgt := 356) (k0 := 2) rfl c19 ((Option.some.inj e21).trans c69) rfl rfl ?_
              refine am_G.fr 1 (g := (357, [some (.ref 2000000), some (.ref v1), some (.ref v2), some (.ref v3), some (.int v4), none, none], [.ref v1])) rfl ?_
              obtain ⟨x63, hh64, e62, H⟩ := am_bd2 H
              refine am_G.cl [.ref v1] [] (am_Cl.mono (by decide) (lX9_year e62)) rfl rfl rfl rfl (Nat.le_of_ble_eq_true rfl) ?_
              refine am_G.fr 1 (g := (361, [some (.ref 2000000), some (.ref v1), some (.ref v2), some (.ref v3), some (.int v4), none, none], [.ref v2, .int x63])) rfl ?_
              obtain ⟨x66, hh67, e65, H⟩ := am_bd2 H
              refine am_G.cl [.ref v2] [.int x63] (am_Cl.mono (by decide) (lX10_year e65)) rfl rfl rfl rfl (Nat.le_of_ble_eq_true rfl) ?_
              by_cases c68 : x63 = x66
              · rw [if_pos c68] at H
                refine am_G.br (tgt := 1276) rfl rfl (if_pos c68) rfl ?_
                refine am_G.fr 2 (g := (23, [some (.ref 2000000), some (.ref v1), some (.ref v2), some (.ref v3), some (.int (v4 + (7 : Int32))), none, none], [])) rfl ?_
                exact ih _ _ _ _ _ _ H
              · rw [if_neg c68] at H
                refine am_G.br (tgt := 367) rfl rfl (if_neg c68) rfl ?_
                refine am_G.fr 1 (g := (368, [some (.ref 2000000), some (.ref v1), some (.ref v2), some (.ref v3), some (.int v4), none, none], [.int ((0 : Int32))])) rfl ?_
                obtain rfl := Option.some.inj H
                exact am_G.nd ⟨rfl, am_ret2 rfl (if_pos (by decide))⟩
            · rw [if_neg c69] at H
              by_cases c84 : k20 = 3
              · rw [if_pos c84] at H
                refine am_G.sw (tgt := 369) (k0 := 3) rfl c19 ((Option.some.inj e21).trans c84) rfl rfl ?_
                refine am_G.fr 5 (g := (375, [some (.ref 2000000), some (.ref v1), some (.ref v2), some (.ref v3), some (.int v4), none, none], [.int (v4 + ((1 : Int32))), .ref 2000000, .ref v1])) rfl ?_
                obtain ⟨x70, e71, H⟩ := am_bd H
                refine am_G.aS rfl e71 ?_
                refine am_G.fr 4 (g := (381, [some (.ref 2000000), some (.ref v1), some (.ref v2), some (.ref v3), some (.int v4), none, none], [.int (v4 + ((2 : Int32))), .ref 2000000, .int x70, .ref v1])) rfl ?_
                obtain ⟨x72, e73, H⟩ := am_bd H
                refine am_G.aS rfl e73 ?_
                obtain ⟨x75, e74, H⟩ := am_bd H
                refine am_G.cl [.ref v1, .int x70, .int x72] [] (am_Cl.mono (by decide) (lX9_house e74)) rfl rfl rfl rfl (Nat.le_of_ble_eq_true rfl) ?_
                refine am_G.fr 5 (g := (391, [some (.ref 2000000), some (.ref v1), some (.ref v2), some (.ref v3), some (.int v4), none, none], [.int (v4 + ((1 : Int32))), .ref 2000000, .ref v2, .int x75])) rfl ?_
                obtain ⟨x76, e77, H⟩ := am_bd H
                refine am_G.aS rfl e77 ?_
                refine am_G.fr 4 (g := (397, [some (.ref 2000000), some (.ref v1), some (.ref v2), some (.ref v3), some (.int v4), none, none], [.int (v4 + ((2 : Int32))), .ref 2000000, .int x76, .ref v2, .int x75])) rfl ?_
                obtain ⟨x78, e79, H⟩ := am_bd H
                refine am_G.aS rfl e79 ?_
                obtain ⟨x81, hh82, e80, H⟩ := am_bd2 H
                refine am_G.cl [.ref v2, .int x76, .int x78] [.int x75] (am_Cl.mono (by decide) (lX10_house e80)) rfl rfl rfl rfl (Nat.le_of_ble_eq_true rfl) ?_
                by_cases c83 : x75 = x81
                · rw [if_pos c83] at H
                  refine am_G.br (tgt := 1276) rfl rfl (if_pos c83) rfl ?_
                  refine am_G.fr 2 (g := (23, [some (.ref 2000000), some (.ref v1), some (.ref v2), some (.ref v3), some (.int (v4 + (7 : Int32))), none, none], [])) rfl ?_
                  exact ih _ _ _ _ _ _ H
                · rw [if_neg c83] at H
                  refine am_G.br (tgt := 404) rfl rfl (if_neg c83) rfl ?_
                  refine am_G.fr 1 (g := (405, [some (.ref 2000000), some (.ref v1), some (.ref v2), some (.ref v3), some (.int v4), none, none], [.int ((0 : Int32))])) rfl ?_
                  obtain rfl := Option.some.inj H
                  exact am_G.nd ⟨rfl, am_ret2 rfl (if_pos (by decide))⟩
              · rw [if_neg c84] at H
                by_cases c99 : k20 = 4
                · rw [if_pos c99] at H
                  refine am_G.sw (tgt := 406) (k0 := 4) rfl c19 ((Option.some.inj e21).trans c99) rfl rfl ?_
                  refine am_G.fr 5 (g := (412, [some (.ref 2000000), some (.ref v1), some (.ref v2), some (.ref v3), some (.int v4), none, none], [.int (v4 + ((1 : Int32))), .ref 2000000, .ref v1])) rfl ?_
                  obtain ⟨x85, e86, H⟩ := am_bd H
                  refine am_G.aS rfl e86 ?_
                  refine am_G.fr 4 (g := (418, [some (.ref 2000000), some (.ref v1), some (.ref v2), some (.ref v3), some (.int v4), none, none], [.int (v4 + ((2 : Int32))), .ref 2000000, .int x85, .ref v1])) rfl ?_
                  obtain ⟨x87, e88, H⟩ := am_bd H
                  refine am_G.aS rfl e88 ?_
                  obtain ⟨x90, e89, H⟩ := am_bd H
                  refine am_G.cl [.ref v1, .int x85, .int x87] [] (am_Cl.mono (by decide) (lX9_day e89)) rfl rfl rfl rfl (Nat.le_of_ble_eq_true rfl) ?_
                  refine am_G.fr 5 (g := (428, [some (.ref 2000000), some (.ref v1), some (.ref v2), some (.ref v3), some (.int v4), none, none], [.int (v4 + ((1 : Int32))), .ref 2000000, .ref v2, .int x90])) rfl ?_
                  obtain ⟨x91, e92, H⟩ := am_bd H
                  refine am_G.aS rfl e92 ?_
                  refine am_G.fr 4 (g := (434, [some (.ref 2000000), some (.ref v1), some (.ref v2), some (.ref v3), some (.int v4), none, none], [.int (v4 + ((2 : Int32))), .ref 2000000, .int x91, .ref v2, .int x90])) rfl ?_
                  obtain ⟨x93, e94, H⟩ := am_bd H
                  refine am_G.aS rfl e94 ?_
                  obtain ⟨x96, hh97, e95, H⟩ := am_bd2 H
                  refine am_G.cl [.ref v2, .int x91, .int x93] [.int x90] (am_Cl.mono (by decide) (lX10_day e95)) rfl rfl rfl rfl (Nat.le_of_ble_eq_true rfl) ?_
                  by_cases c98 : x90 = x96
                  · rw [if_pos c98] at H
                    refine am_G.br (tgt := 1276) rfl rfl (if_pos c98) rfl ?_
                    refine am_G.fr 2 (g := (23, [some (.ref 2000000), some (.ref v1), some (.ref v2), some (.ref v3), some (.int (v4 + (7 : Int32))), none, none], [])) rfl ?_
                    exact ih _ _ _ _ _ _ H
                  · rw [if_neg c98] at H
                    refine am_G.br (tgt := 441) rfl rfl (if_neg c98) rfl ?_
                    refine am_G.fr 1 (g := (442, [some (.ref 2000000), some (.ref v1), some (.ref v2), some (.ref v3), some (.int v4), none, none], [.int ((0 : Int32))])) rfl ?_
                    obtain rfl := Option.some.inj H
                    exact am_G.nd ⟨rfl, am_ret2 rfl (if_pos (by decide))⟩
                · rw [if_neg c99] at H
                  by_cases c107 : k20 = 5
                  · rw [if_pos c107] at H
                    refine am_G.sw (tgt := 443) (k0 := 5) rfl c19 ((Option.some.inj e21).trans c107) rfl rfl ?_
                    refine am_G.fr 1 (g := (444, [some (.ref 2000000), some (.ref v1), some (.ref v2), some (.ref v3), some (.int v4), none, none], [.ref v1])) rfl ?_
                    obtain ⟨x101, hh102, e100, H⟩ := am_bd2 H
                    refine am_G.cl [.ref v1] [] (am_Cl.mono (by decide) (lX9_date e100)) rfl rfl rfl rfl (Nat.le_of_ble_eq_true rfl) ?_
                    refine am_G.fr 1 (g := (448, [some (.ref 2000000), some (.ref v1), some (.ref v2), some (.ref v3), some (.int v4), none, none], [.ref v2, .int x101])) rfl ?_
                    obtain ⟨x104, hh105, e103, H⟩ := am_bd2 H
                    refine am_G.cl [.ref v2] [.int x101] (am_Cl.mono (by decide) (lX10_date e103)) rfl rfl rfl rfl (Nat.le_of_ble_eq_true rfl) ?_
                    by_cases c106 : x101 = x104
                    · rw [if_pos c106] at H
                      refine am_G.br (tgt := 1276) rfl rfl (if_pos c106) rfl ?_
                      refine am_G.fr 2 (g := (23, [some (.ref 2000000), some (.ref v1), some (.ref v2), some (.ref v3), some (.int (v4 + (7 : Int32))), none, none], [])) rfl ?_
                      exact ih _ _ _ _ _ _ H
                    · rw [if_neg c106] at H
                      refine am_G.br (tgt := 454) rfl rfl (if_neg c106) rfl ?_
                      refine am_G.fr 1 (g := (455, [some (.ref 2000000), some (.ref v1), some (.ref v2), some (.ref v3), some (.int v4), none, none], [.int ((0 : Int32))])) rfl ?_
                      obtain rfl := Option.some.inj H
                      exact am_G.nd ⟨rfl, am_ret2 rfl (if_pos (by decide))⟩
                  · rw [if_neg c107] at H
                    by_cases c123 : k20 = 6
                    · rw [if_pos c123] at H
                      refine am_G.sw (tgt := 456) (k0 := 6) rfl c19 ((Option.some.inj e21).trans c123) rfl rfl ?_
                      refine am_G.fr 5 (g := (462, [some (.ref 2000000), some (.ref v1), some (.ref v2), some (.ref v3), some (.int v4), none, none], [.int (v4 + ((1 : Int32))), .ref 2000000, .ref v1])) rfl ?_
                      obtain ⟨x108, e109, H⟩ := am_bd H
                      refine am_G.aS rfl e109 ?_
                      refine am_G.fr 4 (g := (468, [some (.ref 2000000), some (.ref v1), some (.ref v2), some (.ref v3), some (.int v4), none, none], [.int (v4 + ((2 : Int32))), .ref 2000000, .int x108, .ref v1])) rfl ?_
                      obtain ⟨x110, e111, H⟩ := am_bd H
                      refine am_G.aS rfl e111 ?_
                      obtain ⟨x113, hh114, e112, H⟩ := am_bd2 H
                      refine am_G.cl [.ref v1, .int x108, .int x110] [] (am_Cl.mono (by decide) (lX9_move e112)) rfl rfl rfl rfl (Nat.le_of_ble_eq_true rfl) ?_
                      refine am_G.fr 5 (g := (478, [some (.ref 2000000), some (.ref v1), some (.ref v2), some (.ref v3), some (.int v4), none, none], [.int (v4 + ((1 : Int32))), .ref 2000000, .ref v2, .int x113])) rfl ?_
                      obtain ⟨x115, e116, H⟩ := am_bd H
                      refine am_G.aS rfl e116 ?_
                      refine am_G.fr 4 (g := (484, [some (.ref 2000000), some (.ref v1), some (.ref v2), some (.ref v3), some (.int v4), none, none], [.int (v4 + ((2 : Int32))), .ref 2000000, .int x115, .ref v2, .int x113])) rfl ?_
                      obtain ⟨x117, e118, H⟩ := am_bd H
                      refine am_G.aS rfl e118 ?_
                      obtain ⟨x120, hh121, e119, H⟩ := am_bd2 H
                      refine am_G.cl [.ref v2, .int x115, .int x117] [.int x113] (am_Cl.mono (by decide) (lX10_move e119)) rfl rfl rfl rfl (Nat.le_of_ble_eq_true rfl) ?_
                      by_cases c122 : x113 = x120
                      · rw [if_pos c122] at H
                        refine am_G.br (tgt := 1276) rfl rfl (if_pos c122) rfl ?_
                        refine am_G.fr 2 (g := (23, [some (.ref 2000000), some (.ref v1), some (.ref v2), some (.ref v3), some (.int (v4 + (7 : Int32))), none, none], [])) rfl ?_
                        exact ih _ _ _ _ _ _ H
                      · rw [if_neg c122] at H
                        refine am_G.br (tgt := 491) rfl rfl (if_neg c122) rfl ?_
                        refine am_G.fr 1 (g := (492, [some (.ref 2000000), some (.ref v1), some (.ref v2), some (.ref v3), some (.int v4), none, none], [.int ((0 : Int32))])) rfl ?_
                        obtain rfl := Option.some.inj H
                        exact am_G.nd ⟨rfl, am_ret2 rfl (if_pos (by decide))⟩
                    · rw [if_neg c123] at H
                      by_cases c135 : k20 = 7
                      · rw [if_pos c135] at H
                        refine am_G.sw (tgt := 493) (k0 := 7) rfl c19 ((Option.some.inj e21).trans c135) rfl rfl ?_
                        refine am_G.fr 5 (g := (499, [some (.ref 2000000), some (.ref v1), some (.ref v2), some (.ref v3), some (.int v4), none, none], [.int (v4 + ((1 : Int32))), .ref 2000000, .ref v1])) rfl ?_
                        obtain ⟨x124, e125, H⟩ := am_bd H
                        refine am_G.aS rfl e125 ?_
                        obtain ⟨x127, hh128, e126, H⟩ := am_bd2 H
                        refine am_G.cl [.ref v1, .int x124] [] (am_Cl.mono (by decide) (lX9_send e126)) rfl rfl rfl rfl (Nat.le_of_ble_eq_true rfl) ?_
                        refine am_G.fr 5 (g := (509, [some (.ref 2000000), some (.ref v1), some (.ref v2), some (.ref v3), some (.int v4), none, none], [.int (v4 + ((1 : Int32))), .ref 2000000, .ref v2, .int x127])) rfl ?_
                        obtain ⟨x129, e130, H⟩ := am_bd H
                        refine am_G.aS rfl e130 ?_
                        obtain ⟨x132, hh133, e131, H⟩ := am_bd2 H
                        refine am_G.cl [.ref v2, .int x129] [.int x127] (am_Cl.mono (by decide) (lX10_send e131)) rfl rfl rfl rfl (Nat.le_of_ble_eq_true rfl) ?_
                        by_cases c134 : x127 = x132
                        · rw [if_pos c134] at H
                          refine am_G.br (tgt := 1276) rfl rfl (if_pos c134) rfl ?_
                          refine am_G.fr 2 (g := (23, [some (.ref 2000000), some (.ref v1), some (.ref v2), some (.ref v3), some (.int (v4 + (7 : Int32))), none, none], [])) rfl ?_
                          exact ih _ _ _ _ _ _ H
                        · rw [if_neg c134] at H
                          refine am_G.br (tgt := 516) rfl rfl (if_neg c134) rfl ?_
                          refine am_G.fr 1 (g := (517, [some (.ref 2000000), some (.ref v1), some (.ref v2), some (.ref v3), some (.int v4), none, none], [.int ((0 : Int32))])) rfl ?_
                          obtain rfl := Option.some.inj H
                          exact am_G.nd ⟨rfl, am_ret2 rfl (if_pos (by decide))⟩
                      · rw [if_neg c135] at H
                        by_cases c147 : k20 = 8
                        · rw [if_pos c147] at H
                          refine am_G.sw (tgt := 518) (k0 := 8) rfl c19 ((Option.some.inj e21).trans c147) rfl rfl ?_
                          refine am_G.fr 5 (g := (524, [some (.ref 2000000), some (.ref v1), some (.ref v2), some (.ref v3), some (.int v4), none, none], [.int (v4 + ((1 : Int32))), .ref 2000000, .ref v1])) rfl ?_
                          obtain ⟨x136, e137, H⟩ := am_bd H
                          refine am_G.aS rfl e137 ?_
                          obtain ⟨x139, hh140, e138, H⟩ := am_bd2 H
                          refine am_G.cl [.ref v1, .int x136] [] (am_Cl.mono (by decide) (lX9_build e138)) rfl rfl rfl rfl (Nat.le_of_ble_eq_true rfl) ?_
                          refine am_G.fr 5 (g := (534, [some (.ref 2000000), some (.ref v1), some (.ref v2), some (.ref v3), some (.int v4), none, none], [.int (v4 + ((1 : Int32))), .ref 2000000, .ref v2, .int x139])) rfl ?_
                          obtain ⟨x141, e142, H⟩ := am_bd H
                          refine am_G.aS rfl e142 ?_
                          obtain ⟨x144, hh145, e143, H⟩ := am_bd2 H
                          refine am_G.cl [.ref v2, .int x141] [.int x139] (am_Cl.mono (by decide) (lX10_build e143)) rfl rfl rfl rfl (Nat.le_of_ble_eq_true rfl) ?_
                          by_cases c146 : x139 = x144
                          · rw [if_pos c146] at H
                            refine am_G.br (tgt := 1276) rfl rfl (if_pos c146) rfl ?_
                            refine am_G.fr 2 (g := (23, [some (.ref 2000000), some (.ref v1), some (.ref v2), some (.ref v3), some (.int (v4 + (7 : Int32))), none, none], [])) rfl ?_
                            exact ih _ _ _ _ _ _ H
                          · rw [if_neg c146] at H
                            refine am_G.br (tgt := 541) rfl rfl (if_neg c146) rfl ?_
                            refine am_G.fr 1 (g := (542, [some (.ref 2000000), some (.ref v1), some (.ref v2), some (.ref v3), some (.int v4), none, none], [.int ((0 : Int32))])) rfl ?_
                            obtain rfl := Option.some.inj H
                            exact am_G.nd ⟨rfl, am_ret2 rfl (if_pos (by decide))⟩
                        · rw [if_neg c147] at H
                          by_cases c155 : k20 = 9
                          · rw [if_pos c155] at H
                            refine am_G.sw (tgt := 543) (k0 := 9) rfl c19 ((Option.some.inj e21).trans c155) rfl rfl ?_
                            refine am_G.fr 1 (g := (544, [some (.ref 2000000), some (.ref v1), some (.ref v2), some (.ref v3), some (.int v4), none, none], [.ref v1])) rfl ?_
                            obtain ⟨x149, hh150, e148, H⟩ := am_bd2 H
                            refine am_G.cl [.ref v1] [] (am_Cl.mono (by decide) (lX9_undo e148)) rfl rfl rfl rfl (Nat.le_of_ble_eq_true rfl) ?_
                            refine am_G.fr 1 (g := (548, [some (.ref 2000000), some (.ref v1), some (.ref v2), some (.ref v3), some (.int v4), none, none], [.ref v2, .int x149])) rfl ?_
                            obtain ⟨x152, hh153, e151, H⟩ := am_bd2 H
                            refine am_G.cl [.ref v2] [.int x149] (am_Cl.mono (by decide) (lX10_undo e151)) rfl rfl rfl rfl (Nat.le_of_ble_eq_true rfl) ?_
                            by_cases c154 : x149 = x152
                            · rw [if_pos c154] at H
                              refine am_G.br (tgt := 1276) rfl rfl (if_pos c154) rfl ?_
                              refine am_G.fr 2 (g := (23, [some (.ref 2000000), some (.ref v1), some (.ref v2), some (.ref v3), some (.int (v4 + (7 : Int32))), none, none], [])) rfl ?_
                              exact ih _ _ _ _ _ _ H
                            · rw [if_neg c154] at H
                              refine am_G.br (tgt := 554) rfl rfl (if_neg c154) rfl ?_
                              refine am_G.fr 1 (g := (555, [some (.ref 2000000), some (.ref v1), some (.ref v2), some (.ref v3), some (.int v4), none, none], [.int ((0 : Int32))])) rfl ?_
                              obtain rfl := Option.some.inj H
                              exact am_G.nd ⟨rfl, am_ret2 rfl (if_pos (by decide))⟩
                          · rw [if_neg c155] at H
                            by_cases c167 : k20 = 10
                            · rw [if_pos c167] at H
                              refine am_G.sw (tgt := 556) (k0 := 10) rfl c19 ((Option.some.inj e21).trans c167) rfl rfl ?_
                              refine am_G.fr 5 (g := (562, [some (.ref 2000000), some (.ref v1), some (.ref v2), some (.ref v3), some (.int v4), none, none], [.int (v4 + ((1 : Int32))), .ref 2000000, .ref v1])) rfl ?_
                              obtain ⟨x156, e157, H⟩ := am_bd H
                              refine am_G.aS rfl e157 ?_
                              obtain ⟨x159, hh160, e158, H⟩ := am_bd2 H
                              refine am_G.cl [.ref v1, .int x156] [] (am_Cl.mono (by decide) (lX9_judged e158)) rfl rfl rfl rfl (Nat.le_of_ble_eq_true rfl) ?_
                              refine am_G.fr 5 (g := (572, [some (.ref 2000000), some (.ref v1), some (.ref v2), some (.ref v3), some (.int v4), none, none], [.int (v4 + ((1 : Int32))), .ref 2000000, .ref v2, .int x159])) rfl ?_
                              obtain ⟨x161, e162, H⟩ := am_bd H
                              refine am_G.aS rfl e162 ?_
                              obtain ⟨x164, hh165, e163, H⟩ := am_bd2 H
                              refine am_G.cl [.ref v2, .int x161] [.int x159] (am_Cl.mono (by decide) (lX10_judged e163)) rfl rfl rfl rfl (Nat.le_of_ble_eq_true rfl) ?_
                              by_cases c166 : x159 = x164
                              · rw [if_pos c166] at H
                                refine am_G.br (tgt := 1276) rfl rfl (if_pos c166) rfl ?_
                                refine am_G.fr 2 (g := (23, [some (.ref 2000000), some (.ref v1), some (.ref v2), some (.ref v3), some (.int (v4 + (7 : Int32))), none, none], [])) rfl ?_
                                exact ih _ _ _ _ _ _ H
                              · rw [if_neg c166] at H
                                refine am_G.br (tgt := 579) rfl rfl (if_neg c166) rfl ?_
                                refine am_G.fr 1 (g := (580, [some (.ref 2000000), some (.ref v1), some (.ref v2), some (.ref v3), some (.int v4), none, none], [.int ((0 : Int32))])) rfl ?_
                                obtain rfl := Option.some.inj H
                                exact am_G.nd ⟨rfl, am_ret2 rfl (if_pos (by decide))⟩
                            · rw [if_neg c167] at H
                              by_cases c183 : k20 = 11
                              · rw [if_pos c183] at H
                                refine am_G.sw (tgt := 581) (k0 := 11) rfl c19 ((Option.some.inj e21).trans c183) rfl rfl ?_
                                refine am_G.fr 5 (g := (587, [some (.ref 2000000), some (.ref v1), some (.ref v2), some (.ref v3), some (.int v4), none, none], [.int (v4 + ((1 : Int32))), .ref 2000000, .ref v1])) rfl ?_
                                obtain ⟨x168, e169, H⟩ := am_bd H
                                refine am_G.aS rfl e169 ?_
                                refine am_G.fr 4 (g := (593, [some (.ref 2000000), some (.ref v1), some (.ref v2), some (.ref v3), some (.int v4), none, none], [.int (v4 + ((2 : Int32))), .ref 2000000, .int x168, .ref v1])) rfl ?_
                                obtain ⟨x170, e171, H⟩ := am_bd H
                                refine am_G.aS rfl e171 ?_
                                obtain ⟨x173, hh174, e172, H⟩ := am_bd2 H
                                refine am_G.cl [.ref v1, .int x168, .int x170] [] (am_Cl.mono (by decide) (lX9_where e172)) rfl rfl rfl rfl (Nat.le_of_ble_eq_true rfl) ?_
                                refine am_G.fr 5 (g := (603, [some (.ref 2000000), some (.ref v1), some (.ref v2), some (.ref v3), some (.int v4), none, none], [.int (v4 + ((1 : Int32))), .ref 2000000, .ref v2, .int x173])) rfl ?_
                                obtain ⟨x175, e176, H⟩ := am_bd H
                                refine am_G.aS rfl e176 ?_
                                refine am_G.fr 4 (g := (609, [some (.ref 2000000), some (.ref v1), some (.ref v2), some (.ref v3), some (.int v4), none, none], [.int (v4 + ((2 : Int32))), .ref 2000000, .int x175, .ref v2, .int x173])) rfl ?_
                                obtain ⟨x177, e178, H⟩ := am_bd H
                                refine am_G.aS rfl e178 ?_
                                obtain ⟨x180, hh181, e179, H⟩ := am_bd2 H
                                refine am_G.cl [.ref v2, .int x175, .int x177] [.int x173] (am_Cl.mono (by decide) (lX10_where e179)) rfl rfl rfl rfl (Nat.le_of_ble_eq_true rfl) ?_
                                by_cases c182 : x173 = x180
                                · rw [if_pos c182] at H
                                  refine am_G.br (tgt := 1276) rfl rfl (if_pos c182) rfl ?_
                                  refine am_G.fr 2 (g := (23, [some (.ref 2000000), some (.ref v1), some (.ref v2), some (.ref v3), some (.int (v4 + (7 : Int32))), none, none], [])) rfl ?_
                                  exact ih _ _ _ _ _ _ H
                                · rw [if_neg c182] at H
                                  refine am_G.br (tgt := 616) rfl rfl (if_neg c182) rfl ?_
                                  refine am_G.fr 1 (g := (617, [some (.ref 2000000), some (.ref v1), some (.ref v2), some (.ref v3), some (.int v4), none, none], [.int ((0 : Int32))])) rfl ?_
                                  obtain rfl := Option.some.inj H
                                  exact am_G.nd ⟨rfl, am_ret2 rfl (if_pos (by decide))⟩
                              · rw [if_neg c183] at H
                                by_cases c195 : k20 = 12
                                · rw [if_pos c195] at H
                                  refine am_G.sw (tgt := 618) (k0 := 12) rfl c19 ((Option.some.inj e21).trans c195) rfl rfl ?_
                                  refine am_G.fr 5 (g := (624, [some (.ref 2000000), some (.ref v1), some (.ref v2), some (.ref v3), some (.int v4), none, none], [.int (v4 + ((1 : Int32))), .ref 2000000, .ref v1])) rfl ?_
                                  obtain ⟨x184, e185, H⟩ := am_bd H
                                  refine am_G.aS rfl e185 ?_
                                  obtain ⟨x187, hh188, e186, H⟩ := am_bd2 H
                                  refine am_G.cl [.ref v1, .int x184] [] (am_Cl.mono (by decide) (lX9_next e186)) rfl rfl rfl rfl (Nat.le_of_ble_eq_true rfl) ?_
                                  refine am_G.fr 5 (g := (634, [some (.ref 2000000), some (.ref v1), some (.ref v2), some (.ref v3), some (.int v4), none, none], [.int (v4 + ((1 : Int32))), .ref 2000000, .ref v2, .int x187])) rfl ?_
                                  obtain ⟨x189, e190, H⟩ := am_bd H
                                  refine am_G.aS rfl e190 ?_
                                  obtain ⟨x192, hh193, e191, H⟩ := am_bd2 H
                                  refine am_G.cl [.ref v2, .int x189] [.int x187] (am_Cl.mono (by decide) (lX10_next e191)) rfl rfl rfl rfl (Nat.le_of_ble_eq_true rfl) ?_
                                  by_cases c194 : x187 = x192
                                  · rw [if_pos c194] at H
                                    refine am_G.br (tgt := 1276) rfl rfl (if_pos c194) rfl ?_
                                    refine am_G.fr 2 (g := (23, [some (.ref 2000000), some (.ref v1), some (.ref v2), some (.ref v3), some (.int (v4 + (7 : Int32))), none, none], [])) rfl ?_
                                    exact ih _ _ _ _ _ _ H
                                  · rw [if_neg c194] at H
                                    refine am_G.br (tgt := 641) rfl rfl (if_neg c194) rfl ?_
                                    refine am_G.fr 1 (g := (642, [some (.ref 2000000), some (.ref v1), some (.ref v2), some (.ref v3), some (.int v4), none, none], [.int ((0 : Int32))])) rfl ?_
                                    obtain rfl := Option.some.inj H
                                    exact am_G.nd ⟨rfl, am_ret2 rfl (if_pos (by decide))⟩
                                · rw [if_neg c195] at H
                                  by_cases c207 : k20 = 13
                                  · rw [if_pos c207] at H
                                    refine am_G.sw (tgt := 643) (k0 := 13) rfl c19 ((Option.some.inj e21).trans c207) rfl rfl ?_
                                    refine am_G.fr 5 (g := (649, [some (.ref 2000000), some (.ref v1), some (.ref v2), some (.ref v3), some (.int v4), none, none], [.int (v4 + ((1 : Int32))), .ref 2000000, .ref v1])) rfl ?_
                                    obtain ⟨x196, e197, H⟩ := am_bd H
                                    refine am_G.aS rfl e197 ?_
                                    obtain ⟨x199, hh200, e198, H⟩ := am_bd2 H
                                    refine am_G.cl [.ref v1, .int x196] [] (am_Cl.mono (by decide) (lX9_gone e198)) rfl rfl rfl rfl (Nat.le_of_ble_eq_true rfl) ?_
                                    refine am_G.fr 5 (g := (659, [some (.ref 2000000), some (.ref v1), some (.ref v2), some (.ref v3), some (.int v4), none, none], [.int (v4 + ((1 : Int32))), .ref 2000000, .ref v2, .int x199])) rfl ?_
                                    obtain ⟨x201, e202, H⟩ := am_bd H
                                    refine am_G.aS rfl e202 ?_
                                    obtain ⟨x204, hh205, e203, H⟩ := am_bd2 H
                                    refine am_G.cl [.ref v2, .int x201] [.int x199] (am_Cl.mono (by decide) (lX10_gone e203)) rfl rfl rfl rfl (Nat.le_of_ble_eq_true rfl) ?_
                                    by_cases c206 : x199 = x204
                                    · rw [if_pos c206] at H
                                      refine am_G.br (tgt := 1276) rfl rfl (if_pos c206) rfl ?_
                                      refine am_G.fr 2 (g := (23, [some (.ref 2000000), some (.ref v1), some (.ref v2), some (.ref v3), some (.int (v4 + (7 : Int32))), none, none], [])) rfl ?_
                                      exact ih _ _ _ _ _ _ H
                                    · rw [if_neg c206] at H
                                      refine am_G.br (tgt := 666) rfl rfl (if_neg c206) rfl ?_
                                      refine am_G.fr 1 (g := (667, [some (.ref 2000000), some (.ref v1), some (.ref v2), some (.ref v3), some (.int v4), none, none], [.int ((0 : Int32))])) rfl ?_
                                      obtain rfl := Option.some.inj H
                                      exact am_G.nd ⟨rfl, am_ret2 rfl (if_pos (by decide))⟩
                                  · rw [if_neg c207] at H
                                    by_cases c215 : k20 = 14
                                    · rw [if_pos c215] at H
                                      refine am_G.sw (tgt := 668) (k0 := 14) rfl c19 ((Option.some.inj e21).trans c215) rfl rfl ?_
                                      refine am_G.fr 1 (g := (669, [some (.ref 2000000), some (.ref v1), some (.ref v2), some (.ref v3), some (.int v4), none, none], [.ref v1])) rfl ?_
                                      obtain ⟨x209, hh210, e208, H⟩ := am_bd2 H
                                      refine am_G.cl [.ref v1] [] (am_Cl.mono (by decide) (lX9_crowd e208)) rfl rfl rfl rfl (Nat.le_of_ble_eq_true rfl) ?_
                                      refine am_G.fr 1 (g := (673, [some (.ref 2000000), some (.ref v1), some (.ref v2), some (.ref v3), some (.int v4), none, none], [.ref v2, .int x209])) rfl ?_
                                      obtain ⟨x212, hh213, e211, H⟩ := am_bd2 H
                                      refine am_G.cl [.ref v2] [.int x209] (am_Cl.mono (by decide) (lX10_crowd e211)) rfl rfl rfl rfl (Nat.le_of_ble_eq_true rfl) ?_
                                      by_cases c214 : x209 = x212
                                      · rw [if_pos c214] at H
                                        refine am_G.br (tgt := 1276) rfl rfl (if_pos c214) rfl ?_
                                        refine am_G.fr 2 (g := (23, [some (.ref 2000000), some (.ref v1), some (.ref v2), some (.ref v3), some (.int (v4 + (7 : Int32))), none, none], [])) rfl ?_
                                        exact ih _ _ _ _ _ _ H
                                      · rw [if_neg c214] at H
                                        refine am_G.br (tgt := 679) rfl rfl (if_neg c214) rfl ?_
                                        refine am_G.fr 1 (g := (680, [some (.ref 2000000), some (.ref v1), some (.ref v2), some (.ref v3), some (.int v4), none, none], [.int ((0 : Int32))])) rfl ?_
                                        obtain rfl := Option.some.inj H
                                        exact am_G.nd ⟨rfl, am_ret2 rfl (if_pos (by decide))⟩
                                    · rw [if_neg c215] at H
                                      by_cases c227 : k20 = 15
                                      · rw [if_pos c227] at H
                                        refine am_G.sw (tgt := 681) (k0 := 15) rfl c19 ((Option.some.inj e21).trans c227) rfl rfl ?_
                                        refine am_G.fr 5 (g := (687, [some (.ref 2000000), some (.ref v1), some (.ref v2), some (.ref v3), some (.int v4), none, none], [.int (v4 + ((1 : Int32))), .ref 2000000, .ref v1])) rfl ?_
                                        obtain ⟨x216, e217, H⟩ := am_bd H
                                        refine am_G.aS rfl e217 ?_
                                        obtain ⟨x219, hh220, e218, H⟩ := am_bd2 H
                                        refine am_G.cl [.ref v1, .int x216] [] (am_Cl.mono (by decide) (lX9_refused e218)) rfl rfl rfl rfl (Nat.le_of_ble_eq_true rfl) ?_
                                        refine am_G.fr 5 (g := (697, [some (.ref 2000000), some (.ref v1), some (.ref v2), some (.ref v3), some (.int v4), none, none], [.int (v4 + ((1 : Int32))), .ref 2000000, .ref v2, .int x219])) rfl ?_
                                        obtain ⟨x221, e222, H⟩ := am_bd H
                                        refine am_G.aS rfl e222 ?_
                                        obtain ⟨x224, hh225, e223, H⟩ := am_bd2 H
                                        refine am_G.cl [.ref v2, .int x221] [.int x219] (am_Cl.mono (by decide) (lX10_refused e223)) rfl rfl rfl rfl (Nat.le_of_ble_eq_true rfl) ?_
                                        by_cases c226 : x219 = x224
                                        · rw [if_pos c226] at H
                                          refine am_G.br (tgt := 1276) rfl rfl (if_pos c226) rfl ?_
                                          refine am_G.fr 2 (g := (23, [some (.ref 2000000), some (.ref v1), some (.ref v2), some (.ref v3), some (.int (v4 + (7 : Int32))), none, none], [])) rfl ?_
                                          exact ih _ _ _ _ _ _ H
                                        · rw [if_neg c226] at H
                                          refine am_G.br (tgt := 704) rfl rfl (if_neg c226) rfl ?_
                                          refine am_G.fr 1 (g := (705, [some (.ref 2000000), some (.ref v1), some (.ref v2), some (.ref v3), some (.int v4), none, none], [.int ((0 : Int32))])) rfl ?_
                                          obtain rfl := Option.some.inj H
                                          exact am_G.nd ⟨rfl, am_ret2 rfl (if_pos (by decide))⟩
                                      · rw [if_neg c227] at H
                                        by_cases c243 : k20 = 16
                                        · rw [if_pos c243] at H
                                          refine am_G.sw (tgt := 706) (k0 := 16) rfl c19 ((Option.some.inj e21).trans c243) rfl rfl ?_
                                          refine am_G.fr 5 (g := (712, [some (.ref 2000000), some (.ref v1), some (.ref v2), some (.ref v3), some (.int v4), none, none], [.int (v4 + ((1 : Int32))), .ref 2000000, .ref v1])) rfl ?_
                                          obtain ⟨x228, e229, H⟩ := am_bd H
                                          refine am_G.aS rfl e229 ?_
                                          refine am_G.fr 4 (g := (718, [some (.ref 2000000), some (.ref v1), some (.ref v2), some (.ref v3), some (.int v4), none, none], [.int (v4 + ((2 : Int32))), .ref 2000000, .int x228, .ref v1])) rfl ?_
                                          obtain ⟨x230, e231, H⟩ := am_bd H
                                          refine am_G.aS rfl e231 ?_
                                          obtain ⟨x233, hh234, e232, H⟩ := am_bd2 H
                                          refine am_G.cl [.ref v1, .int x228, .int x230] [] (am_Cl.mono (by decide) (lX9_meets e232)) rfl rfl rfl rfl (Nat.le_of_ble_eq_true rfl) ?_
                                          refine am_G.fr 5 (g := (728, [some (.ref 2000000), some (.ref v1), some (.ref v2), some (.ref v3), some (.int v4), none, none], [.int (v4 + ((1 : Int32))), .ref 2000000, .ref v2, .int x233])) rfl ?_
                                          obtain ⟨x235, e236, H⟩ := am_bd H
                                          refine am_G.aS rfl e236 ?_
                                          refine am_G.fr 4 (g := (734, [some (.ref 2000000), some (.ref v1), some (.ref v2), some (.ref v3), some (.int v4), none, none], [.int (v4 + ((2 : Int32))), .ref 2000000, .int x235, .ref v2, .int x233])) rfl ?_
                                          obtain ⟨x237, e238, H⟩ := am_bd H
                                          refine am_G.aS rfl e238 ?_
                                          obtain ⟨x240, hh241, e239, H⟩ := am_bd2 H
                                          refine am_G.cl [.ref v2, .int x235, .int x237] [.int x233] (am_Cl.mono (by decide) (lX10_meets e239)) rfl rfl rfl rfl (Nat.le_of_ble_eq_true rfl) ?_
                                          by_cases c242 : x233 = x240
                                          · rw [if_pos c242] at H
                                            refine am_G.br (tgt := 1276) rfl rfl (if_pos c242) rfl ?_
                                            refine am_G.fr 2 (g := (23, [some (.ref 2000000), some (.ref v1), some (.ref v2), some (.ref v3), some (.int (v4 + (7 : Int32))), none, none], [])) rfl ?_
                                            exact ih _ _ _ _ _ _ H
                                          · rw [if_neg c242] at H
                                            refine am_G.br (tgt := 741) rfl rfl (if_neg c242) rfl ?_
                                            refine am_G.fr 1 (g := (742, [some (.ref 2000000), some (.ref v1), some (.ref v2), some (.ref v3), some (.int v4), none, none], [.int ((0 : Int32))])) rfl ?_
                                            obtain rfl := Option.some.inj H
                                            exact am_G.nd ⟨rfl, am_ret2 rfl (if_pos (by decide))⟩
                                        · rw [if_neg c243] at H
                                          by_cases c259 : k20 = 17
                                          · rw [if_pos c259] at H
                                            refine am_G.sw (tgt := 743) (k0 := 17) rfl c19 ((Option.some.inj e21).trans c259) rfl rfl ?_
                                            refine am_G.fr 5 (g := (749, [some (.ref 2000000), some (.ref v1), some (.ref v2), some (.ref v3), some (.int v4), none, none], [.int (v4 + ((1 : Int32))), .ref 2000000, .ref v1])) rfl ?_
                                            obtain ⟨x244, e245, H⟩ := am_bd H
                                            refine am_G.aS rfl e245 ?_
                                            refine am_G.fr 4 (g := (755, [some (.ref 2000000), some (.ref v1), some (.ref v2), some (.ref v3), some (.int v4), none, none], [.int (v4 + ((2 : Int32))), .ref 2000000, .int x244, .ref v1])) rfl ?_
                                            obtain ⟨x246, e247, H⟩ := am_bd H
                                            refine am_G.aS rfl e247 ?_
                                            obtain ⟨x249, hh250, e248, H⟩ := am_bd2 H
                                            refine am_G.cl [.ref v1, .int x244, .int x246] [] (am_Cl.mono (by decide) (lX9_beds e248)) rfl rfl rfl rfl (Nat.le_of_ble_eq_true rfl) ?_
                                            refine am_G.fr 5 (g := (765, [some (.ref 2000000), some (.ref v1), some (.ref v2), some (.ref v3), some (.int v4), none, none], [.int (v4 + ((1 : Int32))), .ref 2000000, .ref v2, .int x249])) rfl ?_
                                            obtain ⟨x251, e252, H⟩ := am_bd H
                                            refine am_G.aS rfl e252 ?_
                                            refine am_G.fr 4 (g := (771, [some (.ref 2000000), some (.ref v1), some (.ref v2), some (.ref v3), some (.int v4), none, none], [.int (v4 + ((2 : Int32))), .ref 2000000, .int x251, .ref v2, .int x249])) rfl ?_
                                            obtain ⟨x253, e254, H⟩ := am_bd H
                                            refine am_G.aS rfl e254 ?_
                                            obtain ⟨x256, hh257, e255, H⟩ := am_bd2 H
                                            refine am_G.cl [.ref v2, .int x251, .int x253] [.int x249] (am_Cl.mono (by decide) (lX10_beds e255)) rfl rfl rfl rfl (Nat.le_of_ble_eq_true rfl) ?_
                                            by_cases c258 : x249 = x256
                                            · rw [if_pos c258] at H
                                              refine am_G.br (tgt := 1276) rfl rfl (if_pos c258) rfl ?_
                                              refine am_G.fr 2 (g := (23, [some (.ref 2000000), some (.ref v1), some (.ref v2), some (.ref v3), some (.int (v4 + (7 : Int32))), none, none], [])) rfl ?_
                                              exact ih _ _ _ _ _ _ H
                                            · rw [if_neg c258] at H
                                              refine am_G.br (tgt := 778) rfl rfl (if_neg c258) rfl ?_
                                              refine am_G.fr 1 (g := (779, [some (.ref 2000000), some (.ref v1), some (.ref v2), some (.ref v3), some (.int v4), none, none], [.int ((0 : Int32))])) rfl ?_
                                              obtain rfl := Option.some.inj H
                                              exact am_G.nd ⟨rfl, am_ret2 rfl (if_pos (by decide))⟩
                                          · rw [if_neg c259] at H
                                            by_cases c267 : k20 = 18
                                            · rw [if_pos c267] at H
                                              refine am_G.sw (tgt := 780) (k0 := 18) rfl c19 ((Option.some.inj e21).trans c267) rfl rfl ?_
                                              refine am_G.fr 1 (g := (781, [some (.ref 2000000), some (.ref v1), some (.ref v2), some (.ref v3), some (.int v4), none, none], [.ref v1])) rfl ?_
                                              obtain ⟨x261, hh262, e260, H⟩ := am_bd2 H
                                              refine am_G.cl [.ref v1] [] (am_Cl.mono (by decide) (lX9_laying e260)) rfl rfl rfl rfl (Nat.le_of_ble_eq_true rfl) ?_
                                              refine am_G.fr 1 (g := (785, [some (.ref 2000000), some (.ref v1), some (.ref v2), some (.ref v3), some (.int v4), none, none], [.ref v2, .int x261])) rfl ?_
                                              obtain ⟨x264, hh265, e263, H⟩ := am_bd2 H
                                              refine am_G.cl [.ref v2] [.int x261] (am_Cl.mono (by decide) (lX10_laying e263)) rfl rfl rfl rfl (Nat.le_of_ble_eq_true rfl) ?_
                                              by_cases c266 : x261 = x264
                                              · rw [if_pos c266] at H
                                                refine am_G.br (tgt := 1276) rfl rfl (if_pos c266) rfl ?_
                                                refine am_G.fr 2 (g := (23, [some (.ref 2000000), some (.ref v1), some (.ref v2), some (.ref v3), some (.int (v4 + (7 : Int32))), none, none], [])) rfl ?_
                                                exact ih _ _ _ _ _ _ H
                                              · rw [if_neg c266] at H
                                                refine am_G.br (tgt := 791) rfl rfl (if_neg c266) rfl ?_
                                                refine am_G.fr 1 (g := (792, [some (.ref 2000000), some (.ref v1), some (.ref v2), some (.ref v3), some (.int v4), none, none], [.int ((0 : Int32))])) rfl ?_
                                                obtain rfl := Option.some.inj H
                                                exact am_G.nd ⟨rfl, am_ret2 rfl (if_pos (by decide))⟩
                                            · rw [if_neg c267] at H
                                              by_cases c275 : k20 = 19
                                              · rw [if_pos c275] at H
                                                refine am_G.sw (tgt := 793) (k0 := 19) rfl c19 ((Option.some.inj e21).trans c275) rfl rfl ?_
                                                refine am_G.fr 1 (g := (794, [some (.ref 2000000), some (.ref v1), some (.ref v2), some (.ref v3), some (.int v4), none, none], [.ref v1])) rfl ?_
                                                obtain ⟨x269, hh270, e268, H⟩ := am_bd2 H
                                                refine am_G.cl [.ref v1] [] (am_Cl.mono (by decide) (lX9_apart e268)) rfl rfl rfl rfl (Nat.le_of_ble_eq_true rfl) ?_
                                                refine am_G.fr 1 (g := (798, [some (.ref 2000000), some (.ref v1), some (.ref v2), some (.ref v3), some (.int v4), none, none], [.ref v2, .int x269])) rfl ?_
                                                obtain ⟨x272, hh273, e271, H⟩ := am_bd2 H
                                                refine am_G.cl [.ref v2] [.int x269] (am_Cl.mono (by decide) (lX10_apart e271)) rfl rfl rfl rfl (Nat.le_of_ble_eq_true rfl) ?_
                                                by_cases c274 : x269 = x272
                                                · rw [if_pos c274] at H
                                                  refine am_G.br (tgt := 1276) rfl rfl (if_pos c274) rfl ?_
                                                  refine am_G.fr 2 (g := (23, [some (.ref 2000000), some (.ref v1), some (.ref v2), some (.ref v3), some (.int (v4 + (7 : Int32))), none, none], [])) rfl ?_
                                                  exact ih _ _ _ _ _ _ H
                                                · rw [if_neg c274] at H
                                                  refine am_G.br (tgt := 804) rfl rfl (if_neg c274) rfl ?_
                                                  refine am_G.fr 1 (g := (805, [some (.ref 2000000), some (.ref v1), some (.ref v2), some (.ref v3), some (.int v4), none, none], [.int ((0 : Int32))])) rfl ?_
                                                  obtain rfl := Option.some.inj H
                                                  exact am_G.nd ⟨rfl, am_ret2 rfl (if_pos (by decide))⟩
                                              · rw [if_neg c275] at H
                                                by_cases c287 : k20 = 20
                                                · rw [if_pos c287] at H
                                                  refine am_G.sw (tgt := 806) (k0 := 20) rfl c19 ((Option.some.inj e21).trans c287) rfl rfl ?_
                                                  refine am_G.fr 5 (g := (812, [some (.ref 2000000), some (.ref v1), some (.ref v2), some (.ref v3), some (.int v4), none, none], [.int (v4 + ((1 : Int32))), .ref 2000000, .ref v1])) rfl ?_
                                                  obtain ⟨x276, e277, H⟩ := am_bd H
                                                  refine am_G.aS rfl e277 ?_
                                                  obtain ⟨x279, hh280, e278, H⟩ := am_bd2 H
                                                  refine am_G.cl [.ref v1, .int x276] [] (am_Cl.mono (by decide) (lX9_defer e278)) rfl rfl rfl rfl (Nat.le_of_ble_eq_true rfl) ?_
                                                  refine am_G.fr 5 (g := (822, [some (.ref 2000000), some (.ref v1), some (.ref v2), some (.ref v3), some (.int v4), none, none], [.int (v4 + ((1 : Int32))), .ref 2000000, .ref v2, .int x279])) rfl ?_
                                                  obtain ⟨x281, e282, H⟩ := am_bd H
                                                  refine am_G.aS rfl e282 ?_
                                                  obtain ⟨x284, hh285, e283, H⟩ := am_bd2 H
                                                  refine am_G.cl [.ref v2, .int x281] [.int x279] (am_Cl.mono (by decide) (lX10_defer e283)) rfl rfl rfl rfl (Nat.le_of_ble_eq_true rfl) ?_
                                                  by_cases c286 : x279 = x284
                                                  · rw [if_pos c286] at H
                                                    refine am_G.br (tgt := 1276) rfl rfl (if_pos c286) rfl ?_
                                                    refine am_G.fr 2 (g := (23, [some (.ref 2000000), some (.ref v1), some (.ref v2), some (.ref v3), some (.int (v4 + (7 : Int32))), none, none], [])) rfl ?_
                                                    exact ih _ _ _ _ _ _ H
                                                  · rw [if_neg c286] at H
                                                    refine am_G.br (tgt := 829) rfl rfl (if_neg c286) rfl ?_
                                                    refine am_G.fr 1 (g := (830, [some (.ref 2000000), some (.ref v1), some (.ref v2), some (.ref v3), some (.int v4), none, none], [.int ((0 : Int32))])) rfl ?_
                                                    obtain rfl := Option.some.inj H
                                                    exact am_G.nd ⟨rfl, am_ret2 rfl (if_pos (by decide))⟩
                                                · rw [if_neg c287] at H
                                                  by_cases c303 : k20 = 21
                                                  · rw [if_pos c303] at H
                                                    refine am_G.sw (tgt := 831) (k0 := 21) rfl c19 ((Option.some.inj e21).trans c303) rfl rfl ?_
                                                    refine am_G.fr 5 (g := (837, [some (.ref 2000000), some (.ref v1), some (.ref v2), some (.ref v3), some (.int v4), none, none], [.int (v4 + ((1 : Int32))), .ref 2000000, .ref v1])) rfl ?_
                                                    obtain ⟨x288, e289, H⟩ := am_bd H
                                                    refine am_G.aS rfl e289 ?_
                                                    refine am_G.fr 4 (g := (843, [some (.ref 2000000), some (.ref v1), some (.ref v2), some (.ref v3), some (.int v4), none, none], [.int (v4 + ((2 : Int32))), .ref 2000000, .int x288, .ref v1])) rfl ?_
                                                    obtain ⟨x290, e291, H⟩ := am_bd H
                                                    refine am_G.aS rfl e291 ?_
                                                    obtain ⟨x293, hh294, e292, H⟩ := am_bd2 H
                                                    refine am_G.cl [.ref v1, .int x288, .int x290] [] (am_Cl.mono (by decide) (lX9_see e292)) rfl rfl rfl rfl (Nat.le_of_ble_eq_true rfl) ?_
                                                    refine am_G.fr 5 (g := (853, [some (.ref 2000000), some (.ref v1), some (.ref v2), some (.ref v3), some (.int v4), none, none], [.int (v4 + ((1 : Int32))), .ref 2000000, .ref v2, .int x293])) rfl ?_
                                                    obtain ⟨x295, e296, H⟩ := am_bd H
                                                    refine am_G.aS rfl e296 ?_
                                                    refine am_G.fr 4 (g := (859, [some (.ref 2000000), some (.ref v1), some (.ref v2), some (.ref v3), some (.int v4), none, none], [.int (v4 + ((2 : Int32))), .ref 2000000, .int x295, .ref v2, .int x293])) rfl ?_
                                                    obtain ⟨x297, e298, H⟩ := am_bd H
                                                    refine am_G.aS rfl e298 ?_
                                                    obtain ⟨x300, hh301, e299, H⟩ := am_bd2 H
                                                    refine am_G.cl [.ref v2, .int x295, .int x297] [.int x293] (am_Cl.mono (by decide) (lX10_see e299)) rfl rfl rfl rfl (Nat.le_of_ble_eq_true rfl) ?_
                                                    by_cases c302 : x293 = x300
                                                    · rw [if_pos c302] at H
                                                      refine am_G.br (tgt := 1276) rfl rfl (if_pos c302) rfl ?_
                                                      refine am_G.fr 2 (g := (23, [some (.ref 2000000), some (.ref v1), some (.ref v2), some (.ref v3), some (.int (v4 + (7 : Int32))), none, none], [])) rfl ?_
                                                      exact ih _ _ _ _ _ _ H
                                                    · rw [if_neg c302] at H
                                                      refine am_G.br (tgt := 866) rfl rfl (if_neg c302) rfl ?_
                                                      refine am_G.fr 1 (g := (867, [some (.ref 2000000), some (.ref v1), some (.ref v2), some (.ref v3), some (.int v4), none, none], [.int ((0 : Int32))])) rfl ?_
                                                      obtain rfl := Option.some.inj H
                                                      exact am_G.nd ⟨rfl, am_ret2 rfl (if_pos (by decide))⟩
                                                  · rw [if_neg c303] at H
                                                    by_cases c311 : k20 = 22
                                                    · rw [if_pos c311] at H
                                                      refine am_G.sw (tgt := 868) (k0 := 22) rfl c19 ((Option.some.inj e21).trans c311) rfl rfl ?_
                                                      refine am_G.fr 1 (g := (869, [some (.ref 2000000), some (.ref v1), some (.ref v2), some (.ref v3), some (.int v4), none, none], [.ref v1])) rfl ?_
                                                      obtain ⟨x305, hh306, e304, H⟩ := am_bd2 H
                                                      refine am_G.cl [.ref v1] [] (am_Cl.mono (by decide) (lX9_who e304)) rfl rfl rfl rfl (Nat.le_of_ble_eq_true rfl) ?_
                                                      refine am_G.fr 1 (g := (873, [some (.ref 2000000), some (.ref v1), some (.ref v2), some (.ref v3), some (.int v4), none, none], [.ref v2, .int x305])) rfl ?_
                                                      obtain ⟨x308, hh309, e307, H⟩ := am_bd2 H
                                                      refine am_G.cl [.ref v2] [.int x305] (am_Cl.mono (by decide) (lX10_who e307)) rfl rfl rfl rfl (Nat.le_of_ble_eq_true rfl) ?_
                                                      by_cases c310 : x305 = x308
                                                      · rw [if_pos c310] at H
                                                        refine am_G.br (tgt := 1276) rfl rfl (if_pos c310) rfl ?_
                                                        refine am_G.fr 2 (g := (23, [some (.ref 2000000), some (.ref v1), some (.ref v2), some (.ref v3), some (.int (v4 + (7 : Int32))), none, none], [])) rfl ?_
                                                        exact ih _ _ _ _ _ _ H
                                                      · rw [if_neg c310] at H
                                                        refine am_G.br (tgt := 879) rfl rfl (if_neg c310) rfl ?_
                                                        refine am_G.fr 1 (g := (880, [some (.ref 2000000), some (.ref v1), some (.ref v2), some (.ref v3), some (.int v4), none, none], [.int ((0 : Int32))])) rfl ?_
                                                        obtain rfl := Option.some.inj H
                                                        exact am_G.nd ⟨rfl, am_ret2 rfl (if_pos (by decide))⟩
                                                    · rw [if_neg c311] at H
                                                      by_cases c319 : k20 = 23
                                                      · rw [if_pos c319] at H
                                                        refine am_G.sw (tgt := 881) (k0 := 23) rfl c19 ((Option.some.inj e21).trans c319) rfl rfl ?_
                                                        refine am_G.fr 1 (g := (882, [some (.ref 2000000), some (.ref v1), some (.ref v2), some (.ref v3), some (.int v4), none, none], [.ref v1])) rfl ?_
                                                        obtain ⟨x313, hh314, e312, H⟩ := am_bd2 H
                                                        refine am_G.cl [.ref v1] [] (am_Cl.mono (by decide) (lX9_look e312)) rfl rfl rfl rfl (Nat.le_of_ble_eq_true rfl) ?_
                                                        refine am_G.fr 1 (g := (886, [some (.ref 2000000), some (.ref v1), some (.ref v2), some (.ref v3), some (.int v4), none, none], [.ref v2, .int x313])) rfl ?_
                                                        obtain ⟨x316, hh317, e315, H⟩ := am_bd2 H
                                                        refine am_G.cl [.ref v2] [.int x313] (am_Cl.mono (by decide) (lX10_look e315)) rfl rfl rfl rfl (Nat.le_of_ble_eq_true rfl) ?_
                                                        by_cases c318 : x313 = x316
                                                        · rw [if_pos c318] at H
                                                          refine am_G.br (tgt := 1276) rfl rfl (if_pos c318) rfl ?_
                                                          refine am_G.fr 2 (g := (23, [some (.ref 2000000), some (.ref v1), some (.ref v2), some (.ref v3), some (.int (v4 + (7 : Int32))), none, none], [])) rfl ?_
                                                          exact ih _ _ _ _ _ _ H
                                                        · rw [if_neg c318] at H
                                                          refine am_G.br (tgt := 892) rfl rfl (if_neg c318) rfl ?_
                                                          refine am_G.fr 1 (g := (893, [some (.ref 2000000), some (.ref v1), some (.ref v2), some (.ref v3), some (.int v4), none, none], [.int ((0 : Int32))])) rfl ?_
                                                          obtain rfl := Option.some.inj H
                                                          exact am_G.nd ⟨rfl, am_ret2 rfl (if_pos (by decide))⟩
                                                      · rw [if_neg c319] at H
                                                        by_cases c334 : k20 = 24
                                                        · rw [if_pos c334] at H
                                                          refine am_G.sw (tgt := 894) (k0 := 24) rfl c19 ((Option.some.inj e21).trans c334) rfl rfl ?_
                                                          refine am_G.fr 5 (g := (900, [some (.ref 2000000), some (.ref v1), some (.ref v2), some (.ref v3), some (.int v4), none, none], [.int (v4 + ((1 : Int32))), .ref 2000000, .ref v1])) rfl ?_
                                                          obtain ⟨x320, e321, H⟩ := am_bd H
                                                          refine am_G.aS rfl e321 ?_
                                                          refine am_G.fr 4 (g := (906, [some (.ref 2000000), some (.ref v1), some (.ref v2), some (.ref v3), some (.int v4), none, none], [.int (v4 + ((2 : Int32))), .ref 2000000, .int x320, .ref v1])) rfl ?_
                                                          obtain ⟨x322, e323, H⟩ := am_bd H
                                                          refine am_G.aS rfl e323 ?_
                                                          obtain ⟨x325, e324, H⟩ := am_bd H
                                                          refine am_G.cl [.ref v1, .int x320, .int x322] [] (am_Cl.mono (by decide) (lX9_through e324)) rfl rfl rfl rfl (Nat.le_of_ble_eq_true rfl) ?_
                                                          refine am_G.fr 5 (g := (916, [some (.ref 2000000), some (.ref v1), some (.ref v2), some (.ref v3), some (.int v4), none, none], [.int (v4 + ((1 : Int32))), .ref 2000000, .ref v2, .int x325])) rfl ?_
                                                          obtain ⟨x326, e327, H⟩ := am_bd H
                                                          refine am_G.aS rfl e327 ?_
                                                          refine am_G.fr 4 (g := (922, [some (.ref 2000000), some (.ref v1), some (.ref v2), some (.ref v3), some (.int v4), none, none], [.int (v4 + ((2 : Int32))), .ref 2000000, .int x326, .ref v2, .int x325])) rfl ?_
                                                          obtain ⟨x328, e329, H⟩ := am_bd H
                                                          refine am_G.aS rfl e329 ?_
                                                          obtain ⟨x331, hh332, e330, H⟩ := am_bd2 H
                                                          refine am_G.cl [.ref v2, .int x326, .int x328] [.int x325] (am_Cl.mono (by decide) (lX10_through e330)) rfl rfl rfl rfl (Nat.le_of_ble_eq_true rfl) ?_
                                                          by_cases c333 : x325 = x331
                                                          · rw [if_pos c333] at H
                                                            refine am_G.br (tgt := 1276) rfl rfl (if_pos c333) rfl ?_
                                                            refine am_G.fr 2 (g := (23, [some (.ref 2000000), some (.ref v1), some (.ref v2), some (.ref v3), some (.int (v4 + (7 : Int32))), none, none], [])) rfl ?_
                                                            exact ih _ _ _ _ _ _ H
                                                          · rw [if_neg c333] at H
                                                            refine am_G.br (tgt := 929) rfl rfl (if_neg c333) rfl ?_
                                                            refine am_G.fr 1 (g := (930, [some (.ref 2000000), some (.ref v1), some (.ref v2), some (.ref v3), some (.int v4), none, none], [.int ((0 : Int32))])) rfl ?_
                                                            obtain rfl := Option.some.inj H
                                                            exact am_G.nd ⟨rfl, am_ret2 rfl (if_pos (by decide))⟩
                                                        · rw [if_neg c334] at H
                                                          by_cases c341 : k20 = 25
                                                          · rw [if_pos c341] at H
                                                            refine am_G.sw (tgt := 931) (k0 := 25) rfl c19 ((Option.some.inj e21).trans c341) rfl rfl ?_
                                                            refine am_G.fr 1 (g := (932, [some (.ref 2000000), some (.ref v1), some (.ref v2), some (.ref v3), some (.int v4), none, none], [.ref v1])) rfl ?_
                                                            obtain ⟨x336, e335, H⟩ := am_bd H
                                                            refine am_G.cl [.ref v1] [] (am_Cl.mono (by decide) (lX9_quiet e335)) rfl rfl rfl rfl (Nat.le_of_ble_eq_true rfl) ?_
                                                            refine am_G.fr 1 (g := (936, [some (.ref 2000000), some (.ref v1), some (.ref v2), some (.ref v3), some (.int v4), none, none], [.ref v2, .int x336])) rfl ?_
                                                            obtain ⟨x338, hh339, e337, H⟩ := am_bd2 H
                                                            refine am_G.cl [.ref v2] [.int x336] (am_Cl.mono (by decide) (lX10_quiet e337)) rfl rfl rfl rfl (Nat.le_of_ble_eq_true rfl) ?_
                                                            by_cases c340 : x336 = x338
                                                            · rw [if_pos c340] at H
                                                              refine am_G.br (tgt := 1276) rfl rfl (if_pos c340) rfl ?_
                                                              refine am_G.fr 2 (g := (23, [some (.ref 2000000), some (.ref v1), some (.ref v2), some (.ref v3), some (.int (v4 + (7 : Int32))), none, none], [])) rfl ?_
                                                              exact ih _ _ _ _ _ _ H
                                                            · rw [if_neg c340] at H
                                                              refine am_G.br (tgt := 942) rfl rfl (if_neg c340) rfl ?_
                                                              refine am_G.fr 1 (g := (943, [some (.ref 2000000), some (.ref v1), some (.ref v2), some (.ref v3), some (.int v4), none, none], [.int ((0 : Int32))])) rfl ?_
                                                              obtain rfl := Option.some.inj H
                                                              exact am_G.nd ⟨rfl, am_ret2 rfl (if_pos (by decide))⟩
                                                          · rw [if_neg c341] at H
                                                            by_cases c348 : k20 = 26
                                                            · rw [if_pos c348] at H
                                                              refine am_G.sw (tgt := 944) (k0 := 26) rfl c19 ((Option.some.inj e21).trans c348) rfl rfl ?_
                                                              refine am_G.fr 1 (g := (945, [some (.ref 2000000), some (.ref v1), some (.ref v2), some (.ref v3), some (.int v4), none, none], [.ref v1])) rfl ?_
                                                              obtain ⟨x343, e342, H⟩ := am_bd H
                                                              refine am_G.cl [.ref v1] [] (am_Cl.mono (by decide) (lX9_peace e342)) rfl rfl rfl rfl (Nat.le_of_ble_eq_true rfl) ?_
                                                              refine am_G.fr 1 (g := (949, [some (.ref 2000000), some (.ref v1), some (.ref v2), some (.ref v3), some (.int v4), none, none], [.ref v2, .int x343])) rfl ?_
                                                              obtain ⟨x345, hh346, e344, H⟩ := am_bd2 H
                                                              refine am_G.cl [.ref v2] [.int x343] (am_Cl.mono (by decide) (lX10_peace e344)) rfl rfl rfl rfl (Nat.le_of_ble_eq_true rfl) ?_
                                                              by_cases c347 : x343 = x345
                                                              · rw [if_pos c347] at H
                                                                refine am_G.br (tgt := 1276) rfl rfl (if_pos c347) rfl ?_
                                                                refine am_G.fr 2 (g := (23, [some (.ref 2000000), some (.ref v1), some (.ref v2), some (.ref v3), some (.int (v4 + (7 : Int32))), none, none], [])) rfl ?_
                                                                exact ih _ _ _ _ _ _ H
                                                              · rw [if_neg c347] at H
                                                                refine am_G.br (tgt := 955) rfl rfl (if_neg c347) rfl ?_
                                                                refine am_G.fr 1 (g := (956, [some (.ref 2000000), some (.ref v1), some (.ref v2), some (.ref v3), some (.int v4), none, none], [.int ((0 : Int32))])) rfl ?_
                                                                obtain rfl := Option.some.inj H
                                                                exact am_G.nd ⟨rfl, am_ret2 rfl (if_pos (by decide))⟩
                                                            · rw [if_neg c348] at H
                                                              by_cases c355 : k20 = 27
                                                              · rw [if_pos c355] at H
                                                                refine am_G.sw (tgt := 957) (k0 := 27) rfl c19 ((Option.some.inj e21).trans c355) rfl rfl ?_
                                                                refine am_G.fr 1 (g := (958, [some (.ref 2000000), some (.ref v1), some (.ref v2), some (.ref v3), some (.int v4), none, none], [.ref v1])) rfl ?_
                                                                obtain ⟨x350, e349, H⟩ := am_bd H
                                                                refine am_G.cl [.ref v1] [] (am_Cl.mono (by decide) (lX9_loudest e349)) rfl rfl rfl rfl (Nat.le_of_ble_eq_true rfl) ?_
                                                                refine am_G.fr 1 (g := (962, [some (.ref 2000000), some (.ref v1), some (.ref v2), some (.ref v3), some (.int v4), none, none], [.ref v2, .int x350])) rfl ?_
                                                                obtain ⟨x352, hh353, e351, H⟩ := am_bd2 H
                                                                refine am_G.cl [.ref v2] [.int x350] (am_Cl.mono (by decide) (lX10_loudest e351)) rfl rfl rfl rfl (Nat.le_of_ble_eq_true rfl) ?_
                                                                by_cases c354 : x350 = x352
                                                                · rw [if_pos c354] at H
                                                                  refine am_G.br (tgt := 1276) rfl rfl (if_pos c354) rfl ?_
                                                                  refine am_G.fr 2 (g := (23, [some (.ref 2000000), some (.ref v1), some (.ref v2), some (.ref v3), some (.int (v4 + (7 : Int32))), none, none], [])) rfl ?_
                                                                  exact ih _ _ _ _ _ _ H
                                                                · rw [if_neg c354] at H
                                                                  refine am_G.br (tgt := 968) rfl rfl (if_neg c354) rfl ?_
                                                                  refine am_G.fr 1 (g := (969, [some (.ref 2000000), some (.ref v1), some (.ref v2), some (.ref v3), some (.int v4), none, none], [.int ((0 : Int32))])) rfl ?_
                                                                  obtain rfl := Option.some.inj H
                                                                  exact am_G.nd ⟨rfl, am_ret2 rfl (if_pos (by decide))⟩
                                                              · rw [if_neg c355] at H
                                                                by_cases c366 : k20 = 28
                                                                · rw [if_pos c366] at H
                                                                  refine am_G.sw (tgt := 970) (k0 := 28) rfl c19 ((Option.some.inj e21).trans c366) rfl rfl ?_
                                                                  refine am_G.fr 5 (g := (976, [some (.ref 2000000), some (.ref v1), some (.ref v2), some (.ref v3), some (.int v4), none, none], [.int (v4 + ((1 : Int32))), .ref 2000000, .ref v1])) rfl ?_
                                                                  obtain ⟨x356, e357, H⟩ := am_bd H
                                                                  refine am_G.aS rfl e357 ?_
                                                                  obtain ⟨x359, e358, H⟩ := am_bd H
                                                                  refine am_G.cl [.ref v1, .int x356] [] (am_Cl.mono (by decide) (lX9_eldest e358)) rfl rfl rfl rfl (Nat.le_of_ble_eq_true rfl) ?_
                                                                  refine am_G.fr 5 (g := (986, [some (.ref 2000000), some (.ref v1), some (.ref v2), some (.ref v3), some (.int v4), none, none], [.int (v4 + ((1 : Int32))), .ref 2000000, .ref v2, .int x359])) rfl ?_
                                                                  obtain ⟨x360, e361, H⟩ := am_bd H
                                                                  refine am_G.aS rfl e361 ?_
                                                                  obtain ⟨x363, hh364, e362, H⟩ := am_bd2 H
                                                                  refine am_G.cl [.ref v2, .int x360] [.int x359] (am_Cl.mono (by decide) (lX10_eldest e362)) rfl rfl rfl rfl (Nat.le_of_ble_eq_true rfl) ?_
                                                                  by_cases c365 : x359 = x363
                                                                  · rw [if_pos c365] at H
                                                                    refine am_G.br (tgt := 1276) rfl rfl (if_pos c365) rfl ?_
                                                                    refine am_G.fr 2 (g := (23, [some (.ref 2000000), some (.ref v1), some (.ref v2), some (.ref v3), some (.int (v4 + (7 : Int32))), none, none], [])) rfl ?_
                                                                    exact ih _ _ _ _ _ _ H
                                                                  · rw [if_neg c365] at H
                                                                    refine am_G.br (tgt := 993) rfl rfl (if_neg c365) rfl ?_
                                                                    refine am_G.fr 1 (g := (994, [some (.ref 2000000), some (.ref v1), some (.ref v2), some (.ref v3), some (.int v4), none, none], [.int ((0 : Int32))])) rfl ?_
                                                                    obtain rfl := Option.some.inj H
                                                                    exact am_G.nd ⟨rfl, am_ret2 rfl (if_pos (by decide))⟩
                                                                · rw [if_neg c366] at H
                                                                  by_cases c374 : k20 = 29
                                                                  · rw [if_pos c374] at H
                                                                    refine am_G.sw (tgt := 995) (k0 := 29) rfl c19 ((Option.some.inj e21).trans c374) rfl rfl ?_
                                                                    refine am_G.fr 1 (g := (996, [some (.ref 2000000), some (.ref v1), some (.ref v2), some (.ref v3), some (.int v4), none, none], [.ref v1])) rfl ?_
                                                                    obtain ⟨x368, hh369, e367, H⟩ := am_bd2 H
                                                                    refine am_G.cl [.ref v1] [] (am_Cl.mono (by decide) (lX9_spare e367)) rfl rfl rfl rfl (Nat.le_of_ble_eq_true rfl) ?_
                                                                    refine am_G.fr 1 (g := (1000, [some (.ref 2000000), some (.ref v1), some (.ref v2), some (.ref v3), some (.int v4), none, none], [.ref v2, .int x368])) rfl ?_
                                                                    obtain ⟨x371, hh372, e370, H⟩ := am_bd2 H
                                                                    refine am_G.cl [.ref v2] [.int x368] (am_Cl.mono (by decide) (lX10_spare e370)) rfl rfl rfl rfl (Nat.le_of_ble_eq_true rfl) ?_
                                                                    by_cases c373 : x368 = x371
                                                                    · rw [if_pos c373] at H
                                                                      refine am_G.br (tgt := 1276) rfl rfl (if_pos c373) rfl ?_
                                                                      refine am_G.fr 2 (g := (23, [some (.ref 2000000), some (.ref v1), some (.ref v2), some (.ref v3), some (.int (v4 + (7 : Int32))), none, none], [])) rfl ?_
                                                                      exact ih _ _ _ _ _ _ H
                                                                    · rw [if_neg c373] at H
                                                                      refine am_G.br (tgt := 1006) rfl rfl (if_neg c373) rfl ?_
                                                                      refine am_G.fr 1 (g := (1007, [some (.ref 2000000), some (.ref v1), some (.ref v2), some (.ref v3), some (.int v4), none, none], [.int ((0 : Int32))])) rfl ?_
                                                                      obtain rfl := Option.some.inj H
                                                                      exact am_G.nd ⟨rfl, am_ret2 rfl (if_pos (by decide))⟩
                                                                  · rw [if_neg c374] at H
                                                                    by_cases c394 : k20 = 30
                                                                    · rw [if_pos c394] at H
                                                                      refine am_G.sw (tgt := 1008) (k0 := 30) rfl c19 ((Option.some.inj e21).trans c394) rfl rfl ?_
                                                                      refine am_G.fr 5 (g := (1014, [some (.ref 2000000), some (.ref v1), some (.ref v2), some (.ref v3), some (.int v4), none, none], [.int (v4 + ((1 : Int32))), .ref 2000000, .ref v1])) rfl ?_
                                                                      obtain ⟨x375, e376, H⟩ := am_bd H
                                                                      refine am_G.aS rfl e376 ?_
                                                                      refine am_G.fr 4 (g := (1020, [some (.ref 2000000), some (.ref v1), some (.ref v2), some (.ref v3), some (.int v4), none, none], [.int (v4 + ((2 : Int32))), .ref 2000000, .int x375, .ref v1])) rfl ?_
                                                                      obtain ⟨x377, e378, H⟩ := am_bd H
                                                                      refine am_G.aS rfl e378 ?_
                                                                      refine am_G.fr 4 (g := (1026, [some (.ref 2000000), some (.ref v1), some (.ref v2), some (.ref v3), some (.int v4), none, none], [.int (v4 + ((3 : Int32))), .ref 2000000, .int x377, .int x375, .ref v1])) rfl ?_
                                                                      obtain ⟨x379, e380, H⟩ := am_bd H
                                                                      refine am_G.aS rfl e380 ?_
                                                                      obtain ⟨x382, hh383, e381, H⟩ := am_bd2 H
                                                                      refine am_G.cl [.ref v1, .int x375, .int x377, .int x379] [] (am_Cl.mono (by decide) (lX9_chance e381)) rfl rfl rfl rfl (Nat.le_of_ble_eq_true rfl) ?_
                                                                      refine am_G.fr 5 (g := (1036, [some (.ref 2000000), some (.ref v1), some (.ref v2), some (.ref v3), some (.int v4), none, none], [.int (v4 + ((1 : Int32))), .ref 2000000, .ref v2, .int x382])) rfl ?_
                                                                      obtain ⟨x384, e385, H⟩ := am_bd H
                                                                      refine am_G.aS rfl e385 ?_
                                                                      refine am_G.fr 4 (g := (1042, [some (.ref 2000000), some (.ref v1), some (.ref v2), some (.ref v3), some (.int v4), none, none], [.int (v4 + ((2 : Int32))), .ref 2000000, .int x384, .ref v2, .int x382])) rfl ?_
                                                                      obtain ⟨x386, e387, H⟩ := am_bd H
                                                                      refine am_G.aS rfl e387 ?_
                                                                      refine am_G.fr 4 (g := (1048, [some (.ref 2000000), some (.ref v1), some (.ref v2), some (.ref v3), some (.int v4), none, none], [.int (v4 + ((3 : Int32))), .ref 2000000, .int x386, .int x384, .ref v2, .int x382])) rfl ?_
                                                                      obtain ⟨x388, e389, H⟩ := am_bd H
                                                                      refine am_G.aS rfl e389 ?_
                                                                      obtain ⟨x391, hh392, e390, H⟩ := am_bd2 H
                                                                      refine am_G.cl [.ref v2, .int x384, .int x386, .int x388] [.int x382] (am_Cl.mono (by decide) (lX10_chance e390)) rfl rfl rfl rfl (Nat.le_of_ble_eq_true rfl) ?_
                                                                      by_cases c393 : x382 = x391
                                                                      · rw [if_pos c393] at H
                                                                        refine am_G.br (tgt := 1276) rfl rfl (if_pos c393) rfl ?_
                                                                        refine am_G.fr 2 (g := (23, [some (.ref 2000000), some (.ref v1), some (.ref v2), some (.ref v3), some (.int (v4 + (7 : Int32))), none, none], [])) rfl ?_
                                                                        exact ih _ _ _ _ _ _ H
                                                                      · rw [if_neg c393] at H
                                                                        refine am_G.br (tgt := 1055) rfl rfl (if_neg c393) rfl ?_
                                                                        refine am_G.fr 1 (g := (1056, [some (.ref 2000000), some (.ref v1), some (.ref v2), some (.ref v3), some (.int v4), none, none], [.int ((0 : Int32))])) rfl ?_
                                                                        obtain rfl := Option.some.inj H
                                                                        exact am_G.nd ⟨rfl, am_ret2 rfl (if_pos (by decide))⟩
                                                                    · rw [if_neg c394] at H
                                                                      by_cases c424 : k20 = 31
                                                                      · rw [if_pos c424] at H
                                                                        refine am_G.sw (tgt := 1057) (k0 := 31) rfl c19 ((Option.some.inj e21).trans c424) rfl rfl ?_
                                                                        refine am_G.fr 5 (g := (1063, [some (.ref 2000000), some (.ref v1), some (.ref v2), some (.ref v3), some (.int v4), none, none], [.int (v4 + ((1 : Int32))), .ref 2000000, .ref v1])) rfl ?_
                                                                        obtain ⟨x395, e396, H⟩ := am_bd H
                                                                        refine am_G.aS rfl e396 ?_
                                                                        refine am_G.fr 4 (g := (1069, [some (.ref 2000000), some (.ref v1), some (.ref v2), some (.ref v3), some (.int v4), none, none], [.int (v4 + ((2 : Int32))), .ref 2000000, .int x395, .ref v1])) rfl ?_
                                                                        obtain ⟨x397, e398, H⟩ := am_bd H
                                                                        refine am_G.aS rfl e398 ?_
                                                                        refine am_G.fr 4 (g := (1075, [some (.ref 2000000), some (.ref v1), some (.ref v2), some (.ref v3), some (.int v4), none, none], [.int (v4 + ((3 : Int32))), .ref 2000000, .int x397, .int x395, .ref v1])) rfl ?_
                                                                        obtain ⟨x399, e400, H⟩ := am_bd H
                                                                        refine am_G.aS rfl e400 ?_
                                                                        refine am_G.fr 4 (g := (1081, [some (.ref 2000000), some (.ref v1), some (.ref v2), some (.ref v3), some (.int v4), none, none], [.int (v4 + ((4 : Int32))), .ref 2000000, .int x399, .int x397, .int x395, .ref v1])) rfl ?_
                                                                        obtain ⟨x401, e402, H⟩ := am_bd H
                                                                        refine am_G.aS rfl e402 ?_
                                                                        refine am_G.fr 1 (g := (1083, [some (.ref 2000000), some (.ref v1), some (.ref v2), some (.ref v3), some (.int v4), none, none], [.ref v3, .int x401, .int x399, .int x397, .int x395, .ref v1])) rfl ?_
                                                                        obtain ⟨x404, hh405, e403, H⟩ := am_bd2 H
                                                                        refine am_G.cl [.ref v1, .int x395, .int x397, .int x399, .int x401, .ref v3] [] (lL_rests e403) rfl rfl rfl rfl (Nat.le_of_ble_eq_true rfl) ?_
                                                                        refine am_G.fr 6 (g := (1094, [some (.ref 2000000), some (.ref v1), some (.ref v2), some (.ref v3), some (.int v4), some (.int x404), none], [.int (v4 + ((1 : Int32))), .ref 2000000, .ref v2])) rfl ?_
                                                                        obtain ⟨x406, e407, H⟩ := am_bd H
                                                                        refine am_G.aS rfl e407 ?_
                                                                        refine am_G.fr 4 (g := (1100, [some (.ref 2000000), some (.ref v1), some (.ref v2), some (.ref v3), some (.int v4), some (.int x404), none], [.int (v4 + ((2 : Int32))), .ref 2000000, .int x406, .ref v2])) rfl ?_
                                                                        obtain ⟨x408, e409, H⟩ := am_bd H
                                                                        refine am_G.aS rfl e409 ?_
                                                                        refine am_G.fr 4 (g := (1106, [some (.ref 2000000), some (.ref v1), some (.ref v2), some (.ref v3), some (.int v4), some (.int x404), none], [.int (v4 + ((3 : Int32))), .ref 2000000, .int x408, .int x406, .ref v2])) rfl ?_
                                                                        obtain ⟨x410, e411, H⟩ := am_bd H
                                                                        refine am_G.aS rfl e411 ?_
                                                                        refine am_G.fr 4 (g := (1112, [some (.ref 2000000), some (.ref v1), some (.ref v2), some (.ref v3), some (.int v4), some (.int x404), none], [.int (v4 + ((4 : Int32))), .ref 2000000, .int x410, .int x408, .int x406, .ref v2])) rfl ?_
                                                                        obtain ⟨x412, e413, H⟩ := am_bd H
                                                                        refine am_G.aS rfl e413 ?_
                                                                        obtain ⟨x415, hh416, e414, H⟩ := am_bd2 H
                                                                        refine am_G.cl [.ref v2, .int x406, .int x408, .int x410, .int x412] [] (am_Cl.mono (by decide) (lX10_rests e414)) rfl rfl rfl rfl (Nat.le_of_ble_eq_true rfl) ?_
                                                                        refine am_G.fr 2 (g := (1119, [some (.ref 2000000), some (.ref v1), some (.ref v2), some (.ref v3), some (.int v4), some (.int x404), some (.int x415)], [.ref v2])) rfl ?_
                                                                        obtain ⟨x418, e417, H⟩ := am_bd H
                                                                        refine am_G.cl [.ref v2] [] (am_Cl.mono (by decide) (lX10_thrown e417)) rfl rfl rfl rfl (Nat.le_of_ble_eq_true rfl) ?_
                                                                        refine am_G.fr 1 (g := (1124, [some (.ref 2000000), some (.ref v1), some (.ref v2), some (.ref v3), some (.int v4), some (.int x404), some (.int x415)], [.int x404, .int x418])) rfl ?_
                                                                        by_cases c419 : x418 = x404
                                                                        · rw [if_pos c419] at H
                                                                          refine am_G.br (tgt := 1129) rfl rfl (if_pos c419) rfl ?_
                                                                          refine am_G.fr 1 (g := (1131, [some (.ref 2000000), some (.ref v1), some (.ref v2), some (.ref v3), some (.int v4), some (.int x404), some (.int x415)], [.int x404])) rfl ?_
                                                                          by_cases c420 : ¬ x404 = 0
                                                                          · rw [if_pos c420] at H
                                                                            refine am_G.br (tgt := 1146) rfl rfl (if_pos c420) rfl ?_
                                                                            refine am_G.fr 3 (g := (23, [some (.ref 2000000), some (.ref v1), some (.ref v2), some (.ref v3), some (.int (v4 + (7 : Int32))), some (.int x404), some (.int x415)], [])) rfl ?_
                                                                            refine am_G.fg [some (.ref 2000000), some (.ref v1), some (.ref v2), some (.ref v3), some (.int (v4 + (7 : Int32))), none, none] (by simp only [am_sub, and_self]) ?_
                                                                            exact ih _ _ _ _ _ _ H
                                                                          · rw [if_neg c420] at H
                                                                            refine am_G.br (tgt := 1134) rfl rfl (if_neg c420) rfl ?_
                                                                            refine am_G.fr 2 (g := (1136, [some (.ref 2000000), some (.ref v1), some (.ref v2), some (.ref v3), some (.int v4), some (.int x404), some (.int x415)], [.int ((0 : Int32)), .ref v3])) rfl ?_
                                                                            obtain ⟨x421, e422, H⟩ := am_bd H
                                                                            refine am_G.aL rfl e422 ?_
                                                                            refine am_G.fr 3 (g := (1141, [some (.ref 2000000), some (.ref v1), some (.ref v2), some (.ref v3), some (.int v4), some (.int x404), some (.int x415)], [.int (lg_cmp x421 x415.toInt64)])) rfl ?_
                                                                            by_cases c423 : (lg_cmp x421 x415.toInt64) = 0
                                                                            · rw [if_pos c423] at H
                                                                              refine am_G.br (tgt := 1146) rfl rfl (if_pos c423) rfl ?_
                                                                              refine am_G.fr 3 (g := (23, [some (.ref 2000000), some (.ref v1), some (.ref v2), some (.ref v3), some (.int (v4 + (7 : Int32))), some (.int x404), some (.int x415)], [])) rfl ?_
                                                                              refine am_G.fg [some (.ref 2000000), some (.ref v1), some (.ref v2), some (.ref v3), some (.int (v4 + (7 : Int32))), none, none] (by simp only [am_sub, and_self]) ?_
                                                                              exact ih _ _ _ _ _ _ H
                                                                            · rw [if_neg c423] at H
                                                                              refine am_G.br (tgt := 1144) rfl rfl (if_neg c423) rfl ?_
                                                                              refine am_G.fr 1 (g := (1145, [some (.ref 2000000), some (.ref v1), some (.ref v2), some (.ref v3), some (.int v4), some (.int x404), some (.int x415)], [.int ((0 : Int32))])) rfl ?_
                                                                              obtain rfl := Option.some.inj H
                                                                              exact am_G.nd ⟨rfl, am_ret2 rfl (if_pos (by decide))⟩
                                                                        · rw [if_neg c419] at H
                                                                          refine am_G.br (tgt := 1127) rfl rfl (if_neg c419) rfl ?_
                                                                          refine am_G.fr 1 (g := (1128, [some (.ref 2000000), some (.ref v1), some (.ref v2), some (.ref v3), some (.int v4), some (.int x404), some (.int x415)], [.int ((0 : Int32))])) rfl ?_
                                                                          obtain rfl := Option.some.inj H
                                                                          exact am_G.nd ⟨rfl, am_ret2 rfl (if_pos (by decide))⟩
                                                                      · rw [if_neg c424] at H
                                                                        by_cases c444 : k20 = 32
                                                                        · rw [if_pos c444] at H
                                                                          refine am_G.sw (tgt := 1149) (k0 := 32) rfl c19 ((Option.some.inj e21).trans c444) rfl rfl ?_
                                                                          refine am_G.fr 5 (g := (1155, [some (.ref 2000000), some (.ref v1), some (.ref v2), some (.ref v3), some (.int v4), none, none], [.int (v4 + ((1 : Int32))), .ref 2000000, .ref v1])) rfl ?_
                                                                          obtain ⟨x425, e426, H⟩ := am_bd H
                                                                          refine am_G.aS rfl e426 ?_
                                                                          refine am_G.fr 4 (g := (1161, [some (.ref 2000000), some (.ref v1), some (.ref v2), some (.ref v3), some (.int v4), none, none], [.int (v4 + ((2 : Int32))), .ref 2000000, .int x425, .ref v1])) rfl ?_
                                                                          obtain ⟨x427, e428, H⟩ := am_bd H
                                                                          refine am_G.aS rfl e428 ?_
                                                                          refine am_G.fr 4 (g := (1167, [some (.ref 2000000), some (.ref v1), some (.ref v2), some (.ref v3), some (.int v4), none, none], [.int (v4 + ((3 : Int32))), .ref 2000000, .int x427, .int x425, .ref v1])) rfl ?_
                                                                          obtain ⟨x429, e430, H⟩ := am_bd H
                                                                          refine am_G.aS rfl e430 ?_
                                                                          obtain ⟨x432, hh433, e431, H⟩ := am_bd2 H
                                                                          refine am_G.cl [.ref v1, .int x425, .int x427, .int x429] [] (am_Cl.mono (by decide) (lX9_ages e431)) rfl rfl rfl rfl (Nat.le_of_ble_eq_true rfl) ?_
                                                                          refine am_G.fr 5 (g := (1177, [some (.ref 2000000), some (.ref v1), some (.ref v2), some (.ref v3), some (.int v4), none, none], [.int (v4 + ((1 : Int32))), .ref 2000000, .ref v2, .int x432])) rfl ?_
                                                                          obtain ⟨x434, e435, H⟩ := am_bd H
                                                                          refine am_G.aS rfl e435 ?_
                                                                          refine am_G.fr 4 (g := (1183, [some (.ref 2000000), some (.ref v1), some (.ref v2), some (.ref v3), some (.int v4), none, none], [.int (v4 + ((2 : Int32))), .ref 2000000, .int x434, .ref v2, .int x432])) rfl ?_
                                                                          obtain ⟨x436, e437, H⟩ := am_bd H
                                                                          refine am_G.aS rfl e437 ?_
                                                                          refine am_G.fr 4 (g := (1189, [some (.ref 2000000), some (.ref v1), some (.ref v2), some (.ref v3), some (.int v4), none, none], [.int (v4 + ((3 : Int32))), .ref 2000000, .int x436, .int x434, .ref v2, .int x432])) rfl ?_
                                                                          obtain ⟨x438, e439, H⟩ := am_bd H
                                                                          refine am_G.aS rfl e439 ?_
                                                                          obtain ⟨x441, hh442, e440, H⟩ := am_bd2 H
                                                                          refine am_G.cl [.ref v2, .int x434, .int x436, .int x438] [.int x432] (am_Cl.mono (by decide) (lX10_ages e440)) rfl rfl rfl rfl (Nat.le_of_ble_eq_true rfl) ?_
                                                                          by_cases c443 : x432 = x441
                                                                          · rw [if_pos c443] at H
                                                                            refine am_G.br (tgt := 1276) rfl rfl (if_pos c443) rfl ?_
                                                                            refine am_G.fr 2 (g := (23, [some (.ref 2000000), some (.ref v1), some (.ref v2), some (.ref v3), some (.int (v4 + (7 : Int32))), none, none], [])) rfl ?_
                                                                            exact ih _ _ _ _ _ _ H
                                                                          · rw [if_neg c443] at H
                                                                            refine am_G.br (tgt := 1196) rfl rfl (if_neg c443) rfl ?_
                                                                            refine am_G.fr 1 (g := (1197, [some (.ref 2000000), some (.ref v1), some (.ref v2), some (.ref v3), some (.int v4), none, none], [.int ((0 : Int32))])) rfl ?_
                                                                            obtain rfl := Option.some.inj H
                                                                            exact am_G.nd ⟨rfl, am_ret2 rfl (if_pos (by decide))⟩
                                                                        · rw [if_neg c444] at H
                                                                          by_cases c466 : k20 = 33
                                                                          · rw [if_pos c466] at H
                                                                            refine am_G.sw (tgt := 1198) (k0 := 33) rfl c19 ((Option.some.inj e21).trans c466) rfl rfl ?_
                                                                            refine am_G.fr 5 (g := (1204, [some (.ref 2000000), some (.ref v1), some (.ref v2), some (.ref v3), some (.int v4), none, none], [.int (v4 + ((1 : Int32))), .ref 2000000, .ref v1])) rfl ?_
                                                                            obtain ⟨x445, e446, H⟩ := am_bd H
                                                                            refine am_G.aS rfl e446 ?_
                                                                            refine am_G.fr 4 (g := (1210, [some (.ref 2000000), some (.ref v1), some (.ref v2), some (.ref v3), some (.int v4), none, none], [.int (v4 + ((2 : Int32))), .ref 2000000, .int x445, .ref v1])) rfl ?_
                                                                            obtain ⟨x447, e448, H⟩ := am_bd H
                                                                            refine am_G.aS rfl e448 ?_
                                                                            obtain ⟨js449, E465, H⟩ := am_bd H
                                                                            refine am_G.sq (t := ((1219, [some (.ref 2000000), some (.ref v1), some (.ref v2), some (.ref v3), some (.int v4), none, none], [.int js449, .int x445, .ref v1]), h)) ?_ ?_
                                                                            · clear H
                                                                              have H := E465
                                                                              clear E465
                                                                              by_cases c450 : x447 = 0
                                                                              · rw [if_pos c450] at H
                                                                                refine am_G.br (tgt := 1218) rfl rfl (if_pos c450) rfl ?_
                                                                                refine am_G.fr 1 (g := (1219, [some (.ref 2000000), some (.ref v1), some (.ref v2), some (.ref v3), some (.int v4), none, none], [.int ((0 : Int32)), .int x445, .ref v1])) rfl ?_
                                                                                obtain rfl := Option.some.inj H
                                                                                exact am_G.nd rfl
                                                                              · rw [if_neg c450] at H
                                                                                refine am_G.br (tgt := 1214) rfl rfl (if_neg c450) rfl ?_
                                                                                refine am_G.fr 2 (g := (1219, [some (.ref 2000000), some (.ref v1), some (.ref v2), some (.ref v3), some (.int v4), none, none], [.int ((1 : Int32)), .int x445, .ref v1])) rfl ?_
                                                                                obtain rfl := Option.some.inj H
                                                                                exact am_G.nd rfl
                                                                            · clear E465
                                                                              obtain ⟨x452, hh453, e451, H⟩ := am_bd2 H
                                                                              refine am_G.cl [.ref v1, .int x445, .int js449] [] (am_Cl.mono (by decide) (lX9_mark e451)) rfl rfl rfl rfl (Nat.le_of_ble_eq_true rfl) ?_
                                                                              refine am_G.fr 5 (g := (1228, [some (.ref 2000000), some (.ref v1), some (.ref v2), some (.ref v3), some (.int v4), none, none], [.int (v4 + ((1 : Int32))), .ref 2000000, .ref v2, .int x452])) rfl ?_
                                                                              obtain ⟨x454, e455, H⟩ := am_bd H
                                                                              refine am_G.aS rfl e455 ?_
                                                                              refine am_G.fr 4 (g := (1234, [some (.ref 2000000), some (.ref v1), some (.ref v2), some (.ref v3), some (.int v4), none, none], [.int (v4 + ((2 : Int32))), .ref 2000000, .int x454, .ref v2, .int x452])) rfl ?_
                                                                              obtain ⟨x456, e457, H⟩ := am_bd H
                                                                              refine am_G.aS rfl e457 ?_
                                                                              obtain ⟨js458, E464, H⟩ := am_bd H
                                                                              refine am_G.sq (t := ((1243, [some (.ref 2000000), some (.ref v1), some (.ref v2), some (.ref v3), some (.int v4), none, none], [.int js458, .int x454, .ref v2, .int x452]), hh453)) ?_ ?_
                                                                              · clear H
                                                                                have H := E464
                                                                                clear E464
                                                                                by_cases c459 : x456 = 0
                                                                                · rw [if_pos c459] at H
                                                                                  refine am_G.br (tgt := 1242) rfl rfl (if_pos c459) rfl ?_
                                                                                  refine am_G.fr 1 (g := (1243, [some (.ref 2000000), some (.ref v1), some (.ref v2), some (.ref v3), some (.int v4), none, none], [.int ((0 : Int32)), .int x454, .ref v2, .int x452])) rfl ?_
                                                                                  obtain rfl := Option.some.inj H
                                                                                  exact am_G.nd rfl
                                                                                · rw [if_neg c459] at H
                                                                                  refine am_G.br (tgt := 1238) rfl rfl (if_neg c459) rfl ?_
                                                                                  refine am_G.fr 2 (g := (1243, [some (.ref 2000000), some (.ref v1), some (.ref v2), some (.ref v3), some (.int v4), none, none], [.int ((1 : Int32)), .int x454, .ref v2, .int x452])) rfl ?_
                                                                                  obtain rfl := Option.some.inj H
                                                                                  exact am_G.nd rfl
                                                                              · clear E464
                                                                                obtain ⟨x461, hh462, e460, H⟩ := am_bd2 H
                                                                                refine am_G.cl [.ref v2, .int x454, .int js458] [.int x452] (am_Cl.mono (by decide) (lX10_mark e460)) rfl rfl rfl rfl (Nat.le_of_ble_eq_true rfl) ?_
                                                                                by_cases c463 : x452 = x461
                                                                                · rw [if_pos c463] at H
                                                                                  refine am_G.br (tgt := 1276) rfl rfl (if_pos c463) rfl ?_
                                                                                  refine am_G.fr 2 (g := (23, [some (.ref 2000000), some (.ref v1), some (.ref v2), some (.ref v3), some (.int (v4 + (7 : Int32))), none, none], [])) rfl ?_
                                                                                  exact ih _ _ _ _ _ _ H
                                                                                · rw [if_neg c463] at H
                                                                                  refine am_G.br (tgt := 1249) rfl rfl (if_neg c463) rfl ?_
                                                                                  refine am_G.fr 1 (g := (1250, [some (.ref 2000000), some (.ref v1), some (.ref v2), some (.ref v3), some (.int v4), none, none], [.int ((0 : Int32))])) rfl ?_
                                                                                  obtain rfl := Option.some.inj H
                                                                                  exact am_G.nd ⟨rfl, am_ret2 rfl (if_pos (by decide))⟩
                                                                          · rw [if_neg c466] at H
                                                                            by_cases c477 : k20 = 34
                                                                            · rw [if_pos c477] at H
                                                                              refine am_G.sw (tgt := 1251) (k0 := 34) rfl c19 ((Option.some.inj e21).trans c477) rfl rfl ?_
                                                                              refine am_G.fr 5 (g := (1257, [some (.ref 2000000), some (.ref v1), some (.ref v2), some (.ref v3), some (.int v4), none, none], [.int (v4 + ((1 : Int32))), .ref 2000000, .ref v1])) rfl ?_
                                                                              obtain ⟨x467, e468, H⟩ := am_bd H
                                                                              refine am_G.aS rfl e468 ?_
                                                                              obtain ⟨x470, e469, H⟩ := am_bd H
                                                                              refine am_G.cl [.ref v1, .int x467] [] (am_Cl.mono (by decide) (lX9_count e469)) rfl rfl rfl rfl (Nat.le_of_ble_eq_true rfl) ?_
                                                                              refine am_G.fr 5 (g := (1267, [some (.ref 2000000), some (.ref v1), some (.ref v2), some (.ref v3), some (.int v4), none, none], [.int (v4 + ((1 : Int32))), .ref 2000000, .ref v2, .int x470])) rfl ?_
                                                                              obtain ⟨x471, e472, H⟩ := am_bd H
                                                                              refine am_G.aS rfl e472 ?_
                                                                              obtain ⟨x474, hh475, e473, H⟩ := am_bd2 H
                                                                              refine am_G.cl [.ref v2, .int x471] [.int x470] (am_Cl.mono (by decide) (lX10_count e473)) rfl rfl rfl rfl (Nat.le_of_ble_eq_true rfl) ?_
                                                                              by_cases c476 : x470 = x474
                                                                              · rw [if_pos c476] at H
                                                                                refine am_G.br (tgt := 1276) rfl rfl (if_pos c476) rfl ?_
                                                                                refine am_G.fr 2 (g := (23, [some (.ref 2000000), some (.ref v1), some (.ref v2), some (.ref v3), some (.int (v4 + (7 : Int32))), none, none], [])) rfl ?_
                                                                                exact ih _ _ _ _ _ _ H
                                                                              · rw [if_neg c476] at H
                                                                                refine am_G.br (tgt := 1274) rfl rfl (if_neg c476) rfl ?_
                                                                                refine am_G.fr 1 (g := (1275, [some (.ref 2000000), some (.ref v1), some (.ref v2), some (.ref v3), some (.int v4), none, none], [.int ((0 : Int32))])) rfl ?_
                                                                                obtain rfl := Option.some.inj H
                                                                                exact am_G.nd ⟨rfl, am_ret2 rfl (if_pos (by decide))⟩
                                                                            · rw [if_neg c477] at H
                                                                              cases H
set_option maxHeartbeats 4000000 in
set_option maxRecDepth 100000 in
theorem lL_law {sc : Nat × (Nat → Int32)} {h h1 : am_H} {r : Int32} (H : fL_law sc h = some (r, h1)) : am_G sc (am_Cl am_T am_N sc 76) (am_at kL_law) (fun t => t.2 = h1 ∧ am_ret 2 (am_at kL_law) t.1 = some (some (.int r))) ((0, [some (.ref 2000000), none, none, none, none, none, none], []), h) := by
  unfold fL_law at H
  obtain ⟨a1, hh2, e3, H⟩ := am_bd2 H
  refine am_G.nO rfl e3 ?_
  refine am_G.fr 1 (g := (4, [some (.ref 2000000), none, none, none, none, none, none], [.ref a1, .ref a1])) rfl ?_
  obtain ⟨hh5, e4, H⟩ := am_bd H
  refine am_G.cl [.ref a1] [.ref a1] (am_Cl.mono (by decide) (lX9_init e4)) rfl rfl rfl rfl (Nat.le_of_ble_eq_true rfl) ?_
  refine am_G.fr 1 (g := (8, [some (.ref 2000000), some (.ref a1), none, none, none, none, none], [])) rfl ?_
  obtain ⟨a6, hh7, e8, H⟩ := am_bd2 H
  refine am_G.nO rfl e8 ?_
  refine am_G.fr 1 (g := (12, [some (.ref 2000000), some (.ref a1), none, none, none, none, none], [.ref a6, .ref a6])) rfl ?_
  obtain ⟨hh10, e9, H⟩ := am_bd H
  refine am_G.cl [.ref a6] [.ref a6] (am_Cl.mono (by decide) (lX10_init e9)) rfl rfl rfl rfl (Nat.le_of_ble_eq_true rfl) ?_
  refine am_G.fr 2 (g := (17, [some (.ref 2000000), some (.ref a1), some (.ref a6), none, none, none, none], [.int ((1 : Int32))])) rfl ?_
  obtain ⟨a11, hh12, e13, H⟩ := am_bd2 H
  refine am_G.nA rfl e13 ?_
  refine am_G.fr 3 (g := (23, [some (.ref 2000000), some (.ref a1), some (.ref a6), some (.ref a11), some (.int ((0 : Int32))), none, none], [])) rfl ?_
  obtain ⟨o480, E479, H⟩ := am_bd H
  have hL := lL_law_L23 (sc := sc) _ _ _ _ _ _ _ E479
  clear E479
  rcases o480 with hh478 | y481
  · dsimp only at H
    refine am_G.sq hL ?_
    refine am_G.fr 1 (g := (1283, [none, none, none, none, none, none, none], [.int ((1 : Int32))])) rfl ?_
    obtain ⟨rfl, rfl⟩ := am_inj2 H
    exact am_G.nd ⟨rfl, am_ret2 rfl (if_pos (by decide))⟩
  · dsimp only at H
    obtain rfl := Option.some.inj H
    exact hL
