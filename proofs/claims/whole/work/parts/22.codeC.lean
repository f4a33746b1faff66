def b_Appr_load : List BK := [(0, [(0, .iload_n 1, 0, 0), (1, .invokestatic 116, 121, 1), (4, .ifCond .eq 12, 16, 0)], 7),
  (7, [(7, .iload_n 2, 0, 0), (8, .ifCond .lt 8, 16, 0)], 11),
  (11, [(11, .iload_n 2, 0, 0), (12, .iconst 2, 2, 0), (13, .if_icmp .le 5, 18, 0)], 16),
  (16, [(16, .iconst (-1), 1, 1), (17, .ireturn, 0, 0)], 18),
  (18, [(18, .aload_n 0, 0, 0), (19, .iload_n 2, 0, 0), (20, .invokevirtual 328, 141, 2), (23, .aload_n 0, 0, 0), (24, .getfield 89, 12, 9), (27, .iload_n 1, 0, 0), (28, .iaload, 0, 0), (29, .ireturn, 0, 0)], 30)]
theorem t_Appr_load : z_chkM 112 b_Appr_load = true := by decide +kernel
def b_Appr_busiest : List BK := [(0, [(0, .iload_n 1, 0, 0), (1, .ifCond .lt 8, 9, 0)], 4),
  (4, [(4, .iload_n 1, 0, 0), (5, .iconst 1, 1, 0), (6, .if_icmp .le 5, 11, 0)], 9),
  (9, [(9, .iconst (-1), 1, 1), (10, .ireturn, 0, 0)], 11),
  (11, [(11, .aload_n 0, 0, 0), (12, .iconst 0, 0, 0), (13, .invokevirtual 328, 141, 2), (16, .aload_n 0, 0, 0), (17, .iload_n 1, 0, 0), (18, .invokevirtual 318, 143, 2), (21, .ireturn, 0, 0)], 22)]
theorem t_Appr_busiest : z_chkM 113 b_Appr_busiest = true := by decide +kernel
def b_Appr_approved : List BK := [(0, [(0, .iload_n 1, 0, 0), (1, .ifCond .lt 8, 9, 0)], 4),
  (4, [(4, .iload_n 1, 0, 0), (5, .iconst 3, 3, 0), (6, .if_icmp .le 5, 11, 0)], 9),
  (9, [(9, .iconst (-1), 1, 1), (10, .ireturn, 0, 0)], 11),
  (11, [(11, .iconst 0, 0, 0), (12, .istore_n 2, 0, 0), (13, .iconst 0, 0, 0), (14, .istore_n 3, 0, 0), (15, .bipush (-2), 2, 1), (17, .istore 4, 0, 0), (19, .bipush (-2), 2, 1), (21, .istore 5, 0, 0), (23, .iconst 0, 0, 0), (24, .istore 6, 0, 0)], 26),
  (26, [(26, .iload 6, 0, 0), (28, .aload_n 0, 0, 0), (29, .getfield 10, 0, 9), (32, .getfield 113, 1, 6), (35, .iconst 5, 5, 0), (36, .iaload, 0, 0), (37, .if_icmp .ge 72, 109, 0)], 40),
  (40, [(40, .aload_n 0, 0, 0), (41, .iload 6, 0, 0), (43, .invokevirtual 331, 136, 2), (46, .ifCond .eq 57, 103, 0)], 49),
  (49, [(49, .iinc 2 1, 1, 0), (52, .iload_n 3, 0, 0), (53, .aload_n 0, 0, 0), (54, .getfield 10, 0, 9), (57, .iconst 5, 5, 0), (58, .iload 6, 0, 0), (60, .iconst 4, 4, 0), (61, .invokevirtual 151, 52, 4), (64, .iadd, 0, 0), (65, .istore_n 3, 0, 0), (66, .aload_n 0, 0, 0), (67, .getfield 78, 10, 9), (70, .iconst 1, 1, 0), (71, .invokevirtual 240, 39, 2), (74, .aload_n 0, 0, 0), (75, .getfield 10, 0, 9), (78, .iconst 5, 5, 0), (79, .iload 6, 0, 0), (81, .iconst 5, 5, 0), (82, .invokevirtual 151, 52, 4), (85, .isub, 0, 0), (86, .istore 7, 0, 0), (88, .iload 7, 0, 0), (90, .iload 4, 0, 0), (92, .if_icmp .le 11, 103, 0)], 95),
  (95, [(95, .iload 7, 0, 0), (97, .istore 4, 0, 0), (99, .iload 6, 0, 0), (101, .istore 5, 0, 0)], 103),
  (103, [(103, .iinc 6 1, 1, 0), (106, .goto (-80), 26, 0)], 109),
  (109, [(109, .iload_n 1, 0, 0), (110, .tableswitch 33 0 2 #[26, 28, 30], 0, 0)], 136),
  (136, [(136, .iload_n 2, 0, 0), (137, .ireturn, 0, 0)], 138),
  (138, [(138, .iload_n 3, 0, 0), (139, .ireturn, 0, 0)], 140),
  (140, [(140, .iload 4, 0, 0), (142, .ireturn, 0, 0)], 143),
  (143, [(143, .iload 5, 0, 0), (145, .ireturn, 0, 0)], 146)]
theorem t_Appr_approved : z_chkM 114 b_Appr_approved = true := by decide +kernel
def b_Appr_could : List BK := [(0, [(0, .aload_n 0, 0, 0), (1, .getfield 10, 0, 9), (4, .iconst 5, 5, 0), (5, .iload_n 1, 0, 0), (6, .invokevirtual 120, 50, 3), (9, .ifCond .ne 5, 14, 0)], 12),
  (12, [(12, .iconst (-1), 1, 1), (13, .ireturn, 0, 0)], 14),
  (14, [(14, .aload_n 0, 0, 0), (15, .iload_n 1, 0, 0), (16, .invokevirtual 222, 135, 2), (19, .pop, 0, 0), (20, .iconst 0, 0, 0), (21, .istore_n 2, 0, 0), (22, .aload_n 0, 0, 0), (23, .getfield 60, 8, 9), (26, .getfield 309, 3, 2), (29, .istore_n 3, 0, 0), (30, .iconst 0, 0, 0), (31, .istore 4, 0, 0)], 33),
  (33, [(33, .iload 4, 0, 0), (35, .bipush 12, 12, 0), (37, .if_icmp .ge 84, 121, 0)], 40),
  (40, [(40, .aload_n 0, 0, 0), (41, .getfield 10, 0, 9), (44, .iconst 4, 4, 0), (45, .iload_n 3, 0, 0), (46, .invokevirtual 120, 50, 3), (49, .ifCond .eq 72, 121, 0)], 52),
  (52, [(52, .aload_n 0, 0, 0), (53, .getfield 69, 9, 9), (56, .aload_n 0, 0, 0), (57, .getfield 60, 8, 9), (60, .iload_n 3, 0, 0), (61, .aload_n 0, 0, 0), (62, .getfield 60, 8, 9), (65, .getfield 303, 4, 2), (68, .invokevirtual 253, 1, 4), (71, .ifCond .eq 33, 104, 0)], 74),
  (74, [(74, .aload_n 0, 0, 0), (75, .getfield 69, 9, 9), (78, .getfield 263, 7, 0), (81, .aload_n 0, 0, 0), (82, .getfield 60, 8, 9), (85, .getfield 306, 5, 2), (88, .if_icmp .lt 16, 104, 0)], 91),
  (91, [(91, .iload_n 2, 0, 0), (92, .aload_n 0, 0, 0), (93, .getfield 69, 9, 9), (96, .invokevirtual 257, 4, 1), (99, .invokestatic 334, 131, 1), (102, .ior, 0, 0), (103, .istore_n 2, 0, 0)], 104),
  (104, [(104, .aload_n 0, 0, 0), (105, .getfield 10, 0, 9), (108, .iconst 4, 4, 0), (109, .iload_n 3, 0, 0), (110, .iconst 0, 0, 0), (111, .invokevirtual 151, 52, 4), (114, .istore_n 3, 0, 0), (115, .iinc 4 1, 1, 0), (118, .goto (-85), 33, 0)], 121),
  (121, [(121, .iload_n 2, 0, 0), (122, .ireturn, 0, 0)], 123)]
theorem t_Appr_could : z_chkM 115 b_Appr_could = true := by decide +kernel
def b_Appr_manned : List BK := [(0, [(0, .aload_n 0, 0, 0), (1, .getfield 10, 0, 9), (4, .iconst 4, 4, 0), (5, .iload_n 1, 0, 0), (6, .invokevirtual 120, 50, 3), (9, .ifCond .eq 22, 31, 0)], 12),
  (12, [(12, .iload_n 2, 0, 0), (13, .iload_n 3, 0, 0), (14, .invokestatic 155, 123, 2), (17, .ifCond .eq 14, 31, 0)], 20),
  (20, [(20, .iload 4, 0, 0), (22, .ifCond .lt 9, 31, 0)], 25),
  (25, [(25, .iload 4, 0, 0), (27, .iconst 1, 1, 0), (28, .if_icmp .le 5, 33, 0)], 31),
  (31, [(31, .iconst (-1), 1, 1), (32, .ireturn, 0, 0)], 33),
  (33, [(33, .aload_n 0, 0, 0), (34, .getfield 60, 8, 9), (37, .iconst (-1), 1, 1), (38, .iconst (-1), 1, 1), (39, .iconst 0, 0, 0), (40, .invokevirtual 249, 13, 4), (43, .iconst 0, 0, 0), (44, .istore 5, 0, 0), (46, .iload_n 2, 0, 0), (47, .istore 6, 0, 0), (49, .iload_n 2, 0, 0), (50, .istore 7, 0, 0)], 52),
  (52, [(52, .iload 7, 0, 0), (54, .iload_n 3, 0, 0), (55, .if_icmp .gt 84, 139, 0)], 58),
  (58, [(58, .aload_n 0, 0, 0), (59, .iload 7, 0, 0), (61, .iload_n 3, 0, 0), (62, .invokevirtual 337, 139, 3), (65, .istore 6, 0, 0), (67, .iload 4, 0, 0), (69, .ifCond .ne 25, 94, 0)], 72),
  (72, [(72, .aload_n 0, 0, 0), (73, .getfield 10, 0, 9), (76, .iload_n 1, 0, 0), (77, .iload 7, 0, 0), (79, .invokevirtual 340, 61, 3), (82, .iconst (-1), 1, 1), (83, .if_icmp .eq 7, 90, 0)], 86),
  (86, [(86, .iconst 1, 1, 0), (87, .goto 21, 108, 0)], 90),
  (90, [(90, .iconst 0, 0, 0), (91, .goto 17, 108, 0)], 94),
  (94, [(94, .aload_n 0, 0, 0), (95, .getfield 69, 9, 9), (98, .aload_n 0, 0, 0), (99, .getfield 60, 8, 9), (102, .iload_n 1, 0, 0), (103, .iload 7, 0, 0), (105, .invokevirtual 253, 1, 4)], 108),
  (108, [(108, .istore 8, 0, 0), (110, .iload 8, 0, 0), (112, .ifCond .eq 13, 125, 0)], 115),
  (115, [(115, .iload 5, 0, 0), (117, .iload 6, 0, 0), (119, .iload 7, 0, 0), (121, .isub, 0, 0), (122, .iadd, 0, 0), (123, .istore 5, 0, 0)], 125),
  (125, [(125, .iload 7, 0, 0), (127, .iconst 1, 1, 0), (128, .iadd, 0, 0), (129, .iload 6, 0, 0), (131, .invokestatic 266, 1000, 0), (134, .istore 7, 0, 0), (136, .goto (-84), 52, 0)], 139),
  (139, [(139, .iload 5, 0, 0), (141, .ireturn, 0, 0)], 142)]
theorem t_Appr_manned : z_chkM 116 b_Appr_manned = true := by decide +kernel
def b_Appr_gap : List BK := [(0, [(0, .aload_n 0, 0, 0), (1, .getfield 10, 0, 9), (4, .iconst 4, 4, 0), (5, .iload_n 1, 0, 0), (6, .invokevirtual 120, 50, 3), (9, .ifCond .eq 22, 31, 0)], 12),
  (12, [(12, .iload_n 2, 0, 0), (13, .iload_n 3, 0, 0), (14, .invokestatic 155, 123, 2), (17, .ifCond .eq 14, 31, 0)], 20),
  (20, [(20, .iload 4, 0, 0), (22, .ifCond .lt 9, 31, 0)], 25),
  (25, [(25, .iload 4, 0, 0), (27, .iconst 2, 2, 0), (28, .if_icmp .le 5, 33, 0)], 31),
  (31, [(31, .iconst (-1), 1, 1), (32, .ireturn, 0, 0)], 33),
  (33, [(33, .aload_n 0, 0, 0), (34, .getfield 60, 8, 9), (37, .iconst (-1), 1, 1), (38, .iconst (-1), 1, 1), (39, .iconst 0, 0, 0), (40, .invokevirtual 249, 13, 4), (43, .iconst 0, 0, 0), (44, .istore 5, 0, 0), (46, .bipush (-2), 2, 1), (48, .istore 6, 0, 0), (50, .iconst 0, 0, 0), (51, .istore 7, 0, 0), (53, .iconst 0, 0, 0), (54, .istore 8, 0, 0), (56, .iload_n 2, 0, 0), (57, .istore 9, 0, 0), (59, .iload_n 2, 0, 0), (60, .istore 10, 0, 0)], 62),
  (62, [(62, .iload 10, 0, 0), (64, .iload_n 3, 0, 0), (65, .if_icmp .gt 92, 157, 0)], 68),
  (68, [(68, .aload_n 0, 0, 0), (69, .iload 10, 0, 0), (71, .iload_n 3, 0, 0), (72, .invokevirtual 337, 139, 3), (75, .istore 9, 0, 0), (77, .aload_n 0, 0, 0), (78, .getfield 69, 9, 9), (81, .aload_n 0, 0, 0), (82, .getfield 60, 8, 9), (85, .iload_n 1, 0, 0), (86, .iload 10, 0, 0), (88, .invokevirtual 253, 1, 4), (91, .ifCond .eq 9, 100, 0)], 94),
  (94, [(94, .iconst 0, 0, 0), (95, .istore 8, 0, 0), (97, .goto 46, 143, 0)], 100),
  (100, [(100, .iload 5, 0, 0), (102, .ifCond .ne 8, 110, 0)], 105),
  (105, [(105, .iload 10, 0, 0), (107, .goto 5, 112, 0)], 110),
  (110, [(110, .iload 6, 0, 0)], 112),
  (112, [(112, .istore 6, 0, 0), (114, .iload 5, 0, 0), (116, .iload 9, 0, 0), (118, .iload 10, 0, 0), (120, .isub, 0, 0), (121, .iadd, 0, 0), (122, .istore 5, 0, 0), (124, .iload 8, 0, 0), (126, .iload 9, 0, 0), (128, .iload 10, 0, 0), (130, .isub, 0, 0), (131, .iadd, 0, 0), (132, .istore 8, 0, 0), (134, .iload 7, 0, 0), (136, .iload 8, 0, 0), (138, .invokestatic 266, 1000, 0), (141, .istore 7, 0, 0)], 143),
  (143, [(143, .iload 10, 0, 0), (145, .iconst 1, 1, 0), (146, .iadd, 0, 0), (147, .iload 9, 0, 0), (149, .invokestatic 266, 1000, 0), (152, .istore 10, 0, 0), (154, .goto (-92), 62, 0)], 157),
  (157, [(157, .iload 4, 0, 0), (159, .ifCond .ne 6, 165, 0)], 162),
  (162, [(162, .iload 5, 0, 0), (164, .ireturn, 0, 0)], 165),
  (165, [(165, .iload 4, 0, 0), (167, .iconst 1, 1, 0), (168, .if_icmp .ne 8, 176, 0)], 171),
  (171, [(171, .iload 6, 0, 0), (173, .goto 5, 178, 0)], 176),
  (176, [(176, .iload 7, 0, 0)], 178),
  (178, [(178, .ireturn, 0, 0)], 179)]
theorem t_Appr_gap : z_chkM 117 b_Appr_gap = true := by decide +kernel
def b_Appr_letter : List BK := [(0, [(0, .iload_n 1, 0, 0), (1, .iconst (-1), 1, 1), (2, .if_icmp .ge 5, 7, 0)], 5),
  (5, [(5, .iconst (-1), 1, 1), (6, .ireturn, 0, 0)], 7),
  (7, [(7, .aload_n 0, 0, 0), (8, .getfield 53, 7, 9), (11, .aload_n 0, 0, 0), (12, .getfield 10, 0, 9), (15, .iload_n 1, 0, 0), (16, .invokevirtual 343, 6, 3), (19, .ireturn, 0, 0)], 20)]
theorem t_Appr_letter : z_chkM 118 b_Appr_letter = true := by decide +kernel
def b_Appr_tangle : List BK := [(0, [(0, .iload_n 1, 0, 0), (1, .invokestatic 130, 122, 1), (4, .ifCond .ne 5, 9, 0)], 7),
  (7, [(7, .iconst (-1), 1, 1), (8, .ireturn, 0, 0)], 9),
  (9, [(9, .aload_n 0, 0, 0), (10, .getfield 85, 11, 9), (13, .aload_n 0, 0, 0), (14, .getfield 10, 0, 9), (17, .iload_n 1, 0, 0), (18, .invokevirtual 271, 72, 3), (21, .aload_n 0, 0, 0), (22, .getfield 85, 11, 9), (25, .invokevirtual 347, 75, 1), (28, .ireturn, 0, 0)], 29)]
theorem t_Appr_tangle : z_chkM 119 b_Appr_tangle = true := by decide +kernel
def b_Appr_count : List BK := [(0, [(0, .iload_n 1, 0, 0), (1, .tableswitch 192 0 13 #[71, 81, 91, 101, 111, 121, 131, 141, 151, 161, 166, 171, 179, 187], 0, 0)], 72),
  (72, [(72, .aload_n 0, 0, 0), (73, .getfield 10, 0, 9), (76, .getfield 113, 1, 6), (79, .iconst 4, 4, 0), (80, .iaload, 0, 0), (81, .ireturn, 0, 0)], 82),
  (82, [(82, .aload_n 0, 0, 0), (83, .getfield 10, 0, 9), (86, .getfield 113, 1, 6), (89, .iconst 0, 0, 0), (90, .iaload, 0, 0), (91, .ireturn, 0, 0)], 92),
  (92, [(92, .aload_n 0, 0, 0), (93, .getfield 10, 0, 9), (96, .getfield 113, 1, 6), (99, .iconst 1, 1, 0), (100, .iaload, 0, 0), (101, .ireturn, 0, 0)], 102),
  (102, [(102, .aload_n 0, 0, 0), (103, .getfield 10, 0, 9), (106, .getfield 113, 1, 6), (109, .iconst 2, 2, 0), (110, .iaload, 0, 0), (111, .ireturn, 0, 0)], 112),
  (112, [(112, .aload_n 0, 0, 0), (113, .getfield 10, 0, 9), (116, .getfield 113, 1, 6), (119, .iconst 3, 3, 0), (120, .iaload, 0, 0), (121, .ireturn, 0, 0)], 122),
  (122, [(122, .aload_n 0, 0, 0), (123, .getfield 10, 0, 9), (126, .getfield 184, 2, 6), (129, .iconst 0, 0, 0), (130, .iaload, 0, 0), (131, .ireturn, 0, 0)], 132),
  (132, [(132, .aload_n 0, 0, 0), (133, .getfield 10, 0, 9), (136, .getfield 184, 2, 6), (139, .iconst 1, 1, 0), (140, .iaload, 0, 0), (141, .ireturn, 0, 0)], 142),
  (142, [(142, .aload_n 0, 0, 0), (143, .getfield 10, 0, 9), (146, .getfield 184, 2, 6), (149, .iconst 2, 2, 0), (150, .iaload, 0, 0), (151, .ireturn, 0, 0)], 152),
  (152, [(152, .aload_n 0, 0, 0), (153, .getfield 10, 0, 9), (156, .getfield 113, 1, 6), (159, .iconst 5, 5, 0), (160, .iaload, 0, 0), (161, .ireturn, 0, 0)], 162),
  (162, [(162, .aload_n 0, 0, 0), (163, .invokevirtual 350, 137, 1), (166, .ireturn, 0, 0)], 167),
  (167, [(167, .aload_n 0, 0, 0), (168, .invokevirtual 353, 138, 1), (171, .ireturn, 0, 0)], 172),
  (172, [(172, .aload_n 0, 0, 0), (173, .getfield 19, 1, 9), (176, .getfield 356, 2, 3), (179, .ireturn, 0, 0)], 180),
  (180, [(180, .aload_n 0, 0, 0), (181, .getfield 34, 4, 9), (184, .getfield 96, 1, 7), (187, .ireturn, 0, 0)], 188),
  (188, [(188, .aload_n 0, 0, 0), (189, .getfield 27, 3, 9), (192, .ireturn, 0, 0)], 193),
  (193, [(193, .iconst (-1), 1, 1), (194, .ireturn, 0, 0)], 195)]
theorem t_Appr_count : z_chkM 120 b_Appr_count = true := by decide +kernel
def b_Appr_isPerson : List BK := [(0, [(0, .iload_n 0, 0, 0), (1, .ifCond .lt 13, 14, 0)], 4),
  (4, [(4, .iload_n 0, 0, 0), (5, .bipush 16, 16, 0), (7, .if_icmp .ge 7, 14, 0)], 10),
  (10, [(10, .iconst 1, 1, 0), (11, .goto 4, 15, 0)], 14),
  (14, [(14, .iconst 0, 0, 0)], 15),
  (15, [(15, .ireturn, 0, 0)], 16)]
theorem t_Appr_isPerson : z_chkM 121 b_Appr_isPerson = true := by decide +kernel
def b_Appr_isDay : List BK := [(0, [(0, .iload_n 0, 0, 0), (1, .ifCond .lt 14, 15, 0)], 4),
  (4, [(4, .iload_n 0, 0, 0), (5, .sipush 1000, 1000, 0), (8, .if_icmp .ge 7, 15, 0)], 11),
  (11, [(11, .iconst 1, 1, 0), (12, .goto 4, 16, 0)], 15),
  (15, [(15, .iconst 0, 0, 0)], 16),
  (16, [(16, .ireturn, 0, 0)], 17)]
theorem t_Appr_isDay : z_chkM 122 b_Appr_isDay = true := by decide +kernel
def b_Appr_areDays : List BK := [(0, [(0, .iload_n 0, 0, 0), (1, .invokestatic 130, 122, 1), (4, .ifCond .eq 19, 23, 0)], 7),
  (7, [(7, .iload_n 1, 0, 0), (8, .invokestatic 130, 122, 1), (11, .ifCond .eq 12, 23, 0)], 14),
  (14, [(14, .iload_n 0, 0, 0), (15, .iload_n 1, 0, 0), (16, .if_icmp .gt 7, 23, 0)], 19),
  (19, [(19, .iconst 1, 1, 0), (20, .goto 4, 24, 0)], 23),
  (23, [(23, .iconst 0, 0, 0)], 24),
  (24, [(24, .ireturn, 0, 0)], 25)]
theorem t_Appr_areDays : z_chkM 123 b_Appr_areDays = true := by decide +kernel
def b_Appr_isKind : List BK := [(0, [(0, .iload_n 0, 0, 0), (1, .ifCond .lt 12, 13, 0)], 4),
  (4, [(4, .iload_n 0, 0, 0), (5, .iconst 3, 3, 0), (6, .if_icmp .ge 7, 13, 0)], 9),
  (9, [(9, .iconst 1, 1, 0), (10, .goto 4, 14, 0)], 13),
  (13, [(13, .iconst 0, 0, 0)], 14),
  (14, [(14, .ireturn, 0, 0)], 15)]
theorem t_Appr_isKind : z_chkM 124 b_Appr_isKind = true := by decide +kernel
def b_Appr_isEntryKind : List BK := [(0, [(0, .iload_n 0, 0, 0), (1, .ifCond .lt 12, 13, 0)], 4),
  (4, [(4, .iload_n 0, 0, 0), (5, .iconst 3, 3, 0), (6, .if_icmp .gt 7, 13, 0)], 9),
  (9, [(9, .iconst 1, 1, 0), (10, .goto 4, 14, 0)], 13),
  (13, [(13, .iconst 0, 0, 0)], 14),
  (14, [(14, .ireturn, 0, 0)], 15)]
theorem t_Appr_isEntryKind : z_chkM 125 b_Appr_isEntryKind = true := by decide +kernel
def b_Appr_isWhich : List BK := [(0, [(0, .iload_n 0, 0, 0), (1, .ifCond .lt 13, 14, 0)], 4),
  (4, [(4, .iload_n 0, 0, 0), (5, .bipush 30, 30, 0), (7, .if_icmp .ge 7, 14, 0)], 10),
  (10, [(10, .iconst 1, 1, 0), (11, .goto 4, 15, 0)], 14),
  (14, [(14, .iconst 0, 0, 0)], 15),
  (15, [(15, .ireturn, 0, 0)], 16)]
theorem t_Appr_isWhich : z_chkM 126 b_Appr_isWhich = true := by decide +kernel
def b_Appr_isAmount : List BK := [(0, [(0, .iload_n 0, 0, 0), (1, .iconst 1, 1, 0), (2, .if_icmp .lt 14, 16, 0)], 5),
  (5, [(5, .iload_n 0, 0, 0), (6, .sipush 9999, 9999, 0), (9, .if_icmp .gt 7, 16, 0)], 12),
  (12, [(12, .iconst 1, 1, 0), (13, .goto 4, 17, 0)], 16),
  (16, [(16, .iconst 0, 0, 0)], 17),
  (17, [(17, .ireturn, 0, 0)], 18)]
theorem t_Appr_isAmount : z_chkM 127 b_Appr_isAmount = true := by decide +kernel
def b_Appr_isLimit : List BK := [(0, [(0, .iload_n 0, 0, 0), (1, .ifCond .lt 14, 15, 0)], 4),
  (4, [(4, .iload_n 0, 0, 0), (5, .sipush 9999, 9999, 0), (8, .if_icmp .gt 7, 15, 0)], 11),
  (11, [(11, .iconst 1, 1, 0), (12, .goto 4, 16, 0)], 15),
  (15, [(15, .iconst 0, 0, 0)], 16),
  (16, [(16, .ireturn, 0, 0)], 17)]
theorem t_Appr_isLimit : z_chkM 128 b_Appr_isLimit = true := by decide +kernel
def b_Appr_isShelf : List BK := [(0, [(0, .iload_n 0, 0, 0), (1, .ifCond .lt 12, 13, 0)], 4),
  (4, [(4, .iload_n 0, 0, 0), (5, .iconst 2, 2, 0), (6, .if_icmp .ge 7, 13, 0)], 9),
  (9, [(9, .iconst 1, 1, 0), (10, .goto 4, 14, 0)], 13),
  (13, [(13, .iconst 0, 0, 0)], 14),
  (14, [(14, .ireturn, 0, 0)], 15)]
theorem t_Appr_isShelf : z_chkM 129 b_Appr_isShelf = true := by decide +kernel
def b_Appr_isIn : List BK := [(0, [(0, .iload_n 0, 0, 0), (1, .iload_n 1, 0, 0), (2, .ishr, 0, 0), (3, .iconst 1, 1, 0), (4, .iand, 0, 0), (5, .ifCond .eq 7, 12, 0)], 8),
  (8, [(8, .iconst 1, 1, 0), (9, .goto 4, 13, 0)], 12),
  (12, [(12, .iconst 0, 0, 0)], 13),
  (13, [(13, .ireturn, 0, 0)], 14)]
theorem t_Appr_isIn : z_chkM 130 b_Appr_isIn = true := by decide +kernel
def b_Appr_bitOf : List BK := [(0, [(0, .iload_n 0, 0, 0), (1, .invokestatic 116, 121, 1), (4, .ifCond .eq 9, 13, 0)], 7),
  (7, [(7, .iconst 1, 1, 0), (8, .iload_n 0, 0, 0), (9, .ishl, 0, 0), (10, .goto 4, 14, 0)], 13),
  (13, [(13, .iconst 0, 0, 0)], 14),
  (14, [(14, .ireturn, 0, 0)], 15)]
theorem t_Appr_bitOf : z_chkM 131 b_Appr_bitOf = true := by decide +kernel
def b_Appr_addEntry : List BK := [(0, [(0, .aload_n 0, 0, 0), (1, .getfield 10, 0, 9), (4, .iload_n 1, 0, 0), (5, .invokevirtual 133, 51, 2), (8, .ifCond .eq 6, 14, 0)], 11),
  (11, [(11, .bipush (-2), 2, 1), (13, .ireturn, 0, 0)], 14),
  (14, [(14, .aload_n 0, 0, 0), (15, .getfield 19, 1, 9), (18, .aload_n 0, 0, 0), (19, .getfield 10, 0, 9), (22, .invokevirtual 136, 16, 2), (25, .aload_n 0, 0, 0), (26, .getfield 10, 0, 9), (29, .iload_n 1, 0, 0), (30, .iload_n 2, 0, 0), (31, .iload_n 3, 0, 0), (32, .iload 4, 0, 0), (34, .iload 5, 0, 0), (36, .iload 6, 0, 0), (38, .invokevirtual 357, 54, 7), (41, .ireturn, 0, 0)], 42)]
theorem t_Appr_addEntry : z_chkM 132 b_Appr_addEntry = true := by decide +kernel
def b_Appr_refusalOfRecall : List BK := [(0, [(0, .aload_n 0, 0, 0), (1, .getfield 10, 0, 9), (4, .iconst 5, 5, 0), (5, .iload_n 1, 0, 0), (6, .invokevirtual 120, 50, 3), (9, .ifCond .eq 24, 33, 0)], 12),
  (12, [(12, .iload_n 2, 0, 0), (13, .invokestatic 130, 122, 1), (16, .ifCond .eq 17, 33, 0)], 19),
  (19, [(19, .iload_n 2, 0, 0), (20, .aload_n 0, 0, 0), (21, .getfield 10, 0, 9), (24, .iconst 5, 5, 0), (25, .iload_n 1, 0, 0), (26, .iconst 5, 5, 0), (27, .invokevirtual 151, 52, 4), (30, .if_icmp .ge 5, 35, 0)], 33),
  (33, [(33, .iconst (-1), 1, 1), (34, .ireturn, 0, 0)], 35),
  (35, [(35, .aload_n 0, 0, 0), (36, .getfield 10, 0, 9), (39, .iload_n 1, 0, 0), (40, .invokevirtual 243, 57, 2), (43, .ifCond .eq 6, 49, 0)], 46),
  (46, [(46, .bipush (-2), 2, 1), (48, .ireturn, 0, 0)], 49),
  (49, [(49, .aload_n 0, 0, 0), (50, .getfield 78, 10, 9), (53, .aload_n 0, 0, 0), (54, .iload_n 1, 0, 0), (55, .invokevirtual 222, 135, 2), (58, .invokevirtual 226, 33, 2), (61, .aload_n 0, 0, 0), (62, .getfield 78, 10, 9), (65, .invokevirtual 290, 41, 1), (68, .ifCond .eq 20, 88, 0)], 71),
  (71, [(71, .aload_n 0, 0, 0), (72, .getfield 78, 10, 9), (75, .iconst 1, 1, 0), (76, .invokevirtual 240, 39, 2), (79, .iload_n 2, 0, 0), (80, .if_icmp .gt 8, 88, 0)], 83),
  (83, [(83, .bipush (-3), 3, 1), (85, .goto 4, 89, 0)], 88),
  (88, [(88, .iconst 0, 0, 0)], 89),
  (89, [(89, .ireturn, 0, 0)], 90)]
theorem t_Appr_refusalOfRecall : z_chkM 133 b_Appr_refusalOfRecall = true := by decide +kernel
def b_Appr_wholeOn : List BK := [(0, [(0, .aload_n 0, 0, 0), (1, .getfield 10, 0, 9), (4, .iconst 5, 5, 0), (5, .iload_n 1, 0, 0), (6, .iconst 4, 4, 0), (7, .invokevirtual 151, 52, 4), (10, .aload_n 0, 0, 0), (11, .getfield 10, 0, 9), (14, .aload_n 0, 0, 0), (15, .getfield 10, 0, 9), (18, .iload_n 1, 0, 0), (19, .iload_n 2, 0, 0), (20, .invokevirtual 218, 65, 3), (23, .invokevirtual 294, 67, 2), (26, .iadd, 0, 0), (27, .ireturn, 0, 0)], 28)]
theorem t_Appr_wholeOn : z_chkM 134 b_Appr_wholeOn = true := by decide +kernel
def b_Appr_matterOf : List BK := [(0, [(0, .aload_n 0, 0, 0), (1, .getfield 60, 8, 9), (4, .aload_n 0, 0, 0), (5, .getfield 10, 0, 9), (8, .iconst 5, 5, 0), (9, .iload_n 1, 0, 0), (10, .iconst 0, 0, 0), (11, .invokevirtual 151, 52, 4), (14, .aload_n 0, 0, 0), (15, .getfield 10, 0, 9), (18, .iconst 5, 5, 0), (19, .iload_n 1, 0, 0), (20, .iconst 2, 2, 0), (21, .invokevirtual 151, 52, 4), (24, .aload_n 0, 0, 0), (25, .getfield 10, 0, 9), (28, .iconst 5, 5, 0), (29, .iload_n 1, 0, 0), (30, .iconst 3, 3, 0), (31, .invokevirtual 151, 52, 4), (34, .invokevirtual 249, 13, 4), (37, .aload_n 0, 0, 0), (38, .getfield 60, 8, 9), (41, .aload_n 0, 0, 0), (42, .getfield 10, 0, 9), (45, .iconst 5, 5, 0), (46, .iload_n 1, 0, 0), (47, .iconst 1, 1, 0), (48, .invokevirtual 151, 52, 4), (51, .putfield 309, 3, 2), (54, .aload_n 0, 0, 0), (55, .getfield 60, 8, 9), (58, .aload_n 0, 0, 0), (59, .getfield 10, 0, 9), (62, .iconst 5, 5, 0), (63, .iload_n 1, 0, 0), (64, .iconst 5, 5, 0), (65, .invokevirtual 151, 52, 4), (68, .putfield 303, 4, 2), (71, .aload_n 0, 0, 0), (72, .getfield 60, 8, 9), (75, .aload_n 0, 0, 0), (76, .iload_n 1, 0, 0), (77, .aload_n 0, 0, 0), (78, .getfield 60, 8, 9), (81, .getfield 303, 4, 2), (84, .invokevirtual 203, 134, 3), (87, .putfield 306, 5, 2), (90, .aload_n 0, 0, 0), (91, .getfield 60, 8, 9), (94, .areturn, 0, 0)], 95)]
theorem t_Appr_matterOf : z_chkM 135 b_Appr_matterOf = true := by decide +kernel
def b_Appr_isApprovedNow : List BK := [(0, [(0, .aload_n 0, 0, 0), (1, .getfield 10, 0, 9), (4, .iload_n 1, 0, 0), (5, .invokevirtual 243, 57, 2), (8, .ifCond .eq 5, 13, 0)], 11),
  (11, [(11, .iconst 0, 0, 0), (12, .ireturn, 0, 0)], 13),
  (13, [(13, .aload_n 0, 0, 0), (14, .getfield 78, 10, 9), (17, .aload_n 0, 0, 0), (18, .iload_n 1, 0, 0), (19, .invokevirtual 222, 135, 2), (22, .invokevirtual 226, 33, 2), (25, .aload_n 0, 0, 0), (26, .getfield 78, 10, 9), (29, .invokevirtual 290, 41, 1), (32, .ireturn, 0, 0)], 33)]
theorem t_Appr_isApprovedNow : z_chkM 136 b_Appr_isApprovedNow = true := by decide +kernel
def b_Appr_countRecalled : List BK := [(0, [(0, .iconst 0, 0, 0), (1, .istore_n 1, 0, 0), (2, .iconst 0, 0, 0), (3, .istore_n 2, 0, 0)], 4),
  (4, [(4, .iload_n 2, 0, 0), (5, .aload_n 0, 0, 0), (6, .getfield 10, 0, 9), (9, .getfield 113, 1, 6), (12, .iconst 5, 5, 0), (13, .iaload, 0, 0), (14, .if_icmp .ge 23, 37, 0)], 17),
  (17, [(17, .aload_n 0, 0, 0), (18, .getfield 10, 0, 9), (21, .iload_n 2, 0, 0), (22, .invokevirtual 243, 57, 2), (25, .ifCond .eq 6, 31, 0)], 28),
  (28, [(28, .iinc 1 1, 1, 0)], 31),
  (31, [(31, .iinc 2 1, 1, 0), (34, .goto (-30), 4, 0)], 37),
  (37, [(37, .iload_n 1, 0, 0), (38, .ireturn, 0, 0)], 39)]
theorem t_Appr_countRecalled : z_chkM 137 b_Appr_countRecalled = true := by decide +kernel
def b_Appr_countStuck : List BK := [(0, [(0, .iconst 0, 0, 0), (1, .istore_n 1, 0, 0), (2, .iconst 0, 0, 0), (3, .istore_n 2, 0, 0)], 4),
  (4, [(4, .iload_n 2, 0, 0), (5, .aload_n 0, 0, 0), (6, .getfield 10, 0, 9), (9, .getfield 113, 1, 6), (12, .iconst 5, 5, 0), (13, .iaload, 0, 0), (14, .if_icmp .ge 50, 64, 0)], 17),
  (17, [(17, .aload_n 0, 0, 0), (18, .getfield 10, 0, 9), (21, .iload_n 2, 0, 0), (22, .invokevirtual 243, 57, 2), (25, .ifCond .ne 33, 58, 0)], 28),
  (28, [(28, .aload_n 0, 0, 0), (29, .getfield 78, 10, 9), (32, .aload_n 0, 0, 0), (33, .iload_n 2, 0, 0), (34, .invokevirtual 222, 135, 2), (37, .invokevirtual 226, 33, 2), (40, .iload_n 1, 0, 0), (41, .aload_n 0, 0, 0), (42, .getfield 78, 10, 9), (45, .invokevirtual 290, 41, 1), (48, .ifCond .eq 7, 55, 0)], 51),
  (51, [(51, .iconst 0, 0, 0), (52, .goto 4, 56, 0)], 55),
  (55, [(55, .iconst 1, 1, 0)], 56),
  (56, [(56, .iadd, 0, 0), (57, .istore_n 1, 0, 0)], 58),
  (58, [(58, .iinc 2 1, 1, 0), (61, .goto (-57), 4, 0)], 64),
  (64, [(64, .iload_n 1, 0, 0), (65, .ireturn, 0, 0)], 66)]
theorem t_Appr_countStuck : z_chkM 138 b_Appr_countStuck = true := by decide +kernel
def b_Appr_nextDay : List BK := [(0, [(0, .iload_n 2, 0, 0), (1, .iconst 1, 1, 0), (2, .iadd, 0, 0), (3, .aload_n 0, 0, 0), (4, .getfield 10, 0, 9), (7, .iload_n 1, 0, 0), (8, .invokevirtual 360, 64, 2), (11, .invokestatic 300, 1001, 0), (14, .ireturn, 0, 0)], 15)]
theorem t_Appr_nextDay : z_chkM 139 b_Appr_nextDay = true := by decide +kernel
def b_Appr_clearTally : List BK := [(0, [(0, .iconst 0, 0, 0), (1, .istore_n 1, 0, 0)], 2),
  (2, [(2, .iload_n 1, 0, 0), (3, .bipush 16, 16, 0), (5, .if_icmp .ge 16, 21, 0)], 8),
  (8, [(8, .aload_n 0, 0, 0), (9, .getfield 89, 12, 9), (12, .iload_n 1, 0, 0), (13, .iconst 0, 0, 0), (14, .iastore, 0, 0), (15, .iinc 1 1, 1, 0), (18, .goto (-16), 2, 0)], 21),
  (21, [(21, .return_, 0, 0)], 22)]
theorem t_Appr_clearTally : z_chkM 140 b_Appr_clearTally = true := by decide +kernel
def b_Appr_tallySteps : List BK := [(0, [(0, .aload_n 0, 0, 0), (1, .invokevirtual 312, 140, 1), (4, .iconst 0, 0, 0), (5, .istore_n 2, 0, 0)], 6),
  (6, [(6, .iload_n 2, 0, 0), (7, .aload_n 0, 0, 0), (8, .getfield 10, 0, 9), (11, .getfield 113, 1, 6), (14, .iconst 5, 5, 0), (15, .iaload, 0, 0), (16, .if_icmp .ge 96, 112, 0)], 19),
  (19, [(19, .aload_n 0, 0, 0), (20, .getfield 10, 0, 9), (23, .iload_n 2, 0, 0), (24, .invokevirtual 243, 57, 2), (27, .ifCond .eq 6, 33, 0)], 30),
  (30, [(30, .goto 76, 106, 0)], 33),
  (33, [(33, .aload_n 0, 0, 0), (34, .getfield 78, 10, 9), (37, .aload_n 0, 0, 0), (38, .iload_n 2, 0, 0), (39, .invokevirtual 222, 135, 2), (42, .invokevirtual 226, 33, 2), (45, .iconst 0, 0, 0), (46, .istore_n 3, 0, 0)], 47),
  (47, [(47, .iload_n 3, 0, 0), (48, .aload_n 0, 0, 0), (49, .getfield 78, 10, 9), (52, .getfield 230, 4, 5), (55, .if_icmp .ge 51, 106, 0)], 58),
  (58, [(58, .aload_n 0, 0, 0), (59, .getfield 78, 10, 9), (62, .iload_n 3, 0, 0), (63, .iconst 2, 2, 0), (64, .invokevirtual 235, 38, 3), (67, .istore 4, 0, 0), (69, .iload 4, 0, 0), (71, .invokestatic 116, 121, 1), (74, .ifCond .eq 26, 100, 0)], 77),
  (77, [(77, .aload_n 0, 0, 0), (78, .getfield 78, 10, 9), (81, .iload_n 3, 0, 0), (82, .iload_n 1, 0, 0), (83, .invokevirtual 363, 46, 3), (86, .ifCond .eq 14, 100, 0)], 89),
  (89, [(89, .aload_n 0, 0, 0), (90, .getfield 89, 12, 9), (93, .iload 4, 0, 0), (95, .dup2, 0, 0), (96, .iaload, 0, 0), (97, .iconst 1, 1, 0), (98, .iadd, 0, 0), (99, .iastore, 0, 0)], 100),
  (100, [(100, .iinc 3 1, 1, 0), (103, .goto (-56), 47, 0)], 106),
  (106, [(106, .iinc 2 1, 1, 0), (109, .goto (-103), 6, 0)], 112),
  (112, [(112, .return_, 0, 0)], 113)]
theorem t_Appr_tallySteps : z_chkM 141 b_Appr_tallySteps = true := by decide +kernel
def b_Appr_tallyPillars : List BK := [(0, [(0, .aload_n 0, 0, 0), (1, .getfield 78, 10, 9), (4, .aload_n 0, 0, 0), (5, .iload_n 1, 0, 0), (6, .invokevirtual 222, 135, 2), (9, .invokevirtual 226, 33, 2), (12, .aload_n 0, 0, 0), (13, .getfield 78, 10, 9), (16, .invokevirtual 290, 41, 1), (19, .ifCond .ne 4, 23, 0)], 22),
  (22, [(22, .return_, 0, 0)], 23),
  (23, [(23, .aload_n 0, 0, 0), (24, .getfield 78, 10, 9), (27, .invokevirtual 366, 45, 1), (30, .istore_n 2, 0, 0), (31, .iconst 0, 0, 0), (32, .istore_n 3, 0, 0)], 33),
  (33, [(33, .iload_n 3, 0, 0), (34, .bipush 16, 16, 0), (36, .if_icmp .ge 60, 96, 0)], 39),
  (39, [(39, .iload_n 2, 0, 0), (40, .iload_n 3, 0, 0), (41, .invokestatic 168, 130, 2), (44, .ifCond .eq 46, 90, 0)], 47),
  (47, [(47, .aload_n 0, 0, 0), (48, .getfield 60, 8, 9), (51, .iload_n 3, 0, 0), (52, .putfield 284, 6, 2), (55, .aload_n 0, 0, 0), (56, .getfield 78, 10, 9), (59, .aload_n 0, 0, 0), (60, .getfield 60, 8, 9), (63, .invokevirtual 226, 33, 2), (66, .aload_n 0, 0, 0), (67, .getfield 89, 12, 9), (70, .iload_n 3, 0, 0), (71, .dup2, 0, 0), (72, .iaload, 0, 0), (73, .aload_n 0, 0, 0), (74, .getfield 78, 10, 9), (77, .invokevirtual 290, 41, 1), (80, .ifCond .eq 7, 87, 0)], 83),
  (83, [(83, .iconst 0, 0, 0), (84, .goto 4, 88, 0)], 87),
  (87, [(87, .iconst 1, 1, 0)], 88),
  (88, [(88, .iadd, 0, 0), (89, .iastore, 0, 0)], 90),
  (90, [(90, .iinc 3 1, 1, 0), (93, .goto (-60), 33, 0)], 96),
  (96, [(96, .return_, 0, 0)], 97)]
theorem t_Appr_tallyPillars : z_chkM 142 b_Appr_tallyPillars = true := by decide +kernel
def b_Appr_ofTally : List BK := [(0, [(0, .iconst 0, 0, 0), (1, .istore_n 2, 0, 0), (2, .iconst 1, 1, 0), (3, .istore_n 3, 0, 0)], 4),
  (4, [(4, .iload_n 3, 0, 0), (5, .bipush 16, 16, 0), (7, .if_icmp .ge 26, 33, 0)], 10),
  (10, [(10, .aload_n 0, 0, 0), (11, .getfield 89, 12, 9), (14, .iload_n 3, 0, 0), (15, .iaload, 0, 0), (16, .aload_n 0, 0, 0), (17, .getfield 89, 12, 9), (20, .iload_n 2, 0, 0), (21, .iaload, 0, 0), (22, .if_icmp .le 5, 27, 0)], 25),
  (25, [(25, .iload_n 3, 0, 0), (26, .istore_n 2, 0, 0)], 27),
  (27, [(27, .iinc 3 1, 1, 0), (30, .goto (-26), 4, 0)], 33),
  (33, [(33, .aload_n 0, 0, 0), (34, .getfield 89, 12, 9), (37, .iload_n 2, 0, 0), (38, .iaload, 0, 0), (39, .ifCond .ne 6, 45, 0)], 42),
  (42, [(42, .bipush (-2), 2, 1), (44, .ireturn, 0, 0)], 45),
  (45, [(45, .iload_n 1, 0, 0), (46, .ifCond .ne 7, 53, 0)], 49),
  (49, [(49, .iload_n 2, 0, 0), (50, .goto 9, 59, 0)], 53),
  (53, [(53, .aload_n 0, 0, 0), (54, .getfield 89, 12, 9), (57, .iload_n 2, 0, 0), (58, .iaload, 0, 0)], 59),
  (59, [(59, .ireturn, 0, 0)], 60)]
theorem t_Appr_ofTally : z_chkM 143 b_Appr_ofTally = true := by decide +kernel
def b_Appr_coverParts : List BK := [(0, [(0, .iload_n 1, 0, 0), (1, .iconst 1, 1, 0), (2, .if_icmp .lt 9, 11, 0)], 5),
  (5, [(5, .iload_n 1, 0, 0), (6, .bipush 40, 40, 0), (8, .if_icmp .le 5, 13, 0)], 11),
  (11, [(11, .iconst 0, 0, 0), (12, .ireturn, 0, 0)], 13),
  (13, [(13, .iload_n 2, 0, 0), (14, .iload_n 1, 0, 0), (15, .idiv, 0, 0), (16, .istore_n 3, 0, 0), (17, .iload_n 2, 0, 0), (18, .iload_n 1, 0, 0), (19, .irem, 0, 0), (20, .istore 4, 0, 0), (22, .iconst 0, 0, 0), (23, .istore 5, 0, 0)], 25),
  (25, [(25, .iload 5, 0, 0), (27, .iload_n 1, 0, 0), (28, .if_icmp .ge 35, 63, 0)], 31),
  (31, [(31, .aload_n 0, 0, 0), (32, .getfield 93, 13, 9), (35, .iload 5, 0, 0), (37, .iaload, 0, 0), (38, .iload 5, 0, 0), (40, .iload 4, 0, 0), (42, .if_icmp .ge 9, 51, 0)], 45),
  (45, [(45, .iload_n 3, 0, 0), (46, .iconst 1, 1, 0), (47, .iadd, 0, 0), (48, .goto 4, 52, 0)], 51),
  (51, [(51, .iload_n 3, 0, 0)], 52),
  (52, [(52, .if_icmp .ge 5, 57, 0)], 55),
  (55, [(55, .iconst 0, 0, 0), (56, .ireturn, 0, 0)], 57),
  (57, [(57, .iinc 5 1, 1, 0), (60, .goto (-35), 25, 0)], 63),
  (63, [(63, .iconst 1, 1, 0), (64, .ireturn, 0, 0)], 65)]
theorem t_Appr_coverParts : z_chkM 144 b_Appr_coverParts = true := by decide +kernel
def b_Appr_wordOf : List BK := [(0, [(0, .iload_n 0, 0, 0), (1, .tableswitch 83 0 8 #[51, 55, 59, 63, 67, 83, 71, 75, 79], 0, 0)], 52),
  (52, [(52, .ldc_w 369, 5, 0), (55, .areturn, 0, 0)], 56),
  (56, [(56, .ldc_w 371, 2, 0), (59, .areturn, 0, 0)], 60),
  (60, [(60, .ldc_w 373, 13, 0), (63, .areturn, 0, 0)], 64),
  (64, [(64, .ldc_w 375, 4, 0), (67, .areturn, 0, 0)], 68),
  (68, [(68, .ldc_w 377, 12, 0), (71, .areturn, 0, 0)], 72),
  (72, [(72, .ldc_w 378, 18, 0), (75, .areturn, 0, 0)], 76),
  (76, [(76, .ldc_w 380, 10, 0), (79, .areturn, 0, 0)], 80),
  (80, [(80, .ldc_w 382, 17, 0), (83, .areturn, 0, 0)], 84),
  (84, [(84, .ldc_w 384, 0, 0), (87, .areturn, 0, 0)], 88)]
theorem t_Appr_wordOf : z_chkM 145 b_Appr_wordOf = true := by decide +kernel
