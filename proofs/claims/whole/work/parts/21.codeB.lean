def b_Appr_init : List BK := [(0, [(0, .aload_n 0, 0, 0), (1, .invokespecial 1, 1003, 0), (4, .aload_n 0, 0, 0), (5, .new 7, 0, 6), (8, .dup, 0, 0), (9, .invokespecial 9, 47, 1), (12, .putfield 10, 0, 9), (15, .aload_n 0, 0, 0), (16, .new 16, 0, 3), (19, .dup, 0, 0), (20, .invokespecial 18, 14, 1), (23, .putfield 19, 1, 9), (26, .aload_n 0, 0, 0), (27, .iconst 2, 2, 0), (28, .anewarray 7, 0, 6), (31, .putfield 23, 2, 9), (34, .iconst 0, 0, 0), (35, .istore_n 1, 0, 0)], 36),
  (36, [(36, .iload_n 1, 0, 0), (37, .iconst 2, 2, 0), (38, .if_icmp .ge 22, 60, 0)], 41),
  (41, [(41, .aload_n 0, 0, 0), (42, .getfield 23, 2, 9), (45, .iload_n 1, 0, 0), (46, .new 7, 0, 6), (49, .dup, 0, 0), (50, .invokespecial 9, 47, 1), (53, .aastore, 0, 0), (54, .iinc 1 1, 1, 0), (57, .goto (-21), 36, 0)], 60),
  (60, [(60, .aload_n 0, 0, 0), (61, .iconst 0, 0, 0), (62, .putfield 27, 3, 9), (65, .aload_n 0, 0, 0), (66, .new 31, 0, 7), (69, .dup, 0, 0), (70, .invokespecial 33, 68, 1), (73, .putfield 34, 4, 9), (76, .aload_n 0, 0, 0), (77, .new 7, 0, 6), (80, .dup, 0, 0), (81, .invokespecial 9, 47, 1), (84, .putfield 38, 5, 9), (87, .aload_n 0, 0, 0), (88, .new 41, 0, 4), (91, .dup, 0, 0), (92, .aload_n 0, 0, 0), (93, .getfield 34, 4, 9), (96, .aload_n 0, 0, 0), (97, .getfield 38, 5, 9), (100, .invokespecial 43, 18, 3), (103, .putfield 46, 6, 9), (106, .aload_n 0, 0, 0), (107, .new 50, 0, 1), (110, .dup, 0, 0), (111, .invokespecial 52, 5, 1), (114, .putfield 53, 7, 9), (117, .aload_n 0, 0, 0), (118, .new 57, 0, 2), (121, .dup, 0, 0), (122, .invokespecial 59, 12, 1), (125, .putfield 60, 8, 9), (128, .aload_n 0, 0, 0), (129, .new 64, 0, 0), (132, .dup, 0, 0), (133, .aload_n 0, 0, 0), (134, .getfield 10, 0, 9), (137, .invokespecial 66, 0, 2), (140, .putfield 69, 9, 9), (143, .aload_n 0, 0, 0), (144, .new 73, 0, 5), (147, .dup, 0, 0), (148, .aload_n 0, 0, 0), (149, .getfield 10, 0, 9), (152, .aload_n 0, 0, 0), (153, .getfield 69, 9, 9), (156, .invokespecial 75, 32, 3), (159, .putfield 78, 10, 9), (162, .aload_n 0, 0, 0), (163, .new 82, 0, 8), (166, .dup, 0, 0), (167, .invokespecial 84, 71, 1), (170, .putfield 85, 11, 9), (173, .aload_n 0, 0, 0), (174, .bipush 16, 16, 0), (176, .newarray .int, 0, 0), (178, .putfield 89, 12, 9), (181, .aload_n 0, 0, 0), (182, .bipush 40, 40, 0), (184, .newarray .int, 0, 0), (186, .putfield 93, 13, 9), (189, .return_, 0, 0)], 190)]
theorem t_Appr_init : z_chkM 77 b_Appr_init = true := by decide +kernel
def b_Appr_feed : List BK := [(0, [(0, .aload_n 0, 0, 0), (1, .getfield 34, 4, 9), (4, .getfield 96, 1, 7), (7, .bipush 20, 20, 0), (9, .iadd, 0, 0), (10, .sipush 400, 400, 0), (13, .if_icmp .le 5, 18, 0)], 16),
  (16, [(16, .iconst (-1), 1, 1), (17, .ireturn, 0, 0)], 18),
  (18, [(18, .aload_n 0, 0, 0), (19, .getfield 34, 4, 9), (22, .iload_n 1, 0, 0), (23, .invokevirtual 99, 69, 2), (26, .aload_n 0, 0, 0), (27, .getfield 34, 4, 9), (30, .iload_n 2, 0, 0), (31, .invokevirtual 99, 69, 2), (34, .aload_n 0, 0, 0), (35, .getfield 34, 4, 9), (38, .iload_n 3, 0, 0), (39, .invokevirtual 99, 69, 2), (42, .aload_n 0, 0, 0), (43, .getfield 34, 4, 9), (46, .iload 4, 0, 0), (48, .invokevirtual 99, 69, 2), (51, .aload_n 0, 0, 0), (52, .getfield 34, 4, 9), (55, .iload 5, 0, 0), (57, .invokevirtual 99, 69, 2), (60, .aload_n 0, 0, 0), (61, .getfield 34, 4, 9), (64, .getfield 96, 1, 7), (67, .ireturn, 0, 0)], 68)]
theorem t_Appr_feed : z_chkM 78 b_Appr_feed = true := by decide +kernel
def b_Appr_end : List BK := [(0, [(0, .iload_n 1, 0, 0), (1, .ifCond .lt 14, 15, 0)], 4),
  (4, [(4, .iload_n 1, 0, 0), (5, .aload_n 0, 0, 0), (6, .getfield 34, 4, 9), (9, .getfield 96, 1, 7), (12, .if_icmp .le 5, 17, 0)], 15),
  (15, [(15, .iconst (-1), 1, 1), (16, .ireturn, 0, 0)], 17),
  (17, [(17, .aload_n 0, 0, 0), (18, .getfield 34, 4, 9), (21, .iload_n 1, 0, 0), (22, .putfield 96, 1, 7), (25, .iload_n 1, 0, 0), (26, .ireturn, 0, 0)], 27)]
theorem t_Appr_end : z_chkM 79 b_Appr_end = true := by decide +kernel
def b_Appr_tell : List BK := [(0, [(0, .aload_n 0, 0, 0), (1, .getfield 46, 6, 9), (4, .invokevirtual 103, 19, 1), (7, .istore_n 1, 0, 0), (8, .aload_n 0, 0, 0), (9, .getfield 34, 4, 9), (12, .iconst 0, 0, 0), (13, .putfield 96, 1, 7), (16, .iload_n 1, 0, 0), (17, .ifCond .eq 8, 25, 0)], 20),
  (20, [(20, .bipush (-2), 2, 1), (22, .iload_n 1, 0, 0), (23, .isub, 0, 0), (24, .ireturn, 0, 0)], 25),
  (25, [(25, .aload_n 0, 0, 0), (26, .getfield 10, 0, 9), (29, .aload_n 0, 0, 0), (30, .getfield 38, 5, 9), (33, .invokevirtual 107, 49, 2), (36, .aload_n 0, 0, 0), (37, .getfield 19, 1, 9), (40, .invokevirtual 110, 15, 1), (43, .aload_n 0, 0, 0), (44, .getfield 10, 0, 9), (47, .getfield 113, 1, 6), (50, .iconst 4, 4, 0), (51, .iaload, 0, 0), (52, .ireturn, 0, 0)], 53)]
theorem t_Appr_tell : z_chkM 80 b_Appr_tell = true := by decide +kernel
def b_Appr_request : List BK := [(0, [(0, .iload_n 1, 0, 0), (1, .invokestatic 116, 121, 1), (4, .ifCond .eq 38, 42, 0)], 7),
  (7, [(7, .aload_n 0, 0, 0), (8, .getfield 10, 0, 9), (11, .iconst 4, 4, 0), (12, .iload_n 2, 0, 0), (13, .invokevirtual 120, 50, 3), (16, .ifCond .eq 26, 42, 0)], 19),
  (19, [(19, .iload_n 3, 0, 0), (20, .invokestatic 124, 126, 1), (23, .ifCond .eq 19, 42, 0)], 26),
  (26, [(26, .iload 4, 0, 0), (28, .invokestatic 127, 127, 1), (31, .ifCond .eq 11, 42, 0)], 34),
  (34, [(34, .iload 5, 0, 0), (36, .invokestatic 130, 122, 1), (39, .ifCond .ne 5, 44, 0)], 42),
  (42, [(42, .iconst (-1), 1, 1), (43, .ireturn, 0, 0)], 44),
  (44, [(44, .aload_n 0, 0, 0), (45, .getfield 10, 0, 9), (48, .iconst 5, 5, 0), (49, .invokevirtual 133, 51, 2), (52, .ifCond .eq 6, 58, 0)], 55),
  (55, [(55, .bipush (-2), 2, 1), (57, .ireturn, 0, 0)], 58),
  (58, [(58, .aload_n 0, 0, 0), (59, .getfield 19, 1, 9), (62, .aload_n 0, 0, 0), (63, .getfield 10, 0, 9), (66, .invokevirtual 136, 16, 2), (69, .aload_n 0, 0, 0), (70, .getfield 10, 0, 9), (73, .iload_n 1, 0, 0), (74, .iload_n 2, 0, 0), (75, .iload_n 3, 0, 0), (76, .bipush 10, 10, 0), (78, .irem, 0, 0), (79, .iload_n 3, 0, 0), (80, .bipush 10, 10, 0), (82, .idiv, 0, 0), (83, .iload 4, 0, 0), (85, .iload 5, 0, 0), (87, .invokevirtual 139, 55, 7), (90, .ireturn, 0, 0)], 91)]
theorem t_Appr_request : z_chkM 81 b_Appr_request = true := by decide +kernel
def b_Appr_recall : List BK := [(0, [(0, .aload_n 0, 0, 0), (1, .iload_n 1, 0, 0), (2, .iload_n 2, 0, 0), (3, .invokevirtual 143, 133, 3), (6, .istore_n 3, 0, 0), (7, .iload_n 3, 0, 0), (8, .ifCond .eq 5, 13, 0)], 11),
  (11, [(11, .iload_n 3, 0, 0), (12, .ireturn, 0, 0)], 13),
  (13, [(13, .aload_n 0, 0, 0), (14, .getfield 19, 1, 9), (17, .aload_n 0, 0, 0), (18, .getfield 10, 0, 9), (21, .invokevirtual 136, 16, 2), (24, .aload_n 0, 0, 0), (25, .getfield 10, 0, 9), (28, .iconst 5, 5, 0), (29, .iload_n 1, 0, 0), (30, .bipush 6, 6, 0), (32, .iload_n 2, 0, 0), (33, .invokevirtual 147, 53, 5), (36, .iconst 1, 1, 0), (37, .ireturn, 0, 0)], 38)]
theorem t_Appr_recall : z_chkM 82 b_Appr_recall = true := by decide +kernel
def b_Appr_amend : List BK := [(0, [(0, .aload_n 0, 0, 0), (1, .iload_n 1, 0, 0), (2, .iload_n 3, 0, 0), (3, .invokevirtual 143, 133, 3), (6, .istore 4, 0, 0), (8, .iload 4, 0, 0), (10, .iconst (-1), 1, 1), (11, .if_icmp .eq 10, 21, 0)], 14),
  (14, [(14, .iload_n 2, 0, 0), (15, .invokestatic 127, 127, 1), (18, .ifCond .ne 5, 23, 0)], 21),
  (21, [(21, .iconst (-1), 1, 1), (22, .ireturn, 0, 0)], 23),
  (23, [(23, .aload_n 0, 0, 0), (24, .getfield 10, 0, 9), (27, .iconst 5, 5, 0), (28, .invokevirtual 133, 51, 2), (31, .ifCond .eq 6, 37, 0)], 34),
  (34, [(34, .bipush (-2), 2, 1), (36, .ireturn, 0, 0)], 37),
  (37, [(37, .iload 4, 0, 0), (39, .ifCond .eq 6, 45, 0)], 42),
  (42, [(42, .iload 4, 0, 0), (44, .ireturn, 0, 0)], 45),
  (45, [(45, .aload_n 0, 0, 0), (46, .getfield 19, 1, 9), (49, .aload_n 0, 0, 0), (50, .getfield 10, 0, 9), (53, .invokevirtual 136, 16, 2), (56, .aload_n 0, 0, 0), (57, .getfield 10, 0, 9), (60, .iconst 5, 5, 0), (61, .iload_n 1, 0, 0), (62, .bipush 6, 6, 0), (64, .iload_n 3, 0, 0), (65, .invokevirtual 147, 53, 5), (68, .aload_n 0, 0, 0), (69, .getfield 10, 0, 9), (72, .aload_n 0, 0, 0), (73, .getfield 10, 0, 9), (76, .iconst 5, 5, 0), (77, .iload_n 1, 0, 0), (78, .iconst 0, 0, 0), (79, .invokevirtual 151, 52, 4), (82, .aload_n 0, 0, 0), (83, .getfield 10, 0, 9), (86, .iconst 5, 5, 0), (87, .iload_n 1, 0, 0), (88, .iconst 1, 1, 0), (89, .invokevirtual 151, 52, 4), (92, .aload_n 0, 0, 0), (93, .getfield 10, 0, 9), (96, .iconst 5, 5, 0), (97, .iload_n 1, 0, 0), (98, .iconst 2, 2, 0), (99, .invokevirtual 151, 52, 4), (102, .aload_n 0, 0, 0), (103, .getfield 10, 0, 9), (106, .iconst 5, 5, 0), (107, .iload_n 1, 0, 0), (108, .iconst 3, 3, 0), (109, .invokevirtual 151, 52, 4), (112, .iload_n 2, 0, 0), (113, .iload_n 3, 0, 0), (114, .invokevirtual 139, 55, 7), (117, .ireturn, 0, 0)], 118)]
theorem t_Appr_amend : z_chkM 83 b_Appr_amend = true := by decide +kernel
def b_Appr_hold : List BK := [(0, [(0, .aload_n 0, 0, 0), (1, .getfield 10, 0, 9), (4, .iconst 4, 4, 0), (5, .iload_n 1, 0, 0), (6, .invokevirtual 120, 50, 3), (9, .ifCond .eq 19, 28, 0)], 12),
  (12, [(12, .iload_n 2, 0, 0), (13, .invokestatic 116, 121, 1), (16, .ifCond .eq 12, 28, 0)], 19),
  (19, [(19, .iload_n 3, 0, 0), (20, .iload 4, 0, 0), (22, .invokestatic 155, 123, 2), (25, .ifCond .ne 5, 30, 0)], 28),
  (28, [(28, .iconst (-1), 1, 1), (29, .ireturn, 0, 0)], 30),
  (30, [(30, .aload_n 0, 0, 0), (31, .iconst 0, 0, 0), (32, .iload_n 1, 0, 0), (33, .iload_n 2, 0, 0), (34, .iload_n 3, 0, 0), (35, .iload 4, 0, 0), (37, .iconst 0, 0, 0), (38, .invokevirtual 158, 132, 7), (41, .ireturn, 0, 0)], 42)]
theorem t_Appr_hold : z_chkM 84 b_Appr_hold = true := by decide +kernel
def b_Appr_away : List BK := [(0, [(0, .iload_n 1, 0, 0), (1, .invokestatic 116, 121, 1), (4, .ifCond .eq 11, 15, 0)], 7),
  (7, [(7, .iload_n 2, 0, 0), (8, .iload_n 3, 0, 0), (9, .invokestatic 155, 123, 2), (12, .ifCond .ne 5, 17, 0)], 15),
  (15, [(15, .iconst (-1), 1, 1), (16, .ireturn, 0, 0)], 17),
  (17, [(17, .aload_n 0, 0, 0), (18, .iconst 1, 1, 0), (19, .iload_n 1, 0, 0), (20, .iload_n 2, 0, 0), (21, .iload_n 3, 0, 0), (22, .iconst 0, 0, 0), (23, .iconst 0, 0, 0), (24, .invokevirtual 158, 132, 7), (27, .ireturn, 0, 0)], 28)]
theorem t_Appr_away : z_chkM 85 b_Appr_away = true := by decide +kernel
def b_Appr_stand : List BK := [(0, [(0, .iload_n 1, 0, 0), (1, .invokestatic 116, 121, 1), (4, .ifCond .eq 32, 36, 0)], 7),
  (7, [(7, .iload_n 2, 0, 0), (8, .invokestatic 116, 121, 1), (11, .ifCond .eq 25, 36, 0)], 14),
  (14, [(14, .iload_n 1, 0, 0), (15, .iload_n 2, 0, 0), (16, .if_icmp .eq 20, 36, 0)], 19),
  (19, [(19, .iload_n 3, 0, 0), (20, .iload 4, 0, 0), (22, .invokestatic 155, 123, 2), (25, .ifCond .eq 11, 36, 0)], 28),
  (28, [(28, .iload 5, 0, 0), (30, .invokestatic 161, 128, 1), (33, .ifCond .ne 5, 38, 0)], 36),
  (36, [(36, .iconst (-1), 1, 1), (37, .ireturn, 0, 0)], 38),
  (38, [(38, .aload_n 0, 0, 0), (39, .iconst 2, 2, 0), (40, .iload_n 1, 0, 0), (41, .iload_n 2, 0, 0), (42, .iload_n 3, 0, 0), (43, .iload 4, 0, 0), (45, .iload 5, 0, 0), (47, .invokevirtual 158, 132, 7), (50, .ireturn, 0, 0)], 51)]
theorem t_Appr_stand : z_chkM 86 b_Appr_stand = true := by decide +kernel
def b_Appr_foe : List BK := [(0, [(0, .iload_n 1, 0, 0), (1, .invokestatic 116, 121, 1), (4, .ifCond .eq 13, 17, 0)], 7),
  (7, [(7, .iload_n 2, 0, 0), (8, .ifCond .lt 9, 17, 0)], 11),
  (11, [(11, .iload_n 2, 0, 0), (12, .bipush 10, 10, 0), (14, .if_icmp .lt 5, 19, 0)], 17),
  (17, [(17, .iconst (-1), 1, 1), (18, .ireturn, 0, 0)], 19),
  (19, [(19, .aload_n 0, 0, 0), (20, .getfield 10, 0, 9), (23, .iload_n 2, 0, 0), (24, .invokevirtual 164, 63, 2), (27, .iload_n 1, 0, 0), (28, .invokestatic 168, 130, 2), (31, .ifCond .eq 6, 37, 0)], 34),
  (34, [(34, .bipush (-2), 2, 1), (36, .ireturn, 0, 0)], 37),
  (37, [(37, .aload_n 0, 0, 0), (38, .iconst 3, 3, 0), (39, .iload_n 1, 0, 0), (40, .iload_n 2, 0, 0), (41, .iconst 0, 0, 0), (42, .iconst 0, 0, 0), (43, .iconst 0, 0, 0), (44, .invokevirtual 158, 132, 7), (47, .ireturn, 0, 0)], 48)]
theorem t_Appr_foe : z_chkM 87 b_Appr_foe = true := by decide +kernel
def b_Appr_drop : List BK := [(0, [(0, .iload_n 1, 0, 0), (1, .invokestatic 171, 125, 1), (4, .ifCond .eq 15, 19, 0)], 7),
  (7, [(7, .aload_n 0, 0, 0), (8, .getfield 10, 0, 9), (11, .iload_n 1, 0, 0), (12, .iload_n 2, 0, 0), (13, .invokevirtual 120, 50, 3), (16, .ifCond .ne 5, 21, 0)], 19),
  (19, [(19, .iconst (-1), 1, 1), (20, .ireturn, 0, 0)], 21),
  (21, [(21, .aload_n 0, 0, 0), (22, .getfield 19, 1, 9), (25, .aload_n 0, 0, 0), (26, .getfield 10, 0, 9), (29, .invokevirtual 136, 16, 2), (32, .aload_n 0, 0, 0), (33, .getfield 10, 0, 9), (36, .iload_n 1, 0, 0), (37, .iload_n 2, 0, 0), (38, .invokevirtual 174, 56, 3), (41, .aload_n 0, 0, 0), (42, .getfield 10, 0, 9), (45, .getfield 113, 1, 6), (48, .iload_n 1, 0, 0), (49, .iaload, 0, 0), (50, .ireturn, 0, 0)], 51)]
theorem t_Appr_drop : z_chkM 88 b_Appr_drop = true := by decide +kernel
def b_Appr_limit : List BK := [(0, [(0, .aload_n 0, 0, 0), (1, .getfield 10, 0, 9), (4, .iconst 4, 4, 0), (5, .iload_n 1, 0, 0), (6, .invokevirtual 120, 50, 3), (9, .ifCond .eq 17, 26, 0)], 12),
  (12, [(12, .iload_n 2, 0, 0), (13, .invokestatic 178, 124, 1), (16, .ifCond .eq 10, 26, 0)], 19),
  (19, [(19, .iload_n 3, 0, 0), (20, .invokestatic 161, 128, 1), (23, .ifCond .ne 5, 28, 0)], 26),
  (26, [(26, .iconst (-1), 1, 1), (27, .ireturn, 0, 0)], 28),
  (28, [(28, .aload_n 0, 0, 0), (29, .getfield 10, 0, 9), (32, .iconst 4, 4, 0), (33, .iload_n 1, 0, 0), (34, .iconst 1, 1, 0), (35, .iload_n 2, 0, 0), (36, .iadd, 0, 0), (37, .invokevirtual 151, 52, 4), (40, .istore 4, 0, 0), (42, .iload 4, 0, 0), (44, .iload_n 3, 0, 0), (45, .if_icmp .ne 6, 51, 0)], 48),
  (48, [(48, .bipush (-2), 2, 1), (50, .ireturn, 0, 0)], 51),
  (51, [(51, .aload_n 0, 0, 0), (52, .getfield 19, 1, 9), (55, .aload_n 0, 0, 0), (56, .getfield 10, 0, 9), (59, .invokevirtual 136, 16, 2), (62, .aload_n 0, 0, 0), (63, .getfield 10, 0, 9), (66, .iconst 4, 4, 0), (67, .iload_n 1, 0, 0), (68, .iconst 1, 1, 0), (69, .iload_n 2, 0, 0), (70, .iadd, 0, 0), (71, .iload_n 3, 0, 0), (72, .invokevirtual 147, 53, 5), (75, .iload 4, 0, 0), (77, .ireturn, 0, 0)], 78)]
theorem t_Appr_limit : z_chkM 89 b_Appr_limit = true := by decide +kernel
def b_Appr_set : List BK := [(0, [(0, .iload_n 1, 0, 0), (1, .ifCond .lt 21, 22, 0)], 4),
  (4, [(4, .iload_n 1, 0, 0), (5, .iconst 3, 3, 0), (6, .if_icmp .ge 16, 22, 0)], 9),
  (9, [(9, .iload_n 2, 0, 0), (10, .ifCond .lt 12, 22, 0)], 13),
  (13, [(13, .iload_n 2, 0, 0), (14, .getstatic 181, 5, 0), (17, .iload_n 1, 0, 0), (18, .iaload, 0, 0), (19, .if_icmp .le 5, 24, 0)], 22),
  (22, [(22, .iconst (-1), 1, 1), (23, .ireturn, 0, 0)], 24),
  (24, [(24, .aload_n 0, 0, 0), (25, .getfield 10, 0, 9), (28, .getfield 184, 2, 6), (31, .iload_n 1, 0, 0), (32, .iaload, 0, 0), (33, .istore_n 3, 0, 0), (34, .iload_n 3, 0, 0), (35, .iload_n 2, 0, 0), (36, .if_icmp .ne 6, 42, 0)], 39),
  (39, [(39, .bipush (-2), 2, 1), (41, .ireturn, 0, 0)], 42),
  (42, [(42, .aload_n 0, 0, 0), (43, .getfield 19, 1, 9), (46, .aload_n 0, 0, 0), (47, .getfield 10, 0, 9), (50, .invokevirtual 136, 16, 2), (53, .aload_n 0, 0, 0), (54, .getfield 10, 0, 9), (57, .getfield 184, 2, 6), (60, .iload_n 1, 0, 0), (61, .iload_n 2, 0, 0), (62, .iastore, 0, 0), (63, .iload_n 3, 0, 0), (64, .ireturn, 0, 0)], 65)]
theorem t_Appr_set : z_chkM 90 b_Appr_set = true := by decide +kernel
def b_Appr_undo : List BK := [(0, [(0, .aload_n 0, 0, 0), (1, .getfield 19, 1, 9), (4, .aload_n 0, 0, 0), (5, .getfield 10, 0, 9), (8, .invokevirtual 187, 17, 2), (11, .ireturn, 0, 0)], 12)]
theorem t_Appr_undo : z_chkM 91 b_Appr_undo = true := by decide +kernel
def b_Appr_keep : List BK := [(0, [(0, .iload_n 1, 0, 0), (1, .invokestatic 191, 129, 1), (4, .ifCond .ne 5, 9, 0)], 7),
  (7, [(7, .iconst (-1), 1, 1), (8, .ireturn, 0, 0)], 9),
  (9, [(9, .aload_n 0, 0, 0), (10, .getfield 23, 2, 9), (13, .iload_n 1, 0, 0), (14, .aaload, 0, 0), (15, .aload_n 0, 0, 0), (16, .getfield 10, 0, 9), (19, .invokevirtual 107, 49, 2), (22, .aload_n 0, 0, 0), (23, .dup, 0, 0), (24, .getfield 27, 3, 9), (27, .iconst 1, 1, 0), (28, .iload_n 1, 0, 0), (29, .ishl, 0, 0), (30, .ior, 0, 0), (31, .putfield 27, 3, 9), (34, .aload_n 0, 0, 0), (35, .getfield 10, 0, 9), (38, .getfield 113, 1, 6), (41, .iconst 5, 5, 0), (42, .iaload, 0, 0), (43, .ireturn, 0, 0)], 44)]
theorem t_Appr_keep : z_chkM 92 b_Appr_keep = true := by decide +kernel
def b_Appr_back : List BK := [(0, [(0, .iload_n 1, 0, 0), (1, .invokestatic 191, 129, 1), (4, .ifCond .ne 5, 9, 0)], 7),
  (7, [(7, .iconst (-1), 1, 1), (8, .ireturn, 0, 0)], 9),
  (9, [(9, .aload_n 0, 0, 0), (10, .getfield 27, 3, 9), (13, .iload_n 1, 0, 0), (14, .invokestatic 168, 130, 2), (17, .ifCond .ne 6, 23, 0)], 20),
  (20, [(20, .bipush (-2), 2, 1), (22, .ireturn, 0, 0)], 23),
  (23, [(23, .aload_n 0, 0, 0), (24, .getfield 10, 0, 9), (27, .aload_n 0, 0, 0), (28, .getfield 23, 2, 9), (31, .iload_n 1, 0, 0), (32, .aaload, 0, 0), (33, .invokevirtual 107, 49, 2), (36, .aload_n 0, 0, 0), (37, .getfield 19, 1, 9), (40, .invokevirtual 110, 15, 1), (43, .aload_n 0, 0, 0), (44, .getfield 10, 0, 9), (47, .getfield 113, 1, 6), (50, .iconst 5, 5, 0), (51, .iaload, 0, 0), (52, .ireturn, 0, 0)], 53)]
theorem t_Appr_back : z_chkM 93 b_Appr_back = true := by decide +kernel
def b_Appr_post : List BK := [(0, [(0, .aload_n 0, 0, 0), (1, .getfield 10, 0, 9), (4, .iconst 4, 4, 0), (5, .iload_n 1, 0, 0), (6, .invokevirtual 120, 50, 3), (9, .ifCond .ne 5, 14, 0)], 12),
  (12, [(12, .iconst (-1), 1, 1), (13, .ireturn, 0, 0)], 14),
  (14, [(14, .iload_n 2, 0, 0), (15, .ifCond .lt 19, 34, 0)], 18),
  (18, [(18, .iload_n 2, 0, 0), (19, .iconst 4, 4, 0), (20, .if_icmp .ge 14, 34, 0)], 23),
  (23, [(23, .aload_n 0, 0, 0), (24, .getfield 10, 0, 9), (27, .iconst 4, 4, 0), (28, .iload_n 1, 0, 0), (29, .iload_n 2, 0, 0), (30, .invokevirtual 151, 52, 4), (33, .ireturn, 0, 0)], 34),
  (34, [(34, .iload_n 2, 0, 0), (35, .iconst 4, 4, 0), (36, .if_icmp .ne 12, 48, 0)], 39),
  (39, [(39, .aload_n 0, 0, 0), (40, .getfield 10, 0, 9), (43, .iload_n 1, 0, 0), (44, .invokevirtual 194, 58, 2), (47, .ireturn, 0, 0)], 48),
  (48, [(48, .iload_n 2, 0, 0), (49, .iconst 5, 5, 0), (50, .if_icmp .ne 14, 64, 0)], 53),
  (53, [(53, .aload_n 0, 0, 0), (54, .getfield 10, 0, 9), (57, .iload_n 1, 0, 0), (58, .invokevirtual 197, 59, 2), (61, .goto 4, 65, 0)], 64),
  (64, [(64, .iconst (-1), 1, 1)], 65),
  (65, [(65, .ireturn, 0, 0)], 66)]
theorem t_Appr_post : z_chkM 94 b_Appr_post = true := by decide +kernel
def b_Appr_entry : List BK := [(0, [(0, .iload_n 1, 0, 0), (1, .invokestatic 171, 125, 1), (4, .ifCond .eq 28, 32, 0)], 7),
  (7, [(7, .aload_n 0, 0, 0), (8, .getfield 10, 0, 9), (11, .iload_n 1, 0, 0), (12, .iload_n 2, 0, 0), (13, .invokevirtual 120, 50, 3), (16, .ifCond .eq 16, 32, 0)], 19),
  (19, [(19, .iload_n 3, 0, 0), (20, .ifCond .lt 12, 32, 0)], 23),
  (23, [(23, .iload_n 3, 0, 0), (24, .getstatic 200, 0, 0), (27, .iload_n 1, 0, 0), (28, .iaload, 0, 0), (29, .if_icmp .lt 5, 34, 0)], 32),
  (32, [(32, .iconst (-1), 1, 1), (33, .ireturn, 0, 0)], 34),
  (34, [(34, .aload_n 0, 0, 0), (35, .getfield 10, 0, 9), (38, .iload_n 1, 0, 0), (39, .iload_n 2, 0, 0), (40, .iload_n 3, 0, 0), (41, .invokevirtual 151, 52, 4), (44, .ireturn, 0, 0)], 45)]
theorem t_Appr_entry : z_chkM 95 b_Appr_entry = true := by decide +kernel
def b_Appr_asked : List BK := [(0, [(0, .aload_n 0, 0, 0), (1, .getfield 10, 0, 9), (4, .iconst 5, 5, 0), (5, .iload_n 1, 0, 0), (6, .invokevirtual 120, 50, 3), (9, .ifCond .ne 5, 14, 0)], 12),
  (12, [(12, .iconst (-1), 1, 1), (13, .ireturn, 0, 0)], 14),
  (14, [(14, .iload_n 2, 0, 0), (15, .ifCond .lt 20, 35, 0)], 18),
  (18, [(18, .iload_n 2, 0, 0), (19, .bipush 6, 6, 0), (21, .if_icmp .gt 14, 35, 0)], 24),
  (24, [(24, .aload_n 0, 0, 0), (25, .getfield 10, 0, 9), (28, .iconst 5, 5, 0), (29, .iload_n 1, 0, 0), (30, .iload_n 2, 0, 0), (31, .invokevirtual 151, 52, 4), (34, .ireturn, 0, 0)], 35),
  (35, [(35, .iload_n 2, 0, 0), (36, .bipush 7, 7, 0), (38, .if_icmp .ne 19, 57, 0)], 41),
  (41, [(41, .aload_n 0, 0, 0), (42, .iload_n 1, 0, 0), (43, .aload_n 0, 0, 0), (44, .getfield 10, 0, 9), (47, .iconst 5, 5, 0), (48, .iload_n 1, 0, 0), (49, .iconst 5, 5, 0), (50, .invokevirtual 151, 52, 4), (53, .invokevirtual 203, 134, 3), (56, .ireturn, 0, 0)], 57),
  (57, [(57, .iload_n 2, 0, 0), (58, .bipush 8, 8, 0), (60, .if_icmp .ne 14, 74, 0)], 63),
  (63, [(63, .aload_n 0, 0, 0), (64, .iload_n 1, 0, 0), (65, .invokevirtual 206, 97, 2), (68, .invokestatic 210, 271, 1), (71, .goto 4, 75, 0)], 74),
  (74, [(74, .iconst (-1), 1, 1)], 75),
  (75, [(75, .ireturn, 0, 0)], 76)]
theorem t_Appr_asked : z_chkM 96 b_Appr_asked = true := by decide +kernel
def b_Appr_joined : List BK := [(0, [(0, .aload_n 0, 0, 0), (1, .getfield 10, 0, 9), (4, .iconst 5, 5, 0), (5, .iload_n 1, 0, 0), (6, .invokevirtual 120, 50, 3), (9, .ifCond .ne 7, 16, 0)], 12),
  (12, [(12, .ldc2_w 216, 1, 3), (15, .lreturn, 0, 0)], 16),
  (16, [(16, .aload_n 0, 0, 0), (17, .getfield 10, 0, 9), (20, .iload_n 1, 0, 0), (21, .aload_n 0, 0, 0), (22, .getfield 10, 0, 9), (25, .iconst 5, 5, 0), (26, .iload_n 1, 0, 0), (27, .iconst 5, 5, 0), (28, .invokevirtual 151, 52, 4), (31, .invokevirtual 218, 65, 3), (34, .lreturn, 0, 0)], 35)]
theorem t_Appr_joined : z_chkM 97 b_Appr_joined = true := by decide +kernel
def b_Appr_step : List BK := [(0, [(0, .aload_n 0, 0, 0), (1, .getfield 10, 0, 9), (4, .iconst 5, 5, 0), (5, .iload_n 1, 0, 0), (6, .invokevirtual 120, 50, 3), (9, .ifCond .ne 5, 14, 0)], 12),
  (12, [(12, .iconst (-1), 1, 1), (13, .ireturn, 0, 0)], 14),
  (14, [(14, .aload_n 0, 0, 0), (15, .getfield 78, 10, 9), (18, .aload_n 0, 0, 0), (19, .iload_n 1, 0, 0), (20, .invokevirtual 222, 135, 2), (23, .invokevirtual 226, 33, 2), (26, .iload_n 2, 0, 0), (27, .iconst (-1), 1, 1), (28, .if_icmp .ne 19, 47, 0)], 31),
  (31, [(31, .iload_n 3, 0, 0), (32, .ifCond .ne 13, 45, 0)], 35),
  (35, [(35, .aload_n 0, 0, 0), (36, .getfield 78, 10, 9), (39, .getfield 230, 4, 5), (42, .goto 4, 46, 0)], 45),
  (45, [(45, .iconst (-1), 1, 1)], 46),
  (46, [(46, .ireturn, 0, 0)], 47),
  (47, [(47, .aload_n 0, 0, 0), (48, .getfield 78, 10, 9), (51, .iload_n 2, 0, 0), (52, .invokevirtual 233, 37, 2), (55, .ifCond .eq 13, 68, 0)], 58),
  (58, [(58, .iload_n 3, 0, 0), (59, .ifCond .lt 9, 68, 0)], 62),
  (62, [(62, .iload_n 3, 0, 0), (63, .bipush 6, 6, 0), (65, .if_icmp .lt 5, 70, 0)], 68),
  (68, [(68, .iconst (-1), 1, 1), (69, .ireturn, 0, 0)], 70),
  (70, [(70, .aload_n 0, 0, 0), (71, .getfield 78, 10, 9), (74, .iload_n 2, 0, 0), (75, .iload_n 3, 0, 0), (76, .invokevirtual 235, 38, 3), (79, .ireturn, 0, 0)], 80)]
theorem t_Appr_step : z_chkM 98 b_Appr_step = true := by decide +kernel
def b_Appr_chain : List BK := [(0, [(0, .aload_n 0, 0, 0), (1, .getfield 10, 0, 9), (4, .iconst 5, 5, 0), (5, .iload_n 1, 0, 0), (6, .invokevirtual 120, 50, 3), (9, .ifCond .eq 7, 16, 0)], 12),
  (12, [(12, .iload_n 3, 0, 0), (13, .ifCond .ge 5, 18, 0)], 16),
  (16, [(16, .iconst (-1), 1, 1), (17, .ireturn, 0, 0)], 18),
  (18, [(18, .aload_n 0, 0, 0), (19, .getfield 78, 10, 9), (22, .aload_n 0, 0, 0), (23, .iload_n 1, 0, 0), (24, .invokevirtual 222, 135, 2), (27, .invokevirtual 226, 33, 2), (30, .aload_n 0, 0, 0), (31, .getfield 78, 10, 9), (34, .iload_n 2, 0, 0), (35, .invokevirtual 233, 37, 2), (38, .ifCond .ne 5, 43, 0)], 41),
  (41, [(41, .iconst (-1), 1, 1), (42, .ireturn, 0, 0)], 43),
  (43, [(43, .iload_n 3, 0, 0), (44, .aload_n 0, 0, 0), (45, .getfield 78, 10, 9), (48, .iload_n 2, 0, 0), (49, .iconst 5, 5, 0), (50, .invokevirtual 235, 38, 3), (53, .if_icmp .gt 15, 68, 0)], 56),
  (56, [(56, .aload_n 0, 0, 0), (57, .getfield 78, 10, 9), (60, .iload_n 2, 0, 0), (61, .iload_n 3, 0, 0), (62, .invokevirtual 237, 40, 3), (65, .goto 5, 70, 0)], 68),
  (68, [(68, .bipush (-2), 2, 1)], 70),
  (70, [(70, .ireturn, 0, 0)], 71)]
theorem t_Appr_chain : z_chkM 99 b_Appr_chain = true := by decide +kernel
def b_Appr_ends : List BK := [(0, [(0, .aload_n 0, 0, 0), (1, .getfield 10, 0, 9), (4, .iconst 5, 5, 0), (5, .iload_n 1, 0, 0), (6, .invokevirtual 120, 50, 3), (9, .ifCond .eq 12, 21, 0)], 12),
  (12, [(12, .iload_n 2, 0, 0), (13, .ifCond .lt 8, 21, 0)], 16),
  (16, [(16, .iload_n 2, 0, 0), (17, .iconst 3, 3, 0), (18, .if_icmp .le 5, 23, 0)], 21),
  (21, [(21, .iconst (-1), 1, 1), (22, .ireturn, 0, 0)], 23),
  (23, [(23, .aload_n 0, 0, 0), (24, .getfield 78, 10, 9), (27, .aload_n 0, 0, 0), (28, .iload_n 1, 0, 0), (29, .invokevirtual 222, 135, 2), (32, .invokevirtual 226, 33, 2), (35, .iload_n 2, 0, 0), (36, .iconst 3, 3, 0), (37, .if_icmp .ne 12, 49, 0)], 40),
  (40, [(40, .aload_n 0, 0, 0), (41, .getfield 78, 10, 9), (44, .iconst 0, 0, 0), (45, .invokevirtual 240, 39, 2), (48, .ireturn, 0, 0)], 49),
  (49, [(49, .aload_n 0, 0, 0), (50, .getfield 10, 0, 9), (53, .iload_n 1, 0, 0), (54, .invokevirtual 243, 57, 2), (57, .ifCond .ne 12, 69, 0)], 60),
  (60, [(60, .aload_n 0, 0, 0), (61, .getfield 78, 10, 9), (64, .iload_n 2, 0, 0), (65, .invokevirtual 246, 42, 2), (68, .ireturn, 0, 0)], 69),
  (69, [(69, .iload_n 2, 0, 0), (70, .ifCond .ne 5, 75, 0)], 73),
  (73, [(73, .iconst 3, 3, 0), (74, .ireturn, 0, 0)], 75),
  (75, [(75, .iload_n 2, 0, 0), (76, .iconst 1, 1, 0), (77, .if_icmp .ne 17, 94, 0)], 80),
  (80, [(80, .aload_n 0, 0, 0), (81, .getfield 10, 0, 9), (84, .iconst 5, 5, 0), (85, .iload_n 1, 0, 0), (86, .bipush 6, 6, 0), (88, .invokevirtual 151, 52, 4), (91, .goto 5, 96, 0)], 94),
  (94, [(94, .bipush (-2), 2, 1)], 96),
  (96, [(96, .ireturn, 0, 0)], 97)]
theorem t_Appr_ends : z_chkM 100 b_Appr_ends = true := by decide +kernel
def b_Appr_decides : List BK := [(0, [(0, .aload_n 0, 0, 0), (1, .getfield 10, 0, 9), (4, .iconst 4, 4, 0), (5, .iload_n 1, 0, 0), (6, .invokevirtual 120, 50, 3), (9, .ifCond .eq 30, 39, 0)], 12),
  (12, [(12, .iload_n 2, 0, 0), (13, .invokestatic 130, 122, 1), (16, .ifCond .eq 23, 39, 0)], 19),
  (19, [(19, .iload 4, 0, 0), (21, .invokestatic 124, 126, 1), (24, .ifCond .eq 15, 39, 0)], 27),
  (27, [(27, .iload_n 3, 0, 0), (28, .iconst (-1), 1, 1), (29, .if_icmp .eq 12, 41, 0)], 32),
  (32, [(32, .iload_n 3, 0, 0), (33, .invokestatic 116, 121, 1), (36, .ifCond .ne 5, 41, 0)], 39),
  (39, [(39, .iconst (-1), 1, 1), (40, .ireturn, 0, 0)], 41),
  (41, [(41, .aload_n 0, 0, 0), (42, .getfield 60, 8, 9), (45, .iload_n 3, 0, 0), (46, .iload 4, 0, 0), (48, .bipush 10, 10, 0), (50, .irem, 0, 0), (51, .iload 4, 0, 0), (53, .bipush 10, 10, 0), (55, .idiv, 0, 0), (56, .invokevirtual 249, 13, 4), (59, .aload_n 0, 0, 0), (60, .getfield 69, 9, 9), (63, .aload_n 0, 0, 0), (64, .getfield 60, 8, 9), (67, .iload_n 1, 0, 0), (68, .iload_n 2, 0, 0), (69, .invokevirtual 253, 1, 4), (72, .ifCond .eq 13, 85, 0)], 75),
  (75, [(75, .aload_n 0, 0, 0), (76, .getfield 69, 9, 9), (79, .invokevirtual 257, 4, 1), (82, .goto 13, 95, 0)], 85),
  (85, [(85, .bipush (-2), 2, 1), (87, .aload_n 0, 0, 0), (88, .getfield 69, 9, 9), (91, .getfield 260, 8, 0), (94, .isub, 0, 0)], 95),
  (95, [(95, .ireturn, 0, 0)], 96)]
theorem t_Appr_decides : z_chkM 101 b_Appr_decides = true := by decide +kernel
def b_Appr_power : List BK := [(0, [(0, .iload_n 1, 0, 0), (1, .invokestatic 116, 121, 1), (4, .ifCond .eq 17, 21, 0)], 7),
  (7, [(7, .iload_n 2, 0, 0), (8, .invokestatic 130, 122, 1), (11, .ifCond .eq 10, 21, 0)], 14),
  (14, [(14, .iload_n 3, 0, 0), (15, .invokestatic 178, 124, 1), (18, .ifCond .ne 5, 23, 0)], 21),
  (21, [(21, .iconst (-1), 1, 1), (22, .ireturn, 0, 0)], 23),
  (23, [(23, .aload_n 0, 0, 0), (24, .getfield 60, 8, 9), (27, .iconst (-1), 1, 1), (28, .iconst (-1), 1, 1), (29, .iload_n 3, 0, 0), (30, .invokevirtual 249, 13, 4), (33, .bipush (-2), 2, 1), (35, .istore 4, 0, 0), (37, .iconst 0, 0, 0), (38, .istore 5, 0, 0)], 40),
  (40, [(40, .iload 5, 0, 0), (42, .aload_n 0, 0, 0), (43, .getfield 10, 0, 9), (46, .getfield 113, 1, 6), (49, .iconst 4, 4, 0), (50, .iaload, 0, 0), (51, .if_icmp .ge 51, 102, 0)], 54),
  (54, [(54, .aload_n 0, 0, 0), (55, .getfield 69, 9, 9), (58, .aload_n 0, 0, 0), (59, .getfield 60, 8, 9), (62, .iload 5, 0, 0), (64, .iload_n 2, 0, 0), (65, .invokevirtual 253, 1, 4), (68, .ifCond .eq 28, 96, 0)], 71),
  (71, [(71, .aload_n 0, 0, 0), (72, .getfield 69, 9, 9), (75, .invokevirtual 257, 4, 1), (78, .iload_n 1, 0, 0), (79, .if_icmp .ne 17, 96, 0)], 82),
  (82, [(82, .iload 4, 0, 0), (84, .aload_n 0, 0, 0), (85, .getfield 69, 9, 9), (88, .getfield 263, 7, 0), (91, .invokestatic 266, 1000, 0), (94, .istore 4, 0, 0)], 96),
  (96, [(96, .iinc 5 1, 1, 0), (99, .goto (-59), 40, 0)], 102),
  (102, [(102, .iload 4, 0, 0), (104, .ireturn, 0, 0)], 105)]
theorem t_Appr_power : z_chkM 102 b_Appr_power = true := by decide +kernel
def b_Appr_ring : List BK := [(0, [(0, .iload_n 1, 0, 0), (1, .invokestatic 130, 122, 1), (4, .ifCond .ne 5, 9, 0)], 7),
  (7, [(7, .iconst (-1), 1, 1), (8, .ireturn, 0, 0)], 9),
  (9, [(9, .aload_n 0, 0, 0), (10, .getfield 85, 11, 9), (13, .aload_n 0, 0, 0), (14, .getfield 10, 0, 9), (17, .iload_n 1, 0, 0), (18, .invokevirtual 271, 72, 3), (21, .aload_n 0, 0, 0), (22, .getfield 85, 11, 9), (25, .invokevirtual 275, 73, 1), (28, .ireturn, 0, 0)], 29)]
theorem t_Appr_ring : z_chkM 103 b_Appr_ring = true := by decide +kernel
def b_Appr_split : List BK := [(0, [(0, .aload_n 0, 0, 0), (1, .getfield 10, 0, 9), (4, .iconst 5, 5, 0), (5, .iload_n 1, 0, 0), (6, .invokevirtual 120, 50, 3), (9, .ifCond .ne 5, 14, 0)], 12),
  (12, [(12, .iconst (-1), 1, 1), (13, .ireturn, 0, 0)], 14),
  (14, [(14, .aload_n 0, 0, 0), (15, .iload_n 1, 0, 0), (16, .aload_n 0, 0, 0), (17, .getfield 10, 0, 9), (20, .iconst 5, 5, 0), (21, .iload_n 1, 0, 0), (22, .iconst 5, 5, 0), (23, .invokevirtual 151, 52, 4), (26, .invokevirtual 203, 134, 3), (29, .istore_n 2, 0, 0), (30, .aload_n 0, 0, 0), (31, .getfield 78, 10, 9), (34, .aload_n 0, 0, 0), (35, .iload_n 1, 0, 0), (36, .invokevirtual 222, 135, 2), (39, .invokevirtual 278, 34, 2), (42, .aload_n 0, 0, 0), (43, .getfield 78, 10, 9), (46, .aload_n 0, 0, 0), (47, .getfield 10, 0, 9), (50, .iconst 5, 5, 0), (51, .iload_n 1, 0, 0), (52, .iconst 4, 4, 0), (53, .invokevirtual 151, 52, 4), (56, .invokevirtual 281, 43, 2), (59, .istore_n 3, 0, 0), (60, .iload_n 3, 0, 0), (61, .iconst (-1), 1, 1), (62, .if_icmp .eq 19, 81, 0)], 65),
  (65, [(65, .aload_n 0, 0, 0), (66, .getfield 78, 10, 9), (69, .iload_n 2, 0, 0), (70, .invokevirtual 281, 43, 2), (73, .iload_n 3, 0, 0), (74, .if_icmp .eq 7, 81, 0)], 77),
  (77, [(77, .iconst 1, 1, 0), (78, .goto 4, 82, 0)], 81),
  (81, [(81, .iconst 0, 0, 0)], 82),
  (82, [(82, .ireturn, 0, 0)], 83)]
theorem t_Appr_split : z_chkM 104 b_Appr_split = true := by decide +kernel
def b_Appr_without : List BK := [(0, [(0, .aload_n 0, 0, 0), (1, .getfield 10, 0, 9), (4, .iconst 5, 5, 0), (5, .iload_n 1, 0, 0), (6, .invokevirtual 120, 50, 3), (9, .ifCond .eq 19, 28, 0)], 12),
  (12, [(12, .iload_n 2, 0, 0), (13, .invokestatic 116, 121, 1), (16, .ifCond .eq 12, 28, 0)], 19),
  (19, [(19, .iload_n 3, 0, 0), (20, .ifCond .lt 8, 28, 0)], 23),
  (23, [(23, .iload_n 3, 0, 0), (24, .iconst 2, 2, 0), (25, .if_icmp .le 5, 30, 0)], 28),
  (28, [(28, .iconst (-1), 1, 1), (29, .ireturn, 0, 0)], 30),
  (30, [(30, .aload_n 0, 0, 0), (31, .iload_n 1, 0, 0), (32, .invokevirtual 222, 135, 2), (35, .iload_n 2, 0, 0), (36, .putfield 284, 6, 2), (39, .aload_n 0, 0, 0), (40, .getfield 78, 10, 9), (43, .aload_n 0, 0, 0), (44, .getfield 60, 8, 9), (47, .invokevirtual 226, 33, 2), (50, .aload_n 0, 0, 0), (51, .getfield 78, 10, 9), (54, .iload_n 3, 0, 0), (55, .invokevirtual 246, 42, 2), (58, .ireturn, 0, 0)], 59)]
theorem t_Appr_without : z_chkM 105 b_Appr_without = true := by decide +kernel
def b_Appr_cure : List BK := [(0, [(0, .aload_n 0, 0, 0), (1, .getfield 10, 0, 9), (4, .iconst 5, 5, 0), (5, .iload_n 1, 0, 0), (6, .invokevirtual 120, 50, 3), (9, .ifCond .eq 12, 21, 0)], 12),
  (12, [(12, .iload_n 2, 0, 0), (13, .ifCond .lt 8, 21, 0)], 16),
  (16, [(16, .iload_n 2, 0, 0), (17, .iconst 1, 1, 0), (18, .if_icmp .le 5, 23, 0)], 21),
  (21, [(21, .iconst (-1), 1, 1), (22, .ireturn, 0, 0)], 23),
  (23, [(23, .aload_n 0, 0, 0), (24, .iload_n 1, 0, 0), (25, .invokevirtual 222, 135, 2), (28, .pop, 0, 0), (29, .sipush 1000, 1000, 0), (32, .istore_n 3, 0, 0), (33, .bipush (-2), 2, 1), (35, .istore 4, 0, 0), (37, .iconst 0, 0, 0), (38, .istore 5, 0, 0)], 40),
  (40, [(40, .iload 5, 0, 0), (42, .aload_n 0, 0, 0), (43, .getfield 10, 0, 9), (46, .getfield 113, 1, 6), (49, .iconst 1, 1, 0), (50, .iaload, 0, 0), (51, .if_icmp .ge 64, 115, 0)], 54),
  (54, [(54, .aload_n 0, 0, 0), (55, .getfield 60, 8, 9), (58, .iload 5, 0, 0), (60, .putfield 287, 7, 2), (63, .aload_n 0, 0, 0), (64, .getfield 78, 10, 9), (67, .aload_n 0, 0, 0), (68, .getfield 60, 8, 9), (71, .invokevirtual 226, 33, 2), (74, .aload_n 0, 0, 0), (75, .getfield 78, 10, 9), (78, .invokevirtual 290, 41, 1), (81, .ifCond .eq 28, 109, 0)], 84),
  (84, [(84, .aload_n 0, 0, 0), (85, .getfield 78, 10, 9), (88, .iconst 1, 1, 0), (89, .invokevirtual 240, 39, 2), (92, .iload_n 3, 0, 0), (93, .if_icmp .ge 16, 109, 0)], 96),
  (96, [(96, .aload_n 0, 0, 0), (97, .getfield 78, 10, 9), (100, .iconst 1, 1, 0), (101, .invokevirtual 240, 39, 2), (104, .istore_n 3, 0, 0), (105, .iload 5, 0, 0), (107, .istore 4, 0, 0)], 109),
  (109, [(109, .iinc 5 1, 1, 0), (112, .goto (-72), 40, 0)], 115),
  (115, [(115, .iload_n 2, 0, 0), (116, .ifCond .eq 10, 126, 0)], 119),
  (119, [(119, .iload 4, 0, 0), (121, .bipush (-2), 2, 1), (123, .if_icmp .ne 8, 131, 0)], 126),
  (126, [(126, .iload 4, 0, 0), (128, .goto 4, 132, 0)], 131),
  (131, [(131, .iload_n 3, 0, 0)], 132),
  (132, [(132, .ireturn, 0, 0)], 133)]
theorem t_Appr_cure : z_chkM 106 b_Appr_cure = true := by decide +kernel
def b_Appr_most : List BK := [(0, [(0, .aload_n 0, 0, 0), (1, .getfield 10, 0, 9), (4, .iconst 5, 5, 0), (5, .iload_n 1, 0, 0), (6, .invokevirtual 120, 50, 3), (9, .ifCond .eq 28, 37, 0)], 12),
  (12, [(12, .iload_n 2, 0, 0), (13, .ifCond .lt 24, 37, 0)], 16),
  (16, [(16, .iload_n 2, 0, 0), (17, .aload_n 0, 0, 0), (18, .getfield 10, 0, 9), (21, .aload_n 0, 0, 0), (22, .getfield 10, 0, 9), (25, .iconst 5, 5, 0), (26, .iload_n 1, 0, 0), (27, .iconst 1, 1, 0), (28, .invokevirtual 151, 52, 4), (31, .invokevirtual 194, 58, 2), (34, .if_icmp .le 5, 39, 0)], 37),
  (37, [(37, .iconst (-1), 1, 1), (38, .ireturn, 0, 0)], 39),
  (39, [(39, .aload_n 0, 0, 0), (40, .getfield 10, 0, 9), (43, .aload_n 0, 0, 0), (44, .iload_n 1, 0, 0), (45, .invokevirtual 206, 97, 2), (48, .invokevirtual 294, 67, 2), (51, .istore_n 3, 0, 0), (52, .aload_n 0, 0, 0), (53, .getfield 78, 10, 9), (56, .aload_n 0, 0, 0), (57, .iload_n 1, 0, 0), (58, .invokevirtual 222, 135, 2), (61, .invokevirtual 278, 34, 2), (64, .sipush 9999, 9999, 0), (67, .aload_n 0, 0, 0), (68, .getfield 78, 10, 9), (71, .iload_n 2, 0, 0), (72, .invokevirtual 297, 44, 2), (75, .iload_n 3, 0, 0), (76, .isub, 0, 0), (77, .invokestatic 300, 1001, 0), (80, .istore 4, 0, 0), (82, .iload 4, 0, 0), (84, .iconst 1, 1, 0), (85, .if_icmp .ge 8, 93, 0)], 88),
  (88, [(88, .bipush (-2), 2, 1), (90, .goto 5, 95, 0)], 93),
  (93, [(93, .iload 4, 0, 0)], 95),
  (95, [(95, .ireturn, 0, 0)], 96)]
theorem t_Appr_most : z_chkM 107 b_Appr_most = true := by decide +kernel
def b_Appr_soonest : List BK := [(0, [(0, .aload_n 0, 0, 0), (1, .getfield 10, 0, 9), (4, .iconst 5, 5, 0), (5, .iload_n 1, 0, 0), (6, .invokevirtual 120, 50, 3), (9, .ifCond .eq 30, 39, 0)], 12),
  (12, [(12, .iload_n 2, 0, 0), (13, .iload_n 3, 0, 0), (14, .invokestatic 155, 123, 2), (17, .ifCond .eq 22, 39, 0)], 20),
  (20, [(20, .iload_n 3, 0, 0), (21, .iload_n 2, 0, 0), (22, .isub, 0, 0), (23, .bipush 60, 60, 0), (25, .if_icmp .gt 14, 39, 0)], 28),
  (28, [(28, .iload 4, 0, 0), (30, .ifCond .lt 9, 39, 0)], 33),
  (33, [(33, .iload 4, 0, 0), (35, .iconst 1, 1, 0), (36, .if_icmp .le 5, 41, 0)], 39),
  (39, [(39, .iconst (-1), 1, 1), (40, .ireturn, 0, 0)], 41),
  (41, [(41, .aload_n 0, 0, 0), (42, .iload_n 1, 0, 0), (43, .invokevirtual 222, 135, 2), (46, .pop, 0, 0), (47, .sipush 1000, 1000, 0), (50, .istore 5, 0, 0), (52, .bipush (-2), 2, 1), (54, .istore 6, 0, 0), (56, .iload_n 2, 0, 0), (57, .istore 7, 0, 0)], 59),
  (59, [(59, .iload 7, 0, 0), (61, .iload_n 3, 0, 0), (62, .if_icmp .gt 80, 142, 0)], 65),
  (65, [(65, .aload_n 0, 0, 0), (66, .getfield 60, 8, 9), (69, .iload 7, 0, 0), (71, .putfield 303, 4, 2), (74, .aload_n 0, 0, 0), (75, .getfield 60, 8, 9), (78, .aload_n 0, 0, 0), (79, .iload_n 1, 0, 0), (80, .iload 7, 0, 0), (82, .invokevirtual 203, 134, 3), (85, .putfield 306, 5, 2), (88, .aload_n 0, 0, 0), (89, .getfield 78, 10, 9), (92, .aload_n 0, 0, 0), (93, .getfield 60, 8, 9), (96, .invokevirtual 226, 33, 2), (99, .aload_n 0, 0, 0), (100, .getfield 78, 10, 9), (103, .invokevirtual 290, 41, 1), (106, .ifCond .eq 30, 136, 0)], 109),
  (109, [(109, .aload_n 0, 0, 0), (110, .getfield 78, 10, 9), (113, .iconst 1, 1, 0), (114, .invokevirtual 240, 39, 2), (117, .iload 5, 0, 0), (119, .if_icmp .ge 17, 136, 0)], 122),
  (122, [(122, .aload_n 0, 0, 0), (123, .getfield 78, 10, 9), (126, .iconst 1, 1, 0), (127, .invokevirtual 240, 39, 2), (130, .istore 5, 0, 0), (132, .iload 7, 0, 0), (134, .istore 6, 0, 0)], 136),
  (136, [(136, .iinc 7 1, 1, 0), (139, .goto (-80), 59, 0)], 142),
  (142, [(142, .iload 4, 0, 0), (144, .ifCond .eq 10, 154, 0)], 147),
  (147, [(147, .iload 6, 0, 0), (149, .bipush (-2), 2, 1), (151, .if_icmp .ne 8, 159, 0)], 154),
  (154, [(154, .iload 6, 0, 0), (156, .goto 5, 161, 0)], 159),
  (159, [(159, .iload 5, 0, 0)], 161),
  (161, [(161, .ireturn, 0, 0)], 162)]
theorem t_Appr_soonest : z_chkM 108 b_Appr_soonest = true := by decide +kernel
def b_Appr_instead : List BK := [(0, [(0, .aload_n 0, 0, 0), (1, .getfield 10, 0, 9), (4, .iconst 5, 5, 0), (5, .iload_n 1, 0, 0), (6, .invokevirtual 120, 50, 3), (9, .ifCond .eq 24, 33, 0)], 12),
  (12, [(12, .aload_n 0, 0, 0), (13, .getfield 10, 0, 9), (16, .iconst 4, 4, 0), (17, .iload_n 2, 0, 0), (18, .invokevirtual 120, 50, 3), (21, .ifCond .eq 12, 33, 0)], 24),
  (24, [(24, .iload_n 3, 0, 0), (25, .ifCond .lt 8, 33, 0)], 28),
  (28, [(28, .iload_n 3, 0, 0), (29, .iconst 2, 2, 0), (30, .if_icmp .le 5, 35, 0)], 33),
  (33, [(33, .iconst (-1), 1, 1), (34, .ireturn, 0, 0)], 35),
  (35, [(35, .aload_n 0, 0, 0), (36, .iload_n 1, 0, 0), (37, .invokevirtual 222, 135, 2), (40, .iload_n 2, 0, 0), (41, .putfield 309, 3, 2), (44, .aload_n 0, 0, 0), (45, .getfield 78, 10, 9), (48, .aload_n 0, 0, 0), (49, .getfield 60, 8, 9), (52, .invokevirtual 226, 33, 2), (55, .aload_n 0, 0, 0), (56, .getfield 78, 10, 9), (59, .iload_n 3, 0, 0), (60, .invokevirtual 246, 42, 2), (63, .ireturn, 0, 0)], 64)]
theorem t_Appr_instead : z_chkM 109 b_Appr_instead = true := by decide +kernel
def b_Appr_pillar : List BK := [(0, [(0, .iload_n 1, 0, 0), (1, .ifCond .lt 8, 9, 0)], 4),
  (4, [(4, .iload_n 1, 0, 0), (5, .iconst 1, 1, 0), (6, .if_icmp .le 5, 11, 0)], 9),
  (9, [(9, .iconst (-1), 1, 1), (10, .ireturn, 0, 0)], 11),
  (11, [(11, .aload_n 0, 0, 0), (12, .invokevirtual 312, 140, 1), (15, .iconst 0, 0, 0), (16, .istore_n 2, 0, 0)], 17),
  (17, [(17, .iload_n 2, 0, 0), (18, .aload_n 0, 0, 0), (19, .getfield 10, 0, 9), (22, .getfield 113, 1, 6), (25, .iconst 5, 5, 0), (26, .iaload, 0, 0), (27, .if_icmp .ge 25, 52, 0)], 30),
  (30, [(30, .aload_n 0, 0, 0), (31, .getfield 10, 0, 9), (34, .iload_n 2, 0, 0), (35, .invokevirtual 243, 57, 2), (38, .ifCond .ne 8, 46, 0)], 41),
  (41, [(41, .aload_n 0, 0, 0), (42, .iload_n 2, 0, 0), (43, .invokevirtual 315, 142, 2)], 46),
  (46, [(46, .iinc 2 1, 1, 0), (49, .goto (-32), 17, 0)], 52),
  (52, [(52, .aload_n 0, 0, 0), (53, .iload_n 1, 0, 0), (54, .invokevirtual 318, 143, 2), (57, .ireturn, 0, 0)], 58)]
theorem t_Appr_pillar : z_chkM 110 b_Appr_pillar = true := by decide +kernel
def b_Appr_dodge : List BK := [(0, [(0, .iload_n 1, 0, 0), (1, .invokestatic 116, 121, 1), (4, .ifCond .eq 38, 42, 0)], 7),
  (7, [(7, .aload_n 0, 0, 0), (8, .getfield 10, 0, 9), (11, .iconst 4, 4, 0), (12, .iload_n 2, 0, 0), (13, .invokevirtual 120, 50, 3), (16, .ifCond .eq 26, 42, 0)], 19),
  (19, [(19, .iload_n 3, 0, 0), (20, .invokestatic 124, 126, 1), (23, .ifCond .eq 19, 42, 0)], 26),
  (26, [(26, .iload 4, 0, 0), (28, .invokestatic 127, 127, 1), (31, .ifCond .eq 11, 42, 0)], 34),
  (34, [(34, .iload 5, 0, 0), (36, .invokestatic 130, 122, 1), (39, .ifCond .ne 5, 44, 0)], 42),
  (42, [(42, .iconst (-1), 1, 1), (43, .ireturn, 0, 0)], 44),
  (44, [(44, .aload_n 0, 0, 0), (45, .getfield 60, 8, 9), (48, .iload_n 1, 0, 0), (49, .iload_n 3, 0, 0), (50, .bipush 10, 10, 0), (52, .irem, 0, 0), (53, .iload_n 3, 0, 0), (54, .bipush 10, 10, 0), (56, .idiv, 0, 0), (57, .invokevirtual 249, 13, 4), (60, .aload_n 0, 0, 0), (61, .getfield 10, 0, 9), (64, .getfield 184, 2, 6), (67, .iconst 0, 0, 0), (68, .iaload, 0, 0), (69, .iconst 1, 1, 0), (70, .iadd, 0, 0), (71, .istore 6, 0, 0), (73, .iconst 1, 1, 0), (74, .istore 7, 0, 0)], 76),
  (76, [(76, .iload 7, 0, 0), (78, .bipush 40, 40, 0), (80, .if_icmp .gt 76, 156, 0)], 83),
  (83, [(83, .iload 7, 0, 0), (85, .iload 4, 0, 0), (87, .if_icmp .gt 69, 156, 0)], 90),
  (90, [(90, .iload 5, 0, 0), (92, .iload 7, 0, 0), (94, .iconst 1, 1, 0), (95, .isub, 0, 0), (96, .iload 6, 0, 0), (98, .imul, 0, 0), (99, .iadd, 0, 0), (100, .istore 8, 0, 0), (102, .iload 8, 0, 0), (104, .sipush 1000, 1000, 0), (107, .if_icmp .lt 6, 113, 0)], 110),
  (110, [(110, .bipush (-2), 2, 1), (112, .ireturn, 0, 0)], 113),
  (113, [(113, .aload_n 0, 0, 0), (114, .getfield 93, 13, 9), (117, .iload 7, 0, 0), (119, .iconst 1, 1, 0), (120, .isub, 0, 0), (121, .aload_n 0, 0, 0), (122, .getfield 78, 10, 9), (125, .aload_n 0, 0, 0), (126, .getfield 60, 8, 9), (129, .iload_n 2, 0, 0), (130, .iload 8, 0, 0), (132, .invokevirtual 321, 35, 4), (135, .iastore, 0, 0), (136, .aload_n 0, 0, 0), (137, .iload 7, 0, 0), (139, .iload 4, 0, 0), (141, .invokevirtual 325, 144, 3), (144, .ifCond .eq 6, 150, 0)], 147),
  (147, [(147, .iload 7, 0, 0), (149, .ireturn, 0, 0)], 150),
  (150, [(150, .iinc 7 1, 1, 0), (153, .goto (-77), 76, 0)], 156),
  (156, [(156, .bipush (-2), 2, 1), (158, .ireturn, 0, 0)], 159)]
theorem t_Appr_dodge : z_chkM 111 b_Appr_dodge = true := by decide +kernel
