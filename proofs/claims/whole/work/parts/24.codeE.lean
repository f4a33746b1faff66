def b_Mod_manned : List BK := [(0, [(0, .aload_n 0, 0, 0), (1, .iload_n 1, 0, 0), (2, .invokevirtual 172, 152, 2), (5, .ifCond .eq 22, 27, 0)], 8),
  (8, [(8, .iload_n 2, 0, 0), (9, .iload_n 3, 0, 0), (10, .invokestatic 229, 156, 2), (13, .ifCond .eq 14, 27, 0)], 16),
  (16, [(16, .iload 4, 0, 0), (18, .i2l, 0, 0), (19, .lconst 0, 0, 0), (20, .lconst 1, 0, 0), (21, .invokestatic 57, 148, 3), (24, .ifCond .ne 5, 29, 0)], 27),
  (27, [(27, .iconst (-1), 1, 1), (28, .ireturn, 0, 0)], 29),
  (29, [(29, .aload_n 0, 0, 0), (30, .iconst (-1), 1, 1), (31, .iconst (-1), 1, 1), (32, .invokevirtual 155, 169, 3), (35, .iconst 0, 0, 0), (36, .istore 5, 0, 0), (38, .iload_n 2, 0, 0), (39, .istore 6, 0, 0)], 41),
  (41, [(41, .iload 6, 0, 0), (43, .iload_n 3, 0, 0), (44, .if_icmp .gt 48, 92, 0)], 47),
  (47, [(47, .iload 5, 0, 0), (49, .iload 4, 0, 0), (51, .ifCond .ne 17, 68, 0)], 54),
  (54, [(54, .aload_n 0, 0, 0), (55, .iload_n 1, 0, 0), (56, .iload 6, 0, 0), (58, .invokevirtual 117, 166, 3), (61, .iconst (-1), 1, 1), (62, .if_icmp .eq 20, 82, 0)], 65),
  (65, [(65, .goto 13, 78, 0)], 68),
  (68, [(68, .aload_n 0, 0, 0), (69, .iload_n 1, 0, 0), (70, .iload 6, 0, 0), (72, .invokevirtual 232, 207, 3), (75, .ifCond .eq 7, 82, 0)], 78),
  (78, [(78, .iconst 1, 1, 0), (79, .goto 4, 83, 0)], 82),
  (82, [(82, .iconst 0, 0, 0)], 83),
  (83, [(83, .iadd, 0, 0), (84, .istore 5, 0, 0), (86, .iinc 6 1, 1, 0), (89, .goto (-48), 41, 0)], 92),
  (92, [(92, .iload 5, 0, 0), (94, .ireturn, 0, 0)], 95)]
theorem t_Mod_manned : z_chkM 208 b_Mod_manned = true := by decide +kernel
def b_Mod_recalledMany : List BK := [(0, [(0, .iconst 0, 0, 0), (1, .istore_n 1, 0, 0), (2, .iconst 0, 0, 0), (3, .istore_n 2, 0, 0)], 4),
  (4, [(4, .iload_n 2, 0, 0), (5, .aload_n 0, 0, 0), (6, .invokevirtual 61, 151, 1), (9, .if_icmp .ge 25, 34, 0)], 12),
  (12, [(12, .iload_n 1, 0, 0), (13, .aload_n 0, 0, 0), (14, .iload_n 2, 0, 0), (15, .invokevirtual 204, 180, 2), (18, .ifCond .eq 7, 25, 0)], 21),
  (21, [(21, .iconst 1, 1, 0), (22, .goto 4, 26, 0)], 25),
  (25, [(25, .iconst 0, 0, 0)], 26),
  (26, [(26, .iadd, 0, 0), (27, .istore_n 1, 0, 0), (28, .iinc 2 1, 1, 0), (31, .goto (-27), 4, 0)], 34),
  (34, [(34, .iload_n 1, 0, 0), (35, .ireturn, 0, 0)], 36)]
theorem t_Mod_recalledMany : z_chkM 209 b_Mod_recalledMany = true := by decide +kernel
def b_Mod_stuckMany : List BK := [(0, [(0, .iconst 0, 0, 0), (1, .istore_n 1, 0, 0), (2, .iconst 0, 0, 0), (3, .istore_n 2, 0, 0)], 4),
  (4, [(4, .iload_n 2, 0, 0), (5, .aload_n 0, 0, 0), (6, .invokevirtual 61, 151, 1), (9, .if_icmp .ge 40, 49, 0)], 12),
  (12, [(12, .aload_n 0, 0, 0), (13, .iload_n 2, 0, 0), (14, .invokevirtual 204, 180, 2), (17, .ifCond .eq 6, 23, 0)], 20),
  (20, [(20, .goto 23, 43, 0)], 23),
  (23, [(23, .aload_n 0, 0, 0), (24, .iload_n 2, 0, 0), (25, .invokevirtual 195, 178, 2), (28, .iload_n 1, 0, 0), (29, .aload_n 0, 0, 0), (30, .getfield 147, 18, 10), (33, .ifCond .eq 7, 40, 0)], 36),
  (36, [(36, .iconst 0, 0, 0), (37, .goto 4, 41, 0)], 40),
  (40, [(40, .iconst 1, 1, 0)], 41),
  (41, [(41, .iadd, 0, 0), (42, .istore_n 1, 0, 0)], 43),
  (43, [(43, .iinc 2 1, 1, 0), (46, .goto (-42), 4, 0)], 49),
  (49, [(49, .iload_n 1, 0, 0), (50, .ireturn, 0, 0)], 51)]
theorem t_Mod_stuckMany : z_chkM 210 b_Mod_stuckMany = true := by decide +kernel
def b_Mod_count : List BK := [(0, [(0, .iload_n 1, 0, 0), (1, .tableswitch 146 0 13 #[71, 76, 76, 76, 76, 84, 84, 84, 91, 96, 101, 106, 111, 116], 0, 0)], 72),
  (72, [(72, .aload_n 0, 0, 0), (73, .invokevirtual 53, 150, 1), (76, .ireturn, 0, 0)], 77),
  (77, [(77, .aload_n 0, 0, 0), (78, .iload_n 1, 0, 0), (79, .iconst 1, 1, 0), (80, .isub, 0, 0), (81, .invokevirtual 79, 162, 2), (84, .ireturn, 0, 0)], 85),
  (85, [(85, .aload_n 0, 0, 0), (86, .getfield 7, 0, 10), (89, .iload_n 1, 0, 0), (90, .iaload, 0, 0), (91, .ireturn, 0, 0)], 92),
  (92, [(92, .aload_n 0, 0, 0), (93, .invokevirtual 61, 151, 1), (96, .ireturn, 0, 0)], 97),
  (97, [(97, .aload_n 0, 0, 0), (98, .invokevirtual 235, 209, 1), (101, .ireturn, 0, 0)], 102),
  (102, [(102, .aload_n 0, 0, 0), (103, .invokevirtual 238, 210, 1), (106, .ireturn, 0, 0)], 107),
  (107, [(107, .aload_n 0, 0, 0), (108, .getfield 241, 2, 10), (111, .ireturn, 0, 0)], 112),
  (112, [(112, .aload_n 0, 0, 0), (113, .getfield 244, 21, 10), (116, .ireturn, 0, 0)], 117),
  (117, [(117, .aload_n 0, 0, 0), (118, .getfield 19, 4, 10), (121, .iconst 0, 0, 0), (122, .baload, 0, 0), (123, .ifCond .eq 7, 130, 0)], 126),
  (126, [(126, .iconst 1, 1, 0), (127, .goto 4, 131, 0)], 130),
  (130, [(130, .iconst 0, 0, 0)], 131),
  (131, [(131, .aload_n 0, 0, 0), (132, .getfield 19, 4, 10), (135, .iconst 1, 1, 0), (136, .baload, 0, 0), (137, .ifCond .eq 7, 144, 0)], 140),
  (140, [(140, .iconst 2, 2, 0), (141, .goto 4, 145, 0)], 144),
  (144, [(144, .iconst 0, 0, 0)], 145),
  (145, [(145, .iadd, 0, 0), (146, .ireturn, 0, 0)], 147),
  (147, [(147, .iconst (-1), 1, 1), (148, .ireturn, 0, 0)], 149)]
theorem t_Mod_count : z_chkM 211 b_Mod_count = true := by decide +kernel
def b_Mod_keepsAct : List BK := [(0, [(0, .aload_n 0, 0, 0), (1, .getfield 241, 2, 10), (4, .bipush 10, 10, 0), (6, .if_icmp .ne 46, 52, 0)], 9),
  (9, [(9, .sipush 657, 657, 0), (12, .istore_n 1, 0, 0)], 13),
  (13, [(13, .iload_n 1, 0, 0), (14, .sipush 6570, 6570, 0), (17, .if_icmp .ge 25, 42, 0)], 20),
  (20, [(20, .aload_n 0, 0, 0), (21, .getfield 13, 1, 10), (24, .iload_n 1, 0, 0), (25, .sipush 657, 657, 0), (28, .isub, 0, 0), (29, .aload_n 0, 0, 0), (30, .getfield 13, 1, 10), (33, .iload_n 1, 0, 0), (34, .iaload, 0, 0), (35, .iastore, 0, 0), (36, .iinc 1 1, 1, 0), (39, .goto (-26), 13, 0)], 42),
  (42, [(42, .aload_n 0, 0, 0), (43, .dup, 0, 0), (44, .getfield 241, 2, 10), (47, .iconst 1, 1, 0), (48, .isub, 0, 0), (49, .putfield 241, 2, 10)], 52),
  (52, [(52, .iconst 0, 0, 0), (53, .istore_n 1, 0, 0)], 54),
  (54, [(54, .iload_n 1, 0, 0), (55, .sipush 657, 657, 0), (58, .if_icmp .ge 30, 88, 0)], 61),
  (61, [(61, .aload_n 0, 0, 0), (62, .getfield 13, 1, 10), (65, .sipush 657, 657, 0), (68, .aload_n 0, 0, 0), (69, .getfield 241, 2, 10), (72, .imul, 0, 0), (73, .iload_n 1, 0, 0), (74, .iadd, 0, 0), (75, .aload_n 0, 0, 0), (76, .getfield 7, 0, 10), (79, .iload_n 1, 0, 0), (80, .iaload, 0, 0), (81, .iastore, 0, 0), (82, .iinc 1 1, 1, 0), (85, .goto (-31), 54, 0)], 88),
  (88, [(88, .aload_n 0, 0, 0), (89, .dup, 0, 0), (90, .getfield 241, 2, 10), (93, .iconst 1, 1, 0), (94, .iadd, 0, 0), (95, .putfield 241, 2, 10), (98, .return_, 0, 0)], 99)]
theorem t_Mod_keepsAct : z_chkM 212 b_Mod_keepsAct = true := by decide +kernel
def b_Mod_comes : List BK := [(0, [(0, .aload_n 0, 0, 0), (1, .invokevirtual 61, 151, 1), (4, .istore 7, 0, 0), (6, .sipush 377, 377, 0), (9, .bipush 7, 7, 0), (11, .iload 7, 0, 0), (13, .imul, 0, 0), (14, .iadd, 0, 0), (15, .istore 8, 0, 0), (17, .aload_n 0, 0, 0), (18, .getfield 7, 0, 10), (21, .iload 8, 0, 0), (23, .iconst 0, 0, 0), (24, .iadd, 0, 0), (25, .iload_n 1, 0, 0), (26, .iastore, 0, 0), (27, .aload_n 0, 0, 0), (28, .getfield 7, 0, 10), (31, .iload 8, 0, 0), (33, .iconst 1, 1, 0), (34, .iadd, 0, 0), (35, .iload_n 2, 0, 0), (36, .iastore, 0, 0), (37, .aload_n 0, 0, 0), (38, .getfield 7, 0, 10), (41, .iload 8, 0, 0), (43, .iconst 2, 2, 0), (44, .iadd, 0, 0), (45, .iload_n 3, 0, 0), (46, .iastore, 0, 0), (47, .aload_n 0, 0, 0), (48, .getfield 7, 0, 10), (51, .iload 8, 0, 0), (53, .iconst 3, 3, 0), (54, .iadd, 0, 0), (55, .iload 4, 0, 0), (57, .iastore, 0, 0), (58, .aload_n 0, 0, 0), (59, .getfield 7, 0, 10), (62, .iload 8, 0, 0), (64, .iconst 4, 4, 0), (65, .iadd, 0, 0), (66, .iload 5, 0, 0), (68, .iastore, 0, 0), (69, .aload_n 0, 0, 0), (70, .getfield 7, 0, 10), (73, .iload 8, 0, 0), (75, .iconst 5, 5, 0), (76, .iadd, 0, 0), (77, .iload 6, 0, 0), (79, .iastore, 0, 0), (80, .aload_n 0, 0, 0), (81, .getfield 7, 0, 10), (84, .iload 8, 0, 0), (86, .bipush 6, 6, 0), (88, .iadd, 0, 0), (89, .bipush (-2), 2, 1), (91, .iastore, 0, 0), (92, .aload_n 0, 0, 0), (93, .getfield 7, 0, 10), (96, .bipush 8, 8, 0), (98, .dup2, 0, 0), (99, .iaload, 0, 0), (100, .iconst 1, 1, 0), (101, .iadd, 0, 0), (102, .iastore, 0, 0), (103, .iload 7, 0, 0), (105, .ireturn, 0, 0)], 106)]
theorem t_Mod_comes : z_chkM 213 b_Mod_comes = true := by decide +kernel
def b_Mod_request : List BK := [(0, [(0, .iload_n 1, 0, 0), (1, .invokestatic 212, 154, 1), (4, .ifCond .eq 39, 43, 0)], 7),
  (7, [(7, .aload_n 0, 0, 0), (8, .iload_n 2, 0, 0), (9, .invokevirtual 172, 152, 2), (12, .ifCond .eq 31, 43, 0)], 15),
  (15, [(15, .iload_n 3, 0, 0), (16, .invokestatic 215, 192, 1), (19, .ifCond .eq 24, 43, 0)], 22),
  (22, [(22, .iload 4, 0, 0), (24, .i2l, 0, 0), (25, .lconst 1, 0, 0), (26, .ldc2_w 247, 9999, 2), (29, .invokestatic 57, 148, 3), (32, .ifCond .eq 11, 43, 0)], 35),
  (35, [(35, .iload 5, 0, 0), (37, .invokestatic 68, 155, 1), (40, .ifCond .ne 5, 45, 0)], 43),
  (43, [(43, .iconst (-1), 1, 1), (44, .ireturn, 0, 0)], 45),
  (45, [(45, .aload_n 0, 0, 0), (46, .invokevirtual 61, 151, 1), (49, .bipush 40, 40, 0), (51, .if_icmp .ne 6, 57, 0)], 54),
  (54, [(54, .bipush (-2), 2, 1), (56, .ireturn, 0, 0)], 57),
  (57, [(57, .aload_n 0, 0, 0), (58, .invokevirtual 249, 212, 1), (61, .aload_n 0, 0, 0), (62, .iload_n 1, 0, 0), (63, .iload_n 2, 0, 0), (64, .iload_n 3, 0, 0), (65, .bipush 10, 10, 0), (67, .irem, 0, 0), (68, .iload_n 3, 0, 0), (69, .bipush 10, 10, 0), (71, .idiv, 0, 0), (72, .iload 4, 0, 0), (74, .iload 5, 0, 0), (76, .invokevirtual 252, 213, 7), (79, .ireturn, 0, 0)], 80)]
theorem t_Mod_request : z_chkM 214 b_Mod_request = true := by decide +kernel
def b_Mod_mayRecall : List BK := [(0, [(0, .aload_n 0, 0, 0), (1, .iload_n 1, 0, 0), (2, .invokevirtual 186, 153, 2), (5, .ifCond .eq 20, 25, 0)], 8),
  (8, [(8, .iload_n 2, 0, 0), (9, .invokestatic 68, 155, 1), (12, .ifCond .eq 13, 25, 0)], 15),
  (15, [(15, .iload_n 2, 0, 0), (16, .aload_n 0, 0, 0), (17, .iload_n 1, 0, 0), (18, .iconst 5, 5, 0), (19, .invokevirtual 134, 159, 3), (22, .if_icmp .ge 5, 27, 0)], 25),
  (25, [(25, .iconst (-1), 1, 1), (26, .ireturn, 0, 0)], 27),
  (27, [(27, .aload_n 0, 0, 0), (28, .iload_n 1, 0, 0), (29, .invokevirtual 204, 180, 2), (32, .ifCond .eq 6, 38, 0)], 35),
  (35, [(35, .bipush (-2), 2, 1), (37, .ireturn, 0, 0)], 38),
  (38, [(38, .aload_n 0, 0, 0), (39, .iload_n 1, 0, 0), (40, .invokevirtual 195, 178, 2), (43, .aload_n 0, 0, 0), (44, .getfield 147, 18, 10), (47, .ifCond .eq 17, 64, 0)], 50),
  (50, [(50, .aload_n 0, 0, 0), (51, .iconst 1, 1, 0), (52, .invokevirtual 201, 179, 2), (55, .iload_n 2, 0, 0), (56, .if_icmp .gt 8, 64, 0)], 59),
  (59, [(59, .bipush (-3), 3, 1), (61, .goto 4, 65, 0)], 64),
  (64, [(64, .iconst 1, 1, 0)], 65),
  (65, [(65, .ireturn, 0, 0)], 66)]
theorem t_Mod_mayRecall : z_chkM 215 b_Mod_mayRecall = true := by decide +kernel
def b_Mod_recall : List BK := [(0, [(0, .aload_n 0, 0, 0), (1, .iload_n 1, 0, 0), (2, .iload_n 2, 0, 0), (3, .invokevirtual 256, 215, 3), (6, .istore_n 3, 0, 0), (7, .iload_n 3, 0, 0), (8, .ifCond .ge 5, 13, 0)], 11),
  (11, [(11, .iload_n 3, 0, 0), (12, .ireturn, 0, 0)], 13),
  (13, [(13, .aload_n 0, 0, 0), (14, .invokevirtual 249, 212, 1), (17, .aload_n 0, 0, 0), (18, .getfield 7, 0, 10), (21, .sipush 377, 377, 0), (24, .bipush 7, 7, 0), (26, .iload_n 1, 0, 0), (27, .imul, 0, 0), (28, .iadd, 0, 0), (29, .bipush 6, 6, 0), (31, .iadd, 0, 0), (32, .iload_n 2, 0, 0), (33, .iastore, 0, 0), (34, .iconst 1, 1, 0), (35, .ireturn, 0, 0)], 36)]
theorem t_Mod_recall : z_chkM 216 b_Mod_recall = true := by decide +kernel
def b_Mod_amend : List BK := [(0, [(0, .aload_n 0, 0, 0), (1, .iload_n 1, 0, 0), (2, .iload_n 3, 0, 0), (3, .invokevirtual 256, 215, 3), (6, .istore 4, 0, 0), (8, .iload 4, 0, 0), (10, .iconst (-1), 1, 1), (11, .if_icmp .eq 15, 26, 0)], 14),
  (14, [(14, .iload_n 2, 0, 0), (15, .i2l, 0, 0), (16, .lconst 1, 0, 0), (17, .ldc2_w 247, 9999, 2), (20, .invokestatic 57, 148, 3), (23, .ifCond .ne 5, 28, 0)], 26),
  (26, [(26, .iconst (-1), 1, 1), (27, .ireturn, 0, 0)], 28),
  (28, [(28, .iload 4, 0, 0), (30, .bipush (-2), 2, 1), (32, .if_icmp .eq 12, 44, 0)], 35),
  (35, [(35, .aload_n 0, 0, 0), (36, .invokevirtual 61, 151, 1), (39, .bipush 40, 40, 0), (41, .if_icmp .ne 6, 47, 0)], 44),
  (44, [(44, .bipush (-2), 2, 1), (46, .ireturn, 0, 0)], 47),
  (47, [(47, .iload 4, 0, 0), (49, .ifCond .ge 6, 55, 0)], 52),
  (52, [(52, .iload 4, 0, 0), (54, .ireturn, 0, 0)], 55),
  (55, [(55, .aload_n 0, 0, 0), (56, .invokevirtual 249, 212, 1), (59, .aload_n 0, 0, 0), (60, .getfield 7, 0, 10), (63, .sipush 377, 377, 0), (66, .bipush 7, 7, 0), (68, .iload_n 1, 0, 0), (69, .imul, 0, 0), (70, .iadd, 0, 0), (71, .bipush 6, 6, 0), (73, .iadd, 0, 0), (74, .iload_n 3, 0, 0), (75, .iastore, 0, 0), (76, .aload_n 0, 0, 0), (77, .aload_n 0, 0, 0), (78, .iload_n 1, 0, 0), (79, .iconst 0, 0, 0), (80, .invokevirtual 134, 159, 3), (83, .aload_n 0, 0, 0), (84, .iload_n 1, 0, 0), (85, .iconst 1, 1, 0), (86, .invokevirtual 134, 159, 3), (89, .aload_n 0, 0, 0), (90, .iload_n 1, 0, 0), (91, .iconst 2, 2, 0), (92, .invokevirtual 134, 159, 3), (95, .aload_n 0, 0, 0), (96, .iload_n 1, 0, 0), (97, .iconst 3, 3, 0), (98, .invokevirtual 134, 159, 3), (101, .iload_n 2, 0, 0), (102, .iload_n 3, 0, 0), (103, .invokevirtual 252, 213, 7), (106, .ireturn, 0, 0)], 107)]
theorem t_Mod_amend : z_chkM 217 b_Mod_amend = true := by decide +kernel
def b_Mod_mostOf : List BK := [(0, [(0, .iload_n 0, 0, 0), (1, .iconst 3, 3, 0), (2, .if_icmp .ne 8, 10, 0)], 5),
  (5, [(5, .bipush 16, 16, 0), (7, .goto 5, 12, 0)], 10),
  (10, [(10, .bipush 24, 24, 0)], 12),
  (12, [(12, .ireturn, 0, 0)], 13)]
theorem t_Mod_mostOf : z_chkM 218 b_Mod_mostOf = true := by decide +kernel
def b_Mod_comesEntry : List BK := [(0, [(0, .aload_n 0, 0, 0), (1, .iload_n 1, 0, 0), (2, .invokevirtual 79, 162, 2), (5, .istore 7, 0, 0), (7, .iload 7, 0, 0), (9, .iload_n 1, 0, 0), (10, .invokestatic 259, 218, 1), (13, .if_icmp .ne 6, 19, 0)], 16),
  (16, [(16, .bipush (-2), 2, 1), (18, .ireturn, 0, 0)], 19),
  (19, [(19, .aload_n 0, 0, 0), (20, .invokevirtual 249, 212, 1), (23, .iload_n 1, 0, 0), (24, .invokestatic 72, 161, 1), (27, .iload_n 1, 0, 0), (28, .invokestatic 76, 160, 1), (31, .iload 7, 0, 0), (33, .imul, 0, 0), (34, .iadd, 0, 0), (35, .istore 8, 0, 0), (37, .iconst 0, 0, 0), (38, .istore 9, 0, 0)], 40),
  (40, [(40, .iload 9, 0, 0), (42, .iload_n 1, 0, 0), (43, .invokestatic 76, 160, 1), (46, .if_icmp .ge 62, 108, 0)], 49),
  (49, [(49, .aload_n 0, 0, 0), (50, .getfield 7, 0, 10), (53, .iload 8, 0, 0), (55, .iload 9, 0, 0), (57, .iadd, 0, 0), (58, .iload 9, 0, 0), (60, .ifCond .ne 7, 67, 0)], 63),
  (63, [(63, .iload_n 2, 0, 0), (64, .goto 37, 101, 0)], 67),
  (67, [(67, .iload 9, 0, 0), (69, .iconst 1, 1, 0), (70, .if_icmp .ne 7, 77, 0)], 73),
  (73, [(73, .iload_n 3, 0, 0), (74, .goto 27, 101, 0)], 77),
  (77, [(77, .iload 9, 0, 0), (79, .iconst 2, 2, 0), (80, .if_icmp .ne 8, 88, 0)], 83),
  (83, [(83, .iload 4, 0, 0), (85, .goto 16, 101, 0)], 88),
  (88, [(88, .iload 9, 0, 0), (90, .iconst 3, 3, 0), (91, .if_icmp .ne 8, 99, 0)], 94),
  (94, [(94, .iload 5, 0, 0), (96, .goto 5, 101, 0)], 99),
  (99, [(99, .iload 6, 0, 0)], 101),
  (101, [(101, .iastore, 0, 0), (102, .iinc 9 1, 1, 0), (105, .goto (-65), 40, 0)], 108),
  (108, [(108, .aload_n 0, 0, 0), (109, .getfield 7, 0, 10), (112, .iconst 1, 1, 0), (113, .iload_n 1, 0, 0), (114, .iadd, 0, 0), (115, .dup2, 0, 0), (116, .iaload, 0, 0), (117, .iconst 1, 1, 0), (118, .iadd, 0, 0), (119, .iastore, 0, 0), (120, .iload 7, 0, 0), (122, .ireturn, 0, 0)], 123)]
theorem t_Mod_comesEntry : z_chkM 219 b_Mod_comesEntry = true := by decide +kernel
def b_Mod_hold : List BK := [(0, [(0, .aload_n 0, 0, 0), (1, .iload_n 1, 0, 0), (2, .invokevirtual 172, 152, 2), (5, .ifCond .eq 33, 38, 0)], 8),
  (8, [(8, .iload_n 2, 0, 0), (9, .invokestatic 212, 154, 1), (12, .ifCond .eq 26, 38, 0)], 15),
  (15, [(15, .iload_n 3, 0, 0), (16, .iload 4, 0, 0), (18, .invokestatic 229, 156, 2), (21, .ifCond .eq 17, 38, 0)], 24),
  (24, [(24, .aload_n 0, 0, 0), (25, .iconst 0, 0, 0), (26, .iload_n 1, 0, 0), (27, .iload_n 2, 0, 0), (28, .iload_n 3, 0, 0), (29, .iload 4, 0, 0), (31, .iconst 0, 0, 0), (32, .invokevirtual 262, 219, 7), (35, .goto 4, 39, 0)], 38),
  (38, [(38, .iconst (-1), 1, 1)], 39),
  (39, [(39, .ireturn, 0, 0)], 40)]
theorem t_Mod_hold : z_chkM 220 b_Mod_hold = true := by decide +kernel
def b_Mod_away : List BK := [(0, [(0, .iload_n 1, 0, 0), (1, .invokestatic 212, 154, 1), (4, .ifCond .eq 24, 28, 0)], 7),
  (7, [(7, .iload_n 2, 0, 0), (8, .iload_n 3, 0, 0), (9, .invokestatic 229, 156, 2), (12, .ifCond .eq 16, 28, 0)], 15),
  (15, [(15, .aload_n 0, 0, 0), (16, .iconst 1, 1, 0), (17, .iload_n 1, 0, 0), (18, .iload_n 2, 0, 0), (19, .iload_n 3, 0, 0), (20, .iconst 0, 0, 0), (21, .iconst 0, 0, 0), (22, .invokevirtual 262, 219, 7), (25, .goto 4, 29, 0)], 28),
  (28, [(28, .iconst (-1), 1, 1)], 29),
  (29, [(29, .ireturn, 0, 0)], 30)]
theorem t_Mod_away : z_chkM 221 b_Mod_away = true := by decide +kernel
def b_Mod_stand : List BK := [(0, [(0, .iload_n 1, 0, 0), (1, .invokestatic 212, 154, 1), (4, .ifCond .eq 41, 45, 0)], 7),
  (7, [(7, .iload_n 2, 0, 0), (8, .invokestatic 212, 154, 1), (11, .ifCond .eq 34, 45, 0)], 14),
  (14, [(14, .iload_n 1, 0, 0), (15, .iload_n 2, 0, 0), (16, .if_icmp .eq 29, 45, 0)], 19),
  (19, [(19, .iload_n 3, 0, 0), (20, .iload 4, 0, 0), (22, .invokestatic 229, 156, 2), (25, .ifCond .eq 20, 45, 0)], 28),
  (28, [(28, .iload 5, 0, 0), (30, .i2l, 0, 0), (31, .lconst 0, 0, 0), (32, .ldc2_w 247, 9999, 2), (35, .invokestatic 57, 148, 3), (38, .ifCond .eq 7, 45, 0)], 41),
  (41, [(41, .iconst 1, 1, 0), (42, .goto 4, 46, 0)], 45),
  (45, [(45, .iconst 0, 0, 0)], 46),
  (46, [(46, .istore 6, 0, 0), (48, .iload 6, 0, 0), (50, .ifCond .eq 18, 68, 0)], 53),
  (53, [(53, .aload_n 0, 0, 0), (54, .iconst 2, 2, 0), (55, .iload_n 1, 0, 0), (56, .iload_n 2, 0, 0), (57, .iload_n 3, 0, 0), (58, .iload 4, 0, 0), (60, .iload 5, 0, 0), (62, .invokevirtual 262, 219, 7), (65, .goto 4, 69, 0)], 68),
  (68, [(68, .iconst (-1), 1, 1)], 69),
  (69, [(69, .ireturn, 0, 0)], 70)]
theorem t_Mod_stand : z_chkM 222 b_Mod_stand = true := by decide +kernel
def b_Mod_foe : List BK := [(0, [(0, .iload_n 1, 0, 0), (1, .invokestatic 212, 154, 1), (4, .ifCond .eq 15, 19, 0)], 7),
  (7, [(7, .iload_n 2, 0, 0), (8, .i2l, 0, 0), (9, .lconst 0, 0, 0), (10, .ldc2_w 265, 9, 2), (13, .invokestatic 57, 148, 3), (16, .ifCond .ne 5, 21, 0)], 19),
  (19, [(19, .iconst (-1), 1, 1), (20, .ireturn, 0, 0)], 21),
  (21, [(21, .iconst 0, 0, 0), (22, .istore_n 3, 0, 0)], 23),
  (23, [(23, .iload_n 3, 0, 0), (24, .aload_n 0, 0, 0), (25, .iconst 3, 3, 0), (26, .invokevirtual 79, 162, 2), (29, .if_icmp .ge 34, 63, 0)], 32),
  (32, [(32, .aload_n 0, 0, 0), (33, .iconst 3, 3, 0), (34, .iload_n 3, 0, 0), (35, .iconst 0, 0, 0), (36, .invokevirtual 82, 163, 4), (39, .iload_n 1, 0, 0), (40, .if_icmp .ne 17, 57, 0)], 43),
  (43, [(43, .aload_n 0, 0, 0), (44, .iconst 3, 3, 0), (45, .iload_n 3, 0, 0), (46, .iconst 1, 1, 0), (47, .invokevirtual 82, 163, 4), (50, .iload_n 2, 0, 0), (51, .if_icmp .ne 6, 57, 0)], 54),
  (54, [(54, .bipush (-2), 2, 1), (56, .ireturn, 0, 0)], 57),
  (57, [(57, .iinc 3 1, 1, 0), (60, .goto (-37), 23, 0)], 63),
  (63, [(63, .aload_n 0, 0, 0), (64, .iconst 3, 3, 0), (65, .iload_n 1, 0, 0), (66, .iload_n 2, 0, 0), (67, .iconst 0, 0, 0), (68, .iconst 0, 0, 0), (69, .iconst 0, 0, 0), (70, .invokevirtual 262, 219, 7), (73, .ireturn, 0, 0)], 74)]
theorem t_Mod_foe : z_chkM 223 b_Mod_foe = true := by decide +kernel
def b_Mod_drop : List BK := [(0, [(0, .aload_n 0, 0, 0), (1, .iload_n 1, 0, 0), (2, .iload_n 2, 0, 0), (3, .invokevirtual 183, 184, 3), (6, .ifCond .ne 5, 11, 0)], 9),
  (9, [(9, .iconst (-1), 1, 1), (10, .ireturn, 0, 0)], 11),
  (11, [(11, .aload_n 0, 0, 0), (12, .invokevirtual 249, 212, 1), (15, .aload_n 0, 0, 0), (16, .getfield 7, 0, 10), (19, .iconst 1, 1, 0), (20, .iload_n 1, 0, 0), (21, .iadd, 0, 0), (22, .dup2, 0, 0), (23, .iaload, 0, 0), (24, .iconst 1, 1, 0), (25, .isub, 0, 0), (26, .iastore, 0, 0), (27, .iload_n 1, 0, 0), (28, .invokestatic 76, 160, 1), (31, .istore_n 3, 0, 0), (32, .iload_n 1, 0, 0), (33, .invokestatic 72, 161, 1), (36, .istore 4, 0, 0), (38, .iload 4, 0, 0), (40, .iload_n 3, 0, 0), (41, .iload_n 2, 0, 0), (42, .imul, 0, 0), (43, .iadd, 0, 0), (44, .istore 5, 0, 0)], 46),
  (46, [(46, .iload 5, 0, 0), (48, .iload 4, 0, 0), (50, .iload_n 3, 0, 0), (51, .aload_n 0, 0, 0), (52, .iload_n 1, 0, 0), (53, .invokevirtual 79, 162, 2), (56, .imul, 0, 0), (57, .iadd, 0, 0), (58, .if_icmp .ge 25, 83, 0)], 61),
  (61, [(61, .aload_n 0, 0, 0), (62, .getfield 7, 0, 10), (65, .iload 5, 0, 0), (67, .aload_n 0, 0, 0), (68, .getfield 7, 0, 10), (71, .iload 5, 0, 0), (73, .iload_n 3, 0, 0), (74, .iadd, 0, 0), (75, .iaload, 0, 0), (76, .iastore, 0, 0), (77, .iinc 5 1, 1, 0), (80, .goto (-34), 46, 0)], 83),
  (83, [(83, .aload_n 0, 0, 0), (84, .iload_n 1, 0, 0), (85, .invokevirtual 79, 162, 2), (88, .ireturn, 0, 0)], 89)]
theorem t_Mod_drop : z_chkM 224 b_Mod_drop = true := by decide +kernel
def b_Mod_becomes : List BK := [(0, [(0, .aload_n 0, 0, 0), (1, .getfield 7, 0, 10), (4, .iload_n 1, 0, 0), (5, .iaload, 0, 0), (6, .istore_n 3, 0, 0), (7, .iload_n 3, 0, 0), (8, .iload_n 2, 0, 0), (9, .if_icmp .ne 6, 15, 0)], 12),
  (12, [(12, .bipush (-2), 2, 1), (14, .ireturn, 0, 0)], 15),
  (15, [(15, .aload_n 0, 0, 0), (16, .invokevirtual 249, 212, 1), (19, .aload_n 0, 0, 0), (20, .getfield 7, 0, 10), (23, .iload_n 1, 0, 0), (24, .iload_n 2, 0, 0), (25, .iastore, 0, 0), (26, .iload_n 3, 0, 0), (27, .ireturn, 0, 0)], 28)]
theorem t_Mod_becomes : z_chkM 225 b_Mod_becomes = true := by decide +kernel
def b_Mod_limit : List BK := [(0, [(0, .aload_n 0, 0, 0), (1, .iload_n 1, 0, 0), (2, .invokevirtual 172, 152, 2), (5, .ifCond .eq 45, 50, 0)], 8),
  (8, [(8, .iload_n 2, 0, 0), (9, .i2l, 0, 0), (10, .lconst 0, 0, 0), (11, .ldc2_w 218, 2, 2), (14, .invokestatic 57, 148, 3), (17, .ifCond .eq 33, 50, 0)], 20),
  (20, [(20, .iload_n 3, 0, 0), (21, .i2l, 0, 0), (22, .lconst 0, 0, 0), (23, .ldc2_w 247, 9999, 2), (26, .invokestatic 57, 148, 3), (29, .ifCond .eq 21, 50, 0)], 32),
  (32, [(32, .aload_n 0, 0, 0), (33, .bipush 9, 9, 0), (35, .iconst 4, 4, 0), (36, .iload_n 1, 0, 0), (37, .imul, 0, 0), (38, .iadd, 0, 0), (39, .iconst 1, 1, 0), (40, .iadd, 0, 0), (41, .iload_n 2, 0, 0), (42, .iadd, 0, 0), (43, .iload_n 3, 0, 0), (44, .invokevirtual 267, 225, 3), (47, .goto 4, 51, 0)], 50),
  (50, [(50, .iconst (-1), 1, 1)], 51),
  (51, [(51, .ireturn, 0, 0)], 52)]
theorem t_Mod_limit : z_chkM 226 b_Mod_limit = true := by decide +kernel
def b_Mod_highest : List BK := [(0, [(0, .iload_n 0, 0, 0), (1, .ifCond .ne 8, 9, 0)], 4),
  (4, [(4, .bipush 99, 99, 0), (6, .goto 15, 21, 0)], 9),
  (9, [(9, .iload_n 0, 0, 0), (10, .iconst 1, 1, 0), (11, .if_icmp .ne 8, 19, 0)], 14),
  (14, [(14, .bipush 9, 9, 0), (16, .goto 5, 21, 0)], 19),
  (19, [(19, .bipush 30, 30, 0)], 21),
  (21, [(21, .ireturn, 0, 0)], 22)]
theorem t_Mod_highest : z_chkM 227 b_Mod_highest = true := by decide +kernel
def b_Mod_set : List BK := [(0, [(0, .iload_n 1, 0, 0), (1, .i2l, 0, 0), (2, .lconst 0, 0, 0), (3, .ldc2_w 218, 2, 2), (6, .invokestatic 57, 148, 3), (9, .ifCond .eq 28, 37, 0)], 12),
  (12, [(12, .iload_n 2, 0, 0), (13, .i2l, 0, 0), (14, .lconst 0, 0, 0), (15, .iload_n 1, 0, 0), (16, .invokestatic 270, 227, 1), (19, .i2l, 0, 0), (20, .invokestatic 57, 148, 3), (23, .ifCond .eq 14, 37, 0)], 26),
  (26, [(26, .aload_n 0, 0, 0), (27, .iconst 5, 5, 0), (28, .iload_n 1, 0, 0), (29, .iadd, 0, 0), (30, .iload_n 2, 0, 0), (31, .invokevirtual 267, 225, 3), (34, .goto 4, 38, 0)], 37),
  (37, [(37, .iconst (-1), 1, 1)], 38),
  (38, [(38, .ireturn, 0, 0)], 39)]
theorem t_Mod_set : z_chkM 228 b_Mod_set = true := by decide +kernel
def b_Mod_undo : List BK := [(0, [(0, .aload_n 0, 0, 0), (1, .getfield 241, 2, 10), (4, .ifCond .ne 5, 9, 0)], 7),
  (7, [(7, .iconst (-1), 1, 1), (8, .ireturn, 0, 0)], 9),
  (9, [(9, .aload_n 0, 0, 0), (10, .dup, 0, 0), (11, .getfield 241, 2, 10), (14, .iconst 1, 1, 0), (15, .isub, 0, 0), (16, .putfield 241, 2, 10), (19, .iconst 0, 0, 0), (20, .istore_n 1, 0, 0)], 21),
  (21, [(21, .iload_n 1, 0, 0), (22, .sipush 657, 657, 0), (25, .if_icmp .ge 30, 55, 0)], 28),
  (28, [(28, .aload_n 0, 0, 0), (29, .getfield 7, 0, 10), (32, .iload_n 1, 0, 0), (33, .aload_n 0, 0, 0), (34, .getfield 13, 1, 10), (37, .sipush 657, 657, 0), (40, .aload_n 0, 0, 0), (41, .getfield 241, 2, 10), (44, .imul, 0, 0), (45, .iload_n 1, 0, 0), (46, .iadd, 0, 0), (47, .iaload, 0, 0), (48, .iastore, 0, 0), (49, .iinc 1 1, 1, 0), (52, .goto (-31), 21, 0)], 55),
  (55, [(55, .aload_n 0, 0, 0), (56, .getfield 241, 2, 10), (59, .ireturn, 0, 0)], 60)]
theorem t_Mod_undo : z_chkM 229 b_Mod_undo = true := by decide +kernel
def b_Mod_keep : List BK := [(0, [(0, .iload_n 1, 0, 0), (1, .i2l, 0, 0), (2, .lconst 0, 0, 0), (3, .lconst 1, 0, 0), (4, .invokestatic 57, 148, 3), (7, .ifCond .ne 5, 12, 0)], 10),
  (10, [(10, .iconst (-1), 1, 1), (11, .ireturn, 0, 0)], 12),
  (12, [(12, .iconst 0, 0, 0), (13, .istore_n 2, 0, 0)], 14),
  (14, [(14, .iload_n 2, 0, 0), (15, .sipush 657, 657, 0), (18, .if_icmp .ge 27, 45, 0)], 21),
  (21, [(21, .aload_n 0, 0, 0), (22, .getfield 16, 3, 10), (25, .sipush 657, 657, 0), (28, .iload_n 1, 0, 0), (29, .imul, 0, 0), (30, .iload_n 2, 0, 0), (31, .iadd, 0, 0), (32, .aload_n 0, 0, 0), (33, .getfield 7, 0, 10), (36, .iload_n 2, 0, 0), (37, .iaload, 0, 0), (38, .iastore, 0, 0), (39, .iinc 2 1, 1, 0), (42, .goto (-28), 14, 0)], 45),
  (45, [(45, .aload_n 0, 0, 0), (46, .getfield 19, 4, 10), (49, .iload_n 1, 0, 0), (50, .iconst 1, 1, 0), (51, .bastore, 0, 0), (52, .aload_n 0, 0, 0), (53, .invokevirtual 61, 151, 1), (56, .ireturn, 0, 0)], 57)]
theorem t_Mod_keep : z_chkM 230 b_Mod_keep = true := by decide +kernel
def b_Mod_back : List BK := [(0, [(0, .iload_n 1, 0, 0), (1, .i2l, 0, 0), (2, .lconst 0, 0, 0), (3, .lconst 1, 0, 0), (4, .invokestatic 57, 148, 3), (7, .ifCond .ne 5, 12, 0)], 10),
  (10, [(10, .iconst (-1), 1, 1), (11, .ireturn, 0, 0)], 12),
  (12, [(12, .aload_n 0, 0, 0), (13, .getfield 19, 4, 10), (16, .iload_n 1, 0, 0), (17, .baload, 0, 0), (18, .ifCond .ne 6, 24, 0)], 21),
  (21, [(21, .bipush (-2), 2, 1), (23, .ireturn, 0, 0)], 24),
  (24, [(24, .iconst 0, 0, 0), (25, .istore_n 2, 0, 0)], 26),
  (26, [(26, .iload_n 2, 0, 0), (27, .sipush 657, 657, 0), (30, .if_icmp .ge 27, 57, 0)], 33),
  (33, [(33, .aload_n 0, 0, 0), (34, .getfield 7, 0, 10), (37, .iload_n 2, 0, 0), (38, .aload_n 0, 0, 0), (39, .getfield 16, 3, 10), (42, .sipush 657, 657, 0), (45, .iload_n 1, 0, 0), (46, .imul, 0, 0), (47, .iload_n 2, 0, 0), (48, .iadd, 0, 0), (49, .iaload, 0, 0), (50, .iastore, 0, 0), (51, .iinc 2 1, 1, 0), (54, .goto (-28), 26, 0)], 57),
  (57, [(57, .aload_n 0, 0, 0), (58, .iconst 0, 0, 0), (59, .putfield 241, 2, 10), (62, .aload_n 0, 0, 0), (63, .invokevirtual 61, 151, 1), (66, .ireturn, 0, 0)], 67)]
theorem t_Mod_back : z_chkM 231 b_Mod_back = true := by decide +kernel
def b_Mod_puts4 : List BK := [(0, [(0, .bipush 24, 24, 0), (2, .istore_n 2, 0, 0)], 3),
  (3, [(3, .iload_n 2, 0, 0), (4, .ifCond .lt 32, 36, 0)], 7),
  (7, [(7, .aload_n 0, 0, 0), (8, .getfield 42, 20, 10), (11, .aload_n 0, 0, 0), (12, .getfield 244, 21, 10), (15, .iload_n 1, 0, 0), (16, .iload_n 2, 0, 0), (17, .ishr, 0, 0), (18, .i2b, 0, 0), (19, .bastore, 0, 0), (20, .aload_n 0, 0, 0), (21, .dup, 0, 0), (22, .getfield 244, 21, 10), (25, .iconst 1, 1, 0), (26, .iadd, 0, 0), (27, .putfield 244, 21, 10), (30, .iinc 2 (-8), 8, 1), (33, .goto (-30), 3, 0)], 36),
  (36, [(36, .return_, 0, 0)], 37)]
theorem t_Mod_puts4 : z_chkM 232 b_Mod_puts4 = true := by decide +kernel
def b_Mod_feed : List BK := [(0, [(0, .aload_n 0, 0, 0), (1, .getfield 244, 21, 10), (4, .sipush 380, 380, 0), (7, .if_icmp .le 5, 12, 0)], 10),
  (10, [(10, .iconst (-1), 1, 1), (11, .ireturn, 0, 0)], 12),
  (12, [(12, .aload_n 0, 0, 0), (13, .iload_n 1, 0, 0), (14, .invokevirtual 273, 232, 2), (17, .aload_n 0, 0, 0), (18, .iload_n 2, 0, 0), (19, .invokevirtual 273, 232, 2), (22, .aload_n 0, 0, 0), (23, .iload_n 3, 0, 0), (24, .invokevirtual 273, 232, 2), (27, .aload_n 0, 0, 0), (28, .iload 4, 0, 0), (30, .invokevirtual 273, 232, 2), (33, .aload_n 0, 0, 0), (34, .iload 5, 0, 0), (36, .invokevirtual 273, 232, 2), (39, .aload_n 0, 0, 0), (40, .getfield 244, 21, 10), (43, .ireturn, 0, 0)], 44)]
theorem t_Mod_feed : z_chkM 233 b_Mod_feed = true := by decide +kernel
def b_Mod_end : List BK := [(0, [(0, .iload_n 1, 0, 0), (1, .i2l, 0, 0), (2, .lconst 0, 0, 0), (3, .aload_n 0, 0, 0), (4, .getfield 244, 21, 10), (7, .i2l, 0, 0), (8, .invokestatic 57, 148, 3), (11, .ifCond .ne 5, 16, 0)], 14),
  (14, [(14, .iconst (-1), 1, 1), (15, .ireturn, 0, 0)], 16),
  (16, [(16, .aload_n 0, 0, 0), (17, .iload_n 1, 0, 0), (18, .putfield 244, 21, 10), (21, .iload_n 1, 0, 0), (22, .ireturn, 0, 0)], 23)]
theorem t_Mod_end : z_chkM 234 b_Mod_end = true := by decide +kernel
def b_Mod_byteAt : List BK := [(0, [(0, .iload_n 1, 0, 0), (1, .aload_n 0, 0, 0), (2, .getfield 244, 21, 10), (5, .if_icmp .ge 16, 21, 0)], 8),
  (8, [(8, .aload_n 0, 0, 0), (9, .getfield 42, 20, 10), (12, .iload_n 1, 0, 0), (13, .baload, 0, 0), (14, .sipush 255, 255, 0), (17, .iand, 0, 0), (18, .goto 4, 22, 0)], 21),
  (21, [(21, .iconst (-1), 1, 1)], 22),
  (22, [(22, .ireturn, 0, 0)], 23)]
theorem t_Mod_byteAt : z_chkM 235 b_Mod_byteAt = true := by decide +kernel
def b_Mod_nextByte : List BK := [(0, [(0, .aload_n 0, 0, 0), (1, .aload_n 0, 0, 0), (2, .getfield 276, 22, 10), (5, .invokevirtual 279, 235, 2), (8, .bipush 32, 32, 0), (10, .if_icmp .ne 16, 26, 0)], 13),
  (13, [(13, .aload_n 0, 0, 0), (14, .dup, 0, 0), (15, .getfield 276, 22, 10), (18, .iconst 1, 1, 0), (19, .iadd, 0, 0), (20, .putfield 276, 22, 10), (23, .goto (-23), 0, 0)], 26),
  (26, [(26, .aload_n 0, 0, 0), (27, .aload_n 0, 0, 0), (28, .getfield 276, 22, 10), (31, .invokevirtual 279, 235, 2), (34, .ireturn, 0, 0)], 35)]
theorem t_Mod_nextByte : z_chkM 236 b_Mod_nextByte = true := by decide +kernel
def b_Mod_fails : List BK := [(0, [(0, .aload_n 0, 0, 0), (1, .bipush 8, 8, 0), (3, .iload_n 2, 0, 0), (4, .imul, 0, 0), (5, .iload_n 1, 0, 0), (6, .iadd, 0, 0), (7, .putfield 282, 23, 10), (10, .iconst 0, 0, 0), (11, .ireturn, 0, 0)], 12)]
theorem t_Mod_fails : z_chkM 237 b_Mod_fails = true := by decide +kernel
def b_Mod_isWord : List BK := [(0, [(0, .aload_n 0, 0, 0), (1, .invokevirtual 285, 236, 1), (4, .iconst (-1), 1, 1), (5, .if_icmp .ne 10, 15, 0)], 8),
  (8, [(8, .aload_n 0, 0, 0), (9, .getfield 244, 21, 10), (12, .goto 7, 19, 0)], 15),
  (15, [(15, .aload_n 0, 0, 0), (16, .getfield 276, 22, 10)], 19),
  (19, [(19, .istore_n 2, 0, 0), (20, .iconst 0, 0, 0), (21, .istore_n 3, 0, 0)], 22),
  (22, [(22, .iload_n 3, 0, 0), (23, .aload_n 1, 0, 0), (24, .invokevirtual 288, 276, 1), (27, .if_icmp .ge 24, 51, 0)], 30),
  (30, [(30, .aload_n 0, 0, 0), (31, .iload_n 2, 0, 0), (32, .iload_n 3, 0, 0), (33, .iadd, 0, 0), (34, .invokevirtual 279, 235, 2), (37, .aload_n 1, 0, 0), (38, .iload_n 3, 0, 0), (39, .invokevirtual 293, 272, 2), (42, .if_icmp .ne 9, 51, 0)], 45),
  (45, [(45, .iinc 3 1, 1, 0), (48, .goto (-26), 22, 0)], 51),
  (51, [(51, .iload_n 3, 0, 0), (52, .aload_n 1, 0, 0), (53, .invokevirtual 288, 276, 1), (56, .if_icmp .ne 27, 83, 0)], 59),
  (59, [(59, .aload_n 0, 0, 0), (60, .iload_n 2, 0, 0), (61, .iload_n 3, 0, 0), (62, .iadd, 0, 0), (63, .invokevirtual 279, 235, 2), (66, .i2l, 0, 0), (67, .ldc2_w 297, 97, 2), (70, .ldc2_w 299, 122, 2), (73, .invokestatic 57, 148, 3), (76, .ifCond .ne 7, 83, 0)], 79),
  (79, [(79, .iconst 1, 1, 0), (80, .goto 4, 84, 0)], 83),
  (83, [(83, .iconst 0, 0, 0)], 84),
  (84, [(84, .ireturn, 0, 0)], 85)]
theorem t_Mod_isWord : z_chkM 238 b_Mod_isWord = true := by decide +kernel
def b_Mod_takes : List BK := [(0, [(0, .iload_n 2, 0, 0), (1, .ifCond .ne 13, 14, 0)], 4),
  (4, [(4, .aload_n 0, 0, 0), (5, .iconst 3, 3, 0), (6, .aload_n 0, 0, 0), (7, .getfield 276, 22, 10), (10, .invokevirtual 301, 237, 3), (13, .ireturn, 0, 0)], 14),
  (14, [(14, .aload_n 0, 0, 0), (15, .dup, 0, 0), (16, .getfield 276, 22, 10), (19, .aload_n 1, 0, 0), (20, .invokevirtual 288, 276, 1), (23, .iadd, 0, 0), (24, .putfield 276, 22, 10), (27, .iconst 1, 1, 0), (28, .ireturn, 0, 0)], 29)]
theorem t_Mod_takes : z_chkM 239 b_Mod_takes = true := by decide +kernel
def b_Mod_readsNumber : List BK := [(0, [(0, .aload_n 0, 0, 0), (1, .invokevirtual 285, 236, 1), (4, .i2l, 0, 0), (5, .ldc2_w 304, 48, 2), (8, .ldc2_w 306, 57, 2), (11, .invokestatic 57, 148, 3), (14, .ifCond .ne 13, 27, 0)], 17),
  (17, [(17, .aload_n 0, 0, 0), (18, .iconst 1, 1, 0), (19, .aload_n 0, 0, 0), (20, .getfield 276, 22, 10), (23, .invokevirtual 301, 237, 3), (26, .ireturn, 0, 0)], 27),
  (27, [(27, .aload_n 0, 0, 0), (28, .aload_n 0, 0, 0), (29, .getfield 276, 22, 10), (32, .putfield 308, 25, 10), (35, .aload_n 0, 0, 0), (36, .iconst 0, 0, 0), (37, .putfield 311, 24, 10)], 40),
  (40, [(40, .aload_n 0, 0, 0), (41, .aload_n 0, 0, 0), (42, .getfield 276, 22, 10), (45, .invokevirtual 279, 235, 2), (48, .i2l, 0, 0), (49, .ldc2_w 304, 48, 2), (52, .ldc2_w 306, 57, 2), (55, .invokestatic 57, 148, 3), (58, .ifCond .eq 49, 107, 0)], 61),
  (61, [(61, .aload_n 0, 0, 0), (62, .getfield 311, 24, 10), (65, .ldc_w 314, 100000, 1), (68, .if_icmp .ge 26, 94, 0)], 71),
  (71, [(71, .aload_n 0, 0, 0), (72, .bipush 10, 10, 0), (74, .aload_n 0, 0, 0), (75, .getfield 311, 24, 10), (78, .imul, 0, 0), (79, .aload_n 0, 0, 0), (80, .aload_n 0, 0, 0), (81, .getfield 276, 22, 10), (84, .invokevirtual 279, 235, 2), (87, .iadd, 0, 0), (88, .bipush 48, 48, 0), (90, .isub, 0, 0), (91, .putfield 311, 24, 10)], 94),
  (94, [(94, .aload_n 0, 0, 0), (95, .dup, 0, 0), (96, .getfield 276, 22, 10), (99, .iconst 1, 1, 0), (100, .iadd, 0, 0), (101, .putfield 276, 22, 10), (104, .goto (-64), 40, 0)], 107),
  (107, [(107, .aload_n 0, 0, 0), (108, .getfield 311, 24, 10), (111, .i2l, 0, 0), (112, .iload_n 1, 0, 0), (113, .i2l, 0, 0), (114, .iload_n 2, 0, 0), (115, .i2l, 0, 0), (116, .invokestatic 57, 148, 3), (119, .ifCond .ne 15, 134, 0)], 122),
  (122, [(122, .aload_n 0, 0, 0), (123, .iconst 2, 2, 0), (124, .aload_n 0, 0, 0), (125, .getfield 308, 25, 10), (128, .invokevirtual 301, 237, 3), (131, .ifCond .eq 7, 138, 0)], 134),
  (134, [(134, .iconst 1, 1, 0), (135, .goto 4, 139, 0)], 138),
  (138, [(138, .iconst 0, 0, 0)], 139),
  (139, [(139, .ireturn, 0, 0)], 140)]
theorem t_Mod_readsNumber : z_chkM 240 b_Mod_readsNumber = true := by decide +kernel
def b_Mod_readsTo : List BK := [(0, [(0, .aload_n 0, 0, 0), (1, .iload_n 2, 0, 0), (2, .iload_n 3, 0, 0), (3, .invokevirtual 315, 240, 3), (6, .ifCond .ne 5, 11, 0)], 9),
  (9, [(9, .iconst 0, 0, 0), (10, .ireturn, 0, 0)], 11),
  (11, [(11, .aload_n 0, 0, 0), (12, .getfield 46, 26, 10), (15, .iload_n 1, 0, 0), (16, .aload_n 0, 0, 0), (17, .getfield 311, 24, 10), (20, .iastore, 0, 0), (21, .iconst 1, 1, 0), (22, .ireturn, 0, 0)], 23)]
theorem t_Mod_readsTo : z_chkM 241 b_Mod_readsTo = true := by decide +kernel
def b_Mod_readsDays : List BK := [(0, [(0, .aload_n 0, 0, 0), (1, .iload_n 1, 0, 0), (2, .iconst 0, 0, 0), (3, .sipush 999, 999, 0), (6, .invokevirtual 318, 241, 4), (9, .ifCond .eq 26, 35, 0)], 12),
  (12, [(12, .aload_n 0, 0, 0), (13, .iload_n 1, 0, 0), (14, .iconst 1, 1, 0), (15, .iadd, 0, 0), (16, .aload_n 0, 0, 0), (17, .getfield 46, 26, 10), (20, .iload_n 1, 0, 0), (21, .iaload, 0, 0), (22, .sipush 999, 999, 0), (25, .invokevirtual 318, 241, 4), (28, .ifCond .eq 7, 35, 0)], 31),
  (31, [(31, .iconst 1, 1, 0), (32, .goto 4, 36, 0)], 35),
  (35, [(35, .iconst 0, 0, 0)], 36),
  (36, [(36, .ireturn, 0, 0)], 37)]
theorem t_Mod_readsDays : z_chkM 242 b_Mod_readsDays = true := by decide +kernel
def b_Mod_readsPost : List BK := [(0, [(0, .aload_n 0, 0, 0), (1, .getfield 46, 26, 10), (4, .iconst 0, 0, 0), (5, .iaload, 0, 0), (6, .istore_n 1, 0, 0), (7, .aload_n 0, 0, 0), (8, .ldc_w 322, 12, 0), (11, .iload_n 1, 0, 0), (12, .bipush 12, 12, 0), (14, .if_icmp .ge 7, 21, 0)], 17),
  (17, [(17, .iconst 1, 1, 0), (18, .goto 4, 22, 0)], 21),
  (21, [(21, .iconst 0, 0, 0)], 22),
  (22, [(22, .invokevirtual 324, 239, 3), (25, .ifCond .ne 5, 30, 0)], 28),
  (28, [(28, .iconst 0, 0, 0), (29, .ireturn, 0, 0)], 30),
  (30, [(30, .bipush 9, 9, 0), (32, .iconst 4, 4, 0), (33, .iload_n 1, 0, 0), (34, .imul, 0, 0), (35, .iadd, 0, 0), (36, .istore_n 2, 0, 0), (37, .aload_n 0, 0, 0), (38, .getfield 46, 26, 10), (41, .iload_n 2, 0, 0), (42, .iconst (-1), 1, 1), (43, .iastore, 0, 0), (44, .aload_n 0, 0, 0), (45, .ldc_w 328, 14, 0), (48, .invokevirtual 330, 238, 2), (51, .ifCond .eq 16, 67, 0)], 54),
  (54, [(54, .aload_n 0, 0, 0), (55, .dup, 0, 0), (56, .getfield 276, 22, 10), (59, .iconst 3, 3, 0), (60, .iadd, 0, 0), (61, .putfield 276, 22, 10), (64, .goto 17, 81, 0)], 67),
  (67, [(67, .aload_n 0, 0, 0), (68, .iload_n 2, 0, 0), (69, .iconst 0, 0, 0), (70, .iload_n 1, 0, 0), (71, .iconst 1, 1, 0), (72, .isub, 0, 0), (73, .invokevirtual 318, 241, 4), (76, .ifCond .ne 5, 81, 0)], 79),
  (79, [(79, .iconst 0, 0, 0), (80, .ireturn, 0, 0)], 81),
  (81, [(81, .iconst 0, 0, 0), (82, .istore_n 3, 0, 0)], 83),
  (83, [(83, .iload_n 3, 0, 0), (84, .iconst 3, 3, 0), (85, .if_icmp .ge 27, 112, 0)], 88),
  (88, [(88, .aload_n 0, 0, 0), (89, .iload_n 2, 0, 0), (90, .iconst 1, 1, 0), (91, .iadd, 0, 0), (92, .iload_n 3, 0, 0), (93, .iadd, 0, 0), (94, .iconst 0, 0, 0), (95, .sipush 9999, 9999, 0), (98, .invokevirtual 318, 241, 4), (101, .ifCond .ne 5, 106, 0)], 104),
  (104, [(104, .iconst 0, 0, 0), (105, .ireturn, 0, 0)], 106),
  (106, [(106, .iinc 3 1, 1, 0), (109, .goto (-26), 83, 0)], 112),
  (112, [(112, .aload_n 0, 0, 0), (113, .getfield 46, 26, 10), (116, .iconst 0, 0, 0), (117, .dup2, 0, 0), (118, .iaload, 0, 0), (119, .iconst 1, 1, 0), (120, .iadd, 0, 0), (121, .iastore, 0, 0), (122, .iconst 1, 1, 0), (123, .ireturn, 0, 0)], 124)]
theorem t_Mod_readsPost : z_chkM 243 b_Mod_readsPost = true := by decide +kernel
def b_Mod_readsHold : List BK := [(0, [(0, .aload_n 0, 0, 0), (1, .iload_n 1, 0, 0), (2, .iconst 0, 0, 0), (3, .aload_n 0, 0, 0), (4, .getfield 46, 26, 10), (7, .iconst 0, 0, 0), (8, .iaload, 0, 0), (9, .iconst 1, 1, 0), (10, .isub, 0, 0), (11, .invokevirtual 318, 241, 4), (14, .ifCond .eq 30, 44, 0)], 17),
  (17, [(17, .aload_n 0, 0, 0), (18, .iload_n 1, 0, 0), (19, .iconst 1, 1, 0), (20, .iadd, 0, 0), (21, .iconst 0, 0, 0), (22, .bipush 15, 15, 0), (24, .invokevirtual 318, 241, 4), (27, .ifCond .eq 17, 44, 0)], 30),
  (30, [(30, .aload_n 0, 0, 0), (31, .iload_n 1, 0, 0), (32, .iconst 2, 2, 0), (33, .iadd, 0, 0), (34, .invokevirtual 334, 242, 2), (37, .ifCond .eq 7, 44, 0)], 40),
  (40, [(40, .iconst 1, 1, 0), (41, .goto 4, 45, 0)], 44),
  (44, [(44, .iconst 0, 0, 0)], 45),
  (45, [(45, .ireturn, 0, 0)], 46)]
theorem t_Mod_readsHold : z_chkM 244 b_Mod_readsHold = true := by decide +kernel
def b_Mod_readsStand : List BK := [(0, [(0, .aload_n 0, 0, 0), (1, .iload_n 1, 0, 0), (2, .iconst 0, 0, 0), (3, .bipush 15, 15, 0), (5, .invokevirtual 318, 241, 4), (8, .ifCond .eq 16, 24, 0)], 11),
  (11, [(11, .aload_n 0, 0, 0), (12, .iload_n 1, 0, 0), (13, .iconst 1, 1, 0), (14, .iadd, 0, 0), (15, .iconst 0, 0, 0), (16, .bipush 15, 15, 0), (18, .invokevirtual 318, 241, 4), (21, .ifCond .ne 5, 26, 0)], 24),
  (24, [(24, .iconst 0, 0, 0), (25, .ireturn, 0, 0)], 26),
  (26, [(26, .aload_n 0, 0, 0), (27, .getfield 46, 26, 10), (30, .iload_n 1, 0, 0), (31, .iaload, 0, 0), (32, .aload_n 0, 0, 0), (33, .getfield 46, 26, 10), (36, .iload_n 1, 0, 0), (37, .iconst 1, 1, 0), (38, .iadd, 0, 0), (39, .iaload, 0, 0), (40, .if_icmp .ne 13, 53, 0)], 43),
  (43, [(43, .aload_n 0, 0, 0), (44, .iconst 2, 2, 0), (45, .aload_n 0, 0, 0), (46, .getfield 308, 25, 10), (49, .invokevirtual 301, 237, 3), (52, .ireturn, 0, 0)], 53),
  (53, [(53, .aload_n 0, 0, 0), (54, .iload_n 1, 0, 0), (55, .iconst 2, 2, 0), (56, .iadd, 0, 0), (57, .invokevirtual 334, 242, 2), (60, .ifCond .eq 21, 81, 0)], 63),
  (63, [(63, .aload_n 0, 0, 0), (64, .iload_n 1, 0, 0), (65, .iconst 4, 4, 0), (66, .iadd, 0, 0), (67, .iconst 0, 0, 0), (68, .sipush 9999, 9999, 0), (71, .invokevirtual 318, 241, 4), (74, .ifCond .eq 7, 81, 0)], 77),
  (77, [(77, .iconst 1, 1, 0), (78, .goto 4, 82, 0)], 81),
  (81, [(81, .iconst 0, 0, 0)], 82),
  (82, [(82, .ireturn, 0, 0)], 83)]
theorem t_Mod_readsStand : z_chkM 245 b_Mod_readsStand = true := by decide +kernel
def b_Mod_entryWord : List BK := [(0, [(0, .iload_n 0, 0, 0), (1, .tableswitch 39 0 2 #[27, 31, 35], 0, 0)], 28),
  (28, [(28, .ldc_w 337, 5, 0), (31, .areturn, 0, 0)], 32),
  (32, [(32, .ldc_w 339, 2, 0), (35, .areturn, 0, 0)], 36),
  (36, [(36, .ldc_w 341, 13, 0), (39, .areturn, 0, 0)], 40),
  (40, [(40, .ldc_w 343, 4, 0), (43, .areturn, 0, 0)], 44)]
theorem t_Mod_entryWord : z_chkM 246 b_Mod_entryWord = true := by decide +kernel
def b_Mod_readsEntry : List BK := [(0, [(0, .aload_n 0, 0, 0), (1, .getfield 46, 26, 10), (4, .iconst 1, 1, 0), (5, .iload_n 1, 0, 0), (6, .iadd, 0, 0), (7, .iaload, 0, 0), (8, .istore_n 2, 0, 0), (9, .aload_n 0, 0, 0), (10, .iload_n 1, 0, 0), (11, .invokestatic 345, 246, 1), (14, .iload_n 2, 0, 0), (15, .iload_n 1, 0, 0), (16, .invokestatic 259, 218, 1), (19, .if_icmp .ge 7, 26, 0)], 22),
  (22, [(22, .iconst 1, 1, 0), (23, .goto 4, 27, 0)], 26),
  (26, [(26, .iconst 0, 0, 0)], 27),
  (27, [(27, .invokevirtual 324, 239, 3), (30, .ifCond .ne 5, 35, 0)], 33),
  (33, [(33, .iconst 0, 0, 0), (34, .ireturn, 0, 0)], 35),
  (35, [(35, .iload_n 1, 0, 0), (36, .invokestatic 72, 161, 1), (39, .iload_n 1, 0, 0), (40, .invokestatic 76, 160, 1), (43, .iload_n 2, 0, 0), (44, .imul, 0, 0), (45, .iadd, 0, 0), (46, .istore_n 3, 0, 0), (47, .iconst 0, 0, 0), (48, .istore 4, 0, 0), (50, .iload_n 1, 0, 0), (51, .ifCond .ne 13, 64, 0)], 54),
  (54, [(54, .aload_n 0, 0, 0), (55, .iload_n 3, 0, 0), (56, .invokevirtual 349, 244, 2), (59, .istore 4, 0, 0), (61, .goto 85, 146, 0)], 64),
  (64, [(64, .iload_n 1, 0, 0), (65, .iconst 1, 1, 0), (66, .if_icmp .ne 34, 100, 0)], 69),
  (69, [(69, .aload_n 0, 0, 0), (70, .iload_n 3, 0, 0), (71, .iconst 0, 0, 0), (72, .bipush 15, 15, 0), (74, .invokevirtual 318, 241, 4), (77, .ifCond .eq 17, 94, 0)], 80),
  (80, [(80, .aload_n 0, 0, 0), (81, .iload_n 3, 0, 0), (82, .iconst 1, 1, 0), (83, .iadd, 0, 0), (84, .invokevirtual 334, 242, 2), (87, .ifCond .eq 7, 94, 0)], 90),
  (90, [(90, .iconst 1, 1, 0), (91, .goto 4, 95, 0)], 94),
  (94, [(94, .iconst 0, 0, 0)], 95),
  (95, [(95, .istore 4, 0, 0), (97, .goto 49, 146, 0)], 100),
  (100, [(100, .iload_n 1, 0, 0), (101, .iconst 2, 2, 0), (102, .if_icmp .ne 13, 115, 0)], 105),
  (105, [(105, .aload_n 0, 0, 0), (106, .iload_n 3, 0, 0), (107, .invokevirtual 352, 245, 2), (110, .istore 4, 0, 0), (112, .goto 34, 146, 0)], 115),
  (115, [(115, .aload_n 0, 0, 0), (116, .iload_n 3, 0, 0), (117, .iconst 0, 0, 0), (118, .bipush 15, 15, 0), (120, .invokevirtual 318, 241, 4), (123, .ifCond .eq 20, 143, 0)], 126),
  (126, [(126, .aload_n 0, 0, 0), (127, .iload_n 3, 0, 0), (128, .iconst 1, 1, 0), (129, .iadd, 0, 0), (130, .iconst 0, 0, 0), (131, .bipush 9, 9, 0), (133, .invokevirtual 318, 241, 4), (136, .ifCond .eq 7, 143, 0)], 139),
  (139, [(139, .iconst 1, 1, 0), (140, .goto 4, 144, 0)], 143),
  (143, [(143, .iconst 0, 0, 0)], 144),
  (144, [(144, .istore 4, 0, 0)], 146),
  (146, [(146, .iload 4, 0, 0), (148, .ifCond .eq 15, 163, 0)], 151),
  (151, [(151, .aload_n 0, 0, 0), (152, .getfield 46, 26, 10), (155, .iconst 1, 1, 0), (156, .iload_n 1, 0, 0), (157, .iadd, 0, 0), (158, .dup2, 0, 0), (159, .iaload, 0, 0), (160, .iconst 1, 1, 0), (161, .iadd, 0, 0), (162, .iastore, 0, 0)], 163),
  (163, [(163, .iload 4, 0, 0), (165, .ireturn, 0, 0)], 166)]
theorem t_Mod_readsEntry : z_chkM 247 b_Mod_readsEntry = true := by decide +kernel
def b_Mod_setWord : List BK := [(0, [(0, .iload_n 0, 0, 0), (1, .ifCond .ne 9, 10, 0)], 4),
  (4, [(4, .ldc_w 355, 18, 0), (7, .goto 17, 24, 0)], 10),
  (10, [(10, .iload_n 0, 0, 0), (11, .iconst 1, 1, 0), (12, .if_icmp .ne 9, 21, 0)], 15),
  (15, [(15, .ldc_w 357, 10, 0), (18, .goto 6, 24, 0)], 21),
  (21, [(21, .ldc_w 359, 17, 0)], 24),
  (24, [(24, .areturn, 0, 0)], 25)]
theorem t_Mod_setWord : z_chkM 248 b_Mod_setWord = true := by decide +kernel
def b_Mod_readsSet : List BK := [(0, [(0, .aload_n 0, 0, 0), (1, .iload_n 1, 0, 0), (2, .invokestatic 361, 248, 1), (5, .aload_n 0, 0, 0), (6, .getfield 364, 27, 10), (9, .iload_n 1, 0, 0), (10, .invokestatic 111, 149, 2), (13, .ifCond .ne 7, 20, 0)], 16),
  (16, [(16, .iconst 1, 1, 0), (17, .goto 4, 21, 0)], 20),
  (20, [(20, .iconst 0, 0, 0)], 21),
  (21, [(21, .invokevirtual 324, 239, 3), (24, .ifCond .ne 5, 29, 0)], 27),
  (27, [(27, .iconst 0, 0, 0), (28, .ireturn, 0, 0)], 29),
  (29, [(29, .aload_n 0, 0, 0), (30, .dup, 0, 0), (31, .getfield 364, 27, 10), (34, .iconst 1, 1, 0), (35, .iload_n 1, 0, 0), (36, .ishl, 0, 0), (37, .ior, 0, 0), (38, .putfield 364, 27, 10), (41, .aload_n 0, 0, 0), (42, .iconst 5, 5, 0), (43, .iload_n 1, 0, 0), (44, .iadd, 0, 0), (45, .iconst 0, 0, 0), (46, .iload_n 1, 0, 0), (47, .invokestatic 270, 227, 1), (50, .invokevirtual 318, 241, 4), (53, .ireturn, 0, 0)], 54)]
theorem t_Mod_readsSet : z_chkM 249 b_Mod_readsSet = true := by decide +kernel
def b_Mod_readsPart : List BK := [(0, [(0, .aload_n 0, 0, 0), (1, .ldc_w 322, 12, 0), (4, .invokevirtual 330, 238, 2), (7, .ifCond .eq 8, 15, 0)], 10),
  (10, [(10, .aload_n 0, 0, 0), (11, .invokevirtual 367, 243, 1), (14, .ireturn, 0, 0)], 15),
  (15, [(15, .iconst 0, 0, 0), (16, .istore_n 1, 0, 0)], 17),
  (17, [(17, .iload_n 1, 0, 0), (18, .iconst 4, 4, 0), (19, .if_icmp .ge 26, 45, 0)], 22),
  (22, [(22, .aload_n 0, 0, 0), (23, .iload_n 1, 0, 0), (24, .invokestatic 345, 246, 1), (27, .invokevirtual 330, 238, 2), (30, .ifCond .eq 9, 39, 0)], 33),
  (33, [(33, .aload_n 0, 0, 0), (34, .iload_n 1, 0, 0), (35, .invokevirtual 371, 247, 2), (38, .ireturn, 0, 0)], 39),
  (39, [(39, .iinc 1 1, 1, 0), (42, .goto (-25), 17, 0)], 45),
  (45, [(45, .iconst 0, 0, 0), (46, .istore_n 1, 0, 0)], 47),
  (47, [(47, .iload_n 1, 0, 0), (48, .iconst 3, 3, 0), (49, .if_icmp .ge 26, 75, 0)], 52),
  (52, [(52, .aload_n 0, 0, 0), (53, .iload_n 1, 0, 0), (54, .invokestatic 361, 248, 1), (57, .invokevirtual 330, 238, 2), (60, .ifCond .eq 9, 69, 0)], 63),
  (63, [(63, .aload_n 0, 0, 0), (64, .iload_n 1, 0, 0), (65, .invokevirtual 374, 249, 2), (68, .ireturn, 0, 0)], 69),
  (69, [(69, .iinc 1 1, 1, 0), (72, .goto (-25), 47, 0)], 75),
  (75, [(75, .aload_n 0, 0, 0), (76, .iconst 1, 1, 0), (77, .aload_n 0, 0, 0), (78, .getfield 276, 22, 10), (81, .invokevirtual 301, 237, 3), (84, .ireturn, 0, 0)], 85)]
theorem t_Mod_readsPart : z_chkM 250 b_Mod_readsPart = true := by decide +kernel
def b_Mod_readsAll : List BK := [(0, [(0, .aload_n 0, 0, 0), (1, .getfield 46, 26, 10), (4, .invokestatic 49, 147, 1), (7, .aload_n 0, 0, 0), (8, .iconst 0, 0, 0), (9, .putfield 276, 22, 10), (12, .aload_n 0, 0, 0), (13, .iconst 0, 0, 0), (14, .putfield 364, 27, 10), (17, .aload_n 0, 0, 0), (18, .invokevirtual 285, 236, 1), (21, .iconst (-1), 1, 1), (22, .if_icmp .ne 5, 27, 0)], 25),
  (25, [(25, .iconst 1, 1, 0), (26, .ireturn, 0, 0)], 27),
  (27, [(27, .aload_n 0, 0, 0), (28, .invokevirtual 377, 250, 1), (31, .istore_n 1, 0, 0)], 32),
  (32, [(32, .iload_n 1, 0, 0), (33, .ifCond .eq 30, 63, 0)], 36),
  (36, [(36, .aload_n 0, 0, 0), (37, .invokevirtual 285, 236, 1), (40, .bipush 59, 59, 0), (42, .if_icmp .ne 21, 63, 0)], 45),
  (45, [(45, .aload_n 0, 0, 0), (46, .dup, 0, 0), (47, .getfield 276, 22, 10), (50, .iconst 1, 1, 0), (51, .iadd, 0, 0), (52, .putfield 276, 22, 10), (55, .aload_n 0, 0, 0), (56, .invokevirtual 377, 250, 1), (59, .istore_n 1, 0, 0), (60, .goto (-28), 32, 0)], 63),
  (63, [(63, .iload_n 1, 0, 0), (64, .ifCond .eq 27, 91, 0)], 67),
  (67, [(67, .aload_n 0, 0, 0), (68, .invokevirtual 285, 236, 1), (71, .iconst (-1), 1, 1), (72, .if_icmp .eq 15, 87, 0)], 75),
  (75, [(75, .aload_n 0, 0, 0), (76, .iconst 1, 1, 0), (77, .aload_n 0, 0, 0), (78, .getfield 276, 22, 10), (81, .invokevirtual 301, 237, 3), (84, .ifCond .eq 7, 91, 0)], 87),
  (87, [(87, .iconst 1, 1, 0), (88, .goto 4, 92, 0)], 91),
  (91, [(91, .iconst 0, 0, 0)], 92),
  (92, [(92, .ireturn, 0, 0)], 93)]
theorem t_Mod_readsAll : z_chkM 251 b_Mod_readsAll = true := by decide +kernel
def b_Mod_tell : List BK := [(0, [(0, .aload_n 0, 0, 0), (1, .invokevirtual 380, 251, 1), (4, .istore_n 1, 0, 0), (5, .aload_n 0, 0, 0), (6, .iconst 0, 0, 0), (7, .putfield 244, 21, 10), (10, .iload_n 1, 0, 0), (11, .ifCond .ne 11, 22, 0)], 14),
  (14, [(14, .bipush (-2), 2, 1), (16, .aload_n 0, 0, 0), (17, .getfield 282, 23, 10), (20, .isub, 0, 0), (21, .ireturn, 0, 0)], 22),
  (22, [(22, .iconst 0, 0, 0), (23, .istore_n 2, 0, 0)], 24),
  (24, [(24, .iload_n 2, 0, 0), (25, .sipush 657, 657, 0), (28, .if_icmp .ge 21, 49, 0)], 31),
  (31, [(31, .aload_n 0, 0, 0), (32, .getfield 7, 0, 10), (35, .iload_n 2, 0, 0), (36, .aload_n 0, 0, 0), (37, .getfield 46, 26, 10), (40, .iload_n 2, 0, 0), (41, .iaload, 0, 0), (42, .iastore, 0, 0), (43, .iinc 2 1, 1, 0), (46, .goto (-22), 24, 0)], 49),
  (49, [(49, .aload_n 0, 0, 0), (50, .iconst 0, 0, 0), (51, .putfield 241, 2, 10), (54, .aload_n 0, 0, 0), (55, .invokevirtual 53, 150, 1), (58, .ireturn, 0, 0)], 59)]
theorem t_Mod_tell : z_chkM 252 b_Mod_tell = true := by decide +kernel
def b_Mod_soonest : List BK := [(0, [(0, .aload_n 0, 0, 0), (1, .iload_n 1, 0, 0), (2, .invokevirtual 186, 153, 2), (5, .ifCond .eq 30, 35, 0)], 8),
  (8, [(8, .iload_n 2, 0, 0), (9, .iload_n 3, 0, 0), (10, .invokestatic 229, 156, 2), (13, .ifCond .eq 22, 35, 0)], 16),
  (16, [(16, .iload_n 3, 0, 0), (17, .iload_n 2, 0, 0), (18, .bipush 60, 60, 0), (20, .iadd, 0, 0), (21, .if_icmp .gt 14, 35, 0)], 24),
  (24, [(24, .iload 4, 0, 0), (26, .i2l, 0, 0), (27, .lconst 0, 0, 0), (28, .lconst 1, 0, 0), (29, .invokestatic 57, 148, 3), (32, .ifCond .ne 5, 37, 0)], 35),
  (35, [(35, .iconst (-1), 1, 1), (36, .ireturn, 0, 0)], 37),
  (37, [(37, .sipush 377, 377, 0), (40, .bipush 7, 7, 0), (42, .iload_n 1, 0, 0), (43, .imul, 0, 0), (44, .iadd, 0, 0), (45, .iconst 5, 5, 0), (46, .iadd, 0, 0), (47, .istore 5, 0, 0), (49, .aload_n 0, 0, 0), (50, .getfield 7, 0, 10), (53, .iload 5, 0, 0), (55, .iaload, 0, 0), (56, .istore 6, 0, 0), (58, .bipush (-2), 2, 1), (60, .istore 7, 0, 0), (62, .bipush (-2), 2, 1), (64, .istore 8, 0, 0), (66, .iload_n 2, 0, 0), (67, .istore 9, 0, 0)], 69),
  (69, [(69, .iload 9, 0, 0), (71, .iload_n 3, 0, 0), (72, .if_icmp .gt 61, 133, 0)], 75),
  (75, [(75, .aload_n 0, 0, 0), (76, .getfield 7, 0, 10), (79, .iload 5, 0, 0), (81, .iload 9, 0, 0), (83, .iastore, 0, 0), (84, .aload_n 0, 0, 0), (85, .iload_n 1, 0, 0), (86, .invokevirtual 195, 178, 2), (89, .aload_n 0, 0, 0), (90, .getfield 147, 18, 10), (93, .ifCond .eq 34, 127, 0)], 96),
  (96, [(96, .iload 7, 0, 0), (98, .bipush (-2), 2, 1), (100, .if_icmp .eq 16, 116, 0)], 103),
  (103, [(103, .aload_n 0, 0, 0), (104, .iconst 1, 1, 0), (105, .invokevirtual 201, 179, 2), (108, .iload 8, 0, 0), (110, .if_icmp .lt 6, 116, 0)], 113),
  (113, [(113, .goto 14, 127, 0)], 116),
  (116, [(116, .iload 9, 0, 0), (118, .istore 7, 0, 0), (120, .aload_n 0, 0, 0), (121, .iconst 1, 1, 0), (122, .invokevirtual 201, 179, 2), (125, .istore 8, 0, 0)], 127),
  (127, [(127, .iinc 9 1, 1, 0), (130, .goto (-61), 69, 0)], 133),
  (133, [(133, .aload_n 0, 0, 0), (134, .getfield 7, 0, 10), (137, .iload 5, 0, 0), (139, .iload 6, 0, 0), (141, .iastore, 0, 0), (142, .iload 4, 0, 0), (144, .ifCond .ne 8, 152, 0)], 147),
  (147, [(147, .iload 7, 0, 0), (149, .goto 5, 154, 0)], 152),
  (152, [(152, .iload 8, 0, 0)], 154),
  (154, [(154, .ireturn, 0, 0)], 155)]
theorem t_Mod_soonest : z_chkM 253 b_Mod_soonest = true := by decide +kernel
def b_Mod_instead : List BK := [(0, [(0, .aload_n 0, 0, 0), (1, .iload_n 1, 0, 0), (2, .invokevirtual 186, 153, 2), (5, .ifCond .eq 23, 28, 0)], 8),
  (8, [(8, .aload_n 0, 0, 0), (9, .iload_n 2, 0, 0), (10, .invokevirtual 172, 152, 2), (13, .ifCond .eq 15, 28, 0)], 16),
  (16, [(16, .iload_n 3, 0, 0), (17, .i2l, 0, 0), (18, .lconst 0, 0, 0), (19, .ldc2_w 218, 2, 2), (22, .invokestatic 57, 148, 3), (25, .ifCond .ne 5, 30, 0)], 28),
  (28, [(28, .iconst (-1), 1, 1), (29, .ireturn, 0, 0)], 30),
  (30, [(30, .sipush 377, 377, 0), (33, .bipush 7, 7, 0), (35, .iload_n 1, 0, 0), (36, .imul, 0, 0), (37, .iadd, 0, 0), (38, .iconst 1, 1, 0), (39, .iadd, 0, 0), (40, .istore 4, 0, 0), (42, .aload_n 0, 0, 0), (43, .getfield 7, 0, 10), (46, .iload 4, 0, 0), (48, .iaload, 0, 0), (49, .istore 5, 0, 0), (51, .aload_n 0, 0, 0), (52, .getfield 7, 0, 10), (55, .iload 4, 0, 0), (57, .iload_n 2, 0, 0), (58, .iastore, 0, 0), (59, .aload_n 0, 0, 0), (60, .iload_n 1, 0, 0), (61, .invokevirtual 195, 178, 2), (64, .aload_n 0, 0, 0), (65, .getfield 7, 0, 10), (68, .iload 4, 0, 0), (70, .iload 5, 0, 0), (72, .iastore, 0, 0), (73, .aload_n 0, 0, 0), (74, .iload_n 3, 0, 0), (75, .invokevirtual 207, 191, 2), (78, .ireturn, 0, 0)], 79)]
theorem t_Mod_instead : z_chkM 254 b_Mod_instead = true := by decide +kernel
def b_Mod_isApprovedNow : List BK := [(0, [(0, .aload_n 0, 0, 0), (1, .iload_n 1, 0, 0), (2, .invokevirtual 195, 178, 2), (5, .aload_n 0, 0, 0), (6, .getfield 147, 18, 10), (9, .ireturn, 0, 0)], 10)]
theorem t_Mod_isApprovedNow : z_chkM 255 b_Mod_isApprovedNow = true := by decide +kernel
def b_Mod_fallsBy : List BK := [(0, [(0, .iconst 0, 0, 0), (1, .istore_n 2, 0, 0), (2, .iconst 0, 0, 0), (3, .istore_n 3, 0, 0)], 4),
  (4, [(4, .iload_n 3, 0, 0), (5, .aload_n 0, 0, 0), (6, .invokevirtual 61, 151, 1), (9, .if_icmp .ge 54, 63, 0)], 12),
  (12, [(12, .aload_n 0, 0, 0), (13, .iload_n 3, 0, 0), (14, .invokevirtual 204, 180, 2), (17, .ifCond .ne 40, 57, 0)], 20),
  (20, [(20, .aload_n 0, 0, 0), (21, .iload_n 3, 0, 0), (22, .invokevirtual 383, 255, 2), (25, .ifCond .ne 6, 31, 0)], 28),
  (28, [(28, .goto 29, 57, 0)], 31),
  (31, [(31, .aload_n 0, 0, 0), (32, .iload_n 1, 0, 0), (33, .putfield 23, 5, 10), (36, .iload_n 2, 0, 0), (37, .aload_n 0, 0, 0), (38, .iload_n 3, 0, 0), (39, .invokevirtual 383, 255, 2), (42, .ifCond .eq 7, 49, 0)], 45),
  (45, [(45, .iconst 0, 0, 0), (46, .goto 4, 50, 0)], 49),
  (49, [(49, .iconst 1, 1, 0)], 50),
  (50, [(50, .iadd, 0, 0), (51, .istore_n 2, 0, 0), (52, .aload_n 0, 0, 0), (53, .iconst (-1), 1, 1), (54, .putfield 23, 5, 10)], 57),
  (57, [(57, .iinc 3 1, 1, 0), (60, .goto (-56), 4, 0)], 63),
  (63, [(63, .iload_n 2, 0, 0), (64, .ireturn, 0, 0)], 65)]
theorem t_Mod_fallsBy : z_chkM 256 b_Mod_fallsBy = true := by decide +kernel
def b_Mod_pillar : List BK := [(0, [(0, .iload_n 1, 0, 0), (1, .i2l, 0, 0), (2, .lconst 0, 0, 0), (3, .lconst 1, 0, 0), (4, .invokestatic 57, 148, 3), (7, .ifCond .ne 5, 12, 0)], 10),
  (10, [(10, .iconst (-1), 1, 1), (11, .ireturn, 0, 0)], 12),
  (12, [(12, .bipush (-2), 2, 1), (14, .istore_n 2, 0, 0), (15, .iconst 0, 0, 0), (16, .istore_n 3, 0, 0), (17, .iconst 0, 0, 0), (18, .istore 4, 0, 0)], 20),
  (20, [(20, .iload 4, 0, 0), (22, .bipush 16, 16, 0), (24, .if_icmp .ge 32, 56, 0)], 27),
  (27, [(27, .aload_n 0, 0, 0), (28, .iload 4, 0, 0), (30, .invokevirtual 386, 256, 2), (33, .istore 5, 0, 0), (35, .iload 5, 0, 0), (37, .iload_n 3, 0, 0), (38, .if_icmp .gt 6, 44, 0)], 41),
  (41, [(41, .goto 9, 50, 0)], 44),
  (44, [(44, .iload 4, 0, 0), (46, .istore_n 2, 0, 0), (47, .iload 5, 0, 0), (49, .istore_n 3, 0, 0)], 50),
  (50, [(50, .iinc 4 1, 1, 0), (53, .goto (-33), 20, 0)], 56),
  (56, [(56, .iload_n 1, 0, 0), (57, .ifCond .eq 9, 66, 0)], 60),
  (60, [(60, .iload_n 2, 0, 0), (61, .bipush (-2), 2, 1), (63, .if_icmp .ne 7, 70, 0)], 66),
  (66, [(66, .iload_n 2, 0, 0), (67, .goto 4, 71, 0)], 70),
  (70, [(70, .iload_n 3, 0, 0)], 71),
  (71, [(71, .ireturn, 0, 0)], 72)]
theorem t_Mod_pillar : z_chkM 257 b_Mod_pillar = true := by decide +kernel
def b_Mod_gap : List BK := [(0, [(0, .aload_n 0, 0, 0), (1, .iload_n 1, 0, 0), (2, .invokevirtual 172, 152, 2), (5, .ifCond .eq 24, 29, 0)], 8),
  (8, [(8, .iload_n 2, 0, 0), (9, .iload_n 3, 0, 0), (10, .invokestatic 229, 156, 2), (13, .ifCond .eq 16, 29, 0)], 16),
  (16, [(16, .iload 4, 0, 0), (18, .i2l, 0, 0), (19, .lconst 0, 0, 0), (20, .ldc2_w 218, 2, 2), (23, .invokestatic 57, 148, 3), (26, .ifCond .ne 5, 31, 0)], 29),
  (29, [(29, .iconst (-1), 1, 1), (30, .ireturn, 0, 0)], 31),
  (31, [(31, .aload_n 0, 0, 0), (32, .iconst (-1), 1, 1), (33, .iconst (-1), 1, 1), (34, .invokevirtual 155, 169, 3), (37, .iconst 0, 0, 0), (38, .istore 5, 0, 0), (40, .bipush (-2), 2, 1), (42, .istore 6, 0, 0), (44, .iconst 0, 0, 0), (45, .istore 7, 0, 0), (47, .iconst 0, 0, 0), (48, .istore 8, 0, 0), (50, .iload_n 2, 0, 0), (51, .istore 9, 0, 0)], 53),
  (53, [(53, .iload 9, 0, 0), (55, .iload_n 3, 0, 0), (56, .if_icmp .gt 71, 127, 0)], 59),
  (59, [(59, .aload_n 0, 0, 0), (60, .iload_n 1, 0, 0), (61, .iload 9, 0, 0), (63, .invokevirtual 232, 207, 3), (66, .ifCond .eq 7, 73, 0)], 69),
  (69, [(69, .iconst 0, 0, 0), (70, .goto 7, 77, 0)], 73),
  (73, [(73, .iload 7, 0, 0), (75, .iconst 1, 1, 0), (76, .iadd, 0, 0)], 77),
  (77, [(77, .istore 7, 0, 0), (79, .iload 5, 0, 0), (81, .iload 7, 0, 0), (83, .ifCond .le 7, 90, 0)], 86),
  (86, [(86, .iconst 1, 1, 0), (87, .goto 4, 91, 0)], 90),
  (90, [(90, .iconst 0, 0, 0)], 91),
  (91, [(91, .iadd, 0, 0), (92, .istore 5, 0, 0), (94, .iload 7, 0, 0), (96, .ifCond .le 14, 110, 0)], 99),
  (99, [(99, .iload 6, 0, 0), (101, .bipush (-2), 2, 1), (103, .if_icmp .ne 7, 110, 0)], 106),
  (106, [(106, .iload 9, 0, 0), (108, .istore 6, 0, 0)], 110),
  (110, [(110, .iload 7, 0, 0), (112, .iload 8, 0, 0), (114, .if_icmp .le 7, 121, 0)], 117),
  (117, [(117, .iload 7, 0, 0), (119, .istore 8, 0, 0)], 121),
  (121, [(121, .iinc 9 1, 1, 0), (124, .goto (-71), 53, 0)], 127),
  (127, [(127, .iload 4, 0, 0), (129, .ifCond .ne 8, 137, 0)], 132),
  (132, [(132, .iload 5, 0, 0), (134, .goto 16, 150, 0)], 137),
  (137, [(137, .iload 4, 0, 0), (139, .iconst 1, 1, 0), (140, .if_icmp .ne 8, 148, 0)], 143),
  (143, [(143, .iload 6, 0, 0), (145, .goto 5, 150, 0)], 148),
  (148, [(148, .iload 8, 0, 0)], 150),
  (150, [(150, .ireturn, 0, 0)], 151)]
theorem t_Mod_gap : z_chkM 258 b_Mod_gap = true := by decide +kernel
def b_Mod_isDodged : List BK := [(0, [(0, .iload 5, 0, 0), (2, .istore 6, 0, 0), (4, .iconst 0, 0, 0), (5, .istore 7, 0, 0)], 7),
  (7, [(7, .iload 7, 0, 0), (9, .iload 4, 0, 0), (11, .if_icmp .ge 80, 91, 0)], 14),
  (14, [(14, .iload 6, 0, 0), (16, .sipush 999, 999, 0), (19, .if_icmp .le 5, 24, 0)], 22),
  (22, [(22, .iconst 0, 0, 0), (23, .ireturn, 0, 0)], 24),
  (24, [(24, .aload_n 0, 0, 0), (25, .iconst 0, 0, 0), (26, .putfield 141, 17, 10), (29, .aload_n 0, 0, 0), (30, .iconst 0, 0, 0), (31, .putfield 147, 18, 10), (34, .aload_n 0, 0, 0), (35, .iload_n 1, 0, 0), (36, .iload 6, 0, 0), (38, .iload_n 2, 0, 0), (39, .iload_n 3, 0, 0), (40, .iload 4, 0, 0), (42, .idiv, 0, 0), (43, .iload 7, 0, 0), (45, .iload_n 3, 0, 0), (46, .iload 4, 0, 0), (48, .irem, 0, 0), (49, .if_icmp .ge 7, 56, 0)], 52),
  (52, [(52, .iconst 1, 1, 0), (53, .goto 4, 57, 0)], 56),
  (56, [(56, .iconst 0, 0, 0)], 57),
  (57, [(57, .iadd, 0, 0), (58, .invokevirtual 159, 176, 5), (61, .istore 8, 0, 0), (63, .aload_n 0, 0, 0), (64, .getfield 147, 18, 10), (67, .ifCond .ne 5, 72, 0)], 70),
  (70, [(70, .iconst 0, 0, 0), (71, .ireturn, 0, 0)], 72),
  (72, [(72, .iload 6, 0, 0), (74, .aload_n 0, 0, 0), (75, .getfield 7, 0, 10), (78, .iconst 5, 5, 0), (79, .iaload, 0, 0), (80, .iconst 1, 1, 0), (81, .iadd, 0, 0), (82, .iadd, 0, 0), (83, .istore 6, 0, 0), (85, .iinc 7 1, 1, 0), (88, .goto (-81), 7, 0)], 91),
  (91, [(91, .iconst 1, 1, 0), (92, .ireturn, 0, 0)], 93)]
theorem t_Mod_isDodged : z_chkM 259 b_Mod_isDodged = true := by decide +kernel
def b_Mod_dodge : List BK := [(0, [(0, .iload_n 1, 0, 0), (1, .invokestatic 212, 154, 1), (4, .ifCond .eq 39, 43, 0)], 7),
  (7, [(7, .aload_n 0, 0, 0), (8, .iload_n 2, 0, 0), (9, .invokevirtual 172, 152, 2), (12, .ifCond .eq 31, 43, 0)], 15),
  (15, [(15, .iload_n 3, 0, 0), (16, .invokestatic 215, 192, 1), (19, .ifCond .eq 24, 43, 0)], 22),
  (22, [(22, .iload 4, 0, 0), (24, .i2l, 0, 0), (25, .lconst 1, 0, 0), (26, .ldc2_w 247, 9999, 2), (29, .invokestatic 57, 148, 3), (32, .ifCond .eq 11, 43, 0)], 35),
  (35, [(35, .iload 5, 0, 0), (37, .invokestatic 68, 155, 1), (40, .ifCond .ne 5, 45, 0)], 43),
  (43, [(43, .iconst (-1), 1, 1), (44, .ireturn, 0, 0)], 45),
  (45, [(45, .aload_n 0, 0, 0), (46, .iload_n 1, 0, 0), (47, .iload_n 3, 0, 0), (48, .bipush 10, 10, 0), (50, .irem, 0, 0), (51, .invokevirtual 155, 169, 3), (54, .iconst 1, 1, 0), (55, .istore 6, 0, 0)], 57),
  (57, [(57, .iload 6, 0, 0), (59, .bipush 40, 40, 0), (61, .if_icmp .gt 37, 98, 0)], 64),
  (64, [(64, .iload 6, 0, 0), (66, .iload 4, 0, 0), (68, .if_icmp .gt 30, 98, 0)], 71),
  (71, [(71, .aload_n 0, 0, 0), (72, .iload_n 2, 0, 0), (73, .iload_n 3, 0, 0), (74, .bipush 10, 10, 0), (76, .idiv, 0, 0), (77, .iload 4, 0, 0), (79, .iload 6, 0, 0), (81, .iload 5, 0, 0), (83, .invokevirtual 389, 259, 6), (86, .ifCond .eq 6, 92, 0)], 89),
  (89, [(89, .iload 6, 0, 0), (91, .ireturn, 0, 0)], 92),
  (92, [(92, .iinc 6 1, 1, 0), (95, .goto (-38), 57, 0)], 98),
  (98, [(98, .bipush (-2), 2, 1), (100, .ireturn, 0, 0)], 101)]
theorem t_Mod_dodge : z_chkM 260 b_Mod_dodge = true := by decide +kernel
def b_Mod_lineFrom : List BK := [(0, [(0, .iconst 0, 0, 0), (1, .istore 4, 0, 0), (3, .iconst 0, 0, 0), (4, .istore 5, 0, 0)], 6),
  (6, [(6, .iload 5, 0, 0), (8, .aload_n 0, 0, 0), (9, .iconst 2, 2, 0), (10, .invokevirtual 79, 162, 2), (13, .if_icmp .ge 100, 113, 0)], 16),
  (16, [(16, .aload_n 0, 0, 0), (17, .iconst 2, 2, 0), (18, .iload 5, 0, 0), (20, .iconst 1, 1, 0), (21, .invokevirtual 82, 163, 4), (24, .istore 6, 0, 0), (26, .aload_n 0, 0, 0), (27, .iconst 2, 2, 0), (28, .iload 5, 0, 0), (30, .iconst 0, 0, 0), (31, .invokevirtual 82, 163, 4), (34, .iload_n 1, 0, 0), (35, .if_icmp .ne 72, 107, 0)], 38),
  (38, [(38, .iload_n 3, 0, 0), (39, .i2l, 0, 0), (40, .aload_n 0, 0, 0), (41, .iconst 2, 2, 0), (42, .iload 5, 0, 0), (44, .iconst 2, 2, 0), (45, .invokevirtual 82, 163, 4), (48, .i2l, 0, 0), (49, .aload_n 0, 0, 0), (50, .iconst 2, 2, 0), (51, .iload 5, 0, 0), (53, .iconst 3, 3, 0), (54, .invokevirtual 82, 163, 4), (57, .i2l, 0, 0), (58, .invokestatic 57, 148, 3), (61, .ifCond .eq 46, 107, 0)], 64),
  (64, [(64, .iload_n 2, 0, 0), (65, .iload 6, 0, 0), (67, .invokestatic 111, 149, 2), (70, .ifCond .eq 6, 76, 0)], 73),
  (73, [(73, .goto 34, 107, 0)], 76),
  (76, [(76, .aload_n 0, 0, 0), (77, .iload 6, 0, 0), (79, .iload_n 2, 0, 0), (80, .iconst 1, 1, 0), (81, .iload 6, 0, 0), (83, .ishl, 0, 0), (84, .ior, 0, 0), (85, .iload_n 3, 0, 0), (86, .invokevirtual 393, 261, 4), (89, .istore 7, 0, 0), (91, .iload 7, 0, 0), (93, .iload 4, 0, 0), (95, .if_icmp .le 8, 103, 0)], 98),
  (98, [(98, .iload 7, 0, 0), (100, .goto 5, 105, 0)], 103),
  (103, [(103, .iload 4, 0, 0)], 105),
  (105, [(105, .istore 4, 0, 0)], 107),
  (107, [(107, .iinc 5 1, 1, 0), (110, .goto (-104), 6, 0)], 113),
  (113, [(113, .iload 4, 0, 0), (115, .iconst 1, 1, 0), (116, .iadd, 0, 0), (117, .ireturn, 0, 0)], 118)]
theorem t_Mod_lineFrom : z_chkM 261 b_Mod_lineFrom = true := by decide +kernel
def b_Mod_tangle : List BK := [(0, [(0, .iload_n 1, 0, 0), (1, .invokestatic 68, 155, 1), (4, .ifCond .ne 5, 9, 0)], 7),
  (7, [(7, .iconst (-1), 1, 1), (8, .ireturn, 0, 0)], 9),
  (9, [(9, .iconst 0, 0, 0), (10, .istore_n 2, 0, 0), (11, .iconst 0, 0, 0), (12, .istore_n 3, 0, 0)], 13),
  (13, [(13, .iload_n 3, 0, 0), (14, .bipush 16, 16, 0), (16, .if_icmp .ge 33, 49, 0)], 19),
  (19, [(19, .aload_n 0, 0, 0), (20, .iload_n 3, 0, 0), (21, .iconst 1, 1, 0), (22, .iload_n 3, 0, 0), (23, .ishl, 0, 0), (24, .iload_n 1, 0, 0), (25, .invokevirtual 393, 261, 4), (28, .istore 4, 0, 0), (30, .iload 4, 0, 0), (32, .iload_n 2, 0, 0), (33, .if_icmp .le 8, 41, 0)], 36),
  (36, [(36, .iload 4, 0, 0), (38, .goto 4, 42, 0)], 41),
  (41, [(41, .iload_n 2, 0, 0)], 42),
  (42, [(42, .istore_n 2, 0, 0), (43, .iinc 3 1, 1, 0), (46, .goto (-33), 13, 0)], 49),
  (49, [(49, .iload_n 2, 0, 0), (50, .iconst 2, 2, 0), (51, .if_icmp .ge 7, 58, 0)], 54),
  (54, [(54, .iconst 0, 0, 0), (55, .goto 4, 59, 0)], 58),
  (58, [(58, .iload_n 2, 0, 0)], 59),
  (59, [(59, .ireturn, 0, 0)], 60)]
theorem t_Mod_tangle : z_chkM 262 b_Mod_tangle = true := by decide +kernel
def b_Mod_spell : List BK := [(0, [(0, .aload_n 0, 0, 0), (1, .getfield 396, 28, 10), (4, .aload_n 0, 0, 0), (5, .getfield 399, 29, 10), (8, .if_icmp .ne 8, 16, 0)], 11),
  (11, [(11, .aload_n 0, 0, 0), (12, .iload_n 1, 0, 0), (13, .putfield 402, 30, 10)], 16),
  (16, [(16, .aload_n 0, 0, 0), (17, .dup, 0, 0), (18, .getfield 396, 28, 10), (21, .iconst 1, 1, 0), (22, .iadd, 0, 0), (23, .putfield 396, 28, 10), (26, .return_, 0, 0)], 27)]
theorem t_Mod_spell : z_chkM 263 b_Mod_spell = true := by decide +kernel
def b_Mod_spellWord : List BK := [(0, [(0, .iconst 0, 0, 0), (1, .istore_n 2, 0, 0)], 2),
  (2, [(2, .iload_n 2, 0, 0), (3, .aload_n 1, 0, 0), (4, .invokevirtual 288, 276, 1), (7, .if_icmp .ge 18, 25, 0)], 10),
  (10, [(10, .aload_n 0, 0, 0), (11, .aload_n 1, 0, 0), (12, .iload_n 2, 0, 0), (13, .invokevirtual 293, 272, 2), (16, .invokevirtual 405, 263, 2), (19, .iinc 2 1, 1, 0), (22, .goto (-20), 2, 0)], 25),
  (25, [(25, .return_, 0, 0)], 26)]
theorem t_Mod_spellWord : z_chkM 264 b_Mod_spellWord = true := by decide +kernel
def b_Mod_spellPart : List BK := [(0, [(0, .aload_n 0, 0, 0), (1, .getfield 396, 28, 10), (4, .ifCond .le 9, 13, 0)], 7),
  (7, [(7, .aload_n 0, 0, 0), (8, .bipush 59, 59, 0), (10, .invokevirtual 405, 263, 2)], 13),
  (13, [(13, .aload_n 0, 0, 0), (14, .aload_n 1, 0, 0), (15, .invokevirtual 408, 264, 2), (18, .return_, 0, 0)], 19)]
theorem t_Mod_spellPart : z_chkM 265 b_Mod_spellPart = true := by decide +kernel
def b_Mod_spellNumber : List BK := [(0, [(0, .aload_n 0, 0, 0), (1, .bipush 32, 32, 0), (3, .invokevirtual 405, 263, 2), (6, .iconst 1, 1, 0), (7, .istore_n 2, 0, 0)], 8),
  (8, [(8, .iload_n 1, 0, 0), (9, .iload_n 2, 0, 0), (10, .idiv, 0, 0), (11, .bipush 10, 10, 0), (13, .if_icmp .lt 11, 24, 0)], 16),
  (16, [(16, .iload_n 2, 0, 0), (17, .bipush 10, 10, 0), (19, .imul, 0, 0), (20, .istore_n 2, 0, 0), (21, .goto (-13), 8, 0)], 24),
  (24, [(24, .iload_n 2, 0, 0), (25, .ifCond .le 24, 49, 0)], 28),
  (28, [(28, .aload_n 0, 0, 0), (29, .bipush 48, 48, 0), (31, .iload_n 1, 0, 0), (32, .iload_n 2, 0, 0), (33, .idiv, 0, 0), (34, .bipush 10, 10, 0), (36, .irem, 0, 0), (37, .iadd, 0, 0), (38, .invokevirtual 405, 263, 2), (41, .iload_n 2, 0, 0), (42, .bipush 10, 10, 0), (44, .idiv, 0, 0), (45, .istore_n 2, 0, 0), (46, .goto (-22), 24, 0)], 49),
  (49, [(49, .return_, 0, 0)], 50)]
theorem t_Mod_spellNumber : z_chkM 266 b_Mod_spellNumber = true := by decide +kernel
def b_Mod_spellPost : List BK := [(0, [(0, .aload_n 0, 0, 0), (1, .ldc_w 322, 12, 0), (4, .invokevirtual 412, 265, 2), (7, .aload_n 0, 0, 0), (8, .iload_n 1, 0, 0), (9, .invokevirtual 163, 157, 2), (12, .iconst (-1), 1, 1), (13, .if_icmp .ne 13, 26, 0)], 16),
  (16, [(16, .aload_n 0, 0, 0), (17, .ldc_w 415, 1, 0), (20, .invokevirtual 408, 264, 2), (23, .goto 12, 35, 0)], 26),
  (26, [(26, .aload_n 0, 0, 0), (27, .aload_n 0, 0, 0), (28, .iload_n 1, 0, 0), (29, .invokevirtual 163, 157, 2), (32, .invokevirtual 417, 266, 2)], 35),
  (35, [(35, .iconst 0, 0, 0), (36, .istore_n 2, 0, 0)], 37),
  (37, [(37, .iload_n 2, 0, 0), (38, .iconst 3, 3, 0), (39, .if_icmp .ge 19, 58, 0)], 42),
  (42, [(42, .aload_n 0, 0, 0), (43, .aload_n 0, 0, 0), (44, .iload_n 1, 0, 0), (45, .iload_n 2, 0, 0), (46, .invokevirtual 124, 158, 3), (49, .invokevirtual 417, 266, 2), (52, .iinc 2 1, 1, 0), (55, .goto (-18), 37, 0)], 58),
  (58, [(58, .return_, 0, 0)], 59)]
theorem t_Mod_spellPost : z_chkM 267 b_Mod_spellPost = true := by decide +kernel
def b_Mod_spellEntry : List BK := [(0, [(0, .aload_n 0, 0, 0), (1, .iload_n 1, 0, 0), (2, .invokestatic 345, 246, 1), (5, .invokevirtual 412, 265, 2), (8, .iconst 0, 0, 0), (9, .istore_n 3, 0, 0)], 10),
  (10, [(10, .iload_n 3, 0, 0), (11, .iload_n 1, 0, 0), (12, .invokestatic 76, 160, 1), (15, .if_icmp .ge 20, 35, 0)], 18),
  (18, [(18, .aload_n 0, 0, 0), (19, .aload_n 0, 0, 0), (20, .iload_n 1, 0, 0), (21, .iload_n 2, 0, 0), (22, .iload_n 3, 0, 0), (23, .invokevirtual 82, 163, 4), (26, .invokevirtual 417, 266, 2), (29, .iinc 3 1, 1, 0), (32, .goto (-22), 10, 0)], 35),
  (35, [(35, .return_, 0, 0)], 36)]
theorem t_Mod_spellEntry : z_chkM 268 b_Mod_spellEntry = true := by decide +kernel
def b_Mod_spellSet : List BK := [(0, [(0, .aload_n 0, 0, 0), (1, .getfield 7, 0, 10), (4, .iconst 5, 5, 0), (5, .iload_n 1, 0, 0), (6, .iadd, 0, 0), (7, .iaload, 0, 0), (8, .iload_n 1, 0, 0), (9, .if_icmp .ne 4, 13, 0)], 12),
  (12, [(12, .return_, 0, 0)], 13),
  (13, [(13, .aload_n 0, 0, 0), (14, .iload_n 1, 0, 0), (15, .invokestatic 361, 248, 1), (18, .invokevirtual 412, 265, 2), (21, .aload_n 0, 0, 0), (22, .aload_n 0, 0, 0), (23, .getfield 7, 0, 10), (26, .iconst 5, 5, 0), (27, .iload_n 1, 0, 0), (28, .iadd, 0, 0), (29, .iaload, 0, 0), (30, .invokevirtual 417, 266, 2), (33, .return_, 0, 0)], 34)]
theorem t_Mod_spellSet : z_chkM 269 b_Mod_spellSet = true := by decide +kernel
def b_Mod_letter : List BK := [(0, [(0, .iload_n 1, 0, 0), (1, .iconst (-1), 1, 1), (2, .if_icmp .ge 5, 7, 0)], 5),
  (5, [(5, .iconst (-1), 1, 1), (6, .ireturn, 0, 0)], 7),
  (7, [(7, .aload_n 0, 0, 0), (8, .iconst 0, 0, 0), (9, .putfield 396, 28, 10), (12, .aload_n 0, 0, 0), (13, .iload_n 1, 0, 0), (14, .putfield 399, 29, 10), (17, .aload_n 0, 0, 0), (18, .bipush (-2), 2, 1), (20, .putfield 402, 30, 10), (23, .iconst 0, 0, 0), (24, .istore_n 2, 0, 0)], 25),
  (25, [(25, .iload_n 2, 0, 0), (26, .aload_n 0, 0, 0), (27, .invokevirtual 53, 150, 1), (30, .if_icmp .ge 14, 44, 0)], 33),
  (33, [(33, .aload_n 0, 0, 0), (34, .iload_n 2, 0, 0), (35, .invokevirtual 420, 267, 2), (38, .iinc 2 1, 1, 0), (41, .goto (-16), 25, 0)], 44),
  (44, [(44, .iconst 0, 0, 0), (45, .istore_n 2, 0, 0)], 46),
  (46, [(46, .iload_n 2, 0, 0), (47, .iconst 4, 4, 0), (48, .if_icmp .ge 32, 80, 0)], 51),
  (51, [(51, .iconst 0, 0, 0), (52, .istore_n 3, 0, 0)], 53),
  (53, [(53, .iload_n 3, 0, 0), (54, .aload_n 0, 0, 0), (55, .iload_n 2, 0, 0), (56, .invokevirtual 79, 162, 2), (59, .if_icmp .ge 15, 74, 0)], 62),
  (62, [(62, .aload_n 0, 0, 0), (63, .iload_n 2, 0, 0), (64, .iload_n 3, 0, 0), (65, .invokevirtual 423, 268, 3), (68, .iinc 3 1, 1, 0), (71, .goto (-18), 53, 0)], 74),
  (74, [(74, .iinc 2 1, 1, 0), (77, .goto (-31), 46, 0)], 80),
  (80, [(80, .iconst 0, 0, 0), (81, .istore_n 2, 0, 0)], 82),
  (82, [(82, .iload_n 2, 0, 0), (83, .iconst 3, 3, 0), (84, .if_icmp .ge 14, 98, 0)], 87),
  (87, [(87, .aload_n 0, 0, 0), (88, .iload_n 2, 0, 0), (89, .invokevirtual 426, 269, 2), (92, .iinc 2 1, 1, 0), (95, .goto (-13), 82, 0)], 98),
  (98, [(98, .iload_n 1, 0, 0), (99, .iconst (-1), 1, 1), (100, .if_icmp .ne 10, 110, 0)], 103),
  (103, [(103, .aload_n 0, 0, 0), (104, .getfield 396, 28, 10), (107, .goto 7, 114, 0)], 110),
  (110, [(110, .aload_n 0, 0, 0), (111, .getfield 402, 30, 10)], 114),
  (114, [(114, .ireturn, 0, 0)], 115)]
theorem t_Mod_letter : z_chkM 270 b_Mod_letter = true := by decide +kernel
