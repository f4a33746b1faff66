def b_Desk_init : List BK := [(0, [(0, .aload_n 0, 0, 0), (1, .invokespecial 3, 1003, 0), (4, .aload_n 0, 0, 0), (5, .aload_n 1, 0, 0), (6, .putfield 9, 0, 0), (9, .aload_n 0, 0, 0), (10, .bipush 16, 16, 0), (12, .newarray .int, 0, 0), (14, .putfield 15, 1, 0), (17, .aload_n 0, 0, 0), (18, .iconst (-1), 1, 1), (19, .putfield 19, 2, 0), (22, .aload_n 0, 0, 0), (23, .iconst 0, 0, 0), (24, .putfield 23, 3, 0), (27, .aload_n 0, 0, 0), (28, .iconst 0, 0, 0), (29, .putfield 26, 4, 0), (32, .aload_n 0, 0, 0), (33, .iconst 0, 0, 0), (34, .putfield 29, 5, 0), (37, .aload_n 0, 0, 0), (38, .iconst 0, 0, 0), (39, .putfield 32, 6, 0), (42, .aload_n 0, 0, 0), (43, .iconst 0, 0, 0), (44, .putfield 35, 7, 0), (47, .aload_n 0, 0, 0), (48, .iconst 2, 2, 0), (49, .putfield 38, 8, 0), (52, .return_, 0, 0)], 53)]
theorem t_Desk_init : z_chkM 0 b_Desk_init = true := by decide +kernel
def b_Desk_ask : List BK := [(0, [(0, .aload_n 0, 0, 0), (1, .getfield 9, 0, 0), (4, .iload_n 2, 0, 0), (5, .iload_n 3, 0, 0), (6, .invokevirtual 41, 61, 3), (9, .istore 4, 0, 0), (11, .iload 4, 0, 0), (13, .iconst (-1), 1, 1), (14, .if_icmp .ne 10, 24, 0)], 17),
  (17, [(17, .aload_n 0, 0, 0), (18, .iconst 2, 2, 0), (19, .putfield 38, 8, 0), (22, .iconst 0, 0, 0), (23, .ireturn, 0, 0)], 24),
  (24, [(24, .aload_n 0, 0, 0), (25, .getfield 9, 0, 0), (28, .iload_n 3, 0, 0), (29, .aload_n 1, 0, 0), (30, .getfield 47, 7, 2), (33, .invokevirtual 52, 62, 3), (36, .aload_n 1, 0, 0), (37, .getfield 55, 6, 2), (40, .invokestatic 58, 131, 1), (43, .ior, 0, 0), (44, .istore 5, 0, 0), (46, .iload 4, 0, 0), (48, .aload_n 1, 0, 0), (49, .getfield 62, 0, 2), (52, .if_icmp .ne 10, 62, 0)], 55),
  (55, [(55, .aload_n 0, 0, 0), (56, .iconst 4, 4, 0), (57, .putfield 38, 8, 0), (60, .iconst 0, 0, 0), (61, .ireturn, 0, 0)], 62),
  (62, [(62, .aload_n 0, 0, 0), (63, .iload 5, 0, 0), (65, .iload 4, 0, 0), (67, .invokestatic 65, 130, 2), (70, .ifCond .eq 7, 77, 0)], 73),
  (73, [(73, .iconst 3, 3, 0), (74, .goto 4, 78, 0)], 77),
  (77, [(77, .iconst 5, 5, 0)], 78),
  (78, [(78, .putfield 38, 8, 0), (81, .aload_n 0, 0, 0), (82, .aload_n 1, 0, 0), (83, .getfield 62, 0, 2), (86, .putfield 19, 2, 0), (89, .aload_n 0, 0, 0), (90, .iload_n 3, 0, 0), (91, .putfield 23, 3, 0), (94, .aload_n 0, 0, 0), (95, .iload 5, 0, 0), (97, .aload_n 0, 0, 0), (98, .getfield 9, 0, 0), (101, .aload_n 1, 0, 0), (102, .getfield 69, 1, 2), (105, .invokevirtual 72, 63, 2), (108, .ior, 0, 0), (109, .putfield 26, 4, 0), (112, .aload_n 0, 0, 0), (113, .iconst 0, 0, 0), (114, .putfield 29, 5, 0), (117, .aload_n 0, 0, 0), (118, .iload 4, 0, 0), (120, .aload_n 0, 0, 0), (121, .getfield 9, 0, 0), (124, .iconst 4, 4, 0), (125, .iload_n 2, 0, 0), (126, .iconst 1, 1, 0), (127, .aload_n 1, 0, 0), (128, .getfield 75, 2, 2), (131, .iadd, 0, 0), (132, .invokevirtual 78, 52, 4), (135, .iconst 0, 0, 0), (136, .invokevirtual 82, 2, 4), (139, .ireturn, 0, 0)], 140)]
theorem t_Desk_ask : z_chkM 1 b_Desk_ask = true := by decide +kernel
def b_Desk_askOne : List BK := [(0, [(0, .iload_n 3, 0, 0), (1, .bipush 16, 16, 0), (3, .if_icmp .lt 5, 8, 0)], 6),
  (6, [(6, .iconst 0, 0, 0), (7, .ireturn, 0, 0)], 8),
  (8, [(8, .aload_n 0, 0, 0), (9, .dup, 0, 0), (10, .getfield 29, 5, 0), (13, .iconst 1, 1, 0), (14, .iload_n 1, 0, 0), (15, .ishl, 0, 0), (16, .ior, 0, 0), (17, .putfield 29, 5, 0), (20, .aload_n 0, 0, 0), (21, .getfield 15, 1, 0), (24, .iload_n 3, 0, 0), (25, .iload_n 1, 0, 0), (26, .iastore, 0, 0), (27, .iload_n 1, 0, 0), (28, .aload_n 0, 0, 0), (29, .getfield 19, 2, 0), (32, .if_icmp .ne 5, 37, 0)], 35),
  (35, [(35, .iconst 0, 0, 0), (36, .ireturn, 0, 0)], 37),
  (37, [(37, .aload_n 0, 0, 0), (38, .getfield 26, 4, 0), (41, .iload_n 1, 0, 0), (42, .invokestatic 65, 130, 2), (45, .ifCond .ne 15, 60, 0)], 48),
  (48, [(48, .aload_n 0, 0, 0), (49, .iload_n 3, 0, 0), (50, .putfield 32, 6, 0), (53, .aload_n 0, 0, 0), (54, .iload_n 2, 0, 0), (55, .putfield 35, 7, 0), (58, .iconst 1, 1, 0), (59, .ireturn, 0, 0)], 60),
  (60, [(60, .iconst 0, 0, 0), (61, .istore 4, 0, 0)], 63),
  (63, [(63, .iload 4, 0, 0), (65, .aload_n 0, 0, 0), (66, .getfield 9, 0, 0), (69, .getfield 86, 1, 6), (72, .iconst 2, 2, 0), (73, .iaload, 0, 0), (74, .if_icmp .ge 102, 176, 0)], 77),
  (77, [(77, .aload_n 0, 0, 0), (78, .getfield 9, 0, 0), (81, .iconst 2, 2, 0), (82, .iload 4, 0, 0), (84, .iconst 0, 0, 0), (85, .invokevirtual 78, 52, 4), (88, .iload_n 1, 0, 0), (89, .if_icmp .ne 81, 170, 0)], 92),
  (92, [(92, .aload_n 0, 0, 0), (93, .getfield 9, 0, 0), (96, .iconst 2, 2, 0), (97, .iload 4, 0, 0), (99, .aload_n 0, 0, 0), (100, .getfield 23, 3, 0), (103, .invokevirtual 89, 60, 4), (106, .ifCond .ne 6, 112, 0)], 109),
  (109, [(109, .goto 61, 170, 0)], 112),
  (112, [(112, .aload_n 0, 0, 0), (113, .getfield 9, 0, 0), (116, .iconst 2, 2, 0), (117, .iload 4, 0, 0), (119, .iconst 1, 1, 0), (120, .invokevirtual 78, 52, 4), (123, .istore 5, 0, 0), (125, .iload_n 2, 0, 0), (126, .aload_n 0, 0, 0), (127, .getfield 9, 0, 0), (130, .iconst 2, 2, 0), (131, .iload 4, 0, 0), (133, .iconst 4, 4, 0), (134, .invokevirtual 78, 52, 4), (137, .invokestatic 92, 1001, 0), (140, .istore 6, 0, 0), (142, .aload_n 0, 0, 0), (143, .getfield 29, 5, 0), (146, .iload 5, 0, 0), (148, .invokestatic 65, 130, 2), (151, .ifCond .ne 19, 170, 0)], 154),
  (154, [(154, .aload_n 0, 0, 0), (155, .iload 5, 0, 0), (157, .iload 6, 0, 0), (159, .iload_n 3, 0, 0), (160, .iconst 1, 1, 0), (161, .iadd, 0, 0), (162, .invokevirtual 82, 2, 4), (165, .ifCond .eq 5, 170, 0)], 168),
  (168, [(168, .iconst 1, 1, 0), (169, .ireturn, 0, 0)], 170),
  (170, [(170, .iinc 4 1, 1, 0), (173, .goto (-110), 63, 0)], 176),
  (176, [(176, .iconst 0, 0, 0), (177, .ireturn, 0, 0)], 178)]
theorem t_Desk_askOne : z_chkM 2 b_Desk_askOne = true := by decide +kernel
def b_Desk_inLine : List BK := [(0, [(0, .iload_n 1, 0, 0), (1, .ifCond .lt 18, 19, 0)], 4),
  (4, [(4, .iload_n 1, 0, 0), (5, .bipush 16, 16, 0), (7, .if_icmp .ge 12, 19, 0)], 10),
  (10, [(10, .aload_n 0, 0, 0), (11, .getfield 15, 1, 0), (14, .iload_n 1, 0, 0), (15, .iaload, 0, 0), (16, .goto 4, 20, 0)], 19),
  (19, [(19, .iconst (-1), 1, 1)], 20),
  (20, [(20, .ireturn, 0, 0)], 21)]
theorem t_Desk_inLine : z_chkM 3 b_Desk_inLine = true := by decide +kernel
def b_Desk_decider : List BK := [(0, [(0, .aload_n 0, 0, 0), (1, .getfield 15, 1, 0), (4, .aload_n 0, 0, 0), (5, .getfield 32, 6, 0), (8, .iaload, 0, 0), (9, .ireturn, 0, 0)], 10)]
theorem t_Desk_decider : z_chkM 4 b_Desk_decider = true := by decide +kernel
def b_Letter_init : List BK := [(0, [(0, .aload_n 0, 0, 0), (1, .invokespecial 3, 1003, 0), (4, .aload_n 0, 0, 0), (5, .iconst (-1), 1, 1), (6, .putfield 9, 0, 1), (9, .aload_n 0, 0, 0), (10, .iconst 0, 0, 0), (11, .putfield 15, 1, 1), (14, .aload_n 0, 0, 0), (15, .bipush (-2), 2, 1), (17, .putfield 18, 2, 1), (20, .return_, 0, 0)], 21)]
theorem t_Letter_init : z_chkM 5 b_Letter_init = true := by decide +kernel
def b_Letter_byteOf : List BK := [(0, [(0, .aload_n 0, 0, 0), (1, .iload_n 2, 0, 0), (2, .putfield 9, 0, 1), (5, .aload_n 0, 0, 0), (6, .iconst 0, 0, 0), (7, .putfield 15, 1, 1), (10, .aload_n 0, 0, 0), (11, .bipush (-2), 2, 1), (13, .putfield 18, 2, 1), (16, .aload_n 0, 0, 0), (17, .aload_n 1, 0, 0), (18, .iconst 4, 4, 0), (19, .invokevirtual 21, 7, 3), (22, .iconst 0, 0, 0), (23, .istore_n 3, 0, 0)], 24),
  (24, [(24, .iload_n 3, 0, 0), (25, .iconst 3, 3, 0), (26, .if_icmp .gt 15, 41, 0)], 29),
  (29, [(29, .aload_n 0, 0, 0), (30, .aload_n 1, 0, 0), (31, .iload_n 3, 0, 0), (32, .invokevirtual 21, 7, 3), (35, .iinc 3 1, 1, 0), (38, .goto (-14), 24, 0)], 41),
  (41, [(41, .iconst 0, 0, 0), (42, .istore_n 3, 0, 0)], 43),
  (43, [(43, .iload_n 3, 0, 0), (44, .iconst 3, 3, 0), (45, .if_icmp .ge 41, 86, 0)], 48),
  (48, [(48, .aload_n 1, 0, 0), (49, .getfield 25, 2, 6), (52, .iload_n 3, 0, 0), (53, .iaload, 0, 0), (54, .getstatic 31, 4, 1), (57, .iload_n 3, 0, 0), (58, .iaload, 0, 0), (59, .if_icmp .eq 21, 80, 0)], 62),
  (62, [(62, .aload_n 0, 0, 0), (63, .bipush 6, 6, 0), (65, .iload_n 3, 0, 0), (66, .iadd, 0, 0), (67, .invokevirtual 34, 8, 2), (70, .aload_n 0, 0, 0), (71, .aload_n 1, 0, 0), (72, .getfield 25, 2, 6), (75, .iload_n 3, 0, 0), (76, .iaload, 0, 0), (77, .invokevirtual 38, 9, 2)], 80),
  (80, [(80, .iinc 3 1, 1, 0), (83, .goto (-40), 43, 0)], 86),
  (86, [(86, .iload_n 2, 0, 0), (87, .iconst (-1), 1, 1), (88, .if_icmp .ne 10, 98, 0)], 91),
  (91, [(91, .aload_n 0, 0, 0), (92, .getfield 15, 1, 1), (95, .goto 7, 102, 0)], 98),
  (98, [(98, .aload_n 0, 0, 0), (99, .getfield 18, 2, 1)], 102),
  (102, [(102, .ireturn, 0, 0)], 103)]
theorem t_Letter_byteOf : z_chkM 6 b_Letter_byteOf = true := by decide +kernel
def b_Letter_tellRows : List BK := [(0, [(0, .iconst 0, 0, 0), (1, .istore_n 3, 0, 0)], 2),
  (2, [(2, .iload_n 3, 0, 0), (3, .aload_n 1, 0, 0), (4, .getfield 41, 1, 6), (7, .iload_n 2, 0, 0), (8, .iaload, 0, 0), (9, .if_icmp .ge 45, 54, 0)], 12),
  (12, [(12, .aload_n 0, 0, 0), (13, .iload_n 2, 0, 0), (14, .invokevirtual 34, 8, 2), (17, .iconst 0, 0, 0), (18, .istore 4, 0, 0)], 20),
  (20, [(20, .iload 4, 0, 0), (22, .getstatic 44, 0, 1), (25, .iload_n 2, 0, 0), (26, .iaload, 0, 0), (27, .if_icmp .ge 21, 48, 0)], 30),
  (30, [(30, .aload_n 0, 0, 0), (31, .aload_n 1, 0, 0), (32, .iload_n 2, 0, 0), (33, .iload_n 3, 0, 0), (34, .iload 4, 0, 0), (36, .invokevirtual 47, 52, 4), (39, .invokevirtual 38, 9, 2), (42, .iinc 4 1, 1, 0), (45, .goto (-25), 20, 0)], 48),
  (48, [(48, .iinc 3 1, 1, 0), (51, .goto (-49), 2, 0)], 54),
  (54, [(54, .return_, 0, 0)], 55)]
theorem t_Letter_tellRows : z_chkM 7 b_Letter_tellRows = true := by decide +kernel
def b_Letter_beginPart : List BK := [(0, [(0, .aload_n 0, 0, 0), (1, .getfield 15, 1, 1), (4, .ifCond .le 9, 13, 0)], 7),
  (7, [(7, .aload_n 0, 0, 0), (8, .bipush 59, 59, 0), (10, .invokevirtual 51, 11, 2)], 13),
  (13, [(13, .aload_n 0, 0, 0), (14, .iload_n 1, 0, 0), (15, .invokestatic 55, 145, 1), (18, .invokevirtual 59, 10, 2), (21, .return_, 0, 0)], 22)]
theorem t_Letter_beginPart : z_chkM 8 b_Letter_beginPart = true := by decide +kernel
def b_Letter_writeNumber : List BK := [(0, [(0, .aload_n 0, 0, 0), (1, .bipush 32, 32, 0), (3, .invokevirtual 51, 11, 2), (6, .iload_n 1, 0, 0), (7, .ifCond .ge 10, 17, 0)], 10),
  (10, [(10, .aload_n 0, 0, 0), (11, .ldc 63, 14, 0), (13, .invokevirtual 59, 10, 2), (16, .return_, 0, 0)], 17),
  (17, [(17, .sipush 1000, 1000, 0), (20, .istore_n 2, 0, 0)], 21),
  (21, [(21, .iload_n 2, 0, 0), (22, .ifCond .le 35, 57, 0)], 25),
  (25, [(25, .iload_n 1, 0, 0), (26, .iload_n 2, 0, 0), (27, .if_icmp .ge 8, 35, 0)], 30),
  (30, [(30, .iload_n 2, 0, 0), (31, .iconst 1, 1, 0), (32, .if_icmp .ne 17, 49, 0)], 35),
  (35, [(35, .aload_n 0, 0, 0), (36, .bipush 48, 48, 0), (38, .iload_n 1, 0, 0), (39, .iload_n 2, 0, 0), (40, .idiv, 0, 0), (41, .bipush 10, 10, 0), (43, .irem, 0, 0), (44, .iadd, 0, 0), (45, .i2c, 0, 0), (46, .invokevirtual 51, 11, 2)], 49),
  (49, [(49, .iload_n 2, 0, 0), (50, .bipush 10, 10, 0), (52, .idiv, 0, 0), (53, .istore_n 2, 0, 0), (54, .goto (-33), 21, 0)], 57),
  (57, [(57, .return_, 0, 0)], 58)]
theorem t_Letter_writeNumber : z_chkM 9 b_Letter_writeNumber = true := by decide +kernel
def b_Letter_writeWord : List BK := [(0, [(0, .iconst 0, 0, 0), (1, .istore_n 2, 0, 0)], 2),
  (2, [(2, .iload_n 2, 0, 0), (3, .aload_n 1, 0, 0), (4, .invokevirtual 65, 276, 1), (7, .if_icmp .ge 18, 25, 0)], 10),
  (10, [(10, .aload_n 0, 0, 0), (11, .aload_n 1, 0, 0), (12, .iload_n 2, 0, 0), (13, .invokevirtual 71, 272, 2), (16, .invokevirtual 51, 11, 2), (19, .iinc 2 1, 1, 0), (22, .goto (-20), 2, 0)], 25),
  (25, [(25, .return_, 0, 0)], 26)]
theorem t_Letter_writeWord : z_chkM 10 b_Letter_writeWord = true := by decide +kernel
def b_Letter_write : List BK := [(0, [(0, .aload_n 0, 0, 0), (1, .getfield 15, 1, 1), (4, .aload_n 0, 0, 0), (5, .getfield 9, 0, 1), (8, .if_icmp .ne 8, 16, 0)], 11),
  (11, [(11, .aload_n 0, 0, 0), (12, .iload_n 1, 0, 0), (13, .putfield 18, 2, 1)], 16),
  (16, [(16, .aload_n 0, 0, 0), (17, .dup, 0, 0), (18, .getfield 15, 1, 1), (21, .iconst 1, 1, 0), (22, .iadd, 0, 0), (23, .putfield 15, 1, 1), (26, .return_, 0, 0)], 27)]
theorem t_Letter_write : z_chkM 11 b_Letter_write = true := by decide +kernel
def b_Matter_init : List BK := [(0, [(0, .aload_n 0, 0, 0), (1, .invokespecial 3, 1003, 0), (4, .aload_n 0, 0, 0), (5, .iconst (-1), 1, 1), (6, .iconst (-1), 1, 1), (7, .iconst 0, 0, 0), (8, .invokevirtual 9, 13, 4), (11, .return_, 0, 0)], 12)]
theorem t_Matter_init : z_chkM 12 b_Matter_init = true := by decide +kernel
def b_Matter_begin : List BK := [(0, [(0, .aload_n 0, 0, 0), (1, .iload_n 1, 0, 0), (2, .putfield 15, 0, 2), (5, .aload_n 0, 0, 0), (6, .iload_n 2, 0, 0), (7, .putfield 19, 1, 2), (10, .aload_n 0, 0, 0), (11, .iload_n 3, 0, 0), (12, .putfield 22, 2, 2), (15, .aload_n 0, 0, 0), (16, .iconst 0, 0, 0), (17, .putfield 25, 3, 2), (20, .aload_n 0, 0, 0), (21, .iconst 0, 0, 0), (22, .putfield 28, 4, 2), (25, .aload_n 0, 0, 0), (26, .iconst 0, 0, 0), (27, .putfield 31, 5, 2), (30, .aload_n 0, 0, 0), (31, .iconst (-1), 1, 1), (32, .putfield 34, 6, 2), (35, .aload_n 0, 0, 0), (36, .iconst (-1), 1, 1), (37, .putfield 37, 7, 2), (40, .return_, 0, 0)], 41)]
theorem t_Matter_begin : z_chkM 13 b_Matter_begin = true := by decide +kernel
def b_Past_init : List BK := [(0, [(0, .aload_n 0, 0, 0), (1, .invokespecial 3, 1003, 0), (4, .aload_n 0, 0, 0), (5, .bipush 10, 10, 0), (7, .anewarray 9, 0, 6), (10, .putfield 11, 0, 3), (13, .iconst 0, 0, 0), (14, .istore_n 1, 0, 0)], 15),
  (15, [(15, .iload_n 1, 0, 0), (16, .bipush 10, 10, 0), (18, .if_icmp .ge 22, 40, 0)], 21),
  (21, [(21, .aload_n 0, 0, 0), (22, .getfield 11, 0, 3), (25, .iload_n 1, 0, 0), (26, .new 9, 0, 6), (29, .dup, 0, 0), (30, .invokespecial 17, 47, 1), (33, .aastore, 0, 0), (34, .iinc 1 1, 1, 0), (37, .goto (-22), 15, 0)], 40),
  (40, [(40, .aload_n 0, 0, 0), (41, .iconst 0, 0, 0), (42, .putfield 18, 1, 3), (45, .aload_n 0, 0, 0), (46, .iconst 0, 0, 0), (47, .putfield 22, 2, 3), (50, .return_, 0, 0)], 51)]
theorem t_Past_init : z_chkM 14 b_Past_init = true := by decide +kernel
def b_Past_forget : List BK := [(0, [(0, .aload_n 0, 0, 0), (1, .iconst 0, 0, 0), (2, .putfield 22, 2, 3), (5, .return_, 0, 0)], 6)]
theorem t_Past_forget : z_chkM 15 b_Past_forget = true := by decide +kernel
def b_Past_remember : List BK := [(0, [(0, .aload_n 0, 0, 0), (1, .getfield 22, 2, 3), (4, .bipush 10, 10, 0), (6, .if_icmp .ne 26, 32, 0)], 9),
  (9, [(9, .aload_n 0, 0, 0), (10, .aload_n 0, 0, 0), (11, .getfield 18, 1, 3), (14, .iconst 1, 1, 0), (15, .iadd, 0, 0), (16, .bipush 10, 10, 0), (18, .irem, 0, 0), (19, .putfield 18, 1, 3), (22, .aload_n 0, 0, 0), (23, .dup, 0, 0), (24, .getfield 22, 2, 3), (27, .iconst 1, 1, 0), (28, .isub, 0, 0), (29, .putfield 22, 2, 3)], 32),
  (32, [(32, .aload_n 0, 0, 0), (33, .getfield 11, 0, 3), (36, .aload_n 0, 0, 0), (37, .getfield 18, 1, 3), (40, .aload_n 0, 0, 0), (41, .getfield 22, 2, 3), (44, .iadd, 0, 0), (45, .bipush 10, 10, 0), (47, .irem, 0, 0), (48, .aaload, 0, 0), (49, .aload_n 1, 0, 0), (50, .invokevirtual 25, 49, 2), (53, .aload_n 0, 0, 0), (54, .dup, 0, 0), (55, .getfield 22, 2, 3), (58, .iconst 1, 1, 0), (59, .iadd, 0, 0), (60, .putfield 22, 2, 3), (63, .return_, 0, 0)], 64)]
theorem t_Past_remember : z_chkM 16 b_Past_remember = true := by decide +kernel
def b_Past_takeBack : List BK := [(0, [(0, .aload_n 0, 0, 0), (1, .getfield 22, 2, 3), (4, .ifCond .ne 5, 9, 0)], 7),
  (7, [(7, .iconst (-1), 1, 1), (8, .ireturn, 0, 0)], 9),
  (9, [(9, .aload_n 0, 0, 0), (10, .dup, 0, 0), (11, .getfield 22, 2, 3), (14, .iconst 1, 1, 0), (15, .isub, 0, 0), (16, .putfield 22, 2, 3), (19, .aload_n 1, 0, 0), (20, .aload_n 0, 0, 0), (21, .getfield 11, 0, 3), (24, .aload_n 0, 0, 0), (25, .getfield 18, 1, 3), (28, .aload_n 0, 0, 0), (29, .getfield 22, 2, 3), (32, .iadd, 0, 0), (33, .bipush 10, 10, 0), (35, .irem, 0, 0), (36, .aaload, 0, 0), (37, .invokevirtual 25, 49, 2), (40, .aload_n 0, 0, 0), (41, .getfield 22, 2, 3), (44, .ireturn, 0, 0)], 45)]
theorem t_Past_takeBack : z_chkM 17 b_Past_takeBack = true := by decide +kernel
def b_Reader_init : List BK := [(0, [(0, .aload_n 0, 0, 0), (1, .invokespecial 3, 1003, 0), (4, .aload_n 0, 0, 0), (5, .aload_n 1, 0, 0), (6, .putfield 9, 0, 4), (9, .aload_n 0, 0, 0), (10, .aload_n 2, 0, 0), (11, .putfield 15, 1, 4), (14, .aload_n 0, 0, 0), (15, .iconst 5, 5, 0), (16, .newarray .int, 0, 0), (18, .putfield 19, 2, 4), (21, .aload_n 0, 0, 0), (22, .iconst 0, 0, 0), (23, .putfield 23, 3, 4), (26, .aload_n 0, 0, 0), (27, .iconst 0, 0, 0), (28, .putfield 27, 4, 4), (31, .aload_n 0, 0, 0), (32, .iconst 0, 0, 0), (33, .putfield 30, 5, 4), (36, .return_, 0, 0)], 37)]
theorem t_Reader_init : z_chkM 18 b_Reader_init = true := by decide +kernel
def b_Reader_read : List BK := [(0, [(0, .aload_n 0, 0, 0), (1, .getfield 15, 1, 4), (4, .invokevirtual 33, 48, 1), (7, .aload_n 0, 0, 0), (8, .iconst 0, 0, 0), (9, .putfield 23, 3, 4), (12, .aload_n 0, 0, 0), (13, .iconst 0, 0, 0), (14, .putfield 27, 4, 4), (17, .aload_n 0, 0, 0), (18, .iconst 0, 0, 0), (19, .putfield 30, 5, 4), (22, .aload_n 0, 0, 0), (23, .invokevirtual 38, 21, 1), (26, .aload_n 0, 0, 0), (27, .getfield 23, 3, 4), (30, .aload_n 0, 0, 0), (31, .getfield 9, 0, 4), (34, .getfield 41, 1, 7), (37, .if_icmp .ge 7, 44, 0)], 40),
  (40, [(40, .iconst 1, 1, 0), (41, .goto 4, 45, 0)], 44),
  (44, [(44, .iconst 0, 0, 0)], 45),
  (45, [(45, .istore_n 1, 0, 0), (46, .iconst 0, 0, 0), (47, .istore_n 2, 0, 0)], 48),
  (48, [(48, .iload_n 1, 0, 0), (49, .ifCond .eq 40, 89, 0)], 52),
  (52, [(52, .iload_n 2, 0, 0), (53, .sipush 400, 400, 0), (56, .if_icmp .ge 33, 89, 0)], 59),
  (59, [(59, .aload_n 0, 0, 0), (60, .invokevirtual 46, 23, 1), (63, .aload_n 0, 0, 0), (64, .getfield 27, 4, 4), (67, .ifCond .ne 14, 81, 0)], 70),
  (70, [(70, .aload_n 0, 0, 0), (71, .invokevirtual 49, 22, 1), (74, .ifCond .eq 7, 81, 0)], 77),
  (77, [(77, .iconst 1, 1, 0), (78, .goto 4, 82, 0)], 81),
  (81, [(81, .iconst 0, 0, 0)], 82),
  (82, [(82, .istore_n 1, 0, 0), (83, .iinc 2 1, 1, 0), (86, .goto (-38), 48, 0)], 89),
  (89, [(89, .aload_n 0, 0, 0), (90, .getfield 27, 4, 4), (93, .ireturn, 0, 0)], 94)]
theorem t_Reader_read : z_chkM 19 b_Reader_read = true := by decide +kernel
def b_Reader_fail : List BK := [(0, [(0, .aload_n 0, 0, 0), (1, .bipush 8, 8, 0), (3, .iload_n 1, 0, 0), (4, .imul, 0, 0), (5, .iload_n 2, 0, 0), (6, .iadd, 0, 0), (7, .putfield 27, 4, 4), (10, .return_, 0, 0)], 11)]
theorem t_Reader_fail : z_chkM 20 b_Reader_fail = true := by decide +kernel
def b_Reader_skipBlanks : List BK := [(0, [(0, .aload_n 0, 0, 0), (1, .getfield 23, 3, 4), (4, .aload_n 0, 0, 0), (5, .getfield 9, 0, 4), (8, .getfield 41, 1, 7), (11, .if_icmp .ge 32, 43, 0)], 14),
  (14, [(14, .aload_n 0, 0, 0), (15, .getfield 9, 0, 4), (18, .aload_n 0, 0, 0), (19, .getfield 23, 3, 4), (22, .invokevirtual 53, 70, 2), (25, .bipush 32, 32, 0), (27, .if_icmp .ne 16, 43, 0)], 30),
  (30, [(30, .aload_n 0, 0, 0), (31, .dup, 0, 0), (32, .getfield 23, 3, 4), (35, .iconst 1, 1, 0), (36, .iadd, 0, 0), (37, .putfield 23, 3, 4), (40, .goto (-40), 0, 0)], 43),
  (43, [(43, .return_, 0, 0)], 44)]
theorem t_Reader_skipBlanks : z_chkM 21 b_Reader_skipBlanks = true := by decide +kernel
def b_Reader_readSemicolon : List BK := [(0, [(0, .aload_n 0, 0, 0), (1, .getfield 23, 3, 4), (4, .aload_n 0, 0, 0), (5, .getfield 9, 0, 4), (8, .getfield 41, 1, 7), (11, .if_icmp .lt 5, 16, 0)], 14),
  (14, [(14, .iconst 0, 0, 0), (15, .ireturn, 0, 0)], 16),
  (16, [(16, .aload_n 0, 0, 0), (17, .getfield 9, 0, 4), (20, .aload_n 0, 0, 0), (21, .getfield 23, 3, 4), (24, .invokevirtual 53, 70, 2), (27, .bipush 59, 59, 0), (29, .if_icmp .eq 14, 43, 0)], 32),
  (32, [(32, .aload_n 0, 0, 0), (33, .aload_n 0, 0, 0), (34, .getfield 23, 3, 4), (37, .iconst 1, 1, 0), (38, .invokevirtual 57, 20, 3), (41, .iconst 0, 0, 0), (42, .ireturn, 0, 0)], 43),
  (43, [(43, .aload_n 0, 0, 0), (44, .dup, 0, 0), (45, .getfield 23, 3, 4), (48, .iconst 1, 1, 0), (49, .iadd, 0, 0), (50, .putfield 23, 3, 4), (53, .aload_n 0, 0, 0), (54, .invokevirtual 38, 21, 1), (57, .iconst 1, 1, 0), (58, .ireturn, 0, 0)], 59)]
theorem t_Reader_readSemicolon : z_chkM 22 b_Reader_readSemicolon = true := by decide +kernel
def b_Reader_readPart : List BK := [(0, [(0, .aload_n 0, 0, 0), (1, .invokevirtual 61, 24, 1), (4, .istore_n 1, 0, 0), (5, .aload_n 0, 0, 0), (6, .iload_n 1, 0, 0), (7, .invokevirtual 65, 25, 2), (10, .istore_n 2, 0, 0), (11, .iload_n 2, 0, 0), (12, .iconst (-1), 1, 1), (13, .if_icmp .ne 13, 26, 0)], 16),
  (16, [(16, .aload_n 0, 0, 0), (17, .aload_n 0, 0, 0), (18, .getfield 23, 3, 4), (21, .iconst 1, 1, 0), (22, .invokevirtual 57, 20, 3), (25, .return_, 0, 0)], 26),
  (26, [(26, .aload_n 0, 0, 0), (27, .iload_n 2, 0, 0), (28, .invokevirtual 68, 27, 2), (31, .ifCond .eq 13, 44, 0)], 34),
  (34, [(34, .aload_n 0, 0, 0), (35, .aload_n 0, 0, 0), (36, .getfield 23, 3, 4), (39, .iconst 3, 3, 0), (40, .invokevirtual 57, 20, 3), (43, .return_, 0, 0)], 44),
  (44, [(44, .aload_n 0, 0, 0), (45, .dup, 0, 0), (46, .getfield 23, 3, 4), (49, .iload_n 1, 0, 0), (50, .iadd, 0, 0), (51, .putfield 23, 3, 4), (54, .iload_n 2, 0, 0), (55, .invokestatic 72, 28, 1), (58, .astore_n 3, 0, 0), (59, .iconst 0, 0, 0), (60, .istore 4, 0, 0)], 62),
  (62, [(62, .iload 4, 0, 0), (64, .aload_n 3, 0, 0), (65, .invokevirtual 76, 276, 1), (68, .if_icmp .ge 56, 124, 0)], 71),
  (71, [(71, .iload 4, 0, 0), (73, .iconst 5, 5, 0), (74, .if_icmp .ge 50, 124, 0)], 77),
  (77, [(77, .aload_n 0, 0, 0), (78, .getfield 27, 4, 4), (81, .ifCond .ne 43, 124, 0)], 84),
  (84, [(84, .aload_n 0, 0, 0), (85, .invokevirtual 38, 21, 1), (88, .aload_n 0, 0, 0), (89, .aload_n 3, 0, 0), (90, .iload 4, 0, 0), (92, .invokevirtual 81, 272, 2), (95, .iload 4, 0, 0), (97, .ifCond .ne 7, 104, 0)], 100),
  (100, [(100, .iconst (-1), 1, 1), (101, .goto 12, 113, 0)], 104),
  (104, [(104, .aload_n 0, 0, 0), (105, .getfield 19, 2, 4), (108, .iload 4, 0, 0), (110, .iconst 1, 1, 0), (111, .isub, 0, 0), (112, .iaload, 0, 0)], 113),
  (113, [(113, .iload 4, 0, 0), (115, .invokevirtual 85, 30, 4), (118, .iinc 4 1, 1, 0), (121, .goto (-59), 62, 0)], 124),
  (124, [(124, .aload_n 0, 0, 0), (125, .getfield 27, 4, 4), (128, .ifCond .ne 12, 140, 0)], 131),
  (131, [(131, .aload_n 0, 0, 0), (132, .invokevirtual 38, 21, 1), (135, .aload_n 0, 0, 0), (136, .iload_n 2, 0, 0), (137, .invokevirtual 89, 31, 2)], 140),
  (140, [(140, .return_, 0, 0)], 141)]
theorem t_Reader_readPart : z_chkM 23 b_Reader_readPart = true := by decide +kernel
def b_Reader_wordLength : List BK := [(0, [(0, .aload_n 0, 0, 0), (1, .getfield 23, 3, 4), (4, .istore_n 1, 0, 0)], 5),
  (5, [(5, .iload_n 1, 0, 0), (6, .aload_n 0, 0, 0), (7, .getfield 9, 0, 4), (10, .getfield 41, 1, 7), (13, .if_icmp .ge 35, 48, 0)], 16),
  (16, [(16, .aload_n 0, 0, 0), (17, .getfield 9, 0, 4), (20, .iload_n 1, 0, 0), (21, .invokevirtual 53, 70, 2), (24, .bipush 97, 97, 0), (26, .if_icmp .lt 22, 48, 0)], 29),
  (29, [(29, .aload_n 0, 0, 0), (30, .getfield 9, 0, 4), (33, .iload_n 1, 0, 0), (34, .invokevirtual 53, 70, 2), (37, .bipush 122, 122, 0), (39, .if_icmp .gt 9, 48, 0)], 42),
  (42, [(42, .iinc 1 1, 1, 0), (45, .goto (-40), 5, 0)], 48),
  (48, [(48, .iload_n 1, 0, 0), (49, .aload_n 0, 0, 0), (50, .getfield 23, 3, 4), (53, .isub, 0, 0), (54, .ireturn, 0, 0)], 55)]
theorem t_Reader_wordLength : z_chkM 24 b_Reader_wordLength = true := by decide +kernel
def b_Reader_partNamed : List BK := [(0, [(0, .iconst 0, 0, 0), (1, .istore_n 2, 0, 0)], 2),
  (2, [(2, .iload_n 2, 0, 0), (3, .bipush 9, 9, 0), (5, .if_icmp .ge 27, 32, 0)], 8),
  (8, [(8, .iload_n 1, 0, 0), (9, .ifCond .le 17, 26, 0)], 12),
  (12, [(12, .aload_n 0, 0, 0), (13, .iload_n 2, 0, 0), (14, .invokestatic 93, 145, 1), (17, .iload_n 1, 0, 0), (18, .invokevirtual 96, 26, 3), (21, .ifCond .eq 5, 26, 0)], 24),
  (24, [(24, .iload_n 2, 0, 0), (25, .ireturn, 0, 0)], 26),
  (26, [(26, .iinc 2 1, 1, 0), (29, .goto (-27), 2, 0)], 32),
  (32, [(32, .iconst (-1), 1, 1), (33, .ireturn, 0, 0)], 34)]
theorem t_Reader_partNamed : z_chkM 25 b_Reader_partNamed = true := by decide +kernel
def b_Reader_isWord : List BK := [(0, [(0, .aload_n 1, 0, 0), (1, .invokevirtual 76, 276, 1), (4, .iload_n 2, 0, 0), (5, .if_icmp .eq 5, 10, 0)], 8),
  (8, [(8, .iconst 0, 0, 0), (9, .ireturn, 0, 0)], 10),
  (10, [(10, .iconst 0, 0, 0), (11, .istore_n 3, 0, 0)], 12),
  (12, [(12, .iload_n 3, 0, 0), (13, .iload_n 2, 0, 0), (14, .if_icmp .ge 32, 46, 0)], 17),
  (17, [(17, .aload_n 0, 0, 0), (18, .getfield 9, 0, 4), (21, .aload_n 0, 0, 0), (22, .getfield 23, 3, 4), (25, .iload_n 3, 0, 0), (26, .iadd, 0, 0), (27, .invokevirtual 53, 70, 2), (30, .aload_n 1, 0, 0), (31, .iload_n 3, 0, 0), (32, .invokevirtual 81, 272, 2), (35, .if_icmp .eq 5, 40, 0)], 38),
  (38, [(38, .iconst 0, 0, 0), (39, .ireturn, 0, 0)], 40),
  (40, [(40, .iinc 3 1, 1, 0), (43, .goto (-31), 12, 0)], 46),
  (46, [(46, .iconst 1, 1, 0), (47, .ireturn, 0, 0)], 48)]
theorem t_Reader_isWord : z_chkM 26 b_Reader_isWord = true := by decide +kernel
def b_Reader_isTold : List BK := [(0, [(0, .iload_n 1, 0, 0), (1, .bipush 6, 6, 0), (3, .if_icmp .ge 14, 17, 0)], 6),
  (6, [(6, .aload_n 0, 0, 0), (7, .getfield 15, 1, 4), (10, .iload_n 1, 0, 0), (11, .invokevirtual 100, 51, 2), (14, .goto 14, 28, 0)], 17),
  (17, [(17, .aload_n 0, 0, 0), (18, .getfield 30, 5, 4), (21, .iload_n 1, 0, 0), (22, .bipush 6, 6, 0), (24, .isub, 0, 0), (25, .invokestatic 103, 130, 2)], 28),
  (28, [(28, .ireturn, 0, 0)], 29)]
theorem t_Reader_isTold : z_chkM 27 b_Reader_isTold = true := by decide +kernel
def b_Reader_signsOf : List BK := [(0, [(0, .iload_n 0, 0, 0), (1, .tableswitch 75 0 8 #[51, 54, 57, 60, 63, 75, 66, 69, 72], 0, 0)], 52),
  (52, [(52, .ldc 107, 11, 0), (54, .areturn, 0, 0)], 55),
  (55, [(55, .ldc 109, 7, 0), (57, .areturn, 0, 0)], 58),
  (58, [(58, .ldc 111, 8, 0), (60, .areturn, 0, 0)], 61),
  (61, [(61, .ldc 113, 9, 0), (63, .areturn, 0, 0)], 64),
  (64, [(64, .ldc 115, 15, 0), (66, .areturn, 0, 0)], 67),
  (67, [(67, .ldc 117, 16, 0), (69, .areturn, 0, 0)], 70),
  (70, [(70, .ldc 119, 3, 0), (72, .areturn, 0, 0)], 73),
  (73, [(73, .ldc 121, 6, 0), (75, .areturn, 0, 0)], 76),
  (76, [(76, .ldc 123, 0, 0), (78, .areturn, 0, 0)], 79)]
theorem t_Reader_signsOf : z_chkM 28 b_Reader_signsOf = true := by decide +kernel
def b_Reader_fits : List BK := [(0, [(0, .iload_n 1, 0, 0), (1, .tableswitch 248 99 119 #[218, 160, 248, 147, 248, 248, 233, 248, 248, 178, 248, 118, 248, 99, 248, 248, 248, 130, 99, 191, 203], 0, 0)], 100),
  (100, [(100, .iload_n 2, 0, 0), (101, .aload_n 0, 0, 0), (102, .getfield 15, 1, 4), (105, .getfield 125, 1, 6), (108, .iconst 4, 4, 0), (109, .iaload, 0, 0), (110, .if_icmp .ge 7, 117, 0)], 113),
  (113, [(113, .iconst 1, 1, 0), (114, .goto 4, 118, 0)], 117),
  (117, [(117, .iconst 0, 0, 0)], 118),
  (118, [(118, .ireturn, 0, 0)], 119),
  (119, [(119, .iload_n 2, 0, 0), (120, .bipush 16, 16, 0), (122, .if_icmp .ge 7, 129, 0)], 125),
  (125, [(125, .iconst 1, 1, 0), (126, .goto 4, 130, 0)], 129),
  (129, [(129, .iconst 0, 0, 0)], 130),
  (130, [(130, .ireturn, 0, 0)], 131),
  (131, [(131, .iload_n 2, 0, 0), (132, .bipush 16, 16, 0), (134, .if_icmp .ge 12, 146, 0)], 137),
  (137, [(137, .iload_n 2, 0, 0), (138, .iload_n 3, 0, 0), (139, .if_icmp .eq 7, 146, 0)], 142),
  (142, [(142, .iconst 1, 1, 0), (143, .goto 4, 147, 0)], 146),
  (146, [(146, .iconst 0, 0, 0)], 147),
  (147, [(147, .ireturn, 0, 0)], 148),
  (148, [(148, .iload_n 2, 0, 0), (149, .sipush 1000, 1000, 0), (152, .if_icmp .ge 7, 159, 0)], 155),
  (155, [(155, .iconst 1, 1, 0), (156, .goto 4, 160, 0)], 159),
  (159, [(159, .iconst 0, 0, 0)], 160),
  (160, [(160, .ireturn, 0, 0)], 161),
  (161, [(161, .iload_n 2, 0, 0), (162, .sipush 1000, 1000, 0), (165, .if_icmp .ge 12, 177, 0)], 168),
  (168, [(168, .iload_n 2, 0, 0), (169, .iload_n 3, 0, 0), (170, .if_icmp .lt 7, 177, 0)], 173),
  (173, [(173, .iconst 1, 1, 0), (174, .goto 4, 178, 0)], 177),
  (177, [(177, .iconst 0, 0, 0)], 178),
  (178, [(178, .ireturn, 0, 0)], 179),
  (179, [(179, .iload_n 2, 0, 0), (180, .sipush 9999, 9999, 0), (183, .if_icmp .gt 7, 190, 0)], 186),
  (186, [(186, .iconst 1, 1, 0), (187, .goto 4, 191, 0)], 190),
  (190, [(190, .iconst 0, 0, 0)], 191),
  (191, [(191, .ireturn, 0, 0)], 192),
  (192, [(192, .iload_n 2, 0, 0), (193, .bipush 10, 10, 0), (195, .if_icmp .ge 7, 202, 0)], 198),
  (198, [(198, .iconst 1, 1, 0), (199, .goto 4, 203, 0)], 202),
  (202, [(202, .iconst 0, 0, 0)], 203),
  (203, [(203, .ireturn, 0, 0)], 204),
  (204, [(204, .iload_n 2, 0, 0), (205, .getstatic 128, 5, 1), (208, .iconst 0, 0, 0), (209, .iaload, 0, 0), (210, .if_icmp .gt 7, 217, 0)], 213),
  (213, [(213, .iconst 1, 1, 0), (214, .goto 4, 218, 0)], 217),
  (217, [(217, .iconst 0, 0, 0)], 218),
  (218, [(218, .ireturn, 0, 0)], 219),
  (219, [(219, .iload_n 2, 0, 0), (220, .getstatic 128, 5, 1), (223, .iconst 1, 1, 0), (224, .iaload, 0, 0), (225, .if_icmp .gt 7, 232, 0)], 228),
  (228, [(228, .iconst 1, 1, 0), (229, .goto 4, 233, 0)], 232),
  (232, [(232, .iconst 0, 0, 0)], 233),
  (233, [(233, .ireturn, 0, 0)], 234),
  (234, [(234, .iload_n 2, 0, 0), (235, .getstatic 128, 5, 1), (238, .iconst 2, 2, 0), (239, .iaload, 0, 0), (240, .if_icmp .gt 7, 247, 0)], 243),
  (243, [(243, .iconst 1, 1, 0), (244, .goto 4, 248, 0)], 247),
  (247, [(247, .iconst 0, 0, 0)], 248),
  (248, [(248, .ireturn, 0, 0)], 249),
  (249, [(249, .iconst 0, 0, 0), (250, .ireturn, 0, 0)], 251)]
theorem t_Reader_fits : z_chkM 29 b_Reader_fits = true := by decide +kernel
def b_Reader_readNumber : List BK := [(0, [(0, .aload_n 0, 0, 0), (1, .getfield 23, 3, 4), (4, .istore 4, 0, 0), (6, .iload_n 1, 0, 0), (7, .bipush 117, 117, 0), (9, .if_icmp .ne 35, 44, 0)], 12),
  (12, [(12, .aload_n 0, 0, 0), (13, .ldc 131, 14, 0), (15, .aload_n 0, 0, 0), (16, .invokevirtual 61, 24, 1), (19, .invokevirtual 96, 26, 3), (22, .ifCond .eq 22, 44, 0)], 25),
  (25, [(25, .aload_n 0, 0, 0), (26, .dup, 0, 0), (27, .getfield 23, 3, 4), (30, .iconst 3, 3, 0), (31, .iadd, 0, 0), (32, .putfield 23, 3, 4), (35, .aload_n 0, 0, 0), (36, .getfield 19, 2, 4), (39, .iload_n 3, 0, 0), (40, .bipush (-2), 2, 1), (42, .iastore, 0, 0), (43, .return_, 0, 0)], 44),
  (44, [(44, .iconst 0, 0, 0), (45, .istore 5, 0, 0)], 47),
  (47, [(47, .aload_n 0, 0, 0), (48, .getfield 23, 3, 4), (51, .aload_n 0, 0, 0), (52, .getfield 9, 0, 4), (55, .getfield 41, 1, 7), (58, .if_icmp .ge 75, 133, 0)], 61),
  (61, [(61, .aload_n 0, 0, 0), (62, .getfield 9, 0, 4), (65, .aload_n 0, 0, 0), (66, .getfield 23, 3, 4), (69, .invokevirtual 53, 70, 2), (72, .bipush 48, 48, 0), (74, .if_icmp .lt 59, 133, 0)], 77),
  (77, [(77, .aload_n 0, 0, 0), (78, .getfield 9, 0, 4), (81, .aload_n 0, 0, 0), (82, .getfield 23, 3, 4), (85, .invokevirtual 53, 70, 2), (88, .bipush 57, 57, 0), (90, .if_icmp .gt 43, 133, 0)], 93),
  (93, [(93, .ldc 133, 100000, 1), (95, .bipush 10, 10, 0), (97, .iload 5, 0, 0), (99, .imul, 0, 0), (100, .aload_n 0, 0, 0), (101, .getfield 9, 0, 4), (104, .aload_n 0, 0, 0), (105, .getfield 23, 3, 4), (108, .invokevirtual 53, 70, 2), (111, .iadd, 0, 0), (112, .bipush 48, 48, 0), (114, .isub, 0, 0), (115, .invokestatic 134, 1001, 0), (118, .istore 5, 0, 0), (120, .aload_n 0, 0, 0), (121, .dup, 0, 0), (122, .getfield 23, 3, 4), (125, .iconst 1, 1, 0), (126, .iadd, 0, 0), (127, .putfield 23, 3, 4), (130, .goto (-83), 47, 0)], 133),
  (133, [(133, .aload_n 0, 0, 0), (134, .getfield 23, 3, 4), (137, .iload 4, 0, 0), (139, .if_icmp .ne 13, 152, 0)], 142),
  (142, [(142, .aload_n 0, 0, 0), (143, .iload 4, 0, 0), (145, .iconst 1, 1, 0), (146, .invokevirtual 57, 20, 3), (149, .goto 21, 170, 0)], 152),
  (152, [(152, .aload_n 0, 0, 0), (153, .iload_n 1, 0, 0), (154, .iload 5, 0, 0), (156, .iload_n 2, 0, 0), (157, .invokevirtual 140, 29, 4), (160, .ifCond .ne 10, 170, 0)], 163),
  (163, [(163, .aload_n 0, 0, 0), (164, .iload 4, 0, 0), (166, .iconst 2, 2, 0), (167, .invokevirtual 57, 20, 3)], 170),
  (170, [(170, .aload_n 0, 0, 0), (171, .getfield 19, 2, 4), (174, .iload_n 3, 0, 0), (175, .iload 5, 0, 0), (177, .iastore, 0, 0), (178, .return_, 0, 0)], 179)]
theorem t_Reader_readNumber : z_chkM 30 b_Reader_readNumber = true := by decide +kernel
def b_Reader_take : List BK := [(0, [(0, .iload_n 1, 0, 0), (1, .bipush 6, 6, 0), (3, .if_icmp .ge 45, 48, 0)], 6),
  (6, [(6, .aload_n 0, 0, 0), (7, .getfield 15, 1, 4), (10, .iload_n 1, 0, 0), (11, .aload_n 0, 0, 0), (12, .getfield 19, 2, 4), (15, .iconst 0, 0, 0), (16, .iaload, 0, 0), (17, .aload_n 0, 0, 0), (18, .getfield 19, 2, 4), (21, .iconst 1, 1, 0), (22, .iaload, 0, 0), (23, .aload_n 0, 0, 0), (24, .getfield 19, 2, 4), (27, .iconst 2, 2, 0), (28, .iaload, 0, 0), (29, .aload_n 0, 0, 0), (30, .getfield 19, 2, 4), (33, .iconst 3, 3, 0), (34, .iaload, 0, 0), (35, .aload_n 0, 0, 0), (36, .getfield 19, 2, 4), (39, .iconst 4, 4, 0), (40, .iaload, 0, 0), (41, .invokevirtual 144, 54, 7), (44, .pop, 0, 0), (45, .goto 36, 81, 0)], 48),
  (48, [(48, .aload_n 0, 0, 0), (49, .getfield 15, 1, 4), (52, .getfield 148, 2, 6), (55, .iload_n 1, 0, 0), (56, .bipush 6, 6, 0), (58, .isub, 0, 0), (59, .aload_n 0, 0, 0), (60, .getfield 19, 2, 4), (63, .iconst 0, 0, 0), (64, .iaload, 0, 0), (65, .iastore, 0, 0), (66, .aload_n 0, 0, 0), (67, .dup, 0, 0), (68, .getfield 30, 5, 4), (71, .iconst 1, 1, 0), (72, .iload_n 1, 0, 0), (73, .bipush 6, 6, 0), (75, .isub, 0, 0), (76, .ishl, 0, 0), (77, .ior, 0, 0), (78, .putfield 30, 5, 4)], 81),
  (81, [(81, .return_, 0, 0)], 82)]
theorem t_Reader_take : z_chkM 31 b_Reader_take = true := by decide +kernel
def b_Route_init : List BK := [(0, [(0, .aload_n 0, 0, 0), (1, .invokespecial 3, 1003, 0), (4, .aload_n 0, 0, 0), (5, .aload_n 1, 0, 0), (6, .putfield 9, 0, 5), (9, .aload_n 0, 0, 0), (10, .aload_n 2, 0, 0), (11, .putfield 15, 1, 5), (14, .aload_n 0, 0, 0), (15, .bipush 72, 72, 0), (17, .newarray .int, 0, 0), (19, .putfield 19, 2, 5), (22, .aload_n 0, 0, 0), (23, .sipush 192, 192, 0), (26, .newarray .int, 0, 0), (28, .putfield 23, 3, 5), (31, .aload_n 0, 0, 0), (32, .iconst 0, 0, 0), (33, .putfield 26, 4, 5), (36, .return_, 0, 0)], 37)]
theorem t_Route_init : z_chkM 32 b_Route_init = true := by decide +kernel
def b_Route_follow : List BK := [(0, [(0, .aload_n 0, 0, 0), (1, .iconst 0, 0, 0), (2, .putfield 26, 4, 5), (5, .aload_n 1, 0, 0), (6, .getfield 30, 3, 2), (9, .istore_n 2, 0, 0), (10, .aload_n 1, 0, 0), (11, .getfield 35, 4, 2), (14, .istore_n 3, 0, 0), (15, .iconst 0, 0, 0), (16, .istore 4, 0, 0)], 18),
  (18, [(18, .iload 4, 0, 0), (20, .bipush 12, 12, 0), (22, .if_icmp .ge 70, 92, 0)], 25),
  (25, [(25, .aload_n 0, 0, 0), (26, .getfield 9, 0, 5), (29, .iconst 4, 4, 0), (30, .iload_n 2, 0, 0), (31, .invokevirtual 38, 50, 3), (34, .ifCond .eq 58, 92, 0)], 37),
  (37, [(37, .iload_n 3, 0, 0), (38, .sipush 1000, 1000, 0), (41, .if_icmp .ge 51, 92, 0)], 44),
  (44, [(44, .aload_n 0, 0, 0), (45, .aload_n 1, 0, 0), (46, .iload_n 2, 0, 0), (47, .iload_n 3, 0, 0), (48, .invokevirtual 44, 36, 4), (51, .aload_n 0, 0, 0), (52, .invokevirtual 48, 41, 1), (55, .ifCond .eq 4, 59, 0)], 58),
  (58, [(58, .return_, 0, 0)], 59),
  (59, [(59, .aload_n 0, 0, 0), (60, .getfield 9, 0, 5), (63, .iconst 4, 4, 0), (64, .iload_n 2, 0, 0), (65, .iconst 0, 0, 0), (66, .invokevirtual 52, 52, 4), (69, .istore_n 2, 0, 0), (70, .aload_n 0, 0, 0), (71, .iconst 1, 1, 0), (72, .invokevirtual 56, 39, 2), (75, .aload_n 0, 0, 0), (76, .getfield 9, 0, 5), (79, .getfield 60, 2, 6), (82, .iconst 1, 1, 0), (83, .iaload, 0, 0), (84, .iadd, 0, 0), (85, .istore_n 3, 0, 0), (86, .iinc 4 1, 1, 0), (89, .goto (-71), 18, 0)], 92),
  (92, [(92, .return_, 0, 0)], 93)]
theorem t_Route_follow : z_chkM 33 b_Route_follow = true := by decide +kernel
def b_Route_climb : List BK := [(0, [(0, .aload_n 1, 0, 0), (1, .sipush 10000, 10000, 0), (4, .putfield 63, 5, 2), (7, .aload_n 0, 0, 0), (8, .aload_n 1, 0, 0), (9, .invokevirtual 66, 33, 2), (12, .return_, 0, 0)], 13)]
theorem t_Route_climb : z_chkM 34 b_Route_climb = true := by decide +kernel
def b_Route_limitOfFirstStep : List BK := [(0, [(0, .aload_n 0, 0, 0), (1, .iconst 0, 0, 0), (2, .putfield 26, 4, 5), (5, .aload_n 0, 0, 0), (6, .aload_n 1, 0, 0), (7, .iload_n 2, 0, 0), (8, .iload_n 3, 0, 0), (9, .invokevirtual 44, 36, 4), (12, .aload_n 0, 0, 0), (13, .iconst 0, 0, 0), (14, .iconst 3, 3, 0), (15, .invokevirtual 70, 38, 3), (18, .ireturn, 0, 0)], 19)]
theorem t_Route_limitOfFirstStep : z_chkM 35 b_Route_limitOfFirstStep = true := by decide +kernel
def b_Route_takeStep : List BK := [(0, [(0, .iload_n 3, 0, 0), (1, .aload_n 0, 0, 0), (2, .getfield 9, 0, 5), (5, .getfield 60, 2, 6), (8, .iconst 2, 2, 0), (9, .iaload, 0, 0), (10, .iadd, 0, 0), (11, .sipush 999, 999, 0), (14, .invokestatic 73, 1001, 0), (17, .istore 4, 0, 0), (19, .aload_n 0, 0, 0), (20, .getfield 15, 1, 5), (23, .aload_n 1, 0, 0), (24, .iload_n 2, 0, 0), (25, .iload_n 3, 0, 0), (26, .invokevirtual 78, 1, 4), (29, .istore 5, 0, 0), (31, .aload_n 0, 0, 0), (32, .getfield 15, 1, 5), (35, .getfield 84, 8, 0), (38, .istore 6, 0, 0), (40, .iload_n 3, 0, 0), (41, .istore 7, 0, 0)], 43),
  (43, [(43, .iload 5, 0, 0), (45, .ifCond .ne 49, 94, 0)], 48),
  (48, [(48, .iload 7, 0, 0), (50, .iload 4, 0, 0), (52, .if_icmp .ge 42, 94, 0)], 55),
  (55, [(55, .iload 7, 0, 0), (57, .iconst 1, 1, 0), (58, .iadd, 0, 0), (59, .iload 4, 0, 0), (61, .aload_n 0, 0, 0), (62, .getfield 9, 0, 5), (65, .iload 7, 0, 0), (67, .invokevirtual 87, 64, 2), (70, .invokestatic 73, 1001, 0), (73, .invokestatic 90, 1000, 0), (76, .istore 7, 0, 0), (78, .aload_n 0, 0, 0), (79, .getfield 15, 1, 5), (82, .aload_n 1, 0, 0), (83, .iload_n 2, 0, 0), (84, .iload 7, 0, 0), (86, .invokevirtual 78, 1, 4), (89, .istore 5, 0, 0), (91, .goto (-48), 43, 0)], 94),
  (94, [(94, .aload_n 0, 0, 0), (95, .getfield 26, 4, 5), (98, .bipush 6, 6, 0), (100, .imul, 0, 0), (101, .istore 8, 0, 0), (103, .aload_n 0, 0, 0), (104, .getfield 19, 2, 5), (107, .iload 8, 0, 0), (109, .iconst 0, 0, 0), (110, .iadd, 0, 0), (111, .iload_n 2, 0, 0), (112, .iastore, 0, 0), (113, .aload_n 0, 0, 0), (114, .getfield 19, 2, 5), (117, .iload 8, 0, 0), (119, .iconst 1, 1, 0), (120, .iadd, 0, 0), (121, .iload 7, 0, 0), (123, .iastore, 0, 0), (124, .aload_n 0, 0, 0), (125, .getfield 19, 2, 5), (128, .iload 8, 0, 0), (130, .iconst 2, 2, 0), (131, .iadd, 0, 0), (132, .iload 5, 0, 0), (134, .ifCond .eq 13, 147, 0)], 137),
  (137, [(137, .aload_n 0, 0, 0), (138, .getfield 15, 1, 5), (141, .invokevirtual 93, 4, 1), (144, .goto 5, 149, 0)], 147),
  (147, [(147, .bipush (-2), 2, 1)], 149),
  (149, [(149, .iastore, 0, 0), (150, .aload_n 0, 0, 0), (151, .getfield 19, 2, 5), (154, .iload 8, 0, 0), (156, .iconst 3, 3, 0), (157, .iadd, 0, 0), (158, .iload 5, 0, 0), (160, .ifCond .eq 13, 173, 0)], 163),
  (163, [(163, .aload_n 0, 0, 0), (164, .getfield 15, 1, 5), (167, .getfield 97, 7, 0), (170, .goto 5, 175, 0)], 173),
  (173, [(173, .bipush (-2), 2, 1)], 175),
  (175, [(175, .iastore, 0, 0), (176, .aload_n 0, 0, 0), (177, .getfield 19, 2, 5), (180, .iload 8, 0, 0), (182, .iconst 5, 5, 0), (183, .iadd, 0, 0), (184, .iload 5, 0, 0), (186, .ifCond .eq 13, 199, 0)], 189),
  (189, [(189, .aload_n 0, 0, 0), (190, .getfield 15, 1, 5), (193, .getfield 100, 6, 0), (196, .goto 5, 201, 0)], 199),
  (199, [(199, .bipush (-2), 2, 1)], 201),
  (201, [(201, .iastore, 0, 0), (202, .iload 5, 0, 0), (204, .ifCond .eq 79, 283, 0)], 207),
  (207, [(207, .aload_n 0, 0, 0), (208, .getfield 19, 2, 5), (211, .iload 8, 0, 0), (213, .iconst 4, 4, 0), (214, .iadd, 0, 0), (215, .aload_n 0, 0, 0), (216, .getfield 15, 1, 5), (219, .getfield 97, 7, 0), (222, .aload_n 1, 0, 0), (223, .getfield 63, 5, 2), (226, .if_icmp .lt 7, 233, 0)], 229),
  (229, [(229, .iconst 0, 0, 0), (230, .goto 4, 234, 0)], 233),
  (233, [(233, .iconst 1, 1, 0)], 234),
  (234, [(234, .iastore, 0, 0), (235, .iconst 0, 0, 0), (236, .istore 9, 0, 0)], 238),
  (238, [(238, .iload 9, 0, 0), (240, .aload_n 0, 0, 0), (241, .getfield 15, 1, 5), (244, .getfield 100, 6, 0), (247, .if_icmp .gt 33, 280, 0)], 250),
  (250, [(250, .aload_n 0, 0, 0), (251, .getfield 23, 3, 5), (254, .aload_n 0, 0, 0), (255, .getfield 26, 4, 5), (258, .bipush 16, 16, 0), (260, .imul, 0, 0), (261, .iload 9, 0, 0), (263, .iadd, 0, 0), (264, .aload_n 0, 0, 0), (265, .getfield 15, 1, 5), (268, .iload 9, 0, 0), (270, .invokevirtual 103, 3, 2), (273, .iastore, 0, 0), (274, .iinc 9 1, 1, 0), (277, .goto (-39), 238, 0)], 280),
  (280, [(280, .goto 14, 294, 0)], 283),
  (283, [(283, .aload_n 0, 0, 0), (284, .getfield 19, 2, 5), (287, .iload 8, 0, 0), (289, .iconst 4, 4, 0), (290, .iadd, 0, 0), (291, .iload 6, 0, 0), (293, .iastore, 0, 0)], 294),
  (294, [(294, .aload_n 0, 0, 0), (295, .dup, 0, 0), (296, .getfield 26, 4, 5), (299, .iconst 1, 1, 0), (300, .iadd, 0, 0), (301, .putfield 26, 4, 5), (304, .return_, 0, 0)], 305)]
theorem t_Route_takeStep : z_chkM 36 b_Route_takeStep = true := by decide +kernel
def b_Route_has : List BK := [(0, [(0, .iload_n 1, 0, 0), (1, .ifCond .lt 15, 16, 0)], 4),
  (4, [(4, .iload_n 1, 0, 0), (5, .aload_n 0, 0, 0), (6, .getfield 26, 4, 5), (9, .if_icmp .ge 7, 16, 0)], 12),
  (12, [(12, .iconst 1, 1, 0), (13, .goto 4, 17, 0)], 16),
  (16, [(16, .iconst 0, 0, 0)], 17),
  (17, [(17, .ireturn, 0, 0)], 18)]
theorem t_Route_has : z_chkM 37 b_Route_has = true := by decide +kernel
def b_Route_cell : List BK := [(0, [(0, .aload_n 0, 0, 0), (1, .getfield 19, 2, 5), (4, .iload_n 1, 0, 0), (5, .bipush 6, 6, 0), (7, .imul, 0, 0), (8, .iload_n 2, 0, 0), (9, .iadd, 0, 0), (10, .iaload, 0, 0), (11, .ireturn, 0, 0)], 12)]
theorem t_Route_cell : z_chkM 38 b_Route_cell = true := by decide +kernel
def b_Route_lastCell : List BK := [(0, [(0, .aload_n 0, 0, 0), (1, .getfield 26, 4, 5), (4, .ifCond .le 17, 21, 0)], 7),
  (7, [(7, .aload_n 0, 0, 0), (8, .aload_n 0, 0, 0), (9, .getfield 26, 4, 5), (12, .iconst 1, 1, 0), (13, .isub, 0, 0), (14, .iload_n 1, 0, 0), (15, .invokevirtual 70, 38, 3), (18, .goto 4, 22, 0)], 21),
  (21, [(21, .iconst (-1), 1, 1)], 22),
  (22, [(22, .ireturn, 0, 0)], 23)]
theorem t_Route_lastCell : z_chkM 39 b_Route_lastCell = true := by decide +kernel
def b_Route_inLine : List BK := [(0, [(0, .aload_n 0, 0, 0), (1, .getfield 23, 3, 5), (4, .iload_n 1, 0, 0), (5, .bipush 16, 16, 0), (7, .imul, 0, 0), (8, .iload_n 2, 0, 0), (9, .iadd, 0, 0), (10, .iaload, 0, 0), (11, .ireturn, 0, 0)], 12)]
theorem t_Route_inLine : z_chkM 40 b_Route_inLine = true := by decide +kernel
def b_Route_isApproved : List BK := [(0, [(0, .aload_n 0, 0, 0), (1, .iconst 4, 4, 0), (2, .invokevirtual 56, 39, 2), (5, .ifCond .ne 7, 12, 0)], 8),
  (8, [(8, .iconst 1, 1, 0), (9, .goto 4, 13, 0)], 12),
  (12, [(12, .iconst 0, 0, 0)], 13),
  (13, [(13, .ireturn, 0, 0)], 14)]
theorem t_Route_isApproved : z_chkM 41 b_Route_isApproved = true := by decide +kernel
def b_Route_outcome : List BK := [(0, [(0, .iload_n 1, 0, 0), (1, .ifCond .ne 16, 17, 0)], 4),
  (4, [(4, .aload_n 0, 0, 0), (5, .invokevirtual 48, 41, 1), (8, .ifCond .eq 7, 15, 0)], 11),
  (11, [(11, .iconst 1, 1, 0), (12, .goto 4, 16, 0)], 15),
  (15, [(15, .iconst 2, 2, 0)], 16),
  (16, [(16, .ireturn, 0, 0)], 17),
  (17, [(17, .iload_n 1, 0, 0), (18, .iconst 1, 1, 0), (19, .if_icmp .ne 9, 28, 0)], 22),
  (22, [(22, .aload_n 0, 0, 0), (23, .iconst 1, 1, 0), (24, .invokevirtual 56, 39, 2), (27, .ireturn, 0, 0)], 28),
  (28, [(28, .aload_n 0, 0, 0), (29, .invokevirtual 48, 41, 1), (32, .ifCond .eq 11, 43, 0)], 35),
  (35, [(35, .aload_n 0, 0, 0), (36, .iconst 2, 2, 0), (37, .invokevirtual 56, 39, 2), (40, .goto 5, 45, 0)], 43),
  (43, [(43, .bipush (-2), 2, 1)], 45),
  (45, [(45, .ireturn, 0, 0)], 46)]
theorem t_Route_outcome : z_chkM 42 b_Route_outcome = true := by decide +kernel
def b_Route_firstCovering : List BK := [(0, [(0, .iconst 0, 0, 0), (1, .istore_n 2, 0, 0)], 2),
  (2, [(2, .iload_n 2, 0, 0), (3, .aload_n 0, 0, 0), (4, .getfield 26, 4, 5), (7, .if_icmp .ge 21, 28, 0)], 10),
  (10, [(10, .aload_n 0, 0, 0), (11, .iload_n 2, 0, 0), (12, .iconst 3, 3, 0), (13, .invokevirtual 70, 38, 3), (16, .iload_n 1, 0, 0), (17, .if_icmp .lt 5, 22, 0)], 20),
  (20, [(20, .iload_n 2, 0, 0), (21, .ireturn, 0, 0)], 22),
  (22, [(22, .iinc 2 1, 1, 0), (25, .goto (-23), 2, 0)], 28),
  (28, [(28, .iconst (-1), 1, 1), (29, .ireturn, 0, 0)], 30)]
theorem t_Route_firstCovering : z_chkM 43 b_Route_firstCovering = true := by decide +kernel
def b_Route_greatestLimit : List BK := [(0, [(0, .iconst 0, 0, 0), (1, .istore_n 2, 0, 0), (2, .iconst 0, 0, 0), (3, .istore_n 3, 0, 0)], 4),
  (4, [(4, .iload_n 3, 0, 0), (5, .aload_n 0, 0, 0), (6, .getfield 26, 4, 5), (9, .if_icmp .ge 25, 34, 0)], 12),
  (12, [(12, .iload_n 3, 0, 0), (13, .iload_n 1, 0, 0), (14, .if_icmp .gt 20, 34, 0)], 17),
  (17, [(17, .iload_n 2, 0, 0), (18, .aload_n 0, 0, 0), (19, .iload_n 3, 0, 0), (20, .iconst 3, 3, 0), (21, .invokevirtual 70, 38, 3), (24, .invokestatic 90, 1000, 0), (27, .istore_n 2, 0, 0), (28, .iinc 3 1, 1, 0), (31, .goto (-27), 4, 0)], 34),
  (34, [(34, .iload_n 2, 0, 0), (35, .ireturn, 0, 0)], 36)]
theorem t_Route_greatestLimit : z_chkM 44 b_Route_greatestLimit = true := by decide +kernel
def b_Route_doers : List BK := [(0, [(0, .iconst 0, 0, 0), (1, .istore_n 1, 0, 0), (2, .iconst 0, 0, 0), (3, .istore_n 2, 0, 0)], 4),
  (4, [(4, .iload_n 2, 0, 0), (5, .aload_n 0, 0, 0), (6, .getfield 26, 4, 5), (9, .if_icmp .ge 21, 30, 0)], 12),
  (12, [(12, .iload_n 1, 0, 0), (13, .aload_n 0, 0, 0), (14, .iload_n 2, 0, 0), (15, .iconst 2, 2, 0), (16, .invokevirtual 70, 38, 3), (19, .invokestatic 106, 131, 1), (22, .ior, 0, 0), (23, .istore_n 1, 0, 0), (24, .iinc 2 1, 1, 0), (27, .goto (-23), 4, 0)], 30),
  (30, [(30, .iload_n 1, 0, 0), (31, .ireturn, 0, 0)], 32)]
theorem t_Route_doers : z_chkM 45 b_Route_doers = true := by decide +kernel
def b_Route_countsAs : List BK := [(0, [(0, .iload_n 2, 0, 0), (1, .ifCond .ne 5, 6, 0)], 4),
  (4, [(4, .iconst 1, 1, 0), (5, .ireturn, 0, 0)], 6),
  (6, [(6, .iload_n 2, 0, 0), (7, .iconst 1, 1, 0), (8, .if_icmp .ne 20, 28, 0)], 11),
  (11, [(11, .aload_n 0, 0, 0), (12, .iload_n 1, 0, 0), (13, .iconst 4, 4, 0), (14, .invokevirtual 70, 38, 3), (17, .ifCond .ne 7, 24, 0)], 20),
  (20, [(20, .iconst 1, 1, 0), (21, .goto 21, 42, 0)], 24),
  (24, [(24, .iconst 0, 0, 0), (25, .goto 17, 42, 0)], 28),
  (28, [(28, .aload_n 0, 0, 0), (29, .iload_n 1, 0, 0), (30, .iconst 5, 5, 0), (31, .invokevirtual 70, 38, 3), (34, .ifCond .le 7, 41, 0)], 37),
  (37, [(37, .iconst 1, 1, 0), (38, .goto 4, 42, 0)], 41),
  (41, [(41, .iconst 0, 0, 0)], 42),
  (42, [(42, .ireturn, 0, 0)], 43)]
theorem t_Route_countsAs : z_chkM 46 b_Route_countsAs = true := by decide +kernel
def b_State_init : List BK := [(0, [(0, .aload_n 0, 0, 0), (1, .invokespecial 3, 1003, 0), (4, .aload_n 0, 0, 0), (5, .sipush 648, 648, 0), (8, .newarray .int, 0, 0), (10, .putfield 9, 0, 6), (13, .aload_n 0, 0, 0), (14, .bipush 6, 6, 0), (16, .newarray .int, 0, 0), (18, .putfield 15, 1, 6), (21, .aload_n 0, 0, 0), (22, .iconst 3, 3, 0), (23, .newarray .int, 0, 0), (25, .putfield 18, 2, 6), (28, .aload_n 0, 0, 0), (29, .invokevirtual 21, 48, 1), (32, .return_, 0, 0)], 33)]
theorem t_State_init : z_chkM 47 b_State_init = true := by decide +kernel
def b_State_clear : List BK := [(0, [(0, .iconst 0, 0, 0), (1, .istore_n 1, 0, 0)], 2),
  (2, [(2, .iload_n 1, 0, 0), (3, .bipush 6, 6, 0), (5, .if_icmp .ge 16, 21, 0)], 8),
  (8, [(8, .aload_n 0, 0, 0), (9, .getfield 15, 1, 6), (12, .iload_n 1, 0, 0), (13, .iconst 0, 0, 0), (14, .iastore, 0, 0), (15, .iinc 1 1, 1, 0), (18, .goto (-16), 2, 0)], 21),
  (21, [(21, .iconst 0, 0, 0), (22, .istore_n 1, 0, 0)], 23),
  (23, [(23, .iload_n 1, 0, 0), (24, .iconst 3, 3, 0), (25, .if_icmp .ge 20, 45, 0)], 28),
  (28, [(28, .aload_n 0, 0, 0), (29, .getfield 18, 2, 6), (32, .iload_n 1, 0, 0), (33, .getstatic 24, 4, 1), (36, .iload_n 1, 0, 0), (37, .iaload, 0, 0), (38, .iastore, 0, 0), (39, .iinc 1 1, 1, 0), (42, .goto (-19), 23, 0)], 45),
  (45, [(45, .return_, 0, 0)], 46)]
theorem t_State_clear : z_chkM 48 b_State_clear = true := by decide +kernel
def b_State_copyFrom : List BK := [(0, [(0, .iconst 0, 0, 0), (1, .istore_n 2, 0, 0)], 2),
  (2, [(2, .iload_n 2, 0, 0), (3, .bipush 6, 6, 0), (5, .if_icmp .ge 56, 61, 0)], 8),
  (8, [(8, .aload_n 1, 0, 0), (9, .getfield 15, 1, 6), (12, .iload_n 2, 0, 0), (13, .iaload, 0, 0), (14, .getstatic 27, 0, 1), (17, .iload_n 2, 0, 0), (18, .iaload, 0, 0), (19, .imul, 0, 0), (20, .istore_n 3, 0, 0), (21, .aload_n 1, 0, 0), (22, .getfield 9, 0, 6), (25, .getstatic 30, 2, 1), (28, .iload_n 2, 0, 0), (29, .iaload, 0, 0), (30, .aload_n 0, 0, 0), (31, .getfield 9, 0, 6), (34, .getstatic 30, 2, 1), (37, .iload_n 2, 0, 0), (38, .iaload, 0, 0), (39, .iload_n 3, 0, 0), (40, .invokestatic 33, 1002, 0), (43, .aload_n 0, 0, 0), (44, .getfield 15, 1, 6), (47, .iload_n 2, 0, 0), (48, .aload_n 1, 0, 0), (49, .getfield 15, 1, 6), (52, .iload_n 2, 0, 0), (53, .iaload, 0, 0), (54, .iastore, 0, 0), (55, .iinc 2 1, 1, 0), (58, .goto (-56), 2, 0)], 61),
  (61, [(61, .aload_n 1, 0, 0), (62, .getfield 18, 2, 6), (65, .iconst 0, 0, 0), (66, .aload_n 0, 0, 0), (67, .getfield 18, 2, 6), (70, .iconst 0, 0, 0), (71, .iconst 3, 3, 0), (72, .invokestatic 33, 1002, 0), (75, .return_, 0, 0)], 76)]
theorem t_State_copyFrom : z_chkM 49 b_State_copyFrom = true := by decide +kernel
def b_State_has : List BK := [(0, [(0, .iload_n 2, 0, 0), (1, .ifCond .lt 17, 18, 0)], 4),
  (4, [(4, .iload_n 2, 0, 0), (5, .aload_n 0, 0, 0), (6, .getfield 15, 1, 6), (9, .iload_n 1, 0, 0), (10, .iaload, 0, 0), (11, .if_icmp .ge 7, 18, 0)], 14),
  (14, [(14, .iconst 1, 1, 0), (15, .goto 4, 19, 0)], 18),
  (18, [(18, .iconst 0, 0, 0)], 19),
  (19, [(19, .ireturn, 0, 0)], 20)]
theorem t_State_has : z_chkM 50 b_State_has = true := by decide +kernel
def b_State_isFull : List BK := [(0, [(0, .aload_n 0, 0, 0), (1, .getfield 15, 1, 6), (4, .iload_n 1, 0, 0), (5, .iaload, 0, 0), (6, .getstatic 39, 1, 1), (9, .iload_n 1, 0, 0), (10, .iaload, 0, 0), (11, .if_icmp .lt 7, 18, 0)], 14),
  (14, [(14, .iconst 1, 1, 0), (15, .goto 4, 19, 0)], 18),
  (18, [(18, .iconst 0, 0, 0)], 19),
  (19, [(19, .ireturn, 0, 0)], 20)]
theorem t_State_isFull : z_chkM 51 b_State_isFull = true := by decide +kernel
def b_State_cell : List BK := [(0, [(0, .aload_n 0, 0, 0), (1, .getfield 9, 0, 6), (4, .getstatic 30, 2, 1), (7, .iload_n 1, 0, 0), (8, .iaload, 0, 0), (9, .iload_n 2, 0, 0), (10, .getstatic 27, 0, 1), (13, .iload_n 1, 0, 0), (14, .iaload, 0, 0), (15, .imul, 0, 0), (16, .iadd, 0, 0), (17, .iload_n 3, 0, 0), (18, .iadd, 0, 0), (19, .iaload, 0, 0), (20, .ireturn, 0, 0)], 21)]
theorem t_State_cell : z_chkM 52 b_State_cell = true := by decide +kernel
def b_State_put : List BK := [(0, [(0, .aload_n 0, 0, 0), (1, .getfield 9, 0, 6), (4, .getstatic 30, 2, 1), (7, .iload_n 1, 0, 0), (8, .iaload, 0, 0), (9, .iload_n 2, 0, 0), (10, .getstatic 27, 0, 1), (13, .iload_n 1, 0, 0), (14, .iaload, 0, 0), (15, .imul, 0, 0), (16, .iadd, 0, 0), (17, .iload_n 3, 0, 0), (18, .iadd, 0, 0), (19, .iload 4, 0, 0), (21, .iastore, 0, 0), (22, .return_, 0, 0)], 23)]
theorem t_State_put : z_chkM 53 b_State_put = true := by decide +kernel
def b_State_addRow : List BK := [(0, [(0, .aload_n 0, 0, 0), (1, .iload_n 1, 0, 0), (2, .invokevirtual 42, 51, 2), (5, .ifCond .eq 5, 10, 0)], 8),
  (8, [(8, .iconst (-1), 1, 1), (9, .ireturn, 0, 0)], 10),
  (10, [(10, .aload_n 0, 0, 0), (11, .getfield 15, 1, 6), (14, .iload_n 1, 0, 0), (15, .iaload, 0, 0), (16, .istore 7, 0, 0), (18, .getstatic 27, 0, 1), (21, .iload_n 1, 0, 0), (22, .iaload, 0, 0), (23, .istore 8, 0, 0), (25, .aload_n 0, 0, 0), (26, .getfield 15, 1, 6), (29, .iload_n 1, 0, 0), (30, .iload 7, 0, 0), (32, .iconst 1, 1, 0), (33, .iadd, 0, 0), (34, .iastore, 0, 0), (35, .aload_n 0, 0, 0), (36, .iload_n 1, 0, 0), (37, .iload 7, 0, 0), (39, .iconst 0, 0, 0), (40, .iload_n 2, 0, 0), (41, .invokevirtual 46, 53, 5), (44, .aload_n 0, 0, 0), (45, .iload_n 1, 0, 0), (46, .iload 7, 0, 0), (48, .iconst 1, 1, 0), (49, .iload_n 3, 0, 0), (50, .invokevirtual 46, 53, 5), (53, .iload 8, 0, 0), (55, .iconst 2, 2, 0), (56, .if_icmp .le 13, 69, 0)], 59),
  (59, [(59, .aload_n 0, 0, 0), (60, .iload_n 1, 0, 0), (61, .iload 7, 0, 0), (63, .iconst 2, 2, 0), (64, .iload 4, 0, 0), (66, .invokevirtual 46, 53, 5)], 69),
  (69, [(69, .iload 8, 0, 0), (71, .iconst 3, 3, 0), (72, .if_icmp .le 13, 85, 0)], 75),
  (75, [(75, .aload_n 0, 0, 0), (76, .iload_n 1, 0, 0), (77, .iload 7, 0, 0), (79, .iconst 3, 3, 0), (80, .iload 5, 0, 0), (82, .invokevirtual 46, 53, 5)], 85),
  (85, [(85, .iload 8, 0, 0), (87, .iconst 4, 4, 0), (88, .if_icmp .le 13, 101, 0)], 91),
  (91, [(91, .aload_n 0, 0, 0), (92, .iload_n 1, 0, 0), (93, .iload 7, 0, 0), (95, .iconst 4, 4, 0), (96, .iload 6, 0, 0), (98, .invokevirtual 46, 53, 5)], 101),
  (101, [(101, .iload 7, 0, 0), (103, .ireturn, 0, 0)], 104)]
theorem t_State_addRow : z_chkM 54 b_State_addRow = true := by decide +kernel
def b_State_addRequest : List BK := [(0, [(0, .aload_n 0, 0, 0), (1, .iconst 5, 5, 0), (2, .iload_n 1, 0, 0), (3, .iload_n 2, 0, 0), (4, .iload_n 3, 0, 0), (5, .iload 4, 0, 0), (7, .iload 5, 0, 0), (9, .invokevirtual 50, 54, 7), (12, .istore 7, 0, 0), (14, .iload 7, 0, 0), (16, .iconst (-1), 1, 1), (17, .if_icmp .eq 24, 41, 0)], 20),
  (20, [(20, .aload_n 0, 0, 0), (21, .iconst 5, 5, 0), (22, .iload 7, 0, 0), (24, .iconst 5, 5, 0), (25, .iload 6, 0, 0), (27, .invokevirtual 46, 53, 5), (30, .aload_n 0, 0, 0), (31, .iconst 5, 5, 0), (32, .iload 7, 0, 0), (34, .bipush 6, 6, 0), (36, .bipush (-2), 2, 1), (38, .invokevirtual 46, 53, 5)], 41),
  (41, [(41, .iload 7, 0, 0), (43, .ireturn, 0, 0)], 44)]
theorem t_State_addRequest : z_chkM 55 b_State_addRequest = true := by decide +kernel
def b_State_removeRow : List BK := [(0, [(0, .aload_n 0, 0, 0), (1, .iload_n 1, 0, 0), (2, .iload_n 2, 0, 0), (3, .invokevirtual 54, 50, 3), (6, .ifCond .ne 4, 10, 0)], 9),
  (9, [(9, .return_, 0, 0)], 10),
  (10, [(10, .getstatic 27, 0, 1), (13, .iload_n 1, 0, 0), (14, .iaload, 0, 0), (15, .istore_n 3, 0, 0), (16, .getstatic 30, 2, 1), (19, .iload_n 1, 0, 0), (20, .iaload, 0, 0), (21, .iload_n 2, 0, 0), (22, .iload_n 3, 0, 0), (23, .imul, 0, 0), (24, .iadd, 0, 0), (25, .istore 4, 0, 0), (27, .aload_n 0, 0, 0), (28, .getfield 9, 0, 6), (31, .iload 4, 0, 0), (33, .iload_n 3, 0, 0), (34, .iadd, 0, 0), (35, .aload_n 0, 0, 0), (36, .getfield 9, 0, 6), (39, .iload 4, 0, 0), (41, .aload_n 0, 0, 0), (42, .getfield 15, 1, 6), (45, .iload_n 1, 0, 0), (46, .iaload, 0, 0), (47, .iload_n 2, 0, 0), (48, .isub, 0, 0), (49, .iconst 1, 1, 0), (50, .isub, 0, 0), (51, .iload_n 3, 0, 0), (52, .imul, 0, 0), (53, .invokestatic 33, 1002, 0), (56, .aload_n 0, 0, 0), (57, .getfield 15, 1, 6), (60, .iload_n 1, 0, 0), (61, .dup2, 0, 0), (62, .iaload, 0, 0), (63, .iconst 1, 1, 0), (64, .isub, 0, 0), (65, .iastore, 0, 0), (66, .return_, 0, 0)], 67)]
theorem t_State_removeRow : z_chkM 56 b_State_removeRow = true := by decide +kernel
def b_State_isRecalled : List BK := [(0, [(0, .aload_n 0, 0, 0), (1, .iconst 5, 5, 0), (2, .iload_n 1, 0, 0), (3, .bipush 6, 6, 0), (5, .invokevirtual 58, 52, 4), (8, .bipush (-2), 2, 1), (10, .if_icmp .eq 7, 17, 0)], 13),
  (13, [(13, .iconst 1, 1, 0), (14, .goto 4, 18, 0)], 17),
  (17, [(17, .iconst 0, 0, 0)], 18),
  (18, [(18, .ireturn, 0, 0)], 19)]
theorem t_State_isRecalled : z_chkM 57 b_State_isRecalled = true := by decide +kernel
def b_State_postsAbove : List BK := [(0, [(0, .iconst 0, 0, 0), (1, .istore_n 2, 0, 0), (2, .aload_n 0, 0, 0), (3, .iconst 4, 4, 0), (4, .iload_n 1, 0, 0), (5, .iconst 0, 0, 0), (6, .invokevirtual 58, 52, 4), (9, .istore_n 3, 0, 0)], 10),
  (10, [(10, .aload_n 0, 0, 0), (11, .iconst 4, 4, 0), (12, .iload_n 3, 0, 0), (13, .invokevirtual 54, 50, 3), (16, .ifCond .eq 23, 39, 0)], 19),
  (19, [(19, .iload_n 2, 0, 0), (20, .bipush 12, 12, 0), (22, .if_icmp .ge 17, 39, 0)], 25),
  (25, [(25, .iinc 2 1, 1, 0), (28, .aload_n 0, 0, 0), (29, .iconst 4, 4, 0), (30, .iload_n 3, 0, 0), (31, .iconst 0, 0, 0), (32, .invokevirtual 58, 52, 4), (35, .istore_n 3, 0, 0), (36, .goto (-26), 10, 0)], 39),
  (39, [(39, .iload_n 2, 0, 0), (40, .ireturn, 0, 0)], 41)]
theorem t_State_postsAbove : z_chkM 58 b_State_postsAbove = true := by decide +kernel
def b_State_postsBelow : List BK := [(0, [(0, .iconst 0, 0, 0), (1, .istore_n 2, 0, 0), (2, .iconst 0, 0, 0), (3, .istore_n 3, 0, 0)], 4),
  (4, [(4, .iload_n 3, 0, 0), (5, .aload_n 0, 0, 0), (6, .getfield 15, 1, 6), (9, .iconst 4, 4, 0), (10, .iaload, 0, 0), (11, .if_icmp .ge 23, 34, 0)], 14),
  (14, [(14, .aload_n 0, 0, 0), (15, .iconst 4, 4, 0), (16, .iload_n 3, 0, 0), (17, .iconst 0, 0, 0), (18, .invokevirtual 58, 52, 4), (21, .iload_n 1, 0, 0), (22, .if_icmp .ne 6, 28, 0)], 25),
  (25, [(25, .iinc 2 1, 1, 0)], 28),
  (28, [(28, .iinc 3 1, 1, 0), (31, .goto (-27), 4, 0)], 34),
  (34, [(34, .iload_n 2, 0, 0), (35, .ireturn, 0, 0)], 36)]
theorem t_State_postsBelow : z_chkM 59 b_State_postsBelow = true := by decide +kernel
def b_State_covers : List BK := [(0, [(0, .getstatic 30, 2, 1), (3, .iload_n 1, 0, 0), (4, .iaload, 0, 0), (5, .iload_n 2, 0, 0), (6, .getstatic 27, 0, 1), (9, .iload_n 1, 0, 0), (10, .iaload, 0, 0), (11, .imul, 0, 0), (12, .iadd, 0, 0), (13, .getstatic 62, 3, 1), (16, .iload_n 1, 0, 0), (17, .iaload, 0, 0), (18, .iadd, 0, 0), (19, .istore 4, 0, 0), (21, .aload_n 0, 0, 0), (22, .getfield 9, 0, 6), (25, .iload 4, 0, 0), (27, .iaload, 0, 0), (28, .iload_n 3, 0, 0), (29, .if_icmp .gt 20, 49, 0)], 32),
  (32, [(32, .iload_n 3, 0, 0), (33, .aload_n 0, 0, 0), (34, .getfield 9, 0, 6), (37, .iload 4, 0, 0), (39, .iconst 1, 1, 0), (40, .iadd, 0, 0), (41, .iaload, 0, 0), (42, .if_icmp .gt 7, 49, 0)], 45),
  (45, [(45, .iconst 1, 1, 0), (46, .goto 4, 50, 0)], 49),
  (49, [(49, .iconst 0, 0, 0)], 50),
  (50, [(50, .ireturn, 0, 0)], 51)]
theorem t_State_covers : z_chkM 60 b_State_covers = true := by decide +kernel
def b_State_holderAt : List BK := [(0, [(0, .iconst 0, 0, 0), (1, .istore_n 3, 0, 0)], 2),
  (2, [(2, .iload_n 3, 0, 0), (3, .aload_n 0, 0, 0), (4, .getfield 15, 1, 6), (7, .iconst 0, 0, 0), (8, .iaload, 0, 0), (9, .if_icmp .ge 38, 47, 0)], 12),
  (12, [(12, .aload_n 0, 0, 0), (13, .iconst 0, 0, 0), (14, .iload_n 3, 0, 0), (15, .iconst 0, 0, 0), (16, .invokevirtual 58, 52, 4), (19, .iload_n 1, 0, 0), (20, .if_icmp .ne 21, 41, 0)], 23),
  (23, [(23, .aload_n 0, 0, 0), (24, .iconst 0, 0, 0), (25, .iload_n 3, 0, 0), (26, .iload_n 2, 0, 0), (27, .invokevirtual 65, 60, 4), (30, .ifCond .eq 11, 41, 0)], 33),
  (33, [(33, .aload_n 0, 0, 0), (34, .iconst 0, 0, 0), (35, .iload_n 3, 0, 0), (36, .iconst 1, 1, 0), (37, .invokevirtual 58, 52, 4), (40, .ireturn, 0, 0)], 41),
  (41, [(41, .iinc 3 1, 1, 0), (44, .goto (-42), 2, 0)], 47),
  (47, [(47, .iconst (-1), 1, 1), (48, .ireturn, 0, 0)], 49)]
theorem t_State_holderAt : z_chkM 61 b_State_holderAt = true := by decide +kernel
def b_State_awayBits : List BK := [(0, [(0, .iconst 0, 0, 0), (1, .istore_n 3, 0, 0), (2, .iconst 0, 0, 0), (3, .istore 4, 0, 0)], 5),
  (5, [(5, .iload 4, 0, 0), (7, .aload_n 0, 0, 0), (8, .getfield 15, 1, 6), (11, .iconst 1, 1, 0), (12, .iaload, 0, 0), (13, .if_icmp .ge 39, 52, 0)], 16),
  (16, [(16, .iload 4, 0, 0), (18, .iload_n 2, 0, 0), (19, .if_icmp .eq 27, 46, 0)], 22),
  (22, [(22, .aload_n 0, 0, 0), (23, .iconst 1, 1, 0), (24, .iload 4, 0, 0), (26, .iload_n 1, 0, 0), (27, .invokevirtual 65, 60, 4), (30, .ifCond .eq 16, 46, 0)], 33),
  (33, [(33, .iload_n 3, 0, 0), (34, .iconst 1, 1, 0), (35, .aload_n 0, 0, 0), (36, .iconst 1, 1, 0), (37, .iload 4, 0, 0), (39, .iconst 0, 0, 0), (40, .invokevirtual 58, 52, 4), (43, .ishl, 0, 0), (44, .ior, 0, 0), (45, .istore_n 3, 0, 0)], 46),
  (46, [(46, .iinc 4 1, 1, 0), (49, .goto (-44), 5, 0)], 52),
  (52, [(52, .iload_n 3, 0, 0), (53, .ireturn, 0, 0)], 54)]
theorem t_State_awayBits : z_chkM 62 b_State_awayBits = true := by decide +kernel
def b_State_foeBits : List BK := [(0, [(0, .iconst 0, 0, 0), (1, .istore_n 2, 0, 0), (2, .iconst 0, 0, 0), (3, .istore_n 3, 0, 0)], 4),
  (4, [(4, .iload_n 3, 0, 0), (5, .aload_n 0, 0, 0), (6, .getfield 15, 1, 6), (9, .iconst 3, 3, 0), (10, .iaload, 0, 0), (11, .if_icmp .ge 32, 43, 0)], 14),
  (14, [(14, .aload_n 0, 0, 0), (15, .iconst 3, 3, 0), (16, .iload_n 3, 0, 0), (17, .iconst 1, 1, 0), (18, .invokevirtual 58, 52, 4), (21, .iload_n 1, 0, 0), (22, .if_icmp .ne 15, 37, 0)], 25),
  (25, [(25, .iload_n 2, 0, 0), (26, .iconst 1, 1, 0), (27, .aload_n 0, 0, 0), (28, .iconst 3, 3, 0), (29, .iload_n 3, 0, 0), (30, .iconst 0, 0, 0), (31, .invokevirtual 58, 52, 4), (34, .ishl, 0, 0), (35, .ior, 0, 0), (36, .istore_n 2, 0, 0)], 37),
  (37, [(37, .iinc 3 1, 1, 0), (40, .goto (-36), 4, 0)], 43),
  (43, [(43, .iload_n 2, 0, 0), (44, .ireturn, 0, 0)], 45)]
theorem t_State_foeBits : z_chkM 63 b_State_foeBits = true := by decide +kernel
def b_State_nextChange : List BK := [(0, [(0, .sipush 1000, 1000, 0), (3, .istore_n 2, 0, 0), (4, .iconst 0, 0, 0), (5, .istore_n 3, 0, 0)], 6),
  (6, [(6, .iload_n 3, 0, 0), (7, .iconst 2, 2, 0), (8, .if_icmp .gt 90, 98, 0)], 11),
  (11, [(11, .iconst 0, 0, 0), (12, .istore 4, 0, 0)], 14),
  (14, [(14, .iload 4, 0, 0), (16, .aload_n 0, 0, 0), (17, .getfield 15, 1, 6), (20, .iload_n 3, 0, 0), (21, .iaload, 0, 0), (22, .if_icmp .ge 70, 92, 0)], 25),
  (25, [(25, .aload_n 0, 0, 0), (26, .iload_n 3, 0, 0), (27, .iload 4, 0, 0), (29, .getstatic 62, 3, 1), (32, .iload_n 3, 0, 0), (33, .iaload, 0, 0), (34, .invokevirtual 58, 52, 4), (37, .istore 5, 0, 0), (39, .aload_n 0, 0, 0), (40, .iload_n 3, 0, 0), (41, .iload 4, 0, 0), (43, .getstatic 62, 3, 1), (46, .iload_n 3, 0, 0), (47, .iaload, 0, 0), (48, .iconst 1, 1, 0), (49, .iadd, 0, 0), (50, .invokevirtual 58, 52, 4), (53, .iconst 1, 1, 0), (54, .iadd, 0, 0), (55, .istore 6, 0, 0), (57, .iload 5, 0, 0), (59, .iload_n 1, 0, 0), (60, .if_icmp .le 13, 73, 0)], 63),
  (63, [(63, .iload_n 2, 0, 0), (64, .iload 5, 0, 0), (66, .invokestatic 69, 1001, 0), (69, .istore_n 2, 0, 0), (70, .goto 16, 86, 0)], 73),
  (73, [(73, .iload 6, 0, 0), (75, .iload_n 1, 0, 0), (76, .if_icmp .le 10, 86, 0)], 79),
  (79, [(79, .iload_n 2, 0, 0), (80, .iload 6, 0, 0), (82, .invokestatic 69, 1001, 0), (85, .istore_n 2, 0, 0)], 86),
  (86, [(86, .iinc 4 1, 1, 0), (89, .goto (-75), 14, 0)], 92),
  (92, [(92, .iinc 3 1, 1, 0), (95, .goto (-89), 6, 0)], 98),
  (98, [(98, .iload_n 2, 0, 0), (99, .ireturn, 0, 0)], 100)]
theorem t_State_nextChange : z_chkM 64 b_State_nextChange = true := by decide +kernel
def b_State_joinedBits : List BK := [(0, [(0, .lconst 0, 0, 0), (1, .lstore_n 3, 0, 0), (2, .iload_n 2, 0, 0), (3, .istore 5, 0, 0), (5, .iload_n 2, 0, 0), (6, .istore 6, 0, 0), (8, .iconst 1, 1, 0), (9, .istore 7, 0, 0), (11, .iconst 0, 0, 0), (12, .istore 8, 0, 0)], 14),
  (14, [(14, .iload 8, 0, 0), (16, .iload_n 1, 0, 0), (17, .if_icmp .ge 132, 149, 0)], 20),
  (20, [(20, .iload 7, 0, 0), (22, .ifCond .eq 127, 149, 0)], 25),
  (25, [(25, .iconst 0, 0, 0), (26, .istore 7, 0, 0), (28, .iconst 0, 0, 0), (29, .istore 9, 0, 0)], 31),
  (31, [(31, .iload 9, 0, 0), (33, .iload_n 1, 0, 0), (34, .if_icmp .ge 109, 143, 0)], 37),
  (37, [(37, .aload_n 0, 0, 0), (38, .iconst 5, 5, 0), (39, .iload 9, 0, 0), (41, .iconst 5, 5, 0), (42, .invokevirtual 58, 52, 4), (45, .istore 10, 0, 0), (47, .iload 10, 0, 0), (49, .iload 5, 0, 0), (51, .aload_n 0, 0, 0), (52, .getfield 18, 2, 6), (55, .iconst 0, 0, 0), (56, .iaload, 0, 0), (57, .isub, 0, 0), (58, .if_icmp .lt 21, 79, 0)], 61),
  (61, [(61, .iload 10, 0, 0), (63, .iload 6, 0, 0), (65, .aload_n 0, 0, 0), (66, .getfield 18, 2, 6), (69, .iconst 0, 0, 0), (70, .iaload, 0, 0), (71, .iadd, 0, 0), (72, .if_icmp .gt 7, 79, 0)], 75),
  (75, [(75, .iconst 1, 1, 0), (76, .goto 4, 80, 0)], 79),
  (79, [(79, .iconst 0, 0, 0)], 80),
  (80, [(80, .istore 11, 0, 0), (82, .iload 11, 0, 0), (84, .ifCond .eq 53, 137, 0)], 87),
  (87, [(87, .lload_n 3, 0, 0), (88, .iload 9, 0, 0), (90, .lshr, 0, 0), (91, .lconst 1, 0, 0), (92, .land, 0, 0), (93, .lconst 0, 0, 0), (94, .lcmp, 0, 0), (95, .ifCond .ne 42, 137, 0)], 98),
  (98, [(98, .aload_n 0, 0, 0), (99, .iload 9, 0, 0), (101, .iload_n 1, 0, 0), (102, .iload_n 2, 0, 0), (103, .invokevirtual 75, 66, 4), (106, .ifCond .eq 31, 137, 0)], 109),
  (109, [(109, .lload_n 3, 0, 0), (110, .lconst 1, 0, 0), (111, .iload 9, 0, 0), (113, .lshl, 0, 0), (114, .lor, 0, 0), (115, .lstore_n 3, 0, 0), (116, .iload 5, 0, 0), (118, .iload 10, 0, 0), (120, .invokestatic 69, 1001, 0), (123, .istore 5, 0, 0), (125, .iload 6, 0, 0), (127, .iload 10, 0, 0), (129, .invokestatic 78, 1000, 0), (132, .istore 6, 0, 0), (134, .iconst 1, 1, 0), (135, .istore 7, 0, 0)], 137),
  (137, [(137, .iinc 9 1, 1, 0), (140, .goto (-109), 31, 0)], 143),
  (143, [(143, .iinc 8 1, 1, 0), (146, .goto (-132), 14, 0)], 149),
  (149, [(149, .lload_n 3, 0, 0), (150, .lreturn, 0, 0)], 151)]
theorem t_State_joinedBits : z_chkM 65 b_State_joinedBits = true := by decide +kernel
def b_State_canJoin : List BK := [(0, [(0, .aload_n 0, 0, 0), (1, .iconst 5, 5, 0), (2, .iload_n 1, 0, 0), (3, .bipush 6, 6, 0), (5, .invokevirtual 58, 52, 4), (8, .istore 4, 0, 0), (10, .aload_n 0, 0, 0), (11, .iconst 5, 5, 0), (12, .iload_n 1, 0, 0), (13, .iconst 0, 0, 0), (14, .invokevirtual 58, 52, 4), (17, .aload_n 0, 0, 0), (18, .iconst 5, 5, 0), (19, .iload_n 2, 0, 0), (20, .iconst 0, 0, 0), (21, .invokevirtual 58, 52, 4), (24, .if_icmp .ne 54, 78, 0)], 27),
  (27, [(27, .aload_n 0, 0, 0), (28, .iconst 5, 5, 0), (29, .iload_n 1, 0, 0), (30, .iconst 2, 2, 0), (31, .invokevirtual 58, 52, 4), (34, .aload_n 0, 0, 0), (35, .iconst 5, 5, 0), (36, .iload_n 2, 0, 0), (37, .iconst 2, 2, 0), (38, .invokevirtual 58, 52, 4), (41, .if_icmp .ne 37, 78, 0)], 44),
  (44, [(44, .aload_n 0, 0, 0), (45, .iconst 5, 5, 0), (46, .iload_n 1, 0, 0), (47, .iconst 3, 3, 0), (48, .invokevirtual 58, 52, 4), (51, .aload_n 0, 0, 0), (52, .iconst 5, 5, 0), (53, .iload_n 2, 0, 0), (54, .iconst 3, 3, 0), (55, .invokevirtual 58, 52, 4), (58, .if_icmp .ne 20, 78, 0)], 61),
  (61, [(61, .iload 4, 0, 0), (63, .bipush (-2), 2, 1), (65, .if_icmp .eq 9, 74, 0)], 68),
  (68, [(68, .iload 4, 0, 0), (70, .iload_n 3, 0, 0), (71, .if_icmp .le 7, 78, 0)], 74),
  (74, [(74, .iconst 1, 1, 0), (75, .goto 4, 79, 0)], 78),
  (78, [(78, .iconst 0, 0, 0)], 79),
  (79, [(79, .ireturn, 0, 0)], 80)]
theorem t_State_canJoin : z_chkM 66 b_State_canJoin = true := by decide +kernel
def b_State_amountOf : List BK := [(0, [(0, .iconst 0, 0, 0), (1, .istore_n 3, 0, 0), (2, .iconst 0, 0, 0), (3, .istore 4, 0, 0)], 5),
  (5, [(5, .iload 4, 0, 0), (7, .aload_n 0, 0, 0), (8, .getfield 15, 1, 6), (11, .iconst 5, 5, 0), (12, .iaload, 0, 0), (13, .if_icmp .ge 31, 44, 0)], 16),
  (16, [(16, .lload_n 1, 0, 0), (17, .iload 4, 0, 0), (19, .lshr, 0, 0), (20, .lconst 1, 0, 0), (21, .land, 0, 0), (22, .lconst 0, 0, 0), (23, .lcmp, 0, 0), (24, .ifCond .eq 14, 38, 0)], 27),
  (27, [(27, .iload_n 3, 0, 0), (28, .aload_n 0, 0, 0), (29, .iconst 5, 5, 0), (30, .iload 4, 0, 0), (32, .iconst 4, 4, 0), (33, .invokevirtual 58, 52, 4), (36, .iadd, 0, 0), (37, .istore_n 3, 0, 0)], 38),
  (38, [(38, .iinc 4 1, 1, 0), (41, .goto (-36), 5, 0)], 44),
  (44, [(44, .iload_n 3, 0, 0), (45, .ireturn, 0, 0)], 46)]
theorem t_State_amountOf : z_chkM 67 b_State_amountOf = true := by decide +kernel
def b_Tape_init : List BK := [(0, [(0, .aload_n 0, 0, 0), (1, .invokespecial 3, 1003, 0), (4, .aload_n 0, 0, 0), (5, .sipush 400, 400, 0), (8, .newarray .byte, 1, 0), (10, .putfield 9, 0, 7), (13, .aload_n 0, 0, 0), (14, .iconst 0, 0, 0), (15, .putfield 15, 1, 7), (18, .return_, 0, 0)], 19)]
theorem t_Tape_init : z_chkM 68 b_Tape_init = true := by decide +kernel
def b_Tape_add : List BK := [(0, [(0, .bipush 24, 24, 0), (2, .istore_n 2, 0, 0)], 3),
  (3, [(3, .iload_n 2, 0, 0), (4, .ifCond .lt 42, 46, 0)], 7),
  (7, [(7, .aload_n 0, 0, 0), (8, .getfield 15, 1, 7), (11, .sipush 400, 400, 0), (14, .if_icmp .ge 32, 46, 0)], 17),
  (17, [(17, .aload_n 0, 0, 0), (18, .getfield 9, 0, 7), (21, .aload_n 0, 0, 0), (22, .getfield 15, 1, 7), (25, .iload_n 1, 0, 0), (26, .iload_n 2, 0, 0), (27, .ishr, 0, 0), (28, .i2b, 0, 0), (29, .bastore, 0, 0), (30, .aload_n 0, 0, 0), (31, .dup, 0, 0), (32, .getfield 15, 1, 7), (35, .iconst 1, 1, 0), (36, .iadd, 0, 0), (37, .putfield 15, 1, 7), (40, .iinc 2 (-8), 8, 1), (43, .goto (-40), 3, 0)], 46),
  (46, [(46, .return_, 0, 0)], 47)]
theorem t_Tape_add : z_chkM 69 b_Tape_add = true := by decide +kernel
def b_Tape_byteAt : List BK := [(0, [(0, .iload_n 1, 0, 0), (1, .ifCond .lt 24, 25, 0)], 4),
  (4, [(4, .iload_n 1, 0, 0), (5, .aload_n 0, 0, 0), (6, .getfield 15, 1, 7), (9, .if_icmp .ge 16, 25, 0)], 12),
  (12, [(12, .aload_n 0, 0, 0), (13, .getfield 9, 0, 7), (16, .iload_n 1, 0, 0), (17, .baload, 0, 0), (18, .sipush 255, 255, 0), (21, .iand, 0, 0), (22, .goto 4, 26, 0)], 25),
  (25, [(25, .iconst (-1), 1, 1)], 26),
  (26, [(26, .ireturn, 0, 0)], 27)]
theorem t_Tape_byteAt : z_chkM 70 b_Tape_byteAt = true := by decide +kernel
def b_Web_init : List BK := [(0, [(0, .aload_n 0, 0, 0), (1, .invokespecial 3, 1003, 0), (4, .aload_n 0, 0, 0), (5, .bipush 16, 16, 0), (7, .newarray .int, 0, 0), (9, .putfield 9, 0, 8), (12, .return_, 0, 0)], 13)]
theorem t_Web_init : z_chkM 71 b_Web_init = true := by decide +kernel
def b_Web_spin : List BK := [(0, [(0, .iconst 0, 0, 0), (1, .istore_n 3, 0, 0)], 2),
  (2, [(2, .iload_n 3, 0, 0), (3, .bipush 16, 16, 0), (5, .if_icmp .ge 16, 21, 0)], 8),
  (8, [(8, .aload_n 0, 0, 0), (9, .getfield 9, 0, 8), (12, .iload_n 3, 0, 0), (13, .iconst 0, 0, 0), (14, .iastore, 0, 0), (15, .iinc 3 1, 1, 0), (18, .goto (-16), 2, 0)], 21),
  (21, [(21, .iconst 0, 0, 0), (22, .istore_n 3, 0, 0)], 23),
  (23, [(23, .iload_n 3, 0, 0), (24, .aload_n 1, 0, 0), (25, .getfield 15, 1, 6), (28, .iconst 2, 2, 0), (29, .iaload, 0, 0), (30, .if_icmp .ge 43, 73, 0)], 33),
  (33, [(33, .aload_n 1, 0, 0), (34, .iconst 2, 2, 0), (35, .iload_n 3, 0, 0), (36, .iload_n 2, 0, 0), (37, .invokevirtual 20, 60, 4), (40, .ifCond .eq 27, 67, 0)], 43),
  (43, [(43, .aload_n 0, 0, 0), (44, .getfield 9, 0, 8), (47, .aload_n 1, 0, 0), (48, .iconst 2, 2, 0), (49, .iload_n 3, 0, 0), (50, .iconst 0, 0, 0), (51, .invokevirtual 24, 52, 4), (54, .dup2, 0, 0), (55, .iaload, 0, 0), (56, .iconst 1, 1, 0), (57, .aload_n 1, 0, 0), (58, .iconst 2, 2, 0), (59, .iload_n 3, 0, 0), (60, .iconst 1, 1, 0), (61, .invokevirtual 24, 52, 4), (64, .ishl, 0, 0), (65, .ior, 0, 0), (66, .iastore, 0, 0)], 67),
  (67, [(67, .iinc 3 1, 1, 0), (70, .goto (-47), 23, 0)], 73),
  (73, [(73, .return_, 0, 0)], 74)]
theorem t_Web_spin : z_chkM 72 b_Web_spin = true := by decide +kernel
def b_Web_ringBits : List BK := [(0, [(0, .iconst 0, 0, 0), (1, .istore_n 1, 0, 0), (2, .iconst 0, 0, 0), (3, .istore_n 2, 0, 0)], 4),
  (4, [(4, .iload_n 2, 0, 0), (5, .bipush 16, 16, 0), (7, .if_icmp .ge 27, 34, 0)], 10),
  (10, [(10, .aload_n 0, 0, 0), (11, .iload_n 2, 0, 0), (12, .invokevirtual 28, 74, 2), (15, .iload_n 2, 0, 0), (16, .invokestatic 32, 130, 2), (19, .ifCond .eq 9, 28, 0)], 22),
  (22, [(22, .iload_n 1, 0, 0), (23, .iconst 1, 1, 0), (24, .iload_n 2, 0, 0), (25, .ishl, 0, 0), (26, .ior, 0, 0), (27, .istore_n 1, 0, 0)], 28),
  (28, [(28, .iinc 2 1, 1, 0), (31, .goto (-27), 4, 0)], 34),
  (34, [(34, .iload_n 1, 0, 0), (35, .ireturn, 0, 0)], 36)]
theorem t_Web_ringBits : z_chkM 73 b_Web_ringBits = true := by decide +kernel
def b_Web_reachedFrom : List BK := [(0, [(0, .aload_n 0, 0, 0), (1, .getfield 9, 0, 8), (4, .iload_n 1, 0, 0), (5, .iaload, 0, 0), (6, .istore_n 2, 0, 0), (7, .iconst 0, 0, 0), (8, .istore_n 3, 0, 0)], 9),
  (9, [(9, .iload_n 3, 0, 0), (10, .bipush 16, 16, 0), (12, .if_icmp .ge 44, 56, 0)], 15),
  (15, [(15, .iconst 0, 0, 0), (16, .istore 4, 0, 0)], 18),
  (18, [(18, .iload 4, 0, 0), (20, .bipush 16, 16, 0), (22, .if_icmp .ge 28, 50, 0)], 25),
  (25, [(25, .iload_n 2, 0, 0), (26, .iload 4, 0, 0), (28, .invokestatic 32, 130, 2), (31, .ifCond .eq 13, 44, 0)], 34),
  (34, [(34, .iload_n 2, 0, 0), (35, .aload_n 0, 0, 0), (36, .getfield 9, 0, 8), (39, .iload 4, 0, 0), (41, .iaload, 0, 0), (42, .ior, 0, 0), (43, .istore_n 2, 0, 0)], 44),
  (44, [(44, .iinc 4 1, 1, 0), (47, .goto (-29), 18, 0)], 50),
  (50, [(50, .iinc 3 1, 1, 0), (53, .goto (-44), 9, 0)], 56),
  (56, [(56, .iload_n 2, 0, 0), (57, .ireturn, 0, 0)], 58)]
theorem t_Web_reachedFrom : z_chkM 74 b_Web_reachedFrom = true := by decide +kernel
def b_Web_longestLine : List BK := [(0, [(0, .iconst 0, 0, 0), (1, .istore_n 1, 0, 0), (2, .iconst 0, 0, 0), (3, .istore_n 2, 0, 0)], 4),
  (4, [(4, .iload_n 2, 0, 0), (5, .bipush 16, 16, 0), (7, .if_icmp .ge 32, 39, 0)], 10),
  (10, [(10, .aload_n 0, 0, 0), (11, .getfield 9, 0, 8), (14, .iload_n 2, 0, 0), (15, .iaload, 0, 0), (16, .ifCond .eq 17, 33, 0)], 19),
  (19, [(19, .iload_n 1, 0, 0), (20, .aload_n 0, 0, 0), (21, .iload_n 2, 0, 0), (22, .iconst 1, 1, 0), (23, .iload_n 2, 0, 0), (24, .ishl, 0, 0), (25, .iconst 1, 1, 0), (26, .invokevirtual 36, 76, 4), (29, .invokestatic 39, 1000, 0), (32, .istore_n 1, 0, 0)], 33),
  (33, [(33, .iinc 2 1, 1, 0), (36, .goto (-32), 4, 0)], 39),
  (39, [(39, .iload_n 1, 0, 0), (40, .ireturn, 0, 0)], 41)]
theorem t_Web_longestLine : z_chkM 75 b_Web_longestLine = true := by decide +kernel
def b_Web_lineFrom : List BK := [(0, [(0, .iload_n 3, 0, 0), (1, .istore 4, 0, 0), (3, .aload_n 0, 0, 0), (4, .getfield 9, 0, 8), (7, .iload_n 1, 0, 0), (8, .iaload, 0, 0), (9, .iload_n 2, 0, 0), (10, .iconst (-1), 1, 1), (11, .ixor, 0, 0), (12, .iand, 0, 0), (13, .istore 5, 0, 0), (15, .iconst 0, 0, 0), (16, .istore 6, 0, 0)], 18),
  (18, [(18, .iload 6, 0, 0), (20, .bipush 16, 16, 0), (22, .if_icmp .ge 47, 69, 0)], 25),
  (25, [(25, .iload_n 3, 0, 0), (26, .bipush 16, 16, 0), (28, .if_icmp .ge 41, 69, 0)], 31),
  (31, [(31, .iload 5, 0, 0), (33, .iload 6, 0, 0), (35, .invokestatic 32, 130, 2), (38, .ifCond .eq 25, 63, 0)], 41),
  (41, [(41, .iload 4, 0, 0), (43, .aload_n 0, 0, 0), (44, .iload 6, 0, 0), (46, .iload_n 2, 0, 0), (47, .iconst 1, 1, 0), (48, .iload 6, 0, 0), (50, .ishl, 0, 0), (51, .ior, 0, 0), (52, .iload_n 3, 0, 0), (53, .iconst 1, 1, 0), (54, .iadd, 0, 0), (55, .invokevirtual 36, 76, 4), (58, .invokestatic 39, 1000, 0), (61, .istore 4, 0, 0)], 63),
  (63, [(63, .iinc 6 1, 1, 0), (66, .goto (-48), 18, 0)], 69),
  (69, [(69, .iload 4, 0, 0), (71, .ireturn, 0, 0)], 72)]
theorem t_Web_lineFrom : z_chkM 76 b_Web_lineFrom = true := by decide +kernel
