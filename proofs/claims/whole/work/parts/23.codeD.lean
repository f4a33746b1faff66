def b_Mod_init : List BK := [(0, [(0, .aload_n 0, 0, 0), (1, .invokespecial 1, 1003, 0), (4, .aload_n 0, 0, 0), (5, .sipush 657, 657, 0), (8, .newarray .int, 0, 0), (10, .putfield 7, 0, 10), (13, .aload_n 0, 0, 0), (14, .sipush 6570, 6570, 0), (17, .newarray .int, 0, 0), (19, .putfield 13, 1, 10), (22, .aload_n 0, 0, 0), (23, .sipush 1314, 1314, 0), (26, .newarray .int, 0, 0), (28, .putfield 16, 3, 10), (31, .aload_n 0, 0, 0), (32, .iconst 2, 2, 0), (33, .newarray .boolean, 2, 0), (35, .putfield 19, 4, 10), (38, .aload_n 0, 0, 0), (39, .iconst (-1), 1, 1), (40, .putfield 23, 5, 10), (43, .aload_n 0, 0, 0), (44, .iconst (-1), 1, 1), (45, .putfield 27, 6, 10), (48, .aload_n 0, 0, 0), (49, .bipush 16, 16, 0), (51, .newarray .int, 0, 0), (53, .putfield 30, 11, 10), (56, .aload_n 0, 0, 0), (57, .bipush 72, 72, 0), (59, .newarray .int, 0, 0), (61, .putfield 33, 15, 10), (64, .aload_n 0, 0, 0), (65, .sipush 192, 192, 0), (68, .newarray .int, 0, 0), (70, .putfield 36, 16, 10), (73, .aload_n 0, 0, 0), (74, .bipush 48, 48, 0), (76, .newarray .int, 0, 0), (78, .putfield 39, 19, 10), (81, .aload_n 0, 0, 0), (82, .sipush 400, 400, 0), (85, .newarray .byte, 1, 0), (87, .putfield 42, 20, 10), (90, .aload_n 0, 0, 0), (91, .sipush 657, 657, 0), (94, .newarray .int, 0, 0), (96, .putfield 46, 26, 10), (99, .aload_n 0, 0, 0), (100, .getfield 7, 0, 10), (103, .invokestatic 49, 147, 1), (106, .return_, 0, 0)], 107)]
theorem t_Mod_init : z_chkM 146 b_Mod_init = true := by decide +kernel
def b_Mod_begins : List BK := [(0, [(0, .iconst 0, 0, 0), (1, .istore_n 1, 0, 0)], 2),
  (2, [(2, .iload_n 1, 0, 0), (3, .sipush 657, 657, 0), (6, .if_icmp .ge 13, 19, 0)], 9),
  (9, [(9, .aload_n 0, 0, 0), (10, .iload_n 1, 0, 0), (11, .iconst 0, 0, 0), (12, .iastore, 0, 0), (13, .iinc 1 1, 1, 0), (16, .goto (-14), 2, 0)], 19),
  (19, [(19, .aload_n 0, 0, 0), (20, .bipush 6, 6, 0), (22, .iconst 1, 1, 0), (23, .iastore, 0, 0), (24, .aload_n 0, 0, 0), (25, .bipush 7, 7, 0), (27, .iconst 2, 2, 0), (28, .iastore, 0, 0), (29, .return_, 0, 0)], 30)]
theorem t_Mod_begins : z_chkM 147 b_Mod_begins = true := by decide +kernel
def b_Mod_in : List BK := [(0, [(0, .lload_n 0, 0, 0), (1, .lload_n 2, 0, 0), (2, .lcmp, 0, 0), (3, .ifCond .lt 14, 17, 0)], 6),
  (6, [(6, .lload_n 0, 0, 0), (7, .lload 4, 0, 0), (9, .lcmp, 0, 0), (10, .ifCond .gt 7, 17, 0)], 13),
  (13, [(13, .iconst 1, 1, 0), (14, .goto 4, 18, 0)], 17),
  (17, [(17, .iconst 0, 0, 0)], 18),
  (18, [(18, .ireturn, 0, 0)], 19)]
theorem t_Mod_in : z_chkM 148 b_Mod_in = true := by decide +kernel
def b_Mod_has : List BK := [(0, [(0, .iload_n 0, 0, 0), (1, .iload_n 1, 0, 0), (2, .ishr, 0, 0), (3, .iconst 1, 1, 0), (4, .iand, 0, 0), (5, .iconst 1, 1, 0), (6, .if_icmp .ne 7, 13, 0)], 9),
  (9, [(9, .iconst 1, 1, 0), (10, .goto 4, 14, 0)], 13),
  (13, [(13, .iconst 0, 0, 0)], 14),
  (14, [(14, .ireturn, 0, 0)], 15)]
theorem t_Mod_has : z_chkM 149 b_Mod_has = true := by decide +kernel
def b_Mod_posts : List BK := [(0, [(0, .aload_n 0, 0, 0), (1, .getfield 7, 0, 10), (4, .iconst 0, 0, 0), (5, .iaload, 0, 0), (6, .ireturn, 0, 0)], 7)]
theorem t_Mod_posts : z_chkM 150 b_Mod_posts = true := by decide +kernel
def b_Mod_requests : List BK := [(0, [(0, .aload_n 0, 0, 0), (1, .getfield 7, 0, 10), (4, .bipush 8, 8, 0), (6, .iaload, 0, 0), (7, .ireturn, 0, 0)], 8)]
theorem t_Mod_requests : z_chkM 151 b_Mod_requests = true := by decide +kernel
def b_Mod_isPost : List BK := [(0, [(0, .iload_n 1, 0, 0), (1, .i2l, 0, 0), (2, .lconst 0, 0, 0), (3, .aload_n 0, 0, 0), (4, .invokevirtual 53, 150, 1), (7, .iconst 1, 1, 0), (8, .isub, 0, 0), (9, .i2l, 0, 0), (10, .invokestatic 57, 148, 3), (13, .ireturn, 0, 0)], 14)]
theorem t_Mod_isPost : z_chkM 152 b_Mod_isPost = true := by decide +kernel
def b_Mod_isRequest : List BK := [(0, [(0, .iload_n 1, 0, 0), (1, .i2l, 0, 0), (2, .lconst 0, 0, 0), (3, .aload_n 0, 0, 0), (4, .invokevirtual 61, 151, 1), (7, .iconst 1, 1, 0), (8, .isub, 0, 0), (9, .i2l, 0, 0), (10, .invokestatic 57, 148, 3), (13, .ireturn, 0, 0)], 14)]
theorem t_Mod_isRequest : z_chkM 153 b_Mod_isRequest = true := by decide +kernel
def b_Mod_isPerson : List BK := [(0, [(0, .iload_n 0, 0, 0), (1, .i2l, 0, 0), (2, .lconst 0, 0, 0), (3, .ldc2_w 64, 15, 2), (6, .invokestatic 57, 148, 3), (9, .ireturn, 0, 0)], 10)]
theorem t_Mod_isPerson : z_chkM 154 b_Mod_isPerson = true := by decide +kernel
def b_Mod_isDay : List BK := [(0, [(0, .iload_n 0, 0, 0), (1, .i2l, 0, 0), (2, .lconst 0, 0, 0), (3, .ldc2_w 66, 999, 2), (6, .invokestatic 57, 148, 3), (9, .ireturn, 0, 0)], 10)]
theorem t_Mod_isDay : z_chkM 155 b_Mod_isDay = true := by decide +kernel
def b_Mod_areDays : List BK := [(0, [(0, .iload_n 0, 0, 0), (1, .invokestatic 68, 155, 1), (4, .ifCond .eq 20, 24, 0)], 7),
  (7, [(7, .iload_n 1, 0, 0), (8, .i2l, 0, 0), (9, .iload_n 0, 0, 0), (10, .i2l, 0, 0), (11, .ldc2_w 66, 999, 2), (14, .invokestatic 57, 148, 3), (17, .ifCond .eq 7, 24, 0)], 20),
  (20, [(20, .iconst 1, 1, 0), (21, .goto 4, 25, 0)], 24),
  (24, [(24, .iconst 0, 0, 0)], 25),
  (25, [(25, .ireturn, 0, 0)], 26)]
theorem t_Mod_areDays : z_chkM 156 b_Mod_areDays = true := by decide +kernel
def b_Mod_upper : List BK := [(0, [(0, .aload_n 0, 0, 0), (1, .getfield 7, 0, 10), (4, .bipush 9, 9, 0), (6, .iconst 4, 4, 0), (7, .iload_n 1, 0, 0), (8, .imul, 0, 0), (9, .iadd, 0, 0), (10, .iaload, 0, 0), (11, .ireturn, 0, 0)], 12)]
theorem t_Mod_upper : z_chkM 157 b_Mod_upper = true := by decide +kernel
def b_Mod_limitOf : List BK := [(0, [(0, .aload_n 0, 0, 0), (1, .getfield 7, 0, 10), (4, .bipush 9, 9, 0), (6, .iconst 4, 4, 0), (7, .iload_n 1, 0, 0), (8, .imul, 0, 0), (9, .iadd, 0, 0), (10, .iconst 1, 1, 0), (11, .iadd, 0, 0), (12, .iload_n 2, 0, 0), (13, .iadd, 0, 0), (14, .iaload, 0, 0), (15, .ireturn, 0, 0)], 16)]
theorem t_Mod_limitOf : z_chkM 158 b_Mod_limitOf = true := by decide +kernel
def b_Mod_of : List BK := [(0, [(0, .aload_n 0, 0, 0), (1, .getfield 7, 0, 10), (4, .sipush 377, 377, 0), (7, .bipush 7, 7, 0), (9, .iload_n 1, 0, 0), (10, .imul, 0, 0), (11, .iadd, 0, 0), (12, .iload_n 2, 0, 0), (13, .iadd, 0, 0), (14, .iaload, 0, 0), (15, .ireturn, 0, 0)], 16)]
theorem t_Mod_of : z_chkM 159 b_Mod_of = true := by decide +kernel
def b_Mod_longOf : List BK := [(0, [(0, .iload_n 0, 0, 0), (1, .tableswitch 33 0 2 #[27, 29, 31], 0, 0)], 28),
  (28, [(28, .iconst 4, 4, 0), (29, .ireturn, 0, 0)], 30),
  (30, [(30, .iconst 3, 3, 0), (31, .ireturn, 0, 0)], 32),
  (32, [(32, .iconst 5, 5, 0), (33, .ireturn, 0, 0)], 34),
  (34, [(34, .iconst 2, 2, 0), (35, .ireturn, 0, 0)], 36)]
theorem t_Mod_longOf : z_chkM 160 b_Mod_longOf = true := by decide +kernel
def b_Mod_beginOf : List BK := [(0, [(0, .iload_n 0, 0, 0), (1, .tableswitch 38 0 2 #[27, 30, 34], 0, 0)], 28),
  (28, [(28, .bipush 57, 57, 0), (30, .ireturn, 0, 0)], 31),
  (31, [(31, .sipush 153, 153, 0), (34, .ireturn, 0, 0)], 35),
  (35, [(35, .sipush 225, 225, 0), (38, .ireturn, 0, 0)], 39),
  (39, [(39, .sipush 345, 345, 0), (42, .ireturn, 0, 0)], 43)]
theorem t_Mod_beginOf : z_chkM 161 b_Mod_beginOf = true := by decide +kernel
def b_Mod_many : List BK := [(0, [(0, .aload_n 0, 0, 0), (1, .getfield 7, 0, 10), (4, .iconst 1, 1, 0), (5, .iload_n 1, 0, 0), (6, .iadd, 0, 0), (7, .iaload, 0, 0), (8, .ireturn, 0, 0)], 9)]
theorem t_Mod_many : z_chkM 162 b_Mod_many = true := by decide +kernel
def b_Mod_entryOf : List BK := [(0, [(0, .aload_n 0, 0, 0), (1, .getfield 7, 0, 10), (4, .iload_n 1, 0, 0), (5, .invokestatic 72, 161, 1), (8, .iload_n 1, 0, 0), (9, .invokestatic 76, 160, 1), (12, .iload_n 2, 0, 0), (13, .imul, 0, 0), (14, .iadd, 0, 0), (15, .iload_n 3, 0, 0), (16, .iadd, 0, 0), (17, .iaload, 0, 0), (18, .ireturn, 0, 0)], 19)]
theorem t_Mod_entryOf : z_chkM 163 b_Mod_entryOf = true := by decide +kernel
def b_Mod_isAway : List BK := [(0, [(0, .iload_n 1, 0, 0), (1, .aload_n 0, 0, 0), (2, .getfield 23, 5, 10), (5, .if_icmp .ne 5, 10, 0)], 8),
  (8, [(8, .iconst 1, 1, 0), (9, .ireturn, 0, 0)], 10),
  (10, [(10, .iconst 0, 0, 0), (11, .istore_n 3, 0, 0)], 12),
  (12, [(12, .iload_n 3, 0, 0), (13, .aload_n 0, 0, 0), (14, .iconst 1, 1, 0), (15, .invokevirtual 79, 162, 2), (18, .if_icmp .ge 54, 72, 0)], 21),
  (21, [(21, .iload_n 3, 0, 0), (22, .aload_n 0, 0, 0), (23, .getfield 27, 6, 10), (26, .if_icmp .eq 40, 66, 0)], 29),
  (29, [(29, .aload_n 0, 0, 0), (30, .iconst 1, 1, 0), (31, .iload_n 3, 0, 0), (32, .iconst 0, 0, 0), (33, .invokevirtual 82, 163, 4), (36, .iload_n 1, 0, 0), (37, .if_icmp .ne 29, 66, 0)], 40),
  (40, [(40, .iload_n 2, 0, 0), (41, .i2l, 0, 0), (42, .aload_n 0, 0, 0), (43, .iconst 1, 1, 0), (44, .iload_n 3, 0, 0), (45, .iconst 1, 1, 0), (46, .invokevirtual 82, 163, 4), (49, .i2l, 0, 0), (50, .aload_n 0, 0, 0), (51, .iconst 1, 1, 0), (52, .iload_n 3, 0, 0), (53, .iconst 2, 2, 0), (54, .invokevirtual 82, 163, 4), (57, .i2l, 0, 0), (58, .invokestatic 57, 148, 3), (61, .ifCond .eq 5, 66, 0)], 64),
  (64, [(64, .iconst 1, 1, 0), (65, .ireturn, 0, 0)], 66),
  (66, [(66, .iinc 3 1, 1, 0), (69, .goto (-57), 12, 0)], 72),
  (72, [(72, .iconst 0, 0, 0), (73, .ireturn, 0, 0)], 74)]
theorem t_Mod_isAway : z_chkM 164 b_Mod_isAway = true := by decide +kernel
def b_Mod_isFoe : List BK := [(0, [(0, .iconst 0, 0, 0), (1, .istore_n 2, 0, 0)], 2),
  (2, [(2, .iload_n 2, 0, 0), (3, .aload_n 0, 0, 0), (4, .iconst 3, 3, 0), (5, .invokevirtual 79, 162, 2), (8, .if_icmp .ge 36, 44, 0)], 11),
  (11, [(11, .aload_n 0, 0, 0), (12, .iconst 3, 3, 0), (13, .iload_n 2, 0, 0), (14, .iconst 0, 0, 0), (15, .invokevirtual 82, 163, 4), (18, .iload_n 1, 0, 0), (19, .if_icmp .ne 19, 38, 0)], 22),
  (22, [(22, .aload_n 0, 0, 0), (23, .iconst 3, 3, 0), (24, .iload_n 2, 0, 0), (25, .iconst 1, 1, 0), (26, .invokevirtual 82, 163, 4), (29, .aload_n 0, 0, 0), (30, .getfield 86, 8, 10), (33, .if_icmp .ne 5, 38, 0)], 36),
  (36, [(36, .iconst 1, 1, 0), (37, .ireturn, 0, 0)], 38),
  (38, [(38, .iinc 2 1, 1, 0), (41, .goto (-39), 2, 0)], 44),
  (44, [(44, .iconst 0, 0, 0), (45, .ireturn, 0, 0)], 46)]
theorem t_Mod_isFoe : z_chkM 165 b_Mod_isFoe = true := by decide +kernel
def b_Mod_holderOf : List BK := [(0, [(0, .iconst 0, 0, 0), (1, .istore_n 3, 0, 0)], 2),
  (2, [(2, .iload_n 3, 0, 0), (3, .aload_n 0, 0, 0), (4, .iconst 0, 0, 0), (5, .invokevirtual 79, 162, 2), (8, .if_icmp .ge 52, 60, 0)], 11),
  (11, [(11, .aload_n 0, 0, 0), (12, .iconst 0, 0, 0), (13, .iload_n 3, 0, 0), (14, .iconst 0, 0, 0), (15, .invokevirtual 82, 163, 4), (18, .iload_n 1, 0, 0), (19, .if_icmp .ne 35, 54, 0)], 22),
  (22, [(22, .iload_n 2, 0, 0), (23, .i2l, 0, 0), (24, .aload_n 0, 0, 0), (25, .iconst 0, 0, 0), (26, .iload_n 3, 0, 0), (27, .iconst 2, 2, 0), (28, .invokevirtual 82, 163, 4), (31, .i2l, 0, 0), (32, .aload_n 0, 0, 0), (33, .iconst 0, 0, 0), (34, .iload_n 3, 0, 0), (35, .iconst 3, 3, 0), (36, .invokevirtual 82, 163, 4), (39, .i2l, 0, 0), (40, .invokestatic 57, 148, 3), (43, .ifCond .eq 11, 54, 0)], 46),
  (46, [(46, .aload_n 0, 0, 0), (47, .iconst 0, 0, 0), (48, .iload_n 3, 0, 0), (49, .iconst 1, 1, 0), (50, .invokevirtual 82, 163, 4), (53, .ireturn, 0, 0)], 54),
  (54, [(54, .iinc 3 1, 1, 0), (57, .goto (-55), 2, 0)], 60),
  (60, [(60, .iconst (-1), 1, 1), (61, .ireturn, 0, 0)], 62)]
theorem t_Mod_holderOf : z_chkM 166 b_Mod_holderOf = true := by decide +kernel
def b_Mod_asks : List BK := [(0, [(0, .aload_n 0, 0, 0), (1, .dup, 0, 0), (2, .getfield 89, 10, 10), (5, .iconst 1, 1, 0), (6, .iload_n 1, 0, 0), (7, .ishl, 0, 0), (8, .ior, 0, 0), (9, .putfield 89, 10, 10), (12, .iload_n 1, 0, 0), (13, .aload_n 0, 0, 0), (14, .getfield 92, 7, 10), (17, .if_icmp .ne 5, 22, 0)], 20),
  (20, [(20, .iconst 0, 0, 0), (21, .ireturn, 0, 0)], 22),
  (22, [(22, .aload_n 0, 0, 0), (23, .getfield 30, 11, 10), (26, .aload_n 0, 0, 0), (27, .getfield 95, 12, 10), (30, .iload_n 1, 0, 0), (31, .iastore, 0, 0), (32, .aload_n 0, 0, 0), (33, .dup, 0, 0), (34, .getfield 95, 12, 10), (37, .iconst 1, 1, 0), (38, .iadd, 0, 0), (39, .putfield 95, 12, 10), (42, .aload_n 0, 0, 0), (43, .iload_n 1, 0, 0), (44, .aload_n 0, 0, 0), (45, .getfield 98, 9, 10), (48, .invokevirtual 101, 164, 3), (51, .ifCond .ne 18, 69, 0)], 54),
  (54, [(54, .aload_n 0, 0, 0), (55, .iload_n 1, 0, 0), (56, .invokevirtual 105, 165, 2), (59, .ifCond .ne 10, 69, 0)], 62),
  (62, [(62, .aload_n 0, 0, 0), (63, .iload_n 2, 0, 0), (64, .putfield 108, 13, 10), (67, .iconst 1, 1, 0), (68, .ireturn, 0, 0)], 69),
  (69, [(69, .iconst 0, 0, 0), (70, .istore_n 3, 0, 0)], 71),
  (71, [(71, .iload_n 3, 0, 0), (72, .aload_n 0, 0, 0), (73, .iconst 2, 2, 0), (74, .invokevirtual 79, 162, 2), (77, .if_icmp .ge 104, 181, 0)], 80),
  (80, [(80, .aload_n 0, 0, 0), (81, .iconst 2, 2, 0), (82, .iload_n 3, 0, 0), (83, .iconst 0, 0, 0), (84, .invokevirtual 82, 163, 4), (87, .iload_n 1, 0, 0), (88, .if_icmp .ne 87, 175, 0)], 91),
  (91, [(91, .aload_n 0, 0, 0), (92, .getfield 98, 9, 10), (95, .i2l, 0, 0), (96, .aload_n 0, 0, 0), (97, .iconst 2, 2, 0), (98, .iload_n 3, 0, 0), (99, .iconst 2, 2, 0), (100, .invokevirtual 82, 163, 4), (103, .i2l, 0, 0), (104, .aload_n 0, 0, 0), (105, .iconst 2, 2, 0), (106, .iload_n 3, 0, 0), (107, .iconst 3, 3, 0), (108, .invokevirtual 82, 163, 4), (111, .i2l, 0, 0), (112, .invokestatic 57, 148, 3), (115, .ifCond .eq 60, 175, 0)], 118),
  (118, [(118, .aload_n 0, 0, 0), (119, .getfield 89, 10, 10), (122, .aload_n 0, 0, 0), (123, .iconst 2, 2, 0), (124, .iload_n 3, 0, 0), (125, .iconst 1, 1, 0), (126, .invokevirtual 82, 163, 4), (129, .invokestatic 111, 149, 2), (132, .ifCond .eq 6, 138, 0)], 135),
  (135, [(135, .goto 40, 175, 0)], 138),
  (138, [(138, .aload_n 0, 0, 0), (139, .iconst 2, 2, 0), (140, .iload_n 3, 0, 0), (141, .iconst 4, 4, 0), (142, .invokevirtual 82, 163, 4), (145, .istore 4, 0, 0), (147, .aload_n 0, 0, 0), (148, .aload_n 0, 0, 0), (149, .iconst 2, 2, 0), (150, .iload_n 3, 0, 0), (151, .iconst 1, 1, 0), (152, .invokevirtual 82, 163, 4), (155, .iload 4, 0, 0), (157, .iload_n 2, 0, 0), (158, .if_icmp .ge 8, 166, 0)], 161),
  (161, [(161, .iload 4, 0, 0), (163, .goto 4, 167, 0)], 166),
  (166, [(166, .iload_n 2, 0, 0)], 167),
  (167, [(167, .invokevirtual 114, 167, 3), (170, .ifCond .eq 5, 175, 0)], 173),
  (173, [(173, .iconst 1, 1, 0), (174, .ireturn, 0, 0)], 175),
  (175, [(175, .iinc 3 1, 1, 0), (178, .goto (-107), 71, 0)], 181),
  (181, [(181, .aload_n 0, 0, 0), (182, .dup, 0, 0), (183, .getfield 95, 12, 10), (186, .iconst 1, 1, 0), (187, .isub, 0, 0), (188, .putfield 95, 12, 10), (191, .iconst 0, 0, 0), (192, .ireturn, 0, 0)], 193)]
theorem t_Mod_asks : z_chkM 167 b_Mod_asks = true := by decide +kernel
def b_Mod_decider : List BK := [(0, [(0, .aload_n 0, 0, 0), (1, .iload_n 2, 0, 0), (2, .putfield 98, 9, 10), (5, .aload_n 0, 0, 0), (6, .iconst 0, 0, 0), (7, .putfield 89, 10, 10), (10, .aload_n 0, 0, 0), (11, .iconst 0, 0, 0), (12, .putfield 95, 12, 10), (15, .aload_n 0, 0, 0), (16, .iload_n 1, 0, 0), (17, .iload_n 2, 0, 0), (18, .invokevirtual 117, 166, 3), (21, .istore 4, 0, 0), (23, .iload 4, 0, 0), (25, .iconst (-1), 1, 1), (26, .if_icmp .ne 10, 36, 0)], 29),
  (29, [(29, .aload_n 0, 0, 0), (30, .iconst 2, 2, 0), (31, .putfield 121, 14, 10), (34, .iconst (-1), 1, 1), (35, .ireturn, 0, 0)], 36),
  (36, [(36, .aload_n 0, 0, 0), (37, .iload 4, 0, 0), (39, .aload_n 0, 0, 0), (40, .iload_n 1, 0, 0), (41, .iload_n 3, 0, 0), (42, .invokevirtual 124, 158, 3), (45, .invokevirtual 114, 167, 3), (48, .ifCond .eq 15, 63, 0)], 51),
  (51, [(51, .aload_n 0, 0, 0), (52, .getfield 30, 11, 10), (55, .aload_n 0, 0, 0), (56, .getfield 95, 12, 10), (59, .iconst 1, 1, 0), (60, .isub, 0, 0), (61, .iaload, 0, 0), (62, .ireturn, 0, 0)], 63),
  (63, [(63, .aload_n 0, 0, 0), (64, .iload 4, 0, 0), (66, .aload_n 0, 0, 0), (67, .getfield 92, 7, 10), (70, .if_icmp .ne 7, 77, 0)], 73),
  (73, [(73, .iconst 4, 4, 0), (74, .goto 18, 92, 0)], 77),
  (77, [(77, .aload_n 0, 0, 0), (78, .iload 4, 0, 0), (80, .iload_n 2, 0, 0), (81, .invokevirtual 101, 164, 3), (84, .ifCond .eq 7, 91, 0)], 87),
  (87, [(87, .iconst 3, 3, 0), (88, .goto 4, 92, 0)], 91),
  (91, [(91, .iconst 5, 5, 0)], 92),
  (92, [(92, .putfield 121, 14, 10), (95, .iconst (-1), 1, 1), (96, .ireturn, 0, 0)], 97)]
theorem t_Mod_decider : z_chkM 168 b_Mod_decider = true := by decide +kernel
def b_Mod_asksFor : List BK := [(0, [(0, .aload_n 0, 0, 0), (1, .iload_n 1, 0, 0), (2, .putfield 92, 7, 10), (5, .aload_n 0, 0, 0), (6, .iload_n 2, 0, 0), (7, .putfield 86, 8, 10), (10, .return_, 0, 0)], 11)]
theorem t_Mod_asksFor : z_chkM 169 b_Mod_asksFor = true := by decide +kernel
def b_Mod_joinedTo : List BK := [(0, [(0, .lconst 1, 0, 0), (1, .iload_n 1, 0, 0), (2, .lshl, 0, 0), (3, .lstore_n 2, 0, 0), (4, .iconst 1, 1, 0), (5, .istore 4, 0, 0)], 7),
  (7, [(7, .iload 4, 0, 0), (9, .ifCond .eq 69, 78, 0)], 12),
  (12, [(12, .iconst 0, 0, 0), (13, .istore 4, 0, 0), (15, .iconst 0, 0, 0), (16, .istore 5, 0, 0)], 18),
  (18, [(18, .iload 5, 0, 0), (20, .iload_n 1, 0, 0), (21, .if_icmp .ge 54, 75, 0)], 24),
  (24, [(24, .lload_n 2, 0, 0), (25, .iload 5, 0, 0), (27, .lshr, 0, 0), (28, .lconst 1, 0, 0), (29, .land, 0, 0), (30, .lconst 1, 0, 0), (31, .lcmp, 0, 0), (32, .ifCond .eq 37, 69, 0)], 35),
  (35, [(35, .aload_n 0, 0, 0), (36, .iload 5, 0, 0), (38, .iload_n 1, 0, 0), (39, .invokevirtual 127, 171, 3), (42, .ifCond .eq 27, 69, 0)], 45),
  (45, [(45, .aload_n 0, 0, 0), (46, .iload 5, 0, 0), (48, .iload_n 1, 0, 0), (49, .lload_n 2, 0, 0), (50, .invokevirtual 130, 172, 4), (53, .ifCond .ne 6, 59, 0)], 56),
  (56, [(56, .goto 13, 69, 0)], 59),
  (59, [(59, .lload_n 2, 0, 0), (60, .lconst 1, 0, 0), (61, .iload 5, 0, 0), (63, .lshl, 0, 0), (64, .lor, 0, 0), (65, .lstore_n 2, 0, 0), (66, .iconst 1, 1, 0), (67, .istore 4, 0, 0)], 69),
  (69, [(69, .iinc 5 1, 1, 0), (72, .goto (-54), 18, 0)], 75),
  (75, [(75, .goto (-68), 7, 0)], 78),
  (78, [(78, .lload_n 2, 0, 0), (79, .lconst 1, 0, 0), (80, .iload_n 1, 0, 0), (81, .lshl, 0, 0), (82, .lxor, 0, 0), (83, .lreturn, 0, 0)], 84)]
theorem t_Mod_joinedTo : z_chkM 170 b_Mod_joinedTo = true := by decide +kernel
def b_Mod_mayJoin : List BK := [(0, [(0, .aload_n 0, 0, 0), (1, .iload_n 1, 0, 0), (2, .iconst 0, 0, 0), (3, .invokevirtual 134, 159, 3), (6, .aload_n 0, 0, 0), (7, .iload_n 2, 0, 0), (8, .iconst 0, 0, 0), (9, .invokevirtual 134, 159, 3), (12, .if_icmp .ne 37, 49, 0)], 15),
  (15, [(15, .aload_n 0, 0, 0), (16, .iload_n 1, 0, 0), (17, .iconst 2, 2, 0), (18, .invokevirtual 134, 159, 3), (21, .aload_n 0, 0, 0), (22, .iload_n 2, 0, 0), (23, .iconst 2, 2, 0), (24, .invokevirtual 134, 159, 3), (27, .if_icmp .ne 22, 49, 0)], 30),
  (30, [(30, .aload_n 0, 0, 0), (31, .iload_n 1, 0, 0), (32, .iconst 3, 3, 0), (33, .invokevirtual 134, 159, 3), (36, .aload_n 0, 0, 0), (37, .iload_n 2, 0, 0), (38, .iconst 3, 3, 0), (39, .invokevirtual 134, 159, 3), (42, .if_icmp .ne 7, 49, 0)], 45),
  (45, [(45, .iconst 1, 1, 0), (46, .goto 4, 50, 0)], 49),
  (49, [(49, .iconst 0, 0, 0)], 50),
  (50, [(50, .istore_n 3, 0, 0), (51, .iload_n 3, 0, 0), (52, .ifCond .eq 35, 87, 0)], 55),
  (55, [(55, .aload_n 0, 0, 0), (56, .iload_n 1, 0, 0), (57, .bipush 6, 6, 0), (59, .invokevirtual 134, 159, 3), (62, .bipush (-2), 2, 1), (64, .if_icmp .eq 19, 83, 0)], 67),
  (67, [(67, .aload_n 0, 0, 0), (68, .iload_n 1, 0, 0), (69, .bipush 6, 6, 0), (71, .invokevirtual 134, 159, 3), (74, .aload_n 0, 0, 0), (75, .iload_n 2, 0, 0), (76, .iconst 5, 5, 0), (77, .invokevirtual 134, 159, 3), (80, .if_icmp .le 7, 87, 0)], 83),
  (83, [(83, .iconst 1, 1, 0), (84, .goto 4, 88, 0)], 87),
  (87, [(87, .iconst 0, 0, 0)], 88),
  (88, [(88, .ireturn, 0, 0)], 89)]
theorem t_Mod_mayJoin : z_chkM 171 b_Mod_mayJoin = true := by decide +kernel
def b_Mod_isNear : List BK := [(0, [(0, .iconst 0, 0, 0), (1, .istore 5, 0, 0)], 3),
  (3, [(3, .iload 5, 0, 0), (5, .iload_n 2, 0, 0), (6, .if_icmp .gt 65, 71, 0)], 9),
  (9, [(9, .lload_n 3, 0, 0), (10, .iload 5, 0, 0), (12, .lshr, 0, 0), (13, .lconst 1, 0, 0), (14, .land, 0, 0), (15, .lconst 1, 0, 0), (16, .lcmp, 0, 0), (17, .ifCond .ne 48, 65, 0)], 20),
  (20, [(20, .aload_n 0, 0, 0), (21, .iload_n 1, 0, 0), (22, .iconst 5, 5, 0), (23, .invokevirtual 134, 159, 3), (26, .i2l, 0, 0), (27, .aload_n 0, 0, 0), (28, .iload 5, 0, 0), (30, .iconst 5, 5, 0), (31, .invokevirtual 134, 159, 3), (34, .aload_n 0, 0, 0), (35, .getfield 7, 0, 10), (38, .iconst 5, 5, 0), (39, .iaload, 0, 0), (40, .isub, 0, 0), (41, .i2l, 0, 0), (42, .aload_n 0, 0, 0), (43, .iload 5, 0, 0), (45, .iconst 5, 5, 0), (46, .invokevirtual 134, 159, 3), (49, .aload_n 0, 0, 0), (50, .getfield 7, 0, 10), (53, .iconst 5, 5, 0), (54, .iaload, 0, 0), (55, .iadd, 0, 0), (56, .i2l, 0, 0), (57, .invokestatic 57, 148, 3), (60, .ifCond .eq 5, 65, 0)], 63),
  (63, [(63, .iconst 1, 1, 0), (64, .ireturn, 0, 0)], 65),
  (65, [(65, .iinc 5 1, 1, 0), (68, .goto (-65), 3, 0)], 71),
  (71, [(71, .iconst 0, 0, 0), (72, .ireturn, 0, 0)], 73)]
theorem t_Mod_isNear : z_chkM 172 b_Mod_isNear = true := by decide +kernel
def b_Mod_bits : List BK := [(0, [(0, .iconst 0, 0, 0), (1, .istore_n 2, 0, 0), (2, .lload_n 0, 0, 0), (3, .lstore_n 3, 0, 0)], 4),
  (4, [(4, .lload_n 3, 0, 0), (5, .lconst 0, 0, 0), (6, .lcmp, 0, 0), (7, .ifCond .eq 15, 22, 0)], 10),
  (10, [(10, .iinc 2 1, 1, 0), (13, .lload_n 3, 0, 0), (14, .lload_n 3, 0, 0), (15, .lconst 1, 0, 0), (16, .lsub, 0, 0), (17, .land, 0, 0), (18, .lstore_n 3, 0, 0), (19, .goto (-15), 4, 0)], 22),
  (22, [(22, .iload_n 2, 0, 0), (23, .ireturn, 0, 0)], 24)]
theorem t_Mod_bits : z_chkM 173 b_Mod_bits = true := by decide +kernel
def b_Mod_wholeOf : List BK := [(0, [(0, .aload_n 0, 0, 0), (1, .iload_n 1, 0, 0), (2, .invokevirtual 137, 170, 2), (5, .lstore_n 2, 0, 0), (6, .aload_n 0, 0, 0), (7, .iload_n 1, 0, 0), (8, .iconst 4, 4, 0), (9, .invokevirtual 134, 159, 3), (12, .istore 4, 0, 0), (14, .iconst 0, 0, 0), (15, .istore 5, 0, 0)], 17),
  (17, [(17, .iload 5, 0, 0), (19, .iload_n 1, 0, 0), (20, .if_icmp .ge 36, 56, 0)], 23),
  (23, [(23, .iload 4, 0, 0), (25, .lload_n 2, 0, 0), (26, .iload 5, 0, 0), (28, .lshr, 0, 0), (29, .lconst 1, 0, 0), (30, .land, 0, 0), (31, .lconst 1, 0, 0), (32, .lcmp, 0, 0), (33, .ifCond .ne 13, 46, 0)], 36),
  (36, [(36, .aload_n 0, 0, 0), (37, .iload 5, 0, 0), (39, .iconst 4, 4, 0), (40, .invokevirtual 134, 159, 3), (43, .goto 4, 47, 0)], 46),
  (46, [(46, .iconst 0, 0, 0)], 47),
  (47, [(47, .iadd, 0, 0), (48, .istore 4, 0, 0), (50, .iinc 5 1, 1, 0), (53, .goto (-36), 17, 0)], 56),
  (56, [(56, .iload 4, 0, 0), (58, .ireturn, 0, 0)], 59)]
theorem t_Mod_wholeOf : z_chkM 174 b_Mod_wholeOf = true := by decide +kernel
def b_Mod_puts : List BK := [(0, [(0, .bipush 6, 6, 0), (2, .aload_n 0, 0, 0), (3, .getfield 141, 17, 10), (6, .imul, 0, 0), (7, .istore 5, 0, 0), (9, .aload_n 0, 0, 0), (10, .getfield 33, 15, 10), (13, .iload 5, 0, 0), (15, .iload_n 1, 0, 0), (16, .iastore, 0, 0), (17, .aload_n 0, 0, 0), (18, .getfield 33, 15, 10), (21, .iload 5, 0, 0), (23, .iconst 1, 1, 0), (24, .iadd, 0, 0), (25, .iload_n 2, 0, 0), (26, .iastore, 0, 0), (27, .aload_n 0, 0, 0), (28, .getfield 33, 15, 10), (31, .iload 5, 0, 0), (33, .iconst 2, 2, 0), (34, .iadd, 0, 0), (35, .iload_n 3, 0, 0), (36, .iconst (-1), 1, 1), (37, .if_icmp .ne 8, 45, 0)], 40),
  (40, [(40, .bipush (-2), 2, 1), (42, .goto 4, 46, 0)], 45),
  (45, [(45, .iload_n 3, 0, 0)], 46),
  (46, [(46, .iastore, 0, 0), (47, .aload_n 0, 0, 0), (48, .getfield 33, 15, 10), (51, .iload 5, 0, 0), (53, .iconst 3, 3, 0), (54, .iadd, 0, 0), (55, .iload_n 3, 0, 0), (56, .iconst (-1), 1, 1), (57, .if_icmp .ne 8, 65, 0)], 60),
  (60, [(60, .bipush (-2), 2, 1), (62, .goto 7, 69, 0)], 65),
  (65, [(65, .aload_n 0, 0, 0), (66, .getfield 108, 13, 10)], 69),
  (69, [(69, .iastore, 0, 0), (70, .aload_n 0, 0, 0), (71, .getfield 33, 15, 10), (74, .iload 5, 0, 0), (76, .iconst 4, 4, 0), (77, .iadd, 0, 0), (78, .iload 4, 0, 0), (80, .iastore, 0, 0), (81, .aload_n 0, 0, 0), (82, .getfield 33, 15, 10), (85, .iload 5, 0, 0), (87, .iconst 5, 5, 0), (88, .iadd, 0, 0), (89, .iload_n 3, 0, 0), (90, .iconst (-1), 1, 1), (91, .if_icmp .ne 8, 99, 0)], 94),
  (94, [(94, .bipush (-2), 2, 1), (96, .goto 9, 105, 0)], 99),
  (99, [(99, .aload_n 0, 0, 0), (100, .getfield 95, 12, 10), (103, .iconst 1, 1, 0), (104, .isub, 0, 0)], 105),
  (105, [(105, .iastore, 0, 0), (106, .iconst 0, 0, 0), (107, .istore 6, 0, 0)], 109),
  (109, [(109, .iload 6, 0, 0), (111, .aload_n 0, 0, 0), (112, .getfield 95, 12, 10), (115, .if_icmp .ge 36, 151, 0)], 118),
  (118, [(118, .iload_n 3, 0, 0), (119, .iconst (-1), 1, 1), (120, .if_icmp .eq 31, 151, 0)], 123),
  (123, [(123, .aload_n 0, 0, 0), (124, .getfield 36, 16, 10), (127, .bipush 16, 16, 0), (129, .aload_n 0, 0, 0), (130, .getfield 141, 17, 10), (133, .imul, 0, 0), (134, .iload 6, 0, 0), (136, .iadd, 0, 0), (137, .aload_n 0, 0, 0), (138, .getfield 30, 11, 10), (141, .iload 6, 0, 0), (143, .iaload, 0, 0), (144, .iastore, 0, 0), (145, .iinc 6 1, 1, 0), (148, .goto (-39), 109, 0)], 151),
  (151, [(151, .aload_n 0, 0, 0), (152, .dup, 0, 0), (153, .getfield 141, 17, 10), (156, .iconst 1, 1, 0), (157, .iadd, 0, 0), (158, .putfield 141, 17, 10), (161, .return_, 0, 0)], 162)]
theorem t_Mod_puts : z_chkM 175 b_Mod_puts = true := by decide +kernel
def b_Mod_climbs : List BK := [(0, [(0, .iload_n 2, 0, 0), (1, .aload_n 0, 0, 0), (2, .getfield 7, 0, 10), (5, .bipush 7, 7, 0), (7, .iaload, 0, 0), (8, .iadd, 0, 0), (9, .sipush 999, 999, 0), (12, .if_icmp .ge 15, 27, 0)], 15),
  (15, [(15, .iload_n 2, 0, 0), (16, .aload_n 0, 0, 0), (17, .getfield 7, 0, 10), (20, .bipush 7, 7, 0), (22, .iaload, 0, 0), (23, .iadd, 0, 0), (24, .goto 6, 30, 0)], 27),
  (27, [(27, .sipush 999, 999, 0)], 30),
  (30, [(30, .istore 5, 0, 0), (32, .iconst 0, 0, 0), (33, .istore 6, 0, 0), (35, .iload_n 2, 0, 0), (36, .istore 7, 0, 0)], 38),
  (38, [(38, .iload 7, 0, 0), (40, .iload 5, 0, 0), (42, .if_icmp .gt 82, 124, 0)], 45),
  (45, [(45, .aload_n 0, 0, 0), (46, .iload_n 1, 0, 0), (47, .iload 7, 0, 0), (49, .iload_n 3, 0, 0), (50, .invokevirtual 144, 168, 4), (53, .istore 8, 0, 0), (55, .iload 7, 0, 0), (57, .iload_n 2, 0, 0), (58, .if_icmp .ne 9, 67, 0)], 61),
  (61, [(61, .aload_n 0, 0, 0), (62, .getfield 121, 14, 10), (65, .istore 6, 0, 0)], 67),
  (67, [(67, .iload 8, 0, 0), (69, .iconst (-1), 1, 1), (70, .if_icmp .ne 6, 76, 0)], 73),
  (73, [(73, .goto 45, 118, 0)], 76),
  (76, [(76, .aload_n 0, 0, 0), (77, .aload_n 0, 0, 0), (78, .getfield 108, 13, 10), (81, .iload 4, 0, 0), (83, .if_icmp .lt 7, 90, 0)], 86),
  (86, [(86, .iconst 1, 1, 0), (87, .goto 4, 91, 0)], 90),
  (90, [(90, .iconst 0, 0, 0)], 91),
  (91, [(91, .putfield 147, 18, 10), (94, .aload_n 0, 0, 0), (95, .iload_n 1, 0, 0), (96, .iload 7, 0, 0), (98, .iload 8, 0, 0), (100, .aload_n 0, 0, 0), (101, .getfield 147, 18, 10), (104, .ifCond .eq 7, 111, 0)], 107),
  (107, [(107, .iconst 0, 0, 0), (108, .goto 4, 112, 0)], 111),
  (111, [(111, .iconst 1, 1, 0)], 112),
  (112, [(112, .invokevirtual 151, 175, 5), (115, .iload 7, 0, 0), (117, .ireturn, 0, 0)], 118),
  (118, [(118, .iinc 7 1, 1, 0), (121, .goto (-83), 38, 0)], 124),
  (124, [(124, .aload_n 0, 0, 0), (125, .iload_n 1, 0, 0), (126, .iload 5, 0, 0), (128, .iconst (-1), 1, 1), (129, .iload 6, 0, 0), (131, .invokevirtual 151, 175, 5), (134, .iload 5, 0, 0), (136, .ireturn, 0, 0)], 137)]
theorem t_Mod_climbs : z_chkM 176 b_Mod_climbs = true := by decide +kernel
def b_Mod_routesBy : List BK := [(0, [(0, .aload_n 0, 0, 0), (1, .aload_n 0, 0, 0), (2, .iload_n 1, 0, 0), (3, .iconst 0, 0, 0), (4, .invokevirtual 134, 159, 3), (7, .aload_n 0, 0, 0), (8, .iload_n 1, 0, 0), (9, .iconst 2, 2, 0), (10, .invokevirtual 134, 159, 3), (13, .invokevirtual 155, 169, 3), (16, .aload_n 0, 0, 0), (17, .iconst 0, 0, 0), (18, .putfield 141, 17, 10), (21, .aload_n 0, 0, 0), (22, .iconst 0, 0, 0), (23, .putfield 147, 18, 10), (26, .aload_n 0, 0, 0), (27, .iload_n 1, 0, 0), (28, .iconst 1, 1, 0), (29, .invokevirtual 134, 159, 3), (32, .istore_n 3, 0, 0), (33, .aload_n 0, 0, 0), (34, .iload_n 1, 0, 0), (35, .iconst 5, 5, 0), (36, .invokevirtual 134, 159, 3), (39, .istore 4, 0, 0)], 41),
  (41, [(41, .iload_n 3, 0, 0), (42, .iconst (-1), 1, 1), (43, .if_icmp .eq 51, 94, 0)], 46),
  (46, [(46, .iload 4, 0, 0), (48, .sipush 999, 999, 0), (51, .if_icmp .gt 43, 94, 0)], 54),
  (54, [(54, .aload_n 0, 0, 0), (55, .getfield 147, 18, 10), (58, .ifCond .ne 36, 94, 0)], 61),
  (61, [(61, .aload_n 0, 0, 0), (62, .iload_n 3, 0, 0), (63, .iload 4, 0, 0), (65, .aload_n 0, 0, 0), (66, .iload_n 1, 0, 0), (67, .iconst 3, 3, 0), (68, .invokevirtual 134, 159, 3), (71, .iload_n 2, 0, 0), (72, .invokevirtual 159, 176, 5), (75, .aload_n 0, 0, 0), (76, .getfield 7, 0, 10), (79, .bipush 6, 6, 0), (81, .iaload, 0, 0), (82, .iadd, 0, 0), (83, .istore 4, 0, 0), (85, .aload_n 0, 0, 0), (86, .iload_n 3, 0, 0), (87, .invokevirtual 163, 157, 2), (90, .istore_n 3, 0, 0), (91, .goto (-50), 41, 0)], 94),
  (94, [(94, .return_, 0, 0)], 95)]
theorem t_Mod_routesBy : z_chkM 177 b_Mod_routesBy = true := by decide +kernel
def b_Mod_routes : List BK := [(0, [(0, .aload_n 0, 0, 0), (1, .iload_n 1, 0, 0), (2, .aload_n 0, 0, 0), (3, .iload_n 1, 0, 0), (4, .invokevirtual 166, 174, 2), (7, .invokevirtual 169, 177, 3), (10, .return_, 0, 0)], 11)]
theorem t_Mod_routes : z_chkM 178 b_Mod_routes = true := by decide +kernel
def b_Mod_last : List BK := [(0, [(0, .aload_n 0, 0, 0), (1, .getfield 33, 15, 10), (4, .bipush 6, 6, 0), (6, .aload_n 0, 0, 0), (7, .getfield 141, 17, 10), (10, .iconst 1, 1, 0), (11, .isub, 0, 0), (12, .imul, 0, 0), (13, .iload_n 1, 0, 0), (14, .iadd, 0, 0), (15, .iaload, 0, 0), (16, .ireturn, 0, 0)], 17)]
theorem t_Mod_last : z_chkM 179 b_Mod_last = true := by decide +kernel
def b_Mod_isRecalled : List BK := [(0, [(0, .aload_n 0, 0, 0), (1, .iload_n 1, 0, 0), (2, .bipush 6, 6, 0), (4, .invokevirtual 134, 159, 3), (7, .bipush (-2), 2, 1), (9, .if_icmp .eq 7, 16, 0)], 12),
  (12, [(12, .iconst 1, 1, 0), (13, .goto 4, 17, 0)], 16),
  (16, [(16, .iconst 0, 0, 0)], 17),
  (17, [(17, .ireturn, 0, 0)], 18)]
theorem t_Mod_isRecalled : z_chkM 180 b_Mod_isRecalled = true := by decide +kernel
def b_Mod_aboveOf : List BK := [(0, [(0, .iconst 0, 0, 0), (1, .istore_n 2, 0, 0), (2, .aload_n 0, 0, 0), (3, .iload_n 1, 0, 0), (4, .invokevirtual 163, 157, 2), (7, .istore_n 3, 0, 0)], 8),
  (8, [(8, .iload_n 3, 0, 0), (9, .iconst (-1), 1, 1), (10, .if_icmp .eq 15, 25, 0)], 13),
  (13, [(13, .iinc 2 1, 1, 0), (16, .aload_n 0, 0, 0), (17, .iload_n 3, 0, 0), (18, .invokevirtual 163, 157, 2), (21, .istore_n 3, 0, 0), (22, .goto (-14), 8, 0)], 25),
  (25, [(25, .iload_n 2, 0, 0), (26, .ireturn, 0, 0)], 27)]
theorem t_Mod_aboveOf : z_chkM 181 b_Mod_aboveOf = true := by decide +kernel
def b_Mod_belowOf : List BK := [(0, [(0, .iconst 0, 0, 0), (1, .istore_n 2, 0, 0), (2, .iconst 0, 0, 0), (3, .istore_n 3, 0, 0)], 4),
  (4, [(4, .iload_n 3, 0, 0), (5, .aload_n 0, 0, 0), (6, .invokevirtual 53, 150, 1), (9, .if_icmp .ge 26, 35, 0)], 12),
  (12, [(12, .iload_n 2, 0, 0), (13, .aload_n 0, 0, 0), (14, .iload_n 3, 0, 0), (15, .invokevirtual 163, 157, 2), (18, .iload_n 1, 0, 0), (19, .if_icmp .ne 7, 26, 0)], 22),
  (22, [(22, .iconst 1, 1, 0), (23, .goto 4, 27, 0)], 26),
  (26, [(26, .iconst 0, 0, 0)], 27),
  (27, [(27, .iadd, 0, 0), (28, .istore_n 2, 0, 0), (29, .iinc 3 1, 1, 0), (32, .goto (-28), 4, 0)], 35),
  (35, [(35, .iload_n 2, 0, 0), (36, .ireturn, 0, 0)], 37)]
theorem t_Mod_belowOf : z_chkM 182 b_Mod_belowOf = true := by decide +kernel
def b_Mod_post : List BK := [(0, [(0, .aload_n 0, 0, 0), (1, .iload_n 1, 0, 0), (2, .invokevirtual 172, 152, 2), (5, .ifCond .ne 5, 10, 0)], 8),
  (8, [(8, .iconst (-1), 1, 1), (9, .ireturn, 0, 0)], 10),
  (10, [(10, .iload_n 2, 0, 0), (11, .tableswitch 78 0 5 #[37, 57, 57, 57, 66, 72], 0, 0)], 48),
  (48, [(48, .aload_n 0, 0, 0), (49, .iload_n 1, 0, 0), (50, .invokevirtual 163, 157, 2), (53, .iconst (-1), 1, 1), (54, .if_icmp .ne 8, 62, 0)], 57),
  (57, [(57, .bipush (-2), 2, 1), (59, .goto 8, 67, 0)], 62),
  (62, [(62, .aload_n 0, 0, 0), (63, .iload_n 1, 0, 0), (64, .invokevirtual 163, 157, 2)], 67),
  (67, [(67, .ireturn, 0, 0)], 68),
  (68, [(68, .aload_n 0, 0, 0), (69, .iload_n 1, 0, 0), (70, .iload_n 2, 0, 0), (71, .iconst 1, 1, 0), (72, .isub, 0, 0), (73, .invokevirtual 124, 158, 3), (76, .ireturn, 0, 0)], 77),
  (77, [(77, .aload_n 0, 0, 0), (78, .iload_n 1, 0, 0), (79, .invokevirtual 175, 181, 2), (82, .ireturn, 0, 0)], 83),
  (83, [(83, .aload_n 0, 0, 0), (84, .iload_n 1, 0, 0), (85, .invokevirtual 178, 182, 2), (88, .ireturn, 0, 0)], 89),
  (89, [(89, .iconst (-1), 1, 1), (90, .ireturn, 0, 0)], 91)]
theorem t_Mod_post : z_chkM 183 b_Mod_post = true := by decide +kernel
def b_Mod_isEntry : List BK := [(0, [(0, .iload_n 1, 0, 0), (1, .i2l, 0, 0), (2, .lconst 0, 0, 0), (3, .ldc2_w 181, 3, 2), (6, .invokestatic 57, 148, 3), (9, .ifCond .eq 24, 33, 0)], 12),
  (12, [(12, .iload_n 2, 0, 0), (13, .i2l, 0, 0), (14, .lconst 0, 0, 0), (15, .aload_n 0, 0, 0), (16, .iload_n 1, 0, 0), (17, .invokevirtual 79, 162, 2), (20, .iconst 1, 1, 0), (21, .isub, 0, 0), (22, .i2l, 0, 0), (23, .invokestatic 57, 148, 3), (26, .ifCond .eq 7, 33, 0)], 29),
  (29, [(29, .iconst 1, 1, 0), (30, .goto 4, 34, 0)], 33),
  (33, [(33, .iconst 0, 0, 0)], 34),
  (34, [(34, .ireturn, 0, 0)], 35)]
theorem t_Mod_isEntry : z_chkM 184 b_Mod_isEntry = true := by decide +kernel
def b_Mod_entry : List BK := [(0, [(0, .aload_n 0, 0, 0), (1, .iload_n 1, 0, 0), (2, .iload_n 2, 0, 0), (3, .invokevirtual 183, 184, 3), (6, .ifCond .eq 29, 35, 0)], 9),
  (9, [(9, .iload_n 3, 0, 0), (10, .i2l, 0, 0), (11, .lconst 0, 0, 0), (12, .iload_n 1, 0, 0), (13, .invokestatic 76, 160, 1), (16, .iconst 1, 1, 0), (17, .isub, 0, 0), (18, .i2l, 0, 0), (19, .invokestatic 57, 148, 3), (22, .ifCond .eq 13, 35, 0)], 25),
  (25, [(25, .aload_n 0, 0, 0), (26, .iload_n 1, 0, 0), (27, .iload_n 2, 0, 0), (28, .iload_n 3, 0, 0), (29, .invokevirtual 82, 163, 4), (32, .goto 4, 36, 0)], 35),
  (35, [(35, .iconst (-1), 1, 1)], 36),
  (36, [(36, .ireturn, 0, 0)], 37)]
theorem t_Mod_entry : z_chkM 185 b_Mod_entry = true := by decide +kernel
def b_Mod_asked : List BK := [(0, [(0, .aload_n 0, 0, 0), (1, .iload_n 1, 0, 0), (2, .invokevirtual 186, 153, 2), (5, .ifCond .ne 5, 10, 0)], 8),
  (8, [(8, .iconst (-1), 1, 1), (9, .ireturn, 0, 0)], 10),
  (10, [(10, .iload_n 2, 0, 0), (11, .tableswitch 71 0 8 #[49, 49, 49, 49, 49, 49, 49, 56, 62], 0, 0)], 60),
  (60, [(60, .aload_n 0, 0, 0), (61, .iload_n 1, 0, 0), (62, .iload_n 2, 0, 0), (63, .invokevirtual 134, 159, 3), (66, .ireturn, 0, 0)], 67),
  (67, [(67, .aload_n 0, 0, 0), (68, .iload_n 1, 0, 0), (69, .invokevirtual 166, 174, 2), (72, .ireturn, 0, 0)], 73),
  (73, [(73, .aload_n 0, 0, 0), (74, .iload_n 1, 0, 0), (75, .invokevirtual 137, 170, 2), (78, .invokestatic 189, 173, 1), (81, .ireturn, 0, 0)], 82),
  (82, [(82, .iconst (-1), 1, 1), (83, .ireturn, 0, 0)], 84)]
theorem t_Mod_asked : z_chkM 186 b_Mod_asked = true := by decide +kernel
def b_Mod_joined : List BK := [(0, [(0, .aload_n 0, 0, 0), (1, .iload_n 1, 0, 0), (2, .invokevirtual 186, 153, 2), (5, .ifCond .eq 11, 16, 0)], 8),
  (8, [(8, .aload_n 0, 0, 0), (9, .iload_n 1, 0, 0), (10, .invokevirtual 137, 170, 2), (13, .goto 6, 19, 0)], 16),
  (16, [(16, .ldc2_w 193, 1, 3)], 19),
  (19, [(19, .lreturn, 0, 0)], 20)]
theorem t_Mod_joined : z_chkM 187 b_Mod_joined = true := by decide +kernel
def b_Mod_step : List BK := [(0, [(0, .aload_n 0, 0, 0), (1, .iload_n 1, 0, 0), (2, .invokevirtual 186, 153, 2), (5, .ifCond .ne 5, 10, 0)], 8),
  (8, [(8, .iconst (-1), 1, 1), (9, .ireturn, 0, 0)], 10),
  (10, [(10, .aload_n 0, 0, 0), (11, .iload_n 1, 0, 0), (12, .invokevirtual 195, 178, 2), (15, .iload_n 2, 0, 0), (16, .iconst (-1), 1, 1), (17, .if_icmp .ne 12, 29, 0)], 20),
  (20, [(20, .iload_n 3, 0, 0), (21, .ifCond .ne 8, 29, 0)], 24),
  (24, [(24, .aload_n 0, 0, 0), (25, .getfield 141, 17, 10), (28, .ireturn, 0, 0)], 29),
  (29, [(29, .iload_n 2, 0, 0), (30, .i2l, 0, 0), (31, .lconst 0, 0, 0), (32, .aload_n 0, 0, 0), (33, .getfield 141, 17, 10), (36, .iconst 1, 1, 0), (37, .isub, 0, 0), (38, .i2l, 0, 0), (39, .invokestatic 57, 148, 3), (42, .ifCond .eq 29, 71, 0)], 45),
  (45, [(45, .iload_n 3, 0, 0), (46, .i2l, 0, 0), (47, .lconst 0, 0, 0), (48, .ldc2_w 199, 5, 2), (51, .invokestatic 57, 148, 3), (54, .ifCond .eq 17, 71, 0)], 57),
  (57, [(57, .aload_n 0, 0, 0), (58, .getfield 33, 15, 10), (61, .bipush 6, 6, 0), (63, .iload_n 2, 0, 0), (64, .imul, 0, 0), (65, .iload_n 3, 0, 0), (66, .iadd, 0, 0), (67, .iaload, 0, 0), (68, .goto 4, 72, 0)], 71),
  (71, [(71, .iconst (-1), 1, 1)], 72),
  (72, [(72, .ireturn, 0, 0)], 73)]
theorem t_Mod_step : z_chkM 188 b_Mod_step = true := by decide +kernel
def b_Mod_chain : List BK := [(0, [(0, .aload_n 0, 0, 0), (1, .iload_n 1, 0, 0), (2, .invokevirtual 186, 153, 2), (5, .ifCond .ne 5, 10, 0)], 8),
  (8, [(8, .iconst (-1), 1, 1), (9, .ireturn, 0, 0)], 10),
  (10, [(10, .aload_n 0, 0, 0), (11, .iload_n 1, 0, 0), (12, .invokevirtual 195, 178, 2), (15, .iload_n 2, 0, 0), (16, .i2l, 0, 0), (17, .lconst 0, 0, 0), (18, .aload_n 0, 0, 0), (19, .getfield 141, 17, 10), (22, .iconst 1, 1, 0), (23, .isub, 0, 0), (24, .i2l, 0, 0), (25, .invokestatic 57, 148, 3), (28, .ifCond .eq 7, 35, 0)], 31),
  (31, [(31, .iload_n 3, 0, 0), (32, .ifCond .ge 5, 37, 0)], 35),
  (35, [(35, .iconst (-1), 1, 1), (36, .ireturn, 0, 0)], 37),
  (37, [(37, .iload_n 3, 0, 0), (38, .aload_n 0, 0, 0), (39, .getfield 33, 15, 10), (42, .bipush 6, 6, 0), (44, .iload_n 2, 0, 0), (45, .imul, 0, 0), (46, .iconst 5, 5, 0), (47, .iadd, 0, 0), (48, .iaload, 0, 0), (49, .if_icmp .gt 17, 66, 0)], 52),
  (52, [(52, .aload_n 0, 0, 0), (53, .getfield 36, 16, 10), (56, .bipush 16, 16, 0), (58, .iload_n 2, 0, 0), (59, .imul, 0, 0), (60, .iload_n 3, 0, 0), (61, .iadd, 0, 0), (62, .iaload, 0, 0), (63, .goto 5, 68, 0)], 66),
  (66, [(66, .bipush (-2), 2, 1)], 68),
  (68, [(68, .ireturn, 0, 0)], 69)]
theorem t_Mod_chain : z_chkM 189 b_Mod_chain = true := by decide +kernel
def b_Mod_ends : List BK := [(0, [(0, .aload_n 0, 0, 0), (1, .iload_n 1, 0, 0), (2, .invokevirtual 186, 153, 2), (5, .ifCond .eq 15, 20, 0)], 8),
  (8, [(8, .iload_n 2, 0, 0), (9, .i2l, 0, 0), (10, .lconst 0, 0, 0), (11, .ldc2_w 181, 3, 2), (14, .invokestatic 57, 148, 3), (17, .ifCond .ne 5, 22, 0)], 20),
  (20, [(20, .iconst (-1), 1, 1), (21, .ireturn, 0, 0)], 22),
  (22, [(22, .aload_n 0, 0, 0), (23, .iload_n 1, 0, 0), (24, .invokevirtual 195, 178, 2), (27, .iload_n 2, 0, 0), (28, .iconst 3, 3, 0), (29, .if_icmp .ne 9, 38, 0)], 32),
  (32, [(32, .aload_n 0, 0, 0), (33, .iconst 0, 0, 0), (34, .invokevirtual 201, 179, 2), (37, .ireturn, 0, 0)], 38),
  (38, [(38, .aload_n 0, 0, 0), (39, .iload_n 1, 0, 0), (40, .invokevirtual 204, 180, 2), (43, .ifCond .eq 29, 72, 0)], 46),
  (46, [(46, .iload_n 2, 0, 0), (47, .ifCond .ne 7, 54, 0)], 50),
  (50, [(50, .iconst 3, 3, 0), (51, .goto 20, 71, 0)], 54),
  (54, [(54, .iload_n 2, 0, 0), (55, .iconst 1, 1, 0), (56, .if_icmp .ne 13, 69, 0)], 59),
  (59, [(59, .aload_n 0, 0, 0), (60, .iload_n 1, 0, 0), (61, .bipush 6, 6, 0), (63, .invokevirtual 134, 159, 3), (66, .goto 5, 71, 0)], 69),
  (69, [(69, .bipush (-2), 2, 1)], 71),
  (71, [(71, .ireturn, 0, 0)], 72),
  (72, [(72, .aload_n 0, 0, 0), (73, .iload_n 2, 0, 0), (74, .invokevirtual 207, 191, 2), (77, .ireturn, 0, 0)], 78)]
theorem t_Mod_ends : z_chkM 190 b_Mod_ends = true := by decide +kernel
def b_Mod_endBy : List BK := [(0, [(0, .iload_n 1, 0, 0), (1, .lookupswitch 46 #[(0, 27), (1, 40)], 0, 0)], 28),
  (28, [(28, .aload_n 0, 0, 0), (29, .getfield 147, 18, 10), (32, .ifCond .eq 7, 39, 0)], 35),
  (35, [(35, .iconst 1, 1, 0), (36, .goto 4, 40, 0)], 39),
  (39, [(39, .iconst 2, 2, 0)], 40),
  (40, [(40, .ireturn, 0, 0)], 41),
  (41, [(41, .aload_n 0, 0, 0), (42, .iconst 1, 1, 0), (43, .invokevirtual 201, 179, 2), (46, .ireturn, 0, 0)], 47),
  (47, [(47, .aload_n 0, 0, 0), (48, .getfield 147, 18, 10), (51, .ifCond .eq 11, 62, 0)], 54),
  (54, [(54, .aload_n 0, 0, 0), (55, .iconst 2, 2, 0), (56, .invokevirtual 201, 179, 2), (59, .goto 5, 64, 0)], 62),
  (62, [(62, .bipush (-2), 2, 1)], 64),
  (64, [(64, .ireturn, 0, 0)], 65)]
theorem t_Mod_endBy : z_chkM 191 b_Mod_endBy = true := by decide +kernel
def b_Mod_isWhich : List BK := [(0, [(0, .iload_n 0, 0, 0), (1, .i2l, 0, 0), (2, .lconst 0, 0, 0), (3, .ldc2_w 210, 29, 2), (6, .invokestatic 57, 148, 3), (9, .ireturn, 0, 0)], 10)]
theorem t_Mod_isWhich : z_chkM 192 b_Mod_isWhich = true := by decide +kernel
def b_Mod_decides : List BK := [(0, [(0, .aload_n 0, 0, 0), (1, .iload_n 1, 0, 0), (2, .invokevirtual 172, 152, 2), (5, .ifCond .eq 30, 35, 0)], 8),
  (8, [(8, .iload_n 2, 0, 0), (9, .invokestatic 68, 155, 1), (12, .ifCond .eq 23, 35, 0)], 15),
  (15, [(15, .iload_n 3, 0, 0), (16, .iconst (-1), 1, 1), (17, .if_icmp .eq 10, 27, 0)], 20),
  (20, [(20, .iload_n 3, 0, 0), (21, .invokestatic 212, 154, 1), (24, .ifCond .eq 11, 35, 0)], 27),
  (27, [(27, .iload 4, 0, 0), (29, .invokestatic 215, 192, 1), (32, .ifCond .ne 5, 37, 0)], 35),
  (35, [(35, .iconst (-1), 1, 1), (36, .ireturn, 0, 0)], 37),
  (37, [(37, .aload_n 0, 0, 0), (38, .iload_n 3, 0, 0), (39, .iload 4, 0, 0), (41, .bipush 10, 10, 0), (43, .irem, 0, 0), (44, .invokevirtual 155, 169, 3), (47, .aload_n 0, 0, 0), (48, .iload_n 1, 0, 0), (49, .iload_n 2, 0, 0), (50, .iload 4, 0, 0), (52, .bipush 10, 10, 0), (54, .idiv, 0, 0), (55, .invokevirtual 144, 168, 4), (58, .istore 5, 0, 0), (60, .iload 5, 0, 0), (62, .iconst (-1), 1, 1), (63, .if_icmp .ne 13, 76, 0)], 66),
  (66, [(66, .bipush (-2), 2, 1), (68, .aload_n 0, 0, 0), (69, .getfield 121, 14, 10), (72, .isub, 0, 0), (73, .goto 5, 78, 0)], 76),
  (76, [(76, .iload 5, 0, 0)], 78),
  (78, [(78, .ireturn, 0, 0)], 79)]
theorem t_Mod_decides : z_chkM 193 b_Mod_decides = true := by decide +kernel
def b_Mod_power : List BK := [(0, [(0, .iload_n 1, 0, 0), (1, .invokestatic 212, 154, 1), (4, .ifCond .eq 22, 26, 0)], 7),
  (7, [(7, .iload_n 2, 0, 0), (8, .invokestatic 68, 155, 1), (11, .ifCond .eq 15, 26, 0)], 14),
  (14, [(14, .iload_n 3, 0, 0), (15, .i2l, 0, 0), (16, .lconst 0, 0, 0), (17, .ldc2_w 218, 2, 2), (20, .invokestatic 57, 148, 3), (23, .ifCond .ne 5, 28, 0)], 26),
  (26, [(26, .iconst (-1), 1, 1), (27, .ireturn, 0, 0)], 28),
  (28, [(28, .aload_n 0, 0, 0), (29, .iconst (-1), 1, 1), (30, .iconst (-1), 1, 1), (31, .invokevirtual 155, 169, 3), (34, .bipush (-2), 2, 1), (36, .istore 4, 0, 0), (38, .iconst 0, 0, 0), (39, .istore 5, 0, 0)], 41),
  (41, [(41, .iload 5, 0, 0), (43, .aload_n 0, 0, 0), (44, .invokevirtual 53, 150, 1), (47, .if_icmp .ge 36, 83, 0)], 50),
  (50, [(50, .aload_n 0, 0, 0), (51, .iload 5, 0, 0), (53, .iload_n 2, 0, 0), (54, .iload_n 3, 0, 0), (55, .invokevirtual 144, 168, 4), (58, .iload_n 1, 0, 0), (59, .if_icmp .ne 18, 77, 0)], 62),
  (62, [(62, .aload_n 0, 0, 0), (63, .getfield 108, 13, 10), (66, .iload 4, 0, 0), (68, .if_icmp .le 9, 77, 0)], 71),
  (71, [(71, .aload_n 0, 0, 0), (72, .getfield 108, 13, 10), (75, .istore 4, 0, 0)], 77),
  (77, [(77, .iinc 5 1, 1, 0), (80, .goto (-39), 41, 0)], 83),
  (83, [(83, .iload 4, 0, 0), (85, .ireturn, 0, 0)], 86)]
theorem t_Mod_power : z_chkM 194 b_Mod_power = true := by decide +kernel
def b_Mod_behind : List BK := [(0, [(0, .iconst 0, 0, 0), (1, .istore_n 3, 0, 0), (2, .iconst 1, 1, 0), (3, .iload_n 1, 0, 0), (4, .ishl, 0, 0), (5, .istore 4, 0, 0)], 7),
  (7, [(7, .iload 4, 0, 0), (9, .ifCond .eq 98, 107, 0)], 12),
  (12, [(12, .iconst 0, 0, 0), (13, .istore 5, 0, 0), (15, .iconst 0, 0, 0), (16, .istore 6, 0, 0)], 18),
  (18, [(18, .iload 6, 0, 0), (20, .aload_n 0, 0, 0), (21, .iconst 2, 2, 0), (22, .invokevirtual 79, 162, 2), (25, .if_icmp .ge 66, 91, 0)], 28),
  (28, [(28, .iload 4, 0, 0), (30, .aload_n 0, 0, 0), (31, .iconst 2, 2, 0), (32, .iload 6, 0, 0), (34, .iconst 0, 0, 0), (35, .invokevirtual 82, 163, 4), (38, .invokestatic 111, 149, 2), (41, .ifCond .eq 44, 85, 0)], 44),
  (44, [(44, .iload_n 2, 0, 0), (45, .i2l, 0, 0), (46, .aload_n 0, 0, 0), (47, .iconst 2, 2, 0), (48, .iload 6, 0, 0), (50, .iconst 2, 2, 0), (51, .invokevirtual 82, 163, 4), (54, .i2l, 0, 0), (55, .aload_n 0, 0, 0), (56, .iconst 2, 2, 0), (57, .iload 6, 0, 0), (59, .iconst 3, 3, 0), (60, .invokevirtual 82, 163, 4), (63, .i2l, 0, 0), (64, .invokestatic 57, 148, 3), (67, .ifCond .eq 18, 85, 0)], 70),
  (70, [(70, .iload 5, 0, 0), (72, .iconst 1, 1, 0), (73, .aload_n 0, 0, 0), (74, .iconst 2, 2, 0), (75, .iload 6, 0, 0), (77, .iconst 1, 1, 0), (78, .invokevirtual 82, 163, 4), (81, .ishl, 0, 0), (82, .ior, 0, 0), (83, .istore 5, 0, 0)], 85),
  (85, [(85, .iinc 6 1, 1, 0), (88, .goto (-70), 18, 0)], 91),
  (91, [(91, .iload 5, 0, 0), (93, .iload_n 3, 0, 0), (94, .iconst (-1), 1, 1), (95, .ixor, 0, 0), (96, .iand, 0, 0), (97, .istore 4, 0, 0), (99, .iload_n 3, 0, 0), (100, .iload 5, 0, 0), (102, .ior, 0, 0), (103, .istore_n 3, 0, 0), (104, .goto (-97), 7, 0)], 107),
  (107, [(107, .iload_n 3, 0, 0), (108, .ireturn, 0, 0)], 109)]
theorem t_Mod_behind : z_chkM 195 b_Mod_behind = true := by decide +kernel
def b_Mod_ring : List BK := [(0, [(0, .iload_n 1, 0, 0), (1, .invokestatic 68, 155, 1), (4, .ifCond .ne 5, 9, 0)], 7),
  (7, [(7, .iconst (-1), 1, 1), (8, .ireturn, 0, 0)], 9),
  (9, [(9, .iconst 0, 0, 0), (10, .istore_n 2, 0, 0), (11, .iconst 0, 0, 0), (12, .istore_n 3, 0, 0)], 13),
  (13, [(13, .iload_n 3, 0, 0), (14, .bipush 16, 16, 0), (16, .if_icmp .ge 32, 48, 0)], 19),
  (19, [(19, .iload_n 2, 0, 0), (20, .aload_n 0, 0, 0), (21, .iload_n 3, 0, 0), (22, .iload_n 1, 0, 0), (23, .invokevirtual 220, 195, 3), (26, .iload_n 3, 0, 0), (27, .invokestatic 111, 149, 2), (30, .ifCond .eq 9, 39, 0)], 33),
  (33, [(33, .iconst 1, 1, 0), (34, .iload_n 3, 0, 0), (35, .ishl, 0, 0), (36, .goto 4, 40, 0)], 39),
  (39, [(39, .iconst 0, 0, 0)], 40),
  (40, [(40, .ior, 0, 0), (41, .istore_n 2, 0, 0), (42, .iinc 3 1, 1, 0), (45, .goto (-32), 13, 0)], 48),
  (48, [(48, .iload_n 2, 0, 0), (49, .ireturn, 0, 0)], 50)]
theorem t_Mod_ring : z_chkM 196 b_Mod_ring = true := by decide +kernel
def b_Mod_split : List BK := [(0, [(0, .aload_n 0, 0, 0), (1, .iload_n 1, 0, 0), (2, .invokevirtual 186, 153, 2), (5, .ifCond .ne 5, 10, 0)], 8),
  (8, [(8, .iconst (-1), 1, 1), (9, .ireturn, 0, 0)], 10),
  (10, [(10, .aload_n 0, 0, 0), (11, .iload_n 1, 0, 0), (12, .aload_n 0, 0, 0), (13, .iload_n 1, 0, 0), (14, .iconst 4, 4, 0), (15, .invokevirtual 134, 159, 3), (18, .invokevirtual 169, 177, 3), (21, .aload_n 0, 0, 0), (22, .getfield 147, 18, 10), (25, .istore_n 2, 0, 0), (26, .aload_n 0, 0, 0), (27, .getfield 141, 17, 10), (30, .istore_n 3, 0, 0), (31, .aload_n 0, 0, 0), (32, .iload_n 1, 0, 0), (33, .invokevirtual 195, 178, 2), (36, .iload_n 2, 0, 0), (37, .ifCond .eq 22, 59, 0)], 40),
  (40, [(40, .aload_n 0, 0, 0), (41, .getfield 147, 18, 10), (44, .ifCond .eq 11, 55, 0)], 47),
  (47, [(47, .aload_n 0, 0, 0), (48, .getfield 141, 17, 10), (51, .iload_n 3, 0, 0), (52, .if_icmp .le 7, 59, 0)], 55),
  (55, [(55, .iconst 1, 1, 0), (56, .goto 4, 60, 0)], 59),
  (59, [(59, .iconst 0, 0, 0)], 60),
  (60, [(60, .ireturn, 0, 0)], 61)]
theorem t_Mod_split : z_chkM 197 b_Mod_split = true := by decide +kernel
def b_Mod_without : List BK := [(0, [(0, .aload_n 0, 0, 0), (1, .iload_n 1, 0, 0), (2, .invokevirtual 186, 153, 2), (5, .ifCond .eq 22, 27, 0)], 8),
  (8, [(8, .iload_n 2, 0, 0), (9, .invokestatic 212, 154, 1), (12, .ifCond .eq 15, 27, 0)], 15),
  (15, [(15, .iload_n 3, 0, 0), (16, .i2l, 0, 0), (17, .lconst 0, 0, 0), (18, .ldc2_w 218, 2, 2), (21, .invokestatic 57, 148, 3), (24, .ifCond .ne 5, 29, 0)], 27),
  (27, [(27, .iconst (-1), 1, 1), (28, .ireturn, 0, 0)], 29),
  (29, [(29, .aload_n 0, 0, 0), (30, .iload_n 2, 0, 0), (31, .putfield 23, 5, 10), (34, .aload_n 0, 0, 0), (35, .iload_n 1, 0, 0), (36, .invokevirtual 195, 178, 2), (39, .aload_n 0, 0, 0), (40, .iconst (-1), 1, 1), (41, .putfield 23, 5, 10), (44, .aload_n 0, 0, 0), (45, .iload_n 3, 0, 0), (46, .invokevirtual 207, 191, 2), (49, .ireturn, 0, 0)], 50)]
theorem t_Mod_without : z_chkM 198 b_Mod_without = true := by decide +kernel
def b_Mod_cure : List BK := [(0, [(0, .aload_n 0, 0, 0), (1, .iload_n 1, 0, 0), (2, .invokevirtual 186, 153, 2), (5, .ifCond .eq 13, 18, 0)], 8),
  (8, [(8, .iload_n 2, 0, 0), (9, .i2l, 0, 0), (10, .lconst 0, 0, 0), (11, .lconst 1, 0, 0), (12, .invokestatic 57, 148, 3), (15, .ifCond .ne 5, 20, 0)], 18),
  (18, [(18, .iconst (-1), 1, 1), (19, .ireturn, 0, 0)], 20),
  (20, [(20, .bipush (-2), 2, 1), (22, .istore_n 3, 0, 0), (23, .bipush (-2), 2, 1), (25, .istore 4, 0, 0), (27, .iconst 0, 0, 0), (28, .istore 5, 0, 0)], 30),
  (30, [(30, .iload 5, 0, 0), (32, .aload_n 0, 0, 0), (33, .iconst 1, 1, 0), (34, .invokevirtual 79, 162, 2), (37, .if_icmp .ge 61, 98, 0)], 40),
  (40, [(40, .aload_n 0, 0, 0), (41, .iload 5, 0, 0), (43, .putfield 27, 6, 10), (46, .aload_n 0, 0, 0), (47, .iload_n 1, 0, 0), (48, .invokevirtual 195, 178, 2), (51, .aload_n 0, 0, 0), (52, .iconst (-1), 1, 1), (53, .putfield 27, 6, 10), (56, .aload_n 0, 0, 0), (57, .getfield 147, 18, 10), (60, .ifCond .eq 32, 92, 0)], 63),
  (63, [(63, .iload_n 3, 0, 0), (64, .bipush (-2), 2, 1), (66, .if_icmp .eq 16, 82, 0)], 69),
  (69, [(69, .aload_n 0, 0, 0), (70, .iconst 1, 1, 0), (71, .invokevirtual 201, 179, 2), (74, .iload 4, 0, 0), (76, .if_icmp .lt 6, 82, 0)], 79),
  (79, [(79, .goto 13, 92, 0)], 82),
  (82, [(82, .iload 5, 0, 0), (84, .istore_n 3, 0, 0), (85, .aload_n 0, 0, 0), (86, .iconst 1, 1, 0), (87, .invokevirtual 201, 179, 2), (90, .istore 4, 0, 0)], 92),
  (92, [(92, .iinc 5 1, 1, 0), (95, .goto (-65), 30, 0)], 98),
  (98, [(98, .iload_n 2, 0, 0), (99, .ifCond .ne 7, 106, 0)], 102),
  (102, [(102, .iload_n 3, 0, 0), (103, .goto 5, 108, 0)], 106),
  (106, [(106, .iload 4, 0, 0)], 108),
  (108, [(108, .ireturn, 0, 0)], 109)]
theorem t_Mod_cure : z_chkM 199 b_Mod_cure = true := by decide +kernel
def b_Mod_most : List BK := [(0, [(0, .aload_n 0, 0, 0), (1, .iload_n 1, 0, 0), (2, .invokevirtual 186, 153, 2), (5, .ifCond .eq 23, 28, 0)], 8),
  (8, [(8, .iload_n 2, 0, 0), (9, .i2l, 0, 0), (10, .lconst 0, 0, 0), (11, .aload_n 0, 0, 0), (12, .aload_n 0, 0, 0), (13, .iload_n 1, 0, 0), (14, .iconst 1, 1, 0), (15, .invokevirtual 134, 159, 3), (18, .invokevirtual 175, 181, 2), (21, .i2l, 0, 0), (22, .invokestatic 57, 148, 3), (25, .ifCond .ne 5, 30, 0)], 28),
  (28, [(28, .iconst (-1), 1, 1), (29, .ireturn, 0, 0)], 30),
  (30, [(30, .aload_n 0, 0, 0), (31, .iload_n 1, 0, 0), (32, .invokevirtual 166, 174, 2), (35, .aload_n 0, 0, 0), (36, .iload_n 1, 0, 0), (37, .iconst 4, 4, 0), (38, .invokevirtual 134, 159, 3), (41, .isub, 0, 0), (42, .istore_n 3, 0, 0), (43, .aload_n 0, 0, 0), (44, .iload_n 1, 0, 0), (45, .sipush 10000, 10000, 0), (48, .invokevirtual 169, 177, 3), (51, .bipush (-2), 2, 1), (53, .istore 4, 0, 0), (55, .iconst 0, 0, 0), (56, .istore 5, 0, 0)], 58),
  (58, [(58, .iload 5, 0, 0), (60, .aload_n 0, 0, 0), (61, .getfield 141, 17, 10), (64, .if_icmp .ge 63, 127, 0)], 67),
  (67, [(67, .iload 5, 0, 0), (69, .iload_n 2, 0, 0), (70, .if_icmp .gt 57, 127, 0)], 73),
  (73, [(73, .aload_n 0, 0, 0), (74, .getfield 33, 15, 10), (77, .bipush 6, 6, 0), (79, .iload 5, 0, 0), (81, .imul, 0, 0), (82, .iconst 2, 2, 0), (83, .iadd, 0, 0), (84, .iaload, 0, 0), (85, .bipush (-2), 2, 1), (87, .if_icmp .eq 34, 121, 0)], 90),
  (90, [(90, .aload_n 0, 0, 0), (91, .getfield 33, 15, 10), (94, .bipush 6, 6, 0), (96, .iload 5, 0, 0), (98, .imul, 0, 0), (99, .iconst 3, 3, 0), (100, .iadd, 0, 0), (101, .iaload, 0, 0), (102, .iload 4, 0, 0), (104, .if_icmp .le 17, 121, 0)], 107),
  (107, [(107, .aload_n 0, 0, 0), (108, .getfield 33, 15, 10), (111, .bipush 6, 6, 0), (113, .iload 5, 0, 0), (115, .imul, 0, 0), (116, .iconst 3, 3, 0), (117, .iadd, 0, 0), (118, .iaload, 0, 0), (119, .istore 4, 0, 0)], 121),
  (121, [(121, .iinc 5 1, 1, 0), (124, .goto (-66), 58, 0)], 127),
  (127, [(127, .iload 4, 0, 0), (129, .iload_n 3, 0, 0), (130, .isub, 0, 0), (131, .istore 5, 0, 0), (133, .iload 5, 0, 0), (135, .iconst 1, 1, 0), (136, .if_icmp .ge 8, 144, 0)], 139),
  (139, [(139, .bipush (-2), 2, 1), (141, .goto 5, 146, 0)], 144),
  (144, [(144, .iload 5, 0, 0)], 146),
  (146, [(146, .ireturn, 0, 0)], 147)]
theorem t_Mod_most : z_chkM 200 b_Mod_most = true := by decide +kernel
def b_Mod_laysLoads : List BK := [(0, [(0, .iconst 0, 0, 0), (1, .istore_n 1, 0, 0)], 2),
  (2, [(2, .iload_n 1, 0, 0), (3, .bipush 48, 48, 0), (5, .if_icmp .ge 16, 21, 0)], 8),
  (8, [(8, .aload_n 0, 0, 0), (9, .getfield 39, 19, 10), (12, .iload_n 1, 0, 0), (13, .iconst 0, 0, 0), (14, .iastore, 0, 0), (15, .iinc 1 1, 1, 0), (18, .goto (-16), 2, 0)], 21),
  (21, [(21, .iconst 0, 0, 0), (22, .istore_n 1, 0, 0)], 23),
  (23, [(23, .iload_n 1, 0, 0), (24, .aload_n 0, 0, 0), (25, .invokevirtual 61, 151, 1), (28, .if_icmp .ge 49, 77, 0)], 31),
  (31, [(31, .aload_n 0, 0, 0), (32, .iload_n 1, 0, 0), (33, .invokevirtual 204, 180, 2), (36, .ifCond .eq 6, 42, 0)], 39),
  (39, [(39, .goto 32, 71, 0)], 42),
  (42, [(42, .aload_n 0, 0, 0), (43, .iload_n 1, 0, 0), (44, .invokevirtual 195, 178, 2), (47, .iconst 0, 0, 0), (48, .istore_n 2, 0, 0)], 49),
  (49, [(49, .iload_n 2, 0, 0), (50, .aload_n 0, 0, 0), (51, .getfield 141, 17, 10), (54, .if_icmp .ge 17, 71, 0)], 57),
  (57, [(57, .aload_n 0, 0, 0), (58, .bipush 6, 6, 0), (60, .iload_n 2, 0, 0), (61, .imul, 0, 0), (62, .invokevirtual 223, 202, 2), (65, .iinc 2 1, 1, 0), (68, .goto (-19), 49, 0)], 71),
  (71, [(71, .iinc 1 1, 1, 0), (74, .goto (-51), 23, 0)], 77),
  (77, [(77, .return_, 0, 0)], 78)]
theorem t_Mod_laysLoads : z_chkM 201 b_Mod_laysLoads = true := by decide +kernel
def b_Mod_counts : List BK := [(0, [(0, .aload_n 0, 0, 0), (1, .getfield 33, 15, 10), (4, .iload_n 1, 0, 0), (5, .iconst 2, 2, 0), (6, .iadd, 0, 0), (7, .iaload, 0, 0), (8, .istore_n 2, 0, 0), (9, .iload_n 2, 0, 0), (10, .bipush (-2), 2, 1), (12, .if_icmp .ne 4, 16, 0)], 15),
  (15, [(15, .return_, 0, 0)], 16),
  (16, [(16, .aload_n 0, 0, 0), (17, .getfield 39, 19, 10), (20, .iload_n 2, 0, 0), (21, .dup2, 0, 0), (22, .iaload, 0, 0), (23, .iconst 1, 1, 0), (24, .iadd, 0, 0), (25, .iastore, 0, 0), (26, .aload_n 0, 0, 0), (27, .getfield 39, 19, 10), (30, .bipush 16, 16, 0), (32, .iload_n 2, 0, 0), (33, .iadd, 0, 0), (34, .dup2, 0, 0), (35, .iaload, 0, 0), (36, .aload_n 0, 0, 0), (37, .getfield 33, 15, 10), (40, .iload_n 1, 0, 0), (41, .iconst 4, 4, 0), (42, .iadd, 0, 0), (43, .iaload, 0, 0), (44, .ifCond .ne 7, 51, 0)], 47),
  (47, [(47, .iconst 1, 1, 0), (48, .goto 4, 52, 0)], 51),
  (51, [(51, .iconst 0, 0, 0)], 52),
  (52, [(52, .iadd, 0, 0), (53, .iastore, 0, 0), (54, .aload_n 0, 0, 0), (55, .getfield 39, 19, 10), (58, .bipush 32, 32, 0), (60, .iload_n 2, 0, 0), (61, .iadd, 0, 0), (62, .dup2, 0, 0), (63, .iaload, 0, 0), (64, .aload_n 0, 0, 0), (65, .getfield 33, 15, 10), (68, .iload_n 1, 0, 0), (69, .iconst 5, 5, 0), (70, .iadd, 0, 0), (71, .iaload, 0, 0), (72, .ifCond .le 7, 79, 0)], 75),
  (75, [(75, .iconst 1, 1, 0), (76, .goto 4, 80, 0)], 79),
  (79, [(79, .iconst 0, 0, 0)], 80),
  (80, [(80, .iadd, 0, 0), (81, .iastore, 0, 0), (82, .return_, 0, 0)], 83)]
theorem t_Mod_counts : z_chkM 202 b_Mod_counts = true := by decide +kernel
def b_Mod_load : List BK := [(0, [(0, .iload_n 1, 0, 0), (1, .invokestatic 212, 154, 1), (4, .ifCond .eq 15, 19, 0)], 7),
  (7, [(7, .iload_n 2, 0, 0), (8, .i2l, 0, 0), (9, .lconst 0, 0, 0), (10, .ldc2_w 218, 2, 2), (13, .invokestatic 57, 148, 3), (16, .ifCond .ne 5, 21, 0)], 19),
  (19, [(19, .iconst (-1), 1, 1), (20, .ireturn, 0, 0)], 21),
  (21, [(21, .aload_n 0, 0, 0), (22, .invokevirtual 226, 201, 1), (25, .aload_n 0, 0, 0), (26, .getfield 39, 19, 10), (29, .bipush 16, 16, 0), (31, .iload_n 2, 0, 0), (32, .imul, 0, 0), (33, .iload_n 1, 0, 0), (34, .iadd, 0, 0), (35, .iaload, 0, 0), (36, .ireturn, 0, 0)], 37)]
theorem t_Mod_load : z_chkM 203 b_Mod_load = true := by decide +kernel
def b_Mod_busiest : List BK := [(0, [(0, .iload_n 1, 0, 0), (1, .i2l, 0, 0), (2, .lconst 0, 0, 0), (3, .lconst 1, 0, 0), (4, .invokestatic 57, 148, 3), (7, .ifCond .ne 5, 12, 0)], 10),
  (10, [(10, .iconst (-1), 1, 1), (11, .ireturn, 0, 0)], 12),
  (12, [(12, .aload_n 0, 0, 0), (13, .invokevirtual 226, 201, 1), (16, .bipush (-2), 2, 1), (18, .istore_n 2, 0, 0), (19, .iconst 0, 0, 0), (20, .istore_n 3, 0, 0)], 21),
  (21, [(21, .iload_n 3, 0, 0), (22, .bipush 16, 16, 0), (24, .if_icmp .ge 41, 65, 0)], 27),
  (27, [(27, .aload_n 0, 0, 0), (28, .getfield 39, 19, 10), (31, .iload_n 3, 0, 0), (32, .iaload, 0, 0), (33, .ifCond .le 26, 59, 0)], 36),
  (36, [(36, .iload_n 2, 0, 0), (37, .bipush (-2), 2, 1), (39, .if_icmp .eq 18, 57, 0)], 42),
  (42, [(42, .aload_n 0, 0, 0), (43, .getfield 39, 19, 10), (46, .iload_n 3, 0, 0), (47, .iaload, 0, 0), (48, .aload_n 0, 0, 0), (49, .getfield 39, 19, 10), (52, .iload_n 2, 0, 0), (53, .iaload, 0, 0), (54, .if_icmp .le 5, 59, 0)], 57),
  (57, [(57, .iload_n 3, 0, 0), (58, .istore_n 2, 0, 0)], 59),
  (59, [(59, .iinc 3 1, 1, 0), (62, .goto (-41), 21, 0)], 65),
  (65, [(65, .iload_n 1, 0, 0), (66, .ifCond .eq 9, 75, 0)], 69),
  (69, [(69, .iload_n 2, 0, 0), (70, .bipush (-2), 2, 1), (72, .if_icmp .ne 7, 79, 0)], 75),
  (75, [(75, .iload_n 2, 0, 0), (76, .goto 9, 85, 0)], 79),
  (79, [(79, .aload_n 0, 0, 0), (80, .getfield 39, 19, 10), (83, .iload_n 2, 0, 0), (84, .iaload, 0, 0)], 85),
  (85, [(85, .ireturn, 0, 0)], 86)]
theorem t_Mod_busiest : z_chkM 204 b_Mod_busiest = true := by decide +kernel
def b_Mod_approved : List BK := [(0, [(0, .iload_n 1, 0, 0), (1, .i2l, 0, 0), (2, .lconst 0, 0, 0), (3, .ldc2_w 181, 3, 2), (6, .invokestatic 57, 148, 3), (9, .ifCond .ne 5, 14, 0)], 12),
  (12, [(12, .iconst (-1), 1, 1), (13, .ireturn, 0, 0)], 14),
  (14, [(14, .iconst 0, 0, 0), (15, .istore_n 2, 0, 0), (16, .iconst 0, 0, 0), (17, .istore_n 3, 0, 0), (18, .bipush (-2), 2, 1), (20, .istore 4, 0, 0), (22, .bipush (-2), 2, 1), (24, .istore 5, 0, 0), (26, .iconst 0, 0, 0), (27, .istore 6, 0, 0)], 29),
  (29, [(29, .iload 6, 0, 0), (31, .aload_n 0, 0, 0), (32, .invokevirtual 61, 151, 1), (35, .if_icmp .ge 83, 118, 0)], 38),
  (38, [(38, .aload_n 0, 0, 0), (39, .iload 6, 0, 0), (41, .invokevirtual 204, 180, 2), (44, .ifCond .eq 6, 50, 0)], 47),
  (47, [(47, .goto 65, 112, 0)], 50),
  (50, [(50, .aload_n 0, 0, 0), (51, .iload 6, 0, 0), (53, .invokevirtual 195, 178, 2), (56, .aload_n 0, 0, 0), (57, .getfield 147, 18, 10), (60, .ifCond .ne 6, 66, 0)], 63),
  (63, [(63, .goto 49, 112, 0)], 66),
  (66, [(66, .iinc 2 1, 1, 0), (69, .iload_n 3, 0, 0), (70, .aload_n 0, 0, 0), (71, .iload 6, 0, 0), (73, .iconst 4, 4, 0), (74, .invokevirtual 134, 159, 3), (77, .iadd, 0, 0), (78, .istore_n 3, 0, 0), (79, .aload_n 0, 0, 0), (80, .iconst 1, 1, 0), (81, .invokevirtual 201, 179, 2), (84, .aload_n 0, 0, 0), (85, .iload 6, 0, 0), (87, .iconst 5, 5, 0), (88, .invokevirtual 134, 159, 3), (91, .isub, 0, 0), (92, .istore 7, 0, 0), (94, .iload 7, 0, 0), (96, .iload 4, 0, 0), (98, .if_icmp .gt 6, 104, 0)], 101),
  (101, [(101, .goto 11, 112, 0)], 104),
  (104, [(104, .iload 7, 0, 0), (106, .istore 4, 0, 0), (108, .iload 6, 0, 0), (110, .istore 5, 0, 0)], 112),
  (112, [(112, .iinc 6 1, 1, 0), (115, .goto (-86), 29, 0)], 118),
  (118, [(118, .iload_n 1, 0, 0), (119, .tableswitch 32 0 2 #[25, 27, 29], 0, 0)], 144),
  (144, [(144, .iload_n 2, 0, 0), (145, .ireturn, 0, 0)], 146),
  (146, [(146, .iload_n 3, 0, 0), (147, .ireturn, 0, 0)], 148),
  (148, [(148, .iload 4, 0, 0), (150, .ireturn, 0, 0)], 151),
  (151, [(151, .iload 5, 0, 0), (153, .ireturn, 0, 0)], 154)]
theorem t_Mod_approved : z_chkM 205 b_Mod_approved = true := by decide +kernel
def b_Mod_could : List BK := [(0, [(0, .aload_n 0, 0, 0), (1, .iload_n 1, 0, 0), (2, .invokevirtual 186, 153, 2), (5, .ifCond .ne 5, 10, 0)], 8),
  (8, [(8, .iconst (-1), 1, 1), (9, .ireturn, 0, 0)], 10),
  (10, [(10, .aload_n 0, 0, 0), (11, .iload_n 1, 0, 0), (12, .invokevirtual 166, 174, 2), (15, .istore_n 2, 0, 0), (16, .aload_n 0, 0, 0), (17, .aload_n 0, 0, 0), (18, .iload_n 1, 0, 0), (19, .iconst 0, 0, 0), (20, .invokevirtual 134, 159, 3), (23, .aload_n 0, 0, 0), (24, .iload_n 1, 0, 0), (25, .iconst 2, 2, 0), (26, .invokevirtual 134, 159, 3), (29, .invokevirtual 155, 169, 3), (32, .iconst 0, 0, 0), (33, .istore_n 3, 0, 0), (34, .aload_n 0, 0, 0), (35, .iload_n 1, 0, 0), (36, .iconst 1, 1, 0), (37, .invokevirtual 134, 159, 3), (40, .istore 4, 0, 0)], 42),
  (42, [(42, .iload 4, 0, 0), (44, .iconst (-1), 1, 1), (45, .if_icmp .eq 55, 100, 0)], 48),
  (48, [(48, .aload_n 0, 0, 0), (49, .iload 4, 0, 0), (51, .aload_n 0, 0, 0), (52, .iload_n 1, 0, 0), (53, .iconst 5, 5, 0), (54, .invokevirtual 134, 159, 3), (57, .aload_n 0, 0, 0), (58, .iload_n 1, 0, 0), (59, .iconst 3, 3, 0), (60, .invokevirtual 134, 159, 3), (63, .invokevirtual 144, 168, 4), (66, .istore 5, 0, 0), (68, .iload 5, 0, 0), (70, .iconst (-1), 1, 1), (71, .if_icmp .eq 18, 89, 0)], 74),
  (74, [(74, .aload_n 0, 0, 0), (75, .getfield 108, 13, 10), (78, .iload_n 2, 0, 0), (79, .if_icmp .lt 10, 89, 0)], 82),
  (82, [(82, .iload_n 3, 0, 0), (83, .iconst 1, 1, 0), (84, .iload 5, 0, 0), (86, .ishl, 0, 0), (87, .ior, 0, 0), (88, .istore_n 3, 0, 0)], 89),
  (89, [(89, .aload_n 0, 0, 0), (90, .iload 4, 0, 0), (92, .invokevirtual 163, 157, 2), (95, .istore 4, 0, 0), (97, .goto (-55), 42, 0)], 100),
  (100, [(100, .iload_n 3, 0, 0), (101, .ireturn, 0, 0)], 102)]
theorem t_Mod_could : z_chkM 206 b_Mod_could = true := by decide +kernel
def b_Mod_isManned : List BK := [(0, [(0, .iconst 0, 0, 0), (1, .istore_n 3, 0, 0)], 2),
  (2, [(2, .iload_n 3, 0, 0), (3, .iconst 3, 3, 0), (4, .if_icmp .ge 22, 26, 0)], 7),
  (7, [(7, .aload_n 0, 0, 0), (8, .iload_n 1, 0, 0), (9, .iload_n 2, 0, 0), (10, .iload_n 3, 0, 0), (11, .invokevirtual 144, 168, 4), (14, .iconst (-1), 1, 1), (15, .if_icmp .eq 5, 20, 0)], 18),
  (18, [(18, .iconst 1, 1, 0), (19, .ireturn, 0, 0)], 20),
  (20, [(20, .iinc 3 1, 1, 0), (23, .goto (-21), 2, 0)], 26),
  (26, [(26, .iconst 0, 0, 0), (27, .ireturn, 0, 0)], 28)]
theorem t_Mod_isManned : z_chkM 207 b_Mod_isManned = true := by decide +kernel
