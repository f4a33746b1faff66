def b_Lng_bitCount : List BK := [(0, [(0, .lload_n 0, 0, 0), (1, .lload_n 0, 0, 0), (2, .iconst 1, 1, 0), (3, .lushr, 0, 0), (4, .ldc2_w 314, 6148914691236517205, 2), (7, .land, 0, 0), (8, .lsub, 0, 0), (9, .lstore_n 0, 0, 0), (10, .lload_n 0, 0, 0), (11, .ldc2_w 316, 3689348814741910323, 2), (14, .land, 0, 0), (15, .lload_n 0, 0, 0), (16, .iconst 2, 2, 0), (17, .lushr, 0, 0), (18, .ldc2_w 316, 3689348814741910323, 2), (21, .land, 0, 0), (22, .ladd, 0, 0), (23, .lstore_n 0, 0, 0), (24, .lload_n 0, 0, 0), (25, .lload_n 0, 0, 0), (26, .iconst 4, 4, 0), (27, .lushr, 0, 0), (28, .ladd, 0, 0), (29, .ldc2_w 318, 1085102592571150095, 2), (32, .land, 0, 0), (33, .lstore_n 0, 0, 0), (34, .lload_n 0, 0, 0), (35, .lload_n 0, 0, 0), (36, .bipush 8, 8, 0), (38, .lushr, 0, 0), (39, .ladd, 0, 0), (40, .lstore_n 0, 0, 0), (41, .lload_n 0, 0, 0), (42, .lload_n 0, 0, 0), (43, .bipush 16, 16, 0), (45, .lushr, 0, 0), (46, .ladd, 0, 0), (47, .lstore_n 0, 0, 0), (48, .lload_n 0, 0, 0), (49, .lload_n 0, 0, 0), (50, .bipush 32, 32, 0), (52, .lushr, 0, 0), (53, .ladd, 0, 0), (54, .lstore_n 0, 0, 0), (55, .lload_n 0, 0, 0), (56, .l2i, 0, 0), (57, .bipush 127, 127, 0), (59, .iand, 0, 0), (60, .ireturn, 0, 0)], 61)]
theorem t_Lng_bitCount : z_chkM 271 b_Lng_bitCount = true := by decide +kernel
def b_Str_charAt : List BK := [(0, [(0, .aload_n 0, 0, 0), (1, .invokevirtual 492, 275, 1), (4, .ifCond .eq 12, 16, 0)], 7),
  (7, [(7, .aload_n 0, 0, 0), (8, .getfield 9, 0, 12), (11, .iload_n 1, 0, 0), (12, .invokestatic 495, 277, 2), (15, .ireturn, 0, 0)], 16),
  (16, [(16, .aload_n 0, 0, 0), (17, .getfield 9, 0, 12), (20, .iload_n 1, 0, 0), (21, .invokestatic 498, 9999, 0), (24, .ireturn, 0, 0)], 25)]
theorem t_Str_charAt : z_chkM 272 b_Str_charAt = true := by decide +kernel
def b_Str_checkIndex : List BK := [(0, [(0, .iload_n 0, 0, 0), (1, .iload_n 1, 0, 0), (2, .getstatic 1053, 7, 0), (5, .invokestatic 1059, 278, 3), (8, .pop, 0, 0), (9, .return_, 0, 0)], 10)]
theorem t_Str_checkIndex : z_chkM 273 b_Str_checkIndex = true := by decide +kernel
def b_Str_coder : List BK := [(0, [(0, .getstatic 38, 6, 0), (3, .ifCond .eq 10, 13, 0)], 6),
  (6, [(6, .aload_n 0, 0, 0), (7, .getfield 15, 1, 12), (10, .goto 4, 14, 0)], 13),
  (13, [(13, .iconst 1, 1, 0)], 14),
  (14, [(14, .ireturn, 0, 0)], 15)]
theorem t_Str_coder : z_chkM 274 b_Str_coder = true := by decide +kernel
def b_Str_isLatin1 : List BK := [(0, [(0, .getstatic 38, 6, 0), (3, .ifCond .eq 14, 17, 0)], 6),
  (6, [(6, .aload_n 0, 0, 0), (7, .getfield 15, 1, 12), (10, .ifCond .ne 7, 17, 0)], 13),
  (13, [(13, .iconst 1, 1, 0), (14, .goto 4, 18, 0)], 17),
  (17, [(17, .iconst 0, 0, 0)], 18),
  (18, [(18, .ireturn, 0, 0)], 19)]
theorem t_Str_isLatin1 : z_chkM 275 b_Str_isLatin1 = true := by decide +kernel
def b_Str_length : List BK := [(0, [(0, .aload_n 0, 0, 0), (1, .getfield 9, 0, 12), (4, .arraylength, 0, 0), (5, .aload_n 0, 0, 0), (6, .invokevirtual 335, 274, 1), (9, .ishr, 0, 0), (10, .ireturn, 0, 0)], 11)]
theorem t_Str_length : z_chkM 276 b_Str_length = true := by decide +kernel
def b_Lat_charAt : List BK := [(0, [(0, .iload_n 1, 0, 0), (1, .aload_n 0, 0, 0), (2, .arraylength, 0, 0), (3, .invokestatic 9, 273, 2), (6, .aload_n 0, 0, 0), (7, .iload_n 1, 0, 0), (8, .baload, 0, 0), (9, .sipush 255, 255, 0), (12, .iand, 0, 0), (13, .i2c, 0, 0), (14, .ireturn, 0, 0)], 15)]
theorem t_Lat_charAt : z_chkM 277 b_Lat_charAt = true := by decide +kernel
def b_Prec_checkIndex : List BK := [(0, [(0, .iload_n 0, 0, 0), (1, .ifCond .lt 8, 9, 0)], 4),
  (4, [(4, .iload_n 0, 0, 0), (5, .iload_n 1, 0, 0), (6, .if_icmp .lt 10, 16, 0)], 9),
  (9, [(9, .aload_n 2, 0, 0), (10, .iload_n 0, 0, 0), (11, .iload_n 1, 0, 0), (12, .invokestatic 95, 9999, 0), (15, .athrow, 0, 0)], 16),
  (16, [(16, .iload_n 0, 0, 0), (17, .ireturn, 0, 0)], 18)]
theorem t_Prec_checkIndex : z_chkM 278 b_Prec_checkIndex = true := by decide +kernel
