abbrev IJ0_length_8abf5 : List (Nat × Instr × Nat) := [(0, .aload_n 0, 1), (1, .getfield 9, 3), (4, .arraylength, 1), (5, .aload_n 0, 1), (6, .invokevirtual 335, 3), (9, .ishr, 1), (10, .ireturn, 1)]
theorem IJ0_length_8abf5_ok : IJ0_length_8abf5.all (fun e => decide (decode cJ0_length_8abf5 e.1 = .ok e.2)) = true := by decide +kernel
abbrev MJ0_length_8abf5 : am_MD := (12, yJ0_length_8abf5, cJ0_length_8abf5, 1, (Option.some FieldType.int), IJ0_length_8abf5)
abbrev IJ0_coder_7d493 : List (Nat × Instr × Nat) := [(0, .getstatic 38, 3), (3, .ifCond .eq 10, 3), (6, .aload_n 0, 1), (7, .getfield 15, 3), (10, .goto 4, 3), (13, .iconst 1, 1), (14, .ireturn, 1)]
theorem IJ0_coder_7d493_ok : IJ0_coder_7d493.all (fun e => decide (decode cJ0_coder_7d493 e.1 = .ok e.2)) = true := by decide +kernel
abbrev MJ0_coder_7d493 : am_MD := (12, yJ0_coder_7d493, cJ0_coder_7d493, 1, (Option.some FieldType.byte), IJ0_coder_7d493)
abbrev IJ0_charAt_5068e : List (Nat × Instr × Nat) := [(0, .aload_n 0, 1), (1, .invokevirtual 492, 3), (4, .ifCond .eq 12, 3), (7, .aload_n 0, 1), (8, .getfield 9, 3), (11, .iload_n 1, 1), (12, .invokestatic 495, 3), (15, .ireturn, 1), (16, .aload_n 0, 1), (17, .getfield 9, 3), (20, .iload_n 1, 1), (21, .invokestatic 498, 3), (24, .ireturn, 1)]
theorem IJ0_charAt_5068e_ok : IJ0_charAt_5068e.all (fun e => decide (decode cJ0_charAt_5068e e.1 = .ok e.2)) = true := by decide +kernel
abbrev MJ0_charAt_5068e : am_MD := (12, yJ0_charAt_5068e, cJ0_charAt_5068e, 2, (Option.some FieldType.char), IJ0_charAt_5068e)
abbrev IJ0_isLatin1_aae02 : List (Nat × Instr × Nat) := [(0, .getstatic 38, 3), (3, .ifCond .eq 14, 3), (6, .aload_n 0, 1), (7, .getfield 15, 3), (10, .ifCond .ne 7, 3), (13, .iconst 1, 1), (14, .goto 4, 3), (17, .iconst 0, 1), (18, .ireturn, 1)]
theorem IJ0_isLatin1_aae02_ok : IJ0_isLatin1_aae02.all (fun e => decide (decode cJ0_isLatin1_aae02 e.1 = .ok e.2)) = true := by decide +kernel
abbrev MJ0_isLatin1_aae02 : am_MD := (12, yJ0_isLatin1_aae02, cJ0_isLatin1_aae02, 1, (Option.some FieldType.boolean), IJ0_isLatin1_aae02)
abbrev IJ0_checkIndex_df160 : List (Nat × Instr × Nat) := [(0, .iload_n 0, 1), (1, .iload_n 1, 1), (2, .getstatic 1053, 3), (5, .invokestatic 1059, 3), (8, .pop, 1), (9, .return_, 1)]
theorem IJ0_checkIndex_df160_ok : IJ0_checkIndex_df160.all (fun e => decide (decode cJ0_checkIndex_df160 e.1 = .ok e.2)) = true := by decide +kernel
abbrev MJ0_checkIndex_df160 : am_MD := (12, yJ0_checkIndex_df160, cJ0_checkIndex_df160, 2, none, IJ0_checkIndex_df160)
abbrev IJ1_charAt_3b067 : List (Nat × Instr × Nat) := [(0, .iload_n 1, 1), (1, .aload_n 0, 1), (2, .arraylength, 1), (3, .invokestatic 9, 3), (6, .aload_n 0, 1), (7, .iload_n 1, 1), (8, .baload, 1), (9, .sipush 255, 3), (12, .iand, 1), (13, .i2c, 1), (14, .ireturn, 1)]
theorem IJ1_charAt_3b067_ok : IJ1_charAt_3b067.all (fun e => decide (decode cJ1_charAt_3b067 e.1 = .ok e.2)) = true := by decide +kernel
abbrev MJ1_charAt_3b067 : am_MD := (13, yJ1_charAt_3b067, cJ1_charAt_3b067, 2, (Option.some FieldType.char), IJ1_charAt_3b067)
abbrev IJ3_checkIndex_8e157 : List (Nat × Instr × Nat) := [(0, .iload_n 0, 1), (1, .ifCond .lt 8, 3), (4, .iload_n 0, 1), (5, .iload_n 1, 1), (6, .if_icmp .lt 10, 3), (9, .aload_n 2, 1), (10, .iload_n 0, 1), (11, .iload_n 1, 1), (12, .invokestatic 95, 3), (15, .athrow, 1), (16, .iload_n 0, 1), (17, .ireturn, 1)]
theorem IJ3_checkIndex_8e157_ok : IJ3_checkIndex_8e157.all (fun e => decide (decode cJ3_checkIndex_8e157 e.1 = .ok e.2)) = true := by decide +kernel
abbrev MJ3_checkIndex_8e157 : am_MD := (15, yJ3_checkIndex_8e157, cJ3_checkIndex_8e157, 3, (Option.some FieldType.int), IJ3_checkIndex_8e157)
abbrev IJ2_charAt_3b067 : List (Nat × Instr × Nat) := [(0, .iload_n 1, 1), (1, .aload_n 0, 1), (2, .invokestatic 67, 3), (5, .aload_n 0, 1), (6, .iload_n 1, 1), (7, .invokestatic 71, 3), (10, .ireturn, 1)]
theorem IJ2_charAt_3b067_ok : IJ2_charAt_3b067.all (fun e => decide (decode cJ2_charAt_3b067 e.1 = .ok e.2)) = true := by decide +kernel
abbrev MJ2_charAt_3b067 : am_MD := (14, yJ2_charAt_3b067, cJ2_charAt_3b067, 2, (Option.some FieldType.char), IJ2_charAt_3b067)
abbrev IJ2_checkIndex_2214a : List (Nat × Instr × Nat) := [(0, .iload_n 0, 1), (1, .aload_n 1, 1), (2, .invokestatic 48, 3), (5, .invokestatic 414, 3), (8, .return_, 1)]
theorem IJ2_checkIndex_2214a_ok : IJ2_checkIndex_2214a.all (fun e => decide (decode cJ2_checkIndex_2214a e.1 = .ok e.2)) = true := by decide +kernel
abbrev MJ2_checkIndex_2214a : am_MD := (14, yJ2_checkIndex_2214a, cJ2_checkIndex_2214a, 2, none, IJ2_checkIndex_2214a)
abbrev IJ2_length_9d52b : List (Nat × Instr × Nat) := [(0, .aload_n 0, 1), (1, .arraylength, 1), (2, .iconst 1, 1), (3, .ishr, 1), (4, .ireturn, 1)]
theorem IJ2_length_9d52b_ok : IJ2_length_9d52b.all (fun e => decide (decode cJ2_length_9d52b e.1 = .ok e.2)) = true := by decide +kernel
abbrev MJ2_length_9d52b : am_MD := (14, yJ2_length_9d52b, cJ2_length_9d52b, 1, (Option.some FieldType.int), IJ2_length_9d52b)
abbrev IJ2_getChar_3b067 : List (Nat × Instr × Nat) := [(0, .getstatic 44, 3), (3, .ifCond .ne 25, 3), (6, .iload_n 1, 1), (7, .ifCond .lt 11, 3), (10, .iload_n 1, 1), (11, .aload_n 0, 1), (12, .invokestatic 48, 3), (15, .if_icmp .lt 13, 3), (18, .new 52, 3), (21, .dup, 1), (22, .ldc 54, 2), (24, .invokespecial 56, 3), (27, .athrow, 1), (28, .iload_n 1, 1), (29, .iconst 1, 1), (30, .ishl, 1), (31, .istore_n 1, 1), (32, .aload_n 0, 1), (33, .iload_n 1, 1), (34, .iinc 1 1, 3), (37, .baload, 1), (38, .sipush 255, 3), (41, .iand, 1), (42, .getstatic 59, 3), (45, .ishl, 1), (46, .aload_n 0, 1), (47, .iload_n 1, 1), (48, .baload, 1), (49, .sipush 255, 3), (52, .iand, 1), (53, .getstatic 63, 3), (56, .ishl, 1), (57, .ior, 1), (58, .i2c, 1), (59, .ireturn, 1)]
theorem IJ2_getChar_3b067_ok : IJ2_getChar_3b067.all (fun e => decide (decode cJ2_getChar_3b067 e.1 = .ok e.2)) = true := by decide +kernel
abbrev MJ2_getChar_3b067 : am_MD := (14, yJ2_getChar_3b067, cJ2_getChar_3b067, 2, (Option.some FieldType.char), IJ2_getChar_3b067)
abbrev IJ7_fill_031fb : List (Nat × Instr × Nat) := [(0, .iconst 0, 1), (1, .istore_n 2, 1), (2, .aload_n 0, 1), (3, .arraylength, 1), (4, .istore_n 3, 1), (5, .iload_n 2, 1), (6, .iload_n 3, 1), (7, .if_icmp .ge 13, 3), (10, .aload_n 0, 1), (11, .iload_n 2, 1), (12, .iload_n 1, 1), (13, .bastore, 1), (14, .iinc 2 1, 3), (17, .goto (-12), 3), (20, .return_, 1)]
theorem IJ7_fill_031fb_ok : IJ7_fill_031fb.all (fun e => decide (decode cJ7_fill_031fb e.1 = .ok e.2)) = true := by decide +kernel
abbrev MJ7_fill_031fb : am_MD := (19, yJ7_fill_031fb, cJ7_fill_031fb, 4, none, IJ7_fill_031fb)
abbrev IJ7_fill_53178 : List (Nat × Instr × Nat) := [(0, .iconst 0, 1), (1, .istore_n 2, 1), (2, .aload_n 0, 1), (3, .arraylength, 1), (4, .istore_n 3, 1), (5, .iload_n 2, 1), (6, .iload_n 3, 1), (7, .if_icmp .ge 13, 3), (10, .aload_n 0, 1), (11, .iload_n 2, 1), (12, .iload_n 1, 1), (13, .iastore, 1), (14, .iinc 2 1, 3), (17, .goto (-12), 3), (20, .return_, 1)]
theorem IJ7_fill_53178_ok : IJ7_fill_53178.all (fun e => decide (decode cJ7_fill_53178 e.1 = .ok e.2)) = true := by decide +kernel
abbrev MJ7_fill_53178 : am_MD := (19, yJ7_fill_53178, cJ7_fill_53178, 4, none, IJ7_fill_53178)
abbrev IJ6_bitCount_0f7a4 : List (Nat × Instr × Nat) := [(0, .iload_n 0, 1), (1, .iload_n 0, 1), (2, .iconst 1, 1), (3, .iushr, 1), (4, .ldc_w 265, 3), (7, .iand, 1), (8, .isub, 1), (9, .istore_n 0, 1), (10, .iload_n 0, 1), (11, .ldc_w 266, 3), (14, .iand, 1), (15, .iload_n 0, 1), (16, .iconst 2, 1), (17, .iushr, 1), (18, .ldc_w 266, 3), (21, .iand, 1), (22, .iadd, 1), (23, .istore_n 0, 1), (24, .iload_n 0, 1), (25, .iload_n 0, 1), (26, .iconst 4, 1), (27, .iushr, 1), (28, .iadd, 1), (29, .ldc_w 267, 3), (32, .iand, 1), (33, .istore_n 0, 1), (34, .iload_n 0, 1), (35, .iload_n 0, 1), (36, .bipush 8, 2), (38, .iushr, 1), (39, .iadd, 1), (40, .istore_n 0, 1), (41, .iload_n 0, 1), (42, .iload_n 0, 1), (43, .bipush 16, 2), (45, .iushr, 1), (46, .iadd, 1), (47, .istore_n 0, 1), (48, .iload_n 0, 1), (49, .bipush 63, 2), (51, .iand, 1), (52, .ireturn, 1)]
theorem IJ6_bitCount_0f7a4_ok : IJ6_bitCount_0f7a4.all (fun e => decide (decode cJ6_bitCount_0f7a4 e.1 = .ok e.2)) = true := by decide +kernel
abbrev MJ6_bitCount_0f7a4 : am_MD := (18, yJ6_bitCount_0f7a4, cJ6_bitCount_0f7a4, 1, (Option.some FieldType.int), IJ6_bitCount_0f7a4)
