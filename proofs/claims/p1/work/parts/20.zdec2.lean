def zdl_59 : List (Nat × Instr × Nat) := [(0, .aload_n 0, 1), (1, .getfield 28, 3), (4, .aload_n 0, 1), (5, .getfield 28, 3), (8, .iload_n 1, 1), (9, .iconst 0, 1), (10, .aload_n 0, 1), (11, .invokevirtual 94, 3), (14, .invokevirtual 83, 3), (17, .ireturn, 1)]
def zdl_60 : List (Nat × Instr × Nat) := [(0, .aload_n 1, 1), (1, .iload_n 2, 1), (2, .invokevirtual 36, 3), (5, .iconst 0, 1), (6, .istore 5, 2), (8, .iload 5, 2), (10, .aload_n 0, 1), (11, .getfield 32, 3), (14, .if_icmp .ge 88, 3), (17, .aload_n 0, 1), (18, .getfield 40, 3), (21, .getfield 44, 3), (24, .iload_n 3, 1), (25, .iconst 3, 1), (26, .imul, 1), (27, .iload 5, 2), (29, .iadd, 1), (30, .iaload, 1), (31, .aload_n 0, 1), (32, .getfield 40, 3), (35, .getfield 44, 3), (38, .iload 4, 2), (40, .iconst 3, 1), (41, .imul, 1), (42, .iload 5, 2), (44, .iadd, 1), (45, .iaload, 1), (46, .isub, 1), (47, .istore 6, 2), (49, .iload_n 3, 1), (50, .ifCond .le 21, 3), (53, .aload_n 1, 1), (54, .iload_n 2, 1), (55, .iload_n 3, 1), (56, .iconst 1, 1), (57, .isub, 1), (58, .aload_n 0, 1), (59, .getfield 32, 3), (62, .imul, 1), (63, .iload 5, 2), (65, .iadd, 1), (66, .iload 6, 2), (68, .invokevirtual 49, 3), (71, .iload 4, 2), (73, .ifCond .le 23, 3), (76, .aload_n 1, 1), (77, .iload_n 2, 1), (78, .iload 4, 2), (80, .iconst 1, 1), (81, .isub, 1), (82, .aload_n 0, 1), (83, .getfield 32, 3), (86, .imul, 1), (87, .iload 5, 2), (89, .iadd, 1), (90, .iload 6, 2), (92, .ineg, 1), (93, .invokevirtual 49, 3), (96, .iinc 5 1, 3), (99, .goto (-91), 3), (102, .return_, 1)]
def zdl_61 : List (Nat × Instr × Nat) := [(0, .ldc2_w 9, 3), (3, .lstore_n 2, 1), (4, .lload_n 0, 1), (5, .lstore 4, 2), (7, .lconst 0, 1), (8, .lstore 6, 2), (10, .lconst 1, 1), (11, .lstore 8, 2), (13, .iconst 0, 1), (14, .istore 10, 2), (16, .iload 10, 2), (18, .sipush 200, 3), (21, .if_icmp .ge 56, 3), (24, .lload 4, 2), (26, .lconst 0, 1), (27, .lcmp, 1), (28, .ifCond .eq 49, 3), (31, .lload_n 2, 1), (32, .lload 4, 2), (34, .ldiv, 1), (35, .lstore 11, 2), (37, .lload_n 2, 1), (38, .lload 11, 2), (40, .lload 4, 2), (42, .lmul, 1), (43, .lsub, 1), (44, .lstore 13, 2), (46, .lload 6, 2), (48, .lload 11, 2), (50, .lload 8, 2), (52, .lmul, 1), (53, .lsub, 1), (54, .lstore 15, 2), (56, .lload 4, 2), (58, .lstore_n 2, 1), (59, .lload 13, 2), (61, .lstore 4, 2), (63, .lload 8, 2), (65, .lstore 6, 2), (67, .lload 15, 2), (69, .lstore 8, 2), (71, .iinc 10 1, 3), (74, .goto (-58), 3), (77, .lload 6, 2), (79, .lconst 0, 1), (80, .lcmp, 1), (81, .ifCond .ge 12, 3), (84, .lload 6, 2), (86, .ldc2_w 9, 3), (89, .ladd, 1), (90, .goto 5, 3), (93, .lload 6, 2), (95, .lreturn, 1)]
def zdl_62 : List (Nat × Instr × Nat) := [(0, .lload_n 0, 1), (1, .ldc2_w 11, 3), (4, .lcmp, 1), (5, .ifCond .le 7, 3), (8, .iconst 1, 1), (9, .goto 4, 3), (12, .iconst 0, 1), (13, .ireturn, 1)]
def zdl_63 : List (Nat × Instr × Nat) := [(0, .lload_n 0, 1), (1, .lload_n 2, 1), (2, .lcmp, 1), (3, .ifCond .lt 9, 3), (6, .lload_n 0, 1), (7, .lload_n 2, 1), (8, .lsub, 1), (9, .goto 10, 3), (12, .lload_n 0, 1), (13, .lload_n 2, 1), (14, .lsub, 1), (15, .ldc2_w 9, 3), (18, .ladd, 1), (19, .lreturn, 1)]
def zdl_64 : List (Nat × Instr × Nat) := [(0, .iload_n 0, 1), (1, .ifCond .ge 12, 3), (4, .iload_n 0, 1), (5, .i2l, 1), (6, .ldc2_w 9, 3), (9, .ladd, 1), (10, .goto 5, 3), (13, .iload_n 0, 1), (14, .i2l, 1), (15, .lreturn, 1)]
def zdl_65 : List (Nat × Instr × Nat) := [(0, .lload_n 0, 1), (1, .bipush 31, 2), (3, .lushr, 1), (4, .lstore 4, 2), (6, .lload_n 0, 1), (7, .ldc2_w 13, 3), (10, .land, 1), (11, .lstore 6, 2), (13, .lload_n 2, 1), (14, .bipush 31, 2), (16, .lushr, 1), (17, .lstore 8, 2), (19, .lload_n 2, 1), (20, .ldc2_w 13, 3), (23, .land, 1), (24, .lstore 10, 2), (26, .lload 6, 2), (28, .lload 8, 2), (30, .lmul, 1), (31, .lload 4, 2), (33, .lload 10, 2), (35, .lmul, 1), (36, .ladd, 1), (37, .lstore 12, 2), (39, .ldc2_w 15, 3), (42, .lload 4, 2), (44, .lmul, 1), (45, .lload 8, 2), (47, .lmul, 1), (48, .lload 12, 2), (50, .bipush 30, 2), (52, .lushr, 1), (53, .ladd, 1), (54, .lload 12, 2), (56, .ldc2_w 17, 3), (59, .land, 1), (60, .bipush 31, 2), (62, .lshl, 1), (63, .ladd, 1), (64, .lload 6, 2), (66, .lload 10, 2), (68, .lmul, 1), (69, .ladd, 1), (70, .lstore 14, 2), (72, .lload 14, 2), (74, .ldc2_w 9, 3), (77, .land, 1), (78, .lload 14, 2), (80, .bipush 61, 2), (82, .lushr, 1), (83, .ladd, 1), (84, .lstore 16, 2), (86, .lload 16, 2), (88, .ldc2_w 9, 3), (91, .lcmp, 1), (92, .ifCond .lt 12, 3), (95, .lload 16, 2), (97, .ldc2_w 9, 3), (100, .lsub, 1), (101, .goto 5, 3), (104, .lload 16, 2), (106, .lreturn, 1)]
def zdl_66 : List (Nat × Instr × Nat) := [(0, .iconst 0, 1), (1, .istore_n 2, 1), (2, .iload_n 2, 1), (3, .aload_n 0, 1), (4, .getfield 7, 3), (7, .if_icmp .ge 23, 3), (10, .aload_n 0, 1), (11, .getfield 13, 3), (14, .iload_n 1, 1), (15, .aload_n 0, 1), (16, .getfield 7, 3), (19, .imul, 1), (20, .iload_n 2, 1), (21, .iadd, 1), (22, .lconst 0, 1), (23, .lastore, 1), (24, .iinc 2 1, 3), (27, .goto (-25), 3), (30, .return_, 1)]
def zdl_67 : List (Nat × Instr × Nat) := [(0, .aload_n 0, 1), (1, .getfield 13, 3), (4, .iload_n 1, 1), (5, .aload_n 0, 1), (6, .getfield 7, 3), (9, .imul, 1), (10, .iload_n 2, 1), (11, .iadd, 1), (12, .laload, 1), (13, .lreturn, 1)]
def zdl_68 : List (Nat × Instr × Nat) := [(0, .aload_n 0, 1), (1, .invokespecial 1, 3), (4, .aload_n 0, 1), (5, .iload_n 2, 1), (6, .putfield 7, 3), (9, .aload_n 0, 1), (10, .iload_n 1, 1), (11, .iload_n 2, 1), (12, .imul, 1), (13, .newarray .long, 2), (15, .putfield 13, 3), (18, .aload_n 0, 1), (19, .iload_n 2, 1), (20, .newarray .long, 2), (22, .putfield 17, 3), (25, .return_, 1)]
def zdl_69 : List (Nat × Instr × Nat) := [(0, .iconst 0, 1), (1, .istore_n 2, 1), (2, .iload_n 2, 1), (3, .bipush 12, 2), (5, .if_icmp .ge 29, 3), (8, .aload_n 0, 1), (9, .getfield 13, 3), (12, .iload_n 1, 1), (13, .aload_n 0, 1), (14, .getfield 7, 3), (17, .imul, 1), (18, .iload_n 2, 1), (19, .iadd, 1), (20, .laload, 1), (21, .lconst 0, 1), (22, .lcmp, 1), (23, .ifCond .eq 5, 3), (26, .iload_n 2, 1), (27, .ireturn, 1), (28, .iinc 2 1, 3), (31, .goto (-29), 3), (34, .iconst (-1), 1), (35, .ireturn, 1)]
def zdl_70 : List (Nat × Instr × Nat) := [(0, .aload_n 0, 1), (1, .getfield 13, 3), (4, .iload_n 1, 1), (5, .aload_n 0, 1), (6, .getfield 7, 3), (9, .imul, 1), (10, .iload_n 2, 1), (11, .iadd, 1), (12, .iload_n 3, 1), (13, .invokestatic 20, 3), (16, .lastore, 1), (17, .return_, 1)]
def zdl_71 : List (Nat × Instr × Nat) := [(0, .aload_n 0, 1), (1, .iload_n 2, 1), (2, .invokevirtual 26, 3), (5, .istore 5, 2), (7, .iload 5, 2), (9, .ifCond .ge 5, 3), (12, .iconst 0, 1), (13, .ireturn, 1), (14, .aload_n 0, 1), (15, .iload_n 2, 1), (16, .iload 5, 2), (18, .invokevirtual 30, 3), (21, .invokestatic 34, 3), (24, .lstore 6, 2), (26, .iconst 0, 1), (27, .istore 8, 2), (29, .iload 8, 2), (31, .aload_n 0, 1), (32, .getfield 7, 3), (35, .if_icmp .ge 50, 3), (38, .aload_n 0, 1), (39, .getfield 13, 3), (42, .iload_n 2, 1), (43, .aload_n 0, 1), (44, .getfield 7, 3), (47, .imul, 1), (48, .iload 8, 2), (50, .iadd, 1), (51, .laload, 1), (52, .lstore 9, 2), (54, .aload_n 0, 1), (55, .getfield 17, 3), (58, .iload 8, 2), (60, .lload 9, 2), (62, .lconst 0, 1), (63, .lcmp, 1), (64, .ifCond .ne 7, 3), (67, .lconst 0, 1), (68, .goto 10, 3), (71, .lload 9, 2), (73, .lload 6, 2), (75, .invokestatic 38, 3), (78, .lastore, 1), (79, .iinc 8 1, 3), (82, .goto (-53), 3), (85, .iload_n 3, 1), (86, .istore 8, 2), (88, .iload 8, 2), (90, .iload 4, 2), (92, .if_icmp .ge 121, 3), (95, .iload 8, 2), (97, .aload_n 0, 1), (98, .getfield 7, 3), (101, .imul, 1), (102, .istore 9, 2), (104, .aload_n 0, 1), (105, .getfield 13, 3), (108, .iload 9, 2), (110, .iload 5, 2), (112, .iadd, 1), (113, .laload, 1), (114, .lstore 10, 2), (116, .aload_n 0, 1), (117, .getfield 13, 3), (120, .iload 9, 2), (122, .aload_n 1, 1), (123, .getfield 13, 3), (126, .iload 9, 2), (128, .aload_n 0, 1), (129, .getfield 7, 3), (132, .invokestatic 42, 3), (135, .iconst 0, 1), (136, .istore 12, 2), (138, .lload 10, 2), (140, .lconst 0, 1), (141, .lcmp, 1), (142, .ifCond .eq 65, 3), (145, .iload 12, 2), (147, .aload_n 0, 1), (148, .getfield 7, 3), (151, .if_icmp .ge 56, 3), (154, .aload_n 0, 1), (155, .getfield 17, 3), (158, .iload 12, 2), (160, .laload, 1), (161, .lconst 0, 1), (162, .lcmp, 1), (163, .ifCond .eq 38, 3), (166, .aload_n 1, 1), (167, .getfield 13, 3), (170, .iload 9, 2), (172, .iload 12, 2), (174, .iadd, 1), (175, .aload_n 0, 1), (176, .getfield 13, 3), (179, .iload 9, 2), (181, .iload 12, 2), (183, .iadd, 1), (184, .laload, 1), (185, .lload 10, 2), (187, .aload_n 0, 1), (188, .getfield 17, 3), (191, .iload 12, 2), (193, .laload, 1), (194, .invokestatic 38, 3), (197, .invokestatic 48, 3), (200, .lastore, 1), (201, .iinc 12 1, 3), (204, .goto (-66), 3), (207, .iinc 8 1, 3), (210, .goto (-122), 3), (213, .iconst 1, 1), (214, .ireturn, 1)]
def zdl_72 : List (Nat × Instr × Nat) := [(0, .aload_n 0, 1), (1, .getfield 12, 3), (4, .iload_n 1, 1), (5, .invokevirtual 34, 3), (8, .ifCond .eq 12, 3), (11, .iload_n 2, 1), (12, .ifCond .lt 8, 3), (15, .iload_n 2, 1), (16, .iconst 3, 1), (17, .if_icmp .lt 6, 3), (20, .bipush (-2), 2), (22, .ireturn, 1), (23, .aload_n 0, 1), (24, .getfield 12, 3), (27, .getfield 79, 3), (30, .iload_n 1, 1), (31, .iconst 3, 1), (32, .imul, 1), (33, .iload_n 2, 1), (34, .iadd, 1), (35, .iaload, 1), (36, .ireturn, 1)]
def zdl_73 : List (Nat × Instr × Nat) := [(0, .aload_n 0, 1), (1, .iload_n 1, 1), (2, .iload_n 2, 1), (3, .invokevirtual 45, 3), (6, .ifCond .ne 6, 3), (9, .bipush (-2), 2), (11, .ireturn, 1), (12, .aload_n 0, 1), (13, .getfield 12, 3), (16, .iload_n 1, 1), (17, .iload_n 2, 1), (18, .invokevirtual 49, 3), (21, .ifCond .eq 6, 3), (24, .bipush (-4), 2), (26, .ireturn, 1), (27, .aload_n 0, 1), (28, .getfield 12, 3), (31, .getfield 52, 3), (34, .bipush 12, 2), (36, .if_icmp .lt 6, 3), (39, .bipush (-3), 2), (41, .ireturn, 1), (42, .aload_n 0, 1), (43, .getfield 12, 3), (46, .iload_n 1, 1), (47, .iload_n 2, 1), (48, .invokevirtual 55, 3), (51, .ireturn, 1)]
def zdl_74 : List (Nat × Instr × Nat) := [(0, .iload_n 1, 1), (1, .iconst 1, 1), (2, .if_icmp .lt 9, 3), (5, .iload_n 1, 1), (6, .bipush 7, 2), (8, .if_icmp .le 6, 3), (11, .bipush (-2), 2), (13, .ireturn, 1), (14, .aload_n 0, 1), (15, .getfield 12, 3), (18, .getfield 26, 3), (21, .istore_n 2, 1), (22, .aload_n 0, 1), (23, .getfield 12, 3), (26, .iload_n 1, 1), (27, .invokevirtual 30, 3), (30, .iload_n 2, 1), (31, .ireturn, 1)]
def zdl_75 : List (Nat × Instr × Nat) := [(0, .aload_n 0, 1), (1, .getfield 12, 3), (4, .iload_n 1, 1), (5, .invokevirtual 34, 3), (8, .ifCond .eq 12, 3), (11, .aload_n 0, 1), (12, .iconst 0, 1), (13, .iconst 0, 1), (14, .invokevirtual 141, 3), (17, .ifCond .ne 5, 3), (20, .iconst (-1), 1), (21, .ireturn, 1), (22, .aload_n 0, 1), (23, .getfield 22, 3), (26, .iload_n 1, 1), (27, .iaload, 1), (28, .ireturn, 1)]
def zdl_76 : List (Nat × Instr × Nat) := [(0, .aload_n 0, 1), (1, .iload_n 1, 1), (2, .invokevirtual 82, 3), (5, .astore_n 3, 1), (6, .aload_n 3, 1), (7, .ifnull 14, 3), (10, .aload_n 0, 1), (11, .getfield 12, 3), (14, .iload_n 2, 1), (15, .invokevirtual 86, 3), (18, .ifCond .ne 6, 3), (21, .bipush (-2), 2), (23, .ireturn, 1), (24, .aload_n 3, 1), (25, .iload_n 2, 1), (26, .invokevirtual 92, 3), (29, .ireturn, 1)]
def zdl_77 : List (Nat × Instr × Nat) := [(0, .aload_n 0, 1), (1, .iload_n 1, 1), (2, .invokevirtual 82, 3), (5, .astore_n 3, 1), (6, .aload_n 3, 1), (7, .ifnonnull 6, 3), (10, .bipush (-2), 2), (12, .ireturn, 1), (13, .aload_n 3, 1), (14, .aload_n 0, 1), (15, .getfield 12, 3), (18, .invokevirtual 122, 3), (21, .invokevirtual 95, 3), (24, .aload_n 3, 1), (25, .iload_n 2, 1), (26, .invokevirtual 125, 3), (29, .ireturn, 1)]
def zdl_78 : List (Nat × Instr × Nat) := [(0, .aload_n 0, 1), (1, .iload_n 1, 1), (2, .invokevirtual 82, 3), (5, .astore 4, 2), (7, .aload 4, 2), (9, .ifnonnull 6, 3), (12, .bipush (-2), 2), (14, .ireturn, 1), (15, .iload_n 2, 1), (16, .ifCond .lt 19, 3), (19, .iload_n 2, 1), (20, .bipush 12, 2), (22, .if_icmp .gt 13, 3), (25, .iload_n 3, 1), (26, .ifCond .lt 9, 3), (29, .iload_n 3, 1), (30, .bipush 12, 2), (32, .if_icmp .le 5, 3), (35, .iconst 0, 1), (36, .ireturn, 1), (37, .aload 4, 2), (39, .iload_n 2, 1), (40, .iload_n 3, 1), (41, .invokevirtual 119, 3), (44, .ireturn, 1)]
def zdl_79 : List (Nat × Instr × Nat) := [(0, .iload_n 1, 1), (1, .tableswitch 65 0 3 #[31, 39, 47, 56], 31), (32, .aload_n 0, 1), (33, .getfield 12, 3), (36, .getfield 26, 3), (39, .ireturn, 1), (40, .aload_n 0, 1), (41, .getfield 12, 3), (44, .getfield 52, 3), (47, .ireturn, 1), (48, .aload_n 0, 1), (49, .getfield 12, 3), (52, .iconst 1, 1), (53, .invokevirtual 69, 3), (56, .ireturn, 1), (57, .aload_n 0, 1), (58, .getfield 12, 3), (61, .iconst (-1), 1), (62, .invokevirtual 69, 3), (65, .ireturn, 1), (66, .bipush (-2), 2), (68, .ireturn, 1)]
def zdl_80 : List (Nat × Instr × Nat) := [(0, .aload_n 0, 1), (1, .getfield 12, 3), (4, .iload_n 1, 1), (5, .invokevirtual 63, 3), (8, .ifCond .eq 12, 3), (11, .iload_n 2, 1), (12, .ifCond .lt 8, 3), (15, .iload_n 2, 1), (16, .iconst 1, 1), (17, .if_icmp .le 6, 3), (20, .bipush (-2), 2), (22, .ireturn, 1), (23, .iload_n 2, 1), (24, .ifCond .ne 15, 3), (27, .aload_n 0, 1), (28, .getfield 12, 3), (31, .getfield 73, 3), (34, .iload_n 1, 1), (35, .iaload, 1), (36, .goto 12, 3), (39, .aload_n 0, 1), (40, .getfield 12, 3), (43, .getfield 76, 3), (46, .iload_n 1, 1), (47, .iaload, 1), (48, .ireturn, 1)]
def zdl_81 : List (Nat × Instr × Nat) := [(0, .aload_n 0, 1), (1, .iload_n 1, 1), (2, .invokevirtual 82, 3), (5, .astore_n 3, 1), (6, .aload_n 3, 1), (7, .instanceof 128, 3), (10, .ifCond .eq 28, 3), (13, .aload_n 3, 1), (14, .checkcast 128, 3), (17, .astore_n 2, 1), (18, .aload_n 2, 1), (19, .invokevirtual 136, 3), (22, .ifCond .ne 14, 3), (25, .aload_n 2, 1), (26, .invokevirtual 137, 3), (29, .ifCond .eq 7, 3), (32, .iconst 1, 1), (33, .goto 4, 3), (36, .iconst 0, 1), (37, .ireturn, 1), (38, .bipush (-2), 2), (40, .ireturn, 1)]
def zdl_82 : List (Nat × Instr × Nat) := [(0, .aload_n 0, 1), (1, .iload_n 1, 1), (2, .invokevirtual 82, 3), (5, .astore 5, 2), (7, .aload 5, 2), (9, .ifnull 24, 3), (12, .aload_n 0, 1), (13, .iload_n 2, 1), (14, .iload_n 3, 1), (15, .invokevirtual 45, 3), (18, .ifCond .eq 15, 3), (21, .aload_n 0, 1), (22, .getfield 12, 3), (25, .iload 4, 2), (27, .invokevirtual 86, 3), (30, .ifCond .ne 6, 3), (33, .bipush (-2), 2), (35, .ireturn, 1), (36, .aload 5, 2), (38, .iload 4, 2), (40, .invokevirtual 95, 3), (43, .aload 5, 2), (45, .getfield 98, 3), (48, .iload_n 2, 1), (49, .iaload, 1), (50, .iload_n 3, 1), (51, .ishr, 1), (52, .iconst 1, 1), (53, .iand, 1), (54, .ireturn, 1)]
def zdl_83 : List (Nat × Instr × Nat) := [(0, .aload_n 0, 1), (1, .invokespecial 3, 3), (4, .aload_n 0, 1), (5, .new 9, 3), (8, .dup, 1), (9, .invokespecial 11, 3), (12, .putfield 12, 3), (15, .aload_n 0, 1), (16, .iconst 3, 1), (17, .anewarray 16, 3), (20, .putfield 18, 3), (23, .aload_n 0, 1), (24, .bipush 7, 2), (26, .newarray .int, 2), (28, .putfield 22, 3), (31, .return_, 1)]
def zdl_84 : List (Nat × Instr × Nat) := [(0, .aload_n 0, 1), (1, .getfield 12, 3), (4, .iload_n 1, 1), (5, .invokevirtual 34, 3), (8, .ifCond .eq 23, 3), (11, .aload_n 0, 1), (12, .getfield 12, 3), (15, .iload_n 2, 1), (16, .invokevirtual 34, 3), (19, .ifCond .eq 12, 3), (22, .iload_n 1, 1), (23, .iload_n 2, 1), (24, .if_icmp .eq 7, 3), (27, .iconst 1, 1), (28, .goto 4, 3), (31, .iconst 0, 1), (32, .ireturn, 1)]
def zdl_85 : List (Nat × Instr × Nat) := [(0, .iload_n 0, 1), (1, .bipush (-4), 2), (3, .if_icmp .lt 8, 3), (6, .iload_n 0, 1), (7, .iconst 4, 1), (8, .if_icmp .le 7, 3), (11, .iconst 1, 1), (12, .goto 4, 3), (15, .iconst 0, 1), (16, .ireturn, 1)]
def zdl_86 : List (Nat × Instr × Nat) := [(0, .aload_n 0, 1), (1, .getfield 12, 3), (4, .iload_n 1, 1), (5, .invokevirtual 34, 3), (8, .ifCond .eq 25, 3), (11, .iload_n 2, 1), (12, .invokestatic 38, 3), (15, .ifCond .ne 18, 3), (18, .iload_n 3, 1), (19, .invokestatic 38, 3), (22, .ifCond .ne 11, 3), (25, .iload 4, 2), (27, .invokestatic 38, 3), (30, .ifCond .eq 6, 3), (33, .bipush (-2), 2), (35, .ireturn, 1), (36, .aload_n 0, 1), (37, .getfield 12, 3), (40, .iload_n 1, 1), (41, .iload_n 2, 1), (42, .iload_n 3, 1), (43, .iload 4, 2), (45, .invokevirtual 41, 3), (48, .ifCond .eq 7, 3), (51, .iconst 1, 1), (52, .goto 4, 3), (55, .iconst 0, 1), (56, .ireturn, 1)]
def zdl_87 : List (Nat × Instr × Nat) := [(0, .aload_n 0, 1), (1, .iload_n 1, 1), (2, .invokevirtual 82, 3), (5, .astore_n 2, 1), (6, .aload_n 2, 1), (7, .ifnonnull 6, 3), (10, .bipush (-2), 2), (12, .ireturn, 1), (13, .aload_n 2, 1), (14, .invokevirtual 101, 3), (17, .ireturn, 1)]
def zdl_88 : List (Nat × Instr × Nat) := [(0, .iload_n 1, 1), (1, .aload_n 0, 1), (2, .getfield 12, 3), (5, .getfield 26, 3), (8, .if_icmp .lt 5, 3), (11, .iconst 1, 1), (12, .ireturn, 1), (13, .iload_n 1, 1), (14, .iconst 2, 1), (15, .invokestatic 161, 3), (18, .istore_n 3, 1), (19, .iconst 0, 1), (20, .istore 4, 2), (22, .iload 4, 2), (24, .aload_n 0, 1), (25, .getfield 12, 3), (28, .getfield 26, 3), (31, .if_icmp .ge 74, 3), (34, .iload_n 2, 1), (35, .iload 4, 2), (37, .ishr, 1), (38, .iconst 1, 1), (39, .iand, 1), (40, .ifCond .ne 7, 3), (43, .iconst 1, 1), (44, .goto 4, 3), (47, .iconst 0, 1), (48, .istore 5, 2), (50, .iload 5, 2), (52, .ifCond .eq 47, 3), (55, .aload_n 0, 1), (56, .getfield 12, 3), (59, .iload 4, 2), (61, .invokevirtual 166, 3), (64, .iload_n 2, 1), (65, .iand, 1), (66, .invokestatic 169, 3), (69, .iload_n 3, 1), (70, .if_icmp .ne 29, 3), (73, .aload_n 0, 1), (74, .getfield 22, 3), (77, .iload_n 1, 1), (78, .iload 4, 2), (80, .iastore, 1), (81, .aload_n 0, 1), (82, .iload_n 1, 1), (83, .iconst 1, 1), (84, .iadd, 1), (85, .iload_n 2, 1), (86, .iconst 1, 1), (87, .iload 4, 2), (89, .ishl, 1), (90, .ior, 1), (91, .invokevirtual 141, 3), (94, .ifCond .eq 5, 3), (97, .iconst 1, 1), (98, .ireturn, 1), (99, .iinc 4 1, 3), (102, .goto (-80), 3), (105, .iconst 0, 1), (106, .ireturn, 1)]
def zdl_89 : List (Nat × Instr × Nat) := [(0, .iload_n 1, 1), (1, .lookupswitch 53 #[(0, 27), (1, 40)], 27), (28, .new 128, 3), (31, .dup, 1), (32, .aload_n 0, 1), (33, .getfield 12, 3), (36, .iconst 2, 1), (37, .invokespecial 153, 3), (40, .areturn, 1), (41, .new 128, 3), (44, .dup, 1), (45, .aload_n 0, 1), (46, .getfield 12, 3), (49, .iconst 3, 1), (50, .invokespecial 153, 3), (53, .areturn, 1), (54, .new 156, 3), (57, .dup, 1), (58, .aload_n 0, 1), (59, .getfield 12, 3), (62, .invokespecial 158, 3), (65, .areturn, 1)]
def zdl_90 : List (Nat × Instr × Nat) := [(0, .aload_n 0, 1), (1, .iload_n 1, 1), (2, .invokevirtual 82, 3), (5, .astore_n 3, 1), (6, .aload_n 3, 1), (7, .ifnull 13, 3), (10, .iload_n 2, 1), (11, .ifCond .lt 9, 3), (14, .iload_n 2, 1), (15, .bipush 7, 2), (17, .if_icmp .lt 6, 3), (20, .bipush (-2), 2), (22, .ireturn, 1), (23, .iload_n 2, 1), (24, .iconst 4, 1), (25, .if_icmp .ne 10, 3), (28, .aload_n 3, 1), (29, .invokevirtual 107, 3), (32, .goto 8, 3), (35, .aload_n 3, 1), (36, .iload_n 2, 1), (37, .invokevirtual 110, 3), (40, .ireturn, 1)]
def zdl_91 : List (Nat × Instr × Nat) := [(0, .iload_n 1, 1), (1, .ifCond .lt 24, 3), (4, .iload_n 1, 1), (5, .iconst 3, 1), (6, .if_icmp .ge 19, 3), (9, .iload_n 1, 1), (10, .iconst 1, 1), (11, .if_icmp .ne 16, 3), (14, .aload_n 0, 1), (15, .getfield 12, 3), (18, .getfield 26, 3), (21, .iconst 5, 1), (22, .if_icmp .le 5, 3), (25, .aconst_null, 1), (26, .areturn, 1), (27, .aload_n 0, 1), (28, .getfield 18, 3), (31, .iload_n 1, 1), (32, .aaload, 1), (33, .ifnonnull 14, 3), (36, .aload_n 0, 1), (37, .getfield 18, 3), (40, .iload_n 1, 1), (41, .aload_n 0, 1), (42, .iload_n 1, 1), (43, .invokevirtual 147, 3), (46, .aastore, 1), (47, .aload_n 0, 1), (48, .getfield 18, 3), (51, .iload_n 1, 1), (52, .aaload, 1), (53, .invokevirtual 150, 3), (56, .aload_n 0, 1), (57, .getfield 18, 3), (60, .iload_n 1, 1), (61, .aaload, 1), (62, .areturn, 1)]
def zdl_92 : List (Nat × Instr × Nat) := [(0, .aload_n 0, 1), (1, .getfield 12, 3), (4, .getfield 26, 3), (7, .istore_n 1, 1), (8, .iload_n 1, 1), (9, .iconst 3, 1), (10, .if_icmp .gt 26, 3), (13, .aload_n 0, 1), (14, .getfield 12, 3), (17, .getfield 52, 3), (20, .iload_n 1, 1), (21, .iload_n 1, 1), (22, .iconst 1, 1), (23, .isub, 1), (24, .imul, 1), (25, .iconst 2, 1), (26, .idiv, 1), (27, .if_icmp .ne 7, 3), (30, .iconst 1, 1), (31, .goto 4, 3), (34, .iconst 0, 1), (35, .ireturn, 1), (36, .aload_n 0, 1), (37, .iconst 2, 1), (38, .invokevirtual 82, 3), (41, .astore_n 2, 1), (42, .aload_n 2, 1), (43, .ifnull 24, 3), (46, .aload_n 2, 1), (47, .invokevirtual 104, 3), (50, .aload_n 0, 1), (51, .getfield 12, 3), (54, .invokevirtual 122, 3), (57, .if_icmp .ne 10, 3), (60, .aload_n 2, 1), (61, .invokevirtual 101, 3), (64, .ifCond .eq 5, 3), (67, .iconst 0, 1), (68, .ireturn, 1), (69, .aload_n 0, 1), (70, .invokevirtual 144, 3), (73, .ifCond .eq 7, 3), (76, .iconst 1, 1), (77, .goto 4, 3), (80, .iconst 0, 1), (81, .ireturn, 1)]
def zdb_2 : List (ByteArray × List (Nat × Instr × Nat)) := [(cX3_takeOut, zdl_59), (cX3_writeRow, zdl_60), (cX4_inverse, zdl_61), (cX4_isBelowZero, zdl_62), (cX4_minus, zdl_63), (cX4_of, zdl_64), (cX4_times, zdl_65), (cX5_clear, zdl_66), (cX5_get, zdl_67), (cX5_init, zdl_68), (cX5_leadColumn, zdl_69), (cX5_put, zdl_70), (cX5_reduceInto, zdl_71), (cX6_at, zdl_72), (cX6_bar, zdl_73), (cX6_begin, zdl_74), (cX6_built, zdl_75), (cX6_closure, zdl_76), (cX6_cluster, zdl_77), (cX6_coefficient, zdl_78), (cX6_count, zdl_79), (cX6_end, zdl_80), (cX6_holds, zdl_81), (cX6_implied, zdl_82), (cX6_init, zdl_83), (cX6_isPair, zdl_84), (cX6_isTooFar, zdl_85), (cX6_joint, zdl_86), (cX6_lacks, zdl_87), (cX6_lineUp, zdl_88), (cX6_makeMatroid, zdl_89), (cX6_many, zdl_90), (cX6_matroidOf, zdl_91), (cX6_oneShape, zdl_92)]
set_option maxRecDepth 100000 in
theorem zdo_59 : zdl_59.all (fun e => decide (decode cX3_takeOut e.1 = .ok e.2)) = true := by decide +kernel
set_option maxRecDepth 100000 in
theorem zdo_60 : zdl_60.all (fun e => decide (decode cX3_writeRow e.1 = .ok e.2)) = true := by decide +kernel
set_option maxRecDepth 100000 in
theorem zdo_61 : zdl_61.all (fun e => decide (decode cX4_inverse e.1 = .ok e.2)) = true := by decide +kernel
set_option maxRecDepth 100000 in
theorem zdo_62 : zdl_62.all (fun e => decide (decode cX4_isBelowZero e.1 = .ok e.2)) = true := by decide +kernel
set_option maxRecDepth 100000 in
theorem zdo_63 : zdl_63.all (fun e => decide (decode cX4_minus e.1 = .ok e.2)) = true := by decide +kernel
set_option maxRecDepth 100000 in
theorem zdo_64 : zdl_64.all (fun e => decide (decode cX4_of e.1 = .ok e.2)) = true := by decide +kernel
set_option maxRecDepth 100000 in
theorem zdo_65 : zdl_65.all (fun e => decide (decode cX4_times e.1 = .ok e.2)) = true := by decide +kernel
set_option maxRecDepth 100000 in
theorem zdo_66 : zdl_66.all (fun e => decide (decode cX5_clear e.1 = .ok e.2)) = true := by decide +kernel
set_option maxRecDepth 100000 in
theorem zdo_67 : zdl_67.all (fun e => decide (decode cX5_get e.1 = .ok e.2)) = true := by decide +kernel
set_option maxRecDepth 100000 in
theorem zdo_68 : zdl_68.all (fun e => decide (decode cX5_init e.1 = .ok e.2)) = true := by decide +kernel
set_option maxRecDepth 100000 in
theorem zdo_69 : zdl_69.all (fun e => decide (decode cX5_leadColumn e.1 = .ok e.2)) = true := by decide +kernel
set_option maxRecDepth 100000 in
theorem zdo_70 : zdl_70.all (fun e => decide (decode cX5_put e.1 = .ok e.2)) = true := by decide +kernel
set_option maxRecDepth 100000 in
theorem zdo_71 : zdl_71.all (fun e => decide (decode cX5_reduceInto e.1 = .ok e.2)) = true := by decide +kernel
set_option maxRecDepth 100000 in
theorem zdo_72 : zdl_72.all (fun e => decide (decode cX6_at e.1 = .ok e.2)) = true := by decide +kernel
set_option maxRecDepth 100000 in
theorem zdo_73 : zdl_73.all (fun e => decide (decode cX6_bar e.1 = .ok e.2)) = true := by decide +kernel
set_option maxRecDepth 100000 in
theorem zdo_74 : zdl_74.all (fun e => decide (decode cX6_begin e.1 = .ok e.2)) = true := by decide +kernel
set_option maxRecDepth 100000 in
theorem zdo_75 : zdl_75.all (fun e => decide (decode cX6_built e.1 = .ok e.2)) = true := by decide +kernel
set_option maxRecDepth 100000 in
theorem zdo_76 : zdl_76.all (fun e => decide (decode cX6_closure e.1 = .ok e.2)) = true := by decide +kernel
set_option maxRecDepth 100000 in
theorem zdo_77 : zdl_77.all (fun e => decide (decode cX6_cluster e.1 = .ok e.2)) = true := by decide +kernel
set_option maxRecDepth 100000 in
theorem zdo_78 : zdl_78.all (fun e => decide (decode cX6_coefficient e.1 = .ok e.2)) = true := by decide +kernel
set_option maxRecDepth 100000 in
theorem zdo_79 : zdl_79.all (fun e => decide (decode cX6_count e.1 = .ok e.2)) = true := by decide +kernel
set_option maxRecDepth 100000 in
theorem zdo_80 : zdl_80.all (fun e => decide (decode cX6_end e.1 = .ok e.2)) = true := by decide +kernel
set_option maxRecDepth 100000 in
theorem zdo_81 : zdl_81.all (fun e => decide (decode cX6_holds e.1 = .ok e.2)) = true := by decide +kernel
set_option maxRecDepth 100000 in
theorem zdo_82 : zdl_82.all (fun e => decide (decode cX6_implied e.1 = .ok e.2)) = true := by decide +kernel
set_option maxRecDepth 100000 in
theorem zdo_83 : zdl_83.all (fun e => decide (decode cX6_init e.1 = .ok e.2)) = true := by decide +kernel
set_option maxRecDepth 100000 in
theorem zdo_84 : zdl_84.all (fun e => decide (decode cX6_isPair e.1 = .ok e.2)) = true := by decide +kernel
set_option maxRecDepth 100000 in
theorem zdo_85 : zdl_85.all (fun e => decide (decode cX6_isTooFar e.1 = .ok e.2)) = true := by decide +kernel
set_option maxRecDepth 100000 in
theorem zdo_86 : zdl_86.all (fun e => decide (decode cX6_joint e.1 = .ok e.2)) = true := by decide +kernel
set_option maxRecDepth 100000 in
theorem zdo_87 : zdl_87.all (fun e => decide (decode cX6_lacks e.1 = .ok e.2)) = true := by decide +kernel
set_option maxRecDepth 100000 in
theorem zdo_88 : zdl_88.all (fun e => decide (decode cX6_lineUp e.1 = .ok e.2)) = true := by decide +kernel
set_option maxRecDepth 100000 in
theorem zdo_89 : zdl_89.all (fun e => decide (decode cX6_makeMatroid e.1 = .ok e.2)) = true := by decide +kernel
set_option maxRecDepth 100000 in
theorem zdo_90 : zdl_90.all (fun e => decide (decode cX6_many e.1 = .ok e.2)) = true := by decide +kernel
set_option maxRecDepth 100000 in
theorem zdo_91 : zdl_91.all (fun e => decide (decode cX6_matroidOf e.1 = .ok e.2)) = true := by decide +kernel
set_option maxRecDepth 100000 in
theorem zdo_92 : zdl_92.all (fun e => decide (decode cX6_oneShape e.1 = .ok e.2)) = true := by decide +kernel
theorem zdk_2 : ∀ q ∈ zdb_2, q.2.all (fun e => decide (decode q.1 e.1 = .ok e.2)) = true := by
  intro q hq
  simp only [zdb_2, List.mem_cons, List.not_mem_nil, or_false] at hq
  rcases hq with rfl | rfl | rfl | rfl | rfl | rfl | rfl | rfl | rfl | rfl | rfl | rfl | rfl | rfl | rfl | rfl | rfl | rfl | rfl | rfl | rfl | rfl | rfl | rfl | rfl | rfl | rfl | rfl | rfl | rfl | rfl | rfl | rfl | rfl
  · exact zdo_59
  · exact zdo_60
  · exact zdo_61
  · exact zdo_62
  · exact zdo_63
  · exact zdo_64
  · exact zdo_65
  · exact zdo_66
  · exact zdo_67
  · exact zdo_68
  · exact zdo_69
  · exact zdo_70
  · exact zdo_71
  · exact zdo_72
  · exact zdo_73
  · exact zdo_74
  · exact zdo_75
  · exact zdo_76
  · exact zdo_77
  · exact zdo_78
  · exact zdo_79
  · exact zdo_80
  · exact zdo_81
  · exact zdo_82
  · exact zdo_83
  · exact zdo_84
  · exact zdo_85
  · exact zdo_86
  · exact zdo_87
  · exact zdo_88
  · exact zdo_89
  · exact zdo_90
  · exact zdo_91
  · exact zdo_92
