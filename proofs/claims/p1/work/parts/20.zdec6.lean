def zdl_156 : List (Nat × Instr × Nat) := [(0, .aload_n 0, 1), (1, .iload_n 1, 1), (2, .invokevirtual 154, 3), (5, .aload_n 0, 1), (6, .getfield 26, 3), (9, .sipush 4096, 3), (12, .iload_n 1, 1), (13, .imul, 1), (14, .iload_n 2, 1), (15, .iadd, 1), (16, .iaload, 1), (17, .ireturn, 1)]
def zdl_157 : List (Nat × Instr × Nat) := [(0, .aload_n 0, 1), (1, .getfield 87, 3), (4, .ifCond .ne 5, 3), (7, .iconst 0, 1), (8, .ireturn, 1), (9, .aload_n 0, 1), (10, .ldc2_w 115, 3), (13, .invokevirtual 117, 3), (16, .istore_n 1, 1), (17, .aload_n 0, 1), (18, .ldc2_w 121, 3), (21, .invokevirtual 117, 3), (24, .istore_n 2, 1), (25, .iload_n 1, 1), (26, .iload_n 2, 1), (27, .if_icmp .le 7, 3), (30, .iload_n 1, 1), (31, .goto 4, 3), (34, .iload_n 2, 1), (35, .ireturn, 1)]
def zdl_158 : List (Nat × Instr × Nat) := [(0, .aload_n 0, 1), (1, .iload_n 1, 1), (2, .invokevirtual 158, 3), (5, .ifCond .ne 8, 3), (8, .bipush (-2), 2), (10, .goto 16, 3), (13, .aload_n 0, 1), (14, .iload_n 1, 1), (15, .invokevirtual 178, 3), (18, .ifCond .eq 7, 3), (21, .iconst 1, 1), (22, .goto 4, 3), (25, .iconst 0, 1), (26, .ireturn, 1)]
def zdl_159 : List (Nat × Instr × Nat) := [(0, .iload_n 1, 1), (1, .iconst 0, 1), (2, .aload_n 0, 1), (3, .getfield 74, 3), (6, .iconst 1, 1), (7, .isub, 1), (8, .invokestatic 70, 3), (11, .ifCond .eq 12, 3), (14, .iload_n 2, 1), (15, .iconst (-1), 1), (16, .iconst 1, 1), (17, .invokestatic 70, 3), (20, .ifCond .ne 6, 3), (23, .bipush (-2), 2), (25, .ireturn, 1), (26, .aload_n 0, 1), (27, .getfield 23, 3), (30, .iload_n 1, 1), (31, .iaload, 1), (32, .iconst 1, 1), (33, .iadd, 1), (34, .istore_n 3, 1), (35, .aload_n 0, 1), (36, .getfield 23, 3), (39, .iload_n 1, 1), (40, .iload_n 2, 1), (41, .iastore, 1), (42, .iload_n 3, 1), (43, .ireturn, 1)]
def zdl_160 : List (Nat × Instr × Nat) := [(0, .aload_n 0, 1), (1, .iload_n 1, 1), (2, .invokevirtual 158, 3), (5, .ifCond .eq 11, 3), (8, .aload_n 0, 1), (9, .iload_n 1, 1), (10, .invokevirtual 185, 3), (13, .goto 5, 3), (16, .bipush (-2), 2), (18, .ireturn, 1)]
def zdl_161 : List (Nat × Instr × Nat) := [(0, .iconst 0, 1), (1, .istore_n 2, 1), (2, .iconst 0, 1), (3, .istore_n 3, 1), (4, .iload_n 3, 1), (5, .aload_n 0, 1), (6, .getfield 74, 3), (9, .if_icmp .ge 46, 3), (12, .aload_n 0, 1), (13, .iload_n 1, 1), (14, .aload_n 0, 1), (15, .invokevirtual 151, 3), (18, .iconst 1, 1), (19, .iload_n 3, 1), (20, .ishl, 1), (21, .iconst (-1), 1), (22, .ixor, 1), (23, .iand, 1), (24, .invokevirtual 164, 3), (27, .aload_n 0, 1), (28, .iload_n 1, 1), (29, .aload_n 0, 1), (30, .invokevirtual 151, 3), (33, .invokevirtual 164, 3), (36, .if_icmp .ne 11, 3), (39, .iload_n 2, 1), (40, .iconst 1, 1), (41, .iload_n 3, 1), (42, .ishl, 1), (43, .ior, 1), (44, .goto 4, 3), (47, .iload_n 2, 1), (48, .istore_n 2, 1), (49, .iinc 3 1, 3), (52, .goto (-48), 3), (55, .iload_n 2, 1), (56, .ireturn, 1)]
def zdl_162 : List (Nat × Instr × Nat) := [(0, .aload_n 0, 1), (1, .iload_n 1, 1), (2, .invokevirtual 158, 3), (5, .ifCond .eq 39, 3), (8, .iload_n 1, 1), (9, .iconst 2, 1), (10, .if_icmp .eq 34, 3), (13, .aload_n 0, 1), (14, .iload_n 2, 1), (15, .invokevirtual 161, 3), (18, .ifCond .eq 26, 3), (21, .aload_n 0, 1), (22, .iload_n 1, 1), (23, .iload_n 2, 1), (24, .invokevirtual 191, 3), (27, .ifCond .eq 17, 3), (30, .iload_n 3, 1), (31, .iconst 0, 1), (32, .aload_n 0, 1), (33, .getfield 74, 3), (36, .iconst 1, 1), (37, .isub, 1), (38, .invokestatic 70, 3), (41, .ifCond .ne 6, 3), (44, .bipush (-2), 2), (46, .ireturn, 1), (47, .aload_n 0, 1), (48, .iload_n 1, 1), (49, .iload_n 2, 1), (50, .invokevirtual 229, 3), (53, .aload_n 0, 1), (54, .getfield 55, 3), (57, .iload_n 3, 1), (58, .laload, 1), (59, .l2i, 1), (60, .iconst 1, 1), (61, .iadd, 1), (62, .ireturn, 1)]
def zdl_163 : List (Nat × Instr × Nat) := [(0, .iconst 0, 1), (1, .istore_n 3, 1), (2, .iload_n 3, 1), (3, .bipush 15, 2), (5, .if_icmp .ge 57, 3), (8, .aload_n 0, 1), (9, .getfield 37, 3), (12, .bipush 15, 2), (14, .iload_n 1, 1), (15, .imul, 1), (16, .iload_n 3, 1), (17, .iadd, 1), (18, .laload, 1), (19, .lstore 4, 2), (21, .aload_n 0, 1), (22, .getfield 37, 3), (25, .bipush 15, 2), (27, .iload_n 1, 1), (28, .imul, 1), (29, .iload_n 3, 1), (30, .iadd, 1), (31, .aload_n 0, 1), (32, .getfield 37, 3), (35, .bipush 15, 2), (37, .iload_n 2, 1), (38, .imul, 1), (39, .iload_n 3, 1), (40, .iadd, 1), (41, .laload, 1), (42, .lastore, 1), (43, .aload_n 0, 1), (44, .getfield 37, 3), (47, .bipush 15, 2), (49, .iload_n 2, 1), (50, .imul, 1), (51, .iload_n 3, 1), (52, .iadd, 1), (53, .lload 4, 2), (55, .lastore, 1), (56, .iinc 3 1, 3), (59, .goto (-57), 3), (62, .return_, 1)]
def zdl_164 : List (Nat × Instr × Nat) := [(0, .iload_n 1, 1), (1, .iload_n 0, 1), (2, .if_icmp .le 7, 3), (5, .iconst 0, 1), (6, .goto 25, 3), (9, .iload_n 0, 1), (10, .iload_n 1, 1), (11, .isub, 1), (12, .iconst 2, 1), (13, .irem, 1), (14, .ifCond .ne 11, 3), (17, .iload_n 0, 1), (18, .iload_n 1, 1), (19, .invokestatic 209, 3), (22, .goto 9, 3), (25, .iload_n 0, 1), (26, .iload_n 1, 1), (27, .invokestatic 209, 3), (30, .ineg, 1), (31, .ireturn, 1)]
def zdl_165 : List (Nat × Instr × Nat) := [(0, .lload_n 2, 1), (1, .lload_n 0, 1), (2, .lsub, 1), (3, .ldc2_w 121, 3), (6, .invokestatic 96, 3), (9, .ldc2_w 115, 3), (12, .ldc2_w 121, 3), (15, .invokestatic 96, 3), (18, .ldc2_w 121, 3), (21, .invokestatic 112, 3), (24, .lmul, 1), (25, .ldc2_w 121, 3), (28, .lrem, 1), (29, .lstore 4, 2), (31, .lload_n 0, 1), (32, .ldc2_w 115, 3), (35, .lload 4, 2), (37, .lmul, 1), (38, .ladd, 1), (39, .lstore 6, 2), (41, .ldc2_w 218, 3), (44, .lstore 8, 2), (46, .lload 6, 2), (48, .lload 8, 2), (50, .ldc2_w 94, 3), (53, .ldiv, 1), (54, .lcmp, 1), (55, .ifCond .le 11, 3), (58, .lload 6, 2), (60, .lload 8, 2), (62, .lsub, 1), (63, .goto 5, 3), (66, .lload 6, 2), (68, .lreturn, 1)]
def zdl_166 : List (Nat × Instr × Nat) := [(0, .aload_n 0, 1), (1, .iload_n 1, 1), (2, .invokevirtual 158, 3), (5, .ifCond .eq 13, 3), (8, .iload_n 2, 1), (9, .iconst 0, 1), (10, .bipush 6, 2), (12, .invokestatic 70, 3), (15, .ifCond .ne 6, 3), (18, .bipush (-2), 2), (20, .ireturn, 1), (21, .iload_n 2, 1), (22, .iconst 4, 1), (23, .if_icmp .ne 10, 3), (26, .aload_n 0, 1), (27, .iload_n 1, 1), (28, .iload_n 3, 1), (29, .invokevirtual 203, 3), (32, .ireturn, 1), (33, .iconst 0, 1), (34, .istore 4, 2), (36, .iconst (-1), 1), (37, .istore 5, 2), (39, .iconst 0, 1), (40, .istore 6, 2), (42, .iload 6, 2), (44, .aload_n 0, 1), (45, .invokevirtual 151, 3), (48, .if_icmp .gt 43, 3), (51, .iload 5, 2), (53, .ifCond .ge 38, 3), (56, .aload_n 0, 1), (57, .iload_n 1, 1), (58, .iload_n 2, 1), (59, .iload 6, 2), (61, .invokevirtual 206, 3), (64, .ifCond .eq 21, 3), (67, .iload 4, 2), (69, .iload_n 3, 1), (70, .if_icmp .ne 8, 3), (73, .iload 6, 2), (75, .goto 5, 3), (78, .iload 5, 2), (80, .istore 5, 2), (82, .iinc 4 1, 3), (85, .iinc 6 1, 3), (88, .goto (-46), 3), (91, .iload 5, 2), (93, .ireturn, 1)]
def zdl_167 : List (Nat × Instr × Nat) := [(0, .aload_n 0, 1), (1, .iload_n 1, 1), (2, .iload_n 2, 1), (3, .invokevirtual 130, 3), (6, .aload_n 0, 1), (7, .invokevirtual 133, 3), (10, .istore_n 3, 1), (11, .aload_n 0, 1), (12, .iload_n 3, 1), (13, .ifCond .eq 10, 3), (16, .aload_n 0, 1), (17, .getfield 123, 3), (20, .goto 9, 3), (23, .aload_n 0, 1), (24, .getfield 123, 3), (27, .iconst 1, 1), (28, .isub, 1), (29, .putfield 123, 3), (32, .iload_n 3, 1), (33, .ireturn, 1)]
def zdl_168 : List (Nat × Instr × Nat) := [(0, .aload_n 0, 1), (1, .getfield 74, 3), (4, .ifCond .ne 5, 3), (7, .iconst (-1), 1), (8, .ireturn, 1), (9, .aload_n 0, 1), (10, .dup, 1), (11, .getfield 74, 3), (14, .iconst 1, 1), (15, .isub, 1), (16, .putfield 74, 3), (19, .aload_n 0, 1), (20, .invokevirtual 67, 3), (23, .aload_n 0, 1), (24, .getfield 74, 3), (27, .ireturn, 1)]
def zdb_6 : List (ByteArray × List (Nat × Instr × Nat)) := [(cX7_rankOf, zdl_156), (cX7_rankOfRows, zdl_157), (cX7_rigid, zdl_158), (cX7_sign, zdl_159), (cX7_spare, zdl_160), (cX7_spareOf, zdl_161), (cX7_stressed, zdl_162), (cX7_swapRows, zdl_163), (cX7_term, zdl_164), (cX7_together, zdl_165), (cX7_told, zdl_166), (cX7_tryPair, zdl_167), (cX7_unbar, zdl_168)]
set_option maxRecDepth 100000 in
theorem zdo_156 : zdl_156.all (fun e => decide (decode cX7_rankOf e.1 = .ok e.2)) = true := by decide +kernel
set_option maxRecDepth 100000 in
theorem zdo_157 : zdl_157.all (fun e => decide (decode cX7_rankOfRows e.1 = .ok e.2)) = true := by decide +kernel
set_option maxRecDepth 100000 in
theorem zdo_158 : zdl_158.all (fun e => decide (decode cX7_rigid e.1 = .ok e.2)) = true := by decide +kernel
set_option maxRecDepth 100000 in
theorem zdo_159 : zdl_159.all (fun e => decide (decode cX7_sign e.1 = .ok e.2)) = true := by decide +kernel
set_option maxRecDepth 100000 in
theorem zdo_160 : zdl_160.all (fun e => decide (decode cX7_spare e.1 = .ok e.2)) = true := by decide +kernel
set_option maxRecDepth 100000 in
theorem zdo_161 : zdl_161.all (fun e => decide (decode cX7_spareOf e.1 = .ok e.2)) = true := by decide +kernel
set_option maxRecDepth 100000 in
theorem zdo_162 : zdl_162.all (fun e => decide (decode cX7_stressed e.1 = .ok e.2)) = true := by decide +kernel
set_option maxRecDepth 100000 in
theorem zdo_163 : zdl_163.all (fun e => decide (decode cX7_swapRows e.1 = .ok e.2)) = true := by decide +kernel
set_option maxRecDepth 100000 in
theorem zdo_164 : zdl_164.all (fun e => decide (decode cX7_term e.1 = .ok e.2)) = true := by decide +kernel
set_option maxRecDepth 100000 in
theorem zdo_165 : zdl_165.all (fun e => decide (decode cX7_together e.1 = .ok e.2)) = true := by decide +kernel
set_option maxRecDepth 100000 in
theorem zdo_166 : zdl_166.all (fun e => decide (decode cX7_told e.1 = .ok e.2)) = true := by decide +kernel
set_option maxRecDepth 100000 in
theorem zdo_167 : zdl_167.all (fun e => decide (decode cX7_tryPair e.1 = .ok e.2)) = true := by decide +kernel
set_option maxRecDepth 100000 in
theorem zdo_168 : zdl_168.all (fun e => decide (decode cX7_unbar e.1 = .ok e.2)) = true := by decide +kernel
theorem zdk_6 : ∀ q ∈ zdb_6, q.2.all (fun e => decide (decode q.1 e.1 = .ok e.2)) = true := by
  intro q hq
  simp only [zdb_6, List.mem_cons, List.not_mem_nil, or_false] at hq
  rcases hq with rfl | rfl | rfl | rfl | rfl | rfl | rfl | rfl | rfl | rfl | rfl | rfl | rfl
  · exact zdo_156
  · exact zdo_157
  · exact zdo_158
  · exact zdo_159
  · exact zdo_160
  · exact zdo_161
  · exact zdo_162
  · exact zdo_163
  · exact zdo_164
  · exact zdo_165
  · exact zdo_166
  · exact zdo_167
  · exact zdo_168
