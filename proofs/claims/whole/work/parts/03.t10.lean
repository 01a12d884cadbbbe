-- CampAshesModel.readOnce(IIII)Z
def s_t187 : List (Nat × Instr × Nat × Nat) := [(0, .aload_n 0, 1, 0), (1, .getfield 127, 3, 0), (4, .iload_n 1, 1, 0), (5, .baload, 1, 0), (6, .ifCond .eq 9, 3, 15), (9, .aload_n 0, 1, 0), (10, .iconst 3, 1, 0), (11, .invokevirtual 72, 3, 0), (14, .ireturn, 1, 0), (15, .aload_n 0, 1, 0), (16, .getfield 127, 3, 0), (19, .iload_n 1, 1, 0), (20, .iconst 1, 1, 0), (21, .bastore, 1, 0), (22, .aload_n 0, 1, 0), (23, .invokevirtual 82, 3, 0), (26, .aload_n 0, 1, 0), (27, .iload_n 2, 1, 0), (28, .aload_n 0, 1, 0), (29, .iload_n 3, 1, 0), (30, .iload 4, 2, 0), (32, .invokevirtual 190, 3, 0), (35, .invokevirtual 193, 3, 0), (38, .ireturn, 1, 0)]
set_option maxRecDepth 100000 in
theorem s_d187 : s_dec prog_14_method_38_code s_t187 := by unfold s_dec; decide +kernel
-- CampAshesModel.readEnd()Z
def s_t188 : List (Nat × Instr × Nat × Nat) := [(0, .aload_n 0, 1, 0), (1, .bipush 59, 2, 0), (3, .invokevirtual 86, 3, 0), (6, .ifCond .ne 9, 3, 15), (9, .aload_n 0, 1, 0), (10, .iconst 1, 1, 0), (11, .invokevirtual 72, 3, 0), (14, .ireturn, 1, 0), (15, .aload_n 0, 1, 0), (16, .invokevirtual 82, 3, 0), (19, .iconst 1, 1, 0), (20, .ireturn, 1, 0)]
set_option maxRecDepth 100000 in
theorem s_d188 : s_dec prog_14_method_24_code s_t188 := by unfold s_dec; decide +kernel
-- CampAshesModel.isSign(I)Z
def s_t189 : List (Nat × Instr × Nat × Nat) := [(0, .aload_n 0, 1, 0), (1, .getfield 30, 3, 0), (4, .iconst 4, 1, 0), (5, .if_icmp .ne 15, 3, 20), (8, .aload_n 0, 1, 0), (9, .getfield 40, 3, 0), (12, .iload_n 1, 1, 0), (13, .if_icmp .ne 7, 3, 20), (16, .iconst 1, 1, 0), (17, .goto 4, 3, 21), (20, .iconst 0, 1, 0), (21, .ireturn, 1, 0)]
set_option maxRecDepth 100000 in
theorem s_d189 : s_dec prog_14_method_20_code s_t189 := by unfold s_dec; decide +kernel
-- CampAshesModel.fault()I
def s_t190 : List (Nat × Instr × Nat × Nat) := [(0, .aload_n 0, 1, 0), (1, .iconst 0, 1, 0), (2, .putfield 1, 3, 0), (5, .aload_n 0, 1, 0), (6, .getfield 66, 3, 0), (9, .ireturn, 1, 0)]
set_option maxRecDepth 100000 in
theorem s_d190 : s_dec prog_14_method_41_code s_t190 := by unfold s_dec; decide +kernel
-- CampAshesModel.boy(II)I
def s_t191 : List (Nat × Instr × Nat × Nat) := [(0, .aload_n 0, 1, 0), (1, .iconst 0, 1, 0), (2, .putfield 1, 3, 0), (5, .aload_n 0, 1, 0), (6, .iload_n 1, 1, 0), (7, .invokevirtual 238, 3, 0), (10, .ifCond .ne 8, 3, 18), (13, .aload_n 0, 1, 0), (14, .invokevirtual 241, 3, 0), (17, .ireturn, 1, 0), (18, .iload_n 2, 1, 0), (19, .tableswitch 128 0 5 #[37, 43, 53, 67, 81, 91], 37, 0), (56, .aload_n 0, 1, 0), (57, .iload_n 1, 1, 0), (58, .invokevirtual 232, 3, 0), (61, .ireturn, 1, 0), (62, .aload_n 0, 1, 0), (63, .getfield 98, 3, 0), (66, .bipush 10, 2, 0), (68, .iload_n 1, 1, 0), (69, .iadd, 1, 0), (70, .iaload, 1, 0), (71, .ireturn, 1, 0), (72, .aload_n 0, 1, 0), (73, .iload_n 1, 1, 0), (74, .invokevirtual 244, 3, 0), (77, .ifCond .eq 7, 3, 84), (80, .iconst 1, 1, 0), (81, .goto 4, 3, 85), (84, .iconst 0, 1, 0), (85, .ireturn, 1, 0), (86, .aload_n 0, 1, 0), (87, .iload_n 1, 1, 0), (88, .invokevirtual 247, 3, 0), (91, .ifCond .eq 7, 3, 98), (94, .iconst 1, 1, 0), (95, .goto 4, 3, 99), (98, .iconst 0, 1, 0), (99, .ireturn, 1, 0), (100, .aload_n 0, 1, 0), (101, .getfield 98, 3, 0), (104, .bipush 56, 2, 0), (106, .iload_n 1, 1, 0), (107, .iadd, 1, 0), (108, .iaload, 1, 0), (109, .ireturn, 1, 0), (110, .iconst 0, 1, 0), (111, .istore_n 3, 1, 0), (112, .iconst 0, 1, 0), (113, .istore 4, 2, 0), (115, .iload 4, 2, 0), (117, .bipush 10, 2, 0), (119, .if_icmp .ge 26, 3, 145), (122, .aload_n 0, 1, 0), (123, .iload_n 1, 1, 0), (124, .iload 4, 2, 0), (126, .invokevirtual 250, 3, 0), (129, .ifCond .le 10, 3, 139), (132, .iload_n 3, 1, 0), (133, .iconst 1, 1, 0), (134, .iload 4, 2, 0), (136, .ishl, 1, 0), (137, .ior, 1, 0), (138, .istore_n 3, 1, 0), (139, .iinc 4 1, 3, 0), (142, .goto (-27), 3, 115), (145, .iload_n 3, 1, 0), (146, .ireturn, 1, 0), (147, .aload_n 0, 1, 0), (148, .invokevirtual 241, 3, 0), (151, .ireturn, 1, 0)]
set_option maxRecDepth 100000 in
theorem s_d191 : s_dec prog_14_method_52_code s_t191 := by unfold s_dec; decide +kernel
-- CampAshesModel.isBoy(I)Z
def s_t192 : List (Nat × Instr × Nat × Nat) := [(0, .iload_n 1, 1, 0), (1, .iconst 0, 1, 0), (2, .aload_n 0, 1, 0), (3, .getfield 98, 3, 0), (6, .iconst 0, 1, 0), (7, .iaload, 1, 0), (8, .iconst 1, 1, 0), (9, .isub, 1, 0), (10, .invokestatic 75, 3, 0), (13, .ireturn, 1, 0)]
set_option maxRecDepth 100000 in
theorem s_d192 : s_dec prog_14_method_42_code s_t192 := by unfold s_dec; decide +kernel
-- CampAshesModel.refuse()I
def s_t193 : List (Nat × Instr × Nat × Nat) := [(0, .aload_n 0, 1, 0), (1, .iconst 1, 1, 0), (2, .putfield 1, 3, 0), (5, .iconst 0, 1, 0), (6, .ireturn, 1, 0)]
set_option maxRecDepth 100000 in
theorem s_d193 : s_dec prog_14_method_2_code s_t193 := by unfold s_dec; decide +kernel
-- CampAshesModel.loadOf(I)I
def s_t194 : List (Nat × Instr × Nat × Nat) := [(0, .aload_n 0, 1, 0), (1, .bipush 63, 2, 0), (3, .bipush 10, 2, 0), (5, .iload_n 1, 1, 0), (6, .imul, 1, 0), (7, .iadd, 1, 0), (8, .bipush 10, 2, 0), (10, .invokevirtual 228, 3, 0), (13, .ireturn, 1, 0)]
set_option maxRecDepth 100000 in
theorem s_d194 : s_dec prog_14_method_47_code s_t194 := by unfold s_dec; decide +kernel
-- CampAshesModel.sum(II)I
def s_t195 : List (Nat × Instr × Nat × Nat) := [(0, .iconst 0, 1, 0), (1, .istore_n 3, 1, 0), (2, .iconst 0, 1, 0), (3, .istore 4, 2, 0), (5, .iload 4, 2, 0), (7, .iload_n 2, 1, 0), (8, .if_icmp .ge 21, 3, 29), (11, .iload_n 3, 1, 0), (12, .aload_n 0, 1, 0), (13, .getfield 98, 3, 0), (16, .iload_n 1, 1, 0), (17, .iload 4, 2, 0), (19, .iadd, 1, 0), (20, .iaload, 1, 0), (21, .iadd, 1, 0), (22, .istore_n 3, 1, 0), (23, .iinc 4 1, 3, 0), (26, .goto (-21), 3, 5), (29, .iload_n 3, 1, 0), (30, .ireturn, 1, 0)]
set_option maxRecDepth 100000 in
theorem s_d195 : s_dec prog_14_method_46_code s_t195 := by unfold s_dec; decide +kernel
-- CampAshesModel.isOver(I)Z
def s_t196 : List (Nat × Instr × Nat × Nat) := [(0, .aload_n 0, 1, 0), (1, .iload_n 1, 1, 0), (2, .invokevirtual 232, 3, 0), (5, .aload_n 0, 1, 0), (6, .getfield 98, 3, 0), (9, .bipush 10, 2, 0), (11, .iload_n 1, 1, 0), (12, .iadd, 1, 0), (13, .iaload, 1, 0), (14, .if_icmp .le 7, 3, 21), (17, .iconst 1, 1, 0), (18, .goto 4, 3, 22), (21, .iconst 0, 1, 0), (22, .ireturn, 1, 0)]
set_option maxRecDepth 100000 in
theorem s_d196 : s_dec prog_14_method_48_code s_t196 := by unfold s_dec; decide +kernel
-- CampAshesModel.isHushed(I)Z
def s_t197 : List (Nat × Instr × Nat × Nat) := [(0, .aload_n 0, 1, 0), (1, .getfield 98, 3, 0), (4, .bipush 50, 2, 0), (6, .iaload, 1, 0), (7, .iload_n 1, 1, 0), (8, .invokestatic 235, 3, 0), (11, .ireturn, 1, 0)]
set_option maxRecDepth 100000 in
theorem s_d197 : s_dec prog_14_method_49_code s_t197 := by unfold s_dec; decide +kernel
-- CampAshesModel.has(II)Z
def s_t198 : List (Nat × Instr × Nat × Nat) := [(0, .iload_n 0, 1, 0), (1, .iload_n 1, 1, 0), (2, .ishr, 1, 0), (3, .iconst 1, 1, 0), (4, .iand, 1, 0), (5, .iconst 1, 1, 0), (6, .if_icmp .ne 7, 3, 13), (9, .iconst 1, 1, 0), (10, .goto 4, 3, 14), (13, .iconst 0, 1, 0), (14, .ireturn, 1, 0)]
set_option maxRecDepth 100000 in
theorem s_d198 : s_dec prog_14_method_8_code s_t198 := by unfold s_dec; decide +kernel
-- CampAshesModel.onOf(II)I
def s_t199 : List (Nat × Instr × Nat × Nat) := [(0, .aload_n 0, 1, 0), (1, .getfield 98, 3, 0), (4, .bipush 63, 2, 0), (6, .bipush 10, 2, 0), (8, .iload_n 1, 1, 0), (9, .imul, 1, 0), (10, .iadd, 1, 0), (11, .iload_n 2, 1, 0), (12, .iadd, 1, 0), (13, .iaload, 1, 0), (14, .ireturn, 1, 0)]
set_option maxRecDepth 100000 in
theorem s_d199 : s_dec prog_14_method_45_code s_t199 := by unfold s_dec; decide +kernel
-- CampAshesModel.on(II)I
def s_t200 : List (Nat × Instr × Nat × Nat) := [(0, .aload_n 0, 1, 0), (1, .iconst 0, 1, 0), (2, .putfield 1, 3, 0), (5, .aload_n 0, 1, 0), (6, .iload_n 1, 1, 0), (7, .invokevirtual 253, 3, 0), (10, .ifCond .eq 20, 3, 30), (13, .aload_n 0, 1, 0), (14, .iload_n 2, 1, 0), (15, .invokevirtual 238, 3, 0), (18, .ifCond .eq 12, 3, 30), (21, .aload_n 0, 1, 0), (22, .iload_n 2, 1, 0), (23, .iload_n 1, 1, 0), (24, .invokevirtual 250, 3, 0), (27, .goto 4, 3, 31), (30, .iconst (-1), 1, 0), (31, .ireturn, 1, 0)]
set_option maxRecDepth 100000 in
theorem s_d200 : s_dec prog_14_method_53_code s_t200 := by unfold s_dec; decide +kernel
-- CampAshesModel.isEvent(I)Z
def s_t201 : List (Nat × Instr × Nat × Nat) := [(0, .iload_n 1, 1, 0), (1, .iconst 0, 1, 0), (2, .aload_n 0, 1, 0), (3, .getfield 98, 3, 0), (6, .iconst 1, 1, 0), (7, .iaload, 1, 0), (8, .iconst 1, 1, 0), (9, .isub, 1, 0), (10, .invokestatic 75, 3, 0), (13, .ireturn, 1, 0)]
set_option maxRecDepth 100000 in
theorem s_d201 : s_dec prog_14_method_43_code s_t201 := by unfold s_dec; decide +kernel
-- CampAshesModel.event(II)I
def s_t202 : List (Nat × Instr × Nat × Nat) := [(0, .aload_n 0, 1, 0), (1, .iconst 0, 1, 0), (2, .putfield 1, 3, 0), (5, .aload_n 0, 1, 0), (6, .iload_n 1, 1, 0), (7, .invokevirtual 253, 3, 0), (10, .ifCond .ne 5, 3, 15), (13, .iconst (-1), 1, 0), (14, .ireturn, 1, 0), (15, .iconst 0, 1, 0), (16, .istore_n 3, 1, 0), (17, .iload_n 2, 1, 0), (18, .tableswitch 88 0 3 #[30, 40, 50, 60], 30, 0), (48, .aload_n 0, 1, 0), (49, .getfield 98, 3, 0), (52, .bipush 17, 2, 0), (54, .iload_n 1, 1, 0), (55, .iadd, 1, 0), (56, .iaload, 1, 0), (57, .ireturn, 1, 0), (58, .aload_n 0, 1, 0), (59, .getfield 98, 3, 0), (62, .bipush 27, 2, 0), (64, .iload_n 1, 1, 0), (65, .iadd, 1, 0), (66, .iaload, 1, 0), (67, .ireturn, 1, 0), (68, .aload_n 0, 1, 0), (69, .getfield 98, 3, 0), (72, .bipush 37, 2, 0), (74, .iload_n 1, 1, 0), (75, .iadd, 1, 0), (76, .iaload, 1, 0), (77, .ireturn, 1, 0), (78, .iconst 0, 1, 0), (79, .istore 4, 2, 0), (81, .iload 4, 2, 0), (83, .bipush 7, 2, 0), (85, .if_icmp .ge 19, 3, 104), (88, .iload_n 3, 1, 0), (89, .aload_n 0, 1, 0), (90, .iload 4, 2, 0), (92, .iload_n 1, 1, 0), (93, .invokevirtual 250, 3, 0), (96, .iadd, 1, 0), (97, .istore_n 3, 1, 0), (98, .iinc 4 1, 3, 0), (101, .goto (-20), 3, 81), (104, .iload_n 3, 1, 0), (105, .ireturn, 1, 0), (106, .iconst (-1), 1, 0), (107, .ireturn, 1, 0)]
set_option maxRecDepth 100000 in
theorem s_d202 : s_dec prog_14_method_54_code s_t202 := by unfold s_dec; decide +kernel
-- CampAshesModel.takes(I)I
def s_t203 : List (Nat × Instr × Nat × Nat) := [(0, .aload_n 0, 1, 0), (1, .iconst 0, 1, 0), (2, .putfield 1, 3, 0), (5, .aload_n 0, 1, 0), (6, .iload_n 1, 1, 0), (7, .invokevirtual 256, 3, 0), (10, .ifCond .eq 18, 3, 28), (13, .aload_n 0, 1, 0), (14, .iload_n 1, 1, 0), (15, .aload_n 0, 1, 0), (16, .getfield 98, 3, 0), (19, .bipush 48, 2, 0), (21, .iaload, 1, 0), (22, .invokevirtual 259, 3, 0), (25, .goto 4, 3, 29), (28, .iconst (-1), 1, 0), (29, .ireturn, 1, 0)]
set_option maxRecDepth 100000 in
theorem s_d203 : s_dec prog_14_method_55_code s_t203 := by unfold s_dec; decide +kernel
-- CampAshesModel.isOneKind(I)Z
def s_t204 : List (Nat × Instr × Nat × Nat) := [(0, .iload_n 1, 1, 0), (1, .iconst 0, 1, 0), (2, .iconst 3, 1, 0), (3, .invokestatic 75, 3, 0), (6, .ireturn, 1, 0)]
set_option maxRecDepth 100000 in
theorem s_d204 : s_dec prog_14_method_44_code s_t204 := by unfold s_dec; decide +kernel
-- CampAshesModel.takesOf(II)I
def s_t205 : List (Nat × Instr × Nat × Nat) := [(0, .aload_n 0, 1, 0), (1, .getfield 98, 3, 0), (4, .bipush 6, 2, 0), (6, .iload_n 1, 1, 0), (7, .iadd, 1, 0), (8, .iaload, 1, 0), (9, .iload_n 2, 1, 0), (10, .iconst 5, 1, 0), (11, .idiv, 1, 0), (12, .iadd, 1, 0), (13, .ireturn, 1, 0)]
set_option maxRecDepth 100000 in
theorem s_d205 : s_dec prog_14_method_51_code s_t205 := by unfold s_dec; decide +kernel
-- CampAshesModel.ashes(I)I
def s_t206 : List (Nat × Instr × Nat × Nat) := [(0, .aload_n 0, 1, 0), (1, .iconst 0, 1, 0), (2, .putfield 1, 3, 0), (5, .aload_n 0, 1, 0), (6, .iload_n 1, 1, 0), (7, .invokevirtual 256, 3, 0), (10, .ifCond .eq 15, 3, 25), (13, .aload_n 0, 1, 0), (14, .getfield 98, 3, 0), (17, .bipush 52, 2, 0), (19, .iload_n 1, 1, 0), (20, .iadd, 1, 0), (21, .iaload, 1, 0), (22, .goto 4, 3, 26), (25, .iconst (-1), 1, 0), (26, .ireturn, 1, 0)]
set_option maxRecDepth 100000 in
theorem s_d206 : s_dec prog_14_method_56_code s_t206 := by unfold s_dec; decide +kernel
-- CampAshesModel.now(I)I
def s_t207 : List (Nat × Instr × Nat × Nat) := [(0, .aload_n 0, 1, 0), (1, .iconst 0, 1, 0), (2, .putfield 1, 3, 0), (5, .iload_n 1, 1, 0), (6, .tableswitch 113 0 7 #[46, 54, 62, 70, 83, 88, 96, 104], 46, 0), (52, .aload_n 0, 1, 0), (53, .getfield 98, 3, 0), (56, .bipush 47, 2, 0), (58, .iaload, 1, 0), (59, .ireturn, 1, 0), (60, .aload_n 0, 1, 0), (61, .getfield 98, 3, 0), (64, .bipush 48, 2, 0), (66, .iaload, 1, 0), (67, .ireturn, 1, 0), (68, .aload_n 0, 1, 0), (69, .getfield 98, 3, 0), (72, .bipush 49, 2, 0), (74, .iaload, 1, 0), (75, .ireturn, 1, 0), (76, .aload_n 0, 1, 0), (77, .invokevirtual 262, 3, 0), (80, .ifCond .eq 7, 3, 87), (83, .iconst 1, 1, 0), (84, .goto 4, 3, 88), (87, .iconst 0, 1, 0), (88, .ireturn, 1, 0), (89, .aload_n 0, 1, 0), (90, .invokevirtual 265, 3, 0), (93, .ireturn, 1, 0), (94, .aload_n 0, 1, 0), (95, .getfield 98, 3, 0), (98, .bipush 50, 2, 0), (100, .iaload, 1, 0), (101, .ireturn, 1, 0), (102, .aload_n 0, 1, 0), (103, .getfield 98, 3, 0), (106, .bipush 51, 2, 0), (108, .iaload, 1, 0), (109, .ireturn, 1, 0), (110, .aload_n 0, 1, 0), (111, .bipush 63, 2, 0), (113, .bipush 70, 2, 0), (115, .invokevirtual 228, 3, 0), (118, .ireturn, 1, 0), (119, .iconst (-1), 1, 0), (120, .ireturn, 1, 0)]
set_option maxRecDepth 100000 in
theorem s_d207 : s_dec prog_14_method_58_code s_t207 := by unfold s_dec; decide +kernel
-- CampAshesModel.isWet()Z
def s_t208 : List (Nat × Instr × Nat × Nat) := [(0, .aload_n 0, 1, 0), (1, .getfield 98, 3, 0), (4, .iconst 5, 1, 0), (5, .iaload, 1, 0), (6, .ifCond .le 26, 3, 32), (9, .aload_n 0, 1, 0), (10, .getfield 98, 3, 0), (13, .bipush 47, 2, 0), (15, .iaload, 1, 0), (16, .iconst 1, 1, 0), (17, .iadd, 1, 0), (18, .aload_n 0, 1, 0), (19, .getfield 98, 3, 0), (22, .iconst 5, 1, 0), (23, .iaload, 1, 0), (24, .irem, 1, 0), (25, .ifCond .ne 7, 3, 32), (28, .iconst 1, 1, 0), (29, .goto 4, 3, 33), (32, .iconst 0, 1, 0), (33, .ireturn, 1, 0)]
set_option maxRecDepth 100000 in
theorem s_d208 : s_dec prog_14_method_50_code s_t208 := by unfold s_dec; decide +kernel
-- CampAshesModel.overs()I
def s_t209 : List (Nat × Instr × Nat × Nat) := [(0, .iconst 0, 1, 0), (1, .istore_n 1, 1, 0), (2, .iconst 0, 1, 0), (3, .istore_n 2, 1, 0), (4, .iload_n 2, 1, 0), (5, .aload_n 0, 1, 0), (6, .getfield 98, 3, 0), (9, .iconst 0, 1, 0), (10, .iaload, 1, 0), (11, .if_icmp .ge 23, 3, 34), (14, .aload_n 0, 1, 0), (15, .iload_n 2, 1, 0), (16, .invokevirtual 244, 3, 0), (19, .ifCond .eq 9, 3, 28), (22, .iload_n 1, 1, 0), (23, .iconst 1, 1, 0), (24, .iload_n 2, 1, 0), (25, .ishl, 1, 0), (26, .ior, 1, 0), (27, .istore_n 1, 1, 0), (28, .iinc 2 1, 3, 0), (31, .goto (-27), 3, 4), (34, .iload_n 1, 1, 0), (35, .ireturn, 1, 0)]
set_option maxRecDepth 100000 in
theorem s_d209 : s_dec prog_14_method_57_code s_t209 := by unfold s_dec; decide +kernel
-- CampAshesModel.tell(II)I
def s_t210 : List (Nat × Instr × Nat × Nat) := [(0, .aload_n 0, 1, 0), (1, .iconst 0, 1, 0), (2, .putfield 1, 3, 0), (5, .aload_n 0, 1, 0), (6, .iconst 0, 1, 0), (7, .iload_n 1, 1, 0), (8, .iload_n 2, 1, 0), (9, .iconst 0, 1, 0), (10, .iconst 0, 1, 0), (11, .aload_n 0, 1, 0), (12, .iload_n 1, 1, 0), (13, .invokevirtual 238, 3, 0), (16, .ifCond .eq 15, 3, 31), (19, .aload_n 0, 1, 0), (20, .iload_n 2, 1, 0), (21, .invokevirtual 253, 3, 0), (24, .ifCond .eq 7, 3, 31), (27, .iconst 1, 1, 0), (28, .goto 4, 3, 32), (31, .iconst 0, 1, 0), (32, .invokevirtual 292, 3, 0), (35, .ireturn, 1, 0)]
set_option maxRecDepth 100000 in
theorem s_d210 : s_dec prog_14_method_66_code s_t210 := by unfold s_dec; decide +kernel
-- CampAshesModel.act(IIIIIZ)I
def s_t211 : List (Nat × Instr × Nat × Nat) := [(0, .iload 6, 2, 0), (2, .ifCond .ne 5, 3, 7), (5, .iconst (-1), 1, 0), (6, .ireturn, 1, 0), (7, .aload_n 0, 1, 0), (8, .iload_n 1, 1, 0), (9, .iload_n 2, 1, 0), (10, .iload_n 3, 1, 0), (11, .iload 4, 2, 0), (13, .iload 5, 2, 0), (15, .invokevirtual 281, 3, 0), (18, .istore 7, 2, 0), (20, .iload 7, 2, 0), (22, .ifCond .eq 6, 3, 28), (25, .iload 7, 2, 0), (27, .ireturn, 1, 0), (28, .aload_n 0, 1, 0), (29, .invokevirtual 285, 3, 0), (32, .aload_n 0, 1, 0), (33, .iload_n 1, 1, 0), (34, .iload_n 2, 1, 0), (35, .iload_n 3, 1, 0), (36, .iload 4, 2, 0), (38, .iload 5, 2, 0), (40, .invokevirtual 288, 3, 0), (43, .iconst 0, 1, 0), (44, .ireturn, 1, 0)]
set_option maxRecDepth 100000 in
theorem s_d211 : s_dec prog_14_method_65_code s_t211 := by unfold s_dec; decide +kernel
-- CampAshesModel.why(IIIII)I
def s_t212 : List (Nat × Instr × Nat × Nat) := [(0, .iload_n 1, 1, 0), (1, .tableswitch 123 0 3 #[31, 31, 38, 91], 31, 0), (32, .aload_n 0, 1, 0), (33, .iload_n 2, 1, 0), (34, .iload_n 3, 1, 0), (35, .invokevirtual 268, 3, 0), (38, .ireturn, 1, 0), (39, .iload_n 2, 1, 0), (40, .iload 4, 2, 0), (42, .if_icmp .ne 7, 3, 49), (45, .iconst 1, 1, 0), (46, .goto 45, 3, 91), (49, .aload_n 0, 1, 0), (50, .iload_n 2, 1, 0), (51, .iload_n 3, 1, 0), (52, .invokevirtual 250, 3, 0), (55, .iload 5, 2, 0), (57, .if_icmp .ge 7, 3, 64), (60, .iconst 2, 1, 0), (61, .goto 30, 3, 91), (64, .aload_n 0, 1, 0), (65, .iload 4, 2, 0), (67, .invokevirtual 232, 3, 0), (70, .iload 5, 2, 0), (72, .iadd, 1, 0), (73, .aload_n 0, 1, 0), (74, .getfield 98, 3, 0), (77, .bipush 10, 2, 0), (79, .iload 4, 2, 0), (81, .iadd, 1, 0), (82, .iaload, 1, 0), (83, .if_icmp .le 7, 3, 90), (86, .iconst 3, 1, 0), (87, .goto 4, 3, 91), (90, .iconst 0, 1, 0), (91, .ireturn, 1, 0), (92, .aload_n 0, 1, 0), (93, .getfield 98, 3, 0), (96, .bipush 49, 2, 0), (98, .iaload, 1, 0), (99, .ifCond .ne 7, 3, 106), (102, .iconst 1, 1, 0), (103, .goto 20, 3, 123), (106, .aload_n 0, 1, 0), (107, .getfield 98, 3, 0), (110, .bipush 48, 2, 0), (112, .iaload, 1, 0), (113, .bipush 30, 2, 0), (115, .if_icmp .ne 7, 3, 122), (118, .iconst 2, 1, 0), (119, .goto 4, 3, 123), (122, .iconst 0, 1, 0), (123, .ireturn, 1, 0), (124, .aload_n 0, 1, 0), (125, .bipush 52, 2, 0), (127, .iconst 4, 1, 0), (128, .invokevirtual 228, 3, 0), (131, .ifCond .ne 7, 3, 138), (134, .iconst 1, 1, 0), (135, .goto 4, 3, 139), (138, .iconst 0, 1, 0), (139, .ireturn, 1, 0)]
set_option maxRecDepth 100000 in
theorem s_d212 : s_dec prog_14_method_61_code s_t212 := by unfold s_dec; decide +kernel
-- CampAshesModel.whySay(II)I
def s_t213 : List (Nat × Instr × Nat × Nat) := [(0, .aload_n 0, 1, 0), (1, .iload_n 1, 1, 0), (2, .iload_n 2, 1, 0), (3, .invokevirtual 250, 3, 0), (6, .ifCond .ne 7, 3, 13), (9, .iconst 1, 1, 0), (10, .goto 41, 3, 51), (13, .aload_n 0, 1, 0), (14, .invokevirtual 262, 3, 0), (17, .ifCond .eq 7, 3, 24), (20, .iconst 2, 1, 0), (21, .goto 30, 3, 51), (24, .aload_n 0, 1, 0), (25, .getfield 98, 3, 0), (28, .bipush 48, 2, 0), (30, .iaload, 1, 0), (31, .ifCond .ne 7, 3, 38), (34, .iconst 3, 1, 0), (35, .goto 16, 3, 51), (38, .aload_n 0, 1, 0), (39, .iload_n 1, 1, 0), (40, .invokevirtual 247, 3, 0), (43, .ifCond .eq 7, 3, 50), (46, .iconst 4, 1, 0), (47, .goto 4, 3, 51), (50, .iconst 0, 1, 0), (51, .ireturn, 1, 0)]
set_option maxRecDepth 100000 in
theorem s_d213 : s_dec prog_14_method_60_code s_t213 := by unfold s_dec; decide +kernel
-- CampAshesModel.snap()V
def s_t214 : List (Nat × Instr × Nat × Nat) := [(0, .aload_n 0, 1, 0), (1, .getfield 225, 3, 0), (4, .bipush 8, 2, 0), (6, .if_icmp .ne 43, 3, 49), (9, .iconst 0, 1, 0), (10, .istore_n 1, 1, 0), (11, .iload_n 1, 1, 0), (12, .sipush 602, 3, 0), (15, .if_icmp .ge 24, 3, 39), (18, .aload_n 0, 1, 0), (19, .getfield 107, 3, 0), (22, .iload_n 1, 1, 0), (23, .aload_n 0, 1, 0), (24, .getfield 107, 3, 0), (27, .iload_n 1, 1, 0), (28, .bipush 86, 2, 0), (30, .iadd, 1, 0), (31, .iaload, 1, 0), (32, .iastore, 1, 0), (33, .iinc 1 1, 3, 0), (36, .goto (-25), 3, 11), (39, .aload_n 0, 1, 0), (40, .dup, 1, 0), (41, .getfield 225, 3, 0), (44, .iconst 1, 1, 0), (45, .isub, 1, 0), (46, .putfield 225, 3, 0), (49, .iconst 0, 1, 0), (50, .istore_n 1, 1, 0), (51, .iload_n 1, 1, 0), (52, .bipush 86, 2, 0), (54, .if_icmp .ge 32, 3, 86), (57, .aload_n 0, 1, 0), (58, .getfield 107, 3, 0), (61, .bipush 86, 2, 0), (63, .aload_n 0, 1, 0), (64, .getfield 225, 3, 0), (67, .imul, 1, 0), (68, .iload_n 1, 1, 0), (69, .iadd, 1, 0), (70, .aload_n 0, 1, 0), (71, .getfield 98, 3, 0), (74, .bipush 47, 2, 0), (76, .iload_n 1, 1, 0), (77, .iadd, 1, 0), (78, .iaload, 1, 0), (79, .iastore, 1, 0), (80, .iinc 1 1, 3, 0), (83, .goto (-32), 3, 51), (86, .aload_n 0, 1, 0), (87, .dup, 1, 0), (88, .getfield 225, 3, 0), (91, .iconst 1, 1, 0), (92, .iadd, 1, 0), (93, .putfield 225, 3, 0), (96, .return_, 1, 0)]
set_option maxRecDepth 100000 in
theorem s_d214 : s_dec prog_14_method_59_code s_t214 := by unfold s_dec; decide +kernel
