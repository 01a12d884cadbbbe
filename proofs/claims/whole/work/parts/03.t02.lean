-- CampAshes$Tape.passSign(C)Z
def s_t41 : List (Nat × Instr × Nat × Nat) := [(0, .aload_n 0, 1, 0), (1, .iload_n 1, 1, 0), (2, .invokevirtual 75, 3, 0), (5, .ifCond .ne 9, 3, 14), (8, .aload_n 0, 1, 0), (9, .iconst 1, 1, 0), (10, .invokevirtual 79, 3, 0), (13, .ireturn, 1, 0), (14, .aload_n 0, 1, 0), (15, .invokevirtual 34, 3, 0), (18, .iconst 1, 1, 0), (19, .ireturn, 1, 0)]
set_option maxRecDepth 100000 in
theorem s_d41 : s_dec prog_11_method_11_code s_t41 := by unfold s_dec; decide +kernel
-- CampAshes$Tape.isSign(C)Z
def s_t42 : List (Nat × Instr × Nat × Nat) := [(0, .aload_n 0, 1, 0), (1, .getfield 57, 3, 0), (4, .iconst 5, 1, 0), (5, .if_icmp .ne 15, 3, 20), (8, .aload_n 0, 1, 0), (9, .getfield 47, 3, 0), (12, .iload_n 1, 1, 0), (13, .if_icmp .ne 7, 3, 20), (16, .iconst 1, 1, 0), (17, .goto 4, 3, 21), (20, .iconst 0, 1, 0), (21, .ireturn, 1, 0)]
set_option maxRecDepth 100000 in
theorem s_d42 : s_dec prog_11_method_9_code s_t42 := by unfold s_dec; decide +kernel
-- CampAshes$Camp.copyFrom(LCampAshes$Camp;)V
def s_t43 : List (Nat × Instr × Nat × Nat) := [(0, .aload_n 0, 1, 0), (1, .aload_n 1, 1, 0), (2, .getfield 34, 3, 0), (5, .putfield 34, 3, 0), (8, .aload_n 0, 1, 0), (9, .aload_n 1, 1, 0), (10, .getfield 38, 3, 0), (13, .putfield 38, 3, 0), (16, .aload_n 1, 1, 0), (17, .getfield 9, 3, 0), (20, .iconst 0, 1, 0), (21, .aload_n 0, 1, 0), (22, .getfield 9, 3, 0), (25, .iconst 0, 1, 0), (26, .bipush 17, 2, 0), (28, .invokestatic 65, 3, 0), (31, .aload_n 1, 1, 0), (32, .getfield 15, 3, 0), (35, .iconst 0, 1, 0), (36, .aload_n 0, 1, 0), (37, .getfield 15, 3, 0), (40, .iconst 0, 1, 0), (41, .bipush 7, 2, 0), (43, .invokestatic 65, 3, 0), (46, .aload_n 1, 1, 0), (47, .getfield 19, 3, 0), (50, .iconst 0, 1, 0), (51, .aload_n 0, 1, 0), (52, .getfield 19, 3, 0), (55, .iconst 0, 1, 0), (56, .bipush 10, 2, 0), (58, .invokestatic 65, 3, 0), (61, .aload_n 1, 1, 0), (62, .getfield 22, 3, 0), (65, .iconst 0, 1, 0), (66, .aload_n 0, 1, 0), (67, .getfield 22, 3, 0), (70, .iconst 0, 1, 0), (71, .bipush 10, 2, 0), (73, .invokestatic 65, 3, 0), (76, .aload_n 1, 1, 0), (77, .getfield 25, 3, 0), (80, .iconst 0, 1, 0), (81, .aload_n 0, 1, 0), (82, .getfield 25, 3, 0), (85, .iconst 0, 1, 0), (86, .bipush 10, 2, 0), (88, .invokestatic 65, 3, 0), (91, .aload_n 1, 1, 0), (92, .getfield 28, 3, 0), (95, .iconst 0, 1, 0), (96, .aload_n 0, 1, 0), (97, .getfield 28, 3, 0), (100, .iconst 0, 1, 0), (101, .iconst 4, 1, 0), (102, .invokestatic 65, 3, 0), (105, .aload_n 0, 1, 0), (106, .aload_n 1, 1, 0), (107, .getfield 47, 3, 0), (110, .putfield 47, 3, 0), (113, .aload_n 0, 1, 0), (114, .aload_n 1, 1, 0), (115, .getfield 50, 3, 0), (118, .putfield 50, 3, 0), (121, .aload_n 0, 1, 0), (122, .aload_n 1, 1, 0), (123, .getfield 53, 3, 0), (126, .putfield 53, 3, 0), (129, .aload_n 0, 1, 0), (130, .aload_n 1, 1, 0), (131, .getfield 56, 3, 0), (134, .putfield 56, 3, 0), (137, .return_, 1, 0)]
set_option maxRecDepth 100000 in
theorem s_d43 : s_dec prog_4_method_3_code s_t43 := by unfold s_dec; decide +kernel
-- CampAshes$Sentence.clear()V
def s_t44 : List (Nat × Instr × Nat × Nat) := [(0, .aload_n 0, 1, 0), (1, .iconst 0, 1, 0), (2, .putfield 27, 3, 0), (5, .aload_n 0, 1, 0), (6, .iconst 0, 1, 0), (7, .putfield 31, 3, 0), (10, .aload_n 0, 1, 0), (11, .iconst 0, 1, 0), (12, .putfield 34, 3, 0), (15, .return_, 1, 0)]
set_option maxRecDepth 100000 in
theorem s_d44 : s_dec prog_9_method_2_code s_t44 := by unfold s_dec; decide +kernel
-- CampAshes$History.clear()V
def s_t45 : List (Nat × Instr × Nat × Nat) := [(0, .aload_n 0, 1, 0), (1, .iconst 0, 1, 0), (2, .putfield 20, 3, 0), (5, .return_, 1, 0)]
set_option maxRecDepth 100000 in
theorem s_d45 : s_dec prog_6_method_2_code s_t45 := by unfold s_dec; decide +kernel
-- CampAshes.fault()I
def s_t46 : List (Nat × Instr × Nat × Nat) := [(0, .aload_n 0, 1, 0), (1, .getfield 115, 3, 0), (4, .ireturn, 1, 0)]
set_option maxRecDepth 100000 in
theorem s_d46 : s_dec prog_1_method_5_code s_t46 := by unfold s_dec; decide +kernel
-- CampAshes.on(II)I
def s_t47 : List (Nat × Instr × Nat × Nat) := [(0, .aload_n 0, 1, 0), (1, .getfield 19, 3, 0), (4, .iload_n 1, 1, 0), (5, .invokevirtual 159, 3, 0), (8, .ifCond .eq 14, 3, 22), (11, .aload_n 0, 1, 0), (12, .getfield 19, 3, 0), (15, .iload_n 2, 1, 0), (16, .invokevirtual 126, 3, 0), (19, .ifCond .ne 5, 3, 24), (22, .iconst (-1), 1, 0), (23, .ireturn, 1, 0), (24, .aload_n 0, 1, 0), (25, .getfield 31, 3, 0), (28, .iload_n 1, 1, 0), (29, .iload_n 2, 1, 0), (30, .invokevirtual 162, 3, 0), (33, .ireturn, 1, 0)]
set_option maxRecDepth 100000 in
theorem s_d47 : s_dec prog_1_method_7_code s_t47 := by unfold s_dec; decide +kernel
-- CampAshes$Camp.hasEvent(I)Z
def s_t48 : List (Nat × Instr × Nat × Nat) := [(0, .iload_n 1, 1, 0), (1, .ifCond .lt 15, 3, 16), (4, .iload_n 1, 1, 0), (5, .aload_n 0, 1, 0), (6, .getfield 38, 3, 0), (9, .if_icmp .ge 7, 3, 16), (12, .iconst 1, 1, 0), (13, .goto 4, 3, 17), (16, .iconst 0, 1, 0), (17, .ireturn, 1, 0)]
set_option maxRecDepth 100000 in
theorem s_d48 : s_dec prog_4_method_5_code s_t48 := by unfold s_dec; decide +kernel
-- CampAshes$Camp.hasBoy(I)Z
def s_t49 : List (Nat × Instr × Nat × Nat) := [(0, .iload_n 1, 1, 0), (1, .ifCond .lt 15, 3, 16), (4, .iload_n 1, 1, 0), (5, .aload_n 0, 1, 0), (6, .getfield 34, 3, 0), (9, .if_icmp .ge 7, 3, 16), (12, .iconst 1, 1, 0), (13, .goto 4, 3, 17), (16, .iconst 0, 1, 0), (17, .ireturn, 1, 0)]
set_option maxRecDepth 100000 in
theorem s_d49 : s_dec prog_4_method_4_code s_t49 := by unfold s_dec; decide +kernel
-- CampAshes$State.onBoy(II)I
def s_t50 : List (Nat × Instr × Nat × Nat) := [(0, .aload_n 0, 1, 0), (1, .getfield 9, 3, 0), (4, .iload_n 1, 1, 0), (5, .bipush 7, 2, 0), (7, .imul, 1, 0), (8, .iload_n 2, 1, 0), (9, .iadd, 1, 0), (10, .iaload, 1, 0), (11, .ireturn, 1, 0)]
set_option maxRecDepth 100000 in
theorem s_d50 : s_dec prog_10_method_4_code s_t50 := by unfold s_dec; decide +kernel
-- CampAshes.event(II)I
def s_t51 : List (Nat × Instr × Nat × Nat) := [(0, .aload_n 0, 1, 0), (1, .getfield 19, 3, 0), (4, .iload_n 1, 1, 0), (5, .invokevirtual 159, 3, 0), (8, .ifCond .ne 5, 3, 13), (11, .iconst (-1), 1, 0), (12, .ireturn, 1, 0), (13, .iload_n 2, 1, 0), (14, .tableswitch 69 0 3 #[30, 40, 50, 60], 30, 0), (44, .aload_n 0, 1, 0), (45, .getfield 19, 3, 0), (48, .getfield 166, 3, 0), (51, .iload_n 1, 1, 0), (52, .iaload, 1, 0), (53, .ireturn, 1, 0), (54, .aload_n 0, 1, 0), (55, .getfield 19, 3, 0), (58, .getfield 169, 3, 0), (61, .iload_n 1, 1, 0), (62, .iaload, 1, 0), (63, .ireturn, 1, 0), (64, .aload_n 0, 1, 0), (65, .getfield 19, 3, 0), (68, .getfield 172, 3, 0), (71, .iload_n 1, 1, 0), (72, .iaload, 1, 0), (73, .ireturn, 1, 0), (74, .aload_n 0, 1, 0), (75, .getfield 31, 3, 0), (78, .iload_n 1, 1, 0), (79, .invokevirtual 175, 3, 0), (82, .ireturn, 1, 0), (83, .iconst (-1), 1, 0), (84, .ireturn, 1, 0)]
set_option maxRecDepth 100000 in
theorem s_d51 : s_dec prog_1_method_8_code s_t51 := by unfold s_dec; decide +kernel
-- CampAshes$State.leftOf(I)I
def s_t52 : List (Nat × Instr × Nat × Nat) := [(0, .iconst 0, 1, 0), (1, .istore_n 2, 1, 0), (2, .iconst 0, 1, 0), (3, .istore_n 3, 1, 0), (4, .iload_n 3, 1, 0), (5, .aload_n 0, 1, 0), (6, .getfield 24, 3, 0), (9, .getfield 90, 3, 0), (12, .if_icmp .ge 18, 3, 30), (15, .iload_n 2, 1, 0), (16, .aload_n 0, 1, 0), (17, .iload_n 1, 1, 0), (18, .iload_n 3, 1, 0), (19, .invokevirtual 86, 3, 0), (22, .iadd, 1, 0), (23, .istore_n 2, 1, 0), (24, .iinc 3 1, 3, 0), (27, .goto (-23), 3, 4), (30, .iload_n 2, 1, 0), (31, .ireturn, 1, 0)]
set_option maxRecDepth 100000 in
theorem s_d52 : s_dec prog_10_method_12_code s_t52 := by unfold s_dec; decide +kernel
-- CampAshes.takes(I)I
def s_t53 : List (Nat × Instr × Nat × Nat) := [(0, .iload_n 1, 1, 0), (1, .ifCond .lt 19, 3, 20), (4, .iload_n 1, 1, 0), (5, .iconst 4, 1, 0), (6, .if_icmp .ge 14, 3, 20), (9, .aload_n 0, 1, 0), (10, .getfield 31, 3, 0), (13, .iload_n 1, 1, 0), (14, .invokevirtual 178, 3, 0), (17, .goto 4, 3, 21), (20, .iconst (-1), 1, 0), (21, .ireturn, 1, 0)]
set_option maxRecDepth 100000 in
theorem s_d53 : s_dec prog_1_method_9_code s_t53 := by unfold s_dec; decide +kernel
-- CampAshes$State.wouldTake(I)I
def s_t54 : List (Nat × Instr × Nat × Nat) := [(0, .aload_n 0, 1, 0), (1, .getfield 24, 3, 0), (4, .getfield 83, 3, 0), (7, .iload_n 1, 1, 0), (8, .iaload, 1, 0), (9, .aload_n 0, 1, 0), (10, .getfield 43, 3, 0), (13, .iconst 5, 1, 0), (14, .idiv, 1, 0), (15, .iadd, 1, 0), (16, .ireturn, 1, 0)]
set_option maxRecDepth 100000 in
theorem s_d54 : s_dec prog_10_method_9_code s_t54 := by unfold s_dec; decide +kernel
-- CampAshes.ashes(I)I
def s_t55 : List (Nat × Instr × Nat × Nat) := [(0, .iload_n 1, 1, 0), (1, .ifCond .lt 20, 3, 21), (4, .iload_n 1, 1, 0), (5, .iconst 4, 1, 0), (6, .if_icmp .ge 15, 3, 21), (9, .aload_n 0, 1, 0), (10, .getfield 31, 3, 0), (13, .getfield 181, 3, 0), (16, .iload_n 1, 1, 0), (17, .iaload, 1, 0), (18, .goto 4, 3, 22), (21, .iconst (-1), 1, 0), (22, .ireturn, 1, 0)]
set_option maxRecDepth 100000 in
theorem s_d55 : s_dec prog_1_method_10_code s_t55 := by unfold s_dec; decide +kernel
-- CampAshes.now(I)I
def s_t56 : List (Nat × Instr × Nat × Nat) := [(0, .iload_n 1, 1, 0), (1, .tableswitch 119 0 7 #[47, 55, 63, 71, 87, 95, 103, 111], 47, 0), (48, .aload_n 0, 1, 0), (49, .getfield 31, 3, 0), (52, .getfield 184, 3, 0), (55, .ireturn, 1, 0), (56, .aload_n 0, 1, 0), (57, .getfield 31, 3, 0), (60, .getfield 187, 3, 0), (63, .ireturn, 1, 0), (64, .aload_n 0, 1, 0), (65, .getfield 31, 3, 0), (68, .getfield 190, 3, 0), (71, .ireturn, 1, 0), (72, .aload_n 0, 1, 0), (73, .getfield 31, 3, 0), (76, .invokevirtual 193, 3, 0), (79, .ifCond .eq 7, 3, 86), (82, .iconst 1, 1, 0), (83, .goto 4, 3, 87), (86, .iconst 0, 1, 0), (87, .ireturn, 1, 0), (88, .aload_n 0, 1, 0), (89, .getfield 31, 3, 0), (92, .invokevirtual 197, 3, 0), (95, .ireturn, 1, 0), (96, .aload_n 0, 1, 0), (97, .getfield 31, 3, 0), (100, .getfield 201, 3, 0), (103, .ireturn, 1, 0), (104, .aload_n 0, 1, 0), (105, .getfield 31, 3, 0), (108, .getfield 204, 3, 0), (111, .ireturn, 1, 0), (112, .aload_n 0, 1, 0), (113, .getfield 31, 3, 0), (116, .invokevirtual 207, 3, 0), (119, .ireturn, 1, 0), (120, .iconst (-1), 1, 0), (121, .ireturn, 1, 0)]
set_option maxRecDepth 100000 in
theorem s_d56 : s_dec prog_1_method_11_code s_t56 := by unfold s_dec; decide +kernel
-- CampAshes$State.isWet()Z
def s_t57 : List (Nat × Instr × Nat × Nat) := [(0, .aload_n 0, 1, 0), (1, .getfield 24, 3, 0), (4, .getfield 80, 3, 0), (7, .ifCond .le 24, 3, 31), (10, .aload_n 0, 1, 0), (11, .getfield 52, 3, 0), (14, .iconst 1, 1, 0), (15, .iadd, 1, 0), (16, .aload_n 0, 1, 0), (17, .getfield 24, 3, 0), (20, .getfield 80, 3, 0), (23, .irem, 1, 0), (24, .ifCond .ne 7, 3, 31), (27, .iconst 1, 1, 0), (28, .goto 4, 3, 32), (31, .iconst 0, 1, 0), (32, .ireturn, 1, 0)]
set_option maxRecDepth 100000 in
theorem s_d57 : s_dec prog_10_method_8_code s_t57 := by unfold s_dec; decide +kernel
-- CampAshes$State.overBits()I
def s_t58 : List (Nat × Instr × Nat × Nat) := [(0, .iconst 0, 1, 0), (1, .istore_n 1, 1, 0), (2, .iconst 0, 1, 0), (3, .istore_n 2, 1, 0), (4, .iload_n 2, 1, 0), (5, .aload_n 0, 1, 0), (6, .getfield 24, 3, 0), (9, .getfield 90, 3, 0), (12, .if_icmp .ge 23, 3, 35), (15, .aload_n 0, 1, 0), (16, .iload_n 2, 1, 0), (17, .invokevirtual 93, 3, 0), (20, .ifCond .eq 9, 3, 29), (23, .iload_n 1, 1, 0), (24, .iconst 1, 1, 0), (25, .iload_n 2, 1, 0), (26, .ishl, 1, 0), (27, .ior, 1, 0), (28, .istore_n 1, 1, 0), (29, .iinc 2 1, 3, 0), (32, .goto (-28), 3, 4), (35, .iload_n 1, 1, 0), (36, .ireturn, 1, 0)]
set_option maxRecDepth 100000 in
theorem s_d58 : s_dec prog_10_method_11_code s_t58 := by unfold s_dec; decide +kernel
-- CampAshes$State.isOver(I)Z
def s_t59 : List (Nat × Instr × Nat × Nat) := [(0, .aload_n 0, 1, 0), (1, .getfield 15, 3, 0), (4, .iload_n 1, 1, 0), (5, .iaload, 1, 0), (6, .aload_n 0, 1, 0), (7, .getfield 24, 3, 0), (10, .getfield 77, 3, 0), (13, .iload_n 1, 1, 0), (14, .iaload, 1, 0), (15, .if_icmp .le 7, 3, 22), (18, .iconst 1, 1, 0), (19, .goto 4, 3, 23), (22, .iconst 0, 1, 0), (23, .ireturn, 1, 0)]
set_option maxRecDepth 100000 in
theorem s_d59 : s_dec prog_10_method_6_code s_t59 := by unfold s_dec; decide +kernel
-- CampAshes$State.allLoads()I
def s_t60 : List (Nat × Instr × Nat × Nat) := [(0, .iconst 0, 1, 0), (1, .istore_n 1, 1, 0), (2, .iconst 0, 1, 0), (3, .istore_n 2, 1, 0), (4, .iload_n 2, 1, 0), (5, .aload_n 0, 1, 0), (6, .getfield 24, 3, 0), (9, .getfield 90, 3, 0), (12, .if_icmp .ge 18, 3, 30), (15, .iload_n 1, 1, 0), (16, .aload_n 0, 1, 0), (17, .getfield 15, 3, 0), (20, .iload_n 2, 1, 0), (21, .iaload, 1, 0), (22, .iadd, 1, 0), (23, .istore_n 1, 1, 0), (24, .iinc 2 1, 3, 0), (27, .goto (-23), 3, 4), (30, .iload_n 1, 1, 0), (31, .ireturn, 1, 0)]
set_option maxRecDepth 100000 in
theorem s_d60 : s_dec prog_10_method_13_code s_t60 := by unfold s_dec; decide +kernel
-- CampAshes.tell(II)I
def s_t61 : List (Nat × Instr × Nat × Nat) := [(0, .aload_n 0, 1, 0), (1, .getfield 19, 3, 0), (4, .iload_n 1, 1, 0), (5, .invokevirtual 126, 3, 0), (8, .ifCond .eq 14, 3, 22), (11, .aload_n 0, 1, 0), (12, .getfield 19, 3, 0), (15, .iload_n 2, 1, 0), (16, .invokevirtual 159, 3, 0), (19, .ifCond .ne 5, 3, 24), (22, .iconst (-1), 1, 0), (23, .ireturn, 1, 0), (24, .aload_n 0, 1, 0), (25, .getfield 35, 3, 0), (28, .aload_n 0, 1, 0), (29, .getfield 31, 3, 0), (32, .invokevirtual 210, 3, 0), (35, .aload_n 0, 1, 0), (36, .aload_n 0, 1, 0), (37, .getfield 35, 3, 0), (40, .iload_n 1, 1, 0), (41, .iload_n 2, 1, 0), (42, .invokevirtual 213, 3, 0), (45, .invokevirtual 216, 3, 0), (48, .ireturn, 1, 0)]
set_option maxRecDepth 100000 in
theorem s_d61 : s_dec prog_1_method_12_code s_t61 := by unfold s_dec; decide +kernel
-- CampAshes$State.copyFrom(LCampAshes$State;)V
def s_t62 : List (Nat × Instr × Nat × Nat) := [(0, .aload_n 1, 1, 0), (1, .getfield 9, 3, 0), (4, .iconst 0, 1, 0), (5, .aload_n 0, 1, 0), (6, .getfield 9, 3, 0), (9, .iconst 0, 1, 0), (10, .bipush 70, 2, 0), (12, .invokestatic 71, 3, 0), (15, .aload_n 1, 1, 0), (16, .getfield 15, 3, 0), (19, .iconst 0, 1, 0), (20, .aload_n 0, 1, 0), (21, .getfield 15, 3, 0), (24, .iconst 0, 1, 0), (25, .bipush 7, 2, 0), (27, .invokestatic 71, 3, 0), (30, .aload_n 1, 1, 0), (31, .getfield 18, 3, 0), (34, .iconst 0, 1, 0), (35, .aload_n 0, 1, 0), (36, .getfield 18, 3, 0), (39, .iconst 0, 1, 0), (40, .iconst 4, 1, 0), (41, .invokestatic 71, 3, 0), (44, .aload_n 1, 1, 0), (45, .getfield 21, 3, 0), (48, .iconst 0, 1, 0), (49, .aload_n 0, 1, 0), (50, .getfield 21, 3, 0), (53, .iconst 0, 1, 0), (54, .bipush 7, 2, 0), (56, .invokestatic 71, 3, 0), (59, .aload_n 0, 1, 0), (60, .aload_n 1, 1, 0), (61, .getfield 34, 3, 0), (64, .putfield 34, 3, 0), (67, .aload_n 0, 1, 0), (68, .aload_n 1, 1, 0), (69, .getfield 43, 3, 0), (72, .putfield 43, 3, 0), (75, .aload_n 0, 1, 0), (76, .aload_n 1, 1, 0), (77, .getfield 49, 3, 0), (80, .putfield 49, 3, 0), (83, .aload_n 0, 1, 0), (84, .aload_n 1, 1, 0), (85, .getfield 52, 3, 0), (88, .putfield 52, 3, 0), (91, .aload_n 0, 1, 0), (92, .aload_n 1, 1, 0), (93, .getfield 55, 3, 0), (96, .putfield 55, 3, 0), (99, .return_, 1, 0)]
set_option maxRecDepth 100000 in
theorem s_d62 : s_dec prog_10_method_3_code s_t62 := by unfold s_dec; decide +kernel
-- CampAshes$State.tellEvent(II)I
def s_t63 : List (Nat × Instr × Nat × Nat) := [(0, .aload_n 0, 1, 0), (1, .iload_n 1, 1, 0), (2, .iload_n 2, 1, 0), (3, .invokevirtual 104, 3, 0), (6, .istore_n 3, 1, 0), (7, .iload_n 3, 1, 0), (8, .ifCond .ne 57, 3, 65), (11, .aload_n 0, 1, 0), (12, .getfield 24, 3, 0), (15, .getfield 107, 3, 0), (18, .iload_n 2, 1, 0), (19, .iaload, 1, 0), (20, .istore 4, 2, 0), (22, .aload_n 0, 1, 0), (23, .iload 4, 2, 0), (25, .invokevirtual 110, 3, 0), (28, .aload_n 0, 1, 0), (29, .iload_n 2, 1, 0), (30, .iload_n 1, 1, 0), (31, .invokevirtual 86, 3, 0), (34, .invokestatic 114, 3, 0), (37, .istore 5, 2, 0), (39, .aload_n 0, 1, 0), (40, .iload_n 2, 1, 0), (41, .iload_n 1, 1, 0), (42, .iload 5, 2, 0), (44, .ineg, 1, 0), (45, .invokevirtual 67, 3, 0), (48, .aload_n 0, 1, 0), (49, .getfield 18, 3, 0), (52, .iload 4, 2, 0), (54, .dup2, 1, 0), (55, .iaload, 1, 0), (56, .iload 5, 2, 0), (58, .iadd, 1, 0), (59, .iastore, 1, 0), (60, .aload_n 0, 1, 0), (61, .iload_n 1, 1, 0), (62, .invokevirtual 119, 3, 0), (65, .iload_n 3, 1, 0), (66, .ireturn, 1, 0)]
set_option maxRecDepth 100000 in
theorem s_d63 : s_dec prog_10_method_16_code s_t63 := by unfold s_dec; decide +kernel
-- CampAshes$State.whyNotSpeak(II)I
def s_t64 : List (Nat × Instr × Nat × Nat) := [(0, .aload_n 0, 1, 0), (1, .iload_n 2, 1, 0), (2, .iload_n 1, 1, 0), (3, .invokevirtual 86, 3, 0), (6, .ifCond .ne 5, 3, 11), (9, .iconst 1, 1, 0), (10, .ireturn, 1, 0), (11, .aload_n 0, 1, 0), (12, .invokevirtual 97, 3, 0), (15, .ifCond .eq 5, 3, 20), (18, .iconst 2, 1, 0), (19, .ireturn, 1, 0), (20, .aload_n 0, 1, 0), (21, .getfield 43, 3, 0), (24, .ifCond .ne 5, 3, 29), (27, .iconst 3, 1, 0), (28, .ireturn, 1, 0), (29, .aload_n 0, 1, 0), (30, .iload_n 1, 1, 0), (31, .invokevirtual 101, 3, 0), (34, .ifCond .eq 7, 3, 41), (37, .iconst 4, 1, 0), (38, .goto 4, 3, 42), (41, .iconst 0, 1, 0), (42, .ireturn, 1, 0)]
set_option maxRecDepth 100000 in
theorem s_d64 : s_dec prog_10_method_15_code s_t64 := by unfold s_dec; decide +kernel
-- CampAshes$State.isHushed(I)Z
def s_t65 : List (Nat × Instr × Nat × Nat) := [(0, .aload_n 0, 1, 0), (1, .getfield 34, 3, 0), (4, .iload_n 1, 1, 0), (5, .ishr, 1, 0), (6, .iconst 1, 1, 0), (7, .iand, 1, 0), (8, .iconst 1, 1, 0), (9, .if_icmp .ne 7, 3, 16), (12, .iconst 1, 1, 0), (13, .goto 4, 3, 17), (16, .iconst 0, 1, 0), (17, .ireturn, 1, 0)]
set_option maxRecDepth 100000 in
theorem s_d65 : s_dec prog_10_method_7_code s_t65 := by unfold s_dec; decide +kernel
-- CampAshes$State.hush(I)V
def s_t66 : List (Nat × Instr × Nat × Nat) := [(0, .aload_n 0, 1, 0), (1, .dup, 1, 0), (2, .getfield 43, 3, 0), (5, .iconst 1, 1, 0), (6, .isub, 1, 0), (7, .putfield 43, 3, 0), (10, .aload_n 0, 1, 0), (11, .dup, 1, 0), (12, .getfield 34, 3, 0), (15, .iconst 1, 1, 0), (16, .iload_n 1, 1, 0), (17, .ishl, 1, 0), (18, .ior, 1, 0), (19, .putfield 34, 3, 0), (22, .return_, 1, 0)]
set_option maxRecDepth 100000 in
theorem s_d66 : s_dec prog_10_method_18_code s_t66 := by unfold s_dec; decide +kernel
-- CampAshes.keepIfDone(I)I
def s_t67 : List (Nat × Instr × Nat × Nat) := [(0, .iload_n 1, 1, 0), (1, .ifCond .ne 7, 3, 8), (4, .aload_n 0, 1, 0), (5, .invokevirtual 235, 3, 0), (8, .iload_n 1, 1, 0), (9, .ireturn, 1, 0)]
set_option maxRecDepth 100000 in
theorem s_d67 : s_dec prog_1_method_40_code s_t67 := by unfold s_dec; decide +kernel
-- CampAshes.keepTrial()V
def s_t68 : List (Nat × Instr × Nat × Nat) := [(0, .aload_n 0, 1, 0), (1, .getfield 58, 3, 0), (4, .aload_n 0, 1, 0), (5, .getfield 31, 3, 0), (8, .invokevirtual 373, 3, 0), (11, .aload_n 0, 1, 0), (12, .getfield 31, 3, 0), (15, .aload_n 0, 1, 0), (16, .getfield 35, 3, 0), (19, .invokevirtual 210, 3, 0), (22, .return_, 1, 0)]
set_option maxRecDepth 100000 in
theorem s_d68 : s_dec prog_1_method_41_code s_t68 := by unfold s_dec; decide +kernel
-- CampAshes$History.keep(LCampAshes$State;)V
def s_t69 : List (Nat × Instr × Nat × Nat) := [(0, .aload_n 0, 1, 0), (1, .getfield 11, 3, 0), (4, .aload_n 0, 1, 0), (5, .getfield 24, 3, 0), (8, .aaload, 1, 0), (9, .aload_n 1, 1, 0), (10, .invokevirtual 27, 3, 0), (13, .aload_n 0, 1, 0), (14, .aload_n 0, 1, 0), (15, .getfield 24, 3, 0), (18, .iconst 1, 1, 0), (19, .iadd, 1, 0), (20, .bipush 8, 2, 0), (22, .irem, 1, 0), (23, .putfield 24, 3, 0), (26, .aload_n 0, 1, 0), (27, .aload_n 0, 1, 0), (28, .getfield 20, 3, 0), (31, .iconst 1, 1, 0), (32, .iadd, 1, 0), (33, .bipush 8, 2, 0), (35, .invokestatic 31, 3, 0), (38, .putfield 20, 3, 0), (41, .return_, 1, 0)]
set_option maxRecDepth 100000 in
theorem s_d69 : s_dec prog_6_method_3_code s_t69 := by unfold s_dec; decide +kernel
-- CampAshes.lie(II)I
def s_t70 : List (Nat × Instr × Nat × Nat) := [(0, .aload_n 0, 1, 0), (1, .getfield 19, 3, 0), (4, .iload_n 1, 1, 0), (5, .invokevirtual 126, 3, 0), (8, .ifCond .eq 14, 3, 22), (11, .aload_n 0, 1, 0), (12, .getfield 19, 3, 0), (15, .iload_n 2, 1, 0), (16, .invokevirtual 159, 3, 0), (19, .ifCond .ne 5, 3, 24), (22, .iconst (-1), 1, 0), (23, .ireturn, 1, 0), (24, .aload_n 0, 1, 0), (25, .getfield 35, 3, 0), (28, .aload_n 0, 1, 0), (29, .getfield 31, 3, 0), (32, .invokevirtual 210, 3, 0), (35, .aload_n 0, 1, 0), (36, .aload_n 0, 1, 0), (37, .getfield 35, 3, 0), (40, .iload_n 1, 1, 0), (41, .iload_n 2, 1, 0), (42, .invokevirtual 219, 3, 0), (45, .invokevirtual 216, 3, 0), (48, .ireturn, 1, 0)]
set_option maxRecDepth 100000 in
theorem s_d70 : s_dec prog_1_method_13_code s_t70 := by unfold s_dec; decide +kernel
-- CampAshes$State.lieAbout(II)I
def s_t71 : List (Nat × Instr × Nat × Nat) := [(0, .aload_n 0, 1, 0), (1, .iload_n 1, 1, 0), (2, .iload_n 2, 1, 0), (3, .invokevirtual 104, 3, 0), (6, .istore_n 3, 1, 0), (7, .iload_n 3, 1, 0), (8, .ifCond .ne 37, 3, 45), (11, .aload_n 0, 1, 0), (12, .iload_n 2, 1, 0), (13, .iload_n 1, 1, 0), (14, .iconst 2, 1, 0), (15, .bipush 99, 2, 0), (17, .aload_n 0, 1, 0), (18, .iload_n 2, 1, 0), (19, .iload_n 1, 1, 0), (20, .invokevirtual 86, 3, 0), (23, .isub, 1, 0), (24, .invokestatic 114, 3, 0), (27, .invokevirtual 67, 3, 0), (30, .aload_n 0, 1, 0), (31, .dup, 1, 0), (32, .getfield 55, 3, 0), (35, .iconst 1, 1, 0), (36, .iadd, 1, 0), (37, .putfield 55, 3, 0), (40, .aload_n 0, 1, 0), (41, .iload_n 1, 1, 0), (42, .invokevirtual 119, 3, 0), (45, .iload_n 3, 1, 0), (46, .ireturn, 1, 0)]
set_option maxRecDepth 100000 in
theorem s_d71 : s_dec prog_10_method_17_code s_t71 := by unfold s_dec; decide +kernel
