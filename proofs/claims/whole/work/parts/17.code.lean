def bkX11_is_0 : List gw_E := [(0, 1, .iload_n 1, [1], [], []), (1, 87, .tableswitch 155 0 17 #[87, 94, 101, 108, 116, 155, 155, 155, 155, 155, 155, 121, 134, 155, 155, 155, 155, 147], [156, 88, 95, 102, 109, 117, 156, 156, 156, 156, 156, 156, 122, 135, 156, 156, 156, 156, 148], [0], [])]
def bkX11_is_88 : List gw_E := [(88, 1, .aload_n 0, [0], [], []), (89, 3, .getfield 7, [11, 0, 1, 6073], [], []), (92, 1, .iconst 2, [], [2], []), (93, 1, .iaload, [], [], []), (94, 1, .ireturn, [0], [], [])]
def bkX11_is_95 : List gw_E := [(95, 1, .aload_n 0, [0], [], []), (96, 3, .getfield 7, [11, 0, 1, 6073], [], []), (99, 1, .iconst 3, [], [3], []), (100, 1, .iaload, [], [], []), (101, 1, .ireturn, [0], [], [])]
def bkX11_is_102 : List gw_E := [(102, 1, .aload_n 0, [0], [], []), (103, 3, .getfield 7, [11, 0, 1, 6073], [], []), (106, 1, .iconst 4, [], [4], []), (107, 1, .iaload, [], [], []), (108, 1, .ireturn, [0], [], [])]
def bkX11_is_109 : List gw_E := [(109, 1, .aload_n 0, [0], [], []), (110, 3, .getfield 7, [11, 0, 1, 6073], [], []), (113, 2, .bipush 23, [], [23], []), (115, 1, .iaload, [], [], []), (116, 1, .ireturn, [0], [], [])]
def bkX11_is_117 : List gw_E := [(117, 1, .aload_n 0, [0], [], []), (118, 3, .invokevirtual 261, [0, 11, 8017, 8019, 84, 1013], [], [sgX11_freeFrames]), (121, 1, .ireturn, [0], [], [])]
def bkX11_is_122 : List gw_E := [(122, 1, .aload_n 0, [0], [], []), (123, 3, .getfield 7, [11, 0, 1, 6073], [], []), (126, 1, .aload_n 0, [0], [], []), (127, 1, .iconst 1, [], [1], []), (128, 3, .invokevirtual 37, [1, 11, 6141, 6143, 27, 1013], [], [sgX11_guestAt]), (131, 1, .iconst 5, [], [5], []), (132, 1, .iadd, [], [], []), (133, 1, .iaload, [], [], []), (134, 1, .ireturn, [0], [], [])]
def bkX11_is_135 : List gw_E := [(135, 1, .aload_n 0, [0], [], []), (136, 3, .getfield 7, [11, 0, 1, 6073], [], []), (139, 1, .aload_n 0, [0], [], []), (140, 1, .iconst 2, [], [2], []), (141, 3, .invokevirtual 37, [1, 11, 6141, 6143, 27, 1013], [], [sgX11_guestAt]), (144, 1, .iconst 5, [], [5], []), (145, 1, .iadd, [], [], []), (146, 1, .iaload, [], [], []), (147, 1, .ireturn, [0], [], [])]
def bkX11_is_148 : List gw_E := [(148, 1, .aload_n 0, [0], [], []), (149, 3, .getfield 7, [11, 0, 1, 6073], [], []), (152, 2, .bipush 15, [], [15], []), (154, 1, .iaload, [], [], []), (155, 1, .ireturn, [0], [], [])]
def bkX11_is_156 : List gw_E := [(156, 1, .iload_n 1, [1], [], []), (157, 1, .iconst 5, [], [5], []), (158, 2, .bipush 10, [], [10], []), (160, 3, .invokestatic 33, [3, 0, 6122, 6123, 1013, 0], [], [sgX11_isIn]), (163, 3, .ifCond .eq 16, [179], [], []), (166, 1, .aload_n 0, [0], [], []), (167, 3, .getfield 7, [11, 0, 1, 6073], [], []), (170, 1, .iconst 5, [], [5], []), (171, 1, .iload_n 1, [1], [], []), (172, 1, .iadd, [], [], []), (173, 1, .iconst 5, [], [5], []), (174, 1, .isub, [], [], []), (175, 1, .iaload, [], [], []), (176, 3, .goto 30, [206], [], [])]
def bkX11_is_179 : List gw_E := [(179, 1, .iload_n 1, [1], [], []), (180, 2, .bipush 13, [], [13], []), (182, 2, .bipush 16, [], [16], []), (184, 3, .invokestatic 33, [3, 0, 6122, 6123, 1013, 0], [], [sgX11_isIn]), (187, 3, .ifCond .eq 18, [205], [], []), (190, 1, .aload_n 0, [0], [], []), (191, 3, .getfield 7, [11, 0, 1, 6073], [], []), (194, 2, .bipush 11, [], [11], []), (196, 1, .iload_n 1, [1], [], []), (197, 1, .iadd, [], [], []), (198, 2, .bipush 13, [], [13], []), (200, 1, .isub, [], [], []), (201, 1, .iaload, [], [], []), (202, 3, .goto 4, [206], [], [])]
def bkX11_is_205 : List gw_E := [(205, 1, .iconst (-1), [], [-1], [])]
def bkX11_is_206 : List gw_E := [(206, 1, .ireturn, [0], [], [])]
def bsX11_is : List (Nat × List gw_E) := [(0, bkX11_is_0), (88, bkX11_is_88), (95, bkX11_is_95), (102, bkX11_is_102), (109, bkX11_is_109), (117, bkX11_is_117), (122, bkX11_is_122), (135, bkX11_is_135), (148, bkX11_is_148), (156, bkX11_is_156), (179, bkX11_is_179), (205, bkX11_is_205), (206, bkX11_is_206)]
theorem fdX11_is_0 : gw_find bsX11_is 0 = bkX11_is_0 := rfl
theorem fdX11_is_88 : gw_find bsX11_is 88 = bkX11_is_88 := rfl
theorem fdX11_is_95 : gw_find bsX11_is 95 = bkX11_is_95 := rfl
theorem fdX11_is_102 : gw_find bsX11_is 102 = bkX11_is_102 := rfl
theorem fdX11_is_109 : gw_find bsX11_is 109 = bkX11_is_109 := rfl
theorem fdX11_is_117 : gw_find bsX11_is 117 = bkX11_is_117 := rfl
theorem fdX11_is_122 : gw_find bsX11_is 122 = bkX11_is_122 := rfl
theorem fdX11_is_135 : gw_find bsX11_is 135 = bkX11_is_135 := rfl
theorem fdX11_is_148 : gw_find bsX11_is 148 = bkX11_is_148 := rfl
theorem fdX11_is_156 : gw_find bsX11_is 156 = bkX11_is_156 := rfl
theorem fdX11_is_179 : gw_find bsX11_is 179 = bkX11_is_179 := rfl
theorem fdX11_is_205 : gw_find bsX11_is 205 = bkX11_is_205 := rfl
theorem fdX11_is_206 : gw_find bsX11_is 206 = bkX11_is_206 := rfl
set_option maxRecDepth 40000 in
theorem stX11_is : gw_sta sgX11_is bsX11_is := ⟨by decide +kernel, gw_mem2 (i := 8016) rfl rfl, gw_all (by decide +kernel)⟩
def bkX11_told_0 : List gw_E := [(0, 1, .iload_n 1, [1], [], []), (1, 1, .iconst 0, [], [0], []), (2, 1, .iconst 3, [], [3], []), (3, 3, .invokestatic 33, [3, 0, 6122, 6123, 1013, 0], [], [sgX11_isIn]), (6, 3, .ifCond .eq 29, [35], [], []), (9, 1, .iload_n 2, [2], [], []), (10, 3, .invokestatic 178, [1, 0, 6119, 6120, 1013, 0], [], [sgX11_isPage]), (13, 3, .ifCond .eq 22, [35], [], []), (16, 1, .iload_n 3, [3], [], []), (17, 1, .iconst 0, [], [0], []), (18, 1, .iconst 1, [], [1], []), (19, 3, .invokestatic 33, [3, 0, 6122, 6123, 1013, 0], [], [sgX11_isIn]), (22, 3, .ifCond .eq 13, [35], [], []), (25, 1, .aload_n 0, [0], [], []), (26, 1, .iload_n 1, [1], [], []), (27, 1, .iload_n 2, [2], [], []), (28, 3, .invokevirtual 52, [2, 11, 6149, 6151, 29, 1013], [], [sgX11_toOf]), (31, 1, .iconst (-1), [], [-1], []), (32, 3, .if_icmp .ne 5, [37], [], [])]
def bkX11_told_35 : List gw_E := [(35, 1, .iconst (-1), [], [-1], []), (36, 1, .ireturn, [0], [], [])]
def bkX11_told_37 : List gw_E := [(37, 1, .aload_n 0, [0], [], []), (38, 3, .getfield 7, [11, 0, 1, 6073], [], []), (41, 1, .aload_n 0, [0], [], []), (42, 1, .iload_n 1, [1], [], []), (43, 1, .iload_n 2, [2], [], []), (44, 3, .invokevirtual 41, [2, 11, 6137, 6139, 26, 1013], [], [sgX11_entryAt]), (47, 1, .iload_n 3, [3], [], []), (48, 1, .iadd, [], [], []), (49, 1, .iaload, [], [], []), (50, 1, .ireturn, [0], [], [])]
def bsX11_told : List (Nat × List gw_E) := [(0, bkX11_told_0), (35, bkX11_told_35), (37, bkX11_told_37)]
theorem fdX11_told_0 : gw_find bsX11_told 0 = bkX11_told_0 := rfl
theorem fdX11_told_35 : gw_find bsX11_told 35 = bkX11_told_35 := rfl
theorem fdX11_told_37 : gw_find bsX11_told 37 = bkX11_told_37 := rfl
set_option maxRecDepth 40000 in
theorem stX11_told : gw_sta sgX11_told bsX11_told := ⟨by decide +kernel, gw_mem2 (i := 8024) rfl rfl, gw_all (by decide +kernel)⟩
def bkX11_folded_0 : List gw_E := [(0, 1, .iload_n 1, [1], [], []), (1, 1, .iconst 0, [], [0], []), (2, 1, .aload_n 0, [0], [], []), (3, 3, .getfield 7, [11, 0, 1, 6073], [], []), (6, 2, .bipush 23, [], [23], []), (8, 1, .iaload, [], [], []), (9, 1, .iconst 1, [], [1], []), (10, 1, .isub, [], [], []), (11, 3, .invokestatic 33, [3, 0, 6122, 6123, 1013, 0], [], [sgX11_isIn]), (14, 3, .ifCond .eq 16, [30], [], []), (17, 1, .aload_n 0, [0], [], []), (18, 3, .getfield 7, [11, 0, 1, 6073], [], []), (21, 3, .sipush 786, [], [786], []), (24, 1, .iload_n 1, [1], [], []), (25, 1, .iadd, [], [], []), (26, 1, .iaload, [], [], []), (27, 3, .goto 4, [31], [], [])]
def bkX11_folded_30 : List gw_E := [(30, 1, .iconst (-1), [], [-1], [])]
def bkX11_folded_31 : List gw_E := [(31, 1, .ireturn, [0], [], [])]
def bsX11_folded : List (Nat × List gw_E) := [(0, bkX11_folded_0), (30, bkX11_folded_30), (31, bkX11_folded_31)]
theorem fdX11_folded_0 : gw_find bsX11_folded 0 = bkX11_folded_0 := rfl
theorem fdX11_folded_30 : gw_find bsX11_folded 30 = bkX11_folded_30 := rfl
theorem fdX11_folded_31 : gw_find bsX11_folded 31 = bkX11_folded_31 := rfl
set_option maxRecDepth 40000 in
theorem stX11_folded : gw_sta sgX11_folded bsX11_folded := ⟨by decide +kernel, gw_mem2 (i := 8028) rfl rfl, gw_all (by decide +kernel)⟩
def bkX11_frame_0 : List gw_E := [(0, 1, .iload_n 1, [1], [], []), (1, 1, .iconst 0, [], [0], []), (2, 2, .bipush 9, [], [9], []), (4, 3, .invokestatic 33, [3, 0, 6122, 6123, 1013, 0], [], [sgX11_isIn]), (7, 3, .ifCond .eq 16, [23], [], []), (10, 1, .aload_n 0, [0], [], []), (11, 3, .getfield 7, [11, 0, 1, 6073], [], []), (14, 3, .sipush 802, [], [802], []), (17, 1, .iload_n 1, [1], [], []), (18, 1, .iadd, [], [], []), (19, 1, .iaload, [], [], []), (20, 3, .goto 4, [24], [], [])]
def bkX11_frame_23 : List gw_E := [(23, 1, .iconst (-1), [], [-1], [])]
def bkX11_frame_24 : List gw_E := [(24, 1, .ireturn, [0], [], [])]
def bsX11_frame : List (Nat × List gw_E) := [(0, bkX11_frame_0), (23, bkX11_frame_23), (24, bkX11_frame_24)]
theorem fdX11_frame_0 : gw_find bsX11_frame 0 = bkX11_frame_0 := rfl
theorem fdX11_frame_23 : gw_find bsX11_frame 23 = bkX11_frame_23 := rfl
theorem fdX11_frame_24 : gw_find bsX11_frame 24 = bkX11_frame_24 := rfl
set_option maxRecDepth 40000 in
theorem stX11_frame : gw_sta sgX11_frame bsX11_frame := ⟨by decide +kernel, gw_mem2 (i := 8032) rfl rfl, gw_all (by decide +kernel)⟩
def bkX11_handled_0 : List gw_E := [(0, 1, .iload_n 1, [1], [], []), (1, 3, .invokestatic 219, [1, 0, 7160, 7161, 1013, 0], [], [sgX11_isHandled]), (4, 3, .ifCond .eq 16, [20], [], []), (7, 1, .aload_n 0, [0], [], []), (8, 3, .getfield 7, [11, 0, 1, 6073], [], []), (11, 3, .sipush 828, [], [828], []), (14, 1, .iload_n 1, [1], [], []), (15, 1, .iadd, [], [], []), (16, 1, .iaload, [], [], []), (17, 3, .goto 4, [21], [], [])]
def bkX11_handled_20 : List gw_E := [(20, 1, .iconst (-1), [], [-1], [])]
def bkX11_handled_21 : List gw_E := [(21, 1, .ireturn, [0], [], [])]
def bsX11_handled : List (Nat × List gw_E) := [(0, bkX11_handled_0), (20, bkX11_handled_20), (21, bkX11_handled_21)]
theorem fdX11_handled_0 : gw_find bsX11_handled 0 = bkX11_handled_0 := rfl
theorem fdX11_handled_20 : gw_find bsX11_handled 20 = bkX11_handled_20 := rfl
theorem fdX11_handled_21 : gw_find bsX11_handled 21 = bkX11_handled_21 := rfl
set_option maxRecDepth 40000 in
theorem stX11_handled : gw_sta sgX11_handled bsX11_handled := ⟨by decide +kernel, gw_mem2 (i := 8036) rfl rfl, gw_all (by decide +kernel)⟩
def bkX11_stored_0 : List gw_E := [(0, 1, .iload_n 1, [1], [], []), (1, 3, .invokestatic 178, [1, 0, 6119, 6120, 1013, 0], [], [sgX11_isPage]), (4, 3, .ifCond .eq 16, [20], [], []), (7, 1, .aload_n 0, [0], [], []), (8, 3, .getfield 7, [11, 0, 1, 6073], [], []), (11, 3, .sipush 812, [], [812], []), (14, 1, .iload_n 1, [1], [], []), (15, 1, .iadd, [], [], []), (16, 1, .iaload, [], [], []), (17, 3, .goto 4, [21], [], [])]
def bkX11_stored_20 : List gw_E := [(20, 1, .iconst (-1), [], [-1], [])]
def bkX11_stored_21 : List gw_E := [(21, 1, .ireturn, [0], [], [])]
def bsX11_stored : List (Nat × List gw_E) := [(0, bkX11_stored_0), (20, bkX11_stored_20), (21, bkX11_stored_21)]
theorem fdX11_stored_0 : gw_find bsX11_stored 0 = bkX11_stored_0 := rfl
theorem fdX11_stored_20 : gw_find bsX11_stored 20 = bkX11_stored_20 := rfl
theorem fdX11_stored_21 : gw_find bsX11_stored 21 = bkX11_stored_21 := rfl
set_option maxRecDepth 40000 in
theorem stX11_stored : gw_sta sgX11_stored bsX11_stored := ⟨by decide +kernel, gw_mem2 (i := 8040) rfl rfl, gw_all (by decide +kernel)⟩
def bkX11_backed_0 : List gw_E := [(0, 1, .iload_n 1, [1], [], []), (1, 1, .iconst 0, [], [0], []), (2, 1, .aload_n 0, [0], [], []), (3, 3, .getfield 7, [11, 0, 1, 6073], [], []), (6, 2, .bipush 22, [], [22], []), (8, 1, .iaload, [], [], []), (9, 1, .iconst 1, [], [1], []), (10, 1, .isub, [], [], []), (11, 3, .invokestatic 33, [3, 0, 6122, 6123, 1013, 0], [], [sgX11_isIn]), (14, 3, .ifCond .eq 16, [30], [], []), (17, 1, .aload_n 0, [0], [], []), (18, 3, .getfield 7, [11, 0, 1, 6073], [], []), (21, 3, .sipush 738, [], [738], []), (24, 1, .iload_n 1, [1], [], []), (25, 1, .iadd, [], [], []), (26, 1, .iaload, [], [], []), (27, 3, .goto 4, [31], [], [])]
def bkX11_backed_30 : List gw_E := [(30, 1, .iconst (-1), [], [-1], [])]
def bkX11_backed_31 : List gw_E := [(31, 1, .ireturn, [0], [], [])]
def bsX11_backed : List (Nat × List gw_E) := [(0, bkX11_backed_0), (30, bkX11_backed_30), (31, bkX11_backed_31)]
theorem fdX11_backed_0 : gw_find bsX11_backed 0 = bkX11_backed_0 := rfl
theorem fdX11_backed_30 : gw_find bsX11_backed 30 = bkX11_backed_30 := rfl
theorem fdX11_backed_31 : gw_find bsX11_backed 31 = bkX11_backed_31 := rfl
set_option maxRecDepth 40000 in
theorem stX11_backed : gw_sta sgX11_backed bsX11_backed := ⟨by decide +kernel, gw_mem2 (i := 8044) rfl rfl, gw_all (by decide +kernel)⟩
def bkX11_heard_0 : List gw_E := [(0, 1, .iload_n 1, [1], [], []), (1, 1, .iconst (-1), [], [-1], []), (2, 3, .if_icmp .ne 13, [15], [], []), (5, 1, .aload_n 0, [0], [], []), (6, 3, .getfield 7, [11, 0, 1, 6073], [], []), (9, 2, .bipush 24, [], [24], []), (11, 1, .iaload, [], [], []), (12, 3, .goto 34, [46], [], [])]
def bkX11_heard_15 : List gw_E := [(15, 1, .iload_n 1, [1], [], []), (16, 1, .iconst 0, [], [0], []), (17, 1, .aload_n 0, [0], [], []), (18, 3, .getfield 7, [11, 0, 1, 6073], [], []), (21, 2, .bipush 24, [], [24], []), (23, 1, .iaload, [], [], []), (24, 1, .iconst 1, [], [1], []), (25, 1, .isub, [], [], []), (26, 3, .invokestatic 33, [3, 0, 6122, 6123, 1013, 0], [], [sgX11_isIn]), (29, 3, .ifCond .eq 16, [45], [], []), (32, 1, .aload_n 0, [0], [], []), (33, 3, .getfield 7, [11, 0, 1, 6073], [], []), (36, 3, .sipush 837, [], [837], []), (39, 1, .iload_n 1, [1], [], []), (40, 1, .iadd, [], [], []), (41, 1, .iaload, [], [], []), (42, 3, .goto 4, [46], [], [])]
def bkX11_heard_45 : List gw_E := [(45, 1, .iconst (-1), [], [-1], [])]
def bkX11_heard_46 : List gw_E := [(46, 1, .ireturn, [0], [], [])]
def bsX11_heard : List (Nat × List gw_E) := [(0, bkX11_heard_0), (15, bkX11_heard_15), (45, bkX11_heard_45), (46, bkX11_heard_46)]
theorem fdX11_heard_0 : gw_find bsX11_heard 0 = bkX11_heard_0 := rfl
theorem fdX11_heard_15 : gw_find bsX11_heard 15 = bkX11_heard_15 := rfl
theorem fdX11_heard_45 : gw_find bsX11_heard 45 = bkX11_heard_45 := rfl
theorem fdX11_heard_46 : gw_find bsX11_heard 46 = bkX11_heard_46 := rfl
set_option maxRecDepth 40000 in
theorem stX11_heard : gw_sta sgX11_heard bsX11_heard := ⟨by decide +kernel, gw_mem2 (i := 8048) rfl rfl, gw_all (by decide +kernel)⟩
def bkX11_changed_0 : List gw_E := [(0, 1, .aload_n 0, [0], [], []), (1, 3, .getfield 7, [11, 0, 1, 6073], [], []), (4, 2, .bipush 21, [], [21], []), (6, 1, .iaload, [], [], []), (7, 1, .ireturn, [0], [], [])]
def bsX11_changed : List (Nat × List gw_E) := [(0, bkX11_changed_0)]
theorem fdX11_changed_0 : gw_find bsX11_changed 0 = bkX11_changed_0 := rfl
set_option maxRecDepth 40000 in
theorem stX11_changed : gw_sta sgX11_changed bsX11_changed := ⟨by decide +kernel, gw_mem2 (i := 8052) rfl rfl, gw_all (by decide +kernel)⟩
def bkX11_walk_0 : List gw_E := [(0, 1, .iload_n 1, [1], [], []), (1, 3, .invokestatic 178, [1, 0, 6119, 6120, 1013, 0], [], [sgX11_isPage]), (4, 3, .ifCond .eq 12, [16], [], []), (7, 1, .iload_n 2, [2], [], []), (8, 1, .iconst 0, [], [0], []), (9, 1, .iconst 2, [], [2], []), (10, 3, .invokestatic 33, [3, 0, 6122, 6123, 1013, 0], [], [sgX11_isIn]), (13, 3, .ifCond .ne 5, [18], [], [])]
def bkX11_walk_16 : List gw_E := [(16, 1, .iconst (-1), [], [-1], []), (17, 1, .ireturn, [0], [], [])]
def bkX11_walk_18 : List gw_E := [(18, 1, .iload_n 1, [1], [], []), (19, 1, .istore_n 3, [3], [], []), (20, 1, .iconst 0, [], [0], []), (21, 2, .istore 4, [4], [], [])]
def bkX11_walk_23 : List gw_E := [(23, 2, .iload 4, [4], [], []), (25, 1, .iconst 3, [], [3], []), (26, 3, .if_icmp .ge 34, [60], [], []), (29, 1, .aload_n 0, [0], [], []), (30, 2, .iload 4, [4], [], []), (32, 1, .iload_n 3, [3], [], []), (33, 1, .iload_n 2, [2], [], []), (34, 3, .invokevirtual 112, [3, 11, 7055, 7057, 55, 1013], [], [sgX11_gives]), (37, 3, .ifCond .ne 9, [46], [], []), (40, 2, .bipush (-2), [], [-2], []), (42, 2, .iload 4, [4], [], []), (44, 1, .isub, [], [], []), (45, 1, .ireturn, [0], [], [])]
def bkX11_walk_46 : List gw_E := [(46, 1, .aload_n 0, [0], [], []), (47, 2, .iload 4, [4], [], []), (49, 1, .iload_n 3, [3], [], []), (50, 3, .invokevirtual 52, [2, 11, 6149, 6151, 29, 1013], [], [sgX11_toOf]), (53, 1, .istore_n 3, [3], [], []), (54, 3, .iinc 4 1, [4], [1], []), (57, 3, .goto (-34), [23], [], [])]
def bkX11_walk_60 : List gw_E := [(60, 1, .iload_n 3, [3], [], []), (61, 1, .ireturn, [0], [], [])]
def bsX11_walk : List (Nat × List gw_E) := [(0, bkX11_walk_0), (16, bkX11_walk_16), (18, bkX11_walk_18), (23, bkX11_walk_23), (46, bkX11_walk_46), (60, bkX11_walk_60)]
theorem fdX11_walk_0 : gw_find bsX11_walk 0 = bkX11_walk_0 := rfl
theorem fdX11_walk_16 : gw_find bsX11_walk 16 = bkX11_walk_16 := rfl
theorem fdX11_walk_18 : gw_find bsX11_walk 18 = bkX11_walk_18 := rfl
theorem fdX11_walk_23 : gw_find bsX11_walk 23 = bkX11_walk_23 := rfl
theorem fdX11_walk_46 : gw_find bsX11_walk 46 = bkX11_walk_46 := rfl
theorem fdX11_walk_60 : gw_find bsX11_walk 60 = bkX11_walk_60 := rfl
set_option maxRecDepth 40000 in
theorem stX11_walk : gw_sta sgX11_walk bsX11_walk := ⟨by decide +kernel, gw_mem2 (i := 8056) rfl rfl, gw_all (by decide +kernel)⟩
def bkX11_given_0 : List gw_E := [(0, 1, .iload_n 1, [1], [], []), (1, 3, .invokestatic 178, [1, 0, 6119, 6120, 1013, 0], [], [sgX11_isPage]), (4, 3, .ifCond .ne 5, [9], [], []), (7, 1, .iconst (-1), [], [-1], []), (8, 1, .ireturn, [0], [], [])]
def bkX11_given_9 : List gw_E := [(9, 1, .iload_n 1, [1], [], []), (10, 1, .istore_n 2, [2], [], []), (11, 2, .bipush 7, [], [7], []), (13, 1, .istore_n 3, [3], [], []), (14, 1, .iconst 0, [], [0], []), (15, 2, .istore 4, [4], [], [])]
def bkX11_given_17 : List gw_E := [(17, 2, .iload 4, [4], [], []), (19, 1, .iconst 3, [], [3], []), (20, 3, .if_icmp .ge 32, [52], [], []), (23, 1, .iload_n 2, [2], [], []), (24, 1, .iconst (-1), [], [-1], []), (25, 3, .if_icmp .eq 27, [52], [], []), (28, 1, .iload_n 3, [3], [], []), (29, 1, .aload_n 0, [0], [], []), (30, 2, .iload 4, [4], [], []), (32, 1, .iload_n 2, [2], [], []), (33, 3, .invokevirtual 49, [2, 11, 6215, 6217, 41, 1013], [], [sgX11_rightsOf]), (36, 1, .iand, [], [], []), (37, 1, .istore_n 3, [3], [], []), (38, 1, .aload_n 0, [0], [], []), (39, 2, .iload 4, [4], [], []), (41, 1, .iload_n 2, [2], [], []), (42, 3, .invokevirtual 52, [2, 11, 6149, 6151, 29, 1013], [], [sgX11_toOf]), (45, 1, .istore_n 2, [2], [], []), (46, 3, .iinc 4 1, [4], [1], []), (49, 3, .goto (-32), [17], [], [])]
def bkX11_given_52 : List gw_E := [(52, 1, .iload_n 2, [2], [], []), (53, 1, .iconst (-1), [], [-1], []), (54, 3, .if_icmp .ne 7, [61], [], []), (57, 1, .iconst 0, [], [0], []), (58, 3, .goto 4, [62], [], [])]
def bkX11_given_61 : List gw_E := [(61, 1, .iload_n 3, [3], [], [])]
def bkX11_given_62 : List gw_E := [(62, 1, .ireturn, [0], [], [])]
def bsX11_given : List (Nat × List gw_E) := [(0, bkX11_given_0), (9, bkX11_given_9), (17, bkX11_given_17), (52, bkX11_given_52), (61, bkX11_given_61), (62, bkX11_given_62)]
theorem fdX11_given_0 : gw_find bsX11_given 0 = bkX11_given_0 := rfl
theorem fdX11_given_9 : gw_find bsX11_given 9 = bkX11_given_9 := rfl
theorem fdX11_given_17 : gw_find bsX11_given 17 = bkX11_given_17 := rfl
theorem fdX11_given_52 : gw_find bsX11_given 52 = bkX11_given_52 := rfl
theorem fdX11_given_61 : gw_find bsX11_given 61 = bkX11_given_61 := rfl
theorem fdX11_given_62 : gw_find bsX11_given 62 = bkX11_given_62 := rfl
set_option maxRecDepth 40000 in
theorem stX11_given : gw_sta sgX11_given bsX11_given := ⟨by decide +kernel, gw_mem2 (i := 8060) rfl rfl, gw_all (by decide +kernel)⟩
def bkX11_lazy_0 : List gw_E := [(0, 1, .iconst 0, [], [0], []), (1, 1, .istore_n 1, [1], [], []), (2, 1, .iconst 0, [], [0], []), (3, 1, .istore_n 2, [2], [], [])]
def bkX11_lazy_4 : List gw_E := [(4, 1, .iload_n 2, [2], [], []), (5, 2, .bipush 16, [], [16], []), (7, 3, .if_icmp .ge 27, [34], [], []), (10, 1, .iload_n 1, [1], [], []), (11, 1, .aload_n 0, [0], [], []), (12, 1, .iload_n 2, [2], [], []), (13, 3, .invokevirtual 193, [1, 11, 6211, 6213, 40, 1013], [], [sgX11_isLazy]), (16, 3, .ifCond .eq 9, [25], [], []), (19, 1, .iconst 1, [], [1], []), (20, 1, .iload_n 2, [2], [], []), (21, 1, .ishl, [], [], []), (22, 3, .goto 4, [26], [], [])]
def bkX11_lazy_25 : List gw_E := [(25, 1, .iconst 0, [], [0], [])]
def bkX11_lazy_26 : List gw_E := [(26, 1, .ior, [], [], []), (27, 1, .istore_n 1, [1], [], []), (28, 3, .iinc 2 1, [2], [1], []), (31, 3, .goto (-27), [4], [], [])]
def bkX11_lazy_34 : List gw_E := [(34, 1, .iload_n 1, [1], [], []), (35, 1, .ireturn, [0], [], [])]
def bsX11_lazy : List (Nat × List gw_E) := [(0, bkX11_lazy_0), (4, bkX11_lazy_4), (25, bkX11_lazy_25), (26, bkX11_lazy_26), (34, bkX11_lazy_34)]
theorem fdX11_lazy_0 : gw_find bsX11_lazy 0 = bkX11_lazy_0 := rfl
theorem fdX11_lazy_4 : gw_find bsX11_lazy 4 = bkX11_lazy_4 := rfl
theorem fdX11_lazy_25 : gw_find bsX11_lazy 25 = bkX11_lazy_25 := rfl
theorem fdX11_lazy_26 : gw_find bsX11_lazy 26 = bkX11_lazy_26 := rfl
theorem fdX11_lazy_34 : gw_find bsX11_lazy 34 = bkX11_lazy_34 := rfl
set_option maxRecDepth 40000 in
theorem stX11_lazy : gw_sta sgX11_lazy bsX11_lazy := ⟨by decide +kernel, gw_mem2 (i := 8064) rfl rfl, gw_all (by decide +kernel)⟩
def bkX11_aliases_0 : List gw_E := [(0, 1, .iload_n 1, [1], [], []), (1, 1, .iconst 0, [], [0], []), (2, 2, .bipush 9, [], [9], []), (4, 3, .invokestatic 33, [3, 0, 6122, 6123, 1013, 0], [], [sgX11_isIn]), (7, 3, .ifCond .ne 5, [12], [], []), (10, 1, .iconst (-1), [], [-1], []), (11, 1, .ireturn, [0], [], [])]
def bkX11_aliases_12 : List gw_E := [(12, 1, .iconst 0, [], [0], []), (13, 1, .istore_n 2, [2], [], []), (14, 1, .iconst 0, [], [0], []), (15, 1, .istore_n 3, [3], [], [])]
def bkX11_aliases_16 : List gw_E := [(16, 1, .iload_n 3, [3], [], []), (17, 2, .bipush 16, [], [16], []), (19, 3, .if_icmp .ge 59, [78], [], []), (22, 1, .iload_n 3, [3], [], []), (23, 2, .istore 4, [4], [], []), (25, 1, .iconst 0, [], [0], []), (26, 2, .istore 5, [5], [], [])]
def bkX11_aliases_28 : List gw_E := [(28, 2, .iload 5, [5], [], []), (30, 1, .iconst 3, [], [3], []), (31, 3, .if_icmp .ge 25, [56], [], []), (34, 2, .iload 4, [4], [], []), (36, 1, .iconst (-1), [], [-1], []), (37, 3, .if_icmp .eq 19, [56], [], []), (40, 1, .aload_n 0, [0], [], []), (41, 2, .iload 5, [5], [], []), (43, 2, .iload 4, [4], [], []), (45, 3, .invokevirtual 52, [2, 11, 6149, 6151, 29, 1013], [], [sgX11_toOf]), (48, 2, .istore 4, [4], [], []), (50, 3, .iinc 5 1, [5], [1], []), (53, 3, .goto (-25), [28], [], [])]
def bkX11_aliases_56 : List gw_E := [(56, 1, .iload_n 2, [2], [], []), (57, 2, .iload 4, [4], [], []), (59, 1, .iload_n 1, [1], [], []), (60, 3, .if_icmp .ne 9, [69], [], []), (63, 1, .iconst 1, [], [1], []), (64, 1, .iload_n 3, [3], [], []), (65, 1, .ishl, [], [], []), (66, 3, .goto 4, [70], [], [])]
def bkX11_aliases_69 : List gw_E := [(69, 1, .iconst 0, [], [0], [])]
def bkX11_aliases_70 : List gw_E := [(70, 1, .ior, [], [], []), (71, 1, .istore_n 2, [2], [], []), (72, 3, .iinc 3 1, [3], [1], []), (75, 3, .goto (-59), [16], [], [])]
def bkX11_aliases_78 : List gw_E := [(78, 1, .iload_n 2, [2], [], []), (79, 1, .ireturn, [0], [], [])]
def bsX11_aliases : List (Nat × List gw_E) := [(0, bkX11_aliases_0), (12, bkX11_aliases_12), (16, bkX11_aliases_16), (28, bkX11_aliases_28), (56, bkX11_aliases_56), (69, bkX11_aliases_69), (70, bkX11_aliases_70), (78, bkX11_aliases_78)]
theorem fdX11_aliases_0 : gw_find bsX11_aliases 0 = bkX11_aliases_0 := rfl
theorem fdX11_aliases_12 : gw_find bsX11_aliases 12 = bkX11_aliases_12 := rfl
theorem fdX11_aliases_16 : gw_find bsX11_aliases 16 = bkX11_aliases_16 := rfl
theorem fdX11_aliases_28 : gw_find bsX11_aliases 28 = bkX11_aliases_28 := rfl
theorem fdX11_aliases_56 : gw_find bsX11_aliases 56 = bkX11_aliases_56 := rfl
theorem fdX11_aliases_69 : gw_find bsX11_aliases 69 = bkX11_aliases_69 := rfl
theorem fdX11_aliases_70 : gw_find bsX11_aliases 70 = bkX11_aliases_70 := rfl
theorem fdX11_aliases_78 : gw_find bsX11_aliases 78 = bkX11_aliases_78 := rfl
set_option maxRecDepth 40000 in
theorem stX11_aliases : gw_sta sgX11_aliases bsX11_aliases := ⟨by decide +kernel, gw_mem2 (i := 8068) rfl rfl, gw_all (by decide +kernel)⟩
def bkX11_free_0 : List gw_E := [(0, 1, .aload_n 0, [0], [], []), (1, 3, .invokevirtual 73, [0, 11, 7039, 7041, 51, 1013], [], [sgX11_freeFrame]), (4, 1, .ireturn, [0], [], [])]
def bsX11_free : List (Nat × List gw_E) := [(0, bkX11_free_0)]
theorem fdX11_free_0 : gw_find bsX11_free 0 = bkX11_free_0 := rfl
set_option maxRecDepth 40000 in
theorem stX11_free : gw_sta sgX11_free bsX11_free := ⟨by decide +kernel, gw_mem2 (i := 8072) rfl rfl, gw_all (by decide +kernel)⟩
def bkX11_wanted_0 : List gw_E := [(0, 1, .iload_n 1, [1], [], []), (1, 1, .iconst 2, [], [2], []), (2, 3, .if_icmp .ne 21, [23], [], []), (5, 1, .aload_n 0, [0], [], []), (6, 3, .getfield 7, [11, 0, 1, 6073], [], []), (9, 2, .bipush 17, [], [17], []), (11, 1, .iaload, [], [], []), (12, 1, .aload_n 0, [0], [], []), (13, 3, .getfield 7, [11, 0, 1, 6073], [], []), (16, 2, .bipush 18, [], [18], []), (18, 1, .iaload, [], [], []), (19, 1, .ior, [], [], []), (20, 3, .goto 25, [45], [], [])]
def bkX11_wanted_23 : List gw_E := [(23, 1, .iload_n 1, [1], [], []), (24, 1, .iconst 0, [], [0], []), (25, 1, .iconst 1, [], [1], []), (26, 3, .invokestatic 33, [3, 0, 6122, 6123, 1013, 0], [], [sgX11_isIn]), (29, 3, .ifCond .eq 15, [44], [], []), (32, 1, .aload_n 0, [0], [], []), (33, 3, .getfield 7, [11, 0, 1, 6073], [], []), (36, 2, .bipush 17, [], [17], []), (38, 1, .iload_n 1, [1], [], []), (39, 1, .iadd, [], [], []), (40, 1, .iaload, [], [], []), (41, 3, .goto 4, [45], [], [])]
def bkX11_wanted_44 : List gw_E := [(44, 1, .iconst (-1), [], [-1], [])]
def bkX11_wanted_45 : List gw_E := [(45, 1, .ireturn, [0], [], [])]
def bsX11_wanted : List (Nat × List gw_E) := [(0, bkX11_wanted_0), (23, bkX11_wanted_23), (44, bkX11_wanted_44), (45, bkX11_wanted_45)]
theorem fdX11_wanted_0 : gw_find bsX11_wanted 0 = bkX11_wanted_0 := rfl
theorem fdX11_wanted_23 : gw_find bsX11_wanted 23 = bkX11_wanted_23 := rfl
theorem fdX11_wanted_44 : gw_find bsX11_wanted 44 = bkX11_wanted_44 := rfl
theorem fdX11_wanted_45 : gw_find bsX11_wanted 45 = bkX11_wanted_45 := rfl
set_option maxRecDepth 40000 in
theorem stX11_wanted : gw_sta sgX11_wanted bsX11_wanted := ⟨by decide +kernel, gw_mem2 (i := 8076) rfl rfl, gw_all (by decide +kernel)⟩
def bkX11_whose_0 : List gw_E := [(0, 1, .iload_n 1, [1], [], []), (1, 1, .iconst 0, [], [0], []), (2, 2, .bipush 7, [], [7], []), (4, 3, .invokestatic 33, [3, 0, 6122, 6123, 1013, 0], [], [sgX11_isIn]), (7, 3, .ifCond .eq 11, [18], [], []), (10, 1, .aload_n 0, [0], [], []), (11, 1, .iload_n 1, [1], [], []), (12, 3, .invokevirtual 93, [1, 11, 7079, 7081, 61, 1013], [], [sgX11_whoSees]), (15, 3, .goto 4, [19], [], [])]
def bkX11_whose_18 : List gw_E := [(18, 1, .iconst (-1), [], [-1], [])]
def bkX11_whose_19 : List gw_E := [(19, 1, .ireturn, [0], [], [])]
def bsX11_whose : List (Nat × List gw_E) := [(0, bkX11_whose_0), (18, bkX11_whose_18), (19, bkX11_whose_19)]
theorem fdX11_whose_0 : gw_find bsX11_whose 0 = bkX11_whose_0 := rfl
theorem fdX11_whose_18 : gw_find bsX11_whose 18 = bkX11_whose_18 := rfl
theorem fdX11_whose_19 : gw_find bsX11_whose 19 = bkX11_whose_19 := rfl
set_option maxRecDepth 40000 in
theorem stX11_whose : gw_sta sgX11_whose bsX11_whose := ⟨by decide +kernel, gw_mem2 (i := 8080) rfl rfl, gw_all (by decide +kernel)⟩
def bkX11_exit_0 : List gw_E := [(0, 1, .iload_n 1, [1], [], []), (1, 1, .iconst (-1), [], [-1], []), (2, 3, .if_icmp .ne 11, [13], [], []), (5, 1, .aload_n 0, [0], [], []), (6, 3, .getfield 7, [11, 0, 1, 6073], [], []), (9, 2, .bipush 25, [], [25], []), (11, 1, .iaload, [], [], []), (12, 1, .ireturn, [0], [], [])]
def bkX11_exit_13 : List gw_E := [(13, 1, .iload_n 1, [1], [], []), (14, 1, .iconst 0, [], [0], []), (15, 1, .aload_n 0, [0], [], []), (16, 3, .getfield 7, [11, 0, 1, 6073], [], []), (19, 2, .bipush 25, [], [25], []), (21, 1, .iaload, [], [], []), (22, 1, .iconst 1, [], [1], []), (23, 1, .isub, [], [], []), (24, 3, .invokestatic 33, [3, 0, 6122, 6123, 1013, 0], [], [sgX11_isIn]), (27, 3, .ifCond .eq 29, [56], [], []), (30, 1, .iload_n 2, [2], [], []), (31, 1, .iconst 0, [], [0], []), (32, 1, .iconst 3, [], [3], []), (33, 3, .invokestatic 33, [3, 0, 6122, 6123, 1013, 0], [], [sgX11_isIn]), (36, 3, .ifCond .eq 20, [56], [], []), (39, 1, .aload_n 0, [0], [], []), (40, 3, .getfield 7, [11, 0, 1, 6073], [], []), (43, 3, .sipush 861, [], [861], []), (46, 1, .iconst 4, [], [4], []), (47, 1, .iload_n 1, [1], [], []), (48, 1, .imul, [], [], []), (49, 1, .iadd, [], [], []), (50, 1, .iload_n 2, [2], [], []), (51, 1, .iadd, [], [], []), (52, 1, .iaload, [], [], []), (53, 3, .goto 5, [58], [], [])]
def bkX11_exit_56 : List gw_E := [(56, 2, .bipush (-2), [], [-2], [])]
def bkX11_exit_58 : List gw_E := [(58, 1, .ireturn, [0], [], [])]
def bsX11_exit : List (Nat × List gw_E) := [(0, bkX11_exit_0), (13, bkX11_exit_13), (56, bkX11_exit_56), (58, bkX11_exit_58)]
theorem fdX11_exit_0 : gw_find bsX11_exit 0 = bkX11_exit_0 := rfl
theorem fdX11_exit_13 : gw_find bsX11_exit 13 = bkX11_exit_13 := rfl
theorem fdX11_exit_56 : gw_find bsX11_exit 56 = bkX11_exit_56 := rfl
theorem fdX11_exit_58 : gw_find bsX11_exit 58 = bkX11_exit_58 := rfl
set_option maxRecDepth 40000 in
theorem stX11_exit : gw_sta sgX11_exit bsX11_exit := ⟨by decide +kernel, gw_mem2 (i := 8084) rfl rfl, gw_all (by decide +kernel)⟩
def bkX11_exits_0 : List gw_E := [(0, 1, .iconst 0, [], [0], []), (1, 1, .istore_n 2, [2], [], []), (2, 1, .iconst 0, [], [0], []), (3, 1, .istore_n 3, [3], [], [])]
def bkX11_exits_4 : List gw_E := [(4, 1, .iload_n 3, [3], [], []), (5, 1, .aload_n 0, [0], [], []), (6, 3, .getfield 7, [11, 0, 1, 6073], [], []), (9, 2, .bipush 25, [], [25], []), (11, 1, .iaload, [], [], []), (12, 3, .if_icmp .ge 35, [47], [], []), (15, 1, .iload_n 2, [2], [], []), (16, 1, .aload_n 0, [0], [], []), (17, 3, .getfield 7, [11, 0, 1, 6073], [], []), (20, 3, .sipush 861, [], [861], []), (23, 1, .iconst 4, [], [4], []), (24, 1, .iload_n 3, [3], [], []), (25, 1, .imul, [], [], []), (26, 1, .iadd, [], [], []), (27, 1, .iconst 1, [], [1], []), (28, 1, .iadd, [], [], []), (29, 1, .iaload, [], [], []), (30, 1, .iload_n 1, [1], [], []), (31, 3, .if_icmp .ne 7, [38], [], []), (34, 1, .iconst 1, [], [1], []), (35, 3, .goto 4, [39], [], [])]
def bkX11_exits_38 : List gw_E := [(38, 1, .iconst 0, [], [0], [])]
def bkX11_exits_39 : List gw_E := [(39, 1, .iadd, [], [], []), (40, 1, .istore_n 2, [2], [], []), (41, 3, .iinc 3 1, [3], [1], []), (44, 3, .goto (-40), [4], [], [])]
def bkX11_exits_47 : List gw_E := [(47, 1, .iload_n 2, [2], [], []), (48, 1, .ireturn, [0], [], [])]
def bsX11_exits : List (Nat × List gw_E) := [(0, bkX11_exits_0), (4, bkX11_exits_4), (38, bkX11_exits_38), (39, bkX11_exits_39), (47, bkX11_exits_47)]
theorem fdX11_exits_0 : gw_find bsX11_exits 0 = bkX11_exits_0 := rfl
theorem fdX11_exits_4 : gw_find bsX11_exits 4 = bkX11_exits_4 := rfl
theorem fdX11_exits_38 : gw_find bsX11_exits 38 = bkX11_exits_38 := rfl
theorem fdX11_exits_39 : gw_find bsX11_exits 39 = bkX11_exits_39 := rfl
theorem fdX11_exits_47 : gw_find bsX11_exits 47 = bkX11_exits_47 := rfl
set_option maxRecDepth 40000 in
theorem stX11_exits : gw_sta sgX11_exits bsX11_exits := ⟨by decide +kernel, gw_mem2 (i := 8088) rfl rfl, gw_all (by decide +kernel)⟩
def bkX11_spent_0 : List gw_E := [(0, 1, .iload_n 1, [1], [], []), (1, 1, .iconst 0, [], [0], []), (2, 1, .iconst 3, [], [3], []), (3, 3, .invokestatic 33, [3, 0, 6122, 6123, 1013, 0], [], [sgX11_isIn]), (6, 3, .ifCond .eq 15, [21], [], []), (9, 1, .aload_n 0, [0], [], []), (10, 3, .getfield 7, [11, 0, 1, 6073], [], []), (13, 2, .bipush 28, [], [28], []), (15, 1, .iload_n 1, [1], [], []), (16, 1, .iadd, [], [], []), (17, 1, .iaload, [], [], []), (18, 3, .goto 4, [22], [], [])]
def bkX11_spent_21 : List gw_E := [(21, 1, .iconst (-1), [], [-1], [])]
def bkX11_spent_22 : List gw_E := [(22, 1, .ireturn, [0], [], [])]
def bsX11_spent : List (Nat × List gw_E) := [(0, bkX11_spent_0), (21, bkX11_spent_21), (22, bkX11_spent_22)]
theorem fdX11_spent_0 : gw_find bsX11_spent 0 = bkX11_spent_0 := rfl
theorem fdX11_spent_21 : gw_find bsX11_spent 21 = bkX11_spent_21 := rfl
theorem fdX11_spent_22 : gw_find bsX11_spent 22 = bkX11_spent_22 := rfl
set_option maxRecDepth 40000 in
theorem stX11_spent : gw_sta sgX11_spent bsX11_spent := ⟨by decide +kernel, gw_mem2 (i := 8092) rfl rfl, gw_all (by decide +kernel)⟩
def bkX11_seenOf_0 : List gw_E := [(0, 1, .iload_n 1, [1], [], []), (1, 1, .iconst 0, [], [0], []), (2, 2, .bipush 7, [], [7], []), (4, 3, .invokestatic 33, [3, 0, 6122, 6123, 1013, 0], [], [sgX11_isIn]), (7, 3, .ifCond .eq 12, [19], [], []), (10, 1, .iload_n 2, [2], [], []), (11, 1, .iconst 0, [], [0], []), (12, 1, .iconst 2, [], [2], []), (13, 3, .invokestatic 33, [3, 0, 6122, 6123, 1013, 0], [], [sgX11_isIn]), (16, 3, .ifCond .ne 5, [21], [], [])]
def bkX11_seenOf_19 : List gw_E := [(19, 1, .iconst (-1), [], [-1], []), (20, 1, .ireturn, [0], [], [])]
def bkX11_seenOf_21 : List gw_E := [(21, 1, .aload_n 0, [0], [], []), (22, 3, .getfield 7, [11, 0, 1, 6073], [], []), (25, 2, .bipush 32, [], [32], []), (27, 1, .iconst 3, [], [3], []), (28, 1, .iload_n 1, [1], [], []), (29, 1, .imul, [], [], []), (30, 1, .iadd, [], [], []), (31, 1, .iload_n 2, [2], [], []), (32, 1, .iadd, [], [], []), (33, 1, .iaload, [], [], []), (34, 1, .ireturn, [0], [], [])]
def bsX11_seenOf : List (Nat × List gw_E) := [(0, bkX11_seenOf_0), (19, bkX11_seenOf_19), (21, bkX11_seenOf_21)]
theorem fdX11_seenOf_0 : gw_find bsX11_seenOf 0 = bkX11_seenOf_0 := rfl
theorem fdX11_seenOf_19 : gw_find bsX11_seenOf 19 = bkX11_seenOf_19 := rfl
theorem fdX11_seenOf_21 : gw_find bsX11_seenOf 21 = bkX11_seenOf_21 := rfl
set_option maxRecDepth 40000 in
theorem stX11_seenOf : gw_sta sgX11_seenOf bsX11_seenOf := ⟨by decide +kernel, gw_mem2 (i := 8096) rfl rfl, gw_all (by decide +kernel)⟩
def bkX11_pending_0 : List gw_E := [(0, 1, .iload_n 1, [1], [], []), (1, 3, .invokestatic 208, [1, 0, 7107, 7108, 1013, 0], [], [sgX11_isGuest]), (4, 3, .ifCond .eq 18, [22], [], []), (7, 1, .aload_n 0, [0], [], []), (8, 3, .getfield 7, [11, 0, 1, 6073], [], []), (11, 1, .aload_n 0, [0], [], []), (12, 1, .iload_n 1, [1], [], []), (13, 3, .invokevirtual 37, [1, 11, 6141, 6143, 27, 1013], [], [sgX11_guestAt]), (16, 1, .iconst 0, [], [0], []), (17, 1, .iadd, [], [], []), (18, 1, .iaload, [], [], []), (19, 3, .goto 4, [23], [], [])]
def bkX11_pending_22 : List gw_E := [(22, 1, .iconst (-1), [], [-1], [])]
def bkX11_pending_23 : List gw_E := [(23, 1, .ireturn, [0], [], [])]
def bsX11_pending : List (Nat × List gw_E) := [(0, bkX11_pending_0), (22, bkX11_pending_22), (23, bkX11_pending_23)]
theorem fdX11_pending_0 : gw_find bsX11_pending 0 = bkX11_pending_0 := rfl
theorem fdX11_pending_22 : gw_find bsX11_pending 22 = bkX11_pending_22 := rfl
theorem fdX11_pending_23 : gw_find bsX11_pending 23 = bkX11_pending_23 := rfl
set_option maxRecDepth 40000 in
theorem stX11_pending : gw_sta sgX11_pending bsX11_pending := ⟨by decide +kernel, gw_mem2 (i := 8100) rfl rfl, gw_all (by decide +kernel)⟩
def bkX11_longest_0 : List gw_E := [(0, 1, .iload_n 1, [1], [], []), (1, 3, .invokestatic 208, [1, 0, 7107, 7108, 1013, 0], [], [sgX11_isGuest]), (4, 3, .ifCond .eq 17, [21], [], []), (7, 1, .aload_n 0, [0], [], []), (8, 3, .getfield 7, [11, 0, 1, 6073], [], []), (11, 2, .bipush 56, [], [56], []), (13, 1, .iload_n 1, [1], [], []), (14, 1, .iadd, [], [], []), (15, 1, .iconst 1, [], [1], []), (16, 1, .isub, [], [], []), (17, 1, .iaload, [], [], []), (18, 3, .goto 4, [22], [], [])]
def bkX11_longest_21 : List gw_E := [(21, 1, .iconst (-1), [], [-1], [])]
def bkX11_longest_22 : List gw_E := [(22, 1, .ireturn, [0], [], [])]
def bsX11_longest : List (Nat × List gw_E) := [(0, bkX11_longest_0), (21, bkX11_longest_21), (22, bkX11_longest_22)]
theorem fdX11_longest_0 : gw_find bsX11_longest 0 = bkX11_longest_0 := rfl
theorem fdX11_longest_21 : gw_find bsX11_longest 21 = bkX11_longest_21 := rfl
theorem fdX11_longest_22 : gw_find bsX11_longest 22 = bkX11_longest_22 := rfl
set_option maxRecDepth 40000 in
theorem stX11_longest : gw_sta sgX11_longest bsX11_longest := ⟨by decide +kernel, gw_mem2 (i := 8104) rfl rfl, gw_all (by decide +kernel)⟩
def bkX11_pendingFor_0 : List gw_E := [(0, 1, .iload_n 1, [1], [], []), (1, 3, .invokestatic 208, [1, 0, 7107, 7108, 1013, 0], [], [sgX11_isGuest]), (4, 3, .ifCond .eq 32, [36], [], []), (7, 1, .iload_n 2, [2], [], []), (8, 1, .iconst 0, [], [0], []), (9, 2, .bipush 15, [], [15], []), (11, 3, .invokestatic 33, [3, 0, 6122, 6123, 1013, 0], [], [sgX11_isIn]), (14, 3, .ifCond .eq 22, [36], [], []), (17, 1, .aload_n 0, [0], [], []), (18, 3, .getfield 7, [11, 0, 1, 6073], [], []), (21, 1, .aload_n 0, [0], [], []), (22, 1, .iload_n 1, [1], [], []), (23, 3, .invokevirtual 37, [1, 11, 6141, 6143, 27, 1013], [], [sgX11_guestAt]), (26, 1, .iconst 0, [], [0], []), (27, 1, .iadd, [], [], []), (28, 1, .iaload, [], [], []), (29, 1, .iload_n 2, [2], [], []), (30, 3, .invokestatic 29, [2, 0, 6176, 6177, 1013, 0], [], [sgX11_has]), (33, 3, .ifCond .ne 5, [38], [], [])]
def bkX11_pendingFor_36 : List gw_E := [(36, 1, .iconst (-1), [], [-1], []), (37, 1, .ireturn, [0], [], [])]
def bkX11_pendingFor_38 : List gw_E := [(38, 1, .aload_n 0, [0], [], []), (39, 1, .iload_n 1, [1], [], []), (40, 1, .iload_n 2, [2], [], []), (41, 3, .invokevirtual 139, [2, 11, 6191, 6193, 38, 1013], [], [sgX11_sinceOf]), (44, 1, .ireturn, [0], [], [])]
def bsX11_pendingFor : List (Nat × List gw_E) := [(0, bkX11_pendingFor_0), (36, bkX11_pendingFor_36), (38, bkX11_pendingFor_38)]
theorem fdX11_pendingFor_0 : gw_find bsX11_pendingFor 0 = bkX11_pendingFor_0 := rfl
theorem fdX11_pendingFor_36 : gw_find bsX11_pendingFor 36 = bkX11_pendingFor_36 := rfl
theorem fdX11_pendingFor_38 : gw_find bsX11_pendingFor 38 = bkX11_pendingFor_38 := rfl
set_option maxRecDepth 40000 in
theorem stX11_pendingFor : gw_sta sgX11_pendingFor bsX11_pendingFor := ⟨by decide +kernel, gw_mem2 (i := 8108) rfl rfl, gw_all (by decide +kernel)⟩
def bkX11_service_0 : List gw_E := [(0, 1, .iload_n 1, [1], [], []), (1, 3, .invokestatic 208, [1, 0, 7107, 7108, 1013, 0], [], [sgX11_isGuest]), (4, 3, .ifCond .eq 18, [22], [], []), (7, 1, .aload_n 0, [0], [], []), (8, 3, .getfield 7, [11, 0, 1, 6073], [], []), (11, 1, .aload_n 0, [0], [], []), (12, 1, .iload_n 1, [1], [], []), (13, 3, .invokevirtual 37, [1, 11, 6141, 6143, 27, 1013], [], [sgX11_guestAt]), (16, 1, .iconst 1, [], [1], []), (17, 1, .iadd, [], [], []), (18, 1, .iaload, [], [], []), (19, 3, .goto 4, [23], [], [])]
def bkX11_service_22 : List gw_E := [(22, 1, .iconst (-1), [], [-1], [])]
def bkX11_service_23 : List gw_E := [(23, 1, .ireturn, [0], [], [])]
def bsX11_service : List (Nat × List gw_E) := [(0, bkX11_service_0), (22, bkX11_service_22), (23, bkX11_service_23)]
theorem fdX11_service_0 : gw_find bsX11_service 0 = bkX11_service_0 := rfl
theorem fdX11_service_22 : gw_find bsX11_service 22 = bkX11_service_22 := rfl
theorem fdX11_service_23 : gw_find bsX11_service 23 = bkX11_service_23 := rfl
set_option maxRecDepth 40000 in
theorem stX11_service : gw_sta sgX11_service bsX11_service := ⟨by decide +kernel, gw_mem2 (i := 8112) rfl rfl, gw_all (by decide +kernel)⟩
def bkX11_entriesFrom_0 : List gw_E := [(0, 1, .iconst 0, [], [0], []), (1, 1, .istore_n 2, [2], [], []), (2, 1, .iconst 0, [], [0], []), (3, 1, .istore_n 3, [3], [], [])]
def bkX11_entriesFrom_4 : List gw_E := [(4, 1, .iload_n 3, [3], [], []), (5, 2, .bipush 16, [], [16], []), (7, 3, .if_icmp .ge 31, [38], [], []), (10, 1, .iload_n 2, [2], [], []), (11, 1, .aload_n 0, [0], [], []), (12, 3, .getfield 7, [11, 0, 1, 6073], [], []), (15, 1, .iload_n 1, [1], [], []), (16, 1, .iconst 2, [], [2], []), (17, 1, .iload_n 3, [3], [], []), (18, 1, .imul, [], [], []), (19, 1, .iadd, [], [], []), (20, 1, .iaload, [], [], []), (21, 1, .iconst (-1), [], [-1], []), (22, 3, .if_icmp .ne 7, [29], [], []), (25, 1, .iconst 0, [], [0], []), (26, 3, .goto 4, [30], [], [])]
def bkX11_entriesFrom_29 : List gw_E := [(29, 1, .iconst 1, [], [1], [])]
def bkX11_entriesFrom_30 : List gw_E := [(30, 1, .iadd, [], [], []), (31, 1, .istore_n 2, [2], [], []), (32, 3, .iinc 3 1, [3], [1], []), (35, 3, .goto (-31), [4], [], [])]
def bkX11_entriesFrom_38 : List gw_E := [(38, 1, .iload_n 2, [2], [], []), (39, 1, .ireturn, [0], [], [])]
def bsX11_entriesFrom : List (Nat × List gw_E) := [(0, bkX11_entriesFrom_0), (4, bkX11_entriesFrom_4), (29, bkX11_entriesFrom_29), (30, bkX11_entriesFrom_30), (38, bkX11_entriesFrom_38)]
theorem fdX11_entriesFrom_0 : gw_find bsX11_entriesFrom 0 = bkX11_entriesFrom_0 := rfl
theorem fdX11_entriesFrom_4 : gw_find bsX11_entriesFrom 4 = bkX11_entriesFrom_4 := rfl
theorem fdX11_entriesFrom_29 : gw_find bsX11_entriesFrom 29 = bkX11_entriesFrom_29 := rfl
theorem fdX11_entriesFrom_30 : gw_find bsX11_entriesFrom 30 = bkX11_entriesFrom_30 := rfl
theorem fdX11_entriesFrom_38 : gw_find bsX11_entriesFrom 38 = bkX11_entriesFrom_38 := rfl
set_option maxRecDepth 40000 in
theorem stX11_entriesFrom : gw_sta sgX11_entriesFrom bsX11_entriesFrom := ⟨by decide +kernel, gw_mem2 (i := 8120) rfl rfl, gw_all (by decide +kernel)⟩
def bkX11_putBy_0 : List gw_E := [(0, 1, .iload_n 1, [1], [], []), (1, 1, .iconst 0, [], [0], []), (2, 1, .iconst 2, [], [2], []), (3, 3, .invokestatic 33, [3, 0, 6122, 6123, 1013, 0], [], [sgX11_isIn]), (6, 3, .ifCond .eq 14, [20], [], []), (9, 1, .iload_n 1, [1], [], []), (10, 1, .aload_n 0, [0], [], []), (11, 3, .getfield 7, [11, 0, 1, 6073], [], []), (14, 2, .bipush 15, [], [15], []), (16, 1, .iaload, [], [], []), (17, 3, .if_icmp .ne 5, [22], [], [])]
def bkX11_putBy_20 : List gw_E := [(20, 1, .iconst (-1), [], [-1], []), (21, 1, .ireturn, [0], [], [])]
def bkX11_putBy_22 : List gw_E := [(22, 2, .bipush 58, [], [58], []), (24, 3, .sipush 162, [], [162], []), (27, 1, .iconst 1, [], [1], []), (28, 1, .iload_n 1, [1], [], []), (29, 1, .iadd, [], [], []), (30, 1, .imul, [], [], []), (31, 1, .iadd, [], [], []), (32, 1, .istore_n 3, [3], [], []), (33, 1, .iload_n 2, [2], [], []), (34, 42, .tableswitch 102 0 6 #[42, 42, 56, 65, 74, 83, 92], [136, 76, 76, 90, 99, 108, 117, 126], [0], [])]
def bkX11_putBy_76 : List gw_E := [(76, 1, .aload_n 0, [0], [], []), (77, 1, .iload_n 3, [3], [], []), (78, 2, .bipush 79, [], [79], []), (80, 1, .iadd, [], [], []), (81, 2, .bipush 32, [], [32], []), (83, 1, .iload_n 2, [2], [], []), (84, 1, .imul, [], [], []), (85, 1, .iadd, [], [], []), (86, 3, .invokevirtual 264, [1, 11, 8117, 8119, 85, 1013], [], [sgX11_entriesFrom]), (89, 1, .ireturn, [0], [], [])]
def bkX11_putBy_90 : List gw_E := [(90, 1, .aload_n 0, [0], [], []), (91, 3, .getfield 7, [11, 0, 1, 6073], [], []), (94, 1, .iload_n 3, [3], [], []), (95, 1, .iconst 5, [], [5], []), (96, 1, .iadd, [], [], []), (97, 1, .iaload, [], [], []), (98, 1, .ireturn, [0], [], [])]
def bkX11_putBy_99 : List gw_E := [(99, 1, .aload_n 0, [0], [], []), (100, 3, .getfield 7, [11, 0, 1, 6073], [], []), (103, 1, .iload_n 3, [3], [], []), (104, 1, .iconst 0, [], [0], []), (105, 1, .iadd, [], [], []), (106, 1, .iaload, [], [], []), (107, 1, .ireturn, [0], [], [])]
def bkX11_putBy_108 : List gw_E := [(108, 1, .aload_n 0, [0], [], []), (109, 3, .getfield 7, [11, 0, 1, 6073], [], []), (112, 1, .iload_n 3, [3], [], []), (113, 1, .iconst 1, [], [1], []), (114, 1, .iadd, [], [], []), (115, 1, .iaload, [], [], []), (116, 1, .ireturn, [0], [], [])]
def bkX11_putBy_117 : List gw_E := [(117, 1, .aload_n 0, [0], [], []), (118, 3, .getfield 7, [11, 0, 1, 6073], [], []), (121, 1, .iload_n 3, [3], [], []), (122, 1, .iconst 2, [], [2], []), (123, 1, .iadd, [], [], []), (124, 1, .iaload, [], [], []), (125, 1, .ireturn, [0], [], [])]
def bkX11_putBy_126 : List gw_E := [(126, 1, .aload_n 0, [0], [], []), (127, 3, .getfield 7, [11, 0, 1, 6073], [], []), (130, 1, .iload_n 3, [3], [], []), (131, 2, .bipush 6, [], [6], []), (133, 1, .iadd, [], [], []), (134, 1, .iaload, [], [], []), (135, 1, .ireturn, [0], [], [])]
def bkX11_putBy_136 : List gw_E := [(136, 1, .iconst (-1), [], [-1], []), (137, 1, .ireturn, [0], [], [])]
def bsX11_putBy : List (Nat × List gw_E) := [(0, bkX11_putBy_0), (20, bkX11_putBy_20), (22, bkX11_putBy_22), (76, bkX11_putBy_76), (90, bkX11_putBy_90), (99, bkX11_putBy_99), (108, bkX11_putBy_108), (117, bkX11_putBy_117), (126, bkX11_putBy_126), (136, bkX11_putBy_136)]
theorem fdX11_putBy_0 : gw_find bsX11_putBy 0 = bkX11_putBy_0 := rfl
theorem fdX11_putBy_20 : gw_find bsX11_putBy 20 = bkX11_putBy_20 := rfl
theorem fdX11_putBy_22 : gw_find bsX11_putBy 22 = bkX11_putBy_22 := rfl
theorem fdX11_putBy_76 : gw_find bsX11_putBy 76 = bkX11_putBy_76 := rfl
theorem fdX11_putBy_90 : gw_find bsX11_putBy 90 = bkX11_putBy_90 := rfl
theorem fdX11_putBy_99 : gw_find bsX11_putBy 99 = bkX11_putBy_99 := rfl
theorem fdX11_putBy_108 : gw_find bsX11_putBy 108 = bkX11_putBy_108 := rfl
theorem fdX11_putBy_117 : gw_find bsX11_putBy 117 = bkX11_putBy_117 := rfl
theorem fdX11_putBy_126 : gw_find bsX11_putBy 126 = bkX11_putBy_126 := rfl
theorem fdX11_putBy_136 : gw_find bsX11_putBy 136 = bkX11_putBy_136 := rfl
set_option maxRecDepth 40000 in
theorem stX11_putBy : gw_sta sgX11_putBy bsX11_putBy := ⟨by decide +kernel, gw_mem2 (i := 8116) rfl rfl, gw_all (by decide +kernel)⟩
def bkX11_isOpen_0 : List gw_E := [(0, 1, .iload_n 1, [1], [], []), (1, 3, .invokestatic 208, [1, 0, 7107, 7108, 1013, 0], [], [sgX11_isGuest]), (4, 3, .ifCond .eq 23, [27], [], []), (7, 1, .aload_n 0, [0], [], []), (8, 3, .getfield 7, [11, 0, 1, 6073], [], []), (11, 1, .aload_n 0, [0], [], []), (12, 1, .iload_n 1, [1], [], []), (13, 3, .invokevirtual 37, [1, 11, 6141, 6143, 27, 1013], [], [sgX11_guestAt]), (16, 1, .iconst 2, [], [2], []), (17, 1, .iadd, [], [], []), (18, 1, .iaload, [], [], []), (19, 1, .iconst 1, [], [1], []), (20, 3, .if_icmp .ne 7, [27], [], []), (23, 1, .iconst 1, [], [1], []), (24, 3, .goto 4, [28], [], [])]
def bkX11_isOpen_27 : List gw_E := [(27, 1, .iconst 0, [], [0], [])]
def bkX11_isOpen_28 : List gw_E := [(28, 1, .ireturn, [1], [], [])]
def bsX11_isOpen : List (Nat × List gw_E) := [(0, bkX11_isOpen_0), (27, bkX11_isOpen_27), (28, bkX11_isOpen_28)]
theorem fdX11_isOpen_0 : gw_find bsX11_isOpen 0 = bkX11_isOpen_0 := rfl
theorem fdX11_isOpen_27 : gw_find bsX11_isOpen 27 = bkX11_isOpen_27 := rfl
theorem fdX11_isOpen_28 : gw_find bsX11_isOpen 28 = bkX11_isOpen_28 := rfl
set_option maxRecDepth 40000 in
theorem stX11_isOpen : gw_sta sgX11_isOpen bsX11_isOpen := ⟨by decide +kernel, gw_mem2 (i := 8124) rfl rfl, gw_all (by decide +kernel)⟩
def bkX11_taken_0 : List gw_E := [(0, 1, .iload_n 1, [1], [], []), (1, 3, .invokestatic 208, [1, 0, 7107, 7108, 1013, 0], [], [sgX11_isGuest]), (4, 3, .ifCond .eq 17, [21], [], []), (7, 1, .aload_n 0, [0], [], []), (8, 3, .getfield 7, [11, 0, 1, 6073], [], []), (11, 2, .bipush 19, [], [19], []), (13, 1, .iload_n 1, [1], [], []), (14, 1, .iadd, [], [], []), (15, 1, .iconst 1, [], [1], []), (16, 1, .isub, [], [], []), (17, 1, .iaload, [], [], []), (18, 3, .goto 4, [22], [], [])]
def bkX11_taken_21 : List gw_E := [(21, 1, .iconst (-1), [], [-1], [])]
def bkX11_taken_22 : List gw_E := [(22, 1, .ireturn, [0], [], [])]
def bsX11_taken : List (Nat × List gw_E) := [(0, bkX11_taken_0), (21, bkX11_taken_21), (22, bkX11_taken_22)]
theorem fdX11_taken_0 : gw_find bsX11_taken 0 = bkX11_taken_0 := rfl
theorem fdX11_taken_21 : gw_find bsX11_taken 21 = bkX11_taken_21 := rfl
theorem fdX11_taken_22 : gw_find bsX11_taken 22 = bkX11_taken_22 := rfl
set_option maxRecDepth 40000 in
theorem stX11_taken : gw_sta sgX11_taken bsX11_taken := ⟨by decide +kernel, gw_mem2 (i := 8128) rfl rfl, gw_all (by decide +kernel)⟩
def bkX11_clock_0 : List gw_E := [(0, 1, .iload_n 1, [1], [], []), (1, 1, .iconst 0, [], [0], []), (2, 1, .iconst 2, [], [2], []), (3, 3, .invokestatic 33, [3, 0, 6122, 6123, 1013, 0], [], [sgX11_isIn]), (6, 3, .ifCond .eq 17, [23], [], []), (9, 1, .aload_n 0, [0], [], []), (10, 1, .iload_n 1, [1], [], []), (11, 1, .aload_n 0, [0], [], []), (12, 3, .getfield 7, [11, 0, 1, 6073], [], []), (15, 1, .iconst 3, [], [3], []), (16, 1, .iaload, [], [], []), (17, 3, .invokevirtual 154, [2, 11, 7195, 7197, 74, 1013], [], [sgX11_clockAt]), (20, 3, .goto 6, [26], [], [])]
def bkX11_clock_23 : List gw_E := [(23, 3, .ldc_w 267, [8133], [-1000000000], [])]
def bkX11_clock_26 : List gw_E := [(26, 1, .ireturn, [0], [], [])]
def bsX11_clock : List (Nat × List gw_E) := [(0, bkX11_clock_0), (23, bkX11_clock_23), (26, bkX11_clock_26)]
theorem fdX11_clock_0 : gw_find bsX11_clock 0 = bkX11_clock_0 := rfl
theorem fdX11_clock_23 : gw_find bsX11_clock 23 = bkX11_clock_23 := rfl
theorem fdX11_clock_26 : gw_find bsX11_clock 26 = bkX11_clock_26 := rfl
set_option maxRecDepth 40000 in
theorem stX11_clock : gw_sta sgX11_clock bsX11_clock := ⟨by decide +kernel, gw_mem2 (i := 8132) rfl rfl, gw_all (by decide +kernel)⟩
def bkX11_dueOf_0 : List gw_E := [(0, 1, .aload_n 0, [0], [], []), (1, 3, .getfield 7, [11, 0, 1, 6073], [], []), (4, 1, .iconst 3, [], [3], []), (5, 1, .iaload, [], [], []), (6, 1, .iconst 1, [], [1], []), (7, 1, .iadd, [], [], []), (8, 1, .istore_n 2, [2], [], []), (9, 3, .ldc_w 268, [8142], [100000], []), (12, 1, .istore_n 3, [3], [], [])]
def bkX11_dueOf_13 : List gw_E := [(13, 1, .iload_n 2, [2], [], []), (14, 1, .iload_n 3, [3], [], []), (15, 3, .if_icmp .ge 34, [49], [], []), (18, 1, .iload_n 2, [2], [], []), (19, 1, .iload_n 3, [3], [], []), (20, 1, .iadd, [], [], []), (21, 1, .iconst 2, [], [2], []), (22, 1, .idiv, [], [], []), (23, 2, .istore 4, [4], [], []), (25, 1, .aload_n 0, [0], [], []), (26, 1, .iload_n 1, [1], [], []), (27, 2, .iload 4, [4], [], []), (29, 3, .invokevirtual 157, [2, 11, 7187, 7189, 72, 1013], [], [sgX11_isDue]), (32, 3, .ifCond .eq 9, [41], [], []), (35, 2, .iload 4, [4], [], []), (37, 1, .istore_n 3, [3], [], []), (38, 3, .goto 8, [46], [], [])]
def bkX11_dueOf_41 : List gw_E := [(41, 2, .iload 4, [4], [], []), (43, 1, .iconst 1, [], [1], []), (44, 1, .iadd, [], [], []), (45, 1, .istore_n 2, [2], [], [])]
def bkX11_dueOf_46 : List gw_E := [(46, 3, .goto (-33), [13], [], [])]
def bkX11_dueOf_49 : List gw_E := [(49, 1, .iload_n 2, [2], [], []), (50, 2, .ldc 225, [7178], [99999], []), (52, 3, .if_icmp .le 7, [59], [], []), (55, 1, .iconst (-1), [], [-1], []), (56, 3, .goto 4, [60], [], [])]
def bkX11_dueOf_59 : List gw_E := [(59, 1, .iload_n 2, [2], [], [])]
def bkX11_dueOf_60 : List gw_E := [(60, 1, .ireturn, [0], [], [])]
def bsX11_dueOf : List (Nat × List gw_E) := [(0, bkX11_dueOf_0), (13, bkX11_dueOf_13), (41, bkX11_dueOf_41), (46, bkX11_dueOf_46), (49, bkX11_dueOf_49), (59, bkX11_dueOf_59), (60, bkX11_dueOf_60)]
theorem fdX11_dueOf_0 : gw_find bsX11_dueOf 0 = bkX11_dueOf_0 := rfl
theorem fdX11_dueOf_13 : gw_find bsX11_dueOf 13 = bkX11_dueOf_13 := rfl
theorem fdX11_dueOf_41 : gw_find bsX11_dueOf 41 = bkX11_dueOf_41 := rfl
theorem fdX11_dueOf_46 : gw_find bsX11_dueOf 46 = bkX11_dueOf_46 := rfl
theorem fdX11_dueOf_49 : gw_find bsX11_dueOf 49 = bkX11_dueOf_49 := rfl
theorem fdX11_dueOf_59 : gw_find bsX11_dueOf 59 = bkX11_dueOf_59 := rfl
theorem fdX11_dueOf_60 : gw_find bsX11_dueOf 60 = bkX11_dueOf_60 := rfl
set_option maxRecDepth 40000 in
theorem stX11_dueOf : gw_sta sgX11_dueOf bsX11_dueOf := ⟨by decide +kernel, gw_mem2 (i := 8141) rfl rfl, gw_all (by decide +kernel)⟩
def bkX11_timed_0 : List gw_E := [(0, 1, .iload_n 1, [1], [], []), (1, 1, .iconst (-1), [], [-1], []), (2, 3, .if_icmp .ne 11, [13], [], []), (5, 1, .aload_n 0, [0], [], []), (6, 3, .getfield 7, [11, 0, 1, 6073], [], []), (9, 2, .bipush 26, [], [26], []), (11, 1, .iaload, [], [], []), (12, 1, .ireturn, [0], [], [])]
def bkX11_timed_13 : List gw_E := [(13, 1, .iload_n 1, [1], [], []), (14, 1, .iconst 0, [], [0], []), (15, 1, .aload_n 0, [0], [], []), (16, 3, .getfield 7, [11, 0, 1, 6073], [], []), (19, 2, .bipush 26, [], [26], []), (21, 1, .iaload, [], [], []), (22, 1, .iconst 1, [], [1], []), (23, 1, .isub, [], [], []), (24, 3, .invokestatic 33, [3, 0, 6122, 6123, 1013, 0], [], [sgX11_isIn]), (27, 3, .ifCond .eq 12, [39], [], []), (30, 1, .iload_n 2, [2], [], []), (31, 1, .iconst 0, [], [0], []), (32, 1, .iconst 3, [], [3], []), (33, 3, .invokestatic 33, [3, 0, 6122, 6123, 1013, 0], [], [sgX11_isIn]), (36, 3, .ifCond .ne 7, [43], [], [])]
def bkX11_timed_39 : List gw_E := [(39, 3, .ldc_w 267, [8133], [-1000000000], []), (42, 1, .ireturn, [0], [], [])]
def bkX11_timed_43 : List gw_E := [(43, 1, .iload_n 2, [2], [], []), (44, 1, .iconst 3, [], [3], []), (45, 3, .if_icmp .ne 11, [56], [], []), (48, 1, .aload_n 0, [0], [], []), (49, 1, .iload_n 1, [1], [], []), (50, 3, .invokevirtual 269, [1, 11, 8138, 8140, 86, 1013], [], [sgX11_dueOf]), (53, 3, .goto 9, [62], [], [])]
def bkX11_timed_56 : List gw_E := [(56, 1, .aload_n 0, [0], [], []), (57, 1, .iload_n 1, [1], [], []), (58, 1, .iload_n 2, [2], [], []), (59, 3, .invokevirtual 151, [2, 11, 7191, 7193, 73, 1013], [], [sgX11_ofTimer])]
def bkX11_timed_62 : List gw_E := [(62, 1, .ireturn, [0], [], [])]
def bsX11_timed : List (Nat × List gw_E) := [(0, bkX11_timed_0), (13, bkX11_timed_13), (39, bkX11_timed_39), (43, bkX11_timed_43), (56, bkX11_timed_56), (62, bkX11_timed_62)]
theorem fdX11_timed_0 : gw_find bsX11_timed 0 = bkX11_timed_0 := rfl
theorem fdX11_timed_13 : gw_find bsX11_timed 13 = bkX11_timed_13 := rfl
theorem fdX11_timed_39 : gw_find bsX11_timed 39 = bkX11_timed_39 := rfl
theorem fdX11_timed_43 : gw_find bsX11_timed 43 = bkX11_timed_43 := rfl
theorem fdX11_timed_56 : gw_find bsX11_timed 56 = bkX11_timed_56 := rfl
theorem fdX11_timed_62 : gw_find bsX11_timed 62 = bkX11_timed_62 := rfl
set_option maxRecDepth 40000 in
theorem stX11_timed : gw_sta sgX11_timed bsX11_timed := ⟨by decide +kernel, gw_mem2 (i := 8137) rfl rfl, gw_all (by decide +kernel)⟩
def bkX11_first_0 : List gw_E := [(0, 1, .iconst (-1), [], [-1], []), (1, 1, .istore_n 1, [1], [], []), (2, 1, .iconst 0, [], [0], []), (3, 1, .istore_n 2, [2], [], [])]
def bkX11_first_4 : List gw_E := [(4, 1, .iload_n 2, [2], [], []), (5, 1, .aload_n 0, [0], [], []), (6, 3, .getfield 7, [11, 0, 1, 6073], [], []), (9, 2, .bipush 26, [], [26], []), (11, 1, .iaload, [], [], []), (12, 3, .if_icmp .ge 63, [75], [], []), (15, 1, .aload_n 0, [0], [], []), (16, 1, .iload_n 2, [2], [], []), (17, 3, .invokevirtual 269, [1, 11, 8138, 8140, 86, 1013], [], [sgX11_dueOf]), (20, 1, .iconst (-1), [], [-1], []), (21, 3, .if_icmp .ne 6, [27], [], []), (24, 3, .goto 45, [69], [], [])]
def bkX11_first_27 : List gw_E := [(27, 1, .iload_n 1, [1], [], []), (28, 1, .iconst (-1), [], [-1], []), (29, 3, .if_icmp .eq 38, [67], [], []), (32, 1, .aload_n 0, [0], [], []), (33, 1, .iload_n 2, [2], [], []), (34, 3, .invokevirtual 269, [1, 11, 8138, 8140, 86, 1013], [], [sgX11_dueOf]), (37, 1, .aload_n 0, [0], [], []), (38, 1, .iload_n 1, [1], [], []), (39, 3, .invokevirtual 269, [1, 11, 8138, 8140, 86, 1013], [], [sgX11_dueOf]), (42, 3, .if_icmp .lt 25, [67], [], []), (45, 1, .aload_n 0, [0], [], []), (46, 1, .iload_n 2, [2], [], []), (47, 3, .invokevirtual 269, [1, 11, 8138, 8140, 86, 1013], [], [sgX11_dueOf]), (50, 1, .aload_n 0, [0], [], []), (51, 1, .iload_n 1, [1], [], []), (52, 3, .invokevirtual 269, [1, 11, 8138, 8140, 86, 1013], [], [sgX11_dueOf]), (55, 3, .if_icmp .ne 14, [69], [], []), (58, 1, .aload_n 0, [0], [], []), (59, 1, .iload_n 2, [2], [], []), (60, 1, .iload_n 1, [1], [], []), (61, 3, .invokevirtual 160, [2, 11, 7199, 7201, 75, 1013], [], [sgX11_isAhead]), (64, 3, .ifCond .eq 5, [69], [], [])]
def bkX11_first_67 : List gw_E := [(67, 1, .iload_n 2, [2], [], []), (68, 1, .istore_n 1, [1], [], [])]
def bkX11_first_69 : List gw_E := [(69, 3, .iinc 2 1, [2], [1], []), (72, 3, .goto (-68), [4], [], [])]
def bkX11_first_75 : List gw_E := [(75, 1, .iload_n 1, [1], [], []), (76, 1, .ireturn, [0], [], [])]
def bsX11_first : List (Nat × List gw_E) := [(0, bkX11_first_0), (4, bkX11_first_4), (27, bkX11_first_27), (67, bkX11_first_67), (69, bkX11_first_69), (75, bkX11_first_75)]
theorem fdX11_first_0 : gw_find bsX11_first 0 = bkX11_first_0 := rfl
theorem fdX11_first_4 : gw_find bsX11_first 4 = bkX11_first_4 := rfl
theorem fdX11_first_27 : gw_find bsX11_first 27 = bkX11_first_27 := rfl
theorem fdX11_first_67 : gw_find bsX11_first 67 = bkX11_first_67 := rfl
theorem fdX11_first_69 : gw_find bsX11_first 69 = bkX11_first_69 := rfl
theorem fdX11_first_75 : gw_find bsX11_first 75 = bkX11_first_75 := rfl
set_option maxRecDepth 40000 in
theorem stX11_first : gw_sta sgX11_first bsX11_first := ⟨by decide +kernel, gw_mem2 (i := 8146) rfl rfl, gw_all (by decide +kernel)⟩
def bkX11_program_0 : List gw_E := [(0, 1, .iload_n 1, [1], [], []), (1, 3, .invokestatic 208, [1, 0, 7107, 7108, 1013, 0], [], [sgX11_isGuest]), (4, 3, .ifCond .ne 6, [10], [], []), (7, 2, .bipush (-2), [], [-2], []), (9, 1, .ireturn, [0], [], [])]
def bkX11_program_10 : List gw_E := [(10, 1, .aload_n 0, [0], [], []), (11, 1, .iload_n 1, [1], [], []), (12, 3, .invokevirtual 37, [1, 11, 6141, 6143, 27, 1013], [], [sgX11_guestAt]), (15, 2, .istore 4, [4], [], []), (17, 1, .iload_n 2, [2], [], []), (18, 1, .iconst (-1), [], [-1], []), (19, 3, .if_icmp .ne 14, [33], [], []), (22, 1, .aload_n 0, [0], [], []), (23, 3, .getfield 7, [11, 0, 1, 6073], [], []), (26, 2, .iload 4, [4], [], []), (28, 2, .bipush 6, [], [6], []), (30, 1, .iadd, [], [], []), (31, 1, .iaload, [], [], []), (32, 1, .ireturn, [0], [], [])]
def bkX11_program_33 : List gw_E := [(33, 1, .iload_n 2, [2], [], []), (34, 1, .iconst 0, [], [0], []), (35, 1, .aload_n 0, [0], [], []), (36, 3, .getfield 7, [11, 0, 1, 6073], [], []), (39, 2, .iload 4, [4], [], []), (41, 2, .bipush 6, [], [6], []), (43, 1, .iadd, [], [], []), (44, 1, .iaload, [], [], []), (45, 1, .iconst 1, [], [1], []), (46, 1, .isub, [], [], []), (47, 3, .invokestatic 33, [3, 0, 6122, 6123, 1013, 0], [], [sgX11_isIn]), (50, 3, .ifCond .eq 31, [81], [], []), (53, 1, .iload_n 3, [3], [], []), (54, 1, .iconst 0, [], [0], []), (55, 1, .iconst 2, [], [2], []), (56, 3, .invokestatic 33, [3, 0, 6122, 6123, 1013, 0], [], [sgX11_isIn]), (59, 3, .ifCond .eq 22, [81], [], []), (62, 1, .aload_n 0, [0], [], []), (63, 3, .getfield 7, [11, 0, 1, 6073], [], []), (66, 2, .iload 4, [4], [], []), (68, 2, .bipush 7, [], [7], []), (70, 1, .iadd, [], [], []), (71, 1, .iconst 3, [], [3], []), (72, 1, .iload_n 2, [2], [], []), (73, 1, .imul, [], [], []), (74, 1, .iadd, [], [], []), (75, 1, .iload_n 3, [3], [], []), (76, 1, .iadd, [], [], []), (77, 1, .iaload, [], [], []), (78, 3, .goto 5, [83], [], [])]
def bkX11_program_81 : List gw_E := [(81, 2, .bipush (-2), [], [-2], [])]
def bkX11_program_83 : List gw_E := [(83, 1, .ireturn, [0], [], [])]
def bsX11_program : List (Nat × List gw_E) := [(0, bkX11_program_0), (10, bkX11_program_10), (33, bkX11_program_33), (81, bkX11_program_81), (83, bkX11_program_83)]
theorem fdX11_program_0 : gw_find bsX11_program 0 = bkX11_program_0 := rfl
theorem fdX11_program_10 : gw_find bsX11_program 10 = bkX11_program_10 := rfl
theorem fdX11_program_33 : gw_find bsX11_program 33 = bkX11_program_33 := rfl
theorem fdX11_program_81 : gw_find bsX11_program 81 = bkX11_program_81 := rfl
theorem fdX11_program_83 : gw_find bsX11_program 83 = bkX11_program_83 := rfl
set_option maxRecDepth 40000 in
theorem stX11_program : gw_sta sgX11_program bsX11_program := ⟨by decide +kernel, gw_mem2 (i := 8150) rfl rfl, gw_all (by decide +kernel)⟩
def bkX11_foretold_0 : List gw_E := [(0, 1, .aload_n 0, [0], [], []), (1, 1, .iload_n 1, [1], [], []), (2, 3, .sipush 200, [], [200], []), (5, 3, .invokevirtual 252, [2, 11, 7221, 7223, 76, 1013], [], [sgX11_canGo]), (8, 3, .ifCond .ne 5, [13], [], []), (11, 1, .iconst (-1), [], [-1], []), (12, 1, .ireturn, [0], [], [])]
def bkX11_foretold_13 : List gw_E := [(13, 1, .aload_n 0, [0], [], []), (14, 3, .invokevirtual 272, [0, 11, 8155, 8157, 87, 1013], [], [sgX11_putAside]), (17, 1, .iconst 0, [], [0], []), (18, 1, .istore_n 3, [3], [], [])]
def bkX11_foretold_19 : List gw_E := [(19, 1, .iload_n 3, [3], [], []), (20, 1, .iload_n 1, [1], [], []), (21, 3, .if_icmp .ge 13, [34], [], []), (24, 1, .aload_n 0, [0], [], []), (25, 3, .invokevirtual 258, [0, 11, 7229, 7231, 78, 1013], [], [sgX11_goNow]), (28, 3, .iinc 3 1, [3], [1], []), (31, 3, .goto (-12), [19], [], [])]
def bkX11_foretold_34 : List gw_E := [(34, 1, .aload_n 0, [0], [], []), (35, 1, .iload_n 2, [2], [], []), (36, 3, .invokevirtual 275, [1, 11, 8159, 8014, 8015, 1013], [], [sgX11_is]), (39, 1, .istore_n 3, [3], [], []), (40, 1, .aload_n 0, [0], [], []), (41, 3, .invokevirtual 278, [0, 11, 8160, 8162, 88, 1013], [], [sgX11_bringBack]), (44, 1, .iload_n 3, [3], [], []), (45, 1, .ireturn, [0], [], [])]
def bsX11_foretold : List (Nat × List gw_E) := [(0, bkX11_foretold_0), (13, bkX11_foretold_13), (19, bkX11_foretold_19), (34, bkX11_foretold_34)]
theorem fdX11_foretold_0 : gw_find bsX11_foretold 0 = bkX11_foretold_0 := rfl
theorem fdX11_foretold_13 : gw_find bsX11_foretold 13 = bkX11_foretold_13 := rfl
theorem fdX11_foretold_19 : gw_find bsX11_foretold 19 = bkX11_foretold_19 := rfl
theorem fdX11_foretold_34 : gw_find bsX11_foretold 34 = bkX11_foretold_34 := rfl
set_option maxRecDepth 40000 in
theorem stX11_foretold : gw_sta sgX11_foretold bsX11_foretold := ⟨by decide +kernel, gw_mem2 (i := 8154) rfl rfl, gw_all (by decide +kernel)⟩
def bkX11_tillMore_0 : List gw_E := [(0, 1, .aload_n 0, [0], [], []), (1, 3, .getfield 7, [11, 0, 1, 6073], [], []), (4, 1, .iload_n 1, [1], [], []), (5, 1, .iaload, [], [], []), (6, 1, .istore_n 2, [2], [], []), (7, 1, .iconst 0, [], [0], []), (8, 1, .istore_n 3, [3], [], []), (9, 1, .aload_n 0, [0], [], []), (10, 3, .invokevirtual 272, [0, 11, 8155, 8157, 87, 1013], [], [sgX11_putAside])]
def bkX11_tillMore_13 : List gw_E := [(13, 1, .iload_n 3, [3], [], []), (14, 3, .sipush 200, [], [200], []), (17, 3, .if_icmp .ge 34, [51], [], []), (20, 1, .aload_n 0, [0], [], []), (21, 3, .getfield 7, [11, 0, 1, 6073], [], []), (24, 1, .iconst 3, [], [3], []), (25, 1, .iaload, [], [], []), (26, 2, .ldc 225, [7178], [99999], []), (28, 3, .if_icmp .ge 23, [51], [], []), (31, 1, .aload_n 0, [0], [], []), (32, 3, .getfield 7, [11, 0, 1, 6073], [], []), (35, 1, .iload_n 1, [1], [], []), (36, 1, .iaload, [], [], []), (37, 1, .iload_n 2, [2], [], []), (38, 3, .if_icmp .ne 13, [51], [], []), (41, 1, .aload_n 0, [0], [], []), (42, 3, .invokevirtual 258, [0, 11, 7229, 7231, 78, 1013], [], [sgX11_goNow]), (45, 3, .iinc 3 1, [3], [1], []), (48, 3, .goto (-35), [13], [], [])]
def bkX11_tillMore_51 : List gw_E := [(51, 1, .aload_n 0, [0], [], []), (52, 3, .getfield 7, [11, 0, 1, 6073], [], []), (55, 1, .iload_n 1, [1], [], []), (56, 1, .iaload, [], [], []), (57, 1, .iload_n 2, [2], [], []), (58, 3, .if_icmp .eq 7, [65], [], []), (61, 1, .iconst 1, [], [1], []), (62, 3, .goto 4, [66], [], [])]
def bkX11_tillMore_65 : List gw_E := [(65, 1, .iconst 0, [], [0], [])]
def bkX11_tillMore_66 : List gw_E := [(66, 2, .istore 4, [4], [], []), (68, 1, .aload_n 0, [0], [], []), (69, 3, .invokevirtual 278, [0, 11, 8160, 8162, 88, 1013], [], [sgX11_bringBack]), (72, 2, .iload 4, [4], [], []), (74, 3, .ifCond .eq 7, [81], [], []), (77, 1, .iload_n 3, [3], [], []), (78, 3, .goto 4, [82], [], [])]
def bkX11_tillMore_81 : List gw_E := [(81, 1, .iconst (-1), [], [-1], [])]
def bkX11_tillMore_82 : List gw_E := [(82, 1, .ireturn, [0], [], [])]
def bsX11_tillMore : List (Nat × List gw_E) := [(0, bkX11_tillMore_0), (13, bkX11_tillMore_13), (51, bkX11_tillMore_51), (65, bkX11_tillMore_65), (66, bkX11_tillMore_66), (81, bkX11_tillMore_81), (82, bkX11_tillMore_82)]
theorem fdX11_tillMore_0 : gw_find bsX11_tillMore 0 = bkX11_tillMore_0 := rfl
theorem fdX11_tillMore_13 : gw_find bsX11_tillMore 13 = bkX11_tillMore_13 := rfl
theorem fdX11_tillMore_51 : gw_find bsX11_tillMore 51 = bkX11_tillMore_51 := rfl
theorem fdX11_tillMore_65 : gw_find bsX11_tillMore 65 = bkX11_tillMore_65 := rfl
theorem fdX11_tillMore_66 : gw_find bsX11_tillMore 66 = bkX11_tillMore_66 := rfl
theorem fdX11_tillMore_81 : gw_find bsX11_tillMore 81 = bkX11_tillMore_81 := rfl
theorem fdX11_tillMore_82 : gw_find bsX11_tillMore 82 = bkX11_tillMore_82 := rfl
set_option maxRecDepth 40000 in
theorem stX11_tillMore : gw_sta sgX11_tillMore bsX11_tillMore := ⟨by decide +kernel, gw_mem2 (i := 8171) rfl rfl, gw_all (by decide +kernel)⟩
def bkX11_till_0 : List gw_E := [(0, 1, .aload_n 0, [0], [], []), (1, 2, .bipush 6, [], [6], []), (3, 3, .invokevirtual 281, [1, 11, 8168, 8170, 89, 1013], [], [sgX11_tillMore]), (6, 1, .ireturn, [0], [], [])]
def bsX11_till : List (Nat × List gw_E) := [(0, bkX11_till_0)]
theorem fdX11_till_0 : gw_find bsX11_till 0 = bkX11_till_0 := rfl
set_option maxRecDepth 40000 in
theorem stX11_till : gw_sta sgX11_till bsX11_till := ⟨by decide +kernel, gw_mem2 (i := 8167) rfl rfl, gw_all (by decide +kernel)⟩
def bkX11_waits_0 : List gw_E := [(0, 1, .iload_n 1, [1], [], []), (1, 3, .invokestatic 208, [1, 0, 7107, 7108, 1013, 0], [], [sgX11_isGuest]), (4, 3, .ifCond .eq 16, [20], [], []), (7, 1, .aload_n 0, [0], [], []), (8, 2, .bipush 9, [], [9], []), (10, 1, .iload_n 1, [1], [], []), (11, 1, .iadd, [], [], []), (12, 1, .iconst 1, [], [1], []), (13, 1, .isub, [], [], []), (14, 3, .invokevirtual 281, [1, 11, 8168, 8170, 89, 1013], [], [sgX11_tillMore]), (17, 3, .goto 4, [21], [], [])]
def bkX11_waits_20 : List gw_E := [(20, 1, .iconst (-1), [], [-1], [])]
def bkX11_waits_21 : List gw_E := [(21, 1, .ireturn, [0], [], [])]
def bsX11_waits : List (Nat × List gw_E) := [(0, bkX11_waits_0), (20, bkX11_waits_20), (21, bkX11_waits_21)]
theorem fdX11_waits_0 : gw_find bsX11_waits 0 = bkX11_waits_0 := rfl
theorem fdX11_waits_20 : gw_find bsX11_waits 20 = bkX11_waits_20 := rfl
theorem fdX11_waits_21 : gw_find bsX11_waits 21 = bkX11_waits_21 := rfl
set_option maxRecDepth 40000 in
theorem stX11_waits : gw_sta sgX11_waits bsX11_waits := ⟨by decide +kernel, gw_mem2 (i := 8175) rfl rfl, gw_all (by decide +kernel)⟩
def bkX11_seenBy_0 : List gw_E := [(0, 1, .aload_n 0, [0], [], []), (1, 3, .invokevirtual 272, [0, 11, 8155, 8157, 87, 1013], [], [sgX11_putAside]), (4, 1, .aload_n 0, [0], [], []), (5, 3, .invokevirtual 148, [0, 11, 7134, 7136, 68, 1013], [], [sgX11_unfoldAll]), (8, 1, .aload_n 0, [0], [], []), (9, 1, .iload_n 1, [1], [], []), (10, 3, .invokevirtual 190, [1, 11, 6203, 6205, 39, 1013], [], [sgX11_roomNow]), (13, 1, .aload_n 0, [0], [], []), (14, 3, .getfield 7, [11, 0, 1, 6073], [], []), (17, 1, .iconst 5, [], [5], []), (18, 1, .iaload, [], [], []), (19, 1, .istore_n 3, [3], [], []), (20, 1, .iconst 0, [], [0], []), (21, 2, .istore 4, [4], [], [])]
def bkX11_seenBy_23 : List gw_E := [(23, 2, .iload 4, [4], [], []), (25, 1, .iload_n 2, [2], [], []), (26, 3, .if_icmp .ge 13, [39], [], []), (29, 1, .aload_n 0, [0], [], []), (30, 3, .invokevirtual 258, [0, 11, 7229, 7231, 78, 1013], [], [sgX11_goNow]), (33, 3, .iinc 4 1, [4], [1], []), (36, 3, .goto (-13), [23], [], [])]
def bkX11_seenBy_39 : List gw_E := [(39, 1, .aload_n 0, [0], [], []), (40, 3, .getfield 7, [11, 0, 1, 6073], [], []), (43, 1, .iconst 5, [], [5], []), (44, 1, .iaload, [], [], []), (45, 1, .iload_n 3, [3], [], []), (46, 1, .isub, [], [], []), (47, 2, .istore 4, [4], [], []), (49, 1, .aload_n 0, [0], [], []), (50, 3, .invokevirtual 278, [0, 11, 8160, 8162, 88, 1013], [], [sgX11_bringBack]), (53, 2, .iload 4, [4], [], []), (55, 1, .ireturn, [0], [], [])]
def bsX11_seenBy : List (Nat × List gw_E) := [(0, bkX11_seenBy_0), (23, bkX11_seenBy_23), (39, bkX11_seenBy_39)]
theorem fdX11_seenBy_0 : gw_find bsX11_seenBy 0 = bkX11_seenBy_0 := rfl
theorem fdX11_seenBy_23 : gw_find bsX11_seenBy 23 = bkX11_seenBy_23 := rfl
theorem fdX11_seenBy_39 : gw_find bsX11_seenBy 39 = bkX11_seenBy_39 := rfl
set_option maxRecDepth 40000 in
theorem stX11_seenBy : gw_sta sgX11_seenBy bsX11_seenBy := ⟨by decide +kernel, gw_mem2 (i := 8183) rfl rfl, gw_all (by decide +kernel)⟩
def bkX11_roomiest_0 : List gw_E := [(0, 1, .aload_n 0, [0], [], []), (1, 1, .iload_n 1, [1], [], []), (2, 2, .bipush 100, [], [100], []), (4, 3, .invokevirtual 252, [2, 11, 7221, 7223, 76, 1013], [], [sgX11_canGo]), (7, 3, .ifCond .ne 5, [12], [], []), (10, 1, .iconst (-1), [], [-1], []), (11, 1, .ireturn, [0], [], [])]
def bkX11_roomiest_12 : List gw_E := [(12, 1, .iconst 1, [], [1], []), (13, 1, .istore_n 2, [2], [], []), (14, 1, .aload_n 0, [0], [], []), (15, 1, .iconst 1, [], [1], []), (16, 1, .iload_n 1, [1], [], []), (17, 3, .invokevirtual 284, [2, 11, 8180, 8182, 90, 1013], [], [sgX11_seenBy]), (20, 1, .istore_n 3, [3], [], []), (21, 1, .iconst 2, [], [2], []), (22, 2, .istore 4, [4], [], [])]
def bkX11_roomiest_24 : List gw_E := [(24, 2, .iload 4, [4], [], []), (26, 2, .bipush 16, [], [16], []), (28, 3, .if_icmp .gt 33, [61], [], []), (31, 1, .aload_n 0, [0], [], []), (32, 2, .iload 4, [4], [], []), (34, 1, .iload_n 1, [1], [], []), (35, 3, .invokevirtual 284, [2, 11, 8180, 8182, 90, 1013], [], [sgX11_seenBy]), (38, 2, .istore 5, [5], [], []), (40, 2, .iload 5, [5], [], []), (42, 1, .iload_n 3, [3], [], []), (43, 3, .if_icmp .lt 6, [49], [], []), (46, 3, .goto 9, [55], [], [])]
def bkX11_roomiest_49 : List gw_E := [(49, 2, .iload 4, [4], [], []), (51, 1, .istore_n 2, [2], [], []), (52, 2, .iload 5, [5], [], []), (54, 1, .istore_n 3, [3], [], [])]
def bkX11_roomiest_55 : List gw_E := [(55, 3, .iinc 4 1, [4], [1], []), (58, 3, .goto (-34), [24], [], [])]
def bkX11_roomiest_61 : List gw_E := [(61, 1, .iload_n 2, [2], [], []), (62, 1, .ireturn, [0], [], [])]
def bsX11_roomiest : List (Nat × List gw_E) := [(0, bkX11_roomiest_0), (12, bkX11_roomiest_12), (24, bkX11_roomiest_24), (49, bkX11_roomiest_49), (55, bkX11_roomiest_55), (61, bkX11_roomiest_61)]
theorem fdX11_roomiest_0 : gw_find bsX11_roomiest 0 = bkX11_roomiest_0 := rfl
theorem fdX11_roomiest_12 : gw_find bsX11_roomiest 12 = bkX11_roomiest_12 := rfl
theorem fdX11_roomiest_24 : gw_find bsX11_roomiest 24 = bkX11_roomiest_24 := rfl
theorem fdX11_roomiest_49 : gw_find bsX11_roomiest 49 = bkX11_roomiest_49 := rfl
theorem fdX11_roomiest_55 : gw_find bsX11_roomiest 55 = bkX11_roomiest_55 := rfl
theorem fdX11_roomiest_61 : gw_find bsX11_roomiest 61 = bkX11_roomiest_61 := rfl
set_option maxRecDepth 40000 in
theorem stX11_roomiest : gw_sta sgX11_roomiest bsX11_roomiest := ⟨by decide +kernel, gw_mem2 (i := 8179) rfl rfl, gw_all (by decide +kernel)⟩
def bkX11_plainValue_0 : List gw_E := [(0, 1, .aload_n 0, [0], [], []), (1, 1, .iconst 1, [], [1], []), (2, 1, .iload_n 1, [1], [], []), (3, 3, .invokevirtual 52, [2, 11, 6149, 6151, 29, 1013], [], [sgX11_toOf]), (6, 1, .istore_n 2, [2], [], []), (7, 1, .iload_n 2, [2], [], []), (8, 1, .iconst (-1), [], [-1], []), (9, 3, .if_icmp .ne 5, [14], [], []), (12, 1, .iconst 0, [], [0], []), (13, 1, .ireturn, [0], [], [])]
def bkX11_plainValue_14 : List gw_E := [(14, 1, .aload_n 0, [0], [], []), (15, 1, .iconst 2, [], [2], []), (16, 1, .iload_n 2, [2], [], []), (17, 3, .invokevirtual 52, [2, 11, 6149, 6151, 29, 1013], [], [sgX11_toOf]), (20, 1, .iconst (-1), [], [-1], []), (21, 3, .if_icmp .eq 19, [40], [], []), (24, 1, .aload_n 0, [0], [], []), (25, 3, .getfield 7, [11, 0, 1, 6073], [], []), (28, 3, .sipush 802, [], [802], []), (31, 1, .aload_n 0, [0], [], []), (32, 1, .iconst 2, [], [2], []), (33, 1, .iload_n 2, [2], [], []), (34, 3, .invokevirtual 52, [2, 11, 6149, 6151, 29, 1013], [], [sgX11_toOf]), (37, 1, .iadd, [], [], []), (38, 1, .iaload, [], [], []), (39, 1, .ireturn, [0], [], [])]
def bkX11_plainValue_40 : List gw_E := [(40, 1, .aload_n 0, [0], [], []), (41, 3, .getfield 7, [11, 0, 1, 6073], [], []), (44, 3, .sipush 812, [], [812], []), (47, 1, .iload_n 2, [2], [], []), (48, 1, .iadd, [], [], []), (49, 1, .iaload, [], [], []), (50, 1, .iconst (-1), [], [-1], []), (51, 3, .if_icmp .ne 7, [58], [], []), (54, 1, .iconst 0, [], [0], []), (55, 3, .goto 13, [68], [], [])]
def bkX11_plainValue_58 : List gw_E := [(58, 1, .aload_n 0, [0], [], []), (59, 3, .getfield 7, [11, 0, 1, 6073], [], []), (62, 3, .sipush 812, [], [812], []), (65, 1, .iload_n 2, [2], [], []), (66, 1, .iadd, [], [], []), (67, 1, .iaload, [], [], [])]
def bkX11_plainValue_68 : List gw_E := [(68, 1, .ireturn, [0], [], [])]
def bsX11_plainValue : List (Nat × List gw_E) := [(0, bkX11_plainValue_0), (14, bkX11_plainValue_14), (40, bkX11_plainValue_40), (58, bkX11_plainValue_58), (68, bkX11_plainValue_68)]
theorem fdX11_plainValue_0 : gw_find bsX11_plainValue 0 = bkX11_plainValue_0 := rfl
theorem fdX11_plainValue_14 : gw_find bsX11_plainValue 14 = bkX11_plainValue_14 := rfl
theorem fdX11_plainValue_40 : gw_find bsX11_plainValue 40 = bkX11_plainValue_40 := rfl
theorem fdX11_plainValue_58 : gw_find bsX11_plainValue 58 = bkX11_plainValue_58 := rfl
theorem fdX11_plainValue_68 : gw_find bsX11_plainValue 68 = bkX11_plainValue_68 := rfl
set_option maxRecDepth 40000 in
theorem stX11_plainValue : gw_sta sgX11_plainValue bsX11_plainValue := ⟨by decide +kernel, gw_mem2 (i := 8195) rfl rfl, gw_all (by decide +kernel)⟩
def bkX11_plainTrap_0 : List gw_E := [(0, 1, .aload_n 0, [0], [], []), (1, 1, .dup, [], [], []), (2, 3, .getfield 287, [11, 5, 0, 6078], [], []), (5, 1, .iconst 1, [], [1], []), (6, 1, .iadd, [], [], []), (7, 3, .putfield 287, [11, 5, 0, 6078], [], []), (10, 1, .aload_n 0, [0], [], []), (11, 1, .iload_n 2, [2], [], []), (12, 3, .putfield 291, [11, 8, 0, 6081], [], []), (15, 1, .aload_n 0, [0], [], []), (16, 1, .iload_n 3, [3], [], []), (17, 3, .putfield 294, [11, 9, 0, 6082], [], []), (20, 1, .aload_n 0, [0], [], []), (21, 1, .iload_n 1, [1], [], []), (22, 1, .aload_n 0, [0], [], []), (23, 3, .getfield 7, [11, 0, 1, 6073], [], []), (26, 1, .iload_n 1, [1], [], []), (27, 3, .sipush 143, [], [143], []), (30, 1, .iadd, [], [], []), (31, 1, .iaload, [], [], []), (32, 3, .invokevirtual 236, [2, 11, 8001, 8003, 81, 1013], [], [sgX11_hasPlace]), (35, 3, .ifCond .eq 17, [52], [], []), (38, 1, .aload_n 0, [0], [], []), (39, 1, .aload_n 0, [0], [], []), (40, 3, .getfield 7, [11, 0, 1, 6073], [], []), (43, 1, .iload_n 1, [1], [], []), (44, 3, .sipush 143, [], [143], []), (47, 1, .iadd, [], [], []), (48, 1, .iaload, [], [], []), (49, 3, .putfield 297, [11, 7, 0, 6080], [], [])]
def bkX11_plainTrap_52 : List gw_E := [(52, 1, .return_, [], [], [])]
def bsX11_plainTrap : List (Nat × List gw_E) := [(0, bkX11_plainTrap_0), (52, bkX11_plainTrap_52)]
theorem fdX11_plainTrap_0 : gw_find bsX11_plainTrap 0 = bkX11_plainTrap_0 := rfl
theorem fdX11_plainTrap_52 : gw_find bsX11_plainTrap 52 = bkX11_plainTrap_52 := rfl
set_option maxRecDepth 40000 in
theorem stX11_plainTrap : gw_sta sgX11_plainTrap bsX11_plainTrap := ⟨by decide +kernel, gw_mem2 (i := 8207) rfl rfl, gw_all (by decide +kernel)⟩
def bkX11_plainTell_0 : List gw_E := [(0, 1, .aload_n 0, [0], [], []), (1, 3, .getfield 22, [11, 4, 1, 6077], [], []), (4, 1, .iconst 2, [], [2], []), (5, 1, .iload_n 1, [1], [], []), (6, 1, .imul, [], [], []), (7, 1, .iload_n 2, [2], [], []), (8, 1, .iastore, [], [], []), (9, 1, .aload_n 0, [0], [], []), (10, 3, .getfield 22, [11, 4, 1, 6077], [], []), (13, 1, .iconst 2, [], [2], []), (14, 1, .iload_n 1, [1], [], []), (15, 1, .imul, [], [], []), (16, 1, .iconst 1, [], [1], []), (17, 1, .iadd, [], [], []), (18, 2, .bipush 7, [], [7], []), (20, 1, .iastore, [], [], []), (21, 1, .return_, [], [], [])]
def bsX11_plainTell : List (Nat × List gw_E) := [(0, bkX11_plainTell_0)]
theorem fdX11_plainTell_0 : gw_find bsX11_plainTell 0 = bkX11_plainTell_0 := rfl
set_option maxRecDepth 40000 in
theorem stX11_plainTell : gw_sta sgX11_plainTell bsX11_plainTell := ⟨by decide +kernel, gw_mem2 (i := 8211) rfl rfl, gw_all (by decide +kernel)⟩
def bkX11_plainTouch_0 : List gw_E := [(0, 1, .aload_n 0, [0], [], []), (1, 3, .getfield 22, [11, 4, 1, 6077], [], []), (4, 1, .iconst 2, [], [2], []), (5, 1, .iload_n 3, [3], [], []), (6, 1, .imul, [], [], []), (7, 1, .iaload, [], [], []), (8, 1, .iconst (-1), [], [-1], []), (9, 3, .if_icmp .eq 21, [30], [], []), (12, 1, .aload_n 0, [0], [], []), (13, 3, .getfield 22, [11, 4, 1, 6077], [], []), (16, 1, .iconst 2, [], [2], []), (17, 1, .iload_n 3, [3], [], []), (18, 1, .imul, [], [], []), (19, 1, .iconst 1, [], [1], []), (20, 1, .iadd, [], [], []), (21, 1, .iaload, [], [], []), (22, 2, .iload 4, [4], [], []), (24, 3, .invokestatic 29, [2, 0, 6176, 6177, 1013, 0], [], [sgX11_has]), (27, 3, .ifCond .ne 11, [38], [], [])]
def bkX11_plainTouch_30 : List gw_E := [(30, 1, .aload_n 0, [0], [], []), (31, 1, .iload_n 1, [1], [], []), (32, 1, .iload_n 3, [3], [], []), (33, 1, .iload_n 2, [2], [], []), (34, 3, .invokevirtual 300, [3, 11, 8204, 8206, 95, 1013], [], [sgX11_plainTrap]), (37, 1, .return_, [], [], [])]
def bkX11_plainTouch_38 : List gw_E := [(38, 1, .aload_n 0, [0], [], []), (39, 3, .getfield 22, [11, 4, 1, 6077], [], []), (42, 1, .iconst 2, [], [2], []), (43, 1, .iload_n 3, [3], [], []), (44, 1, .imul, [], [], []), (45, 1, .iaload, [], [], []), (46, 2, .istore 6, [6], [], []), (48, 2, .iload 4, [4], [], []), (50, 1, .iconst 1, [], [1], []), (51, 3, .if_icmp .ne 15, [66], [], []), (54, 1, .aload_n 0, [0], [], []), (55, 3, .getfield 19, [11, 3, 1, 6076], [], []), (58, 2, .iload 6, [6], [], []), (60, 2, .iload 5, [5], [], []), (62, 1, .iastore, [], [], []), (63, 3, .goto 14, [77], [], [])]
def bkX11_plainTouch_66 : List gw_E := [(66, 1, .aload_n 0, [0], [], []), (67, 1, .aload_n 0, [0], [], []), (68, 3, .getfield 19, [11, 3, 1, 6076], [], []), (71, 2, .iload 6, [6], [], []), (73, 1, .iaload, [], [], []), (74, 3, .putfield 303, [11, 6, 0, 6079], [], [])]
def bkX11_plainTouch_77 : List gw_E := [(77, 1, .return_, [], [], [])]
def bsX11_plainTouch : List (Nat × List gw_E) := [(0, bkX11_plainTouch_0), (30, bkX11_plainTouch_30), (38, bkX11_plainTouch_38), (66, bkX11_plainTouch_66), (77, bkX11_plainTouch_77)]
theorem fdX11_plainTouch_0 : gw_find bsX11_plainTouch 0 = bkX11_plainTouch_0 := rfl
theorem fdX11_plainTouch_30 : gw_find bsX11_plainTouch 30 = bkX11_plainTouch_30 := rfl
theorem fdX11_plainTouch_38 : gw_find bsX11_plainTouch 38 = bkX11_plainTouch_38 := rfl
theorem fdX11_plainTouch_66 : gw_find bsX11_plainTouch 66 = bkX11_plainTouch_66 := rfl
theorem fdX11_plainTouch_77 : gw_find bsX11_plainTouch 77 = bkX11_plainTouch_77 := rfl
set_option maxRecDepth 40000 in
theorem stX11_plainTouch : gw_sta sgX11_plainTouch bsX11_plainTouch := ⟨by decide +kernel, gw_mem2 (i := 8203) rfl rfl, gw_all (by decide +kernel)⟩
def bkX11_layPlain_0 : List gw_E := [(0, 1, .aload_n 0, [0], [], []), (1, 1, .iconst 2, [], [2], []), (2, 3, .invokevirtual 37, [1, 11, 6141, 6143, 27, 1013], [], [sgX11_guestAt]), (5, 1, .istore_n 2, [2], [], []), (6, 1, .iconst 0, [], [0], []), (7, 1, .istore_n 3, [3], [], [])]
def bkX11_layPlain_8 : List gw_E := [(8, 1, .iload_n 3, [3], [], []), (9, 2, .bipush 16, [], [16], []), (11, 3, .if_icmp .ge 20, [31], [], []), (14, 1, .aload_n 0, [0], [], []), (15, 3, .getfield 19, [11, 3, 1, 6076], [], []), (18, 1, .iload_n 3, [3], [], []), (19, 1, .aload_n 0, [0], [], []), (20, 1, .iload_n 3, [3], [], []), (21, 3, .invokevirtual 306, [1, 11, 8192, 8194, 92, 1013], [], [sgX11_plainValue]), (24, 1, .iastore, [], [], []), (25, 3, .iinc 3 1, [3], [1], []), (28, 3, .goto (-20), [8], [], [])]
def bkX11_layPlain_31 : List gw_E := [(31, 1, .iconst 0, [], [0], []), (32, 1, .istore_n 3, [3], [], [])]
def bkX11_layPlain_33 : List gw_E := [(33, 1, .iload_n 3, [3], [], []), (34, 2, .bipush 32, [], [32], []), (36, 3, .if_icmp .ge 26, [62], [], []), (39, 1, .aload_n 0, [0], [], []), (40, 3, .getfield 22, [11, 4, 1, 6077], [], []), (43, 1, .iload_n 3, [3], [], []), (44, 1, .aload_n 0, [0], [], []), (45, 3, .getfield 7, [11, 0, 1, 6073], [], []), (48, 1, .iload_n 2, [2], [], []), (49, 2, .bipush 79, [], [79], []), (51, 1, .iadd, [], [], []), (52, 1, .iload_n 3, [3], [], []), (53, 1, .iadd, [], [], []), (54, 1, .iaload, [], [], []), (55, 1, .iastore, [], [], []), (56, 3, .iinc 3 1, [3], [1], []), (59, 3, .goto (-26), [33], [], [])]
def bkX11_layPlain_62 : List gw_E := [(62, 1, .aload_n 0, [0], [], []), (63, 1, .iconst 0, [], [0], []), (64, 3, .putfield 287, [11, 5, 0, 6078], [], []), (67, 1, .aload_n 0, [0], [], []), (68, 1, .iconst (-1), [], [-1], []), (69, 3, .putfield 303, [11, 6, 0, 6079], [], []), (72, 1, .aload_n 0, [0], [], []), (73, 1, .aload_n 0, [0], [], []), (74, 3, .getfield 7, [11, 0, 1, 6073], [], []), (77, 1, .iload_n 2, [2], [], []), (78, 1, .iconst 5, [], [5], []), (79, 1, .iadd, [], [], []), (80, 1, .iaload, [], [], []), (81, 3, .putfield 297, [11, 7, 0, 6080], [], []), (84, 1, .aload_n 0, [0], [], []), (85, 1, .aload_n 0, [0], [], []), (86, 3, .getfield 7, [11, 0, 1, 6073], [], []), (89, 1, .iload_n 2, [2], [], []), (90, 3, .sipush 144, [], [144], []), (93, 1, .iadd, [], [], []), (94, 1, .iaload, [], [], []), (95, 3, .putfield 291, [11, 8, 0, 6081], [], []), (98, 1, .aload_n 0, [0], [], []), (99, 1, .aload_n 0, [0], [], []), (100, 3, .getfield 7, [11, 0, 1, 6073], [], []), (103, 1, .iload_n 2, [2], [], []), (104, 3, .sipush 144, [], [144], []), (107, 1, .iadd, [], [], []), (108, 1, .iconst 1, [], [1], []), (109, 1, .iadd, [], [], []), (110, 1, .iaload, [], [], []), (111, 3, .putfield 294, [11, 9, 0, 6082], [], []), (114, 1, .iconst 0, [], [0], []), (115, 1, .istore_n 3, [3], [], [])]
def bkX11_layPlain_116 : List gw_E := [(116, 1, .iload_n 3, [3], [], []), (117, 1, .iload_n 1, [1], [], []), (118, 3, .if_icmp .ge 30, [148], [], []), (121, 1, .aload_n 0, [0], [], []), (122, 3, .getfield 7, [11, 0, 1, 6073], [], []), (125, 1, .iload_n 2, [2], [], []), (126, 2, .bipush 6, [], [6], []), (128, 1, .iadd, [], [], []), (129, 1, .iaload, [], [], []), (130, 3, .ifCond .le 18, [148], [], []), (133, 1, .aload_n 0, [0], [], []), (134, 1, .iload_n 2, [2], [], []), (135, 1, .aload_n 0, [0], [], []), (136, 3, .getfield 297, [11, 7, 0, 6080], [], []), (139, 3, .invokevirtual 309, [2, 11, 8196, 8198, 93, 1013], [], [sgX11_plainAct]), (142, 3, .iinc 3 1, [3], [1], []), (145, 3, .goto (-29), [116], [], [])]
def bkX11_layPlain_148 : List gw_E := [(148, 1, .return_, [], [], [])]
def bsX11_layPlain : List (Nat × List gw_E) := [(0, bkX11_layPlain_0), (8, bkX11_layPlain_8), (31, bkX11_layPlain_31), (33, bkX11_layPlain_33), (62, bkX11_layPlain_62), (116, bkX11_layPlain_116), (148, bkX11_layPlain_148)]
theorem fdX11_layPlain_0 : gw_find bsX11_layPlain 0 = bkX11_layPlain_0 := rfl
theorem fdX11_layPlain_8 : gw_find bsX11_layPlain 8 = bkX11_layPlain_8 := rfl
theorem fdX11_layPlain_31 : gw_find bsX11_layPlain 31 = bkX11_layPlain_31 := rfl
theorem fdX11_layPlain_33 : gw_find bsX11_layPlain 33 = bkX11_layPlain_33 := rfl
theorem fdX11_layPlain_62 : gw_find bsX11_layPlain 62 = bkX11_layPlain_62 := rfl
theorem fdX11_layPlain_116 : gw_find bsX11_layPlain 116 = bkX11_layPlain_116 := rfl
theorem fdX11_layPlain_148 : gw_find bsX11_layPlain 148 = bkX11_layPlain_148 := rfl
set_option maxRecDepth 40000 in
theorem stX11_layPlain : gw_sta sgX11_layPlain bsX11_layPlain := ⟨by decide +kernel, gw_mem2 (i := 8191) rfl rfl, gw_all (by decide +kernel)⟩
def bkX11_plainAct_0 : List gw_E := [(0, 1, .iload_n 1, [1], [], []), (1, 2, .bipush 7, [], [7], []), (3, 1, .iadd, [], [], []), (4, 1, .iconst 3, [], [3], []), (5, 1, .iload_n 2, [2], [], []), (6, 1, .imul, [], [], []), (7, 1, .iadd, [], [], []), (8, 1, .istore_n 3, [3], [], []), (9, 1, .aload_n 0, [0], [], []), (10, 1, .iload_n 2, [2], [], []), (11, 1, .iconst 1, [], [1], []), (12, 1, .iadd, [], [], []), (13, 1, .aload_n 0, [0], [], []), (14, 3, .getfield 7, [11, 0, 1, 6073], [], []), (17, 1, .iload_n 1, [1], [], []), (18, 2, .bipush 6, [], [6], []), (20, 1, .iadd, [], [], []), (21, 1, .iaload, [], [], []), (22, 1, .irem, [], [], []), (23, 3, .putfield 297, [11, 7, 0, 6080], [], []), (26, 1, .aload_n 0, [0], [], []), (27, 3, .getfield 7, [11, 0, 1, 6073], [], []), (30, 1, .iload_n 3, [3], [], []), (31, 1, .iaload, [], [], []), (32, 1, .iconst 3, [], [3], []), (33, 3, .if_icmp .ge 34, [67], [], []), (36, 1, .aload_n 0, [0], [], []), (37, 1, .iload_n 1, [1], [], []), (38, 1, .iload_n 2, [2], [], []), (39, 1, .aload_n 0, [0], [], []), (40, 3, .getfield 7, [11, 0, 1, 6073], [], []), (43, 1, .iload_n 3, [3], [], []), (44, 1, .iconst 1, [], [1], []), (45, 1, .iadd, [], [], []), (46, 1, .iaload, [], [], []), (47, 1, .aload_n 0, [0], [], []), (48, 3, .getfield 7, [11, 0, 1, 6073], [], []), (51, 1, .iload_n 3, [3], [], []), (52, 1, .iaload, [], [], []), (53, 1, .aload_n 0, [0], [], []), (54, 3, .getfield 7, [11, 0, 1, 6073], [], []), (57, 1, .iload_n 3, [3], [], []), (58, 1, .iconst 2, [], [2], []), (59, 1, .iadd, [], [], []), (60, 1, .iaload, [], [], []), (61, 3, .invokevirtual 312, [5, 11, 8200, 8202, 94, 1013], [], [sgX11_plainTouch]), (64, 3, .goto 106, [170], [], [])]
def bkX11_plainAct_67 : List gw_E := [(67, 1, .aload_n 0, [0], [], []), (68, 3, .getfield 7, [11, 0, 1, 6073], [], []), (71, 1, .iload_n 3, [3], [], []), (72, 1, .iaload, [], [], []), (73, 2, .bipush 6, [], [6], []), (75, 3, .if_icmp .ne 26, [101], [], []), (78, 1, .aload_n 0, [0], [], []), (79, 1, .aload_n 0, [0], [], []), (80, 3, .getfield 7, [11, 0, 1, 6073], [], []), (83, 1, .iload_n 3, [3], [], []), (84, 1, .iconst 1, [], [1], []), (85, 1, .iadd, [], [], []), (86, 1, .iaload, [], [], []), (87, 1, .aload_n 0, [0], [], []), (88, 3, .getfield 7, [11, 0, 1, 6073], [], []), (91, 1, .iload_n 3, [3], [], []), (92, 1, .iconst 2, [], [2], []), (93, 1, .iadd, [], [], []), (94, 1, .iaload, [], [], []), (95, 3, .invokevirtual 316, [2, 11, 8208, 8210, 96, 1013], [], [sgX11_plainTell]), (98, 3, .goto 72, [170], [], [])]
def bkX11_plainAct_101 : List gw_E := [(101, 1, .aload_n 0, [0], [], []), (102, 3, .getfield 7, [11, 0, 1, 6073], [], []), (105, 1, .iload_n 3, [3], [], []), (106, 1, .iaload, [], [], []), (107, 2, .bipush 8, [], [8], []), (109, 3, .if_icmp .ne 30, [139], [], []), (112, 1, .aload_n 0, [0], [], []), (113, 3, .getfield 291, [11, 8, 0, 6081], [], []), (116, 1, .iconst (-1), [], [-1], []), (117, 3, .if_icmp .eq 22, [139], [], []), (120, 1, .aload_n 0, [0], [], []), (121, 1, .aload_n 0, [0], [], []), (122, 3, .getfield 291, [11, 8, 0, 6081], [], []), (125, 1, .aload_n 0, [0], [], []), (126, 3, .getfield 7, [11, 0, 1, 6073], [], []), (129, 1, .iload_n 3, [3], [], []), (130, 1, .iconst 1, [], [1], []), (131, 1, .iadd, [], [], []), (132, 1, .iaload, [], [], []), (133, 3, .invokevirtual 316, [2, 11, 8208, 8210, 96, 1013], [], [sgX11_plainTell]), (136, 3, .goto 34, [170], [], [])]
def bkX11_plainAct_139 : List gw_E := [(139, 1, .aload_n 0, [0], [], []), (140, 3, .getfield 7, [11, 0, 1, 6073], [], []), (143, 1, .iload_n 3, [3], [], []), (144, 1, .iaload, [], [], []), (145, 2, .bipush 9, [], [9], []), (147, 3, .if_icmp .ne 23, [170], [], []), (150, 1, .aload_n 0, [0], [], []), (151, 1, .iload_n 1, [1], [], []), (152, 1, .aload_n 0, [0], [], []), (153, 3, .getfield 294, [11, 9, 0, 6082], [], []), (156, 3, .invokevirtual 236, [2, 11, 8001, 8003, 81, 1013], [], [sgX11_hasPlace]), (159, 3, .ifCond .eq 11, [170], [], []), (162, 1, .aload_n 0, [0], [], []), (163, 1, .aload_n 0, [0], [], []), (164, 3, .getfield 294, [11, 9, 0, 6082], [], []), (167, 3, .putfield 297, [11, 7, 0, 6080], [], [])]
def bkX11_plainAct_170 : List gw_E := [(170, 1, .return_, [], [], [])]
def bsX11_plainAct : List (Nat × List gw_E) := [(0, bkX11_plainAct_0), (67, bkX11_plainAct_67), (101, bkX11_plainAct_101), (139, bkX11_plainAct_139), (170, bkX11_plainAct_170)]
theorem fdX11_plainAct_0 : gw_find bsX11_plainAct 0 = bkX11_plainAct_0 := rfl
theorem fdX11_plainAct_67 : gw_find bsX11_plainAct 67 = bkX11_plainAct_67 := rfl
theorem fdX11_plainAct_101 : gw_find bsX11_plainAct 101 = bkX11_plainAct_101 := rfl
theorem fdX11_plainAct_139 : gw_find bsX11_plainAct 139 = bkX11_plainAct_139 := rfl
theorem fdX11_plainAct_170 : gw_find bsX11_plainAct 170 = bkX11_plainAct_170 := rfl
set_option maxRecDepth 40000 in
theorem stX11_plainAct : gw_sta sgX11_plainAct bsX11_plainAct := ⟨by decide +kernel, gw_mem2 (i := 8199) rfl rfl, gw_all (by decide +kernel)⟩
def bkX11_plainly_0 : List gw_E := [(0, 1, .iload_n 1, [1], [], []), (1, 1, .iconst 1, [], [1], []), (2, 3, .sipush 200, [], [200], []), (5, 3, .invokestatic 33, [3, 0, 6122, 6123, 1013, 0], [], [sgX11_isIn]), (8, 3, .ifCond .eq 10, [18], [], []), (11, 1, .iload_n 2, [2], [], []), (12, 3, .invokestatic 178, [1, 0, 6119, 6120, 1013, 0], [], [sgX11_isPage]), (15, 3, .ifCond .ne 5, [20], [], [])]
def bkX11_plainly_18 : List gw_E := [(18, 1, .iconst (-1), [], [-1], []), (19, 1, .ireturn, [0], [], [])]
def bkX11_plainly_20 : List gw_E := [(20, 1, .aload_n 0, [0], [], []), (21, 1, .iload_n 1, [1], [], []), (22, 3, .invokevirtual 319, [1, 11, 8188, 8190, 91, 1013], [], [sgX11_layPlain]), (25, 1, .aload_n 0, [0], [], []), (26, 3, .getfield 19, [11, 3, 1, 6076], [], []), (29, 1, .iload_n 2, [2], [], []), (30, 1, .iaload, [], [], []), (31, 1, .ireturn, [0], [], [])]
def bsX11_plainly : List (Nat × List gw_E) := [(0, bkX11_plainly_0), (18, bkX11_plainly_18), (20, bkX11_plainly_20)]
theorem fdX11_plainly_0 : gw_find bsX11_plainly 0 = bkX11_plainly_0 := rfl
theorem fdX11_plainly_18 : gw_find bsX11_plainly 18 = bkX11_plainly_18 := rfl
theorem fdX11_plainly_20 : gw_find bsX11_plainly 20 = bkX11_plainly_20 := rfl
set_option maxRecDepth 40000 in
theorem stX11_plainly : gw_sta sgX11_plainly bsX11_plainly := ⟨by decide +kernel, gw_mem2 (i := 8187) rfl rfl, gw_all (by decide +kernel)⟩
def bkX11_plainTraps_0 : List gw_E := [(0, 1, .iload_n 1, [1], [], []), (1, 1, .iconst 1, [], [1], []), (2, 3, .sipush 200, [], [200], []), (5, 3, .invokestatic 33, [3, 0, 6122, 6123, 1013, 0], [], [sgX11_isIn]), (8, 3, .ifCond .ne 5, [13], [], []), (11, 1, .iconst (-1), [], [-1], []), (12, 1, .ireturn, [0], [], [])]
def bkX11_plainTraps_13 : List gw_E := [(13, 1, .aload_n 0, [0], [], []), (14, 1, .iload_n 1, [1], [], []), (15, 3, .invokevirtual 319, [1, 11, 8188, 8190, 91, 1013], [], [sgX11_layPlain]), (18, 1, .aload_n 0, [0], [], []), (19, 3, .getfield 287, [11, 5, 0, 6078], [], []), (22, 1, .ireturn, [0], [], [])]
def bsX11_plainTraps : List (Nat × List gw_E) := [(0, bkX11_plainTraps_0), (13, bkX11_plainTraps_13)]
theorem fdX11_plainTraps_0 : gw_find bsX11_plainTraps 0 = bkX11_plainTraps_0 := rfl
theorem fdX11_plainTraps_13 : gw_find bsX11_plainTraps 13 = bkX11_plainTraps_13 := rfl
set_option maxRecDepth 40000 in
theorem stX11_plainTraps : gw_sta sgX11_plainTraps bsX11_plainTraps := ⟨by decide +kernel, gw_mem2 (i := 8215) rfl rfl, gw_all (by decide +kernel)⟩
def bkX11_plainHeard_0 : List gw_E := [(0, 1, .iload_n 1, [1], [], []), (1, 1, .iconst 1, [], [1], []), (2, 3, .sipush 200, [], [200], []), (5, 3, .invokestatic 33, [3, 0, 6122, 6123, 1013, 0], [], [sgX11_isIn]), (8, 3, .ifCond .ne 5, [13], [], []), (11, 1, .iconst (-1), [], [-1], []), (12, 1, .ireturn, [0], [], [])]
def bkX11_plainHeard_13 : List gw_E := [(13, 1, .aload_n 0, [0], [], []), (14, 1, .iload_n 1, [1], [], []), (15, 3, .invokevirtual 319, [1, 11, 8188, 8190, 91, 1013], [], [sgX11_layPlain]), (18, 1, .aload_n 0, [0], [], []), (19, 3, .getfield 303, [11, 6, 0, 6079], [], []), (22, 1, .ireturn, [0], [], [])]
def bsX11_plainHeard : List (Nat × List gw_E) := [(0, bkX11_plainHeard_0), (13, bkX11_plainHeard_13)]
theorem fdX11_plainHeard_0 : gw_find bsX11_plainHeard 0 = bkX11_plainHeard_0 := rfl
theorem fdX11_plainHeard_13 : gw_find bsX11_plainHeard 13 = bkX11_plainHeard_13 := rfl
set_option maxRecDepth 40000 in
theorem stX11_plainHeard : gw_sta sgX11_plainHeard bsX11_plainHeard := ⟨by decide +kernel, gw_mem2 (i := 8219) rfl rfl, gw_all (by decide +kernel)⟩
def bkX11_image_0 : List gw_E := [(0, 1, .aload_n 0, [0], [], []), (1, 3, .getfield 7, [11, 0, 1, 6073], [], []), (4, 1, .aload_n 0, [0], [], []), (5, 3, .getfield 13, [11, 1, 1, 6074], [], []), (8, 3, .invokestatic 25, [2, 0, 6070, 6071, 1013, 0], [], [sgX11_copy]), (11, 1, .aload_n 0, [0], [], []), (12, 3, .getfield 7, [11, 0, 1, 6073], [], []), (15, 1, .iconst 3, [], [3], []), (16, 1, .iaload, [], [], []), (17, 1, .ireturn, [0], [], [])]
def bsX11_image : List (Nat × List gw_E) := [(0, bkX11_image_0)]
theorem fdX11_image_0 : gw_find bsX11_image 0 = bkX11_image_0 := rfl
set_option maxRecDepth 40000 in
theorem stX11_image : gw_sta sgX11_image bsX11_image := ⟨by decide +kernel, gw_mem2 (i := 8237) rfl rfl, gw_all (by decide +kernel)⟩
def bkX11_back_0 : List gw_E := [(0, 1, .aload_n 0, [0], [], []), (1, 3, .getfield 13, [11, 1, 1, 6074], [], []), (4, 1, .aload_n 0, [0], [], []), (5, 3, .getfield 7, [11, 0, 1, 6073], [], []), (8, 3, .invokestatic 25, [2, 0, 6070, 6071, 1013, 0], [], [sgX11_copy]), (11, 1, .aload_n 0, [0], [], []), (12, 3, .getfield 7, [11, 0, 1, 6073], [], []), (15, 1, .iconst 3, [], [3], []), (16, 1, .iaload, [], [], []), (17, 1, .ireturn, [0], [], [])]
def bsX11_back : List (Nat × List gw_E) := [(0, bkX11_back_0)]
theorem fdX11_back_0 : gw_find bsX11_back 0 = bkX11_back_0 := rfl
set_option maxRecDepth 40000 in
theorem stX11_back : gw_sta sgX11_back bsX11_back := ⟨by decide +kernel, gw_mem2 (i := 9001) rfl rfl, gw_all (by decide +kernel)⟩
def bkX11_steps_0 : List gw_E := [(0, 1, .aload_n 0, [0], [], []), (1, 3, .getfield 7, [11, 0, 1, 6073], [], []), (4, 1, .iconst 0, [], [0], []), (5, 1, .iaload, [], [], []), (6, 1, .ireturn, [0], [], [])]
def bsX11_steps : List (Nat × List gw_E) := [(0, bkX11_steps_0)]
theorem fdX11_steps_0 : gw_find bsX11_steps 0 = bkX11_steps_0 := rfl
set_option maxRecDepth 40000 in
theorem stX11_steps : gw_sta sgX11_steps bsX11_steps := ⟨by decide +kernel, gw_mem2 (i := 9005) rfl rfl, gw_all (by decide +kernel)⟩
