def bkX11_keep_0 : List gw_E := [(0, 1, .aload_n 0, [0], [], []), (1, 3, .getfield 7, [11, 0, 1, 6073], [], []), (4, 1, .iconst 0, [], [0], []), (5, 1, .iaload, [], [], []), (6, 2, .bipush 20, [], [20], []), (8, 3, .if_icmp .ne 30, [38], [], []), (11, 1, .aload_n 0, [0], [], []), (12, 3, .getfield 7, [11, 0, 1, 6073], [], []), (15, 1, .iconst 1, [], [1], []), (16, 1, .aload_n 0, [0], [], []), (17, 3, .getfield 7, [11, 0, 1, 6073], [], []), (20, 1, .iconst 1, [], [1], []), (21, 1, .iaload, [], [], []), (22, 1, .iconst 1, [], [1], []), (23, 1, .iadd, [], [], []), (24, 2, .bipush 20, [], [20], []), (26, 1, .irem, [], [], []), (27, 1, .iastore, [], [], []), (28, 1, .aload_n 0, [0], [], []), (29, 3, .getfield 7, [11, 0, 1, 6073], [], []), (32, 1, .iconst 0, [], [0], []), (33, 1, .dup2, [], [], []), (34, 1, .iaload, [], [], []), (35, 1, .iconst 1, [], [1], []), (36, 1, .isub, [], [], []), (37, 1, .iastore, [], [], [])]
def bkX11_keep_38 : List gw_E := [(38, 1, .aload_n 0, [0], [], []), (39, 3, .getfield 7, [11, 0, 1, 6073], [], []), (42, 1, .iconst 1, [], [1], []), (43, 1, .iaload, [], [], []), (44, 1, .aload_n 0, [0], [], []), (45, 3, .getfield 7, [11, 0, 1, 6073], [], []), (48, 1, .iconst 0, [], [0], []), (49, 1, .iaload, [], [], []), (50, 3, .invokestatic 172, [2, 0, 6108, 6109, 1013, 0], [], [sgX11_stepAt]), (53, 1, .istore_n 1, [1], [], []), (54, 1, .iconst 0, [], [0], []), (55, 1, .istore_n 2, [2], [], [])]
def bkX11_keep_56 : List gw_E := [(56, 1, .iload_n 2, [2], [], []), (57, 3, .sipush 991, [], [991], []), (60, 3, .if_icmp .ge 25, [85], [], []), (63, 1, .aload_n 0, [0], [], []), (64, 3, .getfield 7, [11, 0, 1, 6073], [], []), (67, 1, .iload_n 1, [1], [], []), (68, 1, .iload_n 2, [2], [], []), (69, 1, .iadd, [], [], []), (70, 1, .aload_n 0, [0], [], []), (71, 3, .getfield 7, [11, 0, 1, 6073], [], []), (74, 1, .iconst 2, [], [2], []), (75, 1, .iload_n 2, [2], [], []), (76, 1, .iadd, [], [], []), (77, 1, .iaload, [], [], []), (78, 1, .iastore, [], [], []), (79, 3, .iinc 2 1, [2], [1], []), (82, 3, .goto (-26), [56], [], [])]
def bkX11_keep_85 : List gw_E := [(85, 1, .aload_n 0, [0], [], []), (86, 3, .getfield 7, [11, 0, 1, 6073], [], []), (89, 1, .iconst 0, [], [0], []), (90, 1, .dup2, [], [], []), (91, 1, .iaload, [], [], []), (92, 1, .iconst 1, [], [1], []), (93, 1, .iadd, [], [], []), (94, 1, .iastore, [], [], []), (95, 1, .return_, [], [], [])]
def bsX11_keep : List (Nat × List gw_E) := [(0, bkX11_keep_0), (38, bkX11_keep_38), (56, bkX11_keep_56), (85, bkX11_keep_85)]
theorem fdX11_keep_0 : gw_find bsX11_keep 0 = bkX11_keep_0 := rfl
theorem fdX11_keep_38 : gw_find bsX11_keep 38 = bkX11_keep_38 := rfl
theorem fdX11_keep_56 : gw_find bsX11_keep 56 = bkX11_keep_56 := rfl
theorem fdX11_keep_85 : gw_find bsX11_keep 85 = bkX11_keep_85 := rfl
set_option maxRecDepth 40000 in
theorem stX11_keep : gw_sta sgX11_keep bsX11_keep := ⟨by decide +kernel, gw_mem2 (i := 6128) rfl rfl, gw_all (by decide +kernel)⟩
def bkX11_undo_0 : List gw_E := [(0, 1, .aload_n 0, [0], [], []), (1, 3, .getfield 7, [11, 0, 1, 6073], [], []), (4, 1, .iconst 0, [], [0], []), (5, 1, .iaload, [], [], []), (6, 3, .ifCond .ne 5, [11], [], []), (9, 1, .iconst (-1), [], [-1], []), (10, 1, .ireturn, [0], [], [])]
def bkX11_undo_11 : List gw_E := [(11, 1, .aload_n 0, [0], [], []), (12, 3, .getfield 7, [11, 0, 1, 6073], [], []), (15, 1, .iconst 0, [], [0], []), (16, 1, .dup2, [], [], []), (17, 1, .iaload, [], [], []), (18, 1, .iconst 1, [], [1], []), (19, 1, .isub, [], [], []), (20, 1, .iastore, [], [], []), (21, 1, .aload_n 0, [0], [], []), (22, 3, .getfield 7, [11, 0, 1, 6073], [], []), (25, 1, .iconst 1, [], [1], []), (26, 1, .iaload, [], [], []), (27, 1, .aload_n 0, [0], [], []), (28, 3, .getfield 7, [11, 0, 1, 6073], [], []), (31, 1, .iconst 0, [], [0], []), (32, 1, .iaload, [], [], []), (33, 3, .invokestatic 172, [2, 0, 6108, 6109, 1013, 0], [], [sgX11_stepAt]), (36, 1, .istore_n 1, [1], [], []), (37, 1, .iconst 0, [], [0], []), (38, 1, .istore_n 2, [2], [], [])]
def bkX11_undo_39 : List gw_E := [(39, 1, .iload_n 2, [2], [], []), (40, 3, .sipush 991, [], [991], []), (43, 3, .if_icmp .ge 25, [68], [], []), (46, 1, .aload_n 0, [0], [], []), (47, 3, .getfield 7, [11, 0, 1, 6073], [], []), (50, 1, .iconst 2, [], [2], []), (51, 1, .iload_n 2, [2], [], []), (52, 1, .iadd, [], [], []), (53, 1, .aload_n 0, [0], [], []), (54, 3, .getfield 7, [11, 0, 1, 6073], [], []), (57, 1, .iload_n 1, [1], [], []), (58, 1, .iload_n 2, [2], [], []), (59, 1, .iadd, [], [], []), (60, 1, .iaload, [], [], []), (61, 1, .iastore, [], [], []), (62, 3, .iinc 2 1, [2], [1], []), (65, 3, .goto (-26), [39], [], [])]
def bkX11_undo_68 : List gw_E := [(68, 1, .aload_n 0, [0], [], []), (69, 3, .getfield 7, [11, 0, 1, 6073], [], []), (72, 1, .iconst 0, [], [0], []), (73, 1, .iaload, [], [], []), (74, 1, .ireturn, [0], [], [])]
def bsX11_undo : List (Nat × List gw_E) := [(0, bkX11_undo_0), (11, bkX11_undo_11), (39, bkX11_undo_39), (68, bkX11_undo_68)]
theorem fdX11_undo_0 : gw_find bsX11_undo 0 = bkX11_undo_0 := rfl
theorem fdX11_undo_11 : gw_find bsX11_undo 11 = bkX11_undo_11 := rfl
theorem fdX11_undo_39 : gw_find bsX11_undo 39 = bkX11_undo_39 := rfl
theorem fdX11_undo_68 : gw_find bsX11_undo 68 = bkX11_undo_68 := rfl
set_option maxRecDepth 40000 in
theorem stX11_undo : gw_sta sgX11_undo bsX11_undo := ⟨by decide +kernel, gw_mem2 (i := 6107) rfl rfl, gw_all (by decide +kernel)⟩
def bkX11_canTell_0 : List gw_E := [(0, 1, .iload_n 1, [1], [], []), (1, 3, .ifCond .ne 21, [22], [], []), (4, 1, .aload_n 0, [0], [], []), (5, 3, .getfield 7, [11, 0, 1, 6073], [], []), (8, 1, .iconst 2, [], [2], []), (9, 1, .iaload, [], [], []), (10, 1, .iconst 2, [], [2], []), (11, 3, .if_icmp .ne 7, [18], [], []), (14, 1, .iconst 1, [], [1], []), (15, 3, .goto 40, [55], [], [])]
def bkX11_canTell_18 : List gw_E := [(18, 1, .iconst 0, [], [0], []), (19, 3, .goto 36, [55], [], [])]
def bkX11_canTell_22 : List gw_E := [(22, 1, .iload_n 1, [1], [], []), (23, 1, .iconst 1, [], [1], []), (24, 3, .if_icmp .ne 21, [45], [], []), (27, 1, .aload_n 0, [0], [], []), (28, 3, .getfield 7, [11, 0, 1, 6073], [], []), (31, 1, .iconst 2, [], [2], []), (32, 1, .iaload, [], [], []), (33, 1, .iconst 1, [], [1], []), (34, 3, .if_icmp .ne 7, [41], [], []), (37, 1, .iconst 1, [], [1], []), (38, 3, .goto 17, [55], [], [])]
def bkX11_canTell_41 : List gw_E := [(41, 1, .iconst 0, [], [0], []), (42, 3, .goto 13, [55], [], [])]
def bkX11_canTell_45 : List gw_E := [(45, 1, .iload_n 1, [1], [], []), (46, 1, .iconst 2, [], [2], []), (47, 3, .if_icmp .ne 7, [54], [], []), (50, 1, .iconst 1, [], [1], []), (51, 3, .goto 4, [55], [], [])]
def bkX11_canTell_54 : List gw_E := [(54, 1, .iconst 0, [], [0], [])]
def bkX11_canTell_55 : List gw_E := [(55, 1, .ireturn, [1], [], [])]
def bsX11_canTell : List (Nat × List gw_E) := [(0, bkX11_canTell_0), (18, bkX11_canTell_18), (22, bkX11_canTell_22), (41, bkX11_canTell_41), (45, bkX11_canTell_45), (54, bkX11_canTell_54), (55, bkX11_canTell_55)]
theorem fdX11_canTell_0 : gw_find bsX11_canTell 0 = bkX11_canTell_0 := rfl
theorem fdX11_canTell_18 : gw_find bsX11_canTell 18 = bkX11_canTell_18 := rfl
theorem fdX11_canTell_22 : gw_find bsX11_canTell 22 = bkX11_canTell_22 := rfl
theorem fdX11_canTell_41 : gw_find bsX11_canTell 41 = bkX11_canTell_41 := rfl
theorem fdX11_canTell_45 : gw_find bsX11_canTell 45 = bkX11_canTell_45 := rfl
theorem fdX11_canTell_54 : gw_find bsX11_canTell 54 = bkX11_canTell_54 := rfl
theorem fdX11_canTell_55 : gw_find bsX11_canTell 55 = bkX11_canTell_55 := rfl
set_option maxRecDepth 40000 in
theorem stX11_canTell : gw_sta sgX11_canTell bsX11_canTell := ⟨by decide +kernel, gw_mem2 (i := 6118) rfl rfl, gw_all (by decide +kernel)⟩
def bkX11_tellEntry_0 : List gw_E := [(0, 1, .aload_n 0, [0], [], []), (1, 1, .iload_n 1, [1], [], []), (2, 1, .iload_n 2, [2], [], []), (3, 1, .iload_n 3, [3], [], []), (4, 2, .iload 4, [4], [], []), (6, 3, .invokevirtual 69, [4, 11, 6133, 6135, 25, 1013], [], [sgX11_layEntry]), (9, 1, .iload_n 1, [1], [], []), (10, 1, .iconst 2, [], [2], []), (11, 3, .if_icmp .ne 14, [25], [], []), (14, 1, .aload_n 0, [0], [], []), (15, 3, .getfield 7, [11, 0, 1, 6073], [], []), (18, 3, .sipush 812, [], [812], []), (21, 1, .iload_n 2, [2], [], []), (22, 1, .iadd, [], [], []), (23, 1, .iconst (-1), [], [-1], []), (24, 1, .iastore, [], [], [])]
def bkX11_tellEntry_25 : List gw_E := [(25, 1, .return_, [], [], [])]
def bsX11_tellEntry : List (Nat × List gw_E) := [(0, bkX11_tellEntry_0), (25, bkX11_tellEntry_25)]
theorem fdX11_tellEntry_0 : gw_find bsX11_tellEntry 0 = bkX11_tellEntry_0 := rfl
theorem fdX11_tellEntry_25 : gw_find bsX11_tellEntry 25 = bkX11_tellEntry_25 := rfl
set_option maxRecDepth 40000 in
theorem stX11_tellEntry : gw_sta sgX11_tellEntry bsX11_tellEntry := ⟨by decide +kernel, gw_mem2 (i := 6132) rfl rfl, gw_all (by decide +kernel)⟩
def bkX11_entry_0 : List gw_E := [(0, 1, .aload_n 0, [0], [], []), (1, 1, .iload_n 1, [1], [], []), (2, 3, .invokevirtual 175, [1, 11, 6115, 6117, 22, 1013], [], [sgX11_canTell]), (5, 3, .ifCond .eq 41, [46], [], []), (8, 1, .iload_n 2, [2], [], []), (9, 3, .invokestatic 178, [1, 0, 6119, 6120, 1013, 0], [], [sgX11_isPage]), (12, 3, .ifCond .eq 34, [46], [], []), (15, 1, .iload_n 3, [3], [], []), (16, 1, .iconst 0, [], [0], []), (17, 1, .iload_n 1, [1], [], []), (18, 1, .iconst 2, [], [2], []), (19, 3, .if_icmp .ne 8, [27], [], []), (22, 2, .bipush 9, [], [9], []), (24, 3, .goto 5, [29], [], [])]
def bkX11_entry_27 : List gw_E := [(27, 2, .bipush 15, [], [15], [])]
def bkX11_entry_29 : List gw_E := [(29, 3, .invokestatic 33, [3, 0, 6122, 6123, 1013, 0], [], [sgX11_isIn]), (32, 3, .ifCond .eq 14, [46], [], []), (35, 2, .iload 4, [4], [], []), (37, 1, .iconst 1, [], [1], []), (38, 2, .bipush 7, [], [7], []), (40, 3, .invokestatic 33, [3, 0, 6122, 6123, 1013, 0], [], [sgX11_isIn]), (43, 3, .ifCond .ne 5, [48], [], [])]
def bkX11_entry_46 : List gw_E := [(46, 1, .iconst 0, [], [0], []), (47, 1, .ireturn, [1], [], [])]
def bkX11_entry_48 : List gw_E := [(48, 1, .aload_n 0, [0], [], []), (49, 3, .invokevirtual 181, [0, 11, 6125, 6127, 23, 1013], [], [sgX11_keep]), (52, 1, .aload_n 0, [0], [], []), (53, 1, .iload_n 1, [1], [], []), (54, 1, .iload_n 2, [2], [], []), (55, 1, .iload_n 3, [3], [], []), (56, 2, .iload 4, [4], [], []), (58, 3, .invokevirtual 184, [4, 11, 6129, 6131, 24, 1013], [], [sgX11_tellEntry]), (61, 1, .aload_n 0, [0], [], []), (62, 3, .invokevirtual 187, [0, 11, 6165, 6167, 33, 1013], [], [sgX11_dealOut]), (65, 1, .iconst 1, [], [1], []), (66, 1, .ireturn, [1], [], [])]
def bsX11_entry : List (Nat × List gw_E) := [(0, bkX11_entry_0), (27, bkX11_entry_27), (29, bkX11_entry_29), (46, bkX11_entry_46), (48, bkX11_entry_48)]
theorem fdX11_entry_0 : gw_find bsX11_entry 0 = bkX11_entry_0 := rfl
theorem fdX11_entry_27 : gw_find bsX11_entry 27 = bkX11_entry_27 := rfl
theorem fdX11_entry_29 : gw_find bsX11_entry 29 = bkX11_entry_29 := rfl
theorem fdX11_entry_46 : gw_find bsX11_entry 46 = bkX11_entry_46 := rfl
theorem fdX11_entry_48 : gw_find bsX11_entry 48 = bkX11_entry_48 := rfl
set_option maxRecDepth 40000 in
theorem stX11_entry : gw_sta sgX11_entry bsX11_entry := ⟨by decide +kernel, gw_mem2 (i := 6114) rfl rfl, gw_all (by decide +kernel)⟩
def bkX11_clear_0 : List gw_E := [(0, 1, .aload_n 0, [0], [], []), (1, 1, .iload_n 1, [1], [], []), (2, 3, .invokevirtual 175, [1, 11, 6115, 6117, 22, 1013], [], [sgX11_canTell]), (5, 3, .ifCond .eq 20, [25], [], []), (8, 1, .iload_n 2, [2], [], []), (9, 3, .invokestatic 178, [1, 0, 6119, 6120, 1013, 0], [], [sgX11_isPage]), (12, 3, .ifCond .eq 13, [25], [], []), (15, 1, .aload_n 0, [0], [], []), (16, 1, .iload_n 1, [1], [], []), (17, 1, .iload_n 2, [2], [], []), (18, 3, .invokevirtual 52, [2, 11, 6149, 6151, 29, 1013], [], [sgX11_toOf]), (21, 1, .iconst (-1), [], [-1], []), (22, 3, .if_icmp .ne 5, [27], [], [])]
def bkX11_clear_25 : List gw_E := [(25, 1, .iconst 0, [], [0], []), (26, 1, .ireturn, [1], [], [])]
def bkX11_clear_27 : List gw_E := [(27, 1, .aload_n 0, [0], [], []), (28, 3, .invokevirtual 181, [0, 11, 6125, 6127, 23, 1013], [], [sgX11_keep]), (31, 1, .aload_n 0, [0], [], []), (32, 1, .iload_n 1, [1], [], []), (33, 1, .iload_n 2, [2], [], []), (34, 1, .iconst (-1), [], [-1], []), (35, 1, .iconst 0, [], [0], []), (36, 3, .invokevirtual 184, [4, 11, 6129, 6131, 24, 1013], [], [sgX11_tellEntry]), (39, 1, .aload_n 0, [0], [], []), (40, 3, .invokevirtual 187, [0, 11, 6165, 6167, 33, 1013], [], [sgX11_dealOut]), (43, 1, .iconst 1, [], [1], []), (44, 1, .ireturn, [1], [], [])]
def bsX11_clear : List (Nat × List gw_E) := [(0, bkX11_clear_0), (25, bkX11_clear_25), (27, bkX11_clear_27)]
theorem fdX11_clear_0 : gw_find bsX11_clear 0 = bkX11_clear_0 := rfl
theorem fdX11_clear_25 : gw_find bsX11_clear 25 = bkX11_clear_25 := rfl
theorem fdX11_clear_27 : gw_find bsX11_clear 27 = bkX11_clear_27 := rfl
set_option maxRecDepth 40000 in
theorem stX11_clear : gw_sta sgX11_clear bsX11_clear := ⟨by decide +kernel, gw_mem2 (i := 6198) rfl rfl, gw_all (by decide +kernel)⟩
def bkX11_roomNow_0 : List gw_E := [(0, 1, .aload_n 0, [0], [], []), (1, 3, .getfield 7, [11, 0, 1, 6073], [], []), (4, 1, .iconst 4, [], [4], []), (5, 1, .iload_n 1, [1], [], []), (6, 1, .iastore, [], [], [])]
def bkX11_roomNow_7 : List gw_E := [(7, 1, .aload_n 0, [0], [], []), (8, 3, .getfield 7, [11, 0, 1, 6073], [], []), (11, 2, .bipush 23, [], [23], []), (13, 1, .iaload, [], [], []), (14, 1, .iload_n 1, [1], [], []), (15, 3, .if_icmp .le 18, [33], [], []), (18, 1, .aload_n 0, [0], [], []), (19, 1, .aload_n 0, [0], [], []), (20, 3, .getfield 7, [11, 0, 1, 6073], [], []), (23, 3, .sipush 786, [], [786], []), (26, 1, .iaload, [], [], []), (27, 3, .invokevirtual 59, [1, 11, 6145, 6147, 28, 1013], [], [sgX11_unfold]), (30, 3, .goto (-23), [7], [], [])]
def bkX11_roomNow_33 : List gw_E := [(33, 1, .return_, [], [], [])]
def bsX11_roomNow : List (Nat × List gw_E) := [(0, bkX11_roomNow_0), (7, bkX11_roomNow_7), (33, bkX11_roomNow_33)]
theorem fdX11_roomNow_0 : gw_find bsX11_roomNow 0 = bkX11_roomNow_0 := rfl
theorem fdX11_roomNow_7 : gw_find bsX11_roomNow 7 = bkX11_roomNow_7 := rfl
theorem fdX11_roomNow_33 : gw_find bsX11_roomNow 33 = bkX11_roomNow_33 := rfl
set_option maxRecDepth 40000 in
theorem stX11_roomNow : gw_sta sgX11_roomNow bsX11_roomNow := ⟨by decide +kernel, gw_mem2 (i := 6206) rfl rfl, gw_all (by decide +kernel)⟩
def bkX11_room_0 : List gw_E := [(0, 1, .iload_n 1, [1], [], []), (1, 1, .iconst 1, [], [1], []), (2, 2, .bipush 16, [], [16], []), (4, 3, .invokestatic 33, [3, 0, 6122, 6123, 1013, 0], [], [sgX11_isIn]), (7, 3, .ifCond .ne 5, [12], [], []), (10, 1, .iconst 0, [], [0], []), (11, 1, .ireturn, [1], [], [])]
def bkX11_room_12 : List gw_E := [(12, 1, .aload_n 0, [0], [], []), (13, 3, .invokevirtual 181, [0, 11, 6125, 6127, 23, 1013], [], [sgX11_keep]), (16, 1, .aload_n 0, [0], [], []), (17, 1, .iload_n 1, [1], [], []), (18, 3, .invokevirtual 190, [1, 11, 6203, 6205, 39, 1013], [], [sgX11_roomNow]), (21, 1, .aload_n 0, [0], [], []), (22, 3, .invokevirtual 187, [0, 11, 6165, 6167, 33, 1013], [], [sgX11_dealOut]), (25, 1, .iconst 1, [], [1], []), (26, 1, .ireturn, [1], [], [])]
def bsX11_room : List (Nat × List gw_E) := [(0, bkX11_room_0), (12, bkX11_room_12)]
theorem fdX11_room_0 : gw_find bsX11_room 0 = bkX11_room_0 := rfl
theorem fdX11_room_12 : gw_find bsX11_room 12 = bkX11_room_12 := rfl
set_option maxRecDepth 40000 in
theorem stX11_room : gw_sta sgX11_room bsX11_room := ⟨by decide +kernel, gw_mem2 (i := 6202) rfl rfl, gw_all (by decide +kernel)⟩
def bkX11_isLazy_0 : List gw_E := [(0, 1, .aload_n 0, [0], [], []), (1, 1, .iconst 1, [], [1], []), (2, 1, .iload_n 1, [1], [], []), (3, 3, .invokevirtual 52, [2, 11, 6149, 6151, 29, 1013], [], [sgX11_toOf]), (6, 1, .istore_n 2, [2], [], []), (7, 1, .iload_n 2, [2], [], []), (8, 1, .iconst (-1), [], [-1], []), (9, 3, .if_icmp .eq 33, [42], [], []), (12, 1, .aload_n 0, [0], [], []), (13, 1, .iconst 1, [], [1], []), (14, 1, .iload_n 1, [1], [], []), (15, 3, .invokevirtual 49, [2, 11, 6215, 6217, 41, 1013], [], [sgX11_rightsOf]), (18, 1, .aload_n 0, [0], [], []), (19, 1, .iconst 2, [], [2], []), (20, 1, .iload_n 2, [2], [], []), (21, 3, .invokevirtual 49, [2, 11, 6215, 6217, 41, 1013], [], [sgX11_rightsOf]), (24, 1, .iand, [], [], []), (25, 3, .ifCond .eq 17, [42], [], []), (28, 1, .aload_n 0, [0], [], []), (29, 1, .iconst 3, [], [3], []), (30, 1, .iload_n 1, [1], [], []), (31, 3, .invokevirtual 52, [2, 11, 6149, 6151, 29, 1013], [], [sgX11_toOf]), (34, 1, .iconst (-1), [], [-1], []), (35, 3, .if_icmp .ne 7, [42], [], []), (38, 1, .iconst 1, [], [1], []), (39, 3, .goto 4, [43], [], [])]
def bkX11_isLazy_42 : List gw_E := [(42, 1, .iconst 0, [], [0], [])]
def bkX11_isLazy_43 : List gw_E := [(43, 1, .ireturn, [1], [], [])]
def bsX11_isLazy : List (Nat × List gw_E) := [(0, bkX11_isLazy_0), (42, bkX11_isLazy_42), (43, bkX11_isLazy_43)]
theorem fdX11_isLazy_0 : gw_find bsX11_isLazy 0 = bkX11_isLazy_0 := rfl
theorem fdX11_isLazy_42 : gw_find bsX11_isLazy 42 = bkX11_isLazy_42 := rfl
theorem fdX11_isLazy_43 : gw_find bsX11_isLazy 43 = bkX11_isLazy_43 := rfl
set_option maxRecDepth 40000 in
theorem stX11_isLazy : gw_sta sgX11_isLazy bsX11_isLazy := ⟨by decide +kernel, gw_mem2 (i := 6214) rfl rfl, gw_all (by decide +kernel)⟩
def bkX11_foldAhead_0 : List gw_E := [(0, 1, .aload_n 0, [0], [], []), (1, 3, .invokevirtual 181, [0, 11, 6125, 6127, 23, 1013], [], [sgX11_keep]), (4, 1, .iconst 0, [], [0], []), (5, 1, .istore_n 1, [1], [], []), (6, 1, .iconst 0, [], [0], []), (7, 1, .istore_n 2, [2], [], [])]
def bkX11_foldAhead_8 : List gw_E := [(8, 1, .iload_n 2, [2], [], []), (9, 2, .bipush 16, [], [16], []), (11, 3, .if_icmp .ge 44, [55], [], []), (14, 1, .aload_n 0, [0], [], []), (15, 1, .iload_n 2, [2], [], []), (16, 3, .invokevirtual 193, [1, 11, 6211, 6213, 40, 1013], [], [sgX11_isLazy]), (19, 3, .ifCond .eq 30, [49], [], []), (22, 1, .aload_n 0, [0], [], []), (23, 3, .getfield 7, [11, 0, 1, 6073], [], []), (26, 2, .bipush 23, [], [23], []), (28, 1, .iaload, [], [], []), (29, 1, .aload_n 0, [0], [], []), (30, 3, .getfield 7, [11, 0, 1, 6073], [], []), (33, 1, .iconst 4, [], [4], []), (34, 1, .iaload, [], [], []), (35, 3, .if_icmp .lt 6, [41], [], []), (38, 3, .goto 11, [49], [], [])]
def bkX11_foldAhead_41 : List gw_E := [(41, 1, .aload_n 0, [0], [], []), (42, 1, .iload_n 2, [2], [], []), (43, 3, .invokevirtual 127, [1, 11, 6223, 6225, 43, 1013], [], [sgX11_fold]), (46, 3, .iinc 1 1, [1], [1], [])]
def bkX11_foldAhead_49 : List gw_E := [(49, 3, .iinc 2 1, [2], [1], []), (52, 3, .goto (-44), [8], [], [])]
def bkX11_foldAhead_55 : List gw_E := [(55, 1, .aload_n 0, [0], [], []), (56, 3, .invokevirtual 187, [0, 11, 6165, 6167, 33, 1013], [], [sgX11_dealOut]), (59, 1, .iload_n 1, [1], [], []), (60, 1, .ireturn, [0], [], [])]
def bsX11_foldAhead : List (Nat × List gw_E) := [(0, bkX11_foldAhead_0), (8, bkX11_foldAhead_8), (41, bkX11_foldAhead_41), (49, bkX11_foldAhead_49), (55, bkX11_foldAhead_55)]
theorem fdX11_foldAhead_0 : gw_find bsX11_foldAhead 0 = bkX11_foldAhead_0 := rfl
theorem fdX11_foldAhead_8 : gw_find bsX11_foldAhead 8 = bkX11_foldAhead_8 := rfl
theorem fdX11_foldAhead_41 : gw_find bsX11_foldAhead 41 = bkX11_foldAhead_41 := rfl
theorem fdX11_foldAhead_49 : gw_find bsX11_foldAhead 49 = bkX11_foldAhead_49 := rfl
theorem fdX11_foldAhead_55 : gw_find bsX11_foldAhead 55 = bkX11_foldAhead_55 := rfl
set_option maxRecDepth 40000 in
theorem stX11_foldAhead : gw_sta sgX11_foldAhead bsX11_foldAhead := ⟨by decide +kernel, gw_mem2 (i := 6210) rfl rfl, gw_all (by decide +kernel)⟩
def bkX11_join_0 : List gw_E := [(0, 1, .aload_n 0, [0], [], []), (1, 3, .invokevirtual 181, [0, 11, 6125, 6127, 23, 1013], [], [sgX11_keep]), (4, 1, .iconst 0, [], [0], []), (5, 1, .istore_n 1, [1], [], []), (6, 1, .iconst 0, [], [0], []), (7, 1, .istore_n 2, [2], [], [])]
def bkX11_join_8 : List gw_E := [(8, 1, .iload_n 2, [2], [], []), (9, 2, .bipush 10, [], [10], []), (11, 3, .if_icmp .ge 34, [45], [], [])]
def bkX11_join_14 : List gw_E := [(14, 1, .aload_n 0, [0], [], []), (15, 1, .iload_n 2, [2], [], []), (16, 3, .invokevirtual 196, [1, 11, 6231, 6233, 44, 1013], [], [sgX11_likeOf]), (19, 1, .iconst (-1), [], [-1], []), (20, 3, .if_icmp .eq 19, [39], [], []), (23, 1, .aload_n 0, [0], [], []), (24, 1, .iload_n 2, [2], [], []), (25, 1, .aload_n 0, [0], [], []), (26, 1, .iload_n 2, [2], [], []), (27, 3, .invokevirtual 196, [1, 11, 6231, 6233, 44, 1013], [], [sgX11_likeOf]), (30, 3, .invokevirtual 199, [2, 11, 6239, 7001, 46, 1013], [], [sgX11_joinNow]), (33, 3, .iinc 1 1, [1], [1], []), (36, 3, .goto (-22), [14], [], [])]
def bkX11_join_39 : List gw_E := [(39, 3, .iinc 2 1, [2], [1], []), (42, 3, .goto (-34), [8], [], [])]
def bkX11_join_45 : List gw_E := [(45, 1, .aload_n 0, [0], [], []), (46, 3, .invokevirtual 187, [0, 11, 6165, 6167, 33, 1013], [], [sgX11_dealOut]), (49, 1, .iload_n 1, [1], [], []), (50, 1, .ireturn, [0], [], [])]
def bsX11_join : List (Nat × List gw_E) := [(0, bkX11_join_0), (8, bkX11_join_8), (14, bkX11_join_14), (39, bkX11_join_39), (45, bkX11_join_45)]
theorem fdX11_join_0 : gw_find bsX11_join 0 = bkX11_join_0 := rfl
theorem fdX11_join_8 : gw_find bsX11_join 8 = bkX11_join_8 := rfl
theorem fdX11_join_14 : gw_find bsX11_join 14 = bkX11_join_14 := rfl
theorem fdX11_join_39 : gw_find bsX11_join 39 = bkX11_join_39 := rfl
theorem fdX11_join_45 : gw_find bsX11_join 45 = bkX11_join_45 := rfl
set_option maxRecDepth 40000 in
theorem stX11_join : gw_sta sgX11_join bsX11_join := ⟨by decide +kernel, gw_mem2 (i := 6230) rfl rfl, gw_all (by decide +kernel)⟩
def bkX11_copied_0 : List gw_E := [(0, 1, .aload_n 0, [0], [], []), (1, 3, .getfield 7, [11, 0, 1, 6073], [], []), (4, 2, .bipush 27, [], [27], []), (6, 1, .iaload, [], [], []), (7, 1, .ireturn, [0], [], [])]
def bsX11_copied : List (Nat × List gw_E) := [(0, bkX11_copied_0)]
theorem fdX11_copied_0 : gw_find bsX11_copied 0 = bkX11_copied_0 := rfl
set_option maxRecDepth 40000 in
theorem stX11_copied : gw_sta sgX11_copied bsX11_copied := ⟨by decide +kernel, gw_mem2 (i := 7006) rfl rfl, gw_all (by decide +kernel)⟩
def bkX11_trapPlace_0 : List gw_E := [(0, 1, .iload_n 1, [1], [], []), (1, 1, .iconst (-1), [], [-1], []), (2, 2, .bipush 23, [], [23], []), (4, 3, .invokestatic 33, [3, 0, 6122, 6123, 1013, 0], [], [sgX11_isIn]), (7, 3, .ifCond .ne 5, [12], [], []), (10, 1, .iconst 0, [], [0], []), (11, 1, .ireturn, [1], [], [])]
def bkX11_trapPlace_12 : List gw_E := [(12, 1, .aload_n 0, [0], [], []), (13, 3, .invokevirtual 181, [0, 11, 6125, 6127, 23, 1013], [], [sgX11_keep]), (16, 1, .aload_n 0, [0], [], []), (17, 3, .getfield 7, [11, 0, 1, 6073], [], []), (20, 1, .aload_n 0, [0], [], []), (21, 1, .iconst 2, [], [2], []), (22, 3, .invokevirtual 37, [1, 11, 6141, 6143, 27, 1013], [], [sgX11_guestAt]), (25, 3, .sipush 143, [], [143], []), (28, 1, .iadd, [], [], []), (29, 1, .iload_n 1, [1], [], []), (30, 1, .iastore, [], [], []), (31, 1, .aload_n 0, [0], [], []), (32, 3, .invokevirtual 187, [0, 11, 6165, 6167, 33, 1013], [], [sgX11_dealOut]), (35, 1, .iconst 1, [], [1], []), (36, 1, .ireturn, [1], [], [])]
def bsX11_trapPlace : List (Nat × List gw_E) := [(0, bkX11_trapPlace_0), (12, bkX11_trapPlace_12)]
theorem fdX11_trapPlace_0 : gw_find bsX11_trapPlace 0 = bkX11_trapPlace_0 := rfl
theorem fdX11_trapPlace_12 : gw_find bsX11_trapPlace 12 = bkX11_trapPlace_12 := rfl
set_option maxRecDepth 40000 in
theorem stX11_trapPlace : gw_sta sgX11_trapPlace bsX11_trapPlace := ⟨by decide +kernel, gw_mem2 (i := 7010) rfl rfl, gw_all (by decide +kernel)⟩
def bkX11_trapped_0 : List gw_E := [(0, 1, .iload_n 1, [1], [], []), (1, 1, .iconst 2, [], [2], []), (2, 3, .if_icmp .ne 20, [22], [], []), (5, 1, .aload_n 0, [0], [], []), (6, 3, .getfield 7, [11, 0, 1, 6073], [], []), (9, 1, .aload_n 0, [0], [], []), (10, 1, .iconst 2, [], [2], []), (11, 3, .invokevirtual 37, [1, 11, 6141, 6143, 27, 1013], [], [sgX11_guestAt]), (14, 3, .sipush 143, [], [143], []), (17, 1, .iadd, [], [], []), (18, 1, .iaload, [], [], []), (19, 3, .goto 32, [51], [], [])]
def bkX11_trapped_22 : List gw_E := [(22, 1, .iload_n 1, [1], [], []), (23, 1, .iconst 0, [], [0], []), (24, 1, .iconst 1, [], [1], []), (25, 3, .invokestatic 33, [3, 0, 6122, 6123, 1013, 0], [], [sgX11_isIn]), (28, 3, .ifCond .eq 22, [50], [], []), (31, 1, .aload_n 0, [0], [], []), (32, 3, .getfield 7, [11, 0, 1, 6073], [], []), (35, 1, .aload_n 0, [0], [], []), (36, 1, .iconst 2, [], [2], []), (37, 3, .invokevirtual 37, [1, 11, 6141, 6143, 27, 1013], [], [sgX11_guestAt]), (40, 3, .sipush 144, [], [144], []), (43, 1, .iadd, [], [], []), (44, 1, .iload_n 1, [1], [], []), (45, 1, .iadd, [], [], []), (46, 1, .iaload, [], [], []), (47, 3, .goto 4, [51], [], [])]
def bkX11_trapped_50 : List gw_E := [(50, 1, .iconst (-1), [], [-1], [])]
def bkX11_trapped_51 : List gw_E := [(51, 1, .ireturn, [0], [], [])]
def bsX11_trapped : List (Nat × List gw_E) := [(0, bkX11_trapped_0), (22, bkX11_trapped_22), (50, bkX11_trapped_50), (51, bkX11_trapped_51)]
theorem fdX11_trapped_0 : gw_find bsX11_trapped 0 = bkX11_trapped_0 := rfl
theorem fdX11_trapped_22 : gw_find bsX11_trapped 22 = bkX11_trapped_22 := rfl
theorem fdX11_trapped_50 : gw_find bsX11_trapped 50 = bkX11_trapped_50 := rfl
theorem fdX11_trapped_51 : gw_find bsX11_trapped 51 = bkX11_trapped_51 := rfl
set_option maxRecDepth 40000 in
theorem stX11_trapped : gw_sta sgX11_trapped bsX11_trapped := ⟨by decide +kernel, gw_mem2 (i := 7014) rfl rfl, gw_all (by decide +kernel)⟩
def bkX11_want_0 : List gw_E := [(0, 1, .iload_n 1, [1], [], []), (1, 1, .iconst 0, [], [0], []), (2, 1, .iconst 1, [], [1], []), (3, 3, .invokestatic 33, [3, 0, 6122, 6123, 1013, 0], [], [sgX11_isIn]), (6, 3, .ifCond .eq 29, [35], [], []), (9, 1, .iload_n 2, [2], [], []), (10, 1, .iconst 0, [], [0], []), (11, 3, .sipush 255, [], [255], []), (14, 3, .invokestatic 33, [3, 0, 6122, 6123, 1013, 0], [], [sgX11_isIn]), (17, 3, .ifCond .eq 18, [35], [], []), (20, 1, .iload_n 1, [1], [], []), (21, 1, .iconst 1, [], [1], []), (22, 3, .if_icmp .ne 15, [37], [], []), (25, 1, .aload_n 0, [0], [], []), (26, 3, .getfield 7, [11, 0, 1, 6073], [], []), (29, 1, .iconst 2, [], [2], []), (30, 1, .iaload, [], [], []), (31, 1, .iconst 2, [], [2], []), (32, 3, .if_icmp .ne 5, [37], [], [])]
def bkX11_want_35 : List gw_E := [(35, 1, .iconst 0, [], [0], []), (36, 1, .ireturn, [1], [], [])]
def bkX11_want_37 : List gw_E := [(37, 1, .aload_n 0, [0], [], []), (38, 3, .invokevirtual 181, [0, 11, 6125, 6127, 23, 1013], [], [sgX11_keep]), (41, 1, .aload_n 0, [0], [], []), (42, 3, .getfield 7, [11, 0, 1, 6073], [], []), (45, 2, .bipush 17, [], [17], []), (47, 1, .iload_n 1, [1], [], []), (48, 1, .iadd, [], [], []), (49, 1, .iload_n 2, [2], [], []), (50, 1, .iastore, [], [], []), (51, 1, .aload_n 0, [0], [], []), (52, 3, .invokevirtual 187, [0, 11, 6165, 6167, 33, 1013], [], [sgX11_dealOut]), (55, 1, .iconst 1, [], [1], []), (56, 1, .ireturn, [1], [], [])]
def bsX11_want : List (Nat × List gw_E) := [(0, bkX11_want_0), (35, bkX11_want_35), (37, bkX11_want_37)]
theorem fdX11_want_0 : gw_find bsX11_want 0 = bkX11_want_0 := rfl
theorem fdX11_want_35 : gw_find bsX11_want 35 = bkX11_want_35 := rfl
theorem fdX11_want_37 : gw_find bsX11_want 37 = bkX11_want_37 := rfl
set_option maxRecDepth 40000 in
theorem stX11_want : gw_sta sgX11_want bsX11_want := ⟨by decide +kernel, gw_mem2 (i := 7018) rfl rfl, gw_all (by decide +kernel)⟩
def bkX11_touch_0 : List gw_E := [(0, 1, .iload_n 1, [1], [], []), (1, 3, .invokestatic 178, [1, 0, 6119, 6120, 1013, 0], [], [sgX11_isPage]), (4, 3, .ifCond .eq 28, [32], [], []), (7, 1, .iload_n 2, [2], [], []), (8, 1, .iconst 0, [], [0], []), (9, 1, .iconst 2, [], [2], []), (10, 3, .invokestatic 33, [3, 0, 6122, 6123, 1013, 0], [], [sgX11_isIn]), (13, 3, .ifCond .eq 19, [32], [], []), (16, 1, .iload_n 2, [2], [], []), (17, 1, .iconst 1, [], [1], []), (18, 3, .if_icmp .ne 16, [34], [], []), (21, 1, .iload_n 3, [3], [], []), (22, 1, .iconst 0, [], [0], []), (23, 3, .sipush 9999, [], [9999], []), (26, 3, .invokestatic 33, [3, 0, 6122, 6123, 1013, 0], [], [sgX11_isIn]), (29, 3, .ifCond .ne 5, [34], [], [])]
def bkX11_touch_32 : List gw_E := [(32, 1, .iconst (-1), [], [-1], []), (33, 1, .ireturn, [0], [], [])]
def bkX11_touch_34 : List gw_E := [(34, 1, .aload_n 0, [0], [], []), (35, 3, .invokevirtual 181, [0, 11, 6125, 6127, 23, 1013], [], [sgX11_keep]), (38, 1, .aload_n 0, [0], [], []), (39, 1, .iload_n 1, [1], [], []), (40, 1, .iload_n 2, [2], [], []), (41, 1, .iload_n 3, [3], [], []), (42, 3, .invokevirtual 202, [3, 11, 7023, 7025, 47, 1013], [], [sgX11_touchNow]), (45, 2, .istore 4, [4], [], []), (47, 1, .aload_n 0, [0], [], []), (48, 3, .invokevirtual 187, [0, 11, 6165, 6167, 33, 1013], [], [sgX11_dealOut]), (51, 2, .iload 4, [4], [], []), (53, 1, .ireturn, [0], [], [])]
def bsX11_touch : List (Nat × List gw_E) := [(0, bkX11_touch_0), (32, bkX11_touch_32), (34, bkX11_touch_34)]
theorem fdX11_touch_0 : gw_find bsX11_touch 0 = bkX11_touch_0 := rfl
theorem fdX11_touch_32 : gw_find bsX11_touch 32 = bkX11_touch_32 := rfl
theorem fdX11_touch_34 : gw_find bsX11_touch 34 = bkX11_touch_34 := rfl
set_option maxRecDepth 40000 in
theorem stX11_touch : gw_sta sgX11_touch bsX11_touch := ⟨by decide +kernel, gw_mem2 (i := 7022) rfl rfl, gw_all (by decide +kernel)⟩
def bkX11_event_0 : List gw_E := [(0, 1, .iload_n 1, [1], [], []), (1, 1, .iconst 0, [], [0], []), (2, 2, .bipush 7, [], [7], []), (4, 3, .invokestatic 33, [3, 0, 6122, 6123, 1013, 0], [], [sgX11_isIn]), (7, 3, .ifCond .ne 5, [12], [], []), (10, 1, .iconst (-1), [], [-1], []), (11, 1, .ireturn, [0], [], [])]
def bkX11_event_12 : List gw_E := [(12, 1, .aload_n 0, [0], [], []), (13, 3, .invokevirtual 181, [0, 11, 6125, 6127, 23, 1013], [], [sgX11_keep]), (16, 1, .aload_n 0, [0], [], []), (17, 1, .iload_n 1, [1], [], []), (18, 3, .invokevirtual 115, [1, 11, 7067, 7069, 58, 1013], [], [sgX11_eventNow]), (21, 1, .istore_n 2, [2], [], []), (22, 1, .aload_n 0, [0], [], []), (23, 3, .invokevirtual 187, [0, 11, 6165, 6167, 33, 1013], [], [sgX11_dealOut]), (26, 1, .iload_n 2, [2], [], []), (27, 1, .ireturn, [0], [], [])]
def bsX11_event : List (Nat × List gw_E) := [(0, bkX11_event_0), (12, bkX11_event_12)]
theorem fdX11_event_0 : gw_find bsX11_event 0 = bkX11_event_0 := rfl
theorem fdX11_event_12 : gw_find bsX11_event 12 = bkX11_event_12 := rfl
set_option maxRecDepth 40000 in
theorem stX11_event : gw_sta sgX11_event bsX11_event := ⟨by decide +kernel, gw_mem2 (i := 7094) rfl rfl, gw_all (by decide +kernel)⟩
def bkX11_enter_0 : List gw_E := [(0, 1, .aload_n 0, [0], [], []), (1, 3, .getfield 7, [11, 0, 1, 6073], [], []), (4, 1, .iconst 2, [], [2], []), (5, 1, .iaload, [], [], []), (6, 1, .iconst 2, [], [2], []), (7, 3, .if_icmp .ne 5, [12], [], []), (10, 1, .iconst 0, [], [0], []), (11, 1, .ireturn, [1], [], [])]
def bkX11_enter_12 : List gw_E := [(12, 1, .aload_n 0, [0], [], []), (13, 3, .invokevirtual 181, [0, 11, 6125, 6127, 23, 1013], [], [sgX11_keep]), (16, 1, .aload_n 0, [0], [], []), (17, 3, .invokevirtual 205, [0, 11, 7099, 7101, 64, 1013], [], [sgX11_enterNow]), (20, 1, .aload_n 0, [0], [], []), (21, 3, .invokevirtual 187, [0, 11, 6165, 6167, 33, 1013], [], [sgX11_dealOut]), (24, 1, .iconst 1, [], [1], []), (25, 1, .ireturn, [1], [], [])]
def bsX11_enter : List (Nat × List gw_E) := [(0, bkX11_enter_0), (12, bkX11_enter_12)]
theorem fdX11_enter_0 : gw_find bsX11_enter 0 = bkX11_enter_0 := rfl
theorem fdX11_enter_12 : gw_find bsX11_enter 12 = bkX11_enter_12 := rfl
set_option maxRecDepth 40000 in
theorem stX11_enter : gw_sta sgX11_enter bsX11_enter := ⟨by decide +kernel, gw_mem2 (i := 7098) rfl rfl, gw_all (by decide +kernel)⟩
def bkX11_send_0 : List gw_E := [(0, 1, .iload_n 1, [1], [], []), (1, 3, .invokestatic 208, [1, 0, 7107, 7108, 1013, 0], [], [sgX11_isGuest]), (4, 3, .ifCond .eq 47, [51], [], []), (7, 1, .iload_n 2, [2], [], []), (8, 1, .iconst 0, [], [0], []), (9, 2, .bipush 15, [], [15], []), (11, 3, .invokestatic 33, [3, 0, 6122, 6123, 1013, 0], [], [sgX11_isIn]), (14, 3, .ifCond .eq 37, [51], [], []), (17, 1, .iload_n 1, [1], [], []), (18, 1, .iconst 2, [], [2], []), (19, 3, .if_icmp .ne 13, [32], [], []), (22, 1, .aload_n 0, [0], [], []), (23, 3, .getfield 7, [11, 0, 1, 6073], [], []), (26, 1, .iconst 2, [], [2], []), (27, 1, .iaload, [], [], []), (28, 1, .iconst 2, [], [2], []), (29, 3, .if_icmp .eq 22, [51], [], [])]
def bkX11_send_32 : List gw_E := [(32, 1, .aload_n 0, [0], [], []), (33, 3, .getfield 7, [11, 0, 1, 6073], [], []), (36, 1, .aload_n 0, [0], [], []), (37, 1, .iload_n 1, [1], [], []), (38, 3, .invokevirtual 37, [1, 11, 6141, 6143, 27, 1013], [], [sgX11_guestAt]), (41, 1, .iconst 0, [], [0], []), (42, 1, .iadd, [], [], []), (43, 1, .iaload, [], [], []), (44, 1, .iload_n 2, [2], [], []), (45, 3, .invokestatic 29, [2, 0, 6176, 6177, 1013, 0], [], [sgX11_has]), (48, 3, .ifCond .eq 5, [53], [], [])]
def bkX11_send_51 : List gw_E := [(51, 1, .iconst 0, [], [0], []), (52, 1, .ireturn, [1], [], [])]
def bkX11_send_53 : List gw_E := [(53, 1, .aload_n 0, [0], [], []), (54, 3, .invokevirtual 181, [0, 11, 6125, 6127, 23, 1013], [], [sgX11_keep]), (57, 1, .aload_n 0, [0], [], []), (58, 1, .iload_n 1, [1], [], []), (59, 1, .iload_n 2, [2], [], []), (60, 3, .invokevirtual 169, [2, 11, 7110, 7112, 65, 1013], [], [sgX11_pend]), (63, 1, .aload_n 0, [0], [], []), (64, 3, .invokevirtual 187, [0, 11, 6165, 6167, 33, 1013], [], [sgX11_dealOut]), (67, 1, .iconst 1, [], [1], []), (68, 1, .ireturn, [1], [], [])]
def bsX11_send : List (Nat × List gw_E) := [(0, bkX11_send_0), (32, bkX11_send_32), (51, bkX11_send_51), (53, bkX11_send_53)]
theorem fdX11_send_0 : gw_find bsX11_send 0 = bkX11_send_0 := rfl
theorem fdX11_send_32 : gw_find bsX11_send 32 = bkX11_send_32 := rfl
theorem fdX11_send_51 : gw_find bsX11_send 51 = bkX11_send_51 := rfl
theorem fdX11_send_53 : gw_find bsX11_send 53 = bkX11_send_53 := rfl
set_option maxRecDepth 40000 in
theorem stX11_send : gw_sta sgX11_send bsX11_send := ⟨by decide +kernel, gw_mem2 (i := 7106) rfl rfl, gw_all (by decide +kernel)⟩
def bkX11_open_0 : List gw_E := [(0, 1, .iload_n 1, [1], [], []), (1, 3, .invokestatic 208, [1, 0, 7107, 7108, 1013, 0], [], [sgX11_isGuest]), (4, 3, .ifCond .ne 5, [9], [], []), (7, 1, .iconst 0, [], [0], []), (8, 1, .ireturn, [1], [], [])]
def bkX11_open_9 : List gw_E := [(9, 1, .aload_n 0, [0], [], []), (10, 3, .invokevirtual 181, [0, 11, 6125, 6127, 23, 1013], [], [sgX11_keep]), (13, 1, .aload_n 0, [0], [], []), (14, 3, .getfield 7, [11, 0, 1, 6073], [], []), (17, 1, .aload_n 0, [0], [], []), (18, 1, .iload_n 1, [1], [], []), (19, 3, .invokevirtual 37, [1, 11, 6141, 6143, 27, 1013], [], [sgX11_guestAt]), (22, 1, .iconst 2, [], [2], []), (23, 1, .iadd, [], [], []), (24, 1, .iload_n 2, [2], [], []), (25, 3, .ifCond .eq 7, [32], [], []), (28, 1, .iconst 1, [], [1], []), (29, 3, .goto 4, [33], [], [])]
def bkX11_open_32 : List gw_E := [(32, 1, .iconst 0, [], [0], [])]
def bkX11_open_33 : List gw_E := [(33, 1, .iastore, [], [], []), (34, 1, .aload_n 0, [0], [], []), (35, 3, .invokevirtual 187, [0, 11, 6165, 6167, 33, 1013], [], [sgX11_dealOut]), (38, 1, .iconst 1, [], [1], []), (39, 1, .ireturn, [1], [], [])]
def bsX11_open : List (Nat × List gw_E) := [(0, bkX11_open_0), (9, bkX11_open_9), (32, bkX11_open_32), (33, bkX11_open_33)]
theorem fdX11_open_0 : gw_find bsX11_open 0 = bkX11_open_0 := rfl
theorem fdX11_open_9 : gw_find bsX11_open 9 = bkX11_open_9 := rfl
theorem fdX11_open_32 : gw_find bsX11_open 32 = bkX11_open_32 := rfl
theorem fdX11_open_33 : gw_find bsX11_open 33 = bkX11_open_33 := rfl
set_option maxRecDepth 40000 in
theorem stX11_open : gw_sta sgX11_open bsX11_open := ⟨by decide +kernel, gw_mem2 (i := 7117) rfl rfl, gw_all (by decide +kernel)⟩
def bkX11_finish_0 : List gw_E := [(0, 1, .aload_n 0, [0], [], []), (1, 3, .getfield 7, [11, 0, 1, 6073], [], []), (4, 1, .aload_n 0, [0], [], []), (5, 1, .aload_n 0, [0], [], []), (6, 3, .getfield 7, [11, 0, 1, 6073], [], []), (9, 1, .iconst 2, [], [2], []), (10, 1, .iaload, [], [], []), (11, 3, .invokevirtual 37, [1, 11, 6141, 6143, 27, 1013], [], [sgX11_guestAt]), (14, 1, .iconst 1, [], [1], []), (15, 1, .iadd, [], [], []), (16, 1, .iaload, [], [], []), (17, 3, .ifCond .ne 5, [22], [], []), (20, 1, .iconst (-1), [], [-1], []), (21, 1, .ireturn, [0], [], [])]
def bkX11_finish_22 : List gw_E := [(22, 1, .aload_n 0, [0], [], []), (23, 3, .invokevirtual 181, [0, 11, 6125, 6127, 23, 1013], [], [sgX11_keep]), (26, 1, .aload_n 0, [0], [], []), (27, 1, .aload_n 0, [0], [], []), (28, 3, .getfield 7, [11, 0, 1, 6073], [], []), (31, 1, .iconst 2, [], [2], []), (32, 1, .iaload, [], [], []), (33, 3, .invokevirtual 211, [1, 11, 7122, 7124, 66, 1013], [], [sgX11_endNow]), (36, 1, .istore_n 1, [1], [], []), (37, 1, .aload_n 0, [0], [], []), (38, 3, .invokevirtual 187, [0, 11, 6165, 6167, 33, 1013], [], [sgX11_dealOut]), (41, 1, .iload_n 1, [1], [], []), (42, 1, .ireturn, [0], [], [])]
def bsX11_finish : List (Nat × List gw_E) := [(0, bkX11_finish_0), (22, bkX11_finish_22)]
theorem fdX11_finish_0 : gw_find bsX11_finish 0 = bkX11_finish_0 := rfl
theorem fdX11_finish_22 : gw_find bsX11_finish 22 = bkX11_finish_22 := rfl
set_option maxRecDepth 40000 in
theorem stX11_finish : gw_sta sgX11_finish bsX11_finish := ⟨by decide +kernel, gw_mem2 (i := 7121) rfl rfl, gw_all (by decide +kernel)⟩
def bkX11_hand_0 : List gw_E := [(0, 1, .iload_n 1, [1], [], []), (1, 1, .iconst 0, [], [0], []), (2, 1, .iconst 2, [], [2], []), (3, 3, .invokestatic 33, [3, 0, 6122, 6123, 1013, 0], [], [sgX11_isIn]), (6, 3, .ifCond .eq 24, [30], [], []), (9, 1, .iload_n 1, [1], [], []), (10, 1, .aload_n 0, [0], [], []), (11, 3, .getfield 7, [11, 0, 1, 6073], [], []), (14, 2, .bipush 15, [], [15], []), (16, 1, .iaload, [], [], []), (17, 3, .if_icmp .eq 13, [30], [], []), (20, 1, .aload_n 0, [0], [], []), (21, 3, .getfield 7, [11, 0, 1, 6073], [], []), (24, 1, .iconst 2, [], [2], []), (25, 1, .iaload, [], [], []), (26, 1, .iconst 2, [], [2], []), (27, 3, .if_icmp .ne 5, [32], [], [])]
def bkX11_hand_30 : List gw_E := [(30, 1, .iconst 0, [], [0], []), (31, 1, .ireturn, [1], [], [])]
def bkX11_hand_32 : List gw_E := [(32, 1, .aload_n 0, [0], [], []), (33, 3, .invokevirtual 181, [0, 11, 6125, 6127, 23, 1013], [], [sgX11_keep]), (36, 1, .aload_n 0, [0], [], []), (37, 1, .iload_n 1, [1], [], []), (38, 3, .invokevirtual 214, [1, 11, 7130, 7132, 67, 1013], [], [sgX11_handNow]), (41, 1, .aload_n 0, [0], [], []), (42, 3, .invokevirtual 187, [0, 11, 6165, 6167, 33, 1013], [], [sgX11_dealOut]), (45, 1, .iconst 1, [], [1], []), (46, 1, .ireturn, [1], [], [])]
def bsX11_hand : List (Nat × List gw_E) := [(0, bkX11_hand_0), (30, bkX11_hand_30), (32, bkX11_hand_32)]
theorem fdX11_hand_0 : gw_find bsX11_hand 0 = bkX11_hand_0 := rfl
theorem fdX11_hand_30 : gw_find bsX11_hand 30 = bkX11_hand_30 := rfl
theorem fdX11_hand_32 : gw_find bsX11_hand 32 = bkX11_hand_32 := rfl
set_option maxRecDepth 40000 in
theorem stX11_hand : gw_sta sgX11_hand bsX11_hand := ⟨by decide +kernel, gw_mem2 (i := 7129) rfl rfl, gw_all (by decide +kernel)⟩
def bkX11_scale_0 : List gw_E := [(0, 1, .iload_n 1, [1], [], []), (1, 3, .invokestatic 208, [1, 0, 7107, 7108, 1013, 0], [], [sgX11_isGuest]), (4, 3, .ifCond .eq 26, [30], [], []), (7, 1, .iload_n 2, [2], [], []), (8, 1, .iconst 1, [], [1], []), (9, 2, .bipush 64, [], [64], []), (11, 3, .invokestatic 33, [3, 0, 6122, 6123, 1013, 0], [], [sgX11_isIn]), (14, 3, .ifCond .eq 16, [30], [], []), (17, 1, .iload_n 3, [3], [], []), (18, 3, .sipush (-9999), [], [-9999], []), (21, 3, .sipush 9999, [], [9999], []), (24, 3, .invokestatic 33, [3, 0, 6122, 6123, 1013, 0], [], [sgX11_isIn]), (27, 3, .ifCond .ne 5, [32], [], [])]
def bkX11_scale_30 : List gw_E := [(30, 1, .iconst 0, [], [0], []), (31, 1, .ireturn, [1], [], [])]
def bkX11_scale_32 : List gw_E := [(32, 1, .aload_n 0, [0], [], []), (33, 3, .invokevirtual 181, [0, 11, 6125, 6127, 23, 1013], [], [sgX11_keep]), (36, 1, .aload_n 0, [0], [], []), (37, 3, .getfield 7, [11, 0, 1, 6073], [], []), (40, 1, .aload_n 0, [0], [], []), (41, 1, .iload_n 1, [1], [], []), (42, 3, .invokevirtual 37, [1, 11, 6141, 6143, 27, 1013], [], [sgX11_guestAt]), (45, 1, .iconst 3, [], [3], []), (46, 1, .iadd, [], [], []), (47, 1, .iload_n 2, [2], [], []), (48, 1, .iastore, [], [], []), (49, 1, .aload_n 0, [0], [], []), (50, 3, .getfield 7, [11, 0, 1, 6073], [], []), (53, 1, .aload_n 0, [0], [], []), (54, 1, .iload_n 1, [1], [], []), (55, 3, .invokevirtual 37, [1, 11, 6141, 6143, 27, 1013], [], [sgX11_guestAt]), (58, 1, .iconst 4, [], [4], []), (59, 1, .iadd, [], [], []), (60, 1, .iload_n 3, [3], [], []), (61, 1, .iastore, [], [], []), (62, 1, .aload_n 0, [0], [], []), (63, 3, .invokevirtual 187, [0, 11, 6165, 6167, 33, 1013], [], [sgX11_dealOut]), (66, 1, .iconst 1, [], [1], []), (67, 1, .ireturn, [1], [], [])]
def bsX11_scale : List (Nat × List gw_E) := [(0, bkX11_scale_0), (30, bkX11_scale_30), (32, bkX11_scale_32)]
theorem fdX11_scale_0 : gw_find bsX11_scale 0 = bkX11_scale_0 := rfl
theorem fdX11_scale_30 : gw_find bsX11_scale 30 = bkX11_scale_30 := rfl
theorem fdX11_scale_32 : gw_find bsX11_scale 32 = bkX11_scale_32 := rfl
set_option maxRecDepth 40000 in
theorem stX11_scale : gw_sta sgX11_scale bsX11_scale := ⟨by decide +kernel, gw_mem2 (i := 7141) rfl rfl, gw_all (by decide +kernel)⟩
def bkX11_timer_0 : List gw_E := [(0, 1, .iload_n 1, [1], [], []), (1, 1, .iconst 0, [], [0], []), (2, 1, .iconst 2, [], [2], []), (3, 3, .invokestatic 33, [3, 0, 6122, 6123, 1013, 0], [], [sgX11_isIn]), (6, 3, .ifCond .eq 36, [42], [], []), (9, 1, .iload_n 2, [2], [], []), (10, 2, .ldc 217, [7146], [-99999], []), (12, 2, .ldc 218, [7147], [999999], []), (14, 3, .invokestatic 33, [3, 0, 6122, 6123, 1013, 0], [], [sgX11_isIn]), (17, 3, .ifCond .eq 25, [42], [], []), (20, 1, .iload_n 3, [3], [], []), (21, 1, .iconst 0, [], [0], []), (22, 2, .bipush 15, [], [15], []), (24, 3, .invokestatic 33, [3, 0, 6122, 6123, 1013, 0], [], [sgX11_isIn]), (27, 3, .ifCond .eq 15, [42], [], []), (30, 1, .aload_n 0, [0], [], []), (31, 3, .getfield 7, [11, 0, 1, 6073], [], []), (34, 2, .bipush 26, [], [26], []), (36, 1, .iaload, [], [], []), (37, 2, .bipush 12, [], [12], []), (39, 3, .if_icmp .ne 5, [44], [], [])]
def bkX11_timer_42 : List gw_E := [(42, 1, .iconst (-1), [], [-1], []), (43, 1, .ireturn, [0], [], [])]
def bkX11_timer_44 : List gw_E := [(44, 1, .aload_n 0, [0], [], []), (45, 3, .invokevirtual 181, [0, 11, 6125, 6127, 23, 1013], [], [sgX11_keep]), (48, 3, .sipush 957, [], [957], []), (51, 1, .iconst 3, [], [3], []), (52, 1, .aload_n 0, [0], [], []), (53, 3, .getfield 7, [11, 0, 1, 6073], [], []), (56, 2, .bipush 26, [], [26], []), (58, 1, .iaload, [], [], []), (59, 1, .imul, [], [], []), (60, 1, .iadd, [], [], []), (61, 2, .istore 4, [4], [], []), (63, 1, .aload_n 0, [0], [], []), (64, 3, .getfield 7, [11, 0, 1, 6073], [], []), (67, 2, .iload 4, [4], [], []), (69, 1, .iload_n 1, [1], [], []), (70, 1, .iastore, [], [], []), (71, 1, .aload_n 0, [0], [], []), (72, 3, .getfield 7, [11, 0, 1, 6073], [], []), (75, 2, .iload 4, [4], [], []), (77, 1, .iconst 1, [], [1], []), (78, 1, .iadd, [], [], []), (79, 1, .iload_n 2, [2], [], []), (80, 1, .iastore, [], [], []), (81, 1, .aload_n 0, [0], [], []), (82, 3, .getfield 7, [11, 0, 1, 6073], [], []), (85, 2, .iload 4, [4], [], []), (87, 1, .iconst 2, [], [2], []), (88, 1, .iadd, [], [], []), (89, 1, .iload_n 3, [3], [], []), (90, 1, .iastore, [], [], []), (91, 1, .aload_n 0, [0], [], []), (92, 3, .getfield 7, [11, 0, 1, 6073], [], []), (95, 2, .bipush 26, [], [26], []), (97, 1, .dup2, [], [], []), (98, 1, .iaload, [], [], []), (99, 1, .iconst 1, [], [1], []), (100, 1, .iadd, [], [], []), (101, 1, .iastore, [], [], []), (102, 1, .aload_n 0, [0], [], []), (103, 3, .invokevirtual 187, [0, 11, 6165, 6167, 33, 1013], [], [sgX11_dealOut]), (106, 1, .aload_n 0, [0], [], []), (107, 3, .getfield 7, [11, 0, 1, 6073], [], []), (110, 2, .bipush 26, [], [26], []), (112, 1, .iaload, [], [], []), (113, 1, .ireturn, [0], [], [])]
def bsX11_timer : List (Nat × List gw_E) := [(0, bkX11_timer_0), (42, bkX11_timer_42), (44, bkX11_timer_44)]
theorem fdX11_timer_0 : gw_find bsX11_timer 0 = bkX11_timer_0 := rfl
theorem fdX11_timer_42 : gw_find bsX11_timer 42 = bkX11_timer_42 := rfl
theorem fdX11_timer_44 : gw_find bsX11_timer 44 = bkX11_timer_44 := rfl
set_option maxRecDepth 40000 in
theorem stX11_timer : gw_sta sgX11_timer bsX11_timer := ⟨by decide +kernel, gw_mem2 (i := 7145) rfl rfl, gw_all (by decide +kernel)⟩
def bkX11_cancel_0 : List gw_E := [(0, 1, .iload_n 1, [1], [], []), (1, 1, .iconst 0, [], [0], []), (2, 1, .aload_n 0, [0], [], []), (3, 3, .getfield 7, [11, 0, 1, 6073], [], []), (6, 2, .bipush 26, [], [26], []), (8, 1, .iaload, [], [], []), (9, 1, .iconst 1, [], [1], []), (10, 1, .isub, [], [], []), (11, 3, .invokestatic 33, [3, 0, 6122, 6123, 1013, 0], [], [sgX11_isIn]), (14, 3, .ifCond .ne 5, [19], [], []), (17, 1, .iconst 0, [], [0], []), (18, 1, .ireturn, [1], [], [])]
def bkX11_cancel_19 : List gw_E := [(19, 1, .aload_n 0, [0], [], []), (20, 3, .invokevirtual 181, [0, 11, 6125, 6127, 23, 1013], [], [sgX11_keep]), (23, 1, .aload_n 0, [0], [], []), (24, 1, .iload_n 1, [1], [], []), (25, 3, .invokevirtual 166, [1, 11, 7152, 7154, 69, 1013], [], [sgX11_dropTimer]), (28, 1, .aload_n 0, [0], [], []), (29, 3, .invokevirtual 187, [0, 11, 6165, 6167, 33, 1013], [], [sgX11_dealOut]), (32, 1, .iconst 1, [], [1], []), (33, 1, .ireturn, [1], [], [])]
def bsX11_cancel : List (Nat × List gw_E) := [(0, bkX11_cancel_0), (19, bkX11_cancel_19)]
theorem fdX11_cancel_0 : gw_find bsX11_cancel 0 = bkX11_cancel_0 := rfl
theorem fdX11_cancel_19 : gw_find bsX11_cancel 19 = bkX11_cancel_19 := rfl
set_option maxRecDepth 40000 in
theorem stX11_cancel : gw_sta sgX11_cancel bsX11_cancel := ⟨by decide +kernel, gw_mem2 (i := 7151) rfl rfl, gw_all (by decide +kernel)⟩
def bkX11_isHandled_0 : List gw_E := [(0, 1, .iload_n 0, [0], [], []), (1, 1, .iconst 1, [], [1], []), (2, 3, .if_icmp .eq 20, [22], [], []), (5, 1, .iload_n 0, [0], [], []), (6, 1, .iconst 4, [], [4], []), (7, 3, .if_icmp .eq 15, [22], [], []), (10, 1, .iload_n 0, [0], [], []), (11, 2, .bipush 6, [], [6], []), (13, 3, .if_icmp .eq 9, [22], [], []), (16, 1, .iload_n 0, [0], [], []), (17, 2, .bipush 8, [], [8], []), (19, 3, .if_icmp .ne 7, [26], [], [])]
def bkX11_isHandled_22 : List gw_E := [(22, 1, .iconst 1, [], [1], []), (23, 3, .goto 4, [27], [], [])]
def bkX11_isHandled_26 : List gw_E := [(26, 1, .iconst 0, [], [0], [])]
def bkX11_isHandled_27 : List gw_E := [(27, 1, .ireturn, [1], [], [])]
def bsX11_isHandled : List (Nat × List gw_E) := [(0, bkX11_isHandled_0), (22, bkX11_isHandled_22), (26, bkX11_isHandled_26), (27, bkX11_isHandled_27)]
theorem fdX11_isHandled_0 : gw_find bsX11_isHandled 0 = bkX11_isHandled_0 := rfl
theorem fdX11_isHandled_22 : gw_find bsX11_isHandled 22 = bkX11_isHandled_22 := rfl
theorem fdX11_isHandled_26 : gw_find bsX11_isHandled 26 = bkX11_isHandled_26 := rfl
theorem fdX11_isHandled_27 : gw_find bsX11_isHandled 27 = bkX11_isHandled_27 := rfl
set_option maxRecDepth 40000 in
theorem stX11_isHandled : gw_sta sgX11_isHandled bsX11_isHandled := ⟨by decide +kernel, gw_mem2 (i := 7162) rfl rfl, gw_all (by decide +kernel)⟩
def bkX11_handler_0 : List gw_E := [(0, 1, .iload_n 1, [1], [], []), (1, 3, .invokestatic 219, [1, 0, 7160, 7161, 1013, 0], [], [sgX11_isHandled]), (4, 3, .ifCond .eq 13, [17], [], []), (7, 1, .iload_n 2, [2], [], []), (8, 1, .iconst (-1), [], [-1], []), (9, 2, .bipush 23, [], [23], []), (11, 3, .invokestatic 33, [3, 0, 6122, 6123, 1013, 0], [], [sgX11_isIn]), (14, 3, .ifCond .ne 5, [19], [], [])]
def bkX11_handler_17 : List gw_E := [(17, 1, .iconst 0, [], [0], []), (18, 1, .ireturn, [1], [], [])]
def bkX11_handler_19 : List gw_E := [(19, 1, .aload_n 0, [0], [], []), (20, 3, .invokevirtual 181, [0, 11, 6125, 6127, 23, 1013], [], [sgX11_keep]), (23, 1, .aload_n 0, [0], [], []), (24, 3, .getfield 7, [11, 0, 1, 6073], [], []), (27, 3, .sipush 828, [], [828], []), (30, 1, .iload_n 1, [1], [], []), (31, 1, .iadd, [], [], []), (32, 1, .iload_n 2, [2], [], []), (33, 1, .iastore, [], [], []), (34, 1, .aload_n 0, [0], [], []), (35, 3, .invokevirtual 187, [0, 11, 6165, 6167, 33, 1013], [], [sgX11_dealOut]), (38, 1, .iconst 1, [], [1], []), (39, 1, .ireturn, [1], [], [])]
def bsX11_handler : List (Nat × List gw_E) := [(0, bkX11_handler_0), (17, bkX11_handler_17), (19, bkX11_handler_19)]
theorem fdX11_handler_0 : gw_find bsX11_handler 0 = bkX11_handler_0 := rfl
theorem fdX11_handler_17 : gw_find bsX11_handler 17 = bkX11_handler_17 := rfl
theorem fdX11_handler_19 : gw_find bsX11_handler 19 = bkX11_handler_19 := rfl
set_option maxRecDepth 40000 in
theorem stX11_handler : gw_sta sgX11_handler bsX11_handler := ⟨by decide +kernel, gw_mem2 (i := 7159) rfl rfl, gw_all (by decide +kernel)⟩
def bkX11_slice_0 : List gw_E := [(0, 1, .iload_n 1, [1], [], []), (1, 1, .iconst 0, [], [0], []), (2, 2, .bipush 99, [], [99], []), (4, 3, .invokestatic 33, [3, 0, 6122, 6123, 1013, 0], [], [sgX11_isIn]), (7, 3, .ifCond .ne 5, [12], [], []), (10, 1, .iconst 0, [], [0], []), (11, 1, .ireturn, [1], [], [])]
def bkX11_slice_12 : List gw_E := [(12, 1, .aload_n 0, [0], [], []), (13, 3, .invokevirtual 181, [0, 11, 6125, 6127, 23, 1013], [], [sgX11_keep]), (16, 1, .aload_n 0, [0], [], []), (17, 3, .getfield 7, [11, 0, 1, 6073], [], []), (20, 2, .bipush 11, [], [11], []), (22, 1, .iload_n 1, [1], [], []), (23, 1, .iastore, [], [], []), (24, 1, .aload_n 0, [0], [], []), (25, 3, .invokevirtual 187, [0, 11, 6165, 6167, 33, 1013], [], [sgX11_dealOut]), (28, 1, .iconst 1, [], [1], []), (29, 1, .ireturn, [1], [], [])]
def bsX11_slice : List (Nat × List gw_E) := [(0, bkX11_slice_0), (12, bkX11_slice_12)]
theorem fdX11_slice_0 : gw_find bsX11_slice 0 = bkX11_slice_0 := rfl
theorem fdX11_slice_12 : gw_find bsX11_slice 12 = bkX11_slice_12 := rfl
set_option maxRecDepth 40000 in
theorem stX11_slice : gw_sta sgX11_slice bsX11_slice := ⟨by decide +kernel, gw_mem2 (i := 7166) rfl rfl, gw_all (by decide +kernel)⟩
def bkX11_forget_0 : List gw_E := [(0, 1, .aload_n 0, [0], [], []), (1, 3, .invokevirtual 181, [0, 11, 6125, 6127, 23, 1013], [], [sgX11_keep]), (4, 1, .aload_n 0, [0], [], []), (5, 3, .getfield 7, [11, 0, 1, 6073], [], []), (8, 2, .bipush 21, [], [21], []), (10, 1, .iaload, [], [], []), (11, 3, .invokestatic 222, [1, 0, 7171, 7172, 1013, 0], [], [sgX11_many]), (14, 1, .istore_n 1, [1], [], []), (15, 1, .aload_n 0, [0], [], []), (16, 3, .getfield 7, [11, 0, 1, 6073], [], []), (19, 2, .bipush 21, [], [21], []), (21, 1, .iconst 0, [], [0], []), (22, 1, .iastore, [], [], []), (23, 1, .aload_n 0, [0], [], []), (24, 3, .invokevirtual 187, [0, 11, 6165, 6167, 33, 1013], [], [sgX11_dealOut]), (27, 1, .iload_n 1, [1], [], []), (28, 1, .ireturn, [0], [], [])]
def bsX11_forget : List (Nat × List gw_E) := [(0, bkX11_forget_0)]
theorem fdX11_forget_0 : gw_find bsX11_forget 0 = bkX11_forget_0 := rfl
set_option maxRecDepth 40000 in
theorem stX11_forget : gw_sta sgX11_forget bsX11_forget := ⟨by decide +kernel, gw_mem2 (i := 7170) rfl rfl, gw_all (by decide +kernel)⟩
def bkX11_pass_0 : List gw_E := [(0, 1, .iload_n 1, [1], [], []), (1, 1, .iconst 1, [], [1], []), (2, 3, .sipush 200, [], [200], []), (5, 3, .invokestatic 33, [3, 0, 6122, 6123, 1013, 0], [], [sgX11_isIn]), (8, 3, .ifCond .eq 16, [24], [], []), (11, 1, .aload_n 0, [0], [], []), (12, 3, .getfield 7, [11, 0, 1, 6073], [], []), (15, 1, .iconst 3, [], [3], []), (16, 1, .iaload, [], [], []), (17, 1, .iload_n 1, [1], [], []), (18, 1, .iadd, [], [], []), (19, 2, .ldc 225, [7178], [99999], []), (21, 3, .if_icmp .le 5, [26], [], [])]
def bkX11_pass_24 : List gw_E := [(24, 1, .iconst (-1), [], [-1], []), (25, 1, .ireturn, [0], [], [])]
def bkX11_pass_26 : List gw_E := [(26, 1, .aload_n 0, [0], [], []), (27, 3, .invokevirtual 181, [0, 11, 6125, 6127, 23, 1013], [], [sgX11_keep]), (30, 1, .iconst 0, [], [0], []), (31, 1, .istore_n 2, [2], [], []), (32, 1, .iconst 0, [], [0], []), (33, 1, .istore_n 3, [3], [], [])]
def bkX11_pass_34 : List gw_E := [(34, 1, .iload_n 3, [3], [], []), (35, 1, .iload_n 1, [1], [], []), (36, 3, .if_icmp .ge 20, [56], [], []), (39, 1, .iload_n 2, [2], [], []), (40, 1, .aload_n 0, [0], [], []), (41, 3, .invokevirtual 226, [0, 11, 7179, 7181, 70, 1013], [], [sgX11_tick]), (44, 1, .iadd, [], [], []), (45, 1, .istore_n 2, [2], [], []), (46, 1, .aload_n 0, [0], [], []), (47, 3, .invokevirtual 187, [0, 11, 6165, 6167, 33, 1013], [], [sgX11_dealOut]), (50, 3, .iinc 3 1, [3], [1], []), (53, 3, .goto (-19), [34], [], [])]
def bkX11_pass_56 : List gw_E := [(56, 1, .iload_n 2, [2], [], []), (57, 1, .ireturn, [0], [], [])]
def bsX11_pass : List (Nat × List gw_E) := [(0, bkX11_pass_0), (24, bkX11_pass_24), (26, bkX11_pass_26), (34, bkX11_pass_34), (56, bkX11_pass_56)]
theorem fdX11_pass_0 : gw_find bsX11_pass 0 = bkX11_pass_0 := rfl
theorem fdX11_pass_24 : gw_find bsX11_pass 24 = bkX11_pass_24 := rfl
theorem fdX11_pass_26 : gw_find bsX11_pass 26 = bkX11_pass_26 := rfl
theorem fdX11_pass_34 : gw_find bsX11_pass 34 = bkX11_pass_34 := rfl
theorem fdX11_pass_56 : gw_find bsX11_pass 56 = bkX11_pass_56 := rfl
set_option maxRecDepth 40000 in
theorem stX11_pass : gw_sta sgX11_pass bsX11_pass := ⟨by decide +kernel, gw_mem2 (i := 7177) rfl rfl, gw_all (by decide +kernel)⟩
def bkX11_needs_0 : List gw_E := [(0, 1, .iload_n 1, [1], [], []), (1, 1, .iconst 0, [], [0], []), (2, 1, .iload_n 0, [0], [], []), (3, 1, .iconst 1, [], [1], []), (4, 3, .if_icmp .ne 8, [12], [], []), (7, 2, .bipush 11, [], [11], []), (9, 3, .goto 5, [14], [], [])]
def bkX11_needs_12 : List gw_E := [(12, 2, .bipush 9, [], [9], [])]
def bkX11_needs_14 : List gw_E := [(14, 3, .invokestatic 33, [3, 0, 6122, 6123, 1013, 0], [], [sgX11_isIn]), (17, 3, .ifCond .ne 5, [22], [], []), (20, 1, .iconst (-1), [], [-1], []), (21, 1, .ireturn, [0], [], [])]
def bkX11_needs_22 : List gw_E := [(22, 1, .iload_n 1, [1], [], []), (23, 57, .tableswitch 98 0 10 #[57, 59, 57, 57, 61, 61, 63, 74, 98, 85, 96], [121, 80, 82, 80, 80, 84, 84, 86, 97, 121, 108, 119], [0], [])]
def bkX11_needs_80 : List gw_E := [(80, 1, .iconst 1, [], [1], []), (81, 1, .ireturn, [0], [], [])]
def bkX11_needs_82 : List gw_E := [(82, 1, .iconst 2, [], [2], []), (83, 1, .ireturn, [0], [], [])]
def bkX11_needs_84 : List gw_E := [(84, 1, .iconst 0, [], [0], []), (85, 1, .ireturn, [0], [], [])]
def bkX11_needs_86 : List gw_E := [(86, 1, .iload_n 0, [0], [], []), (87, 1, .iconst 1, [], [1], []), (88, 3, .if_icmp .ne 7, [95], [], []), (91, 1, .iconst 0, [], [0], []), (92, 3, .goto 4, [96], [], [])]
def bkX11_needs_95 : List gw_E := [(95, 1, .iconst 2, [], [2], [])]
def bkX11_needs_96 : List gw_E := [(96, 1, .ireturn, [0], [], [])]
def bkX11_needs_97 : List gw_E := [(97, 1, .iload_n 0, [0], [], []), (98, 1, .iconst 1, [], [1], []), (99, 3, .if_icmp .ne 7, [106], [], []), (102, 1, .iconst 2, [], [2], []), (103, 3, .goto 4, [107], [], [])]
def bkX11_needs_106 : List gw_E := [(106, 1, .iconst 0, [], [0], [])]
def bkX11_needs_107 : List gw_E := [(107, 1, .ireturn, [0], [], [])]
def bkX11_needs_108 : List gw_E := [(108, 1, .iload_n 0, [0], [], []), (109, 1, .iconst 1, [], [1], []), (110, 3, .if_icmp .ne 7, [117], [], []), (113, 1, .iconst 1, [], [1], []), (114, 3, .goto 4, [118], [], [])]
def bkX11_needs_117 : List gw_E := [(117, 1, .iconst 0, [], [0], [])]
def bkX11_needs_118 : List gw_E := [(118, 1, .ireturn, [0], [], [])]
def bkX11_needs_119 : List gw_E := [(119, 1, .iconst 0, [], [0], []), (120, 1, .ireturn, [0], [], [])]
def bkX11_needs_121 : List gw_E := [(121, 1, .iconst 1, [], [1], []), (122, 1, .ireturn, [0], [], [])]
def bsX11_needs : List (Nat × List gw_E) := [(0, bkX11_needs_0), (12, bkX11_needs_12), (14, bkX11_needs_14), (22, bkX11_needs_22), (80, bkX11_needs_80), (82, bkX11_needs_82), (84, bkX11_needs_84), (86, bkX11_needs_86), (95, bkX11_needs_95), (96, bkX11_needs_96), (97, bkX11_needs_97), (106, bkX11_needs_106), (107, bkX11_needs_107), (108, bkX11_needs_108), (117, bkX11_needs_117), (118, bkX11_needs_118), (119, bkX11_needs_119), (121, bkX11_needs_121)]
theorem fdX11_needs_0 : gw_find bsX11_needs 0 = bkX11_needs_0 := rfl
theorem fdX11_needs_12 : gw_find bsX11_needs 12 = bkX11_needs_12 := rfl
theorem fdX11_needs_14 : gw_find bsX11_needs 14 = bkX11_needs_14 := rfl
theorem fdX11_needs_22 : gw_find bsX11_needs 22 = bkX11_needs_22 := rfl
theorem fdX11_needs_80 : gw_find bsX11_needs 80 = bkX11_needs_80 := rfl
theorem fdX11_needs_82 : gw_find bsX11_needs 82 = bkX11_needs_82 := rfl
theorem fdX11_needs_84 : gw_find bsX11_needs 84 = bkX11_needs_84 := rfl
theorem fdX11_needs_86 : gw_find bsX11_needs 86 = bkX11_needs_86 := rfl
theorem fdX11_needs_95 : gw_find bsX11_needs 95 = bkX11_needs_95 := rfl
theorem fdX11_needs_96 : gw_find bsX11_needs 96 = bkX11_needs_96 := rfl
theorem fdX11_needs_97 : gw_find bsX11_needs 97 = bkX11_needs_97 := rfl
theorem fdX11_needs_106 : gw_find bsX11_needs 106 = bkX11_needs_106 := rfl
theorem fdX11_needs_107 : gw_find bsX11_needs 107 = bkX11_needs_107 := rfl
theorem fdX11_needs_108 : gw_find bsX11_needs 108 = bkX11_needs_108 := rfl
theorem fdX11_needs_117 : gw_find bsX11_needs 117 = bkX11_needs_117 := rfl
theorem fdX11_needs_118 : gw_find bsX11_needs 118 = bkX11_needs_118 := rfl
theorem fdX11_needs_119 : gw_find bsX11_needs 119 = bkX11_needs_119 := rfl
theorem fdX11_needs_121 : gw_find bsX11_needs 121 = bkX11_needs_121 := rfl
set_option maxRecDepth 40000 in
theorem stX11_needs : gw_sta sgX11_needs bsX11_needs := ⟨by decide +kernel, gw_mem2 (i := 7212) rfl rfl, gw_all (by decide +kernel)⟩
def bkX11_isAct_0 : List gw_E := [(0, 1, .iload_n 0, [0], [], []), (1, 1, .iload_n 1, [1], [], []), (2, 3, .invokestatic 229, [2, 0, 7210, 7211, 1013, 0], [], [sgX11_needs]), (5, 2, .istore 4, [4], [], []), (7, 1, .iload_n 1, [1], [], []), (8, 1, .iconst 3, [], [3], []), (9, 3, .if_icmp .ne 8, [17], [], []), (12, 2, .bipush 7, [], [7], []), (14, 3, .goto 15, [29], [], [])]
def bkX11_isAct_17 : List gw_E := [(17, 1, .iload_n 1, [1], [], []), (18, 2, .bipush 11, [], [11], []), (20, 3, .if_icmp .ne 7, [27], [], []), (23, 1, .iconst 2, [], [2], []), (24, 3, .goto 5, [29], [], [])]
def bkX11_isAct_27 : List gw_E := [(27, 2, .bipush 15, [], [15], [])]
def bkX11_isAct_29 : List gw_E := [(29, 2, .istore 5, [5], [], []), (31, 1, .iload_n 1, [1], [], []), (32, 1, .iconst 1, [], [1], []), (33, 3, .if_icmp .ne 9, [42], [], []), (36, 3, .sipush 9999, [], [9999], []), (39, 3, .goto 5, [44], [], [])]
def bkX11_isAct_42 : List gw_E := [(42, 2, .bipush 15, [], [15], [])]
def bkX11_isAct_44 : List gw_E := [(44, 2, .istore 6, [6], [], []), (46, 2, .iload 4, [4], [], []), (48, 1, .iconst (-1), [], [-1], []), (49, 3, .if_icmp .eq 46, [95], [], []), (52, 1, .iload_n 2, [2], [], []), (53, 1, .iconst 0, [], [0], []), (54, 2, .iload 4, [4], [], []), (56, 3, .ifCond .le 8, [64], [], []), (59, 2, .iload 5, [5], [], []), (61, 3, .goto 4, [65], [], [])]
def bkX11_isAct_64 : List gw_E := [(64, 1, .iconst 0, [], [0], [])]
def bkX11_isAct_65 : List gw_E := [(65, 3, .invokestatic 33, [3, 0, 6122, 6123, 1013, 0], [], [sgX11_isIn]), (68, 3, .ifCond .eq 27, [95], [], []), (71, 1, .iload_n 3, [3], [], []), (72, 1, .iconst 0, [], [0], []), (73, 2, .iload 4, [4], [], []), (75, 1, .iconst 1, [], [1], []), (76, 3, .if_icmp .le 8, [84], [], []), (79, 2, .iload 6, [6], [], []), (81, 3, .goto 4, [85], [], [])]
def bkX11_isAct_84 : List gw_E := [(84, 1, .iconst 0, [], [0], [])]
def bkX11_isAct_85 : List gw_E := [(85, 3, .invokestatic 33, [3, 0, 6122, 6123, 1013, 0], [], [sgX11_isIn]), (88, 3, .ifCond .eq 7, [95], [], []), (91, 1, .iconst 1, [], [1], []), (92, 3, .goto 4, [96], [], [])]
def bkX11_isAct_95 : List gw_E := [(95, 1, .iconst 0, [], [0], [])]
def bkX11_isAct_96 : List gw_E := [(96, 1, .ireturn, [1], [], [])]
def bsX11_isAct : List (Nat × List gw_E) := [(0, bkX11_isAct_0), (17, bkX11_isAct_17), (27, bkX11_isAct_27), (29, bkX11_isAct_29), (42, bkX11_isAct_42), (44, bkX11_isAct_44), (64, bkX11_isAct_64), (65, bkX11_isAct_65), (84, bkX11_isAct_84), (85, bkX11_isAct_85), (95, bkX11_isAct_95), (96, bkX11_isAct_96)]
theorem fdX11_isAct_0 : gw_find bsX11_isAct 0 = bkX11_isAct_0 := rfl
theorem fdX11_isAct_17 : gw_find bsX11_isAct 17 = bkX11_isAct_17 := rfl
theorem fdX11_isAct_27 : gw_find bsX11_isAct 27 = bkX11_isAct_27 := rfl
theorem fdX11_isAct_29 : gw_find bsX11_isAct 29 = bkX11_isAct_29 := rfl
theorem fdX11_isAct_42 : gw_find bsX11_isAct 42 = bkX11_isAct_42 := rfl
theorem fdX11_isAct_44 : gw_find bsX11_isAct 44 = bkX11_isAct_44 := rfl
theorem fdX11_isAct_64 : gw_find bsX11_isAct 64 = bkX11_isAct_64 := rfl
theorem fdX11_isAct_65 : gw_find bsX11_isAct 65 = bkX11_isAct_65 := rfl
theorem fdX11_isAct_84 : gw_find bsX11_isAct 84 = bkX11_isAct_84 := rfl
theorem fdX11_isAct_85 : gw_find bsX11_isAct 85 = bkX11_isAct_85 := rfl
theorem fdX11_isAct_95 : gw_find bsX11_isAct 95 = bkX11_isAct_95 := rfl
theorem fdX11_isAct_96 : gw_find bsX11_isAct 96 = bkX11_isAct_96 := rfl
set_option maxRecDepth 40000 in
theorem stX11_isAct : gw_sta sgX11_isAct bsX11_isAct := ⟨by decide +kernel, gw_mem2 (i := 7209) rfl rfl, gw_all (by decide +kernel)⟩
def bkX11_act_0 : List gw_E := [(0, 1, .iload_n 1, [1], [], []), (1, 3, .invokestatic 208, [1, 0, 7107, 7108, 1013, 0], [], [sgX11_isGuest]), (4, 3, .ifCond .eq 32, [36], [], []), (7, 1, .iload_n 1, [1], [], []), (8, 1, .iload_n 2, [2], [], []), (9, 1, .iload_n 3, [3], [], []), (10, 2, .iload 4, [4], [], []), (12, 3, .invokestatic 232, [4, 0, 7207, 7208, 1013, 0], [], [sgX11_isAct]), (15, 3, .ifCond .eq 21, [36], [], []), (18, 1, .aload_n 0, [0], [], []), (19, 3, .getfield 7, [11, 0, 1, 6073], [], []), (22, 1, .aload_n 0, [0], [], []), (23, 1, .iload_n 1, [1], [], []), (24, 3, .invokevirtual 37, [1, 11, 6141, 6143, 27, 1013], [], [sgX11_guestAt]), (27, 2, .bipush 6, [], [6], []), (29, 1, .iadd, [], [], []), (30, 1, .iaload, [], [], []), (31, 2, .bipush 24, [], [24], []), (33, 3, .if_icmp .ne 5, [38], [], [])]
def bkX11_act_36 : List gw_E := [(36, 1, .iconst (-1), [], [-1], []), (37, 1, .ireturn, [0], [], [])]
def bkX11_act_38 : List gw_E := [(38, 1, .aload_n 0, [0], [], []), (39, 3, .invokevirtual 181, [0, 11, 6125, 6127, 23, 1013], [], [sgX11_keep]), (42, 1, .aload_n 0, [0], [], []), (43, 1, .iload_n 1, [1], [], []), (44, 3, .invokevirtual 37, [1, 11, 6141, 6143, 27, 1013], [], [sgX11_guestAt]), (47, 2, .istore 5, [5], [], []), (49, 2, .iload 5, [5], [], []), (51, 2, .bipush 7, [], [7], []), (53, 1, .iadd, [], [], []), (54, 1, .iconst 3, [], [3], []), (55, 1, .aload_n 0, [0], [], []), (56, 3, .getfield 7, [11, 0, 1, 6073], [], []), (59, 2, .iload 5, [5], [], []), (61, 2, .bipush 6, [], [6], []), (63, 1, .iadd, [], [], []), (64, 1, .iaload, [], [], []), (65, 1, .imul, [], [], []), (66, 1, .iadd, [], [], []), (67, 2, .istore 6, [6], [], []), (69, 1, .aload_n 0, [0], [], []), (70, 3, .getfield 7, [11, 0, 1, 6073], [], []), (73, 2, .iload 6, [6], [], []), (75, 1, .iload_n 2, [2], [], []), (76, 1, .iastore, [], [], []), (77, 1, .aload_n 0, [0], [], []), (78, 3, .getfield 7, [11, 0, 1, 6073], [], []), (81, 2, .iload 6, [6], [], []), (83, 1, .iconst 1, [], [1], []), (84, 1, .iadd, [], [], []), (85, 1, .iload_n 3, [3], [], []), (86, 1, .iastore, [], [], []), (87, 1, .aload_n 0, [0], [], []), (88, 3, .getfield 7, [11, 0, 1, 6073], [], []), (91, 2, .iload 6, [6], [], []), (93, 1, .iconst 2, [], [2], []), (94, 1, .iadd, [], [], []), (95, 2, .iload 4, [4], [], []), (97, 1, .iastore, [], [], []), (98, 1, .aload_n 0, [0], [], []), (99, 3, .getfield 7, [11, 0, 1, 6073], [], []), (102, 2, .iload 5, [5], [], []), (104, 2, .bipush 6, [], [6], []), (106, 1, .iadd, [], [], []), (107, 1, .dup2, [], [], []), (108, 1, .iaload, [], [], []), (109, 1, .iconst 1, [], [1], []), (110, 1, .iadd, [], [], []), (111, 1, .iastore, [], [], []), (112, 1, .aload_n 0, [0], [], []), (113, 3, .getfield 7, [11, 0, 1, 6073], [], []), (116, 2, .iload 5, [5], [], []), (118, 2, .bipush 6, [], [6], []), (120, 1, .iadd, [], [], []), (121, 1, .iaload, [], [], []), (122, 2, .istore 7, [7], [], []), (124, 1, .aload_n 0, [0], [], []), (125, 3, .invokevirtual 187, [0, 11, 6165, 6167, 33, 1013], [], [sgX11_dealOut]), (128, 2, .iload 7, [7], [], []), (130, 1, .ireturn, [0], [], [])]
def bsX11_act : List (Nat × List gw_E) := [(0, bkX11_act_0), (36, bkX11_act_36), (38, bkX11_act_38)]
theorem fdX11_act_0 : gw_find bsX11_act 0 = bkX11_act_0 := rfl
theorem fdX11_act_36 : gw_find bsX11_act 36 = bkX11_act_36 := rfl
theorem fdX11_act_38 : gw_find bsX11_act 38 = bkX11_act_38 := rfl
set_option maxRecDepth 40000 in
theorem stX11_act : gw_sta sgX11_act bsX11_act := ⟨by decide +kernel, gw_mem2 (i := 7206) rfl rfl, gw_all (by decide +kernel)⟩
def bkX11_wipe_0 : List gw_E := [(0, 1, .iload_n 1, [1], [], []), (1, 3, .invokestatic 208, [1, 0, 7107, 7108, 1013, 0], [], [sgX11_isGuest]), (4, 3, .ifCond .ne 5, [9], [], []), (7, 1, .iconst (-1), [], [-1], []), (8, 1, .ireturn, [0], [], [])]
def bkX11_wipe_9 : List gw_E := [(9, 1, .aload_n 0, [0], [], []), (10, 3, .invokevirtual 181, [0, 11, 6125, 6127, 23, 1013], [], [sgX11_keep]), (13, 1, .aload_n 0, [0], [], []), (14, 1, .iload_n 1, [1], [], []), (15, 3, .invokevirtual 37, [1, 11, 6141, 6143, 27, 1013], [], [sgX11_guestAt]), (18, 1, .istore_n 2, [2], [], []), (19, 1, .aload_n 0, [0], [], []), (20, 3, .getfield 7, [11, 0, 1, 6073], [], []), (23, 1, .iload_n 2, [2], [], []), (24, 2, .bipush 6, [], [6], []), (26, 1, .iadd, [], [], []), (27, 1, .iaload, [], [], []), (28, 1, .istore_n 3, [3], [], []), (29, 1, .iconst 5, [], [5], []), (30, 2, .istore 4, [4], [], [])]
def bkX11_wipe_32 : List gw_E := [(32, 2, .iload 4, [4], [], []), (34, 2, .bipush 79, [], [79], []), (36, 3, .if_icmp .ge 19, [55], [], []), (39, 1, .aload_n 0, [0], [], []), (40, 3, .getfield 7, [11, 0, 1, 6073], [], []), (43, 1, .iload_n 2, [2], [], []), (44, 2, .iload 4, [4], [], []), (46, 1, .iadd, [], [], []), (47, 1, .iconst 0, [], [0], []), (48, 1, .iastore, [], [], []), (49, 3, .iinc 4 1, [4], [1], []), (52, 3, .goto (-20), [32], [], [])]
def bkX11_wipe_55 : List gw_E := [(55, 1, .aload_n 0, [0], [], []), (56, 3, .invokevirtual 187, [0, 11, 6165, 6167, 33, 1013], [], [sgX11_dealOut]), (59, 1, .iload_n 3, [3], [], []), (60, 1, .ireturn, [0], [], [])]
def bsX11_wipe : List (Nat × List gw_E) := [(0, bkX11_wipe_0), (9, bkX11_wipe_9), (32, bkX11_wipe_32), (55, bkX11_wipe_55)]
theorem fdX11_wipe_0 : gw_find bsX11_wipe 0 = bkX11_wipe_0 := rfl
theorem fdX11_wipe_9 : gw_find bsX11_wipe 9 = bkX11_wipe_9 := rfl
theorem fdX11_wipe_32 : gw_find bsX11_wipe 32 = bkX11_wipe_32 := rfl
theorem fdX11_wipe_55 : gw_find bsX11_wipe 55 = bkX11_wipe_55 := rfl
set_option maxRecDepth 40000 in
theorem stX11_wipe : gw_sta sgX11_wipe bsX11_wipe := ⟨by decide +kernel, gw_mem2 (i := 7216) rfl rfl, gw_all (by decide +kernel)⟩
def bkX11_actOuter_0 : List gw_E := [(0, 1, .iload_n 1, [1], [], []), (1, 35, .tableswitch 101 6 10 #[35, 42, 54, 63, 92], [102, 36, 43, 55, 64, 93], [6], [])]
def bkX11_actOuter_36 : List gw_E := [(36, 1, .aload_n 0, [0], [], []), (37, 3, .invokevirtual 205, [0, 11, 7099, 7101, 64, 1013], [], [sgX11_enterNow]), (40, 3, .goto 78, [118], [], [])]
def bkX11_actOuter_43 : List gw_E := [(43, 1, .aload_n 0, [0], [], []), (44, 1, .iconst 1, [], [1], []), (45, 1, .iload_n 2, [2], [], []), (46, 1, .iload_n 3, [3], [], []), (47, 2, .bipush 7, [], [7], []), (49, 3, .invokevirtual 69, [4, 11, 6133, 6135, 25, 1013], [], [sgX11_layEntry]), (52, 3, .goto 66, [118], [], [])]
def bkX11_actOuter_55 : List gw_E := [(55, 1, .aload_n 0, [0], [], []), (56, 1, .iconst 2, [], [2], []), (57, 1, .iload_n 2, [2], [], []), (58, 3, .invokevirtual 169, [2, 11, 7110, 7112, 65, 1013], [], [sgX11_pend]), (61, 3, .goto 57, [118], [], [])]
def bkX11_actOuter_64 : List gw_E := [(64, 1, .aload_n 0, [0], [], []), (65, 3, .getfield 7, [11, 0, 1, 6073], [], []), (68, 2, .bipush 16, [], [16], []), (70, 1, .iaload, [], [], []), (71, 1, .iconst (-1), [], [-1], []), (72, 3, .if_icmp .eq 46, [118], [], []), (75, 1, .aload_n 0, [0], [], []), (76, 1, .iconst 1, [], [1], []), (77, 1, .aload_n 0, [0], [], []), (78, 3, .getfield 7, [11, 0, 1, 6073], [], []), (81, 2, .bipush 16, [], [16], []), (83, 1, .iaload, [], [], []), (84, 1, .iload_n 2, [2], [], []), (85, 2, .bipush 7, [], [7], []), (87, 3, .invokevirtual 69, [4, 11, 6133, 6135, 25, 1013], [], [sgX11_layEntry]), (90, 3, .goto 28, [118], [], [])]
def bkX11_actOuter_93 : List gw_E := [(93, 1, .aload_n 0, [0], [], []), (94, 1, .iconst 1, [], [1], []), (95, 3, .invokevirtual 211, [1, 11, 7122, 7124, 66, 1013], [], [sgX11_endNow]), (98, 1, .pop, [], [], []), (99, 3, .goto 19, [118], [], [])]
def bkX11_actOuter_102 : List gw_E := [(102, 1, .aload_n 0, [0], [], []), (103, 3, .getfield 7, [11, 0, 1, 6073], [], []), (106, 2, .bipush 15, [], [15], []), (108, 1, .iaload, [], [], []), (109, 1, .iload_n 2, [2], [], []), (110, 3, .if_icmp .eq 8, [118], [], []), (113, 1, .aload_n 0, [0], [], []), (114, 1, .iload_n 2, [2], [], []), (115, 3, .invokevirtual 214, [1, 11, 7130, 7132, 67, 1013], [], [sgX11_handNow])]
def bkX11_actOuter_118 : List gw_E := [(118, 1, .return_, [], [], [])]
def bsX11_actOuter : List (Nat × List gw_E) := [(0, bkX11_actOuter_0), (36, bkX11_actOuter_36), (43, bkX11_actOuter_43), (55, bkX11_actOuter_55), (64, bkX11_actOuter_64), (93, bkX11_actOuter_93), (102, bkX11_actOuter_102), (118, bkX11_actOuter_118)]
theorem fdX11_actOuter_0 : gw_find bsX11_actOuter 0 = bkX11_actOuter_0 := rfl
theorem fdX11_actOuter_36 : gw_find bsX11_actOuter 36 = bkX11_actOuter_36 := rfl
theorem fdX11_actOuter_43 : gw_find bsX11_actOuter 43 = bkX11_actOuter_43 := rfl
theorem fdX11_actOuter_55 : gw_find bsX11_actOuter 55 = bkX11_actOuter_55 := rfl
theorem fdX11_actOuter_64 : gw_find bsX11_actOuter 64 = bkX11_actOuter_64 := rfl
theorem fdX11_actOuter_93 : gw_find bsX11_actOuter 93 = bkX11_actOuter_93 := rfl
theorem fdX11_actOuter_102 : gw_find bsX11_actOuter 102 = bkX11_actOuter_102 := rfl
theorem fdX11_actOuter_118 : gw_find bsX11_actOuter 118 = bkX11_actOuter_118 := rfl
set_option maxRecDepth 40000 in
theorem stX11_actOuter : gw_sta sgX11_actOuter bsX11_actOuter := ⟨by decide +kernel, gw_mem2 (i := 8008) rfl rfl, gw_all (by decide +kernel)⟩
def bkX11_hasPlace_0 : List gw_E := [(0, 1, .iload_n 2, [2], [], []), (1, 1, .iconst 0, [], [0], []), (2, 1, .aload_n 0, [0], [], []), (3, 3, .getfield 7, [11, 0, 1, 6073], [], []), (6, 1, .iload_n 1, [1], [], []), (7, 2, .bipush 6, [], [6], []), (9, 1, .iadd, [], [], []), (10, 1, .iaload, [], [], []), (11, 1, .iconst 1, [], [1], []), (12, 1, .isub, [], [], []), (13, 3, .invokestatic 33, [3, 0, 6122, 6123, 1013, 0], [], [sgX11_isIn]), (16, 1, .ireturn, [1], [], [])]
def bsX11_hasPlace : List (Nat × List gw_E) := [(0, bkX11_hasPlace_0)]
theorem fdX11_hasPlace_0 : gw_find bsX11_hasPlace 0 = bkX11_hasPlace_0 := rfl
set_option maxRecDepth 40000 in
theorem stX11_hasPlace : gw_sta sgX11_hasPlace bsX11_hasPlace := ⟨by decide +kernel, gw_mem2 (i := 8004) rfl rfl, gw_all (by decide +kernel)⟩
def bkX11_actInner_0 : List gw_E := [(0, 1, .aload_n 0, [0], [], []), (1, 1, .iconst 2, [], [2], []), (2, 3, .invokevirtual 37, [1, 11, 6141, 6143, 27, 1013], [], [sgX11_guestAt]), (5, 2, .istore 4, [4], [], []), (7, 1, .iload_n 1, [1], [], []), (8, 28, .tableswitch 86 6 8 #[28, 40, 49], [94, 36, 48, 57], [6], [])]
def bkX11_actInner_36 : List gw_E := [(36, 1, .aload_n 0, [0], [], []), (37, 1, .iconst 0, [], [0], []), (38, 1, .iload_n 2, [2], [], []), (39, 1, .iload_n 3, [3], [], []), (40, 2, .bipush 7, [], [7], []), (42, 3, .invokevirtual 69, [4, 11, 6133, 6135, 25, 1013], [], [sgX11_layEntry]), (45, 3, .goto 93, [138], [], [])]
def bkX11_actInner_48 : List gw_E := [(48, 1, .aload_n 0, [0], [], []), (49, 1, .iconst 2, [], [2], []), (50, 3, .invokevirtual 211, [1, 11, 7122, 7124, 66, 1013], [], [sgX11_endNow]), (53, 1, .pop, [], [], []), (54, 3, .goto 84, [138], [], [])]
def bkX11_actInner_57 : List gw_E := [(57, 1, .aload_n 0, [0], [], []), (58, 3, .getfield 7, [11, 0, 1, 6073], [], []), (61, 2, .iload 4, [4], [], []), (63, 3, .sipush 144, [], [144], []), (66, 1, .iadd, [], [], []), (67, 1, .iaload, [], [], []), (68, 1, .iconst (-1), [], [-1], []), (69, 3, .if_icmp .eq 69, [138], [], []), (72, 1, .aload_n 0, [0], [], []), (73, 1, .iconst 0, [], [0], []), (74, 1, .aload_n 0, [0], [], []), (75, 3, .getfield 7, [11, 0, 1, 6073], [], []), (78, 2, .iload 4, [4], [], []), (80, 3, .sipush 144, [], [144], []), (83, 1, .iadd, [], [], []), (84, 1, .iaload, [], [], []), (85, 1, .iload_n 2, [2], [], []), (86, 2, .bipush 7, [], [7], []), (88, 3, .invokevirtual 69, [4, 11, 6133, 6135, 25, 1013], [], [sgX11_layEntry]), (91, 3, .goto 47, [138], [], [])]
def bkX11_actInner_94 : List gw_E := [(94, 1, .aload_n 0, [0], [], []), (95, 2, .iload 4, [4], [], []), (97, 1, .aload_n 0, [0], [], []), (98, 3, .getfield 7, [11, 0, 1, 6073], [], []), (101, 2, .iload 4, [4], [], []), (103, 3, .sipush 144, [], [144], []), (106, 1, .iadd, [], [], []), (107, 1, .iconst 1, [], [1], []), (108, 1, .iadd, [], [], []), (109, 1, .iaload, [], [], []), (110, 3, .invokevirtual 236, [2, 11, 8001, 8003, 81, 1013], [], [sgX11_hasPlace]), (113, 3, .ifCond .eq 25, [138], [], []), (116, 1, .aload_n 0, [0], [], []), (117, 3, .getfield 7, [11, 0, 1, 6073], [], []), (120, 2, .iload 4, [4], [], []), (122, 1, .iconst 5, [], [5], []), (123, 1, .iadd, [], [], []), (124, 1, .aload_n 0, [0], [], []), (125, 3, .getfield 7, [11, 0, 1, 6073], [], []), (128, 2, .iload 4, [4], [], []), (130, 3, .sipush 144, [], [144], []), (133, 1, .iadd, [], [], []), (134, 1, .iconst 1, [], [1], []), (135, 1, .iadd, [], [], []), (136, 1, .iaload, [], [], []), (137, 1, .iastore, [], [], [])]
def bkX11_actInner_138 : List gw_E := [(138, 1, .return_, [], [], [])]
def bsX11_actInner : List (Nat × List gw_E) := [(0, bkX11_actInner_0), (36, bkX11_actInner_36), (48, bkX11_actInner_48), (57, bkX11_actInner_57), (94, bkX11_actInner_94), (138, bkX11_actInner_138)]
theorem fdX11_actInner_0 : gw_find bsX11_actInner 0 = bkX11_actInner_0 := rfl
theorem fdX11_actInner_36 : gw_find bsX11_actInner 36 = bkX11_actInner_36 := rfl
theorem fdX11_actInner_48 : gw_find bsX11_actInner 48 = bkX11_actInner_48 := rfl
theorem fdX11_actInner_57 : gw_find bsX11_actInner 57 = bkX11_actInner_57 := rfl
theorem fdX11_actInner_94 : gw_find bsX11_actInner 94 = bkX11_actInner_94 := rfl
theorem fdX11_actInner_138 : gw_find bsX11_actInner 138 = bkX11_actInner_138 := rfl
set_option maxRecDepth 40000 in
theorem stX11_actInner : gw_sta sgX11_actInner bsX11_actInner := ⟨by decide +kernel, gw_mem2 (i := 8012) rfl rfl, gw_all (by decide +kernel)⟩
def bkX11_goOnBy_0 : List gw_E := [(0, 1, .iload_n 3, [3], [], []), (1, 2, .bipush (-3), [], [-3], []), (3, 3, .if_icmp .ne 12, [15], [], []), (6, 1, .aload_n 0, [0], [], []), (7, 3, .getfield 7, [11, 0, 1, 6073], [], []), (10, 1, .iload_n 1, [1], [], []), (11, 1, .iconst 5, [], [5], []), (12, 1, .iadd, [], [], []), (13, 1, .iload_n 2, [2], [], []), (14, 1, .iastore, [], [], [])]
def bkX11_goOnBy_15 : List gw_E := [(15, 2, .iload 4, [4], [], []), (17, 3, .ifCond .ne 4, [21], [], []), (20, 1, .return_, [], [], [])]
def bkX11_goOnBy_21 : List gw_E := [(21, 1, .aload_n 0, [0], [], []), (22, 3, .getfield 7, [11, 0, 1, 6073], [], []), (25, 1, .iload_n 1, [1], [], []), (26, 3, .sipush 144, [], [144], []), (29, 1, .iadd, [], [], []), (30, 1, .iconst 1, [], [1], []), (31, 1, .iadd, [], [], []), (32, 1, .iload_n 2, [2], [], []), (33, 1, .iastore, [], [], []), (34, 1, .aload_n 0, [0], [], []), (35, 1, .iload_n 1, [1], [], []), (36, 1, .aload_n 0, [0], [], []), (37, 3, .getfield 7, [11, 0, 1, 6073], [], []), (40, 1, .iload_n 1, [1], [], []), (41, 3, .sipush 143, [], [143], []), (44, 1, .iadd, [], [], []), (45, 1, .iaload, [], [], []), (46, 3, .invokevirtual 236, [2, 11, 8001, 8003, 81, 1013], [], [sgX11_hasPlace]), (49, 3, .ifCond .eq 21, [70], [], []), (52, 1, .aload_n 0, [0], [], []), (53, 3, .getfield 7, [11, 0, 1, 6073], [], []), (56, 1, .iload_n 1, [1], [], []), (57, 1, .iconst 5, [], [5], []), (58, 1, .iadd, [], [], []), (59, 1, .aload_n 0, [0], [], []), (60, 3, .getfield 7, [11, 0, 1, 6073], [], []), (63, 1, .iload_n 1, [1], [], []), (64, 3, .sipush 143, [], [143], []), (67, 1, .iadd, [], [], []), (68, 1, .iaload, [], [], []), (69, 1, .iastore, [], [], [])]
def bkX11_goOnBy_70 : List gw_E := [(70, 1, .return_, [], [], [])]
def bsX11_goOnBy : List (Nat × List gw_E) := [(0, bkX11_goOnBy_0), (15, bkX11_goOnBy_15), (21, bkX11_goOnBy_21), (70, bkX11_goOnBy_70)]
theorem fdX11_goOnBy_0 : gw_find bsX11_goOnBy 0 = bkX11_goOnBy_0 := rfl
theorem fdX11_goOnBy_15 : gw_find bsX11_goOnBy 15 = bkX11_goOnBy_15 := rfl
theorem fdX11_goOnBy_21 : gw_find bsX11_goOnBy 21 = bkX11_goOnBy_21 := rfl
theorem fdX11_goOnBy_70 : gw_find bsX11_goOnBy 70 = bkX11_goOnBy_70 := rfl
set_option maxRecDepth 40000 in
theorem stX11_goOnBy : gw_sta sgX11_goOnBy bsX11_goOnBy := ⟨by decide +kernel, gw_mem2 (i := 8000) rfl rfl, gw_all (by decide +kernel)⟩
def bkX11_actNow_0 : List gw_E := [(0, 1, .aload_n 0, [0], [], []), (1, 3, .getfield 7, [11, 0, 1, 6073], [], []), (4, 1, .iconst 2, [], [2], []), (5, 1, .iaload, [], [], []), (6, 1, .istore_n 1, [1], [], []), (7, 1, .aload_n 0, [0], [], []), (8, 1, .iload_n 1, [1], [], []), (9, 3, .invokevirtual 37, [1, 11, 6141, 6143, 27, 1013], [], [sgX11_guestAt]), (12, 1, .istore_n 2, [2], [], []), (13, 1, .aload_n 0, [0], [], []), (14, 3, .getfield 7, [11, 0, 1, 6073], [], []), (17, 1, .iload_n 2, [2], [], []), (18, 2, .bipush 6, [], [6], []), (20, 1, .iadd, [], [], []), (21, 1, .iaload, [], [], []), (22, 3, .ifCond .ne 4, [26], [], []), (25, 1, .return_, [], [], [])]
def bkX11_actNow_26 : List gw_E := [(26, 1, .aload_n 0, [0], [], []), (27, 3, .getfield 7, [11, 0, 1, 6073], [], []), (30, 1, .iload_n 2, [2], [], []), (31, 1, .iconst 5, [], [5], []), (32, 1, .iadd, [], [], []), (33, 1, .iaload, [], [], []), (34, 1, .istore_n 3, [3], [], []), (35, 1, .aload_n 0, [0], [], []), (36, 3, .getfield 7, [11, 0, 1, 6073], [], []), (39, 1, .iload_n 2, [2], [], []), (40, 2, .bipush 7, [], [7], []), (42, 1, .iadd, [], [], []), (43, 1, .iconst 3, [], [3], []), (44, 1, .iload_n 3, [3], [], []), (45, 1, .imul, [], [], []), (46, 1, .iadd, [], [], []), (47, 1, .iaload, [], [], []), (48, 2, .istore 4, [4], [], []), (50, 1, .aload_n 0, [0], [], []), (51, 3, .getfield 7, [11, 0, 1, 6073], [], []), (54, 1, .iload_n 2, [2], [], []), (55, 2, .bipush 7, [], [7], []), (57, 1, .iadd, [], [], []), (58, 1, .iconst 3, [], [3], []), (59, 1, .iload_n 3, [3], [], []), (60, 1, .imul, [], [], []), (61, 1, .iadd, [], [], []), (62, 1, .iconst 1, [], [1], []), (63, 1, .iadd, [], [], []), (64, 1, .iaload, [], [], []), (65, 2, .istore 5, [5], [], []), (67, 1, .aload_n 0, [0], [], []), (68, 3, .getfield 7, [11, 0, 1, 6073], [], []), (71, 1, .iload_n 2, [2], [], []), (72, 2, .bipush 7, [], [7], []), (74, 1, .iadd, [], [], []), (75, 1, .iconst 3, [], [3], []), (76, 1, .iload_n 3, [3], [], []), (77, 1, .imul, [], [], []), (78, 1, .iadd, [], [], []), (79, 1, .iconst 2, [], [2], []), (80, 1, .iadd, [], [], []), (81, 1, .iaload, [], [], []), (82, 2, .istore 6, [6], [], []), (84, 1, .aload_n 0, [0], [], []), (85, 3, .getfield 7, [11, 0, 1, 6073], [], []), (88, 1, .iload_n 2, [2], [], []), (89, 1, .iconst 5, [], [5], []), (90, 1, .iadd, [], [], []), (91, 1, .iload_n 3, [3], [], []), (92, 1, .iconst 1, [], [1], []), (93, 1, .iadd, [], [], []), (94, 1, .aload_n 0, [0], [], []), (95, 3, .getfield 7, [11, 0, 1, 6073], [], []), (98, 1, .iload_n 2, [2], [], []), (99, 2, .bipush 6, [], [6], []), (101, 1, .iadd, [], [], []), (102, 1, .iaload, [], [], []), (103, 1, .irem, [], [], []), (104, 1, .iastore, [], [], []), (105, 2, .iload 4, [4], [], []), (107, 1, .iconst 3, [], [3], []), (108, 3, .if_icmp .ge 52, [160], [], []), (111, 1, .aload_n 0, [0], [], []), (112, 3, .getfield 7, [11, 0, 1, 6073], [], []), (115, 2, .bipush 7, [], [7], []), (117, 1, .iaload, [], [], []), (118, 2, .istore 7, [7], [], []), (120, 1, .aload_n 0, [0], [], []), (121, 2, .iload 5, [5], [], []), (123, 2, .iload 4, [4], [], []), (125, 2, .iload 6, [6], [], []), (127, 3, .invokevirtual 202, [3, 11, 7023, 7025, 47, 1013], [], [sgX11_touchNow]), (130, 2, .istore 8, [8], [], []), (132, 1, .aload_n 0, [0], [], []), (133, 1, .iload_n 2, [2], [], []), (134, 1, .iload_n 3, [3], [], []), (135, 2, .iload 8, [8], [], []), (137, 1, .aload_n 0, [0], [], []), (138, 3, .getfield 7, [11, 0, 1, 6073], [], []), (141, 2, .bipush 7, [], [7], []), (143, 1, .iaload, [], [], []), (144, 2, .iload 7, [7], [], []), (146, 3, .if_icmp .le 7, [153], [], []), (149, 1, .iconst 1, [], [1], []), (150, 3, .goto 4, [154], [], [])]
def bkX11_actNow_153 : List gw_E := [(153, 1, .iconst 0, [], [0], [])]
def bkX11_actNow_154 : List gw_E := [(154, 3, .invokevirtual 239, [4, 11, 7237, 7239, 80, 1013], [], [sgX11_goOnBy]), (157, 3, .goto 76, [233], [], [])]
def bkX11_actNow_160 : List gw_E := [(160, 2, .iload 4, [4], [], []), (162, 1, .iconst 3, [], [3], []), (163, 3, .if_icmp .ne 13, [176], [], []), (166, 1, .aload_n 0, [0], [], []), (167, 2, .iload 5, [5], [], []), (169, 3, .invokevirtual 115, [1, 11, 7067, 7069, 58, 1013], [], [sgX11_eventNow]), (172, 1, .pop, [], [], []), (173, 3, .goto 60, [233], [], [])]
def bkX11_actNow_176 : List gw_E := [(176, 2, .iload 4, [4], [], []), (178, 2, .bipush 6, [], [6], []), (180, 3, .if_icmp .ge 25, [205], [], []), (183, 1, .aload_n 0, [0], [], []), (184, 3, .getfield 7, [11, 0, 1, 6073], [], []), (187, 1, .iload_n 2, [2], [], []), (188, 1, .iconst 2, [], [2], []), (189, 1, .iadd, [], [], []), (190, 2, .iload 4, [4], [], []), (192, 1, .iconst 4, [], [4], []), (193, 3, .if_icmp .ne 7, [200], [], []), (196, 1, .iconst 1, [], [1], []), (197, 3, .goto 4, [201], [], [])]
def bkX11_actNow_200 : List gw_E := [(200, 1, .iconst 0, [], [0], [])]
def bkX11_actNow_201 : List gw_E := [(201, 1, .iastore, [], [], []), (202, 3, .goto 31, [233], [], [])]
def bkX11_actNow_205 : List gw_E := [(205, 1, .iload_n 1, [1], [], []), (206, 1, .iconst 1, [], [1], []), (207, 3, .if_icmp .ne 16, [223], [], []), (210, 1, .aload_n 0, [0], [], []), (211, 2, .iload 4, [4], [], []), (213, 2, .iload 5, [5], [], []), (215, 2, .iload 6, [6], [], []), (217, 3, .invokevirtual 243, [3, 11, 8005, 8007, 82, 1013], [], [sgX11_actOuter]), (220, 3, .goto 13, [233], [], [])]
def bkX11_actNow_223 : List gw_E := [(223, 1, .aload_n 0, [0], [], []), (224, 2, .iload 4, [4], [], []), (226, 2, .iload 5, [5], [], []), (228, 2, .iload 6, [6], [], []), (230, 3, .invokevirtual 246, [3, 11, 8009, 8011, 83, 1013], [], [sgX11_actInner])]
def bkX11_actNow_233 : List gw_E := [(233, 1, .return_, [], [], [])]
def bsX11_actNow : List (Nat × List gw_E) := [(0, bkX11_actNow_0), (26, bkX11_actNow_26), (153, bkX11_actNow_153), (154, bkX11_actNow_154), (160, bkX11_actNow_160), (176, bkX11_actNow_176), (200, bkX11_actNow_200), (201, bkX11_actNow_201), (205, bkX11_actNow_205), (223, bkX11_actNow_223), (233, bkX11_actNow_233)]
theorem fdX11_actNow_0 : gw_find bsX11_actNow 0 = bkX11_actNow_0 := rfl
theorem fdX11_actNow_26 : gw_find bsX11_actNow 26 = bkX11_actNow_26 := rfl
theorem fdX11_actNow_153 : gw_find bsX11_actNow 153 = bkX11_actNow_153 := rfl
theorem fdX11_actNow_154 : gw_find bsX11_actNow 154 = bkX11_actNow_154 := rfl
theorem fdX11_actNow_160 : gw_find bsX11_actNow 160 = bkX11_actNow_160 := rfl
theorem fdX11_actNow_176 : gw_find bsX11_actNow 176 = bkX11_actNow_176 := rfl
theorem fdX11_actNow_200 : gw_find bsX11_actNow 200 = bkX11_actNow_200 := rfl
theorem fdX11_actNow_201 : gw_find bsX11_actNow 201 = bkX11_actNow_201 := rfl
theorem fdX11_actNow_205 : gw_find bsX11_actNow 205 = bkX11_actNow_205 := rfl
theorem fdX11_actNow_223 : gw_find bsX11_actNow 223 = bkX11_actNow_223 := rfl
theorem fdX11_actNow_233 : gw_find bsX11_actNow 233 = bkX11_actNow_233 := rfl
set_option maxRecDepth 40000 in
theorem stX11_actNow : gw_sta sgX11_actNow bsX11_actNow := ⟨by decide +kernel, gw_mem2 (i := 7236) rfl rfl, gw_all (by decide +kernel)⟩
def bkX11_goNow_0 : List gw_E := [(0, 1, .aload_n 0, [0], [], []), (1, 3, .invokevirtual 226, [0, 11, 7179, 7181, 70, 1013], [], [sgX11_tick]), (4, 1, .pop, [], [], []), (5, 1, .aload_n 0, [0], [], []), (6, 3, .invokevirtual 187, [0, 11, 6165, 6167, 33, 1013], [], [sgX11_dealOut]), (9, 1, .aload_n 0, [0], [], []), (10, 3, .invokevirtual 249, [0, 11, 7233, 7235, 79, 1013], [], [sgX11_actNow]), (13, 1, .aload_n 0, [0], [], []), (14, 3, .invokevirtual 187, [0, 11, 6165, 6167, 33, 1013], [], [sgX11_dealOut]), (17, 1, .return_, [], [], [])]
def bsX11_goNow : List (Nat × List gw_E) := [(0, bkX11_goNow_0)]
theorem fdX11_goNow_0 : gw_find bsX11_goNow 0 = bkX11_goNow_0 := rfl
set_option maxRecDepth 40000 in
theorem stX11_goNow : gw_sta sgX11_goNow bsX11_goNow := ⟨by decide +kernel, gw_mem2 (i := 7232) rfl rfl, gw_all (by decide +kernel)⟩
def bkX11_canGo_0 : List gw_E := [(0, 1, .iload_n 1, [1], [], []), (1, 1, .iconst 1, [], [1], []), (2, 1, .iload_n 2, [2], [], []), (3, 3, .invokestatic 33, [3, 0, 6122, 6123, 1013, 0], [], [sgX11_isIn]), (6, 3, .ifCond .eq 20, [26], [], []), (9, 1, .aload_n 0, [0], [], []), (10, 3, .getfield 7, [11, 0, 1, 6073], [], []), (13, 1, .iconst 3, [], [3], []), (14, 1, .iaload, [], [], []), (15, 1, .iload_n 1, [1], [], []), (16, 1, .iadd, [], [], []), (17, 2, .ldc 225, [7178], [99999], []), (19, 3, .if_icmp .gt 7, [26], [], []), (22, 1, .iconst 1, [], [1], []), (23, 3, .goto 4, [27], [], [])]
def bkX11_canGo_26 : List gw_E := [(26, 1, .iconst 0, [], [0], [])]
def bkX11_canGo_27 : List gw_E := [(27, 1, .ireturn, [1], [], [])]
def bsX11_canGo : List (Nat × List gw_E) := [(0, bkX11_canGo_0), (26, bkX11_canGo_26), (27, bkX11_canGo_27)]
theorem fdX11_canGo_0 : gw_find bsX11_canGo 0 = bkX11_canGo_0 := rfl
theorem fdX11_canGo_26 : gw_find bsX11_canGo 26 = bkX11_canGo_26 := rfl
theorem fdX11_canGo_27 : gw_find bsX11_canGo 27 = bkX11_canGo_27 := rfl
set_option maxRecDepth 40000 in
theorem stX11_canGo : gw_sta sgX11_canGo bsX11_canGo := ⟨by decide +kernel, gw_mem2 (i := 7224) rfl rfl, gw_all (by decide +kernel)⟩
def bkX11_exitsAll_0 : List gw_E := [(0, 1, .aload_n 0, [0], [], []), (1, 3, .getfield 7, [11, 0, 1, 6073], [], []), (4, 1, .iconst 5, [], [5], []), (5, 1, .iaload, [], [], []), (6, 1, .aload_n 0, [0], [], []), (7, 3, .getfield 7, [11, 0, 1, 6073], [], []), (10, 2, .bipush 6, [], [6], []), (12, 1, .iaload, [], [], []), (13, 1, .iadd, [], [], []), (14, 1, .ireturn, [0], [], [])]
def bsX11_exitsAll : List (Nat × List gw_E) := [(0, bkX11_exitsAll_0)]
theorem fdX11_exitsAll_0 : gw_find bsX11_exitsAll 0 = bkX11_exitsAll_0 := rfl
set_option maxRecDepth 40000 in
theorem stX11_exitsAll : gw_sta sgX11_exitsAll bsX11_exitsAll := ⟨by decide +kernel, gw_mem2 (i := 7228) rfl rfl, gw_all (by decide +kernel)⟩
def bkX11_run_0 : List gw_E := [(0, 1, .aload_n 0, [0], [], []), (1, 1, .iload_n 1, [1], [], []), (2, 3, .sipush 200, [], [200], []), (5, 3, .invokevirtual 252, [2, 11, 7221, 7223, 76, 1013], [], [sgX11_canGo]), (8, 3, .ifCond .ne 5, [13], [], []), (11, 1, .iconst (-1), [], [-1], []), (12, 1, .ireturn, [0], [], [])]
def bkX11_run_13 : List gw_E := [(13, 1, .aload_n 0, [0], [], []), (14, 3, .invokevirtual 181, [0, 11, 6125, 6127, 23, 1013], [], [sgX11_keep]), (17, 1, .aload_n 0, [0], [], []), (18, 3, .invokevirtual 255, [0, 11, 7225, 7227, 77, 1013], [], [sgX11_exitsAll]), (21, 1, .istore_n 2, [2], [], []), (22, 1, .iconst 0, [], [0], []), (23, 1, .istore_n 3, [3], [], [])]
def bkX11_run_24 : List gw_E := [(24, 1, .iload_n 3, [3], [], []), (25, 1, .iload_n 1, [1], [], []), (26, 3, .if_icmp .ge 13, [39], [], []), (29, 1, .aload_n 0, [0], [], []), (30, 3, .invokevirtual 258, [0, 11, 7229, 7231, 78, 1013], [], [sgX11_goNow]), (33, 3, .iinc 3 1, [3], [1], []), (36, 3, .goto (-12), [24], [], [])]
def bkX11_run_39 : List gw_E := [(39, 1, .aload_n 0, [0], [], []), (40, 3, .invokevirtual 255, [0, 11, 7225, 7227, 77, 1013], [], [sgX11_exitsAll]), (43, 1, .iload_n 2, [2], [], []), (44, 1, .isub, [], [], []), (45, 1, .ireturn, [0], [], [])]
def bsX11_run : List (Nat × List gw_E) := [(0, bkX11_run_0), (13, bkX11_run_13), (24, bkX11_run_24), (39, bkX11_run_39)]
theorem fdX11_run_0 : gw_find bsX11_run 0 = bkX11_run_0 := rfl
theorem fdX11_run_13 : gw_find bsX11_run 13 = bkX11_run_13 := rfl
theorem fdX11_run_24 : gw_find bsX11_run 24 = bkX11_run_24 := rfl
theorem fdX11_run_39 : gw_find bsX11_run 39 = bkX11_run_39 := rfl
set_option maxRecDepth 40000 in
theorem stX11_run : gw_sta sgX11_run bsX11_run := ⟨by decide +kernel, gw_mem2 (i := 7220) rfl rfl, gw_all (by decide +kernel)⟩
def bkX11_freeFrames_0 : List gw_E := [(0, 1, .iconst 0, [], [0], []), (1, 1, .istore_n 1, [1], [], []), (2, 1, .iconst 0, [], [0], []), (3, 1, .istore_n 2, [2], [], [])]
def bkX11_freeFrames_4 : List gw_E := [(4, 1, .iload_n 2, [2], [], []), (5, 2, .bipush 16, [], [16], []), (7, 3, .if_icmp .ge 34, [41], [], []), (10, 1, .iload_n 1, [1], [], []), (11, 1, .aload_n 0, [0], [], []), (12, 1, .iconst 2, [], [2], []), (13, 1, .iload_n 2, [2], [], []), (14, 3, .invokevirtual 52, [2, 11, 6149, 6151, 29, 1013], [], [sgX11_toOf]), (17, 1, .iconst (-1), [], [-1], []), (18, 3, .if_icmp .ne 7, [25], [], []), (21, 1, .iconst 0, [], [0], []), (22, 3, .goto 11, [33], [], [])]
def bkX11_freeFrames_25 : List gw_E := [(25, 1, .iconst 1, [], [1], []), (26, 1, .aload_n 0, [0], [], []), (27, 1, .iconst 2, [], [2], []), (28, 1, .iload_n 2, [2], [], []), (29, 3, .invokevirtual 52, [2, 11, 6149, 6151, 29, 1013], [], [sgX11_toOf]), (32, 1, .ishl, [], [], [])]
def bkX11_freeFrames_33 : List gw_E := [(33, 1, .ior, [], [], []), (34, 1, .istore_n 1, [1], [], []), (35, 3, .iinc 2 1, [2], [1], []), (38, 3, .goto (-34), [4], [], [])]
def bkX11_freeFrames_41 : List gw_E := [(41, 2, .bipush 10, [], [10], []), (43, 1, .iload_n 1, [1], [], []), (44, 3, .invokestatic 222, [1, 0, 7171, 7172, 1013, 0], [], [sgX11_many]), (47, 1, .isub, [], [], []), (48, 1, .ireturn, [0], [], [])]
def bsX11_freeFrames : List (Nat × List gw_E) := [(0, bkX11_freeFrames_0), (4, bkX11_freeFrames_4), (25, bkX11_freeFrames_25), (33, bkX11_freeFrames_33), (41, bkX11_freeFrames_41)]
theorem fdX11_freeFrames_0 : gw_find bsX11_freeFrames 0 = bkX11_freeFrames_0 := rfl
theorem fdX11_freeFrames_4 : gw_find bsX11_freeFrames 4 = bkX11_freeFrames_4 := rfl
theorem fdX11_freeFrames_25 : gw_find bsX11_freeFrames 25 = bkX11_freeFrames_25 := rfl
theorem fdX11_freeFrames_33 : gw_find bsX11_freeFrames 33 = bkX11_freeFrames_33 := rfl
theorem fdX11_freeFrames_41 : gw_find bsX11_freeFrames 41 = bkX11_freeFrames_41 := rfl
set_option maxRecDepth 40000 in
theorem stX11_freeFrames : gw_sta sgX11_freeFrames bsX11_freeFrames := ⟨by decide +kernel, gw_mem2 (i := 8020) rfl rfl, gw_all (by decide +kernel)⟩
