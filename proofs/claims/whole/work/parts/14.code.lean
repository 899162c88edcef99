def bkX10_walk_0 : List gw_E := [(0, 1, .iload_n 1, [1], [], []), (1, 3, .invokestatic 43, [1, 0, 2199, 2200, 1001, 0], [], [sgX10_isPage]), (4, 3, .ifCond .eq 22, [26], [], []), (7, 1, .iload_n 2, [2], [], []), (8, 3, .invokestatic 102, [1, 0, 3185, 3186, 1001, 0], [], [sgX10_isWay]), (11, 3, .ifCond .eq 15, [26], [], []), (14, 1, .aload_n 0, [0], [], []), (15, 3, .getfield 10, [10, 0, 1, 2172], [], []), (18, 1, .iload_n 1, [1], [], []), (19, 1, .iload_n 2, [2], [], []), (20, 3, .invokevirtual 292, [2, 3, 5087, 5088, 5089, 1002], [], [sgX3_walkTables]), (23, 3, .goto 4, [27], [], [])]
def bkX10_walk_26 : List gw_E := [(26, 1, .iconst (-1), [], [-1], [])]
def bkX10_walk_27 : List gw_E := [(27, 1, .ireturn, [0], [], [])]
def bsX10_walk : List (Nat × List gw_E) := [(0, bkX10_walk_0), (26, bkX10_walk_26), (27, bkX10_walk_27)]
theorem fdX10_walk_0 : gw_find bsX10_walk 0 = bkX10_walk_0 := rfl
theorem fdX10_walk_26 : gw_find bsX10_walk 26 = bkX10_walk_26 := rfl
theorem fdX10_walk_27 : gw_find bsX10_walk 27 = bkX10_walk_27 := rfl
set_option maxRecDepth 40000 in
theorem stX10_walk : gw_sta sgX10_walk bsX10_walk := ⟨by decide +kernel, gw_mem2 (i := 5086) rfl rfl, gw_all (by decide +kernel)⟩
def bkX10_given_0 : List gw_E := [(0, 1, .iload_n 1, [1], [], []), (1, 3, .invokestatic 43, [1, 0, 2199, 2200, 1001, 0], [], [sgX10_isPage]), (4, 3, .ifCond .eq 14, [18], [], []), (7, 1, .aload_n 0, [0], [], []), (8, 3, .getfield 10, [10, 0, 1, 2172], [], []), (11, 1, .iload_n 1, [1], [], []), (12, 3, .invokevirtual 296, [1, 3, 5095, 5096, 5097, 1002], [], [sgX3_rightsOfVirtual]), (15, 3, .goto 4, [19], [], [])]
def bkX10_given_18 : List gw_E := [(18, 1, .iconst (-1), [], [-1], [])]
def bkX10_given_19 : List gw_E := [(19, 1, .ireturn, [0], [], [])]
def bsX10_given : List (Nat × List gw_E) := [(0, bkX10_given_0), (18, bkX10_given_18), (19, bkX10_given_19)]
theorem fdX10_given_0 : gw_find bsX10_given 0 = bkX10_given_0 := rfl
theorem fdX10_given_18 : gw_find bsX10_given 18 = bkX10_given_18 := rfl
theorem fdX10_given_19 : gw_find bsX10_given 19 = bkX10_given_19 := rfl
set_option maxRecDepth 40000 in
theorem stX10_given : gw_sta sgX10_given bsX10_given := ⟨by decide +kernel, gw_mem2 (i := 5094) rfl rfl, gw_all (by decide +kernel)⟩
def bkX10_lazy_0 : List gw_E := [(0, 1, .aload_n 0, [0], [], []), (1, 3, .getfield 10, [10, 0, 1, 2172], [], []), (4, 3, .invokevirtual 299, [0, 3, 5103, 3135, 3136, 1002], [], [sgX3_lazyPages]), (7, 1, .ireturn, [0], [], [])]
def bsX10_lazy : List (Nat × List gw_E) := [(0, bkX10_lazy_0)]
theorem fdX10_lazy_0 : gw_find bsX10_lazy 0 = bkX10_lazy_0 := rfl
set_option maxRecDepth 40000 in
theorem stX10_lazy : gw_sta sgX10_lazy bsX10_lazy := ⟨by decide +kernel, gw_mem2 (i := 5102) rfl rfl, gw_all (by decide +kernel)⟩
def bkX10_aliases_0 : List gw_E := [(0, 1, .iload_n 1, [1], [], []), (1, 3, .invokestatic 266, [1, 0, 5039, 5040, 1001, 0], [], [sgX10_isFrame]), (4, 3, .ifCond .eq 14, [18], [], []), (7, 1, .aload_n 0, [0], [], []), (8, 3, .getfield 10, [10, 0, 1, 2172], [], []), (11, 1, .iload_n 1, [1], [], []), (12, 3, .invokevirtual 302, [1, 3, 5108, 5109, 5110, 1002], [], [sgX3_virtualPagesAt]), (15, 3, .goto 4, [19], [], [])]
def bkX10_aliases_18 : List gw_E := [(18, 1, .iconst (-1), [], [-1], [])]
def bkX10_aliases_19 : List gw_E := [(19, 1, .ireturn, [0], [], [])]
def bsX10_aliases : List (Nat × List gw_E) := [(0, bkX10_aliases_0), (18, bkX10_aliases_18), (19, bkX10_aliases_19)]
theorem fdX10_aliases_0 : gw_find bsX10_aliases 0 = bkX10_aliases_0 := rfl
theorem fdX10_aliases_18 : gw_find bsX10_aliases 18 = bkX10_aliases_18 := rfl
theorem fdX10_aliases_19 : gw_find bsX10_aliases 19 = bkX10_aliases_19 := rfl
set_option maxRecDepth 40000 in
theorem stX10_aliases : gw_sta sgX10_aliases bsX10_aliases := ⟨by decide +kernel, gw_mem2 (i := 5107) rfl rfl, gw_all (by decide +kernel)⟩
def bkX10_free_0 : List gw_E := [(0, 1, .aload_n 0, [0], [], []), (1, 3, .getfield 10, [10, 0, 1, 2172], [], []), (4, 3, .getfield 198, [3, 0, 1, 2072], [], []), (7, 3, .invokevirtual 305, [0, 4, 5120, 3164, 3165, 1003], [], [sgX4_framesLedTo]), (10, 3, .invokestatic 308, [1, 0, 5121, 3234, 1001, 0], [], [sgX10_lowestOutside]), (13, 1, .ireturn, [0], [], [])]
def bsX10_free : List (Nat × List gw_E) := [(0, bkX10_free_0)]
theorem fdX10_free_0 : gw_find bsX10_free 0 = bkX10_free_0 := rfl
set_option maxRecDepth 40000 in
theorem stX10_free : gw_sta sgX10_free bsX10_free := ⟨by decide +kernel, gw_mem2 (i := 5119) rfl rfl, gw_all (by decide +kernel)⟩
def bkX10_wanted_0 : List gw_E := [(0, 1, .iload_n 1, [1], [], []), (1, 27, .tableswitch 67 0 2 #[27, 37, 47], [68, 28, 38, 48], [0], [])]
def bkX10_wanted_28 : List gw_E := [(28, 1, .aload_n 0, [0], [], []), (29, 3, .getfield 10, [10, 0, 1, 2172], [], []), (32, 3, .getfield 98, [3, 8, 1, 2087], [], []), (35, 1, .iconst 0, [], [0], []), (36, 1, .iaload, [], [], []), (37, 1, .ireturn, [0], [], [])]
def bkX10_wanted_38 : List gw_E := [(38, 1, .aload_n 0, [0], [], []), (39, 3, .getfield 10, [10, 0, 1, 2172], [], []), (42, 3, .getfield 98, [3, 8, 1, 2087], [], []), (45, 1, .iconst 1, [], [1], []), (46, 1, .iaload, [], [], []), (47, 1, .ireturn, [0], [], [])]
def bkX10_wanted_48 : List gw_E := [(48, 1, .aload_n 0, [0], [], []), (49, 3, .getfield 10, [10, 0, 1, 2172], [], []), (52, 3, .getfield 98, [3, 8, 1, 2087], [], []), (55, 1, .iconst 0, [], [0], []), (56, 1, .iaload, [], [], []), (57, 1, .aload_n 0, [0], [], []), (58, 3, .getfield 10, [10, 0, 1, 2172], [], []), (61, 3, .getfield 98, [3, 8, 1, 2087], [], []), (64, 1, .iconst 1, [], [1], []), (65, 1, .iaload, [], [], []), (66, 1, .ior, [], [], []), (67, 1, .ireturn, [0], [], [])]
def bkX10_wanted_68 : List gw_E := [(68, 1, .iconst (-1), [], [-1], []), (69, 1, .ireturn, [0], [], [])]
def bsX10_wanted : List (Nat × List gw_E) := [(0, bkX10_wanted_0), (28, bkX10_wanted_28), (38, bkX10_wanted_38), (48, bkX10_wanted_48), (68, bkX10_wanted_68)]
theorem fdX10_wanted_0 : gw_find bsX10_wanted 0 = bkX10_wanted_0 := rfl
theorem fdX10_wanted_28 : gw_find bsX10_wanted 28 = bkX10_wanted_28 := rfl
theorem fdX10_wanted_38 : gw_find bsX10_wanted 38 = bkX10_wanted_38 := rfl
theorem fdX10_wanted_48 : gw_find bsX10_wanted 48 = bkX10_wanted_48 := rfl
theorem fdX10_wanted_68 : gw_find bsX10_wanted 68 = bkX10_wanted_68 := rfl
set_option maxRecDepth 40000 in
theorem stX10_wanted : gw_sta sgX10_wanted bsX10_wanted := ⟨by decide +kernel, gw_mem2 (i := 5125) rfl rfl, gw_all (by decide +kernel)⟩
def bkX10_whose_0 : List gw_E := [(0, 1, .iload_n 1, [1], [], []), (1, 3, .invokestatic 112, [1, 0, 4014, 4015, 1001, 0], [], [sgX10_isEvent]), (4, 3, .ifCond .eq 14, [18], [], []), (7, 1, .aload_n 0, [0], [], []), (8, 3, .getfield 10, [10, 0, 1, 2172], [], []), (11, 1, .iload_n 1, [1], [], []), (12, 3, .invokevirtual 311, [1, 3, 5130, 3202, 3203, 1002], [], [sgX3_seerOfInner]), (15, 3, .goto 4, [19], [], [])]
def bkX10_whose_18 : List gw_E := [(18, 1, .iconst (-1), [], [-1], [])]
def bkX10_whose_19 : List gw_E := [(19, 1, .ireturn, [0], [], [])]
def bsX10_whose : List (Nat × List gw_E) := [(0, bkX10_whose_0), (18, bkX10_whose_18), (19, bkX10_whose_19)]
theorem fdX10_whose_0 : gw_find bsX10_whose 0 = bkX10_whose_0 := rfl
theorem fdX10_whose_18 : gw_find bsX10_whose 18 = bkX10_whose_18 := rfl
theorem fdX10_whose_19 : gw_find bsX10_whose 19 = bkX10_whose_19 := rfl
set_option maxRecDepth 40000 in
theorem stX10_whose : gw_sta sgX10_whose bsX10_whose := ⟨by decide +kernel, gw_mem2 (i := 5129) rfl rfl, gw_all (by decide +kernel)⟩
def bkX10_exit_0 : List gw_E := [(0, 1, .iload_n 1, [1], [], []), (1, 1, .iconst (-1), [], [-1], []), (2, 3, .if_icmp .ne 16, [18], [], []), (5, 1, .aload_n 0, [0], [], []), (6, 3, .getfield 10, [10, 0, 1, 2172], [], []), (9, 3, .getfield 234, [3, 14, 1, 2097], [], []), (12, 3, .invokevirtual 314, [0, 2, 5135, 5136, 5137, 1009], [], [sgX2_exitsKept]), (15, 3, .goto 15, [30], [], [])]
def bkX10_exit_18 : List gw_E := [(18, 1, .aload_n 0, [0], [], []), (19, 3, .getfield 10, [10, 0, 1, 2172], [], []), (22, 3, .getfield 234, [3, 14, 1, 2097], [], []), (25, 1, .iload_n 1, [1], [], []), (26, 1, .iload_n 2, [2], [], []), (27, 3, .invokevirtual 317, [2, 2, 5140, 5141, 5142, 1009], [], [sgX2_exitAt])]
def bkX10_exit_30 : List gw_E := [(30, 1, .ireturn, [0], [], [])]
def bsX10_exit : List (Nat × List gw_E) := [(0, bkX10_exit_0), (18, bkX10_exit_18), (30, bkX10_exit_30)]
theorem fdX10_exit_0 : gw_find bsX10_exit 0 = bkX10_exit_0 := rfl
theorem fdX10_exit_18 : gw_find bsX10_exit 18 = bkX10_exit_18 := rfl
theorem fdX10_exit_30 : gw_find bsX10_exit 30 = bkX10_exit_30 := rfl
set_option maxRecDepth 40000 in
theorem stX10_exit : gw_sta sgX10_exit bsX10_exit := ⟨by decide +kernel, gw_mem2 (i := 5134) rfl rfl, gw_all (by decide +kernel)⟩
def bkX10_exits_0 : List gw_E := [(0, 1, .aload_n 0, [0], [], []), (1, 3, .getfield 10, [10, 0, 1, 2172], [], []), (4, 3, .getfield 234, [3, 14, 1, 2097], [], []), (7, 1, .iload_n 1, [1], [], []), (8, 3, .invokevirtual 320, [1, 2, 5149, 5150, 5151, 1009], [], [sgX2_exitsBy]), (11, 1, .ireturn, [0], [], [])]
def bsX10_exits : List (Nat × List gw_E) := [(0, bkX10_exits_0)]
theorem fdX10_exits_0 : gw_find bsX10_exits 0 = bkX10_exits_0 := rfl
set_option maxRecDepth 40000 in
theorem stX10_exits : gw_sta sgX10_exits bsX10_exits := ⟨by decide +kernel, gw_mem2 (i := 5148) rfl rfl, gw_all (by decide +kernel)⟩
def bkX10_pending_0 : List gw_E := [(0, 1, .iload_n 1, [1], [], []), (1, 3, .invokestatic 143, [1, 0, 4055, 4056, 1001, 0], [], [sgX10_isGuest]), (4, 3, .ifCond .eq 17, [21], [], []), (7, 1, .aload_n 0, [0], [], []), (8, 3, .getfield 10, [10, 0, 1, 2172], [], []), (11, 1, .iload_n 1, [1], [], []), (12, 3, .invokevirtual 128, [1, 3, 4037, 4038, 4039, 1002], [], [sgX3_guest]), (15, 3, .getfield 323, [0, 2, 0, 1150], [], []), (18, 3, .goto 4, [22], [], [])]
def bkX10_pending_21 : List gw_E := [(21, 1, .iconst (-1), [], [-1], [])]
def bkX10_pending_22 : List gw_E := [(22, 1, .ireturn, [0], [], [])]
def bsX10_pending : List (Nat × List gw_E) := [(0, bkX10_pending_0), (21, bkX10_pending_21), (22, bkX10_pending_22)]
theorem fdX10_pending_0 : gw_find bsX10_pending 0 = bkX10_pending_0 := rfl
theorem fdX10_pending_21 : gw_find bsX10_pending 21 = bkX10_pending_21 := rfl
theorem fdX10_pending_22 : gw_find bsX10_pending 22 = bkX10_pending_22 := rfl
set_option maxRecDepth 40000 in
theorem stX10_pending : gw_sta sgX10_pending bsX10_pending := ⟨by decide +kernel, gw_mem2 (i := 5156) rfl rfl, gw_all (by decide +kernel)⟩
def bkX10_service_0 : List gw_E := [(0, 1, .iload_n 1, [1], [], []), (1, 3, .invokestatic 143, [1, 0, 4055, 4056, 1001, 0], [], [sgX10_isGuest]), (4, 3, .ifCond .eq 17, [21], [], []), (7, 1, .aload_n 0, [0], [], []), (8, 3, .getfield 10, [10, 0, 1, 2172], [], []), (11, 1, .iload_n 1, [1], [], []), (12, 3, .invokevirtual 128, [1, 3, 4037, 4038, 4039, 1002], [], [sgX3_guest]), (15, 3, .getfield 150, [0, 3, 0, 1152], [], []), (18, 3, .goto 4, [22], [], [])]
def bkX10_service_21 : List gw_E := [(21, 1, .iconst (-1), [], [-1], [])]
def bkX10_service_22 : List gw_E := [(22, 1, .ireturn, [0], [], [])]
def bsX10_service : List (Nat × List gw_E) := [(0, bkX10_service_0), (21, bkX10_service_21), (22, bkX10_service_22)]
theorem fdX10_service_0 : gw_find bsX10_service 0 = bkX10_service_0 := rfl
theorem fdX10_service_21 : gw_find bsX10_service 21 = bkX10_service_21 := rfl
theorem fdX10_service_22 : gw_find bsX10_service 22 = bkX10_service_22 := rfl
set_option maxRecDepth 40000 in
theorem stX10_service : gw_sta sgX10_service bsX10_service := ⟨by decide +kernel, gw_mem2 (i := 5160) rfl rfl, gw_all (by decide +kernel)⟩
def bkX10_putBy_0 : List gw_E := [(0, 1, .iload_n 1, [1], [], []), (1, 3, .invokestatic 156, [1, 0, 4070, 4071, 1001, 0], [], [sgX10_isInnerGuest]), (4, 3, .ifCond .eq 14, [18], [], []), (7, 1, .iload_n 1, [1], [], []), (8, 1, .aload_n 0, [0], [], []), (9, 3, .getfield 10, [10, 0, 1, 2172], [], []), (12, 3, .getfield 159, [3, 5, 0, 2081], [], []), (15, 3, .if_icmp .ne 5, [20], [], [])]
def bkX10_putBy_18 : List gw_E := [(18, 1, .iconst (-1), [], [-1], []), (19, 1, .ireturn, [0], [], [])]
def bkX10_putBy_20 : List gw_E := [(20, 1, .aload_n 0, [0], [], []), (21, 3, .getfield 10, [10, 0, 1, 2172], [], []), (24, 3, .getfield 326, [3, 4, 1, 2079], [], []), (27, 1, .iload_n 1, [1], [], []), (28, 1, .aaload, [], [], []), (29, 1, .astore_n 3, [3], [], []), (30, 1, .iload_n 2, [2], [], []), (31, 41, .tableswitch 111 0 6 #[41, 49, 57, 68, 76, 84, 100], [142, 72, 80, 88, 99, 107, 115, 131], [0], [])]
def bkX10_putBy_72 : List gw_E := [(72, 1, .aload_n 3, [3], [], []), (73, 3, .getfield 330, [1, 1, 1, 2045], [], []), (76, 3, .invokevirtual 333, [0, 8, 5165, 3114, 3115, 1004], [], [sgX8_size]), (79, 1, .ireturn, [0], [], [])]
def bkX10_putBy_80 : List gw_E := [(80, 1, .aload_n 3, [3], [], []), (81, 3, .getfield 335, [1, 2, 1, 2048], [], []), (84, 3, .invokevirtual 333, [0, 8, 5165, 3114, 3115, 1004], [], [sgX8_size]), (87, 1, .ireturn, [0], [], [])]
def bkX10_putBy_88 : List gw_E := [(88, 1, .aload_n 3, [3], [], []), (89, 3, .getfield 338, [1, 0, 1, 2041], [], []), (92, 3, .getfield 223, [0, 0, 1, 1146], [], []), (95, 3, .getfield 231, [7, 4, 0, 1130], [], []), (98, 1, .ireturn, [0], [], [])]
def bkX10_putBy_99 : List gw_E := [(99, 1, .aload_n 3, [3], [], []), (100, 3, .getfield 338, [1, 0, 1, 2041], [], []), (103, 3, .getfield 323, [0, 2, 0, 1150], [], []), (106, 1, .ireturn, [0], [], [])]
def bkX10_putBy_107 : List gw_E := [(107, 1, .aload_n 3, [3], [], []), (108, 3, .getfield 338, [1, 0, 1, 2041], [], []), (111, 3, .getfield 150, [0, 3, 0, 1152], [], []), (114, 1, .ireturn, [0], [], [])]
def bkX10_putBy_115 : List gw_E := [(115, 1, .aload_n 3, [3], [], []), (116, 3, .getfield 338, [1, 0, 1, 2041], [], []), (119, 3, .getfield 146, [0, 4, 2, 1154], [], []), (122, 3, .ifCond .eq 7, [129], [], []), (125, 1, .iconst 1, [], [1], []), (126, 3, .goto 4, [130], [], [])]
def bkX10_putBy_129 : List gw_E := [(129, 1, .iconst 0, [], [0], [])]
def bkX10_putBy_130 : List gw_E := [(130, 1, .ireturn, [0], [], [])]
def bkX10_putBy_131 : List gw_E := [(131, 1, .aload_n 3, [3], [], []), (132, 3, .getfield 338, [1, 0, 1, 2041], [], []), (135, 3, .getfield 223, [0, 0, 1, 1146], [], []), (138, 3, .getfield 227, [7, 3, 0, 1126], [], []), (141, 1, .ireturn, [0], [], [])]
def bkX10_putBy_142 : List gw_E := [(142, 1, .iconst (-1), [], [-1], []), (143, 1, .ireturn, [0], [], [])]
def bsX10_putBy : List (Nat × List gw_E) := [(0, bkX10_putBy_0), (18, bkX10_putBy_18), (20, bkX10_putBy_20), (72, bkX10_putBy_72), (80, bkX10_putBy_80), (88, bkX10_putBy_88), (99, bkX10_putBy_99), (107, bkX10_putBy_107), (115, bkX10_putBy_115), (129, bkX10_putBy_129), (130, bkX10_putBy_130), (131, bkX10_putBy_131), (142, bkX10_putBy_142)]
theorem fdX10_putBy_0 : gw_find bsX10_putBy 0 = bkX10_putBy_0 := rfl
theorem fdX10_putBy_18 : gw_find bsX10_putBy 18 = bkX10_putBy_18 := rfl
theorem fdX10_putBy_20 : gw_find bsX10_putBy 20 = bkX10_putBy_20 := rfl
theorem fdX10_putBy_72 : gw_find bsX10_putBy 72 = bkX10_putBy_72 := rfl
theorem fdX10_putBy_80 : gw_find bsX10_putBy 80 = bkX10_putBy_80 := rfl
theorem fdX10_putBy_88 : gw_find bsX10_putBy 88 = bkX10_putBy_88 := rfl
theorem fdX10_putBy_99 : gw_find bsX10_putBy 99 = bkX10_putBy_99 := rfl
theorem fdX10_putBy_107 : gw_find bsX10_putBy 107 = bkX10_putBy_107 := rfl
theorem fdX10_putBy_115 : gw_find bsX10_putBy 115 = bkX10_putBy_115 := rfl
theorem fdX10_putBy_129 : gw_find bsX10_putBy 129 = bkX10_putBy_129 := rfl
theorem fdX10_putBy_130 : gw_find bsX10_putBy 130 = bkX10_putBy_130 := rfl
theorem fdX10_putBy_131 : gw_find bsX10_putBy 131 = bkX10_putBy_131 := rfl
theorem fdX10_putBy_142 : gw_find bsX10_putBy 142 = bkX10_putBy_142 := rfl
set_option maxRecDepth 40000 in
theorem stX10_putBy : gw_sta sgX10_putBy bsX10_putBy := ⟨by decide +kernel, gw_mem2 (i := 5164) rfl rfl, gw_all (by decide +kernel)⟩
def bkX10_spent_0 : List gw_E := [(0, 1, .iload_n 1, [1], [], []), (1, 1, .iconst 0, [], [0], []), (2, 1, .iconst 3, [], [3], []), (3, 3, .invokestatic 46, [3, 0, 2202, 2203, 1001, 0], [], [sgX10_within]), (6, 3, .ifCond .eq 18, [24], [], []), (9, 1, .aload_n 0, [0], [], []), (10, 3, .getfield 10, [10, 0, 1, 2172], [], []), (13, 3, .getfield 234, [3, 14, 1, 2097], [], []), (16, 3, .getfield 341, [2, 11, 1, 1230], [], []), (19, 1, .iload_n 1, [1], [], []), (20, 1, .iaload, [], [], []), (21, 3, .goto 4, [25], [], [])]
def bkX10_spent_24 : List gw_E := [(24, 1, .iconst (-1), [], [-1], [])]
def bkX10_spent_25 : List gw_E := [(25, 1, .ireturn, [0], [], [])]
def bsX10_spent : List (Nat × List gw_E) := [(0, bkX10_spent_0), (24, bkX10_spent_24), (25, bkX10_spent_25)]
theorem fdX10_spent_0 : gw_find bsX10_spent 0 = bkX10_spent_0 := rfl
theorem fdX10_spent_24 : gw_find bsX10_spent 24 = bkX10_spent_24 := rfl
theorem fdX10_spent_25 : gw_find bsX10_spent 25 = bkX10_spent_25 := rfl
set_option maxRecDepth 40000 in
theorem stX10_spent : gw_sta sgX10_spent bsX10_spent := ⟨by decide +kernel, gw_mem2 (i := 5169) rfl rfl, gw_all (by decide +kernel)⟩
def bkX10_seenOf_0 : List gw_E := [(0, 1, .iload_n 1, [1], [], []), (1, 3, .invokestatic 112, [1, 0, 4014, 4015, 1001, 0], [], [sgX10_isEvent]), (4, 3, .ifCond .eq 31, [35], [], []), (7, 1, .iload_n 2, [2], [], []), (8, 1, .iconst 0, [], [0], []), (9, 1, .iconst 2, [], [2], []), (10, 3, .invokestatic 46, [3, 0, 2202, 2203, 1001, 0], [], [sgX10_within]), (13, 3, .ifCond .eq 22, [35], [], []), (16, 1, .aload_n 0, [0], [], []), (17, 3, .getfield 10, [10, 0, 1, 2172], [], []), (20, 3, .getfield 234, [3, 14, 1, 2097], [], []), (23, 3, .getfield 344, [2, 10, 1, 1227], [], []), (26, 1, .iconst 3, [], [3], []), (27, 1, .iload_n 1, [1], [], []), (28, 1, .imul, [], [], []), (29, 1, .iload_n 2, [2], [], []), (30, 1, .iadd, [], [], []), (31, 1, .iaload, [], [], []), (32, 3, .goto 4, [36], [], [])]
def bkX10_seenOf_35 : List gw_E := [(35, 1, .iconst (-1), [], [-1], [])]
def bkX10_seenOf_36 : List gw_E := [(36, 1, .ireturn, [0], [], [])]
def bsX10_seenOf : List (Nat × List gw_E) := [(0, bkX10_seenOf_0), (35, bkX10_seenOf_35), (36, bkX10_seenOf_36)]
theorem fdX10_seenOf_0 : gw_find bsX10_seenOf 0 = bkX10_seenOf_0 := rfl
theorem fdX10_seenOf_35 : gw_find bsX10_seenOf 35 = bkX10_seenOf_35 := rfl
theorem fdX10_seenOf_36 : gw_find bsX10_seenOf 36 = bkX10_seenOf_36 := rfl
set_option maxRecDepth 40000 in
theorem stX10_seenOf : gw_sta sgX10_seenOf bsX10_seenOf := ⟨by decide +kernel, gw_mem2 (i := 5173) rfl rfl, gw_all (by decide +kernel)⟩
def bkX10_isOpen_0 : List gw_E := [(0, 1, .iload_n 1, [1], [], []), (1, 3, .invokestatic 143, [1, 0, 4055, 4056, 1001, 0], [], [sgX10_isGuest]), (4, 3, .ifCond .eq 21, [25], [], []), (7, 1, .aload_n 0, [0], [], []), (8, 3, .getfield 10, [10, 0, 1, 2172], [], []), (11, 1, .iload_n 1, [1], [], []), (12, 3, .invokevirtual 128, [1, 3, 4037, 4038, 4039, 1002], [], [sgX3_guest]), (15, 3, .getfield 146, [0, 4, 2, 1154], [], []), (18, 3, .ifCond .eq 7, [25], [], []), (21, 1, .iconst 1, [], [1], []), (22, 3, .goto 4, [26], [], [])]
def bkX10_isOpen_25 : List gw_E := [(25, 1, .iconst 0, [], [0], [])]
def bkX10_isOpen_26 : List gw_E := [(26, 1, .ireturn, [1], [], [])]
def bsX10_isOpen : List (Nat × List gw_E) := [(0, bkX10_isOpen_0), (25, bkX10_isOpen_25), (26, bkX10_isOpen_26)]
theorem fdX10_isOpen_0 : gw_find bsX10_isOpen 0 = bkX10_isOpen_0 := rfl
theorem fdX10_isOpen_25 : gw_find bsX10_isOpen 25 = bkX10_isOpen_25 := rfl
theorem fdX10_isOpen_26 : gw_find bsX10_isOpen 26 = bkX10_isOpen_26 := rfl
set_option maxRecDepth 40000 in
theorem stX10_isOpen : gw_sta sgX10_isOpen bsX10_isOpen := ⟨by decide +kernel, gw_mem2 (i := 5177) rfl rfl, gw_all (by decide +kernel)⟩
def bkX10_taken_0 : List gw_E := [(0, 1, .iload_n 1, [1], [], []), (1, 3, .invokestatic 143, [1, 0, 4055, 4056, 1001, 0], [], [sgX10_isGuest]), (4, 3, .ifCond .eq 20, [24], [], []), (7, 1, .aload_n 0, [0], [], []), (8, 3, .getfield 10, [10, 0, 1, 2172], [], []), (11, 3, .getfield 234, [3, 14, 1, 2097], [], []), (14, 3, .getfield 347, [2, 13, 1, 1235], [], []), (17, 1, .iload_n 1, [1], [], []), (18, 1, .iconst 1, [], [1], []), (19, 1, .isub, [], [], []), (20, 1, .iaload, [], [], []), (21, 3, .goto 4, [25], [], [])]
def bkX10_taken_24 : List gw_E := [(24, 1, .iconst (-1), [], [-1], [])]
def bkX10_taken_25 : List gw_E := [(25, 1, .ireturn, [0], [], [])]
def bsX10_taken : List (Nat × List gw_E) := [(0, bkX10_taken_0), (24, bkX10_taken_24), (25, bkX10_taken_25)]
theorem fdX10_taken_0 : gw_find bsX10_taken 0 = bkX10_taken_0 := rfl
theorem fdX10_taken_24 : gw_find bsX10_taken 24 = bkX10_taken_24 := rfl
theorem fdX10_taken_25 : gw_find bsX10_taken 25 = bkX10_taken_25 := rfl
set_option maxRecDepth 40000 in
theorem stX10_taken : gw_sta sgX10_taken bsX10_taken := ⟨by decide +kernel, gw_mem2 (i := 5181) rfl rfl, gw_all (by decide +kernel)⟩
def bkX10_longest_0 : List gw_E := [(0, 1, .iload_n 1, [1], [], []), (1, 3, .invokestatic 143, [1, 0, 4055, 4056, 1001, 0], [], [sgX10_isGuest]), (4, 3, .ifCond .eq 20, [24], [], []), (7, 1, .aload_n 0, [0], [], []), (8, 3, .getfield 10, [10, 0, 1, 2172], [], []), (11, 3, .getfield 234, [3, 14, 1, 2097], [], []), (14, 3, .getfield 350, [2, 14, 1, 1237], [], []), (17, 1, .iload_n 1, [1], [], []), (18, 1, .iconst 1, [], [1], []), (19, 1, .isub, [], [], []), (20, 1, .iaload, [], [], []), (21, 3, .goto 4, [25], [], [])]
def bkX10_longest_24 : List gw_E := [(24, 1, .iconst (-1), [], [-1], [])]
def bkX10_longest_25 : List gw_E := [(25, 1, .ireturn, [0], [], [])]
def bsX10_longest : List (Nat × List gw_E) := [(0, bkX10_longest_0), (24, bkX10_longest_24), (25, bkX10_longest_25)]
theorem fdX10_longest_0 : gw_find bsX10_longest 0 = bkX10_longest_0 := rfl
theorem fdX10_longest_24 : gw_find bsX10_longest 24 = bkX10_longest_24 := rfl
theorem fdX10_longest_25 : gw_find bsX10_longest 25 = bkX10_longest_25 := rfl
set_option maxRecDepth 40000 in
theorem stX10_longest : gw_sta sgX10_longest bsX10_longest := ⟨by decide +kernel, gw_mem2 (i := 5185) rfl rfl, gw_all (by decide +kernel)⟩
def bkX10_pendingFor_0 : List gw_E := [(0, 1, .iload_n 1, [1], [], []), (1, 3, .invokestatic 143, [1, 0, 4055, 4056, 1001, 0], [], [sgX10_isGuest]), (4, 3, .ifCond .eq 25, [29], [], []), (7, 1, .iload_n 2, [2], [], []), (8, 3, .invokestatic 125, [1, 0, 4034, 4035, 1001, 0], [], [sgX10_isVector]), (11, 3, .ifCond .eq 18, [29], [], []), (14, 1, .aload_n 0, [0], [], []), (15, 3, .getfield 10, [10, 0, 1, 2172], [], []), (18, 1, .iload_n 1, [1], [], []), (19, 3, .invokevirtual 128, [1, 3, 4037, 4038, 4039, 1002], [], [sgX3_guest]), (22, 1, .iload_n 2, [2], [], []), (23, 3, .invokevirtual 132, [1, 0, 4041, 4042, 4043, 1006], [], [sgX0_awaits]), (26, 3, .ifCond .ne 5, [31], [], [])]
def bkX10_pendingFor_29 : List gw_E := [(29, 1, .iconst (-1), [], [-1], []), (30, 1, .ireturn, [0], [], [])]
def bkX10_pendingFor_31 : List gw_E := [(31, 1, .aload_n 0, [0], [], []), (32, 3, .getfield 10, [10, 0, 1, 2172], [], []), (35, 3, .getfield 137, [3, 7, 0, 2085], [], []), (38, 1, .aload_n 0, [0], [], []), (39, 3, .getfield 10, [10, 0, 1, 2172], [], []), (42, 1, .iload_n 1, [1], [], []), (43, 3, .invokevirtual 128, [1, 3, 4037, 4038, 4039, 1002], [], [sgX3_guest]), (46, 3, .getfield 353, [0, 1, 1, 1148], [], []), (49, 1, .iload_n 2, [2], [], []), (50, 1, .iaload, [], [], []), (51, 1, .isub, [], [], []), (52, 1, .ireturn, [0], [], [])]
def bsX10_pendingFor : List (Nat × List gw_E) := [(0, bkX10_pendingFor_0), (29, bkX10_pendingFor_29), (31, bkX10_pendingFor_31)]
theorem fdX10_pendingFor_0 : gw_find bsX10_pendingFor 0 = bkX10_pendingFor_0 := rfl
theorem fdX10_pendingFor_29 : gw_find bsX10_pendingFor 29 = bkX10_pendingFor_29 := rfl
theorem fdX10_pendingFor_31 : gw_find bsX10_pendingFor 31 = bkX10_pendingFor_31 := rfl
set_option maxRecDepth 40000 in
theorem stX10_pendingFor : gw_sta sgX10_pendingFor bsX10_pendingFor := ⟨by decide +kernel, gw_mem2 (i := 5189) rfl rfl, gw_all (by decide +kernel)⟩
def bkX10_clock_0 : List gw_E := [(0, 1, .iload_n 1, [1], [], []), (1, 1, .iconst 0, [], [0], []), (2, 1, .iconst 2, [], [2], []), (3, 3, .invokestatic 46, [3, 0, 2202, 2203, 1001, 0], [], [sgX10_within]), (6, 3, .ifCond .eq 21, [27], [], []), (9, 1, .aload_n 0, [0], [], []), (10, 3, .getfield 10, [10, 0, 1, 2172], [], []), (13, 1, .iload_n 1, [1], [], []), (14, 1, .aload_n 0, [0], [], []), (15, 3, .getfield 10, [10, 0, 1, 2172], [], []), (18, 3, .getfield 137, [3, 7, 0, 2085], [], []), (21, 3, .invokevirtual 356, [2, 3, 5194, 4142, 4143, 1002], [], [sgX3_clockAt]), (24, 3, .goto 6, [30], [], [])]
def bkX10_clock_27 : List gw_E := [(27, 3, .ldc_w 359, [5195], [-1000000000], [])]
def bkX10_clock_30 : List gw_E := [(30, 1, .ireturn, [0], [], [])]
def bsX10_clock : List (Nat × List gw_E) := [(0, bkX10_clock_0), (27, bkX10_clock_27), (30, bkX10_clock_30)]
theorem fdX10_clock_0 : gw_find bsX10_clock 0 = bkX10_clock_0 := rfl
theorem fdX10_clock_27 : gw_find bsX10_clock 27 = bkX10_clock_27 := rfl
theorem fdX10_clock_30 : gw_find bsX10_clock 30 = bkX10_clock_30 := rfl
set_option maxRecDepth 40000 in
theorem stX10_clock : gw_sta sgX10_clock bsX10_clock := ⟨by decide +kernel, gw_mem2 (i := 5193) rfl rfl, gw_all (by decide +kernel)⟩
def bkX10_timed_0 : List gw_E := [(0, 1, .iload_n 1, [1], [], []), (1, 1, .iconst (-1), [], [-1], []), (2, 3, .if_icmp .ne 14, [16], [], []), (5, 1, .aload_n 0, [0], [], []), (6, 3, .getfield 10, [10, 0, 1, 2172], [], []), (9, 3, .getfield 173, [3, 13, 1, 2095], [], []), (12, 3, .getfield 177, [9, 3, 0, 1193], [], []), (15, 1, .ireturn, [0], [], [])]
def bkX10_timed_16 : List gw_E := [(16, 1, .iload_n 1, [1], [], []), (17, 1, .iconst 0, [], [0], []), (18, 1, .aload_n 0, [0], [], []), (19, 3, .getfield 10, [10, 0, 1, 2172], [], []), (22, 3, .getfield 173, [3, 13, 1, 2095], [], []), (25, 3, .getfield 177, [9, 3, 0, 1193], [], []), (28, 1, .iconst 1, [], [1], []), (29, 1, .isub, [], [], []), (30, 3, .invokestatic 46, [3, 0, 2202, 2203, 1001, 0], [], [sgX10_within]), (33, 3, .ifCond .ne 7, [40], [], []), (36, 3, .ldc_w 359, [5195], [-1000000000], []), (39, 1, .ireturn, [0], [], [])]
def bkX10_timed_40 : List gw_E := [(40, 1, .iload_n 2, [2], [], []), (41, 31, .tableswitch 79 0 3 #[31, 44, 57, 70], [120, 72, 85, 98, 111], [0], [])]
def bkX10_timed_72 : List gw_E := [(72, 1, .aload_n 0, [0], [], []), (73, 3, .getfield 10, [10, 0, 1, 2172], [], []), (76, 3, .getfield 173, [3, 13, 1, 2095], [], []), (79, 3, .getfield 360, [9, 0, 1, 1185], [], []), (82, 1, .iload_n 1, [1], [], []), (83, 1, .iaload, [], [], []), (84, 1, .ireturn, [0], [], [])]
def bkX10_timed_85 : List gw_E := [(85, 1, .aload_n 0, [0], [], []), (86, 3, .getfield 10, [10, 0, 1, 2172], [], []), (89, 3, .getfield 173, [3, 13, 1, 2095], [], []), (92, 3, .getfield 362, [9, 1, 1, 1188], [], []), (95, 1, .iload_n 1, [1], [], []), (96, 1, .iaload, [], [], []), (97, 1, .ireturn, [0], [], [])]
def bkX10_timed_98 : List gw_E := [(98, 1, .aload_n 0, [0], [], []), (99, 3, .getfield 10, [10, 0, 1, 2172], [], []), (102, 3, .getfield 173, [3, 13, 1, 2095], [], []), (105, 3, .getfield 365, [9, 2, 1, 1191], [], []), (108, 1, .iload_n 1, [1], [], []), (109, 1, .iaload, [], [], []), (110, 1, .ireturn, [0], [], [])]
def bkX10_timed_111 : List gw_E := [(111, 1, .aload_n 0, [0], [], []), (112, 3, .getfield 10, [10, 0, 1, 2172], [], []), (115, 1, .iload_n 1, [1], [], []), (116, 3, .invokevirtual 368, [1, 3, 5200, 5201, 5202, 1002], [], [sgX3_dueTime]), (119, 1, .ireturn, [0], [], [])]
def bkX10_timed_120 : List gw_E := [(120, 3, .ldc_w 359, [5195], [-1000000000], []), (123, 1, .ireturn, [0], [], [])]
def bsX10_timed : List (Nat × List gw_E) := [(0, bkX10_timed_0), (16, bkX10_timed_16), (40, bkX10_timed_40), (72, bkX10_timed_72), (85, bkX10_timed_85), (98, bkX10_timed_98), (111, bkX10_timed_111), (120, bkX10_timed_120)]
theorem fdX10_timed_0 : gw_find bsX10_timed 0 = bkX10_timed_0 := rfl
theorem fdX10_timed_16 : gw_find bsX10_timed 16 = bkX10_timed_16 := rfl
theorem fdX10_timed_40 : gw_find bsX10_timed 40 = bkX10_timed_40 := rfl
theorem fdX10_timed_72 : gw_find bsX10_timed 72 = bkX10_timed_72 := rfl
theorem fdX10_timed_85 : gw_find bsX10_timed 85 = bkX10_timed_85 := rfl
theorem fdX10_timed_98 : gw_find bsX10_timed 98 = bkX10_timed_98 := rfl
theorem fdX10_timed_111 : gw_find bsX10_timed 111 = bkX10_timed_111 := rfl
theorem fdX10_timed_120 : gw_find bsX10_timed 120 = bkX10_timed_120 := rfl
set_option maxRecDepth 40000 in
theorem stX10_timed : gw_sta sgX10_timed bsX10_timed := ⟨by decide +kernel, gw_mem2 (i := 5199) rfl rfl, gw_all (by decide +kernel)⟩
def bkX10_first_0 : List gw_E := [(0, 1, .aload_n 0, [0], [], []), (1, 3, .getfield 10, [10, 0, 1, 2172], [], []), (4, 3, .invokevirtual 371, [0, 3, 5209, 5210, 5211, 1002], [], [sgX3_firstDue]), (7, 1, .ireturn, [0], [], [])]
def bsX10_first : List (Nat × List gw_E) := [(0, bkX10_first_0)]
theorem fdX10_first_0 : gw_find bsX10_first 0 = bkX10_first_0 := rfl
set_option maxRecDepth 40000 in
theorem stX10_first : gw_sta sgX10_first bsX10_first := ⟨by decide +kernel, gw_mem2 (i := 5208) rfl rfl, gw_all (by decide +kernel)⟩
def bkX10_program_0 : List gw_E := [(0, 1, .iload_n 1, [1], [], []), (1, 3, .invokestatic 143, [1, 0, 4055, 4056, 1001, 0], [], [sgX10_isGuest]), (4, 3, .ifCond .ne 6, [10], [], []), (7, 2, .bipush (-2), [], [-2], []), (9, 1, .ireturn, [0], [], [])]
def bkX10_program_10 : List gw_E := [(10, 1, .aload_n 0, [0], [], []), (11, 3, .getfield 10, [10, 0, 1, 2172], [], []), (14, 1, .iload_n 1, [1], [], []), (15, 3, .invokevirtual 128, [1, 3, 4037, 4038, 4039, 1002], [], [sgX3_guest]), (18, 3, .getfield 223, [0, 0, 1, 1146], [], []), (21, 2, .astore 4, [4], [], []), (23, 1, .iload_n 2, [2], [], []), (24, 1, .iconst (-1), [], [-1], []), (25, 3, .if_icmp .ne 9, [34], [], []), (28, 2, .aload 4, [4], [], []), (30, 3, .getfield 227, [7, 3, 0, 1126], [], []), (33, 1, .ireturn, [0], [], [])]
def bkX10_program_34 : List gw_E := [(34, 1, .iload_n 2, [2], [], []), (35, 1, .iconst 0, [], [0], []), (36, 2, .aload 4, [4], [], []), (38, 3, .getfield 227, [7, 3, 0, 1126], [], []), (41, 1, .iconst 1, [], [1], []), (42, 1, .isub, [], [], []), (43, 3, .invokestatic 46, [3, 0, 2202, 2203, 1001, 0], [], [sgX10_within]), (46, 3, .ifCond .ne 6, [52], [], []), (49, 2, .bipush (-2), [], [-2], []), (51, 1, .ireturn, [0], [], [])]
def bkX10_program_52 : List gw_E := [(52, 1, .iload_n 3, [3], [], []), (53, 27, .tableswitch 51 0 2 #[27, 35, 43], [104, 80, 88, 96], [0], [])]
def bkX10_program_80 : List gw_E := [(80, 2, .aload 4, [4], [], []), (82, 3, .getfield 374, [7, 0, 1, 1115], [], []), (85, 1, .iload_n 2, [2], [], []), (86, 1, .iaload, [], [], []), (87, 1, .ireturn, [0], [], [])]
def bkX10_program_88 : List gw_E := [(88, 2, .aload 4, [4], [], []), (90, 3, .getfield 377, [7, 1, 1, 1119], [], []), (93, 1, .iload_n 2, [2], [], []), (94, 1, .iaload, [], [], []), (95, 1, .ireturn, [0], [], [])]
def bkX10_program_96 : List gw_E := [(96, 2, .aload 4, [4], [], []), (98, 3, .getfield 380, [7, 2, 1, 1123], [], []), (101, 1, .iload_n 2, [2], [], []), (102, 1, .iaload, [], [], []), (103, 1, .ireturn, [0], [], [])]
def bkX10_program_104 : List gw_E := [(104, 2, .bipush (-2), [], [-2], []), (106, 1, .ireturn, [0], [], [])]
def bsX10_program : List (Nat × List gw_E) := [(0, bkX10_program_0), (10, bkX10_program_10), (34, bkX10_program_34), (52, bkX10_program_52), (80, bkX10_program_80), (88, bkX10_program_88), (96, bkX10_program_96), (104, bkX10_program_104)]
theorem fdX10_program_0 : gw_find bsX10_program 0 = bkX10_program_0 := rfl
theorem fdX10_program_10 : gw_find bsX10_program 10 = bkX10_program_10 := rfl
theorem fdX10_program_34 : gw_find bsX10_program 34 = bkX10_program_34 := rfl
theorem fdX10_program_52 : gw_find bsX10_program 52 = bkX10_program_52 := rfl
theorem fdX10_program_80 : gw_find bsX10_program 80 = bkX10_program_80 := rfl
theorem fdX10_program_88 : gw_find bsX10_program 88 = bkX10_program_88 := rfl
theorem fdX10_program_96 : gw_find bsX10_program 96 = bkX10_program_96 := rfl
theorem fdX10_program_104 : gw_find bsX10_program 104 = bkX10_program_104 := rfl
set_option maxRecDepth 40000 in
theorem stX10_program : gw_sta sgX10_program bsX10_program := ⟨by decide +kernel, gw_mem2 (i := 5217) rfl rfl, gw_all (by decide +kernel)⟩
def bkX10_foretold_0 : List gw_E := [(0, 1, .aload_n 0, [0], [], []), (1, 1, .iload_n 1, [1], [], []), (2, 3, .sipush 200, [], [200], []), (5, 3, .invokevirtual 212, [2, 10, 4128, 4130, 10, 1001], [], [sgX10_mayGo]), (8, 3, .ifCond .eq 13, [21], [], []), (11, 1, .iload_n 2, [2], [], []), (12, 1, .iconst 0, [], [0], []), (13, 2, .bipush 17, [], [17], []), (15, 3, .invokestatic 46, [3, 0, 2202, 2203, 1001, 0], [], [sgX10_within]), (18, 3, .ifCond .ne 5, [23], [], [])]
def bkX10_foretold_21 : List gw_E := [(21, 1, .iconst (-1), [], [-1], []), (22, 1, .ireturn, [0], [], [])]
def bkX10_foretold_23 : List gw_E := [(23, 1, .aload_n 0, [0], [], []), (24, 3, .getfield 29, [10, 4, 1, 2176], [], []), (27, 1, .aload_n 0, [0], [], []), (28, 3, .getfield 10, [10, 0, 1, 2172], [], []), (31, 3, .invokevirtual 383, [1, 3, 5222, 2211, 2212, 1002], [], [sgX3_copyFrom]), (34, 1, .iconst 0, [], [0], []), (35, 1, .istore_n 3, [3], [], [])]
def bkX10_foretold_36 : List gw_E := [(36, 1, .iload_n 3, [3], [], []), (37, 1, .iload_n 1, [1], [], []), (38, 3, .if_icmp .ge 16, [54], [], []), (41, 1, .aload_n 0, [0], [], []), (42, 3, .getfield 29, [10, 4, 1, 2176], [], []), (45, 3, .invokevirtual 243, [0, 3, 4192, 4193, 4194, 1002], [], [sgX3_goOn]), (48, 3, .iinc 3 1, [3], [1], []), (51, 3, .goto (-15), [36], [], [])]
def bkX10_foretold_54 : List gw_E := [(54, 1, .aload_n 0, [0], [], []), (55, 3, .getfield 29, [10, 4, 1, 2176], [], []), (58, 1, .iload_n 2, [2], [], []), (59, 3, .invokevirtual 250, [1, 3, 5010, 5011, 5012, 1002], [], [sgX3_figure]), (62, 1, .ireturn, [0], [], [])]
def bsX10_foretold : List (Nat × List gw_E) := [(0, bkX10_foretold_0), (21, bkX10_foretold_21), (23, bkX10_foretold_23), (36, bkX10_foretold_36), (54, bkX10_foretold_54)]
theorem fdX10_foretold_0 : gw_find bsX10_foretold 0 = bkX10_foretold_0 := rfl
theorem fdX10_foretold_21 : gw_find bsX10_foretold 21 = bkX10_foretold_21 := rfl
theorem fdX10_foretold_23 : gw_find bsX10_foretold 23 = bkX10_foretold_23 := rfl
theorem fdX10_foretold_36 : gw_find bsX10_foretold 36 = bkX10_foretold_36 := rfl
theorem fdX10_foretold_54 : gw_find bsX10_foretold 54 = bkX10_foretold_54 := rfl
set_option maxRecDepth 40000 in
theorem stX10_foretold : gw_sta sgX10_foretold bsX10_foretold := ⟨by decide +kernel, gw_mem2 (i := 5221) rfl rfl, gw_all (by decide +kernel)⟩
def bkX10_till_0 : List gw_E := [(0, 1, .aload_n 0, [0], [], []), (1, 3, .getfield 29, [10, 4, 1, 2176], [], []), (4, 1, .aload_n 0, [0], [], []), (5, 3, .getfield 10, [10, 0, 1, 2172], [], []), (8, 3, .invokevirtual 383, [1, 3, 5222, 2211, 2212, 1002], [], [sgX3_copyFrom]), (11, 3, .sipush 200, [], [200], []), (14, 3, .ldc_w 386, [4132], [99999], []), (17, 1, .aload_n 0, [0], [], []), (18, 3, .getfield 10, [10, 0, 1, 2172], [], []), (21, 3, .getfield 137, [3, 7, 0, 2085], [], []), (24, 1, .isub, [], [], []), (25, 3, .invokestatic 387, [2, 0, 5227, 5071, 1015, 0], [], [sgJ9_min_7cf53]), (28, 1, .istore_n 1, [1], [], []), (29, 1, .iconst 1, [], [1], []), (30, 1, .istore_n 2, [2], [], [])]
def bkX10_till_31 : List gw_E := [(31, 1, .iload_n 2, [2], [], []), (32, 1, .iload_n 1, [1], [], []), (33, 3, .if_icmp .gt 45, [78], [], []), (36, 1, .aload_n 0, [0], [], []), (37, 3, .getfield 29, [10, 4, 1, 2176], [], []), (40, 3, .invokevirtual 243, [0, 3, 4192, 4193, 4194, 1002], [], [sgX3_goOn]), (43, 1, .aload_n 0, [0], [], []), (44, 3, .getfield 29, [10, 4, 1, 2176], [], []), (47, 3, .getfield 234, [3, 14, 1, 2097], [], []), (50, 3, .getfield 392, [2, 4, 1, 1216], [], []), (53, 1, .iconst 1, [], [1], []), (54, 1, .iaload, [], [], []), (55, 1, .aload_n 0, [0], [], []), (56, 3, .getfield 10, [10, 0, 1, 2172], [], []), (59, 3, .getfield 234, [3, 14, 1, 2097], [], []), (62, 3, .getfield 392, [2, 4, 1, 1216], [], []), (65, 1, .iconst 1, [], [1], []), (66, 1, .iaload, [], [], []), (67, 3, .if_icmp .le 5, [72], [], []), (70, 1, .iload_n 2, [2], [], []), (71, 1, .ireturn, [0], [], [])]
def bkX10_till_72 : List gw_E := [(72, 3, .iinc 2 1, [2], [1], []), (75, 3, .goto (-44), [31], [], [])]
def bkX10_till_78 : List gw_E := [(78, 1, .iconst (-1), [], [-1], []), (79, 1, .ireturn, [0], [], [])]
def bsX10_till : List (Nat × List gw_E) := [(0, bkX10_till_0), (31, bkX10_till_31), (72, bkX10_till_72), (78, bkX10_till_78)]
theorem fdX10_till_0 : gw_find bsX10_till 0 = bkX10_till_0 := rfl
theorem fdX10_till_31 : gw_find bsX10_till 31 = bkX10_till_31 := rfl
theorem fdX10_till_72 : gw_find bsX10_till 72 = bkX10_till_72 := rfl
theorem fdX10_till_78 : gw_find bsX10_till 78 = bkX10_till_78 := rfl
set_option maxRecDepth 40000 in
theorem stX10_till : gw_sta sgX10_till bsX10_till := ⟨by decide +kernel, gw_mem2 (i := 5226) rfl rfl, gw_all (by decide +kernel)⟩
def bkX10_waits_0 : List gw_E := [(0, 1, .iload_n 1, [1], [], []), (1, 3, .invokestatic 143, [1, 0, 4055, 4056, 1001, 0], [], [sgX10_isGuest]), (4, 3, .ifCond .ne 5, [9], [], []), (7, 1, .iconst (-1), [], [-1], []), (8, 1, .ireturn, [0], [], [])]
def bkX10_waits_9 : List gw_E := [(9, 1, .aload_n 0, [0], [], []), (10, 3, .getfield 29, [10, 4, 1, 2176], [], []), (13, 1, .aload_n 0, [0], [], []), (14, 3, .getfield 10, [10, 0, 1, 2172], [], []), (17, 3, .invokevirtual 383, [1, 3, 5222, 2211, 2212, 1002], [], [sgX3_copyFrom]), (20, 3, .sipush 200, [], [200], []), (23, 3, .ldc_w 386, [4132], [99999], []), (26, 1, .aload_n 0, [0], [], []), (27, 3, .getfield 10, [10, 0, 1, 2172], [], []), (30, 3, .getfield 137, [3, 7, 0, 2085], [], []), (33, 1, .isub, [], [], []), (34, 3, .invokestatic 387, [2, 0, 5227, 5071, 1015, 0], [], [sgJ9_min_7cf53]), (37, 1, .istore_n 2, [2], [], []), (38, 1, .iconst 1, [], [1], []), (39, 1, .istore_n 3, [3], [], [])]
def bkX10_waits_40 : List gw_E := [(40, 1, .iload_n 3, [3], [], []), (41, 1, .iload_n 2, [2], [], []), (42, 3, .if_icmp .gt 49, [91], [], []), (45, 1, .aload_n 0, [0], [], []), (46, 3, .getfield 29, [10, 4, 1, 2176], [], []), (49, 3, .invokevirtual 243, [0, 3, 4192, 4193, 4194, 1002], [], [sgX3_goOn]), (52, 1, .aload_n 0, [0], [], []), (53, 3, .getfield 29, [10, 4, 1, 2176], [], []), (56, 3, .getfield 234, [3, 14, 1, 2097], [], []), (59, 3, .getfield 395, [2, 12, 1, 1233], [], []), (62, 1, .iload_n 1, [1], [], []), (63, 1, .iconst 1, [], [1], []), (64, 1, .isub, [], [], []), (65, 1, .iaload, [], [], []), (66, 1, .aload_n 0, [0], [], []), (67, 3, .getfield 10, [10, 0, 1, 2172], [], []), (70, 3, .getfield 234, [3, 14, 1, 2097], [], []), (73, 3, .getfield 395, [2, 12, 1, 1233], [], []), (76, 1, .iload_n 1, [1], [], []), (77, 1, .iconst 1, [], [1], []), (78, 1, .isub, [], [], []), (79, 1, .iaload, [], [], []), (80, 3, .if_icmp .le 5, [85], [], []), (83, 1, .iload_n 3, [3], [], []), (84, 1, .ireturn, [0], [], [])]
def bkX10_waits_85 : List gw_E := [(85, 3, .iinc 3 1, [3], [1], []), (88, 3, .goto (-48), [40], [], [])]
def bkX10_waits_91 : List gw_E := [(91, 1, .iconst (-1), [], [-1], []), (92, 1, .ireturn, [0], [], [])]
def bsX10_waits : List (Nat × List gw_E) := [(0, bkX10_waits_0), (9, bkX10_waits_9), (40, bkX10_waits_40), (85, bkX10_waits_85), (91, bkX10_waits_91)]
theorem fdX10_waits_0 : gw_find bsX10_waits 0 = bkX10_waits_0 := rfl
theorem fdX10_waits_9 : gw_find bsX10_waits 9 = bkX10_waits_9 := rfl
theorem fdX10_waits_40 : gw_find bsX10_waits 40 = bkX10_waits_40 := rfl
theorem fdX10_waits_85 : gw_find bsX10_waits 85 = bkX10_waits_85 := rfl
theorem fdX10_waits_91 : gw_find bsX10_waits 91 = bkX10_waits_91 := rfl
set_option maxRecDepth 40000 in
theorem stX10_waits : gw_sta sgX10_waits bsX10_waits := ⟨by decide +kernel, gw_mem2 (i := 5231) rfl rfl, gw_all (by decide +kernel)⟩
def bkX10_roomiest_0 : List gw_E := [(0, 1, .aload_n 0, [0], [], []), (1, 1, .iload_n 1, [1], [], []), (2, 2, .bipush 100, [], [100], []), (4, 3, .invokevirtual 212, [2, 10, 4128, 4130, 10, 1001], [], [sgX10_mayGo]), (7, 3, .ifCond .ne 5, [12], [], []), (10, 1, .iconst (-1), [], [-1], []), (11, 1, .ireturn, [0], [], [])]
def bkX10_roomiest_12 : List gw_E := [(12, 1, .iconst (-1), [], [-1], []), (13, 1, .istore_n 2, [2], [], []), (14, 1, .iconst 0, [], [0], []), (15, 1, .istore_n 3, [3], [], []), (16, 1, .iconst 1, [], [1], []), (17, 2, .istore 4, [4], [], [])]
def bkX10_roomiest_19 : List gw_E := [(19, 2, .iload 4, [4], [], []), (21, 2, .bipush 16, [], [16], []), (23, 3, .if_icmp .gt 98, [121], [], []), (26, 1, .aload_n 0, [0], [], []), (27, 3, .getfield 29, [10, 4, 1, 2176], [], []), (30, 1, .aload_n 0, [0], [], []), (31, 3, .getfield 10, [10, 0, 1, 2172], [], []), (34, 3, .invokevirtual 383, [1, 3, 5222, 2211, 2212, 1002], [], [sgX3_copyFrom]), (37, 1, .aload_n 0, [0], [], []), (38, 3, .getfield 29, [10, 4, 1, 2176], [], []), (41, 3, .getfield 259, [3, 1, 1, 2074], [], []), (44, 3, .invokevirtual 398, [0, 8, 5236, 4078, 4079, 1004], [], [sgX8_dropAll]), (47, 1, .aload_n 0, [0], [], []), (48, 3, .getfield 29, [10, 4, 1, 2176], [], []), (51, 2, .iload 4, [4], [], []), (53, 3, .putfield 401, [3, 2, 0, 2076], [], []), (56, 1, .iconst 0, [], [0], []), (57, 2, .istore 5, [5], [], [])]
def bkX10_roomiest_59 : List gw_E := [(59, 2, .iload 5, [5], [], []), (61, 1, .iload_n 1, [1], [], []), (62, 3, .if_icmp .ge 16, [78], [], []), (65, 1, .aload_n 0, [0], [], []), (66, 3, .getfield 29, [10, 4, 1, 2176], [], []), (69, 3, .invokevirtual 243, [0, 3, 4192, 4193, 4194, 1002], [], [sgX3_goOn]), (72, 3, .iinc 5 1, [5], [1], []), (75, 3, .goto (-16), [59], [], [])]
def bkX10_roomiest_78 : List gw_E := [(78, 1, .iload_n 2, [2], [], []), (79, 1, .iconst (-1), [], [-1], []), (80, 3, .if_icmp .eq 19, [99], [], []), (83, 1, .aload_n 0, [0], [], []), (84, 3, .getfield 29, [10, 4, 1, 2176], [], []), (87, 3, .getfield 234, [3, 14, 1, 2097], [], []), (90, 3, .getfield 392, [2, 4, 1, 1216], [], []), (93, 1, .iconst 0, [], [0], []), (94, 1, .iaload, [], [], []), (95, 1, .iload_n 3, [3], [], []), (96, 3, .if_icmp .ge 19, [115], [], [])]
def bkX10_roomiest_99 : List gw_E := [(99, 2, .iload 4, [4], [], []), (101, 1, .istore_n 2, [2], [], []), (102, 1, .aload_n 0, [0], [], []), (103, 3, .getfield 29, [10, 4, 1, 2176], [], []), (106, 3, .getfield 234, [3, 14, 1, 2097], [], []), (109, 3, .getfield 392, [2, 4, 1, 1216], [], []), (112, 1, .iconst 0, [], [0], []), (113, 1, .iaload, [], [], []), (114, 1, .istore_n 3, [3], [], [])]
def bkX10_roomiest_115 : List gw_E := [(115, 3, .iinc 4 1, [4], [1], []), (118, 3, .goto (-99), [19], [], [])]
def bkX10_roomiest_121 : List gw_E := [(121, 1, .iload_n 2, [2], [], []), (122, 1, .ireturn, [0], [], [])]
def bsX10_roomiest : List (Nat × List gw_E) := [(0, bkX10_roomiest_0), (12, bkX10_roomiest_12), (19, bkX10_roomiest_19), (59, bkX10_roomiest_59), (78, bkX10_roomiest_78), (99, bkX10_roomiest_99), (115, bkX10_roomiest_115), (121, bkX10_roomiest_121)]
theorem fdX10_roomiest_0 : gw_find bsX10_roomiest 0 = bkX10_roomiest_0 := rfl
theorem fdX10_roomiest_12 : gw_find bsX10_roomiest 12 = bkX10_roomiest_12 := rfl
theorem fdX10_roomiest_19 : gw_find bsX10_roomiest 19 = bkX10_roomiest_19 := rfl
theorem fdX10_roomiest_59 : gw_find bsX10_roomiest 59 = bkX10_roomiest_59 := rfl
theorem fdX10_roomiest_78 : gw_find bsX10_roomiest 78 = bkX10_roomiest_78 := rfl
theorem fdX10_roomiest_99 : gw_find bsX10_roomiest 99 = bkX10_roomiest_99 := rfl
theorem fdX10_roomiest_115 : gw_find bsX10_roomiest 115 = bkX10_roomiest_115 := rfl
theorem fdX10_roomiest_121 : gw_find bsX10_roomiest 121 = bkX10_roomiest_121 := rfl
set_option maxRecDepth 40000 in
theorem stX10_roomiest : gw_sta sgX10_roomiest bsX10_roomiest := ⟨by decide +kernel, gw_mem2 (i := 5235) rfl rfl, gw_all (by decide +kernel)⟩
def bkX10_plainly_0 : List gw_E := [(0, 1, .iload_n 1, [1], [], []), (1, 1, .iconst 1, [], [1], []), (2, 3, .sipush 200, [], [200], []), (5, 3, .invokestatic 46, [3, 0, 2202, 2203, 1001, 0], [], [sgX10_within]), (8, 3, .ifCond .eq 10, [18], [], []), (11, 1, .iload_n 2, [2], [], []), (12, 3, .invokestatic 43, [1, 0, 2199, 2200, 1001, 0], [], [sgX10_isPage]), (15, 3, .ifCond .ne 5, [20], [], [])]
def bkX10_plainly_18 : List gw_E := [(18, 1, .iconst (-1), [], [-1], []), (19, 1, .ireturn, [0], [], [])]
def bkX10_plainly_20 : List gw_E := [(20, 1, .aload_n 0, [0], [], []), (21, 1, .iload_n 1, [1], [], []), (22, 3, .invokevirtual 404, [1, 10, 6001, 6003, 20, 1001], [], [sgX10_goPlainly]), (25, 1, .aload_n 0, [0], [], []), (26, 3, .getfield 35, [10, 5, 1, 2177], [], []), (29, 3, .getfield 407, [6, 1, 1, 2158], [], []), (32, 1, .iload_n 2, [2], [], []), (33, 1, .iaload, [], [], []), (34, 1, .ireturn, [0], [], [])]
def bsX10_plainly : List (Nat × List gw_E) := [(0, bkX10_plainly_0), (18, bkX10_plainly_18), (20, bkX10_plainly_20)]
theorem fdX10_plainly_0 : gw_find bsX10_plainly 0 = bkX10_plainly_0 := rfl
theorem fdX10_plainly_18 : gw_find bsX10_plainly 18 = bkX10_plainly_18 := rfl
theorem fdX10_plainly_20 : gw_find bsX10_plainly 20 = bkX10_plainly_20 := rfl
set_option maxRecDepth 40000 in
theorem stX10_plainly : gw_sta sgX10_plainly bsX10_plainly := ⟨by decide +kernel, gw_mem2 (i := 6000) rfl rfl, gw_all (by decide +kernel)⟩
def bkX10_plainTraps_0 : List gw_E := [(0, 1, .iload_n 1, [1], [], []), (1, 1, .iconst 1, [], [1], []), (2, 3, .sipush 200, [], [200], []), (5, 3, .invokestatic 46, [3, 0, 2202, 2203, 1001, 0], [], [sgX10_within]), (8, 3, .ifCond .ne 5, [13], [], []), (11, 1, .iconst (-1), [], [-1], []), (12, 1, .ireturn, [0], [], [])]
def bkX10_plainTraps_13 : List gw_E := [(13, 1, .aload_n 0, [0], [], []), (14, 1, .iload_n 1, [1], [], []), (15, 3, .invokevirtual 404, [1, 10, 6001, 6003, 20, 1001], [], [sgX10_goPlainly]), (18, 1, .aload_n 0, [0], [], []), (19, 3, .getfield 35, [10, 5, 1, 2177], [], []), (22, 3, .getfield 408, [6, 2, 0, 2160], [], []), (25, 1, .ireturn, [0], [], [])]
def bsX10_plainTraps : List (Nat × List gw_E) := [(0, bkX10_plainTraps_0), (13, bkX10_plainTraps_13)]
theorem fdX10_plainTraps_0 : gw_find bsX10_plainTraps 0 = bkX10_plainTraps_0 := rfl
theorem fdX10_plainTraps_13 : gw_find bsX10_plainTraps 13 = bkX10_plainTraps_13 := rfl
set_option maxRecDepth 40000 in
theorem stX10_plainTraps : gw_sta sgX10_plainTraps bsX10_plainTraps := ⟨by decide +kernel, gw_mem2 (i := 6032) rfl rfl, gw_all (by decide +kernel)⟩
def bkX10_plainHeard_0 : List gw_E := [(0, 1, .iload_n 1, [1], [], []), (1, 1, .iconst 1, [], [1], []), (2, 3, .sipush 200, [], [200], []), (5, 3, .invokestatic 46, [3, 0, 2202, 2203, 1001, 0], [], [sgX10_within]), (8, 3, .ifCond .ne 5, [13], [], []), (11, 1, .iconst (-1), [], [-1], []), (12, 1, .ireturn, [0], [], [])]
def bkX10_plainHeard_13 : List gw_E := [(13, 1, .aload_n 0, [0], [], []), (14, 1, .iload_n 1, [1], [], []), (15, 3, .invokevirtual 404, [1, 10, 6001, 6003, 20, 1001], [], [sgX10_goPlainly]), (18, 1, .aload_n 0, [0], [], []), (19, 3, .getfield 35, [10, 5, 1, 2177], [], []), (22, 3, .getfield 411, [6, 3, 0, 2162], [], []), (25, 1, .ireturn, [0], [], [])]
def bsX10_plainHeard : List (Nat × List gw_E) := [(0, bkX10_plainHeard_0), (13, bkX10_plainHeard_13)]
theorem fdX10_plainHeard_0 : gw_find bsX10_plainHeard 0 = bkX10_plainHeard_0 := rfl
theorem fdX10_plainHeard_13 : gw_find bsX10_plainHeard 13 = bkX10_plainHeard_13 := rfl
set_option maxRecDepth 40000 in
theorem stX10_plainHeard : gw_sta sgX10_plainHeard bsX10_plainHeard := ⟨by decide +kernel, gw_mem2 (i := 6036) rfl rfl, gw_all (by decide +kernel)⟩
def bkX10_share_0 : List gw_E := [(0, 1, .aload_n 0, [0], [], []), (1, 3, .getfield 10, [10, 0, 1, 2172], [], []), (4, 3, .getfield 234, [3, 14, 1, 2097], [], []), (7, 3, .getfield 392, [2, 4, 1, 1216], [], []), (10, 1, .iconst 0, [], [0], []), (11, 1, .iaload, [], [], []), (12, 1, .aload_n 0, [0], [], []), (13, 3, .getfield 10, [10, 0, 1, 2172], [], []), (16, 3, .getfield 234, [3, 14, 1, 2097], [], []), (19, 3, .invokevirtual 238, [0, 2, 4188, 4189, 4190, 1009], [], [sgX2_allExits]), (22, 3, .invokestatic 414, [2, 0, 6041, 6042, 1001, 0], [], [sgX10_bitsOfQuotient]), (25, 1, .lreturn, [], [], [])]
def bsX10_share : List (Nat × List gw_E) := [(0, bkX10_share_0)]
theorem fdX10_share_0 : gw_find bsX10_share 0 = bkX10_share_0 := rfl
set_option maxRecDepth 40000 in
theorem stX10_share : gw_sta sgX10_share bsX10_share := ⟨by decide +kernel, gw_mem2 (i := 6040) rfl rfl, gw_all (by decide +kernel)⟩
def bkX10_image_0 : List gw_E := [(0, 1, .aload_n 0, [0], [], []), (1, 3, .getfield 23, [10, 2, 1, 2174], [], []), (4, 1, .aload_n 0, [0], [], []), (5, 3, .getfield 10, [10, 0, 1, 2172], [], []), (8, 3, .invokevirtual 383, [1, 3, 5222, 2211, 2212, 1002], [], [sgX3_copyFrom]), (11, 1, .aload_n 0, [0], [], []), (12, 3, .getfield 26, [10, 3, 1, 2175], [], []), (15, 1, .aload_n 0, [0], [], []), (16, 3, .getfield 19, [10, 1, 1, 2173], [], []), (19, 3, .invokevirtual 418, [1, 5, 6051, 6052, 6053, 1011], [], [sgX5_copyFrom]), (22, 1, .aload_n 0, [0], [], []), (23, 3, .getfield 10, [10, 0, 1, 2172], [], []), (26, 3, .getfield 137, [3, 7, 0, 2085], [], []), (29, 1, .ireturn, [0], [], [])]
def bsX10_image : List (Nat × List gw_E) := [(0, bkX10_image_0)]
theorem fdX10_image_0 : gw_find bsX10_image 0 = bkX10_image_0 := rfl
set_option maxRecDepth 40000 in
theorem stX10_image : gw_sta sgX10_image bsX10_image := ⟨by decide +kernel, gw_mem2 (i := 6050) rfl rfl, gw_all (by decide +kernel)⟩
def bkX10_back_0 : List gw_E := [(0, 1, .aload_n 0, [0], [], []), (1, 3, .getfield 10, [10, 0, 1, 2172], [], []), (4, 1, .aload_n 0, [0], [], []), (5, 3, .getfield 23, [10, 2, 1, 2174], [], []), (8, 3, .invokevirtual 383, [1, 3, 5222, 2211, 2212, 1002], [], [sgX3_copyFrom]), (11, 1, .aload_n 0, [0], [], []), (12, 3, .getfield 19, [10, 1, 1, 2173], [], []), (15, 1, .aload_n 0, [0], [], []), (16, 3, .getfield 26, [10, 3, 1, 2175], [], []), (19, 3, .invokevirtual 418, [1, 5, 6051, 6052, 6053, 1011], [], [sgX5_copyFrom]), (22, 1, .aload_n 0, [0], [], []), (23, 3, .getfield 10, [10, 0, 1, 2172], [], []), (26, 3, .getfield 137, [3, 7, 0, 2085], [], []), (29, 1, .ireturn, [0], [], [])]
def bsX10_back : List (Nat × List gw_E) := [(0, bkX10_back_0)]
theorem fdX10_back_0 : gw_find bsX10_back 0 = bkX10_back_0 := rfl
set_option maxRecDepth 40000 in
theorem stX10_back : gw_sta sgX10_back bsX10_back := ⟨by decide +kernel, gw_mem2 (i := 6059) rfl rfl, gw_all (by decide +kernel)⟩
def bkX10_steps_0 : List gw_E := [(0, 1, .aload_n 0, [0], [], []), (1, 3, .getfield 19, [10, 1, 1, 2173], [], []), (4, 3, .getfield 246, [5, 2, 0, 2140], [], []), (7, 1, .ireturn, [0], [], [])]
def bsX10_steps : List (Nat × List gw_E) := [(0, bkX10_steps_0)]
theorem fdX10_steps_0 : gw_find bsX10_steps 0 = bkX10_steps_0 := rfl
set_option maxRecDepth 40000 in
theorem stX10_steps : gw_sta sgX10_steps bsX10_steps := ⟨by decide +kernel, gw_mem2 (i := 6063) rfl rfl, gw_all (by decide +kernel)⟩
def bkX10_mayGo_0 : List gw_E := [(0, 1, .iload_n 1, [1], [], []), (1, 1, .iconst 1, [], [1], []), (2, 1, .iload_n 2, [2], [], []), (3, 3, .invokestatic 46, [3, 0, 2202, 2203, 1001, 0], [], [sgX10_within]), (6, 3, .ifCond .eq 22, [28], [], []), (9, 1, .aload_n 0, [0], [], []), (10, 3, .getfield 10, [10, 0, 1, 2172], [], []), (13, 3, .getfield 137, [3, 7, 0, 2085], [], []), (16, 1, .iload_n 1, [1], [], []), (17, 1, .iadd, [], [], []), (18, 3, .ldc_w 386, [4132], [99999], []), (21, 3, .if_icmp .gt 7, [28], [], []), (24, 1, .iconst 1, [], [1], []), (25, 3, .goto 4, [29], [], [])]
def bkX10_mayGo_28 : List gw_E := [(28, 1, .iconst 0, [], [0], [])]
def bkX10_mayGo_29 : List gw_E := [(29, 1, .ireturn, [1], [], [])]
def bsX10_mayGo : List (Nat × List gw_E) := [(0, bkX10_mayGo_0), (28, bkX10_mayGo_28), (29, bkX10_mayGo_29)]
theorem fdX10_mayGo_0 : gw_find bsX10_mayGo 0 = bkX10_mayGo_0 := rfl
theorem fdX10_mayGo_28 : gw_find bsX10_mayGo 28 = bkX10_mayGo_28 := rfl
theorem fdX10_mayGo_29 : gw_find bsX10_mayGo 29 = bkX10_mayGo_29 := rfl
set_option maxRecDepth 40000 in
theorem stX10_mayGo : gw_sta sgX10_mayGo bsX10_mayGo := ⟨by decide +kernel, gw_mem2 (i := 4131) rfl rfl, gw_all (by decide +kernel)⟩
def bkX10_goPlainly_0 : List gw_E := [(0, 1, .aload_n 0, [0], [], []), (1, 3, .getfield 35, [10, 5, 1, 2177], [], []), (4, 1, .aload_n 0, [0], [], []), (5, 3, .getfield 10, [10, 0, 1, 2172], [], []), (8, 3, .invokevirtual 421, [1, 6, 6005, 6006, 6007, 1012], [], [sgX6_startFrom]), (11, 1, .iconst 0, [], [0], []), (12, 1, .istore_n 2, [2], [], [])]
def bkX10_goPlainly_13 : List gw_E := [(13, 1, .iload_n 2, [2], [], []), (14, 1, .iload_n 1, [1], [], []), (15, 3, .if_icmp .ge 16, [31], [], []), (18, 1, .aload_n 0, [0], [], []), (19, 3, .getfield 35, [10, 5, 1, 2177], [], []), (22, 3, .invokevirtual 424, [0, 6, 6016, 6017, 6018, 1012], [], [sgX6_goOn]), (25, 3, .iinc 2 1, [2], [1], []), (28, 3, .goto (-15), [13], [], [])]
def bkX10_goPlainly_31 : List gw_E := [(31, 1, .return_, [], [], [])]
def bsX10_goPlainly : List (Nat × List gw_E) := [(0, bkX10_goPlainly_0), (13, bkX10_goPlainly_13), (31, bkX10_goPlainly_31)]
theorem fdX10_goPlainly_0 : gw_find bsX10_goPlainly 0 = bkX10_goPlainly_0 := rfl
theorem fdX10_goPlainly_13 : gw_find bsX10_goPlainly 13 = bkX10_goPlainly_13 := rfl
theorem fdX10_goPlainly_31 : gw_find bsX10_goPlainly 31 = bkX10_goPlainly_31 := rfl
set_option maxRecDepth 40000 in
theorem stX10_goPlainly : gw_sta sgX10_goPlainly bsX10_goPlainly := ⟨by decide +kernel, gw_mem2 (i := 6004) rfl rfl, gw_all (by decide +kernel)⟩
def bkX10_within_0 : List gw_E := [(0, 1, .iload_n 0, [0], [], []), (1, 1, .iload_n 1, [1], [], []), (2, 3, .if_icmp .lt 12, [14], [], []), (5, 1, .iload_n 0, [0], [], []), (6, 1, .iload_n 2, [2], [], []), (7, 3, .if_icmp .gt 7, [14], [], []), (10, 1, .iconst 1, [], [1], []), (11, 3, .goto 4, [15], [], [])]
def bkX10_within_14 : List gw_E := [(14, 1, .iconst 0, [], [0], [])]
def bkX10_within_15 : List gw_E := [(15, 1, .ireturn, [1], [], [])]
def bsX10_within : List (Nat × List gw_E) := [(0, bkX10_within_0), (14, bkX10_within_14), (15, bkX10_within_15)]
theorem fdX10_within_0 : gw_find bsX10_within 0 = bkX10_within_0 := rfl
theorem fdX10_within_14 : gw_find bsX10_within 14 = bkX10_within_14 := rfl
theorem fdX10_within_15 : gw_find bsX10_within 15 = bkX10_within_15 := rfl
set_option maxRecDepth 40000 in
theorem stX10_within : gw_sta sgX10_within bsX10_within := ⟨by decide +kernel, gw_mem2 (i := 2204) rfl rfl, gw_all (by decide +kernel)⟩
def bkX10_isPage_0 : List gw_E := [(0, 1, .iload_n 0, [0], [], []), (1, 1, .iconst 0, [], [0], []), (2, 2, .bipush 15, [], [15], []), (4, 3, .invokestatic 46, [3, 0, 2202, 2203, 1001, 0], [], [sgX10_within]), (7, 1, .ireturn, [1], [], [])]
def bsX10_isPage : List (Nat × List gw_E) := [(0, bkX10_isPage_0)]
theorem fdX10_isPage_0 : gw_find bsX10_isPage 0 = bkX10_isPage_0 := rfl
set_option maxRecDepth 40000 in
theorem stX10_isPage : gw_sta sgX10_isPage bsX10_isPage := ⟨by decide +kernel, gw_mem2 (i := 2201) rfl rfl, gw_all (by decide +kernel)⟩
def bkX10_isFrame_0 : List gw_E := [(0, 1, .iload_n 0, [0], [], []), (1, 1, .iconst 0, [], [0], []), (2, 2, .bipush 9, [], [9], []), (4, 3, .invokestatic 46, [3, 0, 2202, 2203, 1001, 0], [], [sgX10_within]), (7, 1, .ireturn, [1], [], [])]
def bsX10_isFrame : List (Nat × List gw_E) := [(0, bkX10_isFrame_0)]
theorem fdX10_isFrame_0 : gw_find bsX10_isFrame 0 = bkX10_isFrame_0 := rfl
set_option maxRecDepth 40000 in
theorem stX10_isFrame : gw_sta sgX10_isFrame bsX10_isFrame := ⟨by decide +kernel, gw_mem2 (i := 5041) rfl rfl, gw_all (by decide +kernel)⟩
def bkX10_isWay_0 : List gw_E := [(0, 1, .iload_n 0, [0], [], []), (1, 1, .iconst 0, [], [0], []), (2, 1, .iconst 2, [], [2], []), (3, 3, .invokestatic 46, [3, 0, 2202, 2203, 1001, 0], [], [sgX10_within]), (6, 1, .ireturn, [1], [], [])]
def bsX10_isWay : List (Nat × List gw_E) := [(0, bkX10_isWay_0)]
theorem fdX10_isWay_0 : gw_find bsX10_isWay 0 = bkX10_isWay_0 := rfl
set_option maxRecDepth 40000 in
theorem stX10_isWay : gw_sta sgX10_isWay bsX10_isWay := ⟨by decide +kernel, gw_mem2 (i := 3187) rfl rfl, gw_all (by decide +kernel)⟩
def bkX10_isEvent_0 : List gw_E := [(0, 1, .iload_n 0, [0], [], []), (1, 1, .iconst 0, [], [0], []), (2, 2, .bipush 7, [], [7], []), (4, 3, .invokestatic 46, [3, 0, 2202, 2203, 1001, 0], [], [sgX10_within]), (7, 1, .ireturn, [1], [], [])]
def bsX10_isEvent : List (Nat × List gw_E) := [(0, bkX10_isEvent_0)]
theorem fdX10_isEvent_0 : gw_find bsX10_isEvent 0 = bkX10_isEvent_0 := rfl
set_option maxRecDepth 40000 in
theorem stX10_isEvent : gw_sta sgX10_isEvent bsX10_isEvent := ⟨by decide +kernel, gw_mem2 (i := 4016) rfl rfl, gw_all (by decide +kernel)⟩
def bkX10_isVector_0 : List gw_E := [(0, 1, .iload_n 0, [0], [], []), (1, 1, .iconst 0, [], [0], []), (2, 2, .bipush 15, [], [15], []), (4, 3, .invokestatic 46, [3, 0, 2202, 2203, 1001, 0], [], [sgX10_within]), (7, 1, .ireturn, [1], [], [])]
def bsX10_isVector : List (Nat × List gw_E) := [(0, bkX10_isVector_0)]
theorem fdX10_isVector_0 : gw_find bsX10_isVector 0 = bkX10_isVector_0 := rfl
set_option maxRecDepth 40000 in
theorem stX10_isVector : gw_sta sgX10_isVector bsX10_isVector := ⟨by decide +kernel, gw_mem2 (i := 4036) rfl rfl, gw_all (by decide +kernel)⟩
def bkX10_isGuest_0 : List gw_E := [(0, 1, .iload_n 0, [0], [], []), (1, 1, .iconst 1, [], [1], []), (2, 3, .if_icmp .eq 8, [10], [], []), (5, 1, .iload_n 0, [0], [], []), (6, 1, .iconst 2, [], [2], []), (7, 3, .if_icmp .ne 7, [14], [], [])]
def bkX10_isGuest_10 : List gw_E := [(10, 1, .iconst 1, [], [1], []), (11, 3, .goto 4, [15], [], [])]
def bkX10_isGuest_14 : List gw_E := [(14, 1, .iconst 0, [], [0], [])]
def bkX10_isGuest_15 : List gw_E := [(15, 1, .ireturn, [1], [], [])]
def bsX10_isGuest : List (Nat × List gw_E) := [(0, bkX10_isGuest_0), (10, bkX10_isGuest_10), (14, bkX10_isGuest_14), (15, bkX10_isGuest_15)]
theorem fdX10_isGuest_0 : gw_find bsX10_isGuest 0 = bkX10_isGuest_0 := rfl
theorem fdX10_isGuest_10 : gw_find bsX10_isGuest 10 = bkX10_isGuest_10 := rfl
theorem fdX10_isGuest_14 : gw_find bsX10_isGuest 14 = bkX10_isGuest_14 := rfl
theorem fdX10_isGuest_15 : gw_find bsX10_isGuest 15 = bkX10_isGuest_15 := rfl
set_option maxRecDepth 40000 in
theorem stX10_isGuest : gw_sta sgX10_isGuest bsX10_isGuest := ⟨by decide +kernel, gw_mem2 (i := 4057) rfl rfl, gw_all (by decide +kernel)⟩
def bkX10_isInnerGuest_0 : List gw_E := [(0, 1, .iload_n 0, [0], [], []), (1, 1, .iconst 0, [], [0], []), (2, 1, .iconst 2, [], [2], []), (3, 3, .invokestatic 46, [3, 0, 2202, 2203, 1001, 0], [], [sgX10_within]), (6, 1, .ireturn, [1], [], [])]
def bsX10_isInnerGuest : List (Nat × List gw_E) := [(0, bkX10_isInnerGuest_0)]
theorem fdX10_isInnerGuest_0 : gw_find bsX10_isInnerGuest 0 = bkX10_isInnerGuest_0 := rfl
set_option maxRecDepth 40000 in
theorem stX10_isInnerGuest : gw_sta sgX10_isInnerGuest bsX10_isInnerGuest := ⟨by decide +kernel, gw_mem2 (i := 4072) rfl rfl, gw_all (by decide +kernel)⟩
def bkX10_mayHaveHandler_0 : List gw_E := [(0, 1, .iload_n 0, [0], [], []), (1, 1, .iconst 1, [], [1], []), (2, 3, .if_icmp .eq 20, [22], [], []), (5, 1, .iload_n 0, [0], [], []), (6, 1, .iconst 4, [], [4], []), (7, 3, .if_icmp .eq 15, [22], [], []), (10, 1, .iload_n 0, [0], [], []), (11, 2, .bipush 6, [], [6], []), (13, 3, .if_icmp .eq 9, [22], [], []), (16, 1, .iload_n 0, [0], [], []), (17, 2, .bipush 8, [], [8], []), (19, 3, .if_icmp .ne 7, [26], [], [])]
def bkX10_mayHaveHandler_22 : List gw_E := [(22, 1, .iconst 1, [], [1], []), (23, 3, .goto 4, [27], [], [])]
def bkX10_mayHaveHandler_26 : List gw_E := [(26, 1, .iconst 0, [], [0], [])]
def bkX10_mayHaveHandler_27 : List gw_E := [(27, 1, .ireturn, [1], [], [])]
def bsX10_mayHaveHandler : List (Nat × List gw_E) := [(0, bkX10_mayHaveHandler_0), (22, bkX10_mayHaveHandler_22), (26, bkX10_mayHaveHandler_26), (27, bkX10_mayHaveHandler_27)]
theorem fdX10_mayHaveHandler_0 : gw_find bsX10_mayHaveHandler 0 = bkX10_mayHaveHandler_0 := rfl
theorem fdX10_mayHaveHandler_22 : gw_find bsX10_mayHaveHandler 22 = bkX10_mayHaveHandler_22 := rfl
theorem fdX10_mayHaveHandler_26 : gw_find bsX10_mayHaveHandler 26 = bkX10_mayHaveHandler_26 := rfl
theorem fdX10_mayHaveHandler_27 : gw_find bsX10_mayHaveHandler 27 = bkX10_mayHaveHandler_27 := rfl
set_option maxRecDepth 40000 in
theorem stX10_mayHaveHandler : gw_sta sgX10_mayHaveHandler bsX10_mayHaveHandler := ⟨by decide +kernel, gw_mem2 (i := 4109) rfl rfl, gw_all (by decide +kernel)⟩
def bkX10_isAct_0 : List gw_E := [(0, 1, .iload_n 2, [2], [], []), (1, 1, .iconst 0, [], [0], []), (2, 1, .iload_n 0, [0], [], []), (3, 1, .iload_n 1, [1], [], []), (4, 3, .invokestatic 425, [2, 0, 4170, 4171, 1001, 0], [], [sgX10_mostOfA]), (7, 3, .invokestatic 46, [3, 0, 2202, 2203, 1001, 0], [], [sgX10_within]), (10, 3, .ifCond .eq 20, [30], [], []), (13, 1, .iload_n 3, [3], [], []), (14, 1, .iconst 0, [], [0], []), (15, 1, .iload_n 0, [0], [], []), (16, 1, .iload_n 1, [1], [], []), (17, 3, .invokestatic 428, [2, 0, 4173, 4174, 1001, 0], [], [sgX10_mostOfB]), (20, 3, .invokestatic 46, [3, 0, 2202, 2203, 1001, 0], [], [sgX10_within]), (23, 3, .ifCond .eq 7, [30], [], []), (26, 1, .iconst 1, [], [1], []), (27, 3, .goto 4, [31], [], [])]
def bkX10_isAct_30 : List gw_E := [(30, 1, .iconst 0, [], [0], [])]
def bkX10_isAct_31 : List gw_E := [(31, 1, .ireturn, [1], [], [])]
def bsX10_isAct : List (Nat × List gw_E) := [(0, bkX10_isAct_0), (30, bkX10_isAct_30), (31, bkX10_isAct_31)]
theorem fdX10_isAct_0 : gw_find bsX10_isAct 0 = bkX10_isAct_0 := rfl
theorem fdX10_isAct_30 : gw_find bsX10_isAct 30 = bkX10_isAct_30 := rfl
theorem fdX10_isAct_31 : gw_find bsX10_isAct 31 = bkX10_isAct_31 := rfl
set_option maxRecDepth 40000 in
theorem stX10_isAct : gw_sta sgX10_isAct bsX10_isAct := ⟨by decide +kernel, gw_mem2 (i := 4169) rfl rfl, gw_all (by decide +kernel)⟩
def bkX10_mostOfA_0 : List gw_E := [(0, 1, .iload_n 1, [1], [], []), (1, 63, .tableswitch 117 0 11 #[63, 63, 63, 66, 69, 69, 71, 83, 63, 83, 95, 106], [118, 64, 64, 64, 67, 70, 70, 72, 84, 64, 84, 96, 107], [0], [])]
def bkX10_mostOfA_64 : List gw_E := [(64, 2, .bipush 15, [], [15], []), (66, 1, .ireturn, [0], [], [])]
def bkX10_mostOfA_67 : List gw_E := [(67, 2, .bipush 7, [], [7], []), (69, 1, .ireturn, [0], [], [])]
def bkX10_mostOfA_70 : List gw_E := [(70, 1, .iconst 0, [], [0], []), (71, 1, .ireturn, [0], [], [])]
def bkX10_mostOfA_72 : List gw_E := [(72, 1, .iload_n 0, [0], [], []), (73, 1, .iconst 2, [], [2], []), (74, 3, .if_icmp .ne 8, [82], [], []), (77, 2, .bipush 15, [], [15], []), (79, 3, .goto 4, [83], [], [])]
def bkX10_mostOfA_82 : List gw_E := [(82, 1, .iconst 0, [], [0], [])]
def bkX10_mostOfA_83 : List gw_E := [(83, 1, .ireturn, [0], [], [])]
def bkX10_mostOfA_84 : List gw_E := [(84, 1, .iload_n 0, [0], [], []), (85, 1, .iconst 1, [], [1], []), (86, 3, .if_icmp .ne 8, [94], [], []), (89, 2, .bipush 15, [], [15], []), (91, 3, .goto 4, [95], [], [])]
def bkX10_mostOfA_94 : List gw_E := [(94, 1, .iconst 0, [], [0], [])]
def bkX10_mostOfA_95 : List gw_E := [(95, 1, .ireturn, [0], [], [])]
def bkX10_mostOfA_96 : List gw_E := [(96, 1, .iload_n 0, [0], [], []), (97, 1, .iconst 1, [], [1], []), (98, 3, .if_icmp .ne 7, [105], [], []), (101, 1, .iconst 0, [], [0], []), (102, 3, .goto 4, [106], [], [])]
def bkX10_mostOfA_105 : List gw_E := [(105, 1, .iconst (-1), [], [-1], [])]
def bkX10_mostOfA_106 : List gw_E := [(106, 1, .ireturn, [0], [], [])]
def bkX10_mostOfA_107 : List gw_E := [(107, 1, .iload_n 0, [0], [], []), (108, 1, .iconst 1, [], [1], []), (109, 3, .if_icmp .ne 7, [116], [], []), (112, 1, .iconst 2, [], [2], []), (113, 3, .goto 4, [117], [], [])]
def bkX10_mostOfA_116 : List gw_E := [(116, 1, .iconst (-1), [], [-1], [])]
def bkX10_mostOfA_117 : List gw_E := [(117, 1, .ireturn, [0], [], [])]
def bkX10_mostOfA_118 : List gw_E := [(118, 1, .iconst (-1), [], [-1], []), (119, 1, .ireturn, [0], [], [])]
def bsX10_mostOfA : List (Nat × List gw_E) := [(0, bkX10_mostOfA_0), (64, bkX10_mostOfA_64), (67, bkX10_mostOfA_67), (70, bkX10_mostOfA_70), (72, bkX10_mostOfA_72), (82, bkX10_mostOfA_82), (83, bkX10_mostOfA_83), (84, bkX10_mostOfA_84), (94, bkX10_mostOfA_94), (95, bkX10_mostOfA_95), (96, bkX10_mostOfA_96), (105, bkX10_mostOfA_105), (106, bkX10_mostOfA_106), (107, bkX10_mostOfA_107), (116, bkX10_mostOfA_116), (117, bkX10_mostOfA_117), (118, bkX10_mostOfA_118)]
theorem fdX10_mostOfA_0 : gw_find bsX10_mostOfA 0 = bkX10_mostOfA_0 := rfl
theorem fdX10_mostOfA_64 : gw_find bsX10_mostOfA 64 = bkX10_mostOfA_64 := rfl
theorem fdX10_mostOfA_67 : gw_find bsX10_mostOfA 67 = bkX10_mostOfA_67 := rfl
theorem fdX10_mostOfA_70 : gw_find bsX10_mostOfA 70 = bkX10_mostOfA_70 := rfl
theorem fdX10_mostOfA_72 : gw_find bsX10_mostOfA 72 = bkX10_mostOfA_72 := rfl
theorem fdX10_mostOfA_82 : gw_find bsX10_mostOfA 82 = bkX10_mostOfA_82 := rfl
theorem fdX10_mostOfA_83 : gw_find bsX10_mostOfA 83 = bkX10_mostOfA_83 := rfl
theorem fdX10_mostOfA_84 : gw_find bsX10_mostOfA 84 = bkX10_mostOfA_84 := rfl
theorem fdX10_mostOfA_94 : gw_find bsX10_mostOfA 94 = bkX10_mostOfA_94 := rfl
theorem fdX10_mostOfA_95 : gw_find bsX10_mostOfA 95 = bkX10_mostOfA_95 := rfl
theorem fdX10_mostOfA_96 : gw_find bsX10_mostOfA 96 = bkX10_mostOfA_96 := rfl
theorem fdX10_mostOfA_105 : gw_find bsX10_mostOfA 105 = bkX10_mostOfA_105 := rfl
theorem fdX10_mostOfA_106 : gw_find bsX10_mostOfA 106 = bkX10_mostOfA_106 := rfl
theorem fdX10_mostOfA_107 : gw_find bsX10_mostOfA 107 = bkX10_mostOfA_107 := rfl
theorem fdX10_mostOfA_116 : gw_find bsX10_mostOfA 116 = bkX10_mostOfA_116 := rfl
theorem fdX10_mostOfA_117 : gw_find bsX10_mostOfA 117 = bkX10_mostOfA_117 := rfl
theorem fdX10_mostOfA_118 : gw_find bsX10_mostOfA 118 = bkX10_mostOfA_118 := rfl
set_option maxRecDepth 40000 in
theorem stX10_mostOfA : gw_sta sgX10_mostOfA bsX10_mostOfA := ⟨by decide +kernel, gw_mem2 (i := 4172) rfl rfl, gw_all (by decide +kernel)⟩
def bkX10_mostOfB_0 : List gw_E := [(0, 1, .iload_n 0, [0], [], []), (1, 1, .iconst 1, [], [1], []), (2, 3, .if_icmp .ne 17, [19], [], []), (5, 1, .iload_n 1, [1], [], []), (6, 2, .bipush 7, [], [7], []), (8, 3, .if_icmp .ne 7, [15], [], []), (11, 1, .iconst 1, [], [1], []), (12, 3, .goto 18, [30], [], [])]
def bkX10_mostOfB_15 : List gw_E := [(15, 1, .iconst 0, [], [0], []), (16, 3, .goto 14, [30], [], [])]
def bkX10_mostOfB_19 : List gw_E := [(19, 1, .iload_n 1, [1], [], []), (20, 2, .bipush 6, [], [6], []), (22, 3, .if_icmp .ne 7, [29], [], []), (25, 1, .iconst 1, [], [1], []), (26, 3, .goto 4, [30], [], [])]
def bkX10_mostOfB_29 : List gw_E := [(29, 1, .iconst 0, [], [0], [])]
def bkX10_mostOfB_30 : List gw_E := [(30, 1, .istore_n 2, [2], [], []), (31, 1, .iload_n 1, [1], [], []), (32, 1, .iconst 1, [], [1], []), (33, 3, .if_icmp .ne 7, [40], [], []), (36, 3, .sipush 9999, [], [9999], []), (39, 1, .ireturn, [0], [], [])]
def bkX10_mostOfB_40 : List gw_E := [(40, 1, .iload_n 2, [2], [], []), (41, 3, .ifCond .eq 8, [49], [], []), (44, 2, .bipush 15, [], [15], []), (46, 3, .goto 4, [50], [], [])]
def bkX10_mostOfB_49 : List gw_E := [(49, 1, .iconst 0, [], [0], [])]
def bkX10_mostOfB_50 : List gw_E := [(50, 1, .ireturn, [0], [], [])]
def bsX10_mostOfB : List (Nat × List gw_E) := [(0, bkX10_mostOfB_0), (15, bkX10_mostOfB_15), (19, bkX10_mostOfB_19), (29, bkX10_mostOfB_29), (30, bkX10_mostOfB_30), (40, bkX10_mostOfB_40), (49, bkX10_mostOfB_49), (50, bkX10_mostOfB_50)]
theorem fdX10_mostOfB_0 : gw_find bsX10_mostOfB 0 = bkX10_mostOfB_0 := rfl
theorem fdX10_mostOfB_15 : gw_find bsX10_mostOfB 15 = bkX10_mostOfB_15 := rfl
theorem fdX10_mostOfB_19 : gw_find bsX10_mostOfB 19 = bkX10_mostOfB_19 := rfl
theorem fdX10_mostOfB_29 : gw_find bsX10_mostOfB 29 = bkX10_mostOfB_29 := rfl
theorem fdX10_mostOfB_30 : gw_find bsX10_mostOfB 30 = bkX10_mostOfB_30 := rfl
theorem fdX10_mostOfB_40 : gw_find bsX10_mostOfB 40 = bkX10_mostOfB_40 := rfl
theorem fdX10_mostOfB_49 : gw_find bsX10_mostOfB 49 = bkX10_mostOfB_49 := rfl
theorem fdX10_mostOfB_50 : gw_find bsX10_mostOfB 50 = bkX10_mostOfB_50 := rfl
set_option maxRecDepth 40000 in
theorem stX10_mostOfB : gw_sta sgX10_mostOfB bsX10_mostOfB := ⟨by decide +kernel, gw_mem2 (i := 4175) rfl rfl, gw_all (by decide +kernel)⟩
def bkX10_hasBit_0 : List gw_E := [(0, 1, .iload_n 0, [0], [], []), (1, 1, .iload_n 1, [1], [], []), (2, 1, .ishr, [], [], []), (3, 1, .iconst 1, [], [1], []), (4, 1, .iand, [], [], []), (5, 3, .ifCond .eq 7, [12], [], []), (8, 1, .iconst 1, [], [1], []), (9, 3, .goto 4, [13], [], [])]
def bkX10_hasBit_12 : List gw_E := [(12, 1, .iconst 0, [], [0], [])]
def bkX10_hasBit_13 : List gw_E := [(13, 1, .ireturn, [1], [], [])]
def bsX10_hasBit : List (Nat × List gw_E) := [(0, bkX10_hasBit_0), (12, bkX10_hasBit_12), (13, bkX10_hasBit_13)]
theorem fdX10_hasBit_0 : gw_find bsX10_hasBit 0 = bkX10_hasBit_0 := rfl
theorem fdX10_hasBit_12 : gw_find bsX10_hasBit 12 = bkX10_hasBit_12 := rfl
theorem fdX10_hasBit_13 : gw_find bsX10_hasBit 13 = bkX10_hasBit_13 := rfl
set_option maxRecDepth 40000 in
theorem stX10_hasBit : gw_sta sgX10_hasBit bsX10_hasBit := ⟨by decide +kernel, gw_mem2 (i := 3045) rfl rfl, gw_all (by decide +kernel)⟩
def bkX10_greatestOf_0 : List gw_E := [(0, 2, .bipush 15, [], [15], []), (2, 1, .istore_n 1, [1], [], [])]
def bkX10_greatestOf_3 : List gw_E := [(3, 1, .iload_n 1, [1], [], []), (4, 3, .ifCond .lt 19, [23], [], []), (7, 1, .iload_n 0, [0], [], []), (8, 1, .iload_n 1, [1], [], []), (9, 1, .ishr, [], [], []), (10, 1, .iconst 1, [], [1], []), (11, 1, .iand, [], [], []), (12, 3, .ifCond .eq 5, [17], [], []), (15, 1, .iload_n 1, [1], [], []), (16, 1, .ireturn, [0], [], [])]
def bkX10_greatestOf_17 : List gw_E := [(17, 3, .iinc 1 (-1), [1], [-1], []), (20, 3, .goto (-17), [3], [], [])]
def bkX10_greatestOf_23 : List gw_E := [(23, 1, .iconst (-1), [], [-1], []), (24, 1, .ireturn, [0], [], [])]
def bsX10_greatestOf : List (Nat × List gw_E) := [(0, bkX10_greatestOf_0), (3, bkX10_greatestOf_3), (17, bkX10_greatestOf_17), (23, bkX10_greatestOf_23)]
theorem fdX10_greatestOf_0 : gw_find bsX10_greatestOf 0 = bkX10_greatestOf_0 := rfl
theorem fdX10_greatestOf_3 : gw_find bsX10_greatestOf 3 = bkX10_greatestOf_3 := rfl
theorem fdX10_greatestOf_17 : gw_find bsX10_greatestOf 17 = bkX10_greatestOf_17 := rfl
theorem fdX10_greatestOf_23 : gw_find bsX10_greatestOf 23 = bkX10_greatestOf_23 := rfl
set_option maxRecDepth 40000 in
theorem stX10_greatestOf : gw_sta sgX10_greatestOf bsX10_greatestOf := ⟨by decide +kernel, gw_mem2 (i := 3056) rfl rfl, gw_all (by decide +kernel)⟩
def bkX10_lowestOutside_0 : List gw_E := [(0, 1, .iconst 0, [], [0], []), (1, 1, .istore_n 1, [1], [], [])]
def bkX10_lowestOutside_2 : List gw_E := [(2, 1, .iload_n 1, [1], [], []), (3, 2, .bipush 10, [], [10], []), (5, 3, .if_icmp .ge 19, [24], [], []), (8, 1, .iload_n 0, [0], [], []), (9, 1, .iload_n 1, [1], [], []), (10, 1, .ishr, [], [], []), (11, 1, .iconst 1, [], [1], []), (12, 1, .iand, [], [], []), (13, 3, .ifCond .ne 5, [18], [], []), (16, 1, .iload_n 1, [1], [], []), (17, 1, .ireturn, [0], [], [])]
def bkX10_lowestOutside_18 : List gw_E := [(18, 3, .iinc 1 1, [1], [1], []), (21, 3, .goto (-19), [2], [], [])]
def bkX10_lowestOutside_24 : List gw_E := [(24, 1, .iconst (-1), [], [-1], []), (25, 1, .ireturn, [0], [], [])]
def bsX10_lowestOutside : List (Nat × List gw_E) := [(0, bkX10_lowestOutside_0), (2, bkX10_lowestOutside_2), (18, bkX10_lowestOutside_18), (24, bkX10_lowestOutside_24)]
theorem fdX10_lowestOutside_0 : gw_find bsX10_lowestOutside 0 = bkX10_lowestOutside_0 := rfl
theorem fdX10_lowestOutside_2 : gw_find bsX10_lowestOutside 2 = bkX10_lowestOutside_2 := rfl
theorem fdX10_lowestOutside_18 : gw_find bsX10_lowestOutside 18 = bkX10_lowestOutside_18 := rfl
theorem fdX10_lowestOutside_24 : gw_find bsX10_lowestOutside 24 = bkX10_lowestOutside_24 := rfl
set_option maxRecDepth 40000 in
theorem stX10_lowestOutside : gw_sta sgX10_lowestOutside bsX10_lowestOutside := ⟨by decide +kernel, gw_mem2 (i := 3235) rfl rfl, gw_all (by decide +kernel)⟩
def bkX11_init_0 : List gw_E := [(0, 1, .aload_n 0, [0], [], []), (1, 3, .invokespecial 1, [0, 2, 6069, 1025, 1026, 0], [], []), (4, 1, .aload_n 0, [0], [], []), (5, 3, .sipush 20813, [], [20813], []), (8, 2, .newarray .int, [], [], []), (10, 3, .putfield 7, [11, 0, 1, 6073], [], []), (13, 1, .aload_n 0, [0], [], []), (14, 3, .sipush 20813, [], [20813], []), (17, 2, .newarray .int, [], [], []), (19, 3, .putfield 13, [11, 1, 1, 6074], [], []), (22, 1, .aload_n 0, [0], [], []), (23, 3, .sipush 991, [], [991], []), (26, 2, .newarray .int, [], [], []), (28, 3, .putfield 16, [11, 2, 1, 6075], [], []), (31, 1, .aload_n 0, [0], [], []), (32, 2, .bipush 16, [], [16], []), (34, 2, .newarray .int, [], [], []), (36, 3, .putfield 19, [11, 3, 1, 6076], [], []), (39, 1, .aload_n 0, [0], [], []), (40, 2, .bipush 32, [], [32], []), (42, 2, .newarray .int, [], [], []), (44, 3, .putfield 22, [11, 4, 1, 6077], [], []), (47, 1, .aload_n 0, [0], [], []), (48, 3, .getfield 7, [11, 0, 1, 6073], [], []), (51, 1, .iconst 2, [], [2], []), (52, 1, .iconst 1, [], [1], []), (53, 1, .iastore, [], [], []), (54, 1, .aload_n 0, [0], [], []), (55, 3, .getfield 7, [11, 0, 1, 6073], [], []), (58, 1, .iconst 4, [], [4], []), (59, 2, .bipush 6, [], [6], []), (61, 1, .iastore, [], [], []), (62, 1, .aload_n 0, [0], [], []), (63, 3, .getfield 7, [11, 0, 1, 6073], [], []), (66, 2, .bipush 13, [], [13], []), (68, 1, .iconst (-1), [], [-1], []), (69, 1, .iastore, [], [], []), (70, 1, .aload_n 0, [0], [], []), (71, 3, .getfield 7, [11, 0, 1, 6073], [], []), (74, 2, .bipush 14, [], [14], []), (76, 1, .iconst (-1), [], [-1], []), (77, 1, .iastore, [], [], []), (78, 1, .aload_n 0, [0], [], []), (79, 3, .getfield 7, [11, 0, 1, 6073], [], []), (82, 2, .bipush 16, [], [16], []), (84, 1, .iconst (-1), [], [-1], []), (85, 1, .iastore, [], [], []), (86, 1, .aload_n 0, [0], [], []), (87, 3, .getfield 7, [11, 0, 1, 6073], [], []), (90, 2, .bipush 19, [], [19], []), (92, 1, .iconst (-1), [], [-1], []), (93, 1, .iastore, [], [], []), (94, 1, .aload_n 0, [0], [], []), (95, 3, .getfield 7, [11, 0, 1, 6073], [], []), (98, 2, .bipush 20, [], [20], []), (100, 1, .iconst (-1), [], [-1], []), (101, 1, .iastore, [], [], []), (102, 1, .aload_n 0, [0], [], []), (103, 3, .getfield 7, [11, 0, 1, 6073], [], []), (106, 2, .bipush 56, [], [56], []), (108, 1, .iconst (-1), [], [-1], []), (109, 1, .iastore, [], [], []), (110, 1, .aload_n 0, [0], [], []), (111, 3, .getfield 7, [11, 0, 1, 6073], [], []), (114, 2, .bipush 57, [], [57], []), (116, 1, .iconst (-1), [], [-1], []), (117, 1, .iastore, [], [], []), (118, 1, .iconst 0, [], [0], []), (119, 1, .istore_n 1, [1], [], [])]
def bkX11_init_120 : List gw_E := [(120, 1, .iload_n 1, [1], [], []), (121, 1, .iconst 4, [], [4], []), (122, 3, .if_icmp .ge 94, [216], [], []), (125, 1, .aload_n 0, [0], [], []), (126, 3, .getfield 7, [11, 0, 1, 6073], [], []), (129, 2, .bipush 58, [], [58], []), (131, 3, .sipush 162, [], [162], []), (134, 1, .iload_n 1, [1], [], []), (135, 1, .imul, [], [], []), (136, 1, .iadd, [], [], []), (137, 1, .iconst 3, [], [3], []), (138, 1, .iadd, [], [], []), (139, 2, .bipush 16, [], [16], []), (141, 1, .iastore, [], [], []), (142, 1, .iconst 0, [], [0], []), (143, 1, .istore_n 2, [2], [], [])]
def bkX11_init_144 : List gw_E := [(144, 1, .iload_n 2, [2], [], []), (145, 2, .bipush 32, [], [32], []), (147, 3, .if_icmp .ge 30, [177], [], []), (150, 1, .aload_n 0, [0], [], []), (151, 3, .getfield 7, [11, 0, 1, 6073], [], []), (154, 2, .bipush 58, [], [58], []), (156, 3, .sipush 162, [], [162], []), (159, 1, .iload_n 1, [1], [], []), (160, 1, .imul, [], [], []), (161, 1, .iadd, [], [], []), (162, 2, .bipush 79, [], [79], []), (164, 1, .iadd, [], [], []), (165, 1, .iconst 2, [], [2], []), (166, 1, .iload_n 2, [2], [], []), (167, 1, .imul, [], [], []), (168, 1, .iadd, [], [], []), (169, 1, .iconst (-1), [], [-1], []), (170, 1, .iastore, [], [], []), (171, 3, .iinc 2 1, [2], [1], []), (174, 3, .goto (-30), [144], [], [])]
def bkX11_init_177 : List gw_E := [(177, 1, .iconst 0, [], [0], []), (178, 1, .istore_n 2, [2], [], [])]
def bkX11_init_179 : List gw_E := [(179, 1, .iload_n 2, [2], [], []), (180, 1, .iconst 3, [], [3], []), (181, 3, .if_icmp .ge 29, [210], [], []), (184, 1, .aload_n 0, [0], [], []), (185, 3, .getfield 7, [11, 0, 1, 6073], [], []), (188, 2, .bipush 58, [], [58], []), (190, 3, .sipush 162, [], [162], []), (193, 1, .iload_n 1, [1], [], []), (194, 1, .imul, [], [], []), (195, 1, .iadd, [], [], []), (196, 3, .sipush 143, [], [143], []), (199, 1, .iadd, [], [], []), (200, 1, .iload_n 2, [2], [], []), (201, 1, .iadd, [], [], []), (202, 1, .iconst (-1), [], [-1], []), (203, 1, .iastore, [], [], []), (204, 3, .iinc 2 1, [2], [1], []), (207, 3, .goto (-28), [179], [], [])]
def bkX11_init_210 : List gw_E := [(210, 3, .iinc 1 1, [1], [1], []), (213, 3, .goto (-93), [120], [], [])]
def bkX11_init_216 : List gw_E := [(216, 1, .iconst 0, [], [0], []), (217, 1, .istore_n 1, [1], [], [])]
def bkX11_init_218 : List gw_E := [(218, 1, .iload_n 1, [1], [], []), (219, 2, .bipush 16, [], [16], []), (221, 3, .if_icmp .ge 46, [267], [], []), (224, 1, .aload_n 0, [0], [], []), (225, 3, .getfield 7, [11, 0, 1, 6073], [], []), (228, 3, .sipush 706, [], [706], []), (231, 1, .iconst 2, [], [2], []), (232, 1, .iload_n 1, [1], [], []), (233, 1, .imul, [], [], []), (234, 1, .iadd, [], [], []), (235, 1, .iconst (-1), [], [-1], []), (236, 1, .iastore, [], [], []), (237, 1, .aload_n 0, [0], [], []), (238, 3, .getfield 7, [11, 0, 1, 6073], [], []), (241, 3, .sipush 754, [], [754], []), (244, 1, .iconst 2, [], [2], []), (245, 1, .iload_n 1, [1], [], []), (246, 1, .imul, [], [], []), (247, 1, .iadd, [], [], []), (248, 1, .iconst (-1), [], [-1], []), (249, 1, .iastore, [], [], []), (250, 1, .aload_n 0, [0], [], []), (251, 3, .getfield 7, [11, 0, 1, 6073], [], []), (254, 3, .sipush 812, [], [812], []), (257, 1, .iload_n 1, [1], [], []), (258, 1, .iadd, [], [], []), (259, 1, .iconst (-1), [], [-1], []), (260, 1, .iastore, [], [], []), (261, 3, .iinc 1 1, [1], [1], []), (264, 3, .goto (-46), [218], [], [])]
def bkX11_init_267 : List gw_E := [(267, 1, .iconst 0, [], [0], []), (268, 1, .istore_n 1, [1], [], [])]
def bkX11_init_269 : List gw_E := [(269, 1, .iload_n 1, [1], [], []), (270, 2, .bipush 10, [], [10], []), (272, 3, .if_icmp .ge 23, [295], [], []), (275, 1, .aload_n 0, [0], [], []), (276, 3, .getfield 7, [11, 0, 1, 6073], [], []), (279, 3, .sipush 802, [], [802], []), (282, 1, .iload_n 1, [1], [], []), (283, 1, .iadd, [], [], []), (284, 2, .bipush 11, [], [11], []), (286, 1, .iload_n 1, [1], [], []), (287, 1, .imul, [], [], []), (288, 1, .iastore, [], [], []), (289, 3, .iinc 1 1, [1], [1], []), (292, 3, .goto (-23), [269], [], [])]
def bkX11_init_295 : List gw_E := [(295, 1, .iconst 0, [], [0], []), (296, 1, .istore_n 1, [1], [], [])]
def bkX11_init_297 : List gw_E := [(297, 1, .iload_n 1, [1], [], []), (298, 2, .bipush 9, [], [9], []), (300, 3, .if_icmp .ge 20, [320], [], []), (303, 1, .aload_n 0, [0], [], []), (304, 3, .getfield 7, [11, 0, 1, 6073], [], []), (307, 3, .sipush 828, [], [828], []), (310, 1, .iload_n 1, [1], [], []), (311, 1, .iadd, [], [], []), (312, 1, .iconst (-1), [], [-1], []), (313, 1, .iastore, [], [], []), (314, 3, .iinc 1 1, [1], [1], []), (317, 3, .goto (-20), [297], [], [])]
def bkX11_init_320 : List gw_E := [(320, 1, .aload_n 0, [0], [], []), (321, 3, .getfield 7, [11, 0, 1, 6073], [], []), (324, 1, .aload_n 0, [0], [], []), (325, 3, .getfield 13, [11, 1, 1, 6074], [], []), (328, 3, .invokestatic 25, [2, 0, 6070, 6071, 1013, 0], [], [sgX11_copy]), (331, 1, .return_, [], [], [])]
def bsX11_init : List (Nat × List gw_E) := [(0, bkX11_init_0), (120, bkX11_init_120), (144, bkX11_init_144), (177, bkX11_init_177), (179, bkX11_init_179), (210, bkX11_init_210), (216, bkX11_init_216), (218, bkX11_init_218), (267, bkX11_init_267), (269, bkX11_init_269), (295, bkX11_init_295), (297, bkX11_init_297), (320, bkX11_init_320)]
theorem fdX11_init_0 : gw_find bsX11_init 0 = bkX11_init_0 := rfl
theorem fdX11_init_120 : gw_find bsX11_init 120 = bkX11_init_120 := rfl
theorem fdX11_init_144 : gw_find bsX11_init 144 = bkX11_init_144 := rfl
theorem fdX11_init_177 : gw_find bsX11_init 177 = bkX11_init_177 := rfl
theorem fdX11_init_179 : gw_find bsX11_init 179 = bkX11_init_179 := rfl
theorem fdX11_init_210 : gw_find bsX11_init 210 = bkX11_init_210 := rfl
theorem fdX11_init_216 : gw_find bsX11_init 216 = bkX11_init_216 := rfl
theorem fdX11_init_218 : gw_find bsX11_init 218 = bkX11_init_218 := rfl
theorem fdX11_init_267 : gw_find bsX11_init 267 = bkX11_init_267 := rfl
theorem fdX11_init_269 : gw_find bsX11_init 269 = bkX11_init_269 := rfl
theorem fdX11_init_295 : gw_find bsX11_init 295 = bkX11_init_295 := rfl
theorem fdX11_init_297 : gw_find bsX11_init 297 = bkX11_init_297 := rfl
theorem fdX11_init_320 : gw_find bsX11_init 320 = bkX11_init_320 := rfl
set_option maxRecDepth 40000 in
theorem stX11_init : gw_sta sgX11_init bsX11_init := ⟨by decide +kernel, gw_mem2 (i := 6068) rfl rfl, gw_all (by decide +kernel)⟩
def bkX11_copy_0 : List gw_E := [(0, 1, .iconst 0, [], [0], []), (1, 1, .istore_n 2, [2], [], [])]
def bkX11_copy_2 : List gw_E := [(2, 1, .iload_n 2, [2], [], []), (3, 3, .sipush 20813, [], [20813], []), (6, 3, .if_icmp .ge 15, [21], [], []), (9, 1, .aload_n 1, [1], [], []), (10, 1, .iload_n 2, [2], [], []), (11, 1, .aload_n 0, [0], [], []), (12, 1, .iload_n 2, [2], [], []), (13, 1, .iaload, [], [], []), (14, 1, .iastore, [], [], []), (15, 3, .iinc 2 1, [2], [1], []), (18, 3, .goto (-16), [2], [], [])]
def bkX11_copy_21 : List gw_E := [(21, 1, .return_, [], [], [])]
def bsX11_copy : List (Nat × List gw_E) := [(0, bkX11_copy_0), (2, bkX11_copy_2), (21, bkX11_copy_21)]
theorem fdX11_copy_0 : gw_find bsX11_copy 0 = bkX11_copy_0 := rfl
theorem fdX11_copy_2 : gw_find bsX11_copy 2 = bkX11_copy_2 := rfl
theorem fdX11_copy_21 : gw_find bsX11_copy 21 = bkX11_copy_21 := rfl
set_option maxRecDepth 40000 in
theorem stX11_copy : gw_sta sgX11_copy bsX11_copy := ⟨by decide +kernel, gw_mem2 (i := 6072) rfl rfl, gw_all (by decide +kernel)⟩
def bkX11_isIn_0 : List gw_E := [(0, 1, .iload_n 0, [0], [], []), (1, 1, .iload_n 1, [1], [], []), (2, 3, .if_icmp .lt 12, [14], [], []), (5, 1, .iload_n 0, [0], [], []), (6, 1, .iload_n 2, [2], [], []), (7, 3, .if_icmp .gt 7, [14], [], []), (10, 1, .iconst 1, [], [1], []), (11, 3, .goto 4, [15], [], [])]
def bkX11_isIn_14 : List gw_E := [(14, 1, .iconst 0, [], [0], [])]
def bkX11_isIn_15 : List gw_E := [(15, 1, .ireturn, [1], [], [])]
def bsX11_isIn : List (Nat × List gw_E) := [(0, bkX11_isIn_0), (14, bkX11_isIn_14), (15, bkX11_isIn_15)]
theorem fdX11_isIn_0 : gw_find bsX11_isIn 0 = bkX11_isIn_0 := rfl
theorem fdX11_isIn_14 : gw_find bsX11_isIn 14 = bkX11_isIn_14 := rfl
theorem fdX11_isIn_15 : gw_find bsX11_isIn 15 = bkX11_isIn_15 := rfl
set_option maxRecDepth 40000 in
theorem stX11_isIn : gw_sta sgX11_isIn bsX11_isIn := ⟨by decide +kernel, gw_mem2 (i := 6124) rfl rfl, gw_all (by decide +kernel)⟩
def bkX11_has_0 : List gw_E := [(0, 1, .iload_n 0, [0], [], []), (1, 1, .iload_n 1, [1], [], []), (2, 1, .ishr, [], [], []), (3, 1, .iconst 1, [], [1], []), (4, 1, .iand, [], [], []), (5, 1, .iconst 1, [], [1], []), (6, 3, .if_icmp .ne 7, [13], [], []), (9, 1, .iconst 1, [], [1], []), (10, 3, .goto 4, [14], [], [])]
def bkX11_has_13 : List gw_E := [(13, 1, .iconst 0, [], [0], [])]
def bkX11_has_14 : List gw_E := [(14, 1, .ireturn, [1], [], [])]
def bsX11_has : List (Nat × List gw_E) := [(0, bkX11_has_0), (13, bkX11_has_13), (14, bkX11_has_14)]
theorem fdX11_has_0 : gw_find bsX11_has 0 = bkX11_has_0 := rfl
theorem fdX11_has_13 : gw_find bsX11_has 13 = bkX11_has_13 := rfl
theorem fdX11_has_14 : gw_find bsX11_has 14 = bkX11_has_14 := rfl
set_option maxRecDepth 40000 in
theorem stX11_has : gw_sta sgX11_has bsX11_has := ⟨by decide +kernel, gw_mem2 (i := 6178) rfl rfl, gw_all (by decide +kernel)⟩
def bkX11_many_0 : List gw_E := [(0, 1, .iconst 0, [], [0], []), (1, 1, .istore_n 1, [1], [], []), (2, 1, .iload_n 0, [0], [], []), (3, 1, .istore_n 2, [2], [], [])]
def bkX11_many_4 : List gw_E := [(4, 1, .iload_n 2, [2], [], []), (5, 3, .ifCond .eq 15, [20], [], []), (8, 3, .iinc 1 1, [1], [1], []), (11, 1, .iload_n 2, [2], [], []), (12, 1, .iload_n 2, [2], [], []), (13, 1, .iconst 1, [], [1], []), (14, 1, .isub, [], [], []), (15, 1, .iand, [], [], []), (16, 1, .istore_n 2, [2], [], []), (17, 3, .goto (-13), [4], [], [])]
def bkX11_many_20 : List gw_E := [(20, 1, .iload_n 1, [1], [], []), (21, 1, .ireturn, [0], [], [])]
def bsX11_many : List (Nat × List gw_E) := [(0, bkX11_many_0), (4, bkX11_many_4), (20, bkX11_many_20)]
theorem fdX11_many_0 : gw_find bsX11_many 0 = bkX11_many_0 := rfl
theorem fdX11_many_4 : gw_find bsX11_many 4 = bkX11_many_4 := rfl
theorem fdX11_many_20 : gw_find bsX11_many 20 = bkX11_many_20 := rfl
set_option maxRecDepth 40000 in
theorem stX11_many : gw_sta sgX11_many bsX11_many := ⟨by decide +kernel, gw_mem2 (i := 7173) rfl rfl, gw_all (by decide +kernel)⟩
def bkX11_greatest_0 : List gw_E := [(0, 2, .bipush 15, [], [15], []), (2, 1, .istore_n 1, [1], [], [])]
def bkX11_greatest_3 : List gw_E := [(3, 1, .iload_n 1, [1], [], []), (4, 3, .ifCond .lt 17, [21], [], []), (7, 1, .iload_n 0, [0], [], []), (8, 1, .iload_n 1, [1], [], []), (9, 3, .invokestatic 29, [2, 0, 6176, 6177, 1013, 0], [], [sgX11_has]), (12, 3, .ifCond .ne 9, [21], [], []), (15, 3, .iinc 1 (-1), [1], [-1], []), (18, 3, .goto (-15), [3], [], [])]
def bkX11_greatest_21 : List gw_E := [(21, 1, .iload_n 1, [1], [], []), (22, 1, .ireturn, [0], [], [])]
def bsX11_greatest : List (Nat × List gw_E) := [(0, bkX11_greatest_0), (3, bkX11_greatest_3), (21, bkX11_greatest_21)]
theorem fdX11_greatest_0 : gw_find bsX11_greatest 0 = bkX11_greatest_0 := rfl
theorem fdX11_greatest_3 : gw_find bsX11_greatest 3 = bkX11_greatest_3 := rfl
theorem fdX11_greatest_21 : gw_find bsX11_greatest 21 = bkX11_greatest_21 := rfl
set_option maxRecDepth 40000 in
theorem stX11_greatest : gw_sta sgX11_greatest bsX11_greatest := ⟨by decide +kernel, gw_mem2 (i := 6175) rfl rfl, gw_all (by decide +kernel)⟩
def bkX11_isPage_0 : List gw_E := [(0, 1, .iload_n 0, [0], [], []), (1, 1, .iconst 0, [], [0], []), (2, 2, .bipush 15, [], [15], []), (4, 3, .invokestatic 33, [3, 0, 6122, 6123, 1013, 0], [], [sgX11_isIn]), (7, 1, .ireturn, [1], [], [])]
def bsX11_isPage : List (Nat × List gw_E) := [(0, bkX11_isPage_0)]
theorem fdX11_isPage_0 : gw_find bsX11_isPage 0 = bkX11_isPage_0 := rfl
set_option maxRecDepth 40000 in
theorem stX11_isPage : gw_sta sgX11_isPage bsX11_isPage := ⟨by decide +kernel, gw_mem2 (i := 6121) rfl rfl, gw_all (by decide +kernel)⟩
def bkX11_isGuest_0 : List gw_E := [(0, 1, .iload_n 0, [0], [], []), (1, 1, .iconst 1, [], [1], []), (2, 1, .iconst 2, [], [2], []), (3, 3, .invokestatic 33, [3, 0, 6122, 6123, 1013, 0], [], [sgX11_isIn]), (6, 1, .ireturn, [1], [], [])]
def bsX11_isGuest : List (Nat × List gw_E) := [(0, bkX11_isGuest_0)]
theorem fdX11_isGuest_0 : gw_find bsX11_isGuest 0 = bkX11_isGuest_0 := rfl
set_option maxRecDepth 40000 in
theorem stX11_isGuest : gw_sta sgX11_isGuest bsX11_isGuest := ⟨by decide +kernel, gw_mem2 (i := 7109) rfl rfl, gw_all (by decide +kernel)⟩
def bkX11_guestAt_0 : List gw_E := [(0, 1, .iload_n 1, [1], [], []), (1, 1, .iconst 1, [], [1], []), (2, 3, .if_icmp .ne 8, [10], [], []), (5, 2, .bipush 58, [], [58], []), (7, 3, .goto 19, [26], [], [])]
def bkX11_guestAt_10 : List gw_E := [(10, 2, .bipush 58, [], [58], []), (12, 3, .sipush 162, [], [162], []), (15, 1, .iconst 1, [], [1], []), (16, 1, .aload_n 0, [0], [], []), (17, 3, .getfield 7, [11, 0, 1, 6073], [], []), (20, 2, .bipush 15, [], [15], []), (22, 1, .iaload, [], [], []), (23, 1, .iadd, [], [], []), (24, 1, .imul, [], [], []), (25, 1, .iadd, [], [], [])]
def bkX11_guestAt_26 : List gw_E := [(26, 1, .ireturn, [0], [], [])]
def bsX11_guestAt : List (Nat × List gw_E) := [(0, bkX11_guestAt_0), (10, bkX11_guestAt_10), (26, bkX11_guestAt_26)]
theorem fdX11_guestAt_0 : gw_find bsX11_guestAt 0 = bkX11_guestAt_0 := rfl
theorem fdX11_guestAt_10 : gw_find bsX11_guestAt 10 = bkX11_guestAt_10 := rfl
theorem fdX11_guestAt_26 : gw_find bsX11_guestAt 26 = bkX11_guestAt_26 := rfl
set_option maxRecDepth 40000 in
theorem stX11_guestAt : gw_sta sgX11_guestAt bsX11_guestAt := ⟨by decide +kernel, gw_mem2 (i := 6144) rfl rfl, gw_all (by decide +kernel)⟩
def bkX11_entryAt_0 : List gw_E := [(0, 1, .iload_n 1, [1], [], []), (1, 1, .iconst 3, [], [3], []), (2, 3, .if_icmp .ne 13, [15], [], []), (5, 3, .sipush 754, [], [754], []), (8, 1, .iconst 2, [], [2], []), (9, 1, .iload_n 2, [2], [], []), (10, 1, .imul, [], [], []), (11, 1, .iadd, [], [], []), (12, 3, .goto 35, [47], [], [])]
def bkX11_entryAt_15 : List gw_E := [(15, 1, .iload_n 1, [1], [], []), (16, 1, .iconst 2, [], [2], []), (17, 3, .if_icmp .ne 13, [30], [], []), (20, 3, .sipush 706, [], [706], []), (23, 1, .iconst 2, [], [2], []), (24, 1, .iload_n 2, [2], [], []), (25, 1, .imul, [], [], []), (26, 1, .iadd, [], [], []), (27, 3, .goto 20, [47], [], [])]
def bkX11_entryAt_30 : List gw_E := [(30, 1, .aload_n 0, [0], [], []), (31, 1, .iconst 2, [], [2], []), (32, 3, .invokevirtual 37, [1, 11, 6141, 6143, 27, 1013], [], [sgX11_guestAt]), (35, 2, .bipush 79, [], [79], []), (37, 1, .iadd, [], [], []), (38, 2, .bipush 32, [], [32], []), (40, 1, .iload_n 1, [1], [], []), (41, 1, .imul, [], [], []), (42, 1, .iadd, [], [], []), (43, 1, .iconst 2, [], [2], []), (44, 1, .iload_n 2, [2], [], []), (45, 1, .imul, [], [], []), (46, 1, .iadd, [], [], [])]
def bkX11_entryAt_47 : List gw_E := [(47, 1, .ireturn, [0], [], [])]
def bsX11_entryAt : List (Nat × List gw_E) := [(0, bkX11_entryAt_0), (15, bkX11_entryAt_15), (30, bkX11_entryAt_30), (47, bkX11_entryAt_47)]
theorem fdX11_entryAt_0 : gw_find bsX11_entryAt 0 = bkX11_entryAt_0 := rfl
theorem fdX11_entryAt_15 : gw_find bsX11_entryAt 15 = bkX11_entryAt_15 := rfl
theorem fdX11_entryAt_30 : gw_find bsX11_entryAt 30 = bkX11_entryAt_30 := rfl
theorem fdX11_entryAt_47 : gw_find bsX11_entryAt 47 = bkX11_entryAt_47 := rfl
set_option maxRecDepth 40000 in
theorem stX11_entryAt : gw_sta sgX11_entryAt bsX11_entryAt := ⟨by decide +kernel, gw_mem2 (i := 6140) rfl rfl, gw_all (by decide +kernel)⟩
def bkX11_toOf_0 : List gw_E := [(0, 1, .aload_n 0, [0], [], []), (1, 3, .getfield 7, [11, 0, 1, 6073], [], []), (4, 1, .aload_n 0, [0], [], []), (5, 1, .iload_n 1, [1], [], []), (6, 1, .iload_n 2, [2], [], []), (7, 3, .invokevirtual 41, [2, 11, 6137, 6139, 26, 1013], [], [sgX11_entryAt]), (10, 1, .iaload, [], [], []), (11, 1, .ireturn, [0], [], [])]
def bsX11_toOf : List (Nat × List gw_E) := [(0, bkX11_toOf_0)]
theorem fdX11_toOf_0 : gw_find bsX11_toOf 0 = bkX11_toOf_0 := rfl
set_option maxRecDepth 40000 in
theorem stX11_toOf : gw_sta sgX11_toOf bsX11_toOf := ⟨by decide +kernel, gw_mem2 (i := 6152) rfl rfl, gw_all (by decide +kernel)⟩
def bkX11_isCopied_0 : List gw_E := [(0, 1, .aload_n 0, [0], [], []), (1, 3, .getfield 7, [11, 0, 1, 6073], [], []), (4, 2, .bipush 27, [], [27], []), (6, 1, .iaload, [], [], []), (7, 1, .iload_n 1, [1], [], []), (8, 3, .invokestatic 29, [2, 0, 6176, 6177, 1013, 0], [], [sgX11_has]), (11, 1, .ireturn, [1], [], [])]
def bsX11_isCopied : List (Nat × List gw_E) := [(0, bkX11_isCopied_0)]
theorem fdX11_isCopied_0 : gw_find bsX11_isCopied 0 = bkX11_isCopied_0 := rfl
set_option maxRecDepth 40000 in
theorem stX11_isCopied : gw_sta sgX11_isCopied bsX11_isCopied := ⟨by decide +kernel, gw_mem2 (i := 6222) rfl rfl, gw_all (by decide +kernel)⟩
def bkX11_rightsOf_0 : List gw_E := [(0, 1, .aload_n 0, [0], [], []), (1, 3, .getfield 7, [11, 0, 1, 6073], [], []), (4, 1, .aload_n 0, [0], [], []), (5, 1, .iload_n 1, [1], [], []), (6, 1, .iload_n 2, [2], [], []), (7, 3, .invokevirtual 41, [2, 11, 6137, 6139, 26, 1013], [], [sgX11_entryAt]), (10, 1, .iaload, [], [], []), (11, 1, .iconst (-1), [], [-1], []), (12, 3, .if_icmp .ne 5, [17], [], []), (15, 1, .iconst 0, [], [0], []), (16, 1, .ireturn, [0], [], [])]
def bkX11_rightsOf_17 : List gw_E := [(17, 1, .aload_n 0, [0], [], []), (18, 3, .getfield 7, [11, 0, 1, 6073], [], []), (21, 1, .aload_n 0, [0], [], []), (22, 1, .iload_n 1, [1], [], []), (23, 1, .iload_n 2, [2], [], []), (24, 3, .invokevirtual 41, [2, 11, 6137, 6139, 26, 1013], [], [sgX11_entryAt]), (27, 1, .iconst 1, [], [1], []), (28, 1, .iadd, [], [], []), (29, 1, .iaload, [], [], []), (30, 1, .istore_n 3, [3], [], []), (31, 1, .iload_n 1, [1], [], []), (32, 1, .iconst 2, [], [2], []), (33, 3, .if_icmp .ne 18, [51], [], []), (36, 1, .aload_n 0, [0], [], []), (37, 1, .iload_n 2, [2], [], []), (38, 3, .invokevirtual 45, [1, 11, 6219, 6221, 42, 1013], [], [sgX11_isCopied]), (41, 3, .ifCond .eq 10, [51], [], []), (44, 1, .iload_n 3, [3], [], []), (45, 2, .bipush (-3), [], [-3], []), (47, 1, .iand, [], [], []), (48, 3, .goto 4, [52], [], [])]
def bkX11_rightsOf_51 : List gw_E := [(51, 1, .iload_n 3, [3], [], [])]
def bkX11_rightsOf_52 : List gw_E := [(52, 1, .ireturn, [0], [], [])]
def bsX11_rightsOf : List (Nat × List gw_E) := [(0, bkX11_rightsOf_0), (17, bkX11_rightsOf_17), (51, bkX11_rightsOf_51), (52, bkX11_rightsOf_52)]
theorem fdX11_rightsOf_0 : gw_find bsX11_rightsOf 0 = bkX11_rightsOf_0 := rfl
theorem fdX11_rightsOf_17 : gw_find bsX11_rightsOf 17 = bkX11_rightsOf_17 := rfl
theorem fdX11_rightsOf_51 : gw_find bsX11_rightsOf 51 = bkX11_rightsOf_51 := rfl
theorem fdX11_rightsOf_52 : gw_find bsX11_rightsOf 52 = bkX11_rightsOf_52 := rfl
set_option maxRecDepth 40000 in
theorem stX11_rightsOf : gw_sta sgX11_rightsOf bsX11_rightsOf := ⟨by decide +kernel, gw_mem2 (i := 6218) rfl rfl, gw_all (by decide +kernel)⟩
def bkX11_gives_0 : List gw_E := [(0, 1, .aload_n 0, [0], [], []), (1, 1, .iload_n 1, [1], [], []), (2, 1, .iload_n 2, [2], [], []), (3, 3, .invokevirtual 49, [2, 11, 6215, 6217, 41, 1013], [], [sgX11_rightsOf]), (6, 1, .iload_n 3, [3], [], []), (7, 3, .invokestatic 29, [2, 0, 6176, 6177, 1013, 0], [], [sgX11_has]), (10, 1, .ireturn, [1], [], [])]
def bsX11_gives : List (Nat × List gw_E) := [(0, bkX11_gives_0)]
theorem fdX11_gives_0 : gw_find bsX11_gives 0 = bkX11_gives_0 := rfl
set_option maxRecDepth 40000 in
theorem stX11_gives : gw_sta sgX11_gives bsX11_gives := ⟨by decide +kernel, gw_mem2 (i := 7058) rfl rfl, gw_all (by decide +kernel)⟩
def bkX11_comeLast_0 : List gw_E := [(0, 1, .aload_n 0, [0], [], []), (1, 3, .getfield 7, [11, 0, 1, 6073], [], []), (4, 1, .iload_n 1, [1], [], []), (5, 1, .aload_n 0, [0], [], []), (6, 3, .getfield 7, [11, 0, 1, 6073], [], []), (9, 1, .iload_n 2, [2], [], []), (10, 1, .iaload, [], [], []), (11, 1, .iadd, [], [], []), (12, 1, .iload_n 3, [3], [], []), (13, 1, .iastore, [], [], []), (14, 1, .aload_n 0, [0], [], []), (15, 3, .getfield 7, [11, 0, 1, 6073], [], []), (18, 1, .iload_n 2, [2], [], []), (19, 1, .dup2, [], [], []), (20, 1, .iaload, [], [], []), (21, 1, .iconst 1, [], [1], []), (22, 1, .iadd, [], [], []), (23, 1, .iastore, [], [], []), (24, 1, .return_, [], [], [])]
def bsX11_comeLast : List (Nat × List gw_E) := [(0, bkX11_comeLast_0)]
theorem fdX11_comeLast_0 : gw_find bsX11_comeLast 0 = bkX11_comeLast_0 := rfl
set_option maxRecDepth 40000 in
theorem stX11_comeLast : gw_sta sgX11_comeLast bsX11_comeLast := ⟨by decide +kernel, gw_mem2 (i := 6164) rfl rfl, gw_all (by decide +kernel)⟩
def bkX11_goOut_0 : List gw_E := [(0, 1, .iconst 0, [], [0], []), (1, 2, .istore 4, [4], [], []), (3, 1, .iconst 0, [], [0], []), (4, 2, .istore 5, [5], [], [])]
def bkX11_goOut_6 : List gw_E := [(6, 2, .iload 5, [5], [], []), (8, 1, .aload_n 0, [0], [], []), (9, 3, .getfield 7, [11, 0, 1, 6073], [], []), (12, 1, .iload_n 2, [2], [], []), (13, 1, .iaload, [], [], []), (14, 3, .if_icmp .ge 46, [60], [], []), (17, 1, .aload_n 0, [0], [], []), (18, 3, .getfield 7, [11, 0, 1, 6073], [], []), (21, 1, .iload_n 1, [1], [], []), (22, 2, .iload 5, [5], [], []), (24, 1, .iadd, [], [], []), (25, 1, .iaload, [], [], []), (26, 1, .iload_n 3, [3], [], []), (27, 3, .if_icmp .ne 6, [33], [], []), (30, 3, .goto 24, [54], [], [])]
def bkX11_goOut_33 : List gw_E := [(33, 1, .aload_n 0, [0], [], []), (34, 3, .getfield 7, [11, 0, 1, 6073], [], []), (37, 1, .iload_n 1, [1], [], []), (38, 2, .iload 4, [4], [], []), (40, 1, .iadd, [], [], []), (41, 1, .aload_n 0, [0], [], []), (42, 3, .getfield 7, [11, 0, 1, 6073], [], []), (45, 1, .iload_n 1, [1], [], []), (46, 2, .iload 5, [5], [], []), (48, 1, .iadd, [], [], []), (49, 1, .iaload, [], [], []), (50, 1, .iastore, [], [], []), (51, 3, .iinc 4 1, [4], [1], [])]
def bkX11_goOut_54 : List gw_E := [(54, 3, .iinc 5 1, [5], [1], []), (57, 3, .goto (-51), [6], [], [])]
def bkX11_goOut_60 : List gw_E := [(60, 2, .iload 4, [4], [], []), (62, 2, .istore 5, [5], [], [])]
def bkX11_goOut_64 : List gw_E := [(64, 2, .iload 5, [5], [], []), (66, 1, .aload_n 0, [0], [], []), (67, 3, .getfield 7, [11, 0, 1, 6073], [], []), (70, 1, .iload_n 2, [2], [], []), (71, 1, .iaload, [], [], []), (72, 3, .if_icmp .ge 19, [91], [], []), (75, 1, .aload_n 0, [0], [], []), (76, 3, .getfield 7, [11, 0, 1, 6073], [], []), (79, 1, .iload_n 1, [1], [], []), (80, 2, .iload 5, [5], [], []), (82, 1, .iadd, [], [], []), (83, 1, .iconst 0, [], [0], []), (84, 1, .iastore, [], [], []), (85, 3, .iinc 5 1, [5], [1], []), (88, 3, .goto (-24), [64], [], [])]
def bkX11_goOut_91 : List gw_E := [(91, 1, .aload_n 0, [0], [], []), (92, 3, .getfield 7, [11, 0, 1, 6073], [], []), (95, 1, .iload_n 2, [2], [], []), (96, 2, .iload 4, [4], [], []), (98, 1, .iastore, [], [], []), (99, 1, .return_, [], [], [])]
def bsX11_goOut : List (Nat × List gw_E) := [(0, bkX11_goOut_0), (6, bkX11_goOut_6), (33, bkX11_goOut_33), (54, bkX11_goOut_54), (60, bkX11_goOut_60), (64, bkX11_goOut_64), (91, bkX11_goOut_91)]
theorem fdX11_goOut_0 : gw_find bsX11_goOut 0 = bkX11_goOut_0 := rfl
theorem fdX11_goOut_6 : gw_find bsX11_goOut 6 = bkX11_goOut_6 := rfl
theorem fdX11_goOut_33 : gw_find bsX11_goOut 33 = bkX11_goOut_33 := rfl
theorem fdX11_goOut_54 : gw_find bsX11_goOut 54 = bkX11_goOut_54 := rfl
theorem fdX11_goOut_60 : gw_find bsX11_goOut 60 = bkX11_goOut_60 := rfl
theorem fdX11_goOut_64 : gw_find bsX11_goOut 64 = bkX11_goOut_64 := rfl
theorem fdX11_goOut_91 : gw_find bsX11_goOut 91 = bkX11_goOut_91 := rfl
set_option maxRecDepth 40000 in
theorem stX11_goOut : gw_sta sgX11_goOut bsX11_goOut := ⟨by decide +kernel, gw_mem2 (i := 6156) rfl rfl, gw_all (by decide +kernel)⟩
def bkX11_unfold_0 : List gw_E := [(0, 1, .aload_n 0, [0], [], []), (1, 1, .iconst 3, [], [3], []), (2, 1, .iload_n 1, [1], [], []), (3, 3, .invokevirtual 52, [2, 11, 6149, 6151, 29, 1013], [], [sgX11_toOf]), (6, 1, .iconst (-1), [], [-1], []), (7, 3, .if_icmp .ne 4, [11], [], []), (10, 1, .return_, [], [], [])]
def bkX11_unfold_11 : List gw_E := [(11, 1, .aload_n 0, [0], [], []), (12, 3, .getfield 7, [11, 0, 1, 6073], [], []), (15, 1, .aload_n 0, [0], [], []), (16, 1, .iconst 3, [], [3], []), (17, 1, .iload_n 1, [1], [], []), (18, 3, .invokevirtual 41, [2, 11, 6137, 6139, 26, 1013], [], [sgX11_entryAt]), (21, 1, .iconst (-1), [], [-1], []), (22, 1, .iastore, [], [], []), (23, 1, .aload_n 0, [0], [], []), (24, 3, .getfield 7, [11, 0, 1, 6073], [], []), (27, 1, .aload_n 0, [0], [], []), (28, 1, .iconst 3, [], [3], []), (29, 1, .iload_n 1, [1], [], []), (30, 3, .invokevirtual 41, [2, 11, 6137, 6139, 26, 1013], [], [sgX11_entryAt]), (33, 1, .iconst 1, [], [1], []), (34, 1, .iadd, [], [], []), (35, 1, .iconst 0, [], [0], []), (36, 1, .iastore, [], [], []), (37, 1, .aload_n 0, [0], [], []), (38, 3, .sipush 786, [], [786], []), (41, 2, .bipush 23, [], [23], []), (43, 1, .iload_n 1, [1], [], []), (44, 3, .invokevirtual 55, [3, 11, 6153, 6155, 30, 1013], [], [sgX11_goOut]), (47, 1, .return_, [], [], [])]
def bsX11_unfold : List (Nat × List gw_E) := [(0, bkX11_unfold_0), (11, bkX11_unfold_11)]
theorem fdX11_unfold_0 : gw_find bsX11_unfold 0 = bkX11_unfold_0 := rfl
theorem fdX11_unfold_11 : gw_find bsX11_unfold 11 = bkX11_unfold_11 := rfl
set_option maxRecDepth 40000 in
theorem stX11_unfold : gw_sta sgX11_unfold bsX11_unfold := ⟨by decide +kernel, gw_mem2 (i := 6148) rfl rfl, gw_all (by decide +kernel)⟩
def bkX11_unfoldAll_0 : List gw_E := [(0, 1, .iconst 0, [], [0], []), (1, 1, .istore_n 1, [1], [], [])]
def bkX11_unfoldAll_2 : List gw_E := [(2, 1, .iload_n 1, [1], [], []), (3, 2, .bipush 16, [], [16], []), (5, 3, .if_icmp .ge 14, [19], [], []), (8, 1, .aload_n 0, [0], [], []), (9, 1, .iload_n 1, [1], [], []), (10, 3, .invokevirtual 59, [1, 11, 6145, 6147, 28, 1013], [], [sgX11_unfold]), (13, 3, .iinc 1 1, [1], [1], []), (16, 3, .goto (-14), [2], [], [])]
def bkX11_unfoldAll_19 : List gw_E := [(19, 1, .return_, [], [], [])]
def bsX11_unfoldAll : List (Nat × List gw_E) := [(0, bkX11_unfoldAll_0), (2, bkX11_unfoldAll_2), (19, bkX11_unfoldAll_19)]
theorem fdX11_unfoldAll_0 : gw_find bsX11_unfoldAll 0 = bkX11_unfoldAll_0 := rfl
theorem fdX11_unfoldAll_2 : gw_find bsX11_unfoldAll 2 = bkX11_unfoldAll_2 := rfl
theorem fdX11_unfoldAll_19 : gw_find bsX11_unfoldAll 19 = bkX11_unfoldAll_19 := rfl
set_option maxRecDepth 40000 in
theorem stX11_unfoldAll : gw_sta sgX11_unfoldAll bsX11_unfoldAll := ⟨by decide +kernel, gw_mem2 (i := 7137) rfl rfl, gw_all (by decide +kernel)⟩
def bkX11_unfoldTo_0 : List gw_E := [(0, 1, .iconst 0, [], [0], []), (1, 1, .istore_n 2, [2], [], [])]
def bkX11_unfoldTo_2 : List gw_E := [(2, 1, .iload_n 2, [2], [], []), (3, 2, .bipush 16, [], [16], []), (5, 3, .if_icmp .ge 24, [29], [], []), (8, 1, .aload_n 0, [0], [], []), (9, 1, .iconst 1, [], [1], []), (10, 1, .iload_n 2, [2], [], []), (11, 3, .invokevirtual 52, [2, 11, 6149, 6151, 29, 1013], [], [sgX11_toOf]), (14, 1, .iload_n 1, [1], [], []), (15, 3, .if_icmp .ne 8, [23], [], []), (18, 1, .aload_n 0, [0], [], []), (19, 1, .iload_n 2, [2], [], []), (20, 3, .invokevirtual 59, [1, 11, 6145, 6147, 28, 1013], [], [sgX11_unfold])]
def bkX11_unfoldTo_23 : List gw_E := [(23, 3, .iinc 2 1, [2], [1], []), (26, 3, .goto (-24), [2], [], [])]
def bkX11_unfoldTo_29 : List gw_E := [(29, 1, .return_, [], [], [])]
def bsX11_unfoldTo : List (Nat × List gw_E) := [(0, bkX11_unfoldTo_0), (2, bkX11_unfoldTo_2), (23, bkX11_unfoldTo_23), (29, bkX11_unfoldTo_29)]
theorem fdX11_unfoldTo_0 : gw_find bsX11_unfoldTo 0 = bkX11_unfoldTo_0 := rfl
theorem fdX11_unfoldTo_2 : gw_find bsX11_unfoldTo 2 = bkX11_unfoldTo_2 := rfl
theorem fdX11_unfoldTo_23 : gw_find bsX11_unfoldTo 23 = bkX11_unfoldTo_23 := rfl
theorem fdX11_unfoldTo_29 : gw_find bsX11_unfoldTo 29 = bkX11_unfoldTo_29 := rfl
set_option maxRecDepth 40000 in
theorem stX11_unfoldTo : gw_sta sgX11_unfoldTo bsX11_unfoldTo := ⟨by decide +kernel, gw_mem2 (i := 6160) rfl rfl, gw_all (by decide +kernel)⟩
def bkX11_layEntry_0 : List gw_E := [(0, 1, .aload_n 0, [0], [], []), (1, 3, .getfield 7, [11, 0, 1, 6073], [], []), (4, 1, .aload_n 0, [0], [], []), (5, 1, .iload_n 1, [1], [], []), (6, 1, .iload_n 2, [2], [], []), (7, 3, .invokevirtual 41, [2, 11, 6137, 6139, 26, 1013], [], [sgX11_entryAt]), (10, 1, .iload_n 3, [3], [], []), (11, 1, .iastore, [], [], []), (12, 1, .aload_n 0, [0], [], []), (13, 3, .getfield 7, [11, 0, 1, 6073], [], []), (16, 1, .aload_n 0, [0], [], []), (17, 1, .iload_n 1, [1], [], []), (18, 1, .iload_n 2, [2], [], []), (19, 3, .invokevirtual 41, [2, 11, 6137, 6139, 26, 1013], [], [sgX11_entryAt]), (22, 1, .iconst 1, [], [1], []), (23, 1, .iadd, [], [], []), (24, 1, .iload_n 3, [3], [], []), (25, 1, .iconst (-1), [], [-1], []), (26, 3, .if_icmp .ne 7, [33], [], []), (29, 1, .iconst 0, [], [0], []), (30, 3, .goto 5, [35], [], [])]
def bkX11_layEntry_33 : List gw_E := [(33, 2, .iload 4, [4], [], [])]
def bkX11_layEntry_35 : List gw_E := [(35, 1, .iastore, [], [], []), (36, 1, .iload_n 1, [1], [], []), (37, 1, .iconst 1, [], [1], []), (38, 3, .if_icmp .ne 8, [46], [], []), (41, 1, .aload_n 0, [0], [], []), (42, 1, .iload_n 2, [2], [], []), (43, 3, .invokevirtual 59, [1, 11, 6145, 6147, 28, 1013], [], [sgX11_unfold])]
def bkX11_layEntry_46 : List gw_E := [(46, 1, .iload_n 1, [1], [], []), (47, 1, .iconst 2, [], [2], []), (48, 3, .if_icmp .eq 4, [52], [], []), (51, 1, .return_, [], [], [])]
def bkX11_layEntry_52 : List gw_E := [(52, 1, .aload_n 0, [0], [], []), (53, 1, .iload_n 2, [2], [], []), (54, 3, .invokevirtual 63, [1, 11, 6157, 6159, 31, 1013], [], [sgX11_unfoldTo]), (57, 1, .aload_n 0, [0], [], []), (58, 3, .getfield 7, [11, 0, 1, 6073], [], []), (61, 2, .bipush 27, [], [27], []), (63, 1, .dup2, [], [], []), (64, 1, .iaload, [], [], []), (65, 1, .iconst 1, [], [1], []), (66, 1, .iload_n 2, [2], [], []), (67, 1, .ishl, [], [], []), (68, 1, .iconst (-1), [], [-1], []), (69, 1, .ixor, [], [], []), (70, 1, .iand, [], [], []), (71, 1, .iastore, [], [], []), (72, 1, .aload_n 0, [0], [], []), (73, 3, .sipush 738, [], [738], []), (76, 2, .bipush 22, [], [22], []), (78, 1, .iload_n 2, [2], [], []), (79, 3, .invokevirtual 55, [3, 11, 6153, 6155, 30, 1013], [], [sgX11_goOut]), (82, 1, .iload_n 3, [3], [], []), (83, 1, .iconst (-1), [], [-1], []), (84, 3, .if_icmp .eq 13, [97], [], []), (87, 1, .aload_n 0, [0], [], []), (88, 3, .sipush 738, [], [738], []), (91, 2, .bipush 22, [], [22], []), (93, 1, .iload_n 2, [2], [], []), (94, 3, .invokevirtual 66, [3, 11, 6161, 6163, 32, 1013], [], [sgX11_comeLast])]
def bkX11_layEntry_97 : List gw_E := [(97, 1, .return_, [], [], [])]
def bsX11_layEntry : List (Nat × List gw_E) := [(0, bkX11_layEntry_0), (33, bkX11_layEntry_33), (35, bkX11_layEntry_35), (46, bkX11_layEntry_46), (52, bkX11_layEntry_52), (97, bkX11_layEntry_97)]
theorem fdX11_layEntry_0 : gw_find bsX11_layEntry 0 = bkX11_layEntry_0 := rfl
theorem fdX11_layEntry_33 : gw_find bsX11_layEntry 33 = bkX11_layEntry_33 := rfl
theorem fdX11_layEntry_35 : gw_find bsX11_layEntry 35 = bkX11_layEntry_35 := rfl
theorem fdX11_layEntry_46 : gw_find bsX11_layEntry 46 = bkX11_layEntry_46 := rfl
theorem fdX11_layEntry_52 : gw_find bsX11_layEntry 52 = bkX11_layEntry_52 := rfl
theorem fdX11_layEntry_97 : gw_find bsX11_layEntry 97 = bkX11_layEntry_97 := rfl
set_option maxRecDepth 40000 in
theorem stX11_layEntry : gw_sta sgX11_layEntry bsX11_layEntry := ⟨by decide +kernel, gw_mem2 (i := 6136) rfl rfl, gw_all (by decide +kernel)⟩
def bkX11_freeFrame_0 : List gw_E := [(0, 1, .iconst 0, [], [0], []), (1, 1, .istore_n 1, [1], [], [])]
def bkX11_freeFrame_2 : List gw_E := [(2, 1, .iload_n 1, [1], [], []), (3, 2, .bipush 10, [], [10], []), (5, 3, .if_icmp .ge 51, [56], [], []), (8, 1, .iconst 1, [], [1], []), (9, 1, .istore_n 2, [2], [], []), (10, 1, .iconst 0, [], [0], []), (11, 1, .istore_n 3, [3], [], [])]
def bkX11_freeFrame_12 : List gw_E := [(12, 1, .iload_n 3, [3], [], []), (13, 2, .bipush 16, [], [16], []), (15, 3, .if_icmp .ge 29, [44], [], []), (18, 1, .iload_n 2, [2], [], []), (19, 3, .ifCond .eq 17, [36], [], []), (22, 1, .aload_n 0, [0], [], []), (23, 1, .iconst 2, [], [2], []), (24, 1, .iload_n 3, [3], [], []), (25, 3, .invokevirtual 52, [2, 11, 6149, 6151, 29, 1013], [], [sgX11_toOf]), (28, 1, .iload_n 1, [1], [], []), (29, 3, .if_icmp .eq 7, [36], [], []), (32, 1, .iconst 1, [], [1], []), (33, 3, .goto 4, [37], [], [])]
def bkX11_freeFrame_36 : List gw_E := [(36, 1, .iconst 0, [], [0], [])]
def bkX11_freeFrame_37 : List gw_E := [(37, 1, .istore_n 2, [2], [], []), (38, 3, .iinc 3 1, [3], [1], []), (41, 3, .goto (-29), [12], [], [])]
def bkX11_freeFrame_44 : List gw_E := [(44, 1, .iload_n 2, [2], [], []), (45, 3, .ifCond .eq 5, [50], [], []), (48, 1, .iload_n 1, [1], [], []), (49, 1, .ireturn, [0], [], [])]
def bkX11_freeFrame_50 : List gw_E := [(50, 3, .iinc 1 1, [1], [1], []), (53, 3, .goto (-51), [2], [], [])]
def bkX11_freeFrame_56 : List gw_E := [(56, 1, .iconst (-1), [], [-1], []), (57, 1, .ireturn, [0], [], [])]
def bsX11_freeFrame : List (Nat × List gw_E) := [(0, bkX11_freeFrame_0), (2, bkX11_freeFrame_2), (12, bkX11_freeFrame_12), (36, bkX11_freeFrame_36), (37, bkX11_freeFrame_37), (44, bkX11_freeFrame_44), (50, bkX11_freeFrame_50), (56, bkX11_freeFrame_56)]
theorem fdX11_freeFrame_0 : gw_find bsX11_freeFrame 0 = bkX11_freeFrame_0 := rfl
theorem fdX11_freeFrame_2 : gw_find bsX11_freeFrame 2 = bkX11_freeFrame_2 := rfl
theorem fdX11_freeFrame_12 : gw_find bsX11_freeFrame 12 = bkX11_freeFrame_12 := rfl
theorem fdX11_freeFrame_36 : gw_find bsX11_freeFrame 36 = bkX11_freeFrame_36 := rfl
theorem fdX11_freeFrame_37 : gw_find bsX11_freeFrame 37 = bkX11_freeFrame_37 := rfl
theorem fdX11_freeFrame_44 : gw_find bsX11_freeFrame 44 = bkX11_freeFrame_44 := rfl
theorem fdX11_freeFrame_50 : gw_find bsX11_freeFrame 50 = bkX11_freeFrame_50 := rfl
theorem fdX11_freeFrame_56 : gw_find bsX11_freeFrame 56 = bkX11_freeFrame_56 := rfl
set_option maxRecDepth 40000 in
theorem stX11_freeFrame : gw_sta sgX11_freeFrame bsX11_freeFrame := ⟨by decide +kernel, gw_mem2 (i := 7042) rfl rfl, gw_all (by decide +kernel)⟩
