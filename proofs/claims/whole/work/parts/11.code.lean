def bkJ6_bitCount_0f7a4_0 : List gw_E := [(0, 1, .iload_n 0, [0], [], []), (1, 1, .iload_n 0, [0], [], []), (2, 1, .iconst 1, [], [1], []), (3, 1, .iushr, [], [], []), (4, 3, .ldc_w 265, [4121], [1431655765], []), (7, 1, .iand, [], [], []), (8, 1, .isub, [], [], []), (9, 1, .istore_n 0, [0], [], []), (10, 1, .iload_n 0, [0], [], []), (11, 3, .ldc_w 266, [4122], [858993459], []), (14, 1, .iand, [], [], []), (15, 1, .iload_n 0, [0], [], []), (16, 1, .iconst 2, [], [2], []), (17, 1, .iushr, [], [], []), (18, 3, .ldc_w 266, [4122], [858993459], []), (21, 1, .iand, [], [], []), (22, 1, .iadd, [], [], []), (23, 1, .istore_n 0, [0], [], []), (24, 1, .iload_n 0, [0], [], []), (25, 1, .iload_n 0, [0], [], []), (26, 1, .iconst 4, [], [4], []), (27, 1, .iushr, [], [], []), (28, 1, .iadd, [], [], []), (29, 3, .ldc_w 267, [4123], [252645135], []), (32, 1, .iand, [], [], []), (33, 1, .istore_n 0, [0], [], []), (34, 1, .iload_n 0, [0], [], []), (35, 1, .iload_n 0, [0], [], []), (36, 2, .bipush 8, [], [8], []), (38, 1, .iushr, [], [], []), (39, 1, .iadd, [], [], []), (40, 1, .istore_n 0, [0], [], []), (41, 1, .iload_n 0, [0], [], []), (42, 1, .iload_n 0, [0], [], []), (43, 2, .bipush 16, [], [16], []), (45, 1, .iushr, [], [], []), (46, 1, .iadd, [], [], []), (47, 1, .istore_n 0, [0], [], []), (48, 1, .iload_n 0, [0], [], []), (49, 2, .bipush 63, [], [63], []), (51, 1, .iand, [], [], []), (52, 1, .ireturn, [0], [], [])]
def bsJ6_bitCount_0f7a4 : List (Nat × List gw_E) := [(0, bkJ6_bitCount_0f7a4_0)]
theorem fdJ6_bitCount_0f7a4_0 : gw_find bsJ6_bitCount_0f7a4 0 = bkJ6_bitCount_0f7a4_0 := rfl
set_option maxRecDepth 40000 in
theorem stJ6_bitCount_0f7a4 : gw_sta sgJ6_bitCount_0f7a4 bsJ6_bitCount_0f7a4 := ⟨by decide +kernel, gw_mem2 (i := 4120) rfl rfl, gw_all (by decide +kernel)⟩
def bkJ9_floorDiv_7cf53_0 : List gw_E := [(0, 1, .iload_n 0, [0], [], []), (1, 1, .iload_n 1, [1], [], []), (2, 1, .idiv, [], [], []), (3, 1, .istore_n 2, [2], [], []), (4, 1, .iload_n 0, [0], [], []), (5, 1, .iload_n 1, [1], [], []), (6, 1, .ixor, [], [], []), (7, 3, .ifCond .ge 14, [21], [], []), (10, 1, .iload_n 2, [2], [], []), (11, 1, .iload_n 1, [1], [], []), (12, 1, .imul, [], [], []), (13, 1, .iload_n 0, [0], [], []), (14, 3, .if_icmp .eq 7, [21], [], []), (17, 1, .iload_n 2, [2], [], []), (18, 1, .iconst 1, [], [1], []), (19, 1, .isub, [], [], []), (20, 1, .ireturn, [0], [], [])]
def bkJ9_floorDiv_7cf53_21 : List gw_E := [(21, 1, .iload_n 2, [2], [], []), (22, 1, .ireturn, [0], [], [])]
def bsJ9_floorDiv_7cf53 : List (Nat × List gw_E) := [(0, bkJ9_floorDiv_7cf53_0), (21, bkJ9_floorDiv_7cf53_21)]
theorem fdJ9_floorDiv_7cf53_0 : gw_find bsJ9_floorDiv_7cf53 0 = bkJ9_floorDiv_7cf53_0 := rfl
theorem fdJ9_floorDiv_7cf53_21 : gw_find bsJ9_floorDiv_7cf53 21 = bkJ9_floorDiv_7cf53_21 := rfl
set_option maxRecDepth 40000 in
theorem stJ9_floorDiv_7cf53 : gw_sta sgJ9_floorDiv_7cf53 bsJ9_floorDiv_7cf53 := ⟨by decide +kernel, gw_mem2 (i := 4151) rfl rfl, gw_all (by decide +kernel)⟩
def bkJ9_max_7cf53_0 : List gw_E := [(0, 1, .iload_n 0, [0], [], []), (1, 1, .iload_n 1, [1], [], []), (2, 3, .if_icmp .lt 7, [9], [], []), (5, 1, .iload_n 0, [0], [], []), (6, 3, .goto 4, [10], [], [])]
def bkJ9_max_7cf53_9 : List gw_E := [(9, 1, .iload_n 1, [1], [], [])]
def bkJ9_max_7cf53_10 : List gw_E := [(10, 1, .ireturn, [0], [], [])]
def bsJ9_max_7cf53 : List (Nat × List gw_E) := [(0, bkJ9_max_7cf53_0), (9, bkJ9_max_7cf53_9), (10, bkJ9_max_7cf53_10)]
theorem fdJ9_max_7cf53_0 : gw_find bsJ9_max_7cf53 0 = bkJ9_max_7cf53_0 := rfl
theorem fdJ9_max_7cf53_9 : gw_find bsJ9_max_7cf53 9 = bkJ9_max_7cf53_9 := rfl
theorem fdJ9_max_7cf53_10 : gw_find bsJ9_max_7cf53 10 = bkJ9_max_7cf53_10 := rfl
set_option maxRecDepth 40000 in
theorem stJ9_max_7cf53 : gw_sta sgJ9_max_7cf53 bsJ9_max_7cf53 := ⟨by decide +kernel, gw_mem2 (i := 3079) rfl rfl, gw_all (by decide +kernel)⟩
def bkJ9_min_7cf53_0 : List gw_E := [(0, 1, .iload_n 0, [0], [], []), (1, 1, .iload_n 1, [1], [], []), (2, 3, .if_icmp .gt 7, [9], [], []), (5, 1, .iload_n 0, [0], [], []), (6, 3, .goto 4, [10], [], [])]
def bkJ9_min_7cf53_9 : List gw_E := [(9, 1, .iload_n 1, [1], [], [])]
def bkJ9_min_7cf53_10 : List gw_E := [(10, 1, .ireturn, [0], [], [])]
def bsJ9_min_7cf53 : List (Nat × List gw_E) := [(0, bkJ9_min_7cf53_0), (9, bkJ9_min_7cf53_9), (10, bkJ9_min_7cf53_10)]
theorem fdJ9_min_7cf53_0 : gw_find bsJ9_min_7cf53 0 = bkJ9_min_7cf53_0 := rfl
theorem fdJ9_min_7cf53_9 : gw_find bsJ9_min_7cf53 9 = bkJ9_min_7cf53_9 := rfl
theorem fdJ9_min_7cf53_10 : gw_find bsJ9_min_7cf53 10 = bkJ9_min_7cf53_10 := rfl
set_option maxRecDepth 40000 in
theorem stJ9_min_7cf53 : gw_sta sgJ9_min_7cf53 bsJ9_min_7cf53 := ⟨by decide +kernel, gw_mem2 (i := 5072) rfl rfl, gw_all (by decide +kernel)⟩
def bkJ7_fill_53178_0 : List gw_E := [(0, 1, .iconst 0, [], [0], []), (1, 1, .istore_n 2, [2], [], []), (2, 1, .aload_n 0, [0], [], []), (3, 1, .arraylength, [], [], []), (4, 1, .istore_n 3, [3], [], [])]
def bkJ7_fill_53178_5 : List gw_E := [(5, 1, .iload_n 2, [2], [], []), (6, 1, .iload_n 3, [3], [], []), (7, 3, .if_icmp .ge 13, [20], [], []), (10, 1, .aload_n 0, [0], [], []), (11, 1, .iload_n 2, [2], [], []), (12, 1, .iload_n 1, [1], [], []), (13, 1, .iastore, [], [], []), (14, 3, .iinc 2 1, [2], [1], []), (17, 3, .goto (-12), [5], [], [])]
def bkJ7_fill_53178_20 : List gw_E := [(20, 1, .return_, [], [], [])]
def bsJ7_fill_53178 : List (Nat × List gw_E) := [(0, bkJ7_fill_53178_0), (5, bkJ7_fill_53178_5), (20, bkJ7_fill_53178_20)]
theorem fdJ7_fill_53178_0 : gw_find bsJ7_fill_53178 0 = bkJ7_fill_53178_0 := rfl
theorem fdJ7_fill_53178_5 : gw_find bsJ7_fill_53178 5 = bkJ7_fill_53178_5 := rfl
theorem fdJ7_fill_53178_20 : gw_find bsJ7_fill_53178 20 = bkJ7_fill_53178_20 := rfl
set_option maxRecDepth 40000 in
theorem stJ7_fill_53178 : gw_sta sgJ7_fill_53178 bsJ7_fill_53178 := ⟨by decide +kernel, gw_mem2 (i := 1047) rfl rfl, gw_all (by decide +kernel)⟩
def bkX8_init_0 : List gw_E := [(0, 1, .aload_n 0, [0], [], []), (1, 3, .invokespecial 3, [0, 2, 1044, 1025, 1026, 0], [], []), (4, 1, .aload_n 0, [0], [], []), (5, 2, .bipush 16, [], [16], []), (7, 2, .newarray .int, [], [], []), (9, 3, .putfield 9, [8, 0, 1, 1048], [], []), (12, 1, .aload_n 0, [0], [], []), (13, 2, .bipush 16, [], [16], []), (15, 2, .newarray .int, [], [], []), (17, 3, .putfield 15, [8, 1, 1, 1053], [], []), (20, 1, .aload_n 0, [0], [], []), (21, 2, .bipush 16, [], [16], []), (23, 2, .newarray .int, [], [], []), (25, 3, .putfield 18, [8, 2, 1, 1057], [], []), (28, 1, .aload_n 0, [0], [], []), (29, 3, .getfield 9, [8, 0, 1, 1048], [], []), (32, 1, .iconst (-1), [], [-1], []), (33, 3, .invokestatic 21, [2, 0, 1045, 1046, 1005, 0], [], [sgJ7_fill_53178]), (36, 1, .return_, [], [], [])]
def bsX8_init : List (Nat × List gw_E) := [(0, bkX8_init_0)]
theorem fdX8_init_0 : gw_find bsX8_init 0 = bkX8_init_0 := rfl
set_option maxRecDepth 40000 in
theorem stX8_init : gw_sta sgX8_init bsX8_init := ⟨by decide +kernel, gw_mem2 (i := 1043) rfl rfl, gw_all (by decide +kernel)⟩
def bkX8_copyFrom_0 : List gw_E := [(0, 1, .aload_n 1, [1], [], []), (1, 3, .getfield 9, [8, 0, 1, 1048], [], []), (4, 1, .iconst 0, [], [0], []), (5, 1, .aload_n 0, [0], [], []), (6, 3, .getfield 9, [8, 0, 1, 1048], [], []), (9, 1, .iconst 0, [], [0], []), (10, 2, .bipush 16, [], [16], []), (12, 3, .invokestatic 27, [5, 2, 2222, 2224, 2223, 1014], [], []), (15, 1, .aload_n 1, [1], [], []), (16, 3, .getfield 15, [8, 1, 1, 1053], [], []), (19, 1, .iconst 0, [], [0], []), (20, 1, .aload_n 0, [0], [], []), (21, 3, .getfield 15, [8, 1, 1, 1053], [], []), (24, 1, .iconst 0, [], [0], []), (25, 2, .bipush 16, [], [16], []), (27, 3, .invokestatic 27, [5, 2, 2222, 2224, 2223, 1014], [], []), (30, 1, .aload_n 1, [1], [], []), (31, 3, .getfield 18, [8, 2, 1, 1057], [], []), (34, 1, .iconst 0, [], [0], []), (35, 1, .aload_n 0, [0], [], []), (36, 3, .getfield 18, [8, 2, 1, 1057], [], []), (39, 1, .iconst 0, [], [0], []), (40, 2, .bipush 16, [], [16], []), (42, 3, .invokestatic 27, [5, 2, 2222, 2224, 2223, 1014], [], []), (45, 1, .aload_n 0, [0], [], []), (46, 1, .aload_n 1, [1], [], []), (47, 3, .getfield 33, [8, 3, 0, 1058], [], []), (50, 3, .putfield 33, [8, 3, 0, 1058], [], []), (53, 1, .return_, [], [], [])]
def bsX8_copyFrom : List (Nat × List gw_E) := [(0, bkX8_copyFrom_0)]
theorem fdX8_copyFrom_0 : gw_find bsX8_copyFrom 0 = bkX8_copyFrom_0 := rfl
set_option maxRecDepth 40000 in
theorem stX8_copyFrom : gw_sta sgX8_copyFrom bsX8_copyFrom := ⟨by decide +kernel, gw_mem2 (i := 2221) rfl rfl, gw_all (by decide +kernel)⟩
def bkX8_has_0 : List gw_E := [(0, 1, .aload_n 0, [0], [], []), (1, 3, .getfield 9, [8, 0, 1, 1048], [], []), (4, 1, .iload_n 1, [1], [], []), (5, 1, .iaload, [], [], []), (6, 1, .iconst (-1), [], [-1], []), (7, 3, .if_icmp .eq 7, [14], [], []), (10, 1, .iconst 1, [], [1], []), (11, 3, .goto 4, [15], [], [])]
def bkX8_has_14 : List gw_E := [(14, 1, .iconst 0, [], [0], [])]
def bkX8_has_15 : List gw_E := [(15, 1, .ireturn, [1], [], [])]
def bsX8_has : List (Nat × List gw_E) := [(0, bkX8_has_0), (14, bkX8_has_14), (15, bkX8_has_15)]
theorem fdX8_has_0 : gw_find bsX8_has 0 = bkX8_has_0 := rfl
theorem fdX8_has_14 : gw_find bsX8_has 14 = bkX8_has_14 := rfl
theorem fdX8_has_15 : gw_find bsX8_has 15 = bkX8_has_15 := rfl
set_option maxRecDepth 40000 in
theorem stX8_has : gw_sta sgX8_has bsX8_has := ⟨by decide +kernel, gw_mem2 (i := 3095) rfl rfl, gw_all (by decide +kernel)⟩
def bkX8_gives_0 : List gw_E := [(0, 1, .aload_n 0, [0], [], []), (1, 3, .getfield 15, [8, 1, 1, 1053], [], []), (4, 1, .iload_n 1, [1], [], []), (5, 1, .iaload, [], [], []), (6, 1, .iload_n 2, [2], [], []), (7, 3, .invokestatic 37, [2, 1, 3196, 3044, 1001, 0], [], [sgX10_hasBit]), (10, 1, .ireturn, [1], [], [])]
def bsX8_gives : List (Nat × List gw_E) := [(0, bkX8_gives_0)]
theorem fdX8_gives_0 : gw_find bsX8_gives 0 = bkX8_gives_0 := rfl
set_option maxRecDepth 40000 in
theorem stX8_gives : gw_sta sgX8_gives bsX8_gives := ⟨by decide +kernel, gw_mem2 (i := 3195) rfl rfl, gw_all (by decide +kernel)⟩
def bkX8_put_0 : List gw_E := [(0, 1, .aload_n 0, [0], [], []), (1, 3, .getfield 9, [8, 0, 1, 1048], [], []), (4, 1, .iload_n 1, [1], [], []), (5, 1, .iload_n 2, [2], [], []), (6, 1, .iastore, [], [], []), (7, 1, .aload_n 0, [0], [], []), (8, 3, .getfield 15, [8, 1, 1, 1053], [], []), (11, 1, .iload_n 1, [1], [], []), (12, 1, .iload_n 3, [3], [], []), (13, 1, .iastore, [], [], []), (14, 1, .aload_n 0, [0], [], []), (15, 3, .getfield 18, [8, 2, 1, 1057], [], []), (18, 1, .iload_n 1, [1], [], []), (19, 1, .aload_n 0, [0], [], []), (20, 3, .getfield 33, [8, 3, 0, 1058], [], []), (23, 1, .iastore, [], [], []), (24, 1, .aload_n 0, [0], [], []), (25, 1, .dup, [], [], []), (26, 3, .getfield 33, [8, 3, 0, 1058], [], []), (29, 1, .iconst 1, [], [1], []), (30, 1, .iadd, [], [], []), (31, 3, .putfield 33, [8, 3, 0, 1058], [], []), (34, 1, .return_, [], [], [])]
def bsX8_put : List (Nat × List gw_E) := [(0, bkX8_put_0)]
theorem fdX8_put_0 : gw_find bsX8_put 0 = bkX8_put_0 := rfl
set_option maxRecDepth 40000 in
theorem stX8_put : gw_sta sgX8_put bsX8_put := ⟨by decide +kernel, gw_mem2 (i := 3025) rfl rfl, gw_all (by decide +kernel)⟩
def bkX8_drop_0 : List gw_E := [(0, 1, .aload_n 0, [0], [], []), (1, 3, .getfield 9, [8, 0, 1, 1048], [], []), (4, 1, .iload_n 1, [1], [], []), (5, 1, .iconst (-1), [], [-1], []), (6, 1, .iastore, [], [], []), (7, 1, .aload_n 0, [0], [], []), (8, 3, .getfield 15, [8, 1, 1, 1053], [], []), (11, 1, .iload_n 1, [1], [], []), (12, 1, .iconst 0, [], [0], []), (13, 1, .iastore, [], [], []), (14, 1, .return_, [], [], [])]
def bsX8_drop : List (Nat × List gw_E) := [(0, bkX8_drop_0)]
theorem fdX8_drop_0 : gw_find bsX8_drop 0 = bkX8_drop_0 := rfl
set_option maxRecDepth 40000 in
theorem stX8_drop : gw_sta sgX8_drop bsX8_drop := ⟨by decide +kernel, gw_mem2 (i := 3033) rfl rfl, gw_all (by decide +kernel)⟩
def bkX8_dropAll_0 : List gw_E := [(0, 1, .aload_n 0, [0], [], []), (1, 3, .getfield 9, [8, 0, 1, 1048], [], []), (4, 1, .iconst (-1), [], [-1], []), (5, 3, .invokestatic 21, [2, 0, 1045, 1046, 1005, 0], [], [sgJ7_fill_53178]), (8, 1, .aload_n 0, [0], [], []), (9, 3, .getfield 15, [8, 1, 1, 1053], [], []), (12, 1, .iconst 0, [], [0], []), (13, 3, .invokestatic 21, [2, 0, 1045, 1046, 1005, 0], [], [sgJ7_fill_53178]), (16, 1, .return_, [], [], [])]
def bsX8_dropAll : List (Nat × List gw_E) := [(0, bkX8_dropAll_0)]
theorem fdX8_dropAll_0 : gw_find bsX8_dropAll 0 = bkX8_dropAll_0 := rfl
set_option maxRecDepth 40000 in
theorem stX8_dropAll : gw_sta sgX8_dropAll bsX8_dropAll := ⟨by decide +kernel, gw_mem2 (i := 4080) rfl rfl, gw_all (by decide +kernel)⟩
def bkX8_dropEldest_0 : List gw_E := [(0, 1, .aload_n 0, [0], [], []), (1, 3, .invokevirtual 41, [0, 8, 3121, 3122, 3123, 1004], [], [sgX8_eldest]), (4, 1, .istore_n 1, [1], [], []), (5, 1, .iload_n 1, [1], [], []), (6, 1, .iconst (-1), [], [-1], []), (7, 3, .if_icmp .eq 8, [15], [], []), (10, 1, .aload_n 0, [0], [], []), (11, 1, .iload_n 1, [1], [], []), (12, 3, .invokevirtual 45, [1, 8, 3125, 3031, 3032, 1004], [], [sgX8_drop])]
def bkX8_dropEldest_15 : List gw_E := [(15, 1, .return_, [], [], [])]
def bsX8_dropEldest : List (Nat × List gw_E) := [(0, bkX8_dropEldest_0), (15, bkX8_dropEldest_15)]
theorem fdX8_dropEldest_0 : gw_find bsX8_dropEldest 0 = bkX8_dropEldest_0 := rfl
theorem fdX8_dropEldest_15 : gw_find bsX8_dropEldest 15 = bkX8_dropEldest_15 := rfl
set_option maxRecDepth 40000 in
theorem stX8_dropEldest : gw_sta sgX8_dropEldest bsX8_dropEldest := ⟨by decide +kernel, gw_mem2 (i := 3120) rfl rfl, gw_all (by decide +kernel)⟩
def bkX8_size_0 : List gw_E := [(0, 1, .iconst 0, [], [0], []), (1, 1, .istore_n 1, [1], [], []), (2, 1, .iconst 0, [], [0], []), (3, 1, .istore_n 2, [2], [], [])]
def bkX8_size_4 : List gw_E := [(4, 1, .iload_n 2, [2], [], []), (5, 2, .bipush 16, [], [16], []), (7, 3, .if_icmp .ge 22, [29], [], []), (10, 1, .aload_n 0, [0], [], []), (11, 3, .getfield 9, [8, 0, 1, 1048], [], []), (14, 1, .iload_n 2, [2], [], []), (15, 1, .iaload, [], [], []), (16, 1, .iconst (-1), [], [-1], []), (17, 3, .if_icmp .eq 6, [23], [], []), (20, 3, .iinc 1 1, [1], [1], [])]
def bkX8_size_23 : List gw_E := [(23, 3, .iinc 2 1, [2], [1], []), (26, 3, .goto (-22), [4], [], [])]
def bkX8_size_29 : List gw_E := [(29, 1, .iload_n 1, [1], [], []), (30, 1, .ireturn, [0], [], [])]
def bsX8_size : List (Nat × List gw_E) := [(0, bkX8_size_0), (4, bkX8_size_4), (23, bkX8_size_23), (29, bkX8_size_29)]
theorem fdX8_size_0 : gw_find bsX8_size 0 = bkX8_size_0 := rfl
theorem fdX8_size_4 : gw_find bsX8_size 4 = bkX8_size_4 := rfl
theorem fdX8_size_23 : gw_find bsX8_size 23 = bkX8_size_23 := rfl
theorem fdX8_size_29 : gw_find bsX8_size 29 = bkX8_size_29 := rfl
set_option maxRecDepth 40000 in
theorem stX8_size : gw_sta sgX8_size bsX8_size := ⟨by decide +kernel, gw_mem2 (i := 3116) rfl rfl, gw_all (by decide +kernel)⟩
def bkX8_eldest_0 : List gw_E := [(0, 1, .iconst (-1), [], [-1], []), (1, 1, .istore_n 1, [1], [], []), (2, 1, .iconst 0, [], [0], []), (3, 1, .istore_n 2, [2], [], [])]
def bkX8_eldest_4 : List gw_E := [(4, 1, .iload_n 2, [2], [], []), (5, 2, .bipush 16, [], [16], []), (7, 3, .if_icmp .ge 41, [48], [], []), (10, 1, .aload_n 0, [0], [], []), (11, 3, .getfield 9, [8, 0, 1, 1048], [], []), (14, 1, .iload_n 2, [2], [], []), (15, 1, .iaload, [], [], []), (16, 1, .iconst (-1), [], [-1], []), (17, 3, .if_icmp .eq 25, [42], [], []), (20, 1, .iload_n 1, [1], [], []), (21, 1, .iconst (-1), [], [-1], []), (22, 3, .if_icmp .eq 18, [40], [], []), (25, 1, .aload_n 0, [0], [], []), (26, 3, .getfield 18, [8, 2, 1, 1057], [], []), (29, 1, .iload_n 2, [2], [], []), (30, 1, .iaload, [], [], []), (31, 1, .aload_n 0, [0], [], []), (32, 3, .getfield 18, [8, 2, 1, 1057], [], []), (35, 1, .iload_n 1, [1], [], []), (36, 1, .iaload, [], [], []), (37, 3, .if_icmp .ge 5, [42], [], [])]
def bkX8_eldest_40 : List gw_E := [(40, 1, .iload_n 2, [2], [], []), (41, 1, .istore_n 1, [1], [], [])]
def bkX8_eldest_42 : List gw_E := [(42, 3, .iinc 2 1, [2], [1], []), (45, 3, .goto (-41), [4], [], [])]
def bkX8_eldest_48 : List gw_E := [(48, 1, .iload_n 1, [1], [], []), (49, 1, .ireturn, [0], [], [])]
def bsX8_eldest : List (Nat × List gw_E) := [(0, bkX8_eldest_0), (4, bkX8_eldest_4), (40, bkX8_eldest_40), (42, bkX8_eldest_42), (48, bkX8_eldest_48)]
theorem fdX8_eldest_0 : gw_find bsX8_eldest 0 = bkX8_eldest_0 := rfl
theorem fdX8_eldest_4 : gw_find bsX8_eldest 4 = bkX8_eldest_4 := rfl
theorem fdX8_eldest_40 : gw_find bsX8_eldest 40 = bkX8_eldest_40 := rfl
theorem fdX8_eldest_42 : gw_find bsX8_eldest 42 = bkX8_eldest_42 := rfl
theorem fdX8_eldest_48 : gw_find bsX8_eldest 48 = bkX8_eldest_48 := rfl
set_option maxRecDepth 40000 in
theorem stX8_eldest : gw_sta sgX8_eldest bsX8_eldest := ⟨by decide +kernel, gw_mem2 (i := 3124) rfl rfl, gw_all (by decide +kernel)⟩
def bkX8_byAge_0 : List gw_E := [(0, 1, .iconst 0, [], [0], []), (1, 1, .istore_n 2, [2], [], [])]
def bkX8_byAge_2 : List gw_E := [(2, 1, .iload_n 2, [2], [], []), (3, 2, .bipush 16, [], [16], []), (5, 3, .if_icmp .ge 30, [35], [], []), (8, 1, .aload_n 0, [0], [], []), (9, 3, .getfield 9, [8, 0, 1, 1048], [], []), (12, 1, .iload_n 2, [2], [], []), (13, 1, .iaload, [], [], []), (14, 1, .iconst (-1), [], [-1], []), (15, 3, .if_icmp .eq 14, [29], [], []), (18, 1, .aload_n 0, [0], [], []), (19, 1, .iload_n 2, [2], [], []), (20, 3, .invokevirtual 49, [1, 8, 5031, 5033, 18, 1004], [], [sgX8_elderThan]), (23, 1, .iload_n 1, [1], [], []), (24, 3, .if_icmp .ne 5, [29], [], []), (27, 1, .iload_n 2, [2], [], []), (28, 1, .ireturn, [0], [], [])]
def bkX8_byAge_29 : List gw_E := [(29, 3, .iinc 2 1, [2], [1], []), (32, 3, .goto (-30), [2], [], [])]
def bkX8_byAge_35 : List gw_E := [(35, 1, .iconst (-1), [], [-1], []), (36, 1, .ireturn, [0], [], [])]
def bsX8_byAge : List (Nat × List gw_E) := [(0, bkX8_byAge_0), (2, bkX8_byAge_2), (29, bkX8_byAge_29), (35, bkX8_byAge_35)]
theorem fdX8_byAge_0 : gw_find bsX8_byAge 0 = bkX8_byAge_0 := rfl
theorem fdX8_byAge_2 : gw_find bsX8_byAge 2 = bkX8_byAge_2 := rfl
theorem fdX8_byAge_29 : gw_find bsX8_byAge 29 = bkX8_byAge_29 := rfl
theorem fdX8_byAge_35 : gw_find bsX8_byAge 35 = bkX8_byAge_35 := rfl
set_option maxRecDepth 40000 in
theorem stX8_byAge : gw_sta sgX8_byAge bsX8_byAge := ⟨by decide +kernel, gw_mem2 (i := 5030) rfl rfl, gw_all (by decide +kernel)⟩
def bkX8_elderThan_0 : List gw_E := [(0, 1, .iconst 0, [], [0], []), (1, 1, .istore_n 2, [2], [], []), (2, 1, .iconst 0, [], [0], []), (3, 1, .istore_n 3, [3], [], [])]
def bkX8_elderThan_4 : List gw_E := [(4, 1, .iload_n 3, [3], [], []), (5, 2, .bipush 16, [], [16], []), (7, 3, .if_icmp .ge 37, [44], [], []), (10, 1, .aload_n 0, [0], [], []), (11, 3, .getfield 9, [8, 0, 1, 1048], [], []), (14, 1, .iload_n 3, [3], [], []), (15, 1, .iaload, [], [], []), (16, 1, .iconst (-1), [], [-1], []), (17, 3, .if_icmp .eq 21, [38], [], []), (20, 1, .aload_n 0, [0], [], []), (21, 3, .getfield 18, [8, 2, 1, 1057], [], []), (24, 1, .iload_n 3, [3], [], []), (25, 1, .iaload, [], [], []), (26, 1, .aload_n 0, [0], [], []), (27, 3, .getfield 18, [8, 2, 1, 1057], [], []), (30, 1, .iload_n 1, [1], [], []), (31, 1, .iaload, [], [], []), (32, 3, .if_icmp .ge 6, [38], [], []), (35, 3, .iinc 2 1, [2], [1], [])]
def bkX8_elderThan_38 : List gw_E := [(38, 3, .iinc 3 1, [3], [1], []), (41, 3, .goto (-37), [4], [], [])]
def bkX8_elderThan_44 : List gw_E := [(44, 1, .iload_n 2, [2], [], []), (45, 1, .ireturn, [0], [], [])]
def bsX8_elderThan : List (Nat × List gw_E) := [(0, bkX8_elderThan_0), (4, bkX8_elderThan_4), (38, bkX8_elderThan_38), (44, bkX8_elderThan_44)]
theorem fdX8_elderThan_0 : gw_find bsX8_elderThan 0 = bkX8_elderThan_0 := rfl
theorem fdX8_elderThan_4 : gw_find bsX8_elderThan 4 = bkX8_elderThan_4 := rfl
theorem fdX8_elderThan_38 : gw_find bsX8_elderThan 38 = bkX8_elderThan_38 := rfl
theorem fdX8_elderThan_44 : gw_find bsX8_elderThan 44 = bkX8_elderThan_44 := rfl
set_option maxRecDepth 40000 in
theorem stX8_elderThan : gw_sta sgX8_elderThan bsX8_elderThan := ⟨by decide +kernel, gw_mem2 (i := 5034) rfl rfl, gw_all (by decide +kernel)⟩
def bkX7_init_0 : List gw_E := [(0, 1, .aload_n 0, [0], [], []), (1, 3, .invokespecial 3, [0, 2, 1111, 1025, 1026, 0], [], []), (4, 1, .aload_n 0, [0], [], []), (5, 2, .bipush 24, [], [24], []), (7, 2, .newarray .int, [], [], []), (9, 3, .putfield 9, [7, 0, 1, 1112], [], []), (12, 1, .aload_n 0, [0], [], []), (13, 2, .bipush 24, [], [24], []), (15, 2, .newarray .int, [], [], []), (17, 3, .putfield 15, [7, 1, 1, 1116], [], []), (20, 1, .aload_n 0, [0], [], []), (21, 2, .bipush 24, [], [24], []), (23, 2, .newarray .int, [], [], []), (25, 3, .putfield 18, [7, 2, 1, 1120], [], []), (28, 1, .return_, [], [], [])]
def bsX7_init : List (Nat × List gw_E) := [(0, bkX7_init_0)]
theorem fdX7_init_0 : gw_find bsX7_init 0 = bkX7_init_0 := rfl
set_option maxRecDepth 40000 in
theorem stX7_init : gw_sta sgX7_init bsX7_init := ⟨by decide +kernel, gw_mem2 (i := 1110) rfl rfl, gw_all (by decide +kernel)⟩
def bkX7_copyFrom_0 : List gw_E := [(0, 1, .aload_n 1, [1], [], []), (1, 3, .getfield 9, [7, 0, 1, 1112], [], []), (4, 1, .iconst 0, [], [0], []), (5, 1, .aload_n 0, [0], [], []), (6, 3, .getfield 9, [7, 0, 1, 1112], [], []), (9, 1, .iconst 0, [], [0], []), (10, 2, .bipush 24, [], [24], []), (12, 3, .invokestatic 21, [5, 2, 2235, 2224, 2223, 1014], [], []), (15, 1, .aload_n 1, [1], [], []), (16, 3, .getfield 15, [7, 1, 1, 1116], [], []), (19, 1, .iconst 0, [], [0], []), (20, 1, .aload_n 0, [0], [], []), (21, 3, .getfield 15, [7, 1, 1, 1116], [], []), (24, 1, .iconst 0, [], [0], []), (25, 2, .bipush 24, [], [24], []), (27, 3, .invokestatic 21, [5, 2, 2235, 2224, 2223, 1014], [], []), (30, 1, .aload_n 1, [1], [], []), (31, 3, .getfield 18, [7, 2, 1, 1120], [], []), (34, 1, .iconst 0, [], [0], []), (35, 1, .aload_n 0, [0], [], []), (36, 3, .getfield 18, [7, 2, 1, 1120], [], []), (39, 1, .iconst 0, [], [0], []), (40, 2, .bipush 24, [], [24], []), (42, 3, .invokestatic 21, [5, 2, 2235, 2224, 2223, 1014], [], []), (45, 1, .aload_n 0, [0], [], []), (46, 1, .aload_n 1, [1], [], []), (47, 3, .getfield 27, [7, 3, 0, 1124], [], []), (50, 3, .putfield 27, [7, 3, 0, 1124], [], []), (53, 1, .aload_n 0, [0], [], []), (54, 1, .aload_n 1, [1], [], []), (55, 3, .getfield 31, [7, 4, 0, 1128], [], []), (58, 3, .putfield 31, [7, 4, 0, 1128], [], []), (61, 1, .return_, [], [], [])]
def bsX7_copyFrom : List (Nat × List gw_E) := [(0, bkX7_copyFrom_0)]
theorem fdX7_copyFrom_0 : gw_find bsX7_copyFrom 0 = bkX7_copyFrom_0 := rfl
set_option maxRecDepth 40000 in
theorem stX7_copyFrom : gw_sta sgX7_copyFrom bsX7_copyFrom := ⟨by decide +kernel, gw_mem2 (i := 2234) rfl rfl, gw_all (by decide +kernel)⟩
def bkX7_add_0 : List gw_E := [(0, 1, .aload_n 0, [0], [], []), (1, 3, .getfield 9, [7, 0, 1, 1112], [], []), (4, 1, .aload_n 0, [0], [], []), (5, 3, .getfield 27, [7, 3, 0, 1124], [], []), (8, 1, .iload_n 1, [1], [], []), (9, 1, .iastore, [], [], []), (10, 1, .aload_n 0, [0], [], []), (11, 3, .getfield 15, [7, 1, 1, 1116], [], []), (14, 1, .aload_n 0, [0], [], []), (15, 3, .getfield 27, [7, 3, 0, 1124], [], []), (18, 1, .iload_n 2, [2], [], []), (19, 1, .iastore, [], [], []), (20, 1, .aload_n 0, [0], [], []), (21, 3, .getfield 18, [7, 2, 1, 1120], [], []), (24, 1, .aload_n 0, [0], [], []), (25, 3, .getfield 27, [7, 3, 0, 1124], [], []), (28, 1, .iload_n 3, [3], [], []), (29, 1, .iastore, [], [], []), (30, 1, .aload_n 0, [0], [], []), (31, 1, .dup, [], [], []), (32, 3, .getfield 27, [7, 3, 0, 1124], [], []), (35, 1, .iconst 1, [], [1], []), (36, 1, .iadd, [], [], []), (37, 3, .putfield 27, [7, 3, 0, 1124], [], []), (40, 1, .return_, [], [], [])]
def bsX7_add : List (Nat × List gw_E) := [(0, bkX7_add_0)]
theorem fdX7_add_0 : gw_find bsX7_add 0 = bkX7_add_0 := rfl
set_option maxRecDepth 40000 in
theorem stX7_add : gw_sta sgX7_add bsX7_add := ⟨by decide +kernel, gw_mem2 (i := 4179) rfl rfl, gw_all (by decide +kernel)⟩
def bkX7_advance_0 : List gw_E := [(0, 1, .aload_n 0, [0], [], []), (1, 3, .getfield 31, [7, 4, 0, 1128], [], []), (4, 1, .istore_n 1, [1], [], []), (5, 1, .aload_n 0, [0], [], []), (6, 1, .iload_n 1, [1], [], []), (7, 1, .iconst 1, [], [1], []), (8, 1, .iadd, [], [], []), (9, 1, .aload_n 0, [0], [], []), (10, 3, .getfield 27, [7, 3, 0, 1124], [], []), (13, 3, .if_icmp .ge 9, [22], [], []), (16, 1, .iload_n 1, [1], [], []), (17, 1, .iconst 1, [], [1], []), (18, 1, .iadd, [], [], []), (19, 3, .goto 4, [23], [], [])]
def bkX7_advance_22 : List gw_E := [(22, 1, .iconst 0, [], [0], [])]
def bkX7_advance_23 : List gw_E := [(23, 3, .putfield 31, [7, 4, 0, 1128], [], []), (26, 1, .iload_n 1, [1], [], []), (27, 1, .ireturn, [0], [], [])]
def bsX7_advance : List (Nat × List gw_E) := [(0, bkX7_advance_0), (22, bkX7_advance_22), (23, bkX7_advance_23)]
theorem fdX7_advance_0 : gw_find bsX7_advance 0 = bkX7_advance_0 := rfl
theorem fdX7_advance_22 : gw_find bsX7_advance 22 = bkX7_advance_22 := rfl
theorem fdX7_advance_23 : gw_find bsX7_advance 23 = bkX7_advance_23 := rfl
set_option maxRecDepth 40000 in
theorem stX7_advance : gw_sta sgX7_advance bsX7_advance := ⟨by decide +kernel, gw_mem2 (i := 4205) rfl rfl, gw_all (by decide +kernel)⟩
def bkX7_goTo_0 : List gw_E := [(0, 1, .iload_n 1, [1], [], []), (1, 3, .ifCond .lt 16, [17], [], []), (4, 1, .iload_n 1, [1], [], []), (5, 1, .aload_n 0, [0], [], []), (6, 3, .getfield 27, [7, 3, 0, 1124], [], []), (9, 3, .if_icmp .ge 8, [17], [], []), (12, 1, .aload_n 0, [0], [], []), (13, 1, .iload_n 1, [1], [], []), (14, 3, .putfield 31, [7, 4, 0, 1128], [], [])]
def bkX7_goTo_17 : List gw_E := [(17, 1, .return_, [], [], [])]
def bsX7_goTo : List (Nat × List gw_E) := [(0, bkX7_goTo_0), (17, bkX7_goTo_17)]
theorem fdX7_goTo_0 : gw_find bsX7_goTo 0 = bkX7_goTo_0 := rfl
theorem fdX7_goTo_17 : gw_find bsX7_goTo 17 = bkX7_goTo_17 := rfl
set_option maxRecDepth 40000 in
theorem stX7_goTo : gw_sta sgX7_goTo bsX7_goTo := ⟨by decide +kernel, gw_mem2 (i := 3068) rfl rfl, gw_all (by decide +kernel)⟩
def bkX0_init_0 : List gw_E := [(0, 1, .aload_n 0, [0], [], []), (1, 3, .invokespecial 3, [0, 2, 1105, 1025, 1026, 0], [], []), (4, 1, .aload_n 0, [0], [], []), (5, 3, .new 9, [7, 1106, 1107, 1007], [], []), (8, 1, .dup, [], [], []), (9, 3, .invokespecial 11, [0, 1, 1108, 1109, 1007, 0], [], [sgX7_init]), (12, 3, .putfield 12, [0, 0, 1, 1142], [], []), (15, 1, .aload_n 0, [0], [], []), (16, 2, .bipush 16, [], [16], []), (18, 2, .newarray .int, [], [], []), (20, 3, .putfield 18, [0, 1, 1, 1147], [], []), (23, 1, .aload_n 0, [0], [], []), (24, 2, .bipush 16, [], [16], []), (26, 3, .putfield 22, [0, 5, 0, 1156], [], []), (29, 1, .return_, [], [], [])]
def bsX0_init : List (Nat × List gw_E) := [(0, bkX0_init_0)]
theorem fdX0_init_0 : gw_find bsX0_init 0 = bkX0_init_0 := rfl
set_option maxRecDepth 40000 in
theorem stX0_init : gw_sta sgX0_init bsX0_init := ⟨by decide +kernel, gw_mem2 (i := 1104) rfl rfl, gw_all (by decide +kernel)⟩
def bkX0_copyFrom_0 : List gw_E := [(0, 1, .aload_n 0, [0], [], []), (1, 3, .getfield 12, [0, 0, 1, 1142], [], []), (4, 1, .aload_n 1, [1], [], []), (5, 3, .getfield 12, [0, 0, 1, 1142], [], []), (8, 3, .invokevirtual 26, [1, 7, 2231, 2232, 2233, 1007], [], [sgX7_copyFrom]), (11, 1, .aload_n 1, [1], [], []), (12, 3, .getfield 18, [0, 1, 1, 1147], [], []), (15, 1, .iconst 0, [], [0], []), (16, 1, .aload_n 0, [0], [], []), (17, 3, .getfield 18, [0, 1, 1, 1147], [], []), (20, 1, .iconst 0, [], [0], []), (21, 2, .bipush 16, [], [16], []), (23, 3, .invokestatic 30, [5, 2, 2236, 2224, 2223, 1014], [], []), (26, 1, .aload_n 0, [0], [], []), (27, 1, .aload_n 1, [1], [], []), (28, 3, .getfield 36, [0, 2, 0, 1149], [], []), (31, 3, .putfield 36, [0, 2, 0, 1149], [], []), (34, 1, .aload_n 0, [0], [], []), (35, 1, .aload_n 1, [1], [], []), (36, 3, .getfield 39, [0, 3, 0, 1151], [], []), (39, 3, .putfield 39, [0, 3, 0, 1151], [], []), (42, 1, .aload_n 0, [0], [], []), (43, 1, .aload_n 1, [1], [], []), (44, 3, .getfield 42, [0, 4, 2, 1153], [], []), (47, 3, .putfield 42, [0, 4, 2, 1153], [], []), (50, 1, .aload_n 0, [0], [], []), (51, 1, .aload_n 1, [1], [], []), (52, 3, .getfield 22, [0, 5, 0, 1156], [], []), (55, 3, .putfield 22, [0, 5, 0, 1156], [], []), (58, 1, .aload_n 0, [0], [], []), (59, 1, .aload_n 1, [1], [], []), (60, 3, .getfield 46, [0, 6, 0, 1158], [], []), (63, 3, .putfield 46, [0, 6, 0, 1158], [], []), (66, 1, .return_, [], [], [])]
def bsX0_copyFrom : List (Nat × List gw_E) := [(0, bkX0_copyFrom_0)]
theorem fdX0_copyFrom_0 : gw_find bsX0_copyFrom 0 = bkX0_copyFrom_0 := rfl
set_option maxRecDepth 40000 in
theorem stX0_copyFrom : gw_sta sgX0_copyFrom bsX0_copyFrom := ⟨by decide +kernel, gw_mem2 (i := 2230) rfl rfl, gw_all (by decide +kernel)⟩
def bkX0_awaits_0 : List gw_E := [(0, 1, .aload_n 0, [0], [], []), (1, 3, .getfield 36, [0, 2, 0, 1149], [], []), (4, 1, .iload_n 1, [1], [], []), (5, 3, .invokestatic 49, [2, 1, 4045, 3044, 1001, 0], [], [sgX10_hasBit]), (8, 1, .ireturn, [1], [], [])]
def bsX0_awaits : List (Nat × List gw_E) := [(0, bkX0_awaits_0)]
theorem fdX0_awaits_0 : gw_find bsX0_awaits 0 = bkX0_awaits_0 := rfl
set_option maxRecDepth 40000 in
theorem stX0_awaits : gw_sta sgX0_awaits bsX0_awaits := ⟨by decide +kernel, gw_mem2 (i := 4044) rfl rfl, gw_all (by decide +kernel)⟩
def bkX0_await_0 : List gw_E := [(0, 1, .aload_n 0, [0], [], []), (1, 1, .iload_n 1, [1], [], []), (2, 3, .invokevirtual 53, [1, 0, 4050, 4042, 4043, 1006], [], [sgX0_awaits]), (5, 3, .ifCond .ne 22, [27], [], []), (8, 1, .aload_n 0, [0], [], []), (9, 1, .dup, [], [], []), (10, 3, .getfield 36, [0, 2, 0, 1149], [], []), (13, 1, .iconst 1, [], [1], []), (14, 1, .iload_n 1, [1], [], []), (15, 1, .ishl, [], [], []), (16, 1, .ior, [], [], []), (17, 3, .putfield 36, [0, 2, 0, 1149], [], []), (20, 1, .aload_n 0, [0], [], []), (21, 3, .getfield 18, [0, 1, 1, 1147], [], []), (24, 1, .iload_n 1, [1], [], []), (25, 1, .iload_n 2, [2], [], []), (26, 1, .iastore, [], [], [])]
def bkX0_await_27 : List gw_E := [(27, 1, .return_, [], [], [])]
def bsX0_await : List (Nat × List gw_E) := [(0, bkX0_await_0), (27, bkX0_await_27)]
theorem fdX0_await_0 : gw_find bsX0_await 0 = bkX0_await_0 := rfl
theorem fdX0_await_27 : gw_find bsX0_await 27 = bkX0_await_27 := rfl
set_option maxRecDepth 40000 in
theorem stX0_await : gw_sta sgX0_await bsX0_await := ⟨by decide +kernel, gw_mem2 (i := 4049) rfl rfl, gw_all (by decide +kernel)⟩
def bkX0_ready_0 : List gw_E := [(0, 1, .aload_n 0, [0], [], []), (1, 3, .getfield 42, [0, 4, 2, 1153], [], []), (4, 3, .ifCond .eq 10, [14], [], []), (7, 1, .aload_n 0, [0], [], []), (8, 3, .getfield 36, [0, 2, 0, 1149], [], []), (11, 3, .ifCond .ne 5, [16], [], [])]
def bkX0_ready_14 : List gw_E := [(14, 1, .iconst (-1), [], [-1], []), (15, 1, .ireturn, [0], [], [])]
def bkX0_ready_16 : List gw_E := [(16, 1, .aload_n 0, [0], [], []), (17, 3, .getfield 36, [0, 2, 0, 1149], [], []), (20, 3, .invokestatic 57, [1, 1, 3054, 3055, 1001, 0], [], [sgX10_greatestOf]), (23, 1, .istore_n 1, [1], [], []), (24, 1, .iload_n 1, [1], [], []), (25, 1, .aload_n 0, [0], [], []), (26, 3, .getfield 39, [0, 3, 0, 1151], [], []), (29, 3, .invokestatic 57, [1, 1, 3054, 3055, 1001, 0], [], [sgX10_greatestOf]), (32, 3, .if_icmp .le 7, [39], [], []), (35, 1, .iload_n 1, [1], [], []), (36, 3, .goto 4, [40], [], [])]
def bkX0_ready_39 : List gw_E := [(39, 1, .iconst (-1), [], [-1], [])]
def bkX0_ready_40 : List gw_E := [(40, 1, .ireturn, [0], [], [])]
def bsX0_ready : List (Nat × List gw_E) := [(0, bkX0_ready_0), (14, bkX0_ready_14), (16, bkX0_ready_16), (39, bkX0_ready_39), (40, bkX0_ready_40)]
theorem fdX0_ready_0 : gw_find bsX0_ready 0 = bkX0_ready_0 := rfl
theorem fdX0_ready_14 : gw_find bsX0_ready 14 = bkX0_ready_14 := rfl
theorem fdX0_ready_16 : gw_find bsX0_ready 16 = bkX0_ready_16 := rfl
theorem fdX0_ready_39 : gw_find bsX0_ready 39 = bkX0_ready_39 := rfl
theorem fdX0_ready_40 : gw_find bsX0_ready 40 = bkX0_ready_40 := rfl
set_option maxRecDepth 40000 in
theorem stX0_ready : gw_sta sgX0_ready bsX0_ready := ⟨by decide +kernel, gw_mem2 (i := 3053) rfl rfl, gw_all (by decide +kernel)⟩
def bkX0_take_0 : List gw_E := [(0, 1, .aload_n 0, [0], [], []), (1, 1, .dup, [], [], []), (2, 3, .getfield 36, [0, 2, 0, 1149], [], []), (5, 1, .iconst 1, [], [1], []), (6, 1, .iload_n 1, [1], [], []), (7, 1, .ishl, [], [], []), (8, 1, .iconst (-1), [], [-1], []), (9, 1, .ixor, [], [], []), (10, 1, .iand, [], [], []), (11, 3, .putfield 36, [0, 2, 0, 1149], [], []), (14, 1, .aload_n 0, [0], [], []), (15, 1, .dup, [], [], []), (16, 3, .getfield 39, [0, 3, 0, 1151], [], []), (19, 1, .iconst 1, [], [1], []), (20, 1, .iload_n 1, [1], [], []), (21, 1, .ishl, [], [], []), (22, 1, .ior, [], [], []), (23, 3, .putfield 39, [0, 3, 0, 1151], [], []), (26, 1, .iload_n 2, [2], [], []), (27, 1, .aload_n 0, [0], [], []), (28, 3, .getfield 18, [0, 1, 1, 1147], [], []), (31, 1, .iload_n 1, [1], [], []), (32, 1, .iaload, [], [], []), (33, 1, .isub, [], [], []), (34, 1, .ireturn, [0], [], [])]
def bsX0_take : List (Nat × List gw_E) := [(0, bkX0_take_0)]
theorem fdX0_take_0 : gw_find bsX0_take 0 = bkX0_take_0 := rfl
set_option maxRecDepth 40000 in
theorem stX0_take : gw_sta sgX0_take bsX0_take := ⟨by decide +kernel, gw_mem2 (i := 3072) rfl rfl, gw_all (by decide +kernel)⟩
def bkX0_endService_0 : List gw_E := [(0, 1, .aload_n 0, [0], [], []), (1, 3, .getfield 39, [0, 3, 0, 1151], [], []), (4, 3, .invokestatic 57, [1, 1, 3054, 3055, 1001, 0], [], [sgX10_greatestOf]), (7, 1, .istore_n 1, [1], [], []), (8, 1, .iload_n 1, [1], [], []), (9, 1, .iconst (-1), [], [-1], []), (10, 3, .if_icmp .eq 17, [27], [], []), (13, 1, .aload_n 0, [0], [], []), (14, 1, .dup, [], [], []), (15, 3, .getfield 39, [0, 3, 0, 1151], [], []), (18, 1, .iconst 1, [], [1], []), (19, 1, .iload_n 1, [1], [], []), (20, 1, .ishl, [], [], []), (21, 1, .iconst (-1), [], [-1], []), (22, 1, .ixor, [], [], []), (23, 1, .iand, [], [], []), (24, 3, .putfield 39, [0, 3, 0, 1151], [], [])]
def bkX0_endService_27 : List gw_E := [(27, 1, .iload_n 1, [1], [], []), (28, 1, .ireturn, [0], [], [])]
def bsX0_endService : List (Nat × List gw_E) := [(0, bkX0_endService_0), (27, bkX0_endService_27)]
theorem fdX0_endService_0 : gw_find bsX0_endService 0 = bkX0_endService_0 := rfl
theorem fdX0_endService_27 : gw_find bsX0_endService 27 = bkX0_endService_27 := rfl
set_option maxRecDepth 40000 in
theorem stX0_endService : gw_sta sgX0_endService bsX0_endService := ⟨by decide +kernel, gw_mem2 (i := 4065) rfl rfl, gw_all (by decide +kernel)⟩
def bkX0_clockUpon_0 : List gw_E := [(0, 1, .iload_n 1, [1], [], []), (1, 1, .aload_n 0, [0], [], []), (2, 3, .getfield 22, [0, 5, 0, 1156], [], []), (5, 1, .imul, [], [], []), (6, 2, .bipush 16, [], [16], []), (8, 3, .invokestatic 61, [2, 0, 4149, 4150, 1015, 0], [], [sgJ9_floorDiv_7cf53]), (11, 1, .aload_n 0, [0], [], []), (12, 3, .getfield 46, [0, 6, 0, 1158], [], []), (15, 1, .iadd, [], [], []), (16, 1, .ireturn, [0], [], [])]
def bsX0_clockUpon : List (Nat × List gw_E) := [(0, bkX0_clockUpon_0)]
theorem fdX0_clockUpon_0 : gw_find bsX0_clockUpon 0 = bkX0_clockUpon_0 := rfl
set_option maxRecDepth 40000 in
theorem stX0_clockUpon : gw_sta sgX0_clockUpon bsX0_clockUpon := ⟨by decide +kernel, gw_mem2 (i := 4148) rfl rfl, gw_all (by decide +kernel)⟩
def bkX1_init_0 : List gw_E := [(0, 1, .aload_n 0, [0], [], []), (1, 3, .invokespecial 3, [0, 2, 2033, 1025, 1026, 0], [], []), (4, 1, .aload_n 0, [0], [], []), (5, 3, .new 9, [0, 2034, 1101, 1006], [], []), (8, 1, .dup, [], [], []), (9, 3, .invokespecial 11, [0, 1, 2035, 1103, 1006, 0], [], [sgX0_init]), (12, 3, .putfield 12, [1, 0, 1, 2038], [], []), (15, 1, .aload_n 0, [0], [], []), (16, 3, .new 18, [8, 2036, 1040, 1004], [], []), (19, 1, .dup, [], [], []), (20, 3, .invokespecial 20, [0, 0, 2037, 1042, 1004, 0], [], [sgX8_init]), (23, 3, .putfield 21, [1, 1, 1, 2042], [], []), (26, 1, .aload_n 0, [0], [], []), (27, 3, .new 18, [8, 2036, 1040, 1004], [], []), (30, 1, .dup, [], [], []), (31, 3, .invokespecial 20, [0, 0, 2037, 1042, 1004, 0], [], [sgX8_init]), (34, 3, .putfield 25, [1, 2, 1, 2046], [], []), (37, 1, .aload_n 0, [0], [], []), (38, 1, .iconst (-1), [], [-1], []), (39, 3, .putfield 28, [1, 3, 0, 2049], [], []), (42, 1, .aload_n 0, [0], [], []), (43, 1, .iconst (-1), [], [-1], []), (44, 3, .putfield 32, [1, 4, 0, 2051], [], []), (47, 1, .aload_n 0, [0], [], []), (48, 1, .iconst (-1), [], [-1], []), (49, 3, .putfield 35, [1, 5, 0, 2055], [], []), (52, 1, .return_, [], [], [])]
def bsX1_init : List (Nat × List gw_E) := [(0, bkX1_init_0)]
theorem fdX1_init_0 : gw_find bsX1_init 0 = bkX1_init_0 := rfl
set_option maxRecDepth 40000 in
theorem stX1_init : gw_sta sgX1_init bsX1_init := ⟨by decide +kernel, gw_mem2 (i := 2032) rfl rfl, gw_all (by decide +kernel)⟩
def bkX1_copyFrom_0 : List gw_E := [(0, 1, .aload_n 0, [0], [], []), (1, 3, .getfield 12, [1, 0, 1, 2038], [], []), (4, 1, .aload_n 1, [1], [], []), (5, 3, .getfield 12, [1, 0, 1, 2038], [], []), (8, 3, .invokevirtual 38, [1, 0, 3001, 2228, 2229, 1006], [], [sgX0_copyFrom]), (11, 1, .aload_n 0, [0], [], []), (12, 3, .getfield 21, [1, 1, 1, 2042], [], []), (15, 1, .aload_n 1, [1], [], []), (16, 3, .getfield 21, [1, 1, 1, 2042], [], []), (19, 3, .invokevirtual 42, [1, 8, 3002, 2219, 2220, 1004], [], [sgX8_copyFrom]), (22, 1, .aload_n 0, [0], [], []), (23, 3, .getfield 25, [1, 2, 1, 2046], [], []), (26, 1, .aload_n 1, [1], [], []), (27, 3, .getfield 25, [1, 2, 1, 2046], [], []), (30, 3, .invokevirtual 42, [1, 8, 3002, 2219, 2220, 1004], [], [sgX8_copyFrom]), (33, 1, .aload_n 0, [0], [], []), (34, 1, .aload_n 1, [1], [], []), (35, 3, .getfield 28, [1, 3, 0, 2049], [], []), (38, 3, .putfield 28, [1, 3, 0, 2049], [], []), (41, 1, .aload_n 0, [0], [], []), (42, 1, .aload_n 1, [1], [], []), (43, 3, .getfield 32, [1, 4, 0, 2051], [], []), (46, 3, .putfield 32, [1, 4, 0, 2051], [], []), (49, 1, .aload_n 0, [0], [], []), (50, 1, .aload_n 1, [1], [], []), (51, 3, .getfield 35, [1, 5, 0, 2055], [], []), (54, 3, .putfield 35, [1, 5, 0, 2055], [], []), (57, 1, .return_, [], [], [])]
def bsX1_copyFrom : List (Nat × List gw_E) := [(0, bkX1_copyFrom_0)]
theorem fdX1_copyFrom_0 : gw_find bsX1_copyFrom 0 = bkX1_copyFrom_0 := rfl
set_option maxRecDepth 40000 in
theorem stX1_copyFrom : gw_sta sgX1_copyFrom bsX1_copyFrom := ⟨by decide +kernel, gw_mem2 (i := 3000) rfl rfl, gw_all (by decide +kernel)⟩
def bkX1_trapAt_0 : List gw_E := [(0, 1, .aload_n 0, [0], [], []), (1, 1, .iload_n 1, [1], [], []), (2, 3, .putfield 35, [1, 5, 0, 2055], [], []), (5, 1, .aload_n 0, [0], [], []), (6, 3, .getfield 12, [1, 0, 1, 2038], [], []), (9, 3, .getfield 45, [0, 0, 1, 1144], [], []), (12, 1, .aload_n 0, [0], [], []), (13, 3, .getfield 28, [1, 3, 0, 2049], [], []), (16, 3, .invokevirtual 49, [1, 7, 4232, 3066, 3067, 1007], [], [sgX7_goTo]), (19, 1, .return_, [], [], [])]
def bsX1_trapAt : List (Nat × List gw_E) := [(0, bkX1_trapAt_0)]
theorem fdX1_trapAt_0 : gw_find bsX1_trapAt 0 = bkX1_trapAt_0 := rfl
set_option maxRecDepth 40000 in
theorem stX1_trapAt : gw_sta sgX1_trapAt bsX1_trapAt := ⟨by decide +kernel, gw_mem2 (i := 4231) rfl rfl, gw_all (by decide +kernel)⟩
def bkX1_actAlone_0 : List gw_E := [(0, 1, .iload_n 1, [1], [], []), (1, 2, .bipush 6, [], [6], []), (3, 3, .if_icmp .ne 17, [20], [], []), (6, 1, .aload_n 0, [0], [], []), (7, 3, .getfield 21, [1, 1, 1, 2042], [], []), (10, 1, .iload_n 2, [2], [], []), (11, 1, .iload_n 3, [3], [], []), (12, 2, .bipush 7, [], [7], []), (14, 3, .invokevirtual 55, [3, 8, 4237, 3023, 3024, 1004], [], [sgX8_put]), (17, 3, .goto 54, [71], [], [])]
def bkX1_actAlone_20 : List gw_E := [(20, 1, .iload_n 1, [1], [], []), (21, 2, .bipush 8, [], [8], []), (23, 3, .if_icmp .ne 28, [51], [], []), (26, 1, .aload_n 0, [0], [], []), (27, 3, .getfield 32, [1, 4, 0, 2051], [], []), (30, 1, .iconst (-1), [], [-1], []), (31, 3, .if_icmp .eq 20, [51], [], []), (34, 1, .aload_n 0, [0], [], []), (35, 3, .getfield 21, [1, 1, 1, 2042], [], []), (38, 1, .aload_n 0, [0], [], []), (39, 3, .getfield 32, [1, 4, 0, 2051], [], []), (42, 1, .iload_n 2, [2], [], []), (43, 2, .bipush 7, [], [7], []), (45, 3, .invokevirtual 55, [3, 8, 4237, 3023, 3024, 1004], [], [sgX8_put]), (48, 3, .goto 23, [71], [], [])]
def bkX1_actAlone_51 : List gw_E := [(51, 1, .iload_n 1, [1], [], []), (52, 2, .bipush 9, [], [9], []), (54, 3, .if_icmp .ne 17, [71], [], []), (57, 1, .aload_n 0, [0], [], []), (58, 3, .getfield 12, [1, 0, 1, 2038], [], []), (61, 3, .getfield 45, [0, 0, 1, 1144], [], []), (64, 1, .aload_n 0, [0], [], []), (65, 3, .getfield 35, [1, 5, 0, 2055], [], []), (68, 3, .invokevirtual 49, [1, 7, 4232, 3066, 3067, 1007], [], [sgX7_goTo])]
def bkX1_actAlone_71 : List gw_E := [(71, 1, .return_, [], [], [])]
def bsX1_actAlone : List (Nat × List gw_E) := [(0, bkX1_actAlone_0), (20, bkX1_actAlone_20), (51, bkX1_actAlone_51), (71, bkX1_actAlone_71)]
theorem fdX1_actAlone_0 : gw_find bsX1_actAlone 0 = bkX1_actAlone_0 := rfl
theorem fdX1_actAlone_20 : gw_find bsX1_actAlone 20 = bkX1_actAlone_20 := rfl
theorem fdX1_actAlone_51 : gw_find bsX1_actAlone 51 = bkX1_actAlone_51 := rfl
theorem fdX1_actAlone_71 : gw_find bsX1_actAlone 71 = bkX1_actAlone_71 := rfl
set_option maxRecDepth 40000 in
theorem stX1_actAlone : gw_sta sgX1_actAlone bsX1_actAlone := ⟨by decide +kernel, gw_mem2 (i := 4236) rfl rfl, gw_all (by decide +kernel)⟩
def bkX9_init_0 : List gw_E := [(0, 1, .aload_n 0, [0], [], []), (1, 3, .invokespecial 3, [0, 2, 1182, 1025, 1026, 0], [], []), (4, 1, .aload_n 0, [0], [], []), (5, 2, .bipush 12, [], [12], []), (7, 2, .newarray .int, [], [], []), (9, 3, .putfield 9, [9, 0, 1, 1183], [], []), (12, 1, .aload_n 0, [0], [], []), (13, 2, .bipush 12, [], [12], []), (15, 2, .newarray .int, [], [], []), (17, 3, .putfield 15, [9, 1, 1, 1186], [], []), (20, 1, .aload_n 0, [0], [], []), (21, 2, .bipush 12, [], [12], []), (23, 2, .newarray .int, [], [], []), (25, 3, .putfield 18, [9, 2, 1, 1189], [], []), (28, 1, .return_, [], [], [])]
def bsX9_init : List (Nat × List gw_E) := [(0, bkX9_init_0)]
theorem fdX9_init_0 : gw_find bsX9_init 0 = bkX9_init_0 := rfl
set_option maxRecDepth 40000 in
theorem stX9_init : gw_sta sgX9_init bsX9_init := ⟨by decide +kernel, gw_mem2 (i := 1181) rfl rfl, gw_all (by decide +kernel)⟩
def bkX9_copyFrom_0 : List gw_E := [(0, 1, .aload_n 1, [1], [], []), (1, 3, .getfield 9, [9, 0, 1, 1183], [], []), (4, 1, .iconst 0, [], [0], []), (5, 1, .aload_n 0, [0], [], []), (6, 3, .getfield 9, [9, 0, 1, 1183], [], []), (9, 1, .iconst 0, [], [0], []), (10, 2, .bipush 12, [], [12], []), (12, 3, .invokestatic 21, [5, 2, 3008, 2224, 2223, 1014], [], []), (15, 1, .aload_n 1, [1], [], []), (16, 3, .getfield 15, [9, 1, 1, 1186], [], []), (19, 1, .iconst 0, [], [0], []), (20, 1, .aload_n 0, [0], [], []), (21, 3, .getfield 15, [9, 1, 1, 1186], [], []), (24, 1, .iconst 0, [], [0], []), (25, 2, .bipush 12, [], [12], []), (27, 3, .invokestatic 21, [5, 2, 3008, 2224, 2223, 1014], [], []), (30, 1, .aload_n 1, [1], [], []), (31, 3, .getfield 18, [9, 2, 1, 1189], [], []), (34, 1, .iconst 0, [], [0], []), (35, 1, .aload_n 0, [0], [], []), (36, 3, .getfield 18, [9, 2, 1, 1189], [], []), (39, 1, .iconst 0, [], [0], []), (40, 2, .bipush 12, [], [12], []), (42, 3, .invokestatic 21, [5, 2, 3008, 2224, 2223, 1014], [], []), (45, 1, .aload_n 0, [0], [], []), (46, 1, .aload_n 1, [1], [], []), (47, 3, .getfield 27, [9, 3, 0, 1192], [], []), (50, 3, .putfield 27, [9, 3, 0, 1192], [], []), (53, 1, .return_, [], [], [])]
def bsX9_copyFrom : List (Nat × List gw_E) := [(0, bkX9_copyFrom_0)]
theorem fdX9_copyFrom_0 : gw_find bsX9_copyFrom 0 = bkX9_copyFrom_0 := rfl
set_option maxRecDepth 40000 in
theorem stX9_copyFrom : gw_sta sgX9_copyFrom bsX9_copyFrom := ⟨by decide +kernel, gw_mem2 (i := 3007) rfl rfl, gw_all (by decide +kernel)⟩
def bkX9_add_0 : List gw_E := [(0, 1, .aload_n 0, [0], [], []), (1, 3, .getfield 9, [9, 0, 1, 1183], [], []), (4, 1, .aload_n 0, [0], [], []), (5, 3, .getfield 27, [9, 3, 0, 1192], [], []), (8, 1, .iload_n 1, [1], [], []), (9, 1, .iastore, [], [], []), (10, 1, .aload_n 0, [0], [], []), (11, 3, .getfield 15, [9, 1, 1, 1186], [], []), (14, 1, .aload_n 0, [0], [], []), (15, 3, .getfield 27, [9, 3, 0, 1192], [], []), (18, 1, .iload_n 2, [2], [], []), (19, 1, .iastore, [], [], []), (20, 1, .aload_n 0, [0], [], []), (21, 3, .getfield 18, [9, 2, 1, 1189], [], []), (24, 1, .aload_n 0, [0], [], []), (25, 3, .getfield 27, [9, 3, 0, 1192], [], []), (28, 1, .iload_n 3, [3], [], []), (29, 1, .iastore, [], [], []), (30, 1, .aload_n 0, [0], [], []), (31, 1, .dup, [], [], []), (32, 3, .getfield 27, [9, 3, 0, 1192], [], []), (35, 1, .iconst 1, [], [1], []), (36, 1, .iadd, [], [], []), (37, 3, .putfield 27, [9, 3, 0, 1192], [], []), (40, 1, .return_, [], [], [])]
def bsX9_add : List (Nat × List gw_E) := [(0, bkX9_add_0)]
theorem fdX9_add_0 : gw_find bsX9_add 0 = bkX9_add_0 := rfl
set_option maxRecDepth 40000 in
theorem stX9_add : gw_sta sgX9_add bsX9_add := ⟨by decide +kernel, gw_mem2 (i := 4094) rfl rfl, gw_all (by decide +kernel)⟩
def bkX9_removeAt_0 : List gw_E := [(0, 1, .aload_n 0, [0], [], []), (1, 3, .getfield 27, [9, 3, 0, 1192], [], []), (4, 1, .iconst 1, [], [1], []), (5, 1, .isub, [], [], []), (6, 1, .iload_n 1, [1], [], []), (7, 1, .isub, [], [], []), (8, 1, .istore_n 2, [2], [], []), (9, 1, .aload_n 0, [0], [], []), (10, 3, .getfield 9, [9, 0, 1, 1183], [], []), (13, 1, .iload_n 1, [1], [], []), (14, 1, .iconst 1, [], [1], []), (15, 1, .iadd, [], [], []), (16, 1, .aload_n 0, [0], [], []), (17, 3, .getfield 9, [9, 0, 1, 1183], [], []), (20, 1, .iload_n 1, [1], [], []), (21, 1, .iload_n 2, [2], [], []), (22, 3, .invokestatic 21, [5, 2, 3008, 2224, 2223, 1014], [], []), (25, 1, .aload_n 0, [0], [], []), (26, 3, .getfield 15, [9, 1, 1, 1186], [], []), (29, 1, .iload_n 1, [1], [], []), (30, 1, .iconst 1, [], [1], []), (31, 1, .iadd, [], [], []), (32, 1, .aload_n 0, [0], [], []), (33, 3, .getfield 15, [9, 1, 1, 1186], [], []), (36, 1, .iload_n 1, [1], [], []), (37, 1, .iload_n 2, [2], [], []), (38, 3, .invokestatic 21, [5, 2, 3008, 2224, 2223, 1014], [], []), (41, 1, .aload_n 0, [0], [], []), (42, 3, .getfield 18, [9, 2, 1, 1189], [], []), (45, 1, .iload_n 1, [1], [], []), (46, 1, .iconst 1, [], [1], []), (47, 1, .iadd, [], [], []), (48, 1, .aload_n 0, [0], [], []), (49, 3, .getfield 18, [9, 2, 1, 1189], [], []), (52, 1, .iload_n 1, [1], [], []), (53, 1, .iload_n 2, [2], [], []), (54, 3, .invokestatic 21, [5, 2, 3008, 2224, 2223, 1014], [], []), (57, 1, .aload_n 0, [0], [], []), (58, 1, .dup, [], [], []), (59, 3, .getfield 27, [9, 3, 0, 1192], [], []), (62, 1, .iconst 1, [], [1], []), (63, 1, .isub, [], [], []), (64, 3, .putfield 27, [9, 3, 0, 1192], [], []), (67, 1, .return_, [], [], [])]
def bsX9_removeAt : List (Nat × List gw_E) := [(0, bkX9_removeAt_0)]
theorem fdX9_removeAt_0 : gw_find bsX9_removeAt 0 = bkX9_removeAt_0 := rfl
set_option maxRecDepth 40000 in
theorem stX9_removeAt : gw_sta sgX9_removeAt bsX9_removeAt := ⟨by decide +kernel, gw_mem2 (i := 4102) rfl rfl, gw_all (by decide +kernel)⟩
def bkX9_isAhead_0 : List gw_E := [(0, 1, .aload_n 0, [0], [], []), (1, 3, .getfield 9, [9, 0, 1, 1183], [], []), (4, 1, .iload_n 1, [1], [], []), (5, 1, .iaload, [], [], []), (6, 1, .aload_n 0, [0], [], []), (7, 3, .getfield 9, [9, 0, 1, 1183], [], []), (10, 1, .iload_n 2, [2], [], []), (11, 1, .iaload, [], [], []), (12, 3, .if_icmp .eq 24, [36], [], []), (15, 1, .aload_n 0, [0], [], []), (16, 3, .getfield 9, [9, 0, 1, 1183], [], []), (19, 1, .iload_n 1, [1], [], []), (20, 1, .iaload, [], [], []), (21, 1, .aload_n 0, [0], [], []), (22, 3, .getfield 9, [9, 0, 1, 1183], [], []), (25, 1, .iload_n 2, [2], [], []), (26, 1, .iaload, [], [], []), (27, 3, .if_icmp .ge 7, [34], [], []), (30, 1, .iconst 1, [], [1], []), (31, 3, .goto 4, [35], [], [])]
def bkX9_isAhead_34 : List gw_E := [(34, 1, .iconst 0, [], [0], [])]
def bkX9_isAhead_35 : List gw_E := [(35, 1, .ireturn, [1], [], [])]
def bkX9_isAhead_36 : List gw_E := [(36, 1, .aload_n 0, [0], [], []), (37, 3, .getfield 15, [9, 1, 1, 1186], [], []), (40, 1, .iload_n 1, [1], [], []), (41, 1, .iaload, [], [], []), (42, 1, .aload_n 0, [0], [], []), (43, 3, .getfield 15, [9, 1, 1, 1186], [], []), (46, 1, .iload_n 2, [2], [], []), (47, 1, .iaload, [], [], []), (48, 3, .if_icmp .eq 24, [72], [], []), (51, 1, .aload_n 0, [0], [], []), (52, 3, .getfield 15, [9, 1, 1, 1186], [], []), (55, 1, .iload_n 1, [1], [], []), (56, 1, .iaload, [], [], []), (57, 1, .aload_n 0, [0], [], []), (58, 3, .getfield 15, [9, 1, 1, 1186], [], []), (61, 1, .iload_n 2, [2], [], []), (62, 1, .iaload, [], [], []), (63, 3, .if_icmp .ge 7, [70], [], []), (66, 1, .iconst 1, [], [1], []), (67, 3, .goto 4, [71], [], [])]
def bkX9_isAhead_70 : List gw_E := [(70, 1, .iconst 0, [], [0], [])]
def bkX9_isAhead_71 : List gw_E := [(71, 1, .ireturn, [1], [], [])]
def bkX9_isAhead_72 : List gw_E := [(72, 1, .iload_n 1, [1], [], []), (73, 1, .iload_n 2, [2], [], []), (74, 3, .if_icmp .ge 7, [81], [], []), (77, 1, .iconst 1, [], [1], []), (78, 3, .goto 4, [82], [], [])]
def bkX9_isAhead_81 : List gw_E := [(81, 1, .iconst 0, [], [0], [])]
def bkX9_isAhead_82 : List gw_E := [(82, 1, .ireturn, [1], [], [])]
def bsX9_isAhead : List (Nat × List gw_E) := [(0, bkX9_isAhead_0), (34, bkX9_isAhead_34), (35, bkX9_isAhead_35), (36, bkX9_isAhead_36), (70, bkX9_isAhead_70), (71, bkX9_isAhead_71), (72, bkX9_isAhead_72), (81, bkX9_isAhead_81), (82, bkX9_isAhead_82)]
theorem fdX9_isAhead_0 : gw_find bsX9_isAhead 0 = bkX9_isAhead_0 := rfl
theorem fdX9_isAhead_34 : gw_find bsX9_isAhead 34 = bkX9_isAhead_34 := rfl
theorem fdX9_isAhead_35 : gw_find bsX9_isAhead 35 = bkX9_isAhead_35 := rfl
theorem fdX9_isAhead_36 : gw_find bsX9_isAhead 36 = bkX9_isAhead_36 := rfl
theorem fdX9_isAhead_70 : gw_find bsX9_isAhead 70 = bkX9_isAhead_70 := rfl
theorem fdX9_isAhead_71 : gw_find bsX9_isAhead 71 = bkX9_isAhead_71 := rfl
theorem fdX9_isAhead_72 : gw_find bsX9_isAhead 72 = bkX9_isAhead_72 := rfl
theorem fdX9_isAhead_81 : gw_find bsX9_isAhead 81 = bkX9_isAhead_81 := rfl
theorem fdX9_isAhead_82 : gw_find bsX9_isAhead 82 = bkX9_isAhead_82 := rfl
set_option maxRecDepth 40000 in
theorem stX9_isAhead : gw_sta sgX9_isAhead bsX9_isAhead := ⟨by decide +kernel, gw_mem2 (i := 4155) rfl rfl, gw_all (by decide +kernel)⟩
def bkX2_init_0 : List gw_E := [(0, 1, .aload_n 0, [0], [], []), (1, 3, .invokespecial 3, [0, 2, 1209, 1025, 1026, 0], [], []), (4, 1, .aload_n 0, [0], [], []), (5, 2, .bipush 24, [], [24], []), (7, 2, .newarray .int, [], [], []), (9, 3, .putfield 9, [2, 0, 1, 1210], [], []), (12, 1, .aload_n 0, [0], [], []), (13, 2, .bipush 24, [], [24], []), (15, 2, .newarray .int, [], [], []), (17, 3, .putfield 15, [2, 1, 1, 1211], [], []), (20, 1, .aload_n 0, [0], [], []), (21, 2, .bipush 24, [], [24], []), (23, 2, .newarray .int, [], [], []), (25, 3, .putfield 18, [2, 2, 1, 1212], [], []), (28, 1, .aload_n 0, [0], [], []), (29, 2, .bipush 24, [], [24], []), (31, 2, .newarray .int, [], [], []), (33, 3, .putfield 21, [2, 3, 1, 1213], [], []), (36, 1, .aload_n 0, [0], [], []), (37, 1, .iconst 2, [], [2], []), (38, 2, .newarray .int, [], [], []), (40, 3, .putfield 24, [2, 4, 1, 1214], [], []), (43, 1, .aload_n 0, [0], [], []), (44, 1, .iconst (-1), [], [-1], []), (45, 3, .putfield 27, [2, 5, 0, 1217], [], []), (48, 1, .aload_n 0, [0], [], []), (49, 1, .iconst (-1), [], [-1], []), (50, 3, .putfield 31, [2, 6, 0, 1219], [], []), (53, 1, .aload_n 0, [0], [], []), (54, 2, .bipush 24, [], [24], []), (56, 2, .newarray .int, [], [], []), (58, 3, .putfield 34, [2, 7, 1, 1221], [], []), (61, 1, .aload_n 0, [0], [], []), (62, 2, .bipush 24, [], [24], []), (64, 2, .newarray .int, [], [], []), (66, 3, .putfield 37, [2, 10, 1, 1225], [], []), (69, 1, .aload_n 0, [0], [], []), (70, 1, .iconst 4, [], [4], []), (71, 2, .newarray .int, [], [], []), (73, 3, .putfield 40, [2, 11, 1, 1228], [], []), (76, 1, .aload_n 0, [0], [], []), (77, 1, .iconst 2, [], [2], []), (78, 2, .newarray .int, [], [], []), (80, 3, .putfield 43, [2, 12, 1, 1231], [], []), (83, 1, .aload_n 0, [0], [], []), (84, 1, .iconst 2, [], [2], []), (85, 2, .newarray .int, [], [], []), (87, 1, .dup, [], [], []), (88, 1, .iconst 0, [], [0], []), (89, 1, .iconst (-1), [], [-1], []), (90, 1, .iastore, [], [], []), (91, 1, .dup, [], [], []), (92, 1, .iconst 1, [], [1], []), (93, 1, .iconst (-1), [], [-1], []), (94, 1, .iastore, [], [], []), (95, 3, .putfield 46, [2, 13, 1, 1234], [], []), (98, 1, .aload_n 0, [0], [], []), (99, 1, .iconst 2, [], [2], []), (100, 2, .newarray .int, [], [], []), (102, 1, .dup, [], [], []), (103, 1, .iconst 0, [], [0], []), (104, 1, .iconst (-1), [], [-1], []), (105, 1, .iastore, [], [], []), (106, 1, .dup, [], [], []), (107, 1, .iconst 1, [], [1], []), (108, 1, .iconst (-1), [], [-1], []), (109, 1, .iastore, [], [], []), (110, 3, .putfield 49, [2, 14, 1, 1236], [], []), (113, 1, .return_, [], [], [])]
def bsX2_init : List (Nat × List gw_E) := [(0, bkX2_init_0)]
theorem fdX2_init_0 : gw_find bsX2_init 0 = bkX2_init_0 := rfl
set_option maxRecDepth 40000 in
theorem stX2_init : gw_sta sgX2_init bsX2_init := ⟨by decide +kernel, gw_mem2 (i := 1208) rfl rfl, gw_all (by decide +kernel)⟩
def bkX2_copyFrom_0 : List gw_E := [(0, 1, .aload_n 1, [1], [], []), (1, 3, .getfield 9, [2, 0, 1, 1210], [], []), (4, 1, .iconst 0, [], [0], []), (5, 1, .aload_n 0, [0], [], []), (6, 3, .getfield 9, [2, 0, 1, 1210], [], []), (9, 1, .iconst 0, [], [0], []), (10, 2, .bipush 24, [], [24], []), (12, 3, .invokestatic 52, [5, 2, 3013, 2224, 2223, 1014], [], []), (15, 1, .aload_n 1, [1], [], []), (16, 3, .getfield 15, [2, 1, 1, 1211], [], []), (19, 1, .iconst 0, [], [0], []), (20, 1, .aload_n 0, [0], [], []), (21, 3, .getfield 15, [2, 1, 1, 1211], [], []), (24, 1, .iconst 0, [], [0], []), (25, 2, .bipush 24, [], [24], []), (27, 3, .invokestatic 52, [5, 2, 3013, 2224, 2223, 1014], [], []), (30, 1, .aload_n 1, [1], [], []), (31, 3, .getfield 18, [2, 2, 1, 1212], [], []), (34, 1, .iconst 0, [], [0], []), (35, 1, .aload_n 0, [0], [], []), (36, 3, .getfield 18, [2, 2, 1, 1212], [], []), (39, 1, .iconst 0, [], [0], []), (40, 2, .bipush 24, [], [24], []), (42, 3, .invokestatic 52, [5, 2, 3013, 2224, 2223, 1014], [], []), (45, 1, .aload_n 1, [1], [], []), (46, 3, .getfield 21, [2, 3, 1, 1213], [], []), (49, 1, .iconst 0, [], [0], []), (50, 1, .aload_n 0, [0], [], []), (51, 3, .getfield 21, [2, 3, 1, 1213], [], []), (54, 1, .iconst 0, [], [0], []), (55, 2, .bipush 24, [], [24], []), (57, 3, .invokestatic 52, [5, 2, 3013, 2224, 2223, 1014], [], []), (60, 1, .aload_n 1, [1], [], []), (61, 3, .getfield 24, [2, 4, 1, 1214], [], []), (64, 1, .iconst 0, [], [0], []), (65, 1, .aload_n 0, [0], [], []), (66, 3, .getfield 24, [2, 4, 1, 1214], [], []), (69, 1, .iconst 0, [], [0], []), (70, 1, .aload_n 0, [0], [], []), (71, 3, .getfield 24, [2, 4, 1, 1214], [], []), (74, 1, .arraylength, [], [], []), (75, 3, .invokestatic 52, [5, 2, 3013, 2224, 2223, 1014], [], []), (78, 1, .aload_n 0, [0], [], []), (79, 1, .aload_n 1, [1], [], []), (80, 3, .getfield 27, [2, 5, 0, 1217], [], []), (83, 3, .putfield 27, [2, 5, 0, 1217], [], []), (86, 1, .aload_n 0, [0], [], []), (87, 1, .aload_n 1, [1], [], []), (88, 3, .getfield 31, [2, 6, 0, 1219], [], []), (91, 3, .putfield 31, [2, 6, 0, 1219], [], []), (94, 1, .aload_n 1, [1], [], []), (95, 3, .getfield 34, [2, 7, 1, 1221], [], []), (98, 1, .iconst 0, [], [0], []), (99, 1, .aload_n 0, [0], [], []), (100, 3, .getfield 34, [2, 7, 1, 1221], [], []), (103, 1, .iconst 0, [], [0], []), (104, 2, .bipush 24, [], [24], []), (106, 3, .invokestatic 52, [5, 2, 3013, 2224, 2223, 1014], [], []), (109, 1, .aload_n 0, [0], [], []), (110, 1, .aload_n 1, [1], [], []), (111, 3, .getfield 58, [2, 8, 0, 1222], [], []), (114, 3, .putfield 58, [2, 8, 0, 1222], [], []), (117, 1, .aload_n 0, [0], [], []), (118, 1, .aload_n 1, [1], [], []), (119, 3, .getfield 61, [2, 9, 0, 1223], [], []), (122, 3, .putfield 61, [2, 9, 0, 1223], [], []), (125, 1, .aload_n 1, [1], [], []), (126, 3, .getfield 37, [2, 10, 1, 1225], [], []), (129, 1, .iconst 0, [], [0], []), (130, 1, .aload_n 0, [0], [], []), (131, 3, .getfield 37, [2, 10, 1, 1225], [], []), (134, 1, .iconst 0, [], [0], []), (135, 1, .aload_n 0, [0], [], []), (136, 3, .getfield 37, [2, 10, 1, 1225], [], []), (139, 1, .arraylength, [], [], []), (140, 3, .invokestatic 52, [5, 2, 3013, 2224, 2223, 1014], [], []), (143, 1, .aload_n 1, [1], [], []), (144, 3, .getfield 40, [2, 11, 1, 1228], [], []), (147, 1, .iconst 0, [], [0], []), (148, 1, .aload_n 0, [0], [], []), (149, 3, .getfield 40, [2, 11, 1, 1228], [], []), (152, 1, .iconst 0, [], [0], []), (153, 1, .aload_n 0, [0], [], []), (154, 3, .getfield 40, [2, 11, 1, 1228], [], []), (157, 1, .arraylength, [], [], []), (158, 3, .invokestatic 52, [5, 2, 3013, 2224, 2223, 1014], [], []), (161, 1, .aload_n 1, [1], [], []), (162, 3, .getfield 43, [2, 12, 1, 1231], [], []), (165, 1, .iconst 0, [], [0], []), (166, 1, .aload_n 0, [0], [], []), (167, 3, .getfield 43, [2, 12, 1, 1231], [], []), (170, 1, .iconst 0, [], [0], []), (171, 1, .aload_n 0, [0], [], []), (172, 3, .getfield 43, [2, 12, 1, 1231], [], []), (175, 1, .arraylength, [], [], []), (176, 3, .invokestatic 52, [5, 2, 3013, 2224, 2223, 1014], [], []), (179, 1, .aload_n 1, [1], [], []), (180, 3, .getfield 46, [2, 13, 1, 1234], [], []), (183, 1, .iconst 0, [], [0], []), (184, 1, .aload_n 0, [0], [], []), (185, 3, .getfield 46, [2, 13, 1, 1234], [], []), (188, 1, .iconst 0, [], [0], []), (189, 1, .aload_n 0, [0], [], []), (190, 3, .getfield 46, [2, 13, 1, 1234], [], []), (193, 1, .arraylength, [], [], []), (194, 3, .invokestatic 52, [5, 2, 3013, 2224, 2223, 1014], [], []), (197, 1, .aload_n 1, [1], [], []), (198, 3, .getfield 49, [2, 14, 1, 1236], [], []), (201, 1, .iconst 0, [], [0], []), (202, 1, .aload_n 0, [0], [], []), (203, 3, .getfield 49, [2, 14, 1, 1236], [], []), (206, 1, .iconst 0, [], [0], []), (207, 1, .aload_n 0, [0], [], []), (208, 3, .getfield 49, [2, 14, 1, 1236], [], []), (211, 1, .arraylength, [], [], []), (212, 3, .invokestatic 52, [5, 2, 3013, 2224, 2223, 1014], [], []), (215, 1, .return_, [], [], [])]
def bsX2_copyFrom : List (Nat × List gw_E) := [(0, bkX2_copyFrom_0)]
theorem fdX2_copyFrom_0 : gw_find bsX2_copyFrom 0 = bkX2_copyFrom_0 := rfl
set_option maxRecDepth 40000 in
theorem stX2_copyFrom : gw_sta sgX2_copyFrom bsX2_copyFrom := ⟨by decide +kernel, gw_mem2 (i := 3012) rfl rfl, gw_all (by decide +kernel)⟩
def bkX2_allExits_0 : List gw_E := [(0, 1, .aload_n 0, [0], [], []), (1, 3, .getfield 24, [2, 4, 1, 1214], [], []), (4, 1, .iconst 0, [], [0], []), (5, 1, .iaload, [], [], []), (6, 1, .aload_n 0, [0], [], []), (7, 3, .getfield 24, [2, 4, 1, 1214], [], []), (10, 1, .iconst 1, [], [1], []), (11, 1, .iaload, [], [], []), (12, 1, .iadd, [], [], []), (13, 1, .ireturn, [0], [], [])]
def bsX2_allExits : List (Nat × List gw_E) := [(0, bkX2_allExits_0)]
theorem fdX2_allExits_0 : gw_find bsX2_allExits 0 = bkX2_allExits_0 := rfl
set_option maxRecDepth 40000 in
theorem stX2_allExits : gw_sta sgX2_allExits bsX2_allExits := ⟨by decide +kernel, gw_mem2 (i := 4191) rfl rfl, gw_all (by decide +kernel)⟩
def bkX2_exitsKept_0 : List gw_E := [(0, 1, .aload_n 0, [0], [], []), (1, 3, .invokevirtual 64, [0, 2, 5139, 4189, 4190, 1009], [], [sgX2_allExits]), (4, 2, .bipush 24, [], [24], []), (6, 3, .invokestatic 68, [2, 0, 5070, 5071, 1015, 0], [], [sgJ9_min_7cf53]), (9, 1, .ireturn, [0], [], [])]
def bsX2_exitsKept : List (Nat × List gw_E) := [(0, bkX2_exitsKept_0)]
theorem fdX2_exitsKept_0 : gw_find bsX2_exitsKept 0 = bkX2_exitsKept_0 := rfl
set_option maxRecDepth 40000 in
theorem stX2_exitsKept : gw_sta sgX2_exitsKept bsX2_exitsKept := ⟨by decide +kernel, gw_mem2 (i := 5138) rfl rfl, gw_all (by decide +kernel)⟩
def bkX2_writeExit_0 : List gw_E := [(0, 1, .aload_n 0, [0], [], []), (1, 3, .getfield 24, [2, 4, 1, 1214], [], []), (4, 1, .iconst 0, [], [0], []), (5, 1, .iaload, [], [], []), (6, 1, .aload_n 0, [0], [], []), (7, 3, .getfield 24, [2, 4, 1, 1214], [], []), (10, 1, .iconst 1, [], [1], []), (11, 1, .iaload, [], [], []), (12, 1, .iadd, [], [], []), (13, 2, .bipush 24, [], [24], []), (15, 1, .irem, [], [], []), (16, 2, .istore 5, [5], [], []), (18, 1, .aload_n 0, [0], [], []), (19, 3, .getfield 9, [2, 0, 1, 1210], [], []), (22, 2, .iload 5, [5], [], []), (24, 1, .iload_n 1, [1], [], []), (25, 1, .iastore, [], [], []), (26, 1, .aload_n 0, [0], [], []), (27, 3, .getfield 15, [2, 1, 1, 1211], [], []), (30, 2, .iload 5, [5], [], []), (32, 1, .iload_n 2, [2], [], []), (33, 1, .iastore, [], [], []), (34, 1, .aload_n 0, [0], [], []), (35, 3, .getfield 18, [2, 2, 1, 1212], [], []), (38, 2, .iload 5, [5], [], []), (40, 1, .iload_n 3, [3], [], []), (41, 1, .iastore, [], [], []), (42, 1, .aload_n 0, [0], [], []), (43, 3, .getfield 21, [2, 3, 1, 1213], [], []), (46, 2, .iload 5, [5], [], []), (48, 2, .iload 4, [4], [], []), (50, 1, .iastore, [], [], []), (51, 1, .aload_n 0, [0], [], []), (52, 3, .getfield 24, [2, 4, 1, 1214], [], []), (55, 1, .iload_n 1, [1], [], []), (56, 1, .dup2, [], [], []), (57, 1, .iaload, [], [], []), (58, 1, .iconst 1, [], [1], []), (59, 1, .iadd, [], [], []), (60, 1, .iastore, [], [], []), (61, 1, .iload_n 1, [1], [], []), (62, 1, .iconst 1, [], [1], []), (63, 3, .if_icmp .ne 13, [76], [], []), (66, 1, .aload_n 0, [0], [], []), (67, 1, .iload_n 2, [2], [], []), (68, 3, .putfield 27, [2, 5, 0, 1217], [], []), (71, 1, .aload_n 0, [0], [], []), (72, 1, .iload_n 3, [3], [], []), (73, 3, .putfield 31, [2, 6, 0, 1219], [], [])]
def bkX2_writeExit_76 : List gw_E := [(76, 1, .return_, [], [], [])]
def bsX2_writeExit : List (Nat × List gw_E) := [(0, bkX2_writeExit_0), (76, bkX2_writeExit_76)]
theorem fdX2_writeExit_0 : gw_find bsX2_writeExit 0 = bkX2_writeExit_0 := rfl
theorem fdX2_writeExit_76 : gw_find bsX2_writeExit 76 = bkX2_writeExit_76 := rfl
set_option maxRecDepth 40000 in
theorem stX2_writeExit : gw_sta sgX2_writeExit bsX2_writeExit := ⟨by decide +kernel, gw_mem2 (i := 3064) rfl rfl, gw_all (by decide +kernel)⟩
def bkX2_exitAt_0 : List gw_E := [(0, 1, .iload_n 1, [1], [], []), (1, 1, .iconst 0, [], [0], []), (2, 1, .aload_n 0, [0], [], []), (3, 3, .invokevirtual 74, [0, 2, 5144, 5136, 5137, 1009], [], [sgX2_exitsKept]), (6, 1, .iconst 1, [], [1], []), (7, 1, .isub, [], [], []), (8, 3, .invokestatic 77, [3, 1, 5078, 2203, 1001, 0], [], [sgX10_within]), (11, 3, .ifCond .ne 6, [17], [], []), (14, 2, .bipush (-2), [], [-2], []), (16, 1, .ireturn, [0], [], [])]
def bkX2_exitAt_17 : List gw_E := [(17, 1, .aload_n 0, [0], [], []), (18, 3, .invokevirtual 64, [0, 2, 5139, 4189, 4190, 1009], [], [sgX2_allExits]), (21, 1, .aload_n 0, [0], [], []), (22, 3, .invokevirtual 74, [0, 2, 5144, 5136, 5137, 1009], [], [sgX2_exitsKept]), (25, 1, .isub, [], [], []), (26, 1, .iload_n 1, [1], [], []), (27, 1, .iadd, [], [], []), (28, 2, .bipush 24, [], [24], []), (30, 1, .irem, [], [], []), (31, 1, .istore_n 3, [3], [], []), (32, 1, .iload_n 2, [2], [], []), (33, 31, .tableswitch 59 0 3 #[31, 38, 45, 52], [92, 64, 71, 78, 85], [0], [])]
def bkX2_exitAt_64 : List gw_E := [(64, 1, .aload_n 0, [0], [], []), (65, 3, .getfield 9, [2, 0, 1, 1210], [], []), (68, 1, .iload_n 3, [3], [], []), (69, 1, .iaload, [], [], []), (70, 1, .ireturn, [0], [], [])]
def bkX2_exitAt_71 : List gw_E := [(71, 1, .aload_n 0, [0], [], []), (72, 3, .getfield 15, [2, 1, 1, 1211], [], []), (75, 1, .iload_n 3, [3], [], []), (76, 1, .iaload, [], [], []), (77, 1, .ireturn, [0], [], [])]
def bkX2_exitAt_78 : List gw_E := [(78, 1, .aload_n 0, [0], [], []), (79, 3, .getfield 18, [2, 2, 1, 1212], [], []), (82, 1, .iload_n 3, [3], [], []), (83, 1, .iaload, [], [], []), (84, 1, .ireturn, [0], [], [])]
def bkX2_exitAt_85 : List gw_E := [(85, 1, .aload_n 0, [0], [], []), (86, 3, .getfield 21, [2, 3, 1, 1213], [], []), (89, 1, .iload_n 3, [3], [], []), (90, 1, .iaload, [], [], []), (91, 1, .ireturn, [0], [], [])]
def bkX2_exitAt_92 : List gw_E := [(92, 2, .bipush (-2), [], [-2], []), (94, 1, .ireturn, [0], [], [])]
def bsX2_exitAt : List (Nat × List gw_E) := [(0, bkX2_exitAt_0), (17, bkX2_exitAt_17), (64, bkX2_exitAt_64), (71, bkX2_exitAt_71), (78, bkX2_exitAt_78), (85, bkX2_exitAt_85), (92, bkX2_exitAt_92)]
theorem fdX2_exitAt_0 : gw_find bsX2_exitAt 0 = bkX2_exitAt_0 := rfl
theorem fdX2_exitAt_17 : gw_find bsX2_exitAt 17 = bkX2_exitAt_17 := rfl
theorem fdX2_exitAt_64 : gw_find bsX2_exitAt 64 = bkX2_exitAt_64 := rfl
theorem fdX2_exitAt_71 : gw_find bsX2_exitAt 71 = bkX2_exitAt_71 := rfl
theorem fdX2_exitAt_78 : gw_find bsX2_exitAt 78 = bkX2_exitAt_78 := rfl
theorem fdX2_exitAt_85 : gw_find bsX2_exitAt 85 = bkX2_exitAt_85 := rfl
theorem fdX2_exitAt_92 : gw_find bsX2_exitAt 92 = bkX2_exitAt_92 := rfl
set_option maxRecDepth 40000 in
theorem stX2_exitAt : gw_sta sgX2_exitAt bsX2_exitAt := ⟨by decide +kernel, gw_mem2 (i := 5143) rfl rfl, gw_all (by decide +kernel)⟩
def bkX2_exitsBy_0 : List gw_E := [(0, 1, .iconst 0, [], [0], []), (1, 1, .istore_n 2, [2], [], []), (2, 1, .iconst 0, [], [0], []), (3, 1, .istore_n 3, [3], [], [])]
def bkX2_exitsBy_4 : List gw_E := [(4, 1, .iload_n 3, [3], [], []), (5, 1, .aload_n 0, [0], [], []), (6, 3, .invokevirtual 74, [0, 2, 5144, 5136, 5137, 1009], [], [sgX2_exitsKept]), (9, 3, .if_icmp .ge 22, [31], [], []), (12, 1, .aload_n 0, [0], [], []), (13, 3, .getfield 15, [2, 1, 1, 1211], [], []), (16, 1, .iload_n 3, [3], [], []), (17, 1, .iaload, [], [], []), (18, 1, .iload_n 1, [1], [], []), (19, 3, .if_icmp .ne 6, [25], [], []), (22, 3, .iinc 2 1, [2], [1], [])]
def bkX2_exitsBy_25 : List gw_E := [(25, 3, .iinc 3 1, [3], [1], []), (28, 3, .goto (-24), [4], [], [])]
def bkX2_exitsBy_31 : List gw_E := [(31, 1, .iload_n 2, [2], [], []), (32, 1, .ireturn, [0], [], [])]
def bsX2_exitsBy : List (Nat × List gw_E) := [(0, bkX2_exitsBy_0), (4, bkX2_exitsBy_4), (25, bkX2_exitsBy_25), (31, bkX2_exitsBy_31)]
theorem fdX2_exitsBy_0 : gw_find bsX2_exitsBy 0 = bkX2_exitsBy_0 := rfl
theorem fdX2_exitsBy_4 : gw_find bsX2_exitsBy 4 = bkX2_exitsBy_4 := rfl
theorem fdX2_exitsBy_25 : gw_find bsX2_exitsBy 25 = bkX2_exitsBy_25 := rfl
theorem fdX2_exitsBy_31 : gw_find bsX2_exitsBy 31 = bkX2_exitsBy_31 := rfl
set_option maxRecDepth 40000 in
theorem stX2_exitsBy : gw_sta sgX2_exitsBy bsX2_exitsBy := ⟨by decide +kernel, gw_mem2 (i := 5152) rfl rfl, gw_all (by decide +kernel)⟩
def bkX2_hear_0 : List gw_E := [(0, 1, .aload_n 0, [0], [], []), (1, 3, .getfield 34, [2, 7, 1, 1221], [], []), (4, 1, .aload_n 0, [0], [], []), (5, 3, .getfield 58, [2, 8, 0, 1222], [], []), (8, 2, .bipush 24, [], [24], []), (10, 1, .irem, [], [], []), (11, 1, .iload_n 1, [1], [], []), (12, 1, .iastore, [], [], []), (13, 1, .aload_n 0, [0], [], []), (14, 1, .dup, [], [], []), (15, 3, .getfield 58, [2, 8, 0, 1222], [], []), (18, 1, .iconst 1, [], [1], []), (19, 1, .iadd, [], [], []), (20, 3, .putfield 58, [2, 8, 0, 1222], [], []), (23, 1, .return_, [], [], [])]
def bsX2_hear : List (Nat × List gw_E) := [(0, bkX2_hear_0)]
theorem fdX2_hear_0 : gw_find bsX2_hear 0 = bkX2_hear_0 := rfl
set_option maxRecDepth 40000 in
theorem stX2_hear : gw_sta sgX2_hear bsX2_hear := ⟨by decide +kernel, gw_mem2 (i := 4005) rfl rfl, gw_all (by decide +kernel)⟩
def bkX2_heardKept_0 : List gw_E := [(0, 1, .aload_n 0, [0], [], []), (1, 3, .getfield 58, [2, 8, 0, 1222], [], []), (4, 2, .bipush 24, [], [24], []), (6, 3, .invokestatic 68, [2, 0, 5070, 5071, 1015, 0], [], [sgJ9_min_7cf53]), (9, 1, .ireturn, [0], [], [])]
def bsX2_heardKept : List (Nat × List gw_E) := [(0, bkX2_heardKept_0)]
theorem fdX2_heardKept_0 : gw_find bsX2_heardKept 0 = bkX2_heardKept_0 := rfl
set_option maxRecDepth 40000 in
theorem stX2_heardKept : gw_sta sgX2_heardKept bsX2_heardKept := ⟨by decide +kernel, gw_mem2 (i := 5069) rfl rfl, gw_all (by decide +kernel)⟩
def bkX2_heardAt_0 : List gw_E := [(0, 1, .iload_n 1, [1], [], []), (1, 1, .iconst 0, [], [0], []), (2, 1, .aload_n 0, [0], [], []), (3, 3, .invokevirtual 81, [0, 2, 5077, 5067, 5068, 1009], [], [sgX2_heardKept]), (6, 1, .iconst 1, [], [1], []), (7, 1, .isub, [], [], []), (8, 3, .invokestatic 77, [3, 1, 5078, 2203, 1001, 0], [], [sgX10_within]), (11, 3, .ifCond .ne 5, [16], [], []), (14, 1, .iconst (-1), [], [-1], []), (15, 1, .ireturn, [0], [], [])]
def bkX2_heardAt_16 : List gw_E := [(16, 1, .aload_n 0, [0], [], []), (17, 3, .getfield 34, [2, 7, 1, 1221], [], []), (20, 1, .aload_n 0, [0], [], []), (21, 3, .getfield 58, [2, 8, 0, 1222], [], []), (24, 1, .aload_n 0, [0], [], []), (25, 3, .invokevirtual 81, [0, 2, 5077, 5067, 5068, 1009], [], [sgX2_heardKept]), (28, 1, .isub, [], [], []), (29, 1, .iload_n 1, [1], [], []), (30, 1, .iadd, [], [], []), (31, 2, .bipush 24, [], [24], []), (33, 1, .irem, [], [], []), (34, 1, .iaload, [], [], []), (35, 1, .ireturn, [0], [], [])]
def bsX2_heardAt : List (Nat × List gw_E) := [(0, bkX2_heardAt_0), (16, bkX2_heardAt_16)]
theorem fdX2_heardAt_0 : gw_find bsX2_heardAt 0 = bkX2_heardAt_0 := rfl
theorem fdX2_heardAt_16 : gw_find bsX2_heardAt 16 = bkX2_heardAt_16 := rfl
set_option maxRecDepth 40000 in
theorem stX2_heardAt : gw_sta sgX2_heardAt bsX2_heardAt := ⟨by decide +kernel, gw_mem2 (i := 5076) rfl rfl, gw_all (by decide +kernel)⟩
def bkX2_noteTake_0 : List gw_E := [(0, 1, .aload_n 0, [0], [], []), (1, 3, .getfield 43, [2, 12, 1, 1231], [], []), (4, 1, .iload_n 1, [1], [], []), (5, 1, .iconst 1, [], [1], []), (6, 1, .isub, [], [], []), (7, 1, .dup2, [], [], []), (8, 1, .iaload, [], [], []), (9, 1, .iconst 1, [], [1], []), (10, 1, .iadd, [], [], []), (11, 1, .iastore, [], [], []), (12, 1, .aload_n 0, [0], [], []), (13, 3, .getfield 46, [2, 13, 1, 1234], [], []), (16, 1, .iload_n 1, [1], [], []), (17, 1, .iconst 1, [], [1], []), (18, 1, .isub, [], [], []), (19, 1, .iload_n 2, [2], [], []), (20, 1, .iastore, [], [], []), (21, 1, .aload_n 0, [0], [], []), (22, 3, .getfield 49, [2, 14, 1, 1236], [], []), (25, 1, .iload_n 1, [1], [], []), (26, 1, .iconst 1, [], [1], []), (27, 1, .isub, [], [], []), (28, 1, .aload_n 0, [0], [], []), (29, 3, .getfield 49, [2, 14, 1, 1236], [], []), (32, 1, .iload_n 1, [1], [], []), (33, 1, .iconst 1, [], [1], []), (34, 1, .isub, [], [], []), (35, 1, .iaload, [], [], []), (36, 1, .iload_n 3, [3], [], []), (37, 3, .invokestatic 84, [2, 0, 3077, 3078, 1015, 0], [], [sgJ9_max_7cf53]), (40, 1, .iastore, [], [], []), (41, 1, .return_, [], [], [])]
def bsX2_noteTake : List (Nat × List gw_E) := [(0, bkX2_noteTake_0)]
theorem fdX2_noteTake_0 : gw_find bsX2_noteTake 0 = bkX2_noteTake_0 := rfl
set_option maxRecDepth 40000 in
theorem stX2_noteTake : gw_sta sgX2_noteTake bsX2_noteTake := ⟨by decide +kernel, gw_mem2 (i := 3076) rfl rfl, gw_all (by decide +kernel)⟩
def bkX4_init_0 : List gw_E := [(0, 1, .aload_n 0, [0], [], []), (1, 3, .invokespecial 3, [0, 2, 1038, 1025, 1026, 0], [], []), (4, 1, .aload_n 0, [0], [], []), (5, 3, .new 9, [8, 1039, 1040, 1004], [], []), (8, 1, .dup, [], [], []), (9, 3, .invokespecial 11, [0, 0, 1041, 1042, 1004, 0], [], [sgX8_init]), (12, 3, .putfield 12, [4, 0, 1, 1070], [], []), (15, 1, .aload_n 0, [0], [], []), (16, 2, .bipush 10, [], [10], []), (18, 2, .newarray .int, [], [], []), (20, 3, .putfield 18, [4, 1, 1, 1073], [], []), (23, 1, .aload_n 0, [0], [], []), (24, 2, .bipush 16, [], [16], []), (26, 2, .newarray .int, [], [], []), (28, 3, .putfield 22, [4, 2, 1, 1076], [], []), (31, 1, .iconst 0, [], [0], []), (32, 1, .istore_n 1, [1], [], [])]
def bkX4_init_33 : List gw_E := [(33, 1, .iload_n 1, [1], [], []), (34, 2, .bipush 10, [], [10], []), (36, 3, .if_icmp .ge 19, [55], [], []), (39, 1, .aload_n 0, [0], [], []), (40, 3, .getfield 18, [4, 1, 1, 1073], [], []), (43, 1, .iload_n 1, [1], [], []), (44, 1, .iload_n 1, [1], [], []), (45, 2, .bipush 11, [], [11], []), (47, 1, .imul, [], [], []), (48, 1, .iastore, [], [], []), (49, 3, .iinc 1 1, [1], [1], []), (52, 3, .goto (-19), [33], [], [])]
def bkX4_init_55 : List gw_E := [(55, 1, .aload_n 0, [0], [], []), (56, 3, .getfield 22, [4, 2, 1, 1076], [], []), (59, 1, .iconst (-1), [], [-1], []), (60, 3, .invokestatic 25, [2, 0, 1069, 1046, 1005, 0], [], [sgJ7_fill_53178]), (63, 1, .return_, [], [], [])]
def bsX4_init : List (Nat × List gw_E) := [(0, bkX4_init_0), (33, bkX4_init_33), (55, bkX4_init_55)]
theorem fdX4_init_0 : gw_find bsX4_init 0 = bkX4_init_0 := rfl
theorem fdX4_init_33 : gw_find bsX4_init 33 = bkX4_init_33 := rfl
theorem fdX4_init_55 : gw_find bsX4_init 55 = bkX4_init_55 := rfl
set_option maxRecDepth 40000 in
theorem stX4_init : gw_sta sgX4_init bsX4_init := ⟨by decide +kernel, gw_mem2 (i := 1037) rfl rfl, gw_all (by decide +kernel)⟩
def bkX4_copyFrom_0 : List gw_E := [(0, 1, .aload_n 0, [0], [], []), (1, 3, .getfield 12, [4, 0, 1, 1070], [], []), (4, 1, .aload_n 1, [1], [], []), (5, 3, .getfield 12, [4, 0, 1, 1070], [], []), (8, 3, .invokevirtual 31, [1, 8, 2218, 2219, 2220, 1004], [], [sgX8_copyFrom]), (11, 1, .aload_n 1, [1], [], []), (12, 3, .getfield 18, [4, 1, 1, 1073], [], []), (15, 1, .iconst 0, [], [0], []), (16, 1, .aload_n 0, [0], [], []), (17, 3, .getfield 18, [4, 1, 1, 1073], [], []), (20, 1, .iconst 0, [], [0], []), (21, 2, .bipush 10, [], [10], []), (23, 3, .invokestatic 35, [5, 2, 2225, 2224, 2223, 1014], [], []), (26, 1, .aload_n 1, [1], [], []), (27, 3, .getfield 22, [4, 2, 1, 1076], [], []), (30, 1, .iconst 0, [], [0], []), (31, 1, .aload_n 0, [0], [], []), (32, 3, .getfield 22, [4, 2, 1, 1076], [], []), (35, 1, .iconst 0, [], [0], []), (36, 2, .bipush 16, [], [16], []), (38, 3, .invokestatic 35, [5, 2, 2225, 2224, 2223, 1014], [], []), (41, 1, .aload_n 0, [0], [], []), (42, 1, .aload_n 1, [1], [], []), (43, 3, .getfield 41, [4, 3, 0, 1079], [], []), (46, 3, .putfield 41, [4, 3, 0, 1079], [], []), (49, 1, .aload_n 0, [0], [], []), (50, 1, .aload_n 1, [1], [], []), (51, 3, .getfield 45, [4, 4, 0, 1081], [], []), (54, 3, .putfield 45, [4, 4, 0, 1081], [], []), (57, 1, .aload_n 0, [0], [], []), (58, 1, .aload_n 1, [1], [], []), (59, 3, .getfield 48, [4, 5, 0, 1083], [], []), (62, 3, .putfield 48, [4, 5, 0, 1083], [], []), (65, 1, .return_, [], [], [])]
def bsX4_copyFrom : List (Nat × List gw_E) := [(0, bkX4_copyFrom_0)]
theorem fdX4_copyFrom_0 : gw_find bsX4_copyFrom 0 = bkX4_copyFrom_0 := rfl
set_option maxRecDepth 40000 in
theorem stX4_copyFrom : gw_sta sgX4_copyFrom bsX4_copyFrom := ⟨by decide +kernel, gw_mem2 (i := 2217) rfl rfl, gw_all (by decide +kernel)⟩
def bkX4_tell_0 : List gw_E := [(0, 1, .aload_n 0, [0], [], []), (1, 3, .getfield 12, [4, 0, 1, 1070], [], []), (4, 1, .iload_n 1, [1], [], []), (5, 1, .iload_n 2, [2], [], []), (6, 1, .iload_n 3, [3], [], []), (7, 3, .invokevirtual 51, [3, 8, 3038, 3023, 3024, 1004], [], [sgX8_put]), (10, 1, .aload_n 0, [0], [], []), (11, 1, .dup, [], [], []), (12, 3, .getfield 41, [4, 3, 0, 1079], [], []), (15, 1, .iconst 1, [], [1], []), (16, 1, .iload_n 1, [1], [], []), (17, 1, .ishl, [], [], []), (18, 1, .iconst (-1), [], [-1], []), (19, 1, .ixor, [], [], []), (20, 1, .iand, [], [], []), (21, 3, .putfield 41, [4, 3, 0, 1079], [], []), (24, 1, .aload_n 0, [0], [], []), (25, 3, .getfield 22, [4, 2, 1, 1076], [], []), (28, 1, .iload_n 1, [1], [], []), (29, 1, .iconst (-1), [], [-1], []), (30, 1, .iastore, [], [], []), (31, 1, .return_, [], [], [])]
def bsX4_tell : List (Nat × List gw_E) := [(0, bkX4_tell_0)]
theorem fdX4_tell_0 : gw_find bsX4_tell 0 = bkX4_tell_0 := rfl
set_option maxRecDepth 40000 in
theorem stX4_tell : gw_sta sgX4_tell bsX4_tell := ⟨by decide +kernel, gw_mem2 (i := 3037) rfl rfl, gw_all (by decide +kernel)⟩
def bkX4_untell_0 : List gw_E := [(0, 1, .aload_n 0, [0], [], []), (1, 3, .getfield 12, [4, 0, 1, 1070], [], []), (4, 1, .iload_n 1, [1], [], []), (5, 3, .invokevirtual 55, [1, 8, 3104, 3031, 3032, 1004], [], [sgX8_drop]), (8, 1, .aload_n 0, [0], [], []), (9, 1, .dup, [], [], []), (10, 3, .getfield 41, [4, 3, 0, 1079], [], []), (13, 1, .iconst 1, [], [1], []), (14, 1, .iload_n 1, [1], [], []), (15, 1, .ishl, [], [], []), (16, 1, .iconst (-1), [], [-1], []), (17, 1, .ixor, [], [], []), (18, 1, .iand, [], [], []), (19, 3, .putfield 41, [4, 3, 0, 1079], [], []), (22, 1, .aload_n 0, [0], [], []), (23, 3, .getfield 22, [4, 2, 1, 1076], [], []), (26, 1, .iload_n 1, [1], [], []), (27, 1, .iconst (-1), [], [-1], []), (28, 1, .iastore, [], [], []), (29, 1, .return_, [], [], [])]
def bsX4_untell : List (Nat × List gw_E) := [(0, bkX4_untell_0)]
theorem fdX4_untell_0 : gw_find bsX4_untell 0 = bkX4_untell_0 := rfl
set_option maxRecDepth 40000 in
theorem stX4_untell : gw_sta sgX4_untell bsX4_untell := ⟨by decide +kernel, gw_mem2 (i := 3103) rfl rfl, gw_all (by decide +kernel)⟩
def bkX4_rightsGiven_0 : List gw_E := [(0, 1, .aload_n 0, [0], [], []), (1, 3, .getfield 41, [4, 3, 0, 1079], [], []), (4, 1, .iload_n 1, [1], [], []), (5, 1, .ishr, [], [], []), (6, 1, .iconst 1, [], [1], []), (7, 1, .iand, [], [], []), (8, 3, .ifCond .eq 7, [15], [], []), (11, 1, .iconst 1, [], [1], []), (12, 3, .goto 4, [16], [], [])]
def bkX4_rightsGiven_15 : List gw_E := [(15, 1, .iconst 0, [], [0], [])]
def bkX4_rightsGiven_16 : List gw_E := [(16, 1, .istore_n 2, [2], [], []), (17, 1, .iload_n 2, [2], [], []), (18, 3, .ifCond .eq 18, [36], [], []), (21, 1, .aload_n 0, [0], [], []), (22, 3, .getfield 12, [4, 0, 1, 1070], [], []), (25, 3, .getfield 59, [8, 1, 1, 1054], [], []), (28, 1, .iload_n 1, [1], [], []), (29, 1, .iaload, [], [], []), (30, 2, .bipush (-3), [], [-3], []), (32, 1, .iand, [], [], []), (33, 3, .goto 12, [45], [], [])]
def bkX4_rightsGiven_36 : List gw_E := [(36, 1, .aload_n 0, [0], [], []), (37, 3, .getfield 12, [4, 0, 1, 1070], [], []), (40, 3, .getfield 59, [8, 1, 1, 1054], [], []), (43, 1, .iload_n 1, [1], [], []), (44, 1, .iaload, [], [], [])]
def bkX4_rightsGiven_45 : List gw_E := [(45, 1, .ireturn, [0], [], [])]
def bsX4_rightsGiven : List (Nat × List gw_E) := [(0, bkX4_rightsGiven_0), (15, bkX4_rightsGiven_15), (16, bkX4_rightsGiven_16), (36, bkX4_rightsGiven_36), (45, bkX4_rightsGiven_45)]
theorem fdX4_rightsGiven_0 : gw_find bsX4_rightsGiven 0 = bkX4_rightsGiven_0 := rfl
theorem fdX4_rightsGiven_15 : gw_find bsX4_rightsGiven 15 = bkX4_rightsGiven_15 := rfl
theorem fdX4_rightsGiven_16 : gw_find bsX4_rightsGiven 16 = bkX4_rightsGiven_16 := rfl
theorem fdX4_rightsGiven_36 : gw_find bsX4_rightsGiven 36 = bkX4_rightsGiven_36 := rfl
theorem fdX4_rightsGiven_45 : gw_find bsX4_rightsGiven 45 = bkX4_rightsGiven_45 := rfl
set_option maxRecDepth 40000 in
theorem stX4_rightsGiven : gw_sta sgX4_rightsGiven bsX4_rightsGiven := ⟨by decide +kernel, gw_mem2 (i := 3146) rfl rfl, gw_all (by decide +kernel)⟩
def bkX4_partsOnWrite_0 : List gw_E := [(0, 1, .aload_n 0, [0], [], []), (1, 3, .getfield 41, [4, 3, 0, 1079], [], []), (4, 1, .iload_n 1, [1], [], []), (5, 3, .invokestatic 62, [2, 1, 3167, 3044, 1001, 0], [], [sgX10_hasBit]), (8, 3, .ifCond .eq 23, [31], [], []), (11, 1, .aload_n 0, [0], [], []), (12, 3, .getfield 12, [4, 0, 1, 1070], [], []), (15, 3, .getfield 59, [8, 1, 1, 1054], [], []), (18, 1, .iload_n 1, [1], [], []), (19, 1, .iaload, [], [], []), (20, 1, .iconst 1, [], [1], []), (21, 3, .invokestatic 62, [2, 1, 3167, 3044, 1001, 0], [], [sgX10_hasBit]), (24, 3, .ifCond .eq 7, [31], [], []), (27, 1, .iconst 1, [], [1], []), (28, 3, .goto 4, [32], [], [])]
def bkX4_partsOnWrite_31 : List gw_E := [(31, 1, .iconst 0, [], [0], [])]
def bkX4_partsOnWrite_32 : List gw_E := [(32, 1, .ireturn, [1], [], [])]
def bsX4_partsOnWrite : List (Nat × List gw_E) := [(0, bkX4_partsOnWrite_0), (31, bkX4_partsOnWrite_31), (32, bkX4_partsOnWrite_32)]
theorem fdX4_partsOnWrite_0 : gw_find bsX4_partsOnWrite 0 = bkX4_partsOnWrite_0 := rfl
theorem fdX4_partsOnWrite_31 : gw_find bsX4_partsOnWrite 31 = bkX4_partsOnWrite_31 := rfl
theorem fdX4_partsOnWrite_32 : gw_find bsX4_partsOnWrite 32 = bkX4_partsOnWrite_32 := rfl
set_option maxRecDepth 40000 in
theorem stX4_partsOnWrite : gw_sta sgX4_partsOnWrite bsX4_partsOnWrite := ⟨by decide +kernel, gw_mem2 (i := 3216) rfl rfl, gw_all (by decide +kernel)⟩
def bkX4_framesLedTo_0 : List gw_E := [(0, 1, .iconst 0, [], [0], []), (1, 1, .istore_n 1, [1], [], []), (2, 1, .iconst 0, [], [0], []), (3, 1, .istore_n 2, [2], [], [])]
def bkX4_framesLedTo_4 : List gw_E := [(4, 1, .iload_n 2, [2], [], []), (5, 2, .bipush 16, [], [16], []), (7, 3, .if_icmp .ge 36, [43], [], []), (10, 1, .aload_n 0, [0], [], []), (11, 3, .getfield 12, [4, 0, 1, 1070], [], []), (14, 3, .getfield 66, [8, 0, 1, 1050], [], []), (17, 1, .iload_n 2, [2], [], []), (18, 1, .iaload, [], [], []), (19, 1, .iconst (-1), [], [-1], []), (20, 3, .if_icmp .eq 17, [37], [], []), (23, 1, .iload_n 1, [1], [], []), (24, 1, .iconst 1, [], [1], []), (25, 1, .aload_n 0, [0], [], []), (26, 3, .getfield 12, [4, 0, 1, 1070], [], []), (29, 3, .getfield 66, [8, 0, 1, 1050], [], []), (32, 1, .iload_n 2, [2], [], []), (33, 1, .iaload, [], [], []), (34, 1, .ishl, [], [], []), (35, 1, .ior, [], [], []), (36, 1, .istore_n 1, [1], [], [])]
def bkX4_framesLedTo_37 : List gw_E := [(37, 3, .iinc 2 1, [2], [1], []), (40, 3, .goto (-36), [4], [], [])]
def bkX4_framesLedTo_43 : List gw_E := [(43, 1, .iload_n 1, [1], [], []), (44, 1, .ireturn, [0], [], [])]
def bsX4_framesLedTo : List (Nat × List gw_E) := [(0, bkX4_framesLedTo_0), (4, bkX4_framesLedTo_4), (37, bkX4_framesLedTo_37), (43, bkX4_framesLedTo_43)]
theorem fdX4_framesLedTo_0 : gw_find bsX4_framesLedTo 0 = bkX4_framesLedTo_0 := rfl
theorem fdX4_framesLedTo_4 : gw_find bsX4_framesLedTo 4 = bkX4_framesLedTo_4 := rfl
theorem fdX4_framesLedTo_37 : gw_find bsX4_framesLedTo 37 = bkX4_framesLedTo_37 := rfl
theorem fdX4_framesLedTo_43 : gw_find bsX4_framesLedTo 43 = bkX4_framesLedTo_43 := rfl
set_option maxRecDepth 40000 in
theorem stX4_framesLedTo : gw_sta sgX4_framesLedTo bsX4_framesLedTo := ⟨by decide +kernel, gw_mem2 (i := 3166) rfl rfl, gw_all (by decide +kernel)⟩
def bkX4_framesFree_0 : List gw_E := [(0, 2, .bipush 10, [], [10], []), (2, 1, .aload_n 0, [0], [], []), (3, 3, .invokevirtual 69, [0, 4, 3163, 3164, 3165, 1003], [], [sgX4_framesLedTo]), (6, 3, .invokestatic 73, [1, 0, 5018, 4119, 1017, 0], [], [sgJ6_bitCount_0f7a4]), (9, 1, .isub, [], [], []), (10, 1, .ireturn, [0], [], [])]
def bsX4_framesFree : List (Nat × List gw_E) := [(0, bkX4_framesFree_0)]
theorem fdX4_framesFree_0 : gw_find bsX4_framesFree 0 = bkX4_framesFree_0 := rfl
set_option maxRecDepth 40000 in
theorem stX4_framesFree : gw_sta sgX4_framesFree bsX4_framesFree := ⟨by decide +kernel, gw_mem2 (i := 5017) rfl rfl, gw_all (by decide +kernel)⟩
def bkX4_touchFrame_0 : List gw_E := [(0, 1, .iload_n 2, [2], [], []), (1, 1, .iconst 1, [], [1], []), (2, 3, .if_icmp .ne 22, [24], [], []), (5, 1, .aload_n 0, [0], [], []), (6, 3, .getfield 18, [4, 1, 1, 1073], [], []), (9, 1, .iload_n 1, [1], [], []), (10, 1, .iload_n 3, [3], [], []), (11, 1, .iastore, [], [], []), (12, 1, .aload_n 0, [0], [], []), (13, 1, .dup, [], [], []), (14, 3, .getfield 45, [4, 4, 0, 1081], [], []), (17, 1, .iconst 1, [], [1], []), (18, 1, .iload_n 1, [1], [], []), (19, 1, .ishl, [], [], []), (20, 1, .ior, [], [], []), (21, 3, .putfield 45, [4, 4, 0, 1081], [], [])]
def bkX4_touchFrame_24 : List gw_E := [(24, 1, .aload_n 0, [0], [], []), (25, 3, .getfield 18, [4, 1, 1, 1073], [], []), (28, 1, .iload_n 1, [1], [], []), (29, 1, .iaload, [], [], []), (30, 1, .ireturn, [0], [], [])]
def bsX4_touchFrame : List (Nat × List gw_E) := [(0, bkX4_touchFrame_0), (24, bkX4_touchFrame_24)]
theorem fdX4_touchFrame_0 : gw_find bsX4_touchFrame 0 = bkX4_touchFrame_0 := rfl
theorem fdX4_touchFrame_24 : gw_find bsX4_touchFrame 24 = bkX4_touchFrame_24 := rfl
set_option maxRecDepth 40000 in
theorem stX4_touchFrame : gw_sta sgX4_touchFrame bsX4_touchFrame := ⟨by decide +kernel, gw_mem2 (i := 4001) rfl rfl, gw_all (by decide +kernel)⟩
