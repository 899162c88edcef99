def bkX3_goOn_0 : List gw_E := [(0, 1, .aload_n 0, [0], [], []), (1, 3, .invokevirtual 324, [0, 3, 4196, 4134, 4135, 1002], [], [sgX3_timeGoesOn]), (4, 1, .pop, [], [], []), (5, 1, .aload_n 0, [0], [], []), (6, 3, .invokevirtual 327, [0, 3, 4197, 3047, 3048, 1002], [], [sgX3_dealOut]), (9, 1, .aload_n 0, [0], [], []), (10, 3, .getfield 42, [3, 6, 0, 2082], [], []), (13, 1, .iconst 1, [], [1], []), (14, 3, .if_icmp .ne 10, [24], [], []), (17, 1, .aload_n 0, [0], [], []), (18, 3, .invokevirtual 330, [0, 3, 4198, 4200, 13, 1002], [], [sgX3_actOfOuter]), (21, 3, .goto 7, [28], [], [])]
def bkX3_goOn_24 : List gw_E := [(24, 1, .aload_n 0, [0], [], []), (25, 3, .invokevirtual 333, [0, 3, 4219, 4221, 16, 1002], [], [sgX3_actOfInner])]
def bkX3_goOn_28 : List gw_E := [(28, 1, .aload_n 0, [0], [], []), (29, 3, .invokevirtual 327, [0, 3, 4197, 3047, 3048, 1002], [], [sgX3_dealOut]), (32, 1, .return_, [], [], [])]
def bsX3_goOn : List (Nat × List gw_E) := [(0, bkX3_goOn_0), (24, bkX3_goOn_24), (28, bkX3_goOn_28)]
theorem fdX3_goOn_0 : gw_find bsX3_goOn 0 = bkX3_goOn_0 := rfl
theorem fdX3_goOn_24 : gw_find bsX3_goOn 24 = bkX3_goOn_24 := rfl
theorem fdX3_goOn_28 : gw_find bsX3_goOn 28 = bkX3_goOn_28 := rfl
set_option maxRecDepth 40000 in
theorem stX3_goOn : gw_sta sgX3_goOn bsX3_goOn := ⟨by decide +kernel, gw_mem2 (i := 4195) rfl rfl, gw_all (by decide +kernel)⟩
def bkX3_actOfOuter_0 : List gw_E := [(0, 1, .aload_n 0, [0], [], []), (1, 3, .getfield 32, [3, 3, 1, 2077], [], []), (4, 3, .getfield 144, [0, 0, 1, 1145], [], []), (7, 1, .astore_n 1, [1], [], []), (8, 1, .aload_n 1, [1], [], []), (9, 3, .getfield 336, [7, 3, 0, 1127], [], []), (12, 3, .ifCond .ne 4, [16], [], []), (15, 1, .return_, [], [], [])]
def bkX3_actOfOuter_16 : List gw_E := [(16, 1, .aload_n 1, [1], [], []), (17, 3, .invokevirtual 337, [0, 7, 4202, 4203, 4204, 1007], [], [sgX7_advance]), (20, 1, .istore_n 2, [2], [], []), (21, 1, .aload_n 1, [1], [], []), (22, 3, .getfield 340, [7, 0, 1, 1114], [], []), (25, 1, .iload_n 2, [2], [], []), (26, 1, .iaload, [], [], []), (27, 1, .istore_n 3, [3], [], []), (28, 1, .aload_n 1, [1], [], []), (29, 3, .getfield 343, [7, 1, 1, 1118], [], []), (32, 1, .iload_n 2, [2], [], []), (33, 1, .iaload, [], [], []), (34, 2, .istore 4, [4], [], []), (36, 1, .aload_n 1, [1], [], []), (37, 3, .getfield 346, [7, 2, 1, 1122], [], []), (40, 1, .iload_n 2, [2], [], []), (41, 1, .iaload, [], [], []), (42, 2, .istore 5, [5], [], []), (44, 1, .iload_n 3, [3], [], []), (45, 63, .tableswitch 176 0 11 #[63, 63, 63, 76, 86, 97, 108, 115, 128, 147, 156, 167], [221, 108, 108, 108, 121, 131, 142, 153, 160, 173, 192, 201, 212], [0], [])]
def bkX3_actOfOuter_108 : List gw_E := [(108, 1, .aload_n 0, [0], [], []), (109, 2, .iload 4, [4], [], []), (111, 1, .iload_n 3, [3], [], []), (112, 2, .iload 5, [5], [], []), (114, 3, .invokevirtual 349, [3, 3, 4206, 4007, 4008, 1002], [], [sgX3_touchByOuter]), (117, 1, .pop, [], [], []), (118, 3, .goto 103, [221], [], [])]
def bkX3_actOfOuter_121 : List gw_E := [(121, 1, .aload_n 0, [0], [], []), (122, 2, .iload 4, [4], [], []), (124, 3, .invokevirtual 352, [1, 3, 4207, 4019, 4020, 1002], [], [sgX3_eventOfOuter]), (127, 1, .pop, [], [], []), (128, 3, .goto 93, [221], [], [])]
def bkX3_actOfOuter_131 : List gw_E := [(131, 1, .aload_n 0, [0], [], []), (132, 3, .getfield 32, [3, 3, 1, 2077], [], []), (135, 1, .iconst 1, [], [1], []), (136, 3, .putfield 355, [0, 4, 2, 1155], [], []), (139, 3, .goto 82, [221], [], [])]
def bkX3_actOfOuter_142 : List gw_E := [(142, 1, .aload_n 0, [0], [], []), (143, 3, .getfield 32, [3, 3, 1, 2077], [], []), (146, 1, .iconst 0, [], [0], []), (147, 3, .putfield 355, [0, 4, 2, 1155], [], []), (150, 3, .goto 71, [221], [], [])]
def bkX3_actOfOuter_153 : List gw_E := [(153, 1, .aload_n 0, [0], [], []), (154, 3, .invokevirtual 359, [0, 3, 4208, 4027, 4028, 1002], [], [sgX3_enterInner]), (157, 3, .goto 64, [221], [], [])]
def bkX3_actOfOuter_160 : List gw_E := [(160, 1, .aload_n 0, [0], [], []), (161, 2, .iload 4, [4], [], []), (163, 2, .iload 5, [5], [], []), (165, 2, .bipush 7, [], [7], []), (167, 3, .invokevirtual 167, [3, 3, 3026, 3028, 0, 1002], [], [sgX3_tellInner]), (170, 3, .goto 51, [221], [], [])]
def bkX3_actOfOuter_173 : List gw_E := [(173, 1, .aload_n 0, [0], [], []), (174, 3, .invokevirtual 159, [0, 3, 3018, 3019, 3020, 1002], [], [sgX3_inHand]), (177, 3, .getfield 113, [1, 0, 1, 2040], [], []), (180, 2, .iload 4, [4], [], []), (182, 1, .aload_n 0, [0], [], []), (183, 3, .getfield 92, [3, 7, 0, 2084], [], []), (186, 3, .invokevirtual 321, [2, 0, 4162, 4047, 4048, 1006], [], [sgX0_await]), (189, 3, .goto 32, [221], [], [])]
def bkX3_actOfOuter_192 : List gw_E := [(192, 1, .aload_n 0, [0], [], []), (193, 2, .iload 4, [4], [], []), (195, 3, .invokevirtual 362, [1, 3, 4209, 4211, 14, 1002], [], [sgX3_tellMissed]), (198, 3, .goto 23, [221], [], [])]
def bkX3_actOfOuter_201 : List gw_E := [(201, 1, .aload_n 0, [0], [], []), (202, 3, .getfield 32, [3, 3, 1, 2077], [], []), (205, 3, .invokevirtual 365, [0, 0, 4213, 4063, 4064, 1006], [], [sgX0_endService]), (208, 1, .pop, [], [], []), (209, 3, .goto 12, [221], [], [])]
def bkX3_actOfOuter_212 : List gw_E := [(212, 1, .aload_n 0, [0], [], []), (213, 2, .iload 4, [4], [], []), (215, 3, .invokevirtual 368, [1, 3, 4214, 4216, 15, 1002], [], [sgX3_switchUnlessInHand]), (218, 3, .goto 3, [221], [], [])]
def bkX3_actOfOuter_221 : List gw_E := [(221, 1, .return_, [], [], [])]
def bsX3_actOfOuter : List (Nat × List gw_E) := [(0, bkX3_actOfOuter_0), (16, bkX3_actOfOuter_16), (108, bkX3_actOfOuter_108), (121, bkX3_actOfOuter_121), (131, bkX3_actOfOuter_131), (142, bkX3_actOfOuter_142), (153, bkX3_actOfOuter_153), (160, bkX3_actOfOuter_160), (173, bkX3_actOfOuter_173), (192, bkX3_actOfOuter_192), (201, bkX3_actOfOuter_201), (212, bkX3_actOfOuter_212), (221, bkX3_actOfOuter_221)]
theorem fdX3_actOfOuter_0 : gw_find bsX3_actOfOuter 0 = bkX3_actOfOuter_0 := rfl
theorem fdX3_actOfOuter_16 : gw_find bsX3_actOfOuter 16 = bkX3_actOfOuter_16 := rfl
theorem fdX3_actOfOuter_108 : gw_find bsX3_actOfOuter 108 = bkX3_actOfOuter_108 := rfl
theorem fdX3_actOfOuter_121 : gw_find bsX3_actOfOuter 121 = bkX3_actOfOuter_121 := rfl
theorem fdX3_actOfOuter_131 : gw_find bsX3_actOfOuter 131 = bkX3_actOfOuter_131 := rfl
theorem fdX3_actOfOuter_142 : gw_find bsX3_actOfOuter 142 = bkX3_actOfOuter_142 := rfl
theorem fdX3_actOfOuter_153 : gw_find bsX3_actOfOuter 153 = bkX3_actOfOuter_153 := rfl
theorem fdX3_actOfOuter_160 : gw_find bsX3_actOfOuter 160 = bkX3_actOfOuter_160 := rfl
theorem fdX3_actOfOuter_173 : gw_find bsX3_actOfOuter 173 = bkX3_actOfOuter_173 := rfl
theorem fdX3_actOfOuter_192 : gw_find bsX3_actOfOuter 192 = bkX3_actOfOuter_192 := rfl
theorem fdX3_actOfOuter_201 : gw_find bsX3_actOfOuter 201 = bkX3_actOfOuter_201 := rfl
theorem fdX3_actOfOuter_212 : gw_find bsX3_actOfOuter 212 = bkX3_actOfOuter_212 := rfl
theorem fdX3_actOfOuter_221 : gw_find bsX3_actOfOuter 221 = bkX3_actOfOuter_221 := rfl
set_option maxRecDepth 40000 in
theorem stX3_actOfOuter : gw_sta sgX3_actOfOuter bsX3_actOfOuter := ⟨by decide +kernel, gw_mem2 (i := 4201) rfl rfl, gw_all (by decide +kernel)⟩
def bkX3_tellMissed_0 : List gw_E := [(0, 1, .aload_n 0, [0], [], []), (1, 3, .getfield 52, [3, 12, 0, 2093], [], []), (4, 1, .iconst (-1), [], [-1], []), (5, 3, .if_icmp .eq 14, [19], [], []), (8, 1, .aload_n 0, [0], [], []), (9, 1, .aload_n 0, [0], [], []), (10, 3, .getfield 52, [3, 12, 0, 2093], [], []), (13, 1, .iload_n 1, [1], [], []), (14, 2, .bipush 7, [], [7], []), (16, 3, .invokevirtual 167, [3, 3, 3026, 3028, 0, 1002], [], [sgX3_tellInner])]
def bkX3_tellMissed_19 : List gw_E := [(19, 1, .return_, [], [], [])]
def bsX3_tellMissed : List (Nat × List gw_E) := [(0, bkX3_tellMissed_0), (19, bkX3_tellMissed_19)]
theorem fdX3_tellMissed_0 : gw_find bsX3_tellMissed 0 = bkX3_tellMissed_0 := rfl
theorem fdX3_tellMissed_19 : gw_find bsX3_tellMissed 19 = bkX3_tellMissed_19 := rfl
set_option maxRecDepth 40000 in
theorem stX3_tellMissed : gw_sta sgX3_tellMissed bsX3_tellMissed := ⟨by decide +kernel, gw_mem2 (i := 4212) rfl rfl, gw_all (by decide +kernel)⟩
def bkX3_switchUnlessInHand_0 : List gw_E := [(0, 1, .iload_n 1, [1], [], []), (1, 1, .aload_n 0, [0], [], []), (2, 3, .getfield 89, [3, 5, 0, 2080], [], []), (5, 3, .if_icmp .eq 8, [13], [], []), (8, 1, .aload_n 0, [0], [], []), (9, 1, .iload_n 1, [1], [], []), (10, 3, .invokevirtual 371, [1, 3, 4218, 4074, 4075, 1002], [], [sgX3_switchTo])]
def bkX3_switchUnlessInHand_13 : List gw_E := [(13, 1, .return_, [], [], [])]
def bsX3_switchUnlessInHand : List (Nat × List gw_E) := [(0, bkX3_switchUnlessInHand_0), (13, bkX3_switchUnlessInHand_13)]
theorem fdX3_switchUnlessInHand_0 : gw_find bsX3_switchUnlessInHand 0 = bkX3_switchUnlessInHand_0 := rfl
theorem fdX3_switchUnlessInHand_13 : gw_find bsX3_switchUnlessInHand 13 = bkX3_switchUnlessInHand_13 := rfl
set_option maxRecDepth 40000 in
theorem stX3_switchUnlessInHand : gw_sta sgX3_switchUnlessInHand bsX3_switchUnlessInHand := ⟨by decide +kernel, gw_mem2 (i := 4217) rfl rfl, gw_all (by decide +kernel)⟩
def bkX3_actOfInner_0 : List gw_E := [(0, 1, .aload_n 0, [0], [], []), (1, 3, .invokevirtual 159, [0, 3, 3018, 3019, 3020, 1002], [], [sgX3_inHand]), (4, 1, .astore_n 1, [1], [], []), (5, 1, .aload_n 1, [1], [], []), (6, 3, .getfield 113, [1, 0, 1, 2040], [], []), (9, 3, .getfield 144, [0, 0, 1, 1145], [], []), (12, 1, .astore_n 2, [2], [], []), (13, 1, .aload_n 2, [2], [], []), (14, 3, .getfield 336, [7, 3, 0, 1127], [], []), (17, 3, .ifCond .ne 4, [21], [], []), (20, 1, .return_, [], [], [])]
def bkX3_actOfInner_21 : List gw_E := [(21, 1, .aload_n 2, [2], [], []), (22, 3, .invokevirtual 337, [0, 7, 4202, 4203, 4204, 1007], [], [sgX7_advance]), (25, 1, .istore_n 3, [3], [], []), (26, 1, .aload_n 2, [2], [], []), (27, 3, .getfield 340, [7, 0, 1, 1114], [], []), (30, 1, .iload_n 3, [3], [], []), (31, 1, .iaload, [], [], []), (32, 2, .istore 4, [4], [], []), (34, 1, .aload_n 2, [2], [], []), (35, 3, .getfield 343, [7, 1, 1, 1118], [], []), (38, 1, .iload_n 3, [3], [], []), (39, 1, .iaload, [], [], []), (40, 2, .istore 5, [5], [], []), (42, 1, .aload_n 2, [2], [], []), (43, 3, .getfield 346, [7, 2, 1, 1122], [], []), (46, 1, .iload_n 3, [3], [], []), (47, 1, .iaload, [], [], []), (48, 2, .istore 6, [6], [], []), (50, 2, .iload 4, [4], [], []), (52, 48, .tableswitch 110 0 7 #[48, 48, 48, 67, 77, 88, 110, 99], [162, 100, 100, 100, 119, 129, 140, 162, 151], [0], [])]
def bkX3_actOfInner_100 : List gw_E := [(100, 1, .aload_n 0, [0], [], []), (101, 1, .aload_n 1, [1], [], []), (102, 1, .iload_n 3, [3], [], []), (103, 1, .aload_n 0, [0], [], []), (104, 2, .iload 5, [5], [], []), (106, 2, .iload 4, [4], [], []), (108, 2, .iload 6, [6], [], []), (110, 3, .invokevirtual 374, [3, 3, 4223, 3189, 3190, 1002], [], [sgX3_touchByInner]), (113, 3, .invokevirtual 377, [3, 3, 4224, 4226, 17, 1002], [], [sgX3_lead]), (116, 3, .goto 56, [172], [], [])]
def bkX3_actOfInner_119 : List gw_E := [(119, 1, .aload_n 0, [0], [], []), (120, 2, .iload 5, [5], [], []), (122, 3, .invokevirtual 230, [1, 3, 3197, 3198, 3199, 1002], [], [sgX3_eventOfInner]), (125, 1, .pop, [], [], []), (126, 3, .goto 46, [172], [], [])]
def bkX3_actOfInner_129 : List gw_E := [(129, 1, .aload_n 1, [1], [], []), (130, 3, .getfield 113, [1, 0, 1, 2040], [], []), (133, 1, .iconst 1, [], [1], []), (134, 3, .putfield 355, [0, 4, 2, 1155], [], []), (137, 3, .goto 35, [172], [], [])]
def bkX3_actOfInner_140 : List gw_E := [(140, 1, .aload_n 1, [1], [], []), (141, 3, .getfield 113, [1, 0, 1, 2040], [], []), (144, 1, .iconst 0, [], [0], []), (145, 3, .putfield 355, [0, 4, 2, 1155], [], []), (148, 3, .goto 24, [172], [], [])]
def bkX3_actOfInner_151 : List gw_E := [(151, 1, .aload_n 1, [1], [], []), (152, 3, .getfield 113, [1, 0, 1, 2040], [], []), (155, 3, .invokevirtual 365, [0, 0, 4213, 4063, 4064, 1006], [], [sgX0_endService]), (158, 1, .pop, [], [], []), (159, 3, .goto 13, [172], [], [])]
def bkX3_actOfInner_162 : List gw_E := [(162, 1, .aload_n 1, [1], [], []), (163, 2, .iload 4, [4], [], []), (165, 2, .iload 5, [5], [], []), (167, 2, .iload 6, [6], [], []), (169, 3, .invokevirtual 381, [3, 1, 4233, 4234, 4235, 1010], [], [sgX1_actAlone])]
def bkX3_actOfInner_172 : List gw_E := [(172, 1, .return_, [], [], [])]
def bsX3_actOfInner : List (Nat × List gw_E) := [(0, bkX3_actOfInner_0), (21, bkX3_actOfInner_21), (100, bkX3_actOfInner_100), (119, bkX3_actOfInner_119), (129, bkX3_actOfInner_129), (140, bkX3_actOfInner_140), (151, bkX3_actOfInner_151), (162, bkX3_actOfInner_162), (172, bkX3_actOfInner_172)]
theorem fdX3_actOfInner_0 : gw_find bsX3_actOfInner 0 = bkX3_actOfInner_0 := rfl
theorem fdX3_actOfInner_21 : gw_find bsX3_actOfInner 21 = bkX3_actOfInner_21 := rfl
theorem fdX3_actOfInner_100 : gw_find bsX3_actOfInner 100 = bkX3_actOfInner_100 := rfl
theorem fdX3_actOfInner_119 : gw_find bsX3_actOfInner 119 = bkX3_actOfInner_119 := rfl
theorem fdX3_actOfInner_129 : gw_find bsX3_actOfInner 129 = bkX3_actOfInner_129 := rfl
theorem fdX3_actOfInner_140 : gw_find bsX3_actOfInner 140 = bkX3_actOfInner_140 := rfl
theorem fdX3_actOfInner_151 : gw_find bsX3_actOfInner 151 = bkX3_actOfInner_151 := rfl
theorem fdX3_actOfInner_162 : gw_find bsX3_actOfInner 162 = bkX3_actOfInner_162 := rfl
theorem fdX3_actOfInner_172 : gw_find bsX3_actOfInner 172 = bkX3_actOfInner_172 := rfl
set_option maxRecDepth 40000 in
theorem stX3_actOfInner : gw_sta sgX3_actOfInner bsX3_actOfInner := ⟨by decide +kernel, gw_mem2 (i := 4222) rfl rfl, gw_all (by decide +kernel)⟩
def bkX3_lead_0 : List gw_E := [(0, 1, .iload_n 3, [3], [], []), (1, 2, .bipush (-3), [], [-3], []), (3, 3, .if_icmp .ne 17, [20], [], []), (6, 1, .aload_n 1, [1], [], []), (7, 3, .getfield 113, [1, 0, 1, 2040], [], []), (10, 3, .getfield 144, [0, 0, 1, 1145], [], []), (13, 1, .iload_n 2, [2], [], []), (14, 3, .invokevirtual 224, [1, 7, 3065, 3066, 3067, 1007], [], [sgX7_goTo]), (17, 3, .goto 23, [40], [], [])]
def bkX3_lead_20 : List gw_E := [(20, 1, .iload_n 3, [3], [], []), (21, 2, .bipush (-2), [], [-2], []), (23, 3, .if_icmp .ne 17, [40], [], []), (26, 1, .aload_n 0, [0], [], []), (27, 1, .iconst 0, [], [0], []), (28, 3, .invokevirtual 262, [1, 3, 3201, 3202, 3203, 1002], [], [sgX3_seerOfInner]), (31, 1, .iconst 2, [], [2], []), (32, 3, .if_icmp .ne 8, [40], [], []), (35, 1, .aload_n 1, [1], [], []), (36, 1, .iload_n 2, [2], [], []), (37, 3, .invokevirtual 384, [1, 1, 4228, 4229, 4230, 1010], [], [sgX1_trapAt])]
def bkX3_lead_40 : List gw_E := [(40, 1, .return_, [], [], [])]
def bsX3_lead : List (Nat × List gw_E) := [(0, bkX3_lead_0), (20, bkX3_lead_20), (40, bkX3_lead_40)]
theorem fdX3_lead_0 : gw_find bsX3_lead 0 = bkX3_lead_0 := rfl
theorem fdX3_lead_20 : gw_find bsX3_lead 20 = bkX3_lead_20 := rfl
theorem fdX3_lead_40 : gw_find bsX3_lead 40 = bkX3_lead_40 := rfl
set_option maxRecDepth 40000 in
theorem stX3_lead : gw_sta sgX3_lead bsX3_lead := ⟨by decide +kernel, gw_mem2 (i := 4227) rfl rfl, gw_all (by decide +kernel)⟩
def bkX3_walkTables_0 : List gw_E := [(0, 1, .aload_n 0, [0], [], []), (1, 3, .invokevirtual 159, [0, 3, 3018, 3019, 3020, 1002], [], [sgX3_inHand]), (4, 3, .getfield 116, [1, 1, 1, 2044], [], []), (7, 1, .astore_n 3, [3], [], []), (8, 1, .aload_n 3, [3], [], []), (9, 1, .iload_n 1, [1], [], []), (10, 1, .iload_n 2, [2], [], []), (11, 3, .invokevirtual 227, [2, 8, 3192, 3193, 3194, 1004], [], [sgX8_gives]), (14, 3, .ifCond .ne 6, [20], [], []), (17, 2, .bipush (-2), [], [-2], []), (19, 1, .ireturn, [0], [], [])]
def bkX3_walkTables_20 : List gw_E := [(20, 1, .aload_n 0, [0], [], []), (21, 3, .invokevirtual 159, [0, 3, 3018, 3019, 3020, 1002], [], [sgX3_inHand]), (24, 3, .getfield 119, [1, 2, 1, 2047], [], []), (27, 2, .astore 4, [4], [], []), (29, 1, .aload_n 3, [3], [], []), (30, 3, .getfield 183, [8, 0, 1, 1051], [], []), (33, 1, .iload_n 1, [1], [], []), (34, 1, .iaload, [], [], []), (35, 2, .istore 5, [5], [], []), (37, 2, .aload 4, [4], [], []), (39, 2, .iload 5, [5], [], []), (41, 1, .iload_n 2, [2], [], []), (42, 3, .invokevirtual 227, [2, 8, 3192, 3193, 3194, 1004], [], [sgX8_gives]), (45, 3, .ifCond .ne 6, [51], [], []), (48, 2, .bipush (-3), [], [-3], []), (50, 1, .ireturn, [0], [], [])]
def bkX3_walkTables_51 : List gw_E := [(51, 2, .aload 4, [4], [], []), (53, 3, .getfield 183, [8, 0, 1, 1051], [], []), (56, 2, .iload 5, [5], [], []), (58, 1, .iaload, [], [], []), (59, 2, .istore 6, [6], [], []), (61, 1, .aload_n 0, [0], [], []), (62, 3, .getfield 12, [3, 0, 1, 2071], [], []), (65, 2, .iload 6, [6], [], []), (67, 3, .invokevirtual 200, [1, 4, 3143, 3144, 3145, 1003], [], [sgX4_rightsGiven]), (70, 1, .iload_n 2, [2], [], []), (71, 3, .invokestatic 186, [2, 1, 3043, 3044, 1001, 0], [], [sgX10_hasBit]), (74, 3, .ifCond .eq 19, [93], [], []), (77, 1, .aload_n 0, [0], [], []), (78, 3, .getfield 12, [3, 0, 1, 2071], [], []), (81, 3, .getfield 122, [4, 0, 1, 1071], [], []), (84, 3, .getfield 183, [8, 0, 1, 1051], [], []), (87, 2, .iload 6, [6], [], []), (89, 1, .iaload, [], [], []), (90, 3, .goto 5, [95], [], [])]
def bkX3_walkTables_93 : List gw_E := [(93, 2, .bipush (-4), [], [-4], [])]
def bkX3_walkTables_95 : List gw_E := [(95, 1, .ireturn, [0], [], [])]
def bsX3_walkTables : List (Nat × List gw_E) := [(0, bkX3_walkTables_0), (20, bkX3_walkTables_20), (51, bkX3_walkTables_51), (93, bkX3_walkTables_93), (95, bkX3_walkTables_95)]
theorem fdX3_walkTables_0 : gw_find bsX3_walkTables 0 = bkX3_walkTables_0 := rfl
theorem fdX3_walkTables_20 : gw_find bsX3_walkTables 20 = bkX3_walkTables_20 := rfl
theorem fdX3_walkTables_51 : gw_find bsX3_walkTables 51 = bkX3_walkTables_51 := rfl
theorem fdX3_walkTables_93 : gw_find bsX3_walkTables 93 = bkX3_walkTables_93 := rfl
theorem fdX3_walkTables_95 : gw_find bsX3_walkTables 95 = bkX3_walkTables_95 := rfl
set_option maxRecDepth 40000 in
theorem stX3_walkTables : gw_sta sgX3_walkTables bsX3_walkTables := ⟨by decide +kernel, gw_mem2 (i := 5090) rfl rfl, gw_all (by decide +kernel)⟩
def bkX3_rightsOfVirtual_0 : List gw_E := [(0, 1, .aload_n 0, [0], [], []), (1, 3, .invokevirtual 159, [0, 3, 3018, 3019, 3020, 1002], [], [sgX3_inHand]), (4, 3, .getfield 116, [1, 1, 1, 2044], [], []), (7, 1, .astore_n 2, [2], [], []), (8, 1, .aload_n 2, [2], [], []), (9, 1, .iload_n 1, [1], [], []), (10, 3, .invokevirtual 193, [1, 8, 3138, 3093, 3094, 1004], [], [sgX8_has]), (13, 3, .ifCond .eq 23, [36], [], []), (16, 1, .aload_n 2, [2], [], []), (17, 3, .getfield 197, [8, 1, 1, 1055], [], []), (20, 1, .iload_n 1, [1], [], []), (21, 1, .iaload, [], [], []), (22, 1, .aload_n 0, [0], [], []), (23, 1, .aload_n 2, [2], [], []), (24, 3, .getfield 183, [8, 0, 1, 1051], [], []), (27, 1, .iload_n 1, [1], [], []), (28, 1, .iaload, [], [], []), (29, 3, .invokevirtual 204, [1, 3, 3139, 3141, 4, 1002], [], [sgX3_rightsOfBoth]), (32, 1, .iand, [], [], []), (33, 3, .goto 4, [37], [], [])]
def bkX3_rightsOfVirtual_36 : List gw_E := [(36, 1, .iconst 0, [], [0], [])]
def bkX3_rightsOfVirtual_37 : List gw_E := [(37, 1, .ireturn, [0], [], [])]
def bsX3_rightsOfVirtual : List (Nat × List gw_E) := [(0, bkX3_rightsOfVirtual_0), (36, bkX3_rightsOfVirtual_36), (37, bkX3_rightsOfVirtual_37)]
theorem fdX3_rightsOfVirtual_0 : gw_find bsX3_rightsOfVirtual 0 = bkX3_rightsOfVirtual_0 := rfl
theorem fdX3_rightsOfVirtual_36 : gw_find bsX3_rightsOfVirtual 36 = bkX3_rightsOfVirtual_36 := rfl
theorem fdX3_rightsOfVirtual_37 : gw_find bsX3_rightsOfVirtual 37 = bkX3_rightsOfVirtual_37 := rfl
set_option maxRecDepth 40000 in
theorem stX3_rightsOfVirtual : gw_sta sgX3_rightsOfVirtual bsX3_rightsOfVirtual := ⟨by decide +kernel, gw_mem2 (i := 5098) rfl rfl, gw_all (by decide +kernel)⟩
def bkX3_frameOfInner_0 : List gw_E := [(0, 1, .aload_n 0, [0], [], []), (1, 3, .invokevirtual 159, [0, 3, 3018, 3019, 3020, 1002], [], [sgX3_inHand]), (4, 3, .getfield 119, [1, 2, 1, 2047], [], []), (7, 1, .astore_n 2, [2], [], []), (8, 1, .aload_n 2, [2], [], []), (9, 1, .iload_n 1, [1], [], []), (10, 3, .invokevirtual 193, [1, 8, 3138, 3093, 3094, 1004], [], [sgX8_has]), (13, 3, .ifCond .eq 23, [36], [], []), (16, 1, .aload_n 0, [0], [], []), (17, 3, .getfield 12, [3, 0, 1, 2071], [], []), (20, 3, .getfield 122, [4, 0, 1, 1071], [], []), (23, 3, .getfield 183, [8, 0, 1, 1051], [], []), (26, 1, .aload_n 2, [2], [], []), (27, 3, .getfield 183, [8, 0, 1, 1051], [], []), (30, 1, .iload_n 1, [1], [], []), (31, 1, .iaload, [], [], []), (32, 1, .iaload, [], [], []), (33, 3, .goto 4, [37], [], [])]
def bkX3_frameOfInner_36 : List gw_E := [(36, 1, .iconst (-1), [], [-1], [])]
def bkX3_frameOfInner_37 : List gw_E := [(37, 1, .ireturn, [0], [], [])]
def bsX3_frameOfInner : List (Nat × List gw_E) := [(0, bkX3_frameOfInner_0), (36, bkX3_frameOfInner_36), (37, bkX3_frameOfInner_37)]
theorem fdX3_frameOfInner_0 : gw_find bsX3_frameOfInner 0 = bkX3_frameOfInner_0 := rfl
theorem fdX3_frameOfInner_36 : gw_find bsX3_frameOfInner 36 = bkX3_frameOfInner_36 := rfl
theorem fdX3_frameOfInner_37 : gw_find bsX3_frameOfInner 37 = bkX3_frameOfInner_37 := rfl
set_option maxRecDepth 40000 in
theorem stX3_frameOfInner : gw_sta sgX3_frameOfInner bsX3_frameOfInner := ⟨by decide +kernel, gw_mem2 (i := 5115) rfl rfl, gw_all (by decide +kernel)⟩
def bkX3_virtualPagesAt_0 : List gw_E := [(0, 1, .aload_n 0, [0], [], []), (1, 3, .invokevirtual 159, [0, 3, 3018, 3019, 3020, 1002], [], [sgX3_inHand]), (4, 3, .getfield 116, [1, 1, 1, 2044], [], []), (7, 1, .astore_n 2, [2], [], []), (8, 1, .iconst 0, [], [0], []), (9, 1, .istore_n 3, [3], [], []), (10, 1, .iconst 0, [], [0], []), (11, 2, .istore 4, [4], [], [])]
def bkX3_virtualPagesAt_13 : List gw_E := [(13, 2, .iload 4, [4], [], []), (15, 2, .bipush 16, [], [16], []), (17, 3, .if_icmp .ge 40, [57], [], []), (20, 1, .aload_n 2, [2], [], []), (21, 2, .iload 4, [4], [], []), (23, 3, .invokevirtual 193, [1, 8, 3138, 3093, 3094, 1004], [], [sgX8_has]), (26, 3, .ifCond .eq 25, [51], [], []), (29, 1, .aload_n 0, [0], [], []), (30, 1, .aload_n 2, [2], [], []), (31, 3, .getfield 183, [8, 0, 1, 1051], [], []), (34, 2, .iload 4, [4], [], []), (36, 1, .iaload, [], [], []), (37, 3, .invokevirtual 387, [1, 3, 5112, 5114, 19, 1002], [], [sgX3_frameOfInner]), (40, 1, .iload_n 1, [1], [], []), (41, 3, .if_icmp .ne 10, [51], [], []), (44, 1, .iload_n 3, [3], [], []), (45, 1, .iconst 1, [], [1], []), (46, 2, .iload 4, [4], [], []), (48, 1, .ishl, [], [], []), (49, 1, .ior, [], [], []), (50, 1, .istore_n 3, [3], [], [])]
def bkX3_virtualPagesAt_51 : List gw_E := [(51, 3, .iinc 4 1, [4], [1], []), (54, 3, .goto (-41), [13], [], [])]
def bkX3_virtualPagesAt_57 : List gw_E := [(57, 1, .iload_n 3, [3], [], []), (58, 1, .ireturn, [0], [], [])]
def bsX3_virtualPagesAt : List (Nat × List gw_E) := [(0, bkX3_virtualPagesAt_0), (13, bkX3_virtualPagesAt_13), (51, bkX3_virtualPagesAt_51), (57, bkX3_virtualPagesAt_57)]
theorem fdX3_virtualPagesAt_0 : gw_find bsX3_virtualPagesAt 0 = bkX3_virtualPagesAt_0 := rfl
theorem fdX3_virtualPagesAt_13 : gw_find bsX3_virtualPagesAt 13 = bkX3_virtualPagesAt_13 := rfl
theorem fdX3_virtualPagesAt_51 : gw_find bsX3_virtualPagesAt 51 = bkX3_virtualPagesAt_51 := rfl
theorem fdX3_virtualPagesAt_57 : gw_find bsX3_virtualPagesAt 57 = bkX3_virtualPagesAt_57 := rfl
set_option maxRecDepth 40000 in
theorem stX3_virtualPagesAt : gw_sta sgX3_virtualPagesAt bsX3_virtualPagesAt := ⟨by decide +kernel, gw_mem2 (i := 5111) rfl rfl, gw_all (by decide +kernel)⟩
def bkX3_plainValue_0 : List gw_E := [(0, 1, .aload_n 0, [0], [], []), (1, 1, .iload_n 1, [1], [], []), (2, 3, .invokevirtual 387, [1, 3, 5112, 5114, 19, 1002], [], [sgX3_frameOfInner]), (5, 1, .istore_n 2, [2], [], []), (6, 1, .iload_n 2, [2], [], []), (7, 1, .iconst (-1), [], [-1], []), (8, 3, .if_icmp .eq 13, [21], [], []), (11, 1, .aload_n 0, [0], [], []), (12, 3, .getfield 12, [3, 0, 1, 2071], [], []), (15, 3, .getfield 390, [4, 1, 1, 1075], [], []), (18, 1, .iload_n 2, [2], [], []), (19, 1, .iaload, [], [], []), (20, 1, .ireturn, [0], [], [])]
def bkX3_plainValue_21 : List gw_E := [(21, 1, .aload_n 0, [0], [], []), (22, 3, .invokevirtual 159, [0, 3, 3018, 3019, 3020, 1002], [], [sgX3_inHand]), (25, 3, .getfield 119, [1, 2, 1, 2047], [], []), (28, 1, .astore_n 3, [3], [], []), (29, 1, .aload_n 3, [3], [], []), (30, 1, .iload_n 1, [1], [], []), (31, 3, .invokevirtual 193, [1, 8, 3138, 3093, 3094, 1004], [], [sgX8_has]), (34, 3, .ifCond .eq 24, [58], [], []), (37, 1, .aload_n 0, [0], [], []), (38, 3, .getfield 12, [3, 0, 1, 2071], [], []), (41, 3, .getfield 393, [4, 2, 1, 1078], [], []), (44, 1, .aload_n 3, [3], [], []), (45, 3, .getfield 183, [8, 0, 1, 1051], [], []), (48, 1, .iload_n 1, [1], [], []), (49, 1, .iaload, [], [], []), (50, 1, .iaload, [], [], []), (51, 1, .iconst 0, [], [0], []), (52, 3, .invokestatic 396, [2, 0, 6015, 3078, 1015, 0], [], [sgJ9_max_7cf53]), (55, 3, .goto 4, [59], [], [])]
def bkX3_plainValue_58 : List gw_E := [(58, 1, .iconst 0, [], [0], [])]
def bkX3_plainValue_59 : List gw_E := [(59, 1, .ireturn, [0], [], [])]
def bsX3_plainValue : List (Nat × List gw_E) := [(0, bkX3_plainValue_0), (21, bkX3_plainValue_21), (58, bkX3_plainValue_58), (59, bkX3_plainValue_59)]
theorem fdX3_plainValue_0 : gw_find bsX3_plainValue 0 = bkX3_plainValue_0 := rfl
theorem fdX3_plainValue_21 : gw_find bsX3_plainValue 21 = bkX3_plainValue_21 := rfl
theorem fdX3_plainValue_58 : gw_find bsX3_plainValue 58 = bkX3_plainValue_58 := rfl
theorem fdX3_plainValue_59 : gw_find bsX3_plainValue 59 = bkX3_plainValue_59 := rfl
set_option maxRecDepth 40000 in
theorem stX3_plainValue : gw_sta sgX3_plainValue bsX3_plainValue := ⟨by decide +kernel, gw_mem2 (i := 6014) rfl rfl, gw_all (by decide +kernel)⟩
def bkX5_init_0 : List gw_E := [(0, 1, .aload_n 0, [0], [], []), (1, 3, .invokespecial 3, [0, 2, 2134, 1025, 1026, 0], [], []), (4, 1, .aload_n 0, [0], [], []), (5, 2, .bipush 20, [], [20], []), (7, 3, .anewarray 9, [14, 2135, 2136], [], []), (10, 3, .putfield 11, [5, 0, 1, 2137], [], []), (13, 1, .return_, [], [], [])]
def bsX5_init : List (Nat × List gw_E) := [(0, bkX5_init_0)]
theorem fdX5_init_0 : gw_find bsX5_init 0 = bkX5_init_0 := rfl
set_option maxRecDepth 40000 in
theorem stX5_init : gw_sta sgX5_init bsX5_init := ⟨by decide +kernel, gw_mem2 (i := 2133) rfl rfl, gw_all (by decide +kernel)⟩
def bkX5_push_0 : List gw_E := [(0, 1, .aload_n 0, [0], [], []), (1, 3, .getfield 17, [5, 1, 0, 2138], [], []), (4, 1, .aload_n 0, [0], [], []), (5, 3, .getfield 21, [5, 2, 0, 2139], [], []), (8, 1, .iadd, [], [], []), (9, 2, .bipush 20, [], [20], []), (11, 1, .irem, [], [], []), (12, 1, .istore_n 2, [2], [], []), (13, 1, .aload_n 0, [0], [], []), (14, 3, .getfield 11, [5, 0, 1, 2137], [], []), (17, 1, .iload_n 2, [2], [], []), (18, 1, .aaload, [], [], []), (19, 3, .ifnonnull 16, [35], [], []), (22, 1, .aload_n 0, [0], [], []), (23, 3, .getfield 11, [5, 0, 1, 2137], [], []), (26, 1, .iload_n 2, [2], [], []), (27, 3, .new 9, [3, 2135, 1028, 1002], [], []), (30, 1, .dup, [], [], []), (31, 3, .invokespecial 24, [0, 0, 2209, 1030, 1002, 0], [], [sgX3_init]), (34, 1, .aastore, [], [], [])]
def bkX5_push_35 : List gw_E := [(35, 1, .aload_n 0, [0], [], []), (36, 3, .getfield 11, [5, 0, 1, 2137], [], []), (39, 1, .iload_n 2, [2], [], []), (40, 1, .aaload, [], [], []), (41, 1, .aload_n 1, [1], [], []), (42, 3, .invokevirtual 25, [1, 3, 2210, 2211, 2212, 1002], [], [sgX3_copyFrom]), (45, 1, .aload_n 0, [0], [], []), (46, 3, .getfield 21, [5, 2, 0, 2139], [], []), (49, 2, .bipush 20, [], [20], []), (51, 3, .if_icmp .ge 16, [67], [], []), (54, 1, .aload_n 0, [0], [], []), (55, 1, .dup, [], [], []), (56, 3, .getfield 21, [5, 2, 0, 2139], [], []), (59, 1, .iconst 1, [], [1], []), (60, 1, .iadd, [], [], []), (61, 3, .putfield 21, [5, 2, 0, 2139], [], []), (64, 3, .goto 16, [80], [], [])]
def bkX5_push_67 : List gw_E := [(67, 1, .aload_n 0, [0], [], []), (68, 1, .aload_n 0, [0], [], []), (69, 3, .getfield 17, [5, 1, 0, 2138], [], []), (72, 1, .iconst 1, [], [1], []), (73, 1, .iadd, [], [], []), (74, 2, .bipush 20, [], [20], []), (76, 1, .irem, [], [], []), (77, 3, .putfield 17, [5, 1, 0, 2138], [], [])]
def bkX5_push_80 : List gw_E := [(80, 1, .return_, [], [], [])]
def bsX5_push : List (Nat × List gw_E) := [(0, bkX5_push_0), (35, bkX5_push_35), (67, bkX5_push_67), (80, bkX5_push_80)]
theorem fdX5_push_0 : gw_find bsX5_push 0 = bkX5_push_0 := rfl
theorem fdX5_push_35 : gw_find bsX5_push 35 = bkX5_push_35 := rfl
theorem fdX5_push_67 : gw_find bsX5_push 67 = bkX5_push_67 := rfl
theorem fdX5_push_80 : gw_find bsX5_push 80 = bkX5_push_80 := rfl
set_option maxRecDepth 40000 in
theorem stX5_push : gw_sta sgX5_push bsX5_push := ⟨by decide +kernel, gw_mem2 (i := 2208) rfl rfl, gw_all (by decide +kernel)⟩
def bkX5_popInto_0 : List gw_E := [(0, 1, .aload_n 0, [0], [], []), (1, 3, .getfield 21, [5, 2, 0, 2139], [], []), (4, 3, .ifCond .ne 4, [8], [], []), (7, 1, .return_, [], [], [])]
def bkX5_popInto_8 : List gw_E := [(8, 1, .aload_n 0, [0], [], []), (9, 1, .dup, [], [], []), (10, 3, .getfield 21, [5, 2, 0, 2139], [], []), (13, 1, .iconst 1, [], [1], []), (14, 1, .isub, [], [], []), (15, 3, .putfield 21, [5, 2, 0, 2139], [], []), (18, 1, .aload_n 0, [0], [], []), (19, 3, .getfield 11, [5, 0, 1, 2137], [], []), (22, 1, .aload_n 0, [0], [], []), (23, 3, .getfield 17, [5, 1, 0, 2138], [], []), (26, 1, .aload_n 0, [0], [], []), (27, 3, .getfield 21, [5, 2, 0, 2139], [], []), (30, 1, .iadd, [], [], []), (31, 2, .bipush 20, [], [20], []), (33, 1, .irem, [], [], []), (34, 1, .aaload, [], [], []), (35, 1, .astore_n 2, [2], [], []), (36, 1, .aload_n 2, [2], [], []), (37, 3, .ifnull 8, [45], [], []), (40, 1, .aload_n 1, [1], [], []), (41, 1, .aload_n 2, [2], [], []), (42, 3, .invokevirtual 25, [1, 3, 2210, 2211, 2212, 1002], [], [sgX3_copyFrom])]
def bkX5_popInto_45 : List gw_E := [(45, 1, .return_, [], [], [])]
def bsX5_popInto : List (Nat × List gw_E) := [(0, bkX5_popInto_0), (8, bkX5_popInto_8), (45, bkX5_popInto_45)]
theorem fdX5_popInto_0 : gw_find bsX5_popInto 0 = bkX5_popInto_0 := rfl
theorem fdX5_popInto_8 : gw_find bsX5_popInto 8 = bkX5_popInto_8 := rfl
theorem fdX5_popInto_45 : gw_find bsX5_popInto 45 = bkX5_popInto_45 := rfl
set_option maxRecDepth 40000 in
theorem stX5_popInto : gw_sta sgX5_popInto bsX5_popInto := ⟨by decide +kernel, gw_mem2 (i := 5005) rfl rfl, gw_all (by decide +kernel)⟩
def bkX5_copyFrom_0 : List gw_E := [(0, 1, .aload_n 0, [0], [], []), (1, 1, .iconst 0, [], [0], []), (2, 3, .putfield 17, [5, 1, 0, 2138], [], []), (5, 1, .aload_n 0, [0], [], []), (6, 1, .iconst 0, [], [0], []), (7, 3, .putfield 21, [5, 2, 0, 2139], [], []), (10, 1, .iconst 0, [], [0], []), (11, 1, .istore_n 2, [2], [], [])]
def bkX5_copyFrom_12 : List gw_E := [(12, 1, .iload_n 2, [2], [], []), (13, 1, .aload_n 1, [1], [], []), (14, 3, .getfield 21, [5, 2, 0, 2139], [], []), (17, 3, .if_icmp .ge 33, [50], [], []), (20, 1, .aload_n 1, [1], [], []), (21, 3, .getfield 11, [5, 0, 1, 2137], [], []), (24, 1, .aload_n 1, [1], [], []), (25, 3, .getfield 17, [5, 1, 0, 2138], [], []), (28, 1, .iload_n 2, [2], [], []), (29, 1, .iadd, [], [], []), (30, 2, .bipush 20, [], [20], []), (32, 1, .irem, [], [], []), (33, 1, .aaload, [], [], []), (34, 1, .astore_n 3, [3], [], []), (35, 1, .aload_n 3, [3], [], []), (36, 3, .ifnull 8, [44], [], []), (39, 1, .aload_n 0, [0], [], []), (40, 1, .aload_n 3, [3], [], []), (41, 3, .invokevirtual 29, [1, 5, 6055, 2206, 2207, 1011], [], [sgX5_push])]
def bkX5_copyFrom_44 : List gw_E := [(44, 3, .iinc 2 1, [2], [1], []), (47, 3, .goto (-35), [12], [], [])]
def bkX5_copyFrom_50 : List gw_E := [(50, 1, .return_, [], [], [])]
def bsX5_copyFrom : List (Nat × List gw_E) := [(0, bkX5_copyFrom_0), (12, bkX5_copyFrom_12), (44, bkX5_copyFrom_44), (50, bkX5_copyFrom_50)]
theorem fdX5_copyFrom_0 : gw_find bsX5_copyFrom 0 = bkX5_copyFrom_0 := rfl
theorem fdX5_copyFrom_12 : gw_find bsX5_copyFrom 12 = bkX5_copyFrom_12 := rfl
theorem fdX5_copyFrom_44 : gw_find bsX5_copyFrom 44 = bkX5_copyFrom_44 := rfl
theorem fdX5_copyFrom_50 : gw_find bsX5_copyFrom 50 = bkX5_copyFrom_50 := rfl
set_option maxRecDepth 40000 in
theorem stX5_copyFrom : gw_sta sgX5_copyFrom bsX5_copyFrom := ⟨by decide +kernel, gw_mem2 (i := 6054) rfl rfl, gw_all (by decide +kernel)⟩
def bkX6_init_0 : List gw_E := [(0, 1, .aload_n 0, [0], [], []), (1, 3, .invokespecial 3, [0, 2, 2153, 1025, 1026, 0], [], []), (4, 1, .aload_n 0, [0], [], []), (5, 3, .new 9, [1, 2154, 2029, 1010], [], []), (8, 1, .dup, [], [], []), (9, 3, .invokespecial 11, [0, 1, 2155, 2031, 1010, 0], [], [sgX1_init]), (12, 3, .putfield 12, [6, 0, 1, 2156], [], []), (15, 1, .aload_n 0, [0], [], []), (16, 2, .bipush 16, [], [16], []), (18, 2, .newarray .int, [], [], []), (20, 3, .putfield 18, [6, 1, 1, 2157], [], []), (23, 1, .return_, [], [], [])]
def bsX6_init : List (Nat × List gw_E) := [(0, bkX6_init_0)]
theorem fdX6_init_0 : gw_find bsX6_init 0 = bkX6_init_0 := rfl
set_option maxRecDepth 40000 in
theorem stX6_init : gw_sta sgX6_init bsX6_init := ⟨by decide +kernel, gw_mem2 (i := 2152) rfl rfl, gw_all (by decide +kernel)⟩
def bkX6_startFrom_0 : List gw_E := [(0, 1, .aload_n 0, [0], [], []), (1, 3, .getfield 12, [6, 0, 1, 2156], [], []), (4, 1, .aload_n 1, [1], [], []), (5, 3, .invokevirtual 22, [0, 3, 6009, 3019, 3020, 1002], [], [sgX3_inHand]), (8, 3, .invokevirtual 28, [1, 1, 6010, 2238, 2239, 1010], [], [sgX1_copyFrom]), (11, 1, .iconst 0, [], [0], []), (12, 1, .istore_n 2, [2], [], [])]
def bkX6_startFrom_13 : List gw_E := [(13, 1, .iload_n 2, [2], [], []), (14, 2, .bipush 16, [], [16], []), (16, 3, .if_icmp .ge 20, [36], [], []), (19, 1, .aload_n 0, [0], [], []), (20, 3, .getfield 18, [6, 1, 1, 2157], [], []), (23, 1, .iload_n 2, [2], [], []), (24, 1, .aload_n 1, [1], [], []), (25, 1, .iload_n 2, [2], [], []), (26, 3, .invokevirtual 32, [1, 3, 6011, 6012, 6013, 1002], [], [sgX3_plainValue]), (29, 1, .iastore, [], [], []), (30, 3, .iinc 2 1, [2], [1], []), (33, 3, .goto (-20), [13], [], [])]
def bkX6_startFrom_36 : List gw_E := [(36, 1, .aload_n 0, [0], [], []), (37, 1, .iconst 0, [], [0], []), (38, 3, .putfield 36, [6, 2, 0, 2159], [], []), (41, 1, .aload_n 0, [0], [], []), (42, 1, .iconst (-1), [], [-1], []), (43, 3, .putfield 40, [6, 3, 0, 2161], [], []), (46, 1, .return_, [], [], [])]
def bsX6_startFrom : List (Nat × List gw_E) := [(0, bkX6_startFrom_0), (13, bkX6_startFrom_13), (36, bkX6_startFrom_36)]
theorem fdX6_startFrom_0 : gw_find bsX6_startFrom 0 = bkX6_startFrom_0 := rfl
theorem fdX6_startFrom_13 : gw_find bsX6_startFrom 13 = bkX6_startFrom_13 := rfl
theorem fdX6_startFrom_36 : gw_find bsX6_startFrom 36 = bkX6_startFrom_36 := rfl
set_option maxRecDepth 40000 in
theorem stX6_startFrom : gw_sta sgX6_startFrom bsX6_startFrom := ⟨by decide +kernel, gw_mem2 (i := 6008) rfl rfl, gw_all (by decide +kernel)⟩
def bkX6_goOn_0 : List gw_E := [(0, 1, .aload_n 0, [0], [], []), (1, 3, .getfield 12, [6, 0, 1, 2156], [], []), (4, 3, .getfield 43, [1, 0, 1, 2039], [], []), (7, 3, .getfield 47, [0, 0, 1, 1143], [], []), (10, 1, .astore_n 1, [1], [], []), (11, 1, .aload_n 1, [1], [], []), (12, 3, .getfield 53, [7, 3, 0, 1125], [], []), (15, 3, .ifCond .ne 4, [19], [], []), (18, 1, .return_, [], [], [])]
def bkX6_goOn_19 : List gw_E := [(19, 1, .aload_n 1, [1], [], []), (20, 3, .invokevirtual 58, [0, 7, 6020, 4203, 4204, 1007], [], [sgX7_advance]), (23, 1, .istore_n 2, [2], [], []), (24, 1, .aload_n 1, [1], [], []), (25, 3, .getfield 62, [7, 0, 1, 1113], [], []), (28, 1, .iload_n 2, [2], [], []), (29, 1, .iaload, [], [], []), (30, 1, .istore_n 3, [3], [], []), (31, 1, .iload_n 3, [3], [], []), (32, 3, .invokestatic 65, [1, 1, 6021, 3186, 1001, 0], [], [sgX10_isWay]), (35, 3, .ifCond .eq 24, [59], [], []), (38, 1, .aload_n 0, [0], [], []), (39, 1, .iload_n 2, [2], [], []), (40, 1, .aload_n 1, [1], [], []), (41, 3, .getfield 69, [7, 1, 1, 1117], [], []), (44, 1, .iload_n 2, [2], [], []), (45, 1, .iaload, [], [], []), (46, 1, .iload_n 3, [3], [], []), (47, 1, .aload_n 1, [1], [], []), (48, 3, .getfield 72, [7, 2, 1, 1121], [], []), (51, 1, .iload_n 2, [2], [], []), (52, 1, .iaload, [], [], []), (53, 3, .invokevirtual 75, [4, 6, 6022, 6024, 21, 1012], [], [sgX6_touchFrom]), (56, 3, .goto 23, [79], [], [])]
def bkX6_goOn_59 : List gw_E := [(59, 1, .aload_n 0, [0], [], []), (60, 3, .getfield 12, [6, 0, 1, 2156], [], []), (63, 1, .iload_n 3, [3], [], []), (64, 1, .aload_n 1, [1], [], []), (65, 3, .getfield 69, [7, 1, 1, 1117], [], []), (68, 1, .iload_n 2, [2], [], []), (69, 1, .iaload, [], [], []), (70, 1, .aload_n 1, [1], [], []), (71, 3, .getfield 72, [7, 2, 1, 1121], [], []), (74, 1, .iload_n 2, [2], [], []), (75, 1, .iaload, [], [], []), (76, 3, .invokevirtual 79, [3, 1, 6028, 4234, 4235, 1010], [], [sgX1_actAlone])]
def bkX6_goOn_79 : List gw_E := [(79, 1, .return_, [], [], [])]
def bsX6_goOn : List (Nat × List gw_E) := [(0, bkX6_goOn_0), (19, bkX6_goOn_19), (59, bkX6_goOn_59), (79, bkX6_goOn_79)]
theorem fdX6_goOn_0 : gw_find bsX6_goOn 0 = bkX6_goOn_0 := rfl
theorem fdX6_goOn_19 : gw_find bsX6_goOn 19 = bkX6_goOn_19 := rfl
theorem fdX6_goOn_59 : gw_find bsX6_goOn 59 = bkX6_goOn_59 := rfl
theorem fdX6_goOn_79 : gw_find bsX6_goOn 79 = bkX6_goOn_79 := rfl
set_option maxRecDepth 40000 in
theorem stX6_goOn : gw_sta sgX6_goOn bsX6_goOn := ⟨by decide +kernel, gw_mem2 (i := 6019) rfl rfl, gw_all (by decide +kernel)⟩
def bkX6_touchFrom_0 : List gw_E := [(0, 1, .aload_n 0, [0], [], []), (1, 3, .getfield 12, [6, 0, 1, 2156], [], []), (4, 3, .getfield 83, [1, 1, 1, 2043], [], []), (7, 1, .iload_n 2, [2], [], []), (8, 1, .iload_n 3, [3], [], []), (9, 3, .invokevirtual 87, [2, 8, 6026, 3193, 3194, 1004], [], [sgX8_gives]), (12, 3, .ifCond .ne 30, [42], [], []), (15, 1, .aload_n 0, [0], [], []), (16, 1, .dup, [], [], []), (17, 3, .getfield 36, [6, 2, 0, 2159], [], []), (20, 1, .iconst 1, [], [1], []), (21, 1, .iadd, [], [], []), (22, 3, .putfield 36, [6, 2, 0, 2159], [], []), (25, 1, .aload_n 0, [0], [], []), (26, 3, .getfield 12, [6, 0, 1, 2156], [], []), (29, 1, .iload_n 2, [2], [], []), (30, 3, .putfield 93, [1, 4, 0, 2052], [], []), (33, 1, .aload_n 0, [0], [], []), (34, 3, .getfield 12, [6, 0, 1, 2156], [], []), (37, 1, .iload_n 1, [1], [], []), (38, 3, .invokevirtual 96, [1, 1, 6027, 4229, 4230, 1010], [], [sgX1_trapAt]), (41, 1, .return_, [], [], [])]
def bkX6_touchFrom_42 : List gw_E := [(42, 1, .aload_n 0, [0], [], []), (43, 3, .getfield 12, [6, 0, 1, 2156], [], []), (46, 3, .getfield 83, [1, 1, 1, 2043], [], []), (49, 3, .getfield 100, [8, 0, 1, 1049], [], []), (52, 1, .iload_n 2, [2], [], []), (53, 1, .iaload, [], [], []), (54, 2, .istore 5, [5], [], []), (56, 1, .iload_n 3, [3], [], []), (57, 1, .iconst 1, [], [1], []), (58, 3, .if_icmp .ne 15, [73], [], []), (61, 1, .aload_n 0, [0], [], []), (62, 3, .getfield 18, [6, 1, 1, 2157], [], []), (65, 2, .iload 5, [5], [], []), (67, 2, .iload 4, [4], [], []), (69, 1, .iastore, [], [], []), (70, 3, .goto 14, [84], [], [])]
def bkX6_touchFrom_73 : List gw_E := [(73, 1, .aload_n 0, [0], [], []), (74, 1, .aload_n 0, [0], [], []), (75, 3, .getfield 18, [6, 1, 1, 2157], [], []), (78, 2, .iload 5, [5], [], []), (80, 1, .iaload, [], [], []), (81, 3, .putfield 40, [6, 3, 0, 2161], [], [])]
def bkX6_touchFrom_84 : List gw_E := [(84, 1, .return_, [], [], [])]
def bsX6_touchFrom : List (Nat × List gw_E) := [(0, bkX6_touchFrom_0), (42, bkX6_touchFrom_42), (73, bkX6_touchFrom_73), (84, bkX6_touchFrom_84)]
theorem fdX6_touchFrom_0 : gw_find bsX6_touchFrom 0 = bkX6_touchFrom_0 := rfl
theorem fdX6_touchFrom_42 : gw_find bsX6_touchFrom 42 = bkX6_touchFrom_42 := rfl
theorem fdX6_touchFrom_73 : gw_find bsX6_touchFrom 73 = bkX6_touchFrom_73 := rfl
theorem fdX6_touchFrom_84 : gw_find bsX6_touchFrom 84 = bkX6_touchFrom_84 := rfl
set_option maxRecDepth 40000 in
theorem stX6_touchFrom : gw_sta sgX6_touchFrom bsX6_touchFrom := ⟨by decide +kernel, gw_mem2 (i := 6025) rfl rfl, gw_all (by decide +kernel)⟩
def bkX10_init_0 : List gw_E := [(0, 1, .aload_n 0, [0], [], []), (1, 3, .invokespecial 1, [0, 2, 1024, 1025, 1026, 0], [], []), (4, 1, .aload_n 0, [0], [], []), (5, 3, .new 7, [3, 1027, 1028, 1002], [], []), (8, 1, .dup, [], [], []), (9, 3, .invokespecial 9, [0, 0, 1029, 1030, 1002, 0], [], [sgX3_init]), (12, 3, .putfield 10, [10, 0, 1, 2172], [], []), (15, 1, .aload_n 0, [0], [], []), (16, 3, .new 16, [5, 2129, 2130, 1011], [], []), (19, 1, .dup, [], [], []), (20, 3, .invokespecial 18, [0, 1, 2131, 2132, 1011, 0], [], [sgX5_init]), (23, 3, .putfield 19, [10, 1, 1, 2173], [], []), (26, 1, .aload_n 0, [0], [], []), (27, 3, .new 7, [3, 1027, 1028, 1002], [], []), (30, 1, .dup, [], [], []), (31, 3, .invokespecial 9, [0, 0, 1029, 1030, 1002, 0], [], [sgX3_init]), (34, 3, .putfield 23, [10, 2, 1, 2174], [], []), (37, 1, .aload_n 0, [0], [], []), (38, 3, .new 16, [5, 2129, 2130, 1011], [], []), (41, 1, .dup, [], [], []), (42, 3, .invokespecial 18, [0, 1, 2131, 2132, 1011, 0], [], [sgX5_init]), (45, 3, .putfield 26, [10, 3, 1, 2175], [], []), (48, 1, .aload_n 0, [0], [], []), (49, 3, .new 7, [3, 1027, 1028, 1002], [], []), (52, 1, .dup, [], [], []), (53, 3, .invokespecial 9, [0, 0, 1029, 1030, 1002, 0], [], [sgX3_init]), (56, 3, .putfield 29, [10, 4, 1, 2176], [], []), (59, 1, .aload_n 0, [0], [], []), (60, 3, .new 32, [6, 2148, 2149, 1012], [], []), (63, 1, .dup, [], [], []), (64, 3, .invokespecial 34, [0, 1, 2150, 2151, 1012, 0], [], [sgX6_init]), (67, 3, .putfield 35, [10, 5, 1, 2177], [], []), (70, 1, .return_, [], [], [])]
def bsX10_init : List (Nat × List gw_E) := [(0, bkX10_init_0)]
theorem fdX10_init_0 : gw_find bsX10_init 0 = bkX10_init_0 := rfl
set_option maxRecDepth 40000 in
theorem stX10_init : gw_sta sgX10_init bsX10_init := ⟨by decide +kernel, gw_mem2 (i := 1023) rfl rfl, gw_all (by decide +kernel)⟩
def bkX10_entry_0 : List gw_E := [(0, 1, .iload_n 1, [1], [], []), (1, 1, .iconst 2, [], [2], []), (2, 3, .if_icmp .ne 8, [10], [], []), (5, 2, .bipush 10, [], [10], []), (7, 3, .goto 5, [12], [], [])]
def bkX10_entry_10 : List gw_E := [(10, 2, .bipush 16, [], [16], [])]
def bkX10_entry_12 : List gw_E := [(12, 2, .istore 5, [5], [], []), (14, 1, .aload_n 0, [0], [], []), (15, 3, .getfield 10, [10, 0, 1, 2172], [], []), (18, 1, .iload_n 1, [1], [], []), (19, 3, .invokevirtual 39, [1, 3, 2195, 2196, 2197, 1002], [], [sgX3_mayTell]), (22, 3, .ifCond .eq 33, [55], [], []), (25, 1, .iload_n 2, [2], [], []), (26, 3, .invokestatic 43, [1, 0, 2199, 2200, 1001, 0], [], [sgX10_isPage]), (29, 3, .ifCond .eq 26, [55], [], []), (32, 1, .iload_n 3, [3], [], []), (33, 1, .iconst 0, [], [0], []), (34, 2, .iload 5, [5], [], []), (36, 1, .iconst 1, [], [1], []), (37, 1, .isub, [], [], []), (38, 3, .invokestatic 46, [3, 0, 2202, 2203, 1001, 0], [], [sgX10_within]), (41, 3, .ifCond .eq 14, [55], [], []), (44, 2, .iload 4, [4], [], []), (46, 1, .iconst 1, [], [1], []), (47, 2, .bipush 7, [], [7], []), (49, 3, .invokestatic 46, [3, 0, 2202, 2203, 1001, 0], [], [sgX10_within]), (52, 3, .ifCond .ne 5, [57], [], [])]
def bkX10_entry_55 : List gw_E := [(55, 1, .iconst 0, [], [0], []), (56, 1, .ireturn, [1], [], [])]
def bkX10_entry_57 : List gw_E := [(57, 1, .aload_n 0, [0], [], []), (58, 3, .getfield 19, [10, 1, 1, 2173], [], []), (61, 1, .aload_n 0, [0], [], []), (62, 3, .getfield 10, [10, 0, 1, 2172], [], []), (65, 3, .invokevirtual 50, [1, 5, 2205, 2206, 2207, 1011], [], [sgX5_push]), (68, 1, .aload_n 0, [0], [], []), (69, 3, .getfield 10, [10, 0, 1, 2172], [], []), (72, 1, .iload_n 1, [1], [], []), (73, 1, .iload_n 2, [2], [], []), (74, 1, .iload_n 3, [3], [], []), (75, 2, .iload 4, [4], [], []), (77, 3, .invokevirtual 54, [4, 3, 3014, 3015, 3016, 1002], [], [sgX3_tellEntry]), (80, 1, .aload_n 0, [0], [], []), (81, 3, .getfield 10, [10, 0, 1, 2172], [], []), (84, 3, .invokevirtual 58, [0, 3, 3046, 3047, 3048, 1002], [], [sgX3_dealOut]), (87, 1, .iconst 1, [], [1], []), (88, 1, .ireturn, [1], [], [])]
def bsX10_entry : List (Nat × List gw_E) := [(0, bkX10_entry_0), (10, bkX10_entry_10), (12, bkX10_entry_12), (55, bkX10_entry_55), (57, bkX10_entry_57)]
theorem fdX10_entry_0 : gw_find bsX10_entry 0 = bkX10_entry_0 := rfl
theorem fdX10_entry_10 : gw_find bsX10_entry 10 = bkX10_entry_10 := rfl
theorem fdX10_entry_12 : gw_find bsX10_entry 12 = bkX10_entry_12 := rfl
theorem fdX10_entry_55 : gw_find bsX10_entry 55 = bkX10_entry_55 := rfl
theorem fdX10_entry_57 : gw_find bsX10_entry 57 = bkX10_entry_57 := rfl
set_option maxRecDepth 40000 in
theorem stX10_entry : gw_sta sgX10_entry bsX10_entry := ⟨by decide +kernel, gw_mem2 (i := 2194) rfl rfl, gw_all (by decide +kernel)⟩
def bkX10_clear_0 : List gw_E := [(0, 1, .aload_n 0, [0], [], []), (1, 3, .getfield 10, [10, 0, 1, 2172], [], []), (4, 1, .iload_n 1, [1], [], []), (5, 3, .invokevirtual 39, [1, 3, 2195, 2196, 2197, 1002], [], [sgX3_mayTell]), (8, 3, .ifCond .eq 25, [33], [], []), (11, 1, .iload_n 2, [2], [], []), (12, 3, .invokestatic 43, [1, 0, 2199, 2200, 1001, 0], [], [sgX10_isPage]), (15, 3, .ifCond .eq 18, [33], [], []), (18, 1, .aload_n 0, [0], [], []), (19, 3, .getfield 10, [10, 0, 1, 2172], [], []), (22, 1, .iload_n 1, [1], [], []), (23, 3, .invokevirtual 61, [1, 3, 3088, 3089, 3090, 1002], [], [sgX3_table]), (26, 1, .iload_n 2, [2], [], []), (27, 3, .invokevirtual 65, [1, 8, 3092, 3093, 3094, 1004], [], [sgX8_has]), (30, 3, .ifCond .ne 5, [35], [], [])]
def bkX10_clear_33 : List gw_E := [(33, 1, .iconst 0, [], [0], []), (34, 1, .ireturn, [1], [], [])]
def bkX10_clear_35 : List gw_E := [(35, 1, .aload_n 0, [0], [], []), (36, 3, .getfield 19, [10, 1, 1, 2173], [], []), (39, 1, .aload_n 0, [0], [], []), (40, 3, .getfield 10, [10, 0, 1, 2172], [], []), (43, 3, .invokevirtual 50, [1, 5, 2205, 2206, 2207, 1011], [], [sgX5_push]), (46, 1, .aload_n 0, [0], [], []), (47, 3, .getfield 10, [10, 0, 1, 2172], [], []), (50, 1, .iload_n 1, [1], [], []), (51, 1, .iload_n 2, [2], [], []), (52, 3, .invokevirtual 70, [2, 3, 3096, 3097, 3098, 1002], [], [sgX3_dropEntry]), (55, 1, .aload_n 0, [0], [], []), (56, 3, .getfield 10, [10, 0, 1, 2172], [], []), (59, 3, .invokevirtual 58, [0, 3, 3046, 3047, 3048, 1002], [], [sgX3_dealOut]), (62, 1, .iconst 1, [], [1], []), (63, 1, .ireturn, [1], [], [])]
def bsX10_clear : List (Nat × List gw_E) := [(0, bkX10_clear_0), (33, bkX10_clear_33), (35, bkX10_clear_35)]
theorem fdX10_clear_0 : gw_find bsX10_clear 0 = bkX10_clear_0 := rfl
theorem fdX10_clear_33 : gw_find bsX10_clear 33 = bkX10_clear_33 := rfl
theorem fdX10_clear_35 : gw_find bsX10_clear 35 = bkX10_clear_35 := rfl
set_option maxRecDepth 40000 in
theorem stX10_clear : gw_sta sgX10_clear bsX10_clear := ⟨by decide +kernel, gw_mem2 (i := 3087) rfl rfl, gw_all (by decide +kernel)⟩
def bkX10_room_0 : List gw_E := [(0, 1, .iload_n 1, [1], [], []), (1, 1, .iconst 1, [], [1], []), (2, 2, .bipush 16, [], [16], []), (4, 3, .invokestatic 46, [3, 0, 2202, 2203, 1001, 0], [], [sgX10_within]), (7, 3, .ifCond .ne 5, [12], [], []), (10, 1, .iconst 0, [], [0], []), (11, 1, .ireturn, [1], [], [])]
def bkX10_room_12 : List gw_E := [(12, 1, .aload_n 0, [0], [], []), (13, 3, .getfield 19, [10, 1, 1, 2173], [], []), (16, 1, .aload_n 0, [0], [], []), (17, 3, .getfield 10, [10, 0, 1, 2172], [], []), (20, 3, .invokevirtual 50, [1, 5, 2205, 2206, 2207, 1011], [], [sgX5_push]), (23, 1, .aload_n 0, [0], [], []), (24, 3, .getfield 10, [10, 0, 1, 2172], [], []), (27, 1, .iload_n 1, [1], [], []), (28, 3, .invokevirtual 74, [1, 3, 3109, 3110, 3111, 1002], [], [sgX3_makeRoom]), (31, 1, .aload_n 0, [0], [], []), (32, 3, .getfield 10, [10, 0, 1, 2172], [], []), (35, 3, .invokevirtual 58, [0, 3, 3046, 3047, 3048, 1002], [], [sgX3_dealOut]), (38, 1, .iconst 1, [], [1], []), (39, 1, .ireturn, [1], [], [])]
def bsX10_room : List (Nat × List gw_E) := [(0, bkX10_room_0), (12, bkX10_room_12)]
theorem fdX10_room_0 : gw_find bsX10_room 0 = bkX10_room_0 := rfl
theorem fdX10_room_12 : gw_find bsX10_room 12 = bkX10_room_12 := rfl
set_option maxRecDepth 40000 in
theorem stX10_room : gw_sta sgX10_room bsX10_room := ⟨by decide +kernel, gw_mem2 (i := 3108) rfl rfl, gw_all (by decide +kernel)⟩
def bkX10_foldAhead_0 : List gw_E := [(0, 1, .aload_n 0, [0], [], []), (1, 3, .getfield 19, [10, 1, 1, 2173], [], []), (4, 1, .aload_n 0, [0], [], []), (5, 3, .getfield 10, [10, 0, 1, 2172], [], []), (8, 3, .invokevirtual 50, [1, 5, 2205, 2206, 2207, 1011], [], [sgX5_push]), (11, 1, .aload_n 0, [0], [], []), (12, 3, .getfield 10, [10, 0, 1, 2172], [], []), (15, 3, .invokevirtual 78, [0, 3, 3130, 3131, 3132, 1002], [], [sgX3_foldLazyPages]), (18, 1, .istore_n 1, [1], [], []), (19, 1, .aload_n 0, [0], [], []), (20, 3, .getfield 10, [10, 0, 1, 2172], [], []), (23, 3, .invokevirtual 58, [0, 3, 3046, 3047, 3048, 1002], [], [sgX3_dealOut]), (26, 1, .iload_n 1, [1], [], []), (27, 1, .ireturn, [0], [], [])]
def bsX10_foldAhead : List (Nat × List gw_E) := [(0, bkX10_foldAhead_0)]
theorem fdX10_foldAhead_0 : gw_find bsX10_foldAhead 0 = bkX10_foldAhead_0 := rfl
set_option maxRecDepth 40000 in
theorem stX10_foldAhead : gw_sta sgX10_foldAhead bsX10_foldAhead := ⟨by decide +kernel, gw_mem2 (i := 3129) rfl rfl, gw_all (by decide +kernel)⟩
def bkX10_join_0 : List gw_E := [(0, 1, .aload_n 0, [0], [], []), (1, 3, .getfield 19, [10, 1, 1, 2173], [], []), (4, 1, .aload_n 0, [0], [], []), (5, 3, .getfield 10, [10, 0, 1, 2172], [], []), (8, 3, .invokevirtual 50, [1, 5, 2205, 2206, 2207, 1011], [], [sgX5_push]), (11, 1, .aload_n 0, [0], [], []), (12, 3, .getfield 10, [10, 0, 1, 2172], [], []), (15, 3, .invokevirtual 82, [0, 3, 3155, 3156, 3157, 1002], [], [sgX3_joinFrames]), (18, 1, .istore_n 1, [1], [], []), (19, 1, .aload_n 0, [0], [], []), (20, 3, .getfield 10, [10, 0, 1, 2172], [], []), (23, 3, .invokevirtual 58, [0, 3, 3046, 3047, 3048, 1002], [], [sgX3_dealOut]), (26, 1, .iload_n 1, [1], [], []), (27, 1, .ireturn, [0], [], [])]
def bsX10_join : List (Nat × List gw_E) := [(0, bkX10_join_0)]
theorem fdX10_join_0 : gw_find bsX10_join 0 = bkX10_join_0 := rfl
set_option maxRecDepth 40000 in
theorem stX10_join : gw_sta sgX10_join bsX10_join := ⟨by decide +kernel, gw_mem2 (i := 3154) rfl rfl, gw_all (by decide +kernel)⟩
def bkX10_trapPlace_0 : List gw_E := [(0, 1, .iload_n 1, [1], [], []), (1, 1, .iconst (-1), [], [-1], []), (2, 2, .bipush 23, [], [23], []), (4, 3, .invokestatic 46, [3, 0, 2202, 2203, 1001, 0], [], [sgX10_within]), (7, 3, .ifCond .ne 5, [12], [], []), (10, 1, .iconst 0, [], [0], []), (11, 1, .ireturn, [1], [], [])]
def bkX10_trapPlace_12 : List gw_E := [(12, 1, .aload_n 0, [0], [], []), (13, 3, .getfield 19, [10, 1, 1, 2173], [], []), (16, 1, .aload_n 0, [0], [], []), (17, 3, .getfield 10, [10, 0, 1, 2172], [], []), (20, 3, .invokevirtual 50, [1, 5, 2205, 2206, 2207, 1011], [], [sgX5_push]), (23, 1, .aload_n 0, [0], [], []), (24, 3, .getfield 10, [10, 0, 1, 2172], [], []), (27, 3, .invokevirtual 85, [0, 3, 3176, 3019, 3020, 1002], [], [sgX3_inHand]), (30, 1, .iload_n 1, [1], [], []), (31, 3, .putfield 89, [1, 3, 0, 2050], [], []), (34, 1, .aload_n 0, [0], [], []), (35, 3, .getfield 10, [10, 0, 1, 2172], [], []), (38, 3, .invokevirtual 58, [0, 3, 3046, 3047, 3048, 1002], [], [sgX3_dealOut]), (41, 1, .iconst 1, [], [1], []), (42, 1, .ireturn, [1], [], [])]
def bsX10_trapPlace : List (Nat × List gw_E) := [(0, bkX10_trapPlace_0), (12, bkX10_trapPlace_12)]
theorem fdX10_trapPlace_0 : gw_find bsX10_trapPlace 0 = bkX10_trapPlace_0 := rfl
theorem fdX10_trapPlace_12 : gw_find bsX10_trapPlace 12 = bkX10_trapPlace_12 := rfl
set_option maxRecDepth 40000 in
theorem stX10_trapPlace : gw_sta sgX10_trapPlace bsX10_trapPlace := ⟨by decide +kernel, gw_mem2 (i := 3175) rfl rfl, gw_all (by decide +kernel)⟩
def bkX10_want_0 : List gw_E := [(0, 1, .iload_n 1, [1], [], []), (1, 3, .ifCond .eq 19, [20], [], []), (4, 1, .iload_n 1, [1], [], []), (5, 1, .iconst 1, [], [1], []), (6, 3, .if_icmp .ne 18, [24], [], []), (9, 1, .aload_n 0, [0], [], []), (10, 3, .getfield 10, [10, 0, 1, 2172], [], []), (13, 3, .getfield 95, [3, 6, 0, 2083], [], []), (16, 1, .iconst 1, [], [1], []), (17, 3, .if_icmp .ne 7, [24], [], [])]
def bkX10_want_20 : List gw_E := [(20, 1, .iconst 1, [], [1], []), (21, 3, .goto 4, [25], [], [])]
def bkX10_want_24 : List gw_E := [(24, 1, .iconst 0, [], [0], [])]
def bkX10_want_25 : List gw_E := [(25, 1, .istore_n 3, [3], [], []), (26, 1, .iload_n 3, [3], [], []), (27, 3, .ifCond .eq 14, [41], [], []), (30, 1, .iload_n 2, [2], [], []), (31, 1, .iconst 0, [], [0], []), (32, 3, .sipush 255, [], [255], []), (35, 3, .invokestatic 46, [3, 0, 2202, 2203, 1001, 0], [], [sgX10_within]), (38, 3, .ifCond .ne 5, [43], [], [])]
def bkX10_want_41 : List gw_E := [(41, 1, .iconst 0, [], [0], []), (42, 1, .ireturn, [1], [], [])]
def bkX10_want_43 : List gw_E := [(43, 1, .aload_n 0, [0], [], []), (44, 3, .getfield 19, [10, 1, 1, 2173], [], []), (47, 1, .aload_n 0, [0], [], []), (48, 3, .getfield 10, [10, 0, 1, 2172], [], []), (51, 3, .invokevirtual 50, [1, 5, 2205, 2206, 2207, 1011], [], [sgX5_push]), (54, 1, .aload_n 0, [0], [], []), (55, 3, .getfield 10, [10, 0, 1, 2172], [], []), (58, 3, .getfield 98, [3, 8, 1, 2087], [], []), (61, 1, .iload_n 1, [1], [], []), (62, 1, .iload_n 2, [2], [], []), (63, 1, .iastore, [], [], []), (64, 1, .aload_n 0, [0], [], []), (65, 3, .getfield 10, [10, 0, 1, 2172], [], []), (68, 3, .invokevirtual 58, [0, 3, 3046, 3047, 3048, 1002], [], [sgX3_dealOut]), (71, 1, .iconst 1, [], [1], []), (72, 1, .ireturn, [1], [], [])]
def bsX10_want : List (Nat × List gw_E) := [(0, bkX10_want_0), (20, bkX10_want_20), (24, bkX10_want_24), (25, bkX10_want_25), (41, bkX10_want_41), (43, bkX10_want_43)]
theorem fdX10_want_0 : gw_find bsX10_want 0 = bkX10_want_0 := rfl
theorem fdX10_want_20 : gw_find bsX10_want 20 = bkX10_want_20 := rfl
theorem fdX10_want_24 : gw_find bsX10_want 24 = bkX10_want_24 := rfl
theorem fdX10_want_25 : gw_find bsX10_want 25 = bkX10_want_25 := rfl
theorem fdX10_want_41 : gw_find bsX10_want 41 = bkX10_want_41 := rfl
theorem fdX10_want_43 : gw_find bsX10_want 43 = bkX10_want_43 := rfl
set_option maxRecDepth 40000 in
theorem stX10_want : gw_sta sgX10_want bsX10_want := ⟨by decide +kernel, gw_mem2 (i := 3180) rfl rfl, gw_all (by decide +kernel)⟩
def bkX10_touch_0 : List gw_E := [(0, 1, .iload_n 1, [1], [], []), (1, 3, .invokestatic 43, [1, 0, 2199, 2200, 1001, 0], [], [sgX10_isPage]), (4, 3, .ifCond .eq 26, [30], [], []), (7, 1, .iload_n 2, [2], [], []), (8, 3, .invokestatic 102, [1, 0, 3185, 3186, 1001, 0], [], [sgX10_isWay]), (11, 3, .ifCond .eq 19, [30], [], []), (14, 1, .iload_n 2, [2], [], []), (15, 1, .iconst 1, [], [1], []), (16, 3, .if_icmp .ne 16, [32], [], []), (19, 1, .iload_n 3, [3], [], []), (20, 1, .iconst 0, [], [0], []), (21, 3, .sipush 9999, [], [9999], []), (24, 3, .invokestatic 46, [3, 0, 2202, 2203, 1001, 0], [], [sgX10_within]), (27, 3, .ifCond .ne 5, [32], [], [])]
def bkX10_touch_30 : List gw_E := [(30, 1, .iconst (-1), [], [-1], []), (31, 1, .ireturn, [0], [], [])]
def bkX10_touch_32 : List gw_E := [(32, 1, .aload_n 0, [0], [], []), (33, 3, .getfield 19, [10, 1, 1, 2173], [], []), (36, 1, .aload_n 0, [0], [], []), (37, 3, .getfield 10, [10, 0, 1, 2172], [], []), (40, 3, .invokevirtual 50, [1, 5, 2205, 2206, 2207, 1011], [], [sgX5_push]), (43, 1, .aload_n 0, [0], [], []), (44, 3, .getfield 10, [10, 0, 1, 2172], [], []), (47, 3, .getfield 95, [3, 6, 0, 2083], [], []), (50, 1, .iconst 2, [], [2], []), (51, 3, .if_icmp .ne 16, [67], [], []), (54, 1, .aload_n 0, [0], [], []), (55, 3, .getfield 10, [10, 0, 1, 2172], [], []), (58, 1, .iload_n 1, [1], [], []), (59, 1, .iload_n 2, [2], [], []), (60, 1, .iload_n 3, [3], [], []), (61, 3, .invokevirtual 105, [3, 3, 3188, 3189, 3190, 1002], [], [sgX3_touchByInner]), (64, 3, .goto 13, [77], [], [])]
def bkX10_touch_67 : List gw_E := [(67, 1, .aload_n 0, [0], [], []), (68, 3, .getfield 10, [10, 0, 1, 2172], [], []), (71, 1, .iload_n 1, [1], [], []), (72, 1, .iload_n 2, [2], [], []), (73, 1, .iload_n 3, [3], [], []), (74, 3, .invokevirtual 109, [3, 3, 4006, 4007, 4008, 1002], [], [sgX3_touchByOuter])]
def bkX10_touch_77 : List gw_E := [(77, 2, .istore 4, [4], [], []), (79, 1, .aload_n 0, [0], [], []), (80, 3, .getfield 10, [10, 0, 1, 2172], [], []), (83, 3, .invokevirtual 58, [0, 3, 3046, 3047, 3048, 1002], [], [sgX3_dealOut]), (86, 2, .iload 4, [4], [], []), (88, 1, .ireturn, [0], [], [])]
def bsX10_touch : List (Nat × List gw_E) := [(0, bkX10_touch_0), (30, bkX10_touch_30), (32, bkX10_touch_32), (67, bkX10_touch_67), (77, bkX10_touch_77)]
theorem fdX10_touch_0 : gw_find bsX10_touch 0 = bkX10_touch_0 := rfl
theorem fdX10_touch_30 : gw_find bsX10_touch 30 = bkX10_touch_30 := rfl
theorem fdX10_touch_32 : gw_find bsX10_touch 32 = bkX10_touch_32 := rfl
theorem fdX10_touch_67 : gw_find bsX10_touch 67 = bkX10_touch_67 := rfl
theorem fdX10_touch_77 : gw_find bsX10_touch 77 = bkX10_touch_77 := rfl
set_option maxRecDepth 40000 in
theorem stX10_touch : gw_sta sgX10_touch bsX10_touch := ⟨by decide +kernel, gw_mem2 (i := 3184) rfl rfl, gw_all (by decide +kernel)⟩
def bkX10_event_0 : List gw_E := [(0, 1, .iload_n 1, [1], [], []), (1, 3, .invokestatic 112, [1, 0, 4014, 4015, 1001, 0], [], [sgX10_isEvent]), (4, 3, .ifCond .ne 5, [9], [], []), (7, 1, .iconst (-1), [], [-1], []), (8, 1, .ireturn, [0], [], [])]
def bkX10_event_9 : List gw_E := [(9, 1, .aload_n 0, [0], [], []), (10, 3, .getfield 19, [10, 1, 1, 2173], [], []), (13, 1, .aload_n 0, [0], [], []), (14, 3, .getfield 10, [10, 0, 1, 2172], [], []), (17, 3, .invokevirtual 50, [1, 5, 2205, 2206, 2207, 1011], [], [sgX5_push]), (20, 1, .aload_n 0, [0], [], []), (21, 3, .getfield 10, [10, 0, 1, 2172], [], []), (24, 3, .getfield 95, [3, 6, 0, 2083], [], []), (27, 1, .iconst 2, [], [2], []), (28, 3, .if_icmp .ne 14, [42], [], []), (31, 1, .aload_n 0, [0], [], []), (32, 3, .getfield 10, [10, 0, 1, 2172], [], []), (35, 1, .iload_n 1, [1], [], []), (36, 3, .invokevirtual 115, [1, 3, 4017, 3198, 3199, 1002], [], [sgX3_eventOfInner]), (39, 3, .goto 11, [50], [], [])]
def bkX10_event_42 : List gw_E := [(42, 1, .aload_n 0, [0], [], []), (43, 3, .getfield 10, [10, 0, 1, 2172], [], []), (46, 1, .iload_n 1, [1], [], []), (47, 3, .invokevirtual 119, [1, 3, 4018, 4019, 4020, 1002], [], [sgX3_eventOfOuter])]
def bkX10_event_50 : List gw_E := [(50, 1, .istore_n 2, [2], [], []), (51, 1, .aload_n 0, [0], [], []), (52, 3, .getfield 10, [10, 0, 1, 2172], [], []), (55, 3, .invokevirtual 58, [0, 3, 3046, 3047, 3048, 1002], [], [sgX3_dealOut]), (58, 1, .iload_n 2, [2], [], []), (59, 1, .ireturn, [0], [], [])]
def bsX10_event : List (Nat × List gw_E) := [(0, bkX10_event_0), (9, bkX10_event_9), (42, bkX10_event_42), (50, bkX10_event_50)]
theorem fdX10_event_0 : gw_find bsX10_event 0 = bkX10_event_0 := rfl
theorem fdX10_event_9 : gw_find bsX10_event 9 = bkX10_event_9 := rfl
theorem fdX10_event_42 : gw_find bsX10_event 42 = bkX10_event_42 := rfl
theorem fdX10_event_50 : gw_find bsX10_event 50 = bkX10_event_50 := rfl
set_option maxRecDepth 40000 in
theorem stX10_event : gw_sta sgX10_event bsX10_event := ⟨by decide +kernel, gw_mem2 (i := 4013) rfl rfl, gw_all (by decide +kernel)⟩
def bkX10_enter_0 : List gw_E := [(0, 1, .aload_n 0, [0], [], []), (1, 3, .getfield 10, [10, 0, 1, 2172], [], []), (4, 3, .getfield 95, [3, 6, 0, 2083], [], []), (7, 1, .iconst 1, [], [1], []), (8, 3, .if_icmp .eq 5, [13], [], []), (11, 1, .iconst 0, [], [0], []), (12, 1, .ireturn, [1], [], [])]
def bkX10_enter_13 : List gw_E := [(13, 1, .aload_n 0, [0], [], []), (14, 3, .getfield 19, [10, 1, 1, 2173], [], []), (17, 1, .aload_n 0, [0], [], []), (18, 3, .getfield 10, [10, 0, 1, 2172], [], []), (21, 3, .invokevirtual 50, [1, 5, 2205, 2206, 2207, 1011], [], [sgX5_push]), (24, 1, .aload_n 0, [0], [], []), (25, 3, .getfield 10, [10, 0, 1, 2172], [], []), (28, 3, .invokevirtual 122, [0, 3, 4026, 4027, 4028, 1002], [], [sgX3_enterInner]), (31, 1, .aload_n 0, [0], [], []), (32, 3, .getfield 10, [10, 0, 1, 2172], [], []), (35, 3, .invokevirtual 58, [0, 3, 3046, 3047, 3048, 1002], [], [sgX3_dealOut]), (38, 1, .iconst 1, [], [1], []), (39, 1, .ireturn, [1], [], [])]
def bsX10_enter : List (Nat × List gw_E) := [(0, bkX10_enter_0), (13, bkX10_enter_13)]
theorem fdX10_enter_0 : gw_find bsX10_enter 0 = bkX10_enter_0 := rfl
theorem fdX10_enter_13 : gw_find bsX10_enter 13 = bkX10_enter_13 := rfl
set_option maxRecDepth 40000 in
theorem stX10_enter : gw_sta sgX10_enter bsX10_enter := ⟨by decide +kernel, gw_mem2 (i := 4025) rfl rfl, gw_all (by decide +kernel)⟩
def bkX10_send_0 : List gw_E := [(0, 1, .iload_n 1, [1], [], []), (1, 1, .iconst 1, [], [1], []), (2, 3, .if_icmp .eq 19, [21], [], []), (5, 1, .iload_n 1, [1], [], []), (6, 1, .iconst 2, [], [2], []), (7, 3, .if_icmp .ne 18, [25], [], []), (10, 1, .aload_n 0, [0], [], []), (11, 3, .getfield 10, [10, 0, 1, 2172], [], []), (14, 3, .getfield 95, [3, 6, 0, 2083], [], []), (17, 1, .iconst 1, [], [1], []), (18, 3, .if_icmp .ne 7, [25], [], [])]
def bkX10_send_21 : List gw_E := [(21, 1, .iconst 1, [], [1], []), (22, 3, .goto 4, [26], [], [])]
def bkX10_send_25 : List gw_E := [(25, 1, .iconst 0, [], [0], [])]
def bkX10_send_26 : List gw_E := [(26, 1, .istore_n 3, [3], [], []), (27, 1, .iload_n 3, [3], [], []), (28, 3, .ifCond .eq 25, [53], [], []), (31, 1, .iload_n 2, [2], [], []), (32, 3, .invokestatic 125, [1, 0, 4034, 4035, 1001, 0], [], [sgX10_isVector]), (35, 3, .ifCond .eq 18, [53], [], []), (38, 1, .aload_n 0, [0], [], []), (39, 3, .getfield 10, [10, 0, 1, 2172], [], []), (42, 1, .iload_n 1, [1], [], []), (43, 3, .invokevirtual 128, [1, 3, 4037, 4038, 4039, 1002], [], [sgX3_guest]), (46, 1, .iload_n 2, [2], [], []), (47, 3, .invokevirtual 132, [1, 0, 4041, 4042, 4043, 1006], [], [sgX0_awaits]), (50, 3, .ifCond .eq 5, [55], [], [])]
def bkX10_send_53 : List gw_E := [(53, 1, .iconst 0, [], [0], []), (54, 1, .ireturn, [1], [], [])]
def bkX10_send_55 : List gw_E := [(55, 1, .aload_n 0, [0], [], []), (56, 3, .getfield 19, [10, 1, 1, 2173], [], []), (59, 1, .aload_n 0, [0], [], []), (60, 3, .getfield 10, [10, 0, 1, 2172], [], []), (63, 3, .invokevirtual 50, [1, 5, 2205, 2206, 2207, 1011], [], [sgX5_push]), (66, 1, .aload_n 0, [0], [], []), (67, 3, .getfield 10, [10, 0, 1, 2172], [], []), (70, 1, .iload_n 1, [1], [], []), (71, 3, .invokevirtual 128, [1, 3, 4037, 4038, 4039, 1002], [], [sgX3_guest]), (74, 1, .iload_n 2, [2], [], []), (75, 1, .aload_n 0, [0], [], []), (76, 3, .getfield 10, [10, 0, 1, 2172], [], []), (79, 3, .getfield 137, [3, 7, 0, 2085], [], []), (82, 3, .invokevirtual 140, [2, 0, 4046, 4047, 4048, 1006], [], [sgX0_await]), (85, 1, .aload_n 0, [0], [], []), (86, 3, .getfield 10, [10, 0, 1, 2172], [], []), (89, 3, .invokevirtual 58, [0, 3, 3046, 3047, 3048, 1002], [], [sgX3_dealOut]), (92, 1, .iconst 1, [], [1], []), (93, 1, .ireturn, [1], [], [])]
def bsX10_send : List (Nat × List gw_E) := [(0, bkX10_send_0), (21, bkX10_send_21), (25, bkX10_send_25), (26, bkX10_send_26), (53, bkX10_send_53), (55, bkX10_send_55)]
theorem fdX10_send_0 : gw_find bsX10_send 0 = bkX10_send_0 := rfl
theorem fdX10_send_21 : gw_find bsX10_send 21 = bkX10_send_21 := rfl
theorem fdX10_send_25 : gw_find bsX10_send 25 = bkX10_send_25 := rfl
theorem fdX10_send_26 : gw_find bsX10_send 26 = bkX10_send_26 := rfl
theorem fdX10_send_53 : gw_find bsX10_send 53 = bkX10_send_53 := rfl
theorem fdX10_send_55 : gw_find bsX10_send 55 = bkX10_send_55 := rfl
set_option maxRecDepth 40000 in
theorem stX10_send : gw_sta sgX10_send bsX10_send := ⟨by decide +kernel, gw_mem2 (i := 4033) rfl rfl, gw_all (by decide +kernel)⟩
def bkX10_open_0 : List gw_E := [(0, 1, .iload_n 1, [1], [], []), (1, 3, .invokestatic 143, [1, 0, 4055, 4056, 1001, 0], [], [sgX10_isGuest]), (4, 3, .ifCond .ne 5, [9], [], []), (7, 1, .iconst 0, [], [0], []), (8, 1, .ireturn, [1], [], [])]
def bkX10_open_9 : List gw_E := [(9, 1, .aload_n 0, [0], [], []), (10, 3, .getfield 19, [10, 1, 1, 2173], [], []), (13, 1, .aload_n 0, [0], [], []), (14, 3, .getfield 10, [10, 0, 1, 2172], [], []), (17, 3, .invokevirtual 50, [1, 5, 2205, 2206, 2207, 1011], [], [sgX5_push]), (20, 1, .aload_n 0, [0], [], []), (21, 3, .getfield 10, [10, 0, 1, 2172], [], []), (24, 1, .iload_n 1, [1], [], []), (25, 3, .invokevirtual 128, [1, 3, 4037, 4038, 4039, 1002], [], [sgX3_guest]), (28, 1, .iload_n 2, [2], [], []), (29, 3, .putfield 146, [0, 4, 2, 1154], [], []), (32, 1, .aload_n 0, [0], [], []), (33, 3, .getfield 10, [10, 0, 1, 2172], [], []), (36, 3, .invokevirtual 58, [0, 3, 3046, 3047, 3048, 1002], [], [sgX3_dealOut]), (39, 1, .iconst 1, [], [1], []), (40, 1, .ireturn, [1], [], [])]
def bsX10_open : List (Nat × List gw_E) := [(0, bkX10_open_0), (9, bkX10_open_9)]
theorem fdX10_open_0 : gw_find bsX10_open 0 = bkX10_open_0 := rfl
theorem fdX10_open_9 : gw_find bsX10_open 9 = bkX10_open_9 := rfl
set_option maxRecDepth 40000 in
theorem stX10_open : gw_sta sgX10_open bsX10_open := ⟨by decide +kernel, gw_mem2 (i := 4054) rfl rfl, gw_all (by decide +kernel)⟩
def bkX10_finish_0 : List gw_E := [(0, 1, .aload_n 0, [0], [], []), (1, 3, .getfield 10, [10, 0, 1, 2172], [], []), (4, 1, .aload_n 0, [0], [], []), (5, 3, .getfield 10, [10, 0, 1, 2172], [], []), (8, 3, .getfield 95, [3, 6, 0, 2083], [], []), (11, 3, .invokevirtual 128, [1, 3, 4037, 4038, 4039, 1002], [], [sgX3_guest]), (14, 3, .getfield 150, [0, 3, 0, 1152], [], []), (17, 3, .ifCond .ne 5, [22], [], []), (20, 1, .iconst (-1), [], [-1], []), (21, 1, .ireturn, [0], [], [])]
def bkX10_finish_22 : List gw_E := [(22, 1, .aload_n 0, [0], [], []), (23, 3, .getfield 19, [10, 1, 1, 2173], [], []), (26, 1, .aload_n 0, [0], [], []), (27, 3, .getfield 10, [10, 0, 1, 2172], [], []), (30, 3, .invokevirtual 50, [1, 5, 2205, 2206, 2207, 1011], [], [sgX5_push]), (33, 1, .aload_n 0, [0], [], []), (34, 3, .getfield 10, [10, 0, 1, 2172], [], []), (37, 1, .aload_n 0, [0], [], []), (38, 3, .getfield 10, [10, 0, 1, 2172], [], []), (41, 3, .getfield 95, [3, 6, 0, 2083], [], []), (44, 3, .invokevirtual 128, [1, 3, 4037, 4038, 4039, 1002], [], [sgX3_guest]), (47, 3, .invokevirtual 153, [0, 0, 4062, 4063, 4064, 1006], [], [sgX0_endService]), (50, 1, .istore_n 1, [1], [], []), (51, 1, .aload_n 0, [0], [], []), (52, 3, .getfield 10, [10, 0, 1, 2172], [], []), (55, 3, .invokevirtual 58, [0, 3, 3046, 3047, 3048, 1002], [], [sgX3_dealOut]), (58, 1, .iload_n 1, [1], [], []), (59, 1, .ireturn, [0], [], [])]
def bsX10_finish : List (Nat × List gw_E) := [(0, bkX10_finish_0), (22, bkX10_finish_22)]
theorem fdX10_finish_0 : gw_find bsX10_finish 0 = bkX10_finish_0 := rfl
theorem fdX10_finish_22 : gw_find bsX10_finish 22 = bkX10_finish_22 := rfl
set_option maxRecDepth 40000 in
theorem stX10_finish : gw_sta sgX10_finish bsX10_finish := ⟨by decide +kernel, gw_mem2 (i := 4061) rfl rfl, gw_all (by decide +kernel)⟩
def bkX10_hand_0 : List gw_E := [(0, 1, .aload_n 0, [0], [], []), (1, 3, .getfield 10, [10, 0, 1, 2172], [], []), (4, 3, .getfield 95, [3, 6, 0, 2083], [], []), (7, 1, .iconst 1, [], [1], []), (8, 3, .if_icmp .ne 21, [29], [], []), (11, 1, .iload_n 1, [1], [], []), (12, 3, .invokestatic 156, [1, 0, 4070, 4071, 1001, 0], [], [sgX10_isInnerGuest]), (15, 3, .ifCond .eq 14, [29], [], []), (18, 1, .iload_n 1, [1], [], []), (19, 1, .aload_n 0, [0], [], []), (20, 3, .getfield 10, [10, 0, 1, 2172], [], []), (23, 3, .getfield 159, [3, 5, 0, 2081], [], []), (26, 3, .if_icmp .ne 5, [31], [], [])]
def bkX10_hand_29 : List gw_E := [(29, 1, .iconst 0, [], [0], []), (30, 1, .ireturn, [1], [], [])]
def bkX10_hand_31 : List gw_E := [(31, 1, .aload_n 0, [0], [], []), (32, 3, .getfield 19, [10, 1, 1, 2173], [], []), (35, 1, .aload_n 0, [0], [], []), (36, 3, .getfield 10, [10, 0, 1, 2172], [], []), (39, 3, .invokevirtual 50, [1, 5, 2205, 2206, 2207, 1011], [], [sgX5_push]), (42, 1, .aload_n 0, [0], [], []), (43, 3, .getfield 10, [10, 0, 1, 2172], [], []), (46, 1, .iload_n 1, [1], [], []), (47, 3, .invokevirtual 162, [1, 3, 4073, 4074, 4075, 1002], [], [sgX3_switchTo]), (50, 1, .aload_n 0, [0], [], []), (51, 3, .getfield 10, [10, 0, 1, 2172], [], []), (54, 3, .invokevirtual 58, [0, 3, 3046, 3047, 3048, 1002], [], [sgX3_dealOut]), (57, 1, .iconst 1, [], [1], []), (58, 1, .ireturn, [1], [], [])]
def bsX10_hand : List (Nat × List gw_E) := [(0, bkX10_hand_0), (29, bkX10_hand_29), (31, bkX10_hand_31)]
theorem fdX10_hand_0 : gw_find bsX10_hand 0 = bkX10_hand_0 := rfl
theorem fdX10_hand_29 : gw_find bsX10_hand 29 = bkX10_hand_29 := rfl
theorem fdX10_hand_31 : gw_find bsX10_hand 31 = bkX10_hand_31 := rfl
set_option maxRecDepth 40000 in
theorem stX10_hand : gw_sta sgX10_hand bsX10_hand := ⟨by decide +kernel, gw_mem2 (i := 4069) rfl rfl, gw_all (by decide +kernel)⟩
def bkX10_scale_0 : List gw_E := [(0, 1, .iload_n 1, [1], [], []), (1, 3, .invokestatic 143, [1, 0, 4055, 4056, 1001, 0], [], [sgX10_isGuest]), (4, 3, .ifCond .eq 26, [30], [], []), (7, 1, .iload_n 2, [2], [], []), (8, 1, .iconst 1, [], [1], []), (9, 2, .bipush 64, [], [64], []), (11, 3, .invokestatic 46, [3, 0, 2202, 2203, 1001, 0], [], [sgX10_within]), (14, 3, .ifCond .eq 16, [30], [], []), (17, 1, .iload_n 3, [3], [], []), (18, 3, .sipush (-9999), [], [-9999], []), (21, 3, .sipush 9999, [], [9999], []), (24, 3, .invokestatic 46, [3, 0, 2202, 2203, 1001, 0], [], [sgX10_within]), (27, 3, .ifCond .ne 5, [32], [], [])]
def bkX10_scale_30 : List gw_E := [(30, 1, .iconst 0, [], [0], []), (31, 1, .ireturn, [1], [], [])]
def bkX10_scale_32 : List gw_E := [(32, 1, .aload_n 0, [0], [], []), (33, 3, .getfield 19, [10, 1, 1, 2173], [], []), (36, 1, .aload_n 0, [0], [], []), (37, 3, .getfield 10, [10, 0, 1, 2172], [], []), (40, 3, .invokevirtual 50, [1, 5, 2205, 2206, 2207, 1011], [], [sgX5_push]), (43, 1, .aload_n 0, [0], [], []), (44, 3, .getfield 10, [10, 0, 1, 2172], [], []), (47, 1, .iload_n 1, [1], [], []), (48, 3, .invokevirtual 128, [1, 3, 4037, 4038, 4039, 1002], [], [sgX3_guest]), (51, 1, .iload_n 2, [2], [], []), (52, 3, .putfield 165, [0, 5, 0, 1157], [], []), (55, 1, .aload_n 0, [0], [], []), (56, 3, .getfield 10, [10, 0, 1, 2172], [], []), (59, 1, .iload_n 1, [1], [], []), (60, 3, .invokevirtual 128, [1, 3, 4037, 4038, 4039, 1002], [], [sgX3_guest]), (63, 1, .iload_n 3, [3], [], []), (64, 3, .putfield 168, [0, 6, 0, 1159], [], []), (67, 1, .aload_n 0, [0], [], []), (68, 3, .getfield 10, [10, 0, 1, 2172], [], []), (71, 3, .invokevirtual 58, [0, 3, 3046, 3047, 3048, 1002], [], [sgX3_dealOut]), (74, 1, .iconst 1, [], [1], []), (75, 1, .ireturn, [1], [], [])]
def bsX10_scale : List (Nat × List gw_E) := [(0, bkX10_scale_0), (30, bkX10_scale_30), (32, bkX10_scale_32)]
theorem fdX10_scale_0 : gw_find bsX10_scale 0 = bkX10_scale_0 := rfl
theorem fdX10_scale_30 : gw_find bsX10_scale 30 = bkX10_scale_30 := rfl
theorem fdX10_scale_32 : gw_find bsX10_scale 32 = bkX10_scale_32 := rfl
set_option maxRecDepth 40000 in
theorem stX10_scale : gw_sta sgX10_scale bsX10_scale := ⟨by decide +kernel, gw_mem2 (i := 4084) rfl rfl, gw_all (by decide +kernel)⟩
def bkX10_timer_0 : List gw_E := [(0, 1, .iload_n 1, [1], [], []), (1, 1, .iconst 0, [], [0], []), (2, 1, .iconst 2, [], [2], []), (3, 3, .invokestatic 46, [3, 0, 2202, 2203, 1001, 0], [], [sgX10_within]), (6, 3, .ifCond .eq 36, [42], [], []), (9, 1, .iload_n 2, [2], [], []), (10, 2, .ldc 171, [4089], [-99999], []), (12, 2, .ldc 172, [4090], [999999], []), (14, 3, .invokestatic 46, [3, 0, 2202, 2203, 1001, 0], [], [sgX10_within]), (17, 3, .ifCond .eq 25, [42], [], []), (20, 1, .iload_n 3, [3], [], []), (21, 3, .invokestatic 125, [1, 0, 4034, 4035, 1001, 0], [], [sgX10_isVector]), (24, 3, .ifCond .eq 18, [42], [], []), (27, 1, .aload_n 0, [0], [], []), (28, 3, .getfield 10, [10, 0, 1, 2172], [], []), (31, 3, .getfield 173, [3, 13, 1, 2095], [], []), (34, 3, .getfield 177, [9, 3, 0, 1193], [], []), (37, 2, .bipush 12, [], [12], []), (39, 3, .if_icmp .lt 5, [44], [], [])]
def bkX10_timer_42 : List gw_E := [(42, 1, .iconst (-1), [], [-1], []), (43, 1, .ireturn, [0], [], [])]
def bkX10_timer_44 : List gw_E := [(44, 1, .aload_n 0, [0], [], []), (45, 3, .getfield 19, [10, 1, 1, 2173], [], []), (48, 1, .aload_n 0, [0], [], []), (49, 3, .getfield 10, [10, 0, 1, 2172], [], []), (52, 3, .invokevirtual 50, [1, 5, 2205, 2206, 2207, 1011], [], [sgX5_push]), (55, 1, .aload_n 0, [0], [], []), (56, 3, .getfield 10, [10, 0, 1, 2172], [], []), (59, 3, .getfield 173, [3, 13, 1, 2095], [], []), (62, 1, .iload_n 1, [1], [], []), (63, 1, .iload_n 2, [2], [], []), (64, 1, .iload_n 3, [3], [], []), (65, 3, .invokevirtual 182, [3, 9, 4091, 4092, 4093, 1008], [], [sgX9_add]), (68, 1, .aload_n 0, [0], [], []), (69, 3, .getfield 10, [10, 0, 1, 2172], [], []), (72, 3, .invokevirtual 58, [0, 3, 3046, 3047, 3048, 1002], [], [sgX3_dealOut]), (75, 1, .aload_n 0, [0], [], []), (76, 3, .getfield 10, [10, 0, 1, 2172], [], []), (79, 3, .getfield 173, [3, 13, 1, 2095], [], []), (82, 3, .getfield 177, [9, 3, 0, 1193], [], []), (85, 1, .ireturn, [0], [], [])]
def bsX10_timer : List (Nat × List gw_E) := [(0, bkX10_timer_0), (42, bkX10_timer_42), (44, bkX10_timer_44)]
theorem fdX10_timer_0 : gw_find bsX10_timer 0 = bkX10_timer_0 := rfl
theorem fdX10_timer_42 : gw_find bsX10_timer 42 = bkX10_timer_42 := rfl
theorem fdX10_timer_44 : gw_find bsX10_timer 44 = bkX10_timer_44 := rfl
set_option maxRecDepth 40000 in
theorem stX10_timer : gw_sta sgX10_timer bsX10_timer := ⟨by decide +kernel, gw_mem2 (i := 4088) rfl rfl, gw_all (by decide +kernel)⟩
def bkX10_cancel_0 : List gw_E := [(0, 1, .iload_n 1, [1], [], []), (1, 1, .iconst 0, [], [0], []), (2, 1, .aload_n 0, [0], [], []), (3, 3, .getfield 10, [10, 0, 1, 2172], [], []), (6, 3, .getfield 173, [3, 13, 1, 2095], [], []), (9, 3, .getfield 177, [9, 3, 0, 1193], [], []), (12, 1, .iconst 1, [], [1], []), (13, 1, .isub, [], [], []), (14, 3, .invokestatic 46, [3, 0, 2202, 2203, 1001, 0], [], [sgX10_within]), (17, 3, .ifCond .ne 5, [22], [], []), (20, 1, .iconst 0, [], [0], []), (21, 1, .ireturn, [1], [], [])]
def bkX10_cancel_22 : List gw_E := [(22, 1, .aload_n 0, [0], [], []), (23, 3, .getfield 19, [10, 1, 1, 2173], [], []), (26, 1, .aload_n 0, [0], [], []), (27, 3, .getfield 10, [10, 0, 1, 2172], [], []), (30, 3, .invokevirtual 50, [1, 5, 2205, 2206, 2207, 1011], [], [sgX5_push]), (33, 1, .aload_n 0, [0], [], []), (34, 3, .getfield 10, [10, 0, 1, 2172], [], []), (37, 3, .getfield 173, [3, 13, 1, 2095], [], []), (40, 1, .iload_n 1, [1], [], []), (41, 3, .invokevirtual 186, [1, 9, 4099, 4100, 4101, 1008], [], [sgX9_removeAt]), (44, 1, .aload_n 0, [0], [], []), (45, 3, .getfield 10, [10, 0, 1, 2172], [], []), (48, 3, .invokevirtual 58, [0, 3, 3046, 3047, 3048, 1002], [], [sgX3_dealOut]), (51, 1, .iconst 1, [], [1], []), (52, 1, .ireturn, [1], [], [])]
def bsX10_cancel : List (Nat × List gw_E) := [(0, bkX10_cancel_0), (22, bkX10_cancel_22)]
theorem fdX10_cancel_0 : gw_find bsX10_cancel 0 = bkX10_cancel_0 := rfl
theorem fdX10_cancel_22 : gw_find bsX10_cancel 22 = bkX10_cancel_22 := rfl
set_option maxRecDepth 40000 in
theorem stX10_cancel : gw_sta sgX10_cancel bsX10_cancel := ⟨by decide +kernel, gw_mem2 (i := 4098) rfl rfl, gw_all (by decide +kernel)⟩
def bkX10_handler_0 : List gw_E := [(0, 1, .iload_n 1, [1], [], []), (1, 3, .invokestatic 189, [1, 0, 4107, 4108, 1001, 0], [], [sgX10_mayHaveHandler]), (4, 3, .ifCond .eq 13, [17], [], []), (7, 1, .iload_n 2, [2], [], []), (8, 1, .iconst (-1), [], [-1], []), (9, 2, .bipush 23, [], [23], []), (11, 3, .invokestatic 46, [3, 0, 2202, 2203, 1001, 0], [], [sgX10_within]), (14, 3, .ifCond .ne 5, [19], [], [])]
def bkX10_handler_17 : List gw_E := [(17, 1, .iconst 0, [], [0], []), (18, 1, .ireturn, [1], [], [])]
def bkX10_handler_19 : List gw_E := [(19, 1, .aload_n 0, [0], [], []), (20, 3, .getfield 19, [10, 1, 1, 2173], [], []), (23, 1, .aload_n 0, [0], [], []), (24, 3, .getfield 10, [10, 0, 1, 2172], [], []), (27, 3, .invokevirtual 50, [1, 5, 2205, 2206, 2207, 1011], [], [sgX5_push]), (30, 1, .aload_n 0, [0], [], []), (31, 3, .getfield 10, [10, 0, 1, 2172], [], []), (34, 3, .getfield 192, [3, 9, 1, 2089], [], []), (37, 1, .iload_n 1, [1], [], []), (38, 1, .iload_n 2, [2], [], []), (39, 1, .iastore, [], [], []), (40, 1, .aload_n 0, [0], [], []), (41, 3, .getfield 10, [10, 0, 1, 2172], [], []), (44, 3, .invokevirtual 58, [0, 3, 3046, 3047, 3048, 1002], [], [sgX3_dealOut]), (47, 1, .iconst 1, [], [1], []), (48, 1, .ireturn, [1], [], [])]
def bsX10_handler : List (Nat × List gw_E) := [(0, bkX10_handler_0), (17, bkX10_handler_17), (19, bkX10_handler_19)]
theorem fdX10_handler_0 : gw_find bsX10_handler 0 = bkX10_handler_0 := rfl
theorem fdX10_handler_17 : gw_find bsX10_handler 17 = bkX10_handler_17 := rfl
theorem fdX10_handler_19 : gw_find bsX10_handler 19 = bkX10_handler_19 := rfl
set_option maxRecDepth 40000 in
theorem stX10_handler : gw_sta sgX10_handler bsX10_handler := ⟨by decide +kernel, gw_mem2 (i := 4106) rfl rfl, gw_all (by decide +kernel)⟩
def bkX10_slice_0 : List gw_E := [(0, 1, .iload_n 1, [1], [], []), (1, 1, .iconst 0, [], [0], []), (2, 2, .bipush 99, [], [99], []), (4, 3, .invokestatic 46, [3, 0, 2202, 2203, 1001, 0], [], [sgX10_within]), (7, 3, .ifCond .ne 5, [12], [], []), (10, 1, .iconst 0, [], [0], []), (11, 1, .ireturn, [1], [], [])]
def bkX10_slice_12 : List gw_E := [(12, 1, .aload_n 0, [0], [], []), (13, 3, .getfield 19, [10, 1, 1, 2173], [], []), (16, 1, .aload_n 0, [0], [], []), (17, 3, .getfield 10, [10, 0, 1, 2172], [], []), (20, 3, .invokevirtual 50, [1, 5, 2205, 2206, 2207, 1011], [], [sgX5_push]), (23, 1, .aload_n 0, [0], [], []), (24, 3, .getfield 10, [10, 0, 1, 2172], [], []), (27, 1, .iload_n 1, [1], [], []), (28, 3, .putfield 195, [3, 10, 0, 2091], [], []), (31, 1, .aload_n 0, [0], [], []), (32, 3, .getfield 10, [10, 0, 1, 2172], [], []), (35, 3, .invokevirtual 58, [0, 3, 3046, 3047, 3048, 1002], [], [sgX3_dealOut]), (38, 1, .iconst 1, [], [1], []), (39, 1, .ireturn, [1], [], [])]
def bsX10_slice : List (Nat × List gw_E) := [(0, bkX10_slice_0), (12, bkX10_slice_12)]
theorem fdX10_slice_0 : gw_find bsX10_slice 0 = bkX10_slice_0 := rfl
theorem fdX10_slice_12 : gw_find bsX10_slice 12 = bkX10_slice_12 := rfl
set_option maxRecDepth 40000 in
theorem stX10_slice : gw_sta sgX10_slice bsX10_slice := ⟨by decide +kernel, gw_mem2 (i := 4113) rfl rfl, gw_all (by decide +kernel)⟩
def bkX10_forget_0 : List gw_E := [(0, 1, .aload_n 0, [0], [], []), (1, 3, .getfield 19, [10, 1, 1, 2173], [], []), (4, 1, .aload_n 0, [0], [], []), (5, 3, .getfield 10, [10, 0, 1, 2172], [], []), (8, 3, .invokevirtual 50, [1, 5, 2205, 2206, 2207, 1011], [], [sgX5_push]), (11, 1, .aload_n 0, [0], [], []), (12, 3, .getfield 10, [10, 0, 1, 2172], [], []), (15, 3, .getfield 198, [3, 0, 1, 2072], [], []), (18, 3, .getfield 202, [4, 4, 0, 1082], [], []), (21, 3, .invokestatic 207, [1, 0, 4118, 4119, 1017, 0], [], [sgJ6_bitCount_0f7a4]), (24, 1, .istore_n 1, [1], [], []), (25, 1, .aload_n 0, [0], [], []), (26, 3, .getfield 10, [10, 0, 1, 2172], [], []), (29, 3, .getfield 198, [3, 0, 1, 2072], [], []), (32, 1, .iconst 0, [], [0], []), (33, 3, .putfield 202, [4, 4, 0, 1082], [], []), (36, 1, .aload_n 0, [0], [], []), (37, 3, .getfield 10, [10, 0, 1, 2172], [], []), (40, 3, .invokevirtual 58, [0, 3, 3046, 3047, 3048, 1002], [], [sgX3_dealOut]), (43, 1, .iload_n 1, [1], [], []), (44, 1, .ireturn, [0], [], [])]
def bsX10_forget : List (Nat × List gw_E) := [(0, bkX10_forget_0)]
theorem fdX10_forget_0 : gw_find bsX10_forget 0 = bkX10_forget_0 := rfl
set_option maxRecDepth 40000 in
theorem stX10_forget : gw_sta sgX10_forget bsX10_forget := ⟨by decide +kernel, gw_mem2 (i := 4117) rfl rfl, gw_all (by decide +kernel)⟩
def bkX10_pass_0 : List gw_E := [(0, 1, .aload_n 0, [0], [], []), (1, 1, .iload_n 1, [1], [], []), (2, 3, .sipush 200, [], [200], []), (5, 3, .invokevirtual 212, [2, 10, 4128, 4130, 10, 1001], [], [sgX10_mayGo]), (8, 3, .ifCond .ne 5, [13], [], []), (11, 1, .iconst (-1), [], [-1], []), (12, 1, .ireturn, [0], [], [])]
def bkX10_pass_13 : List gw_E := [(13, 1, .aload_n 0, [0], [], []), (14, 3, .getfield 19, [10, 1, 1, 2173], [], []), (17, 1, .aload_n 0, [0], [], []), (18, 3, .getfield 10, [10, 0, 1, 2172], [], []), (21, 3, .invokevirtual 50, [1, 5, 2205, 2206, 2207, 1011], [], [sgX5_push]), (24, 1, .iconst 0, [], [0], []), (25, 1, .istore_n 2, [2], [], []), (26, 1, .iconst 0, [], [0], []), (27, 1, .istore_n 3, [3], [], [])]
def bkX10_pass_28 : List gw_E := [(28, 1, .iload_n 3, [3], [], []), (29, 1, .iload_n 1, [1], [], []), (30, 3, .if_icmp .ge 26, [56], [], []), (33, 1, .iload_n 2, [2], [], []), (34, 1, .aload_n 0, [0], [], []), (35, 3, .getfield 10, [10, 0, 1, 2172], [], []), (38, 3, .invokevirtual 216, [0, 3, 4133, 4134, 4135, 1002], [], [sgX3_timeGoesOn]), (41, 1, .iadd, [], [], []), (42, 1, .istore_n 2, [2], [], []), (43, 1, .aload_n 0, [0], [], []), (44, 3, .getfield 10, [10, 0, 1, 2172], [], []), (47, 3, .invokevirtual 58, [0, 3, 3046, 3047, 3048, 1002], [], [sgX3_dealOut]), (50, 3, .iinc 3 1, [3], [1], []), (53, 3, .goto (-25), [28], [], [])]
def bkX10_pass_56 : List gw_E := [(56, 1, .iload_n 2, [2], [], []), (57, 1, .ireturn, [0], [], [])]
def bsX10_pass : List (Nat × List gw_E) := [(0, bkX10_pass_0), (13, bkX10_pass_13), (28, bkX10_pass_28), (56, bkX10_pass_56)]
theorem fdX10_pass_0 : gw_find bsX10_pass 0 = bkX10_pass_0 := rfl
theorem fdX10_pass_13 : gw_find bsX10_pass 13 = bkX10_pass_13 := rfl
theorem fdX10_pass_28 : gw_find bsX10_pass 28 = bkX10_pass_28 := rfl
theorem fdX10_pass_56 : gw_find bsX10_pass 56 = bkX10_pass_56 := rfl
set_option maxRecDepth 40000 in
theorem stX10_pass : gw_sta sgX10_pass bsX10_pass := ⟨by decide +kernel, gw_mem2 (i := 4127) rfl rfl, gw_all (by decide +kernel)⟩
def bkX10_act_0 : List gw_E := [(0, 1, .iload_n 1, [1], [], []), (1, 3, .invokestatic 143, [1, 0, 4055, 4056, 1001, 0], [], [sgX10_isGuest]), (4, 3, .ifCond .eq 14, [18], [], []), (7, 1, .iload_n 1, [1], [], []), (8, 1, .iload_n 2, [2], [], []), (9, 1, .iload_n 3, [3], [], []), (10, 2, .iload 4, [4], [], []), (12, 3, .invokestatic 219, [4, 0, 4167, 4168, 1001, 0], [], [sgX10_isAct]), (15, 3, .ifCond .ne 5, [20], [], [])]
def bkX10_act_18 : List gw_E := [(18, 1, .iconst (-1), [], [-1], []), (19, 1, .ireturn, [0], [], [])]
def bkX10_act_20 : List gw_E := [(20, 1, .aload_n 0, [0], [], []), (21, 3, .getfield 10, [10, 0, 1, 2172], [], []), (24, 1, .iload_n 1, [1], [], []), (25, 3, .invokevirtual 128, [1, 3, 4037, 4038, 4039, 1002], [], [sgX3_guest]), (28, 3, .getfield 223, [0, 0, 1, 1146], [], []), (31, 2, .astore 5, [5], [], []), (33, 2, .aload 5, [5], [], []), (35, 3, .getfield 227, [7, 3, 0, 1126], [], []), (38, 2, .bipush 24, [], [24], []), (40, 3, .if_icmp .lt 5, [45], [], []), (43, 1, .iconst (-1), [], [-1], []), (44, 1, .ireturn, [0], [], [])]
def bkX10_act_45 : List gw_E := [(45, 1, .aload_n 0, [0], [], []), (46, 3, .getfield 19, [10, 1, 1, 2173], [], []), (49, 1, .aload_n 0, [0], [], []), (50, 3, .getfield 10, [10, 0, 1, 2172], [], []), (53, 3, .invokevirtual 50, [1, 5, 2205, 2206, 2207, 1011], [], [sgX5_push]), (56, 2, .aload 5, [5], [], []), (58, 1, .iload_n 2, [2], [], []), (59, 1, .iload_n 3, [3], [], []), (60, 2, .iload 4, [4], [], []), (62, 3, .invokevirtual 230, [3, 7, 4176, 4177, 4178, 1007], [], [sgX7_add]), (65, 1, .aload_n 0, [0], [], []), (66, 3, .getfield 10, [10, 0, 1, 2172], [], []), (69, 3, .invokevirtual 58, [0, 3, 3046, 3047, 3048, 1002], [], [sgX3_dealOut]), (72, 2, .aload 5, [5], [], []), (74, 3, .getfield 227, [7, 3, 0, 1126], [], []), (77, 1, .ireturn, [0], [], [])]
def bsX10_act : List (Nat × List gw_E) := [(0, bkX10_act_0), (18, bkX10_act_18), (20, bkX10_act_20), (45, bkX10_act_45)]
theorem fdX10_act_0 : gw_find bsX10_act 0 = bkX10_act_0 := rfl
theorem fdX10_act_18 : gw_find bsX10_act 18 = bkX10_act_18 := rfl
theorem fdX10_act_20 : gw_find bsX10_act 20 = bkX10_act_20 := rfl
theorem fdX10_act_45 : gw_find bsX10_act 45 = bkX10_act_45 := rfl
set_option maxRecDepth 40000 in
theorem stX10_act : gw_sta sgX10_act bsX10_act := ⟨by decide +kernel, gw_mem2 (i := 4166) rfl rfl, gw_all (by decide +kernel)⟩
def bkX10_wipe_0 : List gw_E := [(0, 1, .iload_n 1, [1], [], []), (1, 3, .invokestatic 143, [1, 0, 4055, 4056, 1001, 0], [], [sgX10_isGuest]), (4, 3, .ifCond .ne 5, [9], [], []), (7, 1, .iconst (-1), [], [-1], []), (8, 1, .ireturn, [0], [], [])]
def bkX10_wipe_9 : List gw_E := [(9, 1, .aload_n 0, [0], [], []), (10, 3, .getfield 19, [10, 1, 1, 2173], [], []), (13, 1, .aload_n 0, [0], [], []), (14, 3, .getfield 10, [10, 0, 1, 2172], [], []), (17, 3, .invokevirtual 50, [1, 5, 2205, 2206, 2207, 1011], [], [sgX5_push]), (20, 1, .aload_n 0, [0], [], []), (21, 3, .getfield 10, [10, 0, 1, 2172], [], []), (24, 1, .iload_n 1, [1], [], []), (25, 3, .invokevirtual 128, [1, 3, 4037, 4038, 4039, 1002], [], [sgX3_guest]), (28, 3, .getfield 223, [0, 0, 1, 1146], [], []), (31, 1, .astore_n 2, [2], [], []), (32, 1, .aload_n 2, [2], [], []), (33, 3, .getfield 227, [7, 3, 0, 1126], [], []), (36, 1, .istore_n 3, [3], [], []), (37, 1, .aload_n 2, [2], [], []), (38, 1, .iconst 0, [], [0], []), (39, 3, .putfield 227, [7, 3, 0, 1126], [], []), (42, 1, .aload_n 2, [2], [], []), (43, 1, .iconst 0, [], [0], []), (44, 3, .putfield 231, [7, 4, 0, 1130], [], []), (47, 1, .aload_n 0, [0], [], []), (48, 3, .getfield 10, [10, 0, 1, 2172], [], []), (51, 3, .invokevirtual 58, [0, 3, 3046, 3047, 3048, 1002], [], [sgX3_dealOut]), (54, 1, .iload_n 3, [3], [], []), (55, 1, .ireturn, [0], [], [])]
def bsX10_wipe : List (Nat × List gw_E) := [(0, bkX10_wipe_0), (9, bkX10_wipe_9)]
theorem fdX10_wipe_0 : gw_find bsX10_wipe 0 = bkX10_wipe_0 := rfl
theorem fdX10_wipe_9 : gw_find bsX10_wipe 9 = bkX10_wipe_9 := rfl
set_option maxRecDepth 40000 in
theorem stX10_wipe : gw_sta sgX10_wipe bsX10_wipe := ⟨by decide +kernel, gw_mem2 (i := 4183) rfl rfl, gw_all (by decide +kernel)⟩
def bkX10_run_0 : List gw_E := [(0, 1, .aload_n 0, [0], [], []), (1, 1, .iload_n 1, [1], [], []), (2, 3, .sipush 200, [], [200], []), (5, 3, .invokevirtual 212, [2, 10, 4128, 4130, 10, 1001], [], [sgX10_mayGo]), (8, 3, .ifCond .ne 5, [13], [], []), (11, 1, .iconst (-1), [], [-1], []), (12, 1, .ireturn, [0], [], [])]
def bkX10_run_13 : List gw_E := [(13, 1, .aload_n 0, [0], [], []), (14, 3, .getfield 19, [10, 1, 1, 2173], [], []), (17, 1, .aload_n 0, [0], [], []), (18, 3, .getfield 10, [10, 0, 1, 2172], [], []), (21, 3, .invokevirtual 50, [1, 5, 2205, 2206, 2207, 1011], [], [sgX5_push]), (24, 1, .aload_n 0, [0], [], []), (25, 3, .getfield 10, [10, 0, 1, 2172], [], []), (28, 3, .getfield 234, [3, 14, 1, 2097], [], []), (31, 3, .invokevirtual 238, [0, 2, 4188, 4189, 4190, 1009], [], [sgX2_allExits]), (34, 1, .istore_n 2, [2], [], []), (35, 1, .iconst 0, [], [0], []), (36, 1, .istore_n 3, [3], [], [])]
def bkX10_run_37 : List gw_E := [(37, 1, .iload_n 3, [3], [], []), (38, 1, .iload_n 1, [1], [], []), (39, 3, .if_icmp .ge 16, [55], [], []), (42, 1, .aload_n 0, [0], [], []), (43, 3, .getfield 10, [10, 0, 1, 2172], [], []), (46, 3, .invokevirtual 243, [0, 3, 4192, 4193, 4194, 1002], [], [sgX3_goOn]), (49, 3, .iinc 3 1, [3], [1], []), (52, 3, .goto (-15), [37], [], [])]
def bkX10_run_55 : List gw_E := [(55, 1, .aload_n 0, [0], [], []), (56, 3, .getfield 10, [10, 0, 1, 2172], [], []), (59, 3, .getfield 234, [3, 14, 1, 2097], [], []), (62, 3, .invokevirtual 238, [0, 2, 4188, 4189, 4190, 1009], [], [sgX2_allExits]), (65, 1, .iload_n 2, [2], [], []), (66, 1, .isub, [], [], []), (67, 1, .ireturn, [0], [], [])]
def bsX10_run : List (Nat × List gw_E) := [(0, bkX10_run_0), (13, bkX10_run_13), (37, bkX10_run_37), (55, bkX10_run_55)]
theorem fdX10_run_0 : gw_find bsX10_run 0 = bkX10_run_0 := rfl
theorem fdX10_run_13 : gw_find bsX10_run 13 = bkX10_run_13 := rfl
theorem fdX10_run_37 : gw_find bsX10_run 37 = bkX10_run_37 := rfl
theorem fdX10_run_55 : gw_find bsX10_run 55 = bkX10_run_55 := rfl
set_option maxRecDepth 40000 in
theorem stX10_run : gw_sta sgX10_run bsX10_run := ⟨by decide +kernel, gw_mem2 (i := 4187) rfl rfl, gw_all (by decide +kernel)⟩
def bkX10_undo_0 : List gw_E := [(0, 1, .aload_n 0, [0], [], []), (1, 3, .getfield 19, [10, 1, 1, 2173], [], []), (4, 3, .getfield 246, [5, 2, 0, 2140], [], []), (7, 3, .ifCond .ne 5, [12], [], []), (10, 1, .iconst (-1), [], [-1], []), (11, 1, .ireturn, [0], [], [])]
def bkX10_undo_12 : List gw_E := [(12, 1, .aload_n 0, [0], [], []), (13, 3, .getfield 19, [10, 1, 1, 2173], [], []), (16, 1, .aload_n 0, [0], [], []), (17, 3, .getfield 10, [10, 0, 1, 2172], [], []), (20, 3, .invokevirtual 247, [1, 5, 5002, 5003, 5004, 1011], [], [sgX5_popInto]), (23, 1, .aload_n 0, [0], [], []), (24, 3, .getfield 19, [10, 1, 1, 2173], [], []), (27, 3, .getfield 246, [5, 2, 0, 2140], [], []), (30, 1, .ireturn, [0], [], [])]
def bsX10_undo : List (Nat × List gw_E) := [(0, bkX10_undo_0), (12, bkX10_undo_12)]
theorem fdX10_undo_0 : gw_find bsX10_undo 0 = bkX10_undo_0 := rfl
theorem fdX10_undo_12 : gw_find bsX10_undo 12 = bkX10_undo_12 := rfl
set_option maxRecDepth 40000 in
theorem stX10_undo : gw_sta sgX10_undo bsX10_undo := ⟨by decide +kernel, gw_mem2 (i := 5001) rfl rfl, gw_all (by decide +kernel)⟩
def bkX10_is_0 : List gw_E := [(0, 1, .aload_n 0, [0], [], []), (1, 3, .getfield 10, [10, 0, 1, 2172], [], []), (4, 1, .iload_n 1, [1], [], []), (5, 3, .invokevirtual 250, [1, 3, 5010, 5011, 5012, 1002], [], [sgX3_figure]), (8, 1, .ireturn, [0], [], [])]
def bsX10_is : List (Nat × List gw_E) := [(0, bkX10_is_0)]
theorem fdX10_is_0 : gw_find bsX10_is 0 = bkX10_is_0 := rfl
set_option maxRecDepth 40000 in
theorem stX10_is : gw_sta sgX10_is bsX10_is := ⟨by decide +kernel, gw_mem2 (i := 5009) rfl rfl, gw_all (by decide +kernel)⟩
def bkX10_told_0 : List gw_E := [(0, 1, .iload_n 1, [1], [], []), (1, 1, .iconst 0, [], [0], []), (2, 1, .iconst 3, [], [3], []), (3, 3, .invokestatic 46, [3, 0, 2202, 2203, 1001, 0], [], [sgX10_within]), (6, 3, .ifCond .eq 19, [25], [], []), (9, 1, .iload_n 2, [2], [], []), (10, 3, .invokestatic 43, [1, 0, 2199, 2200, 1001, 0], [], [sgX10_isPage]), (13, 3, .ifCond .eq 12, [25], [], []), (16, 1, .iload_n 3, [3], [], []), (17, 1, .iconst 0, [], [0], []), (18, 1, .iconst 1, [], [1], []), (19, 3, .invokestatic 46, [3, 0, 2202, 2203, 1001, 0], [], [sgX10_within]), (22, 3, .ifCond .ne 5, [27], [], [])]
def bkX10_told_25 : List gw_E := [(25, 1, .iconst (-1), [], [-1], []), (26, 1, .ireturn, [0], [], [])]
def bkX10_told_27 : List gw_E := [(27, 1, .aload_n 0, [0], [], []), (28, 3, .getfield 10, [10, 0, 1, 2172], [], []), (31, 1, .iload_n 1, [1], [], []), (32, 3, .invokevirtual 61, [1, 3, 3088, 3089, 3090, 1002], [], [sgX3_table]), (35, 2, .astore 4, [4], [], []), (37, 2, .aload 4, [4], [], []), (39, 1, .iload_n 2, [2], [], []), (40, 3, .invokevirtual 65, [1, 8, 3092, 3093, 3094, 1004], [], [sgX8_has]), (43, 3, .ifCond .ne 5, [48], [], []), (46, 1, .iconst (-1), [], [-1], []), (47, 1, .ireturn, [0], [], [])]
def bkX10_told_48 : List gw_E := [(48, 1, .iload_n 3, [3], [], []), (49, 3, .ifCond .ne 13, [62], [], []), (52, 2, .aload 4, [4], [], []), (54, 3, .getfield 253, [8, 0, 1, 1052], [], []), (57, 1, .iload_n 2, [2], [], []), (58, 1, .iaload, [], [], []), (59, 3, .goto 10, [69], [], [])]
def bkX10_told_62 : List gw_E := [(62, 2, .aload 4, [4], [], []), (64, 3, .getfield 256, [8, 1, 1, 1056], [], []), (67, 1, .iload_n 2, [2], [], []), (68, 1, .iaload, [], [], [])]
def bkX10_told_69 : List gw_E := [(69, 1, .ireturn, [0], [], [])]
def bsX10_told : List (Nat × List gw_E) := [(0, bkX10_told_0), (25, bkX10_told_25), (27, bkX10_told_27), (48, bkX10_told_48), (62, bkX10_told_62), (69, bkX10_told_69)]
theorem fdX10_told_0 : gw_find bsX10_told 0 = bkX10_told_0 := rfl
theorem fdX10_told_25 : gw_find bsX10_told 25 = bkX10_told_25 := rfl
theorem fdX10_told_27 : gw_find bsX10_told 27 = bkX10_told_27 := rfl
theorem fdX10_told_48 : gw_find bsX10_told 48 = bkX10_told_48 := rfl
theorem fdX10_told_62 : gw_find bsX10_told 62 = bkX10_told_62 := rfl
theorem fdX10_told_69 : gw_find bsX10_told 69 = bkX10_told_69 := rfl
set_option maxRecDepth 40000 in
theorem stX10_told : gw_sta sgX10_told bsX10_told := ⟨by decide +kernel, gw_mem2 (i := 5022) rfl rfl, gw_all (by decide +kernel)⟩
def bkX10_folded_0 : List gw_E := [(0, 1, .aload_n 0, [0], [], []), (1, 3, .getfield 10, [10, 0, 1, 2172], [], []), (4, 3, .getfield 259, [3, 1, 1, 2074], [], []), (7, 1, .iload_n 1, [1], [], []), (8, 3, .invokevirtual 263, [1, 8, 5027, 5028, 5029, 1004], [], [sgX8_byAge]), (11, 1, .ireturn, [0], [], [])]
def bsX10_folded : List (Nat × List gw_E) := [(0, bkX10_folded_0)]
theorem fdX10_folded_0 : gw_find bsX10_folded 0 = bkX10_folded_0 := rfl
set_option maxRecDepth 40000 in
theorem stX10_folded : gw_sta sgX10_folded bsX10_folded := ⟨by decide +kernel, gw_mem2 (i := 5026) rfl rfl, gw_all (by decide +kernel)⟩
def bkX10_frame_0 : List gw_E := [(0, 1, .iload_n 1, [1], [], []), (1, 3, .invokestatic 266, [1, 0, 5039, 5040, 1001, 0], [], [sgX10_isFrame]), (4, 3, .ifCond .eq 18, [22], [], []), (7, 1, .aload_n 0, [0], [], []), (8, 3, .getfield 10, [10, 0, 1, 2172], [], []), (11, 3, .getfield 198, [3, 0, 1, 2072], [], []), (14, 3, .getfield 269, [4, 1, 1, 1074], [], []), (17, 1, .iload_n 1, [1], [], []), (18, 1, .iaload, [], [], []), (19, 3, .goto 4, [23], [], [])]
def bkX10_frame_22 : List gw_E := [(22, 1, .iconst (-1), [], [-1], [])]
def bkX10_frame_23 : List gw_E := [(23, 1, .ireturn, [0], [], [])]
def bsX10_frame : List (Nat × List gw_E) := [(0, bkX10_frame_0), (22, bkX10_frame_22), (23, bkX10_frame_23)]
theorem fdX10_frame_0 : gw_find bsX10_frame 0 = bkX10_frame_0 := rfl
theorem fdX10_frame_22 : gw_find bsX10_frame 22 = bkX10_frame_22 := rfl
theorem fdX10_frame_23 : gw_find bsX10_frame 23 = bkX10_frame_23 := rfl
set_option maxRecDepth 40000 in
theorem stX10_frame : gw_sta sgX10_frame bsX10_frame := ⟨by decide +kernel, gw_mem2 (i := 5038) rfl rfl, gw_all (by decide +kernel)⟩
def bkX10_handled_0 : List gw_E := [(0, 1, .iload_n 1, [1], [], []), (1, 3, .invokestatic 189, [1, 0, 4107, 4108, 1001, 0], [], [sgX10_mayHaveHandler]), (4, 3, .ifCond .eq 15, [19], [], []), (7, 1, .aload_n 0, [0], [], []), (8, 3, .getfield 10, [10, 0, 1, 2172], [], []), (11, 3, .getfield 192, [3, 9, 1, 2089], [], []), (14, 1, .iload_n 1, [1], [], []), (15, 1, .iaload, [], [], []), (16, 3, .goto 4, [20], [], [])]
def bkX10_handled_19 : List gw_E := [(19, 1, .iconst (-1), [], [-1], [])]
def bkX10_handled_20 : List gw_E := [(20, 1, .ireturn, [0], [], [])]
def bsX10_handled : List (Nat × List gw_E) := [(0, bkX10_handled_0), (19, bkX10_handled_19), (20, bkX10_handled_20)]
theorem fdX10_handled_0 : gw_find bsX10_handled 0 = bkX10_handled_0 := rfl
theorem fdX10_handled_19 : gw_find bsX10_handled 19 = bkX10_handled_19 := rfl
theorem fdX10_handled_20 : gw_find bsX10_handled 20 = bkX10_handled_20 := rfl
set_option maxRecDepth 40000 in
theorem stX10_handled : gw_sta sgX10_handled bsX10_handled := ⟨by decide +kernel, gw_mem2 (i := 5045) rfl rfl, gw_all (by decide +kernel)⟩
def bkX10_stored_0 : List gw_E := [(0, 1, .iload_n 1, [1], [], []), (1, 3, .invokestatic 43, [1, 0, 2199, 2200, 1001, 0], [], [sgX10_isPage]), (4, 3, .ifCond .eq 18, [22], [], []), (7, 1, .aload_n 0, [0], [], []), (8, 3, .getfield 10, [10, 0, 1, 2172], [], []), (11, 3, .getfield 198, [3, 0, 1, 2072], [], []), (14, 3, .getfield 272, [4, 2, 1, 1077], [], []), (17, 1, .iload_n 1, [1], [], []), (18, 1, .iaload, [], [], []), (19, 3, .goto 4, [23], [], [])]
def bkX10_stored_22 : List gw_E := [(22, 1, .iconst (-1), [], [-1], [])]
def bkX10_stored_23 : List gw_E := [(23, 1, .ireturn, [0], [], [])]
def bsX10_stored : List (Nat × List gw_E) := [(0, bkX10_stored_0), (22, bkX10_stored_22), (23, bkX10_stored_23)]
theorem fdX10_stored_0 : gw_find bsX10_stored 0 = bkX10_stored_0 := rfl
theorem fdX10_stored_22 : gw_find bsX10_stored 22 = bkX10_stored_22 := rfl
theorem fdX10_stored_23 : gw_find bsX10_stored 23 = bkX10_stored_23 := rfl
set_option maxRecDepth 40000 in
theorem stX10_stored : gw_sta sgX10_stored bsX10_stored := ⟨by decide +kernel, gw_mem2 (i := 5049) rfl rfl, gw_all (by decide +kernel)⟩
def bkX10_backed_0 : List gw_E := [(0, 1, .aload_n 0, [0], [], []), (1, 3, .getfield 10, [10, 0, 1, 2172], [], []), (4, 3, .getfield 198, [3, 0, 1, 2072], [], []), (7, 3, .getfield 275, [4, 0, 1, 1072], [], []), (10, 1, .iload_n 1, [1], [], []), (11, 3, .invokevirtual 263, [1, 8, 5027, 5028, 5029, 1004], [], [sgX8_byAge]), (14, 1, .ireturn, [0], [], [])]
def bsX10_backed : List (Nat × List gw_E) := [(0, bkX10_backed_0)]
theorem fdX10_backed_0 : gw_find bsX10_backed 0 = bkX10_backed_0 := rfl
set_option maxRecDepth 40000 in
theorem stX10_backed : gw_sta sgX10_backed bsX10_backed := ⟨by decide +kernel, gw_mem2 (i := 5053) rfl rfl, gw_all (by decide +kernel)⟩
def bkX10_copied_0 : List gw_E := [(0, 1, .aload_n 0, [0], [], []), (1, 3, .getfield 10, [10, 0, 1, 2172], [], []), (4, 3, .getfield 198, [3, 0, 1, 2072], [], []), (7, 3, .getfield 277, [4, 3, 0, 1080], [], []), (10, 1, .ireturn, [0], [], [])]
def bsX10_copied : List (Nat × List gw_E) := [(0, bkX10_copied_0)]
theorem fdX10_copied_0 : gw_find bsX10_copied 0 = bkX10_copied_0 := rfl
set_option maxRecDepth 40000 in
theorem stX10_copied : gw_sta sgX10_copied bsX10_copied := ⟨by decide +kernel, gw_mem2 (i := 5057) rfl rfl, gw_all (by decide +kernel)⟩
def bkX10_trapped_0 : List gw_E := [(0, 1, .iload_n 1, [1], [], []), (1, 27, .tableswitch 60 0 2 #[27, 38, 49], [61, 28, 39, 50], [0], [])]
def bkX10_trapped_28 : List gw_E := [(28, 1, .aload_n 0, [0], [], []), (29, 3, .getfield 10, [10, 0, 1, 2172], [], []), (32, 3, .invokevirtual 85, [0, 3, 3176, 3019, 3020, 1002], [], [sgX3_inHand]), (35, 3, .getfield 280, [1, 4, 0, 2054], [], []), (38, 1, .ireturn, [0], [], [])]
def bkX10_trapped_39 : List gw_E := [(39, 1, .aload_n 0, [0], [], []), (40, 3, .getfield 10, [10, 0, 1, 2172], [], []), (43, 3, .invokevirtual 85, [0, 3, 3176, 3019, 3020, 1002], [], [sgX3_inHand]), (46, 3, .getfield 283, [1, 5, 0, 2056], [], []), (49, 1, .ireturn, [0], [], [])]
def bkX10_trapped_50 : List gw_E := [(50, 1, .aload_n 0, [0], [], []), (51, 3, .getfield 10, [10, 0, 1, 2172], [], []), (54, 3, .invokevirtual 85, [0, 3, 3176, 3019, 3020, 1002], [], [sgX3_inHand]), (57, 3, .getfield 89, [1, 3, 0, 2050], [], []), (60, 1, .ireturn, [0], [], [])]
def bkX10_trapped_61 : List gw_E := [(61, 1, .iconst (-1), [], [-1], []), (62, 1, .ireturn, [0], [], [])]
def bsX10_trapped : List (Nat × List gw_E) := [(0, bkX10_trapped_0), (28, bkX10_trapped_28), (39, bkX10_trapped_39), (50, bkX10_trapped_50), (61, bkX10_trapped_61)]
theorem fdX10_trapped_0 : gw_find bsX10_trapped 0 = bkX10_trapped_0 := rfl
theorem fdX10_trapped_28 : gw_find bsX10_trapped 28 = bkX10_trapped_28 := rfl
theorem fdX10_trapped_39 : gw_find bsX10_trapped 39 = bkX10_trapped_39 := rfl
theorem fdX10_trapped_50 : gw_find bsX10_trapped 50 = bkX10_trapped_50 := rfl
theorem fdX10_trapped_61 : gw_find bsX10_trapped 61 = bkX10_trapped_61 := rfl
set_option maxRecDepth 40000 in
theorem stX10_trapped : gw_sta sgX10_trapped bsX10_trapped := ⟨by decide +kernel, gw_mem2 (i := 5061) rfl rfl, gw_all (by decide +kernel)⟩
def bkX10_heard_0 : List gw_E := [(0, 1, .iload_n 1, [1], [], []), (1, 1, .iconst (-1), [], [-1], []), (2, 3, .if_icmp .ne 16, [18], [], []), (5, 1, .aload_n 0, [0], [], []), (6, 3, .getfield 10, [10, 0, 1, 2172], [], []), (9, 3, .getfield 234, [3, 14, 1, 2097], [], []), (12, 3, .invokevirtual 286, [0, 2, 5066, 5067, 5068, 1009], [], [sgX2_heardKept]), (15, 3, .goto 14, [29], [], [])]
def bkX10_heard_18 : List gw_E := [(18, 1, .aload_n 0, [0], [], []), (19, 3, .getfield 10, [10, 0, 1, 2172], [], []), (22, 3, .getfield 234, [3, 14, 1, 2097], [], []), (25, 1, .iload_n 1, [1], [], []), (26, 3, .invokevirtual 289, [1, 2, 5073, 5074, 5075, 1009], [], [sgX2_heardAt])]
def bkX10_heard_29 : List gw_E := [(29, 1, .ireturn, [0], [], [])]
def bsX10_heard : List (Nat × List gw_E) := [(0, bkX10_heard_0), (18, bkX10_heard_18), (29, bkX10_heard_29)]
theorem fdX10_heard_0 : gw_find bsX10_heard 0 = bkX10_heard_0 := rfl
theorem fdX10_heard_18 : gw_find bsX10_heard 18 = bkX10_heard_18 := rfl
theorem fdX10_heard_29 : gw_find bsX10_heard 29 = bkX10_heard_29 := rfl
set_option maxRecDepth 40000 in
theorem stX10_heard : gw_sta sgX10_heard bsX10_heard := ⟨by decide +kernel, gw_mem2 (i := 5065) rfl rfl, gw_all (by decide +kernel)⟩
def bkX10_changed_0 : List gw_E := [(0, 1, .aload_n 0, [0], [], []), (1, 3, .getfield 10, [10, 0, 1, 2172], [], []), (4, 3, .getfield 198, [3, 0, 1, 2072], [], []), (7, 3, .getfield 202, [4, 4, 0, 1082], [], []), (10, 1, .ireturn, [0], [], [])]
def bsX10_changed : List (Nat × List gw_E) := [(0, bkX10_changed_0)]
theorem fdX10_changed_0 : gw_find bsX10_changed 0 = bkX10_changed_0 := rfl
set_option maxRecDepth 40000 in
theorem stX10_changed : gw_sta sgX10_changed bsX10_changed := ⟨by decide +kernel, gw_mem2 (i := 5082) rfl rfl, gw_all (by decide +kernel)⟩
