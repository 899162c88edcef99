section
-- ===== PART A: goes FIRST, ahead of the names: the tables' words, and 'selects' of the private methods out of them =====
/-- a private method of a class that the tables say can be made, by its rows of tables_1 -/
def lw_okq (q : MethodName × Nat) : Prop := (q.1.cls ≠ "java/lang/invoke/MethodHandle" ∧ q.1.cls ≠ "java/lang/invoke/VarHandle") ∧ Cond.instantiable q.1.cls q.2 ∈ tables_1 ∧ Cond.privateMethod q.1 ∈ tables_1 ∧ Cond.instanceMethod q.1 ∈ tables_1
theorem lw_p0 : lw_okq (⟨"GuestLevels$Machine", "tellInner", "(III)V"⟩, 15) := ⟨⟨by decide +kernel, by decide +kernel⟩, List.mem_of_getElem? (i := 28) (by decide +kernel), List.mem_of_getElem? (i := 507) (by decide +kernel), List.mem_of_getElem? (i := 508) (by decide +kernel)⟩
theorem lw_p1 : lw_okq (⟨"GuestLevels$Machine", "unfold", "(I)V"⟩, 15) := ⟨⟨by decide +kernel, by decide +kernel⟩, List.mem_of_getElem? (i := 28) (by decide +kernel), List.mem_of_getElem? (i := 520) (by decide +kernel), List.mem_of_getElem? (i := 521) (by decide +kernel)⟩
theorem lw_p2 : lw_okq (⟨"GuestLevels$Machine", "dealToOuter", "(II)V"⟩, 15) := ⟨⟨by decide +kernel, by decide +kernel⟩, List.mem_of_getElem? (i := 28) (by decide +kernel), List.mem_of_getElem? (i := 538) (by decide +kernel), List.mem_of_getElem? (i := 539) (by decide +kernel)⟩
theorem lw_p3 : lw_okq (⟨"GuestLevels$Machine", "dealOutToInner", "()V"⟩, 15) := ⟨⟨by decide +kernel, by decide +kernel⟩, List.mem_of_getElem? (i := 28) (by decide +kernel), List.mem_of_getElem? (i := 561) (by decide +kernel), List.mem_of_getElem? (i := 562) (by decide +kernel)⟩
theorem lw_p4 : lw_okq (⟨"GuestLevels$Machine", "rightsOfBoth", "(I)I"⟩, 15) := ⟨⟨by decide +kernel, by decide +kernel⟩, List.mem_of_getElem? (i := 28) (by decide +kernel), List.mem_of_getElem? (i := 620) (by decide +kernel), List.mem_of_getElem? (i := 621) (by decide +kernel)⟩
theorem lw_p5 : lw_okq (⟨"GuestLevels$Machine", "fold", "(I)V"⟩, 15) := ⟨⟨by decide +kernel, by decide +kernel⟩, List.mem_of_getElem? (i := 28) (by decide +kernel), List.mem_of_getElem? (i := 628) (by decide +kernel), List.mem_of_getElem? (i := 629) (by decide +kernel)⟩
theorem lw_p6 : lw_okq (⟨"GuestLevels$Machine", "hostSees", "(II)V"⟩, 15) := ⟨⟨by decide +kernel, by decide +kernel⟩, List.mem_of_getElem? (i := 28) (by decide +kernel), List.mem_of_getElem? (i := 686) (by decide +kernel), List.mem_of_getElem? (i := 687) (by decide +kernel)⟩
theorem lw_p7 : lw_okq (⟨"GuestLevels$Machine", "foldOnTouch", "(II)I"⟩, 15) := ⟨⟨by decide +kernel, by decide +kernel⟩, List.mem_of_getElem? (i := 28) (by decide +kernel), List.mem_of_getElem? (i := 690) (by decide +kernel), List.mem_of_getElem? (i := 691) (by decide +kernel)⟩
theorem lw_p8 : lw_okq (⟨"GuestLevels$Memory", "sharesFrame", "(I)Z"⟩, 6) := ⟨⟨by decide +kernel, by decide +kernel⟩, List.mem_of_getElem? (i := 34) (by decide +kernel), List.mem_of_getElem? (i := 702) (by decide +kernel), List.mem_of_getElem? (i := 703) (by decide +kernel)⟩
theorem lw_p9 : lw_okq (⟨"GuestLevels$Memory", "storeAway", "(I)V"⟩, 6) := ⟨⟨by decide +kernel, by decide +kernel⟩, List.mem_of_getElem? (i := 34) (by decide +kernel), List.mem_of_getElem? (i := 706) (by decide +kernel), List.mem_of_getElem? (i := 707) (by decide +kernel)⟩
theorem lw_p10 : lw_okq (⟨"GuestLevels", "mayGo", "(II)Z"⟩, 6) := ⟨⟨by decide +kernel, by decide +kernel⟩, List.mem_of_getElem? (i := 20) (by decide +kernel), List.mem_of_getElem? (i := 849) (by decide +kernel), List.mem_of_getElem? (i := 850) (by decide +kernel)⟩
theorem lw_p11 : lw_okq (⟨"GuestLevels$Machine", "nextDueNow", "()I"⟩, 15) := ⟨⟨by decide +kernel, by decide +kernel⟩, List.mem_of_getElem? (i := 28) (by decide +kernel), List.mem_of_getElem? (i := 858) (by decide +kernel), List.mem_of_getElem? (i := 859) (by decide +kernel)⟩
theorem lw_p12 : lw_okq (⟨"GuestLevels$Machine", "goOff", "(I)V"⟩, 15) := ⟨⟨by decide +kernel, by decide +kernel⟩, List.mem_of_getElem? (i := 28) (by decide +kernel), List.mem_of_getElem? (i := 877) (by decide +kernel), List.mem_of_getElem? (i := 878) (by decide +kernel)⟩
theorem lw_p13 : lw_okq (⟨"GuestLevels$Machine", "actOfOuter", "()V"⟩, 15) := ⟨⟨by decide +kernel, by decide +kernel⟩, List.mem_of_getElem? (i := 28) (by decide +kernel), List.mem_of_getElem? (i := 919) (by decide +kernel), List.mem_of_getElem? (i := 920) (by decide +kernel)⟩
theorem lw_p14 : lw_okq (⟨"GuestLevels$Machine", "tellMissed", "(I)V"⟩, 15) := ⟨⟨by decide +kernel, by decide +kernel⟩, List.mem_of_getElem? (i := 28) (by decide +kernel), List.mem_of_getElem? (i := 930) (by decide +kernel), List.mem_of_getElem? (i := 931) (by decide +kernel)⟩
theorem lw_p15 : lw_okq (⟨"GuestLevels$Machine", "switchUnlessInHand", "(I)V"⟩, 15) := ⟨⟨by decide +kernel, by decide +kernel⟩, List.mem_of_getElem? (i := 28) (by decide +kernel), List.mem_of_getElem? (i := 935) (by decide +kernel), List.mem_of_getElem? (i := 936) (by decide +kernel)⟩
def lw_privs_1 : List (MethodName × Nat) := [(⟨"GuestLevels$Machine", "tellInner", "(III)V"⟩, 15), (⟨"GuestLevels$Machine", "unfold", "(I)V"⟩, 15), (⟨"GuestLevels$Machine", "dealToOuter", "(II)V"⟩, 15), (⟨"GuestLevels$Machine", "dealOutToInner", "()V"⟩, 15), (⟨"GuestLevels$Machine", "rightsOfBoth", "(I)I"⟩, 15), (⟨"GuestLevels$Machine", "fold", "(I)V"⟩, 15), (⟨"GuestLevels$Machine", "hostSees", "(II)V"⟩, 15), (⟨"GuestLevels$Machine", "foldOnTouch", "(II)I"⟩, 15), (⟨"GuestLevels$Memory", "sharesFrame", "(I)Z"⟩, 6), (⟨"GuestLevels$Memory", "storeAway", "(I)V"⟩, 6), (⟨"GuestLevels", "mayGo", "(II)Z"⟩, 6), (⟨"GuestLevels$Machine", "nextDueNow", "()I"⟩, 15), (⟨"GuestLevels$Machine", "goOff", "(I)V"⟩, 15), (⟨"GuestLevels$Machine", "actOfOuter", "()V"⟩, 15), (⟨"GuestLevels$Machine", "tellMissed", "(I)V"⟩, 15), (⟨"GuestLevels$Machine", "switchUnlessInHand", "(I)V"⟩, 15)]
theorem lw_r1 : ∀ q ∈ lw_privs_1, lw_okq q := List.forall_mem_cons.mpr ⟨lw_p0, List.forall_mem_cons.mpr ⟨lw_p1, List.forall_mem_cons.mpr ⟨lw_p2, List.forall_mem_cons.mpr ⟨lw_p3, List.forall_mem_cons.mpr ⟨lw_p4, List.forall_mem_cons.mpr ⟨lw_p5, List.forall_mem_cons.mpr ⟨lw_p6, List.forall_mem_cons.mpr ⟨lw_p7, List.forall_mem_cons.mpr ⟨lw_p8, List.forall_mem_cons.mpr ⟨lw_p9, List.forall_mem_cons.mpr ⟨lw_p10, List.forall_mem_cons.mpr ⟨lw_p11, List.forall_mem_cons.mpr ⟨lw_p12, List.forall_mem_cons.mpr ⟨lw_p13, List.forall_mem_cons.mpr ⟨lw_p14, List.forall_mem_cons.mpr ⟨lw_p15, fun _ h => absurd h List.not_mem_nil⟩⟩⟩⟩⟩⟩⟩⟩⟩⟩⟩⟩⟩⟩⟩⟩
theorem lw_p16 : lw_okq (⟨"GuestLevels$Machine", "actOfInner", "()V"⟩, 15) := ⟨⟨by decide +kernel, by decide +kernel⟩, List.mem_of_getElem? (i := 28) (by decide +kernel), List.mem_of_getElem? (i := 940) (by decide +kernel), List.mem_of_getElem? (i := 941) (by decide +kernel)⟩
theorem lw_p17 : lw_okq (⟨"GuestLevels$Machine", "lead", "(LGuestLevels$Inner;II)V"⟩, 15) := ⟨⟨by decide +kernel, by decide +kernel⟩, List.mem_of_getElem? (i := 28) (by decide +kernel), List.mem_of_getElem? (i := 945) (by decide +kernel), List.mem_of_getElem? (i := 946) (by decide +kernel)⟩
theorem lw_p18 : lw_okq (⟨"GuestLevels$Table", "elderThan", "(I)I"⟩, 4) := ⟨⟨by decide +kernel, by decide +kernel⟩, List.mem_of_getElem? (i := 40) (by decide +kernel), List.mem_of_getElem? (i := 992) (by decide +kernel), List.mem_of_getElem? (i := 993) (by decide +kernel)⟩
theorem lw_p19 : lw_okq (⟨"GuestLevels$Machine", "frameOfInner", "(I)I"⟩, 15) := ⟨⟨by decide +kernel, by decide +kernel⟩, List.mem_of_getElem? (i := 28) (by decide +kernel), List.mem_of_getElem? (i := 1073) (by decide +kernel), List.mem_of_getElem? (i := 1074) (by decide +kernel)⟩
theorem lw_p20 : lw_okq (⟨"GuestLevels", "goPlainly", "(I)V"⟩, 6) := ⟨⟨by decide +kernel, by decide +kernel⟩, List.mem_of_getElem? (i := 20) (by decide +kernel), List.mem_of_getElem? (i := 1202) (by decide +kernel), List.mem_of_getElem? (i := 1203) (by decide +kernel)⟩
theorem lw_p21 : lw_okq (⟨"GuestLevels$Plain", "touchFrom", "(IIII)V"⟩, 4) := ⟨⟨by decide +kernel, by decide +kernel⟩, List.mem_of_getElem? (i := 389) (by decide +kernel), List.mem_of_getElem? (i := 1223) (by decide +kernel), List.mem_of_getElem? (i := 1224) (by decide +kernel)⟩
theorem lw_p22 : lw_okq (⟨"GuestLevelsModel", "canTell", "(I)Z"⟩, 10) := ⟨⟨by decide +kernel, by decide +kernel⟩, List.mem_of_getElem? (i := 1265) (by decide +kernel), List.mem_of_getElem? (i := 1316) (by decide +kernel), List.mem_of_getElem? (i := 1317) (by decide +kernel)⟩
theorem lw_p23 : lw_okq (⟨"GuestLevelsModel", "keep", "()V"⟩, 10) := ⟨⟨by decide +kernel, by decide +kernel⟩, List.mem_of_getElem? (i := 1265) (by decide +kernel), List.mem_of_getElem? (i := 1326) (by decide +kernel), List.mem_of_getElem? (i := 1327) (by decide +kernel)⟩
theorem lw_p24 : lw_okq (⟨"GuestLevelsModel", "tellEntry", "(IIII)V"⟩, 10) := ⟨⟨by decide +kernel, by decide +kernel⟩, List.mem_of_getElem? (i := 1265) (by decide +kernel), List.mem_of_getElem? (i := 1330) (by decide +kernel), List.mem_of_getElem? (i := 1331) (by decide +kernel)⟩
theorem lw_p25 : lw_okq (⟨"GuestLevelsModel", "layEntry", "(IIII)V"⟩, 10) := ⟨⟨by decide +kernel, by decide +kernel⟩, List.mem_of_getElem? (i := 1265) (by decide +kernel), List.mem_of_getElem? (i := 1334) (by decide +kernel), List.mem_of_getElem? (i := 1335) (by decide +kernel)⟩
theorem lw_p26 : lw_okq (⟨"GuestLevelsModel", "entryAt", "(II)I"⟩, 10) := ⟨⟨by decide +kernel, by decide +kernel⟩, List.mem_of_getElem? (i := 1265) (by decide +kernel), List.mem_of_getElem? (i := 1338) (by decide +kernel), List.mem_of_getElem? (i := 1339) (by decide +kernel)⟩
theorem lw_p27 : lw_okq (⟨"GuestLevelsModel", "guestAt", "(I)I"⟩, 10) := ⟨⟨by decide +kernel, by decide +kernel⟩, List.mem_of_getElem? (i := 1265) (by decide +kernel), List.mem_of_getElem? (i := 1342) (by decide +kernel), List.mem_of_getElem? (i := 1343) (by decide +kernel)⟩
theorem lw_p28 : lw_okq (⟨"GuestLevelsModel", "unfold", "(I)V"⟩, 10) := ⟨⟨by decide +kernel, by decide +kernel⟩, List.mem_of_getElem? (i := 1265) (by decide +kernel), List.mem_of_getElem? (i := 1346) (by decide +kernel), List.mem_of_getElem? (i := 1347) (by decide +kernel)⟩
theorem lw_p29 : lw_okq (⟨"GuestLevelsModel", "toOf", "(II)I"⟩, 10) := ⟨⟨by decide +kernel, by decide +kernel⟩, List.mem_of_getElem? (i := 1265) (by decide +kernel), List.mem_of_getElem? (i := 1350) (by decide +kernel), List.mem_of_getElem? (i := 1351) (by decide +kernel)⟩
theorem lw_p30 : lw_okq (⟨"GuestLevelsModel", "goOut", "(III)V"⟩, 10) := ⟨⟨by decide +kernel, by decide +kernel⟩, List.mem_of_getElem? (i := 1265) (by decide +kernel), List.mem_of_getElem? (i := 1354) (by decide +kernel), List.mem_of_getElem? (i := 1355) (by decide +kernel)⟩
theorem lw_p31 : lw_okq (⟨"GuestLevelsModel", "unfoldTo", "(I)V"⟩, 10) := ⟨⟨by decide +kernel, by decide +kernel⟩, List.mem_of_getElem? (i := 1265) (by decide +kernel), List.mem_of_getElem? (i := 1358) (by decide +kernel), List.mem_of_getElem? (i := 1359) (by decide +kernel)⟩
def lw_privs_2 : List (MethodName × Nat) := [(⟨"GuestLevels$Machine", "actOfInner", "()V"⟩, 15), (⟨"GuestLevels$Machine", "lead", "(LGuestLevels$Inner;II)V"⟩, 15), (⟨"GuestLevels$Table", "elderThan", "(I)I"⟩, 4), (⟨"GuestLevels$Machine", "frameOfInner", "(I)I"⟩, 15), (⟨"GuestLevels", "goPlainly", "(I)V"⟩, 6), (⟨"GuestLevels$Plain", "touchFrom", "(IIII)V"⟩, 4), (⟨"GuestLevelsModel", "canTell", "(I)Z"⟩, 10), (⟨"GuestLevelsModel", "keep", "()V"⟩, 10), (⟨"GuestLevelsModel", "tellEntry", "(IIII)V"⟩, 10), (⟨"GuestLevelsModel", "layEntry", "(IIII)V"⟩, 10), (⟨"GuestLevelsModel", "entryAt", "(II)I"⟩, 10), (⟨"GuestLevelsModel", "guestAt", "(I)I"⟩, 10), (⟨"GuestLevelsModel", "unfold", "(I)V"⟩, 10), (⟨"GuestLevelsModel", "toOf", "(II)I"⟩, 10), (⟨"GuestLevelsModel", "goOut", "(III)V"⟩, 10), (⟨"GuestLevelsModel", "unfoldTo", "(I)V"⟩, 10)]
theorem lw_r2 : ∀ q ∈ lw_privs_2, lw_okq q := List.forall_mem_cons.mpr ⟨lw_p16, List.forall_mem_cons.mpr ⟨lw_p17, List.forall_mem_cons.mpr ⟨lw_p18, List.forall_mem_cons.mpr ⟨lw_p19, List.forall_mem_cons.mpr ⟨lw_p20, List.forall_mem_cons.mpr ⟨lw_p21, List.forall_mem_cons.mpr ⟨lw_p22, List.forall_mem_cons.mpr ⟨lw_p23, List.forall_mem_cons.mpr ⟨lw_p24, List.forall_mem_cons.mpr ⟨lw_p25, List.forall_mem_cons.mpr ⟨lw_p26, List.forall_mem_cons.mpr ⟨lw_p27, List.forall_mem_cons.mpr ⟨lw_p28, List.forall_mem_cons.mpr ⟨lw_p29, List.forall_mem_cons.mpr ⟨lw_p30, List.forall_mem_cons.mpr ⟨lw_p31, fun _ h => absurd h List.not_mem_nil⟩⟩⟩⟩⟩⟩⟩⟩⟩⟩⟩⟩⟩⟩⟩⟩
theorem lw_p32 : lw_okq (⟨"GuestLevelsModel", "comeLast", "(III)V"⟩, 10) := ⟨⟨by decide +kernel, by decide +kernel⟩, List.mem_of_getElem? (i := 1265) (by decide +kernel), List.mem_of_getElem? (i := 1362) (by decide +kernel), List.mem_of_getElem? (i := 1363) (by decide +kernel)⟩
theorem lw_p33 : lw_okq (⟨"GuestLevelsModel", "dealOut", "()V"⟩, 10) := ⟨⟨by decide +kernel, by decide +kernel⟩, List.mem_of_getElem? (i := 1265) (by decide +kernel), List.mem_of_getElem? (i := 1366) (by decide +kernel), List.mem_of_getElem? (i := 1367) (by decide +kernel)⟩
theorem lw_p34 : lw_okq (⟨"GuestLevelsModel", "nextOf", "(I)I"⟩, 10) := ⟨⟨by decide +kernel, by decide +kernel⟩, List.mem_of_getElem? (i := 1265) (by decide +kernel), List.mem_of_getElem? (i := 1370) (by decide +kernel), List.mem_of_getElem? (i := 1371) (by decide +kernel)⟩
theorem lw_p35 : lw_okq (⟨"GuestLevelsModel", "deal", "(II)V"⟩, 10) := ⟨⟨by decide +kernel, by decide +kernel⟩, List.mem_of_getElem? (i := 1265) (by decide +kernel), List.mem_of_getElem? (i := 1380) (by decide +kernel), List.mem_of_getElem? (i := 1381) (by decide +kernel)⟩
theorem lw_p36 : lw_okq (⟨"GuestLevelsModel", "writeExit", "(III)V"⟩, 10) := ⟨⟨by decide +kernel, by decide +kernel⟩, List.mem_of_getElem? (i := 1265) (by decide +kernel), List.mem_of_getElem? (i := 1384) (by decide +kernel), List.mem_of_getElem? (i := 1385) (by decide +kernel)⟩
theorem lw_p37 : lw_okq (⟨"GuestLevelsModel", "take", "(II)V"⟩, 10) := ⟨⟨by decide +kernel, by decide +kernel⟩, List.mem_of_getElem? (i := 1265) (by decide +kernel), List.mem_of_getElem? (i := 1388) (by decide +kernel), List.mem_of_getElem? (i := 1389) (by decide +kernel)⟩
theorem lw_p38 : lw_okq (⟨"GuestLevelsModel", "sinceOf", "(II)I"⟩, 10) := ⟨⟨by decide +kernel, by decide +kernel⟩, List.mem_of_getElem? (i := 1265) (by decide +kernel), List.mem_of_getElem? (i := 1392) (by decide +kernel), List.mem_of_getElem? (i := 1393) (by decide +kernel)⟩
theorem lw_p39 : lw_okq (⟨"GuestLevelsModel", "roomNow", "(I)V"⟩, 10) := ⟨⟨by decide +kernel, by decide +kernel⟩, List.mem_of_getElem? (i := 1265) (by decide +kernel), List.mem_of_getElem? (i := 1404) (by decide +kernel), List.mem_of_getElem? (i := 1405) (by decide +kernel)⟩
theorem lw_p40 : lw_okq (⟨"GuestLevelsModel", "isLazy", "(I)Z"⟩, 10) := ⟨⟨by decide +kernel, by decide +kernel⟩, List.mem_of_getElem? (i := 1265) (by decide +kernel), List.mem_of_getElem? (i := 1412) (by decide +kernel), List.mem_of_getElem? (i := 1413) (by decide +kernel)⟩
theorem lw_p41 : lw_okq (⟨"GuestLevelsModel", "rightsOf", "(II)I"⟩, 10) := ⟨⟨by decide +kernel, by decide +kernel⟩, List.mem_of_getElem? (i := 1265) (by decide +kernel), List.mem_of_getElem? (i := 1416) (by decide +kernel), List.mem_of_getElem? (i := 1417) (by decide +kernel)⟩
theorem lw_p42 : lw_okq (⟨"GuestLevelsModel", "isCopied", "(I)Z"⟩, 10) := ⟨⟨by decide +kernel, by decide +kernel⟩, List.mem_of_getElem? (i := 1265) (by decide +kernel), List.mem_of_getElem? (i := 1420) (by decide +kernel), List.mem_of_getElem? (i := 1421) (by decide +kernel)⟩
theorem lw_p43 : lw_okq (⟨"GuestLevelsModel", "fold", "(I)V"⟩, 10) := ⟨⟨by decide +kernel, by decide +kernel⟩, List.mem_of_getElem? (i := 1265) (by decide +kernel), List.mem_of_getElem? (i := 1424) (by decide +kernel), List.mem_of_getElem? (i := 1425) (by decide +kernel)⟩
theorem lw_p44 : lw_okq (⟨"GuestLevelsModel", "likeOf", "(I)I"⟩, 10) := ⟨⟨by decide +kernel, by decide +kernel⟩, List.mem_of_getElem? (i := 1265) (by decide +kernel), List.mem_of_getElem? (i := 1432) (by decide +kernel), List.mem_of_getElem? (i := 1433) (by decide +kernel)⟩
theorem lw_p45 : lw_okq (⟨"GuestLevelsModel", "leadTo", "(I)I"⟩, 10) := ⟨⟨by decide +kernel, by decide +kernel⟩, List.mem_of_getElem? (i := 1265) (by decide +kernel), List.mem_of_getElem? (i := 1436) (by decide +kernel), List.mem_of_getElem? (i := 1437) (by decide +kernel)⟩
theorem lw_p46 : lw_okq (⟨"GuestLevelsModel", "joinNow", "(II)V"⟩, 10) := ⟨⟨by decide +kernel, by decide +kernel⟩, List.mem_of_getElem? (i := 1265) (by decide +kernel), List.mem_of_getElem? (i := 1440) (by decide +kernel), List.mem_of_getElem? (i := 1441) (by decide +kernel)⟩
theorem lw_p47 : lw_okq (⟨"GuestLevelsModel", "touchNow", "(III)I"⟩, 10) := ⟨⟨by decide +kernel, by decide +kernel⟩, List.mem_of_getElem? (i := 1265) (by decide +kernel), List.mem_of_getElem? (i := 1464) (by decide +kernel), List.mem_of_getElem? (i := 1465) (by decide +kernel)⟩
def lw_privs_3 : List (MethodName × Nat) := [(⟨"GuestLevelsModel", "comeLast", "(III)V"⟩, 10), (⟨"GuestLevelsModel", "dealOut", "()V"⟩, 10), (⟨"GuestLevelsModel", "nextOf", "(I)I"⟩, 10), (⟨"GuestLevelsModel", "deal", "(II)V"⟩, 10), (⟨"GuestLevelsModel", "writeExit", "(III)V"⟩, 10), (⟨"GuestLevelsModel", "take", "(II)V"⟩, 10), (⟨"GuestLevelsModel", "sinceOf", "(II)I"⟩, 10), (⟨"GuestLevelsModel", "roomNow", "(I)V"⟩, 10), (⟨"GuestLevelsModel", "isLazy", "(I)Z"⟩, 10), (⟨"GuestLevelsModel", "rightsOf", "(II)I"⟩, 10), (⟨"GuestLevelsModel", "isCopied", "(I)Z"⟩, 10), (⟨"GuestLevelsModel", "fold", "(I)V"⟩, 10), (⟨"GuestLevelsModel", "likeOf", "(I)I"⟩, 10), (⟨"GuestLevelsModel", "leadTo", "(I)I"⟩, 10), (⟨"GuestLevelsModel", "joinNow", "(II)V"⟩, 10), (⟨"GuestLevelsModel", "touchNow", "(III)I"⟩, 10)]
theorem lw_r3 : ∀ q ∈ lw_privs_3, lw_okq q := List.forall_mem_cons.mpr ⟨lw_p32, List.forall_mem_cons.mpr ⟨lw_p33, List.forall_mem_cons.mpr ⟨lw_p34, List.forall_mem_cons.mpr ⟨lw_p35, List.forall_mem_cons.mpr ⟨lw_p36, List.forall_mem_cons.mpr ⟨lw_p37, List.forall_mem_cons.mpr ⟨lw_p38, List.forall_mem_cons.mpr ⟨lw_p39, List.forall_mem_cons.mpr ⟨lw_p40, List.forall_mem_cons.mpr ⟨lw_p41, List.forall_mem_cons.mpr ⟨lw_p42, List.forall_mem_cons.mpr ⟨lw_p43, List.forall_mem_cons.mpr ⟨lw_p44, List.forall_mem_cons.mpr ⟨lw_p45, List.forall_mem_cons.mpr ⟨lw_p46, List.forall_mem_cons.mpr ⟨lw_p47, fun _ h => absurd h List.not_mem_nil⟩⟩⟩⟩⟩⟩⟩⟩⟩⟩⟩⟩⟩⟩⟩⟩
theorem lw_p48 : lw_okq (⟨"GuestLevelsModel", "touchOuter", "(III)I"⟩, 10) := ⟨⟨by decide +kernel, by decide +kernel⟩, List.mem_of_getElem? (i := 1265) (by decide +kernel), List.mem_of_getElem? (i := 1468) (by decide +kernel), List.mem_of_getElem? (i := 1469) (by decide +kernel)⟩
theorem lw_p49 : lw_okq (⟨"GuestLevelsModel", "see", "(II)V"⟩, 10) := ⟨⟨by decide +kernel, by decide +kernel⟩, List.mem_of_getElem? (i := 1265) (by decide +kernel), List.mem_of_getElem? (i := 1472) (by decide +kernel), List.mem_of_getElem? (i := 1473) (by decide +kernel)⟩
theorem lw_p50 : lw_okq (⟨"GuestLevelsModel", "give", "(I)V"⟩, 10) := ⟨⟨by decide +kernel, by decide +kernel⟩, List.mem_of_getElem? (i := 1265) (by decide +kernel), List.mem_of_getElem? (i := 1476) (by decide +kernel), List.mem_of_getElem? (i := 1477) (by decide +kernel)⟩
theorem lw_p51 : lw_okq (⟨"GuestLevelsModel", "freeFrame", "()I"⟩, 10) := ⟨⟨by decide +kernel, by decide +kernel⟩, List.mem_of_getElem? (i := 1265) (by decide +kernel), List.mem_of_getElem? (i := 1480) (by decide +kernel), List.mem_of_getElem? (i := 1481) (by decide +kernel)⟩
theorem lw_p52 : lw_okq (⟨"GuestLevelsModel", "swapOut", "()V"⟩, 10) := ⟨⟨by decide +kernel, by decide +kernel⟩, List.mem_of_getElem? (i := 1265) (by decide +kernel), List.mem_of_getElem? (i := 1484) (by decide +kernel), List.mem_of_getElem? (i := 1485) (by decide +kernel)⟩
theorem lw_p53 : lw_okq (⟨"GuestLevelsModel", "isParted", "(II)Z"⟩, 10) := ⟨⟨by decide +kernel, by decide +kernel⟩, List.mem_of_getElem? (i := 1265) (by decide +kernel), List.mem_of_getElem? (i := 1488) (by decide +kernel), List.mem_of_getElem? (i := 1489) (by decide +kernel)⟩
theorem lw_p54 : lw_okq (⟨"GuestLevelsModel", "part", "(I)V"⟩, 10) := ⟨⟨by decide +kernel, by decide +kernel⟩, List.mem_of_getElem? (i := 1265) (by decide +kernel), List.mem_of_getElem? (i := 1492) (by decide +kernel), List.mem_of_getElem? (i := 1493) (by decide +kernel)⟩
theorem lw_p55 : lw_okq (⟨"GuestLevelsModel", "gives", "(III)Z"⟩, 10) := ⟨⟨by decide +kernel, by decide +kernel⟩, List.mem_of_getElem? (i := 1265) (by decide +kernel), List.mem_of_getElem? (i := 1496) (by decide +kernel), List.mem_of_getElem? (i := 1497) (by decide +kernel)⟩
theorem lw_p56 : lw_okq (⟨"GuestLevelsModel", "doAt", "(III)I"⟩, 10) := ⟨⟨by decide +kernel, by decide +kernel⟩, List.mem_of_getElem? (i := 1265) (by decide +kernel), List.mem_of_getElem? (i := 1500) (by decide +kernel), List.mem_of_getElem? (i := 1501) (by decide +kernel)⟩
theorem lw_p57 : lw_okq (⟨"GuestLevelsModel", "touchInner", "(III)I"⟩, 10) := ⟨⟨by decide +kernel, by decide +kernel⟩, List.mem_of_getElem? (i := 1265) (by decide +kernel), List.mem_of_getElem? (i := 1504) (by decide +kernel), List.mem_of_getElem? (i := 1505) (by decide +kernel)⟩
theorem lw_p58 : lw_okq (⟨"GuestLevelsModel", "eventNow", "(I)I"⟩, 10) := ⟨⟨by decide +kernel, by decide +kernel⟩, List.mem_of_getElem? (i := 1265) (by decide +kernel), List.mem_of_getElem? (i := 1508) (by decide +kernel), List.mem_of_getElem? (i := 1509) (by decide +kernel)⟩
theorem lw_p59 : lw_okq (⟨"GuestLevelsModel", "eventOuter", "(I)I"⟩, 10) := ⟨⟨by decide +kernel, by decide +kernel⟩, List.mem_of_getElem? (i := 1265) (by decide +kernel), List.mem_of_getElem? (i := 1512) (by decide +kernel), List.mem_of_getElem? (i := 1513) (by decide +kernel)⟩
theorem lw_p60 : lw_okq (⟨"GuestLevelsModel", "eventInner", "(I)I"⟩, 10) := ⟨⟨by decide +kernel, by decide +kernel⟩, List.mem_of_getElem? (i := 1265) (by decide +kernel), List.mem_of_getElem? (i := 1516) (by decide +kernel), List.mem_of_getElem? (i := 1517) (by decide +kernel)⟩
theorem lw_p61 : lw_okq (⟨"GuestLevelsModel", "whoSees", "(I)I"⟩, 10) := ⟨⟨by decide +kernel, by decide +kernel⟩, List.mem_of_getElem? (i := 1265) (by decide +kernel), List.mem_of_getElem? (i := 1520) (by decide +kernel), List.mem_of_getElem? (i := 1521) (by decide +kernel)⟩
theorem lw_p62 : lw_okq (⟨"GuestLevelsModel", "doInner", "(III)I"⟩, 10) := ⟨⟨by decide +kernel, by decide +kernel⟩, List.mem_of_getElem? (i := 1265) (by decide +kernel), List.mem_of_getElem? (i := 1524) (by decide +kernel), List.mem_of_getElem? (i := 1525) (by decide +kernel)⟩
theorem lw_p63 : lw_okq (⟨"GuestLevelsModel", "hear", "(I)V"⟩, 10) := ⟨⟨by decide +kernel, by decide +kernel⟩, List.mem_of_getElem? (i := 1265) (by decide +kernel), List.mem_of_getElem? (i := 1528) (by decide +kernel), List.mem_of_getElem? (i := 1529) (by decide +kernel)⟩
def lw_privs_4 : List (MethodName × Nat) := [(⟨"GuestLevelsModel", "touchOuter", "(III)I"⟩, 10), (⟨"GuestLevelsModel", "see", "(II)V"⟩, 10), (⟨"GuestLevelsModel", "give", "(I)V"⟩, 10), (⟨"GuestLevelsModel", "freeFrame", "()I"⟩, 10), (⟨"GuestLevelsModel", "swapOut", "()V"⟩, 10), (⟨"GuestLevelsModel", "isParted", "(II)Z"⟩, 10), (⟨"GuestLevelsModel", "part", "(I)V"⟩, 10), (⟨"GuestLevelsModel", "gives", "(III)Z"⟩, 10), (⟨"GuestLevelsModel", "doAt", "(III)I"⟩, 10), (⟨"GuestLevelsModel", "touchInner", "(III)I"⟩, 10), (⟨"GuestLevelsModel", "eventNow", "(I)I"⟩, 10), (⟨"GuestLevelsModel", "eventOuter", "(I)I"⟩, 10), (⟨"GuestLevelsModel", "eventInner", "(I)I"⟩, 10), (⟨"GuestLevelsModel", "whoSees", "(I)I"⟩, 10), (⟨"GuestLevelsModel", "doInner", "(III)I"⟩, 10), (⟨"GuestLevelsModel", "hear", "(I)V"⟩, 10)]
theorem lw_r4 : ∀ q ∈ lw_privs_4, lw_okq q := List.forall_mem_cons.mpr ⟨lw_p48, List.forall_mem_cons.mpr ⟨lw_p49, List.forall_mem_cons.mpr ⟨lw_p50, List.forall_mem_cons.mpr ⟨lw_p51, List.forall_mem_cons.mpr ⟨lw_p52, List.forall_mem_cons.mpr ⟨lw_p53, List.forall_mem_cons.mpr ⟨lw_p54, List.forall_mem_cons.mpr ⟨lw_p55, List.forall_mem_cons.mpr ⟨lw_p56, List.forall_mem_cons.mpr ⟨lw_p57, List.forall_mem_cons.mpr ⟨lw_p58, List.forall_mem_cons.mpr ⟨lw_p59, List.forall_mem_cons.mpr ⟨lw_p60, List.forall_mem_cons.mpr ⟨lw_p61, List.forall_mem_cons.mpr ⟨lw_p62, List.forall_mem_cons.mpr ⟨lw_p63, fun _ h => absurd h List.not_mem_nil⟩⟩⟩⟩⟩⟩⟩⟩⟩⟩⟩⟩⟩⟩⟩⟩
theorem lw_p64 : lw_okq (⟨"GuestLevelsModel", "enterNow", "()V"⟩, 10) := ⟨⟨by decide +kernel, by decide +kernel⟩, List.mem_of_getElem? (i := 1265) (by decide +kernel), List.mem_of_getElem? (i := 1540) (by decide +kernel), List.mem_of_getElem? (i := 1541) (by decide +kernel)⟩
theorem lw_p65 : lw_okq (⟨"GuestLevelsModel", "pend", "(II)V"⟩, 10) := ⟨⟨by decide +kernel, by decide +kernel⟩, List.mem_of_getElem? (i := 1265) (by decide +kernel), List.mem_of_getElem? (i := 1551) (by decide +kernel), List.mem_of_getElem? (i := 1552) (by decide +kernel)⟩
theorem lw_p66 : lw_okq (⟨"GuestLevelsModel", "endNow", "(I)I"⟩, 10) := ⟨⟨by decide +kernel, by decide +kernel⟩, List.mem_of_getElem? (i := 1265) (by decide +kernel), List.mem_of_getElem? (i := 1563) (by decide +kernel), List.mem_of_getElem? (i := 1564) (by decide +kernel)⟩
theorem lw_p67 : lw_okq (⟨"GuestLevelsModel", "handNow", "(I)V"⟩, 10) := ⟨⟨by decide +kernel, by decide +kernel⟩, List.mem_of_getElem? (i := 1265) (by decide +kernel), List.mem_of_getElem? (i := 1571) (by decide +kernel), List.mem_of_getElem? (i := 1572) (by decide +kernel)⟩
theorem lw_p68 : lw_okq (⟨"GuestLevelsModel", "unfoldAll", "()V"⟩, 10) := ⟨⟨by decide +kernel, by decide +kernel⟩, List.mem_of_getElem? (i := 1265) (by decide +kernel), List.mem_of_getElem? (i := 1575) (by decide +kernel), List.mem_of_getElem? (i := 1576) (by decide +kernel)⟩
theorem lw_p69 : lw_okq (⟨"GuestLevelsModel", "dropTimer", "(I)V"⟩, 10) := ⟨⟨by decide +kernel, by decide +kernel⟩, List.mem_of_getElem? (i := 1265) (by decide +kernel), List.mem_of_getElem? (i := 1593) (by decide +kernel), List.mem_of_getElem? (i := 1594) (by decide +kernel)⟩
theorem lw_p70 : lw_okq (⟨"GuestLevelsModel", "tick", "()I"⟩, 10) := ⟨⟨by decide +kernel, by decide +kernel⟩, List.mem_of_getElem? (i := 1265) (by decide +kernel), List.mem_of_getElem? (i := 1620) (by decide +kernel), List.mem_of_getElem? (i := 1621) (by decide +kernel)⟩
theorem lw_p71 : lw_okq (⟨"GuestLevelsModel", "firstDue", "()I"⟩, 10) := ⟨⟨by decide +kernel, by decide +kernel⟩, List.mem_of_getElem? (i := 1265) (by decide +kernel), List.mem_of_getElem? (i := 1624) (by decide +kernel), List.mem_of_getElem? (i := 1625) (by decide +kernel)⟩
theorem lw_p72 : lw_okq (⟨"GuestLevelsModel", "isDue", "(II)Z"⟩, 10) := ⟨⟨by decide +kernel, by decide +kernel⟩, List.mem_of_getElem? (i := 1265) (by decide +kernel), List.mem_of_getElem? (i := 1628) (by decide +kernel), List.mem_of_getElem? (i := 1629) (by decide +kernel)⟩
theorem lw_p73 : lw_okq (⟨"GuestLevelsModel", "ofTimer", "(II)I"⟩, 10) := ⟨⟨by decide +kernel, by decide +kernel⟩, List.mem_of_getElem? (i := 1265) (by decide +kernel), List.mem_of_getElem? (i := 1632) (by decide +kernel), List.mem_of_getElem? (i := 1633) (by decide +kernel)⟩
theorem lw_p74 : lw_okq (⟨"GuestLevelsModel", "clockAt", "(II)I"⟩, 10) := ⟨⟨by decide +kernel, by decide +kernel⟩, List.mem_of_getElem? (i := 1265) (by decide +kernel), List.mem_of_getElem? (i := 1636) (by decide +kernel), List.mem_of_getElem? (i := 1637) (by decide +kernel)⟩
theorem lw_p75 : lw_okq (⟨"GuestLevelsModel", "isAhead", "(II)Z"⟩, 10) := ⟨⟨by decide +kernel, by decide +kernel⟩, List.mem_of_getElem? (i := 1265) (by decide +kernel), List.mem_of_getElem? (i := 1640) (by decide +kernel), List.mem_of_getElem? (i := 1641) (by decide +kernel)⟩
theorem lw_p76 : lw_okq (⟨"GuestLevelsModel", "canGo", "(II)Z"⟩, 10) := ⟨⟨by decide +kernel, by decide +kernel⟩, List.mem_of_getElem? (i := 1265) (by decide +kernel), List.mem_of_getElem? (i := 1662) (by decide +kernel), List.mem_of_getElem? (i := 1663) (by decide +kernel)⟩
theorem lw_p77 : lw_okq (⟨"GuestLevelsModel", "exitsAll", "()I"⟩, 10) := ⟨⟨by decide +kernel, by decide +kernel⟩, List.mem_of_getElem? (i := 1265) (by decide +kernel), List.mem_of_getElem? (i := 1666) (by decide +kernel), List.mem_of_getElem? (i := 1667) (by decide +kernel)⟩
theorem lw_p78 : lw_okq (⟨"GuestLevelsModel", "goNow", "()V"⟩, 10) := ⟨⟨by decide +kernel, by decide +kernel⟩, List.mem_of_getElem? (i := 1265) (by decide +kernel), List.mem_of_getElem? (i := 1670) (by decide +kernel), List.mem_of_getElem? (i := 1671) (by decide +kernel)⟩
theorem lw_p79 : lw_okq (⟨"GuestLevelsModel", "actNow", "()V"⟩, 10) := ⟨⟨by decide +kernel, by decide +kernel⟩, List.mem_of_getElem? (i := 1265) (by decide +kernel), List.mem_of_getElem? (i := 1674) (by decide +kernel), List.mem_of_getElem? (i := 1675) (by decide +kernel)⟩
def lw_privs_5 : List (MethodName × Nat) := [(⟨"GuestLevelsModel", "enterNow", "()V"⟩, 10), (⟨"GuestLevelsModel", "pend", "(II)V"⟩, 10), (⟨"GuestLevelsModel", "endNow", "(I)I"⟩, 10), (⟨"GuestLevelsModel", "handNow", "(I)V"⟩, 10), (⟨"GuestLevelsModel", "unfoldAll", "()V"⟩, 10), (⟨"GuestLevelsModel", "dropTimer", "(I)V"⟩, 10), (⟨"GuestLevelsModel", "tick", "()I"⟩, 10), (⟨"GuestLevelsModel", "firstDue", "()I"⟩, 10), (⟨"GuestLevelsModel", "isDue", "(II)Z"⟩, 10), (⟨"GuestLevelsModel", "ofTimer", "(II)I"⟩, 10), (⟨"GuestLevelsModel", "clockAt", "(II)I"⟩, 10), (⟨"GuestLevelsModel", "isAhead", "(II)Z"⟩, 10), (⟨"GuestLevelsModel", "canGo", "(II)Z"⟩, 10), (⟨"GuestLevelsModel", "exitsAll", "()I"⟩, 10), (⟨"GuestLevelsModel", "goNow", "()V"⟩, 10), (⟨"GuestLevelsModel", "actNow", "()V"⟩, 10)]
theorem lw_r5 : ∀ q ∈ lw_privs_5, lw_okq q := List.forall_mem_cons.mpr ⟨lw_p64, List.forall_mem_cons.mpr ⟨lw_p65, List.forall_mem_cons.mpr ⟨lw_p66, List.forall_mem_cons.mpr ⟨lw_p67, List.forall_mem_cons.mpr ⟨lw_p68, List.forall_mem_cons.mpr ⟨lw_p69, List.forall_mem_cons.mpr ⟨lw_p70, List.forall_mem_cons.mpr ⟨lw_p71, List.forall_mem_cons.mpr ⟨lw_p72, List.forall_mem_cons.mpr ⟨lw_p73, List.forall_mem_cons.mpr ⟨lw_p74, List.forall_mem_cons.mpr ⟨lw_p75, List.forall_mem_cons.mpr ⟨lw_p76, List.forall_mem_cons.mpr ⟨lw_p77, List.forall_mem_cons.mpr ⟨lw_p78, List.forall_mem_cons.mpr ⟨lw_p79, fun _ h => absurd h List.not_mem_nil⟩⟩⟩⟩⟩⟩⟩⟩⟩⟩⟩⟩⟩⟩⟩⟩
theorem lw_p80 : lw_okq (⟨"GuestLevelsModel", "goOnBy", "(IIIZ)V"⟩, 10) := ⟨⟨by decide +kernel, by decide +kernel⟩, List.mem_of_getElem? (i := 1265) (by decide +kernel), List.mem_of_getElem? (i := 1678) (by decide +kernel), List.mem_of_getElem? (i := 1679) (by decide +kernel)⟩
theorem lw_p81 : lw_okq (⟨"GuestLevelsModel", "hasPlace", "(II)Z"⟩, 10) := ⟨⟨by decide +kernel, by decide +kernel⟩, List.mem_of_getElem? (i := 1265) (by decide +kernel), List.mem_of_getElem? (i := 1682) (by decide +kernel), List.mem_of_getElem? (i := 1683) (by decide +kernel)⟩
theorem lw_p82 : lw_okq (⟨"GuestLevelsModel", "actOuter", "(III)V"⟩, 10) := ⟨⟨by decide +kernel, by decide +kernel⟩, List.mem_of_getElem? (i := 1265) (by decide +kernel), List.mem_of_getElem? (i := 1686) (by decide +kernel), List.mem_of_getElem? (i := 1687) (by decide +kernel)⟩
theorem lw_p83 : lw_okq (⟨"GuestLevelsModel", "actInner", "(III)V"⟩, 10) := ⟨⟨by decide +kernel, by decide +kernel⟩, List.mem_of_getElem? (i := 1265) (by decide +kernel), List.mem_of_getElem? (i := 1690) (by decide +kernel), List.mem_of_getElem? (i := 1691) (by decide +kernel)⟩
theorem lw_p84 : lw_okq (⟨"GuestLevelsModel", "freeFrames", "()I"⟩, 10) := ⟨⟨by decide +kernel, by decide +kernel⟩, List.mem_of_getElem? (i := 1265) (by decide +kernel), List.mem_of_getElem? (i := 1698) (by decide +kernel), List.mem_of_getElem? (i := 1699) (by decide +kernel)⟩
theorem lw_p85 : lw_okq (⟨"GuestLevelsModel", "entriesFrom", "(I)I"⟩, 10) := ⟨⟨by decide +kernel, by decide +kernel⟩, List.mem_of_getElem? (i := 1265) (by decide +kernel), List.mem_of_getElem? (i := 1798) (by decide +kernel), List.mem_of_getElem? (i := 1799) (by decide +kernel)⟩
theorem lw_p86 : lw_okq (⟨"GuestLevelsModel", "dueOf", "(I)I"⟩, 10) := ⟨⟨by decide +kernel, by decide +kernel⟩, List.mem_of_getElem? (i := 1265) (by decide +kernel), List.mem_of_getElem? (i := 1819) (by decide +kernel), List.mem_of_getElem? (i := 1820) (by decide +kernel)⟩
theorem lw_p87 : lw_okq (⟨"GuestLevelsModel", "putAside", "()V"⟩, 10) := ⟨⟨by decide +kernel, by decide +kernel⟩, List.mem_of_getElem? (i := 1265) (by decide +kernel), List.mem_of_getElem? (i := 1836) (by decide +kernel), List.mem_of_getElem? (i := 1837) (by decide +kernel)⟩
theorem lw_p88 : lw_okq (⟨"GuestLevelsModel", "bringBack", "()V"⟩, 10) := ⟨⟨by decide +kernel, by decide +kernel⟩, List.mem_of_getElem? (i := 1265) (by decide +kernel), List.mem_of_getElem? (i := 1841) (by decide +kernel), List.mem_of_getElem? (i := 1842) (by decide +kernel)⟩
theorem lw_p89 : lw_okq (⟨"GuestLevelsModel", "tillMore", "(I)I"⟩, 10) := ⟨⟨by decide +kernel, by decide +kernel⟩, List.mem_of_getElem? (i := 1265) (by decide +kernel), List.mem_of_getElem? (i := 1849) (by decide +kernel), List.mem_of_getElem? (i := 1850) (by decide +kernel)⟩
theorem lw_p90 : lw_okq (⟨"GuestLevelsModel", "seenBy", "(II)I"⟩, 10) := ⟨⟨by decide +kernel, by decide +kernel⟩, List.mem_of_getElem? (i := 1265) (by decide +kernel), List.mem_of_getElem? (i := 1861) (by decide +kernel), List.mem_of_getElem? (i := 1862) (by decide +kernel)⟩
theorem lw_p91 : lw_okq (⟨"GuestLevelsModel", "layPlain", "(I)V"⟩, 10) := ⟨⟨by decide +kernel, by decide +kernel⟩, List.mem_of_getElem? (i := 1265) (by decide +kernel), List.mem_of_getElem? (i := 1869) (by decide +kernel), List.mem_of_getElem? (i := 1870) (by decide +kernel)⟩
theorem lw_p92 : lw_okq (⟨"GuestLevelsModel", "plainValue", "(I)I"⟩, 10) := ⟨⟨by decide +kernel, by decide +kernel⟩, List.mem_of_getElem? (i := 1265) (by decide +kernel), List.mem_of_getElem? (i := 1873) (by decide +kernel), List.mem_of_getElem? (i := 1874) (by decide +kernel)⟩
theorem lw_p93 : lw_okq (⟨"GuestLevelsModel", "plainAct", "(II)V"⟩, 10) := ⟨⟨by decide +kernel, by decide +kernel⟩, List.mem_of_getElem? (i := 1265) (by decide +kernel), List.mem_of_getElem? (i := 1877) (by decide +kernel), List.mem_of_getElem? (i := 1878) (by decide +kernel)⟩
theorem lw_p94 : lw_okq (⟨"GuestLevelsModel", "plainTouch", "(IIIII)V"⟩, 10) := ⟨⟨by decide +kernel, by decide +kernel⟩, List.mem_of_getElem? (i := 1265) (by decide +kernel), List.mem_of_getElem? (i := 1881) (by decide +kernel), List.mem_of_getElem? (i := 1882) (by decide +kernel)⟩
theorem lw_p95 : lw_okq (⟨"GuestLevelsModel", "plainTrap", "(III)V"⟩, 10) := ⟨⟨by decide +kernel, by decide +kernel⟩, List.mem_of_getElem? (i := 1265) (by decide +kernel), List.mem_of_getElem? (i := 1885) (by decide +kernel), List.mem_of_getElem? (i := 1886) (by decide +kernel)⟩
def lw_privs_6 : List (MethodName × Nat) := [(⟨"GuestLevelsModel", "goOnBy", "(IIIZ)V"⟩, 10), (⟨"GuestLevelsModel", "hasPlace", "(II)Z"⟩, 10), (⟨"GuestLevelsModel", "actOuter", "(III)V"⟩, 10), (⟨"GuestLevelsModel", "actInner", "(III)V"⟩, 10), (⟨"GuestLevelsModel", "freeFrames", "()I"⟩, 10), (⟨"GuestLevelsModel", "entriesFrom", "(I)I"⟩, 10), (⟨"GuestLevelsModel", "dueOf", "(I)I"⟩, 10), (⟨"GuestLevelsModel", "putAside", "()V"⟩, 10), (⟨"GuestLevelsModel", "bringBack", "()V"⟩, 10), (⟨"GuestLevelsModel", "tillMore", "(I)I"⟩, 10), (⟨"GuestLevelsModel", "seenBy", "(II)I"⟩, 10), (⟨"GuestLevelsModel", "layPlain", "(I)V"⟩, 10), (⟨"GuestLevelsModel", "plainValue", "(I)I"⟩, 10), (⟨"GuestLevelsModel", "plainAct", "(II)V"⟩, 10), (⟨"GuestLevelsModel", "plainTouch", "(IIIII)V"⟩, 10), (⟨"GuestLevelsModel", "plainTrap", "(III)V"⟩, 10)]
theorem lw_r6 : ∀ q ∈ lw_privs_6, lw_okq q := List.forall_mem_cons.mpr ⟨lw_p80, List.forall_mem_cons.mpr ⟨lw_p81, List.forall_mem_cons.mpr ⟨lw_p82, List.forall_mem_cons.mpr ⟨lw_p83, List.forall_mem_cons.mpr ⟨lw_p84, List.forall_mem_cons.mpr ⟨lw_p85, List.forall_mem_cons.mpr ⟨lw_p86, List.forall_mem_cons.mpr ⟨lw_p87, List.forall_mem_cons.mpr ⟨lw_p88, List.forall_mem_cons.mpr ⟨lw_p89, List.forall_mem_cons.mpr ⟨lw_p90, List.forall_mem_cons.mpr ⟨lw_p91, List.forall_mem_cons.mpr ⟨lw_p92, List.forall_mem_cons.mpr ⟨lw_p93, List.forall_mem_cons.mpr ⟨lw_p94, List.forall_mem_cons.mpr ⟨lw_p95, fun _ h => absurd h List.not_mem_nil⟩⟩⟩⟩⟩⟩⟩⟩⟩⟩⟩⟩⟩⟩⟩⟩
theorem lw_p96 : lw_okq (⟨"GuestLevelsModel", "plainTell", "(II)V"⟩, 10) := ⟨⟨by decide +kernel, by decide +kernel⟩, List.mem_of_getElem? (i := 1265) (by decide +kernel), List.mem_of_getElem? (i := 1889) (by decide +kernel), List.mem_of_getElem? (i := 1890) (by decide +kernel)⟩
def lw_privs_7 : List (MethodName × Nat) := [(⟨"GuestLevelsModel", "plainTell", "(II)V"⟩, 10)]
theorem lw_r7 : ∀ q ∈ lw_privs_7, lw_okq q := List.forall_mem_cons.mpr ⟨lw_p96, fun _ h => absurd h List.not_mem_nil⟩
def lw_privs : List (MethodName × Nat) := lw_privs_1 ++ (lw_privs_2 ++ (lw_privs_3 ++ (lw_privs_4 ++ (lw_privs_5 ++ (lw_privs_6 ++ (lw_privs_7))))))
def lw_tbl : List Cond := k2_sels lw_privs ++ tables_1
theorem lw_privs_ok : ∀ q ∈ lw_privs, lw_okq q := by
  show ∀ q ∈ lw_privs_1 ++ (lw_privs_2 ++ (lw_privs_3 ++ (lw_privs_4 ++ (lw_privs_5 ++ (lw_privs_6 ++ (lw_privs_7)))))), lw_okq q
  exact List.forall_mem_append.mpr ⟨lw_r1, List.forall_mem_append.mpr ⟨lw_r2, List.forall_mem_append.mpr ⟨lw_r3, List.forall_mem_append.mpr ⟨lw_r4, List.forall_mem_append.mpr ⟨lw_r5, List.forall_mem_append.mpr ⟨lw_r6, lw_r7⟩⟩⟩⟩⟩⟩
/-- the streams that the claim lets the run draw from -/
abbrev lw_cs : List Choice := [Jvm.Choice.named "NaN.bits"]
theorem lw_bits : nanBits ∈ lw_cs := by first | decide | exact List.mem_cons_self | simp [lw_cs, nanBits]
def gw_tb : List Cond := lw_tbl.filter goodWord
theorem gw_mem {i : Nat} {c : Cond} (h : lw_tbl[i]? = some c) (hg : goodWord c = true) : c ∈ gw_tb := List.mem_filter.mpr ⟨List.mem_of_getElem? h, hg⟩
theorem gw_tb_lw : ∀ w ∈ gw_tb, w ∈ lw_tbl := fun _ h => (List.mem_filter.mp h).1
theorem gw_tb_good : ∀ w ∈ gw_tb, goodWord w = true := fun _ h => (List.mem_filter.mp h).2
theorem gw_among (ws : List Cond) (ps : List Nat) (hp : ws = ps.filterMap (fun i => lw_tbl[i]?)) (hg : ws.all goodWord = true) : ∀ w ∈ ws, w ∈ gw_tb := by
  intro w hw
  have h1 := List.all_eq_true.mp hg w hw
  rw [hp] at hw
  obtain ⟨i, -, hi⟩ := List.mem_filterMap.mp hw
  exact gw_mem hi h1
def RX0 : String := "GuestLevels$Guest"
def TX0 : u_T := fun k => match k with
  | 0 => ("GuestLevels$Guest", "program", "LGuestLevels$Program;", true)
  | 1 => ("GuestLevels$Guest", "since", "[I", true)
  | 2 => ("GuestLevels$Guest", "waiting", "I", false)
  | 3 => ("GuestLevels$Guest", "serving", "I", false)
  | 4 => ("GuestLevels$Guest", "opened", "Z", false)
  | 5 => ("GuestLevels$Guest", "scale", "I", false)
  | _ => ("GuestLevels$Guest", "offset", "I", false)
def tyX0 : Nat → FieldType := fun k => match k with
  | 0 => .object "GuestLevels$Program"
  | 1 => .array .int
  | 2 => .int
  | 3 => .int
  | 4 => .boolean
  | 5 => .int
  | _ => .int
theorem nmX0 : ∀ a, a < 7 → ∀ b, b < 7 → a ≠ b → (TX0 a).2.1 ≠ (TX0 b).2.1 := by decide +kernel
theorem tyX0_ok : ∀ k, k < 7 → parseFieldDescriptor (TX0 k).2.2.1 = some (tyX0 k) := by decide +kernel
theorem inX0 : ∀ w ∈ u_ws RX0 TX0 7, w ∈ gw_tb := gw_among _ [257, 259, 261, 263, 265, 267, 269] (by decide +kernel) (by decide +kernel)
def RX1 : String := "GuestLevels$Inner"
def TX1 : u_T := fun k => match k with
  | 0 => ("GuestLevels$Inner", "guest", "LGuestLevels$Guest;", true)
  | 1 => ("GuestLevels$Inner", "toInner", "LGuestLevels$Table;", true)
  | 2 => ("GuestLevels$Inner", "toOuter", "LGuestLevels$Table;", true)
  | 3 => ("GuestLevels$Inner", "trapPlace", "I", false)
  | 4 => ("GuestLevels$Inner", "trappedPage", "I", false)
  | _ => ("GuestLevels$Inner", "trappedPlace", "I", false)
def tyX1 : Nat → FieldType := fun k => match k with
  | 0 => .object "GuestLevels$Guest"
  | 1 => .object "GuestLevels$Table"
  | 2 => .object "GuestLevels$Table"
  | 3 => .int
  | 4 => .int
  | _ => .int
theorem nmX1 : ∀ a, a < 6 → ∀ b, b < 6 → a ≠ b → (TX1 a).2.1 ≠ (TX1 b).2.1 := by decide +kernel
theorem tyX1_ok : ∀ k, k < 6 → parseFieldDescriptor (TX1 k).2.2.1 = some (tyX1 k) := by decide +kernel
theorem inX1 : ∀ w ∈ u_ws RX1 TX1 6, w ∈ gw_tb := gw_among _ [394, 396, 398, 400, 402, 404] (by decide +kernel) (by decide +kernel)
def RX2 : String := "GuestLevels$Log"
def TX2 : u_T := fun k => match k with
  | 0 => ("GuestLevels$Log", "who", "[I", true)
  | 1 => ("GuestLevels$Log", "reason", "[I", true)
  | 2 => ("GuestLevels$Log", "detail", "[I", true)
  | 3 => ("GuestLevels$Log", "time", "[I", true)
  | 4 => ("GuestLevels$Log", "exitsOf", "[I", true)
  | 5 => ("GuestLevels$Log", "dealtReason", "I", false)
  | 6 => ("GuestLevels$Log", "dealtDetail", "I", false)
  | 7 => ("GuestLevels$Log", "heardValue", "[I", true)
  | 8 => ("GuestLevels$Log", "allHeard", "I", false)
  | 9 => ("GuestLevels$Log", "ownTraps", "I", false)
  | 10 => ("GuestLevels$Log", "seenBy", "[I", true)
  | 11 => ("GuestLevels$Log", "spentBy", "[I", true)
  | 12 => ("GuestLevels$Log", "takes", "[I", true)
  | 13 => ("GuestLevels$Log", "latestTake", "[I", true)
  | _ => ("GuestLevels$Log", "longestWait", "[I", true)
def tyX2 : Nat → FieldType := fun k => match k with
  | 0 => .array .int
  | 1 => .array .int
  | 2 => .array .int
  | 3 => .array .int
  | 4 => .array .int
  | 5 => .int
  | 6 => .int
  | 7 => .array .int
  | 8 => .int
  | 9 => .int
  | 10 => .array .int
  | 11 => .array .int
  | 12 => .array .int
  | 13 => .array .int
  | _ => .array .int
theorem nmX2 : ∀ a, a < 15 → ∀ b, b < 15 → a ≠ b → (TX2 a).2.1 ≠ (TX2 b).2.1 := by decide +kernel
theorem tyX2_ok : ∀ k, k < 15 → parseFieldDescriptor (TX2 k).2.2.1 = some (tyX2 k) := by decide +kernel
theorem inX2 : ∀ w ∈ u_ws RX2 TX2 15, w ∈ gw_tb := gw_among _ [335, 337, 339, 341, 343, 345, 347, 349, 351, 353, 355, 357, 359, 361, 363] (by decide +kernel) (by decide +kernel)
def RX3 : String := "GuestLevels$Machine"
def TX3 : u_T := fun k => match k with
  | 0 => ("GuestLevels$Machine", "memory", "LGuestLevels$Memory;", true)
  | 1 => ("GuestLevels$Machine", "folds", "LGuestLevels$Table;", true)
  | 2 => ("GuestLevels$Machine", "room", "I", false)
  | 3 => ("GuestLevels$Machine", "outer", "LGuestLevels$Guest;", true)
  | 4 => ("GuestLevels$Machine", "inners", "[LGuestLevels$Inner;", true)
  | 5 => ("GuestLevels$Machine", "handed", "I", false)
  | 6 => ("GuestLevels$Machine", "level", "I", false)
  | 7 => ("GuestLevels$Machine", "time", "I", false)
  | 8 => ("GuestLevels$Machine", "wants", "[I", true)
  | 9 => ("GuestLevels$Machine", "handlers", "[I", true)
  | 10 => ("GuestLevels$Machine", "slice", "I", false)
  | 11 => ("GuestLevels$Machine", "left", "I", false)
  | 12 => ("GuestLevels$Machine", "missedPage", "I", false)
  | 13 => ("GuestLevels$Machine", "timers", "LGuestLevels$Timers;", true)
  | _ => ("GuestLevels$Machine", "log", "LGuestLevels$Log;", true)
def tyX3 : Nat → FieldType := fun k => match k with
  | 0 => .object "GuestLevels$Memory"
  | 1 => .object "GuestLevels$Table"
  | 2 => .int
  | 3 => .object "GuestLevels$Guest"
  | 4 => .array (.object "GuestLevels$Inner")
  | 5 => .int
  | 6 => .int
  | 7 => .int
  | 8 => .array .int
  | 9 => .array .int
  | 10 => .int
  | 11 => .int
  | 12 => .int
  | 13 => .object "GuestLevels$Timers"
  | _ => .object "GuestLevels$Log"
theorem nmX3 : ∀ a, a < 15 → ∀ b, b < 15 → a ≠ b → (TX3 a).2.1 ≠ (TX3 b).2.1 := by decide +kernel
theorem tyX3_ok : ∀ k, k < 15 → parseFieldDescriptor (TX3 k).2.2.1 = some (tyX3 k) := by decide +kernel
theorem inX3 : ∀ w ∈ u_ws RX3 TX3 15, w ∈ gw_tb := gw_among _ [435, 437, 439, 441, 443, 445, 447, 449, 451, 453, 455, 457, 459, 461, 463] (by decide +kernel) (by decide +kernel)
def RX4 : String := "GuestLevels$Memory"
def TX4 : u_T := fun k => match k with
  | 0 => ("GuestLevels$Memory", "table", "LGuestLevels$Table;", true)
  | 1 => ("GuestLevels$Memory", "value", "[I", true)
  | 2 => ("GuestLevels$Memory", "stored", "[I", true)
  | 3 => ("GuestLevels$Memory", "copies", "I", false)
  | 4 => ("GuestLevels$Memory", "changes", "I", false)
  | _ => ("GuestLevels$Memory", "swaps", "I", false)
def tyX4 : Nat → FieldType := fun k => match k with
  | 0 => .object "GuestLevels$Table"
  | 1 => .array .int
  | 2 => .array .int
  | 3 => .int
  | 4 => .int
  | _ => .int
theorem nmX4 : ∀ a, a < 6 → ∀ b, b < 6 → a ≠ b → (TX4 a).2.1 ≠ (TX4 b).2.1 := by decide +kernel
theorem tyX4_ok : ∀ k, k < 6 → parseFieldDescriptor (TX4 k).2.2.1 = some (tyX4 k) := by decide +kernel
theorem inX4 : ∀ w ∈ u_ws RX4 TX4 6, w ∈ gw_tb := gw_among _ [182, 184, 186, 188, 190, 192] (by decide +kernel) (by decide +kernel)
def RX5 : String := "GuestLevels$Past"
def TX5 : u_T := fun k => match k with
  | 0 => ("GuestLevels$Past", "rows", "[LGuestLevels$Machine;", true)
  | 1 => ("GuestLevels$Past", "start", "I", false)
  | _ => ("GuestLevels$Past", "size", "I", false)
def tyX5 : Nat → FieldType := fun k => match k with
  | 0 => .array (.object "GuestLevels$Machine")
  | 1 => .int
  | _ => .int
theorem nmX5 : ∀ a, a < 3 → ∀ b, b < 3 → a ≠ b → (TX5 a).2.1 ≠ (TX5 b).2.1 := by decide +kernel
theorem tyX5_ok : ∀ k, k < 3 → parseFieldDescriptor (TX5 k).2.2.1 = some (tyX5 k) := by decide +kernel
theorem inX5 : ∀ w ∈ u_ws RX5 TX5 3, w ∈ gw_tb := gw_among _ [478, 480, 482] (by decide +kernel) (by decide +kernel)
def RX6 : String := "GuestLevels$Plain"
def TX6 : u_T := fun k => match k with
  | 0 => ("GuestLevels$Plain", "inner", "LGuestLevels$Inner;", true)
  | 1 => ("GuestLevels$Plain", "value", "[I", true)
  | 2 => ("GuestLevels$Plain", "traps", "I", false)
  | _ => ("GuestLevels$Plain", "latestHeard", "I", false)
def tyX6 : Nat → FieldType := fun k => match k with
  | 0 => .object "GuestLevels$Inner"
  | 1 => .array .int
  | 2 => .int
  | _ => .int
theorem nmX6 : ∀ a, a < 4 → ∀ b, b < 4 → a ≠ b → (TX6 a).2.1 ≠ (TX6 b).2.1 := by decide +kernel
theorem tyX6_ok : ∀ k, k < 4 → parseFieldDescriptor (TX6 k).2.2.1 = some (tyX6 k) := by decide +kernel
theorem inX6 : ∀ w ∈ u_ws RX6 TX6 4, w ∈ gw_tb := gw_among _ [500, 502, 504, 506] (by decide +kernel) (by decide +kernel)
def RX7 : String := "GuestLevels$Program"
def TX7 : u_T := fun k => match k with
  | 0 => ("GuestLevels$Program", "act", "[I", true)
  | 1 => ("GuestLevels$Program", "a", "[I", true)
  | 2 => ("GuestLevels$Program", "b", "[I", true)
  | 3 => ("GuestLevels$Program", "size", "I", false)
  | _ => ("GuestLevels$Program", "place", "I", false)
def tyX7 : Nat → FieldType := fun k => match k with
  | 0 => .array .int
  | 1 => .array .int
  | 2 => .array .int
  | 3 => .int
  | _ => .int
theorem nmX7 : ∀ a, a < 5 → ∀ b, b < 5 → a ≠ b → (TX7 a).2.1 ≠ (TX7 b).2.1 := by decide +kernel
theorem tyX7_ok : ∀ k, k < 5 → parseFieldDescriptor (TX7 k).2.2.1 = some (tyX7 k) := by decide +kernel
theorem inX7 : ∀ w ∈ u_ws RX7 TX7 5, w ∈ gw_tb := gw_among _ [228, 230, 232, 234, 236] (by decide +kernel) (by decide +kernel)
def RX8 : String := "GuestLevels$Table"
def TX8 : u_T := fun k => match k with
  | 0 => ("GuestLevels$Table", "to", "[I", true)
  | 1 => ("GuestLevels$Table", "rights", "[I", true)
  | 2 => ("GuestLevels$Table", "came", "[I", true)
  | _ => ("GuestLevels$Table", "comings", "I", false)
def tyX8 : Nat → FieldType := fun k => match k with
  | 0 => .array .int
  | 1 => .array .int
  | 2 => .array .int
  | _ => .int
theorem nmX8 : ∀ a, a < 4 → ∀ b, b < 4 → a ≠ b → (TX8 a).2.1 ≠ (TX8 b).2.1 := by decide +kernel
theorem tyX8_ok : ∀ k, k < 4 → parseFieldDescriptor (TX8 k).2.2.1 = some (tyX8 k) := by decide +kernel
theorem inX8 : ∀ w ∈ u_ws RX8 TX8 4, w ∈ gw_tb := gw_among _ [156, 158, 160, 162] (by decide +kernel) (by decide +kernel)
def RX9 : String := "GuestLevels$Timers"
def TX9 : u_T := fun k => match k with
  | 0 => ("GuestLevels$Timers", "level", "[I", true)
  | 1 => ("GuestLevels$Timers", "deadline", "[I", true)
  | 2 => ("GuestLevels$Timers", "vector", "[I", true)
  | _ => ("GuestLevels$Timers", "size", "I", false)
def tyX9 : Nat → FieldType := fun k => match k with
  | 0 => .array .int
  | 1 => .array .int
  | 2 => .array .int
  | _ => .int
theorem nmX9 : ∀ a, a < 4 → ∀ b, b < 4 → a ≠ b → (TX9 a).2.1 ≠ (TX9 b).2.1 := by decide +kernel
theorem tyX9_ok : ∀ k, k < 4 → parseFieldDescriptor (TX9 k).2.2.1 = some (tyX9 k) := by decide +kernel
theorem inX9 : ∀ w ∈ u_ws RX9 TX9 4, w ∈ gw_tb := gw_among _ [292, 294, 296, 298] (by decide +kernel) (by decide +kernel)
def RX10 : String := "GuestLevels"
def TX10 : u_T := fun k => match k with
  | 0 => ("GuestLevels", "now", "LGuestLevels$Machine;", true)
  | 1 => ("GuestLevels", "past", "LGuestLevels$Past;", true)
  | 2 => ("GuestLevels", "imaged", "LGuestLevels$Machine;", true)
  | 3 => ("GuestLevels", "imagedPast", "LGuestLevels$Past;", true)
  | 4 => ("GuestLevels", "trial", "LGuestLevels$Machine;", true)
  | _ => ("GuestLevels", "plain", "LGuestLevels$Plain;", true)
def tyX10 : Nat → FieldType := fun k => match k with
  | 0 => .object "GuestLevels$Machine"
  | 1 => .object "GuestLevels$Past"
  | 2 => .object "GuestLevels$Machine"
  | 3 => .object "GuestLevels$Past"
  | 4 => .object "GuestLevels$Machine"
  | _ => .object "GuestLevels$Plain"
theorem nmX10 : ∀ a, a < 6 → ∀ b, b < 6 → a ≠ b → (TX10 a).2.1 ≠ (TX10 b).2.1 := by decide +kernel
theorem tyX10_ok : ∀ k, k < 6 → parseFieldDescriptor (TX10 k).2.2.1 = some (tyX10 k) := by decide +kernel
theorem inX10 : ∀ w ∈ u_ws RX10 TX10 6, w ∈ gw_tb := gw_among _ [515, 517, 519, 521, 523, 525] (by decide +kernel) (by decide +kernel)
def RX11 : String := "GuestLevelsModel"
def TX11 : u_T := fun k => match k with
  | 0 => ("GuestLevelsModel", "a", "[I", true)
  | 1 => ("GuestLevelsModel", "image", "[I", true)
  | 2 => ("GuestLevelsModel", "aside", "[I", true)
  | 3 => ("GuestLevelsModel", "plain", "[I", true)
  | 4 => ("GuestLevelsModel", "firstTable", "[I", true)
  | 5 => ("GuestLevelsModel", "plainTrapped", "I", false)
  | 6 => ("GuestLevelsModel", "plainRead", "I", false)
  | 7 => ("GuestLevelsModel", "plainAt", "I", false)
  | 8 => ("GuestLevelsModel", "plainPage", "I", false)
  | _ => ("GuestLevelsModel", "plainPlace", "I", false)
def tyX11 : Nat → FieldType := fun k => match k with
  | 0 => .array .int
  | 1 => .array .int
  | 2 => .array .int
  | 3 => .array .int
  | 4 => .array .int
  | 5 => .int
  | 6 => .int
  | 7 => .int
  | 8 => .int
  | _ => .int
theorem nmX11 : ∀ a, a < 10 → ∀ b, b < 10 → a ≠ b → (TX11 a).2.1 ≠ (TX11 b).2.1 := by decide +kernel
theorem tyX11_ok : ∀ k, k < 10 → parseFieldDescriptor (TX11 k).2.2.1 = some (tyX11 k) := by decide +kernel
theorem inX11 : ∀ w ∈ u_ws RX11 TX11 10, w ∈ gw_tb := gw_among _ [1380, 1382, 1384, 1386, 1388, 1390, 1392, 1394, 1396, 1398] (by decide +kernel) (by decide +kernel)
abbrev vwCl : List vw_C := [(RX0, TX0, 7), (RX1, TX1, 6), (RX2, TX2, 15), (RX3, TX3, 15), (RX4, TX4, 6), (RX5, TX5, 3), (RX6, TX6, 4), (RX7, TX7, 5), (RX8, TX8, 4), (RX9, TX9, 4), (RX10, TX10, 6), (RX11, TX11, 10)]
end
section
/-! ===== the pure machine: refs are numbers (0: null), ints lie at (object, slot) ===== -/
abbrev gw_S : Type := (Nat → Nat → Nat) × (Nat → Nat) × (Nat → Nat) × Nat
abbrev gw_M : Type := Nat → Nat → Int32
abbrev gw_Sig : Type := MethodName × ByteArray × Nat × Option FieldType
abbrev gw_E : Type := Nat × Nat × Instr × List Nat × List Int32 × List gw_Sig
abbrev gw_C : Type := Nat × Heap × va_G × ClassId × ClassId × ClassId × Nat × Nat × (Nat → Int32)
def gw_rf (S : gw_S) (a k : Nat) : Nat := S.1 a k
def gw_kd (S : gw_S) (a : Nat) : Nat := S.2.1 a
def gw_ln (S : gw_S) (a : Nat) : Nat := S.2.2.1 a
def gw_nn (S : gw_S) : Nat := S.2.2.2
def gw_up (μ : gw_M) (a k : Nat) (v : Int32) : gw_M := fun b j => if b = a ∧ j = k then v else μ b j
def gw_row (μ : gw_M) (a : Nat) (f : Nat → Int32) : gw_M := fun b j => if b = a then f j else μ b j
def gw_sr (S : gw_S) (a k r : Nat) : gw_S := (fun b j => if b = a ∧ j = k then r else S.1 b j, S.2)
def gw_new (S : gw_S) (kd ln : Nat) : gw_S := (fun b j => if b = S.2.2.2 + 1 then 0 else S.1 b j, fun b => if b = S.2.2.2 + 1 then kd else S.2.1 b, fun b => if b = S.2.2.2 + 1 then ln else S.2.2.1 b, S.2.2.2 + 1)
def gw_nth : List Value → Nat → Value
  | [], _ => .retAddr 0
  | v :: _, 0 => v
  | _ :: l, n + 1 => gw_nth l n
def gw_set : List Value → Nat → Value → List Value
  | [], _, _ => []
  | _ :: l, 0, w => w :: l
  | v :: l, n + 1, w => v :: gw_set l n w
def gw_v (x : gw_C) : Value → Value
  | .ref 0 => .null
  | .ref (r + 1) => .ref (x.1 + (r + 1))
  | .retAddr _ => .ref x.2.2.2.2.2.2.1
  | v => v
def gw_ty (c k : Nat) : FieldType := match c with
  | 0 => tyX0 k
  | 1 => tyX1 k
  | 2 => tyX2 k
  | 3 => tyX3 k
  | 4 => tyX4 k
  | 5 => tyX5 k
  | 6 => tyX6 k
  | 7 => tyX7 k
  | 8 => tyX8 k
  | 9 => tyX9 k
  | 10 => tyX10 k
  | _ => tyX11 k
def gw_nf (c : Nat) : Nat := match c with
  | 0 => 7
  | 1 => 6
  | 2 => 15
  | 3 => 15
  | 4 => 6
  | 5 => 3
  | 6 => 4
  | 7 => 5
  | 8 => 4
  | 9 => 4
  | 10 => 6
  | _ => 10
def gw_ft (t : FieldType) : Nat := match t with
  | .int => 0
  | .boolean => 2
  | _ => 1
def gw_fld (x : gw_C) (S : gw_S) (μ : gw_M) (a c k : Nat) : Value := if gw_ft (gw_ty c k) = 1 then gw_v x (.ref (gw_rf S a k)) else .int (μ a k)
def gw_cell (x : gw_C) (S : gw_S) (μ : gw_M) (a : Nat) (H : Heap) : Prop :=
  (gw_kd S a = 12 → H[x.1 + a]? = some (arrV x.2.2.2.1 (gw_ln S a) (fun j => .int (μ a j)))) ∧
  (gw_kd S a = 13 → H[x.1 + a]? = some (arrV x.2.2.2.2.1 (gw_ln S a) (fun j => gw_v x (.ref (gw_rf S a j))))) ∧
  (gw_kd S a = 14 → H[x.1 + a]? = some (arrV x.2.2.2.2.2.1 (gw_ln S a) (fun j => gw_v x (.ref (gw_rf S a j))))) ∧
  (∀ q, vwCl[gw_kd S a]? = some q → t_OB (x.1 + a) (x.2.2.1.1 (gw_kd S a)) q.2.2 (x.2.2.1.2 (gw_kd S a)) H (gw_fld x S μ a (gw_kd S a)))
abbrev gw_A (x : gw_C) : Nat → Prop := fun q => x.1 < q
def gw_wf (S : gw_S) : Prop := ∀ a, gw_kd S a < 15 → 1 ≤ a ∧ a ≤ gw_nn S
def gw_rep (x : gw_C) (S : gw_S) (μ : gw_M) (H : Heap) (locs : List Loc) : Prop :=
  gw_wf S ∧ (∀ a, 1 ≤ a → a ≤ gw_nn S → gw_cell x S μ a H) ∧ H.size = x.1 + 1 + gw_nn S ∧ x.2.1.size = x.1 + 1 ∧ (∀ q : Nat, q < x.1 + 1 → H[q]? = x.2.1[q]?) ∧ ∀ q ∈ locs, x.1 < q.base
abbrev gw_tys (x : gw_C) : List (ClassId × FieldType) := [(x.2.2.2.1, .int), (x.2.2.2.2.1, .object RX1), (x.2.2.2.2.2.1, .object RX3)]
def gw_isn : Cond → Bool
  | .methodLinkNest _ _ _ _ => true
  | .arrayOver (.object _) => true
  | _ => false
def gw_nest : List Cond := lw_tbl.filter gw_isn
def gw_kk (x : gw_C) (U : State) : Prop := va_K x.2.2.1 vwCl (gw_tys x) U ∧ va_X x.2.2.2.2.2.2.1 x.2.2.2.2.2.2.2.1 x.2.2.2.2.2.2.2.2 U x.2.1 ∧ x.2.2.2.2.2.2.1 < x.2.1.size ∧ ∀ w ∈ gw_nest, va_Nw w U
def gw_wd (x : gw_C) (S : gw_S) (μ : gw_M) (U : State) : Prop := gw_rep x S μ U.heap [] ∧ gw_kk x U
def gw_has (x : gw_C) (ls : Array Slot) (nL : Nat) (lv : List Value) : Prop :=
  ls.size = nL ∧ lv_wf ls ∧ lv.length = nL ∧ (∀ i, (gw_nth lv i).category = 1) ∧ ∀ i, gw_nth lv i ≠ .retAddr 0 → ls[i]? = some (.val (gw_v x (gw_nth lv i)))
def gw_rm (d mc ms : Nat) : Room := { frames := d, cells := mc, slots := ms, locals := 40 * d }
def gw_wsg (g : gw_Sig) : List Cond := Cond.code g.1 g.2.1 g.2.2.1 g.2.2.2 :: gw_tb
def gw_qc (x : gw_C) (Q : Option Value → gw_S → gw_M → Prop) : Array Value → State → Outcome → State → Prop := fun _ _ oc t => ∃ (r : Option Value) (S : gw_S) (μ : gw_M), oc = .returned (r.map (gw_v x)) ∧ Q r S μ ∧ gw_wd x S μ t
/-- the contract of a method, in the pure machine's words -/
def gw_ok (l : Launch) (x : gw_C) (d : Nat) (g : gw_Sig) (mc ms : Nat) (as : List Value) (S : gw_S) (μ : gw_M) (Q : Option Value → gw_S → gw_M → Prop) : Prop :=
  Cond.code g.1 g.2.1 g.2.2.1 g.2.2.2 ∈ gw_tb ∧ Met l g.1 (gw_wsg g) (gw_rm d mc ms) (va_Pc (as.map (gw_v x)) (gw_wd x S μ)) (gw_qc x Q) mc ms (gw_A x)
/-! ===== one instruction ===== -/
abbrev gw_Kt : Type := List Value → List Value → gw_S → gw_M → Nat → Nat → Prop
abbrev gw_Ok : Type := gw_Sig → Nat → Nat → List Value → gw_S → gw_M → (Option Value → gw_S → gw_M → Prop) → Prop
def gw_rfk (v : Value) (f : Value → Prop) : Prop := match v with
  | .ref r => f (.ref r)
  | .retAddr 1 => f (.retAddr 1)
  | _ => False
def gw_ink (v : Value) (f : Int32 → Prop) : Prop := match v with
  | .int r => f r
  | _ => False
def gw_c1 (c : ClassFile.Cond) (a : Int32) : Prop := match c with
  | .eq => a = 0
  | .ne => ¬ a = 0
  | .lt => a < 0
  | .ge => 0 ≤ a
  | .gt => 0 < a
  | .le => a ≤ 0
def gw_c2 (c : ClassFile.Cond) (a b : Int32) : Prop := match c with
  | .eq => a = b
  | .ne => ¬ a = b
  | .lt => a < b
  | .ge => b ≤ a
  | .gt => b < a
  | .le => a ≤ b
def gw_in (i : Int32) (n : Nat) : Prop := 0 ≤ i ∧ i.toNatClampNeg < n
def gw_r8 : List Value → Nat → Bool
  | [], _ => true
  | .int _ :: l, n + 1 => gw_r8 l n
  | .ref _ :: l, n + 1 => gw_r8 l n
  | .retAddr _ :: l, n + 1 => gw_r8 l n
  | _, _ => false
def gw_sw (K : Nat → Prop) (dflt : Nat) : List Nat → Int32 → Int32 → Prop
  | [], _, _ => K dflt
  | t :: ts, lo, v => (v = lo → K t) ∧ (¬ v = lo → gw_sw K dflt ts (lo + 1) v)
def gw_cpy (μ : gw_M) (a b : Nat) (sp dp n : Nat) : gw_M := gw_row μ b (va_cpy (μ a) (μ b) sp dp n)
def gw_step (ok : gw_Ok) (x : gw_C) (mc ms : Nat) (Q : Option Value → gw_S → gw_M → Prop) (K : Nat → gw_Kt) (i : Instr) (an : List Nat) (iv : List Int32) (sg : List gw_Sig) (ls st : List Value) (S : gw_S) (μ : gw_M) (cc ss : Nat) (N : gw_Kt) : Prop :=
  match i with
  | .aload_n _ => match an with
    | [k] => gw_rfk (gw_nth ls k) (fun v => N ls (v :: st) S μ cc ss)
    | _ => False
  | .aload _ => match an with
    | [k] => gw_rfk (gw_nth ls k) (fun v => N ls (v :: st) S μ cc ss)
    | _ => False
  | .iload_n _ => match an with
    | [k] => gw_ink (gw_nth ls k) (fun v => N ls (.int v :: st) S μ cc ss)
    | _ => False
  | .iload _ => match an with
    | [k] => gw_ink (gw_nth ls k) (fun v => N ls (.int v :: st) S μ cc ss)
    | _ => False
  | .astore_n _ => match an, st with
    | [k], .ref r :: t => N (gw_set ls k (.ref r)) t S μ cc ss
    | _, _ => False
  | .astore _ => match an, st with
    | [k], .ref r :: t => N (gw_set ls k (.ref r)) t S μ cc ss
    | _, _ => False
  | .istore_n _ => match an, st with
    | [k], .int r :: t => N (gw_set ls k (.int r)) t S μ cc ss
    | _, _ => False
  | .istore _ => match an, st with
    | [k], .int r :: t => N (gw_set ls k (.int r)) t S μ cc ss
    | _, _ => False
  | .iinc _ _ => match an, iv with
    | [k], [w] => gw_ink (gw_nth ls k) (fun v => N (gw_set ls k (.int (v + w))) st S μ cc ss)
    | _, _ => False
  | .iconst _ => match iv with
    | [w] => N ls (.int w :: st) S μ cc ss
    | _ => False
  | .bipush _ => match iv with
    | [w] => N ls (.int w :: st) S μ cc ss
    | _ => False
  | .sipush _ => match iv with
    | [w] => N ls (.int w :: st) S μ cc ss
    | _ => False
  | .ldc _ => match iv with
    | [w] => N ls (.int w :: st) S μ cc ss
    | _ => False
  | .ldc_w _ => match iv with
    | [w] => N ls (.int w :: st) S μ cc ss
    | _ => False
  | .iadd => match st with
    | .int b :: .int a :: t => N ls (.int (a + b) :: t) S μ cc ss
    | _ => False
  | .isub => match st with
    | .int b :: .int a :: t => N ls (.int (a - b) :: t) S μ cc ss
    | _ => False
  | .imul => match st with
    | .int b :: .int a :: t => N ls (.int (a * b) :: t) S μ cc ss
    | _ => False
  | .idiv => match st with
    | .int b :: .int a :: t => ¬ b = 0 ∧ N ls (.int (a / b) :: t) S μ cc ss
    | _ => False
  | .irem => match st with
    | .int b :: .int a :: t => ¬ b = 0 ∧ N ls (.int (a - a / b * b) :: t) S μ cc ss
    | _ => False
  | .iand => match st with
    | .int b :: .int a :: t => N ls (.int (a &&& b) :: t) S μ cc ss
    | _ => False
  | .ior => match st with
    | .int b :: .int a :: t => N ls (.int (a ||| b) :: t) S μ cc ss
    | _ => False
  | .ixor => match st with
    | .int b :: .int a :: t => N ls (.int (a ^^^ b) :: t) S μ cc ss
    | _ => False
  | .ishl => match st with
    | .int b :: .int a :: t => N ls (.int (a <<< (b &&& 31)) :: t) S μ cc ss
    | _ => False
  | .ishr => match st with
    | .int b :: .int a :: t => N ls (.int (a >>> (b &&& 31)) :: t) S μ cc ss
    | _ => False
  | .iushr => match st with
    | .int b :: .int a :: t => N ls (.int (a.toUInt32 >>> (b.toUInt32 &&& Int32.toUInt32 31)).toInt32 :: t) S μ cc ss
    | _ => False
  | .dup => match st with
    | .int a :: t => N ls (.int a :: .int a :: t) S μ cc ss
    | .ref a :: t => N ls (.ref a :: .ref a :: t) S μ cc ss
    | _ => False
  | .dup2 => match st with
    | .int b :: .ref a :: t => N ls (.int b :: .ref a :: .int b :: .ref a :: t) S μ cc ss
    | _ => False
  | .pop => match st with
    | .int _ :: t => N ls t S μ cc ss
    | .ref _ :: t => N ls t S μ cc ss
    | _ => False
  | .lcmp => match st with
    | .long b :: .long a :: t => N ls (.int (lg_cmp a b) :: t) S μ cc ss
    | _ => False
  | .ifCond c _ => match an, st with
    | [k], .int a :: t => (gw_c1 c a → K k ls t S μ cc ss) ∧ (¬ gw_c1 c a → N ls t S μ cc ss)
    | _, _ => False
  | .if_icmp c _ => match an, st with
    | [k], .int b :: .int a :: t => (gw_c2 c a b → K k ls t S μ cc ss) ∧ (¬ gw_c2 c a b → N ls t S μ cc ss)
    | _, _ => False
  | .ifnull _ => match an, st with
    | [k], .ref a :: t => (a = 0 → K k ls t S μ cc ss) ∧ (¬ a = 0 → N ls t S μ cc ss)
    | _, _ => False
  | .ifnonnull _ => match an, st with
    | [k], .ref a :: t => (¬ a = 0 → K k ls t S μ cc ss) ∧ (a = 0 → N ls t S μ cc ss)
    | _, _ => False
  | .goto _ => match an with
    | [k] => K k ls st S μ cc ss
    | _ => False
  | .tableswitch _ _ _ _ => match an, iv, st with
    | d :: ts, [lo], .int a :: t => gw_sw (fun k => K k ls t S μ cc ss) d ts lo a
    | _, _, _ => False
  | .getfield _ => match an, st with
    | [ci, k, 1, _], .ref a :: t => gw_kd S a = ci ∧ N ls (.ref (gw_rf S a k) :: t) S μ cc ss
    | [ci, k, _, _], .ref a :: t => gw_kd S a = ci ∧ N ls (.int (μ a k) :: t) S μ cc ss
    | _, _ => False
  | .putfield _ => match an, st with
    | [ci, k, 1, _], .ref r :: .ref a :: t => gw_kd S a = ci ∧ ¬ r = 0 ∧ N ls t (gw_sr S a k r) μ cc ss
    | [ci, k, 2, _], .int v :: .ref a :: t => gw_kd S a = ci ∧ (v = 0 ∨ v = 1) ∧ N ls t S (gw_up μ a k v) cc ss
    | [ci, k, 0, _], .int v :: .ref a :: t => gw_kd S a = ci ∧ N ls t S (gw_up μ a k v) cc ss
    | _, _ => False
  | .iaload => match st with
    | .int j :: .ref a :: t => gw_kd S a = 12 ∧ gw_in j (gw_ln S a) ∧ N ls (.int (μ a j.toNatClampNeg) :: t) S μ cc ss
    | .int j :: .retAddr 1 :: t => gw_in j x.2.2.2.2.2.2.2.1 ∧ N ls (.int (x.2.2.2.2.2.2.2.2 j.toNatClampNeg) :: t) S μ cc ss
    | _ => False
  | .iastore => match st with
    | .int v :: .int j :: .ref a :: t => gw_kd S a = 12 ∧ gw_in j (gw_ln S a) ∧ N ls t S (gw_up μ a j.toNatClampNeg v) cc ss
    | _ => False
  | .aaload => match st with
    | .int j :: .ref a :: t => (gw_kd S a = 13 ∨ gw_kd S a = 14) ∧ gw_in j (gw_ln S a) ∧ N ls (.ref (gw_rf S a j.toNatClampNeg) :: t) S μ cc ss
    | _ => False
  | .aastore => match st with
    | .ref r :: .int j :: .ref a :: t => ((gw_kd S a = 13 ∧ gw_kd S r = 1) ∨ (gw_kd S a = 14 ∧ gw_kd S r = 3)) ∧ gw_in j (gw_ln S a) ∧ N ls t (gw_sr S a j.toNatClampNeg r) μ cc ss
    | _ => False
  | .arraylength => match st with
    | .ref a :: t => (gw_kd S a = 12 ∨ gw_kd S a = 13 ∨ gw_kd S a = 14) ∧ N ls (.int (Int32.ofNat (gw_ln S a)) :: t) S μ cc ss
    | .retAddr 1 :: t => N ls (.int (Int32.ofNat x.2.2.2.2.2.2.2.1) :: t) S μ cc ss
    | _ => False
  | .newarray _ => match st with
    | .int n :: t => gw_in n 100000 ∧ cc + 1 ≤ mc ∧ ss + n.toNatClampNeg ≤ ms ∧ N ls (.ref (gw_nn S + 1) :: t) (gw_new S 12 n.toNatClampNeg) (gw_row μ (gw_nn S + 1) (fun _ => 0)) (cc + 1) (ss + n.toNatClampNeg)
    | _ => False
  | .anewarray _ => match an, st with
    | kd :: _, .int n :: t => gw_in n 100000 ∧ cc + 1 ≤ mc ∧ ss + n.toNatClampNeg ≤ ms ∧ N ls (.ref (gw_nn S + 1) :: t) (gw_new S kd n.toNatClampNeg) (gw_row μ (gw_nn S + 1) (fun _ => 0)) (cc + 1) (ss + n.toNatClampNeg)
    | _, _ => False
  | .new _ => match an with
    | ci :: _ => cc + 1 ≤ mc ∧ ss + gw_nf ci ≤ ms ∧ N ls (.ref (gw_nn S + 1) :: st) (gw_new S ci 0) (gw_row μ (gw_nn S + 1) (fun _ => 0)) (cc + 1) (ss + gw_nf ci)
    | _ => False
  | .invokevirtual _ => match an, sg with
    | n :: ci :: _, [g] => gw_rfk (gw_nth st n) (fun v => match v with
        | .ref a => gw_kd S a = ci ∧ gw_r8 (st.drop (n + 1)) 8 = true ∧ ∃ mc' ms', cc + mc' ≤ mc ∧ ss + ms' ≤ ms ∧ ok g mc' ms' (.ref a :: (st.take n).reverse) S μ (fun r S' μ' => N ls (r.toList ++ st.drop (n + 1)) S' μ' (cc + mc') (ss + ms'))
        | _ => False)
    | _, _ => False
  | .invokestatic _ => match an, sg with
    | [n, 0, _, _, _, _], [g] => gw_r8 (st.drop n) 8 = true ∧ n ≤ st.length ∧ ∃ mc' ms', cc + mc' ≤ mc ∧ ss + ms' ≤ ms ∧ ok g mc' ms' (st.take n).reverse S μ (fun r S' μ' => N ls (r.toList ++ st.drop n) S' μ' (cc + mc') (ss + ms'))
    | [n, 1, _, _, _, _], [g] => gw_r8 (st.drop n) 8 = true ∧ n ≤ st.length ∧ ∃ mc' ms', cc + mc' ≤ mc ∧ ss + ms' ≤ ms ∧ ok g mc' ms' (st.take n).reverse S μ (fun r S' μ' => N ls (r.toList ++ st.drop n) S' μ' (cc + mc') (ss + ms'))
    | [5, 2, _, _, _, _], [] => match st with
      | [.int n, .int dp, .ref b, .int sp, .ref a] => gw_kd S a = 12 ∧ gw_kd S b = 12 ∧ 0 ≤ sp ∧ 0 ≤ dp ∧ 0 ≤ n ∧ sp.toNatClampNeg + n.toNatClampNeg ≤ gw_ln S a ∧ dp.toNatClampNeg + n.toNatClampNeg ≤ gw_ln S b ∧ N ls [] S (gw_cpy μ a b sp.toNatClampNeg dp.toNatClampNeg n.toNatClampNeg) cc ss
      | _ => False
    | _, _ => False
  | .invokespecial _ => match an, sg with
    | [0, 2, _, _, _, _], [] => match st with
      | [.ref a] => ¬ a = 0 ∧ N ls [] S μ cc ss
      | _ => False
    | n :: _ :: _, [g] => gw_rfk (gw_nth st n) (fun v => match v with
        | .ref a => ¬ a = 0 ∧ gw_r8 (st.drop (n + 1)) 8 = true ∧ ∃ mc' ms', cc + mc' ≤ mc ∧ ss + ms' ≤ ms ∧ ok g mc' ms' (.ref a :: (st.take n).reverse) S μ (fun r S' μ' => N ls (r.toList ++ st.drop (n + 1)) S' μ' (cc + mc') (ss + ms'))
        | _ => False)
    | _, _ => False
  | .ireturn => match an, st with
    | [0], [.int v] => cc ≤ mc ∧ ss ≤ ms ∧ Q (some (.int v)) S μ
    | [1], [.int v] => (v = 0 ∨ v = 1) ∧ cc ≤ mc ∧ ss ≤ ms ∧ Q (some (.int v)) S μ
    | _, _ => False
  | .lreturn => match st with
    | [.long v] => cc ≤ mc ∧ ss ≤ ms ∧ Q (some (.long v)) S μ
    | _ => False
  | .areturn => match st with
    | [.ref v] => cc ≤ mc ∧ ss ≤ ms ∧ Q (some (.ref v)) S μ
    | _ => False
  | .return_ => match st with
    | [] => cc ≤ mc ∧ ss ≤ ms ∧ Q none S μ
    | _ => False
  | _ => False
def gw_blk (ok : gw_Ok) (x : gw_C) (mc ms : Nat) (Q : Option Value → gw_S → gw_M → Prop) (K : Nat → gw_Kt) : List gw_E → Nat → gw_Kt
  | [], pc, ls, st, S, μ, cc, ss => K pc ls st S μ cc ss
  | e :: es, _, ls, st, S, μ, cc, ss => gw_step ok x mc ms Q K e.2.2.1 e.2.2.2.1 e.2.2.2.2.1 e.2.2.2.2.2 ls st S μ cc ss (gw_blk ok x mc ms Q K es (e.1 + e.2.1))
def gw_find : List (Nat × List gw_E) → Nat → List gw_E
  | [], _ => []
  | b :: bs, pc => if b.1 = pc then b.2 else gw_find bs pc
/-! ===== what the tables must say of an instruction ===== -/
def gw_tab (k : Nat) : List Cond := match k with
  | 0 => k2_sels lw_privs
  | 1 => tables_1_1
  | 2 => tables_1_2
  | 3 => tables_1_3
  | 4 => tables_1_4
  | 5 => tables_1_5
  | 6 => tables_1_6
  | 7 => tables_1_7
  | 8 => tables_1_8
  | _ => tables_1_9
def gw_lkp (i : Nat) : Option Cond := (gw_tab (i / 1000))[i % 1000]?
def gw_is (i : Nat) (c : Cond) : Bool := decide (gw_lkp i = some c) && goodWord c
def gw_in1 (i : Nat) (c : Cond) : Bool := decide (gw_lkp i = some c) && gw_isn c
def gw_call (g : gw_Sig) (n : Nat) : Bool := decide (g.1.cls ≠ "java/lang/invoke/MethodHandle") && decide (g.1.cls ≠ "java/lang/invoke/VarHandle") && decide ((parseMethodDescriptor g.1.desc).map (fun d => d.parameters.length) = some n) && decide (g.2.2.1 ≤ 20)
def gw_lk (own : String) (nL : Nat) (rt : Option FieldType) (pc : Nat) (i : Instr) (an : List Nat) (iv : List Int32) (sg : List gw_Sig) : Bool := match i with
  | .aload_n k => decide (an = [k.val])
  | .aload k => decide (an = [k])
  | .iload_n k => decide (an = [k.val])
  | .iload k => decide (an = [k])
  | .astore_n k => decide (an = [k.val]) && decide (k.val < nL)
  | .astore k => decide (an = [k]) && decide (k < nL)
  | .istore_n k => decide (an = [k.val]) && decide (k.val < nL)
  | .istore k => decide (an = [k]) && decide (k < nL)
  | .iinc k n => decide (an = [k]) && decide (k < nL) && decide (iv = [Int32.ofInt n])
  | .iconst n => decide (iv = [Int32.ofInt n])
  | .bipush n => decide (iv = [(Int8.ofInt n).toInt32])
  | .sipush n => decide (iv = [(Int16.ofInt n).toInt32])
  | .ldc k => match an, iv with
    | [ti], [w] => gw_is ti (.constant own k w)
    | _, _ => false
  | .ldc_w k => match an, iv with
    | [ti], [w] => gw_is ti (.constant own k w)
    | _, _ => false
  | .ifCond _ off => match an with
    | [t] => decide ((pc : Int) + off = (t : Int))
    | _ => false
  | .if_icmp _ off => match an with
    | [t] => decide ((pc : Int) + off = (t : Int))
    | _ => false
  | .ifnull off => match an with
    | [t] => decide ((pc : Int) + off = (t : Int))
    | _ => false
  | .ifnonnull off => match an with
    | [t] => decide ((pc : Int) + off = (t : Int))
    | _ => false
  | .goto off => match an with
    | [t] => decide ((pc : Int) + off = (t : Int))
    | _ => false
  | .tableswitch dflt lo hi offs => match an, iv with
    | d :: ts, [w] => decide ((pc : Int) + dflt = (d : Int)) && decide (w.toInt = lo) && decide (offs.toList.map (fun o => (pc : Int) + o) = ts.map (fun t : Nat => (t : Int))) && decide (hi = lo + ts.length - 1) && decide (lo + ts.length < 1000) && decide (-1000 < lo)
    | _, _ => false
  | .getfield k => match an with
    | [ci, f, t, ti] => match vwCl[ci]? with
      | some q => decide (f < q.2.2) && decide (t = gw_ft (gw_ty ci f)) && gw_is ti (.fieldLink own k (q.2.1 f).1 (q.2.1 f).2.1 (q.2.1 f).2.2.1)
      | none => false
    | _ => false
  | .putfield k => match an with
    | [ci, f, t, ti] => match vwCl[ci]? with
      | some q => decide (f < q.2.2) && decide (t = gw_ft (gw_ty ci f)) && decide ((q.2.1 f).2.2.2 = decide (t = 1)) && decide (t = 1 → (q.2.1 f).1 = own) && gw_is ti (.fieldLink own k (q.2.1 f).1 (q.2.1 f).2.1 (q.2.1 f).2.2.1)
      | none => false
    | _ => false
  | .newarray ty => decide (ty = .int)
  | .anewarray k => match an with
    | [kd, t1, t2] => (decide (kd = 13) && gw_is t1 (.classLink own k RX1) && gw_in1 t2 (.arrayOver (.object RX1))) || (decide (kd = 14) && gw_is t1 (.classLink own k RX3) && gw_in1 t2 (.arrayOver (.object RX3)))
    | _ => false
  | .new k => match an with
    | [ci, t1, t2, t3] => match vwCl[ci]? with
      | some q => gw_is t1 (.classLink own k q.1) && gw_is t2 (.instantiable q.1 q.2.2) && gw_is t3 (.initialized q.1)
      | none => false
    | _ => false
  | .invokevirtual k => match an, sg with
    | [n, ci, t1, t2, t3, t4], [g] => match vwCl[ci]? with
      | some q => decide (g.1.cls = q.1) && gw_call g n && gw_is t1 (.methodLink own k g.1) && gw_is t2 (.instanceMethod g.1) && gw_is t3 (.selects q.1 g.1 g.1) && gw_is t4 (.initialized q.1)
      | none => false
    | _, _ => false
  | .invokestatic k => match an, sg with
    | [n, 0, t1, t2, t3, _], [g] => gw_call g n && gw_is t1 (.methodLink own k g.1) && gw_is t2 (.static g.1) && gw_is t3 (.initialized g.1.cls)
    | [n, 1, t1, t2, t3, _], [g] => gw_call g n && gw_in1 t1 (.methodLinkNest own k g.1 RX10) && gw_is t2 (.static g.1) && gw_is t3 (.initialized g.1.cls)
    | [5, 2, t1, t2, t3, t4], [] => gw_is t1 (.methodLink own k arraycopyName) && gw_is t2 (.native arraycopyName) && gw_is t3 (.static arraycopyName) && gw_is t4 (.initialized "java/lang/System")
    | _, _ => false
  | .invokespecial k => match an, sg with
    | [0, 2, t1, t2, t3, _], [] => gw_is t1 (.methodLink own k objectInit) && gw_is t2 (.instanceMethod objectInit) && gw_is t3 (.code objectInit ⟨#[0xb1]⟩ 1 none)
    | [n, 0, t1, t2, t3, _], [g] => gw_call g n && decide (g.1.name = "<init>") && decide (g.2.2.2 = none) && gw_is t1 (.methodLink own k g.1) && gw_is t2 (.instanceMethod g.1) && gw_is t3 (.initialized g.1.cls)
    | [n, 1, t1, t2, t3, _], [g] => gw_call g n && decide (g.1.name = "<init>") && decide (g.2.2.2 = none) && gw_in1 t1 (.methodLinkNest own k g.1 RX10) && gw_is t2 (.instanceMethod g.1) && gw_is t3 (.initialized g.1.cls)
    | _, _ => false
  | .ireturn => decide ((an = [0] ∧ rt = some .int) ∨ (an = [1] ∧ rt = some .boolean))
  | .lreturn => decide (rt = some .long)
  | .areturn => match rt with
    | some (.object _) => true
    | _ => false
  | .return_ => decide (rt = none)
  | _ => true
def gw_ini (nm : String) (i : Instr) (an : List Nat) : Bool := match i with
  | .putfield _ => decide (an.getD 2 0 = 1 → nm = "<init>")
  | _ => true
/-! ===== the pure machine is the machine ===== -/
theorem gw_cls {ci : Nat} {q : vw_C} (h : vwCl[ci]? = some q) : (∀ w ∈ u_ws q.1 q.2.1 q.2.2, w ∈ gw_tb) ∧ (∀ k, k < q.2.2 → parseFieldDescriptor (q.2.1 k).2.2.1 = some (gw_ty ci k)) ∧ (∀ a, a < q.2.2 → ∀ b, b < q.2.2 → a ≠ b → (q.2.1 a).2.1 ≠ (q.2.1 b).2.1) ∧ q.2.2 = gw_nf ci ∧ ci < 12 := by
  match ci, h with
  | 0, h => cases h; exact ⟨inX0, tyX0_ok, nmX0, rfl, by decide⟩
  | 1, h => cases h; exact ⟨inX1, tyX1_ok, nmX1, rfl, by decide⟩
  | 2, h => cases h; exact ⟨inX2, tyX2_ok, nmX2, rfl, by decide⟩
  | 3, h => cases h; exact ⟨inX3, tyX3_ok, nmX3, rfl, by decide⟩
  | 4, h => cases h; exact ⟨inX4, tyX4_ok, nmX4, rfl, by decide⟩
  | 5, h => cases h; exact ⟨inX5, tyX5_ok, nmX5, rfl, by decide⟩
  | 6, h => cases h; exact ⟨inX6, tyX6_ok, nmX6, rfl, by decide⟩
  | 7, h => cases h; exact ⟨inX7, tyX7_ok, nmX7, rfl, by decide⟩
  | 8, h => cases h; exact ⟨inX8, tyX8_ok, nmX8, rfl, by decide⟩
  | 9, h => cases h; exact ⟨inX9, tyX9_ok, nmX9, rfl, by decide⟩
  | 10, h => cases h; exact ⟨inX10, tyX10_ok, nmX10, rfl, by decide⟩
  | 11, h => cases h; exact ⟨inX11, tyX11_ok, nmX11, rfl, by decide⟩
  | n + 12, h => simp [vwCl] at h
theorem gw_cls_some {ci : Nat} (h : ci < 12) : ∃ q, vwCl[ci]? = some q := by
  have : ci < vwCl.length := h
  exact ⟨vwCl[ci], List.getElem?_eq_getElem this⟩
theorem gw_tab_in (k : Nat) : ∀ w ∈ gw_tab k, w ∈ lw_tbl := by
  intro w hw
  match k, hw with
  | 0, h => exact List.mem_append_left _ h
  | 1, h => exact List.mem_append_right _ (List.mem_append_left _ h)
  | 2, h => exact List.mem_append_right _ (List.mem_append_right _ (List.mem_append_left _ h))
  | 3, h => exact List.mem_append_right _ (List.mem_append_right _ (List.mem_append_right _ (List.mem_append_left _ h)))
  | 4, h => exact List.mem_append_right _ (List.mem_append_right _ (List.mem_append_right _ (List.mem_append_right _ (List.mem_append_left _ h))))
  | 5, h => exact List.mem_append_right _ (List.mem_append_right _ (List.mem_append_right _ (List.mem_append_right _ (List.mem_append_right _ (List.mem_append_left _ h)))))
  | 6, h => exact List.mem_append_right _ (List.mem_append_right _ (List.mem_append_right _ (List.mem_append_right _ (List.mem_append_right _ (List.mem_append_right _ (List.mem_append_left _ h))))))
  | 7, h => exact List.mem_append_right _ (List.mem_append_right _ (List.mem_append_right _ (List.mem_append_right _ (List.mem_append_right _ (List.mem_append_right _ (List.mem_append_right _ (List.mem_append_left _ h)))))))
  | 8, h => exact List.mem_append_right _ (List.mem_append_right _ (List.mem_append_right _ (List.mem_append_right _ (List.mem_append_right _ (List.mem_append_right _ (List.mem_append_right _ (List.mem_append_right _ (List.mem_append_left _ h))))))))
  | n + 9, h => exact List.mem_append_right _ (List.mem_append_right _ (List.mem_append_right _ (List.mem_append_right _ (List.mem_append_right _ (List.mem_append_right _ (List.mem_append_right _ (List.mem_append_right _ (List.mem_append_right _ h))))))))
theorem gw_lkp_in {i : Nat} {c : Cond} (h : gw_lkp i = some c) : c ∈ lw_tbl := gw_tab_in _ c (List.mem_of_getElem? h)
theorem gw_mem2 {i : Nat} {c : Cond} (h : gw_lkp i = some c) (hg : goodWord c = true) : c ∈ gw_tb := List.mem_filter.mpr ⟨gw_lkp_in h, hg⟩
theorem gw_is_spec {i : Nat} {c : Cond} (h : gw_is i c = true) : c ∈ gw_tb := by
  simp only [gw_is, Bool.and_eq_true, decide_eq_true_eq] at h
  exact gw_mem2 h.1 h.2
theorem gw_v_ref (x : gw_C) {r : Nat} (h : ¬ r = 0) : gw_v x (.ref r) = .ref (x.1 + r) := by
  cases r with
  | zero => exact absurd rfl h
  | succ r => rfl
theorem gw_v_int (x : gw_C) (v : Int32) : gw_v x (.int v) = .int v := rfl
theorem gw_v_cat (x : gw_C) {v : Value} (h : v.category = 1) : (gw_v x v).category = 1 := by
  cases v with
  | ref r => cases r <;> rfl
  | long v => cases h
  | double v => cases h
  | _ => rfl
theorem gw_in_vp {i : Int32} {n : Nat} (h : gw_in i n) : vp_in i n := by
  rintro (h1 | h1)
  · exact absurd h.1 (Int32.not_le.mpr h1)
  · exact absurd h.2 (Nat.not_lt.mpr h1)
theorem gw_len_set : ∀ (l : List Value) (k : Nat) (v : Value), (gw_set l k v).length = l.length
  | [], _, _ => rfl
  | _ :: _, 0, _ => rfl
  | _ :: l, n + 1, v => by simp [gw_set, gw_len_set l n v]
theorem gw_nth_set : ∀ (l : List Value) (k : Nat) (v : Value) (j : Nat), k < l.length → gw_nth (gw_set l k v) j = if j = k then v else gw_nth l j
  | [], _, _, _, h => by simp at h
  | _ :: l, 0, v, 0, _ => by simp [gw_set, gw_nth]
  | _ :: l, 0, v, j + 1, _ => by simp [gw_set, gw_nth]
  | _ :: l, n + 1, v, 0, _ => by simp [gw_set, gw_nth]
  | _ :: l, n + 1, v, j + 1, h => by
    have := gw_nth_set l n v j (by simpa using h)
    simp [gw_set, gw_nth, this]
theorem gw_kd_ok {x : gw_C} {S : gw_S} {μ : gw_M} {H : Heap} {locs : List Loc} (h : gw_rep x S μ H locs) {a k : Nat} (hk : gw_kd S a = k) (hl : k < 15) : 1 ≤ a ∧ a ≤ gw_nn S ∧ gw_cell x S μ a H ∧ gw_v x (.ref a) = .ref (x.1 + a) := by
  have h1 := h.1 a (by omega)
  exact ⟨h1.1, h1.2, h.2.1 a h1.1 h1.2, gw_v_ref x (by omega)⟩
theorem gw_cell_kept {x : gw_C} {S S' : gw_S} {μ μ' : gw_M} {b : Nat} {H H1 : Heap} (h : gw_cell x S μ b H) (hq : H1[x.1 + b]? = H[x.1 + b]?) (hk : gw_kd S' b = gw_kd S b) (hl : gw_ln S' b = gw_ln S b) (hr : ∀ j, gw_rf S' b j = gw_rf S b j) (hm : ∀ j, μ' b j = μ b j) : gw_cell x S' μ' b H1 := by
  have e1 : gw_fld x S' μ' b = gw_fld x S μ b := by
    funext c k
    simp only [gw_fld, hr, hm]
  unfold gw_cell at *
  simp only [hk, hl, hr, hm, hq, e1]
  exact ⟨h.1, h.2.1, h.2.2.1, fun q hv => (h.2.2.2 q hv).kept hq⟩
/-- one cell was written -/
theorem gw_rep_store {x : gw_C} {S S' : gw_S} {μ μ' : gw_M} {a : Nat} {H H1 : Heap} {locs locs1 : List Loc} (h : gw_rep x S μ H locs) (z : H1.size = H.size) (oq : ∀ q : Nat, q ≠ x.1 + a → H1[q]? = H[q]?) (ha : 1 ≤ a)
    (hn : S'.2 = S.2) (hr : ∀ b, b ≠ a → ∀ j, gw_rf S' b j = gw_rf S b j) (hm : ∀ b, b ≠ a → ∀ j, μ' b j = μ b j) (hc : gw_cell x S' μ' a H1) (hl : ∀ q ∈ locs1, q ∈ locs ∨ q.base = x.1 + a) : gw_rep x S' μ' H1 locs1 := by
  obtain ⟨h1, h2, h3, h4, h5, h6⟩ := h
  have e1 : ∀ b, gw_kd S' b = gw_kd S b := fun b => by simp only [gw_kd, hn]
  have e2 : ∀ b, gw_ln S' b = gw_ln S b := fun b => by simp only [gw_ln, hn]
  have e3 : gw_nn S' = gw_nn S := by simp only [gw_nn, hn]
  refine ⟨fun b hb => ?_, fun b hb1 hb2 => ?_, by rw [z, h3, e3], h4, fun q hq => by rw [oq q (by omega)]; exact h5 q hq, fun q hq => ?_⟩
  · rw [e3]; exact h1 b (by rw [← e1]; exact hb)
  · by_cases hba : b = a
    · subst hba; exact hc
    · exact gw_cell_kept (h2 b hb1 (by rw [← e3]; exact hb2)) (oq _ (by omega)) (e1 b) (e2 b) (hr b hba) (hm b hba)
  · rcases hl q hq with h | h
    · exact h6 q h
    · rw [h]; omega
/-- one cell came -/
theorem gw_rep_new {x : gw_C} {S : gw_S} {μ : gw_M} {kd ln : Nat} {H H1 : Heap} {locs : List Loc} (h : gw_rep x S μ H locs) (z : H1.size = H.size + 1) (oq : ∀ q : Nat, q < H.size → H1[q]? = H[q]?)
    (hc : gw_cell x (gw_new S kd ln) (gw_row μ (gw_nn S + 1) (fun _ => 0)) (gw_nn S + 1) H1) : gw_rep x (gw_new S kd ln) (gw_row μ (gw_nn S + 1) (fun _ => 0)) H1 locs := by
  obtain ⟨h1, h2, h3, h4, h5, h6⟩ := h
  have e3 : gw_nn (gw_new S kd ln) = gw_nn S + 1 := rfl
  refine ⟨fun b hb => ?_, fun b hb1 hb2 => ?_, by rw [z, h3, e3]; omega, h4, fun q hq => by rw [oq q (by omega)]; exact h5 q hq, h6⟩
  · rw [e3]
    by_cases hb1 : b = gw_nn S + 1
    · omega
    · have : gw_kd S b < 15 := by
        have e : gw_kd (gw_new S kd ln) b = gw_kd S b := by simp only [gw_kd, gw_new]; exact if_neg hb1
        rw [← e]; exact hb
      have := h1 b this
      omega
  · by_cases hba : b = gw_nn S + 1
    · subst hba; exact hc
    · rw [e3] at hb2
      refine gw_cell_kept (h2 b hb1 (by omega)) (oq _ (by omega)) ?_ ?_ (fun j => ?_) (fun j => ?_)
      · simp only [gw_kd, gw_new]; exact if_neg hba
      · simp only [gw_ln, gw_new]; exact if_neg hba
      · simp only [gw_rf, gw_new]; exact if_neg hba
      · simp only [gw_row]; rw [if_neg hba]
theorem gw_kk_same {x : gw_C} {u U : State} (hvm : u.vm = U.vm) (h : gw_kk x u) : gw_kk x U := by
  obtain ⟨h1, ⟨scr, a1, a2, a3⟩, h3, h4⟩ := h
  have ha : u.vm.Alike U.vm := by rw [hvm]; exact Vm.Alike.refl U.vm
  refine ⟨va_K.moved ha h1, ⟨scr, a1, State.isArrayOf_alike ha a2, a3⟩, h3, fun w hw => ?_⟩
  have hm := h4 w hw
  have := (List.mem_filter.mp hw).2
  cases w with
  | methodLinkNest a b c d => exact va_Nw.same rfl hvm hm
  | arrayOver ty =>
    cases ty with
    | object C => exact va_AO.moved ha hm
    | _ => simp [gw_isn] at this
  | _ => simp [gw_isn] at this
theorem gw_kk_moved {x : gw_C} {u U : State} (hW : u.WarmedH U.vm) (h : gw_kk x u) : gw_kk x U := by
  obtain ⟨h1, ⟨scr, a1, a2, a3⟩, h3, h4⟩ := h
  refine ⟨va_K.moved hW.alike h1, ⟨scr, a1, State.isArrayOf_alike hW.alike a2, a3⟩, h3, fun w hw => ?_⟩
  have hm := h4 w hw
  have := (List.mem_filter.mp hw).2
  cases w with
  | methodLinkNest a b c d => exact va_Nw.warmM hW hm
  | arrayOver ty =>
    cases ty with
    | object C => exact va_AO.moved hW.alike hm
    | _ => simp [gw_isn] at this
  | _ => simp [gw_isn] at this
theorem gw_in1_spec {i : Nat} {c : Cond} (h : gw_in1 i c = true) : c ∈ gw_nest := by
  simp only [gw_in1, Bool.and_eq_true, decide_eq_true_eq] at h
  exact List.mem_filter.mpr ⟨gw_lkp_in h.1, h.2⟩
/-- the locals that a row of the kit reads -/
def gw_lvl (x : gw_C) (lv : List Value) : List (Nat × Value) := (List.range lv.length).filterMap (fun i => if gw_nth lv i = .retAddr 0 then none else some (i, gw_v x (gw_nth lv i)))
theorem gw_nth_big : ∀ (l : List Value) (k : Nat), l.length ≤ k → gw_nth l k = .retAddr 0
  | [], _, _ => rfl
  | _ :: _, 0, h => by simp at h
  | _ :: l, k + 1, h => gw_nth_big l k (by simpa using h)
theorem gw_has_lv {x : gw_C} {ls : Array Slot} {nL : Nat} {lv : List Value} (h : gw_has x ls nL lv) : lv_has ls nL (gw_lvl x lv) := by
  obtain ⟨h1, h2, h3, h4, h5⟩ := h
  refine ⟨h1, h2, fun q hq => ?_⟩
  obtain ⟨i, hi, he⟩ := List.mem_filterMap.mp hq
  by_cases hn : gw_nth lv i = .retAddr 0
  · simp [hn] at he
  · simp only [hn, if_false, Option.some.injEq] at he
    rw [← he]
    exact h5 i hn
theorem gw_has_set {x : gw_C} {ls' : Array Slot} {nL : Nat} {lv : List Value} {k : Nat} {v : Value} {ls : Array Slot} (h : gw_has x ls nL lv) (hk : k < nL) (hv : v.category = 1)
    (h' : lv_has ls' nL ((k, gw_v x v) :: (gw_lvl x lv).filter (fun q => !(q.1 == k) && !(q.1 + 1 == k && q.2.category == 2)))) : gw_has x ls' nL (gw_set lv k v) := by
  obtain ⟨h1, h2, h3, h4, h5⟩ := h
  obtain ⟨g1, g2, g3⟩ := h'
  refine ⟨g1, g2, by rw [gw_len_set]; exact h3, fun i => ?_, fun i hi => ?_⟩
  · rw [gw_nth_set lv k v i (by omega)]
    by_cases hik : i = k
    · rw [if_pos hik]; exact hv
    · rw [if_neg hik]; exact h4 i
  · rw [gw_nth_set lv k v i (by omega)] at hi ⊢
    by_cases hik : i = k
    · rw [if_pos hik]
      subst hik
      exact g3 _ List.mem_cons_self
    · rw [if_neg hik] at hi ⊢
      refine g3 (i, gw_v x (gw_nth lv i)) (List.mem_cons_of_mem _ (List.mem_filter.mpr ⟨List.mem_filterMap.mpr ⟨i, List.mem_range.mpr ?_, by simp [hi]⟩, ?_⟩))
      · rcases Nat.lt_or_ge i lv.length with q | q
        · exact q
        · exact absurd (gw_nth_big lv i q) hi
      · have hc : (gw_v x (gw_nth lv i)).category = 1 := gw_v_cat x (h4 i)
        simp [hik, hc]
end
section
/-! ===== soundness, an instruction at a time ===== -/
def gw_len (n : Nat) : Instr → Nat
  | .aload _ => 2
  | .iload _ => 2
  | .astore _ => 2
  | .istore _ => 2
  | .bipush _ => 2
  | .ldc _ => 2
  | .newarray _ => 2
  | .sipush _ => 3
  | .ldc_w _ => 3
  | .iinc _ _ => 3
  | .ifCond _ _ => 3
  | .if_icmp _ _ => 3
  | .ifnull _ => 3
  | .ifnonnull _ => 3
  | .goto _ => 3
  | .getfield _ => 3
  | .putfield _ => 3
  | .anewarray _ => 3
  | .new _ => 3
  | .invokevirtual _ => 3
  | .invokestatic _ => 3
  | .invokespecial _ => 3
  | .tableswitch _ _ _ _ => n
  | _ => 1
def gw_at (p : Program) (l : Launch) (e : Env) (R : Room) (s : State) (m : MethodId) (args : Array Value) (below : List Frame) (meth : Method) (c : Code) (Z : State → Prop) (x : gw_C) (nL pc : Nat) : gw_Kt := fun lv st S μ cc ss =>
  ∀ (H : Heap) (locs : List Loc) (ls : Array Slot), gw_rep x S μ H locs → gw_has x ls nL lv → W p l e R s m args below meth c H locs cc ss Z (F0 m pc ls (st.map (gw_v x)))
abbrev gw_fx (p : Program) (s : State) (m : MethodId) (args : Array Value) (c : Code) (x : gw_C) (nL : Nat) (cb : ByteArray) (own : String) : Prop :=
  p.tables.exec = Jvm.exec ∧ c.code = cb ∧ c.maxLocals = nL ∧ s.vm.findClass own = some m.cls ∧ (∀ w ∈ gw_tb, w.before args s = true) ∧ gw_kk x s
section SND
variable {p : Program} {l : Launch} {e : Env} {R : Room} {s : State} {m : MethodId} {args : Array Value} {below : List Frame} {meth : Method} {c : Code} {Z : State → Prop} {x : gw_C} {nL : Nat} {cb : ByteArray} {own : String}
variable {ok : gw_Ok} {mc ms pc : Nat} {Q : Option Value → gw_S → gw_M → Prop} {K : Nat → gw_Kt} {an : List Nat} {iv : List Int32} {sg : List gw_Sig} {lv st : List Value} {S : gw_S} {μ : gw_M} {cc ss : Nat} {N : gw_Kt} {rt : Option FieldType}
theorem gw_s_iadd (F : gw_fx p s m args c x nL cb own) (hd : decode cb pc = .ok (.iadd, 1)) (hlk : gw_lk own nL rt pc (.iadd) an iv sg = true) (h : gw_step ok x mc ms Q K (.iadd) an iv sg lv st S μ cc ss N) (hN : ∀ lv st S μ cc ss, N lv st S μ cc ss → gw_at p l e R s m args below meth c Z x nL (pc + 1) lv st S μ cc ss) (hK : ∀ t lv st S μ cc ss, K t lv st S μ cc ss → gw_at p l e R s m args below meth c Z x nL t lv st S μ cc ss) : gw_at p l e R s m args below meth c Z x nL pc lv st S μ cc ss := by
  simp only [gw_step] at h
  split at h
  · rename_i b a t
    intro H locs ls hr hl
    exact lv_iadd F.1 F.2.1 hd (hN _ _ _ _ _ _ h H locs ls hr hl)
  · exact h.elim
theorem gw_s_isub (F : gw_fx p s m args c x nL cb own) (hd : decode cb pc = .ok (.isub, 1)) (hlk : gw_lk own nL rt pc (.isub) an iv sg = true) (h : gw_step ok x mc ms Q K (.isub) an iv sg lv st S μ cc ss N) (hN : ∀ lv st S μ cc ss, N lv st S μ cc ss → gw_at p l e R s m args below meth c Z x nL (pc + 1) lv st S μ cc ss) (hK : ∀ t lv st S μ cc ss, K t lv st S μ cc ss → gw_at p l e R s m args below meth c Z x nL t lv st S μ cc ss) : gw_at p l e R s m args below meth c Z x nL pc lv st S μ cc ss := by
  simp only [gw_step] at h
  split at h
  · rename_i b a t
    intro H locs ls hr hl
    exact lv_isub F.1 F.2.1 hd (hN _ _ _ _ _ _ h H locs ls hr hl)
  · exact h.elim
theorem gw_s_imul (F : gw_fx p s m args c x nL cb own) (hd : decode cb pc = .ok (.imul, 1)) (hlk : gw_lk own nL rt pc (.imul) an iv sg = true) (h : gw_step ok x mc ms Q K (.imul) an iv sg lv st S μ cc ss N) (hN : ∀ lv st S μ cc ss, N lv st S μ cc ss → gw_at p l e R s m args below meth c Z x nL (pc + 1) lv st S μ cc ss) (hK : ∀ t lv st S μ cc ss, K t lv st S μ cc ss → gw_at p l e R s m args below meth c Z x nL t lv st S μ cc ss) : gw_at p l e R s m args below meth c Z x nL pc lv st S μ cc ss := by
  simp only [gw_step] at h
  split at h
  · rename_i b a t
    intro H locs ls hr hl
    exact lv_imul F.1 F.2.1 hd (hN _ _ _ _ _ _ h H locs ls hr hl)
  · exact h.elim
theorem gw_s_iand (F : gw_fx p s m args c x nL cb own) (hd : decode cb pc = .ok (.iand, 1)) (hlk : gw_lk own nL rt pc (.iand) an iv sg = true) (h : gw_step ok x mc ms Q K (.iand) an iv sg lv st S μ cc ss N) (hN : ∀ lv st S μ cc ss, N lv st S μ cc ss → gw_at p l e R s m args below meth c Z x nL (pc + 1) lv st S μ cc ss) (hK : ∀ t lv st S μ cc ss, K t lv st S μ cc ss → gw_at p l e R s m args below meth c Z x nL t lv st S μ cc ss) : gw_at p l e R s m args below meth c Z x nL pc lv st S μ cc ss := by
  simp only [gw_step] at h
  split at h
  · rename_i b a t
    intro H locs ls hr hl
    exact lv_iand F.1 F.2.1 hd (hN _ _ _ _ _ _ h H locs ls hr hl)
  · exact h.elim
theorem gw_s_ior (F : gw_fx p s m args c x nL cb own) (hd : decode cb pc = .ok (.ior, 1)) (hlk : gw_lk own nL rt pc (.ior) an iv sg = true) (h : gw_step ok x mc ms Q K (.ior) an iv sg lv st S μ cc ss N) (hN : ∀ lv st S μ cc ss, N lv st S μ cc ss → gw_at p l e R s m args below meth c Z x nL (pc + 1) lv st S μ cc ss) (hK : ∀ t lv st S μ cc ss, K t lv st S μ cc ss → gw_at p l e R s m args below meth c Z x nL t lv st S μ cc ss) : gw_at p l e R s m args below meth c Z x nL pc lv st S μ cc ss := by
  simp only [gw_step] at h
  split at h
  · rename_i b a t
    intro H locs ls hr hl
    exact lv_ior F.1 F.2.1 hd (hN _ _ _ _ _ _ h H locs ls hr hl)
  · exact h.elim
theorem gw_s_ixor (F : gw_fx p s m args c x nL cb own) (hd : decode cb pc = .ok (.ixor, 1)) (hlk : gw_lk own nL rt pc (.ixor) an iv sg = true) (h : gw_step ok x mc ms Q K (.ixor) an iv sg lv st S μ cc ss N) (hN : ∀ lv st S μ cc ss, N lv st S μ cc ss → gw_at p l e R s m args below meth c Z x nL (pc + 1) lv st S μ cc ss) (hK : ∀ t lv st S μ cc ss, K t lv st S μ cc ss → gw_at p l e R s m args below meth c Z x nL t lv st S μ cc ss) : gw_at p l e R s m args below meth c Z x nL pc lv st S μ cc ss := by
  simp only [gw_step] at h
  split at h
  · rename_i b a t
    intro H locs ls hr hl
    exact lv_ixor F.1 F.2.1 hd (hN _ _ _ _ _ _ h H locs ls hr hl)
  · exact h.elim
theorem gw_s_ishl (F : gw_fx p s m args c x nL cb own) (hd : decode cb pc = .ok (.ishl, 1)) (hlk : gw_lk own nL rt pc (.ishl) an iv sg = true) (h : gw_step ok x mc ms Q K (.ishl) an iv sg lv st S μ cc ss N) (hN : ∀ lv st S μ cc ss, N lv st S μ cc ss → gw_at p l e R s m args below meth c Z x nL (pc + 1) lv st S μ cc ss) (hK : ∀ t lv st S μ cc ss, K t lv st S μ cc ss → gw_at p l e R s m args below meth c Z x nL t lv st S μ cc ss) : gw_at p l e R s m args below meth c Z x nL pc lv st S μ cc ss := by
  simp only [gw_step] at h
  split at h
  · rename_i b a t
    intro H locs ls hr hl
    exact lv_ishl F.1 F.2.1 hd (hN _ _ _ _ _ _ h H locs ls hr hl)
  · exact h.elim
theorem gw_s_ishr (F : gw_fx p s m args c x nL cb own) (hd : decode cb pc = .ok (.ishr, 1)) (hlk : gw_lk own nL rt pc (.ishr) an iv sg = true) (h : gw_step ok x mc ms Q K (.ishr) an iv sg lv st S μ cc ss N) (hN : ∀ lv st S μ cc ss, N lv st S μ cc ss → gw_at p l e R s m args below meth c Z x nL (pc + 1) lv st S μ cc ss) (hK : ∀ t lv st S μ cc ss, K t lv st S μ cc ss → gw_at p l e R s m args below meth c Z x nL t lv st S μ cc ss) : gw_at p l e R s m args below meth c Z x nL pc lv st S μ cc ss := by
  simp only [gw_step] at h
  split at h
  · rename_i b a t
    intro H locs ls hr hl
    exact lv_ishr F.1 F.2.1 hd (hN _ _ _ _ _ _ h H locs ls hr hl)
  · exact h.elim
theorem gw_s_iushr (F : gw_fx p s m args c x nL cb own) (hd : decode cb pc = .ok (.iushr, 1)) (hlk : gw_lk own nL rt pc (.iushr) an iv sg = true) (h : gw_step ok x mc ms Q K (.iushr) an iv sg lv st S μ cc ss N) (hN : ∀ lv st S μ cc ss, N lv st S μ cc ss → gw_at p l e R s m args below meth c Z x nL (pc + 1) lv st S μ cc ss) (hK : ∀ t lv st S μ cc ss, K t lv st S μ cc ss → gw_at p l e R s m args below meth c Z x nL t lv st S μ cc ss) : gw_at p l e R s m args below meth c Z x nL pc lv st S μ cc ss := by
  simp only [gw_step] at h
  split at h
  · rename_i b a t
    intro H locs ls hr hl
    exact lv_iushr F.1 F.2.1 hd rfl (hN _ _ _ _ _ _ h H locs ls hr hl)
  · exact h.elim
theorem gw_s_idiv (F : gw_fx p s m args c x nL cb own) (hd : decode cb pc = .ok (.idiv, 1)) (hlk : gw_lk own nL rt pc (.idiv) an iv sg = true) (h : gw_step ok x mc ms Q K (.idiv) an iv sg lv st S μ cc ss N) (hN : ∀ lv st S μ cc ss, N lv st S μ cc ss → gw_at p l e R s m args below meth c Z x nL (pc + 1) lv st S μ cc ss) (hK : ∀ t lv st S μ cc ss, K t lv st S μ cc ss → gw_at p l e R s m args below meth c Z x nL t lv st S μ cc ss) : gw_at p l e R s m args below meth c Z x nL pc lv st S μ cc ss := by
  simp only [gw_step] at h
  split at h
  · rename_i b a t
    intro H locs ls hr hl
    exact lv_idiv F.1 F.2.1 hd h.1 (hN _ _ _ _ _ _ h.2 H locs ls hr hl)
  · exact h.elim
theorem gw_s_irem (F : gw_fx p s m args c x nL cb own) (hd : decode cb pc = .ok (.irem, 1)) (hlk : gw_lk own nL rt pc (.irem) an iv sg = true) (h : gw_step ok x mc ms Q K (.irem) an iv sg lv st S μ cc ss N) (hN : ∀ lv st S μ cc ss, N lv st S μ cc ss → gw_at p l e R s m args below meth c Z x nL (pc + 1) lv st S μ cc ss) (hK : ∀ t lv st S μ cc ss, K t lv st S μ cc ss → gw_at p l e R s m args below meth c Z x nL t lv st S μ cc ss) : gw_at p l e R s m args below meth c Z x nL pc lv st S μ cc ss := by
  simp only [gw_step] at h
  split at h
  · rename_i b a t
    intro H locs ls hr hl
    exact lv_irem F.1 F.2.1 hd h.1 (hN _ _ _ _ _ _ h.2 H locs ls hr hl)
  · exact h.elim
theorem gw_s_lcmp (F : gw_fx p s m args c x nL cb own) (hd : decode cb pc = .ok (.lcmp, 1)) (hlk : gw_lk own nL rt pc (.lcmp) an iv sg = true) (h : gw_step ok x mc ms Q K (.lcmp) an iv sg lv st S μ cc ss N) (hN : ∀ lv st S μ cc ss, N lv st S μ cc ss → gw_at p l e R s m args below meth c Z x nL (pc + 1) lv st S μ cc ss) (hK : ∀ t lv st S μ cc ss, K t lv st S μ cc ss → gw_at p l e R s m args below meth c Z x nL t lv st S μ cc ss) : gw_at p l e R s m args below meth c Z x nL pc lv st S μ cc ss := by
  simp only [gw_step] at h
  split at h
  · rename_i b a t
    intro H locs ls hr hl
    exact W.lcmp F.1 F.2.1 hd (hN _ _ _ _ _ _ h H locs ls hr hl)
  · exact h.elim
theorem gw_s_dup (F : gw_fx p s m args c x nL cb own) (hd : decode cb pc = .ok (.dup, 1)) (hlk : gw_lk own nL rt pc (.dup) an iv sg = true) (h : gw_step ok x mc ms Q K (.dup) an iv sg lv st S μ cc ss N) (hN : ∀ lv st S μ cc ss, N lv st S μ cc ss → gw_at p l e R s m args below meth c Z x nL (pc + 1) lv st S μ cc ss) (hK : ∀ t lv st S μ cc ss, K t lv st S μ cc ss → gw_at p l e R s m args below meth c Z x nL t lv st S μ cc ss) : gw_at p l e R s m args below meth c Z x nL pc lv st S μ cc ss := by
  simp only [gw_step] at h
  split at h
  · rename_i a t
    intro H locs ls hr hl
    exact lv_dup F.1 F.2.1 hd rfl (hN _ _ _ _ _ _ h H locs ls hr hl)
  · rename_i a t
    intro H locs ls hr hl
    exact lv_dup F.1 F.2.1 hd (gw_v_cat x rfl) (hN _ _ _ _ _ _ h H locs ls hr hl)
  · exact h.elim
theorem gw_s_dup2 (F : gw_fx p s m args c x nL cb own) (hd : decode cb pc = .ok (.dup2, 1)) (hlk : gw_lk own nL rt pc (.dup2) an iv sg = true) (h : gw_step ok x mc ms Q K (.dup2) an iv sg lv st S μ cc ss N) (hN : ∀ lv st S μ cc ss, N lv st S μ cc ss → gw_at p l e R s m args below meth c Z x nL (pc + 1) lv st S μ cc ss) (hK : ∀ t lv st S μ cc ss, K t lv st S μ cc ss → gw_at p l e R s m args below meth c Z x nL t lv st S μ cc ss) : gw_at p l e R s m args below meth c Z x nL pc lv st S μ cc ss := by
  simp only [gw_step] at h
  split at h
  · rename_i b a t
    intro H locs ls hr hl
    exact lv_dup2_11 F.1 F.2.1 hd rfl (gw_v_cat x rfl) (hN _ _ _ _ _ _ h H locs ls hr hl)
  · exact h.elim
theorem gw_s_pop (F : gw_fx p s m args c x nL cb own) (hd : decode cb pc = .ok (.pop, 1)) (hlk : gw_lk own nL rt pc (.pop) an iv sg = true) (h : gw_step ok x mc ms Q K (.pop) an iv sg lv st S μ cc ss N) (hN : ∀ lv st S μ cc ss, N lv st S μ cc ss → gw_at p l e R s m args below meth c Z x nL (pc + 1) lv st S μ cc ss) (hK : ∀ t lv st S μ cc ss, K t lv st S μ cc ss → gw_at p l e R s m args below meth c Z x nL t lv st S μ cc ss) : gw_at p l e R s m args below meth c Z x nL pc lv st S μ cc ss := by
  simp only [gw_step] at h
  split at h
  · rename_i a t
    intro H locs ls hr hl
    exact lv_pop F.1 F.2.1 hd rfl (hN _ _ _ _ _ _ h H locs ls hr hl)
  · rename_i a t
    intro H locs ls hr hl
    exact lv_pop F.1 F.2.1 hd (gw_v_cat x rfl) (hN _ _ _ _ _ _ h H locs ls hr hl)
  · exact h.elim
variable {k : Int}
theorem gw_s_iconst (F : gw_fx p s m args c x nL cb own) (hd : decode cb pc = .ok (.iconst k, 1)) (hlk : gw_lk own nL rt pc (.iconst k) an iv sg = true) (h : gw_step ok x mc ms Q K (.iconst k) an iv sg lv st S μ cc ss N) (hN : ∀ lv st S μ cc ss, N lv st S μ cc ss → gw_at p l e R s m args below meth c Z x nL (pc + 1) lv st S μ cc ss) (hK : ∀ t lv st S μ cc ss, K t lv st S μ cc ss → gw_at p l e R s m args below meth c Z x nL t lv st S μ cc ss) : gw_at p l e R s m args below meth c Z x nL pc lv st S μ cc ss := by
  simp only [gw_step] at h
  split at h
  · rename_i w
    intro H locs ls hr hl
    simp only [gw_lk, decide_eq_true_eq, List.cons.injEq, and_true] at hlk
    exact lv_iconst F.1 F.2.1 hd hlk.symm (hN _ _ _ _ _ _ h H locs ls hr hl)
  · exact h.elim

theorem gw_s_bipush (F : gw_fx p s m args c x nL cb own) (hd : decode cb pc = .ok (.bipush k, 2)) (hlk : gw_lk own nL rt pc (.bipush k) an iv sg = true) (h : gw_step ok x mc ms Q K (.bipush k) an iv sg lv st S μ cc ss N) (hN : ∀ lv st S μ cc ss, N lv st S μ cc ss → gw_at p l e R s m args below meth c Z x nL (pc + 2) lv st S μ cc ss) (hK : ∀ t lv st S μ cc ss, K t lv st S μ cc ss → gw_at p l e R s m args below meth c Z x nL t lv st S μ cc ss) : gw_at p l e R s m args below meth c Z x nL pc lv st S μ cc ss := by
  simp only [gw_step] at h
  split at h
  · rename_i w
    intro H locs ls hr hl
    simp only [gw_lk, decide_eq_true_eq, List.cons.injEq, and_true] at hlk
    exact lv_bipush F.1 F.2.1 hd hlk.symm (hN _ _ _ _ _ _ h H locs ls hr hl)
  · exact h.elim

theorem gw_s_sipush (F : gw_fx p s m args c x nL cb own) (hd : decode cb pc = .ok (.sipush k, 3)) (hlk : gw_lk own nL rt pc (.sipush k) an iv sg = true) (h : gw_step ok x mc ms Q K (.sipush k) an iv sg lv st S μ cc ss N) (hN : ∀ lv st S μ cc ss, N lv st S μ cc ss → gw_at p l e R s m args below meth c Z x nL (pc + 3) lv st S μ cc ss) (hK : ∀ t lv st S μ cc ss, K t lv st S μ cc ss → gw_at p l e R s m args below meth c Z x nL t lv st S μ cc ss) : gw_at p l e R s m args below meth c Z x nL pc lv st S μ cc ss := by
  simp only [gw_step] at h
  split at h
  · rename_i w
    intro H locs ls hr hl
    simp only [gw_lk, decide_eq_true_eq, List.cons.injEq, and_true] at hlk
    exact lv_sipush F.1 F.2.1 hd hlk.symm (hN _ _ _ _ _ _ h H locs ls hr hl)
  · exact h.elim
variable {j : Nat}
theorem gw_s_ldc (F : gw_fx p s m args c x nL cb own) (hd : decode cb pc = .ok (.ldc j, 2)) (hlk : gw_lk own nL rt pc (.ldc j) an iv sg = true) (h : gw_step ok x mc ms Q K (.ldc j) an iv sg lv st S μ cc ss N) (hN : ∀ lv st S μ cc ss, N lv st S μ cc ss → gw_at p l e R s m args below meth c Z x nL (pc + 2) lv st S μ cc ss) (hK : ∀ t lv st S μ cc ss, K t lv st S μ cc ss → gw_at p l e R s m args below meth c Z x nL t lv st S μ cc ss) : gw_at p l e R s m args below meth c Z x nL pc lv st S μ cc ss := by
  simp only [gw_step] at h
  simp only [gw_lk] at hlk
  split at h
  · split at hlk
    · rename_i heq
      cases heq
      intro H locs ls hr hl
      exact lv_ldc F.1 F.2.1 F.2.2.2.1 (F.2.2.2.2.1 _ (gw_is_spec hlk)) hd (hN _ _ _ _ _ _ h H locs ls hr hl)
    · cases hlk
  · exact h.elim
theorem gw_s_ldc_w (F : gw_fx p s m args c x nL cb own) (hd : decode cb pc = .ok (.ldc_w j, 3)) (hlk : gw_lk own nL rt pc (.ldc_w j) an iv sg = true) (h : gw_step ok x mc ms Q K (.ldc_w j) an iv sg lv st S μ cc ss N) (hN : ∀ lv st S μ cc ss, N lv st S μ cc ss → gw_at p l e R s m args below meth c Z x nL (pc + 3) lv st S μ cc ss) (hK : ∀ t lv st S μ cc ss, K t lv st S μ cc ss → gw_at p l e R s m args below meth c Z x nL t lv st S μ cc ss) : gw_at p l e R s m args below meth c Z x nL pc lv st S μ cc ss := by
  simp only [gw_step] at h
  simp only [gw_lk] at hlk
  split at h
  · split at hlk
    · rename_i heq
      cases heq
      intro H locs ls hr hl
      exact lv_ldcw F.1 F.2.1 F.2.2.2.1 (F.2.2.2.2.1 _ (gw_is_spec hlk)) hd (hN _ _ _ _ _ _ h H locs ls hr hl)
    · cases hlk
  · exact h.elim
variable {jn : Fin 4}
theorem gw_s_aload_n (F : gw_fx p s m args c x nL cb own) (hd : decode cb pc = .ok (.aload_n jn, 1)) (hlk : gw_lk own nL rt pc (.aload_n jn) an iv sg = true) (h : gw_step ok x mc ms Q K (.aload_n jn) an iv sg lv st S μ cc ss N) (hN : ∀ lv st S μ cc ss, N lv st S μ cc ss → gw_at p l e R s m args below meth c Z x nL (pc + 1) lv st S μ cc ss) (hK : ∀ t lv st S μ cc ss, K t lv st S μ cc ss → gw_at p l e R s m args below meth c Z x nL t lv st S μ cc ss) : gw_at p l e R s m args below meth c Z x nL pc lv st S μ cc ss := by
  simp only [gw_step] at h
  simp only [gw_lk, decide_eq_true_eq] at hlk
  subst hlk
  dsimp only at h
  cases hv : gw_nth lv jn.val with
  | ref v =>
    rw [hv] at h
    intro H locs ls hr hl
    have h5 := hl.2.2.2.2 jn.val (by rw [hv]; exact fun q => by cases q)
    rw [hv] at h5
    cases v with
    | zero => exact lv_aload_nN F.1 F.2.1 hd rfl h5 (hN _ _ _ _ _ _ h H locs ls hr hl)
    | succ v => exact lv_aload_n F.1 F.2.1 hd rfl h5 (hN _ _ _ _ _ _ h H locs ls hr hl)
  | retAddr v =>
    rw [hv] at h
    match v, hv, h with
    | 1, hv, h =>
      intro H locs ls hr hl
      have h5 := hl.2.2.2.2 jn.val (by rw [hv]; exact fun q => by cases q)
      rw [hv] at h5
      exact lv_aload_n F.1 F.2.1 hd rfl h5 (hN _ _ _ _ _ _ h H locs ls hr hl)
    | 0, _, h => exact h.elim
    | _ + 2, _, h => exact h.elim
  | _ => rw [hv] at h; exact h.elim
theorem gw_s_aload (F : gw_fx p s m args c x nL cb own) (hd : decode cb pc = .ok (.aload j, 2)) (hlk : gw_lk own nL rt pc (.aload j) an iv sg = true) (h : gw_step ok x mc ms Q K (.aload j) an iv sg lv st S μ cc ss N) (hN : ∀ lv st S μ cc ss, N lv st S μ cc ss → gw_at p l e R s m args below meth c Z x nL (pc + 2) lv st S μ cc ss) (hK : ∀ t lv st S μ cc ss, K t lv st S μ cc ss → gw_at p l e R s m args below meth c Z x nL t lv st S μ cc ss) : gw_at p l e R s m args below meth c Z x nL pc lv st S μ cc ss := by
  simp only [gw_step] at h
  simp only [gw_lk, decide_eq_true_eq] at hlk
  subst hlk
  dsimp only at h
  cases hv : gw_nth lv j with
  | ref v =>
    rw [hv] at h
    intro H locs ls hr hl
    have h5 := hl.2.2.2.2 j (by rw [hv]; exact fun q => by cases q)
    rw [hv] at h5
    cases v with
    | zero => exact lv_aloadN F.1 F.2.1 hd h5 (hN _ _ _ _ _ _ h H locs ls hr hl)
    | succ v => exact lv_aload F.1 F.2.1 hd h5 (hN _ _ _ _ _ _ h H locs ls hr hl)
  | retAddr v =>
    rw [hv] at h
    match v, hv, h with
    | 1, hv, h =>
      intro H locs ls hr hl
      have h5 := hl.2.2.2.2 j (by rw [hv]; exact fun q => by cases q)
      rw [hv] at h5
      exact lv_aload F.1 F.2.1 hd h5 (hN _ _ _ _ _ _ h H locs ls hr hl)
    | 0, _, h => exact h.elim
    | _ + 2, _, h => exact h.elim
  | _ => rw [hv] at h; exact h.elim
theorem gw_s_iload_n (F : gw_fx p s m args c x nL cb own) (hd : decode cb pc = .ok (.iload_n jn, 1)) (hlk : gw_lk own nL rt pc (.iload_n jn) an iv sg = true) (h : gw_step ok x mc ms Q K (.iload_n jn) an iv sg lv st S μ cc ss N) (hN : ∀ lv st S μ cc ss, N lv st S μ cc ss → gw_at p l e R s m args below meth c Z x nL (pc + 1) lv st S μ cc ss) (hK : ∀ t lv st S μ cc ss, K t lv st S μ cc ss → gw_at p l e R s m args below meth c Z x nL t lv st S μ cc ss) : gw_at p l e R s m args below meth c Z x nL pc lv st S μ cc ss := by
  simp only [gw_step] at h
  simp only [gw_lk, decide_eq_true_eq] at hlk
  subst hlk
  dsimp only at h
  cases hv : gw_nth lv jn.val with
  | int v =>
    rw [hv] at h
    intro H locs ls hr hl
    have h5 := hl.2.2.2.2 jn.val (by rw [hv]; exact fun q => by cases q)
    rw [hv] at h5
    exact lv_iload_n F.1 F.2.1 hd rfl h5 (hN _ _ _ _ _ _ h H locs ls hr hl)
  | _ => rw [hv] at h; exact h.elim
theorem gw_s_iload (F : gw_fx p s m args c x nL cb own) (hd : decode cb pc = .ok (.iload j, 2)) (hlk : gw_lk own nL rt pc (.iload j) an iv sg = true) (h : gw_step ok x mc ms Q K (.iload j) an iv sg lv st S μ cc ss N) (hN : ∀ lv st S μ cc ss, N lv st S μ cc ss → gw_at p l e R s m args below meth c Z x nL (pc + 2) lv st S μ cc ss) (hK : ∀ t lv st S μ cc ss, K t lv st S μ cc ss → gw_at p l e R s m args below meth c Z x nL t lv st S μ cc ss) : gw_at p l e R s m args below meth c Z x nL pc lv st S μ cc ss := by
  simp only [gw_step] at h
  simp only [gw_lk, decide_eq_true_eq] at hlk
  subst hlk
  dsimp only at h
  cases hv : gw_nth lv j with
  | int v =>
    rw [hv] at h
    intro H locs ls hr hl
    have h5 := hl.2.2.2.2 j (by rw [hv]; exact fun q => by cases q)
    rw [hv] at h5
    exact lv_iload F.1 F.2.1 hd h5 (hN _ _ _ _ _ _ h H locs ls hr hl)
  | _ => rw [hv] at h; exact h.elim
theorem gw_s_astore_n (F : gw_fx p s m args c x nL cb own) (hd : decode cb pc = .ok (.astore_n jn, 1)) (hlk : gw_lk own nL rt pc (.astore_n jn) an iv sg = true) (h : gw_step ok x mc ms Q K (.astore_n jn) an iv sg lv st S μ cc ss N) (hN : ∀ lv st S μ cc ss, N lv st S μ cc ss → gw_at p l e R s m args below meth c Z x nL (pc + 1) lv st S μ cc ss) (hK : ∀ t lv st S μ cc ss, K t lv st S μ cc ss → gw_at p l e R s m args below meth c Z x nL t lv st S μ cc ss) : gw_at p l e R s m args below meth c Z x nL pc lv st S μ cc ss := by
  simp only [gw_step] at h
  simp only [gw_lk, Bool.and_eq_true, decide_eq_true_eq] at hlk
  split at h
  · rename_i k0 r t
    obtain ⟨h1, h2⟩ := hlk
    cases h1
    have hlk : True ∧ jn.val < nL := ⟨trivial, h2⟩
    intro H locs ls hr hl
    cases r with
    | zero => exact lv_astore_nN F.1 F.2.1 hd rfl (gw_has_lv hl) hlk.2 rfl (fun ls' h' => hN _ _ _ _ _ _ h H locs ls' hr (gw_has_set hl hlk.2 rfl h'))
    | succ r => exact lv_astore_n F.1 F.2.1 hd rfl (gw_has_lv hl) hlk.2 rfl (fun ls' h' => hN _ _ _ _ _ _ h H locs ls' hr (gw_has_set hl hlk.2 rfl h'))
  · exact h.elim
theorem gw_s_astore (F : gw_fx p s m args c x nL cb own) (hd : decode cb pc = .ok (.astore j, 2)) (hlk : gw_lk own nL rt pc (.astore j) an iv sg = true) (h : gw_step ok x mc ms Q K (.astore j) an iv sg lv st S μ cc ss N) (hN : ∀ lv st S μ cc ss, N lv st S μ cc ss → gw_at p l e R s m args below meth c Z x nL (pc + 2) lv st S μ cc ss) (hK : ∀ t lv st S μ cc ss, K t lv st S μ cc ss → gw_at p l e R s m args below meth c Z x nL t lv st S μ cc ss) : gw_at p l e R s m args below meth c Z x nL pc lv st S μ cc ss := by
  simp only [gw_step] at h
  simp only [gw_lk, Bool.and_eq_true, decide_eq_true_eq] at hlk
  split at h
  · rename_i k0 r t
    obtain ⟨h1, h2⟩ := hlk
    cases h1
    have hlk : True ∧ j < nL := ⟨trivial, h2⟩
    intro H locs ls hr hl
    cases r with
    | zero => exact lv_astoreN F.1 F.2.1 hd (gw_has_lv hl) hlk.2 rfl (fun ls' h' => hN _ _ _ _ _ _ h H locs ls' hr (gw_has_set hl hlk.2 rfl h'))
    | succ r => exact lv_astore F.1 F.2.1 hd (gw_has_lv hl) hlk.2 rfl (fun ls' h' => hN _ _ _ _ _ _ h H locs ls' hr (gw_has_set hl hlk.2 rfl h'))
  · exact h.elim
theorem gw_s_istore_n (F : gw_fx p s m args c x nL cb own) (hd : decode cb pc = .ok (.istore_n jn, 1)) (hlk : gw_lk own nL rt pc (.istore_n jn) an iv sg = true) (h : gw_step ok x mc ms Q K (.istore_n jn) an iv sg lv st S μ cc ss N) (hN : ∀ lv st S μ cc ss, N lv st S μ cc ss → gw_at p l e R s m args below meth c Z x nL (pc + 1) lv st S μ cc ss) (hK : ∀ t lv st S μ cc ss, K t lv st S μ cc ss → gw_at p l e R s m args below meth c Z x nL t lv st S μ cc ss) : gw_at p l e R s m args below meth c Z x nL pc lv st S μ cc ss := by
  simp only [gw_step] at h
  simp only [gw_lk, Bool.and_eq_true, decide_eq_true_eq] at hlk
  split at h
  · rename_i k0 r t
    obtain ⟨h1, h2⟩ := hlk
    cases h1
    have hlk : True ∧ jn.val < nL := ⟨trivial, h2⟩
    intro H locs ls hr hl
    exact lv_istore_n F.1 F.2.1 hd rfl (gw_has_lv hl) hlk.2 rfl (fun ls' h' => hN _ _ _ _ _ _ h H locs ls' hr (gw_has_set hl hlk.2 rfl h'))
  · exact h.elim
theorem gw_s_istore (F : gw_fx p s m args c x nL cb own) (hd : decode cb pc = .ok (.istore j, 2)) (hlk : gw_lk own nL rt pc (.istore j) an iv sg = true) (h : gw_step ok x mc ms Q K (.istore j) an iv sg lv st S μ cc ss N) (hN : ∀ lv st S μ cc ss, N lv st S μ cc ss → gw_at p l e R s m args below meth c Z x nL (pc + 2) lv st S μ cc ss) (hK : ∀ t lv st S μ cc ss, K t lv st S μ cc ss → gw_at p l e R s m args below meth c Z x nL t lv st S μ cc ss) : gw_at p l e R s m args below meth c Z x nL pc lv st S μ cc ss := by
  simp only [gw_step] at h
  simp only [gw_lk, Bool.and_eq_true, decide_eq_true_eq] at hlk
  split at h
  · rename_i k0 r t
    obtain ⟨h1, h2⟩ := hlk
    cases h1
    have hlk : True ∧ j < nL := ⟨trivial, h2⟩
    intro H locs ls hr hl
    exact lv_istore F.1 F.2.1 hd (gw_has_lv hl) hlk.2 rfl (fun ls' h' => hN _ _ _ _ _ _ h H locs ls' hr (gw_has_set hl hlk.2 rfl h'))
  · exact h.elim
theorem gw_s_iinc (F : gw_fx p s m args c x nL cb own) (hd : decode cb pc = .ok (.iinc j k, 3)) (hlk : gw_lk own nL rt pc (.iinc j k) an iv sg = true) (h : gw_step ok x mc ms Q K (.iinc j k) an iv sg lv st S μ cc ss N) (hN : ∀ lv st S μ cc ss, N lv st S μ cc ss → gw_at p l e R s m args below meth c Z x nL (pc + 3) lv st S μ cc ss) (hK : ∀ t lv st S μ cc ss, K t lv st S μ cc ss → gw_at p l e R s m args below meth c Z x nL t lv st S μ cc ss) : gw_at p l e R s m args below meth c Z x nL pc lv st S μ cc ss := by
  simp only [gw_step] at h
  simp only [gw_lk, Bool.and_eq_true, decide_eq_true_eq] at hlk
  obtain ⟨⟨h1, h2⟩, h3⟩ := hlk
  subst h1
  subst h3
  dsimp only at h
  cases hv : gw_nth lv j with
  | int v =>
    rw [hv] at h
    intro H locs ls hr hl
    have hm : (j, Value.int v) ∈ gw_lvl x lv := by
      refine List.mem_filterMap.mpr ⟨j, List.mem_range.mpr (by have := hl.2.2.1; omega), ?_⟩
      simp [hv, gw_v]
    obtain ⟨q, hq⟩ := List.getElem?_of_mem hm
    exact lv_iinc F.1 F.2.1 hd (gw_has_lv hl) hq rfl h2 rfl (fun ls' h' => hN _ _ _ _ _ _ h H locs ls' hr (gw_has_set hl h2 rfl h'))
  | _ => rw [hv] at h; exact h.elim
variable {q : ClassFile.Cond} {off : Int}
theorem gw_s_ifCond (F : gw_fx p s m args c x nL cb own) (hd : decode cb pc = .ok (.ifCond q off, 3)) (hlk : gw_lk own nL rt pc (.ifCond q off) an iv sg = true) (h : gw_step ok x mc ms Q K (.ifCond q off) an iv sg lv st S μ cc ss N) (hN : ∀ lv st S μ cc ss, N lv st S μ cc ss → gw_at p l e R s m args below meth c Z x nL (pc + 3) lv st S μ cc ss) (hK : ∀ t lv st S μ cc ss, K t lv st S μ cc ss → gw_at p l e R s m args below meth c Z x nL t lv st S μ cc ss) : gw_at p l e R s m args below meth c Z x nL pc lv st S μ cc ss := by
  simp only [gw_step] at h
  simp only [gw_lk] at hlk
  split at h
  · simp only [decide_eq_true_eq] at hlk
    obtain ⟨hk1, hk2⟩ := h
    intro H locs ls hr hl
    cases q with
    | eq => exact lv_if_eq F.1 F.2.1 hd hlk (fun z => hK _ _ _ _ _ _ _ (hk1 z) H locs ls hr hl) (fun z => hN _ _ _ _ _ _ (hk2 z) H locs ls hr hl)
    | ne => exact lv_if_ne F.1 F.2.1 hd hlk (fun z => hK _ _ _ _ _ _ _ (hk1 z) H locs ls hr hl) (fun z => hN _ _ _ _ _ _ (hk2 (fun y => y z)) H locs ls hr hl)
    | lt => exact lv_if_lt F.1 F.2.1 hd hlk (fun z => hK _ _ _ _ _ _ _ (hk1 z) H locs ls hr hl) (fun z => hN _ _ _ _ _ _ (hk2 z) H locs ls hr hl)
    | ge => exact lv_if_ge F.1 F.2.1 hd hlk (fun z => hK _ _ _ _ _ _ _ (hk1 z) H locs ls hr hl) (fun z => hN _ _ _ _ _ _ (hk2 z) H locs ls hr hl)
    | gt => exact lv_if_gt F.1 F.2.1 hd hlk (fun z => hK _ _ _ _ _ _ _ (hk1 z) H locs ls hr hl) (fun z => hN _ _ _ _ _ _ (hk2 z) H locs ls hr hl)
    | le => exact lv_if_le F.1 F.2.1 hd hlk (fun z => hK _ _ _ _ _ _ _ (hk1 z) H locs ls hr hl) (fun z => hN _ _ _ _ _ _ (hk2 z) H locs ls hr hl)
  · exact h.elim
theorem gw_s_if_icmp (F : gw_fx p s m args c x nL cb own) (hd : decode cb pc = .ok (.if_icmp q off, 3)) (hlk : gw_lk own nL rt pc (.if_icmp q off) an iv sg = true) (h : gw_step ok x mc ms Q K (.if_icmp q off) an iv sg lv st S μ cc ss N) (hN : ∀ lv st S μ cc ss, N lv st S μ cc ss → gw_at p l e R s m args below meth c Z x nL (pc + 3) lv st S μ cc ss) (hK : ∀ t lv st S μ cc ss, K t lv st S μ cc ss → gw_at p l e R s m args below meth c Z x nL t lv st S μ cc ss) : gw_at p l e R s m args below meth c Z x nL pc lv st S μ cc ss := by
  simp only [gw_step] at h
  simp only [gw_lk] at hlk
  split at h
  · simp only [decide_eq_true_eq] at hlk
    obtain ⟨hk1, hk2⟩ := h
    intro H locs ls hr hl
    cases q with
    | eq => exact lv_icmp_eq F.1 F.2.1 hd hlk (fun z => hK _ _ _ _ _ _ _ (hk1 z) H locs ls hr hl) (fun z => hN _ _ _ _ _ _ (hk2 z) H locs ls hr hl)
    | ne => exact lv_icmp_ne F.1 F.2.1 hd hlk (fun z => hK _ _ _ _ _ _ _ (hk1 z) H locs ls hr hl) (fun z => hN _ _ _ _ _ _ (hk2 (fun y => y z)) H locs ls hr hl)
    | lt => exact lv_icmp_lt F.1 F.2.1 hd hlk (fun z => hK _ _ _ _ _ _ _ (hk1 z) H locs ls hr hl) (fun z => hN _ _ _ _ _ _ (hk2 z) H locs ls hr hl)
    | ge => exact lv_icmp_ge F.1 F.2.1 hd hlk (fun z => hK _ _ _ _ _ _ _ (hk1 z) H locs ls hr hl) (fun z => hN _ _ _ _ _ _ (hk2 z) H locs ls hr hl)
    | gt => exact lv_icmp_gt F.1 F.2.1 hd hlk (fun z => hK _ _ _ _ _ _ _ (hk1 z) H locs ls hr hl) (fun z => hN _ _ _ _ _ _ (hk2 z) H locs ls hr hl)
    | le => exact lv_icmp_le F.1 F.2.1 hd hlk (fun z => hK _ _ _ _ _ _ _ (hk1 z) H locs ls hr hl) (fun z => hN _ _ _ _ _ _ (hk2 z) H locs ls hr hl)
  · exact h.elim
theorem gw_s_ifnull (F : gw_fx p s m args c x nL cb own) (hd : decode cb pc = .ok (.ifnull off, 3)) (hlk : gw_lk own nL rt pc (.ifnull off) an iv sg = true) (h : gw_step ok x mc ms Q K (.ifnull off) an iv sg lv st S μ cc ss N) (hN : ∀ lv st S μ cc ss, N lv st S μ cc ss → gw_at p l e R s m args below meth c Z x nL (pc + 3) lv st S μ cc ss) (hK : ∀ t lv st S μ cc ss, K t lv st S μ cc ss → gw_at p l e R s m args below meth c Z x nL t lv st S μ cc ss) : gw_at p l e R s m args below meth c Z x nL pc lv st S μ cc ss := by
  simp only [gw_step] at h
  simp only [gw_lk] at hlk
  split at h
  · rename_i a t
    simp only [decide_eq_true_eq] at hlk
    intro H locs ls hr hl
    cases a with
    | zero => exact lv_ifnullN F.1 F.2.1 hd hlk (hK _ _ _ _ _ _ _ (h.1 rfl) H locs ls hr hl)
    | succ a => exact lv_ifnull F.1 F.2.1 hd (hN _ _ _ _ _ _ (h.2 (Nat.succ_ne_zero _)) H locs ls hr hl)
  · exact h.elim
theorem gw_s_ifnonnull (F : gw_fx p s m args c x nL cb own) (hd : decode cb pc = .ok (.ifnonnull off, 3)) (hlk : gw_lk own nL rt pc (.ifnonnull off) an iv sg = true) (h : gw_step ok x mc ms Q K (.ifnonnull off) an iv sg lv st S μ cc ss N) (hN : ∀ lv st S μ cc ss, N lv st S μ cc ss → gw_at p l e R s m args below meth c Z x nL (pc + 3) lv st S μ cc ss) (hK : ∀ t lv st S μ cc ss, K t lv st S μ cc ss → gw_at p l e R s m args below meth c Z x nL t lv st S μ cc ss) : gw_at p l e R s m args below meth c Z x nL pc lv st S μ cc ss := by
  simp only [gw_step] at h
  simp only [gw_lk] at hlk
  split at h
  · rename_i a t
    simp only [decide_eq_true_eq] at hlk
    intro H locs ls hr hl
    cases a with
    | zero => exact lv_ifnonnullN F.1 F.2.1 hd (hN _ _ _ _ _ _ (h.2 rfl) H locs ls hr hl)
    | succ a => exact lv_ifnonnull F.1 F.2.1 hd hlk (hK _ _ _ _ _ _ _ (h.1 (Nat.succ_ne_zero _)) H locs ls hr hl)
  · exact h.elim
theorem gw_s_goto (F : gw_fx p s m args c x nL cb own) (hd : decode cb pc = .ok (.goto off, 3)) (hlk : gw_lk own nL rt pc (.goto off) an iv sg = true) (h : gw_step ok x mc ms Q K (.goto off) an iv sg lv st S μ cc ss N) (hN : ∀ lv st S μ cc ss, N lv st S μ cc ss → gw_at p l e R s m args below meth c Z x nL (pc + 3) lv st S μ cc ss) (hK : ∀ t lv st S μ cc ss, K t lv st S μ cc ss → gw_at p l e R s m args below meth c Z x nL t lv st S μ cc ss) : gw_at p l e R s m args below meth c Z x nL pc lv st S μ cc ss := by
  simp only [gw_step] at h
  simp only [gw_lk] at hlk
  split at h
  · simp only [decide_eq_true_eq] at hlk
    intro H locs ls hr hl
    exact lv_goto F.1 F.2.1 hd hlk (hK _ _ _ _ _ _ _ h H locs ls hr hl)
  · exact h.elim
end SND
end
section
/-! ===== soundness: fields, arrays, new cells ===== -/
section SND2
variable {p : Program} {l : Launch} {e : Env} {R : Room} {s : State} {m : MethodId} {args : Array Value} {below : List Frame} {meth : Method} {c : Code} {Z : State → Prop} {x : gw_C} {nL : Nat} {cb : ByteArray} {own : String}
variable {ok : gw_Ok} {mc ms pc : Nat} {Q : Option Value → gw_S → gw_M → Prop} {K : Nat → gw_Kt} {an : List Nat} {iv : List Int32} {sg : List gw_Sig} {lv st : List Value} {S : gw_S} {μ : gw_M} {cc ss : Nat} {N : gw_Kt} {rt : Option FieldType} {j : Nat}
theorem gw_sw_at {K : Nat → Prop} {d : Nat} : ∀ (ts : List Nat) (lo v : Int32) (n : Nat), gw_sw K d ts lo v → -1000 < lo.toInt → lo.toInt + ts.length < 1000 → ts.length = n →
    (∀ (i t : Nat), ts[i]? = some t → v.toInt = lo.toInt + (i : Int) → K t) ∧ (v.toInt < lo.toInt ∨ lo.toInt + ts.length ≤ v.toInt → K d)
  | [], lo, v, n, h, h1, h2, h3 => ⟨fun i t q => by simp at q, fun _ => h⟩
  | t :: ts, lo, v, n, h, h1, h2, h3 => by
    have e1 : (lo + 1).toInt = lo.toInt + 1 := by
      rw [Int32.toInt_add]
      have : (1 : Int32).toInt = 1 := rfl
      rw [this]
      simp only [List.length_cons] at h2
      exact Int.bmod_eq_of_le (by omega) (by omega)
    by_cases hv : v = lo
    · subst hv
      refine ⟨fun i t' q hi => ?_, fun q => ?_⟩
      · have : i = 0 := by omega
        subst this
        cases q
        exact h.1 rfl
      · simp only [List.length_cons] at q
        omega
    · have ih := gw_sw_at ts (lo + 1) v ts.length (h.2 hv) (by omega) (by rw [e1]; simp only [List.length_cons] at h2; omega) rfl
      have hne : v.toInt ≠ lo.toInt := fun q => hv (Int32.toInt_inj.mp q)
      refine ⟨fun i t' q hi => ?_, fun q => ih.2 ?_⟩
      · cases i with
        | zero => omega
        | succ i => exact ih.1 i t' (by simpa using q) (by rw [e1, hi]; omega)
      · rw [e1]
        simp only [List.length_cons] at q
        omega
variable {dflt lo hi : Int} {offs : Array Int} {len : Nat}
theorem gw_s_tableswitch (F : gw_fx p s m args c x nL cb own) (hd : decode cb pc = .ok (.tableswitch dflt lo hi offs, len)) (hlk : gw_lk own nL rt pc (.tableswitch dflt lo hi offs) an iv sg = true) (h : gw_step ok x mc ms Q K (.tableswitch dflt lo hi offs) an iv sg lv st S μ cc ss N) (hN : ∀ lv st S μ cc ss, N lv st S μ cc ss → gw_at p l e R s m args below meth c Z x nL (pc + len) lv st S μ cc ss) (hK : ∀ t lv st S μ cc ss, K t lv st S μ cc ss → gw_at p l e R s m args below meth c Z x nL t lv st S μ cc ss) : gw_at p l e R s m args below meth c Z x nL pc lv st S μ cc ss := by
  simp only [gw_step] at h
  simp only [gw_lk] at hlk
  split at h
  · rename_i d ts w a t
    simp only [Bool.and_eq_true, decide_eq_true_eq] at hlk
    obtain ⟨⟨⟨⟨⟨h1, h2⟩, h3⟩, h4⟩, h5⟩, h6⟩ := hlk
    intro H locs ls hr hl
    obtain ⟨g1, g2⟩ := gw_sw_at ts w a ts.length h (by omega) (by omega) rfl
    by_cases hin : a.toInt < lo ∨ hi < a.toInt
    · refine lv_tableOut F.1 F.2.1 hd hin h1 (hK _ _ _ _ _ _ _ (g2 (by omega)) H locs ls hr hl)
    · have hlt : (a.toInt - lo).toNat < ts.length := by omega
      have ht : ts[(a.toInt - lo).toNat]? = some ts[(a.toInt - lo).toNat] := List.getElem?_eq_getElem hlt
      have e1 : (offs.toList.map (fun o => (pc : Int) + o))[(a.toInt - lo).toNat]? = some ((ts[(a.toInt - lo).toNat] : Nat) : Int) := by
        rw [h3, List.getElem?_map, ht]; rfl
      rw [List.getElem?_map] at e1
      cases ho : offs.toList[(a.toInt - lo).toNat]? with
      | none => rw [ho] at e1; cases e1
      | some off =>
        rw [ho] at e1
        simp only [Option.map_some, Option.some.injEq] at e1
        exact lv_tableIn F.1 F.2.1 hd (by omega) (by omega) (by rw [← Array.getElem?_toList]; exact ho) e1 (hK _ _ _ _ _ _ _ (g1 _ _ ht (by omega)) H locs ls hr hl)
  · exact h.elim
theorem gw_s_getfield (F : gw_fx p s m args c x nL cb own) (hd : decode cb pc = .ok (.getfield j, 3)) (hlk : gw_lk own nL rt pc (.getfield j) an iv sg = true) (h : gw_step ok x mc ms Q K (.getfield j) an iv sg lv st S μ cc ss N) (hN : ∀ lv st S μ cc ss, N lv st S μ cc ss → gw_at p l e R s m args below meth c Z x nL (pc + 3) lv st S μ cc ss) (hK : ∀ t lv st S μ cc ss, K t lv st S μ cc ss → gw_at p l e R s m args below meth c Z x nL t lv st S μ cc ss) : gw_at p l e R s m args below meth c Z x nL pc lv st S μ cc ss := by
  simp only [gw_step] at h
  simp only [gw_lk] at hlk
  have key : ∀ (ci k t0 ti : Nat) (v : Value) (a : Nat) (t : List Value), an = [ci, k, t0, ti] → gw_kd S a = ci → gw_fld x S μ a ci k = gw_v x v → N lv (v :: t) S μ cc ss → gw_at p l e R s m args below meth c Z x nL pc lv (.ref a :: t) S μ cc ss := by
    intro ci k t0 ti v a t han hka hv hn H locs ls hr hl
    subst han
    cases hq : vwCl[ci]? with
    | none => simp [hq] at hlk
    | some q =>
      simp only [hq, Bool.and_eq_true, decide_eq_true_eq] at hlk
      obtain ⟨⟨hk, -⟩, hli⟩ := hlk
      obtain ⟨h1, h2, hc, hra⟩ := gw_kd_ok hr hka (by have := (gw_cls hq).2.2.2.2; omega)
      have hob := hc.2.2.2 q (by rw [hka]; exact hq)
      rw [hka] at hob
      obtain ⟨cell, q1, q2, q3, q4⟩ := hob
      have hKn := F.2.2.2.2.2.1.1 ci q hq
      obtain ⟨hS, hfc, kC, hkC, hkind⟩ := hKn
      obtain ⟨cf, kf, fi, f, hi, hsl⟩ := hS k hk
      have hst := (u_facts hfc hkC (u_lays F.2.2.2.2.1 (gw_cls hq).1 hk) hi).1
      show W p l e R s m args below meth c H locs cc ss Z (F0 m pc ls (gw_v x (.ref a) :: t.map (gw_v x)))
      rw [hra]
      refine W.getf F.1 F.2.1 F.2.2.2.1 (F.2.2.2.2.1 _ (gw_is_spec hli)) hi hst q1 (by rw [q3]; exact fun z => by cases z) (v := gw_v x v) ?_ rfl rfl hd (hN _ _ _ _ _ _ hn H locs ls hr hl)
      rw [hsl, q4 k hk, hv]
  have ftv : ∀ (ci k t0 ti : Nat), an = [ci, k, t0, ti] → t0 = gw_ft (gw_ty ci k) := by
    intro ci k t0 ti han
    subst han
    cases hq : vwCl[ci]? with
    | none => simp [hq] at hlk
    | some q =>
      simp only [hq, Bool.and_eq_true, decide_eq_true_eq] at hlk
      exact hlk.1.2
  split at h
  · rename_i ci k ti a t
    exact key ci k 1 ti _ a t rfl h.1 (by rw [gw_fld, if_pos (ftv ci k 1 ti rfl).symm]) h.2
  · rename_i ci k t0 ti a t hne
    refine key ci k t0 ti _ a t rfl h.1 ?_ h.2
    rw [gw_fld, if_neg]
    · rfl
    · intro hz
      exact hne (by rw [ftv ci k t0 ti rfl]; exact hz)
  · exact h.elim
theorem gw_s_iaload (F : gw_fx p s m args c x nL cb own) (hd : decode cb pc = .ok (.iaload, 1)) (hlk : gw_lk own nL rt pc (.iaload) an iv sg = true) (h : gw_step ok x mc ms Q K (.iaload) an iv sg lv st S μ cc ss N) (hN : ∀ lv st S μ cc ss, N lv st S μ cc ss → gw_at p l e R s m args below meth c Z x nL (pc + 1) lv st S μ cc ss) (hK : ∀ t lv st S μ cc ss, K t lv st S μ cc ss → gw_at p l e R s m args below meth c Z x nL t lv st S μ cc ss) : gw_at p l e R s m args below meth c Z x nL pc lv st S μ cc ss := by
  simp only [gw_step] at h
  split at h
  · rename_i i a t
    obtain ⟨hk, hin, hn⟩ := h
    intro H locs ls hr hl
    obtain ⟨h1, h2, hc, hra⟩ := gw_kd_ok hr hk (by decide)
    show W p l e R s m args below meth c H locs cc ss Z (F0 m pc ls (.int i :: gw_v x (.ref a) :: t.map (gw_v x)))
    rw [hra]
    refine W.iald F.1 F.2.1 (hc.1 hk) ((F.2.2.2.2.2.1.2 0 _ rfl).1 _ _) (fun z => by cases z) (by rw [arrV_size]; exact gw_in_vp hin) (v := .int (μ a i.toNatClampNeg)) (by rw [arrV_read _ _ hin.2]) rfl rfl hd (hN _ _ _ _ _ _ hn H locs ls hr hl)
  · rename_i i t
    obtain ⟨hin, hn⟩ := h
    intro H locs ls hr hl
    obtain ⟨scr, a1, a2, a3, a4, a5⟩ := F.2.2.2.2.2.2.1
    refine W.iald F.1 F.2.1 (a := x.2.2.2.2.2.2.1) (cell := scr) ?_ a2 a3 (by rw [a4]; exact gw_in_vp hin) (a5 _ hin.2) rfl rfl hd (hN _ _ _ _ _ _ hn H locs ls hr hl)
    rw [hr.2.2.2.2.1 _ (by have := hr.2.2.2.1; have := F.2.2.2.2.2.2.2.1; omega)]
    exact a1
  · exact h.elim
theorem gw_s_arraylength (F : gw_fx p s m args c x nL cb own) (hd : decode cb pc = .ok (.arraylength, 1)) (hlk : gw_lk own nL rt pc (.arraylength) an iv sg = true) (h : gw_step ok x mc ms Q K (.arraylength) an iv sg lv st S μ cc ss N) (hN : ∀ lv st S μ cc ss, N lv st S μ cc ss → gw_at p l e R s m args below meth c Z x nL (pc + 1) lv st S μ cc ss) (hK : ∀ t lv st S μ cc ss, K t lv st S μ cc ss → gw_at p l e R s m args below meth c Z x nL t lv st S μ cc ss) : gw_at p l e R s m args below meth c Z x nL pc lv st S μ cc ss := by
  simp only [gw_step] at h
  split at h
  · rename_i a t
    obtain ⟨hk, hn⟩ := h
    intro H locs ls hr hl
    have hk15 : gw_kd S a < 15 := by omega
    obtain ⟨h1, h2, hc, hra⟩ := gw_kd_ok hr rfl hk15
    show W p l e R s m args below meth c H locs cc ss Z (F0 m pc ls (gw_v x (.ref a) :: t.map (gw_v x)))
    rw [hra]
    rcases hk with hk | hk | hk
    · exact W.alen F.1 F.2.1 (hc.1 hk) ((F.2.2.2.2.2.1.2 0 _ rfl).1 _ _) (by rw [arrV_size]) rfl rfl hd (hN _ _ _ _ _ _ hn H locs ls hr hl)
    · exact W.alen F.1 F.2.1 (hc.2.1 hk) ((F.2.2.2.2.2.1.2 1 _ rfl).1 _ _) (by rw [arrV_size]) rfl rfl hd (hN _ _ _ _ _ _ hn H locs ls hr hl)
    · exact W.alen F.1 F.2.1 (hc.2.2.1 hk) ((F.2.2.2.2.2.1.2 2 _ rfl).1 _ _) (by rw [arrV_size]) rfl rfl hd (hN _ _ _ _ _ _ hn H locs ls hr hl)
  · rename_i t
    intro H locs ls hr hl
    obtain ⟨scr, a1, a2, a3, a4, a5⟩ := F.2.2.2.2.2.2.1
    refine W.alen F.1 F.2.1 (a := x.2.2.2.2.2.2.1) (cell := scr) ?_ a2 (by rw [a4]) rfl rfl hd (hN _ _ _ _ _ _ h H locs ls hr hl)
    rw [hr.2.2.2.2.1 _ (by have := hr.2.2.2.1; have := F.2.2.2.2.2.2.2.1; omega)]
    exact a1
  · exact h.elim
theorem gw_s_aaload (F : gw_fx p s m args c x nL cb own) (hd : decode cb pc = .ok (.aaload, 1)) (hlk : gw_lk own nL rt pc (.aaload) an iv sg = true) (h : gw_step ok x mc ms Q K (.aaload) an iv sg lv st S μ cc ss N) (hN : ∀ lv st S μ cc ss, N lv st S μ cc ss → gw_at p l e R s m args below meth c Z x nL (pc + 1) lv st S μ cc ss) (hK : ∀ t lv st S μ cc ss, K t lv st S μ cc ss → gw_at p l e R s m args below meth c Z x nL t lv st S μ cc ss) : gw_at p l e R s m args below meth c Z x nL pc lv st S μ cc ss := by
  simp only [gw_step] at h
  split at h
  · rename_i i a t
    obtain ⟨hk, hin, hn⟩ := h
    intro H locs ls hr hl
    have hk15 : gw_kd S a < 15 := by omega
    obtain ⟨h1, h2, hc, hra⟩ := gw_kd_ok hr rfl hk15
    show W p l e R s m args below meth c H locs cc ss Z (F0 m pc ls (.int i :: gw_v x (.ref a) :: t.map (gw_v x)))
    rw [hra]
    rcases hk with hk | hk
    · exact W.aald F.1 F.2.1 (hc.2.1 hk) ((F.2.2.2.2.2.1.2 1 _ rfl).1 _ _) rfl (fun z => by cases z) (by rw [arrV_size]; exact gw_in_vp hin) (v := gw_v x (.ref (gw_rf S a i.toNatClampNeg))) (by rw [arrV_read _ _ hin.2]) rfl rfl hd (hN _ _ _ _ _ _ hn H locs ls hr hl)
    · exact W.aald F.1 F.2.1 (hc.2.2.1 hk) ((F.2.2.2.2.2.1.2 2 _ rfl).1 _ _) rfl (fun z => by cases z) (by rw [arrV_size]; exact gw_in_vp hin) (v := gw_v x (.ref (gw_rf S a i.toNatClampNeg))) (by rw [arrV_read _ _ hin.2]) rfl rfl hd (hN _ _ _ _ _ _ hn H locs ls hr hl)
  · exact h.elim
theorem gw_up_ne {μ : gw_M} {a k : Nat} {v : Int32} {b : Nat} (h : b ≠ a) (j : Nat) : gw_up μ a k v b j = μ b j := by simp [gw_up, h]
theorem gw_sr_ne {S : gw_S} {a k r : Nat} {b : Nat} (h : b ≠ a) (j : Nat) : gw_rf (gw_sr S a k r) b j = gw_rf S b j := by simp [gw_sr, gw_rf, h]
theorem gw_locs {locs : List Loc} {q : Loc} {a k : Nat} (h : q ∈ locs ++ [(⟨a, k⟩ : Loc)]) : q ∈ locs ∨ q.base = a := by
  rcases List.mem_append.mp h with h | h
  · exact Or.inl h
  · rw [List.mem_singleton.mp h]; exact Or.inr rfl
theorem gw_s_iastore (F : gw_fx p s m args c x nL cb own) (hd : decode cb pc = .ok (.iastore, 1)) (hlk : gw_lk own nL rt pc (.iastore) an iv sg = true) (h : gw_step ok x mc ms Q K (.iastore) an iv sg lv st S μ cc ss N) (hN : ∀ lv st S μ cc ss, N lv st S μ cc ss → gw_at p l e R s m args below meth c Z x nL (pc + 1) lv st S μ cc ss) (hK : ∀ t lv st S μ cc ss, K t lv st S μ cc ss → gw_at p l e R s m args below meth c Z x nL t lv st S μ cc ss) : gw_at p l e R s m args below meth c Z x nL pc lv st S μ cc ss := by
  simp only [gw_step] at h
  split at h
  · rename_i v i a t
    obtain ⟨hk, hin, hn⟩ := h
    intro H locs ls hr hl
    obtain ⟨h1, h2, hc, hra⟩ := gw_kd_ok hr hk (by decide)
    show W p l e R s m args below meth c H locs cc ss Z (F0 m pc ls (.int v :: .int i :: gw_v x (.ref a) :: t.map (gw_v x)))
    rw [hra]
    refine W.iast F.1 F.2.1 (hc.1 hk) ((F.2.2.2.2.2.1.2 0 _ rfl).1 _ _) (fun z => by cases z) (by rw [arrV_size]; exact gw_in_vp hin) rfl rfl hd (fun H1 e1 z1 o1 => ?_)
    refine hN _ _ _ _ _ _ hn H1 _ ls (gw_rep_store hr z1 o1 h1 rfl (fun _ _ _ => rfl) (fun b hb jj => gw_up_ne hb jj) ?_ (fun q hq => gw_locs hq)) hl
    refine ⟨fun _ => ?_, fun z => ?_, fun z => ?_, fun q hq => ?_⟩
    · rw [e1, arrV_store]
      congr 2
      funext jj
      by_cases hj : jj = i.toNatClampNeg
      · subst hj
        simp [updV, gw_up]
      · simp [updV, gw_up, hj]
    · omega
    · omega
    · rw [hk] at hq
      have := (gw_cls hq).2.2.2.2
      omega
  · exact h.elim
theorem gw_s_aastore (F : gw_fx p s m args c x nL cb own) (hd : decode cb pc = .ok (.aastore, 1)) (hlk : gw_lk own nL rt pc (.aastore) an iv sg = true) (h : gw_step ok x mc ms Q K (.aastore) an iv sg lv st S μ cc ss N) (hN : ∀ lv st S μ cc ss, N lv st S μ cc ss → gw_at p l e R s m args below meth c Z x nL (pc + 1) lv st S μ cc ss) (hK : ∀ t lv st S μ cc ss, K t lv st S μ cc ss → gw_at p l e R s m args below meth c Z x nL t lv st S μ cc ss) : gw_at p l e R s m args below meth c Z x nL pc lv st S μ cc ss := by
  simp only [gw_step] at h
  split at h
  · rename_i r i a t
    obtain ⟨hk, hin, hn⟩ := h
    intro H locs ls hr hl
    have hk15 : gw_kd S a < 15 := by omega
    have hr15 : gw_kd S r < 15 := by omega
    obtain ⟨h1, h2, hc, hra⟩ := gw_kd_ok hr rfl hk15
    obtain ⟨g1, g2, hcr, hrr⟩ := gw_kd_ok hr rfl hr15
    show W p l e R s m args below meth c H locs cc ss Z (F0 m pc ls (gw_v x (.ref r) :: .int i :: gw_v x (.ref a) :: t.map (gw_v x)))
    rw [hra, hrr]
    have upd : ∀ cA : ClassId, arrV cA (gw_ln S a) (updV (fun j => gw_v x (.ref (gw_rf S a j))) i.toNatClampNeg (.ref (x.1 + r))) = arrV cA (gw_ln S a) (fun j => gw_v x (.ref (gw_rf (gw_sr S a i.toNatClampNeg r) a j))) := by
      intro cA
      congr 1
      funext jj
      by_cases hj : jj = i.toNatClampNeg
      · subst hj
        simp [updV, gw_sr, gw_rf, ← hrr]
      · simp [updV, gw_sr, gw_rf, hj]
    rcases hk with ⟨hk, hkr⟩ | ⟨hk, hkr⟩
    · obtain ⟨cellV, q1, q2, q3, q4⟩ := hcr.2.2.2 _ (by rw [hkr]; rfl)
      rw [hkr] at q2
      have hcls := (F.2.2.2.2.2.1.1 1 _ rfl).2
      obtain ⟨kA, comp, k1, k2, k3, -⟩ := (F.2.2.2.2.2.1.2 1 _ rfl).2
      have hcomp : comp = x.2.2.1.1 1 := Option.some.inj (k3.symm.trans hcls.1)
      subst hcomp
      obtain ⟨kC, hkC, -⟩ := hcls.2
      refine W.aast F.1 F.2.1 (hc.2.1 hk) (fun q h => by cases h) (fun h => by cases h) k1 k2 rfl hkC ⟨Int32.not_lt.mpr hin.1, by rw [arrV_size]; exact hin.2⟩ q1 (fun q h => by rw [q3] at h; cases h) (by rw [q2]; exact hkC) (by rw [q2]; exact va_assign hcls) rfl rfl hd (fun H1 e1 z1 o1 => ?_)
      refine hN _ _ _ _ _ _ hn H1 _ ls (gw_rep_store hr z1 o1 h1 rfl (fun b hb jj => gw_sr_ne hb jj) (fun _ _ _ => rfl) ?_ (fun q hq => gw_locs hq)) hl
      have hk' : gw_kd (gw_sr S a i.toNatClampNeg r) a = 13 := hk
      refine ⟨fun z => ?_, fun z => ?_, fun z => ?_, fun q hq => ?_⟩
      · omega
      · rw [e1, arrV_store]
        exact congrArg some (upd _)
      · omega
      · rw [hk'] at hq
        have := (gw_cls hq).2.2.2.2
        omega
    · obtain ⟨cellV, q1, q2, q3, q4⟩ := hcr.2.2.2 _ (by rw [hkr]; rfl)
      rw [hkr] at q2
      have hcls := (F.2.2.2.2.2.1.1 3 _ rfl).2
      obtain ⟨kA, comp, k1, k2, k3, -⟩ := (F.2.2.2.2.2.1.2 2 _ rfl).2
      have hcomp : comp = x.2.2.1.1 3 := Option.some.inj (k3.symm.trans hcls.1)
      subst hcomp
      obtain ⟨kC, hkC, -⟩ := hcls.2
      refine W.aast F.1 F.2.1 (hc.2.2.1 hk) (fun q h => by cases h) (fun h => by cases h) k1 k2 rfl hkC ⟨Int32.not_lt.mpr hin.1, by rw [arrV_size]; exact hin.2⟩ q1 (fun q h => by rw [q3] at h; cases h) (by rw [q2]; exact hkC) (by rw [q2]; exact va_assign hcls) rfl rfl hd (fun H1 e1 z1 o1 => ?_)
      refine hN _ _ _ _ _ _ hn H1 _ ls (gw_rep_store hr z1 o1 h1 rfl (fun b hb jj => gw_sr_ne hb jj) (fun _ _ _ => rfl) ?_ (fun q hq => gw_locs hq)) hl
      have hk' : gw_kd (gw_sr S a i.toNatClampNeg r) a = 14 := hk
      refine ⟨fun z => ?_, fun z => ?_, fun z => ?_, fun q hq => ?_⟩
      · omega
      · omega
      · rw [e1, arrV_store]
        exact congrArg some (upd _)
      · rw [hk'] at hq
        have := (gw_cls hq).2.2.2.2
        omega
  · exact h.elim
end SND2
end
section
/-! ===== soundness: fields, arrays, new cells ===== -/
section SND3
variable {p : Program} {l : Launch} {e : Env} {R : Room} {s : State} {m : MethodId} {args : Array Value} {below : List Frame} {meth : Method} {c : Code} {Z : State → Prop} {x : gw_C} {nL : Nat} {cb : ByteArray} {own : String}
variable {ok : gw_Ok} {mc ms pc : Nat} {Q : Option Value → gw_S → gw_M → Prop} {K : Nat → gw_Kt} {an : List Nat} {iv : List Int32} {sg : List gw_Sig} {lv st : List Value} {S : gw_S} {μ : gw_M} {cc ss : Nat} {N : gw_Kt} {rt : Option FieldType} {j : Nat}
theorem gw_s_putfield (F : gw_fx p s m args c x nL cb own) (hin0 : meth.name = "<init>" ∨ ¬ 1 = (an.getD 2 0)) (hd : decode cb pc = .ok (.putfield j, 3)) (hlk : gw_lk own nL rt pc (.putfield j) an iv sg = true) (h : gw_step ok x mc ms Q K (.putfield j) an iv sg lv st S μ cc ss N) (hN : ∀ lv st S μ cc ss, N lv st S μ cc ss → gw_at p l e R s m args below meth c Z x nL (pc + 3) lv st S μ cc ss) (hK : ∀ t lv st S μ cc ss, K t lv st S μ cc ss → gw_at p l e R s m args below meth c Z x nL t lv st S μ cc ss) : gw_at p l e R s m args below meth c Z x nL pc lv st S μ cc ss := by
  simp only [gw_step] at h
  simp only [gw_lk] at hlk
  have fld : ∀ (ci k a : Nat) (S' : gw_S) (μ' : gw_M) (v : Value), S'.2 = S.2 → (∀ k', k' ≠ k → gw_fld x S' μ' a ci k' = gw_fld x S μ a ci k') → gw_fld x S' μ' a ci k = v → ∀ j', updV (gw_fld x S μ a ci) k v j' = gw_fld x S' μ' a ci j' := by
    intro ci k a S' μ' v _ h1 h2 j'
    by_cases hj : j' = k
    · subst hj
      simp [updV, h2]
    · simp [updV, hj, h1 j' hj]
  have cellOf : ∀ (ci k a : Nat) (q : vw_C) (S' : gw_S) (μ' : gw_M) (v : Value) (H1 : Heap) (cell : Cell), vwCl[ci]? = some q → gw_kd S a = ci → k < q.2.2 → S'.2 = S.2 → (∀ k', k' ≠ k → gw_fld x S' μ' a ci k' = gw_fld x S μ a ci k') → gw_fld x S' μ' a ci k = v → cell.cls = x.2.2.1.1 ci → cell.vm = .none → (∀ k', k' < q.2.2 → cell.slots[x.2.2.1.2 ci k']? = some (gw_fld x S μ a ci k')) → H1[x.1 + a]? = some (cell.setSlot (x.2.2.1.2 ci k) v) → gw_cell x S' μ' a H1 := by
    intro ci k a q S' μ' v H1 cell hq hka hk hS2 hf1 hf2 c1 c2 c3 e1
    have hkd' : gw_kd S' a = ci := by rw [← hka]; simp only [gw_kd, hS2]
    have hci := (gw_cls hq).2.2.2.2
    refine ⟨fun z => by omega, fun z => by omega, fun z => by omega, fun q' hq' => ?_⟩
    rw [hkd'] at hq' ⊢
    cases hq.symm.trans hq'
    have hap := va_apart (own := own) F.2.2.2.2.1 (gw_cls hq).1 (gw_ty ci) (gw_cls hq).2.1 (gw_cls hq).2.2.1 F.2.2.2.2.2.1 hq
    exact t_OB.to (V := updV (gw_fld x S μ a ci) k v) ⟨_, e1, c1, c2, t_set c3 hap hk v⟩ (fun j' _ => fld ci k a S' μ' v hS2 hf1 hf2 j')
  split at h
  · rename_i ci k ti r a t
    obtain ⟨hka, hr0, hn⟩ := h
    cases hq : vwCl[ci]? with
    | none => simp [hq] at hlk
    | some q =>
      simp only [hq, Bool.and_eq_true, decide_eq_true_eq] at hlk
      obtain ⟨⟨⟨⟨hk, hft⟩, hfin⟩, hown⟩, hli⟩ := hlk
      intro H locs ls hr hl
      obtain ⟨h1, h2, hc, hra⟩ := gw_kd_ok hr hka (by have := (gw_cls hq).2.2.2.2; omega)
      have hob := hc.2.2.2 q (by rw [hka]; exact hq)
      rw [hka] at hob
      obtain ⟨cell, q1, q2, q3, q4⟩ := hob
      obtain ⟨hS, hfc, kC, hkC, hkind⟩ := F.2.2.2.2.2.1.1 ci q hq
      obtain ⟨cf, kf, fi, f, hi, hsl⟩ := hS k hk
      have hst := (u_facts hfc hkC (u_lays F.2.2.2.2.1 (gw_cls hq).1 hk) hi).1
      have hlay := F.2.2.2.2.1 _ ((gw_cls hq).1 _ (u_in_lay hk))
      unfold u_lay at hlay
      rw [if_pos (by simpa using hfin)] at hlay
      have hcf : m.cls = cf := by
        obtain ⟨_, _, c', _, _, _, -, -, hf', -, -, -, hown2, -⟩ := Cond.laysFinal_spec hlay
        have e1 : c' = cf := by have := hi.symm.trans hf'; simp at this; exact this.1.symm
        rw [hown trivial] at hown2
        rw [← e1]; exact Option.some.inj (F.2.2.2.1.symm.trans hown2)
      have hty : gw_ty ci k = .int ∨ gw_ty ci k = .boolean ∨ ∀ b, narrow (gw_ty ci k) (.ref b) = .ref b ∧ (fits (gw_ty ci k) (.ref b) = true ∨ True) := by
        right; right
        intro b
        cases gw_ty ci k <;> exact ⟨rfl, Or.inr trivial⟩
      have h6 : narrow f.type (Value.ref (x.1 + r)) = Value.ref (x.1 + r) ∧ s.fitsSlot cell.cls .none f.slot (Value.ref (x.1 + r)) = true := by
        rw [q2]
        refine u_fits hfc hkC hkind (Or.inr hlay) hi ((gw_cls hq).2.1 k hk) ?_ ?_
        · cases gw_ty ci k <;> rfl
        · have hfr : ∀ (ci k : Nat), ci < 12 → k < gw_nf ci → gw_ft (gw_ty ci k) = 1 → (∃ n, gw_ty ci k = .object n) ∨ ∃ t, gw_ty ci k = .array t := by
            intro ci k hci hk hf
            have hall : ∀ ci, ci < 12 → ∀ k, k < 15 → k < gw_nf ci → gw_ft (gw_ty ci k) = 1 → (match gw_ty ci k with | .object _ => true | .array _ => true | _ => false) = true := by decide +kernel
            have hn15 : ∀ ci, ci < 12 → gw_nf ci ≤ 15 := by decide
            have := hall ci hci k (by have := hn15 ci hci; omega) hk hf
            cases hgt : gw_ty ci k with
            | object n => exact Or.inl ⟨n, rfl⟩
            | array t => exact Or.inr ⟨t, rfl⟩
            | _ => rw [hgt] at this; cases this
          rcases hfr ci k (gw_cls hq).2.2.2.2 (by rw [← (gw_cls hq).2.2.2.1]; exact hk) hft.symm with ⟨n, hn⟩ | ⟨n, hn⟩ <;> rw [hn] <;> rfl
      have hin1 : meth.name = "<init>" := by
        rcases hin0 with z | z
        · exact z
        · exact absurd rfl z
      show W p l e R s m args below meth c H locs cc ss Z (F0 m pc ls (gw_v x (.ref r) :: gw_v x (.ref a) :: t.map (gw_v x)))
      rw [hra, gw_v_ref x hr0]
      refine W.putFinK F.1 F.2.1 F.2.2.2.1 (F.2.2.2.2.1 _ (gw_is_spec hli)) hi hst hcf hin1 h6 q1 q3 (by rw [hsl]; exact k2_hasslot (q4 k hk)) rfl rfl hd (fun H1 e1 z1 o1 => ?_)
      rw [hsl] at e1
      refine hN _ _ _ _ _ _ hn H1 _ ls (gw_rep_store hr z1 o1 h1 rfl (fun b hb jj => gw_sr_ne hb jj) (fun _ _ _ => rfl) ?_ (fun q hq => gw_locs hq)) hl
      refine cellOf ci k a q _ _ (.ref (x.1 + r)) H1 cell hq hka hk rfl (fun k' hk' => ?_) ?_ q2 q3 q4 e1
      · simp [gw_fld, gw_rf, gw_sr, hk']
      · rw [gw_fld, if_pos hft.symm]
        simp only [gw_rf, gw_sr, and_self, if_true]
        exact gw_v_ref x hr0
  · rename_i ci k ti v a t
    obtain ⟨hka, hv01, hn⟩ := h
    cases hq : vwCl[ci]? with
    | none => simp [hq] at hlk
    | some q =>
      simp only [hq, Bool.and_eq_true, decide_eq_true_eq] at hlk
      obtain ⟨⟨⟨⟨hk, hft⟩, hfin⟩, hown⟩, hli⟩ := hlk
      intro H locs ls hr hl
      obtain ⟨h1, h2, hc, hra⟩ := gw_kd_ok hr hka (by have := (gw_cls hq).2.2.2.2; omega)
      have hob := hc.2.2.2 q (by rw [hka]; exact hq)
      rw [hka] at hob
      obtain ⟨cell, q1, q2, q3, q4⟩ := hob
      obtain ⟨hS, hfc, kC, hkC, hkind⟩ := F.2.2.2.2.2.1.1 ci q hq
      obtain ⟨cf, kf, fi, f, hi, hsl⟩ := hS k hk
      have hst := (u_facts hfc hkC (u_lays F.2.2.2.2.1 (gw_cls hq).1 hk) hi).1
      have hlay := F.2.2.2.2.1 _ ((gw_cls hq).1 _ (u_in_lay hk))
      unfold u_lay at hlay
      rw [if_neg (by simp at hfin; simp [hfin])] at hlay
      have hgt : gw_ty ci k = .boolean := by
        cases hz : gw_ty ci k <;> rw [hz] at hft <;> first | rfl | (simp [gw_ft] at hft)
      have h6 : k2_Sd s f cell.cls (Value.int v) := by
        rw [q2]
        refine u_store hfc hkC hkind hlay hi ((gw_cls hq).2.1 k hk) ?_ ?_
        · rw [hgt]; rcases hv01 with rfl | rfl <;> rfl
        · rw [hgt]; rcases hv01 with rfl | rfl <;> rfl
      show W p l e R s m args below meth c H locs cc ss Z (F0 m pc ls (.int v :: gw_v x (.ref a) :: t.map (gw_v x)))
      rw [hra]
      refine W.putK F.1 F.2.1 (f := f) ⟨F.2.2.2.1, F.2.2.2.2.1 _ (gw_is_spec hli), ⟨_, _, _, hi⟩, hst⟩ h6 q1 q3 (by rw [hsl]; exact k2_hasslot (q4 k hk)) rfl rfl hd (fun H1 e1 z1 o1 => ?_)
      rw [hsl] at e1
      refine hN _ _ _ _ _ _ hn H1 _ ls (gw_rep_store hr z1 o1 h1 rfl (fun _ _ _ => rfl) (fun b hb jj => gw_up_ne hb jj) ?_ (fun q hq => gw_locs hq)) hl
      refine cellOf ci k a q _ _ (.int v) H1 cell hq hka hk rfl (fun k' hk' => ?_) ?_ q2 q3 q4 e1
      · simp [gw_fld, gw_up, hk']
      · rw [gw_fld, if_neg (by rw [← hft]; decide)]
        simp [gw_up]
  · rename_i ci k ti v a t
    obtain ⟨hka, hn⟩ := h
    cases hq : vwCl[ci]? with
    | none => simp [hq] at hlk
    | some q =>
      simp only [hq, Bool.and_eq_true, decide_eq_true_eq] at hlk
      obtain ⟨⟨⟨⟨hk, hft⟩, hfin⟩, hown⟩, hli⟩ := hlk
      intro H locs ls hr hl
      obtain ⟨h1, h2, hc, hra⟩ := gw_kd_ok hr hka (by have := (gw_cls hq).2.2.2.2; omega)
      have hob := hc.2.2.2 q (by rw [hka]; exact hq)
      rw [hka] at hob
      obtain ⟨cell, q1, q2, q3, q4⟩ := hob
      obtain ⟨hS, hfc, kC, hkC, hkind⟩ := F.2.2.2.2.2.1.1 ci q hq
      obtain ⟨cf, kf, fi, f, hi, hsl⟩ := hS k hk
      have hst := (u_facts hfc hkC (u_lays F.2.2.2.2.1 (gw_cls hq).1 hk) hi).1
      have hlay := F.2.2.2.2.1 _ ((gw_cls hq).1 _ (u_in_lay hk))
      unfold u_lay at hlay
      rw [if_neg (by simp at hfin; simp [hfin])] at hlay
      have hgt : gw_ty ci k = .int := by
        cases hz : gw_ty ci k <;> rw [hz] at hft <;> first | rfl | (simp [gw_ft] at hft)
      have h6 : k2_Sd s f cell.cls (Value.int v) := by
        rw [q2]
        refine u_store hfc hkC hkind hlay hi ((gw_cls hq).2.1 k hk) ?_ ?_
        · rw [hgt]; rfl
        · rw [hgt]; rfl
      show W p l e R s m args below meth c H locs cc ss Z (F0 m pc ls (.int v :: gw_v x (.ref a) :: t.map (gw_v x)))
      rw [hra]
      refine W.putK F.1 F.2.1 (f := f) ⟨F.2.2.2.1, F.2.2.2.2.1 _ (gw_is_spec hli), ⟨_, _, _, hi⟩, hst⟩ h6 q1 q3 (by rw [hsl]; exact k2_hasslot (q4 k hk)) rfl rfl hd (fun H1 e1 z1 o1 => ?_)
      rw [hsl] at e1
      refine hN _ _ _ _ _ _ hn H1 _ ls (gw_rep_store hr z1 o1 h1 rfl (fun _ _ _ => rfl) (fun b hb jj => gw_up_ne hb jj) ?_ (fun q hq => gw_locs hq)) hl
      refine cellOf ci k a q _ _ (.int v) H1 cell hq hka hk rfl (fun k' hk' => ?_) ?_ q2 q3 q4 e1
      · simp [gw_fld, gw_up, hk']
      · rw [gw_fld, if_neg (by rw [← hft]; decide)]
        simp [gw_up]
  · exact h.elim
end SND3
end
section
/-! ===== soundness: fields, arrays, new cells ===== -/
section SND4
variable {p : Program} {l : Launch} {e : Env} {R : Room} {s : State} {m : MethodId} {args : Array Value} {below : List Frame} {meth : Method} {c : Code} {Z : State → Prop} {x : gw_C} {nL : Nat} {cb : ByteArray} {own : String}
variable {ok : gw_Ok} {mc ms pc : Nat} {Q : Option Value → gw_S → gw_M → Prop} {K : Nat → gw_Kt} {an : List Nat} {iv : List Int32} {sg : List gw_Sig} {lv st : List Value} {S : gw_S} {μ : gw_M} {cc ss : Nat} {N : gw_Kt} {rt : Option FieldType} {j : Nat}
variable {aty : ArrayType}
theorem gw_s_newarray (F : gw_fx p s m args c x nL cb own) (hRm : mc ≤ R.cells ∧ ms ≤ R.slots) (hac : (Cond.arrayClass .int).before args s = true) (hd : decode cb pc = .ok (.newarray aty, 2)) (hlk : gw_lk own nL rt pc (.newarray aty) an iv sg = true) (h : gw_step ok x mc ms Q K (.newarray aty) an iv sg lv st S μ cc ss N) (hN : ∀ lv st S μ cc ss, N lv st S μ cc ss → gw_at p l e R s m args below meth c Z x nL (pc + 2) lv st S μ cc ss) (hK : ∀ t lv st S μ cc ss, K t lv st S μ cc ss → gw_at p l e R s m args below meth c Z x nL t lv st S μ cc ss) : gw_at p l e R s m args below meth c Z x nL pc lv st S μ cc ss := by
  simp only [gw_step] at h
  simp only [gw_lk, decide_eq_true_eq] at hlk
  subst hlk
  split at h
  · rename_i n t
    obtain ⟨hin, h1, h2, hn⟩ := h
    intro H locs ls hr hl
    refine va_newaK F.1 F.2.1 (atype := .int) hac rfl hd rfl (Int32.not_lt.mpr hin.1) rfl ?_ (by omega) (by omega) (h := x.1 + (gw_nn S + 1)) (by rw [hr.2.2.1]; omega) (fun H1 cA e1 z1 o1 hAr hNm => ?_)
    · have : componentBytes (newarray.typeOf .int) = 4 := rfl
      rw [this]
      have := hin.2
      omega
    · have hcA : cA = x.2.2.2.1 := by
        have := (F.2.2.2.2.2.1.2 0 _ rfl).2
        exact Option.some.inj (hNm.symm.trans this)
      subst hcA
      refine hN _ _ _ _ _ _ hn H1 locs ls (gw_rep_new hr (by rw [z1, hr.2.2.1]; omega) (fun q hq => o1 q (by rw [hr.2.2.1] at hq; omega)) ?_) hl
      have hk : gw_kd (gw_new S 12 n.toNatClampNeg) (gw_nn S + 1) = 12 := by simp [gw_kd, gw_new, gw_nn]
      refine ⟨fun _ => ?_, fun z => by omega, fun z => by omega, fun q hq => ?_⟩
      · rw [e1]
        have e2 : gw_ln (gw_new S 12 n.toNatClampNeg) (gw_nn S + 1) = n.toNatClampNeg := by simp [gw_ln, gw_new, gw_nn]
        rw [e2]
        congr 2
        funext jj
        simp [gw_row]
        rfl
      · rw [hk] at hq
        have := (gw_cls hq).2.2.2.2
        omega
  · exact h.elim
theorem gw_s_anewarray (F : gw_fx p s m args c x nL cb own) (hRm : mc ≤ R.cells ∧ ms ≤ R.slots) (hd : decode cb pc = .ok (.anewarray j, 3)) (hlk : gw_lk own nL rt pc (.anewarray j) an iv sg = true) (h : gw_step ok x mc ms Q K (.anewarray j) an iv sg lv st S μ cc ss N) (hN : ∀ lv st S μ cc ss, N lv st S μ cc ss → gw_at p l e R s m args below meth c Z x nL (pc + 3) lv st S μ cc ss) (hK : ∀ t lv st S μ cc ss, K t lv st S μ cc ss → gw_at p l e R s m args below meth c Z x nL t lv st S μ cc ss) : gw_at p l e R s m args below meth c Z x nL pc lv st S μ cc ss := by
  simp only [gw_step] at h
  simp only [gw_lk] at hlk
  have key : ∀ (C : String) (kd t1 : Nat) (cA' : ClassId) (n : Int32) (t : List Value), an.head? = some kd → (Cond.classLink own j C) ∈ gw_tb → (Cond.arrayOver (.object C)) ∈ gw_nest → va_RA s cA' (.object C) → (kd = 13 ∧ cA' = x.2.2.2.2.1 ∨ kd = 14 ∧ cA' = x.2.2.2.2.2.1) → gw_in n 100000 → cc + 1 ≤ mc → ss + n.toNatClampNeg ≤ ms → N lv (.ref (gw_nn S + 1) :: t) (gw_new S kd n.toNatClampNeg) (gw_row μ (gw_nn S + 1) (fun _ => 0)) (cc + 1) (ss + n.toNatClampNeg) → gw_at p l e R s m args below meth c Z x nL pc lv (.int n :: t) S μ cc ss := by
    intro C kd t1 cA' n t han hc1 hc2 hRA hkd hin h1 h2 hn H locs ls hr hl
    refine W.anew F.1 F.2.1 F.2.2.2.1 (F.2.2.2.2.1 _ hc1) (va_AO.use (F.2.2.2.2.2.2.2.2 _ hc2)) rfl hd rfl (Int32.not_lt.mpr hin.1) (by have := hin.2; omega) (by omega) (by omega) (fun cA kA comp f1 f2 f3 f4 => ?_)
    have hcA : cA = cA' := by
      obtain ⟨kA', comp', -, -, -, g4⟩ := hRA
      exact Option.some.inj (f1.symm.trans g4)
    subst hcA
    generalize hH1 : H.push ({ cls := cA, slots := Array.replicate n.toNatClampNeg .null, vm := .none } : Cell) = H1
    have z1 : H1.size = H.size + 1 := by rw [← hH1, Array.size_push]
    have e1 : H1[H.size]? = some (arrV cA n.toNatClampNeg (fun _ => .null)) := by rw [← hH1, Array.getElem?_push_size, ← arrV_new]
    have o1 : ∀ q : Nat, q < H.size → H1[q]? = H[q]? := fun q hq => by rw [← hH1, Array.getElem?_push, if_neg (Nat.ne_of_lt hq)]
    have eH : H.size = x.1 + (gw_nn S + 1) := by rw [hr.2.2.1]; omega
    rw [eH] at e1 ⊢
    refine hN _ _ _ _ _ _ hn H1 locs ls (gw_rep_new hr z1 o1 ?_) hl
    have hk : gw_kd (gw_new S kd n.toNatClampNeg) (gw_nn S + 1) = kd := by simp [gw_kd, gw_new, gw_nn]
    have e2 : gw_ln (gw_new S kd n.toNatClampNeg) (gw_nn S + 1) = n.toNatClampNeg := by simp [gw_ln, gw_new, gw_nn]
    have e3 : (fun jj => gw_v x (.ref (gw_rf (gw_new S kd n.toNatClampNeg) (gw_nn S + 1) jj))) = fun _ => .null := by
      funext jj
      simp [gw_rf, gw_new, gw_nn, gw_v]
    refine ⟨fun z => by omega, fun z => ?_, fun z => ?_, fun q hq => ?_⟩
    · rw [e1, e2, e3]
      rcases hkd with ⟨_, rfl⟩ | ⟨q, _⟩
      · rfl
      · omega
    · rw [e1, e2, e3]
      rcases hkd with ⟨q, _⟩ | ⟨_, rfl⟩
      · omega
      · rfl
    · rw [hk] at hq
      have := (gw_cls hq).2.2.2.2
      omega
  split at h
  · rename_i kd rest n t
    obtain ⟨hin, h1, h2, hn⟩ := h
    split at hlk
    · rename_i heq
      cases heq
      simp only [Bool.or_eq_true, Bool.and_eq_true, decide_eq_true_eq] at hlk
      rcases hlk with ⟨⟨rfl, c1⟩, c2⟩ | ⟨⟨rfl, c1⟩, c2⟩
      · exact key RX1 13 0 _ n t rfl (gw_is_spec c1) (gw_in1_spec c2) (F.2.2.2.2.2.1.2 1 _ rfl).2 (Or.inl ⟨rfl, rfl⟩) hin h1 h2 hn
      · exact key RX3 14 0 _ n t rfl (gw_is_spec c1) (gw_in1_spec c2) (F.2.2.2.2.2.1.2 2 _ rfl).2 (Or.inr ⟨rfl, rfl⟩) hin h1 h2 hn
    · cases hlk
  · exact h.elim
theorem gw_dflt : ∀ ci, ci < 12 → ∀ k, k < 15 → k < gw_nf ci → defaultValue (gw_ty ci k) = if gw_ft (gw_ty ci k) = 1 then .null else .int 0 := by decide +kernel
theorem gw_nf15 : ∀ ci, ci < 12 → gw_nf ci ≤ 15 := by decide
theorem gw_s_new (F : gw_fx p s m args c x nL cb own) (hRm : mc ≤ R.cells ∧ ms ≤ R.slots) (hd : decode cb pc = .ok (.new j, 3)) (hlk : gw_lk own nL rt pc (.new j) an iv sg = true) (h : gw_step ok x mc ms Q K (.new j) an iv sg lv st S μ cc ss N) (hN : ∀ lv st S μ cc ss, N lv st S μ cc ss → gw_at p l e R s m args below meth c Z x nL (pc + 3) lv st S μ cc ss) (hK : ∀ t lv st S μ cc ss, K t lv st S μ cc ss → gw_at p l e R s m args below meth c Z x nL t lv st S μ cc ss) : gw_at p l e R s m args below meth c Z x nL pc lv st S μ cc ss := by
  simp only [gw_step] at h
  simp only [gw_lk] at hlk
  split at h
  · rename_i ci rest
    obtain ⟨h1, h2, hn⟩ := h
    split at hlk
    · rename_i heq
      cases heq
      cases hq : vwCl[ci]? with
      | none => simp [hq] at hlk
      | some q =>
        simp only [hq, Bool.and_eq_true] at hlk
        obtain ⟨⟨c1, c2⟩, c3⟩ := hlk
        intro H locs ls hr hl
        have hKn := F.2.2.2.2.2.1.1 ci q hq
        have hnf := (gw_cls hq).2.2.2.1
        have hci := (gw_cls hq).2.2.2.2
        refine W.widen (k := cc) (n := ss) (Nat.le_refl _) (Nat.le_refl _) ?_
        refine W.newcK F.1 F.2.1 F.2.2.2.1 (F.2.2.2.2.1 _ (gw_is_spec c1)) (F.2.2.2.2.1 _ (gw_is_spec c2)) (F.2.2.2.2.1 _ (gw_is_spec c3)) rfl hd (by omega) (by rw [hnf]; omega) hKn.2.1 (h := x.1 + (gw_nn S + 1)) (by rw [hr.2.2.1]; omega) (fun H1 kC hkC e1 z1 o1 => ?_)
        rw [hnf]
        refine hN _ _ _ _ _ _ hn H1 locs ls (gw_rep_new hr (by rw [z1, hr.2.2.1]; omega) (fun q hq => o1 q (by rw [hr.2.2.1] at hq; omega)) ?_) hl
        have hk : gw_kd (gw_new S ci 0) (gw_nn S + 1) = ci := by simp [gw_kd, gw_new, gw_nn]
        refine ⟨fun z => by omega, fun z => by omega, fun z => by omega, fun q' hq' => ?_⟩
        rw [hk] at hq' ⊢
        cases hq.symm.trans hq'
        refine (u_born (gw_ty ci) F.2.2.2.2.1 (gw_cls hq).1 hKn hkC e1 (gw_cls hq).2.1).to (fun k hk => ?_)
        rw [gw_dflt ci hci k (by have := gw_nf15 ci hci; omega) (by omega)]
        simp only [gw_fld]
        split
        · simp [gw_rf, gw_new, gw_nn, gw_v]
        · simp [gw_row]
    · cases hlk
  · exact h.elim
end SND4
end
section
/-! ===== soundness: fields, arrays, new cells ===== -/
section SND5
variable {p : Program} {l : Launch} {e : Env} {R : Room} {s : State} {m : MethodId} {args : Array Value} {below : List Frame} {meth : Method} {c : Code} {Z : State → Prop} {x : gw_C} {nL : Nat} {cb : ByteArray} {own : String}
variable {d : Nat} {mc ms pc : Nat} {Q : Option Value → gw_S → gw_M → Prop} {K : Nat → gw_Kt} {an : List Nat} {iv : List Int32} {sg : List gw_Sig} {lv st : List Value} {S : gw_S} {μ : gw_M} {cc ss : Nat} {N : gw_Kt} {rt : Option FieldType} {j : Nat}
theorem gw_r8_sum (x : gw_C) : ∀ (l : List Value) (n : Nat), gw_r8 l n = true → ((l.map (gw_v x)).map fun v => v.category).sum ≤ n
  | [], n, _ => by simp
  | v :: l, 0, h => by cases v <;> simp [gw_r8] at h
  | v :: l, n + 1, h => by
    have hc : v.category = 1 ∧ gw_r8 l n = true := by
      cases v <;> simp [gw_r8] at h <;> exact ⟨rfl, h⟩
    have := gw_r8_sum x l n hc.2
    have h2 := gw_v_cat x hc.1
    simp only [List.map_cons, List.sum_cons, h2]
    omega
theorem gw_nth_split : ∀ (l : List Value) (n : Nat) (v : Value), gw_nth l n = v → v ≠ .retAddr 0 → l = l.take n ++ v :: l.drop (n + 1) ∧ n < l.length
  | [], n, v, h, hv => absurd h.symm hv
  | w :: l, 0, v, h, hv => by
    subst h
    simp [gw_nth]
  | w :: l, n + 1, v, h, hv => by
    obtain ⟨h1, h2⟩ := gw_nth_split l n v h hv
    refine ⟨?_, by simp; exact h2⟩
    simp only [List.take_succ_cons, List.drop_succ_cons, List.cons_append]
    rw [← h1]
theorem gw_blind (x : gw_C) (av : List Value) (S : gw_S) (μ : gw_M) : FrameBlind (va_Pc av (gw_wd x S μ)) := fun a U g mk q => ⟨q.1, q.2.1, gw_kk_same (u := U) (U := U.calling g mk a) rfl q.2.2⟩
theorem gw_pre {as : List Value} {H : Heap} {locs : List Loc} (hr : gw_rep x S μ H locs) (hk : gw_kk x s) : ∀ U : State, U.heap = H → s.WarmedH U.vm → va_Pc as (gw_wd x S μ) as.toArray U := fun U hU hW => ⟨rfl, by rw [hU]; exact ⟨hr.1, hr.2.1, hr.2.2.1, hr.2.2.2.1, hr.2.2.2.2.1, fun q hq => by cases hq⟩, gw_kk_moved hW hk⟩
theorem gw_callrow {mc' ms' : Nat} {ls : Array Slot} {st0 rest : List Value} {H : Heap} {locs : List Loc} {a : Array Value} {Q' : Option Value → gw_S → gw_M → Prop} (hr : va_Run p l e R s m args below meth c H locs cc ss mc' ms' (F0 m pc ls st0) rest (gw_qc x Q' a) (gw_A x)) (hloc : ∀ q ∈ locs, x.1 < q.base)
    (kk : ∀ (r : Option Value) (S' : gw_S) (μ' : gw_M) (H1 : Heap) (locs1 : List Loc), Q' r S' μ' → gw_rep x S' μ' H1 locs1 → W p l e R s m args below meth c H1 locs1 (cc + mc') (ss + ms') Z (F0 m (pc + 3) ls ((r.map (gw_v x)).toList ++ rest))) : W p l e R s m args below meth c H locs cc ss Z (F0 m pc ls st0) := by
  intro T hT X
  obtain ⟨v, st₀, t, T', L, h0, X', hL, e1, e2, ⟨r, S', μ', hv, hq, hw⟩, st⟩ := hr T hT X
  cases hv
  obtain ⟨t2, a1, b1⟩ := kk r S' μ' T'.heap (locs ++ L) hq (by
    rw [e1]
    obtain ⟨⟨w1, w2, w3, w4, w5, w6⟩, -⟩ := hw
    exact ⟨w1, w2, w3, w4, w5, fun q hq => (List.mem_append.mp hq).elim (hloc q) (hL q)⟩) T' rfl X'
  exact ⟨t2, st t2 a1, b1⟩
theorem gw_good {g : gw_Sig} (h : Cond.code g.1 g.2.1 g.2.2.1 g.2.2.2 ∈ gw_tb) : GoodIn gw_tb (gw_wsg g) := fun w hw => by
  have hm : w ∈ gw_tb := (List.mem_cons.mp hw).elim (fun e => e ▸ h) id
  exact ⟨hm, good_of_word (gw_tb_good w hm)⟩
theorem gw_call_spec {g : gw_Sig} {n : Nat} (h : gw_call g n = true) : (g.1.cls ≠ "java/lang/invoke/MethodHandle" ∧ g.1.cls ≠ "java/lang/invoke/VarHandle" ∧ (parseMethodDescriptor g.1.desc).map (fun d => d.parameters.length) = some n) ∧ g.2.2.1 ≤ 20 := by
  simp only [gw_call, Bool.and_eq_true, decide_eq_true_eq] at h
  exact ⟨⟨h.1.1.1, h.1.1.2, h.1.2⟩, h.2⟩
theorem gw_ret_map (r : Option Value) (t : List Value) : (r.map (gw_v x)).toList ++ t.map (gw_v x) = (r.toList ++ t).map (gw_v x) := by cases r <;> rfl
theorem gw_s_invokevirtual (F : gw_fx p s m args c x nL cb own) (hRm : mc ≤ R.cells ∧ ms ≤ R.slots) (hRf : d + 1 ≤ R.frames ∧ 40 * d + 40 ≤ R.locals) (hd : decode cb pc = .ok (.invokevirtual j, 3)) (hlk : gw_lk own nL rt pc (.invokevirtual j) an iv sg = true) (h : gw_step (gw_ok l x d) x mc ms Q K (.invokevirtual j) an iv sg lv st S μ cc ss N) (hN : ∀ lv st S μ cc ss, N lv st S μ cc ss → gw_at p l e R s m args below meth c Z x nL (pc + 3) lv st S μ cc ss) (hK : ∀ t lv st S μ cc ss, K t lv st S μ cc ss → gw_at p l e R s m args below meth c Z x nL t lv st S μ cc ss) : gw_at p l e R s m args below meth c Z x nL pc lv st S μ cc ss := by
  simp only [gw_step] at h
  simp only [gw_lk] at hlk
  split at h
  · rename_i n ci rest0 g
    cases hv : gw_nth st n with
    | ref a =>
      rw [hv] at h
      obtain ⟨hka, hr8, mc', ms', hm1, hm2, hcode, hM⟩ := h
      obtain ⟨hsp, hlt⟩ := gw_nth_split st n _ hv (fun z => by cases z)
      split at hlk
      · rename_i heq1 heq2
        cases heq1
        cases heq2
        cases hq : vwCl[ci]? with
        | none => simp [hq] at hlk
        | some q =>
          simp only [hq, Bool.and_eq_true, decide_eq_true_eq] at hlk
          obtain ⟨⟨⟨⟨⟨c0, c1⟩, c2⟩, c3⟩, c4⟩, c5⟩ := hlk
          obtain ⟨cd, cl⟩ := gw_call_spec c1
          intro H locs ls hr hl
          obtain ⟨g1, g2, hc, hra⟩ := gw_kd_ok hr hka (by have := (gw_cls hq).2.2.2.2; omega)
          have hob := hc.2.2.2 q (by rw [hka]; exact hq)
          rw [hka] at hob
          obtain ⟨cell, q1, q2, q3, q4⟩ := hob
          refine gw_callrow (mc' := mc') (ms' := ms') (rest := (st.drop (n + 1)).map (gw_v x)) (va_runV (bytes := g.2.1) (maxL := g.2.2.1) (ret := g.2.2.2) (n := n) (As := ((st.take n).reverse).map (gw_v x)) (b := x.1 + a) (C := q.1) ⟨F.1, F.2.1, F.2.2.1, F.2.2.2.1, F.2.2.2.2.1⟩ hM ?_ ⟨gw_blind x _ S μ, ⟨cell, q1, by rw [q3]; rfl, ?_⟩, ?_⟩ rfl ?_ hl.1 ?_ (lv_room (gw_r8_sum x _ _ hr8)) hd ⟨by omega, by omega⟩) hr.2.2.2.2.2 ?_
          · exact ⟨callB_of n F.2.2.2.2.1 (gw_good hcode) rfl rfl rfl (by rw [c0]; exact F.2.2.2.2.1 _ (gw_is_spec c5)) (F.2.2.2.2.1 _ (gw_is_spec c2)) cd ⟨hRf.1, by show 8 + (g.2.2.1 + 11) + 40 * d ≤ R.locals; omega⟩, F.2.2.2.2.1 _ (gw_is_spec c3), F.2.2.2.2.1 _ (gw_is_spec c4)⟩
          · rw [q2]; exact (F.2.2.2.2.2.1.1 ci q hq).2.1
          · have := gw_pre (as := (gw_v x (.ref a)) :: ((st.take n).reverse).map (gw_v x)) hr F.2.2.2.2.2
            rw [hra] at this
            simpa only [List.map_cons, hra] using this
          · simp only [List.length_map, List.length_reverse, List.length_take]
            omega
          · show st.map (gw_v x) = _
            rw [← List.map_reverse, List.reverse_reverse, ← hra, ← List.map_cons, ← List.map_append, ← hsp]
          · intro r S' μ' H1 locs1 hq' hr'
            rw [gw_ret_map]
            exact hN _ _ _ _ _ _ hq' H1 locs1 ls hr' hl
      · cases hlk
    | retAddr v =>
      rw [hv] at h
      match v, h with
      | 0, h => exact h.elim
      | 1, h => exact h.elim
      | _ + 2, h => exact h.elim
    | _ => rw [hv] at h; exact h.elim
  · exact h.elim
theorem gw_st0 {n : Nat} {g : gw_Sig} (F : gw_fx p s m args c x nL cb own) (hRm : mc ≤ R.cells ∧ ms ≤ R.slots) (hRf : d + 1 ≤ R.frames ∧ 40 * d + 40 ≤ R.locals) (hd : decode cb pc = .ok (.invokestatic j, 3)) (c1 : gw_call g n = true) {t1 t2 t3 : Nat} (c2 : gw_is t1 (.methodLink own j g.1) = true) (c3 : gw_is t2 (.static g.1) = true) (c4 : gw_is t3 (.initialized g.1.cls) = true)
    (h : gw_r8 (st.drop n) 8 = true ∧ n ≤ st.length ∧ ∃ mc' ms', cc + mc' ≤ mc ∧ ss + ms' ≤ ms ∧ gw_ok l x d g mc' ms' (st.take n).reverse S μ (fun r S' μ' => N lv (r.toList ++ st.drop n) S' μ' (cc + mc') (ss + ms'))) (hN : ∀ lv st S μ cc ss, N lv st S μ cc ss → gw_at p l e R s m args below meth c Z x nL (pc + 3) lv st S μ cc ss) : gw_at p l e R s m args below meth c Z x nL pc lv st S μ cc ss := by
  obtain ⟨hr8, hlen, mc', ms', hm1, hm2, hcode, hM⟩ := h
  obtain ⟨cd, cl⟩ := gw_call_spec c1
  intro H locs ls hr hl
  refine gw_callrow (mc' := mc') (ms' := ms') (rest := (st.drop n).map (gw_v x)) (va_runS (As := ((st.take n).reverse).map (gw_v x)) ⟨F.1, F.2.1, F.2.2.1, F.2.2.2.1, F.2.2.2.2.1⟩ hM ⟨callB_of n F.2.2.2.2.1 (gw_good hcode) rfl rfl rfl (F.2.2.2.2.1 _ (gw_is_spec c4)) (F.2.2.2.2.1 _ (gw_is_spec c2)) cd ⟨hRf.1, by show 8 + (g.2.2.1 + 11) + 40 * d ≤ R.locals; omega⟩, F.2.2.2.2.1 _ (gw_is_spec c3)⟩ ⟨gw_blind x _ S μ, gw_pre hr F.2.2.2.2.2⟩ rfl ?_ hl.1 ?_ (lv_room (gw_r8_sum x _ _ hr8)) hd ⟨by omega, by omega⟩) hr.2.2.2.2.2 ?_
  · simp only [List.length_map, List.length_reverse, List.length_take]
    omega
  · show st.map (gw_v x) = _
    rw [← List.map_reverse, List.reverse_reverse, ← List.map_append, List.take_append_drop]
  · intro r S' μ' H1 locs1 hq' hr'
    rw [gw_ret_map]
    exact hN _ _ _ _ _ _ hq' H1 locs1 ls hr' hl
theorem gw_sp0 {n a : Nat} {g : gw_Sig} (F : gw_fx p s m args c x nL cb own) (hRm : mc ≤ R.cells ∧ ms ≤ R.slots) (hRf : d + 1 ≤ R.frames ∧ 40 * d + 40 ≤ R.locals) (hd : decode cb pc = .ok (.invokespecial j, 3)) (c1 : gw_call g n = true) (hnm : g.1.name = "<init>") (hrt : g.2.2.2 = none) {t1 t2 t3 : Nat} (c2 : gw_is t1 (.methodLink own j g.1) = true) (c3 : gw_is t2 (.instanceMethod g.1) = true) (c4 : gw_is t3 (.initialized g.1.cls) = true) (hv : gw_nth st n = .ref a)
    (h : ¬ a = 0 ∧ gw_r8 (st.drop (n + 1)) 8 = true ∧ ∃ mc' ms', cc + mc' ≤ mc ∧ ss + ms' ≤ ms ∧ gw_ok l x d g mc' ms' (.ref a :: (st.take n).reverse) S μ (fun r S' μ' => N lv (r.toList ++ st.drop (n + 1)) S' μ' (cc + mc') (ss + ms'))) (hN : ∀ lv st S μ cc ss, N lv st S μ cc ss → gw_at p l e R s m args below meth c Z x nL (pc + 3) lv st S μ cc ss) : gw_at p l e R s m args below meth c Z x nL pc lv st S μ cc ss := by
  obtain ⟨ha, hr8, mc', ms', hm1, hm2, hcode, hM⟩ := h
  obtain ⟨hsp, hlt⟩ := gw_nth_split st n _ hv (fun z => by cases z)
  obtain ⟨cd, cl⟩ := gw_call_spec c1
  have hra := gw_v_ref x ha
  intro H locs ls hr hl
  refine gw_callrow (mc' := mc') (ms' := ms') (rest := (st.drop (n + 1)).map (gw_v x)) (va_runI (As := ((st.take n).reverse).map (gw_v x)) (b := x.1 + a) ⟨F.1, F.2.1, F.2.2.1, F.2.2.2.1, F.2.2.2.2.1⟩ hM ⟨callB_of n F.2.2.2.2.1 (gw_good hcode) (by rw [gw_wsg, hrt]) rfl rfl (F.2.2.2.2.1 _ (gw_is_spec c4)) (F.2.2.2.2.1 _ (gw_is_spec c2)) cd ⟨hRf.1, by show 8 + (g.2.2.1 + 11) + 40 * d ≤ R.locals; omega⟩, hnm, F.2.2.2.2.1 _ (gw_is_spec c3)⟩ ⟨gw_blind x _ S μ, ?_⟩ rfl ?_ hl.1 ?_ (lv_room (gw_r8_sum x _ _ hr8)) hd ⟨by omega, by omega⟩) hr.2.2.2.2.2 ?_
  · have := gw_pre (as := (gw_v x (.ref a)) :: ((st.take n).reverse).map (gw_v x)) hr F.2.2.2.2.2
    rw [hra] at this
    simpa only [List.map_cons, hra] using this
  · simp only [List.length_map, List.length_reverse, List.length_take]
    omega
  · show st.map (gw_v x) = _
    rw [← List.map_reverse, List.reverse_reverse, ← hra, ← List.map_cons, ← List.map_append, ← hsp]
  · intro r S' μ' H1 locs1 hq' hr'
    rw [gw_ret_map]
    exact hN _ _ _ _ _ _ hq' H1 locs1 ls hr' hl
theorem gw_st1 {n : Nat} {g : gw_Sig} (F : gw_fx p s m args c x nL cb own) (hRm : mc ≤ R.cells ∧ ms ≤ R.slots) (hRf : d + 1 ≤ R.frames ∧ 40 * d + 40 ≤ R.locals) (hd : decode cb pc = .ok (.invokestatic j, 3)) (c1 : gw_call g n = true) {t1 t2 t3 : Nat} (c2 : gw_in1 t1 (.methodLinkNest own j g.1 RX10) = true) (c3 : gw_is t2 (.static g.1) = true) (c4 : gw_is t3 (.initialized g.1.cls) = true)
    (h : gw_r8 (st.drop n) 8 = true ∧ n ≤ st.length ∧ ∃ mc' ms', cc + mc' ≤ mc ∧ ss + ms' ≤ ms ∧ gw_ok l x d g mc' ms' (st.take n).reverse S μ (fun r S' μ' => N lv (r.toList ++ st.drop n) S' μ' (cc + mc') (ss + ms'))) (hN : ∀ lv st S μ cc ss, N lv st S μ cc ss → gw_at p l e R s m args below meth c Z x nL (pc + 3) lv st S μ cc ss) : gw_at p l e R s m args below meth c Z x nL pc lv st S μ cc ss := by
  obtain ⟨hr8, hlen, mc', ms', hm1, hm2, hcode, hM⟩ := h
  obtain ⟨cd, cl⟩ := gw_call_spec c1
  intro H locs ls hr hl
  refine gw_callrow (mc' := mc') (ms' := ms') (rest := (st.drop n).map (gw_v x)) (va_runSN (host := RX10) (As := ((st.take n).reverse).map (gw_v x)) ⟨F.1, F.2.1, F.2.2.1, F.2.2.2.1, F.2.2.2.2.1⟩ hM ⟨va_cnB n F.2.2.2.2.1 (gw_good hcode) rfl rfl rfl (F.2.2.2.2.2.2.2.2 _ (gw_in1_spec c2)) (F.2.2.2.2.1 _ (gw_is_spec c4)) cd ⟨hRf.1, by show 8 + (g.2.2.1 + 11) + 40 * d ≤ R.locals; omega⟩, F.2.2.2.2.1 _ (gw_is_spec c3), trivial⟩ ⟨gw_blind x _ S μ, gw_pre hr F.2.2.2.2.2⟩ rfl ?_ hl.1 ?_ (lv_room (gw_r8_sum x _ _ hr8)) hd ⟨by omega, by omega⟩) hr.2.2.2.2.2 ?_
  · simp only [List.length_map, List.length_reverse, List.length_take]
    omega
  · show st.map (gw_v x) = _
    rw [← List.map_reverse, List.reverse_reverse, ← List.map_append, List.take_append_drop]
  · intro r S' μ' H1 locs1 hq' hr'
    rw [gw_ret_map]
    exact hN _ _ _ _ _ _ hq' H1 locs1 ls hr' hl
theorem gw_sp1 {n a : Nat} {g : gw_Sig} (F : gw_fx p s m args c x nL cb own) (hRm : mc ≤ R.cells ∧ ms ≤ R.slots) (hRf : d + 1 ≤ R.frames ∧ 40 * d + 40 ≤ R.locals) (hd : decode cb pc = .ok (.invokespecial j, 3)) (c1 : gw_call g n = true) (hnm : g.1.name = "<init>") (hrt : g.2.2.2 = none) {t1 t2 t3 : Nat} (c2 : gw_in1 t1 (.methodLinkNest own j g.1 RX10) = true) (c3 : gw_is t2 (.instanceMethod g.1) = true) (c4 : gw_is t3 (.initialized g.1.cls) = true) (hv : gw_nth st n = .ref a)
    (h : ¬ a = 0 ∧ gw_r8 (st.drop (n + 1)) 8 = true ∧ ∃ mc' ms', cc + mc' ≤ mc ∧ ss + ms' ≤ ms ∧ gw_ok l x d g mc' ms' (.ref a :: (st.take n).reverse) S μ (fun r S' μ' => N lv (r.toList ++ st.drop (n + 1)) S' μ' (cc + mc') (ss + ms'))) (hN : ∀ lv st S μ cc ss, N lv st S μ cc ss → gw_at p l e R s m args below meth c Z x nL (pc + 3) lv st S μ cc ss) : gw_at p l e R s m args below meth c Z x nL pc lv st S μ cc ss := by
  obtain ⟨ha, hr8, mc', ms', hm1, hm2, hcode, hM⟩ := h
  obtain ⟨hsp, hlt⟩ := gw_nth_split st n _ hv (fun z => by cases z)
  obtain ⟨cd, cl⟩ := gw_call_spec c1
  have hra := gw_v_ref x ha
  intro H locs ls hr hl
  refine gw_callrow (mc' := mc') (ms' := ms') (rest := (st.drop (n + 1)).map (gw_v x)) (va_runIN (host := RX10) (As := ((st.take n).reverse).map (gw_v x)) (b := x.1 + a) ⟨F.1, F.2.1, F.2.2.1, F.2.2.2.1, F.2.2.2.2.1⟩ hM ⟨va_cnB n F.2.2.2.2.1 (gw_good hcode) (by rw [gw_wsg, hrt]) rfl rfl (F.2.2.2.2.2.2.2.2 _ (gw_in1_spec c2)) (F.2.2.2.2.1 _ (gw_is_spec c4)) cd ⟨hRf.1, by show 8 + (g.2.2.1 + 11) + 40 * d ≤ R.locals; omega⟩, hnm, F.2.2.2.2.1 _ (gw_is_spec c3)⟩ ⟨gw_blind x _ S μ, ?_⟩ rfl ?_ hl.1 ?_ (lv_room (gw_r8_sum x _ _ hr8)) hd ⟨by omega, by omega⟩) hr.2.2.2.2.2 ?_
  · have := gw_pre (as := (gw_v x (.ref a)) :: ((st.take n).reverse).map (gw_v x)) hr F.2.2.2.2.2
    rw [hra] at this
    simpa only [List.map_cons, hra] using this
  · simp only [List.length_map, List.length_reverse, List.length_take]
    omega
  · show st.map (gw_v x) = _
    rw [← List.map_reverse, List.reverse_reverse, ← hra, ← List.map_cons, ← List.map_append, ← hsp]
  · intro r S' μ' H1 locs1 hq' hr'
    rw [gw_ret_map]
    exact hN _ _ _ _ _ _ hq' H1 locs1 ls hr' hl
end SND5
end
section
/-! ===== soundness: fields, arrays, new cells ===== -/
section SND6
variable {p : Program} {l : Launch} {e : Env} {R : Room} {s : State} {m : MethodId} {args : Array Value} {below : List Frame} {meth : Method} {c : Code} {Z : State → Prop} {x : gw_C} {nL : Nat} {cb : ByteArray} {own : String}
variable {d : Nat} {mc ms pc : Nat} {Q : Option Value → gw_S → gw_M → Prop} {K : Nat → gw_Kt} {an : List Nat} {iv : List Int32} {sg : List gw_Sig} {lv st : List Value} {S : gw_S} {μ : gw_M} {cc ss : Nat} {N : gw_Kt} {rt : Option FieldType} {j : Nat}
theorem gw_ac : Cond.arrayClass .int ∈ gw_tb := gw_mem (i := 165) (by decide +kernel) rfl
theorem gw_nonneg {z : Int32} (h : 0 ≤ z) : z.toInt = (z.toNatClampNeg : Int) := by
  have h0 : (0 : Int) ≤ z.toInt := by simpa using Int32.le_iff_toInt_le.mp h
  show z.toInt = ((z.toInt.toNat : Nat) : Int)
  omega
/-- ints of one row into another -/
theorem gw_arraycopy {a b : Nat} {sp dp n : Int32} (F : gw_fx p s m args c x nL cb own) (hRf : d + 1 ≤ R.frames ∧ 40 * d + 40 ≤ R.locals) (hd : decode cb pc = .ok (.invokestatic j, 3)) {t1 t2 t3 t4 : Nat} (c1 : gw_is t1 (.methodLink own j arraycopyName) = true) (c2 : gw_is t2 (.native arraycopyName) = true) (c3 : gw_is t3 (.static arraycopyName) = true) (c4 : gw_is t4 (.initialized "java/lang/System") = true)
    (hka : gw_kd S a = 12) (hkb : gw_kd S b = 12) (h1 : 0 ≤ sp) (h2 : 0 ≤ dp) (h3 : 0 ≤ n) (h4 : sp.toNatClampNeg + n.toNatClampNeg ≤ gw_ln S a) (h5 : dp.toNatClampNeg + n.toNatClampNeg ≤ gw_ln S b) (hn : N lv [] S (gw_cpy μ a b sp.toNatClampNeg dp.toNatClampNeg n.toNatClampNeg) cc ss) (hN : ∀ lv st S μ cc ss, N lv st S μ cc ss → gw_at p l e R s m args below meth c Z x nL (pc + 3) lv st S μ cc ss) : gw_at p l e R s m args below meth c Z x nL pc lv [.int n, .int dp, .ref b, .int sp, .ref a] S μ cc ss := by
  intro H locs ls hr hl T hT X
  obtain ⟨a1, a2, hca, hra⟩ := gw_kd_ok hr hka (by decide)
  obtain ⟨b1, b2, hcb, hrb⟩ := gw_kd_ok hr hkb (by decide)
  have hA := hca.1 hka
  have hB := hcb.1 hkb
  obtain ⟨-, k0, hk0, cm0, hkk0⟩ := (F.2.2.2.2.2.1.2 0 _ rfl).1 (gw_ln S a) (fun j => .int (μ a j))
  obtain ⟨-, k1, hk1, cm1, hkk1⟩ := (F.2.2.2.2.2.1.2 0 _ rfl).1 (gw_ln S b) (fun j => .int (μ b j))
  obtain ⟨vm', X', step⟩ := X.arraycopy F.1 F.2.2.2.1 (F.2.2.2.2.1 _ (gw_is_spec c1)) (F.2.2.2.2.1 _ (gw_is_spec c2)) (F.2.2.2.2.1 _ (gw_is_spec c3)) (F.2.2.2.2.1 _ (gw_is_spec c4)) (srcPos := sp) (destPos := dp) (n := n) (by rw [hT]; exact hA) (by rw [hT]; exact hB)
    (fun _ h => by cases h) (fun _ h => by cases h) (fun h => by cases h) (fun h => by cases h) hk0 hk1 hkk0 hkk1 rfl (Int32.not_lt.mpr h1) (Int32.not_lt.mpr h2) (Int32.not_lt.mpr h3)
    (by rw [gw_nonneg h1, gw_nonneg h3, arrV_size]; omega) (by rw [gw_nonneg h2, gw_nonneg h3, arrV_size]; omega)
    (fun vm₁ _ i hi => by
      have e : (arrV x.2.2.2.1 (gw_ln S a) (fun j => .int (μ a j))).slots.getD (sp.toNatClampNeg + i) .null = .int (μ a (sp.toNatClampNeg + i)) := by
        rw [Array.getD_eq_getD_getElem?, arrV_read _ _ (by omega)]
        rfl
      rw [e]
      exact ⟨rfl, trivial⟩)
    (g := F0 m pc ls ([.int n, .int dp, .ref b, .int sp, .ref a].map (gw_v x))) rfl (by rw [F.2.2.1]; exact hl.1) (rest := []) (by show [Value.int n, .int dp, gw_v x (.ref b), .int sp, gw_v x (.ref a)] = _; rw [hra, hrb]) (by rw [F.2.1]; exact hd) (by omega) (by show 2 * 0 + 0 + (7 + 11) ≤ _; omega)
  have e1 : copied (arrV x.2.2.2.1 (gw_ln S a) (fun j => .int (μ a j))) (arrV x.2.2.2.1 (gw_ln S b) (fun j => .int (μ b j))) sp dp n = arrV x.2.2.2.1 (gw_ln S b) (fun j => .int (va_cpy (μ a) (μ b) sp.toNatClampNeg dp.toNatClampNeg n.toNatClampNeg j)) := va_copied (fun z => .int z) _ _ (μ a) (μ b) h4
  rw [e1] at X' step
  have hlb : x.1 + b < H.size := by rw [hr.2.2.1]; omega
  generalize hc9 : arrV x.2.2.2.1 (gw_ln S b) (fun j => Value.int (va_cpy (μ a) (μ b) sp.toNatClampNeg dp.toNatClampNeg n.toNatClampNeg j)) = c9 at X' step
  have hheap : ((T.setVm vm').setCell (x.1 + b) c9).heap = H.setIfInBounds (x.1 + b) c9 := by rw [← hT]; rfl
  have oq : ∀ q : Nat, q ≠ x.1 + b → (H.setIfInBounds (x.1 + b) c9)[q]? = H[q]? := fun q hq => by simp [Array.getElem?_setIfInBounds, Ne.symm hq]
  have e2 : (H.setIfInBounds (x.1 + b) c9)[x.1 + b]? = some c9 := by simp [Array.getElem?_setIfInBounds, hlb]
  have hrep : gw_rep x S (gw_cpy μ a b sp.toNatClampNeg dp.toNatClampNeg n.toNatClampNeg) (H.setIfInBounds (x.1 + b) c9) (locs ++ ((arrV x.2.2.2.1 (gw_ln S a) (fun j => Value.int (μ a j))).stretch sp.toNatClampNeg n.toNatClampNeg).zipIdx.map fun q => (⟨x.1 + b, dp.toNatClampNeg + q.2⟩ : Loc)) := by
    refine gw_rep_store (a := b) hr (by simp) oq b1 rfl (fun _ _ _ => rfl) (fun b' hb' jj => by simp [gw_cpy, gw_row, hb']) ?_ (fun q hq => ?_)
    · refine ⟨fun _ => ?_, fun z => by omega, fun z => by omega, fun q hq => ?_⟩
      · rw [e2, ← hc9]
        congr 2
        funext jj
        simp [gw_cpy, gw_row]
      · rw [hkb] at hq
        have := (gw_cls hq).2.2.2.2
        omega
    · rcases List.mem_append.mp hq with h | h
      · exact Or.inl h
      · obtain ⟨z, -, hz⟩ := List.mem_map.mp h
        rw [← hz]
        exact Or.inr rfl
  obtain ⟨t, g1, g2⟩ := hN _ _ _ _ _ _ hn _ _ ls hrep hl _ hheap X'
  exact ⟨t, step t g1, g2⟩
theorem gw_s_invokestatic (F : gw_fx p s m args c x nL cb own) (hRm : mc ≤ R.cells ∧ ms ≤ R.slots) (hRf : d + 1 ≤ R.frames ∧ 40 * d + 40 ≤ R.locals) (hd : decode cb pc = .ok (.invokestatic j, 3)) (hlk : gw_lk own nL rt pc (.invokestatic j) an iv sg = true) (h : gw_step (gw_ok l x d) x mc ms Q K (.invokestatic j) an iv sg lv st S μ cc ss N) (hN : ∀ lv st S μ cc ss, N lv st S μ cc ss → gw_at p l e R s m args below meth c Z x nL (pc + 3) lv st S μ cc ss) (hK : ∀ t lv st S μ cc ss, K t lv st S μ cc ss → gw_at p l e R s m args below meth c Z x nL t lv st S μ cc ss) : gw_at p l e R s m args below meth c Z x nL pc lv st S μ cc ss := by
  simp only [gw_step] at h
  split at h
  · rename_i n t1 t2 t3 t4 g
    simp only [gw_lk, Bool.and_eq_true] at hlk
    exact gw_st0 F hRm hRf hd hlk.1.1.1 hlk.1.1.2 hlk.1.2 hlk.2 h hN
  · rename_i n t1 t2 t3 t4 g
    simp only [gw_lk, Bool.and_eq_true] at hlk
    exact gw_st1 F hRm hRf hd hlk.1.1.1 hlk.1.1.2 hlk.1.2 hlk.2 h hN
  · rename_i t1 t2 t3 t4
    simp only [gw_lk, Bool.and_eq_true] at hlk
    split at h
    · obtain ⟨h1, h2, h3, h4, h5, h6, h7, h8⟩ := h
      exact gw_arraycopy F hRf hd hlk.1.1.1 hlk.1.1.2 hlk.1.2 hlk.2 h1 h2 h3 h4 h5 h6 h7 h8 hN
    · exact h.elim
  · exact h.elim
theorem gw_s_invokespecial (F : gw_fx p s m args c x nL cb own) (hRm : mc ≤ R.cells ∧ ms ≤ R.slots) (hRf : d + 1 ≤ R.frames ∧ 40 * d + 40 ≤ R.locals) (hd : decode cb pc = .ok (.invokespecial j, 3)) (hlk : gw_lk own nL rt pc (.invokespecial j) an iv sg = true) (h : gw_step (gw_ok l x d) x mc ms Q K (.invokespecial j) an iv sg lv st S μ cc ss N) (hN : ∀ lv st S μ cc ss, N lv st S μ cc ss → gw_at p l e R s m args below meth c Z x nL (pc + 3) lv st S μ cc ss) (hK : ∀ t lv st S μ cc ss, K t lv st S μ cc ss → gw_at p l e R s m args below meth c Z x nL t lv st S μ cc ss) : gw_at p l e R s m args below meth c Z x nL pc lv st S μ cc ss := by
  simp only [gw_step] at h
  split at h
  · rename_i t1 t2 t3 t4
    simp only [gw_lk, Bool.and_eq_true] at hlk
    split at h
    · rename_i a
      obtain ⟨ha, hn⟩ := h
      intro H locs ls hr hl
      show W p l e R s m args below meth c H locs cc ss Z (F0 m pc ls [gw_v x (.ref a)])
      rw [gw_v_ref x ha]
      exact W.objInit F.1 F.2.1 F.2.2.2.1 (F.2.2.2.2.1 _ (gw_is_spec hlk.1.1)) (F.2.2.2.2.1 _ (gw_is_spec hlk.1.2)) (F.2.2.2.2.1 _ (gw_is_spec hlk.2)) rfl (by rw [F.2.2.1]; exact hl.1) rfl hd (by omega) (by show 2 * 0 + 0 + 12 ≤ _; omega) (hN _ _ _ _ _ _ hn H locs ls hr hl)
    · exact h.elim
  · rename_i n k0 rest0 g
    cases hv : gw_nth st n with
    | ref a =>
      rw [hv] at h
      simp only [gw_lk] at hlk
      split at hlk
      · rename_i heq1 heq2
        cases heq2
      · rename_i heq1 heq2
        cases heq1
        cases heq2
        simp only [Bool.and_eq_true, decide_eq_true_eq] at hlk
        exact gw_sp0 F hRm hRf hd hlk.1.1.1.1.1 hlk.1.1.1.1.2 hlk.1.1.1.2 hlk.1.1.2 hlk.1.2 hlk.2 hv h hN
      · rename_i heq1 heq2
        cases heq1
        cases heq2
        simp only [Bool.and_eq_true, decide_eq_true_eq] at hlk
        exact gw_sp1 F hRm hRf hd hlk.1.1.1.1.1 hlk.1.1.1.1.2 hlk.1.1.1.2 hlk.1.1.2 hlk.1.2 hlk.2 hv h hN
      · cases hlk
    | retAddr v =>
      rw [hv] at h
      match v, h with
      | 0, h => exact h.elim
      | 1, h => exact h.elim
      | _ + 2, h => exact h.elim
    | _ => rw [hv] at h; exact h.elim
  · exact h.elim
/-- what a frame's end asks -/
def gw_ret (p : Program) (l : Launch) (e : Env) (R : Room) (s : State) (m : MethodId) (args : Array Value) (below : List Frame) (meth : Method) (c : Code) (Z : State → Prop) (x : gw_C) (cb : ByteArray) (rt : Option FieldType) (mc ms : Nat) (Q : Option Value → gw_S → gw_M → Prop) : Prop :=
  ∀ (pc : Nat) (i : Instr) (v : Option Value) (S : gw_S) (μ : gw_M) (cc ss : Nat) (H : Heap) (locs : List Loc) (ls : Array Slot), decode cb pc = .ok (i, 1) →
    ((i = .ireturn ∧ rt = some .int ∧ ∃ w, v = some (.int w)) ∨ (i = .ireturn ∧ rt = some .boolean ∧ ∃ w, v = some (.int w) ∧ (w = 0 ∨ w = 1)) ∨ (i = .lreturn ∧ rt = some .long ∧ ∃ w, v = some (.long w)) ∨ (i = .areturn ∧ (∃ n, rt = some (.object n)) ∧ ∃ w, v = some (.ref w)) ∨ (i = .return_ ∧ rt = none ∧ v = none)) →
    gw_rep x S μ H locs → cc ≤ mc → ss ≤ ms → Q v S μ → W p l e R s m args below meth c H locs cc ss Z (F0 m pc ls (v.toList.map (gw_v x)))
theorem gw_s_ireturn (F : gw_fx p s m args c x nL cb own) (hret : gw_ret p l e R s m args below meth c Z x cb rt mc ms Q) (hd : decode cb pc = .ok (.ireturn, 1)) (hlk : gw_lk own nL rt pc (.ireturn) an iv sg = true) (h : gw_step (gw_ok l x d) x mc ms Q K (.ireturn) an iv sg lv st S μ cc ss N) (hN : ∀ lv st S μ cc ss, N lv st S μ cc ss → gw_at p l e R s m args below meth c Z x nL (pc + 1) lv st S μ cc ss) (hK : ∀ t lv st S μ cc ss, K t lv st S μ cc ss → gw_at p l e R s m args below meth c Z x nL t lv st S μ cc ss) : gw_at p l e R s m args below meth c Z x nL pc lv st S μ cc ss := by
  simp only [gw_step] at h
  simp only [gw_lk, decide_eq_true_eq] at hlk
  split at h
  · rename_i v
    intro H locs ls hr hl
    refine hret pc _ (some (.int v)) S μ cc ss H locs ls hd (Or.inl ⟨rfl, ?_, v, rfl⟩) hr h.1 h.2.1 h.2.2
    rcases hlk with z | z
    · exact z.2
    · cases z.1
  · rename_i v
    intro H locs ls hr hl
    refine hret pc _ (some (.int v)) S μ cc ss H locs ls hd (Or.inr (Or.inl ⟨rfl, ?_, v, rfl, h.1⟩)) hr h.2.1 h.2.2.1 h.2.2.2
    rcases hlk with z | z
    · cases z.1
    · exact z.2
  · exact h.elim
theorem gw_s_lreturn (F : gw_fx p s m args c x nL cb own) (hret : gw_ret p l e R s m args below meth c Z x cb rt mc ms Q) (hd : decode cb pc = .ok (.lreturn, 1)) (hlk : gw_lk own nL rt pc (.lreturn) an iv sg = true) (h : gw_step (gw_ok l x d) x mc ms Q K (.lreturn) an iv sg lv st S μ cc ss N) (hN : ∀ lv st S μ cc ss, N lv st S μ cc ss → gw_at p l e R s m args below meth c Z x nL (pc + 1) lv st S μ cc ss) (hK : ∀ t lv st S μ cc ss, K t lv st S μ cc ss → gw_at p l e R s m args below meth c Z x nL t lv st S μ cc ss) : gw_at p l e R s m args below meth c Z x nL pc lv st S μ cc ss := by
  simp only [gw_step] at h
  simp only [gw_lk, decide_eq_true_eq] at hlk
  split at h
  · rename_i v
    intro H locs ls hr hl
    exact hret pc _ (some (.long v)) S μ cc ss H locs ls hd (Or.inr (Or.inr (Or.inl ⟨rfl, hlk, v, rfl⟩))) hr h.1 h.2.1 h.2.2
  · exact h.elim
theorem gw_s_areturn (F : gw_fx p s m args c x nL cb own) (hret : gw_ret p l e R s m args below meth c Z x cb rt mc ms Q) (hd : decode cb pc = .ok (.areturn, 1)) (hlk : gw_lk own nL rt pc (.areturn) an iv sg = true) (h : gw_step (gw_ok l x d) x mc ms Q K (.areturn) an iv sg lv st S μ cc ss N) (hN : ∀ lv st S μ cc ss, N lv st S μ cc ss → gw_at p l e R s m args below meth c Z x nL (pc + 1) lv st S μ cc ss) (hK : ∀ t lv st S μ cc ss, K t lv st S μ cc ss → gw_at p l e R s m args below meth c Z x nL t lv st S μ cc ss) : gw_at p l e R s m args below meth c Z x nL pc lv st S μ cc ss := by
  simp only [gw_step] at h
  simp only [gw_lk] at hlk
  split at h
  · rename_i v
    intro H locs ls hr hl
    split at hlk
    · rename_i n
      exact hret pc _ (some (.ref v)) S μ cc ss H locs ls hd (Or.inr (Or.inr (Or.inr (Or.inl ⟨rfl, ⟨_, rfl⟩, v, rfl⟩)))) hr h.1 h.2.1 h.2.2
    · cases hlk
  · exact h.elim
theorem gw_s_return_ (F : gw_fx p s m args c x nL cb own) (hret : gw_ret p l e R s m args below meth c Z x cb rt mc ms Q) (hd : decode cb pc = .ok (.return_, 1)) (hlk : gw_lk own nL rt pc (.return_) an iv sg = true) (h : gw_step (gw_ok l x d) x mc ms Q K (.return_) an iv sg lv st S μ cc ss N) (hN : ∀ lv st S μ cc ss, N lv st S μ cc ss → gw_at p l e R s m args below meth c Z x nL (pc + 1) lv st S μ cc ss) (hK : ∀ t lv st S μ cc ss, K t lv st S μ cc ss → gw_at p l e R s m args below meth c Z x nL t lv st S μ cc ss) : gw_at p l e R s m args below meth c Z x nL pc lv st S μ cc ss := by
  simp only [gw_step] at h
  simp only [gw_lk, decide_eq_true_eq] at hlk
  split at h
  · intro H locs ls hr hl
    exact hret pc _ none S μ cc ss H locs ls hd (Or.inr (Or.inr (Or.inr (Or.inr ⟨rfl, hlk, rfl⟩)))) hr h.1 h.2.1 h.2.2
  · exact h.elim
end SND6
end
section
/-! ===== a step, a block, a method ===== -/
def gw_chk (own nm : String) (nL : Nat) (rt : Option FieldType) (cb : ByteArray) : Nat → List gw_E → Bool
  | _, [] => true
  | pc, e :: es => decide (e.1 = pc) && decide (decode cb e.1 = .ok (e.2.2.1, e.2.1)) && decide (e.2.1 = gw_len e.2.1 e.2.2.1) && gw_ini nm e.2.2.1 e.2.2.2.1 && gw_lk own nL rt e.1 e.2.2.1 e.2.2.2.1 e.2.2.2.2.1 e.2.2.2.2.2 && gw_chk own nm nL rt cb (e.1 + e.2.1) es
section SND7
variable {p : Program} {l : Launch} {e : Env} {R : Room} {s : State} {m : MethodId} {args : Array Value} {below : List Frame} {meth : Method} {c : Code} {Z : State → Prop} {x : gw_C} {nL : Nat} {cb : ByteArray} {own : String}
variable {d mc ms : Nat} {Q : Option Value → gw_S → gw_M → Prop} {K : Nat → gw_Kt} {rt : Option FieldType}
set_option maxHeartbeats 4000000 in
theorem gw_step_sound (F : gw_fx p s m args c x nL cb own) (hRm : mc ≤ R.cells ∧ ms ≤ R.slots) (hRf : d + 1 ≤ R.frames ∧ 40 * d + 40 ≤ R.locals) (hret : gw_ret p l e R s m args below meth c Z x cb rt mc ms Q) {pc len : Nat} {i : Instr} {an : List Nat} {iv : List Int32} {sg : List gw_Sig} {lv st : List Value} {S : gw_S} {μ : gw_M} {cc ss : Nat} {N : gw_Kt}
    (hd : decode cb pc = .ok (i, len)) (hlen : len = gw_len len i) (hini : gw_ini meth.name i an = true) (hlk : gw_lk own nL rt pc i an iv sg = true) (h : gw_step (gw_ok l x d) x mc ms Q K i an iv sg lv st S μ cc ss N) (hN : ∀ lv st S μ cc ss, N lv st S μ cc ss → gw_at p l e R s m args below meth c Z x nL (pc + len) lv st S μ cc ss) (hK : ∀ t lv st S μ cc ss, K t lv st S μ cc ss → gw_at p l e R s m args below meth c Z x nL t lv st S μ cc ss) : gw_at p l e R s m args below meth c Z x nL pc lv st S μ cc ss := by
  cases i with
  | iadd => simp only [gw_len] at hlen; subst hlen; exact gw_s_iadd F hd hlk h hN hK
  | isub => simp only [gw_len] at hlen; subst hlen; exact gw_s_isub F hd hlk h hN hK
  | imul => simp only [gw_len] at hlen; subst hlen; exact gw_s_imul F hd hlk h hN hK
  | idiv => simp only [gw_len] at hlen; subst hlen; exact gw_s_idiv F hd hlk h hN hK
  | irem => simp only [gw_len] at hlen; subst hlen; exact gw_s_irem F hd hlk h hN hK
  | iand => simp only [gw_len] at hlen; subst hlen; exact gw_s_iand F hd hlk h hN hK
  | ior => simp only [gw_len] at hlen; subst hlen; exact gw_s_ior F hd hlk h hN hK
  | ixor => simp only [gw_len] at hlen; subst hlen; exact gw_s_ixor F hd hlk h hN hK
  | ishl => simp only [gw_len] at hlen; subst hlen; exact gw_s_ishl F hd hlk h hN hK
  | ishr => simp only [gw_len] at hlen; subst hlen; exact gw_s_ishr F hd hlk h hN hK
  | iushr => simp only [gw_len] at hlen; subst hlen; exact gw_s_iushr F hd hlk h hN hK
  | lcmp => simp only [gw_len] at hlen; subst hlen; exact gw_s_lcmp F hd hlk h hN hK
  | dup => simp only [gw_len] at hlen; subst hlen; exact gw_s_dup F hd hlk h hN hK
  | dup2 => simp only [gw_len] at hlen; subst hlen; exact gw_s_dup2 F hd hlk h hN hK
  | pop => simp only [gw_len] at hlen; subst hlen; exact gw_s_pop F hd hlk h hN hK
  | iconst k => simp only [gw_len] at hlen; subst hlen; exact gw_s_iconst F hd hlk h hN hK
  | bipush k => simp only [gw_len] at hlen; subst hlen; exact gw_s_bipush F hd hlk h hN hK
  | sipush k => simp only [gw_len] at hlen; subst hlen; exact gw_s_sipush F hd hlk h hN hK
  | ldc k => simp only [gw_len] at hlen; subst hlen; exact gw_s_ldc F hd hlk h hN hK
  | ldc_w k => simp only [gw_len] at hlen; subst hlen; exact gw_s_ldc_w F hd hlk h hN hK
  | aload_n k => simp only [gw_len] at hlen; subst hlen; exact gw_s_aload_n F hd hlk h hN hK
  | aload k => simp only [gw_len] at hlen; subst hlen; exact gw_s_aload F hd hlk h hN hK
  | iload_n k => simp only [gw_len] at hlen; subst hlen; exact gw_s_iload_n F hd hlk h hN hK
  | iload k => simp only [gw_len] at hlen; subst hlen; exact gw_s_iload F hd hlk h hN hK
  | astore_n k => simp only [gw_len] at hlen; subst hlen; exact gw_s_astore_n F hd hlk h hN hK
  | astore k => simp only [gw_len] at hlen; subst hlen; exact gw_s_astore F hd hlk h hN hK
  | istore_n k => simp only [gw_len] at hlen; subst hlen; exact gw_s_istore_n F hd hlk h hN hK
  | istore k => simp only [gw_len] at hlen; subst hlen; exact gw_s_istore F hd hlk h hN hK
  | iinc k n => simp only [gw_len] at hlen; subst hlen; exact gw_s_iinc F hd hlk h hN hK
  | ifCond k n => simp only [gw_len] at hlen; subst hlen; exact gw_s_ifCond F hd hlk h hN hK
  | if_icmp k n => simp only [gw_len] at hlen; subst hlen; exact gw_s_if_icmp F hd hlk h hN hK
  | ifnull k => simp only [gw_len] at hlen; subst hlen; exact gw_s_ifnull F hd hlk h hN hK
  | ifnonnull k => simp only [gw_len] at hlen; subst hlen; exact gw_s_ifnonnull F hd hlk h hN hK
  | goto k => simp only [gw_len] at hlen; subst hlen; exact gw_s_goto F hd hlk h hN hK
  | tableswitch a b f g => exact gw_s_tableswitch F hd hlk h hN hK
  | getfield k => simp only [gw_len] at hlen; subst hlen; exact gw_s_getfield F hd hlk h hN hK
  | putfield k =>
    simp only [gw_len] at hlen; subst hlen
    refine gw_s_putfield F ?_ hd hlk h hN hK
    simp only [gw_ini, decide_eq_true_eq] at hini
    by_cases hz : 1 = an.getD 2 0
    · exact Or.inl (hini hz.symm)
    · exact Or.inr hz
  | iaload => simp only [gw_len] at hlen; subst hlen; exact gw_s_iaload F hd hlk h hN hK
  | iastore => simp only [gw_len] at hlen; subst hlen; exact gw_s_iastore F hd hlk h hN hK
  | aaload => simp only [gw_len] at hlen; subst hlen; exact gw_s_aaload F hd hlk h hN hK
  | aastore => simp only [gw_len] at hlen; subst hlen; exact gw_s_aastore F hd hlk h hN hK
  | arraylength => simp only [gw_len] at hlen; subst hlen; exact gw_s_arraylength F hd hlk h hN hK
  | newarray k => simp only [gw_len] at hlen; subst hlen; exact gw_s_newarray F hRm (F.2.2.2.2.1 _ gw_ac) hd hlk h hN hK
  | anewarray k => simp only [gw_len] at hlen; subst hlen; exact gw_s_anewarray F hRm hd hlk h hN hK
  | new k => simp only [gw_len] at hlen; subst hlen; exact gw_s_new F hRm hd hlk h hN hK
  | invokevirtual k => simp only [gw_len] at hlen; subst hlen; exact gw_s_invokevirtual F hRm hRf hd hlk h hN hK
  | invokestatic k => simp only [gw_len] at hlen; subst hlen; exact gw_s_invokestatic F hRm hRf hd hlk h hN hK
  | invokespecial k => simp only [gw_len] at hlen; subst hlen; exact gw_s_invokespecial F hRm hRf hd hlk h hN hK
  | ireturn => simp only [gw_len] at hlen; subst hlen; exact gw_s_ireturn F hret hd hlk h hN hK
  | lreturn => simp only [gw_len] at hlen; subst hlen; exact gw_s_lreturn F hret hd hlk h hN hK
  | areturn => simp only [gw_len] at hlen; subst hlen; exact gw_s_areturn F hret hd hlk h hN hK
  | return_ => simp only [gw_len] at hlen; subst hlen; exact gw_s_return_ F hret hd hlk h hN hK
  | _ => exact h.elim
theorem gw_blk_sound (F : gw_fx p s m args c x nL cb own) (hRm : mc ≤ R.cells ∧ ms ≤ R.slots) (hRf : d + 1 ≤ R.frames ∧ 40 * d + 40 ≤ R.locals) (hret : gw_ret p l e R s m args below meth c Z x cb rt mc ms Q) (hK : ∀ t lv st S μ cc ss, K t lv st S μ cc ss → gw_at p l e R s m args below meth c Z x nL t lv st S μ cc ss) :
    ∀ (es : List gw_E) (pc : Nat) (lv st : List Value) (S : gw_S) (μ : gw_M) (cc ss : Nat), gw_chk own meth.name nL rt cb pc es = true → gw_blk (gw_ok l x d) x mc ms Q K es pc lv st S μ cc ss → gw_at p l e R s m args below meth c Z x nL pc lv st S μ cc ss
  | [], pc, lv, st, S, μ, cc, ss, _, h => hK pc lv st S μ cc ss h
  | e0 :: es, pc, lv, st, S, μ, cc, ss, hc, h => by
    simp only [gw_chk, Bool.and_eq_true, decide_eq_true_eq] at hc
    obtain ⟨⟨⟨⟨⟨h1, h2⟩, h3⟩, h4⟩, h5⟩, h6⟩ := hc
    subst h1
    exact gw_step_sound F hRm hRf hret h2 h3 h4 h5 h (fun lv st S μ cc ss hn => gw_blk_sound F hRm hRf hret hK es (e0.1 + e0.2.1) lv st S μ cc ss h6 hn) hK
end SND7
/-- what a program decides of a method, once -/
def gw_sta (g : gw_Sig) (bs : List (Nat × List gw_E)) : Prop := plainFor g.1 = true ∧ Cond.code g.1 g.2.1 g.2.2.1 g.2.2.2 ∈ gw_tb ∧ ∀ b ∈ bs, gw_chk g.1.cls g.1.name g.2.2.1 g.2.2.2 g.2.1 b.1 b.2 = true
theorem gw_all {g : gw_Sig} {bs : List (Nat × List gw_E)} (h : (bs.all (fun b => gw_chk g.1.cls g.1.name g.2.2.1 g.2.2.2 g.2.1 b.1 b.2)) = true) : ∀ b ∈ bs, gw_chk g.1.cls g.1.name g.2.2.1 g.2.2.2 g.2.1 b.1 b.2 = true := fun b hb => List.all_eq_true.mp h b hb
def gw_plain : List Value → Bool
  | [] => true
  | .int _ :: l => gw_plain l
  | .ref _ :: l => gw_plain l
  | .retAddr 1 :: l => gw_plain l
  | _ => false
theorem gw_plain_nth : ∀ (l : List Value), gw_plain l = true → ∀ i, (gw_nth l i).category = 1
  | [], _, _ => rfl
  | v :: l, h, 0 => by
    show v.category = 1
    cases v <;> first | rfl | (simp [gw_plain] at h)
  | v :: l, h, i + 1 => by
    refine gw_plain_nth l ?_ i
    cases v with
    | int v => exact h
    | ref v => exact h
    | retAddr v =>
      match v, h with
      | 1, h => exact h
      | 0, h => simp [gw_plain] at h
      | _ + 2, h => simp [gw_plain] at h
    | _ => simp [gw_plain] at h
theorem gw_nth_app : ∀ (l : List Value) (n i : Nat), gw_nth (l ++ List.replicate n (.retAddr 0)) i = gw_nth l i
  | [], 0, i => rfl
  | [], n + 1, 0 => rfl
  | [], n + 1, i + 1 => by
    have := gw_nth_app [] n i
    simpa [List.replicate_succ, gw_nth] using this
  | _ :: _, _, 0 => rfl
  | _ :: l, n, i + 1 => gw_nth_app l n i
theorem gw_args_mem (x : gw_C) : ∀ (l : List Value) (k : Nat), gw_plain l = true → ∀ i, gw_nth l i ≠ .retAddr 0 → (k + i, gw_v x (gw_nth l i)) ∈ lv_args k (l.map (gw_v x))
  | [], _, _, _, h => absurd rfl h
  | v :: l, k, hp, i, h => by
    have hc : (gw_v x v).category = 1 := gw_v_cat x (gw_plain_nth (v :: l) hp 0)
    have hp' : gw_plain l = true := by
      cases v with
      | int v => exact hp
      | ref v => exact hp
      | retAddr v =>
        match v, hp with
        | 1, hp => exact hp
        | 0, hp => simp [gw_plain] at hp
        | _ + 2, hp => simp [gw_plain] at hp
      | _ => simp [gw_plain] at hp
    simp only [List.map_cons, lv_args, hc]
    cases i with
    | zero => exact List.mem_cons_self
    | succ i =>
      have := gw_args_mem x l (k + 1) hp' i h
      refine List.mem_cons_of_mem _ ?_
      rw [show k + (i + 1) = k + 1 + i by omega]
      exact this
theorem gw_sl_len (x : gw_C) : ∀ (l : List Value), gw_plain l = true → (lg_sl (l.map (gw_v x))).length = l.length
  | [], _ => rfl
  | v :: l, hp => by
    have hc : (gw_v x v).category = 1 := gw_v_cat x (gw_plain_nth (v :: l) hp 0)
    have hp' : gw_plain l = true := by
      cases v with
      | int v => exact hp
      | ref v => exact hp
      | retAddr v =>
        match v, hp with
        | 1, hp => exact hp
        | 0, hp => simp [gw_plain] at hp
        | _ + 2, hp => simp [gw_plain] at hp
      | _ => simp [gw_plain] at hp
    have ih := gw_sl_len x l hp'
    simp only [lg_sl, List.map_cons, List.flatMap_cons, List.length_append, List.length_cons] at *
    rw [ih, if_neg (by rw [hc]; decide)]
    simp only [List.length_cons, List.length_nil]
    omega
theorem gw_find_in : ∀ (bs : List (Nat × List gw_E)) (pc : Nat), gw_find bs pc = [] ∨ ∃ b ∈ bs, b.1 = pc ∧ b.2 = gw_find bs pc
  | [], _ => Or.inl rfl
  | b :: bs, pc => by
    by_cases h : b.1 = pc
    · exact Or.inr ⟨b, List.mem_cons_self, h, by simp [gw_find, h]⟩
    · rcases gw_find_in bs pc with h1 | ⟨b', h1, h2, h3⟩
      · exact Or.inl (by simp [gw_find, h, h1])
      · exact Or.inr ⟨b', List.mem_cons_of_mem _ h1, h2, by simp [gw_find, h, h3]⟩
set_option maxHeartbeats 4000000 in
/-- THE CONTRACT OF A METHOD: from its blocks -/
theorem gw_ok_of {l : Launch} {x : gw_C} {g : gw_Sig} {bs : List (Nat × List gw_E)} (h : gw_sta g bs) {d mc ms : Nat} {as lv0 : List Value} {S : gw_S} {μ : gw_M} {Q : Option Value → gw_S → gw_M → Prop} (hlen : as.length ≤ g.2.2.1) (hpl : gw_plain as = true) (hlv : as ++ List.replicate (g.2.2.1 - as.length) (.retAddr 0) = lv0)
    (body : ∀ K : Nat → gw_Kt, (∀ pc lv st S μ cc ss, gw_blk (gw_ok l x d) x mc ms Q K (gw_find bs pc) pc lv st S μ cc ss → K pc lv st S μ cc ss) → K 0 lv0 [] S μ 0 0) : gw_ok l x (d + 1) g mc ms as S μ Q := by
  obtain ⟨hplain, hcode, hchk⟩ := h
  subst hlv
  refine ⟨hcode, va_MetF (cc := g.2.1) (maxL := g.2.2.1) (ret := g.2.2.2) hplain rfl ?_⟩
  intro p e s m args below meth c s₁ B hml hv
  obtain ⟨rfl, hrep, hkk⟩ := hv
  have hts := atoms_spec (ws := gw_wsg g) B.pre
  have hnm := (name_of_methodNamed B.named B.method).1
  have hlocks := B.notSynchronized
  have hr := B.returns
  have hx := B.exec
  have hb := B.bytes
  have F : gw_fx p s m (as.map (gw_v x)).toArray c x g.2.2.1 g.2.1 g.1.cls := ⟨B.exec, B.bytes, hml, findClass_of_methodNamed B.named, fun w hw => hts w (List.mem_cons_of_mem _ hw), hkk⟩
  have hret : gw_ret p l e (gw_rm (d + 1) mc ms) s m (as.map (gw_v x)).toArray below meth c (MQ below (gw_qc x Q) (as.map (gw_v x)).toArray s mc ms (gw_A x)) x g.2.1 g.2.2.2 mc ms Q := by
    intro pc i v S μ cc ss H locs ls hd hi hrep h1 h2 hq
    refine W.widen (k := mc) (n := ms) h1 h2 ?_
    have key : ∀ t : State, t.heap = H → s.WarmedH t.vm → gw_qc x Q (as.map (gw_v x)).toArray s (.returned (v.map (gw_v x))) t := fun t ht hW => ⟨v, S, μ, rfl, hq, by rw [ht]; exact ⟨hrep.1, hrep.2.1, hrep.2.2.1, hrep.2.2.2.1, hrep.2.2.2.2.1, fun q hq => by cases hq⟩, gw_kk_moved hW hkk⟩
    rcases hi with ⟨rfl, hrt, w, rfl⟩ | ⟨rfl, hrt, w, rfl, hw⟩ | ⟨rfl, hrt, w, rfl⟩ | ⟨rfl, ⟨n, hrt⟩, w, rfl⟩ | ⟨rfl, hrt, rfl⟩
    · exact W.iret (v := w) hx hb (hr.trans hrt) key hrep.2.2.2.2.2 hd hlocks
    · exact W.zret (v := w) hx hb (hr.trans hrt) (by rcases hw with rfl | rfl <;> rfl) key hrep.2.2.2.2.2 hd hlocks
    · exact W.lret (v := w) hx hb (hr.trans hrt) key hrep.2.2.2.2.2 hd hlocks
    · refine W.aret (v := gw_v x (.ref w)) hx hb (hr.trans hrt) (Or.inl ⟨n, rfl⟩) ?_ key hrep.2.2.2.2.2 hd hlocks
      cases w with
      | zero => exact Or.inl rfl
      | succ w => exact Or.inr ⟨_, rfl⟩
    · exact W.vret hx hb (hr.trans hrt) key hrep.2.2.2.2.2 hd hlocks
  have hat := body (gw_at p l e (gw_rm (d + 1) mc ms) s m (as.map (gw_v x)).toArray below meth c (MQ below (gw_qc x Q) (as.map (gw_v x)).toArray s mc ms (gw_A x)) x g.2.2.1) (fun pc lv st S μ cc ss hblk => by
    rcases gw_find_in bs pc with h1 | ⟨b, h1, h2, h3⟩
    · rw [h1] at hblk
      exact hblk
    · rw [← h3] at hblk
      have hc := hchk b h1
      rw [h2, ← hnm] at hc
      exact gw_blk_sound F ⟨Nat.le_refl _, Nat.le_refl _⟩ ⟨Nat.le_refl _, by show 40 * d + 40 ≤ 40 * (d + 1); omega⟩ hret (fun _ _ _ _ _ _ _ h => h) b.2 pc lv st S μ cc ss hc hblk)
  rw [lg_entry_eq]
  have hl := lv_entry (as.map (gw_v x)) (n := g.2.2.1) (by rw [gw_sl_len x as hpl]; exact hlen)
  generalize (lg_sl (as.map (gw_v x)) ++ List.replicate (g.2.2.1 - (lg_sl (as.map (gw_v x))).length) Slot.unset).toArray = ls at hl ⊢
  refine hat s.heap [] ls hrep ⟨hl.1, hl.2.1, ?_, fun i => ?_, fun i hi => ?_⟩
  · simp only [List.length_append, List.length_replicate]
    omega
  · rw [gw_nth_app]
    exact gw_plain_nth as hpl i
  · rw [gw_nth_app] at hi ⊢
    have := gw_args_mem x as 0 hpl i hi
    rw [Nat.zero_add] at this
    exact hl.2.2 _ this
/-! ===== the pure machine's steps, as rewriting ===== -/
section STEPS
variable {ok : gw_Ok} {x : gw_C} {mc ms : Nat} {Q : Option Value → gw_S → gw_M → Prop} {K : Nat → gw_Kt} {pc pc' n : Nat} {an : List Nat} {iv : List Int32} {sg : List gw_Sig} {es : List gw_E} {ls st t : List Value} {S : gw_S} {μ : gw_M} {cc ss : Nat} {k ci ti j r a0 : Nat} {v w a b : Int32} {q : ClassFile.Cond} {off : Int} {jn : Fin 4} {i0 : Int}
theorem gt_nil : gw_blk ok x mc ms Q K [] pc ls st S μ cc ss = K pc ls st S μ cc ss := rfl
theorem gt_aload_n : gw_blk ok x mc ms Q K ((pc, n, .aload_n jn, [k], iv, sg) :: es) pc' ls st S μ cc ss = gw_rfk (gw_nth ls k) (fun v => gw_blk ok x mc ms Q K es (pc + n) ls (v :: st) S μ cc ss) := rfl
theorem gt_aload : gw_blk ok x mc ms Q K ((pc, n, .aload j, [k], iv, sg) :: es) pc' ls st S μ cc ss = gw_rfk (gw_nth ls k) (fun v => gw_blk ok x mc ms Q K es (pc + n) ls (v :: st) S μ cc ss) := rfl
theorem gt_iload_n : gw_blk ok x mc ms Q K ((pc, n, .iload_n jn, [k], iv, sg) :: es) pc' ls st S μ cc ss = gw_ink (gw_nth ls k) (fun v => gw_blk ok x mc ms Q K es (pc + n) ls (.int v :: st) S μ cc ss) := rfl
theorem gt_iload : gw_blk ok x mc ms Q K ((pc, n, .iload j, [k], iv, sg) :: es) pc' ls st S μ cc ss = gw_ink (gw_nth ls k) (fun v => gw_blk ok x mc ms Q K es (pc + n) ls (.int v :: st) S μ cc ss) := rfl
theorem gt_astore_n : gw_blk ok x mc ms Q K ((pc, n, .astore_n jn, [k], iv, sg) :: es) pc' ls (.ref r :: t) S μ cc ss = gw_blk ok x mc ms Q K es (pc + n) (gw_set ls k (.ref r)) t S μ cc ss := rfl
theorem gt_astore : gw_blk ok x mc ms Q K ((pc, n, .astore j, [k], iv, sg) :: es) pc' ls (.ref r :: t) S μ cc ss = gw_blk ok x mc ms Q K es (pc + n) (gw_set ls k (.ref r)) t S μ cc ss := rfl
theorem gt_istore_n : gw_blk ok x mc ms Q K ((pc, n, .istore_n jn, [k], iv, sg) :: es) pc' ls (.int v :: t) S μ cc ss = gw_blk ok x mc ms Q K es (pc + n) (gw_set ls k (.int v)) t S μ cc ss := rfl
theorem gt_istore : gw_blk ok x mc ms Q K ((pc, n, .istore j, [k], iv, sg) :: es) pc' ls (.int v :: t) S μ cc ss = gw_blk ok x mc ms Q K es (pc + n) (gw_set ls k (.int v)) t S μ cc ss := rfl
theorem gt_iinc : gw_blk ok x mc ms Q K ((pc, n, .iinc j i0, [k], [w], sg) :: es) pc' ls st S μ cc ss = gw_ink (gw_nth ls k) (fun v => gw_blk ok x mc ms Q K es (pc + n) (gw_set ls k (.int (v + w))) st S μ cc ss) := rfl
theorem gt_iconst : gw_blk ok x mc ms Q K ((pc, n, .iconst i0, an, [w], sg) :: es) pc' ls st S μ cc ss = gw_blk ok x mc ms Q K es (pc + n) ls (.int w :: st) S μ cc ss := rfl
theorem gt_bipush : gw_blk ok x mc ms Q K ((pc, n, .bipush i0, an, [w], sg) :: es) pc' ls st S μ cc ss = gw_blk ok x mc ms Q K es (pc + n) ls (.int w :: st) S μ cc ss := rfl
theorem gt_sipush : gw_blk ok x mc ms Q K ((pc, n, .sipush i0, an, [w], sg) :: es) pc' ls st S μ cc ss = gw_blk ok x mc ms Q K es (pc + n) ls (.int w :: st) S μ cc ss := rfl
theorem gt_ldc : gw_blk ok x mc ms Q K ((pc, n, .ldc j, an, [w], sg) :: es) pc' ls st S μ cc ss = gw_blk ok x mc ms Q K es (pc + n) ls (.int w :: st) S μ cc ss := rfl
theorem gt_ldc_w : gw_blk ok x mc ms Q K ((pc, n, .ldc_w j, an, [w], sg) :: es) pc' ls st S μ cc ss = gw_blk ok x mc ms Q K es (pc + n) ls (.int w :: st) S μ cc ss := rfl
theorem gt_iadd : gw_blk ok x mc ms Q K ((pc, n, .iadd, an, iv, sg) :: es) pc' ls (.int b :: .int a :: t) S μ cc ss = gw_blk ok x mc ms Q K es (pc + n) ls (.int (a + b) :: t) S μ cc ss := rfl
theorem gt_isub : gw_blk ok x mc ms Q K ((pc, n, .isub, an, iv, sg) :: es) pc' ls (.int b :: .int a :: t) S μ cc ss = gw_blk ok x mc ms Q K es (pc + n) ls (.int (a - b) :: t) S μ cc ss := rfl
theorem gt_imul : gw_blk ok x mc ms Q K ((pc, n, .imul, an, iv, sg) :: es) pc' ls (.int b :: .int a :: t) S μ cc ss = gw_blk ok x mc ms Q K es (pc + n) ls (.int (a * b) :: t) S μ cc ss := rfl
theorem gt_idiv : gw_blk ok x mc ms Q K ((pc, n, .idiv, an, iv, sg) :: es) pc' ls (.int b :: .int a :: t) S μ cc ss = (¬ b = 0 ∧ gw_blk ok x mc ms Q K es (pc + n) ls (.int (a / b) :: t) S μ cc ss) := rfl
theorem gt_irem : gw_blk ok x mc ms Q K ((pc, n, .irem, an, iv, sg) :: es) pc' ls (.int b :: .int a :: t) S μ cc ss = (¬ b = 0 ∧ gw_blk ok x mc ms Q K es (pc + n) ls (.int (a - a / b * b) :: t) S μ cc ss) := rfl
theorem gt_iand : gw_blk ok x mc ms Q K ((pc, n, .iand, an, iv, sg) :: es) pc' ls (.int b :: .int a :: t) S μ cc ss = gw_blk ok x mc ms Q K es (pc + n) ls (.int (a &&& b) :: t) S μ cc ss := rfl
theorem gt_ior : gw_blk ok x mc ms Q K ((pc, n, .ior, an, iv, sg) :: es) pc' ls (.int b :: .int a :: t) S μ cc ss = gw_blk ok x mc ms Q K es (pc + n) ls (.int (a ||| b) :: t) S μ cc ss := rfl
theorem gt_ixor : gw_blk ok x mc ms Q K ((pc, n, .ixor, an, iv, sg) :: es) pc' ls (.int b :: .int a :: t) S μ cc ss = gw_blk ok x mc ms Q K es (pc + n) ls (.int (a ^^^ b) :: t) S μ cc ss := rfl
theorem gt_ishl : gw_blk ok x mc ms Q K ((pc, n, .ishl, an, iv, sg) :: es) pc' ls (.int b :: .int a :: t) S μ cc ss = gw_blk ok x mc ms Q K es (pc + n) ls (.int (a <<< (b &&& 31)) :: t) S μ cc ss := rfl
theorem gt_ishr : gw_blk ok x mc ms Q K ((pc, n, .ishr, an, iv, sg) :: es) pc' ls (.int b :: .int a :: t) S μ cc ss = gw_blk ok x mc ms Q K es (pc + n) ls (.int (a >>> (b &&& 31)) :: t) S μ cc ss := rfl
theorem gt_iushr : gw_blk ok x mc ms Q K ((pc, n, .iushr, an, iv, sg) :: es) pc' ls (.int b :: .int a :: t) S μ cc ss = gw_blk ok x mc ms Q K es (pc + n) ls (.int (a.toUInt32 >>> (b.toUInt32 &&& Int32.toUInt32 31)).toInt32 :: t) S μ cc ss := rfl
theorem gt_dup_i : gw_blk ok x mc ms Q K ((pc, n, .dup, an, iv, sg) :: es) pc' ls (.int a :: t) S μ cc ss = gw_blk ok x mc ms Q K es (pc + n) ls (.int a :: .int a :: t) S μ cc ss := rfl
theorem gt_dup_r : gw_blk ok x mc ms Q K ((pc, n, .dup, an, iv, sg) :: es) pc' ls (.ref r :: t) S μ cc ss = gw_blk ok x mc ms Q K es (pc + n) ls (.ref r :: .ref r :: t) S μ cc ss := rfl
theorem gt_dup2 : gw_blk ok x mc ms Q K ((pc, n, .dup2, an, iv, sg) :: es) pc' ls (.int b :: .ref r :: t) S μ cc ss = gw_blk ok x mc ms Q K es (pc + n) ls (.int b :: .ref r :: .int b :: .ref r :: t) S μ cc ss := rfl
theorem gt_pop_i : gw_blk ok x mc ms Q K ((pc, n, .pop, an, iv, sg) :: es) pc' ls (.int a :: t) S μ cc ss = gw_blk ok x mc ms Q K es (pc + n) ls t S μ cc ss := rfl
theorem gt_pop_r : gw_blk ok x mc ms Q K ((pc, n, .pop, an, iv, sg) :: es) pc' ls (.ref r :: t) S μ cc ss = gw_blk ok x mc ms Q K es (pc + n) ls t S μ cc ss := rfl
theorem gt_if : gw_blk ok x mc ms Q K ((pc, n, .ifCond q off, [k], iv, sg) :: es) pc' ls (.int a :: t) S μ cc ss = ((gw_c1 q a → K k ls t S μ cc ss) ∧ (¬ gw_c1 q a → gw_blk ok x mc ms Q K es (pc + n) ls t S μ cc ss)) := rfl
theorem gt_icmp : gw_blk ok x mc ms Q K ((pc, n, .if_icmp q off, [k], iv, sg) :: es) pc' ls (.int b :: .int a :: t) S μ cc ss = ((gw_c2 q a b → K k ls t S μ cc ss) ∧ (¬ gw_c2 q a b → gw_blk ok x mc ms Q K es (pc + n) ls t S μ cc ss)) := rfl
theorem gt_ifnull : gw_blk ok x mc ms Q K ((pc, n, .ifnull off, [k], iv, sg) :: es) pc' ls (.ref r :: t) S μ cc ss = ((r = 0 → K k ls t S μ cc ss) ∧ (¬ r = 0 → gw_blk ok x mc ms Q K es (pc + n) ls t S μ cc ss)) := rfl
theorem gt_ifnonnull : gw_blk ok x mc ms Q K ((pc, n, .ifnonnull off, [k], iv, sg) :: es) pc' ls (.ref r :: t) S μ cc ss = ((¬ r = 0 → K k ls t S μ cc ss) ∧ (r = 0 → gw_blk ok x mc ms Q K es (pc + n) ls t S μ cc ss)) := rfl
theorem gt_goto : gw_blk ok x mc ms Q K ((pc, n, .goto off, [k], iv, sg) :: es) pc' ls st S μ cc ss = K k ls st S μ cc ss := rfl
theorem gt_get_r : gw_blk ok x mc ms Q K ((pc, n, .getfield j, [ci, k, 1, ti], iv, sg) :: es) pc' ls (.ref r :: t) S μ cc ss = (gw_kd S r = ci ∧ gw_blk ok x mc ms Q K es (pc + n) ls (.ref (gw_rf S r k) :: t) S μ cc ss) := rfl
theorem gt_get_i : gw_blk ok x mc ms Q K ((pc, n, .getfield j, [ci, k, 0, ti], iv, sg) :: es) pc' ls (.ref r :: t) S μ cc ss = (gw_kd S r = ci ∧ gw_blk ok x mc ms Q K es (pc + n) ls (.int (μ r k) :: t) S μ cc ss) := rfl
theorem gt_get_z : gw_blk ok x mc ms Q K ((pc, n, .getfield j, [ci, k, 2, ti], iv, sg) :: es) pc' ls (.ref r :: t) S μ cc ss = (gw_kd S r = ci ∧ gw_blk ok x mc ms Q K es (pc + n) ls (.int (μ r k) :: t) S μ cc ss) := rfl
theorem gt_put_r : gw_blk ok x mc ms Q K ((pc, n, .putfield j, [ci, k, 1, ti], iv, sg) :: es) pc' ls (.ref a0 :: .ref r :: t) S μ cc ss = (gw_kd S r = ci ∧ ¬ a0 = 0 ∧ gw_blk ok x mc ms Q K es (pc + n) ls t (gw_sr S r k a0) μ cc ss) := rfl
theorem gt_put_i : gw_blk ok x mc ms Q K ((pc, n, .putfield j, [ci, k, 0, ti], iv, sg) :: es) pc' ls (.int v :: .ref r :: t) S μ cc ss = (gw_kd S r = ci ∧ gw_blk ok x mc ms Q K es (pc + n) ls t S (gw_up μ r k v) cc ss) := rfl
theorem gt_put_z : gw_blk ok x mc ms Q K ((pc, n, .putfield j, [ci, k, 2, ti], iv, sg) :: es) pc' ls (.int v :: .ref r :: t) S μ cc ss = (gw_kd S r = ci ∧ (v = 0 ∨ v = 1) ∧ gw_blk ok x mc ms Q K es (pc + n) ls t S (gw_up μ r k v) cc ss) := rfl
theorem gt_iaload : gw_blk ok x mc ms Q K ((pc, n, .iaload, an, iv, sg) :: es) pc' ls (.int v :: .ref r :: t) S μ cc ss = (gw_kd S r = 12 ∧ gw_in v (gw_ln S r) ∧ gw_blk ok x mc ms Q K es (pc + n) ls (.int (μ r v.toNatClampNeg) :: t) S μ cc ss) := rfl
theorem gt_iastore : gw_blk ok x mc ms Q K ((pc, n, .iastore, an, iv, sg) :: es) pc' ls (.int w :: .int v :: .ref r :: t) S μ cc ss = (gw_kd S r = 12 ∧ gw_in v (gw_ln S r) ∧ gw_blk ok x mc ms Q K es (pc + n) ls t S (gw_up μ r v.toNatClampNeg w) cc ss) := rfl
theorem gt_aaload : gw_blk ok x mc ms Q K ((pc, n, .aaload, an, iv, sg) :: es) pc' ls (.int v :: .ref r :: t) S μ cc ss = ((gw_kd S r = 13 ∨ gw_kd S r = 14) ∧ gw_in v (gw_ln S r) ∧ gw_blk ok x mc ms Q K es (pc + n) ls (.ref (gw_rf S r v.toNatClampNeg) :: t) S μ cc ss) := rfl
theorem gt_aastore : gw_blk ok x mc ms Q K ((pc, n, .aastore, an, iv, sg) :: es) pc' ls (.ref a0 :: .int v :: .ref r :: t) S μ cc ss = (((gw_kd S r = 13 ∧ gw_kd S a0 = 1) ∨ (gw_kd S r = 14 ∧ gw_kd S a0 = 3)) ∧ gw_in v (gw_ln S r) ∧ gw_blk ok x mc ms Q K es (pc + n) ls t (gw_sr S r v.toNatClampNeg a0) μ cc ss) := rfl
theorem gt_alen : gw_blk ok x mc ms Q K ((pc, n, .arraylength, an, iv, sg) :: es) pc' ls (.ref r :: t) S μ cc ss = ((gw_kd S r = 12 ∨ gw_kd S r = 13 ∨ gw_kd S r = 14) ∧ gw_blk ok x mc ms Q K es (pc + n) ls (.int (Int32.ofNat (gw_ln S r)) :: t) S μ cc ss) := rfl
theorem gt_virt {g : gw_Sig} {an' : List Nat} : gw_blk ok x mc ms Q K ((pc, n, .invokevirtual j, k :: ci :: an', iv, [g]) :: es) pc' ls st S μ cc ss = gw_rfk (gw_nth st k) (fun v => match v with
        | .ref a => gw_kd S a = ci ∧ gw_r8 (st.drop (k + 1)) 8 = true ∧ ∃ mc' ms', cc + mc' ≤ mc ∧ ss + ms' ≤ ms ∧ ok g mc' ms' (.ref a :: (st.take k).reverse) S μ (fun r S' μ' => gw_blk ok x mc ms Q K es (pc + n) ls (r.toList ++ st.drop (k + 1)) S' μ' (cc + mc') (ss + ms'))
        | _ => False) := rfl
theorem gt_stat0 {g : gw_Sig} {k1 k2 k3 k4 : Nat} : gw_blk ok x mc ms Q K ((pc, n, .invokestatic j, [k, 0, k1, k2, k3, k4], iv, [g]) :: es) pc' ls st S μ cc ss = (gw_r8 (st.drop k) 8 = true ∧ k ≤ st.length ∧ ∃ mc' ms', cc + mc' ≤ mc ∧ ss + ms' ≤ ms ∧ ok g mc' ms' (st.take k).reverse S μ (fun r S' μ' => gw_blk ok x mc ms Q K es (pc + n) ls (r.toList ++ st.drop k) S' μ' (cc + mc') (ss + ms'))) := rfl
theorem gt_stat1 {g : gw_Sig} {k1 k2 k3 k4 : Nat} : gw_blk ok x mc ms Q K ((pc, n, .invokestatic j, [k, 1, k1, k2, k3, k4], iv, [g]) :: es) pc' ls st S μ cc ss = (gw_r8 (st.drop k) 8 = true ∧ k ≤ st.length ∧ ∃ mc' ms', cc + mc' ≤ mc ∧ ss + ms' ≤ ms ∧ ok g mc' ms' (st.take k).reverse S μ (fun r S' μ' => gw_blk ok x mc ms Q K es (pc + n) ls (r.toList ++ st.drop k) S' μ' (cc + mc') (ss + ms'))) := rfl
theorem gt_iret : gw_blk ok x mc ms Q K ((pc, n, .ireturn, [0], iv, sg) :: es) pc' ls [.int v] S μ cc ss = (cc ≤ mc ∧ ss ≤ ms ∧ Q (some (.int v)) S μ) := rfl
theorem gt_zret : gw_blk ok x mc ms Q K ((pc, n, .ireturn, [1], iv, sg) :: es) pc' ls [.int v] S μ cc ss = ((v = 0 ∨ v = 1) ∧ cc ≤ mc ∧ ss ≤ ms ∧ Q (some (.int v)) S μ) := rfl
theorem gt_aret : gw_blk ok x mc ms Q K ((pc, n, .areturn, an, iv, sg) :: es) pc' ls [.ref r] S μ cc ss = (cc ≤ mc ∧ ss ≤ ms ∧ Q (some (.ref r)) S μ) := rfl
theorem gt_vret : gw_blk ok x mc ms Q K ((pc, n, .return_, an, iv, sg) :: es) pc' ls [] S μ cc ss = (cc ≤ mc ∧ ss ≤ ms ∧ Q none S μ) := rfl
theorem gt_rfk {f : Value → Prop} : gw_rfk (.ref r) f = f (.ref r) := rfl
theorem gt_ink {f : Int32 → Prop} : gw_ink (.int v) f = f v := rfl
end STEPS
end
section
def sgX0_init : gw_Sig := (⟨RX0, "<init>", "()V"⟩, prog_2_method_1_code, 1, (Option.none : Option FieldType))
def sgX0_copyFrom : gw_Sig := (⟨RX0, "copyFrom", "(LGuestLevels$Guest;)V"⟩, prog_2_method_2_code, 2, (Option.none : Option FieldType))
def sgX0_awaits : gw_Sig := (⟨RX0, "awaits", "(I)Z"⟩, prog_2_method_3_code, 2, (Option.some FieldType.boolean))
def sgX0_await : gw_Sig := (⟨RX0, "await", "(II)V"⟩, prog_2_method_4_code, 3, (Option.none : Option FieldType))
def sgX0_ready : gw_Sig := (⟨RX0, "ready", "()I"⟩, prog_2_method_5_code, 2, (Option.some FieldType.int))
def sgX0_take : gw_Sig := (⟨RX0, "take", "(II)I"⟩, prog_2_method_6_code, 3, (Option.some FieldType.int))
def sgX0_endService : gw_Sig := (⟨RX0, "endService", "()I"⟩, prog_2_method_7_code, 2, (Option.some FieldType.int))
def sgX0_clockUpon : gw_Sig := (⟨RX0, "clockUpon", "(I)I"⟩, prog_2_method_8_code, 2, (Option.some FieldType.int))
def sgX1_init : gw_Sig := (⟨RX1, "<init>", "()V"⟩, prog_3_method_1_code, 1, (Option.none : Option FieldType))
def sgX1_copyFrom : gw_Sig := (⟨RX1, "copyFrom", "(LGuestLevels$Inner;)V"⟩, prog_3_method_2_code, 2, (Option.none : Option FieldType))
def sgX1_trapAt : gw_Sig := (⟨RX1, "trapAt", "(I)V"⟩, prog_3_method_3_code, 2, (Option.none : Option FieldType))
def sgX1_actAlone : gw_Sig := (⟨RX1, "actAlone", "(III)V"⟩, prog_3_method_4_code, 4, (Option.none : Option FieldType))
def sgX2_init : gw_Sig := (⟨RX2, "<init>", "()V"⟩, prog_4_method_1_code, 1, (Option.none : Option FieldType))
def sgX2_copyFrom : gw_Sig := (⟨RX2, "copyFrom", "(LGuestLevels$Log;)V"⟩, prog_4_method_2_code, 2, (Option.none : Option FieldType))
def sgX2_allExits : gw_Sig := (⟨RX2, "allExits", "()I"⟩, prog_4_method_3_code, 1, (Option.some FieldType.int))
def sgX2_exitsKept : gw_Sig := (⟨RX2, "exitsKept", "()I"⟩, prog_4_method_4_code, 1, (Option.some FieldType.int))
def sgX2_writeExit : gw_Sig := (⟨RX2, "writeExit", "(IIII)V"⟩, prog_4_method_5_code, 6, (Option.none : Option FieldType))
def sgX2_exitAt : gw_Sig := (⟨RX2, "exitAt", "(II)I"⟩, prog_4_method_6_code, 4, (Option.some FieldType.int))
def sgX2_exitsBy : gw_Sig := (⟨RX2, "exitsBy", "(I)I"⟩, prog_4_method_7_code, 4, (Option.some FieldType.int))
def sgX2_hear : gw_Sig := (⟨RX2, "hear", "(I)V"⟩, prog_4_method_8_code, 2, (Option.none : Option FieldType))
def sgX2_heardKept : gw_Sig := (⟨RX2, "heardKept", "()I"⟩, prog_4_method_9_code, 1, (Option.some FieldType.int))
def sgX2_heardAt : gw_Sig := (⟨RX2, "heardAt", "(I)I"⟩, prog_4_method_10_code, 2, (Option.some FieldType.int))
def sgX2_noteTake : gw_Sig := (⟨RX2, "noteTake", "(III)V"⟩, prog_4_method_11_code, 4, (Option.none : Option FieldType))
def sgX3_init : gw_Sig := (⟨RX3, "<init>", "()V"⟩, prog_5_method_1_code, 2, (Option.none : Option FieldType))
def sgX3_copyFrom : gw_Sig := (⟨RX3, "copyFrom", "(LGuestLevels$Machine;)V"⟩, prog_5_method_2_code, 3, (Option.none : Option FieldType))
def sgX3_inHand : gw_Sig := (⟨RX3, "inHand", "()LGuestLevels$Inner;"⟩, prog_5_method_3_code, 1, (Option.some (FieldType.object "GuestLevels$Inner")))
def sgX3_guest : gw_Sig := (⟨RX3, "guest", "(I)LGuestLevels$Guest;"⟩, prog_5_method_4_code, 2, (Option.some (FieldType.object "GuestLevels$Guest")))
def sgX3_table : gw_Sig := (⟨RX3, "table", "(I)LGuestLevels$Table;"⟩, prog_5_method_5_code, 2, (Option.some (FieldType.object "GuestLevels$Table")))
def sgX3_figure : gw_Sig := (⟨RX3, "figure", "(I)I"⟩, prog_5_method_6_code, 2, (Option.some FieldType.int))
def sgX3_mayTell : gw_Sig := (⟨RX3, "mayTell", "(I)Z"⟩, prog_5_method_7_code, 2, (Option.some FieldType.boolean))
def sgX3_tellEntry : gw_Sig := (⟨RX3, "tellEntry", "(IIII)V"⟩, prog_5_method_8_code, 5, (Option.none : Option FieldType))
def sgX3_dropEntry : gw_Sig := (⟨RX3, "dropEntry", "(II)V"⟩, prog_5_method_9_code, 3, (Option.none : Option FieldType))
def sgX3_tellInner : gw_Sig := (⟨RX3, "tellInner", "(III)V"⟩, prog_5_method_10_code, 4, (Option.none : Option FieldType))
def sgX3_unfold : gw_Sig := (⟨RX3, "unfold", "(I)V"⟩, prog_5_method_11_code, 4, (Option.none : Option FieldType))
def sgX3_makeRoom : gw_Sig := (⟨RX3, "makeRoom", "(I)V"⟩, prog_5_method_12_code, 3, (Option.none : Option FieldType))
def sgX3_rightsOfBoth : gw_Sig := (⟨RX3, "rightsOfBoth", "(I)I"⟩, prog_5_method_13_code, 3, (Option.some FieldType.int))
def sgX3_lazyPages : gw_Sig := (⟨RX3, "lazyPages", "()I"⟩, prog_5_method_14_code, 3, (Option.some FieldType.int))
def sgX3_foldLazyPages : gw_Sig := (⟨RX3, "foldLazyPages", "()I"⟩, prog_5_method_15_code, 5, (Option.some FieldType.int))
def sgX3_fold : gw_Sig := (⟨RX3, "fold", "(I)V"⟩, prog_5_method_16_code, 5, (Option.none : Option FieldType))
def sgX3_joinFrames : gw_Sig := (⟨RX3, "joinFrames", "()I"⟩, prog_5_method_17_code, 4, (Option.some FieldType.int))
def sgX3_hostSees : gw_Sig := (⟨RX3, "hostSees", "(II)V"⟩, prog_5_method_18_code, 3, (Option.none : Option FieldType))
def sgX3_dealToOuter : gw_Sig := (⟨RX3, "dealToOuter", "(II)V"⟩, prog_5_method_19_code, 3, (Option.none : Option FieldType))
def sgX3_touchByInner : gw_Sig := (⟨RX3, "touchByInner", "(III)I"⟩, prog_5_method_20_code, 7, (Option.some FieldType.int))
def sgX3_foldOnTouch : gw_Sig := (⟨RX3, "foldOnTouch", "(II)I"⟩, prog_5_method_21_code, 6, (Option.some FieldType.int))
def sgX3_touchByOuter : gw_Sig := (⟨RX3, "touchByOuter", "(III)I"⟩, prog_5_method_22_code, 5, (Option.some FieldType.int))
def sgX3_seerOfInner : gw_Sig := (⟨RX3, "seerOfInner", "(I)I"⟩, prog_5_method_23_code, 2, (Option.some FieldType.int))
def sgX3_eventOfInner : gw_Sig := (⟨RX3, "eventOfInner", "(I)I"⟩, prog_5_method_24_code, 3, (Option.some FieldType.int))
def sgX3_eventOfOuter : gw_Sig := (⟨RX3, "eventOfOuter", "(I)I"⟩, prog_5_method_25_code, 3, (Option.some FieldType.int))
def sgX3_enterInner : gw_Sig := (⟨RX3, "enterInner", "()V"⟩, prog_5_method_26_code, 1, (Option.none : Option FieldType))
def sgX3_switchTo : gw_Sig := (⟨RX3, "switchTo", "(I)V"⟩, prog_5_method_27_code, 2, (Option.none : Option FieldType))
def sgX3_dealOut : gw_Sig := (⟨RX3, "dealOut", "()V"⟩, prog_5_method_28_code, 2, (Option.none : Option FieldType))
def sgX3_dealOutToInner : gw_Sig := (⟨RX3, "dealOutToInner", "()V"⟩, prog_5_method_29_code, 3, (Option.none : Option FieldType))
def sgX3_clockAt : gw_Sig := (⟨RX3, "clockAt", "(II)I"⟩, prog_5_method_30_code, 4, (Option.some FieldType.int))
def sgX3_dueTime : gw_Sig := (⟨RX3, "dueTime", "(I)I"⟩, prog_5_method_31_code, 8, (Option.some FieldType.int))
def sgX3_firstDue : gw_Sig := (⟨RX3, "firstDue", "()I"⟩, prog_5_method_32_code, 5, (Option.some FieldType.int))
def sgX3_timeGoesOn : gw_Sig := (⟨RX3, "timeGoesOn", "()I"⟩, prog_5_method_33_code, 4, (Option.some FieldType.int))
def sgX3_nextDueNow : gw_Sig := (⟨RX3, "nextDueNow", "()I"⟩, prog_5_method_34_code, 4, (Option.some FieldType.int))
def sgX3_goOff : gw_Sig := (⟨RX3, "goOff", "(I)V"⟩, prog_5_method_35_code, 4, (Option.none : Option FieldType))
def sgX3_goOn : gw_Sig := (⟨RX3, "goOn", "()V"⟩, prog_5_method_36_code, 1, (Option.none : Option FieldType))
def sgX3_actOfOuter : gw_Sig := (⟨RX3, "actOfOuter", "()V"⟩, prog_5_method_37_code, 6, (Option.none : Option FieldType))
def sgX3_tellMissed : gw_Sig := (⟨RX3, "tellMissed", "(I)V"⟩, prog_5_method_38_code, 2, (Option.none : Option FieldType))
def sgX3_switchUnlessInHand : gw_Sig := (⟨RX3, "switchUnlessInHand", "(I)V"⟩, prog_5_method_39_code, 2, (Option.none : Option FieldType))
def sgX3_actOfInner : gw_Sig := (⟨RX3, "actOfInner", "()V"⟩, prog_5_method_40_code, 7, (Option.none : Option FieldType))
def sgX3_lead : gw_Sig := (⟨RX3, "lead", "(LGuestLevels$Inner;II)V"⟩, prog_5_method_41_code, 4, (Option.none : Option FieldType))
def sgX3_walkTables : gw_Sig := (⟨RX3, "walkTables", "(II)I"⟩, prog_5_method_42_code, 7, (Option.some FieldType.int))
def sgX3_rightsOfVirtual : gw_Sig := (⟨RX3, "rightsOfVirtual", "(I)I"⟩, prog_5_method_43_code, 3, (Option.some FieldType.int))
def sgX3_frameOfInner : gw_Sig := (⟨RX3, "frameOfInner", "(I)I"⟩, prog_5_method_44_code, 3, (Option.some FieldType.int))
def sgX3_virtualPagesAt : gw_Sig := (⟨RX3, "virtualPagesAt", "(I)I"⟩, prog_5_method_45_code, 5, (Option.some FieldType.int))
def sgX3_plainValue : gw_Sig := (⟨RX3, "plainValue", "(I)I"⟩, prog_5_method_46_code, 4, (Option.some FieldType.int))
def sgX4_init : gw_Sig := (⟨RX4, "<init>", "()V"⟩, prog_6_method_1_code, 2, (Option.none : Option FieldType))
def sgX4_copyFrom : gw_Sig := (⟨RX4, "copyFrom", "(LGuestLevels$Memory;)V"⟩, prog_6_method_2_code, 2, (Option.none : Option FieldType))
def sgX4_tell : gw_Sig := (⟨RX4, "tell", "(III)V"⟩, prog_6_method_3_code, 4, (Option.none : Option FieldType))
def sgX4_untell : gw_Sig := (⟨RX4, "untell", "(I)V"⟩, prog_6_method_4_code, 2, (Option.none : Option FieldType))
def sgX4_rightsGiven : gw_Sig := (⟨RX4, "rightsGiven", "(I)I"⟩, prog_6_method_5_code, 3, (Option.some FieldType.int))
def sgX4_partsOnWrite : gw_Sig := (⟨RX4, "partsOnWrite", "(I)Z"⟩, prog_6_method_6_code, 2, (Option.some FieldType.boolean))
def sgX4_framesLedTo : gw_Sig := (⟨RX4, "framesLedTo", "()I"⟩, prog_6_method_7_code, 3, (Option.some FieldType.int))
def sgX4_framesFree : gw_Sig := (⟨RX4, "framesFree", "()I"⟩, prog_6_method_8_code, 1, (Option.some FieldType.int))
def sgX4_touchFrame : gw_Sig := (⟨RX4, "touchFrame", "(III)I"⟩, prog_6_method_9_code, 4, (Option.some FieldType.int))
def sgX4_give : gw_Sig := (⟨RX4, "give", "(I)I"⟩, prog_6_method_10_code, 6, (Option.some FieldType.int))
def sgX4_part : gw_Sig := (⟨RX4, "part", "(I)V"⟩, prog_6_method_11_code, 2, (Option.none : Option FieldType))
def sgX4_sharesFrame : gw_Sig := (⟨RX4, "sharesFrame", "(I)Z"⟩, prog_6_method_12_code, 3, (Option.some FieldType.boolean))
def sgX4_storeAway : gw_Sig := (⟨RX4, "storeAway", "(I)V"⟩, prog_6_method_13_code, 3, (Option.none : Option FieldType))
def sgX4_areLike : gw_Sig := (⟨RX4, "areLike", "(II)Z"⟩, prog_6_method_14_code, 4, (Option.some FieldType.boolean))
def sgX4_merge : gw_Sig := (⟨RX4, "merge", "(II)I"⟩, prog_6_method_15_code, 5, (Option.some FieldType.int))
def sgX5_init : gw_Sig := (⟨RX5, "<init>", "()V"⟩, prog_7_method_1_code, 1, (Option.none : Option FieldType))
def sgX5_push : gw_Sig := (⟨RX5, "push", "(LGuestLevels$Machine;)V"⟩, prog_7_method_2_code, 3, (Option.none : Option FieldType))
def sgX5_popInto : gw_Sig := (⟨RX5, "popInto", "(LGuestLevels$Machine;)V"⟩, prog_7_method_3_code, 3, (Option.none : Option FieldType))
def sgX5_copyFrom : gw_Sig := (⟨RX5, "copyFrom", "(LGuestLevels$Past;)V"⟩, prog_7_method_4_code, 4, (Option.none : Option FieldType))
def sgX6_init : gw_Sig := (⟨RX6, "<init>", "()V"⟩, prog_8_method_1_code, 1, (Option.none : Option FieldType))
def sgX6_startFrom : gw_Sig := (⟨RX6, "startFrom", "(LGuestLevels$Machine;)V"⟩, prog_8_method_2_code, 3, (Option.none : Option FieldType))
def sgX6_goOn : gw_Sig := (⟨RX6, "goOn", "()V"⟩, prog_8_method_3_code, 4, (Option.none : Option FieldType))
def sgX6_touchFrom : gw_Sig := (⟨RX6, "touchFrom", "(IIII)V"⟩, prog_8_method_4_code, 6, (Option.none : Option FieldType))
def sgX7_init : gw_Sig := (⟨RX7, "<init>", "()V"⟩, prog_9_method_1_code, 1, (Option.none : Option FieldType))
def sgX7_copyFrom : gw_Sig := (⟨RX7, "copyFrom", "(LGuestLevels$Program;)V"⟩, prog_9_method_2_code, 2, (Option.none : Option FieldType))
def sgX7_add : gw_Sig := (⟨RX7, "add", "(III)V"⟩, prog_9_method_3_code, 4, (Option.none : Option FieldType))
def sgX7_advance : gw_Sig := (⟨RX7, "advance", "()I"⟩, prog_9_method_4_code, 2, (Option.some FieldType.int))
def sgX7_goTo : gw_Sig := (⟨RX7, "goTo", "(I)V"⟩, prog_9_method_5_code, 2, (Option.none : Option FieldType))
def sgX8_init : gw_Sig := (⟨RX8, "<init>", "()V"⟩, prog_10_method_1_code, 1, (Option.none : Option FieldType))
def sgX8_copyFrom : gw_Sig := (⟨RX8, "copyFrom", "(LGuestLevels$Table;)V"⟩, prog_10_method_2_code, 2, (Option.none : Option FieldType))
def sgX8_has : gw_Sig := (⟨RX8, "has", "(I)Z"⟩, prog_10_method_3_code, 2, (Option.some FieldType.boolean))
def sgX8_gives : gw_Sig := (⟨RX8, "gives", "(II)Z"⟩, prog_10_method_4_code, 3, (Option.some FieldType.boolean))
def sgX8_put : gw_Sig := (⟨RX8, "put", "(III)V"⟩, prog_10_method_5_code, 4, (Option.none : Option FieldType))
def sgX8_drop : gw_Sig := (⟨RX8, "drop", "(I)V"⟩, prog_10_method_6_code, 2, (Option.none : Option FieldType))
def sgX8_dropAll : gw_Sig := (⟨RX8, "dropAll", "()V"⟩, prog_10_method_7_code, 1, (Option.none : Option FieldType))
def sgX8_dropEldest : gw_Sig := (⟨RX8, "dropEldest", "()V"⟩, prog_10_method_8_code, 2, (Option.none : Option FieldType))
def sgX8_size : gw_Sig := (⟨RX8, "size", "()I"⟩, prog_10_method_9_code, 3, (Option.some FieldType.int))
def sgX8_eldest : gw_Sig := (⟨RX8, "eldest", "()I"⟩, prog_10_method_10_code, 3, (Option.some FieldType.int))
def sgX8_byAge : gw_Sig := (⟨RX8, "byAge", "(I)I"⟩, prog_10_method_11_code, 3, (Option.some FieldType.int))
def sgX8_elderThan : gw_Sig := (⟨RX8, "elderThan", "(I)I"⟩, prog_10_method_12_code, 4, (Option.some FieldType.int))
def sgX9_init : gw_Sig := (⟨RX9, "<init>", "()V"⟩, prog_11_method_1_code, 1, (Option.none : Option FieldType))
def sgX9_copyFrom : gw_Sig := (⟨RX9, "copyFrom", "(LGuestLevels$Timers;)V"⟩, prog_11_method_2_code, 2, (Option.none : Option FieldType))
def sgX9_add : gw_Sig := (⟨RX9, "add", "(III)V"⟩, prog_11_method_3_code, 4, (Option.none : Option FieldType))
def sgX9_removeAt : gw_Sig := (⟨RX9, "removeAt", "(I)V"⟩, prog_11_method_4_code, 3, (Option.none : Option FieldType))
def sgX9_isAhead : gw_Sig := (⟨RX9, "isAhead", "(II)Z"⟩, prog_11_method_5_code, 3, (Option.some FieldType.boolean))
def sgX10_init : gw_Sig := (⟨RX10, "<init>", "()V"⟩, prog_1_method_1_code, 1, (Option.none : Option FieldType))
def sgX10_entry : gw_Sig := (⟨RX10, "entry", "(IIII)Z"⟩, prog_1_method_2_code, 6, (Option.some FieldType.boolean))
def sgX10_clear : gw_Sig := (⟨RX10, "clear", "(II)Z"⟩, prog_1_method_3_code, 3, (Option.some FieldType.boolean))
def sgX10_room : gw_Sig := (⟨RX10, "room", "(I)Z"⟩, prog_1_method_4_code, 2, (Option.some FieldType.boolean))
def sgX10_foldAhead : gw_Sig := (⟨RX10, "foldAhead", "()I"⟩, prog_1_method_5_code, 2, (Option.some FieldType.int))
def sgX10_join : gw_Sig := (⟨RX10, "join", "()I"⟩, prog_1_method_6_code, 2, (Option.some FieldType.int))
def sgX10_trapPlace : gw_Sig := (⟨RX10, "trapPlace", "(I)Z"⟩, prog_1_method_7_code, 2, (Option.some FieldType.boolean))
def sgX10_want : gw_Sig := (⟨RX10, "want", "(II)Z"⟩, prog_1_method_8_code, 4, (Option.some FieldType.boolean))
def sgX10_touch : gw_Sig := (⟨RX10, "touch", "(III)I"⟩, prog_1_method_9_code, 5, (Option.some FieldType.int))
def sgX10_event : gw_Sig := (⟨RX10, "event", "(I)I"⟩, prog_1_method_10_code, 3, (Option.some FieldType.int))
def sgX10_enter : gw_Sig := (⟨RX10, "enter", "()Z"⟩, prog_1_method_11_code, 1, (Option.some FieldType.boolean))
def sgX10_send : gw_Sig := (⟨RX10, "send", "(II)Z"⟩, prog_1_method_12_code, 4, (Option.some FieldType.boolean))
def sgX10_open : gw_Sig := (⟨RX10, "open", "(IZ)Z"⟩, prog_1_method_13_code, 3, (Option.some FieldType.boolean))
def sgX10_finish : gw_Sig := (⟨RX10, "finish", "()I"⟩, prog_1_method_14_code, 2, (Option.some FieldType.int))
def sgX10_hand : gw_Sig := (⟨RX10, "hand", "(I)Z"⟩, prog_1_method_15_code, 2, (Option.some FieldType.boolean))
def sgX10_scale : gw_Sig := (⟨RX10, "scale", "(III)Z"⟩, prog_1_method_16_code, 4, (Option.some FieldType.boolean))
def sgX10_timer : gw_Sig := (⟨RX10, "timer", "(III)I"⟩, prog_1_method_17_code, 4, (Option.some FieldType.int))
def sgX10_cancel : gw_Sig := (⟨RX10, "cancel", "(I)Z"⟩, prog_1_method_18_code, 2, (Option.some FieldType.boolean))
def sgX10_handler : gw_Sig := (⟨RX10, "handler", "(II)Z"⟩, prog_1_method_19_code, 3, (Option.some FieldType.boolean))
def sgX10_slice : gw_Sig := (⟨RX10, "slice", "(I)Z"⟩, prog_1_method_20_code, 2, (Option.some FieldType.boolean))
def sgX10_forget : gw_Sig := (⟨RX10, "forget", "()I"⟩, prog_1_method_21_code, 2, (Option.some FieldType.int))
def sgX10_pass : gw_Sig := (⟨RX10, "pass", "(I)I"⟩, prog_1_method_22_code, 4, (Option.some FieldType.int))
def sgX10_act : gw_Sig := (⟨RX10, "act", "(IIII)I"⟩, prog_1_method_23_code, 6, (Option.some FieldType.int))
def sgX10_wipe : gw_Sig := (⟨RX10, "wipe", "(I)I"⟩, prog_1_method_24_code, 4, (Option.some FieldType.int))
def sgX10_run : gw_Sig := (⟨RX10, "run", "(I)I"⟩, prog_1_method_25_code, 4, (Option.some FieldType.int))
def sgX10_undo : gw_Sig := (⟨RX10, "undo", "()I"⟩, prog_1_method_26_code, 1, (Option.some FieldType.int))
def sgX10_is : gw_Sig := (⟨RX10, "is", "(I)I"⟩, prog_1_method_27_code, 2, (Option.some FieldType.int))
def sgX10_told : gw_Sig := (⟨RX10, "told", "(III)I"⟩, prog_1_method_28_code, 5, (Option.some FieldType.int))
def sgX10_folded : gw_Sig := (⟨RX10, "folded", "(I)I"⟩, prog_1_method_29_code, 2, (Option.some FieldType.int))
def sgX10_frame : gw_Sig := (⟨RX10, "frame", "(I)I"⟩, prog_1_method_30_code, 2, (Option.some FieldType.int))
def sgX10_handled : gw_Sig := (⟨RX10, "handled", "(I)I"⟩, prog_1_method_31_code, 2, (Option.some FieldType.int))
def sgX10_stored : gw_Sig := (⟨RX10, "stored", "(I)I"⟩, prog_1_method_32_code, 2, (Option.some FieldType.int))
def sgX10_backed : gw_Sig := (⟨RX10, "backed", "(I)I"⟩, prog_1_method_33_code, 2, (Option.some FieldType.int))
def sgX10_copied : gw_Sig := (⟨RX10, "copied", "()I"⟩, prog_1_method_34_code, 1, (Option.some FieldType.int))
def sgX10_trapped : gw_Sig := (⟨RX10, "trapped", "(I)I"⟩, prog_1_method_35_code, 2, (Option.some FieldType.int))
def sgX10_heard : gw_Sig := (⟨RX10, "heard", "(I)I"⟩, prog_1_method_36_code, 2, (Option.some FieldType.int))
def sgX10_changed : gw_Sig := (⟨RX10, "changed", "()I"⟩, prog_1_method_37_code, 1, (Option.some FieldType.int))
def sgX10_walk : gw_Sig := (⟨RX10, "walk", "(II)I"⟩, prog_1_method_38_code, 3, (Option.some FieldType.int))
def sgX10_given : gw_Sig := (⟨RX10, "given", "(I)I"⟩, prog_1_method_39_code, 2, (Option.some FieldType.int))
def sgX10_lazy : gw_Sig := (⟨RX10, "lazy", "()I"⟩, prog_1_method_40_code, 1, (Option.some FieldType.int))
def sgX10_aliases : gw_Sig := (⟨RX10, "aliases", "(I)I"⟩, prog_1_method_41_code, 2, (Option.some FieldType.int))
def sgX10_free : gw_Sig := (⟨RX10, "free", "()I"⟩, prog_1_method_42_code, 1, (Option.some FieldType.int))
def sgX10_wanted : gw_Sig := (⟨RX10, "wanted", "(I)I"⟩, prog_1_method_43_code, 2, (Option.some FieldType.int))
def sgX10_whose : gw_Sig := (⟨RX10, "whose", "(I)I"⟩, prog_1_method_44_code, 2, (Option.some FieldType.int))
def sgX10_exit : gw_Sig := (⟨RX10, "exit", "(II)I"⟩, prog_1_method_45_code, 3, (Option.some FieldType.int))
def sgX10_exits : gw_Sig := (⟨RX10, "exits", "(I)I"⟩, prog_1_method_46_code, 2, (Option.some FieldType.int))
def sgX10_pending : gw_Sig := (⟨RX10, "pending", "(I)I"⟩, prog_1_method_47_code, 2, (Option.some FieldType.int))
def sgX10_service : gw_Sig := (⟨RX10, "service", "(I)I"⟩, prog_1_method_48_code, 2, (Option.some FieldType.int))
def sgX10_putBy : gw_Sig := (⟨RX10, "putBy", "(II)I"⟩, prog_1_method_49_code, 4, (Option.some FieldType.int))
def sgX10_spent : gw_Sig := (⟨RX10, "spent", "(I)I"⟩, prog_1_method_50_code, 2, (Option.some FieldType.int))
def sgX10_seenOf : gw_Sig := (⟨RX10, "seenOf", "(II)I"⟩, prog_1_method_51_code, 3, (Option.some FieldType.int))
def sgX10_isOpen : gw_Sig := (⟨RX10, "isOpen", "(I)Z"⟩, prog_1_method_52_code, 2, (Option.some FieldType.boolean))
def sgX10_taken : gw_Sig := (⟨RX10, "taken", "(I)I"⟩, prog_1_method_53_code, 2, (Option.some FieldType.int))
def sgX10_longest : gw_Sig := (⟨RX10, "longest", "(I)I"⟩, prog_1_method_54_code, 2, (Option.some FieldType.int))
def sgX10_pendingFor : gw_Sig := (⟨RX10, "pendingFor", "(II)I"⟩, prog_1_method_55_code, 3, (Option.some FieldType.int))
def sgX10_clock : gw_Sig := (⟨RX10, "clock", "(I)I"⟩, prog_1_method_56_code, 2, (Option.some FieldType.int))
def sgX10_timed : gw_Sig := (⟨RX10, "timed", "(II)I"⟩, prog_1_method_57_code, 3, (Option.some FieldType.int))
def sgX10_first : gw_Sig := (⟨RX10, "first", "()I"⟩, prog_1_method_58_code, 1, (Option.some FieldType.int))
def sgX10_program : gw_Sig := (⟨RX10, "program", "(III)I"⟩, prog_1_method_59_code, 5, (Option.some FieldType.int))
def sgX10_foretold : gw_Sig := (⟨RX10, "foretold", "(II)I"⟩, prog_1_method_60_code, 4, (Option.some FieldType.int))
def sgX10_till : gw_Sig := (⟨RX10, "till", "()I"⟩, prog_1_method_61_code, 3, (Option.some FieldType.int))
def sgX10_waits : gw_Sig := (⟨RX10, "waits", "(I)I"⟩, prog_1_method_62_code, 4, (Option.some FieldType.int))
def sgX10_roomiest : gw_Sig := (⟨RX10, "roomiest", "(I)I"⟩, prog_1_method_63_code, 6, (Option.some FieldType.int))
def sgX10_plainly : gw_Sig := (⟨RX10, "plainly", "(II)I"⟩, prog_1_method_64_code, 3, (Option.some FieldType.int))
def sgX10_plainTraps : gw_Sig := (⟨RX10, "plainTraps", "(I)I"⟩, prog_1_method_65_code, 2, (Option.some FieldType.int))
def sgX10_plainHeard : gw_Sig := (⟨RX10, "plainHeard", "(I)I"⟩, prog_1_method_66_code, 2, (Option.some FieldType.int))
def sgX10_share : gw_Sig := (⟨RX10, "share", "()J"⟩, prog_1_method_67_code, 1, (Option.some FieldType.long))
def sgX10_image : gw_Sig := (⟨RX10, "image", "()I"⟩, prog_1_method_68_code, 1, (Option.some FieldType.int))
def sgX10_back : gw_Sig := (⟨RX10, "back", "()I"⟩, prog_1_method_69_code, 1, (Option.some FieldType.int))
def sgX10_steps : gw_Sig := (⟨RX10, "steps", "()I"⟩, prog_1_method_70_code, 1, (Option.some FieldType.int))
def sgX10_mayGo : gw_Sig := (⟨RX10, "mayGo", "(II)Z"⟩, prog_1_method_71_code, 3, (Option.some FieldType.boolean))
def sgX10_goPlainly : gw_Sig := (⟨RX10, "goPlainly", "(I)V"⟩, prog_1_method_72_code, 3, (Option.none : Option FieldType))
def sgX10_within : gw_Sig := (⟨RX10, "within", "(III)Z"⟩, prog_1_method_73_code, 3, (Option.some FieldType.boolean))
def sgX10_isPage : gw_Sig := (⟨RX10, "isPage", "(I)Z"⟩, prog_1_method_74_code, 1, (Option.some FieldType.boolean))
def sgX10_isFrame : gw_Sig := (⟨RX10, "isFrame", "(I)Z"⟩, prog_1_method_75_code, 1, (Option.some FieldType.boolean))
def sgX10_isWay : gw_Sig := (⟨RX10, "isWay", "(I)Z"⟩, prog_1_method_76_code, 1, (Option.some FieldType.boolean))
def sgX10_isEvent : gw_Sig := (⟨RX10, "isEvent", "(I)Z"⟩, prog_1_method_77_code, 1, (Option.some FieldType.boolean))
def sgX10_isVector : gw_Sig := (⟨RX10, "isVector", "(I)Z"⟩, prog_1_method_78_code, 1, (Option.some FieldType.boolean))
def sgX10_isGuest : gw_Sig := (⟨RX10, "isGuest", "(I)Z"⟩, prog_1_method_79_code, 1, (Option.some FieldType.boolean))
def sgX10_isInnerGuest : gw_Sig := (⟨RX10, "isInnerGuest", "(I)Z"⟩, prog_1_method_80_code, 1, (Option.some FieldType.boolean))
def sgX10_mayHaveHandler : gw_Sig := (⟨RX10, "mayHaveHandler", "(I)Z"⟩, prog_1_method_81_code, 1, (Option.some FieldType.boolean))
def sgX10_isAct : gw_Sig := (⟨RX10, "isAct", "(IIII)Z"⟩, prog_1_method_82_code, 4, (Option.some FieldType.boolean))
def sgX10_mostOfA : gw_Sig := (⟨RX10, "mostOfA", "(II)I"⟩, prog_1_method_83_code, 2, (Option.some FieldType.int))
def sgX10_mostOfB : gw_Sig := (⟨RX10, "mostOfB", "(II)I"⟩, prog_1_method_84_code, 3, (Option.some FieldType.int))
def sgX10_hasBit : gw_Sig := (⟨RX10, "hasBit", "(II)Z"⟩, prog_1_method_85_code, 2, (Option.some FieldType.boolean))
def sgX10_greatestOf : gw_Sig := (⟨RX10, "greatestOf", "(I)I"⟩, prog_1_method_86_code, 2, (Option.some FieldType.int))
def sgX10_lowestOutside : gw_Sig := (⟨RX10, "lowestOutside", "(I)I"⟩, prog_1_method_87_code, 2, (Option.some FieldType.int))
def sgX10_bitsOfQuotient : gw_Sig := (⟨RX10, "bitsOfQuotient", "(II)J"⟩, prog_1_method_88_code, 8, (Option.some FieldType.long))
def sgX11_init : gw_Sig := (⟨RX11, "<init>", "()V"⟩, prog_13_method_1_code, 3, (Option.none : Option FieldType))
def sgX11_copy : gw_Sig := (⟨RX11, "copy", "([I[I)V"⟩, prog_13_method_2_code, 3, (Option.none : Option FieldType))
def sgX11_isIn : gw_Sig := (⟨RX11, "isIn", "(III)Z"⟩, prog_13_method_3_code, 3, (Option.some FieldType.boolean))
def sgX11_has : gw_Sig := (⟨RX11, "has", "(II)Z"⟩, prog_13_method_4_code, 2, (Option.some FieldType.boolean))
def sgX11_many : gw_Sig := (⟨RX11, "many", "(I)I"⟩, prog_13_method_5_code, 3, (Option.some FieldType.int))
def sgX11_greatest : gw_Sig := (⟨RX11, "greatest", "(I)I"⟩, prog_13_method_6_code, 2, (Option.some FieldType.int))
def sgX11_isPage : gw_Sig := (⟨RX11, "isPage", "(I)Z"⟩, prog_13_method_7_code, 1, (Option.some FieldType.boolean))
def sgX11_isGuest : gw_Sig := (⟨RX11, "isGuest", "(I)Z"⟩, prog_13_method_8_code, 1, (Option.some FieldType.boolean))
def sgX11_guestAt : gw_Sig := (⟨RX11, "guestAt", "(I)I"⟩, prog_13_method_9_code, 2, (Option.some FieldType.int))
def sgX11_entryAt : gw_Sig := (⟨RX11, "entryAt", "(II)I"⟩, prog_13_method_10_code, 3, (Option.some FieldType.int))
def sgX11_toOf : gw_Sig := (⟨RX11, "toOf", "(II)I"⟩, prog_13_method_11_code, 3, (Option.some FieldType.int))
def sgX11_isCopied : gw_Sig := (⟨RX11, "isCopied", "(I)Z"⟩, prog_13_method_12_code, 2, (Option.some FieldType.boolean))
def sgX11_rightsOf : gw_Sig := (⟨RX11, "rightsOf", "(II)I"⟩, prog_13_method_13_code, 4, (Option.some FieldType.int))
def sgX11_gives : gw_Sig := (⟨RX11, "gives", "(III)Z"⟩, prog_13_method_14_code, 4, (Option.some FieldType.boolean))
def sgX11_comeLast : gw_Sig := (⟨RX11, "comeLast", "(III)V"⟩, prog_13_method_15_code, 4, (Option.none : Option FieldType))
def sgX11_goOut : gw_Sig := (⟨RX11, "goOut", "(III)V"⟩, prog_13_method_16_code, 6, (Option.none : Option FieldType))
def sgX11_unfold : gw_Sig := (⟨RX11, "unfold", "(I)V"⟩, prog_13_method_17_code, 2, (Option.none : Option FieldType))
def sgX11_unfoldAll : gw_Sig := (⟨RX11, "unfoldAll", "()V"⟩, prog_13_method_18_code, 2, (Option.none : Option FieldType))
def sgX11_unfoldTo : gw_Sig := (⟨RX11, "unfoldTo", "(I)V"⟩, prog_13_method_19_code, 3, (Option.none : Option FieldType))
def sgX11_layEntry : gw_Sig := (⟨RX11, "layEntry", "(IIII)V"⟩, prog_13_method_20_code, 5, (Option.none : Option FieldType))
def sgX11_freeFrame : gw_Sig := (⟨RX11, "freeFrame", "()I"⟩, prog_13_method_21_code, 4, (Option.some FieldType.int))
def sgX11_swapOut : gw_Sig := (⟨RX11, "swapOut", "()V"⟩, prog_13_method_22_code, 2, (Option.none : Option FieldType))
def sgX11_give : gw_Sig := (⟨RX11, "give", "(I)V"⟩, prog_13_method_23_code, 3, (Option.none : Option FieldType))
def sgX11_leadTo : gw_Sig := (⟨RX11, "leadTo", "(I)I"⟩, prog_13_method_24_code, 4, (Option.some FieldType.int))
def sgX11_likeOf : gw_Sig := (⟨RX11, "likeOf", "(I)I"⟩, prog_13_method_25_code, 3, (Option.some FieldType.int))
def sgX11_joinNow : gw_Sig := (⟨RX11, "joinNow", "(II)V"⟩, prog_13_method_26_code, 4, (Option.none : Option FieldType))
def sgX11_part : gw_Sig := (⟨RX11, "part", "(I)V"⟩, prog_13_method_27_code, 3, (Option.none : Option FieldType))
def sgX11_isParted : gw_Sig := (⟨RX11, "isParted", "(II)Z"⟩, prog_13_method_28_code, 3, (Option.some FieldType.boolean))
def sgX11_fold : gw_Sig := (⟨RX11, "fold", "(I)V"⟩, prog_13_method_29_code, 3, (Option.none : Option FieldType))
def sgX11_writeExit : gw_Sig := (⟨RX11, "writeExit", "(III)V"⟩, prog_13_method_30_code, 5, (Option.none : Option FieldType))
def sgX11_see : gw_Sig := (⟨RX11, "see", "(II)V"⟩, prog_13_method_31_code, 3, (Option.none : Option FieldType))
def sgX11_deal : gw_Sig := (⟨RX11, "deal", "(II)V"⟩, prog_13_method_32_code, 4, (Option.none : Option FieldType))
def sgX11_whoSees : gw_Sig := (⟨RX11, "whoSees", "(I)I"⟩, prog_13_method_33_code, 2, (Option.some FieldType.int))
def sgX11_eventOuter : gw_Sig := (⟨RX11, "eventOuter", "(I)I"⟩, prog_13_method_34_code, 2, (Option.some FieldType.int))
def sgX11_eventInner : gw_Sig := (⟨RX11, "eventInner", "(I)I"⟩, prog_13_method_35_code, 3, (Option.some FieldType.int))
def sgX11_eventNow : gw_Sig := (⟨RX11, "eventNow", "(I)I"⟩, prog_13_method_36_code, 3, (Option.some FieldType.int))
def sgX11_hear : gw_Sig := (⟨RX11, "hear", "(I)V"⟩, prog_13_method_37_code, 3, (Option.none : Option FieldType))
def sgX11_doAt : gw_Sig := (⟨RX11, "doAt", "(III)I"⟩, prog_13_method_38_code, 4, (Option.some FieldType.int))
def sgX11_doInner : gw_Sig := (⟨RX11, "doInner", "(III)I"⟩, prog_13_method_39_code, 5, (Option.some FieldType.int))
def sgX11_touchInner : gw_Sig := (⟨RX11, "touchInner", "(III)I"⟩, prog_13_method_40_code, 6, (Option.some FieldType.int))
def sgX11_touchOuter : gw_Sig := (⟨RX11, "touchOuter", "(III)I"⟩, prog_13_method_41_code, 5, (Option.some FieldType.int))
def sgX11_touchNow : gw_Sig := (⟨RX11, "touchNow", "(III)I"⟩, prog_13_method_42_code, 4, (Option.some FieldType.int))
def sgX11_nextOf : gw_Sig := (⟨RX11, "nextOf", "(I)I"⟩, prog_13_method_43_code, 4, (Option.some FieldType.int))
def sgX11_pend : gw_Sig := (⟨RX11, "pend", "(II)V"⟩, prog_13_method_44_code, 4, (Option.none : Option FieldType))
def sgX11_sinceOf : gw_Sig := (⟨RX11, "sinceOf", "(II)I"⟩, prog_13_method_45_code, 3, (Option.some FieldType.int))
def sgX11_take : gw_Sig := (⟨RX11, "take", "(II)V"⟩, prog_13_method_46_code, 4, (Option.none : Option FieldType))
def sgX11_dealOut : gw_Sig := (⟨RX11, "dealOut", "()V"⟩, prog_13_method_47_code, 2, (Option.none : Option FieldType))
def sgX11_endNow : gw_Sig := (⟨RX11, "endNow", "(I)I"⟩, prog_13_method_48_code, 3, (Option.some FieldType.int))
def sgX11_enterNow : gw_Sig := (⟨RX11, "enterNow", "()V"⟩, prog_13_method_49_code, 1, (Option.none : Option FieldType))
def sgX11_handNow : gw_Sig := (⟨RX11, "handNow", "(I)V"⟩, prog_13_method_50_code, 2, (Option.none : Option FieldType))
def sgX11_clockAt : gw_Sig := (⟨RX11, "clockAt", "(II)I"⟩, prog_13_method_51_code, 5, (Option.some FieldType.int))
def sgX11_ofTimer : gw_Sig := (⟨RX11, "ofTimer", "(II)I"⟩, prog_13_method_52_code, 3, (Option.some FieldType.int))
def sgX11_isDue : gw_Sig := (⟨RX11, "isDue", "(II)Z"⟩, prog_13_method_53_code, 3, (Option.some FieldType.boolean))
def sgX11_isAhead : gw_Sig := (⟨RX11, "isAhead", "(II)Z"⟩, prog_13_method_54_code, 4, (Option.some FieldType.boolean))
def sgX11_firstDue : gw_Sig := (⟨RX11, "firstDue", "()I"⟩, prog_13_method_55_code, 3, (Option.some FieldType.int))
def sgX11_dropTimer : gw_Sig := (⟨RX11, "dropTimer", "(I)V"⟩, prog_13_method_56_code, 3, (Option.none : Option FieldType))
def sgX11_tick : gw_Sig := (⟨RX11, "tick", "()I"⟩, prog_13_method_57_code, 5, (Option.some FieldType.int))
def sgX11_putAside : gw_Sig := (⟨RX11, "putAside", "()V"⟩, prog_13_method_58_code, 2, (Option.none : Option FieldType))
def sgX11_bringBack : gw_Sig := (⟨RX11, "bringBack", "()V"⟩, prog_13_method_59_code, 2, (Option.none : Option FieldType))
def sgX11_stepAt : gw_Sig := (⟨RX11, "stepAt", "(II)I"⟩, prog_13_method_60_code, 2, (Option.some FieldType.int))
def sgX11_keep : gw_Sig := (⟨RX11, "keep", "()V"⟩, prog_13_method_61_code, 3, (Option.none : Option FieldType))
def sgX11_undo : gw_Sig := (⟨RX11, "undo", "()I"⟩, prog_13_method_62_code, 3, (Option.some FieldType.int))
def sgX11_canTell : gw_Sig := (⟨RX11, "canTell", "(I)Z"⟩, prog_13_method_63_code, 2, (Option.some FieldType.boolean))
def sgX11_tellEntry : gw_Sig := (⟨RX11, "tellEntry", "(IIII)V"⟩, prog_13_method_64_code, 5, (Option.none : Option FieldType))
def sgX11_entry : gw_Sig := (⟨RX11, "entry", "(IIII)Z"⟩, prog_13_method_65_code, 5, (Option.some FieldType.boolean))
def sgX11_clear : gw_Sig := (⟨RX11, "clear", "(II)Z"⟩, prog_13_method_66_code, 3, (Option.some FieldType.boolean))
def sgX11_roomNow : gw_Sig := (⟨RX11, "roomNow", "(I)V"⟩, prog_13_method_67_code, 2, (Option.none : Option FieldType))
def sgX11_room : gw_Sig := (⟨RX11, "room", "(I)Z"⟩, prog_13_method_68_code, 2, (Option.some FieldType.boolean))
def sgX11_isLazy : gw_Sig := (⟨RX11, "isLazy", "(I)Z"⟩, prog_13_method_69_code, 3, (Option.some FieldType.boolean))
def sgX11_foldAhead : gw_Sig := (⟨RX11, "foldAhead", "()I"⟩, prog_13_method_70_code, 3, (Option.some FieldType.int))
def sgX11_join : gw_Sig := (⟨RX11, "join", "()I"⟩, prog_13_method_71_code, 3, (Option.some FieldType.int))
def sgX11_copied : gw_Sig := (⟨RX11, "copied", "()I"⟩, prog_13_method_72_code, 1, (Option.some FieldType.int))
def sgX11_trapPlace : gw_Sig := (⟨RX11, "trapPlace", "(I)Z"⟩, prog_13_method_73_code, 2, (Option.some FieldType.boolean))
def sgX11_trapped : gw_Sig := (⟨RX11, "trapped", "(I)I"⟩, prog_13_method_74_code, 2, (Option.some FieldType.int))
def sgX11_want : gw_Sig := (⟨RX11, "want", "(II)Z"⟩, prog_13_method_75_code, 3, (Option.some FieldType.boolean))
def sgX11_touch : gw_Sig := (⟨RX11, "touch", "(III)I"⟩, prog_13_method_76_code, 5, (Option.some FieldType.int))
def sgX11_event : gw_Sig := (⟨RX11, "event", "(I)I"⟩, prog_13_method_77_code, 3, (Option.some FieldType.int))
def sgX11_enter : gw_Sig := (⟨RX11, "enter", "()Z"⟩, prog_13_method_78_code, 1, (Option.some FieldType.boolean))
def sgX11_send : gw_Sig := (⟨RX11, "send", "(II)Z"⟩, prog_13_method_79_code, 3, (Option.some FieldType.boolean))
def sgX11_open : gw_Sig := (⟨RX11, "open", "(IZ)Z"⟩, prog_13_method_80_code, 3, (Option.some FieldType.boolean))
def sgX11_finish : gw_Sig := (⟨RX11, "finish", "()I"⟩, prog_13_method_81_code, 2, (Option.some FieldType.int))
def sgX11_hand : gw_Sig := (⟨RX11, "hand", "(I)Z"⟩, prog_13_method_82_code, 2, (Option.some FieldType.boolean))
def sgX11_scale : gw_Sig := (⟨RX11, "scale", "(III)Z"⟩, prog_13_method_83_code, 4, (Option.some FieldType.boolean))
def sgX11_timer : gw_Sig := (⟨RX11, "timer", "(III)I"⟩, prog_13_method_84_code, 5, (Option.some FieldType.int))
def sgX11_cancel : gw_Sig := (⟨RX11, "cancel", "(I)Z"⟩, prog_13_method_85_code, 2, (Option.some FieldType.boolean))
def sgX11_isHandled : gw_Sig := (⟨RX11, "isHandled", "(I)Z"⟩, prog_13_method_86_code, 1, (Option.some FieldType.boolean))
def sgX11_handler : gw_Sig := (⟨RX11, "handler", "(II)Z"⟩, prog_13_method_87_code, 3, (Option.some FieldType.boolean))
def sgX11_slice : gw_Sig := (⟨RX11, "slice", "(I)Z"⟩, prog_13_method_88_code, 2, (Option.some FieldType.boolean))
def sgX11_forget : gw_Sig := (⟨RX11, "forget", "()I"⟩, prog_13_method_89_code, 2, (Option.some FieldType.int))
def sgX11_pass : gw_Sig := (⟨RX11, "pass", "(I)I"⟩, prog_13_method_90_code, 4, (Option.some FieldType.int))
def sgX11_needs : gw_Sig := (⟨RX11, "needs", "(II)I"⟩, prog_13_method_91_code, 2, (Option.some FieldType.int))
def sgX11_isAct : gw_Sig := (⟨RX11, "isAct", "(IIII)Z"⟩, prog_13_method_92_code, 7, (Option.some FieldType.boolean))
def sgX11_act : gw_Sig := (⟨RX11, "act", "(IIII)I"⟩, prog_13_method_93_code, 8, (Option.some FieldType.int))
def sgX11_wipe : gw_Sig := (⟨RX11, "wipe", "(I)I"⟩, prog_13_method_94_code, 5, (Option.some FieldType.int))
def sgX11_actOuter : gw_Sig := (⟨RX11, "actOuter", "(III)V"⟩, prog_13_method_95_code, 4, (Option.none : Option FieldType))
def sgX11_hasPlace : gw_Sig := (⟨RX11, "hasPlace", "(II)Z"⟩, prog_13_method_96_code, 3, (Option.some FieldType.boolean))
def sgX11_actInner : gw_Sig := (⟨RX11, "actInner", "(III)V"⟩, prog_13_method_97_code, 5, (Option.none : Option FieldType))
def sgX11_goOnBy : gw_Sig := (⟨RX11, "goOnBy", "(IIIZ)V"⟩, prog_13_method_98_code, 5, (Option.none : Option FieldType))
def sgX11_actNow : gw_Sig := (⟨RX11, "actNow", "()V"⟩, prog_13_method_99_code, 9, (Option.none : Option FieldType))
def sgX11_goNow : gw_Sig := (⟨RX11, "goNow", "()V"⟩, prog_13_method_100_code, 1, (Option.none : Option FieldType))
def sgX11_canGo : gw_Sig := (⟨RX11, "canGo", "(II)Z"⟩, prog_13_method_101_code, 3, (Option.some FieldType.boolean))
def sgX11_exitsAll : gw_Sig := (⟨RX11, "exitsAll", "()I"⟩, prog_13_method_102_code, 1, (Option.some FieldType.int))
def sgX11_run : gw_Sig := (⟨RX11, "run", "(I)I"⟩, prog_13_method_103_code, 4, (Option.some FieldType.int))
def sgX11_freeFrames : gw_Sig := (⟨RX11, "freeFrames", "()I"⟩, prog_13_method_104_code, 3, (Option.some FieldType.int))
def sgX11_is : gw_Sig := (⟨RX11, "is", "(I)I"⟩, prog_13_method_105_code, 2, (Option.some FieldType.int))
def sgX11_told : gw_Sig := (⟨RX11, "told", "(III)I"⟩, prog_13_method_106_code, 4, (Option.some FieldType.int))
def sgX11_folded : gw_Sig := (⟨RX11, "folded", "(I)I"⟩, prog_13_method_107_code, 2, (Option.some FieldType.int))
def sgX11_frame : gw_Sig := (⟨RX11, "frame", "(I)I"⟩, prog_13_method_108_code, 2, (Option.some FieldType.int))
def sgX11_handled : gw_Sig := (⟨RX11, "handled", "(I)I"⟩, prog_13_method_109_code, 2, (Option.some FieldType.int))
def sgX11_stored : gw_Sig := (⟨RX11, "stored", "(I)I"⟩, prog_13_method_110_code, 2, (Option.some FieldType.int))
def sgX11_backed : gw_Sig := (⟨RX11, "backed", "(I)I"⟩, prog_13_method_111_code, 2, (Option.some FieldType.int))
def sgX11_heard : gw_Sig := (⟨RX11, "heard", "(I)I"⟩, prog_13_method_112_code, 2, (Option.some FieldType.int))
def sgX11_changed : gw_Sig := (⟨RX11, "changed", "()I"⟩, prog_13_method_113_code, 1, (Option.some FieldType.int))
def sgX11_walk : gw_Sig := (⟨RX11, "walk", "(II)I"⟩, prog_13_method_114_code, 5, (Option.some FieldType.int))
def sgX11_given : gw_Sig := (⟨RX11, "given", "(I)I"⟩, prog_13_method_115_code, 5, (Option.some FieldType.int))
def sgX11_lazy : gw_Sig := (⟨RX11, "lazy", "()I"⟩, prog_13_method_116_code, 3, (Option.some FieldType.int))
def sgX11_aliases : gw_Sig := (⟨RX11, "aliases", "(I)I"⟩, prog_13_method_117_code, 6, (Option.some FieldType.int))
def sgX11_free : gw_Sig := (⟨RX11, "free", "()I"⟩, prog_13_method_118_code, 1, (Option.some FieldType.int))
def sgX11_wanted : gw_Sig := (⟨RX11, "wanted", "(I)I"⟩, prog_13_method_119_code, 2, (Option.some FieldType.int))
def sgX11_whose : gw_Sig := (⟨RX11, "whose", "(I)I"⟩, prog_13_method_120_code, 2, (Option.some FieldType.int))
def sgX11_exit : gw_Sig := (⟨RX11, "exit", "(II)I"⟩, prog_13_method_121_code, 3, (Option.some FieldType.int))
def sgX11_exits : gw_Sig := (⟨RX11, "exits", "(I)I"⟩, prog_13_method_122_code, 4, (Option.some FieldType.int))
def sgX11_spent : gw_Sig := (⟨RX11, "spent", "(I)I"⟩, prog_13_method_123_code, 2, (Option.some FieldType.int))
def sgX11_seenOf : gw_Sig := (⟨RX11, "seenOf", "(II)I"⟩, prog_13_method_124_code, 3, (Option.some FieldType.int))
def sgX11_pending : gw_Sig := (⟨RX11, "pending", "(I)I"⟩, prog_13_method_125_code, 2, (Option.some FieldType.int))
def sgX11_longest : gw_Sig := (⟨RX11, "longest", "(I)I"⟩, prog_13_method_126_code, 2, (Option.some FieldType.int))
def sgX11_pendingFor : gw_Sig := (⟨RX11, "pendingFor", "(II)I"⟩, prog_13_method_127_code, 3, (Option.some FieldType.int))
def sgX11_service : gw_Sig := (⟨RX11, "service", "(I)I"⟩, prog_13_method_128_code, 2, (Option.some FieldType.int))
def sgX11_entriesFrom : gw_Sig := (⟨RX11, "entriesFrom", "(I)I"⟩, prog_13_method_129_code, 4, (Option.some FieldType.int))
def sgX11_putBy : gw_Sig := (⟨RX11, "putBy", "(II)I"⟩, prog_13_method_130_code, 4, (Option.some FieldType.int))
def sgX11_isOpen : gw_Sig := (⟨RX11, "isOpen", "(I)Z"⟩, prog_13_method_131_code, 2, (Option.some FieldType.boolean))
def sgX11_taken : gw_Sig := (⟨RX11, "taken", "(I)I"⟩, prog_13_method_132_code, 2, (Option.some FieldType.int))
def sgX11_clock : gw_Sig := (⟨RX11, "clock", "(I)I"⟩, prog_13_method_133_code, 2, (Option.some FieldType.int))
def sgX11_dueOf : gw_Sig := (⟨RX11, "dueOf", "(I)I"⟩, prog_13_method_134_code, 5, (Option.some FieldType.int))
def sgX11_timed : gw_Sig := (⟨RX11, "timed", "(II)I"⟩, prog_13_method_135_code, 3, (Option.some FieldType.int))
def sgX11_first : gw_Sig := (⟨RX11, "first", "()I"⟩, prog_13_method_136_code, 3, (Option.some FieldType.int))
def sgX11_program : gw_Sig := (⟨RX11, "program", "(III)I"⟩, prog_13_method_137_code, 5, (Option.some FieldType.int))
def sgX11_foretold : gw_Sig := (⟨RX11, "foretold", "(II)I"⟩, prog_13_method_138_code, 4, (Option.some FieldType.int))
def sgX11_tillMore : gw_Sig := (⟨RX11, "tillMore", "(I)I"⟩, prog_13_method_139_code, 5, (Option.some FieldType.int))
def sgX11_till : gw_Sig := (⟨RX11, "till", "()I"⟩, prog_13_method_140_code, 1, (Option.some FieldType.int))
def sgX11_waits : gw_Sig := (⟨RX11, "waits", "(I)I"⟩, prog_13_method_141_code, 2, (Option.some FieldType.int))
def sgX11_seenBy : gw_Sig := (⟨RX11, "seenBy", "(II)I"⟩, prog_13_method_142_code, 5, (Option.some FieldType.int))
def sgX11_roomiest : gw_Sig := (⟨RX11, "roomiest", "(I)I"⟩, prog_13_method_143_code, 6, (Option.some FieldType.int))
def sgX11_plainValue : gw_Sig := (⟨RX11, "plainValue", "(I)I"⟩, prog_13_method_144_code, 3, (Option.some FieldType.int))
def sgX11_plainTrap : gw_Sig := (⟨RX11, "plainTrap", "(III)V"⟩, prog_13_method_145_code, 4, (Option.none : Option FieldType))
def sgX11_plainTell : gw_Sig := (⟨RX11, "plainTell", "(II)V"⟩, prog_13_method_146_code, 3, (Option.none : Option FieldType))
def sgX11_plainTouch : gw_Sig := (⟨RX11, "plainTouch", "(IIIII)V"⟩, prog_13_method_147_code, 7, (Option.none : Option FieldType))
def sgX11_layPlain : gw_Sig := (⟨RX11, "layPlain", "(I)V"⟩, prog_13_method_148_code, 4, (Option.none : Option FieldType))
def sgX11_plainAct : gw_Sig := (⟨RX11, "plainAct", "(II)V"⟩, prog_13_method_149_code, 4, (Option.none : Option FieldType))
def sgX11_plainly : gw_Sig := (⟨RX11, "plainly", "(II)I"⟩, prog_13_method_150_code, 3, (Option.some FieldType.int))
def sgX11_plainTraps : gw_Sig := (⟨RX11, "plainTraps", "(I)I"⟩, prog_13_method_151_code, 2, (Option.some FieldType.int))
def sgX11_plainHeard : gw_Sig := (⟨RX11, "plainHeard", "(I)I"⟩, prog_13_method_152_code, 2, (Option.some FieldType.int))
def sgX11_share : gw_Sig := (⟨RX11, "share", "()J"⟩, prog_13_method_153_code, 1, (Option.some FieldType.long))
def sgX11_image : gw_Sig := (⟨RX11, "image", "()I"⟩, prog_13_method_154_code, 1, (Option.some FieldType.int))
def sgX11_back : gw_Sig := (⟨RX11, "back", "()I"⟩, prog_13_method_155_code, 1, (Option.some FieldType.int))
def sgX11_steps : gw_Sig := (⟨RX11, "steps", "()I"⟩, prog_13_method_156_code, 1, (Option.some FieldType.int))
def sgJxe99ae_isNaN_b9ae7 : gw_Sig := (⟨"java/lang/Double", "isNaN", "(D)Z"⟩, prog_14_method_6_code, 2, (Option.some FieldType.boolean))
def sgJxe99ae_doubleToLongBits_ccdee : gw_Sig := (⟨"java/lang/Double", "doubleToLongBits", "(D)J"⟩, prog_14_method_23_code, 2, (Option.some FieldType.long))
def sgJ6_bitCount_0f7a4 : gw_Sig := (⟨"java/lang/Integer", "bitCount", "(I)I"⟩, prog_15_method_49_code, 1, (Option.some FieldType.int))
def sgJ9_floorDiv_7cf53 : gw_Sig := (⟨"java/lang/Math", "floorDiv", "(II)I"⟩, prog_16_method_47_code, 3, (Option.some FieldType.int))
def sgJ9_max_7cf53 : gw_Sig := (⟨"java/lang/Math", "max", "(II)I"⟩, prog_16_method_65_code, 2, (Option.some FieldType.int))
def sgJ9_min_7cf53 : gw_Sig := (⟨"java/lang/Math", "min", "(II)I"⟩, prog_16_method_69_code, 2, (Option.some FieldType.int))
def sgJ7_fill_53178 : gw_Sig := (⟨"java/util/Arrays", "fill", "([II)V"⟩, prog_19_method_103_code, 4, (Option.none : Option FieldType))
end
section
def bkJ6_bitCount_0f7a4_0 : List gw_E := [(0, 1, .iload_n 0, [0], [], []), (1, 1, .iload_n 0, [0], [], []), (2, 1, .iconst 1, [], [1], []), (3, 1, .iushr, [], [], []), (4, 3, .ldc_w 265, [4121], [1431655765], []), (7, 1, .iand, [], [], []), (8, 1, .isub, [], [], []), (9, 1, .istore_n 0, [0], [], []), (10, 1, .iload_n 0, [0], [], []), (11, 3, .ldc_w 266, [4122], [858993459], []), (14, 1, .iand, [], [], []), (15, 1, .iload_n 0, [0], [], []), (16, 1, .iconst 2, [], [2], []), (17, 1, .iushr, [], [], []), (18, 3, .ldc_w 266, [4122], [858993459], []), (21, 1, .iand, [], [], []), (22, 1, .iadd, [], [], []), (23, 1, .istore_n 0, [0], [], []), (24, 1, .iload_n 0, [0], [], []), (25, 1, .iload_n 0, [0], [], []), (26, 1, .iconst 4, [], [4], []), (27, 1, .iushr, [], [], []), (28, 1, .iadd, [], [], []), (29, 3, .ldc_w 267, [4123], [252645135], []), (32, 1, .iand, [], [], []), (33, 1, .istore_n 0, [0], [], []), (34, 1, .iload_n 0, [0], [], []), (35, 1, .iload_n 0, [0], [], []), (36, 2, .bipush 8, [], [8], []), (38, 1, .iushr, [], [], []), (39, 1, .iadd, [], [], []), (40, 1, .istore_n 0, [0], [], []), (41, 1, .iload_n 0, [0], [], []), (42, 1, .iload_n 0, [0], [], []), (43, 2, .bipush 16, [], [16], []), (45, 1, .iushr, [], [], []), (46, 1, .iadd, [], [], []), (47, 1, .istore_n 0, [0], [], []), (48, 1, .iload_n 0, [0], [], []), (49, 2, .bipush 63, [], [63], []), (51, 1, .iand, [], [], []), (52, 1, .ireturn, [0], [], [])]
def bsJ6_bitCount_0f7a4 : List (Nat × List gw_E) := [(0, bkJ6_bitCount_0f7a4_0)]
theorem fdJ6_bitCount_0f7a4_0 : gw_find bsJ6_bitCount_0f7a4 0 = bkJ6_bitCount_0f7a4_0 := rfl
set_option maxRecDepth 40000 in
theorem stJ6_bitCount_0f7a4 : gw_sta sgJ6_bitCount_0f7a4 bsJ6_bitCount_0f7a4 := ⟨by decide +kernel, gw_mem2 (i := 4120) rfl rfl, gw_all (by decide +kernel)⟩
def bkJ9_floorDiv_7cf53_0 : List gw_E := [(0, 1, .iload_n 0, [0], [], []), (1, 1, .iload_n 1, [1], [], []), (2, 1, .idiv, [], [], []), (3, 1, .istore_n 2, [2], [], []), (4, 1, .iload_n 0, [0], [], []), (5, 1, .iload_n 1, [1], [], []), (6, 1, .ixor, [], [], []), (7, 3, .ifCond .ge 14, [21], [], []), (10, 1, .iload_n 2, [2], [], []), (11, 1, .iload_n 1, [1], [], []), (12, 1, .imul, [], [], []), (13, 1, .iload_n 0, [0], [], []), (14, 3, .if_icmp .eq 7, [21], [], []), (17, 1, .iload_n 2, [2], [], []), (18, 1, .iconst 1, [], [1], []), (19, 1, .isub, [], [], []), (20, 1, .ireturn, [0], [], [])]
def bkJ9_floorDiv_7cf53_21 : List gw_E := [(21, 1, .iload_n 2, [2], [], []), (22, 1, .ireturn, [0], [], [])]
def bsJ9_floorDiv_7cf53 : List (Nat × List gw_E) := [(0, bkJ9_floorDiv_7cf53_0), (21, bkJ9_floorDiv_7cf53_21)]
theorem fdJ9_floorDiv_7cf53_0 : gw_find bsJ9_floorDiv_7cf53 0 = bkJ9_floorDiv_7cf53_0 := rfl
theorem fdJ9_floorDiv_7cf53_21 : gw_find bsJ9_floorDiv_7cf53 21 = bkJ9_floorDiv_7cf53_21 := rfl
set_option maxRecDepth 40000 in
theorem stJ9_floorDiv_7cf53 : gw_sta sgJ9_floorDiv_7cf53 bsJ9_floorDiv_7cf53 := ⟨by decide +kernel, gw_mem2 (i := 4151) rfl rfl, gw_all (by decide +kernel)⟩
def bkJ9_max_7cf53_0 : List gw_E := [(0, 1, .iload_n 0, [0], [], []), (1, 1, .iload_n 1, [1], [], []), (2, 3, .if_icmp .lt 7, [9], [], []), (5, 1, .iload_n 0, [0], [], []), (6, 3, .goto 4, [10], [], [])]
def bkJ9_max_7cf53_9 : List gw_E := [(9, 1, .iload_n 1, [1], [], [])]
def bkJ9_max_7cf53_10 : List gw_E := [(10, 1, .ireturn, [0], [], [])]
def bsJ9_max_7cf53 : List (Nat × List gw_E) := [(0, bkJ9_max_7cf53_0), (9, bkJ9_max_7cf53_9), (10, bkJ9_max_7cf53_10)]
theorem fdJ9_max_7cf53_0 : gw_find bsJ9_max_7cf53 0 = bkJ9_max_7cf53_0 := rfl
theorem fdJ9_max_7cf53_9 : gw_find bsJ9_max_7cf53 9 = bkJ9_max_7cf53_9 := rfl
theorem fdJ9_max_7cf53_10 : gw_find bsJ9_max_7cf53 10 = bkJ9_max_7cf53_10 := rfl
set_option maxRecDepth 40000 in
theorem stJ9_max_7cf53 : gw_sta sgJ9_max_7cf53 bsJ9_max_7cf53 := ⟨by decide +kernel, gw_mem2 (i := 3079) rfl rfl, gw_all (by decide +kernel)⟩
def bkJ9_min_7cf53_0 : List gw_E := [(0, 1, .iload_n 0, [0], [], []), (1, 1, .iload_n 1, [1], [], []), (2, 3, .if_icmp .gt 7, [9], [], []), (5, 1, .iload_n 0, [0], [], []), (6, 3, .goto 4, [10], [], [])]
def bkJ9_min_7cf53_9 : List gw_E := [(9, 1, .iload_n 1, [1], [], [])]
def bkJ9_min_7cf53_10 : List gw_E := [(10, 1, .ireturn, [0], [], [])]
def bsJ9_min_7cf53 : List (Nat × List gw_E) := [(0, bkJ9_min_7cf53_0), (9, bkJ9_min_7cf53_9), (10, bkJ9_min_7cf53_10)]
theorem fdJ9_min_7cf53_0 : gw_find bsJ9_min_7cf53 0 = bkJ9_min_7cf53_0 := rfl
theorem fdJ9_min_7cf53_9 : gw_find bsJ9_min_7cf53 9 = bkJ9_min_7cf53_9 := rfl
theorem fdJ9_min_7cf53_10 : gw_find bsJ9_min_7cf53 10 = bkJ9_min_7cf53_10 := rfl
set_option maxRecDepth 40000 in
theorem stJ9_min_7cf53 : gw_sta sgJ9_min_7cf53 bsJ9_min_7cf53 := ⟨by decide +kernel, gw_mem2 (i := 5072) rfl rfl, gw_all (by decide +kernel)⟩
def bkJ7_fill_53178_0 : List gw_E := [(0, 1, .iconst 0, [], [0], []), (1, 1, .istore_n 2, [2], [], []), (2, 1, .aload_n 0, [0], [], []), (3, 1, .arraylength, [], [], []), (4, 1, .istore_n 3, [3], [], [])]
def bkJ7_fill_53178_5 : List gw_E := [(5, 1, .iload_n 2, [2], [], []), (6, 1, .iload_n 3, [3], [], []), (7, 3, .if_icmp .ge 13, [20], [], []), (10, 1, .aload_n 0, [0], [], []), (11, 1, .iload_n 2, [2], [], []), (12, 1, .iload_n 1, [1], [], []), (13, 1, .iastore, [], [], []), (14, 3, .iinc 2 1, [2], [1], []), (17, 3, .goto (-12), [5], [], [])]
def bkJ7_fill_53178_20 : List gw_E := [(20, 1, .return_, [], [], [])]
def bsJ7_fill_53178 : List (Nat × List gw_E) := [(0, bkJ7_fill_53178_0), (5, bkJ7_fill_53178_5), (20, bkJ7_fill_53178_20)]
theorem fdJ7_fill_53178_0 : gw_find bsJ7_fill_53178 0 = bkJ7_fill_53178_0 := rfl
theorem fdJ7_fill_53178_5 : gw_find bsJ7_fill_53178 5 = bkJ7_fill_53178_5 := rfl
theorem fdJ7_fill_53178_20 : gw_find bsJ7_fill_53178 20 = bkJ7_fill_53178_20 := rfl
set_option maxRecDepth 40000 in
theorem stJ7_fill_53178 : gw_sta sgJ7_fill_53178 bsJ7_fill_53178 := ⟨by decide +kernel, gw_mem2 (i := 1047) rfl rfl, gw_all (by decide +kernel)⟩
def bkX8_init_0 : List gw_E := [(0, 1, .aload_n 0, [0], [], []), (1, 3, .invokespecial 3, [0, 2, 1044, 1025, 1026, 0], [], []), (4, 1, .aload_n 0, [0], [], []), (5, 2, .bipush 16, [], [16], []), (7, 2, .newarray .int, [], [], []), (9, 3, .putfield 9, [8, 0, 1, 1048], [], []), (12, 1, .aload_n 0, [0], [], []), (13, 2, .bipush 16, [], [16], []), (15, 2, .newarray .int, [], [], []), (17, 3, .putfield 15, [8, 1, 1, 1053], [], []), (20, 1, .aload_n 0, [0], [], []), (21, 2, .bipush 16, [], [16], []), (23, 2, .newarray .int, [], [], []), (25, 3, .putfield 18, [8, 2, 1, 1057], [], []), (28, 1, .aload_n 0, [0], [], []), (29, 3, .getfield 9, [8, 0, 1, 1048], [], []), (32, 1, .iconst (-1), [], [-1], []), (33, 3, .invokestatic 21, [2, 0, 1045, 1046, 1005, 0], [], [sgJ7_fill_53178]), (36, 1, .return_, [], [], [])]
def bsX8_init : List (Nat × List gw_E) := [(0, bkX8_init_0)]
theorem fdX8_init_0 : gw_find bsX8_init 0 = bkX8_init_0 := rfl
set_option maxRecDepth 40000 in
theorem stX8_init : gw_sta sgX8_init bsX8_init := ⟨by decide +kernel, gw_mem2 (i := 1043) rfl rfl, gw_all (by decide +kernel)⟩
def bkX8_copyFrom_0 : List gw_E := [(0, 1, .aload_n 1, [1], [], []), (1, 3, .getfield 9, [8, 0, 1, 1048], [], []), (4, 1, .iconst 0, [], [0], []), (5, 1, .aload_n 0, [0], [], []), (6, 3, .getfield 9, [8, 0, 1, 1048], [], []), (9, 1, .iconst 0, [], [0], []), (10, 2, .bipush 16, [], [16], []), (12, 3, .invokestatic 27, [5, 2, 2222, 2224, 2223, 1014], [], []), (15, 1, .aload_n 1, [1], [], []), (16, 3, .getfield 15, [8, 1, 1, 1053], [], []), (19, 1, .iconst 0, [], [0], []), (20, 1, .aload_n 0, [0], [], []), (21, 3, .getfield 15, [8, 1, 1, 1053], [], []), (24, 1, .iconst 0, [], [0], []), (25, 2, .bipush 16, [], [16], []), (27, 3, .invokestatic 27, [5, 2, 2222, 2224, 2223, 1014], [], []), (30, 1, .aload_n 1, [1], [], []), (31, 3, .getfield 18, [8, 2, 1, 1057], [], []), (34, 1, .iconst 0, [], [0], []), (35, 1, .aload_n 0, [0], [], []), (36, 3, .getfield 18, [8, 2, 1, 1057], [], []), (39, 1, .iconst 0, [], [0], []), (40, 2, .bipush 16, [], [16], []), (42, 3, .invokestatic 27, [5, 2, 2222, 2224, 2223, 1014], [], []), (45, 1, .aload_n 0, [0], [], []), (46, 1, .aload_n 1, [1], [], []), (47, 3, .getfield 33, [8, 3, 0, 1058], [], []), (50, 3, .putfield 33, [8, 3, 0, 1058], [], []), (53, 1, .return_, [], [], [])]
def bsX8_copyFrom : List (Nat × List gw_E) := [(0, bkX8_copyFrom_0)]
theorem fdX8_copyFrom_0 : gw_find bsX8_copyFrom 0 = bkX8_copyFrom_0 := rfl
set_option maxRecDepth 40000 in
theorem stX8_copyFrom : gw_sta sgX8_copyFrom bsX8_copyFrom := ⟨by decide +kernel, gw_mem2 (i := 2221) rfl rfl, gw_all (by decide +kernel)⟩
def bkX8_has_0 : List gw_E := [(0, 1, .aload_n 0, [0], [], []), (1, 3, .getfield 9, [8, 0, 1, 1048], [], []), (4, 1, .iload_n 1, [1], [], []), (5, 1, .iaload, [], [], []), (6, 1, .iconst (-1), [], [-1], []), (7, 3, .if_icmp .eq 7, [14], [], []), (10, 1, .iconst 1, [], [1], []), (11, 3, .goto 4, [15], [], [])]
def bkX8_has_14 : List gw_E := [(14, 1, .iconst 0, [], [0], [])]
def bkX8_has_15 : List gw_E := [(15, 1, .ireturn, [1], [], [])]
def bsX8_has : List (Nat × List gw_E) := [(0, bkX8_has_0), (14, bkX8_has_14), (15, bkX8_has_15)]
theorem fdX8_has_0 : gw_find bsX8_has 0 = bkX8_has_0 := rfl
theorem fdX8_has_14 : gw_find bsX8_has 14 = bkX8_has_14 := rfl
theorem fdX8_has_15 : gw_find bsX8_has 15 = bkX8_has_15 := rfl
set_option maxRecDepth 40000 in
theorem stX8_has : gw_sta sgX8_has bsX8_has := ⟨by decide +kernel, gw_mem2 (i := 3095) rfl rfl, gw_all (by decide +kernel)⟩
def bkX8_gives_0 : List gw_E := [(0, 1, .aload_n 0, [0], [], []), (1, 3, .getfield 15, [8, 1, 1, 1053], [], []), (4, 1, .iload_n 1, [1], [], []), (5, 1, .iaload, [], [], []), (6, 1, .iload_n 2, [2], [], []), (7, 3, .invokestatic 37, [2, 1, 3196, 3044, 1001, 0], [], [sgX10_hasBit]), (10, 1, .ireturn, [1], [], [])]
def bsX8_gives : List (Nat × List gw_E) := [(0, bkX8_gives_0)]
theorem fdX8_gives_0 : gw_find bsX8_gives 0 = bkX8_gives_0 := rfl
set_option maxRecDepth 40000 in
theorem stX8_gives : gw_sta sgX8_gives bsX8_gives := ⟨by decide +kernel, gw_mem2 (i := 3195) rfl rfl, gw_all (by decide +kernel)⟩
def bkX8_put_0 : List gw_E := [(0, 1, .aload_n 0, [0], [], []), (1, 3, .getfield 9, [8, 0, 1, 1048], [], []), (4, 1, .iload_n 1, [1], [], []), (5, 1, .iload_n 2, [2], [], []), (6, 1, .iastore, [], [], []), (7, 1, .aload_n 0, [0], [], []), (8, 3, .getfield 15, [8, 1, 1, 1053], [], []), (11, 1, .iload_n 1, [1], [], []), (12, 1, .iload_n 3, [3], [], []), (13, 1, .iastore, [], [], []), (14, 1, .aload_n 0, [0], [], []), (15, 3, .getfield 18, [8, 2, 1, 1057], [], []), (18, 1, .iload_n 1, [1], [], []), (19, 1, .aload_n 0, [0], [], []), (20, 3, .getfield 33, [8, 3, 0, 1058], [], []), (23, 1, .iastore, [], [], []), (24, 1, .aload_n 0, [0], [], []), (25, 1, .dup, [], [], []), (26, 3, .getfield 33, [8, 3, 0, 1058], [], []), (29, 1, .iconst 1, [], [1], []), (30, 1, .iadd, [], [], []), (31, 3, .putfield 33, [8, 3, 0, 1058], [], []), (34, 1, .return_, [], [], [])]
def bsX8_put : List (Nat × List gw_E) := [(0, bkX8_put_0)]
theorem fdX8_put_0 : gw_find bsX8_put 0 = bkX8_put_0 := rfl
set_option maxRecDepth 40000 in
theorem stX8_put : gw_sta sgX8_put bsX8_put := ⟨by decide +kernel, gw_mem2 (i := 3025) rfl rfl, gw_all (by decide +kernel)⟩
def bkX8_drop_0 : List gw_E := [(0, 1, .aload_n 0, [0], [], []), (1, 3, .getfield 9, [8, 0, 1, 1048], [], []), (4, 1, .iload_n 1, [1], [], []), (5, 1, .iconst (-1), [], [-1], []), (6, 1, .iastore, [], [], []), (7, 1, .aload_n 0, [0], [], []), (8, 3, .getfield 15, [8, 1, 1, 1053], [], []), (11, 1, .iload_n 1, [1], [], []), (12, 1, .iconst 0, [], [0], []), (13, 1, .iastore, [], [], []), (14, 1, .return_, [], [], [])]
def bsX8_drop : List (Nat × List gw_E) := [(0, bkX8_drop_0)]
theorem fdX8_drop_0 : gw_find bsX8_drop 0 = bkX8_drop_0 := rfl
set_option maxRecDepth 40000 in
theorem stX8_drop : gw_sta sgX8_drop bsX8_drop := ⟨by decide +kernel, gw_mem2 (i := 3033) rfl rfl, gw_all (by decide +kernel)⟩
def bkX8_dropAll_0 : List gw_E := [(0, 1, .aload_n 0, [0], [], []), (1, 3, .getfield 9, [8, 0, 1, 1048], [], []), (4, 1, .iconst (-1), [], [-1], []), (5, 3, .invokestatic 21, [2, 0, 1045, 1046, 1005, 0], [], [sgJ7_fill_53178]), (8, 1, .aload_n 0, [0], [], []), (9, 3, .getfield 15, [8, 1, 1, 1053], [], []), (12, 1, .iconst 0, [], [0], []), (13, 3, .invokestatic 21, [2, 0, 1045, 1046, 1005, 0], [], [sgJ7_fill_53178]), (16, 1, .return_, [], [], [])]
def bsX8_dropAll : List (Nat × List gw_E) := [(0, bkX8_dropAll_0)]
theorem fdX8_dropAll_0 : gw_find bsX8_dropAll 0 = bkX8_dropAll_0 := rfl
set_option maxRecDepth 40000 in
theorem stX8_dropAll : gw_sta sgX8_dropAll bsX8_dropAll := ⟨by decide +kernel, gw_mem2 (i := 4080) rfl rfl, gw_all (by decide +kernel)⟩
def bkX8_dropEldest_0 : List gw_E := [(0, 1, .aload_n 0, [0], [], []), (1, 3, .invokevirtual 41, [0, 8, 3121, 3122, 3123, 1004], [], [sgX8_eldest]), (4, 1, .istore_n 1, [1], [], []), (5, 1, .iload_n 1, [1], [], []), (6, 1, .iconst (-1), [], [-1], []), (7, 3, .if_icmp .eq 8, [15], [], []), (10, 1, .aload_n 0, [0], [], []), (11, 1, .iload_n 1, [1], [], []), (12, 3, .invokevirtual 45, [1, 8, 3125, 3031, 3032, 1004], [], [sgX8_drop])]
def bkX8_dropEldest_15 : List gw_E := [(15, 1, .return_, [], [], [])]
def bsX8_dropEldest : List (Nat × List gw_E) := [(0, bkX8_dropEldest_0), (15, bkX8_dropEldest_15)]
theorem fdX8_dropEldest_0 : gw_find bsX8_dropEldest 0 = bkX8_dropEldest_0 := rfl
theorem fdX8_dropEldest_15 : gw_find bsX8_dropEldest 15 = bkX8_dropEldest_15 := rfl
set_option maxRecDepth 40000 in
theorem stX8_dropEldest : gw_sta sgX8_dropEldest bsX8_dropEldest := ⟨by decide +kernel, gw_mem2 (i := 3120) rfl rfl, gw_all (by decide +kernel)⟩
def bkX8_size_0 : List gw_E := [(0, 1, .iconst 0, [], [0], []), (1, 1, .istore_n 1, [1], [], []), (2, 1, .iconst 0, [], [0], []), (3, 1, .istore_n 2, [2], [], [])]
def bkX8_size_4 : List gw_E := [(4, 1, .iload_n 2, [2], [], []), (5, 2, .bipush 16, [], [16], []), (7, 3, .if_icmp .ge 22, [29], [], []), (10, 1, .aload_n 0, [0], [], []), (11, 3, .getfield 9, [8, 0, 1, 1048], [], []), (14, 1, .iload_n 2, [2], [], []), (15, 1, .iaload, [], [], []), (16, 1, .iconst (-1), [], [-1], []), (17, 3, .if_icmp .eq 6, [23], [], []), (20, 3, .iinc 1 1, [1], [1], [])]
def bkX8_size_23 : List gw_E := [(23, 3, .iinc 2 1, [2], [1], []), (26, 3, .goto (-22), [4], [], [])]
def bkX8_size_29 : List gw_E := [(29, 1, .iload_n 1, [1], [], []), (30, 1, .ireturn, [0], [], [])]
def bsX8_size : List (Nat × List gw_E) := [(0, bkX8_size_0), (4, bkX8_size_4), (23, bkX8_size_23), (29, bkX8_size_29)]
theorem fdX8_size_0 : gw_find bsX8_size 0 = bkX8_size_0 := rfl
theorem fdX8_size_4 : gw_find bsX8_size 4 = bkX8_size_4 := rfl
theorem fdX8_size_23 : gw_find bsX8_size 23 = bkX8_size_23 := rfl
theorem fdX8_size_29 : gw_find bsX8_size 29 = bkX8_size_29 := rfl
set_option maxRecDepth 40000 in
theorem stX8_size : gw_sta sgX8_size bsX8_size := ⟨by decide +kernel, gw_mem2 (i := 3116) rfl rfl, gw_all (by decide +kernel)⟩
def bkX8_eldest_0 : List gw_E := [(0, 1, .iconst (-1), [], [-1], []), (1, 1, .istore_n 1, [1], [], []), (2, 1, .iconst 0, [], [0], []), (3, 1, .istore_n 2, [2], [], [])]
def bkX8_eldest_4 : List gw_E := [(4, 1, .iload_n 2, [2], [], []), (5, 2, .bipush 16, [], [16], []), (7, 3, .if_icmp .ge 41, [48], [], []), (10, 1, .aload_n 0, [0], [], []), (11, 3, .getfield 9, [8, 0, 1, 1048], [], []), (14, 1, .iload_n 2, [2], [], []), (15, 1, .iaload, [], [], []), (16, 1, .iconst (-1), [], [-1], []), (17, 3, .if_icmp .eq 25, [42], [], []), (20, 1, .iload_n 1, [1], [], []), (21, 1, .iconst (-1), [], [-1], []), (22, 3, .if_icmp .eq 18, [40], [], []), (25, 1, .aload_n 0, [0], [], []), (26, 3, .getfield 18, [8, 2, 1, 1057], [], []), (29, 1, .iload_n 2, [2], [], []), (30, 1, .iaload, [], [], []), (31, 1, .aload_n 0, [0], [], []), (32, 3, .getfield 18, [8, 2, 1, 1057], [], []), (35, 1, .iload_n 1, [1], [], []), (36, 1, .iaload, [], [], []), (37, 3, .if_icmp .ge 5, [42], [], [])]
def bkX8_eldest_40 : List gw_E := [(40, 1, .iload_n 2, [2], [], []), (41, 1, .istore_n 1, [1], [], [])]
def bkX8_eldest_42 : List gw_E := [(42, 3, .iinc 2 1, [2], [1], []), (45, 3, .goto (-41), [4], [], [])]
def bkX8_eldest_48 : List gw_E := [(48, 1, .iload_n 1, [1], [], []), (49, 1, .ireturn, [0], [], [])]
def bsX8_eldest : List (Nat × List gw_E) := [(0, bkX8_eldest_0), (4, bkX8_eldest_4), (40, bkX8_eldest_40), (42, bkX8_eldest_42), (48, bkX8_eldest_48)]
theorem fdX8_eldest_0 : gw_find bsX8_eldest 0 = bkX8_eldest_0 := rfl
theorem fdX8_eldest_4 : gw_find bsX8_eldest 4 = bkX8_eldest_4 := rfl
theorem fdX8_eldest_40 : gw_find bsX8_eldest 40 = bkX8_eldest_40 := rfl
theorem fdX8_eldest_42 : gw_find bsX8_eldest 42 = bkX8_eldest_42 := rfl
theorem fdX8_eldest_48 : gw_find bsX8_eldest 48 = bkX8_eldest_48 := rfl
set_option maxRecDepth 40000 in
theorem stX8_eldest : gw_sta sgX8_eldest bsX8_eldest := ⟨by decide +kernel, gw_mem2 (i := 3124) rfl rfl, gw_all (by decide +kernel)⟩
def bkX8_byAge_0 : List gw_E := [(0, 1, .iconst 0, [], [0], []), (1, 1, .istore_n 2, [2], [], [])]
def bkX8_byAge_2 : List gw_E := [(2, 1, .iload_n 2, [2], [], []), (3, 2, .bipush 16, [], [16], []), (5, 3, .if_icmp .ge 30, [35], [], []), (8, 1, .aload_n 0, [0], [], []), (9, 3, .getfield 9, [8, 0, 1, 1048], [], []), (12, 1, .iload_n 2, [2], [], []), (13, 1, .iaload, [], [], []), (14, 1, .iconst (-1), [], [-1], []), (15, 3, .if_icmp .eq 14, [29], [], []), (18, 1, .aload_n 0, [0], [], []), (19, 1, .iload_n 2, [2], [], []), (20, 3, .invokevirtual 49, [1, 8, 5031, 5033, 18, 1004], [], [sgX8_elderThan]), (23, 1, .iload_n 1, [1], [], []), (24, 3, .if_icmp .ne 5, [29], [], []), (27, 1, .iload_n 2, [2], [], []), (28, 1, .ireturn, [0], [], [])]
def bkX8_byAge_29 : List gw_E := [(29, 3, .iinc 2 1, [2], [1], []), (32, 3, .goto (-30), [2], [], [])]
def bkX8_byAge_35 : List gw_E := [(35, 1, .iconst (-1), [], [-1], []), (36, 1, .ireturn, [0], [], [])]
def bsX8_byAge : List (Nat × List gw_E) := [(0, bkX8_byAge_0), (2, bkX8_byAge_2), (29, bkX8_byAge_29), (35, bkX8_byAge_35)]
theorem fdX8_byAge_0 : gw_find bsX8_byAge 0 = bkX8_byAge_0 := rfl
theorem fdX8_byAge_2 : gw_find bsX8_byAge 2 = bkX8_byAge_2 := rfl
theorem fdX8_byAge_29 : gw_find bsX8_byAge 29 = bkX8_byAge_29 := rfl
theorem fdX8_byAge_35 : gw_find bsX8_byAge 35 = bkX8_byAge_35 := rfl
set_option maxRecDepth 40000 in
theorem stX8_byAge : gw_sta sgX8_byAge bsX8_byAge := ⟨by decide +kernel, gw_mem2 (i := 5030) rfl rfl, gw_all (by decide +kernel)⟩
def bkX8_elderThan_0 : List gw_E := [(0, 1, .iconst 0, [], [0], []), (1, 1, .istore_n 2, [2], [], []), (2, 1, .iconst 0, [], [0], []), (3, 1, .istore_n 3, [3], [], [])]
def bkX8_elderThan_4 : List gw_E := [(4, 1, .iload_n 3, [3], [], []), (5, 2, .bipush 16, [], [16], []), (7, 3, .if_icmp .ge 37, [44], [], []), (10, 1, .aload_n 0, [0], [], []), (11, 3, .getfield 9, [8, 0, 1, 1048], [], []), (14, 1, .iload_n 3, [3], [], []), (15, 1, .iaload, [], [], []), (16, 1, .iconst (-1), [], [-1], []), (17, 3, .if_icmp .eq 21, [38], [], []), (20, 1, .aload_n 0, [0], [], []), (21, 3, .getfield 18, [8, 2, 1, 1057], [], []), (24, 1, .iload_n 3, [3], [], []), (25, 1, .iaload, [], [], []), (26, 1, .aload_n 0, [0], [], []), (27, 3, .getfield 18, [8, 2, 1, 1057], [], []), (30, 1, .iload_n 1, [1], [], []), (31, 1, .iaload, [], [], []), (32, 3, .if_icmp .ge 6, [38], [], []), (35, 3, .iinc 2 1, [2], [1], [])]
def bkX8_elderThan_38 : List gw_E := [(38, 3, .iinc 3 1, [3], [1], []), (41, 3, .goto (-37), [4], [], [])]
def bkX8_elderThan_44 : List gw_E := [(44, 1, .iload_n 2, [2], [], []), (45, 1, .ireturn, [0], [], [])]
def bsX8_elderThan : List (Nat × List gw_E) := [(0, bkX8_elderThan_0), (4, bkX8_elderThan_4), (38, bkX8_elderThan_38), (44, bkX8_elderThan_44)]
theorem fdX8_elderThan_0 : gw_find bsX8_elderThan 0 = bkX8_elderThan_0 := rfl
theorem fdX8_elderThan_4 : gw_find bsX8_elderThan 4 = bkX8_elderThan_4 := rfl
theorem fdX8_elderThan_38 : gw_find bsX8_elderThan 38 = bkX8_elderThan_38 := rfl
theorem fdX8_elderThan_44 : gw_find bsX8_elderThan 44 = bkX8_elderThan_44 := rfl
set_option maxRecDepth 40000 in
theorem stX8_elderThan : gw_sta sgX8_elderThan bsX8_elderThan := ⟨by decide +kernel, gw_mem2 (i := 5034) rfl rfl, gw_all (by decide +kernel)⟩
def bkX7_init_0 : List gw_E := [(0, 1, .aload_n 0, [0], [], []), (1, 3, .invokespecial 3, [0, 2, 1111, 1025, 1026, 0], [], []), (4, 1, .aload_n 0, [0], [], []), (5, 2, .bipush 24, [], [24], []), (7, 2, .newarray .int, [], [], []), (9, 3, .putfield 9, [7, 0, 1, 1112], [], []), (12, 1, .aload_n 0, [0], [], []), (13, 2, .bipush 24, [], [24], []), (15, 2, .newarray .int, [], [], []), (17, 3, .putfield 15, [7, 1, 1, 1116], [], []), (20, 1, .aload_n 0, [0], [], []), (21, 2, .bipush 24, [], [24], []), (23, 2, .newarray .int, [], [], []), (25, 3, .putfield 18, [7, 2, 1, 1120], [], []), (28, 1, .return_, [], [], [])]
def bsX7_init : List (Nat × List gw_E) := [(0, bkX7_init_0)]
theorem fdX7_init_0 : gw_find bsX7_init 0 = bkX7_init_0 := rfl
set_option maxRecDepth 40000 in
theorem stX7_init : gw_sta sgX7_init bsX7_init := ⟨by decide +kernel, gw_mem2 (i := 1110) rfl rfl, gw_all (by decide +kernel)⟩
def bkX7_copyFrom_0 : List gw_E := [(0, 1, .aload_n 1, [1], [], []), (1, 3, .getfield 9, [7, 0, 1, 1112], [], []), (4, 1, .iconst 0, [], [0], []), (5, 1, .aload_n 0, [0], [], []), (6, 3, .getfield 9, [7, 0, 1, 1112], [], []), (9, 1, .iconst 0, [], [0], []), (10, 2, .bipush 24, [], [24], []), (12, 3, .invokestatic 21, [5, 2, 2235, 2224, 2223, 1014], [], []), (15, 1, .aload_n 1, [1], [], []), (16, 3, .getfield 15, [7, 1, 1, 1116], [], []), (19, 1, .iconst 0, [], [0], []), (20, 1, .aload_n 0, [0], [], []), (21, 3, .getfield 15, [7, 1, 1, 1116], [], []), (24, 1, .iconst 0, [], [0], []), (25, 2, .bipush 24, [], [24], []), (27, 3, .invokestatic 21, [5, 2, 2235, 2224, 2223, 1014], [], []), (30, 1, .aload_n 1, [1], [], []), (31, 3, .getfield 18, [7, 2, 1, 1120], [], []), (34, 1, .iconst 0, [], [0], []), (35, 1, .aload_n 0, [0], [], []), (36, 3, .getfield 18, [7, 2, 1, 1120], [], []), (39, 1, .iconst 0, [], [0], []), (40, 2, .bipush 24, [], [24], []), (42, 3, .invokestatic 21, [5, 2, 2235, 2224, 2223, 1014], [], []), (45, 1, .aload_n 0, [0], [], []), (46, 1, .aload_n 1, [1], [], []), (47, 3, .getfield 27, [7, 3, 0, 1124], [], []), (50, 3, .putfield 27, [7, 3, 0, 1124], [], []), (53, 1, .aload_n 0, [0], [], []), (54, 1, .aload_n 1, [1], [], []), (55, 3, .getfield 31, [7, 4, 0, 1128], [], []), (58, 3, .putfield 31, [7, 4, 0, 1128], [], []), (61, 1, .return_, [], [], [])]
def bsX7_copyFrom : List (Nat × List gw_E) := [(0, bkX7_copyFrom_0)]
theorem fdX7_copyFrom_0 : gw_find bsX7_copyFrom 0 = bkX7_copyFrom_0 := rfl
set_option maxRecDepth 40000 in
theorem stX7_copyFrom : gw_sta sgX7_copyFrom bsX7_copyFrom := ⟨by decide +kernel, gw_mem2 (i := 2234) rfl rfl, gw_all (by decide +kernel)⟩
def bkX7_add_0 : List gw_E := [(0, 1, .aload_n 0, [0], [], []), (1, 3, .getfield 9, [7, 0, 1, 1112], [], []), (4, 1, .aload_n 0, [0], [], []), (5, 3, .getfield 27, [7, 3, 0, 1124], [], []), (8, 1, .iload_n 1, [1], [], []), (9, 1, .iastore, [], [], []), (10, 1, .aload_n 0, [0], [], []), (11, 3, .getfield 15, [7, 1, 1, 1116], [], []), (14, 1, .aload_n 0, [0], [], []), (15, 3, .getfield 27, [7, 3, 0, 1124], [], []), (18, 1, .iload_n 2, [2], [], []), (19, 1, .iastore, [], [], []), (20, 1, .aload_n 0, [0], [], []), (21, 3, .getfield 18, [7, 2, 1, 1120], [], []), (24, 1, .aload_n 0, [0], [], []), (25, 3, .getfield 27, [7, 3, 0, 1124], [], []), (28, 1, .iload_n 3, [3], [], []), (29, 1, .iastore, [], [], []), (30, 1, .aload_n 0, [0], [], []), (31, 1, .dup, [], [], []), (32, 3, .getfield 27, [7, 3, 0, 1124], [], []), (35, 1, .iconst 1, [], [1], []), (36, 1, .iadd, [], [], []), (37, 3, .putfield 27, [7, 3, 0, 1124], [], []), (40, 1, .return_, [], [], [])]
def bsX7_add : List (Nat × List gw_E) := [(0, bkX7_add_0)]
theorem fdX7_add_0 : gw_find bsX7_add 0 = bkX7_add_0 := rfl
set_option maxRecDepth 40000 in
theorem stX7_add : gw_sta sgX7_add bsX7_add := ⟨by decide +kernel, gw_mem2 (i := 4179) rfl rfl, gw_all (by decide +kernel)⟩
def bkX7_advance_0 : List gw_E := [(0, 1, .aload_n 0, [0], [], []), (1, 3, .getfield 31, [7, 4, 0, 1128], [], []), (4, 1, .istore_n 1, [1], [], []), (5, 1, .aload_n 0, [0], [], []), (6, 1, .iload_n 1, [1], [], []), (7, 1, .iconst 1, [], [1], []), (8, 1, .iadd, [], [], []), (9, 1, .aload_n 0, [0], [], []), (10, 3, .getfield 27, [7, 3, 0, 1124], [], []), (13, 3, .if_icmp .ge 9, [22], [], []), (16, 1, .iload_n 1, [1], [], []), (17, 1, .iconst 1, [], [1], []), (18, 1, .iadd, [], [], []), (19, 3, .goto 4, [23], [], [])]
def bkX7_advance_22 : List gw_E := [(22, 1, .iconst 0, [], [0], [])]
def bkX7_advance_23 : List gw_E := [(23, 3, .putfield 31, [7, 4, 0, 1128], [], []), (26, 1, .iload_n 1, [1], [], []), (27, 1, .ireturn, [0], [], [])]
def bsX7_advance : List (Nat × List gw_E) := [(0, bkX7_advance_0), (22, bkX7_advance_22), (23, bkX7_advance_23)]
theorem fdX7_advance_0 : gw_find bsX7_advance 0 = bkX7_advance_0 := rfl
theorem fdX7_advance_22 : gw_find bsX7_advance 22 = bkX7_advance_22 := rfl
theorem fdX7_advance_23 : gw_find bsX7_advance 23 = bkX7_advance_23 := rfl
set_option maxRecDepth 40000 in
theorem stX7_advance : gw_sta sgX7_advance bsX7_advance := ⟨by decide +kernel, gw_mem2 (i := 4205) rfl rfl, gw_all (by decide +kernel)⟩
def bkX7_goTo_0 : List gw_E := [(0, 1, .iload_n 1, [1], [], []), (1, 3, .ifCond .lt 16, [17], [], []), (4, 1, .iload_n 1, [1], [], []), (5, 1, .aload_n 0, [0], [], []), (6, 3, .getfield 27, [7, 3, 0, 1124], [], []), (9, 3, .if_icmp .ge 8, [17], [], []), (12, 1, .aload_n 0, [0], [], []), (13, 1, .iload_n 1, [1], [], []), (14, 3, .putfield 31, [7, 4, 0, 1128], [], [])]
def bkX7_goTo_17 : List gw_E := [(17, 1, .return_, [], [], [])]
def bsX7_goTo : List (Nat × List gw_E) := [(0, bkX7_goTo_0), (17, bkX7_goTo_17)]
theorem fdX7_goTo_0 : gw_find bsX7_goTo 0 = bkX7_goTo_0 := rfl
theorem fdX7_goTo_17 : gw_find bsX7_goTo 17 = bkX7_goTo_17 := rfl
set_option maxRecDepth 40000 in
theorem stX7_goTo : gw_sta sgX7_goTo bsX7_goTo := ⟨by decide +kernel, gw_mem2 (i := 3068) rfl rfl, gw_all (by decide +kernel)⟩
def bkX0_init_0 : List gw_E := [(0, 1, .aload_n 0, [0], [], []), (1, 3, .invokespecial 3, [0, 2, 1105, 1025, 1026, 0], [], []), (4, 1, .aload_n 0, [0], [], []), (5, 3, .new 9, [7, 1106, 1107, 1007], [], []), (8, 1, .dup, [], [], []), (9, 3, .invokespecial 11, [0, 1, 1108, 1109, 1007, 0], [], [sgX7_init]), (12, 3, .putfield 12, [0, 0, 1, 1142], [], []), (15, 1, .aload_n 0, [0], [], []), (16, 2, .bipush 16, [], [16], []), (18, 2, .newarray .int, [], [], []), (20, 3, .putfield 18, [0, 1, 1, 1147], [], []), (23, 1, .aload_n 0, [0], [], []), (24, 2, .bipush 16, [], [16], []), (26, 3, .putfield 22, [0, 5, 0, 1156], [], []), (29, 1, .return_, [], [], [])]
def bsX0_init : List (Nat × List gw_E) := [(0, bkX0_init_0)]
theorem fdX0_init_0 : gw_find bsX0_init 0 = bkX0_init_0 := rfl
set_option maxRecDepth 40000 in
theorem stX0_init : gw_sta sgX0_init bsX0_init := ⟨by decide +kernel, gw_mem2 (i := 1104) rfl rfl, gw_all (by decide +kernel)⟩
def bkX0_copyFrom_0 : List gw_E := [(0, 1, .aload_n 0, [0], [], []), (1, 3, .getfield 12, [0, 0, 1, 1142], [], []), (4, 1, .aload_n 1, [1], [], []), (5, 3, .getfield 12, [0, 0, 1, 1142], [], []), (8, 3, .invokevirtual 26, [1, 7, 2231, 2232, 2233, 1007], [], [sgX7_copyFrom]), (11, 1, .aload_n 1, [1], [], []), (12, 3, .getfield 18, [0, 1, 1, 1147], [], []), (15, 1, .iconst 0, [], [0], []), (16, 1, .aload_n 0, [0], [], []), (17, 3, .getfield 18, [0, 1, 1, 1147], [], []), (20, 1, .iconst 0, [], [0], []), (21, 2, .bipush 16, [], [16], []), (23, 3, .invokestatic 30, [5, 2, 2236, 2224, 2223, 1014], [], []), (26, 1, .aload_n 0, [0], [], []), (27, 1, .aload_n 1, [1], [], []), (28, 3, .getfield 36, [0, 2, 0, 1149], [], []), (31, 3, .putfield 36, [0, 2, 0, 1149], [], []), (34, 1, .aload_n 0, [0], [], []), (35, 1, .aload_n 1, [1], [], []), (36, 3, .getfield 39, [0, 3, 0, 1151], [], []), (39, 3, .putfield 39, [0, 3, 0, 1151], [], []), (42, 1, .aload_n 0, [0], [], []), (43, 1, .aload_n 1, [1], [], []), (44, 3, .getfield 42, [0, 4, 2, 1153], [], []), (47, 3, .putfield 42, [0, 4, 2, 1153], [], []), (50, 1, .aload_n 0, [0], [], []), (51, 1, .aload_n 1, [1], [], []), (52, 3, .getfield 22, [0, 5, 0, 1156], [], []), (55, 3, .putfield 22, [0, 5, 0, 1156], [], []), (58, 1, .aload_n 0, [0], [], []), (59, 1, .aload_n 1, [1], [], []), (60, 3, .getfield 46, [0, 6, 0, 1158], [], []), (63, 3, .putfield 46, [0, 6, 0, 1158], [], []), (66, 1, .return_, [], [], [])]
def bsX0_copyFrom : List (Nat × List gw_E) := [(0, bkX0_copyFrom_0)]
theorem fdX0_copyFrom_0 : gw_find bsX0_copyFrom 0 = bkX0_copyFrom_0 := rfl
set_option maxRecDepth 40000 in
theorem stX0_copyFrom : gw_sta sgX0_copyFrom bsX0_copyFrom := ⟨by decide +kernel, gw_mem2 (i := 2230) rfl rfl, gw_all (by decide +kernel)⟩
def bkX0_awaits_0 : List gw_E := [(0, 1, .aload_n 0, [0], [], []), (1, 3, .getfield 36, [0, 2, 0, 1149], [], []), (4, 1, .iload_n 1, [1], [], []), (5, 3, .invokestatic 49, [2, 1, 4045, 3044, 1001, 0], [], [sgX10_hasBit]), (8, 1, .ireturn, [1], [], [])]
def bsX0_awaits : List (Nat × List gw_E) := [(0, bkX0_awaits_0)]
theorem fdX0_awaits_0 : gw_find bsX0_awaits 0 = bkX0_awaits_0 := rfl
set_option maxRecDepth 40000 in
theorem stX0_awaits : gw_sta sgX0_awaits bsX0_awaits := ⟨by decide +kernel, gw_mem2 (i := 4044) rfl rfl, gw_all (by decide +kernel)⟩
def bkX0_await_0 : List gw_E := [(0, 1, .aload_n 0, [0], [], []), (1, 1, .iload_n 1, [1], [], []), (2, 3, .invokevirtual 53, [1, 0, 4050, 4042, 4043, 1006], [], [sgX0_awaits]), (5, 3, .ifCond .ne 22, [27], [], []), (8, 1, .aload_n 0, [0], [], []), (9, 1, .dup, [], [], []), (10, 3, .getfield 36, [0, 2, 0, 1149], [], []), (13, 1, .iconst 1, [], [1], []), (14, 1, .iload_n 1, [1], [], []), (15, 1, .ishl, [], [], []), (16, 1, .ior, [], [], []), (17, 3, .putfield 36, [0, 2, 0, 1149], [], []), (20, 1, .aload_n 0, [0], [], []), (21, 3, .getfield 18, [0, 1, 1, 1147], [], []), (24, 1, .iload_n 1, [1], [], []), (25, 1, .iload_n 2, [2], [], []), (26, 1, .iastore, [], [], [])]
def bkX0_await_27 : List gw_E := [(27, 1, .return_, [], [], [])]
def bsX0_await : List (Nat × List gw_E) := [(0, bkX0_await_0), (27, bkX0_await_27)]
theorem fdX0_await_0 : gw_find bsX0_await 0 = bkX0_await_0 := rfl
theorem fdX0_await_27 : gw_find bsX0_await 27 = bkX0_await_27 := rfl
set_option maxRecDepth 40000 in
theorem stX0_await : gw_sta sgX0_await bsX0_await := ⟨by decide +kernel, gw_mem2 (i := 4049) rfl rfl, gw_all (by decide +kernel)⟩
def bkX0_ready_0 : List gw_E := [(0, 1, .aload_n 0, [0], [], []), (1, 3, .getfield 42, [0, 4, 2, 1153], [], []), (4, 3, .ifCond .eq 10, [14], [], []), (7, 1, .aload_n 0, [0], [], []), (8, 3, .getfield 36, [0, 2, 0, 1149], [], []), (11, 3, .ifCond .ne 5, [16], [], [])]
def bkX0_ready_14 : List gw_E := [(14, 1, .iconst (-1), [], [-1], []), (15, 1, .ireturn, [0], [], [])]
def bkX0_ready_16 : List gw_E := [(16, 1, .aload_n 0, [0], [], []), (17, 3, .getfield 36, [0, 2, 0, 1149], [], []), (20, 3, .invokestatic 57, [1, 1, 3054, 3055, 1001, 0], [], [sgX10_greatestOf]), (23, 1, .istore_n 1, [1], [], []), (24, 1, .iload_n 1, [1], [], []), (25, 1, .aload_n 0, [0], [], []), (26, 3, .getfield 39, [0, 3, 0, 1151], [], []), (29, 3, .invokestatic 57, [1, 1, 3054, 3055, 1001, 0], [], [sgX10_greatestOf]), (32, 3, .if_icmp .le 7, [39], [], []), (35, 1, .iload_n 1, [1], [], []), (36, 3, .goto 4, [40], [], [])]
def bkX0_ready_39 : List gw_E := [(39, 1, .iconst (-1), [], [-1], [])]
def bkX0_ready_40 : List gw_E := [(40, 1, .ireturn, [0], [], [])]
def bsX0_ready : List (Nat × List gw_E) := [(0, bkX0_ready_0), (14, bkX0_ready_14), (16, bkX0_ready_16), (39, bkX0_ready_39), (40, bkX0_ready_40)]
theorem fdX0_ready_0 : gw_find bsX0_ready 0 = bkX0_ready_0 := rfl
theorem fdX0_ready_14 : gw_find bsX0_ready 14 = bkX0_ready_14 := rfl
theorem fdX0_ready_16 : gw_find bsX0_ready 16 = bkX0_ready_16 := rfl
theorem fdX0_ready_39 : gw_find bsX0_ready 39 = bkX0_ready_39 := rfl
theorem fdX0_ready_40 : gw_find bsX0_ready 40 = bkX0_ready_40 := rfl
set_option maxRecDepth 40000 in
theorem stX0_ready : gw_sta sgX0_ready bsX0_ready := ⟨by decide +kernel, gw_mem2 (i := 3053) rfl rfl, gw_all (by decide +kernel)⟩
def bkX0_take_0 : List gw_E := [(0, 1, .aload_n 0, [0], [], []), (1, 1, .dup, [], [], []), (2, 3, .getfield 36, [0, 2, 0, 1149], [], []), (5, 1, .iconst 1, [], [1], []), (6, 1, .iload_n 1, [1], [], []), (7, 1, .ishl, [], [], []), (8, 1, .iconst (-1), [], [-1], []), (9, 1, .ixor, [], [], []), (10, 1, .iand, [], [], []), (11, 3, .putfield 36, [0, 2, 0, 1149], [], []), (14, 1, .aload_n 0, [0], [], []), (15, 1, .dup, [], [], []), (16, 3, .getfield 39, [0, 3, 0, 1151], [], []), (19, 1, .iconst 1, [], [1], []), (20, 1, .iload_n 1, [1], [], []), (21, 1, .ishl, [], [], []), (22, 1, .ior, [], [], []), (23, 3, .putfield 39, [0, 3, 0, 1151], [], []), (26, 1, .iload_n 2, [2], [], []), (27, 1, .aload_n 0, [0], [], []), (28, 3, .getfield 18, [0, 1, 1, 1147], [], []), (31, 1, .iload_n 1, [1], [], []), (32, 1, .iaload, [], [], []), (33, 1, .isub, [], [], []), (34, 1, .ireturn, [0], [], [])]
def bsX0_take : List (Nat × List gw_E) := [(0, bkX0_take_0)]
theorem fdX0_take_0 : gw_find bsX0_take 0 = bkX0_take_0 := rfl
set_option maxRecDepth 40000 in
theorem stX0_take : gw_sta sgX0_take bsX0_take := ⟨by decide +kernel, gw_mem2 (i := 3072) rfl rfl, gw_all (by decide +kernel)⟩
def bkX0_endService_0 : List gw_E := [(0, 1, .aload_n 0, [0], [], []), (1, 3, .getfield 39, [0, 3, 0, 1151], [], []), (4, 3, .invokestatic 57, [1, 1, 3054, 3055, 1001, 0], [], [sgX10_greatestOf]), (7, 1, .istore_n 1, [1], [], []), (8, 1, .iload_n 1, [1], [], []), (9, 1, .iconst (-1), [], [-1], []), (10, 3, .if_icmp .eq 17, [27], [], []), (13, 1, .aload_n 0, [0], [], []), (14, 1, .dup, [], [], []), (15, 3, .getfield 39, [0, 3, 0, 1151], [], []), (18, 1, .iconst 1, [], [1], []), (19, 1, .iload_n 1, [1], [], []), (20, 1, .ishl, [], [], []), (21, 1, .iconst (-1), [], [-1], []), (22, 1, .ixor, [], [], []), (23, 1, .iand, [], [], []), (24, 3, .putfield 39, [0, 3, 0, 1151], [], [])]
def bkX0_endService_27 : List gw_E := [(27, 1, .iload_n 1, [1], [], []), (28, 1, .ireturn, [0], [], [])]
def bsX0_endService : List (Nat × List gw_E) := [(0, bkX0_endService_0), (27, bkX0_endService_27)]
theorem fdX0_endService_0 : gw_find bsX0_endService 0 = bkX0_endService_0 := rfl
theorem fdX0_endService_27 : gw_find bsX0_endService 27 = bkX0_endService_27 := rfl
set_option maxRecDepth 40000 in
theorem stX0_endService : gw_sta sgX0_endService bsX0_endService := ⟨by decide +kernel, gw_mem2 (i := 4065) rfl rfl, gw_all (by decide +kernel)⟩
def bkX0_clockUpon_0 : List gw_E := [(0, 1, .iload_n 1, [1], [], []), (1, 1, .aload_n 0, [0], [], []), (2, 3, .getfield 22, [0, 5, 0, 1156], [], []), (5, 1, .imul, [], [], []), (6, 2, .bipush 16, [], [16], []), (8, 3, .invokestatic 61, [2, 0, 4149, 4150, 1015, 0], [], [sgJ9_floorDiv_7cf53]), (11, 1, .aload_n 0, [0], [], []), (12, 3, .getfield 46, [0, 6, 0, 1158], [], []), (15, 1, .iadd, [], [], []), (16, 1, .ireturn, [0], [], [])]
def bsX0_clockUpon : List (Nat × List gw_E) := [(0, bkX0_clockUpon_0)]
theorem fdX0_clockUpon_0 : gw_find bsX0_clockUpon 0 = bkX0_clockUpon_0 := rfl
set_option maxRecDepth 40000 in
theorem stX0_clockUpon : gw_sta sgX0_clockUpon bsX0_clockUpon := ⟨by decide +kernel, gw_mem2 (i := 4148) rfl rfl, gw_all (by decide +kernel)⟩
def bkX1_init_0 : List gw_E := [(0, 1, .aload_n 0, [0], [], []), (1, 3, .invokespecial 3, [0, 2, 2033, 1025, 1026, 0], [], []), (4, 1, .aload_n 0, [0], [], []), (5, 3, .new 9, [0, 2034, 1101, 1006], [], []), (8, 1, .dup, [], [], []), (9, 3, .invokespecial 11, [0, 1, 2035, 1103, 1006, 0], [], [sgX0_init]), (12, 3, .putfield 12, [1, 0, 1, 2038], [], []), (15, 1, .aload_n 0, [0], [], []), (16, 3, .new 18, [8, 2036, 1040, 1004], [], []), (19, 1, .dup, [], [], []), (20, 3, .invokespecial 20, [0, 0, 2037, 1042, 1004, 0], [], [sgX8_init]), (23, 3, .putfield 21, [1, 1, 1, 2042], [], []), (26, 1, .aload_n 0, [0], [], []), (27, 3, .new 18, [8, 2036, 1040, 1004], [], []), (30, 1, .dup, [], [], []), (31, 3, .invokespecial 20, [0, 0, 2037, 1042, 1004, 0], [], [sgX8_init]), (34, 3, .putfield 25, [1, 2, 1, 2046], [], []), (37, 1, .aload_n 0, [0], [], []), (38, 1, .iconst (-1), [], [-1], []), (39, 3, .putfield 28, [1, 3, 0, 2049], [], []), (42, 1, .aload_n 0, [0], [], []), (43, 1, .iconst (-1), [], [-1], []), (44, 3, .putfield 32, [1, 4, 0, 2051], [], []), (47, 1, .aload_n 0, [0], [], []), (48, 1, .iconst (-1), [], [-1], []), (49, 3, .putfield 35, [1, 5, 0, 2055], [], []), (52, 1, .return_, [], [], [])]
def bsX1_init : List (Nat × List gw_E) := [(0, bkX1_init_0)]
theorem fdX1_init_0 : gw_find bsX1_init 0 = bkX1_init_0 := rfl
set_option maxRecDepth 40000 in
theorem stX1_init : gw_sta sgX1_init bsX1_init := ⟨by decide +kernel, gw_mem2 (i := 2032) rfl rfl, gw_all (by decide +kernel)⟩
def bkX1_copyFrom_0 : List gw_E := [(0, 1, .aload_n 0, [0], [], []), (1, 3, .getfield 12, [1, 0, 1, 2038], [], []), (4, 1, .aload_n 1, [1], [], []), (5, 3, .getfield 12, [1, 0, 1, 2038], [], []), (8, 3, .invokevirtual 38, [1, 0, 3001, 2228, 2229, 1006], [], [sgX0_copyFrom]), (11, 1, .aload_n 0, [0], [], []), (12, 3, .getfield 21, [1, 1, 1, 2042], [], []), (15, 1, .aload_n 1, [1], [], []), (16, 3, .getfield 21, [1, 1, 1, 2042], [], []), (19, 3, .invokevirtual 42, [1, 8, 3002, 2219, 2220, 1004], [], [sgX8_copyFrom]), (22, 1, .aload_n 0, [0], [], []), (23, 3, .getfield 25, [1, 2, 1, 2046], [], []), (26, 1, .aload_n 1, [1], [], []), (27, 3, .getfield 25, [1, 2, 1, 2046], [], []), (30, 3, .invokevirtual 42, [1, 8, 3002, 2219, 2220, 1004], [], [sgX8_copyFrom]), (33, 1, .aload_n 0, [0], [], []), (34, 1, .aload_n 1, [1], [], []), (35, 3, .getfield 28, [1, 3, 0, 2049], [], []), (38, 3, .putfield 28, [1, 3, 0, 2049], [], []), (41, 1, .aload_n 0, [0], [], []), (42, 1, .aload_n 1, [1], [], []), (43, 3, .getfield 32, [1, 4, 0, 2051], [], []), (46, 3, .putfield 32, [1, 4, 0, 2051], [], []), (49, 1, .aload_n 0, [0], [], []), (50, 1, .aload_n 1, [1], [], []), (51, 3, .getfield 35, [1, 5, 0, 2055], [], []), (54, 3, .putfield 35, [1, 5, 0, 2055], [], []), (57, 1, .return_, [], [], [])]
def bsX1_copyFrom : List (Nat × List gw_E) := [(0, bkX1_copyFrom_0)]
theorem fdX1_copyFrom_0 : gw_find bsX1_copyFrom 0 = bkX1_copyFrom_0 := rfl
set_option maxRecDepth 40000 in
theorem stX1_copyFrom : gw_sta sgX1_copyFrom bsX1_copyFrom := ⟨by decide +kernel, gw_mem2 (i := 3000) rfl rfl, gw_all (by decide +kernel)⟩
def bkX1_trapAt_0 : List gw_E := [(0, 1, .aload_n 0, [0], [], []), (1, 1, .iload_n 1, [1], [], []), (2, 3, .putfield 35, [1, 5, 0, 2055], [], []), (5, 1, .aload_n 0, [0], [], []), (6, 3, .getfield 12, [1, 0, 1, 2038], [], []), (9, 3, .getfield 45, [0, 0, 1, 1144], [], []), (12, 1, .aload_n 0, [0], [], []), (13, 3, .getfield 28, [1, 3, 0, 2049], [], []), (16, 3, .invokevirtual 49, [1, 7, 4232, 3066, 3067, 1007], [], [sgX7_goTo]), (19, 1, .return_, [], [], [])]
def bsX1_trapAt : List (Nat × List gw_E) := [(0, bkX1_trapAt_0)]
theorem fdX1_trapAt_0 : gw_find bsX1_trapAt 0 = bkX1_trapAt_0 := rfl
set_option maxRecDepth 40000 in
theorem stX1_trapAt : gw_sta sgX1_trapAt bsX1_trapAt := ⟨by decide +kernel, gw_mem2 (i := 4231) rfl rfl, gw_all (by decide +kernel)⟩
def bkX1_actAlone_0 : List gw_E := [(0, 1, .iload_n 1, [1], [], []), (1, 2, .bipush 6, [], [6], []), (3, 3, .if_icmp .ne 17, [20], [], []), (6, 1, .aload_n 0, [0], [], []), (7, 3, .getfield 21, [1, 1, 1, 2042], [], []), (10, 1, .iload_n 2, [2], [], []), (11, 1, .iload_n 3, [3], [], []), (12, 2, .bipush 7, [], [7], []), (14, 3, .invokevirtual 55, [3, 8, 4237, 3023, 3024, 1004], [], [sgX8_put]), (17, 3, .goto 54, [71], [], [])]
def bkX1_actAlone_20 : List gw_E := [(20, 1, .iload_n 1, [1], [], []), (21, 2, .bipush 8, [], [8], []), (23, 3, .if_icmp .ne 28, [51], [], []), (26, 1, .aload_n 0, [0], [], []), (27, 3, .getfield 32, [1, 4, 0, 2051], [], []), (30, 1, .iconst (-1), [], [-1], []), (31, 3, .if_icmp .eq 20, [51], [], []), (34, 1, .aload_n 0, [0], [], []), (35, 3, .getfield 21, [1, 1, 1, 2042], [], []), (38, 1, .aload_n 0, [0], [], []), (39, 3, .getfield 32, [1, 4, 0, 2051], [], []), (42, 1, .iload_n 2, [2], [], []), (43, 2, .bipush 7, [], [7], []), (45, 3, .invokevirtual 55, [3, 8, 4237, 3023, 3024, 1004], [], [sgX8_put]), (48, 3, .goto 23, [71], [], [])]
def bkX1_actAlone_51 : List gw_E := [(51, 1, .iload_n 1, [1], [], []), (52, 2, .bipush 9, [], [9], []), (54, 3, .if_icmp .ne 17, [71], [], []), (57, 1, .aload_n 0, [0], [], []), (58, 3, .getfield 12, [1, 0, 1, 2038], [], []), (61, 3, .getfield 45, [0, 0, 1, 1144], [], []), (64, 1, .aload_n 0, [0], [], []), (65, 3, .getfield 35, [1, 5, 0, 2055], [], []), (68, 3, .invokevirtual 49, [1, 7, 4232, 3066, 3067, 1007], [], [sgX7_goTo])]
def bkX1_actAlone_71 : List gw_E := [(71, 1, .return_, [], [], [])]
def bsX1_actAlone : List (Nat × List gw_E) := [(0, bkX1_actAlone_0), (20, bkX1_actAlone_20), (51, bkX1_actAlone_51), (71, bkX1_actAlone_71)]
theorem fdX1_actAlone_0 : gw_find bsX1_actAlone 0 = bkX1_actAlone_0 := rfl
theorem fdX1_actAlone_20 : gw_find bsX1_actAlone 20 = bkX1_actAlone_20 := rfl
theorem fdX1_actAlone_51 : gw_find bsX1_actAlone 51 = bkX1_actAlone_51 := rfl
theorem fdX1_actAlone_71 : gw_find bsX1_actAlone 71 = bkX1_actAlone_71 := rfl
set_option maxRecDepth 40000 in
theorem stX1_actAlone : gw_sta sgX1_actAlone bsX1_actAlone := ⟨by decide +kernel, gw_mem2 (i := 4236) rfl rfl, gw_all (by decide +kernel)⟩
def bkX9_init_0 : List gw_E := [(0, 1, .aload_n 0, [0], [], []), (1, 3, .invokespecial 3, [0, 2, 1182, 1025, 1026, 0], [], []), (4, 1, .aload_n 0, [0], [], []), (5, 2, .bipush 12, [], [12], []), (7, 2, .newarray .int, [], [], []), (9, 3, .putfield 9, [9, 0, 1, 1183], [], []), (12, 1, .aload_n 0, [0], [], []), (13, 2, .bipush 12, [], [12], []), (15, 2, .newarray .int, [], [], []), (17, 3, .putfield 15, [9, 1, 1, 1186], [], []), (20, 1, .aload_n 0, [0], [], []), (21, 2, .bipush 12, [], [12], []), (23, 2, .newarray .int, [], [], []), (25, 3, .putfield 18, [9, 2, 1, 1189], [], []), (28, 1, .return_, [], [], [])]
def bsX9_init : List (Nat × List gw_E) := [(0, bkX9_init_0)]
theorem fdX9_init_0 : gw_find bsX9_init 0 = bkX9_init_0 := rfl
set_option maxRecDepth 40000 in
theorem stX9_init : gw_sta sgX9_init bsX9_init := ⟨by decide +kernel, gw_mem2 (i := 1181) rfl rfl, gw_all (by decide +kernel)⟩
def bkX9_copyFrom_0 : List gw_E := [(0, 1, .aload_n 1, [1], [], []), (1, 3, .getfield 9, [9, 0, 1, 1183], [], []), (4, 1, .iconst 0, [], [0], []), (5, 1, .aload_n 0, [0], [], []), (6, 3, .getfield 9, [9, 0, 1, 1183], [], []), (9, 1, .iconst 0, [], [0], []), (10, 2, .bipush 12, [], [12], []), (12, 3, .invokestatic 21, [5, 2, 3008, 2224, 2223, 1014], [], []), (15, 1, .aload_n 1, [1], [], []), (16, 3, .getfield 15, [9, 1, 1, 1186], [], []), (19, 1, .iconst 0, [], [0], []), (20, 1, .aload_n 0, [0], [], []), (21, 3, .getfield 15, [9, 1, 1, 1186], [], []), (24, 1, .iconst 0, [], [0], []), (25, 2, .bipush 12, [], [12], []), (27, 3, .invokestatic 21, [5, 2, 3008, 2224, 2223, 1014], [], []), (30, 1, .aload_n 1, [1], [], []), (31, 3, .getfield 18, [9, 2, 1, 1189], [], []), (34, 1, .iconst 0, [], [0], []), (35, 1, .aload_n 0, [0], [], []), (36, 3, .getfield 18, [9, 2, 1, 1189], [], []), (39, 1, .iconst 0, [], [0], []), (40, 2, .bipush 12, [], [12], []), (42, 3, .invokestatic 21, [5, 2, 3008, 2224, 2223, 1014], [], []), (45, 1, .aload_n 0, [0], [], []), (46, 1, .aload_n 1, [1], [], []), (47, 3, .getfield 27, [9, 3, 0, 1192], [], []), (50, 3, .putfield 27, [9, 3, 0, 1192], [], []), (53, 1, .return_, [], [], [])]
def bsX9_copyFrom : List (Nat × List gw_E) := [(0, bkX9_copyFrom_0)]
theorem fdX9_copyFrom_0 : gw_find bsX9_copyFrom 0 = bkX9_copyFrom_0 := rfl
set_option maxRecDepth 40000 in
theorem stX9_copyFrom : gw_sta sgX9_copyFrom bsX9_copyFrom := ⟨by decide +kernel, gw_mem2 (i := 3007) rfl rfl, gw_all (by decide +kernel)⟩
def bkX9_add_0 : List gw_E := [(0, 1, .aload_n 0, [0], [], []), (1, 3, .getfield 9, [9, 0, 1, 1183], [], []), (4, 1, .aload_n 0, [0], [], []), (5, 3, .getfield 27, [9, 3, 0, 1192], [], []), (8, 1, .iload_n 1, [1], [], []), (9, 1, .iastore, [], [], []), (10, 1, .aload_n 0, [0], [], []), (11, 3, .getfield 15, [9, 1, 1, 1186], [], []), (14, 1, .aload_n 0, [0], [], []), (15, 3, .getfield 27, [9, 3, 0, 1192], [], []), (18, 1, .iload_n 2, [2], [], []), (19, 1, .iastore, [], [], []), (20, 1, .aload_n 0, [0], [], []), (21, 3, .getfield 18, [9, 2, 1, 1189], [], []), (24, 1, .aload_n 0, [0], [], []), (25, 3, .getfield 27, [9, 3, 0, 1192], [], []), (28, 1, .iload_n 3, [3], [], []), (29, 1, .iastore, [], [], []), (30, 1, .aload_n 0, [0], [], []), (31, 1, .dup, [], [], []), (32, 3, .getfield 27, [9, 3, 0, 1192], [], []), (35, 1, .iconst 1, [], [1], []), (36, 1, .iadd, [], [], []), (37, 3, .putfield 27, [9, 3, 0, 1192], [], []), (40, 1, .return_, [], [], [])]
def bsX9_add : List (Nat × List gw_E) := [(0, bkX9_add_0)]
theorem fdX9_add_0 : gw_find bsX9_add 0 = bkX9_add_0 := rfl
set_option maxRecDepth 40000 in
theorem stX9_add : gw_sta sgX9_add bsX9_add := ⟨by decide +kernel, gw_mem2 (i := 4094) rfl rfl, gw_all (by decide +kernel)⟩
def bkX9_removeAt_0 : List gw_E := [(0, 1, .aload_n 0, [0], [], []), (1, 3, .getfield 27, [9, 3, 0, 1192], [], []), (4, 1, .iconst 1, [], [1], []), (5, 1, .isub, [], [], []), (6, 1, .iload_n 1, [1], [], []), (7, 1, .isub, [], [], []), (8, 1, .istore_n 2, [2], [], []), (9, 1, .aload_n 0, [0], [], []), (10, 3, .getfield 9, [9, 0, 1, 1183], [], []), (13, 1, .iload_n 1, [1], [], []), (14, 1, .iconst 1, [], [1], []), (15, 1, .iadd, [], [], []), (16, 1, .aload_n 0, [0], [], []), (17, 3, .getfield 9, [9, 0, 1, 1183], [], []), (20, 1, .iload_n 1, [1], [], []), (21, 1, .iload_n 2, [2], [], []), (22, 3, .invokestatic 21, [5, 2, 3008, 2224, 2223, 1014], [], []), (25, 1, .aload_n 0, [0], [], []), (26, 3, .getfield 15, [9, 1, 1, 1186], [], []), (29, 1, .iload_n 1, [1], [], []), (30, 1, .iconst 1, [], [1], []), (31, 1, .iadd, [], [], []), (32, 1, .aload_n 0, [0], [], []), (33, 3, .getfield 15, [9, 1, 1, 1186], [], []), (36, 1, .iload_n 1, [1], [], []), (37, 1, .iload_n 2, [2], [], []), (38, 3, .invokestatic 21, [5, 2, 3008, 2224, 2223, 1014], [], []), (41, 1, .aload_n 0, [0], [], []), (42, 3, .getfield 18, [9, 2, 1, 1189], [], []), (45, 1, .iload_n 1, [1], [], []), (46, 1, .iconst 1, [], [1], []), (47, 1, .iadd, [], [], []), (48, 1, .aload_n 0, [0], [], []), (49, 3, .getfield 18, [9, 2, 1, 1189], [], []), (52, 1, .iload_n 1, [1], [], []), (53, 1, .iload_n 2, [2], [], []), (54, 3, .invokestatic 21, [5, 2, 3008, 2224, 2223, 1014], [], []), (57, 1, .aload_n 0, [0], [], []), (58, 1, .dup, [], [], []), (59, 3, .getfield 27, [9, 3, 0, 1192], [], []), (62, 1, .iconst 1, [], [1], []), (63, 1, .isub, [], [], []), (64, 3, .putfield 27, [9, 3, 0, 1192], [], []), (67, 1, .return_, [], [], [])]
def bsX9_removeAt : List (Nat × List gw_E) := [(0, bkX9_removeAt_0)]
theorem fdX9_removeAt_0 : gw_find bsX9_removeAt 0 = bkX9_removeAt_0 := rfl
set_option maxRecDepth 40000 in
theorem stX9_removeAt : gw_sta sgX9_removeAt bsX9_removeAt := ⟨by decide +kernel, gw_mem2 (i := 4102) rfl rfl, gw_all (by decide +kernel)⟩
def bkX9_isAhead_0 : List gw_E := [(0, 1, .aload_n 0, [0], [], []), (1, 3, .getfield 9, [9, 0, 1, 1183], [], []), (4, 1, .iload_n 1, [1], [], []), (5, 1, .iaload, [], [], []), (6, 1, .aload_n 0, [0], [], []), (7, 3, .getfield 9, [9, 0, 1, 1183], [], []), (10, 1, .iload_n 2, [2], [], []), (11, 1, .iaload, [], [], []), (12, 3, .if_icmp .eq 24, [36], [], []), (15, 1, .aload_n 0, [0], [], []), (16, 3, .getfield 9, [9, 0, 1, 1183], [], []), (19, 1, .iload_n 1, [1], [], []), (20, 1, .iaload, [], [], []), (21, 1, .aload_n 0, [0], [], []), (22, 3, .getfield 9, [9, 0, 1, 1183], [], []), (25, 1, .iload_n 2, [2], [], []), (26, 1, .iaload, [], [], []), (27, 3, .if_icmp .ge 7, [34], [], []), (30, 1, .iconst 1, [], [1], []), (31, 3, .goto 4, [35], [], [])]
def bkX9_isAhead_34 : List gw_E := [(34, 1, .iconst 0, [], [0], [])]
def bkX9_isAhead_35 : List gw_E := [(35, 1, .ireturn, [1], [], [])]
def bkX9_isAhead_36 : List gw_E := [(36, 1, .aload_n 0, [0], [], []), (37, 3, .getfield 15, [9, 1, 1, 1186], [], []), (40, 1, .iload_n 1, [1], [], []), (41, 1, .iaload, [], [], []), (42, 1, .aload_n 0, [0], [], []), (43, 3, .getfield 15, [9, 1, 1, 1186], [], []), (46, 1, .iload_n 2, [2], [], []), (47, 1, .iaload, [], [], []), (48, 3, .if_icmp .eq 24, [72], [], []), (51, 1, .aload_n 0, [0], [], []), (52, 3, .getfield 15, [9, 1, 1, 1186], [], []), (55, 1, .iload_n 1, [1], [], []), (56, 1, .iaload, [], [], []), (57, 1, .aload_n 0, [0], [], []), (58, 3, .getfield 15, [9, 1, 1, 1186], [], []), (61, 1, .iload_n 2, [2], [], []), (62, 1, .iaload, [], [], []), (63, 3, .if_icmp .ge 7, [70], [], []), (66, 1, .iconst 1, [], [1], []), (67, 3, .goto 4, [71], [], [])]
def bkX9_isAhead_70 : List gw_E := [(70, 1, .iconst 0, [], [0], [])]
def bkX9_isAhead_71 : List gw_E := [(71, 1, .ireturn, [1], [], [])]
def bkX9_isAhead_72 : List gw_E := [(72, 1, .iload_n 1, [1], [], []), (73, 1, .iload_n 2, [2], [], []), (74, 3, .if_icmp .ge 7, [81], [], []), (77, 1, .iconst 1, [], [1], []), (78, 3, .goto 4, [82], [], [])]
def bkX9_isAhead_81 : List gw_E := [(81, 1, .iconst 0, [], [0], [])]
def bkX9_isAhead_82 : List gw_E := [(82, 1, .ireturn, [1], [], [])]
def bsX9_isAhead : List (Nat × List gw_E) := [(0, bkX9_isAhead_0), (34, bkX9_isAhead_34), (35, bkX9_isAhead_35), (36, bkX9_isAhead_36), (70, bkX9_isAhead_70), (71, bkX9_isAhead_71), (72, bkX9_isAhead_72), (81, bkX9_isAhead_81), (82, bkX9_isAhead_82)]
theorem fdX9_isAhead_0 : gw_find bsX9_isAhead 0 = bkX9_isAhead_0 := rfl
theorem fdX9_isAhead_34 : gw_find bsX9_isAhead 34 = bkX9_isAhead_34 := rfl
theorem fdX9_isAhead_35 : gw_find bsX9_isAhead 35 = bkX9_isAhead_35 := rfl
theorem fdX9_isAhead_36 : gw_find bsX9_isAhead 36 = bkX9_isAhead_36 := rfl
theorem fdX9_isAhead_70 : gw_find bsX9_isAhead 70 = bkX9_isAhead_70 := rfl
theorem fdX9_isAhead_71 : gw_find bsX9_isAhead 71 = bkX9_isAhead_71 := rfl
theorem fdX9_isAhead_72 : gw_find bsX9_isAhead 72 = bkX9_isAhead_72 := rfl
theorem fdX9_isAhead_81 : gw_find bsX9_isAhead 81 = bkX9_isAhead_81 := rfl
theorem fdX9_isAhead_82 : gw_find bsX9_isAhead 82 = bkX9_isAhead_82 := rfl
set_option maxRecDepth 40000 in
theorem stX9_isAhead : gw_sta sgX9_isAhead bsX9_isAhead := ⟨by decide +kernel, gw_mem2 (i := 4155) rfl rfl, gw_all (by decide +kernel)⟩
def bkX2_init_0 : List gw_E := [(0, 1, .aload_n 0, [0], [], []), (1, 3, .invokespecial 3, [0, 2, 1209, 1025, 1026, 0], [], []), (4, 1, .aload_n 0, [0], [], []), (5, 2, .bipush 24, [], [24], []), (7, 2, .newarray .int, [], [], []), (9, 3, .putfield 9, [2, 0, 1, 1210], [], []), (12, 1, .aload_n 0, [0], [], []), (13, 2, .bipush 24, [], [24], []), (15, 2, .newarray .int, [], [], []), (17, 3, .putfield 15, [2, 1, 1, 1211], [], []), (20, 1, .aload_n 0, [0], [], []), (21, 2, .bipush 24, [], [24], []), (23, 2, .newarray .int, [], [], []), (25, 3, .putfield 18, [2, 2, 1, 1212], [], []), (28, 1, .aload_n 0, [0], [], []), (29, 2, .bipush 24, [], [24], []), (31, 2, .newarray .int, [], [], []), (33, 3, .putfield 21, [2, 3, 1, 1213], [], []), (36, 1, .aload_n 0, [0], [], []), (37, 1, .iconst 2, [], [2], []), (38, 2, .newarray .int, [], [], []), (40, 3, .putfield 24, [2, 4, 1, 1214], [], []), (43, 1, .aload_n 0, [0], [], []), (44, 1, .iconst (-1), [], [-1], []), (45, 3, .putfield 27, [2, 5, 0, 1217], [], []), (48, 1, .aload_n 0, [0], [], []), (49, 1, .iconst (-1), [], [-1], []), (50, 3, .putfield 31, [2, 6, 0, 1219], [], []), (53, 1, .aload_n 0, [0], [], []), (54, 2, .bipush 24, [], [24], []), (56, 2, .newarray .int, [], [], []), (58, 3, .putfield 34, [2, 7, 1, 1221], [], []), (61, 1, .aload_n 0, [0], [], []), (62, 2, .bipush 24, [], [24], []), (64, 2, .newarray .int, [], [], []), (66, 3, .putfield 37, [2, 10, 1, 1225], [], []), (69, 1, .aload_n 0, [0], [], []), (70, 1, .iconst 4, [], [4], []), (71, 2, .newarray .int, [], [], []), (73, 3, .putfield 40, [2, 11, 1, 1228], [], []), (76, 1, .aload_n 0, [0], [], []), (77, 1, .iconst 2, [], [2], []), (78, 2, .newarray .int, [], [], []), (80, 3, .putfield 43, [2, 12, 1, 1231], [], []), (83, 1, .aload_n 0, [0], [], []), (84, 1, .iconst 2, [], [2], []), (85, 2, .newarray .int, [], [], []), (87, 1, .dup, [], [], []), (88, 1, .iconst 0, [], [0], []), (89, 1, .iconst (-1), [], [-1], []), (90, 1, .iastore, [], [], []), (91, 1, .dup, [], [], []), (92, 1, .iconst 1, [], [1], []), (93, 1, .iconst (-1), [], [-1], []), (94, 1, .iastore, [], [], []), (95, 3, .putfield 46, [2, 13, 1, 1234], [], []), (98, 1, .aload_n 0, [0], [], []), (99, 1, .iconst 2, [], [2], []), (100, 2, .newarray .int, [], [], []), (102, 1, .dup, [], [], []), (103, 1, .iconst 0, [], [0], []), (104, 1, .iconst (-1), [], [-1], []), (105, 1, .iastore, [], [], []), (106, 1, .dup, [], [], []), (107, 1, .iconst 1, [], [1], []), (108, 1, .iconst (-1), [], [-1], []), (109, 1, .iastore, [], [], []), (110, 3, .putfield 49, [2, 14, 1, 1236], [], []), (113, 1, .return_, [], [], [])]
def bsX2_init : List (Nat × List gw_E) := [(0, bkX2_init_0)]
theorem fdX2_init_0 : gw_find bsX2_init 0 = bkX2_init_0 := rfl
set_option maxRecDepth 40000 in
theorem stX2_init : gw_sta sgX2_init bsX2_init := ⟨by decide +kernel, gw_mem2 (i := 1208) rfl rfl, gw_all (by decide +kernel)⟩
def bkX2_copyFrom_0 : List gw_E := [(0, 1, .aload_n 1, [1], [], []), (1, 3, .getfield 9, [2, 0, 1, 1210], [], []), (4, 1, .iconst 0, [], [0], []), (5, 1, .aload_n 0, [0], [], []), (6, 3, .getfield 9, [2, 0, 1, 1210], [], []), (9, 1, .iconst 0, [], [0], []), (10, 2, .bipush 24, [], [24], []), (12, 3, .invokestatic 52, [5, 2, 3013, 2224, 2223, 1014], [], []), (15, 1, .aload_n 1, [1], [], []), (16, 3, .getfield 15, [2, 1, 1, 1211], [], []), (19, 1, .iconst 0, [], [0], []), (20, 1, .aload_n 0, [0], [], []), (21, 3, .getfield 15, [2, 1, 1, 1211], [], []), (24, 1, .iconst 0, [], [0], []), (25, 2, .bipush 24, [], [24], []), (27, 3, .invokestatic 52, [5, 2, 3013, 2224, 2223, 1014], [], []), (30, 1, .aload_n 1, [1], [], []), (31, 3, .getfield 18, [2, 2, 1, 1212], [], []), (34, 1, .iconst 0, [], [0], []), (35, 1, .aload_n 0, [0], [], []), (36, 3, .getfield 18, [2, 2, 1, 1212], [], []), (39, 1, .iconst 0, [], [0], []), (40, 2, .bipush 24, [], [24], []), (42, 3, .invokestatic 52, [5, 2, 3013, 2224, 2223, 1014], [], []), (45, 1, .aload_n 1, [1], [], []), (46, 3, .getfield 21, [2, 3, 1, 1213], [], []), (49, 1, .iconst 0, [], [0], []), (50, 1, .aload_n 0, [0], [], []), (51, 3, .getfield 21, [2, 3, 1, 1213], [], []), (54, 1, .iconst 0, [], [0], []), (55, 2, .bipush 24, [], [24], []), (57, 3, .invokestatic 52, [5, 2, 3013, 2224, 2223, 1014], [], []), (60, 1, .aload_n 1, [1], [], []), (61, 3, .getfield 24, [2, 4, 1, 1214], [], []), (64, 1, .iconst 0, [], [0], []), (65, 1, .aload_n 0, [0], [], []), (66, 3, .getfield 24, [2, 4, 1, 1214], [], []), (69, 1, .iconst 0, [], [0], []), (70, 1, .aload_n 0, [0], [], []), (71, 3, .getfield 24, [2, 4, 1, 1214], [], []), (74, 1, .arraylength, [], [], []), (75, 3, .invokestatic 52, [5, 2, 3013, 2224, 2223, 1014], [], []), (78, 1, .aload_n 0, [0], [], []), (79, 1, .aload_n 1, [1], [], []), (80, 3, .getfield 27, [2, 5, 0, 1217], [], []), (83, 3, .putfield 27, [2, 5, 0, 1217], [], []), (86, 1, .aload_n 0, [0], [], []), (87, 1, .aload_n 1, [1], [], []), (88, 3, .getfield 31, [2, 6, 0, 1219], [], []), (91, 3, .putfield 31, [2, 6, 0, 1219], [], []), (94, 1, .aload_n 1, [1], [], []), (95, 3, .getfield 34, [2, 7, 1, 1221], [], []), (98, 1, .iconst 0, [], [0], []), (99, 1, .aload_n 0, [0], [], []), (100, 3, .getfield 34, [2, 7, 1, 1221], [], []), (103, 1, .iconst 0, [], [0], []), (104, 2, .bipush 24, [], [24], []), (106, 3, .invokestatic 52, [5, 2, 3013, 2224, 2223, 1014], [], []), (109, 1, .aload_n 0, [0], [], []), (110, 1, .aload_n 1, [1], [], []), (111, 3, .getfield 58, [2, 8, 0, 1222], [], []), (114, 3, .putfield 58, [2, 8, 0, 1222], [], []), (117, 1, .aload_n 0, [0], [], []), (118, 1, .aload_n 1, [1], [], []), (119, 3, .getfield 61, [2, 9, 0, 1223], [], []), (122, 3, .putfield 61, [2, 9, 0, 1223], [], []), (125, 1, .aload_n 1, [1], [], []), (126, 3, .getfield 37, [2, 10, 1, 1225], [], []), (129, 1, .iconst 0, [], [0], []), (130, 1, .aload_n 0, [0], [], []), (131, 3, .getfield 37, [2, 10, 1, 1225], [], []), (134, 1, .iconst 0, [], [0], []), (135, 1, .aload_n 0, [0], [], []), (136, 3, .getfield 37, [2, 10, 1, 1225], [], []), (139, 1, .arraylength, [], [], []), (140, 3, .invokestatic 52, [5, 2, 3013, 2224, 2223, 1014], [], []), (143, 1, .aload_n 1, [1], [], []), (144, 3, .getfield 40, [2, 11, 1, 1228], [], []), (147, 1, .iconst 0, [], [0], []), (148, 1, .aload_n 0, [0], [], []), (149, 3, .getfield 40, [2, 11, 1, 1228], [], []), (152, 1, .iconst 0, [], [0], []), (153, 1, .aload_n 0, [0], [], []), (154, 3, .getfield 40, [2, 11, 1, 1228], [], []), (157, 1, .arraylength, [], [], []), (158, 3, .invokestatic 52, [5, 2, 3013, 2224, 2223, 1014], [], []), (161, 1, .aload_n 1, [1], [], []), (162, 3, .getfield 43, [2, 12, 1, 1231], [], []), (165, 1, .iconst 0, [], [0], []), (166, 1, .aload_n 0, [0], [], []), (167, 3, .getfield 43, [2, 12, 1, 1231], [], []), (170, 1, .iconst 0, [], [0], []), (171, 1, .aload_n 0, [0], [], []), (172, 3, .getfield 43, [2, 12, 1, 1231], [], []), (175, 1, .arraylength, [], [], []), (176, 3, .invokestatic 52, [5, 2, 3013, 2224, 2223, 1014], [], []), (179, 1, .aload_n 1, [1], [], []), (180, 3, .getfield 46, [2, 13, 1, 1234], [], []), (183, 1, .iconst 0, [], [0], []), (184, 1, .aload_n 0, [0], [], []), (185, 3, .getfield 46, [2, 13, 1, 1234], [], []), (188, 1, .iconst 0, [], [0], []), (189, 1, .aload_n 0, [0], [], []), (190, 3, .getfield 46, [2, 13, 1, 1234], [], []), (193, 1, .arraylength, [], [], []), (194, 3, .invokestatic 52, [5, 2, 3013, 2224, 2223, 1014], [], []), (197, 1, .aload_n 1, [1], [], []), (198, 3, .getfield 49, [2, 14, 1, 1236], [], []), (201, 1, .iconst 0, [], [0], []), (202, 1, .aload_n 0, [0], [], []), (203, 3, .getfield 49, [2, 14, 1, 1236], [], []), (206, 1, .iconst 0, [], [0], []), (207, 1, .aload_n 0, [0], [], []), (208, 3, .getfield 49, [2, 14, 1, 1236], [], []), (211, 1, .arraylength, [], [], []), (212, 3, .invokestatic 52, [5, 2, 3013, 2224, 2223, 1014], [], []), (215, 1, .return_, [], [], [])]
def bsX2_copyFrom : List (Nat × List gw_E) := [(0, bkX2_copyFrom_0)]
theorem fdX2_copyFrom_0 : gw_find bsX2_copyFrom 0 = bkX2_copyFrom_0 := rfl
set_option maxRecDepth 40000 in
theorem stX2_copyFrom : gw_sta sgX2_copyFrom bsX2_copyFrom := ⟨by decide +kernel, gw_mem2 (i := 3012) rfl rfl, gw_all (by decide +kernel)⟩
def bkX2_allExits_0 : List gw_E := [(0, 1, .aload_n 0, [0], [], []), (1, 3, .getfield 24, [2, 4, 1, 1214], [], []), (4, 1, .iconst 0, [], [0], []), (5, 1, .iaload, [], [], []), (6, 1, .aload_n 0, [0], [], []), (7, 3, .getfield 24, [2, 4, 1, 1214], [], []), (10, 1, .iconst 1, [], [1], []), (11, 1, .iaload, [], [], []), (12, 1, .iadd, [], [], []), (13, 1, .ireturn, [0], [], [])]
def bsX2_allExits : List (Nat × List gw_E) := [(0, bkX2_allExits_0)]
theorem fdX2_allExits_0 : gw_find bsX2_allExits 0 = bkX2_allExits_0 := rfl
set_option maxRecDepth 40000 in
theorem stX2_allExits : gw_sta sgX2_allExits bsX2_allExits := ⟨by decide +kernel, gw_mem2 (i := 4191) rfl rfl, gw_all (by decide +kernel)⟩
def bkX2_exitsKept_0 : List gw_E := [(0, 1, .aload_n 0, [0], [], []), (1, 3, .invokevirtual 64, [0, 2, 5139, 4189, 4190, 1009], [], [sgX2_allExits]), (4, 2, .bipush 24, [], [24], []), (6, 3, .invokestatic 68, [2, 0, 5070, 5071, 1015, 0], [], [sgJ9_min_7cf53]), (9, 1, .ireturn, [0], [], [])]
def bsX2_exitsKept : List (Nat × List gw_E) := [(0, bkX2_exitsKept_0)]
theorem fdX2_exitsKept_0 : gw_find bsX2_exitsKept 0 = bkX2_exitsKept_0 := rfl
set_option maxRecDepth 40000 in
theorem stX2_exitsKept : gw_sta sgX2_exitsKept bsX2_exitsKept := ⟨by decide +kernel, gw_mem2 (i := 5138) rfl rfl, gw_all (by decide +kernel)⟩
def bkX2_writeExit_0 : List gw_E := [(0, 1, .aload_n 0, [0], [], []), (1, 3, .getfield 24, [2, 4, 1, 1214], [], []), (4, 1, .iconst 0, [], [0], []), (5, 1, .iaload, [], [], []), (6, 1, .aload_n 0, [0], [], []), (7, 3, .getfield 24, [2, 4, 1, 1214], [], []), (10, 1, .iconst 1, [], [1], []), (11, 1, .iaload, [], [], []), (12, 1, .iadd, [], [], []), (13, 2, .bipush 24, [], [24], []), (15, 1, .irem, [], [], []), (16, 2, .istore 5, [5], [], []), (18, 1, .aload_n 0, [0], [], []), (19, 3, .getfield 9, [2, 0, 1, 1210], [], []), (22, 2, .iload 5, [5], [], []), (24, 1, .iload_n 1, [1], [], []), (25, 1, .iastore, [], [], []), (26, 1, .aload_n 0, [0], [], []), (27, 3, .getfield 15, [2, 1, 1, 1211], [], []), (30, 2, .iload 5, [5], [], []), (32, 1, .iload_n 2, [2], [], []), (33, 1, .iastore, [], [], []), (34, 1, .aload_n 0, [0], [], []), (35, 3, .getfield 18, [2, 2, 1, 1212], [], []), (38, 2, .iload 5, [5], [], []), (40, 1, .iload_n 3, [3], [], []), (41, 1, .iastore, [], [], []), (42, 1, .aload_n 0, [0], [], []), (43, 3, .getfield 21, [2, 3, 1, 1213], [], []), (46, 2, .iload 5, [5], [], []), (48, 2, .iload 4, [4], [], []), (50, 1, .iastore, [], [], []), (51, 1, .aload_n 0, [0], [], []), (52, 3, .getfield 24, [2, 4, 1, 1214], [], []), (55, 1, .iload_n 1, [1], [], []), (56, 1, .dup2, [], [], []), (57, 1, .iaload, [], [], []), (58, 1, .iconst 1, [], [1], []), (59, 1, .iadd, [], [], []), (60, 1, .iastore, [], [], []), (61, 1, .iload_n 1, [1], [], []), (62, 1, .iconst 1, [], [1], []), (63, 3, .if_icmp .ne 13, [76], [], []), (66, 1, .aload_n 0, [0], [], []), (67, 1, .iload_n 2, [2], [], []), (68, 3, .putfield 27, [2, 5, 0, 1217], [], []), (71, 1, .aload_n 0, [0], [], []), (72, 1, .iload_n 3, [3], [], []), (73, 3, .putfield 31, [2, 6, 0, 1219], [], [])]
def bkX2_writeExit_76 : List gw_E := [(76, 1, .return_, [], [], [])]
def bsX2_writeExit : List (Nat × List gw_E) := [(0, bkX2_writeExit_0), (76, bkX2_writeExit_76)]
theorem fdX2_writeExit_0 : gw_find bsX2_writeExit 0 = bkX2_writeExit_0 := rfl
theorem fdX2_writeExit_76 : gw_find bsX2_writeExit 76 = bkX2_writeExit_76 := rfl
set_option maxRecDepth 40000 in
theorem stX2_writeExit : gw_sta sgX2_writeExit bsX2_writeExit := ⟨by decide +kernel, gw_mem2 (i := 3064) rfl rfl, gw_all (by decide +kernel)⟩
def bkX2_exitAt_0 : List gw_E := [(0, 1, .iload_n 1, [1], [], []), (1, 1, .iconst 0, [], [0], []), (2, 1, .aload_n 0, [0], [], []), (3, 3, .invokevirtual 74, [0, 2, 5144, 5136, 5137, 1009], [], [sgX2_exitsKept]), (6, 1, .iconst 1, [], [1], []), (7, 1, .isub, [], [], []), (8, 3, .invokestatic 77, [3, 1, 5078, 2203, 1001, 0], [], [sgX10_within]), (11, 3, .ifCond .ne 6, [17], [], []), (14, 2, .bipush (-2), [], [-2], []), (16, 1, .ireturn, [0], [], [])]
def bkX2_exitAt_17 : List gw_E := [(17, 1, .aload_n 0, [0], [], []), (18, 3, .invokevirtual 64, [0, 2, 5139, 4189, 4190, 1009], [], [sgX2_allExits]), (21, 1, .aload_n 0, [0], [], []), (22, 3, .invokevirtual 74, [0, 2, 5144, 5136, 5137, 1009], [], [sgX2_exitsKept]), (25, 1, .isub, [], [], []), (26, 1, .iload_n 1, [1], [], []), (27, 1, .iadd, [], [], []), (28, 2, .bipush 24, [], [24], []), (30, 1, .irem, [], [], []), (31, 1, .istore_n 3, [3], [], []), (32, 1, .iload_n 2, [2], [], []), (33, 31, .tableswitch 59 0 3 #[31, 38, 45, 52], [92, 64, 71, 78, 85], [0], [])]
def bkX2_exitAt_64 : List gw_E := [(64, 1, .aload_n 0, [0], [], []), (65, 3, .getfield 9, [2, 0, 1, 1210], [], []), (68, 1, .iload_n 3, [3], [], []), (69, 1, .iaload, [], [], []), (70, 1, .ireturn, [0], [], [])]
def bkX2_exitAt_71 : List gw_E := [(71, 1, .aload_n 0, [0], [], []), (72, 3, .getfield 15, [2, 1, 1, 1211], [], []), (75, 1, .iload_n 3, [3], [], []), (76, 1, .iaload, [], [], []), (77, 1, .ireturn, [0], [], [])]
def bkX2_exitAt_78 : List gw_E := [(78, 1, .aload_n 0, [0], [], []), (79, 3, .getfield 18, [2, 2, 1, 1212], [], []), (82, 1, .iload_n 3, [3], [], []), (83, 1, .iaload, [], [], []), (84, 1, .ireturn, [0], [], [])]
def bkX2_exitAt_85 : List gw_E := [(85, 1, .aload_n 0, [0], [], []), (86, 3, .getfield 21, [2, 3, 1, 1213], [], []), (89, 1, .iload_n 3, [3], [], []), (90, 1, .iaload, [], [], []), (91, 1, .ireturn, [0], [], [])]
def bkX2_exitAt_92 : List gw_E := [(92, 2, .bipush (-2), [], [-2], []), (94, 1, .ireturn, [0], [], [])]
def bsX2_exitAt : List (Nat × List gw_E) := [(0, bkX2_exitAt_0), (17, bkX2_exitAt_17), (64, bkX2_exitAt_64), (71, bkX2_exitAt_71), (78, bkX2_exitAt_78), (85, bkX2_exitAt_85), (92, bkX2_exitAt_92)]
theorem fdX2_exitAt_0 : gw_find bsX2_exitAt 0 = bkX2_exitAt_0 := rfl
theorem fdX2_exitAt_17 : gw_find bsX2_exitAt 17 = bkX2_exitAt_17 := rfl
theorem fdX2_exitAt_64 : gw_find bsX2_exitAt 64 = bkX2_exitAt_64 := rfl
theorem fdX2_exitAt_71 : gw_find bsX2_exitAt 71 = bkX2_exitAt_71 := rfl
theorem fdX2_exitAt_78 : gw_find bsX2_exitAt 78 = bkX2_exitAt_78 := rfl
theorem fdX2_exitAt_85 : gw_find bsX2_exitAt 85 = bkX2_exitAt_85 := rfl
theorem fdX2_exitAt_92 : gw_find bsX2_exitAt 92 = bkX2_exitAt_92 := rfl
set_option maxRecDepth 40000 in
theorem stX2_exitAt : gw_sta sgX2_exitAt bsX2_exitAt := ⟨by decide +kernel, gw_mem2 (i := 5143) rfl rfl, gw_all (by decide +kernel)⟩
def bkX2_exitsBy_0 : List gw_E := [(0, 1, .iconst 0, [], [0], []), (1, 1, .istore_n 2, [2], [], []), (2, 1, .iconst 0, [], [0], []), (3, 1, .istore_n 3, [3], [], [])]
def bkX2_exitsBy_4 : List gw_E := [(4, 1, .iload_n 3, [3], [], []), (5, 1, .aload_n 0, [0], [], []), (6, 3, .invokevirtual 74, [0, 2, 5144, 5136, 5137, 1009], [], [sgX2_exitsKept]), (9, 3, .if_icmp .ge 22, [31], [], []), (12, 1, .aload_n 0, [0], [], []), (13, 3, .getfield 15, [2, 1, 1, 1211], [], []), (16, 1, .iload_n 3, [3], [], []), (17, 1, .iaload, [], [], []), (18, 1, .iload_n 1, [1], [], []), (19, 3, .if_icmp .ne 6, [25], [], []), (22, 3, .iinc 2 1, [2], [1], [])]
def bkX2_exitsBy_25 : List gw_E := [(25, 3, .iinc 3 1, [3], [1], []), (28, 3, .goto (-24), [4], [], [])]
def bkX2_exitsBy_31 : List gw_E := [(31, 1, .iload_n 2, [2], [], []), (32, 1, .ireturn, [0], [], [])]
def bsX2_exitsBy : List (Nat × List gw_E) := [(0, bkX2_exitsBy_0), (4, bkX2_exitsBy_4), (25, bkX2_exitsBy_25), (31, bkX2_exitsBy_31)]
theorem fdX2_exitsBy_0 : gw_find bsX2_exitsBy 0 = bkX2_exitsBy_0 := rfl
theorem fdX2_exitsBy_4 : gw_find bsX2_exitsBy 4 = bkX2_exitsBy_4 := rfl
theorem fdX2_exitsBy_25 : gw_find bsX2_exitsBy 25 = bkX2_exitsBy_25 := rfl
theorem fdX2_exitsBy_31 : gw_find bsX2_exitsBy 31 = bkX2_exitsBy_31 := rfl
set_option maxRecDepth 40000 in
theorem stX2_exitsBy : gw_sta sgX2_exitsBy bsX2_exitsBy := ⟨by decide +kernel, gw_mem2 (i := 5152) rfl rfl, gw_all (by decide +kernel)⟩
def bkX2_hear_0 : List gw_E := [(0, 1, .aload_n 0, [0], [], []), (1, 3, .getfield 34, [2, 7, 1, 1221], [], []), (4, 1, .aload_n 0, [0], [], []), (5, 3, .getfield 58, [2, 8, 0, 1222], [], []), (8, 2, .bipush 24, [], [24], []), (10, 1, .irem, [], [], []), (11, 1, .iload_n 1, [1], [], []), (12, 1, .iastore, [], [], []), (13, 1, .aload_n 0, [0], [], []), (14, 1, .dup, [], [], []), (15, 3, .getfield 58, [2, 8, 0, 1222], [], []), (18, 1, .iconst 1, [], [1], []), (19, 1, .iadd, [], [], []), (20, 3, .putfield 58, [2, 8, 0, 1222], [], []), (23, 1, .return_, [], [], [])]
def bsX2_hear : List (Nat × List gw_E) := [(0, bkX2_hear_0)]
theorem fdX2_hear_0 : gw_find bsX2_hear 0 = bkX2_hear_0 := rfl
set_option maxRecDepth 40000 in
theorem stX2_hear : gw_sta sgX2_hear bsX2_hear := ⟨by decide +kernel, gw_mem2 (i := 4005) rfl rfl, gw_all (by decide +kernel)⟩
def bkX2_heardKept_0 : List gw_E := [(0, 1, .aload_n 0, [0], [], []), (1, 3, .getfield 58, [2, 8, 0, 1222], [], []), (4, 2, .bipush 24, [], [24], []), (6, 3, .invokestatic 68, [2, 0, 5070, 5071, 1015, 0], [], [sgJ9_min_7cf53]), (9, 1, .ireturn, [0], [], [])]
def bsX2_heardKept : List (Nat × List gw_E) := [(0, bkX2_heardKept_0)]
theorem fdX2_heardKept_0 : gw_find bsX2_heardKept 0 = bkX2_heardKept_0 := rfl
set_option maxRecDepth 40000 in
theorem stX2_heardKept : gw_sta sgX2_heardKept bsX2_heardKept := ⟨by decide +kernel, gw_mem2 (i := 5069) rfl rfl, gw_all (by decide +kernel)⟩
def bkX2_heardAt_0 : List gw_E := [(0, 1, .iload_n 1, [1], [], []), (1, 1, .iconst 0, [], [0], []), (2, 1, .aload_n 0, [0], [], []), (3, 3, .invokevirtual 81, [0, 2, 5077, 5067, 5068, 1009], [], [sgX2_heardKept]), (6, 1, .iconst 1, [], [1], []), (7, 1, .isub, [], [], []), (8, 3, .invokestatic 77, [3, 1, 5078, 2203, 1001, 0], [], [sgX10_within]), (11, 3, .ifCond .ne 5, [16], [], []), (14, 1, .iconst (-1), [], [-1], []), (15, 1, .ireturn, [0], [], [])]
def bkX2_heardAt_16 : List gw_E := [(16, 1, .aload_n 0, [0], [], []), (17, 3, .getfield 34, [2, 7, 1, 1221], [], []), (20, 1, .aload_n 0, [0], [], []), (21, 3, .getfield 58, [2, 8, 0, 1222], [], []), (24, 1, .aload_n 0, [0], [], []), (25, 3, .invokevirtual 81, [0, 2, 5077, 5067, 5068, 1009], [], [sgX2_heardKept]), (28, 1, .isub, [], [], []), (29, 1, .iload_n 1, [1], [], []), (30, 1, .iadd, [], [], []), (31, 2, .bipush 24, [], [24], []), (33, 1, .irem, [], [], []), (34, 1, .iaload, [], [], []), (35, 1, .ireturn, [0], [], [])]
def bsX2_heardAt : List (Nat × List gw_E) := [(0, bkX2_heardAt_0), (16, bkX2_heardAt_16)]
theorem fdX2_heardAt_0 : gw_find bsX2_heardAt 0 = bkX2_heardAt_0 := rfl
theorem fdX2_heardAt_16 : gw_find bsX2_heardAt 16 = bkX2_heardAt_16 := rfl
set_option maxRecDepth 40000 in
theorem stX2_heardAt : gw_sta sgX2_heardAt bsX2_heardAt := ⟨by decide +kernel, gw_mem2 (i := 5076) rfl rfl, gw_all (by decide +kernel)⟩
def bkX2_noteTake_0 : List gw_E := [(0, 1, .aload_n 0, [0], [], []), (1, 3, .getfield 43, [2, 12, 1, 1231], [], []), (4, 1, .iload_n 1, [1], [], []), (5, 1, .iconst 1, [], [1], []), (6, 1, .isub, [], [], []), (7, 1, .dup2, [], [], []), (8, 1, .iaload, [], [], []), (9, 1, .iconst 1, [], [1], []), (10, 1, .iadd, [], [], []), (11, 1, .iastore, [], [], []), (12, 1, .aload_n 0, [0], [], []), (13, 3, .getfield 46, [2, 13, 1, 1234], [], []), (16, 1, .iload_n 1, [1], [], []), (17, 1, .iconst 1, [], [1], []), (18, 1, .isub, [], [], []), (19, 1, .iload_n 2, [2], [], []), (20, 1, .iastore, [], [], []), (21, 1, .aload_n 0, [0], [], []), (22, 3, .getfield 49, [2, 14, 1, 1236], [], []), (25, 1, .iload_n 1, [1], [], []), (26, 1, .iconst 1, [], [1], []), (27, 1, .isub, [], [], []), (28, 1, .aload_n 0, [0], [], []), (29, 3, .getfield 49, [2, 14, 1, 1236], [], []), (32, 1, .iload_n 1, [1], [], []), (33, 1, .iconst 1, [], [1], []), (34, 1, .isub, [], [], []), (35, 1, .iaload, [], [], []), (36, 1, .iload_n 3, [3], [], []), (37, 3, .invokestatic 84, [2, 0, 3077, 3078, 1015, 0], [], [sgJ9_max_7cf53]), (40, 1, .iastore, [], [], []), (41, 1, .return_, [], [], [])]
def bsX2_noteTake : List (Nat × List gw_E) := [(0, bkX2_noteTake_0)]
theorem fdX2_noteTake_0 : gw_find bsX2_noteTake 0 = bkX2_noteTake_0 := rfl
set_option maxRecDepth 40000 in
theorem stX2_noteTake : gw_sta sgX2_noteTake bsX2_noteTake := ⟨by decide +kernel, gw_mem2 (i := 3076) rfl rfl, gw_all (by decide +kernel)⟩
def bkX4_init_0 : List gw_E := [(0, 1, .aload_n 0, [0], [], []), (1, 3, .invokespecial 3, [0, 2, 1038, 1025, 1026, 0], [], []), (4, 1, .aload_n 0, [0], [], []), (5, 3, .new 9, [8, 1039, 1040, 1004], [], []), (8, 1, .dup, [], [], []), (9, 3, .invokespecial 11, [0, 0, 1041, 1042, 1004, 0], [], [sgX8_init]), (12, 3, .putfield 12, [4, 0, 1, 1070], [], []), (15, 1, .aload_n 0, [0], [], []), (16, 2, .bipush 10, [], [10], []), (18, 2, .newarray .int, [], [], []), (20, 3, .putfield 18, [4, 1, 1, 1073], [], []), (23, 1, .aload_n 0, [0], [], []), (24, 2, .bipush 16, [], [16], []), (26, 2, .newarray .int, [], [], []), (28, 3, .putfield 22, [4, 2, 1, 1076], [], []), (31, 1, .iconst 0, [], [0], []), (32, 1, .istore_n 1, [1], [], [])]
def bkX4_init_33 : List gw_E := [(33, 1, .iload_n 1, [1], [], []), (34, 2, .bipush 10, [], [10], []), (36, 3, .if_icmp .ge 19, [55], [], []), (39, 1, .aload_n 0, [0], [], []), (40, 3, .getfield 18, [4, 1, 1, 1073], [], []), (43, 1, .iload_n 1, [1], [], []), (44, 1, .iload_n 1, [1], [], []), (45, 2, .bipush 11, [], [11], []), (47, 1, .imul, [], [], []), (48, 1, .iastore, [], [], []), (49, 3, .iinc 1 1, [1], [1], []), (52, 3, .goto (-19), [33], [], [])]
def bkX4_init_55 : List gw_E := [(55, 1, .aload_n 0, [0], [], []), (56, 3, .getfield 22, [4, 2, 1, 1076], [], []), (59, 1, .iconst (-1), [], [-1], []), (60, 3, .invokestatic 25, [2, 0, 1069, 1046, 1005, 0], [], [sgJ7_fill_53178]), (63, 1, .return_, [], [], [])]
def bsX4_init : List (Nat × List gw_E) := [(0, bkX4_init_0), (33, bkX4_init_33), (55, bkX4_init_55)]
theorem fdX4_init_0 : gw_find bsX4_init 0 = bkX4_init_0 := rfl
theorem fdX4_init_33 : gw_find bsX4_init 33 = bkX4_init_33 := rfl
theorem fdX4_init_55 : gw_find bsX4_init 55 = bkX4_init_55 := rfl
set_option maxRecDepth 40000 in
theorem stX4_init : gw_sta sgX4_init bsX4_init := ⟨by decide +kernel, gw_mem2 (i := 1037) rfl rfl, gw_all (by decide +kernel)⟩
def bkX4_copyFrom_0 : List gw_E := [(0, 1, .aload_n 0, [0], [], []), (1, 3, .getfield 12, [4, 0, 1, 1070], [], []), (4, 1, .aload_n 1, [1], [], []), (5, 3, .getfield 12, [4, 0, 1, 1070], [], []), (8, 3, .invokevirtual 31, [1, 8, 2218, 2219, 2220, 1004], [], [sgX8_copyFrom]), (11, 1, .aload_n 1, [1], [], []), (12, 3, .getfield 18, [4, 1, 1, 1073], [], []), (15, 1, .iconst 0, [], [0], []), (16, 1, .aload_n 0, [0], [], []), (17, 3, .getfield 18, [4, 1, 1, 1073], [], []), (20, 1, .iconst 0, [], [0], []), (21, 2, .bipush 10, [], [10], []), (23, 3, .invokestatic 35, [5, 2, 2225, 2224, 2223, 1014], [], []), (26, 1, .aload_n 1, [1], [], []), (27, 3, .getfield 22, [4, 2, 1, 1076], [], []), (30, 1, .iconst 0, [], [0], []), (31, 1, .aload_n 0, [0], [], []), (32, 3, .getfield 22, [4, 2, 1, 1076], [], []), (35, 1, .iconst 0, [], [0], []), (36, 2, .bipush 16, [], [16], []), (38, 3, .invokestatic 35, [5, 2, 2225, 2224, 2223, 1014], [], []), (41, 1, .aload_n 0, [0], [], []), (42, 1, .aload_n 1, [1], [], []), (43, 3, .getfield 41, [4, 3, 0, 1079], [], []), (46, 3, .putfield 41, [4, 3, 0, 1079], [], []), (49, 1, .aload_n 0, [0], [], []), (50, 1, .aload_n 1, [1], [], []), (51, 3, .getfield 45, [4, 4, 0, 1081], [], []), (54, 3, .putfield 45, [4, 4, 0, 1081], [], []), (57, 1, .aload_n 0, [0], [], []), (58, 1, .aload_n 1, [1], [], []), (59, 3, .getfield 48, [4, 5, 0, 1083], [], []), (62, 3, .putfield 48, [4, 5, 0, 1083], [], []), (65, 1, .return_, [], [], [])]
def bsX4_copyFrom : List (Nat × List gw_E) := [(0, bkX4_copyFrom_0)]
theorem fdX4_copyFrom_0 : gw_find bsX4_copyFrom 0 = bkX4_copyFrom_0 := rfl
set_option maxRecDepth 40000 in
theorem stX4_copyFrom : gw_sta sgX4_copyFrom bsX4_copyFrom := ⟨by decide +kernel, gw_mem2 (i := 2217) rfl rfl, gw_all (by decide +kernel)⟩
def bkX4_tell_0 : List gw_E := [(0, 1, .aload_n 0, [0], [], []), (1, 3, .getfield 12, [4, 0, 1, 1070], [], []), (4, 1, .iload_n 1, [1], [], []), (5, 1, .iload_n 2, [2], [], []), (6, 1, .iload_n 3, [3], [], []), (7, 3, .invokevirtual 51, [3, 8, 3038, 3023, 3024, 1004], [], [sgX8_put]), (10, 1, .aload_n 0, [0], [], []), (11, 1, .dup, [], [], []), (12, 3, .getfield 41, [4, 3, 0, 1079], [], []), (15, 1, .iconst 1, [], [1], []), (16, 1, .iload_n 1, [1], [], []), (17, 1, .ishl, [], [], []), (18, 1, .iconst (-1), [], [-1], []), (19, 1, .ixor, [], [], []), (20, 1, .iand, [], [], []), (21, 3, .putfield 41, [4, 3, 0, 1079], [], []), (24, 1, .aload_n 0, [0], [], []), (25, 3, .getfield 22, [4, 2, 1, 1076], [], []), (28, 1, .iload_n 1, [1], [], []), (29, 1, .iconst (-1), [], [-1], []), (30, 1, .iastore, [], [], []), (31, 1, .return_, [], [], [])]
def bsX4_tell : List (Nat × List gw_E) := [(0, bkX4_tell_0)]
theorem fdX4_tell_0 : gw_find bsX4_tell 0 = bkX4_tell_0 := rfl
set_option maxRecDepth 40000 in
theorem stX4_tell : gw_sta sgX4_tell bsX4_tell := ⟨by decide +kernel, gw_mem2 (i := 3037) rfl rfl, gw_all (by decide +kernel)⟩
def bkX4_untell_0 : List gw_E := [(0, 1, .aload_n 0, [0], [], []), (1, 3, .getfield 12, [4, 0, 1, 1070], [], []), (4, 1, .iload_n 1, [1], [], []), (5, 3, .invokevirtual 55, [1, 8, 3104, 3031, 3032, 1004], [], [sgX8_drop]), (8, 1, .aload_n 0, [0], [], []), (9, 1, .dup, [], [], []), (10, 3, .getfield 41, [4, 3, 0, 1079], [], []), (13, 1, .iconst 1, [], [1], []), (14, 1, .iload_n 1, [1], [], []), (15, 1, .ishl, [], [], []), (16, 1, .iconst (-1), [], [-1], []), (17, 1, .ixor, [], [], []), (18, 1, .iand, [], [], []), (19, 3, .putfield 41, [4, 3, 0, 1079], [], []), (22, 1, .aload_n 0, [0], [], []), (23, 3, .getfield 22, [4, 2, 1, 1076], [], []), (26, 1, .iload_n 1, [1], [], []), (27, 1, .iconst (-1), [], [-1], []), (28, 1, .iastore, [], [], []), (29, 1, .return_, [], [], [])]
def bsX4_untell : List (Nat × List gw_E) := [(0, bkX4_untell_0)]
theorem fdX4_untell_0 : gw_find bsX4_untell 0 = bkX4_untell_0 := rfl
set_option maxRecDepth 40000 in
theorem stX4_untell : gw_sta sgX4_untell bsX4_untell := ⟨by decide +kernel, gw_mem2 (i := 3103) rfl rfl, gw_all (by decide +kernel)⟩
def bkX4_rightsGiven_0 : List gw_E := [(0, 1, .aload_n 0, [0], [], []), (1, 3, .getfield 41, [4, 3, 0, 1079], [], []), (4, 1, .iload_n 1, [1], [], []), (5, 1, .ishr, [], [], []), (6, 1, .iconst 1, [], [1], []), (7, 1, .iand, [], [], []), (8, 3, .ifCond .eq 7, [15], [], []), (11, 1, .iconst 1, [], [1], []), (12, 3, .goto 4, [16], [], [])]
def bkX4_rightsGiven_15 : List gw_E := [(15, 1, .iconst 0, [], [0], [])]
def bkX4_rightsGiven_16 : List gw_E := [(16, 1, .istore_n 2, [2], [], []), (17, 1, .iload_n 2, [2], [], []), (18, 3, .ifCond .eq 18, [36], [], []), (21, 1, .aload_n 0, [0], [], []), (22, 3, .getfield 12, [4, 0, 1, 1070], [], []), (25, 3, .getfield 59, [8, 1, 1, 1054], [], []), (28, 1, .iload_n 1, [1], [], []), (29, 1, .iaload, [], [], []), (30, 2, .bipush (-3), [], [-3], []), (32, 1, .iand, [], [], []), (33, 3, .goto 12, [45], [], [])]
def bkX4_rightsGiven_36 : List gw_E := [(36, 1, .aload_n 0, [0], [], []), (37, 3, .getfield 12, [4, 0, 1, 1070], [], []), (40, 3, .getfield 59, [8, 1, 1, 1054], [], []), (43, 1, .iload_n 1, [1], [], []), (44, 1, .iaload, [], [], [])]
def bkX4_rightsGiven_45 : List gw_E := [(45, 1, .ireturn, [0], [], [])]
def bsX4_rightsGiven : List (Nat × List gw_E) := [(0, bkX4_rightsGiven_0), (15, bkX4_rightsGiven_15), (16, bkX4_rightsGiven_16), (36, bkX4_rightsGiven_36), (45, bkX4_rightsGiven_45)]
theorem fdX4_rightsGiven_0 : gw_find bsX4_rightsGiven 0 = bkX4_rightsGiven_0 := rfl
theorem fdX4_rightsGiven_15 : gw_find bsX4_rightsGiven 15 = bkX4_rightsGiven_15 := rfl
theorem fdX4_rightsGiven_16 : gw_find bsX4_rightsGiven 16 = bkX4_rightsGiven_16 := rfl
theorem fdX4_rightsGiven_36 : gw_find bsX4_rightsGiven 36 = bkX4_rightsGiven_36 := rfl
theorem fdX4_rightsGiven_45 : gw_find bsX4_rightsGiven 45 = bkX4_rightsGiven_45 := rfl
set_option maxRecDepth 40000 in
theorem stX4_rightsGiven : gw_sta sgX4_rightsGiven bsX4_rightsGiven := ⟨by decide +kernel, gw_mem2 (i := 3146) rfl rfl, gw_all (by decide +kernel)⟩
def bkX4_partsOnWrite_0 : List gw_E := [(0, 1, .aload_n 0, [0], [], []), (1, 3, .getfield 41, [4, 3, 0, 1079], [], []), (4, 1, .iload_n 1, [1], [], []), (5, 3, .invokestatic 62, [2, 1, 3167, 3044, 1001, 0], [], [sgX10_hasBit]), (8, 3, .ifCond .eq 23, [31], [], []), (11, 1, .aload_n 0, [0], [], []), (12, 3, .getfield 12, [4, 0, 1, 1070], [], []), (15, 3, .getfield 59, [8, 1, 1, 1054], [], []), (18, 1, .iload_n 1, [1], [], []), (19, 1, .iaload, [], [], []), (20, 1, .iconst 1, [], [1], []), (21, 3, .invokestatic 62, [2, 1, 3167, 3044, 1001, 0], [], [sgX10_hasBit]), (24, 3, .ifCond .eq 7, [31], [], []), (27, 1, .iconst 1, [], [1], []), (28, 3, .goto 4, [32], [], [])]
def bkX4_partsOnWrite_31 : List gw_E := [(31, 1, .iconst 0, [], [0], [])]
def bkX4_partsOnWrite_32 : List gw_E := [(32, 1, .ireturn, [1], [], [])]
def bsX4_partsOnWrite : List (Nat × List gw_E) := [(0, bkX4_partsOnWrite_0), (31, bkX4_partsOnWrite_31), (32, bkX4_partsOnWrite_32)]
theorem fdX4_partsOnWrite_0 : gw_find bsX4_partsOnWrite 0 = bkX4_partsOnWrite_0 := rfl
theorem fdX4_partsOnWrite_31 : gw_find bsX4_partsOnWrite 31 = bkX4_partsOnWrite_31 := rfl
theorem fdX4_partsOnWrite_32 : gw_find bsX4_partsOnWrite 32 = bkX4_partsOnWrite_32 := rfl
set_option maxRecDepth 40000 in
theorem stX4_partsOnWrite : gw_sta sgX4_partsOnWrite bsX4_partsOnWrite := ⟨by decide +kernel, gw_mem2 (i := 3216) rfl rfl, gw_all (by decide +kernel)⟩
def bkX4_framesLedTo_0 : List gw_E := [(0, 1, .iconst 0, [], [0], []), (1, 1, .istore_n 1, [1], [], []), (2, 1, .iconst 0, [], [0], []), (3, 1, .istore_n 2, [2], [], [])]
def bkX4_framesLedTo_4 : List gw_E := [(4, 1, .iload_n 2, [2], [], []), (5, 2, .bipush 16, [], [16], []), (7, 3, .if_icmp .ge 36, [43], [], []), (10, 1, .aload_n 0, [0], [], []), (11, 3, .getfield 12, [4, 0, 1, 1070], [], []), (14, 3, .getfield 66, [8, 0, 1, 1050], [], []), (17, 1, .iload_n 2, [2], [], []), (18, 1, .iaload, [], [], []), (19, 1, .iconst (-1), [], [-1], []), (20, 3, .if_icmp .eq 17, [37], [], []), (23, 1, .iload_n 1, [1], [], []), (24, 1, .iconst 1, [], [1], []), (25, 1, .aload_n 0, [0], [], []), (26, 3, .getfield 12, [4, 0, 1, 1070], [], []), (29, 3, .getfield 66, [8, 0, 1, 1050], [], []), (32, 1, .iload_n 2, [2], [], []), (33, 1, .iaload, [], [], []), (34, 1, .ishl, [], [], []), (35, 1, .ior, [], [], []), (36, 1, .istore_n 1, [1], [], [])]
def bkX4_framesLedTo_37 : List gw_E := [(37, 3, .iinc 2 1, [2], [1], []), (40, 3, .goto (-36), [4], [], [])]
def bkX4_framesLedTo_43 : List gw_E := [(43, 1, .iload_n 1, [1], [], []), (44, 1, .ireturn, [0], [], [])]
def bsX4_framesLedTo : List (Nat × List gw_E) := [(0, bkX4_framesLedTo_0), (4, bkX4_framesLedTo_4), (37, bkX4_framesLedTo_37), (43, bkX4_framesLedTo_43)]
theorem fdX4_framesLedTo_0 : gw_find bsX4_framesLedTo 0 = bkX4_framesLedTo_0 := rfl
theorem fdX4_framesLedTo_4 : gw_find bsX4_framesLedTo 4 = bkX4_framesLedTo_4 := rfl
theorem fdX4_framesLedTo_37 : gw_find bsX4_framesLedTo 37 = bkX4_framesLedTo_37 := rfl
theorem fdX4_framesLedTo_43 : gw_find bsX4_framesLedTo 43 = bkX4_framesLedTo_43 := rfl
set_option maxRecDepth 40000 in
theorem stX4_framesLedTo : gw_sta sgX4_framesLedTo bsX4_framesLedTo := ⟨by decide +kernel, gw_mem2 (i := 3166) rfl rfl, gw_all (by decide +kernel)⟩
def bkX4_framesFree_0 : List gw_E := [(0, 2, .bipush 10, [], [10], []), (2, 1, .aload_n 0, [0], [], []), (3, 3, .invokevirtual 69, [0, 4, 3163, 3164, 3165, 1003], [], [sgX4_framesLedTo]), (6, 3, .invokestatic 73, [1, 0, 5018, 4119, 1017, 0], [], [sgJ6_bitCount_0f7a4]), (9, 1, .isub, [], [], []), (10, 1, .ireturn, [0], [], [])]
def bsX4_framesFree : List (Nat × List gw_E) := [(0, bkX4_framesFree_0)]
theorem fdX4_framesFree_0 : gw_find bsX4_framesFree 0 = bkX4_framesFree_0 := rfl
set_option maxRecDepth 40000 in
theorem stX4_framesFree : gw_sta sgX4_framesFree bsX4_framesFree := ⟨by decide +kernel, gw_mem2 (i := 5017) rfl rfl, gw_all (by decide +kernel)⟩
def bkX4_touchFrame_0 : List gw_E := [(0, 1, .iload_n 2, [2], [], []), (1, 1, .iconst 1, [], [1], []), (2, 3, .if_icmp .ne 22, [24], [], []), (5, 1, .aload_n 0, [0], [], []), (6, 3, .getfield 18, [4, 1, 1, 1073], [], []), (9, 1, .iload_n 1, [1], [], []), (10, 1, .iload_n 3, [3], [], []), (11, 1, .iastore, [], [], []), (12, 1, .aload_n 0, [0], [], []), (13, 1, .dup, [], [], []), (14, 3, .getfield 45, [4, 4, 0, 1081], [], []), (17, 1, .iconst 1, [], [1], []), (18, 1, .iload_n 1, [1], [], []), (19, 1, .ishl, [], [], []), (20, 1, .ior, [], [], []), (21, 3, .putfield 45, [4, 4, 0, 1081], [], [])]
def bkX4_touchFrame_24 : List gw_E := [(24, 1, .aload_n 0, [0], [], []), (25, 3, .getfield 18, [4, 1, 1, 1073], [], []), (28, 1, .iload_n 1, [1], [], []), (29, 1, .iaload, [], [], []), (30, 1, .ireturn, [0], [], [])]
def bsX4_touchFrame : List (Nat × List gw_E) := [(0, bkX4_touchFrame_0), (24, bkX4_touchFrame_24)]
theorem fdX4_touchFrame_0 : gw_find bsX4_touchFrame 0 = bkX4_touchFrame_0 := rfl
theorem fdX4_touchFrame_24 : gw_find bsX4_touchFrame 24 = bkX4_touchFrame_24 := rfl
set_option maxRecDepth 40000 in
theorem stX4_touchFrame : gw_sta sgX4_touchFrame bsX4_touchFrame := ⟨by decide +kernel, gw_mem2 (i := 4001) rfl rfl, gw_all (by decide +kernel)⟩
end
