section
-- ===== PART A: goes FIRST, ahead of the names: the tables' words, and 'selects' of the private methods out of them =====
/-- a private method of a class that the tables say can be made, by its rows of tables_1 -/
def lw_okq (q : MethodName × Nat) : Prop := (q.1.cls ≠ "java/lang/invoke/MethodHandle" ∧ q.1.cls ≠ "java/lang/invoke/VarHandle") ∧ Cond.instantiable q.1.cls q.2 ∈ tables_1 ∧ Cond.privateMethod q.1 ∈ tables_1 ∧ Cond.instanceMethod q.1 ∈ tables_1
theorem lw_p0 : lw_okq (⟨"GuestLevels$Machine", "tellInner", "(III)V"⟩, 15) := ⟨⟨by decide +kernel, by decide +kernel⟩, List.mem_of_getElem? (i := 28) (by decide +kernel), List.mem_of_getElem? (i := 507) (by decide +kernel), List.mem_of_getElem? (i := 508) (by decide +kernel)⟩
theorem lw_p1 : lw_okq (⟨"GuestLevels$Machine", "unfold", "(I)V"⟩, 15) := ⟨⟨by decide +kernel, by decide +kernel⟩, List.mem_of_getElem? (i := 28) (by decide +kernel), List.mem_of_getElem? (i := 520) (by decide +kernel), List.mem_of_getElem? (i := 521) (by decide +kernel)⟩
theorem lw_p2 : lw_okq (⟨"GuestLevels$Machine", "dealToOuter", "(II)V"⟩, 15) := ⟨⟨by decide +kernel, by decide +kernel⟩, List.mem_of_getElem? (i := 28) (by decide +kernel), List.mem_of_getElem? (i := 538) (by decide +kernel), List.mem_of_getElem? (i := 539) (by decide +kernel)⟩
theorem lw_p3 : lw_okq (⟨"GuestLevels$Machine", "dealOutToInner", "()V"⟩, 15) := ⟨⟨by decide +kernel, by decide +kernel⟩, List.mem_of_getElem? (i := 28) (by decide +kernel), List.mem_of_getElem? (i := 561) (by decide +kernel), List.mem_of_getElem? (i := 562) (by decide +kernel)⟩
theorem lw_p4 : lw_okq (⟨"GuestLevels$Machine", "rightsOfBoth", "(I)I"⟩, 15) := ⟨⟨by decide +kernel, by decide +kernel⟩, List.mem_of_getElem? (i := 28) (by decide +kernel), List.mem_of_getElem? (i := 620) (by decide +kernel), List.mem_of_getElem? (i := 621) (by decide +kernel)⟩
theorem lw_p5 : lw_okq (⟨"GuestLevels$Machine", "fold", "(I)V"⟩, 15) := ⟨⟨by decide +kernel, by decide +kernel⟩, List.mem_of_getElem? (i := 28) (by decide +kernel), List.mem_of_getElem? (i := 628) (by decide +kernel), List.mem_of_getElem? (i := 629) (by decide +kernel)⟩
theorem lw_p6 : lw_okq (⟨"GuestLevels$Machine", "hostSees", "(II)V"⟩, 15) := ⟨⟨by decide +kernel, by decide +kernel⟩, List.mem_of_getElem? (i := 28) (by decide +kernel), List.mem_of_getElem? (i := 686) (by decide +kernel), List.mem_of_getElem? (i := 687) (by decide +kernel)⟩
theorem lw_p7 : lw_okq (⟨"GuestLevels$Machine", "foldOnTouch", "(II)I"⟩, 15) := ⟨⟨by decide +kernel, by decide +kernel⟩, List.mem_of_getElem? (i := 28) (by decide +kernel), List.mem_of_getElem? (i := 690) (by decide +kernel), List.mem_of_getElem? (i := 691) (by decide +kernel)⟩
theorem lw_p8 : lw_okq (⟨"GuestLevels$Memory", "sharesFrame", "(I)Z"⟩, 6) := ⟨⟨by decide +kernel, by decide +kernel⟩, List.mem_of_getElem? (i := 34) (by decide +kernel), List.mem_of_getElem? (i := 702) (by decide +kernel), List.mem_of_getElem? (i := 703) (by decide +kernel)⟩
theorem lw_p9 : lw_okq (⟨"GuestLevels$Memory", "storeAway", "(I)V"⟩, 6) := ⟨⟨by decide +kernel, by decide +kernel⟩, List.mem_of_getElem? (i := 34) (by decide +kernel), List.mem_of_getElem? (i := 706) (by decide +kernel), List.mem_of_getElem? (i := 707) (by decide +kernel)⟩
theorem lw_p10 : lw_okq (⟨"GuestLevels", "mayGo", "(II)Z"⟩, 6) := ⟨⟨by decide +kernel, by decide +kernel⟩, List.mem_of_getElem? (i := 20) (by decide +kernel), List.mem_of_getElem? (i := 849) (by decide +kernel), List.mem_of_getElem? (i := 850) (by decide +kernel)⟩
theorem lw_p11 : lw_okq (⟨"GuestLevels$Machine", "nextDueNow", "()I"⟩, 15) := ⟨⟨by decide +kernel, by decide +kernel⟩, List.mem_of_getElem? (i := 28) (by decide +kernel), List.mem_of_getElem? (i := 858) (by decide +kernel), List.mem_of_getElem? (i := 859) (by decide +kernel)⟩
theorem lw_p12 : lw_okq (⟨"GuestLevels$Machine", "goOff", "(I)V"⟩, 15) := ⟨⟨by decide +kernel, by decide +kernel⟩, List.mem_of_getElem? (i := 28) (by decide +kernel), List.mem_of_getElem? (i := 877) (by decide +kernel), List.mem_of_getElem? (i := 878) (by decide +kernel)⟩
theorem lw_p13 : lw_okq (⟨"GuestLevels$Machine", "actOfOuter", "()V"⟩, 15) := ⟨⟨by decide +kernel, by decide +kernel⟩, List.mem_of_getElem? (i := 28) (by decide +kernel), List.mem_of_getElem? (i := 919) (by decide +kernel), List.mem_of_getElem? (i := 920) (by decide +kernel)⟩
theorem lw_p14 : lw_okq (⟨"GuestLevels$Machine", "tellMissed", "(I)V"⟩, 15) := ⟨⟨by decide +kernel, by decide +kernel⟩, List.mem_of_getElem? (i := 28) (by decide +kernel), List.mem_of_getElem? (i := 930) (by decide +kernel), List.mem_of_getElem? (i := 931) (by decide +kernel)⟩
theorem lw_p15 : lw_okq (⟨"GuestLevels$Machine", "switchUnlessInHand", "(I)V"⟩, 15) := ⟨⟨by decide +kernel, by decide +kernel⟩, List.mem_of_getElem? (i := 28) (by decide +kernel), List.mem_of_getElem? (i := 935) (by decide +kernel), List.mem_of_getElem? (i := 936) (by decide +kernel)⟩
def lw_privs_1 : List (MethodName × Nat) := [(⟨"GuestLevels$Machine", "tellInner", "(III)V"⟩, 15), (⟨"GuestLevels$Machine", "unfold", "(I)V"⟩, 15), (⟨"GuestLevels$Machine", "dealToOuter", "(II)V"⟩, 15), (⟨"GuestLevels$Machine", "dealOutToInner", "()V"⟩, 15), (⟨"GuestLevels$Machine", "rightsOfBoth", "(I)I"⟩, 15), (⟨"GuestLevels$Machine", "fold", "(I)V"⟩, 15), (⟨"GuestLevels$Machine", "hostSees", "(II)V"⟩, 15), (⟨"GuestLevels$Machine", "foldOnTouch", "(II)I"⟩, 15), (⟨"GuestLevels$Memory", "sharesFrame", "(I)Z"⟩, 6), (⟨"GuestLevels$Memory", "storeAway", "(I)V"⟩, 6), (⟨"GuestLevels", "mayGo", "(II)Z"⟩, 6), (⟨"GuestLevels$Machine", "nextDueNow", "()I"⟩, 15), (⟨"GuestLevels$Machine", "goOff", "(I)V"⟩, 15), (⟨"GuestLevels$Machine", "actOfOuter", "()V"⟩, 15), (⟨"GuestLevels$Machine", "tellMissed", "(I)V"⟩, 15), (⟨"GuestLevels$Machine", "switchUnlessInHand", "(I)V"⟩, 15)]
theorem lw_r1 : ∀ q ∈ lw_privs_1, lw_okq q := List.forall_mem_cons.mpr ⟨lw_p0, List.forall_mem_cons.mpr ⟨lw_p1, List.forall_mem_cons.mpr ⟨lw_p2, List.forall_mem_cons.mpr ⟨lw_p3, List.forall_mem_cons.mpr ⟨lw_p4, List.forall_mem_cons.mpr ⟨lw_p5, List.forall_mem_cons.mpr ⟨lw_p6, List.forall_mem_cons.mpr ⟨lw_p7, List.forall_mem_cons.mpr ⟨lw_p8, List.forall_mem_cons.mpr ⟨lw_p9, List.forall_mem_cons.mpr ⟨lw_p10, List.forall_mem_cons.mpr ⟨lw_p11, List.forall_mem_cons.mpr ⟨lw_p12, List.forall_mem_cons.mpr ⟨lw_p13, List.forall_mem_cons.mpr ⟨lw_p14, List.forall_mem_cons.mpr ⟨lw_p15, fun _ h => absurd h List.not_mem_nil⟩⟩⟩⟩⟩⟩⟩⟩⟩⟩⟩⟩⟩⟩⟩⟩
theorem lw_p16 : lw_okq (⟨"GuestLevels$Machine", "actOfInner", "()V"⟩, 15) := ⟨⟨by decide +kernel, by decide +kernel⟩, List.mem_of_getElem? (i := 28) (by decide +kernel), List.mem_of_getElem? (i := 940) (by decide +kernel), List.mem_of_getElem? (i := 941) (by decide +kernel)⟩
theorem lw_p17 : lw_okq (⟨"GuestLevels$Machine", "lead", "(LGuestLevels$Inner;II)V"⟩, 15) := ⟨⟨by decide +kernel, by decide +kernel⟩, List.mem_of_getElem? (i := 28) (by decide +kernel), List.mem_of_getElem? (i := 945) (by decide +kernel), List.mem_of_getElem? (i := 946) (by decide +kernel)⟩
theorem lw_p18 : lw_okq (⟨"GuestLevels$Table", "elderThan", "(I)I"⟩, 4) := ⟨⟨by decide +kernel, by decide +kernel⟩, List.mem_of_getElem? (i := 40) (by decide +kernel), List.mem_of_getElem? (i := 992) (by decide +kernel), List.mem_of_getElem? (i := 993) (by decide +kernel)⟩
theorem lw_p19 : lw_okq (⟨"GuestLevels$Machine", "frameOfInner", "(I)I"⟩, 15) := ⟨⟨by decide +kernel, by decide +kernel⟩, List.mem_of_getElem? (i := 28) (by decide +kernel), List.mem_of_getElem? (i := 1073) (by decide +kernel), List.mem_of_getElem? (i := 1074) (by decide +kernel)⟩
theorem lw_p20 : lw_okq (⟨"GuestLevels", "goPlainly", "(I)V"⟩, 6) := ⟨⟨by decide +kernel, by decide +kernel⟩, List.mem_of_getElem? (i := 20) (by decide +kernel), List.mem_of_getElem? (i := 1202) (by decide +kernel), List.mem_of_getElem? (i := 1203) (by decide +kernel)⟩
theorem lw_p21 : lw_okq (⟨"GuestLevels$Plain", "touchFrom", "(IIII)V"⟩, 4) := ⟨⟨by decide +kernel, by decide +kernel⟩, List.mem_of_getElem? (i := 389) (by decide +kernel), List.mem_of_getElem? (i := 1223) (by decide +kernel), List.mem_of_getElem? (i := 1224) (by decide +kernel)⟩
theorem lw_p22 : lw_okq (⟨"GuestLevelsModel", "canTell", "(I)Z"⟩, 10) := ⟨⟨by decide +kernel, by decide +kernel⟩, List.mem_of_getElem? (i := 1265) (by decide +kernel), List.mem_of_getElem? (i := 1316) (by decide +kernel), List.mem_of_getElem? (i := 1317) (by decide +kernel)⟩
theorem lw_p23 : lw_okq (⟨"GuestLevelsModel", "keep", "()V"⟩, 10) := ⟨⟨by decide +kernel, by decide +kernel⟩, List.mem_of_getElem? (i := 1265) (by decide +kernel), List.mem_of_getElem? (i := 1326) (by decide +kernel), List.mem_of_getElem? (i := 1327) (by decide +kernel)⟩
theorem lw_p24 : lw_okq (⟨"GuestLevelsModel", "tellEntry", "(IIII)V"⟩, 10) := ⟨⟨by decide +kernel, by decide +kernel⟩, List.mem_of_getElem? (i := 1265) (by decide +kernel), List.mem_of_getElem? (i := 1330) (by decide +kernel), List.mem_of_getElem? (i := 1331) (by decide +kernel)⟩
theorem lw_p25 : lw_okq (⟨"GuestLevelsModel", "layEntry", "(IIII)V"⟩, 10) := ⟨⟨by decide +kernel, by decide +kernel⟩, List.mem_of_getElem? (i := 1265) (by decide +kernel), List.mem_of_getElem? (i := 1334) (by decide +kernel), List.mem_of_getElem? (i := 1335) (by decide +kernel)⟩
theorem lw_p26 : lw_okq (⟨"GuestLevelsModel", "entryAt", "(II)I"⟩, 10) := ⟨⟨by decide +kernel, by decide +kernel⟩, List.mem_of_getElem? (i := 1265) (by decide +kernel), List.mem_of_getElem? (i := 1338) (by decide +kernel), List.mem_of_getElem? (i := 1339) (by decide +kernel)⟩
theorem lw_p27 : lw_okq (⟨"GuestLevelsModel", "guestAt", "(I)I"⟩, 10) := ⟨⟨by decide +kernel, by decide +kernel⟩, List.mem_of_getElem? (i := 1265) (by decide +kernel), List.mem_of_getElem? (i := 1342) (by decide +kernel), List.mem_of_getElem? (i := 1343) (by decide +kernel)⟩
theorem lw_p28 : lw_okq (⟨"GuestLevelsModel", "unfold", "(I)V"⟩, 10) := ⟨⟨by decide +kernel, by decide +kernel⟩, List.mem_of_getElem? (i := 1265) (by decide +kernel), List.mem_of_getElem? (i := 1346) (by decide +kernel), List.mem_of_getElem? (i := 1347) (by decide +kernel)⟩
theorem lw_p29 : lw_okq (⟨"GuestLevelsModel", "toOf", "(II)I"⟩, 10) := ⟨⟨by decide +kernel, by decide +kernel⟩, List.mem_of_getElem? (i := 1265) (by decide +kernel), List.mem_of_getElem? (i := 1350) (by decide +kernel), List.mem_of_getElem? (i := 1351) (by decide +kernel)⟩
theorem lw_p30 : lw_okq (⟨"GuestLevelsModel", "goOut", "(III)V"⟩, 10) := ⟨⟨by decide +kernel, by decide +kernel⟩, List.mem_of_getElem? (i := 1265) (by decide +kernel), List.mem_of_getElem? (i := 1354) (by decide +kernel), List.mem_of_getElem? (i := 1355) (by decide +kernel)⟩
theorem lw_p31 : lw_okq (⟨"GuestLevelsModel", "unfoldTo", "(I)V"⟩, 10) := ⟨⟨by decide +kernel, by decide +kernel⟩, List.mem_of_getElem? (i := 1265) (by decide +kernel), List.mem_of_getElem? (i := 1358) (by decide +kernel), List.mem_of_getElem? (i := 1359) (by decide +kernel)⟩
def lw_privs_2 : List (MethodName × Nat) := [(⟨"GuestLevels$Machine", "actOfInner", "()V"⟩, 15), (⟨"GuestLevels$Machine", "lead", "(LGuestLevels$Inner;II)V"⟩, 15), (⟨"GuestLevels$Table", "elderThan", "(I)I"⟩, 4), (⟨"GuestLevels$Machine", "frameOfInner", "(I)I"⟩, 15), (⟨"GuestLevels", "goPlainly", "(I)V"⟩, 6), (⟨"GuestLevels$Plain", "touchFrom", "(IIII)V"⟩, 4), (⟨"GuestLevelsModel", "canTell", "(I)Z"⟩, 10), (⟨"GuestLevelsModel", "keep", "()V"⟩, 10), (⟨"GuestLevelsModel", "tellEntry", "(IIII)V"⟩, 10), (⟨"GuestLevelsModel", "layEntry", "(IIII)V"⟩, 10), (⟨"GuestLevelsModel", "entryAt", "(II)I"⟩, 10), (⟨"GuestLevelsModel", "guestAt", "(I)I"⟩, 10), (⟨"GuestLevelsModel", "unfold", "(I)V"⟩, 10), (⟨"GuestLevelsModel", "toOf", "(II)I"⟩, 10), (⟨"GuestLevelsModel", "goOut", "(III)V"⟩, 10), (⟨"GuestLevelsModel", "unfoldTo", "(I)V"⟩, 10)]
theorem lw_r2 : ∀ q ∈ lw_privs_2, lw_okq q := List.forall_mem_cons.mpr ⟨lw_p16, List.forall_mem_cons.mpr ⟨lw_p17, List.forall_mem_cons.mpr ⟨lw_p18, List.forall_mem_cons.mpr ⟨lw_p19, List.forall_mem_cons.mpr ⟨lw_p20, List.forall_mem_cons.mpr ⟨lw_p21, List.forall_mem_cons.mpr ⟨lw_p22, List.forall_mem_cons.mpr ⟨lw_p23, List.forall_mem_cons.mpr ⟨lw_p24, List.forall_mem_cons.mpr ⟨lw_p25, List.forall_mem_cons.mpr ⟨lw_p26, List.forall_mem_cons.mpr ⟨lw_p27, List.forall_mem_cons.mpr ⟨lw_p28, List.forall_mem_cons.mpr ⟨lw_p29, List.forall_mem_cons.mpr ⟨lw_p30, List.forall_mem_cons.mpr ⟨lw_p31, fun _ h => absurd h List.not_mem_nil⟩⟩⟩⟩⟩⟩⟩⟩⟩⟩⟩⟩⟩⟩⟩⟩
theorem lw_p32 : lw_okq (⟨"GuestLevelsModel", "comeLast", "(III)V"⟩, 10) := ⟨⟨by decide +kernel, by decide +kernel⟩, List.mem_of_getElem? (i := 1265) (by decide +kernel), List.mem_of_getElem? (i := 1362) (by decide +kernel), List.mem_of_getElem? (i := 1363) (by decide +kernel)⟩
theorem lw_p33 : lw_okq (⟨"GuestLevelsModel", "dealOut", "()V"⟩, 10) := ⟨⟨by decide +kernel, by decide +kernel⟩, List.mem_of_getElem? (i := 1265) (by decide +kernel), List.mem_of_getElem? (i := 1366) (by decide +kernel), List.mem_of_getElem? (i := 1367) (by decide +kernel)⟩
theorem lw_p34 : lw_okq (⟨"GuestLevelsModel", "nextOf", "(I)I"⟩, 10) := ⟨⟨by decide +kernel, by decide +kernel⟩, List.mem_of_getElem? (i := 1265) (by decide +kernel), List.mem_of_getElem? (i := 1370) (by decide +kernel), List.mem_of_getElem? (i := 1371) (by decide +kernel)⟩
theorem lw_p35 : lw_okq (⟨"GuestLevelsModel", "deal", "(II)V"⟩, 10) := ⟨⟨by decide +kernel, by decide +kernel⟩, List.mem_of_getElem? (i := 1265) (by decide +kernel), List.mem_of_getElem? (i := 1380) (by decide +kernel), List.mem_of_getElem? (i := 1381) (by decide +kernel)⟩
theorem lw_p36 : lw_okq (⟨"GuestLevelsModel", "writeExit", "(III)V"⟩, 10) := ⟨⟨by decide +kernel, by decide +kernel⟩, List.mem_of_getElem? (i := 1265) (by decide +kernel), List.mem_of_getElem? (i := 1384) (by decide +kernel), List.mem_of_getElem? (i := 1385) (by decide +kernel)⟩
theorem lw_p37 : lw_okq (⟨"GuestLevelsModel", "take", "(II)V"⟩, 10) := ⟨⟨by decide +kernel, by decide +kernel⟩, List.mem_of_getElem? (i := 1265) (by decide +kernel), List.mem_of_getElem? (i := 1388) (by decide +kernel), List.mem_of_getElem? (i := 1389) (by decide +kernel)⟩
theorem lw_p38 : lw_okq (⟨"GuestLevelsModel", "sinceOf", "(II)I"⟩, 10) := ⟨⟨by decide +kernel, by decide +kernel⟩, List.mem_of_getElem? (i := 1265) (by decide +kernel), List.mem_of_getElem? (i := 1392) (by decide +kernel), List.mem_of_getElem? (i := 1393) (by decide +kernel)⟩
theorem lw_p39 : lw_okq (⟨"GuestLevelsModel", "roomNow", "(I)V"⟩, 10) := ⟨⟨by decide +kernel, by decide +kernel⟩, List.mem_of_getElem? (i := 1265) (by decide +kernel), List.mem_of_getElem? (i := 1404) (by decide +kernel), List.mem_of_getElem? (i := 1405) (by decide +kernel)⟩
theorem lw_p40 : lw_okq (⟨"GuestLevelsModel", "isLazy", "(I)Z"⟩, 10) := ⟨⟨by decide +kernel, by decide +kernel⟩, List.mem_of_getElem? (i := 1265) (by decide +kernel), List.mem_of_getElem? (i := 1412) (by decide +kernel), List.mem_of_getElem? (i := 1413) (by decide +kernel)⟩
theorem lw_p41 : lw_okq (⟨"GuestLevelsModel", "rightsOf", "(II)I"⟩, 10) := ⟨⟨by decide +kernel, by decide +kernel⟩, List.mem_of_getElem? (i := 1265) (by decide +kernel), List.mem_of_getElem? (i := 1416) (by decide +kernel), List.mem_of_getElem? (i := 1417) (by decide +kernel)⟩
theorem lw_p42 : lw_okq (⟨"GuestLevelsModel", "isCopied", "(I)Z"⟩, 10) := ⟨⟨by decide +kernel, by decide +kernel⟩, List.mem_of_getElem? (i := 1265) (by decide +kernel), List.mem_of_getElem? (i := 1420) (by decide +kernel), List.mem_of_getElem? (i := 1421) (by decide +kernel)⟩
theorem lw_p43 : lw_okq (⟨"GuestLevelsModel", "fold", "(I)V"⟩, 10) := ⟨⟨by decide +kernel, by decide +kernel⟩, List.mem_of_getElem? (i := 1265) (by decide +kernel), List.mem_of_getElem? (i := 1424) (by decide +kernel), List.mem_of_getElem? (i := 1425) (by decide +kernel)⟩
theorem lw_p44 : lw_okq (⟨"GuestLevelsModel", "likeOf", "(I)I"⟩, 10) := ⟨⟨by decide +kernel, by decide +kernel⟩, List.mem_of_getElem? (i := 1265) (by decide +kernel), List.mem_of_getElem? (i := 1432) (by decide +kernel), List.mem_of_getElem? (i := 1433) (by decide +kernel)⟩
theorem lw_p45 : lw_okq (⟨"GuestLevelsModel", "leadTo", "(I)I"⟩, 10) := ⟨⟨by decide +kernel, by decide +kernel⟩, List.mem_of_getElem? (i := 1265) (by decide +kernel), List.mem_of_getElem? (i := 1436) (by decide +kernel), List.mem_of_getElem? (i := 1437) (by decide +kernel)⟩
theorem lw_p46 : lw_okq (⟨"GuestLevelsModel", "joinNow", "(II)V"⟩, 10) := ⟨⟨by decide +kernel, by decide +kernel⟩, List.mem_of_getElem? (i := 1265) (by decide +kernel), List.mem_of_getElem? (i := 1440) (by decide +kernel), List.mem_of_getElem? (i := 1441) (by decide +kernel)⟩
theorem lw_p47 : lw_okq (⟨"GuestLevelsModel", "touchNow", "(III)I"⟩, 10) := ⟨⟨by decide +kernel, by decide +kernel⟩, List.mem_of_getElem? (i := 1265) (by decide +kernel), List.mem_of_getElem? (i := 1464) (by decide +kernel), List.mem_of_getElem? (i := 1465) (by decide +kernel)⟩
def lw_privs_3 : List (MethodName × Nat) := [(⟨"GuestLevelsModel", "comeLast", "(III)V"⟩, 10), (⟨"GuestLevelsModel", "dealOut", "()V"⟩, 10), (⟨"GuestLevelsModel", "nextOf", "(I)I"⟩, 10), (⟨"GuestLevelsModel", "deal", "(II)V"⟩, 10), (⟨"GuestLevelsModel", "writeExit", "(III)V"⟩, 10), (⟨"GuestLevelsModel", "take", "(II)V"⟩, 10), (⟨"GuestLevelsModel", "sinceOf", "(II)I"⟩, 10), (⟨"GuestLevelsModel", "roomNow", "(I)V"⟩, 10), (⟨"GuestLevelsModel", "isLazy", "(I)Z"⟩, 10), (⟨"GuestLevelsModel", "rightsOf", "(II)I"⟩, 10), (⟨"GuestLevelsModel", "isCopied", "(I)Z"⟩, 10), (⟨"GuestLevelsModel", "fold", "(I)V"⟩, 10), (⟨"GuestLevelsModel", "likeOf", "(I)I"⟩, 10), (⟨"GuestLevelsModel", "leadTo", "(I)I"⟩, 10), (⟨"GuestLevelsModel", "joinNow", "(II)V"⟩, 10), (⟨"GuestLevelsModel", "touchNow", "(III)I"⟩, 10)]
theorem lw_r3 : ∀ q ∈ lw_privs_3, lw_okq q := List.forall_mem_cons.mpr ⟨lw_p32, List.forall_mem_cons.mpr ⟨lw_p33, List.forall_mem_cons.mpr ⟨lw_p34, List.forall_mem_cons.mpr ⟨lw_p35, List.forall_mem_cons.mpr ⟨lw_p36, List.forall_mem_cons.mpr ⟨lw_p37, List.forall_mem_cons.mpr ⟨lw_p38, List.forall_mem_cons.mpr ⟨lw_p39, List.forall_mem_cons.mpr ⟨lw_p40, List.forall_mem_cons.mpr ⟨lw_p41, List.forall_mem_cons.mpr ⟨lw_p42, List.forall_mem_cons.mpr ⟨lw_p43, List.forall_mem_cons.mpr ⟨lw_p44, List.forall_mem_cons.mpr ⟨lw_p45, List.forall_mem_cons.mpr ⟨lw_p46, List.forall_mem_cons.mpr ⟨lw_p47, fun _ h => absurd h List.not_mem_nil⟩⟩⟩⟩⟩⟩⟩⟩⟩⟩⟩⟩⟩⟩⟩⟩
theorem lw_p48 : lw_okq (⟨"GuestLevelsModel", "touchOuter", "(III)I"⟩, 10) := ⟨⟨by decide +kernel, by decide +kernel⟩, List.mem_of_getElem? (i := 1265) (by decide +kernel), List.mem_of_getElem? (i := 1468) (by decide +kernel), List.mem_of_getElem? (i := 1469) (by decide +kernel)⟩
theorem lw_p49 : lw_okq (⟨"GuestLevelsModel", "see", "(II)V"⟩, 10) := ⟨⟨by decide +kernel, by decide +kernel⟩, List.mem_of_getElem? (i := 1265) (by decide +kernel), List.mem_of_getElem? (i := 1472) (by decide +kernel), List.mem_of_getElem? (i := 1473) (by decide +kernel)⟩
theorem lw_p50 : lw_okq (⟨"GuestLevelsModel", "give", "(I)V"⟩, 10) := ⟨⟨by decide +kernel, by decide +kernel⟩, List.mem_of_getElem? (i := 1265) (by decide +kernel), List.mem_of_getElem? (i := 1476) (by decide +kernel), List.mem_of_getElem? (i := 1477) (by decide +kernel)⟩
theorem lw_p51 : lw_okq (⟨"GuestLevelsModel", "freeFrame", "()I"⟩, 10) := ⟨⟨by decide +kernel, by decide +kernel⟩, List.mem_of_getElem? (i := 1265) (by decide +kernel), List.mem_of_getElem? (i := 1480) (by decide +kernel), List.mem_of_getElem? (i := 1481) (by decide +kernel)⟩
theorem lw_p52 : lw_okq (⟨"GuestLevelsModel", "swapOut", "()V"⟩, 10) := ⟨⟨by decide +kernel, by decide +kernel⟩, List.mem_of_getElem? (i := 1265) (by decide +kernel), List.mem_of_getElem? (i := 1484) (by decide +kernel), List.mem_of_getElem? (i := 1485) (by decide +kernel)⟩
theorem lw_p53 : lw_okq (⟨"GuestLevelsModel", "isParted", "(II)Z"⟩, 10) := ⟨⟨by decide +kernel, by decide +kernel⟩, List.mem_of_getElem? (i := 1265) (by decide +kernel), List.mem_of_getElem? (i := 1488) (by decide +kernel), List.mem_of_getElem? (i := 1489) (by decide +kernel)⟩
theorem lw_p54 : lw_okq (⟨"GuestLevelsModel", "part", "(I)V"⟩, 10) := ⟨⟨by decide +kernel, by decide +kernel⟩, List.mem_of_getElem? (i := 1265) (by decide +kernel), List.mem_of_getElem? (i := 1492) (by decide +kernel), List.mem_of_getElem? (i := 1493) (by decide +kernel)⟩
theorem lw_p55 : lw_okq (⟨"GuestLevelsModel", "gives", "(III)Z"⟩, 10) := ⟨⟨by decide +kernel, by decide +kernel⟩, List.mem_of_getElem? (i := 1265) (by decide +kernel), List.mem_of_getElem? (i := 1496) (by decide +kernel), List.mem_of_getElem? (i := 1497) (by decide +kernel)⟩
theorem lw_p56 : lw_okq (⟨"GuestLevelsModel", "doAt", "(III)I"⟩, 10) := ⟨⟨by decide +kernel, by decide +kernel⟩, List.mem_of_getElem? (i := 1265) (by decide +kernel), List.mem_of_getElem? (i := 1500) (by decide +kernel), List.mem_of_getElem? (i := 1501) (by decide +kernel)⟩
theorem lw_p57 : lw_okq (⟨"GuestLevelsModel", "touchInner", "(III)I"⟩, 10) := ⟨⟨by decide +kernel, by decide +kernel⟩, List.mem_of_getElem? (i := 1265) (by decide +kernel), List.mem_of_getElem? (i := 1504) (by decide +kernel), List.mem_of_getElem? (i := 1505) (by decide +kernel)⟩
theorem lw_p58 : lw_okq (⟨"GuestLevelsModel", "eventNow", "(I)I"⟩, 10) := ⟨⟨by decide +kernel, by decide +kernel⟩, List.mem_of_getElem? (i := 1265) (by decide +kernel), List.mem_of_getElem? (i := 1508) (by decide +kernel), List.mem_of_getElem? (i := 1509) (by decide +kernel)⟩
theorem lw_p59 : lw_okq (⟨"GuestLevelsModel", "eventOuter", "(I)I"⟩, 10) := ⟨⟨by decide +kernel, by decide +kernel⟩, List.mem_of_getElem? (i := 1265) (by decide +kernel), List.mem_of_getElem? (i := 1512) (by decide +kernel), List.mem_of_getElem? (i := 1513) (by decide +kernel)⟩
theorem lw_p60 : lw_okq (⟨"GuestLevelsModel", "eventInner", "(I)I"⟩, 10) := ⟨⟨by decide +kernel, by decide +kernel⟩, List.mem_of_getElem? (i := 1265) (by decide +kernel), List.mem_of_getElem? (i := 1516) (by decide +kernel), List.mem_of_getElem? (i := 1517) (by decide +kernel)⟩
theorem lw_p61 : lw_okq (⟨"GuestLevelsModel", "whoSees", "(I)I"⟩, 10) := ⟨⟨by decide +kernel, by decide +kernel⟩, List.mem_of_getElem? (i := 1265) (by decide +kernel), List.mem_of_getElem? (i := 1520) (by decide +kernel), List.mem_of_getElem? (i := 1521) (by decide +kernel)⟩
theorem lw_p62 : lw_okq (⟨"GuestLevelsModel", "doInner", "(III)I"⟩, 10) := ⟨⟨by decide +kernel, by decide +kernel⟩, List.mem_of_getElem? (i := 1265) (by decide +kernel), List.mem_of_getElem? (i := 1524) (by decide +kernel), List.mem_of_getElem? (i := 1525) (by decide +kernel)⟩
theorem lw_p63 : lw_okq (⟨"GuestLevelsModel", "hear", "(I)V"⟩, 10) := ⟨⟨by decide +kernel, by decide +kernel⟩, List.mem_of_getElem? (i := 1265) (by decide +kernel), List.mem_of_getElem? (i := 1528) (by decide +kernel), List.mem_of_getElem? (i := 1529) (by decide +kernel)⟩
def lw_privs_4 : List (MethodName × Nat) := [(⟨"GuestLevelsModel", "touchOuter", "(III)I"⟩, 10), (⟨"GuestLevelsModel", "see", "(II)V"⟩, 10), (⟨"GuestLevelsModel", "give", "(I)V"⟩, 10), (⟨"GuestLevelsModel", "freeFrame", "()I"⟩, 10), (⟨"GuestLevelsModel", "swapOut", "()V"⟩, 10), (⟨"GuestLevelsModel", "isParted", "(II)Z"⟩, 10), (⟨"GuestLevelsModel", "part", "(I)V"⟩, 10), (⟨"GuestLevelsModel", "gives", "(III)Z"⟩, 10), (⟨"GuestLevelsModel", "doAt", "(III)I"⟩, 10), (⟨"GuestLevelsModel", "touchInner", "(III)I"⟩, 10), (⟨"GuestLevelsModel", "eventNow", "(I)I"⟩, 10), (⟨"GuestLevelsModel", "eventOuter", "(I)I"⟩, 10), (⟨"GuestLevelsModel", "eventInner", "(I)I"⟩, 10), (⟨"GuestLevelsModel", "whoSees", "(I)I"⟩, 10), (⟨"GuestLevelsModel", "doInner", "(III)I"⟩, 10), (⟨"GuestLevelsModel", "hear", "(I)V"⟩, 10)]
theorem lw_r4 : ∀ q ∈ lw_privs_4, lw_okq q := List.forall_mem_cons.mpr ⟨lw_p48, List.forall_mem_cons.mpr ⟨lw_p49, List.forall_mem_cons.mpr ⟨lw_p50, List.forall_mem_cons.mpr ⟨lw_p51, List.forall_mem_cons.mpr ⟨lw_p52, List.forall_mem_cons.mpr ⟨lw_p53, List.forall_mem_cons.mpr ⟨lw_p54, List.forall_mem_cons.mpr ⟨lw_p55, List.forall_mem_cons.mpr ⟨lw_p56, List.forall_mem_cons.mpr ⟨lw_p57, List.forall_mem_cons.mpr ⟨lw_p58, List.forall_mem_cons.mpr ⟨lw_p59, List.forall_mem_cons.mpr ⟨lw_p60, List.forall_mem_cons.mpr ⟨lw_p61, List.forall_mem_cons.mpr ⟨lw_p62, List.forall_mem_cons.mpr ⟨lw_p63, fun _ h => absurd h List.not_mem_nil⟩⟩⟩⟩⟩⟩⟩⟩⟩⟩⟩⟩⟩⟩⟩⟩
theorem lw_p64 : lw_okq (⟨"GuestLevelsModel", "enterNow", "()V"⟩, 10) := ⟨⟨by decide +kernel, by decide +kernel⟩, List.mem_of_getElem? (i := 1265) (by decide +kernel), List.mem_of_getElem? (i := 1540) (by decide +kernel), List.mem_of_getElem? (i := 1541) (by decide +kernel)⟩
theorem lw_p65 : lw_okq (⟨"GuestLevelsModel", "pend", "(II)V"⟩, 10) := ⟨⟨by decide +kernel, by decide +kernel⟩, List.mem_of_getElem? (i := 1265) (by decide +kernel), List.mem_of_getElem? (i := 1551) (by decide +kernel), List.mem_of_getElem? (i := 1552) (by decide +kernel)⟩
theorem lw_p66 : lw_okq (⟨"GuestLevelsModel", "endNow", "(I)I"⟩, 10) := ⟨⟨by decide +kernel, by decide +kernel⟩, List.mem_of_getElem? (i := 1265) (by decide +kernel), List.mem_of_getElem? (i := 1563) (by decide +kernel), List.mem_of_getElem? (i := 1564) (by decide +kernel)⟩
theorem lw_p67 : lw_okq (⟨"GuestLevelsModel", "handNow", "(I)V"⟩, 10) := ⟨⟨by decide +kernel, by decide +kernel⟩, List.mem_of_getElem? (i := 1265) (by decide +kernel), List.mem_of_getElem? (i := 1571) (by decide +kernel), List.mem_of_getElem? (i := 1572) (by decide +kernel)⟩
theorem lw_p68 : lw_okq (⟨"GuestLevelsModel", "unfoldAll", "()V"⟩, 10) := ⟨⟨by decide +kernel, by decide +kernel⟩, List.mem_of_getElem? (i := 1265) (by decide +kernel), List.mem_of_getElem? (i := 1575) (by decide +kernel), List.mem_of_getElem? (i := 1576) (by decide +kernel)⟩
theorem lw_p69 : lw_okq (⟨"GuestLevelsModel", "dropTimer", "(I)V"⟩, 10) := ⟨⟨by decide +kernel, by decide +kernel⟩, List.mem_of_getElem? (i := 1265) (by decide +kernel), List.mem_of_getElem? (i := 1593) (by decide +kernel), List.mem_of_getElem? (i := 1594) (by decide +kernel)⟩
theorem lw_p70 : lw_okq (⟨"GuestLevelsModel", "tick", "()I"⟩, 10) := ⟨⟨by decide +kernel, by decide +kernel⟩, List.mem_of_getElem? (i := 1265) (by decide +kernel), List.mem_of_getElem? (i := 1620) (by decide +kernel), List.mem_of_getElem? (i := 1621) (by decide +kernel)⟩
theorem lw_p71 : lw_okq (⟨"GuestLevelsModel", "firstDue", "()I"⟩, 10) := ⟨⟨by decide +kernel, by decide +kernel⟩, List.mem_of_getElem? (i := 1265) (by decide +kernel), List.mem_of_getElem? (i := 1624) (by decide +kernel), List.mem_of_getElem? (i := 1625) (by decide +kernel)⟩
theorem lw_p72 : lw_okq (⟨"GuestLevelsModel", "isDue", "(II)Z"⟩, 10) := ⟨⟨by decide +kernel, by decide +kernel⟩, List.mem_of_getElem? (i := 1265) (by decide +kernel), List.mem_of_getElem? (i := 1628) (by decide +kernel), List.mem_of_getElem? (i := 1629) (by decide +kernel)⟩
theorem lw_p73 : lw_okq (⟨"GuestLevelsModel", "ofTimer", "(II)I"⟩, 10) := ⟨⟨by decide +kernel, by decide +kernel⟩, List.mem_of_getElem? (i := 1265) (by decide +kernel), List.mem_of_getElem? (i := 1632) (by decide +kernel), List.mem_of_getElem? (i := 1633) (by decide +kernel)⟩
theorem lw_p74 : lw_okq (⟨"GuestLevelsModel", "clockAt", "(II)I"⟩, 10) := ⟨⟨by decide +kernel, by decide +kernel⟩, List.mem_of_getElem? (i := 1265) (by decide +kernel), List.mem_of_getElem? (i := 1636) (by decide +kernel), List.mem_of_getElem? (i := 1637) (by decide +kernel)⟩
theorem lw_p75 : lw_okq (⟨"GuestLevelsModel", "isAhead", "(II)Z"⟩, 10) := ⟨⟨by decide +kernel, by decide +kernel⟩, List.mem_of_getElem? (i := 1265) (by decide +kernel), List.mem_of_getElem? (i := 1640) (by decide +kernel), List.mem_of_getElem? (i := 1641) (by decide +kernel)⟩
theorem lw_p76 : lw_okq (⟨"GuestLevelsModel", "canGo", "(II)Z"⟩, 10) := ⟨⟨by decide +kernel, by decide +kernel⟩, List.mem_of_getElem? (i := 1265) (by decide +kernel), List.mem_of_getElem? (i := 1662) (by decide +kernel), List.mem_of_getElem? (i := 1663) (by decide +kernel)⟩
theorem lw_p77 : lw_okq (⟨"GuestLevelsModel", "exitsAll", "()I"⟩, 10) := ⟨⟨by decide +kernel, by decide +kernel⟩, List.mem_of_getElem? (i := 1265) (by decide +kernel), List.mem_of_getElem? (i := 1666) (by decide +kernel), List.mem_of_getElem? (i := 1667) (by decide +kernel)⟩
theorem lw_p78 : lw_okq (⟨"GuestLevelsModel", "goNow", "()V"⟩, 10) := ⟨⟨by decide +kernel, by decide +kernel⟩, List.mem_of_getElem? (i := 1265) (by decide +kernel), List.mem_of_getElem? (i := 1670) (by decide +kernel), List.mem_of_getElem? (i := 1671) (by decide +kernel)⟩
theorem lw_p79 : lw_okq (⟨"GuestLevelsModel", "actNow", "()V"⟩, 10) := ⟨⟨by decide +kernel, by decide +kernel⟩, List.mem_of_getElem? (i := 1265) (by decide +kernel), List.mem_of_getElem? (i := 1674) (by decide +kernel), List.mem_of_getElem? (i := 1675) (by decide +kernel)⟩
def lw_privs_5 : List (MethodName × Nat) := [(⟨"GuestLevelsModel", "enterNow", "()V"⟩, 10), (⟨"GuestLevelsModel", "pend", "(II)V"⟩, 10), (⟨"GuestLevelsModel", "endNow", "(I)I"⟩, 10), (⟨"GuestLevelsModel", "handNow", "(I)V"⟩, 10), (⟨"GuestLevelsModel", "unfoldAll", "()V"⟩, 10), (⟨"GuestLevelsModel", "dropTimer", "(I)V"⟩, 10), (⟨"GuestLevelsModel", "tick", "()I"⟩, 10), (⟨"GuestLevelsModel", "firstDue", "()I"⟩, 10), (⟨"GuestLevelsModel", "isDue", "(II)Z"⟩, 10), (⟨"GuestLevelsModel", "ofTimer", "(II)I"⟩, 10), (⟨"GuestLevelsModel", "clockAt", "(II)I"⟩, 10), (⟨"GuestLevelsModel", "isAhead", "(II)Z"⟩, 10), (⟨"GuestLevelsModel", "canGo", "(II)Z"⟩, 10), (⟨"GuestLevelsModel", "exitsAll", "()I"⟩, 10), (⟨"GuestLevelsModel", "goNow", "()V"⟩, 10), (⟨"GuestLevelsModel", "actNow", "()V"⟩, 10)]
theorem lw_r5 : ∀ q ∈ lw_privs_5, lw_okq q := List.forall_mem_cons.mpr ⟨lw_p64, List.forall_mem_cons.mpr ⟨lw_p65, List.forall_mem_cons.mpr ⟨lw_p66, List.forall_mem_cons.mpr ⟨lw_p67, List.forall_mem_cons.mpr ⟨lw_p68, List.forall_mem_cons.mpr ⟨lw_p69, List.forall_mem_cons.mpr ⟨lw_p70, List.forall_mem_cons.mpr ⟨lw_p71, List.forall_mem_cons.mpr ⟨lw_p72, List.forall_mem_cons.mpr ⟨lw_p73, List.forall_mem_cons.mpr ⟨lw_p74, List.forall_mem_cons.mpr ⟨lw_p75, List.forall_mem_cons.mpr ⟨lw_p76, List.forall_mem_cons.mpr ⟨lw_p77, List.forall_mem_cons.mpr ⟨lw_p78, List.forall_mem_cons.mpr ⟨lw_p79, fun _ h => absurd h List.not_mem_nil⟩⟩⟩⟩⟩⟩⟩⟩⟩⟩⟩⟩⟩⟩⟩⟩
theorem lw_p80 : lw_okq (⟨"GuestLevelsModel", "goOnBy", "(IIIZ)V"⟩, 10) := ⟨⟨by decide +kernel, by decide +kernel⟩, List.mem_of_getElem? (i := 1265) (by decide +kernel), List.mem_of_getElem? (i := 1678) (by decide +kernel), List.mem_of_getElem? (i := 1679) (by decide +kernel)⟩
theorem lw_p81 : lw_okq (⟨"GuestLevelsModel", "hasPlace", "(II)Z"⟩, 10) := ⟨⟨by decide +kernel, by decide +kernel⟩, List.mem_of_getElem? (i := 1265) (by decide +kernel), List.mem_of_getElem? (i := 1682) (by decide +kernel), List.mem_of_getElem? (i := 1683) (by decide +kernel)⟩
theorem lw_p82 : lw_okq (⟨"GuestLevelsModel", "actOuter", "(III)V"⟩, 10) := ⟨⟨by decide +kernel, by decide +kernel⟩, List.mem_of_getElem? (i := 1265) (by decide +kernel), List.mem_of_getElem? (i := 1686) (by decide +kernel), List.mem_of_getElem? (i := 1687) (by decide +kernel)⟩
theorem lw_p83 : lw_okq (⟨"GuestLevelsModel", "actInner", "(III)V"⟩, 10) := ⟨⟨by decide +kernel, by decide +kernel⟩, List.mem_of_getElem? (i := 1265) (by decide +kernel), List.mem_of_getElem? (i := 1690) (by decide +kernel), List.mem_of_getElem? (i := 1691) (by decide +kernel)⟩
theorem lw_p84 : lw_okq (⟨"GuestLevelsModel", "freeFrames", "()I"⟩, 10) := ⟨⟨by decide +kernel, by decide +kernel⟩, List.mem_of_getElem? (i := 1265) (by decide +kernel), List.mem_of_getElem? (i := 1698) (by decide +kernel), List.mem_of_getElem? (i := 1699) (by decide +kernel)⟩
theorem lw_p85 : lw_okq (⟨"GuestLevelsModel", "entriesFrom", "(I)I"⟩, 10) := ⟨⟨by decide +kernel, by decide +kernel⟩, List.mem_of_getElem? (i := 1265) (by decide +kernel), List.mem_of_getElem? (i := 1798) (by decide +kernel), List.mem_of_getElem? (i := 1799) (by decide +kernel)⟩
theorem lw_p86 : lw_okq (⟨"GuestLevelsModel", "dueOf", "(I)I"⟩, 10) := ⟨⟨by decide +kernel, by decide +kernel⟩, List.mem_of_getElem? (i := 1265) (by decide +kernel), List.mem_of_getElem? (i := 1819) (by decide +kernel), List.mem_of_getElem? (i := 1820) (by decide +kernel)⟩
theorem lw_p87 : lw_okq (⟨"GuestLevelsModel", "putAside", "()V"⟩, 10) := ⟨⟨by decide +kernel, by decide +kernel⟩, List.mem_of_getElem? (i := 1265) (by decide +kernel), List.mem_of_getElem? (i := 1836) (by decide +kernel), List.mem_of_getElem? (i := 1837) (by decide +kernel)⟩
theorem lw_p88 : lw_okq (⟨"GuestLevelsModel", "bringBack", "()V"⟩, 10) := ⟨⟨by decide +kernel, by decide +kernel⟩, List.mem_of_getElem? (i := 1265) (by decide +kernel), List.mem_of_getElem? (i := 1841) (by decide +kernel), List.mem_of_getElem? (i := 1842) (by decide +kernel)⟩
theorem lw_p89 : lw_okq (⟨"GuestLevelsModel", "tillMore", "(I)I"⟩, 10) := ⟨⟨by decide +kernel, by decide +kernel⟩, List.mem_of_getElem? (i := 1265) (by decide +kernel), List.mem_of_getElem? (i := 1849) (by decide +kernel), List.mem_of_getElem? (i := 1850) (by decide +kernel)⟩
theorem lw_p90 : lw_okq (⟨"GuestLevelsModel", "seenBy", "(II)I"⟩, 10) := ⟨⟨by decide +kernel, by decide +kernel⟩, List.mem_of_getElem? (i := 1265) (by decide +kernel), List.mem_of_getElem? (i := 1861) (by decide +kernel), List.mem_of_getElem? (i := 1862) (by decide +kernel)⟩
theorem lw_p91 : lw_okq (⟨"GuestLevelsModel", "layPlain", "(I)V"⟩, 10) := ⟨⟨by decide +kernel, by decide +kernel⟩, List.mem_of_getElem? (i := 1265) (by decide +kernel), List.mem_of_getElem? (i := 1869) (by decide +kernel), List.mem_of_getElem? (i := 1870) (by decide +kernel)⟩
theorem lw_p92 : lw_okq (⟨"GuestLevelsModel", "plainValue", "(I)I"⟩, 10) := ⟨⟨by decide +kernel, by decide +kernel⟩, List.mem_of_getElem? (i := 1265) (by decide +kernel), List.mem_of_getElem? (i := 1873) (by decide +kernel), List.mem_of_getElem? (i := 1874) (by decide +kernel)⟩
theorem lw_p93 : lw_okq (⟨"GuestLevelsModel", "plainAct", "(II)V"⟩, 10) := ⟨⟨by decide +kernel, by decide +kernel⟩, List.mem_of_getElem? (i := 1265) (by decide +kernel), List.mem_of_getElem? (i := 1877) (by decide +kernel), List.mem_of_getElem? (i := 1878) (by decide +kernel)⟩
theorem lw_p94 : lw_okq (⟨"GuestLevelsModel", "plainTouch", "(IIIII)V"⟩, 10) := ⟨⟨by decide +kernel, by decide +kernel⟩, List.mem_of_getElem? (i := 1265) (by decide +kernel), List.mem_of_getElem? (i := 1881) (by decide +kernel), List.mem_of_getElem? (i := 1882) (by decide +kernel)⟩
theorem lw_p95 : lw_okq (⟨"GuestLevelsModel", "plainTrap", "(III)V"⟩, 10) := ⟨⟨by decide +kernel, by decide +kernel⟩, List.mem_of_getElem? (i := 1265) (by decide +kernel), List.mem_of_getElem? (i := 1885) (by decide +kernel), List.mem_of_getElem? (i := 1886) (by decide +kernel)⟩
def lw_privs_6 : List (MethodName × Nat) := [(⟨"GuestLevelsModel", "goOnBy", "(IIIZ)V"⟩, 10), (⟨"GuestLevelsModel", "hasPlace", "(II)Z"⟩, 10), (⟨"GuestLevelsModel", "actOuter", "(III)V"⟩, 10), (⟨"GuestLevelsModel", "actInner", "(III)V"⟩, 10), (⟨"GuestLevelsModel", "freeFrames", "()I"⟩, 10), (⟨"GuestLevelsModel", "entriesFrom", "(I)I"⟩, 10), (⟨"GuestLevelsModel", "dueOf", "(I)I"⟩, 10), (⟨"GuestLevelsModel", "putAside", "()V"⟩, 10), (⟨"GuestLevelsModel", "bringBack", "()V"⟩, 10), (⟨"GuestLevelsModel", "tillMore", "(I)I"⟩, 10), (⟨"GuestLevelsModel", "seenBy", "(II)I"⟩, 10), (⟨"GuestLevelsModel", "layPlain", "(I)V"⟩, 10), (⟨"GuestLevelsModel", "plainValue", "(I)I"⟩, 10), (⟨"GuestLevelsModel", "plainAct", "(II)V"⟩, 10), (⟨"GuestLevelsModel", "plainTouch", "(IIIII)V"⟩, 10), (⟨"GuestLevelsModel", "plainTrap", "(III)V"⟩, 10)]
theorem lw_r6 : ∀ q ∈ lw_privs_6, lw_okq q := List.forall_mem_cons.mpr ⟨lw_p80, List.forall_mem_cons.mpr ⟨lw_p81, List.forall_mem_cons.mpr ⟨lw_p82, List.forall_mem_cons.mpr ⟨lw_p83, List.forall_mem_cons.mpr ⟨lw_p84, List.forall_mem_cons.mpr ⟨lw_p85, List.forall_mem_cons.mpr ⟨lw_p86, List.forall_mem_cons.mpr ⟨lw_p87, List.forall_mem_cons.mpr ⟨lw_p88, List.forall_mem_cons.mpr ⟨lw_p89, List.forall_mem_cons.mpr ⟨lw_p90, List.forall_mem_cons.mpr ⟨lw_p91, List.forall_mem_cons.mpr ⟨lw_p92, List.forall_mem_cons.mpr ⟨lw_p93, List.forall_mem_cons.mpr ⟨lw_p94, List.forall_mem_cons.mpr ⟨lw_p95, fun _ h => absurd h List.not_mem_nil⟩⟩⟩⟩⟩⟩⟩⟩⟩⟩⟩⟩⟩⟩⟩⟩
theorem lw_p96 : lw_okq (⟨"GuestLevelsModel", "plainTell", "(II)V"⟩, 10) := ⟨⟨by decide +kernel, by decide +kernel⟩, List.mem_of_getElem? (i := 1265) (by decide +kernel), List.mem_of_getElem? (i := 1889) (by decide +kernel), List.mem_of_getElem? (i := 1890) (by decide +kernel)⟩
def lw_privs_7 : List (MethodName × Nat) := [(⟨"GuestLevelsModel", "plainTell", "(II)V"⟩, 10)]
theorem lw_r7 : ∀ q ∈ lw_privs_7, lw_okq q := List.forall_mem_cons.mpr ⟨lw_p96, fun _ h => absurd h List.not_mem_nil⟩
def lw_privs : List (MethodName × Nat) := lw_privs_1 ++ (lw_privs_2 ++ (lw_privs_3 ++ (lw_privs_4 ++ (lw_privs_5 ++ (lw_privs_6 ++ (lw_privs_7))))))
def lw_tbl : List Cond := k2_sels lw_privs ++ tables_1
theorem lw_privs_ok : ∀ q ∈ lw_privs, lw_okq q := by
  show ∀ q ∈ lw_privs_1 ++ (lw_privs_2 ++ (lw_privs_3 ++ (lw_privs_4 ++ (lw_privs_5 ++ (lw_privs_6 ++ (lw_privs_7)))))), lw_okq q
  exact List.forall_mem_append.mpr ⟨lw_r1, List.forall_mem_append.mpr ⟨lw_r2, List.forall_mem_append.mpr ⟨lw_r3, List.forall_mem_append.mpr ⟨lw_r4, List.forall_mem_append.mpr ⟨lw_r5, List.forall_mem_append.mpr ⟨lw_r6, lw_r7⟩⟩⟩⟩⟩⟩
/-- the streams that the claim lets the run draw from -/
abbrev lw_cs : List Choice := [Jvm.Choice.named "NaN.bits"]
theorem lw_bits : nanBits ∈ lw_cs := by first | decide | exact List.mem_cons_self | simp [lw_cs, nanBits]
def gw_tb : List Cond := lw_tbl.filter goodWord
theorem gw_mem {i : Nat} {c : Cond} (h : lw_tbl[i]? = some c) (hg : goodWord c = true) : c ∈ gw_tb := List.mem_filter.mpr ⟨List.mem_of_getElem? h, hg⟩
theorem gw_tb_lw : ∀ w ∈ gw_tb, w ∈ lw_tbl := fun _ h => (List.mem_filter.mp h).1
theorem gw_tb_good : ∀ w ∈ gw_tb, goodWord w = true := fun _ h => (List.mem_filter.mp h).2
theorem gw_among (ws : List Cond) (ps : List Nat) (hp : ws = ps.filterMap (fun i => lw_tbl[i]?)) (hg : ws.all goodWord = true) : ∀ w ∈ ws, w ∈ gw_tb := by
  intro w hw
  have h1 := List.all_eq_true.mp hg w hw
  rw [hp] at hw
  obtain ⟨i, -, hi⟩ := List.mem_filterMap.mp hw
  exact gw_mem hi h1
def RX0 : String := "GuestLevels$Guest"
def TX0 : u_T := fun k => match k with
  | 0 => ("GuestLevels$Guest", "program", "LGuestLevels$Program;", true)
  | 1 => ("GuestLevels$Guest", "since", "[I", true)
  | 2 => ("GuestLevels$Guest", "waiting", "I", false)
  | 3 => ("GuestLevels$Guest", "serving", "I", false)
  | 4 => ("GuestLevels$Guest", "opened", "Z", false)
  | 5 => ("GuestLevels$Guest", "scale", "I", false)
  | _ => ("GuestLevels$Guest", "offset", "I", false)
def tyX0 : Nat → FieldType := fun k => match k with
  | 0 => .object "GuestLevels$Program"
  | 1 => .array .int
  | 2 => .int
  | 3 => .int
  | 4 => .boolean
  | 5 => .int
  | _ => .int
theorem nmX0 : ∀ a, a < 7 → ∀ b, b < 7 → a ≠ b → (TX0 a).2.1 ≠ (TX0 b).2.1 := by decide +kernel
theorem tyX0_ok : ∀ k, k < 7 → parseFieldDescriptor (TX0 k).2.2.1 = some (tyX0 k) := by decide +kernel
theorem inX0 : ∀ w ∈ u_ws RX0 TX0 7, w ∈ gw_tb := gw_among _ [257, 259, 261, 263, 265, 267, 269] (by decide +kernel) (by decide +kernel)
def RX1 : String := "GuestLevels$Inner"
def TX1 : u_T := fun k => match k with
  | 0 => ("GuestLevels$Inner", "guest", "LGuestLevels$Guest;", true)
  | 1 => ("GuestLevels$Inner", "toInner", "LGuestLevels$Table;", true)
  | 2 => ("GuestLevels$Inner", "toOuter", "LGuestLevels$Table;", true)
  | 3 => ("GuestLevels$Inner", "trapPlace", "I", false)
  | 4 => ("GuestLevels$Inner", "trappedPage", "I", false)
  | _ => ("GuestLevels$Inner", "trappedPlace", "I", false)
def tyX1 : Nat → FieldType := fun k => match k with
  | 0 => .object "GuestLevels$Guest"
  | 1 => .object "GuestLevels$Table"
  | 2 => .object "GuestLevels$Table"
  | 3 => .int
  | 4 => .int
  | _ => .int
theorem nmX1 : ∀ a, a < 6 → ∀ b, b < 6 → a ≠ b → (TX1 a).2.1 ≠ (TX1 b).2.1 := by decide +kernel
theorem tyX1_ok : ∀ k, k < 6 → parseFieldDescriptor (TX1 k).2.2.1 = some (tyX1 k) := by decide +kernel
theorem inX1 : ∀ w ∈ u_ws RX1 TX1 6, w ∈ gw_tb := gw_among _ [394, 396, 398, 400, 402, 404] (by decide +kernel) (by decide +kernel)
def RX2 : String := "GuestLevels$Log"
def TX2 : u_T := fun k => match k with
  | 0 => ("GuestLevels$Log", "who", "[I", true)
  | 1 => ("GuestLevels$Log", "reason", "[I", true)
  | 2 => ("GuestLevels$Log", "detail", "[I", true)
  | 3 => ("GuestLevels$Log", "time", "[I", true)
  | 4 => ("GuestLevels$Log", "exitsOf", "[I", true)
  | 5 => ("GuestLevels$Log", "dealtReason", "I", false)
  | 6 => ("GuestLevels$Log", "dealtDetail", "I", false)
  | 7 => ("GuestLevels$Log", "heardValue", "[I", true)
  | 8 => ("GuestLevels$Log", "allHeard", "I", false)
  | 9 => ("GuestLevels$Log", "ownTraps", "I", false)
  | 10 => ("GuestLevels$Log", "seenBy", "[I", true)
  | 11 => ("GuestLevels$Log", "spentBy", "[I", true)
  | 12 => ("GuestLevels$Log", "takes", "[I", true)
  | 13 => ("GuestLevels$Log", "latestTake", "[I", true)
  | _ => ("GuestLevels$Log", "longestWait", "[I", true)
def tyX2 : Nat → FieldType := fun k => match k with
  | 0 => .array .int
  | 1 => .array .int
  | 2 => .array .int
  | 3 => .array .int
  | 4 => .array .int
  | 5 => .int
  | 6 => .int
  | 7 => .array .int
  | 8 => .int
  | 9 => .int
  | 10 => .array .int
  | 11 => .array .int
  | 12 => .array .int
  | 13 => .array .int
  | _ => .array .int
theorem nmX2 : ∀ a, a < 15 → ∀ b, b < 15 → a ≠ b → (TX2 a).2.1 ≠ (TX2 b).2.1 := by decide +kernel
theorem tyX2_ok : ∀ k, k < 15 → parseFieldDescriptor (TX2 k).2.2.1 = some (tyX2 k) := by decide +kernel
theorem inX2 : ∀ w ∈ u_ws RX2 TX2 15, w ∈ gw_tb := gw_among _ [335, 337, 339, 341, 343, 345, 347, 349, 351, 353, 355, 357, 359, 361, 363] (by decide +kernel) (by decide +kernel)
def RX3 : String := "GuestLevels$Machine"
def TX3 : u_T := fun k => match k with
  | 0 => ("GuestLevels$Machine", "memory", "LGuestLevels$Memory;", true)
  | 1 => ("GuestLevels$Machine", "folds", "LGuestLevels$Table;", true)
  | 2 => ("GuestLevels$Machine", "room", "I", false)
  | 3 => ("GuestLevels$Machine", "outer", "LGuestLevels$Guest;", true)
  | 4 => ("GuestLevels$Machine", "inners", "[LGuestLevels$Inner;", true)
  | 5 => ("GuestLevels$Machine", "handed", "I", false)
  | 6 => ("GuestLevels$Machine", "level", "I", false)
  | 7 => ("GuestLevels$Machine", "time", "I", false)
  | 8 => ("GuestLevels$Machine", "wants", "[I", true)
  | 9 => ("GuestLevels$Machine", "handlers", "[I", true)
  | 10 => ("GuestLevels$Machine", "slice", "I", false)
  | 11 => ("GuestLevels$Machine", "left", "I", false)
  | 12 => ("GuestLevels$Machine", "missedPage", "I", false)
  | 13 => ("GuestLevels$Machine", "timers", "LGuestLevels$Timers;", true)
  | _ => ("GuestLevels$Machine", "log", "LGuestLevels$Log;", true)
def tyX3 : Nat → FieldType := fun k => match k with
  | 0 => .object "GuestLevels$Memory"
  | 1 => .object "GuestLevels$Table"
  | 2 => .int
  | 3 => .object "GuestLevels$Guest"
  | 4 => .array (.object "GuestLevels$Inner")
  | 5 => .int
  | 6 => .int
  | 7 => .int
  | 8 => .array .int
  | 9 => .array .int
  | 10 => .int
  | 11 => .int
  | 12 => .int
  | 13 => .object "GuestLevels$Timers"
  | _ => .object "GuestLevels$Log"
theorem nmX3 : ∀ a, a < 15 → ∀ b, b < 15 → a ≠ b → (TX3 a).2.1 ≠ (TX3 b).2.1 := by decide +kernel
theorem tyX3_ok : ∀ k, k < 15 → parseFieldDescriptor (TX3 k).2.2.1 = some (tyX3 k) := by decide +kernel
theorem inX3 : ∀ w ∈ u_ws RX3 TX3 15, w ∈ gw_tb := gw_among _ [435, 437, 439, 441, 443, 445, 447, 449, 451, 453, 455, 457, 459, 461, 463] (by decide +kernel) (by decide +kernel)
def RX4 : String := "GuestLevels$Memory"
def TX4 : u_T := fun k => match k with
  | 0 => ("GuestLevels$Memory", "table", "LGuestLevels$Table;", true)
  | 1 => ("GuestLevels$Memory", "value", "[I", true)
  | 2 => ("GuestLevels$Memory", "stored", "[I", true)
  | 3 => ("GuestLevels$Memory", "copies", "I", false)
  | 4 => ("GuestLevels$Memory", "changes", "I", false)
  | _ => ("GuestLevels$Memory", "swaps", "I", false)
def tyX4 : Nat → FieldType := fun k => match k with
  | 0 => .object "GuestLevels$Table"
  | 1 => .array .int
  | 2 => .array .int
  | 3 => .int
  | 4 => .int
  | _ => .int
theorem nmX4 : ∀ a, a < 6 → ∀ b, b < 6 → a ≠ b → (TX4 a).2.1 ≠ (TX4 b).2.1 := by decide +kernel
theorem tyX4_ok : ∀ k, k < 6 → parseFieldDescriptor (TX4 k).2.2.1 = some (tyX4 k) := by decide +kernel
theorem inX4 : ∀ w ∈ u_ws RX4 TX4 6, w ∈ gw_tb := gw_among _ [182, 184, 186, 188, 190, 192] (by decide +kernel) (by decide +kernel)
def RX5 : String := "GuestLevels$Past"
def TX5 : u_T := fun k => match k with
  | 0 => ("GuestLevels$Past", "rows", "[LGuestLevels$Machine;", true)
  | 1 => ("GuestLevels$Past", "start", "I", false)
  | _ => ("GuestLevels$Past", "size", "I", false)
def tyX5 : Nat → FieldType := fun k => match k with
  | 0 => .array (.object "GuestLevels$Machine")
  | 1 => .int
  | _ => .int
theorem nmX5 : ∀ a, a < 3 → ∀ b, b < 3 → a ≠ b → (TX5 a).2.1 ≠ (TX5 b).2.1 := by decide +kernel
theorem tyX5_ok : ∀ k, k < 3 → parseFieldDescriptor (TX5 k).2.2.1 = some (tyX5 k) := by decide +kernel
theorem inX5 : ∀ w ∈ u_ws RX5 TX5 3, w ∈ gw_tb := gw_among _ [478, 480, 482] (by decide +kernel) (by decide +kernel)
def RX6 : String := "GuestLevels$Plain"
def TX6 : u_T := fun k => match k with
  | 0 => ("GuestLevels$Plain", "inner", "LGuestLevels$Inner;", true)
  | 1 => ("GuestLevels$Plain", "value", "[I", true)
  | 2 => ("GuestLevels$Plain", "traps", "I", false)
  | _ => ("GuestLevels$Plain", "latestHeard", "I", false)
def tyX6 : Nat → FieldType := fun k => match k with
  | 0 => .object "GuestLevels$Inner"
  | 1 => .array .int
  | 2 => .int
  | _ => .int
theorem nmX6 : ∀ a, a < 4 → ∀ b, b < 4 → a ≠ b → (TX6 a).2.1 ≠ (TX6 b).2.1 := by decide +kernel
theorem tyX6_ok : ∀ k, k < 4 → parseFieldDescriptor (TX6 k).2.2.1 = some (tyX6 k) := by decide +kernel
theorem inX6 : ∀ w ∈ u_ws RX6 TX6 4, w ∈ gw_tb := gw_among _ [500, 502, 504, 506] (by decide +kernel) (by decide +kernel)
def RX7 : String := "GuestLevels$Program"
def TX7 : u_T := fun k => match k with
  | 0 => ("GuestLevels$Program", "act", "[I", true)
  | 1 => ("GuestLevels$Program", "a", "[I", true)
  | 2 => ("GuestLevels$Program", "b", "[I", true)
  | 3 => ("GuestLevels$Program", "size", "I", false)
  | _ => ("GuestLevels$Program", "place", "I", false)
def tyX7 : Nat → FieldType := fun k => match k with
  | 0 => .array .int
  | 1 => .array .int
  | 2 => .array .int
  | 3 => .int
  | _ => .int
theorem nmX7 : ∀ a, a < 5 → ∀ b, b < 5 → a ≠ b → (TX7 a).2.1 ≠ (TX7 b).2.1 := by decide +kernel
theorem tyX7_ok : ∀ k, k < 5 → parseFieldDescriptor (TX7 k).2.2.1 = some (tyX7 k) := by decide +kernel
theorem inX7 : ∀ w ∈ u_ws RX7 TX7 5, w ∈ gw_tb := gw_among _ [228, 230, 232, 234, 236] (by decide +kernel) (by decide +kernel)
def RX8 : String := "GuestLevels$Table"
def TX8 : u_T := fun k => match k with
  | 0 => ("GuestLevels$Table", "to", "[I", true)
  | 1 => ("GuestLevels$Table", "rights", "[I", true)
  | 2 => ("GuestLevels$Table", "came", "[I", true)
  | _ => ("GuestLevels$Table", "comings", "I", false)
def tyX8 : Nat → FieldType := fun k => match k with
  | 0 => .array .int
  | 1 => .array .int
  | 2 => .array .int
  | _ => .int
theorem nmX8 : ∀ a, a < 4 → ∀ b, b < 4 → a ≠ b → (TX8 a).2.1 ≠ (TX8 b).2.1 := by decide +kernel
theorem tyX8_ok : ∀ k, k < 4 → parseFieldDescriptor (TX8 k).2.2.1 = some (tyX8 k) := by decide +kernel
theorem inX8 : ∀ w ∈ u_ws RX8 TX8 4, w ∈ gw_tb := gw_among _ [156, 158, 160, 162] (by decide +kernel) (by decide +kernel)
def RX9 : String := "GuestLevels$Timers"
def TX9 : u_T := fun k => match k with
  | 0 => ("GuestLevels$Timers", "level", "[I", true)
  | 1 => ("GuestLevels$Timers", "deadline", "[I", true)
  | 2 => ("GuestLevels$Timers", "vector", "[I", true)
  | _ => ("GuestLevels$Timers", "size", "I", false)
def tyX9 : Nat → FieldType := fun k => match k with
  | 0 => .array .int
  | 1 => .array .int
  | 2 => .array .int
  | _ => .int
theorem nmX9 : ∀ a, a < 4 → ∀ b, b < 4 → a ≠ b → (TX9 a).2.1 ≠ (TX9 b).2.1 := by decide +kernel
theorem tyX9_ok : ∀ k, k < 4 → parseFieldDescriptor (TX9 k).2.2.1 = some (tyX9 k) := by decide +kernel
theorem inX9 : ∀ w ∈ u_ws RX9 TX9 4, w ∈ gw_tb := gw_among _ [292, 294, 296, 298] (by decide +kernel) (by decide +kernel)
def RX10 : String := "GuestLevels"
def TX10 : u_T := fun k => match k with
  | 0 => ("GuestLevels", "now", "LGuestLevels$Machine;", true)
  | 1 => ("GuestLevels", "past", "LGuestLevels$Past;", true)
  | 2 => ("GuestLevels", "imaged", "LGuestLevels$Machine;", true)
  | 3 => ("GuestLevels", "imagedPast", "LGuestLevels$Past;", true)
  | 4 => ("GuestLevels", "trial", "LGuestLevels$Machine;", true)
  | _ => ("GuestLevels", "plain", "LGuestLevels$Plain;", true)
def tyX10 : Nat → FieldType := fun k => match k with
  | 0 => .object "GuestLevels$Machine"
  | 1 => .object "GuestLevels$Past"
  | 2 => .object "GuestLevels$Machine"
  | 3 => .object "GuestLevels$Past"
  | 4 => .object "GuestLevels$Machine"
  | _ => .object "GuestLevels$Plain"
theorem nmX10 : ∀ a, a < 6 → ∀ b, b < 6 → a ≠ b → (TX10 a).2.1 ≠ (TX10 b).2.1 := by decide +kernel
theorem tyX10_ok : ∀ k, k < 6 → parseFieldDescriptor (TX10 k).2.2.1 = some (tyX10 k) := by decide +kernel
theorem inX10 : ∀ w ∈ u_ws RX10 TX10 6, w ∈ gw_tb := gw_among _ [515, 517, 519, 521, 523, 525] (by decide +kernel) (by decide +kernel)
def RX11 : String := "GuestLevelsModel"
def TX11 : u_T := fun k => match k with
  | 0 => ("GuestLevelsModel", "a", "[I", true)
  | 1 => ("GuestLevelsModel", "image", "[I", true)
  | 2 => ("GuestLevelsModel", "aside", "[I", true)
  | 3 => ("GuestLevelsModel", "plain", "[I", true)
  | 4 => ("GuestLevelsModel", "firstTable", "[I", true)
  | 5 => ("GuestLevelsModel", "plainTrapped", "I", false)
  | 6 => ("GuestLevelsModel", "plainRead", "I", false)
  | 7 => ("GuestLevelsModel", "plainAt", "I", false)
  | 8 => ("GuestLevelsModel", "plainPage", "I", false)
  | _ => ("GuestLevelsModel", "plainPlace", "I", false)
def tyX11 : Nat → FieldType := fun k => match k with
  | 0 => .array .int
  | 1 => .array .int
  | 2 => .array .int
  | 3 => .array .int
  | 4 => .array .int
  | 5 => .int
  | 6 => .int
  | 7 => .int
  | 8 => .int
  | _ => .int
theorem nmX11 : ∀ a, a < 10 → ∀ b, b < 10 → a ≠ b → (TX11 a).2.1 ≠ (TX11 b).2.1 := by decide +kernel
theorem tyX11_ok : ∀ k, k < 10 → parseFieldDescriptor (TX11 k).2.2.1 = some (tyX11 k) := by decide +kernel
theorem inX11 : ∀ w ∈ u_ws RX11 TX11 10, w ∈ gw_tb := gw_among _ [1380, 1382, 1384, 1386, 1388, 1390, 1392, 1394, 1396, 1398] (by decide +kernel) (by decide +kernel)
abbrev vwCl : List vw_C := [(RX0, TX0, 7), (RX1, TX1, 6), (RX2, TX2, 15), (RX3, TX3, 15), (RX4, TX4, 6), (RX5, TX5, 3), (RX6, TX6, 4), (RX7, TX7, 5), (RX8, TX8, 4), (RX9, TX9, 4), (RX10, TX10, 6), (RX11, TX11, 10)]
end
section
/-! ===== the pure machine: refs are numbers (0: null), ints lie at (object, slot) ===== -/
abbrev gw_S : Type := (Nat → Nat → Nat) × (Nat → Nat) × (Nat → Nat) × Nat
abbrev gw_M : Type := Nat → Nat → Int32
abbrev gw_Sig : Type := MethodName × ByteArray × Nat × Option FieldType
abbrev gw_E : Type := Nat × Nat × Instr × List Nat × List Int32 × List gw_Sig
abbrev gw_C : Type := Nat × Heap × va_G × ClassId × ClassId × ClassId × Nat × Nat × (Nat → Int32)
def gw_rf (S : gw_S) (a k : Nat) : Nat := S.1 a k
def gw_kd (S : gw_S) (a : Nat) : Nat := S.2.1 a
def gw_ln (S : gw_S) (a : Nat) : Nat := S.2.2.1 a
def gw_nn (S : gw_S) : Nat := S.2.2.2
def gw_up (μ : gw_M) (a k : Nat) (v : Int32) : gw_M := fun b j => if b = a ∧ j = k then v else μ b j
def gw_row (μ : gw_M) (a : Nat) (f : Nat → Int32) : gw_M := fun b j => if b = a then f j else μ b j
def gw_sr (S : gw_S) (a k r : Nat) : gw_S := (fun b j => if b = a ∧ j = k then r else S.1 b j, S.2)
def gw_new (S : gw_S) (kd ln : Nat) : gw_S := (fun b j => if b = S.2.2.2 + 1 then 0 else S.1 b j, fun b => if b = S.2.2.2 + 1 then kd else S.2.1 b, fun b => if b = S.2.2.2 + 1 then ln else S.2.2.1 b, S.2.2.2 + 1)
def gw_nth : List Value → Nat → Value
  | [], _ => .retAddr 0
  | v :: _, 0 => v
  | _ :: l, n + 1 => gw_nth l n
def gw_set : List Value → Nat → Value → List Value
  | [], _, _ => []
  | _ :: l, 0, w => w :: l
  | v :: l, n + 1, w => v :: gw_set l n w
def gw_v (x : gw_C) : Value → Value
  | .ref 0 => .null
  | .ref (r + 1) => .ref (x.1 + (r + 1))
  | .retAddr _ => .ref x.2.2.2.2.2.2.1
  | v => v
def gw_ty (c k : Nat) : FieldType := match c with
  | 0 => tyX0 k
  | 1 => tyX1 k
  | 2 => tyX2 k
  | 3 => tyX3 k
  | 4 => tyX4 k
  | 5 => tyX5 k
  | 6 => tyX6 k
  | 7 => tyX7 k
  | 8 => tyX8 k
  | 9 => tyX9 k
  | 10 => tyX10 k
  | _ => tyX11 k
def gw_nf (c : Nat) : Nat := match c with
  | 0 => 7
  | 1 => 6
  | 2 => 15
  | 3 => 15
  | 4 => 6
  | 5 => 3
  | 6 => 4
  | 7 => 5
  | 8 => 4
  | 9 => 4
  | 10 => 6
  | _ => 10
def gw_ft (t : FieldType) : Nat := match t with
  | .int => 0
  | .boolean => 2
  | _ => 1
def gw_fld (x : gw_C) (S : gw_S) (μ : gw_M) (a c k : Nat) : Value := if gw_ft (gw_ty c k) = 1 then gw_v x (.ref (gw_rf S a k)) else .int (μ a k)
def gw_cell (x : gw_C) (S : gw_S) (μ : gw_M) (a : Nat) (H : Heap) : Prop :=
  (gw_kd S a = 12 → H[x.1 + a]? = some (arrV x.2.2.2.1 (gw_ln S a) (fun j => .int (μ a j)))) ∧
  (gw_kd S a = 13 → H[x.1 + a]? = some (arrV x.2.2.2.2.1 (gw_ln S a) (fun j => gw_v x (.ref (gw_rf S a j))))) ∧
  (gw_kd S a = 14 → H[x.1 + a]? = some (arrV x.2.2.2.2.2.1 (gw_ln S a) (fun j => gw_v x (.ref (gw_rf S a j))))) ∧
  (∀ q, vwCl[gw_kd S a]? = some q → t_OB (x.1 + a) (x.2.2.1.1 (gw_kd S a)) q.2.2 (x.2.2.1.2 (gw_kd S a)) H (gw_fld x S μ a (gw_kd S a)))
abbrev gw_A (x : gw_C) : Nat → Prop := fun q => x.1 < q
def gw_wf (S : gw_S) : Prop := ∀ a, gw_kd S a < 15 → 1 ≤ a ∧ a ≤ gw_nn S
def gw_rep (x : gw_C) (S : gw_S) (μ : gw_M) (H : Heap) (locs : List Loc) : Prop :=
  gw_wf S ∧ (∀ a, 1 ≤ a → a ≤ gw_nn S → gw_cell x S μ a H) ∧ H.size = x.1 + 1 + gw_nn S ∧ x.2.1.size = x.1 + 1 ∧ (∀ q : Nat, q < x.1 + 1 → H[q]? = x.2.1[q]?) ∧ ∀ q ∈ locs, x.1 < q.base
abbrev gw_tys (x : gw_C) : List (ClassId × FieldType) := [(x.2.2.2.1, .int), (x.2.2.2.2.1, .object RX1), (x.2.2.2.2.2.1, .object RX3)]
def gw_isn : Cond → Bool
  | .methodLinkNest _ _ _ _ => true
  | .arrayOver (.object _) => true
  | _ => false
def gw_nest : List Cond := lw_tbl.filter gw_isn
def gw_kk (x : gw_C) (U : State) : Prop := va_K x.2.2.1 vwCl (gw_tys x) U ∧ va_X x.2.2.2.2.2.2.1 x.2.2.2.2.2.2.2.1 x.2.2.2.2.2.2.2.2 U x.2.1 ∧ x.2.2.2.2.2.2.1 < x.2.1.size ∧ ∀ w ∈ gw_nest, va_Nw w U
def gw_wd (x : gw_C) (S : gw_S) (μ : gw_M) (U : State) : Prop := gw_rep x S μ U.heap [] ∧ gw_kk x U
def gw_has (x : gw_C) (ls : Array Slot) (nL : Nat) (lv : List Value) : Prop :=
  ls.size = nL ∧ lv_wf ls ∧ lv.length = nL ∧ (∀ i, (gw_nth lv i).category = 1) ∧ ∀ i, gw_nth lv i ≠ .retAddr 0 → ls[i]? = some (.val (gw_v x (gw_nth lv i)))
def gw_rm (d mc ms : Nat) : Room := { frames := d, cells := mc, slots := ms, locals := 40 * d }
def gw_wsg (g : gw_Sig) : List Cond := Cond.code g.1 g.2.1 g.2.2.1 g.2.2.2 :: gw_tb
def gw_qc (x : gw_C) (Q : Option Value → gw_S → gw_M → Prop) : Array Value → State → Outcome → State → Prop := fun _ _ oc t => ∃ (r : Option Value) (S : gw_S) (μ : gw_M), oc = .returned (r.map (gw_v x)) ∧ Q r S μ ∧ gw_wd x S μ t
/-- the contract of a method, in the pure machine's words -/
def gw_ok (l : Launch) (x : gw_C) (d : Nat) (g : gw_Sig) (mc ms : Nat) (as : List Value) (S : gw_S) (μ : gw_M) (Q : Option Value → gw_S → gw_M → Prop) : Prop :=
  Cond.code g.1 g.2.1 g.2.2.1 g.2.2.2 ∈ gw_tb ∧ Met l g.1 (gw_wsg g) (gw_rm d mc ms) (va_Pc (as.map (gw_v x)) (gw_wd x S μ)) (gw_qc x Q) mc ms (gw_A x)
/-! ===== one instruction ===== -/
abbrev gw_Kt : Type := List Value → List Value → gw_S → gw_M → Nat → Nat → Prop
abbrev gw_Ok : Type := gw_Sig → Nat → Nat → List Value → gw_S → gw_M → (Option Value → gw_S → gw_M → Prop) → Prop
def gw_rfk (v : Value) (f : Value → Prop) : Prop := match v with
  | .ref r => f (.ref r)
  | .retAddr 1 => f (.retAddr 1)
  | _ => False
def gw_ink (v : Value) (f : Int32 → Prop) : Prop := match v with
  | .int r => f r
  | _ => False
def gw_c1 (c : ClassFile.Cond) (a : Int32) : Prop := match c with
  | .eq => a = 0
  | .ne => ¬ a = 0
  | .lt => a < 0
  | .ge => 0 ≤ a
  | .gt => 0 < a
  | .le => a ≤ 0
def gw_c2 (c : ClassFile.Cond) (a b : Int32) : Prop := match c with
  | .eq => a = b
  | .ne => ¬ a = b
  | .lt => a < b
  | .ge => b ≤ a
  | .gt => b < a
  | .le => a ≤ b
def gw_in (i : Int32) (n : Nat) : Prop := 0 ≤ i ∧ i.toNatClampNeg < n
def gw_r8 : List Value → Nat → Bool
  | [], _ => true
  | .int _ :: l, n + 1 => gw_r8 l n
  | .ref _ :: l, n + 1 => gw_r8 l n
  | .retAddr _ :: l, n + 1 => gw_r8 l n
  | _, _ => false
def gw_sw (K : Nat → Prop) (dflt : Nat) : List Nat → Int32 → Int32 → Prop
  | [], _, _ => K dflt
  | t :: ts, lo, v => (v = lo → K t) ∧ (¬ v = lo → gw_sw K dflt ts (lo + 1) v)
def gw_cpy (μ : gw_M) (a b : Nat) (sp dp n : Nat) : gw_M := gw_row μ b (va_cpy (μ a) (μ b) sp dp n)
def gw_step (ok : gw_Ok) (x : gw_C) (mc ms : Nat) (Q : Option Value → gw_S → gw_M → Prop) (K : Nat → gw_Kt) (i : Instr) (an : List Nat) (iv : List Int32) (sg : List gw_Sig) (ls st : List Value) (S : gw_S) (μ : gw_M) (cc ss : Nat) (N : gw_Kt) : Prop :=
  match i with
  | .aload_n _ => match an with
    | [k] => gw_rfk (gw_nth ls k) (fun v => N ls (v :: st) S μ cc ss)
    | _ => False
  | .aload _ => match an with
    | [k] => gw_rfk (gw_nth ls k) (fun v => N ls (v :: st) S μ cc ss)
    | _ => False
  | .iload_n _ => match an with
    | [k] => gw_ink (gw_nth ls k) (fun v => N ls (.int v :: st) S μ cc ss)
    | _ => False
  | .iload _ => match an with
    | [k] => gw_ink (gw_nth ls k) (fun v => N ls (.int v :: st) S μ cc ss)
    | _ => False
  | .astore_n _ => match an, st with
    | [k], .ref r :: t => N (gw_set ls k (.ref r)) t S μ cc ss
    | _, _ => False
  | .astore _ => match an, st with
    | [k], .ref r :: t => N (gw_set ls k (.ref r)) t S μ cc ss
    | _, _ => False
  | .istore_n _ => match an, st with
    | [k], .int r :: t => N (gw_set ls k (.int r)) t S μ cc ss
    | _, _ => False
  | .istore _ => match an, st with
    | [k], .int r :: t => N (gw_set ls k (.int r)) t S μ cc ss
    | _, _ => False
  | .iinc _ _ => match an, iv with
    | [k], [w] => gw_ink (gw_nth ls k) (fun v => N (gw_set ls k (.int (v + w))) st S μ cc ss)
    | _, _ => False
  | .iconst _ => match iv with
    | [w] => N ls (.int w :: st) S μ cc ss
    | _ => False
  | .bipush _ => match iv with
    | [w] => N ls (.int w :: st) S μ cc ss
    | _ => False
  | .sipush _ => match iv with
    | [w] => N ls (.int w :: st) S μ cc ss
    | _ => False
  | .ldc _ => match iv with
    | [w] => N ls (.int w :: st) S μ cc ss
    | _ => False
  | .ldc_w _ => match iv with
    | [w] => N ls (.int w :: st) S μ cc ss
    | _ => False
  | .iadd => match st with
    | .int b :: .int a :: t => N ls (.int (a + b) :: t) S μ cc ss
    | _ => False
  | .isub => match st with
    | .int b :: .int a :: t => N ls (.int (a - b) :: t) S μ cc ss
    | _ => False
  | .imul => match st with
    | .int b :: .int a :: t => N ls (.int (a * b) :: t) S μ cc ss
    | _ => False
  | .idiv => match st with
    | .int b :: .int a :: t => ¬ b = 0 ∧ N ls (.int (a / b) :: t) S μ cc ss
    | _ => False
  | .irem => match st with
    | .int b :: .int a :: t => ¬ b = 0 ∧ N ls (.int (a - a / b * b) :: t) S μ cc ss
    | _ => False
  | .iand => match st with
    | .int b :: .int a :: t => N ls (.int (a &&& b) :: t) S μ cc ss
    | _ => False
  | .ior => match st with
    | .int b :: .int a :: t => N ls (.int (a ||| b) :: t) S μ cc ss
    | _ => False
  | .ixor => match st with
    | .int b :: .int a :: t => N ls (.int (a ^^^ b) :: t) S μ cc ss
    | _ => False
  | .ishl => match st with
    | .int b :: .int a :: t => N ls (.int (a <<< (b &&& 31)) :: t) S μ cc ss
    | _ => False
  | .ishr => match st with
    | .int b :: .int a :: t => N ls (.int (a >>> (b &&& 31)) :: t) S μ cc ss
    | _ => False
  | .iushr => match st with
    | .int b :: .int a :: t => N ls (.int (a.toUInt32 >>> (b.toUInt32 &&& Int32.toUInt32 31)).toInt32 :: t) S μ cc ss
    | _ => False
  | .dup => match st with
    | .int a :: t => N ls (.int a :: .int a :: t) S μ cc ss
    | .ref a :: t => N ls (.ref a :: .ref a :: t) S μ cc ss
    | _ => False
  | .dup2 => match st with
    | .int b :: .ref a :: t => N ls (.int b :: .ref a :: .int b :: .ref a :: t) S μ cc ss
    | _ => False
  | .pop => match st with
    | .int _ :: t => N ls t S μ cc ss
    | .ref _ :: t => N ls t S μ cc ss
    | _ => False
  | .lcmp => match st with
    | .long b :: .long a :: t => N ls (.int (lg_cmp a b) :: t) S μ cc ss
    | _ => False
  | .ifCond c _ => match an, st with
    | [k], .int a :: t => (gw_c1 c a → K k ls t S μ cc ss) ∧ (¬ gw_c1 c a → N ls t S μ cc ss)
    | _, _ => False
  | .if_icmp c _ => match an, st with
    | [k], .int b :: .int a :: t => (gw_c2 c a b → K k ls t S μ cc ss) ∧ (¬ gw_c2 c a b → N ls t S μ cc ss)
    | _, _ => False
  | .ifnull _ => match an, st with
    | [k], .ref a :: t => (a = 0 → K k ls t S μ cc ss) ∧ (¬ a = 0 → N ls t S μ cc ss)
    | _, _ => False
  | .ifnonnull _ => match an, st with
    | [k], .ref a :: t => (¬ a = 0 → K k ls t S μ cc ss) ∧ (a = 0 → N ls t S μ cc ss)
    | _, _ => False
  | .goto _ => match an with
    | [k] => K k ls st S μ cc ss
    | _ => False
  | .tableswitch _ _ _ _ => match an, iv, st with
    | d :: ts, [lo], .int a :: t => gw_sw (fun k => K k ls t S μ cc ss) d ts lo a
    | _, _, _ => False
  | .getfield _ => match an, st with
    | [ci, k, 1, _], .ref a :: t => gw_kd S a = ci ∧ N ls (.ref (gw_rf S a k) :: t) S μ cc ss
    | [ci, k, _, _], .ref a :: t => gw_kd S a = ci ∧ N ls (.int (μ a k) :: t) S μ cc ss
    | _, _ => False
  | .putfield _ => match an, st with
    | [ci, k, 1, _], .ref r :: .ref a :: t => gw_kd S a = ci ∧ ¬ r = 0 ∧ N ls t (gw_sr S a k r) μ cc ss
    | [ci, k, 2, _], .int v :: .ref a :: t => gw_kd S a = ci ∧ (v = 0 ∨ v = 1) ∧ N ls t S (gw_up μ a k v) cc ss
    | [ci, k, 0, _], .int v :: .ref a :: t => gw_kd S a = ci ∧ N ls t S (gw_up μ a k v) cc ss
    | _, _ => False
  | .iaload => match st with
    | .int j :: .ref a :: t => gw_kd S a = 12 ∧ gw_in j (gw_ln S a) ∧ N ls (.int (μ a j.toNatClampNeg) :: t) S μ cc ss
    | .int j :: .retAddr 1 :: t => gw_in j x.2.2.2.2.2.2.2.1 ∧ N ls (.int (x.2.2.2.2.2.2.2.2 j.toNatClampNeg) :: t) S μ cc ss
    | _ => False
  | .iastore => match st with
    | .int v :: .int j :: .ref a :: t => gw_kd S a = 12 ∧ gw_in j (gw_ln S a) ∧ N ls t S (gw_up μ a j.toNatClampNeg v) cc ss
    | _ => False
  | .aaload => match st with
    | .int j :: .ref a :: t => (gw_kd S a = 13 ∨ gw_kd S a = 14) ∧ gw_in j (gw_ln S a) ∧ N ls (.ref (gw_rf S a j.toNatClampNeg) :: t) S μ cc ss
    | _ => False
  | .aastore => match st with
    | .ref r :: .int j :: .ref a :: t => ((gw_kd S a = 13 ∧ gw_kd S r = 1) ∨ (gw_kd S a = 14 ∧ gw_kd S r = 3)) ∧ gw_in j (gw_ln S a) ∧ N ls t (gw_sr S a j.toNatClampNeg r) μ cc ss
    | _ => False
  | .arraylength => match st with
    | .ref a :: t => (gw_kd S a = 12 ∨ gw_kd S a = 13 ∨ gw_kd S a = 14) ∧ N ls (.int (Int32.ofNat (gw_ln S a)) :: t) S μ cc ss
    | .retAddr 1 :: t => N ls (.int (Int32.ofNat x.2.2.2.2.2.2.2.1) :: t) S μ cc ss
    | _ => False
  | .newarray _ => match st with
    | .int n :: t => gw_in n 100000 ∧ cc + 1 ≤ mc ∧ ss + n.toNatClampNeg ≤ ms ∧ N ls (.ref (gw_nn S + 1) :: t) (gw_new S 12 n.toNatClampNeg) (gw_row μ (gw_nn S + 1) (fun _ => 0)) (cc + 1) (ss + n.toNatClampNeg)
    | _ => False
  | .anewarray _ => match an, st with
    | kd :: _, .int n :: t => gw_in n 100000 ∧ cc + 1 ≤ mc ∧ ss + n.toNatClampNeg ≤ ms ∧ N ls (.ref (gw_nn S + 1) :: t) (gw_new S kd n.toNatClampNeg) (gw_row μ (gw_nn S + 1) (fun _ => 0)) (cc + 1) (ss + n.toNatClampNeg)
    | _, _ => False
  | .new _ => match an with
    | ci :: _ => cc + 1 ≤ mc ∧ ss + gw_nf ci ≤ ms ∧ N ls (.ref (gw_nn S + 1) :: st) (gw_new S ci 0) (gw_row μ (gw_nn S + 1) (fun _ => 0)) (cc + 1) (ss + gw_nf ci)
    | _ => False
  | .invokevirtual _ => match an, sg with
    | n :: ci :: _, [g] => gw_rfk (gw_nth st n) (fun v => match v with
        | .ref a => gw_kd S a = ci ∧ gw_r8 (st.drop (n + 1)) 8 = true ∧ ∃ mc' ms', cc + mc' ≤ mc ∧ ss + ms' ≤ ms ∧ ok g mc' ms' (.ref a :: (st.take n).reverse) S μ (fun r S' μ' => N ls (r.toList ++ st.drop (n + 1)) S' μ' (cc + mc') (ss + ms'))
        | _ => False)
    | _, _ => False
  | .invokestatic _ => match an, sg with
    | [n, 0, _, _, _, _], [g] => gw_r8 (st.drop n) 8 = true ∧ n ≤ st.length ∧ ∃ mc' ms', cc + mc' ≤ mc ∧ ss + ms' ≤ ms ∧ ok g mc' ms' (st.take n).reverse S μ (fun r S' μ' => N ls (r.toList ++ st.drop n) S' μ' (cc + mc') (ss + ms'))
    | [n, 1, _, _, _, _], [g] => gw_r8 (st.drop n) 8 = true ∧ n ≤ st.length ∧ ∃ mc' ms', cc + mc' ≤ mc ∧ ss + ms' ≤ ms ∧ ok g mc' ms' (st.take n).reverse S μ (fun r S' μ' => N ls (r.toList ++ st.drop n) S' μ' (cc + mc') (ss + ms'))
    | [5, 2, _, _, _, _], [] => match st with
      | [.int n, .int dp, .ref b, .int sp, .ref a] => gw_kd S a = 12 ∧ gw_kd S b = 12 ∧ 0 ≤ sp ∧ 0 ≤ dp ∧ 0 ≤ n ∧ sp.toNatClampNeg + n.toNatClampNeg ≤ gw_ln S a ∧ dp.toNatClampNeg + n.toNatClampNeg ≤ gw_ln S b ∧ N ls [] S (gw_cpy μ a b sp.toNatClampNeg dp.toNatClampNeg n.toNatClampNeg) cc ss
      | _ => False
    | _, _ => False
  | .invokespecial _ => match an, sg with
    | [0, 2, _, _, _, _], [] => match st with
      | [.ref a] => ¬ a = 0 ∧ N ls [] S μ cc ss
      | _ => False
    | n :: _ :: _, [g] => gw_rfk (gw_nth st n) (fun v => match v with
        | .ref a => ¬ a = 0 ∧ gw_r8 (st.drop (n + 1)) 8 = true ∧ ∃ mc' ms', cc + mc' ≤ mc ∧ ss + ms' ≤ ms ∧ ok g mc' ms' (.ref a :: (st.take n).reverse) S μ (fun r S' μ' => N ls (r.toList ++ st.drop (n + 1)) S' μ' (cc + mc') (ss + ms'))
        | _ => False)
    | _, _ => False
  | .ireturn => match an, st with
    | [0], [.int v] => cc ≤ mc ∧ ss ≤ ms ∧ Q (some (.int v)) S μ
    | [1], [.int v] => (v = 0 ∨ v = 1) ∧ cc ≤ mc ∧ ss ≤ ms ∧ Q (some (.int v)) S μ
    | _, _ => False
  | .lreturn => match st with
    | [.long v] => cc ≤ mc ∧ ss ≤ ms ∧ Q (some (.long v)) S μ
    | _ => False
  | .areturn => match st with
    | [.ref v] => cc ≤ mc ∧ ss ≤ ms ∧ Q (some (.ref v)) S μ
    | _ => False
  | .return_ => match st with
    | [] => cc ≤ mc ∧ ss ≤ ms ∧ Q none S μ
    | _ => False
  | _ => False
def gw_blk (ok : gw_Ok) (x : gw_C) (mc ms : Nat) (Q : Option Value → gw_S → gw_M → Prop) (K : Nat → gw_Kt) : List gw_E → Nat → gw_Kt
  | [], pc, ls, st, S, μ, cc, ss => K pc ls st S μ cc ss
  | e :: es, _, ls, st, S, μ, cc, ss => gw_step ok x mc ms Q K e.2.2.1 e.2.2.2.1 e.2.2.2.2.1 e.2.2.2.2.2 ls st S μ cc ss (gw_blk ok x mc ms Q K es (e.1 + e.2.1))
def gw_find : List (Nat × List gw_E) → Nat → List gw_E
  | [], _ => []
  | b :: bs, pc => if b.1 = pc then b.2 else gw_find bs pc
/-! ===== what the tables must say of an instruction ===== -/
def gw_tab (k : Nat) : List Cond := match k with
  | 0 => k2_sels lw_privs
  | 1 => tables_1_1
  | 2 => tables_1_2
  | 3 => tables_1_3
  | 4 => tables_1_4
  | 5 => tables_1_5
  | 6 => tables_1_6
  | 7 => tables_1_7
  | 8 => tables_1_8
  | _ => tables_1_9
def gw_lkp (i : Nat) : Option Cond := (gw_tab (i / 1000))[i % 1000]?
def gw_is (i : Nat) (c : Cond) : Bool := decide (gw_lkp i = some c) && goodWord c
def gw_in1 (i : Nat) (c : Cond) : Bool := decide (gw_lkp i = some c) && gw_isn c
def gw_call (g : gw_Sig) (n : Nat) : Bool := decide (g.1.cls ≠ "java/lang/invoke/MethodHandle") && decide (g.1.cls ≠ "java/lang/invoke/VarHandle") && decide ((parseMethodDescriptor g.1.desc).map (fun d => d.parameters.length) = some n) && decide (g.2.2.1 ≤ 20)
def gw_lk (own : String) (nL : Nat) (rt : Option FieldType) (pc : Nat) (i : Instr) (an : List Nat) (iv : List Int32) (sg : List gw_Sig) : Bool := match i with
  | .aload_n k => decide (an = [k.val])
  | .aload k => decide (an = [k])
  | .iload_n k => decide (an = [k.val])
  | .iload k => decide (an = [k])
  | .astore_n k => decide (an = [k.val]) && decide (k.val < nL)
  | .astore k => decide (an = [k]) && decide (k < nL)
  | .istore_n k => decide (an = [k.val]) && decide (k.val < nL)
  | .istore k => decide (an = [k]) && decide (k < nL)
  | .iinc k n => decide (an = [k]) && decide (k < nL) && decide (iv = [Int32.ofInt n])
  | .iconst n => decide (iv = [Int32.ofInt n])
  | .bipush n => decide (iv = [(Int8.ofInt n).toInt32])
  | .sipush n => decide (iv = [(Int16.ofInt n).toInt32])
  | .ldc k => match an, iv with
    | [ti], [w] => gw_is ti (.constant own k w)
    | _, _ => false
  | .ldc_w k => match an, iv with
    | [ti], [w] => gw_is ti (.constant own k w)
    | _, _ => false
  | .ifCond _ off => match an with
    | [t] => decide ((pc : Int) + off = (t : Int))
    | _ => false
  | .if_icmp _ off => match an with
    | [t] => decide ((pc : Int) + off = (t : Int))
    | _ => false
  | .ifnull off => match an with
    | [t] => decide ((pc : Int) + off = (t : Int))
    | _ => false
  | .ifnonnull off => match an with
    | [t] => decide ((pc : Int) + off = (t : Int))
    | _ => false
  | .goto off => match an with
    | [t] => decide ((pc : Int) + off = (t : Int))
    | _ => false
  | .tableswitch dflt lo hi offs => match an, iv with
    | d :: ts, [w] => decide ((pc : Int) + dflt = (d : Int)) && decide (w.toInt = lo) && decide (offs.toList.map (fun o => (pc : Int) + o) = ts.map (fun t : Nat => (t : Int))) && decide (hi = lo + ts.length - 1) && decide (lo + ts.length < 1000) && decide (-1000 < lo)
    | _, _ => false
  | .getfield k => match an with
    | [ci, f, t, ti] => match vwCl[ci]? with
      | some q => decide (f < q.2.2) && decide (t = gw_ft (gw_ty ci f)) && gw_is ti (.fieldLink own k (q.2.1 f).1 (q.2.1 f).2.1 (q.2.1 f).2.2.1)
      | none => false
    | _ => false
  | .putfield k => match an with
    | [ci, f, t, ti] => match vwCl[ci]? with
      | some q => decide (f < q.2.2) && decide (t = gw_ft (gw_ty ci f)) && decide ((q.2.1 f).2.2.2 = decide (t = 1)) && decide (t = 1 → (q.2.1 f).1 = own) && gw_is ti (.fieldLink own k (q.2.1 f).1 (q.2.1 f).2.1 (q.2.1 f).2.2.1)
      | none => false
    | _ => false
  | .newarray ty => decide (ty = .int)
  | .anewarray k => match an with
    | [kd, t1, t2] => (decide (kd = 13) && gw_is t1 (.classLink own k RX1) && gw_in1 t2 (.arrayOver (.object RX1))) || (decide (kd = 14) && gw_is t1 (.classLink own k RX3) && gw_in1 t2 (.arrayOver (.object RX3)))
    | _ => false
  | .new k => match an with
    | [ci, t1, t2, t3] => match vwCl[ci]? with
      | some q => gw_is t1 (.classLink own k q.1) && gw_is t2 (.instantiable q.1 q.2.2) && gw_is t3 (.initialized q.1)
      | none => false
    | _ => false
  | .invokevirtual k => match an, sg with
    | [n, ci, t1, t2, t3, t4], [g] => match vwCl[ci]? with
      | some q => decide (g.1.cls = q.1) && gw_call g n && gw_is t1 (.methodLink own k g.1) && gw_is t2 (.instanceMethod g.1) && gw_is t3 (.selects q.1 g.1 g.1) && gw_is t4 (.initialized q.1)
      | none => false
    | _, _ => false
  | .invokestatic k => match an, sg with
    | [n, 0, t1, t2, t3, _], [g] => gw_call g n && gw_is t1 (.methodLink own k g.1) && gw_is t2 (.static g.1) && gw_is t3 (.initialized g.1.cls)
    | [n, 1, t1, t2, t3, _], [g] => gw_call g n && gw_in1 t1 (.methodLinkNest own k g.1 RX10) && gw_is t2 (.static g.1) && gw_is t3 (.initialized g.1.cls)
    | [5, 2, t1, t2, t3, t4], [] => gw_is t1 (.methodLink own k arraycopyName) && gw_is t2 (.native arraycopyName) && gw_is t3 (.static arraycopyName) && gw_is t4 (.initialized "java/lang/System")
    | _, _ => false
  | .invokespecial k => match an, sg with
    | [0, 2, t1, t2, t3, _], [] => gw_is t1 (.methodLink own k objectInit) && gw_is t2 (.instanceMethod objectInit) && gw_is t3 (.code objectInit ⟨#[0xb1]⟩ 1 none)
    | [n, 0, t1, t2, t3, _], [g] => gw_call g n && decide (g.1.name = "<init>") && decide (g.2.2.2 = none) && gw_is t1 (.methodLink own k g.1) && gw_is t2 (.instanceMethod g.1) && gw_is t3 (.initialized g.1.cls)
    | [n, 1, t1, t2, t3, _], [g] => gw_call g n && decide (g.1.name = "<init>") && decide (g.2.2.2 = none) && gw_in1 t1 (.methodLinkNest own k g.1 RX10) && gw_is t2 (.instanceMethod g.1) && gw_is t3 (.initialized g.1.cls)
    | _, _ => false
  | .ireturn => decide ((an = [0] ∧ rt = some .int) ∨ (an = [1] ∧ rt = some .boolean))
  | .lreturn => decide (rt = some .long)
  | .areturn => match rt with
    | some (.object _) => true
    | _ => false
  | .return_ => decide (rt = none)
  | _ => true
def gw_ini (nm : String) (i : Instr) (an : List Nat) : Bool := match i with
  | .putfield _ => decide (an.getD 2 0 = 1 → nm = "<init>")
  | _ => true
/-! ===== the pure machine is the machine ===== -/
theorem gw_cls {ci : Nat} {q : vw_C} (h : vwCl[ci]? = some q) : (∀ w ∈ u_ws q.1 q.2.1 q.2.2, w ∈ gw_tb) ∧ (∀ k, k < q.2.2 → parseFieldDescriptor (q.2.1 k).2.2.1 = some (gw_ty ci k)) ∧ (∀ a, a < q.2.2 → ∀ b, b < q.2.2 → a ≠ b → (q.2.1 a).2.1 ≠ (q.2.1 b).2.1) ∧ q.2.2 = gw_nf ci ∧ ci < 12 := by
  match ci, h with
  | 0, h => cases h; exact ⟨inX0, tyX0_ok, nmX0, rfl, by decide⟩
  | 1, h => cases h; exact ⟨inX1, tyX1_ok, nmX1, rfl, by decide⟩
  | 2, h => cases h; exact ⟨inX2, tyX2_ok, nmX2, rfl, by decide⟩
  | 3, h => cases h; exact ⟨inX3, tyX3_ok, nmX3, rfl, by decide⟩
  | 4, h => cases h; exact ⟨inX4, tyX4_ok, nmX4, rfl, by decide⟩
  | 5, h => cases h; exact ⟨inX5, tyX5_ok, nmX5, rfl, by decide⟩
  | 6, h => cases h; exact ⟨inX6, tyX6_ok, nmX6, rfl, by decide⟩
  | 7, h => cases h; exact ⟨inX7, tyX7_ok, nmX7, rfl, by decide⟩
  | 8, h => cases h; exact ⟨inX8, tyX8_ok, nmX8, rfl, by decide⟩
  | 9, h => cases h; exact ⟨inX9, tyX9_ok, nmX9, rfl, by decide⟩
  | 10, h => cases h; exact ⟨inX10, tyX10_ok, nmX10, rfl, by decide⟩
  | 11, h => cases h; exact ⟨inX11, tyX11_ok, nmX11, rfl, by decide⟩
  | n + 12, h => simp [vwCl] at h
theorem gw_cls_some {ci : Nat} (h : ci < 12) : ∃ q, vwCl[ci]? = some q := by
  have : ci < vwCl.length := h
  exact ⟨vwCl[ci], List.getElem?_eq_getElem this⟩
theorem gw_tab_in (k : Nat) : ∀ w ∈ gw_tab k, w ∈ lw_tbl := by
  intro w hw
  match k, hw with
  | 0, h => exact List.mem_append_left _ h
  | 1, h => exact List.mem_append_right _ (List.mem_append_left _ h)
  | 2, h => exact List.mem_append_right _ (List.mem_append_right _ (List.mem_append_left _ h))
  | 3, h => exact List.mem_append_right _ (List.mem_append_right _ (List.mem_append_right _ (List.mem_append_left _ h)))
  | 4, h => exact List.mem_append_right _ (List.mem_append_right _ (List.mem_append_right _ (List.mem_append_right _ (List.mem_append_left _ h))))
  | 5, h => exact List.mem_append_right _ (List.mem_append_right _ (List.mem_append_right _ (List.mem_append_right _ (List.mem_append_right _ (List.mem_append_left _ h)))))
  | 6, h => exact List.mem_append_right _ (List.mem_append_right _ (List.mem_append_right _ (List.mem_append_right _ (List.mem_append_right _ (List.mem_append_right _ (List.mem_append_left _ h))))))
  | 7, h => exact List.mem_append_right _ (List.mem_append_right _ (List.mem_append_right _ (List.mem_append_right _ (List.mem_append_right _ (List.mem_append_right _ (List.mem_append_right _ (List.mem_append_left _ h)))))))
  | 8, h => exact List.mem_append_right _ (List.mem_append_right _ (List.mem_append_right _ (List.mem_append_right _ (List.mem_append_right _ (List.mem_append_right _ (List.mem_append_right _ (List.mem_append_right _ (List.mem_append_left _ h))))))))
  | n + 9, h => exact List.mem_append_right _ (List.mem_append_right _ (List.mem_append_right _ (List.mem_append_right _ (List.mem_append_right _ (List.mem_append_right _ (List.mem_append_right _ (List.mem_append_right _ (List.mem_append_right _ h))))))))
theorem gw_lkp_in {i : Nat} {c : Cond} (h : gw_lkp i = some c) : c ∈ lw_tbl := gw_tab_in _ c (List.mem_of_getElem? h)
theorem gw_mem2 {i : Nat} {c : Cond} (h : gw_lkp i = some c) (hg : goodWord c = true) : c ∈ gw_tb := List.mem_filter.mpr ⟨gw_lkp_in h, hg⟩
theorem gw_is_spec {i : Nat} {c : Cond} (h : gw_is i c = true) : c ∈ gw_tb := by
  simp only [gw_is, Bool.and_eq_true, decide_eq_true_eq] at h
  exact gw_mem2 h.1 h.2
theorem gw_v_ref (x : gw_C) {r : Nat} (h : ¬ r = 0) : gw_v x (.ref r) = .ref (x.1 + r) := by
  cases r with
  | zero => exact absurd rfl h
  | succ r => rfl
theorem gw_v_int (x : gw_C) (v : Int32) : gw_v x (.int v) = .int v := rfl
theorem gw_v_cat (x : gw_C) {v : Value} (h : v.category = 1) : (gw_v x v).category = 1 := by
  cases v with
  | ref r => cases r <;> rfl
  | long v => cases h
  | double v => cases h
  | _ => rfl
theorem gw_in_vp {i : Int32} {n : Nat} (h : gw_in i n) : vp_in i n := by
  rintro (h1 | h1)
  · exact absurd h.1 (Int32.not_le.mpr h1)
  · exact absurd h.2 (Nat.not_lt.mpr h1)
theorem gw_len_set : ∀ (l : List Value) (k : Nat) (v : Value), (gw_set l k v).length = l.length
  | [], _, _ => rfl
  | _ :: _, 0, _ => rfl
  | _ :: l, n + 1, v => by simp [gw_set, gw_len_set l n v]
theorem gw_nth_set : ∀ (l : List Value) (k : Nat) (v : Value) (j : Nat), k < l.length → gw_nth (gw_set l k v) j = if j = k then v else gw_nth l j
  | [], _, _, _, h => by simp at h
  | _ :: l, 0, v, 0, _ => by simp [gw_set, gw_nth]
  | _ :: l, 0, v, j + 1, _ => by simp [gw_set, gw_nth]
  | _ :: l, n + 1, v, 0, _ => by simp [gw_set, gw_nth]
  | _ :: l, n + 1, v, j + 1, h => by
    have := gw_nth_set l n v j (by simpa using h)
    simp [gw_set, gw_nth, this]
theorem gw_kd_ok {x : gw_C} {S : gw_S} {μ : gw_M} {H : Heap} {locs : List Loc} (h : gw_rep x S μ H locs) {a k : Nat} (hk : gw_kd S a = k) (hl : k < 15) : 1 ≤ a ∧ a ≤ gw_nn S ∧ gw_cell x S μ a H ∧ gw_v x (.ref a) = .ref (x.1 + a) := by
  have h1 := h.1 a (by omega)
  exact ⟨h1.1, h1.2, h.2.1 a h1.1 h1.2, gw_v_ref x (by omega)⟩
theorem gw_cell_kept {x : gw_C} {S S' : gw_S} {μ μ' : gw_M} {b : Nat} {H H1 : Heap} (h : gw_cell x S μ b H) (hq : H1[x.1 + b]? = H[x.1 + b]?) (hk : gw_kd S' b = gw_kd S b) (hl : gw_ln S' b = gw_ln S b) (hr : ∀ j, gw_rf S' b j = gw_rf S b j) (hm : ∀ j, μ' b j = μ b j) : gw_cell x S' μ' b H1 := by
  have e1 : gw_fld x S' μ' b = gw_fld x S μ b := by
    funext c k
    simp only [gw_fld, hr, hm]
  unfold gw_cell at *
  simp only [hk, hl, hr, hm, hq, e1]
  exact ⟨h.1, h.2.1, h.2.2.1, fun q hv => (h.2.2.2 q hv).kept hq⟩
/-- one cell was written -/
theorem gw_rep_store {x : gw_C} {S S' : gw_S} {μ μ' : gw_M} {a : Nat} {H H1 : Heap} {locs locs1 : List Loc} (h : gw_rep x S μ H locs) (z : H1.size = H.size) (oq : ∀ q : Nat, q ≠ x.1 + a → H1[q]? = H[q]?) (ha : 1 ≤ a)
    (hn : S'.2 = S.2) (hr : ∀ b, b ≠ a → ∀ j, gw_rf S' b j = gw_rf S b j) (hm : ∀ b, b ≠ a → ∀ j, μ' b j = μ b j) (hc : gw_cell x S' μ' a H1) (hl : ∀ q ∈ locs1, q ∈ locs ∨ q.base = x.1 + a) : gw_rep x S' μ' H1 locs1 := by
  obtain ⟨h1, h2, h3, h4, h5, h6⟩ := h
  have e1 : ∀ b, gw_kd S' b = gw_kd S b := fun b => by simp only [gw_kd, hn]
  have e2 : ∀ b, gw_ln S' b = gw_ln S b := fun b => by simp only [gw_ln, hn]
  have e3 : gw_nn S' = gw_nn S := by simp only [gw_nn, hn]
  refine ⟨fun b hb => ?_, fun b hb1 hb2 => ?_, by rw [z, h3, e3], h4, fun q hq => by rw [oq q (by omega)]; exact h5 q hq, fun q hq => ?_⟩
  · rw [e3]; exact h1 b (by rw [← e1]; exact hb)
  · by_cases hba : b = a
    · subst hba; exact hc
    · exact gw_cell_kept (h2 b hb1 (by rw [← e3]; exact hb2)) (oq _ (by omega)) (e1 b) (e2 b) (hr b hba) (hm b hba)
  · rcases hl q hq with h | h
    · exact h6 q h
    · rw [h]; omega
/-- one cell came -/
theorem gw_rep_new {x : gw_C} {S : gw_S} {μ : gw_M} {kd ln : Nat} {H H1 : Heap} {locs : List Loc} (h : gw_rep x S μ H locs) (z : H1.size = H.size + 1) (oq : ∀ q : Nat, q < H.size → H1[q]? = H[q]?)
    (hc : gw_cell x (gw_new S kd ln) (gw_row μ (gw_nn S + 1) (fun _ => 0)) (gw_nn S + 1) H1) : gw_rep x (gw_new S kd ln) (gw_row μ (gw_nn S + 1) (fun _ => 0)) H1 locs := by
  obtain ⟨h1, h2, h3, h4, h5, h6⟩ := h
  have e3 : gw_nn (gw_new S kd ln) = gw_nn S + 1 := rfl
  refine ⟨fun b hb => ?_, fun b hb1 hb2 => ?_, by rw [z, h3, e3]; omega, h4, fun q hq => by rw [oq q (by omega)]; exact h5 q hq, h6⟩
  · rw [e3]
    by_cases hb1 : b = gw_nn S + 1
    · omega
    · have : gw_kd S b < 15 := by
        have e : gw_kd (gw_new S kd ln) b = gw_kd S b := by simp only [gw_kd, gw_new]; exact if_neg hb1
        rw [← e]; exact hb
      have := h1 b this
      omega
  · by_cases hba : b = gw_nn S + 1
    · subst hba; exact hc
    · rw [e3] at hb2
      refine gw_cell_kept (h2 b hb1 (by omega)) (oq _ (by omega)) ?_ ?_ (fun j => ?_) (fun j => ?_)
      · simp only [gw_kd, gw_new]; exact if_neg hba
      · simp only [gw_ln, gw_new]; exact if_neg hba
      · simp only [gw_rf, gw_new]; exact if_neg hba
      · simp only [gw_row]; rw [if_neg hba]
theorem gw_kk_same {x : gw_C} {u U : State} (hvm : u.vm = U.vm) (h : gw_kk x u) : gw_kk x U := by
  obtain ⟨h1, ⟨scr, a1, a2, a3⟩, h3, h4⟩ := h
  have ha : u.vm.Alike U.vm := by rw [hvm]; exact Vm.Alike.refl U.vm
  refine ⟨va_K.moved ha h1, ⟨scr, a1, State.isArrayOf_alike ha a2, a3⟩, h3, fun w hw => ?_⟩
  have hm := h4 w hw
  have := (List.mem_filter.mp hw).2
  cases w with
  | methodLinkNest a b c d => exact va_Nw.same rfl hvm hm
  | arrayOver ty =>
    cases ty with
    | object C => exact va_AO.moved ha hm
    | _ => simp [gw_isn] at this
  | _ => simp [gw_isn] at this
theorem gw_kk_moved {x : gw_C} {u U : State} (hW : u.WarmedH U.vm) (h : gw_kk x u) : gw_kk x U := by
  obtain ⟨h1, ⟨scr, a1, a2, a3⟩, h3, h4⟩ := h
  refine ⟨va_K.moved hW.alike h1, ⟨scr, a1, State.isArrayOf_alike hW.alike a2, a3⟩, h3, fun w hw => ?_⟩
  have hm := h4 w hw
  have := (List.mem_filter.mp hw).2
  cases w with
  | methodLinkNest a b c d => exact va_Nw.warmM hW hm
  | arrayOver ty =>
    cases ty with
    | object C => exact va_AO.moved hW.alike hm
    | _ => simp [gw_isn] at this
  | _ => simp [gw_isn] at this
theorem gw_in1_spec {i : Nat} {c : Cond} (h : gw_in1 i c = true) : c ∈ gw_nest := by
  simp only [gw_in1, Bool.and_eq_true, decide_eq_true_eq] at h
  exact List.mem_filter.mpr ⟨gw_lkp_in h.1, h.2⟩
/-- the locals that a row of the kit reads -/
def gw_lvl (x : gw_C) (lv : List Value) : List (Nat × Value) := (List.range lv.length).filterMap (fun i => if gw_nth lv i = .retAddr 0 then none else some (i, gw_v x (gw_nth lv i)))
theorem gw_nth_big : ∀ (l : List Value) (k : Nat), l.length ≤ k → gw_nth l k = .retAddr 0
  | [], _, _ => rfl
  | _ :: _, 0, h => by simp at h
  | _ :: l, k + 1, h => gw_nth_big l k (by simpa using h)
theorem gw_has_lv {x : gw_C} {ls : Array Slot} {nL : Nat} {lv : List Value} (h : gw_has x ls nL lv) : lv_has ls nL (gw_lvl x lv) := by
  obtain ⟨h1, h2, h3, h4, h5⟩ := h
  refine ⟨h1, h2, fun q hq => ?_⟩
  obtain ⟨i, hi, he⟩ := List.mem_filterMap.mp hq
  by_cases hn : gw_nth lv i = .retAddr 0
  · simp [hn] at he
  · simp only [hn, if_false, Option.some.injEq] at he
    rw [← he]
    exact h5 i hn
theorem gw_has_set {x : gw_C} {ls' : Array Slot} {nL : Nat} {lv : List Value} {k : Nat} {v : Value} {ls : Array Slot} (h : gw_has x ls nL lv) (hk : k < nL) (hv : v.category = 1)
    (h' : lv_has ls' nL ((k, gw_v x v) :: (gw_lvl x lv).filter (fun q => !(q.1 == k) && !(q.1 + 1 == k && q.2.category == 2)))) : gw_has x ls' nL (gw_set lv k v) := by
  obtain ⟨h1, h2, h3, h4, h5⟩ := h
  obtain ⟨g1, g2, g3⟩ := h'
  refine ⟨g1, g2, by rw [gw_len_set]; exact h3, fun i => ?_, fun i hi => ?_⟩
  · rw [gw_nth_set lv k v i (by omega)]
    by_cases hik : i = k
    · rw [if_pos hik]; exact hv
    · rw [if_neg hik]; exact h4 i
  · rw [gw_nth_set lv k v i (by omega)] at hi ⊢
    by_cases hik : i = k
    · rw [if_pos hik]
      subst hik
      exact g3 _ List.mem_cons_self
    · rw [if_neg hik] at hi ⊢
      refine g3 (i, gw_v x (gw_nth lv i)) (List.mem_cons_of_mem _ (List.mem_filter.mpr ⟨List.mem_filterMap.mpr ⟨i, List.mem_range.mpr ?_, by simp [hi]⟩, ?_⟩))
      · rcases Nat.lt_or_ge i lv.length with q | q
        · exact q
        · exact absurd (gw_nth_big lv i q) hi
      · have hc : (gw_v x (gw_nth lv i)).category = 1 := gw_v_cat x (h4 i)
        simp [hik, hc]
end
section
/-! ===== soundness, an instruction at a time ===== -/
def gw_len (n : Nat) : Instr → Nat
  | .aload _ => 2
  | .iload _ => 2
  | .astore _ => 2
  | .istore _ => 2
  | .bipush _ => 2
  | .ldc _ => 2
  | .newarray _ => 2
  | .sipush _ => 3
  | .ldc_w _ => 3
  | .iinc _ _ => 3
  | .ifCond _ _ => 3
  | .if_icmp _ _ => 3
  | .ifnull _ => 3
  | .ifnonnull _ => 3
  | .goto _ => 3
  | .getfield _ => 3
  | .putfield _ => 3
  | .anewarray _ => 3
  | .new _ => 3
  | .invokevirtual _ => 3
  | .invokestatic _ => 3
  | .invokespecial _ => 3
  | .tableswitch _ _ _ _ => n
  | _ => 1
def gw_at (p : Program) (l : Launch) (e : Env) (R : Room) (s : State) (m : MethodId) (args : Array Value) (below : List Frame) (meth : Method) (c : Code) (Z : State → Prop) (x : gw_C) (nL pc : Nat) : gw_Kt := fun lv st S μ cc ss =>
  ∀ (H : Heap) (locs : List Loc) (ls : Array Slot), gw_rep x S μ H locs → gw_has x ls nL lv → W p l e R s m args below meth c H locs cc ss Z (F0 m pc ls (st.map (gw_v x)))
abbrev gw_fx (p : Program) (s : State) (m : MethodId) (args : Array Value) (c : Code) (x : gw_C) (nL : Nat) (cb : ByteArray) (own : String) : Prop :=
  p.tables.exec = Jvm.exec ∧ c.code = cb ∧ c.maxLocals = nL ∧ s.vm.findClass own = some m.cls ∧ (∀ w ∈ gw_tb, w.before args s = true) ∧ gw_kk x s
section SND
variable {p : Program} {l : Launch} {e : Env} {R : Room} {s : State} {m : MethodId} {args : Array Value} {below : List Frame} {meth : Method} {c : Code} {Z : State → Prop} {x : gw_C} {nL : Nat} {cb : ByteArray} {own : String}
variable {ok : gw_Ok} {mc ms pc : Nat} {Q : Option Value → gw_S → gw_M → Prop} {K : Nat → gw_Kt} {an : List Nat} {iv : List Int32} {sg : List gw_Sig} {lv st : List Value} {S : gw_S} {μ : gw_M} {cc ss : Nat} {N : gw_Kt} {rt : Option FieldType}
theorem gw_s_iadd (F : gw_fx p s m args c x nL cb own) (hd : decode cb pc = .ok (.iadd, 1)) (hlk : gw_lk own nL rt pc (.iadd) an iv sg = true) (h : gw_step ok x mc ms Q K (.iadd) an iv sg lv st S μ cc ss N) (hN : ∀ lv st S μ cc ss, N lv st S μ cc ss → gw_at p l e R s m args below meth c Z x nL (pc + 1) lv st S μ cc ss) (hK : ∀ t lv st S μ cc ss, K t lv st S μ cc ss → gw_at p l e R s m args below meth c Z x nL t lv st S μ cc ss) : gw_at p l e R s m args below meth c Z x nL pc lv st S μ cc ss := by
  simp only [gw_step] at h
  split at h
  · rename_i b a t
    intro H locs ls hr hl
    exact lv_iadd F.1 F.2.1 hd (hN _ _ _ _ _ _ h H locs ls hr hl)
  · exact h.elim
theorem gw_s_isub (F : gw_fx p s m args c x nL cb own) (hd : decode cb pc = .ok (.isub, 1)) (hlk : gw_lk own nL rt pc (.isub) an iv sg = true) (h : gw_step ok x mc ms Q K (.isub) an iv sg lv st S μ cc ss N) (hN : ∀ lv st S μ cc ss, N lv st S μ cc ss → gw_at p l e R s m args below meth c Z x nL (pc + 1) lv st S μ cc ss) (hK : ∀ t lv st S μ cc ss, K t lv st S μ cc ss → gw_at p l e R s m args below meth c Z x nL t lv st S μ cc ss) : gw_at p l e R s m args below meth c Z x nL pc lv st S μ cc ss := by
  simp only [gw_step] at h
  split at h
  · rename_i b a t
    intro H locs ls hr hl
    exact lv_isub F.1 F.2.1 hd (hN _ _ _ _ _ _ h H locs ls hr hl)
  · exact h.elim
theorem gw_s_imul (F : gw_fx p s m args c x nL cb own) (hd : decode cb pc = .ok (.imul, 1)) (hlk : gw_lk own nL rt pc (.imul) an iv sg = true) (h : gw_step ok x mc ms Q K (.imul) an iv sg lv st S μ cc ss N) (hN : ∀ lv st S μ cc ss, N lv st S μ cc ss → gw_at p l e R s m args below meth c Z x nL (pc + 1) lv st S μ cc ss) (hK : ∀ t lv st S μ cc ss, K t lv st S μ cc ss → gw_at p l e R s m args below meth c Z x nL t lv st S μ cc ss) : gw_at p l e R s m args below meth c Z x nL pc lv st S μ cc ss := by
  simp only [gw_step] at h
  split at h
  · rename_i b a t
    intro H locs ls hr hl
    exact lv_imul F.1 F.2.1 hd (hN _ _ _ _ _ _ h H locs ls hr hl)
  · exact h.elim
theorem gw_s_iand (F : gw_fx p s m args c x nL cb own) (hd : decode cb pc = .ok (.iand, 1)) (hlk : gw_lk own nL rt pc (.iand) an iv sg = true) (h : gw_step ok x mc ms Q K (.iand) an iv sg lv st S μ cc ss N) (hN : ∀ lv st S μ cc ss, N lv st S μ cc ss → gw_at p l e R s m args below meth c Z x nL (pc + 1) lv st S μ cc ss) (hK : ∀ t lv st S μ cc ss, K t lv st S μ cc ss → gw_at p l e R s m args below meth c Z x nL t lv st S μ cc ss) : gw_at p l e R s m args below meth c Z x nL pc lv st S μ cc ss := by
  simp only [gw_step] at h
  split at h
  · rename_i b a t
    intro H locs ls hr hl
    exact lv_iand F.1 F.2.1 hd (hN _ _ _ _ _ _ h H locs ls hr hl)
  · exact h.elim
theorem gw_s_ior (F : gw_fx p s m args c x nL cb own) (hd : decode cb pc = .ok (.ior, 1)) (hlk : gw_lk own nL rt pc (.ior) an iv sg = true) (h : gw_step ok x mc ms Q K (.ior) an iv sg lv st S μ cc ss N) (hN : ∀ lv st S μ cc ss, N lv st S μ cc ss → gw_at p l e R s m args below meth c Z x nL (pc + 1) lv st S μ cc ss) (hK : ∀ t lv st S μ cc ss, K t lv st S μ cc ss → gw_at p l e R s m args below meth c Z x nL t lv st S μ cc ss) : gw_at p l e R s m args below meth c Z x nL pc lv st S μ cc ss := by
  simp only [gw_step] at h
  split at h
  · rename_i b a t
    intro H locs ls hr hl
    exact lv_ior F.1 F.2.1 hd (hN _ _ _ _ _ _ h H locs ls hr hl)
  · exact h.elim
theorem gw_s_ixor (F : gw_fx p s m args c x nL cb own) (hd : decode cb pc = .ok (.ixor, 1)) (hlk : gw_lk own nL rt pc (.ixor) an iv sg = true) (h : gw_step ok x mc ms Q K (.ixor) an iv sg lv st S μ cc ss N) (hN : ∀ lv st S μ cc ss, N lv st S μ cc ss → gw_at p l e R s m args below meth c Z x nL (pc + 1) lv st S μ cc ss) (hK : ∀ t lv st S μ cc ss, K t lv st S μ cc ss → gw_at p l e R s m args below meth c Z x nL t lv st S μ cc ss) : gw_at p l e R s m args below meth c Z x nL pc lv st S μ cc ss := by
  simp only [gw_step] at h
  split at h
  · rename_i b a t
    intro H locs ls hr hl
    exact lv_ixor F.1 F.2.1 hd (hN _ _ _ _ _ _ h H locs ls hr hl)
  · exact h.elim
theorem gw_s_ishl (F : gw_fx p s m args c x nL cb own) (hd : decode cb pc = .ok (.ishl, 1)) (hlk : gw_lk own nL rt pc (.ishl) an iv sg = true) (h : gw_step ok x mc ms Q K (.ishl) an iv sg lv st S μ cc ss N) (hN : ∀ lv st S μ cc ss, N lv st S μ cc ss → gw_at p l e R s m args below meth c Z x nL (pc + 1) lv st S μ cc ss) (hK : ∀ t lv st S μ cc ss, K t lv st S μ cc ss → gw_at p l e R s m args below meth c Z x nL t lv st S μ cc ss) : gw_at p l e R s m args below meth c Z x nL pc lv st S μ cc ss := by
  simp only [gw_step] at h
  split at h
  · rename_i b a t
    intro H locs ls hr hl
    exact lv_ishl F.1 F.2.1 hd (hN _ _ _ _ _ _ h H locs ls hr hl)
  · exact h.elim
theorem gw_s_ishr (F : gw_fx p s m args c x nL cb own) (hd : decode cb pc = .ok (.ishr, 1)) (hlk : gw_lk own nL rt pc (.ishr) an iv sg = true) (h : gw_step ok x mc ms Q K (.ishr) an iv sg lv st S μ cc ss N) (hN : ∀ lv st S μ cc ss, N lv st S μ cc ss → gw_at p l e R s m args below meth c Z x nL (pc + 1) lv st S μ cc ss) (hK : ∀ t lv st S μ cc ss, K t lv st S μ cc ss → gw_at p l e R s m args below meth c Z x nL t lv st S μ cc ss) : gw_at p l e R s m args below meth c Z x nL pc lv st S μ cc ss := by
  simp only [gw_step] at h
  split at h
  · rename_i b a t
    intro H locs ls hr hl
    exact lv_ishr F.1 F.2.1 hd (hN _ _ _ _ _ _ h H locs ls hr hl)
  · exact h.elim
theorem gw_s_iushr (F : gw_fx p s m args c x nL cb own) (hd : decode cb pc = .ok (.iushr, 1)) (hlk : gw_lk own nL rt pc (.iushr) an iv sg = true) (h : gw_step ok x mc ms Q K (.iushr) an iv sg lv st S μ cc ss N) (hN : ∀ lv st S μ cc ss, N lv st S μ cc ss → gw_at p l e R s m args below meth c Z x nL (pc + 1) lv st S μ cc ss) (hK : ∀ t lv st S μ cc ss, K t lv st S μ cc ss → gw_at p l e R s m args below meth c Z x nL t lv st S μ cc ss) : gw_at p l e R s m args below meth c Z x nL pc lv st S μ cc ss := by
  simp only [gw_step] at h
  split at h
  · rename_i b a t
    intro H locs ls hr hl
    exact lv_iushr F.1 F.2.1 hd rfl (hN _ _ _ _ _ _ h H locs ls hr hl)
  · exact h.elim
theorem gw_s_idiv (F : gw_fx p s m args c x nL cb own) (hd : decode cb pc = .ok (.idiv, 1)) (hlk : gw_lk own nL rt pc (.idiv) an iv sg = true) (h : gw_step ok x mc ms Q K (.idiv) an iv sg lv st S μ cc ss N) (hN : ∀ lv st S μ cc ss, N lv st S μ cc ss → gw_at p l e R s m args below meth c Z x nL (pc + 1) lv st S μ cc ss) (hK : ∀ t lv st S μ cc ss, K t lv st S μ cc ss → gw_at p l e R s m args below meth c Z x nL t lv st S μ cc ss) : gw_at p l e R s m args below meth c Z x nL pc lv st S μ cc ss := by
  simp only [gw_step] at h
  split at h
  · rename_i b a t
    intro H locs ls hr hl
    exact lv_idiv F.1 F.2.1 hd h.1 (hN _ _ _ _ _ _ h.2 H locs ls hr hl)
  · exact h.elim
theorem gw_s_irem (F : gw_fx p s m args c x nL cb own) (hd : decode cb pc = .ok (.irem, 1)) (hlk : gw_lk own nL rt pc (.irem) an iv sg = true) (h : gw_step ok x mc ms Q K (.irem) an iv sg lv st S μ cc ss N) (hN : ∀ lv st S μ cc ss, N lv st S μ cc ss → gw_at p l e R s m args below meth c Z x nL (pc + 1) lv st S μ cc ss) (hK : ∀ t lv st S μ cc ss, K t lv st S μ cc ss → gw_at p l e R s m args below meth c Z x nL t lv st S μ cc ss) : gw_at p l e R s m args below meth c Z x nL pc lv st S μ cc ss := by
  simp only [gw_step] at h
  split at h
  · rename_i b a t
    intro H locs ls hr hl
    exact lv_irem F.1 F.2.1 hd h.1 (hN _ _ _ _ _ _ h.2 H locs ls hr hl)
  · exact h.elim
theorem gw_s_lcmp (F : gw_fx p s m args c x nL cb own) (hd : decode cb pc = .ok (.lcmp, 1)) (hlk : gw_lk own nL rt pc (.lcmp) an iv sg = true) (h : gw_step ok x mc ms Q K (.lcmp) an iv sg lv st S μ cc ss N) (hN : ∀ lv st S μ cc ss, N lv st S μ cc ss → gw_at p l e R s m args below meth c Z x nL (pc + 1) lv st S μ cc ss) (hK : ∀ t lv st S μ cc ss, K t lv st S μ cc ss → gw_at p l e R s m args below meth c Z x nL t lv st S μ cc ss) : gw_at p l e R s m args below meth c Z x nL pc lv st S μ cc ss := by
  simp only [gw_step] at h
  split at h
  · rename_i b a t
    intro H locs ls hr hl
    exact W.lcmp F.1 F.2.1 hd (hN _ _ _ _ _ _ h H locs ls hr hl)
  · exact h.elim
theorem gw_s_dup (F : gw_fx p s m args c x nL cb own) (hd : decode cb pc = .ok (.dup, 1)) (hlk : gw_lk own nL rt pc (.dup) an iv sg = true) (h : gw_step ok x mc ms Q K (.dup) an iv sg lv st S μ cc ss N) (hN : ∀ lv st S μ cc ss, N lv st S μ cc ss → gw_at p l e R s m args below meth c Z x nL (pc + 1) lv st S μ cc ss) (hK : ∀ t lv st S μ cc ss, K t lv st S μ cc ss → gw_at p l e R s m args below meth c Z x nL t lv st S μ cc ss) : gw_at p l e R s m args below meth c Z x nL pc lv st S μ cc ss := by
  simp only [gw_step] at h
  split at h
  · rename_i a t
    intro H locs ls hr hl
    exact lv_dup F.1 F.2.1 hd rfl (hN _ _ _ _ _ _ h H locs ls hr hl)
  · rename_i a t
    intro H locs ls hr hl
    exact lv_dup F.1 F.2.1 hd (gw_v_cat x rfl) (hN _ _ _ _ _ _ h H locs ls hr hl)
  · exact h.elim
theorem gw_s_dup2 (F : gw_fx p s m args c x nL cb own) (hd : decode cb pc = .ok (.dup2, 1)) (hlk : gw_lk own nL rt pc (.dup2) an iv sg = true) (h : gw_step ok x mc ms Q K (.dup2) an iv sg lv st S μ cc ss N) (hN : ∀ lv st S μ cc ss, N lv st S μ cc ss → gw_at p l e R s m args below meth c Z x nL (pc + 1) lv st S μ cc ss) (hK : ∀ t lv st S μ cc ss, K t lv st S μ cc ss → gw_at p l e R s m args below meth c Z x nL t lv st S μ cc ss) : gw_at p l e R s m args below meth c Z x nL pc lv st S μ cc ss := by
  simp only [gw_step] at h
  split at h
  · rename_i b a t
    intro H locs ls hr hl
    exact lv_dup2_11 F.1 F.2.1 hd rfl (gw_v_cat x rfl) (hN _ _ _ _ _ _ h H locs ls hr hl)
  · exact h.elim
theorem gw_s_pop (F : gw_fx p s m args c x nL cb own) (hd : decode cb pc = .ok (.pop, 1)) (hlk : gw_lk own nL rt pc (.pop) an iv sg = true) (h : gw_step ok x mc ms Q K (.pop) an iv sg lv st S μ cc ss N) (hN : ∀ lv st S μ cc ss, N lv st S μ cc ss → gw_at p l e R s m args below meth c Z x nL (pc + 1) lv st S μ cc ss) (hK : ∀ t lv st S μ cc ss, K t lv st S μ cc ss → gw_at p l e R s m args below meth c Z x nL t lv st S μ cc ss) : gw_at p l e R s m args below meth c Z x nL pc lv st S μ cc ss := by
  simp only [gw_step] at h
  split at h
  · rename_i a t
    intro H locs ls hr hl
    exact lv_pop F.1 F.2.1 hd rfl (hN _ _ _ _ _ _ h H locs ls hr hl)
  · rename_i a t
    intro H locs ls hr hl
    exact lv_pop F.1 F.2.1 hd (gw_v_cat x rfl) (hN _ _ _ _ _ _ h H locs ls hr hl)
  · exact h.elim
variable {k : Int}
theorem gw_s_iconst (F : gw_fx p s m args c x nL cb own) (hd : decode cb pc = .ok (.iconst k, 1)) (hlk : gw_lk own nL rt pc (.iconst k) an iv sg = true) (h : gw_step ok x mc ms Q K (.iconst k) an iv sg lv st S μ cc ss N) (hN : ∀ lv st S μ cc ss, N lv st S μ cc ss → gw_at p l e R s m args below meth c Z x nL (pc + 1) lv st S μ cc ss) (hK : ∀ t lv st S μ cc ss, K t lv st S μ cc ss → gw_at p l e R s m args below meth c Z x nL t lv st S μ cc ss) : gw_at p l e R s m args below meth c Z x nL pc lv st S μ cc ss := by
  simp only [gw_step] at h
  split at h
  · rename_i w
    intro H locs ls hr hl
    simp only [gw_lk, decide_eq_true_eq, List.cons.injEq, and_true] at hlk
    exact lv_iconst F.1 F.2.1 hd hlk.symm (hN _ _ _ _ _ _ h H locs ls hr hl)
  · exact h.elim

theorem gw_s_bipush (F : gw_fx p s m args c x nL cb own) (hd : decode cb pc = .ok (.bipush k, 2)) (hlk : gw_lk own nL rt pc (.bipush k) an iv sg = true) (h : gw_step ok x mc ms Q K (.bipush k) an iv sg lv st S μ cc ss N) (hN : ∀ lv st S μ cc ss, N lv st S μ cc ss → gw_at p l e R s m args below meth c Z x nL (pc + 2) lv st S μ cc ss) (hK : ∀ t lv st S μ cc ss, K t lv st S μ cc ss → gw_at p l e R s m args below meth c Z x nL t lv st S μ cc ss) : gw_at p l e R s m args below meth c Z x nL pc lv st S μ cc ss := by
  simp only [gw_step] at h
  split at h
  · rename_i w
    intro H locs ls hr hl
    simp only [gw_lk, decide_eq_true_eq, List.cons.injEq, and_true] at hlk
    exact lv_bipush F.1 F.2.1 hd hlk.symm (hN _ _ _ _ _ _ h H locs ls hr hl)
  · exact h.elim

theorem gw_s_sipush (F : gw_fx p s m args c x nL cb own) (hd : decode cb pc = .ok (.sipush k, 3)) (hlk : gw_lk own nL rt pc (.sipush k) an iv sg = true) (h : gw_step ok x mc ms Q K (.sipush k) an iv sg lv st S μ cc ss N) (hN : ∀ lv st S μ cc ss, N lv st S μ cc ss → gw_at p l e R s m args below meth c Z x nL (pc + 3) lv st S μ cc ss) (hK : ∀ t lv st S μ cc ss, K t lv st S μ cc ss → gw_at p l e R s m args below meth c Z x nL t lv st S μ cc ss) : gw_at p l e R s m args below meth c Z x nL pc lv st S μ cc ss := by
  simp only [gw_step] at h
  split at h
  · rename_i w
    intro H locs ls hr hl
    simp only [gw_lk, decide_eq_true_eq, List.cons.injEq, and_true] at hlk
    exact lv_sipush F.1 F.2.1 hd hlk.symm (hN _ _ _ _ _ _ h H locs ls hr hl)
  · exact h.elim
variable {j : Nat}
theorem gw_s_ldc (F : gw_fx p s m args c x nL cb own) (hd : decode cb pc = .ok (.ldc j, 2)) (hlk : gw_lk own nL rt pc (.ldc j) an iv sg = true) (h : gw_step ok x mc ms Q K (.ldc j) an iv sg lv st S μ cc ss N) (hN : ∀ lv st S μ cc ss, N lv st S μ cc ss → gw_at p l e R s m args below meth c Z x nL (pc + 2) lv st S μ cc ss) (hK : ∀ t lv st S μ cc ss, K t lv st S μ cc ss → gw_at p l e R s m args below meth c Z x nL t lv st S μ cc ss) : gw_at p l e R s m args below meth c Z x nL pc lv st S μ cc ss := by
  simp only [gw_step] at h
  simp only [gw_lk] at hlk
  split at h
  · split at hlk
    · rename_i heq
      cases heq
      intro H locs ls hr hl
      exact lv_ldc F.1 F.2.1 F.2.2.2.1 (F.2.2.2.2.1 _ (gw_is_spec hlk)) hd (hN _ _ _ _ _ _ h H locs ls hr hl)
    · cases hlk
  · exact h.elim
theorem gw_s_ldc_w (F : gw_fx p s m args c x nL cb own) (hd : decode cb pc = .ok (.ldc_w j, 3)) (hlk : gw_lk own nL rt pc (.ldc_w j) an iv sg = true) (h : gw_step ok x mc ms Q K (.ldc_w j) an iv sg lv st S μ cc ss N) (hN : ∀ lv st S μ cc ss, N lv st S μ cc ss → gw_at p l e R s m args below meth c Z x nL (pc + 3) lv st S μ cc ss) (hK : ∀ t lv st S μ cc ss, K t lv st S μ cc ss → gw_at p l e R s m args below meth c Z x nL t lv st S μ cc ss) : gw_at p l e R s m args below meth c Z x nL pc lv st S μ cc ss := by
  simp only [gw_step] at h
  simp only [gw_lk] at hlk
  split at h
  · split at hlk
    · rename_i heq
      cases heq
      intro H locs ls hr hl
      exact lv_ldcw F.1 F.2.1 F.2.2.2.1 (F.2.2.2.2.1 _ (gw_is_spec hlk)) hd (hN _ _ _ _ _ _ h H locs ls hr hl)
    · cases hlk
  · exact h.elim
variable {jn : Fin 4}
theorem gw_s_aload_n (F : gw_fx p s m args c x nL cb own) (hd : decode cb pc = .ok (.aload_n jn, 1)) (hlk : gw_lk own nL rt pc (.aload_n jn) an iv sg = true) (h : gw_step ok x mc ms Q K (.aload_n jn) an iv sg lv st S μ cc ss N) (hN : ∀ lv st S μ cc ss, N lv st S μ cc ss → gw_at p l e R s m args below meth c Z x nL (pc + 1) lv st S μ cc ss) (hK : ∀ t lv st S μ cc ss, K t lv st S μ cc ss → gw_at p l e R s m args below meth c Z x nL t lv st S μ cc ss) : gw_at p l e R s m args below meth c Z x nL pc lv st S μ cc ss := by
  simp only [gw_step] at h
  simp only [gw_lk, decide_eq_true_eq] at hlk
  subst hlk
  dsimp only at h
  cases hv : gw_nth lv jn.val with
  | ref v =>
    rw [hv] at h
    intro H locs ls hr hl
    have h5 := hl.2.2.2.2 jn.val (by rw [hv]; exact fun q => by cases q)
    rw [hv] at h5
    cases v with
    | zero => exact lv_aload_nN F.1 F.2.1 hd rfl h5 (hN _ _ _ _ _ _ h H locs ls hr hl)
    | succ v => exact lv_aload_n F.1 F.2.1 hd rfl h5 (hN _ _ _ _ _ _ h H locs ls hr hl)
  | retAddr v =>
    rw [hv] at h
    match v, hv, h with
    | 1, hv, h =>
      intro H locs ls hr hl
      have h5 := hl.2.2.2.2 jn.val (by rw [hv]; exact fun q => by cases q)
      rw [hv] at h5
      exact lv_aload_n F.1 F.2.1 hd rfl h5 (hN _ _ _ _ _ _ h H locs ls hr hl)
    | 0, _, h => exact h.elim
    | _ + 2, _, h => exact h.elim
  | _ => rw [hv] at h; exact h.elim
theorem gw_s_aload (F : gw_fx p s m args c x nL cb own) (hd : decode cb pc = .ok (.aload j, 2)) (hlk : gw_lk own nL rt pc (.aload j) an iv sg = true) (h : gw_step ok x mc ms Q K (.aload j) an iv sg lv st S μ cc ss N) (hN : ∀ lv st S μ cc ss, N lv st S μ cc ss → gw_at p l e R s m args below meth c Z x nL (pc + 2) lv st S μ cc ss) (hK : ∀ t lv st S μ cc ss, K t lv st S μ cc ss → gw_at p l e R s m args below meth c Z x nL t lv st S μ cc ss) : gw_at p l e R s m args below meth c Z x nL pc lv st S μ cc ss := by
  simp only [gw_step] at h
  simp only [gw_lk, decide_eq_true_eq] at hlk
  subst hlk
  dsimp only at h
  cases hv : gw_nth lv j with
  | ref v =>
    rw [hv] at h
    intro H locs ls hr hl
    have h5 := hl.2.2.2.2 j (by rw [hv]; exact fun q => by cases q)
    rw [hv] at h5
    cases v with
    | zero => exact lv_aloadN F.1 F.2.1 hd h5 (hN _ _ _ _ _ _ h H locs ls hr hl)
    | succ v => exact lv_aload F.1 F.2.1 hd h5 (hN _ _ _ _ _ _ h H locs ls hr hl)
  | retAddr v =>
    rw [hv] at h
    match v, hv, h with
    | 1, hv, h =>
      intro H locs ls hr hl
      have h5 := hl.2.2.2.2 j (by rw [hv]; exact fun q => by cases q)
      rw [hv] at h5
      exact lv_aload F.1 F.2.1 hd h5 (hN _ _ _ _ _ _ h H locs ls hr hl)
    | 0, _, h => exact h.elim
    | _ + 2, _, h => exact h.elim
  | _ => rw [hv] at h; exact h.elim
theorem gw_s_iload_n (F : gw_fx p s m args c x nL cb own) (hd : decode cb pc = .ok (.iload_n jn, 1)) (hlk : gw_lk own nL rt pc (.iload_n jn) an iv sg = true) (h : gw_step ok x mc ms Q K (.iload_n jn) an iv sg lv st S μ cc ss N) (hN : ∀ lv st S μ cc ss, N lv st S μ cc ss → gw_at p l e R s m args below meth c Z x nL (pc + 1) lv st S μ cc ss) (hK : ∀ t lv st S μ cc ss, K t lv st S μ cc ss → gw_at p l e R s m args below meth c Z x nL t lv st S μ cc ss) : gw_at p l e R s m args below meth c Z x nL pc lv st S μ cc ss := by
  simp only [gw_step] at h
  simp only [gw_lk, decide_eq_true_eq] at hlk
  subst hlk
  dsimp only at h
  cases hv : gw_nth lv jn.val with
  | int v =>
    rw [hv] at h
    intro H locs ls hr hl
    have h5 := hl.2.2.2.2 jn.val (by rw [hv]; exact fun q => by cases q)
    rw [hv] at h5
    exact lv_iload_n F.1 F.2.1 hd rfl h5 (hN _ _ _ _ _ _ h H locs ls hr hl)
  | _ => rw [hv] at h; exact h.elim
theorem gw_s_iload (F : gw_fx p s m args c x nL cb own) (hd : decode cb pc = .ok (.iload j, 2)) (hlk : gw_lk own nL rt pc (.iload j) an iv sg = true) (h : gw_step ok x mc ms Q K (.iload j) an iv sg lv st S μ cc ss N) (hN : ∀ lv st S μ cc ss, N lv st S μ cc ss → gw_at p l e R s m args below meth c Z x nL (pc + 2) lv st S μ cc ss) (hK : ∀ t lv st S μ cc ss, K t lv st S μ cc ss → gw_at p l e R s m args below meth c Z x nL t lv st S μ cc ss) : gw_at p l e R s m args below meth c Z x nL pc lv st S μ cc ss := by
  simp only [gw_step] at h
  simp only [gw_lk, decide_eq_true_eq] at hlk
  subst hlk
  dsimp only at h
  cases hv : gw_nth lv j with
  | int v =>
    rw [hv] at h
    intro H locs ls hr hl
    have h5 := hl.2.2.2.2 j (by rw [hv]; exact fun q => by cases q)
    rw [hv] at h5
    exact lv_iload F.1 F.2.1 hd h5 (hN _ _ _ _ _ _ h H locs ls hr hl)
  | _ => rw [hv] at h; exact h.elim
theorem gw_s_astore_n (F : gw_fx p s m args c x nL cb own) (hd : decode cb pc = .ok (.astore_n jn, 1)) (hlk : gw_lk own nL rt pc (.astore_n jn) an iv sg = true) (h : gw_step ok x mc ms Q K (.astore_n jn) an iv sg lv st S μ cc ss N) (hN : ∀ lv st S μ cc ss, N lv st S μ cc ss → gw_at p l e R s m args below meth c Z x nL (pc + 1) lv st S μ cc ss) (hK : ∀ t lv st S μ cc ss, K t lv st S μ cc ss → gw_at p l e R s m args below meth c Z x nL t lv st S μ cc ss) : gw_at p l e R s m args below meth c Z x nL pc lv st S μ cc ss := by
  simp only [gw_step] at h
  simp only [gw_lk, Bool.and_eq_true, decide_eq_true_eq] at hlk
  split at h
  · rename_i k0 r t
    obtain ⟨h1, h2⟩ := hlk
    cases h1
    have hlk : True ∧ jn.val < nL := ⟨trivial, h2⟩
    intro H locs ls hr hl
    cases r with
    | zero => exact lv_astore_nN F.1 F.2.1 hd rfl (gw_has_lv hl) hlk.2 rfl (fun ls' h' => hN _ _ _ _ _ _ h H locs ls' hr (gw_has_set hl hlk.2 rfl h'))
    | succ r => exact lv_astore_n F.1 F.2.1 hd rfl (gw_has_lv hl) hlk.2 rfl (fun ls' h' => hN _ _ _ _ _ _ h H locs ls' hr (gw_has_set hl hlk.2 rfl h'))
  · exact h.elim
theorem gw_s_astore (F : gw_fx p s m args c x nL cb own) (hd : decode cb pc = .ok (.astore j, 2)) (hlk : gw_lk own nL rt pc (.astore j) an iv sg = true) (h : gw_step ok x mc ms Q K (.astore j) an iv sg lv st S μ cc ss N) (hN : ∀ lv st S μ cc ss, N lv st S μ cc ss → gw_at p l e R s m args below meth c Z x nL (pc + 2) lv st S μ cc ss) (hK : ∀ t lv st S μ cc ss, K t lv st S μ cc ss → gw_at p l e R s m args below meth c Z x nL t lv st S μ cc ss) : gw_at p l e R s m args below meth c Z x nL pc lv st S μ cc ss := by
  simp only [gw_step] at h
  simp only [gw_lk, Bool.and_eq_true, decide_eq_true_eq] at hlk
  split at h
  · rename_i k0 r t
    obtain ⟨h1, h2⟩ := hlk
    cases h1
    have hlk : True ∧ j < nL := ⟨trivial, h2⟩
    intro H locs ls hr hl
    cases r with
    | zero => exact lv_astoreN F.1 F.2.1 hd (gw_has_lv hl) hlk.2 rfl (fun ls' h' => hN _ _ _ _ _ _ h H locs ls' hr (gw_has_set hl hlk.2 rfl h'))
    | succ r => exact lv_astore F.1 F.2.1 hd (gw_has_lv hl) hlk.2 rfl (fun ls' h' => hN _ _ _ _ _ _ h H locs ls' hr (gw_has_set hl hlk.2 rfl h'))
  · exact h.elim
theorem gw_s_istore_n (F : gw_fx p s m args c x nL cb own) (hd : decode cb pc = .ok (.istore_n jn, 1)) (hlk : gw_lk own nL rt pc (.istore_n jn) an iv sg = true) (h : gw_step ok x mc ms Q K (.istore_n jn) an iv sg lv st S μ cc ss N) (hN : ∀ lv st S μ cc ss, N lv st S μ cc ss → gw_at p l e R s m args below meth c Z x nL (pc + 1) lv st S μ cc ss) (hK : ∀ t lv st S μ cc ss, K t lv st S μ cc ss → gw_at p l e R s m args below meth c Z x nL t lv st S μ cc ss) : gw_at p l e R s m args below meth c Z x nL pc lv st S μ cc ss := by
  simp only [gw_step] at h
  simp only [gw_lk, Bool.and_eq_true, decide_eq_true_eq] at hlk
  split at h
  · rename_i k0 r t
    obtain ⟨h1, h2⟩ := hlk
    cases h1
    have hlk : True ∧ jn.val < nL := ⟨trivial, h2⟩
    intro H locs ls hr hl
    exact lv_istore_n F.1 F.2.1 hd rfl (gw_has_lv hl) hlk.2 rfl (fun ls' h' => hN _ _ _ _ _ _ h H locs ls' hr (gw_has_set hl hlk.2 rfl h'))
  · exact h.elim
theorem gw_s_istore (F : gw_fx p s m args c x nL cb own) (hd : decode cb pc = .ok (.istore j, 2)) (hlk : gw_lk own nL rt pc (.istore j) an iv sg = true) (h : gw_step ok x mc ms Q K (.istore j) an iv sg lv st S μ cc ss N) (hN : ∀ lv st S μ cc ss, N lv st S μ cc ss → gw_at p l e R s m args below meth c Z x nL (pc + 2) lv st S μ cc ss) (hK : ∀ t lv st S μ cc ss, K t lv st S μ cc ss → gw_at p l e R s m args below meth c Z x nL t lv st S μ cc ss) : gw_at p l e R s m args below meth c Z x nL pc lv st S μ cc ss := by
  simp only [gw_step] at h
  simp only [gw_lk, Bool.and_eq_true, decide_eq_true_eq] at hlk
  split at h
  · rename_i k0 r t
    obtain ⟨h1, h2⟩ := hlk
    cases h1
    have hlk : True ∧ j < nL := ⟨trivial, h2⟩
    intro H locs ls hr hl
    exact lv_istore F.1 F.2.1 hd (gw_has_lv hl) hlk.2 rfl (fun ls' h' => hN _ _ _ _ _ _ h H locs ls' hr (gw_has_set hl hlk.2 rfl h'))
  · exact h.elim
theorem gw_s_iinc (F : gw_fx p s m args c x nL cb own) (hd : decode cb pc = .ok (.iinc j k, 3)) (hlk : gw_lk own nL rt pc (.iinc j k) an iv sg = true) (h : gw_step ok x mc ms Q K (.iinc j k) an iv sg lv st S μ cc ss N) (hN : ∀ lv st S μ cc ss, N lv st S μ cc ss → gw_at p l e R s m args below meth c Z x nL (pc + 3) lv st S μ cc ss) (hK : ∀ t lv st S μ cc ss, K t lv st S μ cc ss → gw_at p l e R s m args below meth c Z x nL t lv st S μ cc ss) : gw_at p l e R s m args below meth c Z x nL pc lv st S μ cc ss := by
  simp only [gw_step] at h
  simp only [gw_lk, Bool.and_eq_true, decide_eq_true_eq] at hlk
  obtain ⟨⟨h1, h2⟩, h3⟩ := hlk
  subst h1
  subst h3
  dsimp only at h
  cases hv : gw_nth lv j with
  | int v =>
    rw [hv] at h
    intro H locs ls hr hl
    have hm : (j, Value.int v) ∈ gw_lvl x lv := by
      refine List.mem_filterMap.mpr ⟨j, List.mem_range.mpr (by have := hl.2.2.1; omega), ?_⟩
      simp [hv, gw_v]
    obtain ⟨q, hq⟩ := List.getElem?_of_mem hm
    exact lv_iinc F.1 F.2.1 hd (gw_has_lv hl) hq rfl h2 rfl (fun ls' h' => hN _ _ _ _ _ _ h H locs ls' hr (gw_has_set hl h2 rfl h'))
  | _ => rw [hv] at h; exact h.elim
variable {q : ClassFile.Cond} {off : Int}
theorem gw_s_ifCond (F : gw_fx p s m args c x nL cb own) (hd : decode cb pc = .ok (.ifCond q off, 3)) (hlk : gw_lk own nL rt pc (.ifCond q off) an iv sg = true) (h : gw_step ok x mc ms Q K (.ifCond q off) an iv sg lv st S μ cc ss N) (hN : ∀ lv st S μ cc ss, N lv st S μ cc ss → gw_at p l e R s m args below meth c Z x nL (pc + 3) lv st S μ cc ss) (hK : ∀ t lv st S μ cc ss, K t lv st S μ cc ss → gw_at p l e R s m args below meth c Z x nL t lv st S μ cc ss) : gw_at p l e R s m args below meth c Z x nL pc lv st S μ cc ss := by
  simp only [gw_step] at h
  simp only [gw_lk] at hlk
  split at h
  · simp only [decide_eq_true_eq] at hlk
    obtain ⟨hk1, hk2⟩ := h
    intro H locs ls hr hl
    cases q with
    | eq => exact lv_if_eq F.1 F.2.1 hd hlk (fun z => hK _ _ _ _ _ _ _ (hk1 z) H locs ls hr hl) (fun z => hN _ _ _ _ _ _ (hk2 z) H locs ls hr hl)
    | ne => exact lv_if_ne F.1 F.2.1 hd hlk (fun z => hK _ _ _ _ _ _ _ (hk1 z) H locs ls hr hl) (fun z => hN _ _ _ _ _ _ (hk2 (fun y => y z)) H locs ls hr hl)
    | lt => exact lv_if_lt F.1 F.2.1 hd hlk (fun z => hK _ _ _ _ _ _ _ (hk1 z) H locs ls hr hl) (fun z => hN _ _ _ _ _ _ (hk2 z) H locs ls hr hl)
    | ge => exact lv_if_ge F.1 F.2.1 hd hlk (fun z => hK _ _ _ _ _ _ _ (hk1 z) H locs ls hr hl) (fun z => hN _ _ _ _ _ _ (hk2 z) H locs ls hr hl)
    | gt => exact lv_if_gt F.1 F.2.1 hd hlk (fun z => hK _ _ _ _ _ _ _ (hk1 z) H locs ls hr hl) (fun z => hN _ _ _ _ _ _ (hk2 z) H locs ls hr hl)
    | le => exact lv_if_le F.1 F.2.1 hd hlk (fun z => hK _ _ _ _ _ _ _ (hk1 z) H locs ls hr hl) (fun z => hN _ _ _ _ _ _ (hk2 z) H locs ls hr hl)
  · exact h.elim
theorem gw_s_if_icmp (F : gw_fx p s m args c x nL cb own) (hd : decode cb pc = .ok (.if_icmp q off, 3)) (hlk : gw_lk own nL rt pc (.if_icmp q off) an iv sg = true) (h : gw_step ok x mc ms Q K (.if_icmp q off) an iv sg lv st S μ cc ss N) (hN : ∀ lv st S μ cc ss, N lv st S μ cc ss → gw_at p l e R s m args below meth c Z x nL (pc + 3) lv st S μ cc ss) (hK : ∀ t lv st S μ cc ss, K t lv st S μ cc ss → gw_at p l e R s m args below meth c Z x nL t lv st S μ cc ss) : gw_at p l e R s m args below meth c Z x nL pc lv st S μ cc ss := by
  simp only [gw_step] at h
  simp only [gw_lk] at hlk
  split at h
  · simp only [decide_eq_true_eq] at hlk
    obtain ⟨hk1, hk2⟩ := h
    intro H locs ls hr hl
    cases q with
    | eq => exact lv_icmp_eq F.1 F.2.1 hd hlk (fun z => hK _ _ _ _ _ _ _ (hk1 z) H locs ls hr hl) (fun z => hN _ _ _ _ _ _ (hk2 z) H locs ls hr hl)
    | ne => exact lv_icmp_ne F.1 F.2.1 hd hlk (fun z => hK _ _ _ _ _ _ _ (hk1 z) H locs ls hr hl) (fun z => hN _ _ _ _ _ _ (hk2 (fun y => y z)) H locs ls hr hl)
    | lt => exact lv_icmp_lt F.1 F.2.1 hd hlk (fun z => hK _ _ _ _ _ _ _ (hk1 z) H locs ls hr hl) (fun z => hN _ _ _ _ _ _ (hk2 z) H locs ls hr hl)
    | ge => exact lv_icmp_ge F.1 F.2.1 hd hlk (fun z => hK _ _ _ _ _ _ _ (hk1 z) H locs ls hr hl) (fun z => hN _ _ _ _ _ _ (hk2 z) H locs ls hr hl)
    | gt => exact lv_icmp_gt F.1 F.2.1 hd hlk (fun z => hK _ _ _ _ _ _ _ (hk1 z) H locs ls hr hl) (fun z => hN _ _ _ _ _ _ (hk2 z) H locs ls hr hl)
    | le => exact lv_icmp_le F.1 F.2.1 hd hlk (fun z => hK _ _ _ _ _ _ _ (hk1 z) H locs ls hr hl) (fun z => hN _ _ _ _ _ _ (hk2 z) H locs ls hr hl)
  · exact h.elim
theorem gw_s_ifnull (F : gw_fx p s m args c x nL cb own) (hd : decode cb pc = .ok (.ifnull off, 3)) (hlk : gw_lk own nL rt pc (.ifnull off) an iv sg = true) (h : gw_step ok x mc ms Q K (.ifnull off) an iv sg lv st S μ cc ss N) (hN : ∀ lv st S μ cc ss, N lv st S μ cc ss → gw_at p l e R s m args below meth c Z x nL (pc + 3) lv st S μ cc ss) (hK : ∀ t lv st S μ cc ss, K t lv st S μ cc ss → gw_at p l e R s m args below meth c Z x nL t lv st S μ cc ss) : gw_at p l e R s m args below meth c Z x nL pc lv st S μ cc ss := by
  simp only [gw_step] at h
  simp only [gw_lk] at hlk
  split at h
  · rename_i a t
    simp only [decide_eq_true_eq] at hlk
    intro H locs ls hr hl
    cases a with
    | zero => exact lv_ifnullN F.1 F.2.1 hd hlk (hK _ _ _ _ _ _ _ (h.1 rfl) H locs ls hr hl)
    | succ a => exact lv_ifnull F.1 F.2.1 hd (hN _ _ _ _ _ _ (h.2 (Nat.succ_ne_zero _)) H locs ls hr hl)
  · exact h.elim
theorem gw_s_ifnonnull (F : gw_fx p s m args c x nL cb own) (hd : decode cb pc = .ok (.ifnonnull off, 3)) (hlk : gw_lk own nL rt pc (.ifnonnull off) an iv sg = true) (h : gw_step ok x mc ms Q K (.ifnonnull off) an iv sg lv st S μ cc ss N) (hN : ∀ lv st S μ cc ss, N lv st S μ cc ss → gw_at p l e R s m args below meth c Z x nL (pc + 3) lv st S μ cc ss) (hK : ∀ t lv st S μ cc ss, K t lv st S μ cc ss → gw_at p l e R s m args below meth c Z x nL t lv st S μ cc ss) : gw_at p l e R s m args below meth c Z x nL pc lv st S μ cc ss := by
  simp only [gw_step] at h
  simp only [gw_lk] at hlk
  split at h
  · rename_i a t
    simp only [decide_eq_true_eq] at hlk
    intro H locs ls hr hl
    cases a with
    | zero => exact lv_ifnonnullN F.1 F.2.1 hd (hN _ _ _ _ _ _ (h.2 rfl) H locs ls hr hl)
    | succ a => exact lv_ifnonnull F.1 F.2.1 hd hlk (hK _ _ _ _ _ _ _ (h.1 (Nat.succ_ne_zero _)) H locs ls hr hl)
  · exact h.elim
theorem gw_s_goto (F : gw_fx p s m args c x nL cb own) (hd : decode cb pc = .ok (.goto off, 3)) (hlk : gw_lk own nL rt pc (.goto off) an iv sg = true) (h : gw_step ok x mc ms Q K (.goto off) an iv sg lv st S μ cc ss N) (hN : ∀ lv st S μ cc ss, N lv st S μ cc ss → gw_at p l e R s m args below meth c Z x nL (pc + 3) lv st S μ cc ss) (hK : ∀ t lv st S μ cc ss, K t lv st S μ cc ss → gw_at p l e R s m args below meth c Z x nL t lv st S μ cc ss) : gw_at p l e R s m args below meth c Z x nL pc lv st S μ cc ss := by
  simp only [gw_step] at h
  simp only [gw_lk] at hlk
  split at h
  · simp only [decide_eq_true_eq] at hlk
    intro H locs ls hr hl
    exact lv_goto F.1 F.2.1 hd hlk (hK _ _ _ _ _ _ _ h H locs ls hr hl)
  · exact h.elim
end SND
end
section
/-! ===== soundness: fields, arrays, new cells ===== -/
section SND2
variable {p : Program} {l : Launch} {e : Env} {R : Room} {s : State} {m : MethodId} {args : Array Value} {below : List Frame} {meth : Method} {c : Code} {Z : State → Prop} {x : gw_C} {nL : Nat} {cb : ByteArray} {own : String}
variable {ok : gw_Ok} {mc ms pc : Nat} {Q : Option Value → gw_S → gw_M → Prop} {K : Nat → gw_Kt} {an : List Nat} {iv : List Int32} {sg : List gw_Sig} {lv st : List Value} {S : gw_S} {μ : gw_M} {cc ss : Nat} {N : gw_Kt} {rt : Option FieldType} {j : Nat}
theorem gw_sw_at {K : Nat → Prop} {d : Nat} : ∀ (ts : List Nat) (lo v : Int32) (n : Nat), gw_sw K d ts lo v → -1000 < lo.toInt → lo.toInt + ts.length < 1000 → ts.length = n →
    (∀ (i t : Nat), ts[i]? = some t → v.toInt = lo.toInt + (i : Int) → K t) ∧ (v.toInt < lo.toInt ∨ lo.toInt + ts.length ≤ v.toInt → K d)
  | [], lo, v, n, h, h1, h2, h3 => ⟨fun i t q => by simp at q, fun _ => h⟩
  | t :: ts, lo, v, n, h, h1, h2, h3 => by
    have e1 : (lo + 1).toInt = lo.toInt + 1 := by
      rw [Int32.toInt_add]
      have : (1 : Int32).toInt = 1 := rfl
      rw [this]
      simp only [List.length_cons] at h2
      exact Int.bmod_eq_of_le (by omega) (by omega)
    by_cases hv : v = lo
    · subst hv
      refine ⟨fun i t' q hi => ?_, fun q => ?_⟩
      · have : i = 0 := by omega
        subst this
        cases q
        exact h.1 rfl
      · simp only [List.length_cons] at q
        omega
    · have ih := gw_sw_at ts (lo + 1) v ts.length (h.2 hv) (by omega) (by rw [e1]; simp only [List.length_cons] at h2; omega) rfl
      have hne : v.toInt ≠ lo.toInt := fun q => hv (Int32.toInt_inj.mp q)
      refine ⟨fun i t' q hi => ?_, fun q => ih.2 ?_⟩
      · cases i with
        | zero => omega
        | succ i => exact ih.1 i t' (by simpa using q) (by rw [e1, hi]; omega)
      · rw [e1]
        simp only [List.length_cons] at q
        omega
variable {dflt lo hi : Int} {offs : Array Int} {len : Nat}
theorem gw_s_tableswitch (F : gw_fx p s m args c x nL cb own) (hd : decode cb pc = .ok (.tableswitch dflt lo hi offs, len)) (hlk : gw_lk own nL rt pc (.tableswitch dflt lo hi offs) an iv sg = true) (h : gw_step ok x mc ms Q K (.tableswitch dflt lo hi offs) an iv sg lv st S μ cc ss N) (hN : ∀ lv st S μ cc ss, N lv st S μ cc ss → gw_at p l e R s m args below meth c Z x nL (pc + len) lv st S μ cc ss) (hK : ∀ t lv st S μ cc ss, K t lv st S μ cc ss → gw_at p l e R s m args below meth c Z x nL t lv st S μ cc ss) : gw_at p l e R s m args below meth c Z x nL pc lv st S μ cc ss := by
  simp only [gw_step] at h
  simp only [gw_lk] at hlk
  split at h
  · rename_i d ts w a t
    simp only [Bool.and_eq_true, decide_eq_true_eq] at hlk
    obtain ⟨⟨⟨⟨⟨h1, h2⟩, h3⟩, h4⟩, h5⟩, h6⟩ := hlk
    intro H locs ls hr hl
    obtain ⟨g1, g2⟩ := gw_sw_at ts w a ts.length h (by omega) (by omega) rfl
    by_cases hin : a.toInt < lo ∨ hi < a.toInt
    · refine lv_tableOut F.1 F.2.1 hd hin h1 (hK _ _ _ _ _ _ _ (g2 (by omega)) H locs ls hr hl)
    · have hlt : (a.toInt - lo).toNat < ts.length := by omega
      have ht : ts[(a.toInt - lo).toNat]? = some ts[(a.toInt - lo).toNat] := List.getElem?_eq_getElem hlt
      have e1 : (offs.toList.map (fun o => (pc : Int) + o))[(a.toInt - lo).toNat]? = some ((ts[(a.toInt - lo).toNat] : Nat) : Int) := by
        rw [h3, List.getElem?_map, ht]; rfl
      rw [List.getElem?_map] at e1
      cases ho : offs.toList[(a.toInt - lo).toNat]? with
      | none => rw [ho] at e1; cases e1
      | some off =>
        rw [ho] at e1
        simp only [Option.map_some, Option.some.injEq] at e1
        exact lv_tableIn F.1 F.2.1 hd (by omega) (by omega) (by rw [← Array.getElem?_toList]; exact ho) e1 (hK _ _ _ _ _ _ _ (g1 _ _ ht (by omega)) H locs ls hr hl)
  · exact h.elim
theorem gw_s_getfield (F : gw_fx p s m args c x nL cb own) (hd : decode cb pc = .ok (.getfield j, 3)) (hlk : gw_lk own nL rt pc (.getfield j) an iv sg = true) (h : gw_step ok x mc ms Q K (.getfield j) an iv sg lv st S μ cc ss N) (hN : ∀ lv st S μ cc ss, N lv st S μ cc ss → gw_at p l e R s m args below meth c Z x nL (pc + 3) lv st S μ cc ss) (hK : ∀ t lv st S μ cc ss, K t lv st S μ cc ss → gw_at p l e R s m args below meth c Z x nL t lv st S μ cc ss) : gw_at p l e R s m args below meth c Z x nL pc lv st S μ cc ss := by
  simp only [gw_step] at h
  simp only [gw_lk] at hlk
  have key : ∀ (ci k t0 ti : Nat) (v : Value) (a : Nat) (t : List Value), an = [ci, k, t0, ti] → gw_kd S a = ci → gw_fld x S μ a ci k = gw_v x v → N lv (v :: t) S μ cc ss → gw_at p l e R s m args below meth c Z x nL pc lv (.ref a :: t) S μ cc ss := by
    intro ci k t0 ti v a t han hka hv hn H locs ls hr hl
    subst han
    cases hq : vwCl[ci]? with
    | none => simp [hq] at hlk
    | some q =>
      simp only [hq, Bool.and_eq_true, decide_eq_true_eq] at hlk
      obtain ⟨⟨hk, -⟩, hli⟩ := hlk
      obtain ⟨h1, h2, hc, hra⟩ := gw_kd_ok hr hka (by have := (gw_cls hq).2.2.2.2; omega)
      have hob := hc.2.2.2 q (by rw [hka]; exact hq)
      rw [hka] at hob
      obtain ⟨cell, q1, q2, q3, q4⟩ := hob
      have hKn := F.2.2.2.2.2.1.1 ci q hq
      obtain ⟨hS, hfc, kC, hkC, hkind⟩ := hKn
      obtain ⟨cf, kf, fi, f, hi, hsl⟩ := hS k hk
      have hst := (u_facts hfc hkC (u_lays F.2.2.2.2.1 (gw_cls hq).1 hk) hi).1
      show W p l e R s m args below meth c H locs cc ss Z (F0 m pc ls (gw_v x (.ref a) :: t.map (gw_v x)))
      rw [hra]
      refine W.getf F.1 F.2.1 F.2.2.2.1 (F.2.2.2.2.1 _ (gw_is_spec hli)) hi hst q1 (by rw [q3]; exact fun z => by cases z) (v := gw_v x v) ?_ rfl rfl hd (hN _ _ _ _ _ _ hn H locs ls hr hl)
      rw [hsl, q4 k hk, hv]
  have ftv : ∀ (ci k t0 ti : Nat), an = [ci, k, t0, ti] → t0 = gw_ft (gw_ty ci k) := by
    intro ci k t0 ti han
    subst han
    cases hq : vwCl[ci]? with
    | none => simp [hq] at hlk
    | some q =>
      simp only [hq, Bool.and_eq_true, decide_eq_true_eq] at hlk
      exact hlk.1.2
  split at h
  · rename_i ci k ti a t
    exact key ci k 1 ti _ a t rfl h.1 (by rw [gw_fld, if_pos (ftv ci k 1 ti rfl).symm]) h.2
  · rename_i ci k t0 ti a t hne
    refine key ci k t0 ti _ a t rfl h.1 ?_ h.2
    rw [gw_fld, if_neg]
    · rfl
    · intro hz
      exact hne (by rw [ftv ci k t0 ti rfl]; exact hz)
  · exact h.elim
theorem gw_s_iaload (F : gw_fx p s m args c x nL cb own) (hd : decode cb pc = .ok (.iaload, 1)) (hlk : gw_lk own nL rt pc (.iaload) an iv sg = true) (h : gw_step ok x mc ms Q K (.iaload) an iv sg lv st S μ cc ss N) (hN : ∀ lv st S μ cc ss, N lv st S μ cc ss → gw_at p l e R s m args below meth c Z x nL (pc + 1) lv st S μ cc ss) (hK : ∀ t lv st S μ cc ss, K t lv st S μ cc ss → gw_at p l e R s m args below meth c Z x nL t lv st S μ cc ss) : gw_at p l e R s m args below meth c Z x nL pc lv st S μ cc ss := by
  simp only [gw_step] at h
  split at h
  · rename_i i a t
    obtain ⟨hk, hin, hn⟩ := h
    intro H locs ls hr hl
    obtain ⟨h1, h2, hc, hra⟩ := gw_kd_ok hr hk (by decide)
    show W p l e R s m args below meth c H locs cc ss Z (F0 m pc ls (.int i :: gw_v x (.ref a) :: t.map (gw_v x)))
    rw [hra]
    refine W.iald F.1 F.2.1 (hc.1 hk) ((F.2.2.2.2.2.1.2 0 _ rfl).1 _ _) (fun z => by cases z) (by rw [arrV_size]; exact gw_in_vp hin) (v := .int (μ a i.toNatClampNeg)) (by rw [arrV_read _ _ hin.2]) rfl rfl hd (hN _ _ _ _ _ _ hn H locs ls hr hl)
  · rename_i i t
    obtain ⟨hin, hn⟩ := h
    intro H locs ls hr hl
    obtain ⟨scr, a1, a2, a3, a4, a5⟩ := F.2.2.2.2.2.2.1
    refine W.iald F.1 F.2.1 (a := x.2.2.2.2.2.2.1) (cell := scr) ?_ a2 a3 (by rw [a4]; exact gw_in_vp hin) (a5 _ hin.2) rfl rfl hd (hN _ _ _ _ _ _ hn H locs ls hr hl)
    rw [hr.2.2.2.2.1 _ (by have := hr.2.2.2.1; have := F.2.2.2.2.2.2.2.1; omega)]
    exact a1
  · exact h.elim
theorem gw_s_arraylength (F : gw_fx p s m args c x nL cb own) (hd : decode cb pc = .ok (.arraylength, 1)) (hlk : gw_lk own nL rt pc (.arraylength) an iv sg = true) (h : gw_step ok x mc ms Q K (.arraylength) an iv sg lv st S μ cc ss N) (hN : ∀ lv st S μ cc ss, N lv st S μ cc ss → gw_at p l e R s m args below meth c Z x nL (pc + 1) lv st S μ cc ss) (hK : ∀ t lv st S μ cc ss, K t lv st S μ cc ss → gw_at p l e R s m args below meth c Z x nL t lv st S μ cc ss) : gw_at p l e R s m args below meth c Z x nL pc lv st S μ cc ss := by
  simp only [gw_step] at h
  split at h
  · rename_i a t
    obtain ⟨hk, hn⟩ := h
    intro H locs ls hr hl
    have hk15 : gw_kd S a < 15 := by omega
    obtain ⟨h1, h2, hc, hra⟩ := gw_kd_ok hr rfl hk15
    show W p l e R s m args below meth c H locs cc ss Z (F0 m pc ls (gw_v x (.ref a) :: t.map (gw_v x)))
    rw [hra]
    rcases hk with hk | hk | hk
    · exact W.alen F.1 F.2.1 (hc.1 hk) ((F.2.2.2.2.2.1.2 0 _ rfl).1 _ _) (by rw [arrV_size]) rfl rfl hd (hN _ _ _ _ _ _ hn H locs ls hr hl)
    · exact W.alen F.1 F.2.1 (hc.2.1 hk) ((F.2.2.2.2.2.1.2 1 _ rfl).1 _ _) (by rw [arrV_size]) rfl rfl hd (hN _ _ _ _ _ _ hn H locs ls hr hl)
    · exact W.alen F.1 F.2.1 (hc.2.2.1 hk) ((F.2.2.2.2.2.1.2 2 _ rfl).1 _ _) (by rw [arrV_size]) rfl rfl hd (hN _ _ _ _ _ _ hn H locs ls hr hl)
  · rename_i t
    intro H locs ls hr hl
    obtain ⟨scr, a1, a2, a3, a4, a5⟩ := F.2.2.2.2.2.2.1
    refine W.alen F.1 F.2.1 (a := x.2.2.2.2.2.2.1) (cell := scr) ?_ a2 (by rw [a4]) rfl rfl hd (hN _ _ _ _ _ _ h H locs ls hr hl)
    rw [hr.2.2.2.2.1 _ (by have := hr.2.2.2.1; have := F.2.2.2.2.2.2.2.1; omega)]
    exact a1
  · exact h.elim
theorem gw_s_aaload (F : gw_fx p s m args c x nL cb own) (hd : decode cb pc = .ok (.aaload, 1)) (hlk : gw_lk own nL rt pc (.aaload) an iv sg = true) (h : gw_step ok x mc ms Q K (.aaload) an iv sg lv st S μ cc ss N) (hN : ∀ lv st S μ cc ss, N lv st S μ cc ss → gw_at p l e R s m args below meth c Z x nL (pc + 1) lv st S μ cc ss) (hK : ∀ t lv st S μ cc ss, K t lv st S μ cc ss → gw_at p l e R s m args below meth c Z x nL t lv st S μ cc ss) : gw_at p l e R s m args below meth c Z x nL pc lv st S μ cc ss := by
  simp only [gw_step] at h
  split at h
  · rename_i i a t
    obtain ⟨hk, hin, hn⟩ := h
    intro H locs ls hr hl
    have hk15 : gw_kd S a < 15 := by omega
    obtain ⟨h1, h2, hc, hra⟩ := gw_kd_ok hr rfl hk15
    show W p l e R s m args below meth c H locs cc ss Z (F0 m pc ls (.int i :: gw_v x (.ref a) :: t.map (gw_v x)))
    rw [hra]
    rcases hk with hk | hk
    · exact W.aald F.1 F.2.1 (hc.2.1 hk) ((F.2.2.2.2.2.1.2 1 _ rfl).1 _ _) rfl (fun z => by cases z) (by rw [arrV_size]; exact gw_in_vp hin) (v := gw_v x (.ref (gw_rf S a i.toNatClampNeg))) (by rw [arrV_read _ _ hin.2]) rfl rfl hd (hN _ _ _ _ _ _ hn H locs ls hr hl)
    · exact W.aald F.1 F.2.1 (hc.2.2.1 hk) ((F.2.2.2.2.2.1.2 2 _ rfl).1 _ _) rfl (fun z => by cases z) (by rw [arrV_size]; exact gw_in_vp hin) (v := gw_v x (.ref (gw_rf S a i.toNatClampNeg))) (by rw [arrV_read _ _ hin.2]) rfl rfl hd (hN _ _ _ _ _ _ hn H locs ls hr hl)
  · exact h.elim
theorem gw_up_ne {μ : gw_M} {a k : Nat} {v : Int32} {b : Nat} (h : b ≠ a) (j : Nat) : gw_up μ a k v b j = μ b j := by simp [gw_up, h]
theorem gw_sr_ne {S : gw_S} {a k r : Nat} {b : Nat} (h : b ≠ a) (j : Nat) : gw_rf (gw_sr S a k r) b j = gw_rf S b j := by simp [gw_sr, gw_rf, h]
theorem gw_locs {locs : List Loc} {q : Loc} {a k : Nat} (h : q ∈ locs ++ [(⟨a, k⟩ : Loc)]) : q ∈ locs ∨ q.base = a := by
  rcases List.mem_append.mp h with h | h
  · exact Or.inl h
  · rw [List.mem_singleton.mp h]; exact Or.inr rfl
theorem gw_s_iastore (F : gw_fx p s m args c x nL cb own) (hd : decode cb pc = .ok (.iastore, 1)) (hlk : gw_lk own nL rt pc (.iastore) an iv sg = true) (h : gw_step ok x mc ms Q K (.iastore) an iv sg lv st S μ cc ss N) (hN : ∀ lv st S μ cc ss, N lv st S μ cc ss → gw_at p l e R s m args below meth c Z x nL (pc + 1) lv st S μ cc ss) (hK : ∀ t lv st S μ cc ss, K t lv st S μ cc ss → gw_at p l e R s m args below meth c Z x nL t lv st S μ cc ss) : gw_at p l e R s m args below meth c Z x nL pc lv st S μ cc ss := by
  simp only [gw_step] at h
  split at h
  · rename_i v i a t
    obtain ⟨hk, hin, hn⟩ := h
    intro H locs ls hr hl
    obtain ⟨h1, h2, hc, hra⟩ := gw_kd_ok hr hk (by decide)
    show W p l e R s m args below meth c H locs cc ss Z (F0 m pc ls (.int v :: .int i :: gw_v x (.ref a) :: t.map (gw_v x)))
    rw [hra]
    refine W.iast F.1 F.2.1 (hc.1 hk) ((F.2.2.2.2.2.1.2 0 _ rfl).1 _ _) (fun z => by cases z) (by rw [arrV_size]; exact gw_in_vp hin) rfl rfl hd (fun H1 e1 z1 o1 => ?_)
    refine hN _ _ _ _ _ _ hn H1 _ ls (gw_rep_store hr z1 o1 h1 rfl (fun _ _ _ => rfl) (fun b hb jj => gw_up_ne hb jj) ?_ (fun q hq => gw_locs hq)) hl
    refine ⟨fun _ => ?_, fun z => ?_, fun z => ?_, fun q hq => ?_⟩
    · rw [e1, arrV_store]
      congr 2
      funext jj
      by_cases hj : jj = i.toNatClampNeg
      · subst hj
        simp [updV, gw_up]
      · simp [updV, gw_up, hj]
    · omega
    · omega
    · rw [hk] at hq
      have := (gw_cls hq).2.2.2.2
      omega
  · exact h.elim
theorem gw_s_aastore (F : gw_fx p s m args c x nL cb own) (hd : decode cb pc = .ok (.aastore, 1)) (hlk : gw_lk own nL rt pc (.aastore) an iv sg = true) (h : gw_step ok x mc ms Q K (.aastore) an iv sg lv st S μ cc ss N) (hN : ∀ lv st S μ cc ss, N lv st S μ cc ss → gw_at p l e R s m args below meth c Z x nL (pc + 1) lv st S μ cc ss) (hK : ∀ t lv st S μ cc ss, K t lv st S μ cc ss → gw_at p l e R s m args below meth c Z x nL t lv st S μ cc ss) : gw_at p l e R s m args below meth c Z x nL pc lv st S μ cc ss := by
  simp only [gw_step] at h
  split at h
  · rename_i r i a t
    obtain ⟨hk, hin, hn⟩ := h
    intro H locs ls hr hl
    have hk15 : gw_kd S a < 15 := by omega
    have hr15 : gw_kd S r < 15 := by omega
    obtain ⟨h1, h2, hc, hra⟩ := gw_kd_ok hr rfl hk15
    obtain ⟨g1, g2, hcr, hrr⟩ := gw_kd_ok hr rfl hr15
    show W p l e R s m args below meth c H locs cc ss Z (F0 m pc ls (gw_v x (.ref r) :: .int i :: gw_v x (.ref a) :: t.map (gw_v x)))
    rw [hra, hrr]
    have upd : ∀ cA : ClassId, arrV cA (gw_ln S a) (updV (fun j => gw_v x (.ref (gw_rf S a j))) i.toNatClampNeg (.ref (x.1 + r))) = arrV cA (gw_ln S a) (fun j => gw_v x (.ref (gw_rf (gw_sr S a i.toNatClampNeg r) a j))) := by
      intro cA
      congr 1
      funext jj
      by_cases hj : jj = i.toNatClampNeg
      · subst hj
        simp [updV, gw_sr, gw_rf, ← hrr]
      · simp [updV, gw_sr, gw_rf, hj]
    rcases hk with ⟨hk, hkr⟩ | ⟨hk, hkr⟩
    · obtain ⟨cellV, q1, q2, q3, q4⟩ := hcr.2.2.2 _ (by rw [hkr]; rfl)
      rw [hkr] at q2
      have hcls := (F.2.2.2.2.2.1.1 1 _ rfl).2
      obtain ⟨kA, comp, k1, k2, k3, -⟩ := (F.2.2.2.2.2.1.2 1 _ rfl).2
      have hcomp : comp = x.2.2.1.1 1 := Option.some.inj (k3.symm.trans hcls.1)
      subst hcomp
      obtain ⟨kC, hkC, -⟩ := hcls.2
      refine W.aast F.1 F.2.1 (hc.2.1 hk) (fun q h => by cases h) (fun h => by cases h) k1 k2 rfl hkC ⟨Int32.not_lt.mpr hin.1, by rw [arrV_size]; exact hin.2⟩ q1 (fun q h => by rw [q3] at h; cases h) (by rw [q2]; exact hkC) (by rw [q2]; exact va_assign hcls) rfl rfl hd (fun H1 e1 z1 o1 => ?_)
      refine hN _ _ _ _ _ _ hn H1 _ ls (gw_rep_store hr z1 o1 h1 rfl (fun b hb jj => gw_sr_ne hb jj) (fun _ _ _ => rfl) ?_ (fun q hq => gw_locs hq)) hl
      have hk' : gw_kd (gw_sr S a i.toNatClampNeg r) a = 13 := hk
      refine ⟨fun z => ?_, fun z => ?_, fun z => ?_, fun q hq => ?_⟩
      · omega
      · rw [e1, arrV_store]
        exact congrArg some (upd _)
      · omega
      · rw [hk'] at hq
        have := (gw_cls hq).2.2.2.2
        omega
    · obtain ⟨cellV, q1, q2, q3, q4⟩ := hcr.2.2.2 _ (by rw [hkr]; rfl)
      rw [hkr] at q2
      have hcls := (F.2.2.2.2.2.1.1 3 _ rfl).2
      obtain ⟨kA, comp, k1, k2, k3, -⟩ := (F.2.2.2.2.2.1.2 2 _ rfl).2
      have hcomp : comp = x.2.2.1.1 3 := Option.some.inj (k3.symm.trans hcls.1)
      subst hcomp
      obtain ⟨kC, hkC, -⟩ := hcls.2
      refine W.aast F.1 F.2.1 (hc.2.2.1 hk) (fun q h => by cases h) (fun h => by cases h) k1 k2 rfl hkC ⟨Int32.not_lt.mpr hin.1, by rw [arrV_size]; exact hin.2⟩ q1 (fun q h => by rw [q3] at h; cases h) (by rw [q2]; exact hkC) (by rw [q2]; exact va_assign hcls) rfl rfl hd (fun H1 e1 z1 o1 => ?_)
      refine hN _ _ _ _ _ _ hn H1 _ ls (gw_rep_store hr z1 o1 h1 rfl (fun b hb jj => gw_sr_ne hb jj) (fun _ _ _ => rfl) ?_ (fun q hq => gw_locs hq)) hl
      have hk' : gw_kd (gw_sr S a i.toNatClampNeg r) a = 14 := hk
      refine ⟨fun z => ?_, fun z => ?_, fun z => ?_, fun q hq => ?_⟩
      · omega
      · omega
      · rw [e1, arrV_store]
        exact congrArg some (upd _)
      · rw [hk'] at hq
        have := (gw_cls hq).2.2.2.2
        omega
  · exact h.elim
end SND2
end
section
/-! ===== soundness: fields, arrays, new cells ===== -/
section SND3
variable {p : Program} {l : Launch} {e : Env} {R : Room} {s : State} {m : MethodId} {args : Array Value} {below : List Frame} {meth : Method} {c : Code} {Z : State → Prop} {x : gw_C} {nL : Nat} {cb : ByteArray} {own : String}
variable {ok : gw_Ok} {mc ms pc : Nat} {Q : Option Value → gw_S → gw_M → Prop} {K : Nat → gw_Kt} {an : List Nat} {iv : List Int32} {sg : List gw_Sig} {lv st : List Value} {S : gw_S} {μ : gw_M} {cc ss : Nat} {N : gw_Kt} {rt : Option FieldType} {j : Nat}
theorem gw_s_putfield (F : gw_fx p s m args c x nL cb own) (hin0 : meth.name = "<init>" ∨ ¬ 1 = (an.getD 2 0)) (hd : decode cb pc = .ok (.putfield j, 3)) (hlk : gw_lk own nL rt pc (.putfield j) an iv sg = true) (h : gw_step ok x mc ms Q K (.putfield j) an iv sg lv st S μ cc ss N) (hN : ∀ lv st S μ cc ss, N lv st S μ cc ss → gw_at p l e R s m args below meth c Z x nL (pc + 3) lv st S μ cc ss) (hK : ∀ t lv st S μ cc ss, K t lv st S μ cc ss → gw_at p l e R s m args below meth c Z x nL t lv st S μ cc ss) : gw_at p l e R s m args below meth c Z x nL pc lv st S μ cc ss := by
  simp only [gw_step] at h
  simp only [gw_lk] at hlk
  have fld : ∀ (ci k a : Nat) (S' : gw_S) (μ' : gw_M) (v : Value), S'.2 = S.2 → (∀ k', k' ≠ k → gw_fld x S' μ' a ci k' = gw_fld x S μ a ci k') → gw_fld x S' μ' a ci k = v → ∀ j', updV (gw_fld x S μ a ci) k v j' = gw_fld x S' μ' a ci j' := by
    intro ci k a S' μ' v _ h1 h2 j'
    by_cases hj : j' = k
    · subst hj
      simp [updV, h2]
    · simp [updV, hj, h1 j' hj]
  have cellOf : ∀ (ci k a : Nat) (q : vw_C) (S' : gw_S) (μ' : gw_M) (v : Value) (H1 : Heap) (cell : Cell), vwCl[ci]? = some q → gw_kd S a = ci → k < q.2.2 → S'.2 = S.2 → (∀ k', k' ≠ k → gw_fld x S' μ' a ci k' = gw_fld x S μ a ci k') → gw_fld x S' μ' a ci k = v → cell.cls = x.2.2.1.1 ci → cell.vm = .none → (∀ k', k' < q.2.2 → cell.slots[x.2.2.1.2 ci k']? = some (gw_fld x S μ a ci k')) → H1[x.1 + a]? = some (cell.setSlot (x.2.2.1.2 ci k) v) → gw_cell x S' μ' a H1 := by
    intro ci k a q S' μ' v H1 cell hq hka hk hS2 hf1 hf2 c1 c2 c3 e1
    have hkd' : gw_kd S' a = ci := by rw [← hka]; simp only [gw_kd, hS2]
    have hci := (gw_cls hq).2.2.2.2
    refine ⟨fun z => by omega, fun z => by omega, fun z => by omega, fun q' hq' => ?_⟩
    rw [hkd'] at hq' ⊢
    cases hq.symm.trans hq'
    have hap := va_apart (own := own) F.2.2.2.2.1 (gw_cls hq).1 (gw_ty ci) (gw_cls hq).2.1 (gw_cls hq).2.2.1 F.2.2.2.2.2.1 hq
    exact t_OB.to (V := updV (gw_fld x S μ a ci) k v) ⟨_, e1, c1, c2, t_set c3 hap hk v⟩ (fun j' _ => fld ci k a S' μ' v hS2 hf1 hf2 j')
  split at h
  · rename_i ci k ti r a t
    obtain ⟨hka, hr0, hn⟩ := h
    cases hq : vwCl[ci]? with
    | none => simp [hq] at hlk
    | some q =>
      simp only [hq, Bool.and_eq_true, decide_eq_true_eq] at hlk
      obtain ⟨⟨⟨⟨hk, hft⟩, hfin⟩, hown⟩, hli⟩ := hlk
      intro H locs ls hr hl
      obtain ⟨h1, h2, hc, hra⟩ := gw_kd_ok hr hka (by have := (gw_cls hq).2.2.2.2; omega)
      have hob := hc.2.2.2 q (by rw [hka]; exact hq)
      rw [hka] at hob
      obtain ⟨cell, q1, q2, q3, q4⟩ := hob
      obtain ⟨hS, hfc, kC, hkC, hkind⟩ := F.2.2.2.2.2.1.1 ci q hq
      obtain ⟨cf, kf, fi, f, hi, hsl⟩ := hS k hk
      have hst := (u_facts hfc hkC (u_lays F.2.2.2.2.1 (gw_cls hq).1 hk) hi).1
      have hlay := F.2.2.2.2.1 _ ((gw_cls hq).1 _ (u_in_lay hk))
      unfold u_lay at hlay
      rw [if_pos (by simpa using hfin)] at hlay
      have hcf : m.cls = cf := by
        obtain ⟨_, _, c', _, _, _, -, -, hf', -, -, -, hown2, -⟩ := Cond.laysFinal_spec hlay
        have e1 : c' = cf := by have := hi.symm.trans hf'; simp at this; exact this.1.symm
        rw [hown trivial] at hown2
        rw [← e1]; exact Option.some.inj (F.2.2.2.1.symm.trans hown2)
      have hty : gw_ty ci k = .int ∨ gw_ty ci k = .boolean ∨ ∀ b, narrow (gw_ty ci k) (.ref b) = .ref b ∧ (fits (gw_ty ci k) (.ref b) = true ∨ True) := by
        right; right
        intro b
        cases gw_ty ci k <;> exact ⟨rfl, Or.inr trivial⟩
      have h6 : narrow f.type (Value.ref (x.1 + r)) = Value.ref (x.1 + r) ∧ s.fitsSlot cell.cls .none f.slot (Value.ref (x.1 + r)) = true := by
        rw [q2]
        refine u_fits hfc hkC hkind (Or.inr hlay) hi ((gw_cls hq).2.1 k hk) ?_ ?_
        · cases gw_ty ci k <;> rfl
        · have hfr : ∀ (ci k : Nat), ci < 12 → k < gw_nf ci → gw_ft (gw_ty ci k) = 1 → (∃ n, gw_ty ci k = .object n) ∨ ∃ t, gw_ty ci k = .array t := by
            intro ci k hci hk hf
            have hall : ∀ ci, ci < 12 → ∀ k, k < 15 → k < gw_nf ci → gw_ft (gw_ty ci k) = 1 → (match gw_ty ci k with | .object _ => true | .array _ => true | _ => false) = true := by decide +kernel
            have hn15 : ∀ ci, ci < 12 → gw_nf ci ≤ 15 := by decide
            have := hall ci hci k (by have := hn15 ci hci; omega) hk hf
            cases hgt : gw_ty ci k with
            | object n => exact Or.inl ⟨n, rfl⟩
            | array t => exact Or.inr ⟨t, rfl⟩
            | _ => rw [hgt] at this; cases this
          rcases hfr ci k (gw_cls hq).2.2.2.2 (by rw [← (gw_cls hq).2.2.2.1]; exact hk) hft.symm with ⟨n, hn⟩ | ⟨n, hn⟩ <;> rw [hn] <;> rfl
      have hin1 : meth.name = "<init>" := by
        rcases hin0 with z | z
        · exact z
        · exact absurd rfl z
      show W p l e R s m args below meth c H locs cc ss Z (F0 m pc ls (gw_v x (.ref r) :: gw_v x (.ref a) :: t.map (gw_v x)))
      rw [hra, gw_v_ref x hr0]
      refine W.putFinK F.1 F.2.1 F.2.2.2.1 (F.2.2.2.2.1 _ (gw_is_spec hli)) hi hst hcf hin1 h6 q1 q3 (by rw [hsl]; exact k2_hasslot (q4 k hk)) rfl rfl hd (fun H1 e1 z1 o1 => ?_)
      rw [hsl] at e1
      refine hN _ _ _ _ _ _ hn H1 _ ls (gw_rep_store hr z1 o1 h1 rfl (fun b hb jj => gw_sr_ne hb jj) (fun _ _ _ => rfl) ?_ (fun q hq => gw_locs hq)) hl
      refine cellOf ci k a q _ _ (.ref (x.1 + r)) H1 cell hq hka hk rfl (fun k' hk' => ?_) ?_ q2 q3 q4 e1
      · simp [gw_fld, gw_rf, gw_sr, hk']
      · rw [gw_fld, if_pos hft.symm]
        simp only [gw_rf, gw_sr, and_self, if_true]
        exact gw_v_ref x hr0
  · rename_i ci k ti v a t
    obtain ⟨hka, hv01, hn⟩ := h
    cases hq : vwCl[ci]? with
    | none => simp [hq] at hlk
    | some q =>
      simp only [hq, Bool.and_eq_true, decide_eq_true_eq] at hlk
      obtain ⟨⟨⟨⟨hk, hft⟩, hfin⟩, hown⟩, hli⟩ := hlk
      intro H locs ls hr hl
      obtain ⟨h1, h2, hc, hra⟩ := gw_kd_ok hr hka (by have := (gw_cls hq).2.2.2.2; omega)
      have hob := hc.2.2.2 q (by rw [hka]; exact hq)
      rw [hka] at hob
      obtain ⟨cell, q1, q2, q3, q4⟩ := hob
      obtain ⟨hS, hfc, kC, hkC, hkind⟩ := F.2.2.2.2.2.1.1 ci q hq
      obtain ⟨cf, kf, fi, f, hi, hsl⟩ := hS k hk
      have hst := (u_facts hfc hkC (u_lays F.2.2.2.2.1 (gw_cls hq).1 hk) hi).1
      have hlay := F.2.2.2.2.1 _ ((gw_cls hq).1 _ (u_in_lay hk))
      unfold u_lay at hlay
      rw [if_neg (by simp at hfin; simp [hfin])] at hlay
      have hgt : gw_ty ci k = .boolean := by
        cases hz : gw_ty ci k <;> rw [hz] at hft <;> first | rfl | (simp [gw_ft] at hft)
      have h6 : k2_Sd s f cell.cls (Value.int v) := by
        rw [q2]
        refine u_store hfc hkC hkind hlay hi ((gw_cls hq).2.1 k hk) ?_ ?_
        · rw [hgt]; rcases hv01 with rfl | rfl <;> rfl
        · rw [hgt]; rcases hv01 with rfl | rfl <;> rfl
      show W p l e R s m args below meth c H locs cc ss Z (F0 m pc ls (.int v :: gw_v x (.ref a) :: t.map (gw_v x)))
      rw [hra]
      refine W.putK F.1 F.2.1 (f := f) ⟨F.2.2.2.1, F.2.2.2.2.1 _ (gw_is_spec hli), ⟨_, _, _, hi⟩, hst⟩ h6 q1 q3 (by rw [hsl]; exact k2_hasslot (q4 k hk)) rfl rfl hd (fun H1 e1 z1 o1 => ?_)
      rw [hsl] at e1
      refine hN _ _ _ _ _ _ hn H1 _ ls (gw_rep_store hr z1 o1 h1 rfl (fun _ _ _ => rfl) (fun b hb jj => gw_up_ne hb jj) ?_ (fun q hq => gw_locs hq)) hl
      refine cellOf ci k a q _ _ (.int v) H1 cell hq hka hk rfl (fun k' hk' => ?_) ?_ q2 q3 q4 e1
      · simp [gw_fld, gw_up, hk']
      · rw [gw_fld, if_neg (by rw [← hft]; decide)]
        simp [gw_up]
  · rename_i ci k ti v a t
    obtain ⟨hka, hn⟩ := h
    cases hq : vwCl[ci]? with
    | none => simp [hq] at hlk
    | some q =>
      simp only [hq, Bool.and_eq_true, decide_eq_true_eq] at hlk
      obtain ⟨⟨⟨⟨hk, hft⟩, hfin⟩, hown⟩, hli⟩ := hlk
      intro H locs ls hr hl
      obtain ⟨h1, h2, hc, hra⟩ := gw_kd_ok hr hka (by have := (gw_cls hq).2.2.2.2; omega)
      have hob := hc.2.2.2 q (by rw [hka]; exact hq)
      rw [hka] at hob
      obtain ⟨cell, q1, q2, q3, q4⟩ := hob
      obtain ⟨hS, hfc, kC, hkC, hkind⟩ := F.2.2.2.2.2.1.1 ci q hq
      obtain ⟨cf, kf, fi, f, hi, hsl⟩ := hS k hk
      have hst := (u_facts hfc hkC (u_lays F.2.2.2.2.1 (gw_cls hq).1 hk) hi).1
      have hlay := F.2.2.2.2.1 _ ((gw_cls hq).1 _ (u_in_lay hk))
      unfold u_lay at hlay
      rw [if_neg (by simp at hfin; simp [hfin])] at hlay
      have hgt : gw_ty ci k = .int := by
        cases hz : gw_ty ci k <;> rw [hz] at hft <;> first | rfl | (simp [gw_ft] at hft)
      have h6 : k2_Sd s f cell.cls (Value.int v) := by
        rw [q2]
        refine u_store hfc hkC hkind hlay hi ((gw_cls hq).2.1 k hk) ?_ ?_
        · rw [hgt]; rfl
        · rw [hgt]; rfl
      show W p l e R s m args below meth c H locs cc ss Z (F0 m pc ls (.int v :: gw_v x (.ref a) :: t.map (gw_v x)))
      rw [hra]
      refine W.putK F.1 F.2.1 (f := f) ⟨F.2.2.2.1, F.2.2.2.2.1 _ (gw_is_spec hli), ⟨_, _, _, hi⟩, hst⟩ h6 q1 q3 (by rw [hsl]; exact k2_hasslot (q4 k hk)) rfl rfl hd (fun H1 e1 z1 o1 => ?_)
      rw [hsl] at e1
      refine hN _ _ _ _ _ _ hn H1 _ ls (gw_rep_store hr z1 o1 h1 rfl (fun _ _ _ => rfl) (fun b hb jj => gw_up_ne hb jj) ?_ (fun q hq => gw_locs hq)) hl
      refine cellOf ci k a q _ _ (.int v) H1 cell hq hka hk rfl (fun k' hk' => ?_) ?_ q2 q3 q4 e1
      · simp [gw_fld, gw_up, hk']
      · rw [gw_fld, if_neg (by rw [← hft]; decide)]
        simp [gw_up]
  · exact h.elim
end SND3
end
section
/-! ===== soundness: fields, arrays, new cells ===== -/
section SND4
variable {p : Program} {l : Launch} {e : Env} {R : Room} {s : State} {m : MethodId} {args : Array Value} {below : List Frame} {meth : Method} {c : Code} {Z : State → Prop} {x : gw_C} {nL : Nat} {cb : ByteArray} {own : String}
variable {ok : gw_Ok} {mc ms pc : Nat} {Q : Option Value → gw_S → gw_M → Prop} {K : Nat → gw_Kt} {an : List Nat} {iv : List Int32} {sg : List gw_Sig} {lv st : List Value} {S : gw_S} {μ : gw_M} {cc ss : Nat} {N : gw_Kt} {rt : Option FieldType} {j : Nat}
variable {aty : ArrayType}
theorem gw_s_newarray (F : gw_fx p s m args c x nL cb own) (hRm : mc ≤ R.cells ∧ ms ≤ R.slots) (hac : (Cond.arrayClass .int).before args s = true) (hd : decode cb pc = .ok (.newarray aty, 2)) (hlk : gw_lk own nL rt pc (.newarray aty) an iv sg = true) (h : gw_step ok x mc ms Q K (.newarray aty) an iv sg lv st S μ cc ss N) (hN : ∀ lv st S μ cc ss, N lv st S μ cc ss → gw_at p l e R s m args below meth c Z x nL (pc + 2) lv st S μ cc ss) (hK : ∀ t lv st S μ cc ss, K t lv st S μ cc ss → gw_at p l e R s m args below meth c Z x nL t lv st S μ cc ss) : gw_at p l e R s m args below meth c Z x nL pc lv st S μ cc ss := by
  simp only [gw_step] at h
  simp only [gw_lk, decide_eq_true_eq] at hlk
  subst hlk
  split at h
  · rename_i n t
    obtain ⟨hin, h1, h2, hn⟩ := h
    intro H locs ls hr hl
    refine va_newaK F.1 F.2.1 (atype := .int) hac rfl hd rfl (Int32.not_lt.mpr hin.1) rfl ?_ (by omega) (by omega) (h := x.1 + (gw_nn S + 1)) (by rw [hr.2.2.1]; omega) (fun H1 cA e1 z1 o1 hAr hNm => ?_)
    · have : componentBytes (newarray.typeOf .int) = 4 := rfl
      rw [this]
      have := hin.2
      omega
    · have hcA : cA = x.2.2.2.1 := by
        have := (F.2.2.2.2.2.1.2 0 _ rfl).2
        exact Option.some.inj (hNm.symm.trans this)
      subst hcA
      refine hN _ _ _ _ _ _ hn H1 locs ls (gw_rep_new hr (by rw [z1, hr.2.2.1]; omega) (fun q hq => o1 q (by rw [hr.2.2.1] at hq; omega)) ?_) hl
      have hk : gw_kd (gw_new S 12 n.toNatClampNeg) (gw_nn S + 1) = 12 := by simp [gw_kd, gw_new, gw_nn]
      refine ⟨fun _ => ?_, fun z => by omega, fun z => by omega, fun q hq => ?_⟩
      · rw [e1]
        have e2 : gw_ln (gw_new S 12 n.toNatClampNeg) (gw_nn S + 1) = n.toNatClampNeg := by simp [gw_ln, gw_new, gw_nn]
        rw [e2]
        congr 2
        funext jj
        simp [gw_row]
        rfl
      · rw [hk] at hq
        have := (gw_cls hq).2.2.2.2
        omega
  · exact h.elim
theorem gw_s_anewarray (F : gw_fx p s m args c x nL cb own) (hRm : mc ≤ R.cells ∧ ms ≤ R.slots) (hd : decode cb pc = .ok (.anewarray j, 3)) (hlk : gw_lk own nL rt pc (.anewarray j) an iv sg = true) (h : gw_step ok x mc ms Q K (.anewarray j) an iv sg lv st S μ cc ss N) (hN : ∀ lv st S μ cc ss, N lv st S μ cc ss → gw_at p l e R s m args below meth c Z x nL (pc + 3) lv st S μ cc ss) (hK : ∀ t lv st S μ cc ss, K t lv st S μ cc ss → gw_at p l e R s m args below meth c Z x nL t lv st S μ cc ss) : gw_at p l e R s m args below meth c Z x nL pc lv st S μ cc ss := by
  simp only [gw_step] at h
  simp only [gw_lk] at hlk
  have key : ∀ (C : String) (kd t1 : Nat) (cA' : ClassId) (n : Int32) (t : List Value), an.head? = some kd → (Cond.classLink own j C) ∈ gw_tb → (Cond.arrayOver (.object C)) ∈ gw_nest → va_RA s cA' (.object C) → (kd = 13 ∧ cA' = x.2.2.2.2.1 ∨ kd = 14 ∧ cA' = x.2.2.2.2.2.1) → gw_in n 100000 → cc + 1 ≤ mc → ss + n.toNatClampNeg ≤ ms → N lv (.ref (gw_nn S + 1) :: t) (gw_new S kd n.toNatClampNeg) (gw_row μ (gw_nn S + 1) (fun _ => 0)) (cc + 1) (ss + n.toNatClampNeg) → gw_at p l e R s m args below meth c Z x nL pc lv (.int n :: t) S μ cc ss := by
    intro C kd t1 cA' n t han hc1 hc2 hRA hkd hin h1 h2 hn H locs ls hr hl
    refine W.anew F.1 F.2.1 F.2.2.2.1 (F.2.2.2.2.1 _ hc1) (va_AO.use (F.2.2.2.2.2.2.2.2 _ hc2)) rfl hd rfl (Int32.not_lt.mpr hin.1) (by have := hin.2; omega) (by omega) (by omega) (fun cA kA comp f1 f2 f3 f4 => ?_)
    have hcA : cA = cA' := by
      obtain ⟨kA', comp', -, -, -, g4⟩ := hRA
      exact Option.some.inj (f1.symm.trans g4)
    subst hcA
    generalize hH1 : H.push ({ cls := cA, slots := Array.replicate n.toNatClampNeg .null, vm := .none } : Cell) = H1
    have z1 : H1.size = H.size + 1 := by rw [← hH1, Array.size_push]
    have e1 : H1[H.size]? = some (arrV cA n.toNatClampNeg (fun _ => .null)) := by rw [← hH1, Array.getElem?_push_size, ← arrV_new]
    have o1 : ∀ q : Nat, q < H.size → H1[q]? = H[q]? := fun q hq => by rw [← hH1, Array.getElem?_push, if_neg (Nat.ne_of_lt hq)]
    have eH : H.size = x.1 + (gw_nn S + 1) := by rw [hr.2.2.1]; omega
    rw [eH] at e1 ⊢
    refine hN _ _ _ _ _ _ hn H1 locs ls (gw_rep_new hr z1 o1 ?_) hl
    have hk : gw_kd (gw_new S kd n.toNatClampNeg) (gw_nn S + 1) = kd := by simp [gw_kd, gw_new, gw_nn]
    have e2 : gw_ln (gw_new S kd n.toNatClampNeg) (gw_nn S + 1) = n.toNatClampNeg := by simp [gw_ln, gw_new, gw_nn]
    have e3 : (fun jj => gw_v x (.ref (gw_rf (gw_new S kd n.toNatClampNeg) (gw_nn S + 1) jj))) = fun _ => .null := by
      funext jj
      simp [gw_rf, gw_new, gw_nn, gw_v]
    refine ⟨fun z => by omega, fun z => ?_, fun z => ?_, fun q hq => ?_⟩
    · rw [e1, e2, e3]
      rcases hkd with ⟨_, rfl⟩ | ⟨q, _⟩
      · rfl
      · omega
    · rw [e1, e2, e3]
      rcases hkd with ⟨q, _⟩ | ⟨_, rfl⟩
      · omega
      · rfl
    · rw [hk] at hq
      have := (gw_cls hq).2.2.2.2
      omega
  split at h
  · rename_i kd rest n t
    obtain ⟨hin, h1, h2, hn⟩ := h
    split at hlk
    · rename_i heq
      cases heq
      simp only [Bool.or_eq_true, Bool.and_eq_true, decide_eq_true_eq] at hlk
      rcases hlk with ⟨⟨rfl, c1⟩, c2⟩ | ⟨⟨rfl, c1⟩, c2⟩
      · exact key RX1 13 0 _ n t rfl (gw_is_spec c1) (gw_in1_spec c2) (F.2.2.2.2.2.1.2 1 _ rfl).2 (Or.inl ⟨rfl, rfl⟩) hin h1 h2 hn
      · exact key RX3 14 0 _ n t rfl (gw_is_spec c1) (gw_in1_spec c2) (F.2.2.2.2.2.1.2 2 _ rfl).2 (Or.inr ⟨rfl, rfl⟩) hin h1 h2 hn
    · cases hlk
  · exact h.elim
theorem gw_dflt : ∀ ci, ci < 12 → ∀ k, k < 15 → k < gw_nf ci → defaultValue (gw_ty ci k) = if gw_ft (gw_ty ci k) = 1 then .null else .int 0 := by decide +kernel
theorem gw_nf15 : ∀ ci, ci < 12 → gw_nf ci ≤ 15 := by decide
theorem gw_s_new (F : gw_fx p s m args c x nL cb own) (hRm : mc ≤ R.cells ∧ ms ≤ R.slots) (hd : decode cb pc = .ok (.new j, 3)) (hlk : gw_lk own nL rt pc (.new j) an iv sg = true) (h : gw_step ok x mc ms Q K (.new j) an iv sg lv st S μ cc ss N) (hN : ∀ lv st S μ cc ss, N lv st S μ cc ss → gw_at p l e R s m args below meth c Z x nL (pc + 3) lv st S μ cc ss) (hK : ∀ t lv st S μ cc ss, K t lv st S μ cc ss → gw_at p l e R s m args below meth c Z x nL t lv st S μ cc ss) : gw_at p l e R s m args below meth c Z x nL pc lv st S μ cc ss := by
  simp only [gw_step] at h
  simp only [gw_lk] at hlk
  split at h
  · rename_i ci rest
    obtain ⟨h1, h2, hn⟩ := h
    split at hlk
    · rename_i heq
      cases heq
      cases hq : vwCl[ci]? with
      | none => simp [hq] at hlk
      | some q =>
        simp only [hq, Bool.and_eq_true] at hlk
        obtain ⟨⟨c1, c2⟩, c3⟩ := hlk
        intro H locs ls hr hl
        have hKn := F.2.2.2.2.2.1.1 ci q hq
        have hnf := (gw_cls hq).2.2.2.1
        have hci := (gw_cls hq).2.2.2.2
        refine W.widen (k := cc) (n := ss) (Nat.le_refl _) (Nat.le_refl _) ?_
        refine W.newcK F.1 F.2.1 F.2.2.2.1 (F.2.2.2.2.1 _ (gw_is_spec c1)) (F.2.2.2.2.1 _ (gw_is_spec c2)) (F.2.2.2.2.1 _ (gw_is_spec c3)) rfl hd (by omega) (by rw [hnf]; omega) hKn.2.1 (h := x.1 + (gw_nn S + 1)) (by rw [hr.2.2.1]; omega) (fun H1 kC hkC e1 z1 o1 => ?_)
        rw [hnf]
        refine hN _ _ _ _ _ _ hn H1 locs ls (gw_rep_new hr (by rw [z1, hr.2.2.1]; omega) (fun q hq => o1 q (by rw [hr.2.2.1] at hq; omega)) ?_) hl
        have hk : gw_kd (gw_new S ci 0) (gw_nn S + 1) = ci := by simp [gw_kd, gw_new, gw_nn]
        refine ⟨fun z => by omega, fun z => by omega, fun z => by omega, fun q' hq' => ?_⟩
        rw [hk] at hq' ⊢
        cases hq.symm.trans hq'
        refine (u_born (gw_ty ci) F.2.2.2.2.1 (gw_cls hq).1 hKn hkC e1 (gw_cls hq).2.1).to (fun k hk => ?_)
        rw [gw_dflt ci hci k (by have := gw_nf15 ci hci; omega) (by omega)]
        simp only [gw_fld]
        split
        · simp [gw_rf, gw_new, gw_nn, gw_v]
        · simp [gw_row]
    · cases hlk
  · exact h.elim
end SND4
end
section
/-! ===== soundness: fields, arrays, new cells ===== -/
section SND5
variable {p : Program} {l : Launch} {e : Env} {R : Room} {s : State} {m : MethodId} {args : Array Value} {below : List Frame} {meth : Method} {c : Code} {Z : State → Prop} {x : gw_C} {nL : Nat} {cb : ByteArray} {own : String}
variable {d : Nat} {mc ms pc : Nat} {Q : Option Value → gw_S → gw_M → Prop} {K : Nat → gw_Kt} {an : List Nat} {iv : List Int32} {sg : List gw_Sig} {lv st : List Value} {S : gw_S} {μ : gw_M} {cc ss : Nat} {N : gw_Kt} {rt : Option FieldType} {j : Nat}
theorem gw_r8_sum (x : gw_C) : ∀ (l : List Value) (n : Nat), gw_r8 l n = true → ((l.map (gw_v x)).map fun v => v.category).sum ≤ n
  | [], n, _ => by simp
  | v :: l, 0, h => by cases v <;> simp [gw_r8] at h
  | v :: l, n + 1, h => by
    have hc : v.category = 1 ∧ gw_r8 l n = true := by
      cases v <;> simp [gw_r8] at h <;> exact ⟨rfl, h⟩
    have := gw_r8_sum x l n hc.2
    have h2 := gw_v_cat x hc.1
    simp only [List.map_cons, List.sum_cons, h2]
    omega
theorem gw_nth_split : ∀ (l : List Value) (n : Nat) (v : Value), gw_nth l n = v → v ≠ .retAddr 0 → l = l.take n ++ v :: l.drop (n + 1) ∧ n < l.length
  | [], n, v, h, hv => absurd h.symm hv
  | w :: l, 0, v, h, hv => by
    subst h
    simp [gw_nth]
  | w :: l, n + 1, v, h, hv => by
    obtain ⟨h1, h2⟩ := gw_nth_split l n v h hv
    refine ⟨?_, by simp; exact h2⟩
    simp only [List.take_succ_cons, List.drop_succ_cons, List.cons_append]
    rw [← h1]
theorem gw_blind (x : gw_C) (av : List Value) (S : gw_S) (μ : gw_M) : FrameBlind (va_Pc av (gw_wd x S μ)) := fun a U g mk q => ⟨q.1, q.2.1, gw_kk_same (u := U) (U := U.calling g mk a) rfl q.2.2⟩
theorem gw_pre {as : List Value} {H : Heap} {locs : List Loc} (hr : gw_rep x S μ H locs) (hk : gw_kk x s) : ∀ U : State, U.heap = H → s.WarmedH U.vm → va_Pc as (gw_wd x S μ) as.toArray U := fun U hU hW => ⟨rfl, by rw [hU]; exact ⟨hr.1, hr.2.1, hr.2.2.1, hr.2.2.2.1, hr.2.2.2.2.1, fun q hq => by cases hq⟩, gw_kk_moved hW hk⟩
theorem gw_callrow {mc' ms' : Nat} {ls : Array Slot} {st0 rest : List Value} {H : Heap} {locs : List Loc} {a : Array Value} {Q' : Option Value → gw_S → gw_M → Prop} (hr : va_Run p l e R s m args below meth c H locs cc ss mc' ms' (F0 m pc ls st0) rest (gw_qc x Q' a) (gw_A x)) (hloc : ∀ q ∈ locs, x.1 < q.base)
    (kk : ∀ (r : Option Value) (S' : gw_S) (μ' : gw_M) (H1 : Heap) (locs1 : List Loc), Q' r S' μ' → gw_rep x S' μ' H1 locs1 → W p l e R s m args below meth c H1 locs1 (cc + mc') (ss + ms') Z (F0 m (pc + 3) ls ((r.map (gw_v x)).toList ++ rest))) : W p l e R s m args below meth c H locs cc ss Z (F0 m pc ls st0) := by
  intro T hT X
  obtain ⟨v, st₀, t, T', L, h0, X', hL, e1, e2, ⟨r, S', μ', hv, hq, hw⟩, st⟩ := hr T hT X
  cases hv
  obtain ⟨t2, a1, b1⟩ := kk r S' μ' T'.heap (locs ++ L) hq (by
    rw [e1]
    obtain ⟨⟨w1, w2, w3, w4, w5, w6⟩, -⟩ := hw
    exact ⟨w1, w2, w3, w4, w5, fun q hq => (List.mem_append.mp hq).elim (hloc q) (hL q)⟩) T' rfl X'
  exact ⟨t2, st t2 a1, b1⟩
theorem gw_good {g : gw_Sig} (h : Cond.code g.1 g.2.1 g.2.2.1 g.2.2.2 ∈ gw_tb) : GoodIn gw_tb (gw_wsg g) := fun w hw => by
  have hm : w ∈ gw_tb := (List.mem_cons.mp hw).elim (fun e => e ▸ h) id
  exact ⟨hm, good_of_word (gw_tb_good w hm)⟩
theorem gw_call_spec {g : gw_Sig} {n : Nat} (h : gw_call g n = true) : (g.1.cls ≠ "java/lang/invoke/MethodHandle" ∧ g.1.cls ≠ "java/lang/invoke/VarHandle" ∧ (parseMethodDescriptor g.1.desc).map (fun d => d.parameters.length) = some n) ∧ g.2.2.1 ≤ 20 := by
  simp only [gw_call, Bool.and_eq_true, decide_eq_true_eq] at h
  exact ⟨⟨h.1.1.1, h.1.1.2, h.1.2⟩, h.2⟩
theorem gw_ret_map (r : Option Value) (t : List Value) : (r.map (gw_v x)).toList ++ t.map (gw_v x) = (r.toList ++ t).map (gw_v x) := by cases r <;> rfl
theorem gw_s_invokevirtual (F : gw_fx p s m args c x nL cb own) (hRm : mc ≤ R.cells ∧ ms ≤ R.slots) (hRf : d + 1 ≤ R.frames ∧ 40 * d + 40 ≤ R.locals) (hd : decode cb pc = .ok (.invokevirtual j, 3)) (hlk : gw_lk own nL rt pc (.invokevirtual j) an iv sg = true) (h : gw_step (gw_ok l x d) x mc ms Q K (.invokevirtual j) an iv sg lv st S μ cc ss N) (hN : ∀ lv st S μ cc ss, N lv st S μ cc ss → gw_at p l e R s m args below meth c Z x nL (pc + 3) lv st S μ cc ss) (hK : ∀ t lv st S μ cc ss, K t lv st S μ cc ss → gw_at p l e R s m args below meth c Z x nL t lv st S μ cc ss) : gw_at p l e R s m args below meth c Z x nL pc lv st S μ cc ss := by
  simp only [gw_step] at h
  simp only [gw_lk] at hlk
  split at h
  · rename_i n ci rest0 g
    cases hv : gw_nth st n with
    | ref a =>
      rw [hv] at h
      obtain ⟨hka, hr8, mc', ms', hm1, hm2, hcode, hM⟩ := h
      obtain ⟨hsp, hlt⟩ := gw_nth_split st n _ hv (fun z => by cases z)
      split at hlk
      · rename_i heq1 heq2
        cases heq1
        cases heq2
        cases hq : vwCl[ci]? with
        | none => simp [hq] at hlk
        | some q =>
          simp only [hq, Bool.and_eq_true, decide_eq_true_eq] at hlk
          obtain ⟨⟨⟨⟨⟨c0, c1⟩, c2⟩, c3⟩, c4⟩, c5⟩ := hlk
          obtain ⟨cd, cl⟩ := gw_call_spec c1
          intro H locs ls hr hl
          obtain ⟨g1, g2, hc, hra⟩ := gw_kd_ok hr hka (by have := (gw_cls hq).2.2.2.2; omega)
          have hob := hc.2.2.2 q (by rw [hka]; exact hq)
          rw [hka] at hob
          obtain ⟨cell, q1, q2, q3, q4⟩ := hob
          refine gw_callrow (mc' := mc') (ms' := ms') (rest := (st.drop (n + 1)).map (gw_v x)) (va_runV (bytes := g.2.1) (maxL := g.2.2.1) (ret := g.2.2.2) (n := n) (As := ((st.take n).reverse).map (gw_v x)) (b := x.1 + a) (C := q.1) ⟨F.1, F.2.1, F.2.2.1, F.2.2.2.1, F.2.2.2.2.1⟩ hM ?_ ⟨gw_blind x _ S μ, ⟨cell, q1, by rw [q3]; rfl, ?_⟩, ?_⟩ rfl ?_ hl.1 ?_ (lv_room (gw_r8_sum x _ _ hr8)) hd ⟨by omega, by omega⟩) hr.2.2.2.2.2 ?_
          · exact ⟨callB_of n F.2.2.2.2.1 (gw_good hcode) rfl rfl rfl (by rw [c0]; exact F.2.2.2.2.1 _ (gw_is_spec c5)) (F.2.2.2.2.1 _ (gw_is_spec c2)) cd ⟨hRf.1, by show 8 + (g.2.2.1 + 11) + 40 * d ≤ R.locals; omega⟩, F.2.2.2.2.1 _ (gw_is_spec c3), F.2.2.2.2.1 _ (gw_is_spec c4)⟩
          · rw [q2]; exact (F.2.2.2.2.2.1.1 ci q hq).2.1
          · have := gw_pre (as := (gw_v x (.ref a)) :: ((st.take n).reverse).map (gw_v x)) hr F.2.2.2.2.2
            rw [hra] at this
            simpa only [List.map_cons, hra] using this
          · simp only [List.length_map, List.length_reverse, List.length_take]
            omega
          · show st.map (gw_v x) = _
            rw [← List.map_reverse, List.reverse_reverse, ← hra, ← List.map_cons, ← List.map_append, ← hsp]
          · intro r S' μ' H1 locs1 hq' hr'
            rw [gw_ret_map]
            exact hN _ _ _ _ _ _ hq' H1 locs1 ls hr' hl
      · cases hlk
    | retAddr v =>
      rw [hv] at h
      match v, h with
      | 0, h => exact h.elim
      | 1, h => exact h.elim
      | _ + 2, h => exact h.elim
    | _ => rw [hv] at h; exact h.elim
  · exact h.elim
theorem gw_st0 {n : Nat} {g : gw_Sig} (F : gw_fx p s m args c x nL cb own) (hRm : mc ≤ R.cells ∧ ms ≤ R.slots) (hRf : d + 1 ≤ R.frames ∧ 40 * d + 40 ≤ R.locals) (hd : decode cb pc = .ok (.invokestatic j, 3)) (c1 : gw_call g n = true) {t1 t2 t3 : Nat} (c2 : gw_is t1 (.methodLink own j g.1) = true) (c3 : gw_is t2 (.static g.1) = true) (c4 : gw_is t3 (.initialized g.1.cls) = true)
    (h : gw_r8 (st.drop n) 8 = true ∧ n ≤ st.length ∧ ∃ mc' ms', cc + mc' ≤ mc ∧ ss + ms' ≤ ms ∧ gw_ok l x d g mc' ms' (st.take n).reverse S μ (fun r S' μ' => N lv (r.toList ++ st.drop n) S' μ' (cc + mc') (ss + ms'))) (hN : ∀ lv st S μ cc ss, N lv st S μ cc ss → gw_at p l e R s m args below meth c Z x nL (pc + 3) lv st S μ cc ss) : gw_at p l e R s m args below meth c Z x nL pc lv st S μ cc ss := by
  obtain ⟨hr8, hlen, mc', ms', hm1, hm2, hcode, hM⟩ := h
  obtain ⟨cd, cl⟩ := gw_call_spec c1
  intro H locs ls hr hl
  refine gw_callrow (mc' := mc') (ms' := ms') (rest := (st.drop n).map (gw_v x)) (va_runS (As := ((st.take n).reverse).map (gw_v x)) ⟨F.1, F.2.1, F.2.2.1, F.2.2.2.1, F.2.2.2.2.1⟩ hM ⟨callB_of n F.2.2.2.2.1 (gw_good hcode) rfl rfl rfl (F.2.2.2.2.1 _ (gw_is_spec c4)) (F.2.2.2.2.1 _ (gw_is_spec c2)) cd ⟨hRf.1, by show 8 + (g.2.2.1 + 11) + 40 * d ≤ R.locals; omega⟩, F.2.2.2.2.1 _ (gw_is_spec c3)⟩ ⟨gw_blind x _ S μ, gw_pre hr F.2.2.2.2.2⟩ rfl ?_ hl.1 ?_ (lv_room (gw_r8_sum x _ _ hr8)) hd ⟨by omega, by omega⟩) hr.2.2.2.2.2 ?_
  · simp only [List.length_map, List.length_reverse, List.length_take]
    omega
  · show st.map (gw_v x) = _
    rw [← List.map_reverse, List.reverse_reverse, ← List.map_append, List.take_append_drop]
  · intro r S' μ' H1 locs1 hq' hr'
    rw [gw_ret_map]
    exact hN _ _ _ _ _ _ hq' H1 locs1 ls hr' hl
theorem gw_sp0 {n a : Nat} {g : gw_Sig} (F : gw_fx p s m args c x nL cb own) (hRm : mc ≤ R.cells ∧ ms ≤ R.slots) (hRf : d + 1 ≤ R.frames ∧ 40 * d + 40 ≤ R.locals) (hd : decode cb pc = .ok (.invokespecial j, 3)) (c1 : gw_call g n = true) (hnm : g.1.name = "<init>") (hrt : g.2.2.2 = none) {t1 t2 t3 : Nat} (c2 : gw_is t1 (.methodLink own j g.1) = true) (c3 : gw_is t2 (.instanceMethod g.1) = true) (c4 : gw_is t3 (.initialized g.1.cls) = true) (hv : gw_nth st n = .ref a)
    (h : ¬ a = 0 ∧ gw_r8 (st.drop (n + 1)) 8 = true ∧ ∃ mc' ms', cc + mc' ≤ mc ∧ ss + ms' ≤ ms ∧ gw_ok l x d g mc' ms' (.ref a :: (st.take n).reverse) S μ (fun r S' μ' => N lv (r.toList ++ st.drop (n + 1)) S' μ' (cc + mc') (ss + ms'))) (hN : ∀ lv st S μ cc ss, N lv st S μ cc ss → gw_at p l e R s m args below meth c Z x nL (pc + 3) lv st S μ cc ss) : gw_at p l e R s m args below meth c Z x nL pc lv st S μ cc ss := by
  obtain ⟨ha, hr8, mc', ms', hm1, hm2, hcode, hM⟩ := h
  obtain ⟨hsp, hlt⟩ := gw_nth_split st n _ hv (fun z => by cases z)
  obtain ⟨cd, cl⟩ := gw_call_spec c1
  have hra := gw_v_ref x ha
  intro H locs ls hr hl
  refine gw_callrow (mc' := mc') (ms' := ms') (rest := (st.drop (n + 1)).map (gw_v x)) (va_runI (As := ((st.take n).reverse).map (gw_v x)) (b := x.1 + a) ⟨F.1, F.2.1, F.2.2.1, F.2.2.2.1, F.2.2.2.2.1⟩ hM ⟨callB_of n F.2.2.2.2.1 (gw_good hcode) (by rw [gw_wsg, hrt]) rfl rfl (F.2.2.2.2.1 _ (gw_is_spec c4)) (F.2.2.2.2.1 _ (gw_is_spec c2)) cd ⟨hRf.1, by show 8 + (g.2.2.1 + 11) + 40 * d ≤ R.locals; omega⟩, hnm, F.2.2.2.2.1 _ (gw_is_spec c3)⟩ ⟨gw_blind x _ S μ, ?_⟩ rfl ?_ hl.1 ?_ (lv_room (gw_r8_sum x _ _ hr8)) hd ⟨by omega, by omega⟩) hr.2.2.2.2.2 ?_
  · have := gw_pre (as := (gw_v x (.ref a)) :: ((st.take n).reverse).map (gw_v x)) hr F.2.2.2.2.2
    rw [hra] at this
    simpa only [List.map_cons, hra] using this
  · simp only [List.length_map, List.length_reverse, List.length_take]
    omega
  · show st.map (gw_v x) = _
    rw [← List.map_reverse, List.reverse_reverse, ← hra, ← List.map_cons, ← List.map_append, ← hsp]
  · intro r S' μ' H1 locs1 hq' hr'
    rw [gw_ret_map]
    exact hN _ _ _ _ _ _ hq' H1 locs1 ls hr' hl
theorem gw_st1 {n : Nat} {g : gw_Sig} (F : gw_fx p s m args c x nL cb own) (hRm : mc ≤ R.cells ∧ ms ≤ R.slots) (hRf : d + 1 ≤ R.frames ∧ 40 * d + 40 ≤ R.locals) (hd : decode cb pc = .ok (.invokestatic j, 3)) (c1 : gw_call g n = true) {t1 t2 t3 : Nat} (c2 : gw_in1 t1 (.methodLinkNest own j g.1 RX10) = true) (c3 : gw_is t2 (.static g.1) = true) (c4 : gw_is t3 (.initialized g.1.cls) = true)
    (h : gw_r8 (st.drop n) 8 = true ∧ n ≤ st.length ∧ ∃ mc' ms', cc + mc' ≤ mc ∧ ss + ms' ≤ ms ∧ gw_ok l x d g mc' ms' (st.take n).reverse S μ (fun r S' μ' => N lv (r.toList ++ st.drop n) S' μ' (cc + mc') (ss + ms'))) (hN : ∀ lv st S μ cc ss, N lv st S μ cc ss → gw_at p l e R s m args below meth c Z x nL (pc + 3) lv st S μ cc ss) : gw_at p l e R s m args below meth c Z x nL pc lv st S μ cc ss := by
  obtain ⟨hr8, hlen, mc', ms', hm1, hm2, hcode, hM⟩ := h
  obtain ⟨cd, cl⟩ := gw_call_spec c1
  intro H locs ls hr hl
  refine gw_callrow (mc' := mc') (ms' := ms') (rest := (st.drop n).map (gw_v x)) (va_runSN (host := RX10) (As := ((st.take n).reverse).map (gw_v x)) ⟨F.1, F.2.1, F.2.2.1, F.2.2.2.1, F.2.2.2.2.1⟩ hM ⟨va_cnB n F.2.2.2.2.1 (gw_good hcode) rfl rfl rfl (F.2.2.2.2.2.2.2.2 _ (gw_in1_spec c2)) (F.2.2.2.2.1 _ (gw_is_spec c4)) cd ⟨hRf.1, by show 8 + (g.2.2.1 + 11) + 40 * d ≤ R.locals; omega⟩, F.2.2.2.2.1 _ (gw_is_spec c3), trivial⟩ ⟨gw_blind x _ S μ, gw_pre hr F.2.2.2.2.2⟩ rfl ?_ hl.1 ?_ (lv_room (gw_r8_sum x _ _ hr8)) hd ⟨by omega, by omega⟩) hr.2.2.2.2.2 ?_
  · simp only [List.length_map, List.length_reverse, List.length_take]
    omega
  · show st.map (gw_v x) = _
    rw [← List.map_reverse, List.reverse_reverse, ← List.map_append, List.take_append_drop]
  · intro r S' μ' H1 locs1 hq' hr'
    rw [gw_ret_map]
    exact hN _ _ _ _ _ _ hq' H1 locs1 ls hr' hl
theorem gw_sp1 {n a : Nat} {g : gw_Sig} (F : gw_fx p s m args c x nL cb own) (hRm : mc ≤ R.cells ∧ ms ≤ R.slots) (hRf : d + 1 ≤ R.frames ∧ 40 * d + 40 ≤ R.locals) (hd : decode cb pc = .ok (.invokespecial j, 3)) (c1 : gw_call g n = true) (hnm : g.1.name = "<init>") (hrt : g.2.2.2 = none) {t1 t2 t3 : Nat} (c2 : gw_in1 t1 (.methodLinkNest own j g.1 RX10) = true) (c3 : gw_is t2 (.instanceMethod g.1) = true) (c4 : gw_is t3 (.initialized g.1.cls) = true) (hv : gw_nth st n = .ref a)
    (h : ¬ a = 0 ∧ gw_r8 (st.drop (n + 1)) 8 = true ∧ ∃ mc' ms', cc + mc' ≤ mc ∧ ss + ms' ≤ ms ∧ gw_ok l x d g mc' ms' (.ref a :: (st.take n).reverse) S μ (fun r S' μ' => N lv (r.toList ++ st.drop (n + 1)) S' μ' (cc + mc') (ss + ms'))) (hN : ∀ lv st S μ cc ss, N lv st S μ cc ss → gw_at p l e R s m args below meth c Z x nL (pc + 3) lv st S μ cc ss) : gw_at p l e R s m args below meth c Z x nL pc lv st S μ cc ss := by
  obtain ⟨ha, hr8, mc', ms', hm1, hm2, hcode, hM⟩ := h
  obtain ⟨hsp, hlt⟩ := gw_nth_split st n _ hv (fun z => by cases z)
  obtain ⟨cd, cl⟩ := gw_call_spec c1
  have hra := gw_v_ref x ha
  intro H locs ls hr hl
  refine gw_callrow (mc' := mc') (ms' := ms') (rest := (st.drop (n + 1)).map (gw_v x)) (va_runIN (host := RX10) (As := ((st.take n).reverse).map (gw_v x)) (b := x.1 + a) ⟨F.1, F.2.1, F.2.2.1, F.2.2.2.1, F.2.2.2.2.1⟩ hM ⟨va_cnB n F.2.2.2.2.1 (gw_good hcode) (by rw [gw_wsg, hrt]) rfl rfl (F.2.2.2.2.2.2.2.2 _ (gw_in1_spec c2)) (F.2.2.2.2.1 _ (gw_is_spec c4)) cd ⟨hRf.1, by show 8 + (g.2.2.1 + 11) + 40 * d ≤ R.locals; omega⟩, hnm, F.2.2.2.2.1 _ (gw_is_spec c3)⟩ ⟨gw_blind x _ S μ, ?_⟩ rfl ?_ hl.1 ?_ (lv_room (gw_r8_sum x _ _ hr8)) hd ⟨by omega, by omega⟩) hr.2.2.2.2.2 ?_
  · have := gw_pre (as := (gw_v x (.ref a)) :: ((st.take n).reverse).map (gw_v x)) hr F.2.2.2.2.2
    rw [hra] at this
    simpa only [List.map_cons, hra] using this
  · simp only [List.length_map, List.length_reverse, List.length_take]
    omega
  · show st.map (gw_v x) = _
    rw [← List.map_reverse, List.reverse_reverse, ← hra, ← List.map_cons, ← List.map_append, ← hsp]
  · intro r S' μ' H1 locs1 hq' hr'
    rw [gw_ret_map]
    exact hN _ _ _ _ _ _ hq' H1 locs1 ls hr' hl
end SND5
end
section
/-! ===== soundness: fields, arrays, new cells ===== -/
section SND6
variable {p : Program} {l : Launch} {e : Env} {R : Room} {s : State} {m : MethodId} {args : Array Value} {below : List Frame} {meth : Method} {c : Code} {Z : State → Prop} {x : gw_C} {nL : Nat} {cb : ByteArray} {own : String}
variable {d : Nat} {mc ms pc : Nat} {Q : Option Value → gw_S → gw_M → Prop} {K : Nat → gw_Kt} {an : List Nat} {iv : List Int32} {sg : List gw_Sig} {lv st : List Value} {S : gw_S} {μ : gw_M} {cc ss : Nat} {N : gw_Kt} {rt : Option FieldType} {j : Nat}
theorem gw_ac : Cond.arrayClass .int ∈ gw_tb := gw_mem (i := 165) (by decide +kernel) rfl
theorem gw_nonneg {z : Int32} (h : 0 ≤ z) : z.toInt = (z.toNatClampNeg : Int) := by
  have h0 : (0 : Int) ≤ z.toInt := by simpa using Int32.le_iff_toInt_le.mp h
  show z.toInt = ((z.toInt.toNat : Nat) : Int)
  omega
/-- ints of one row into another -/
theorem gw_arraycopy {a b : Nat} {sp dp n : Int32} (F : gw_fx p s m args c x nL cb own) (hRf : d + 1 ≤ R.frames ∧ 40 * d + 40 ≤ R.locals) (hd : decode cb pc = .ok (.invokestatic j, 3)) {t1 t2 t3 t4 : Nat} (c1 : gw_is t1 (.methodLink own j arraycopyName) = true) (c2 : gw_is t2 (.native arraycopyName) = true) (c3 : gw_is t3 (.static arraycopyName) = true) (c4 : gw_is t4 (.initialized "java/lang/System") = true)
    (hka : gw_kd S a = 12) (hkb : gw_kd S b = 12) (h1 : 0 ≤ sp) (h2 : 0 ≤ dp) (h3 : 0 ≤ n) (h4 : sp.toNatClampNeg + n.toNatClampNeg ≤ gw_ln S a) (h5 : dp.toNatClampNeg + n.toNatClampNeg ≤ gw_ln S b) (hn : N lv [] S (gw_cpy μ a b sp.toNatClampNeg dp.toNatClampNeg n.toNatClampNeg) cc ss) (hN : ∀ lv st S μ cc ss, N lv st S μ cc ss → gw_at p l e R s m args below meth c Z x nL (pc + 3) lv st S μ cc ss) : gw_at p l e R s m args below meth c Z x nL pc lv [.int n, .int dp, .ref b, .int sp, .ref a] S μ cc ss := by
  intro H locs ls hr hl T hT X
  obtain ⟨a1, a2, hca, hra⟩ := gw_kd_ok hr hka (by decide)
  obtain ⟨b1, b2, hcb, hrb⟩ := gw_kd_ok hr hkb (by decide)
  have hA := hca.1 hka
  have hB := hcb.1 hkb
  obtain ⟨-, k0, hk0, cm0, hkk0⟩ := (F.2.2.2.2.2.1.2 0 _ rfl).1 (gw_ln S a) (fun j => .int (μ a j))
  obtain ⟨-, k1, hk1, cm1, hkk1⟩ := (F.2.2.2.2.2.1.2 0 _ rfl).1 (gw_ln S b) (fun j => .int (μ b j))
  obtain ⟨vm', X', step⟩ := X.arraycopy F.1 F.2.2.2.1 (F.2.2.2.2.1 _ (gw_is_spec c1)) (F.2.2.2.2.1 _ (gw_is_spec c2)) (F.2.2.2.2.1 _ (gw_is_spec c3)) (F.2.2.2.2.1 _ (gw_is_spec c4)) (srcPos := sp) (destPos := dp) (n := n) (by rw [hT]; exact hA) (by rw [hT]; exact hB)
    (fun _ h => by cases h) (fun _ h => by cases h) (fun h => by cases h) (fun h => by cases h) hk0 hk1 hkk0 hkk1 rfl (Int32.not_lt.mpr h1) (Int32.not_lt.mpr h2) (Int32.not_lt.mpr h3)
    (by rw [gw_nonneg h1, gw_nonneg h3, arrV_size]; omega) (by rw [gw_nonneg h2, gw_nonneg h3, arrV_size]; omega)
    (fun vm₁ _ i hi => by
      have e : (arrV x.2.2.2.1 (gw_ln S a) (fun j => .int (μ a j))).slots.getD (sp.toNatClampNeg + i) .null = .int (μ a (sp.toNatClampNeg + i)) := by
        rw [Array.getD_eq_getD_getElem?, arrV_read _ _ (by omega)]
        rfl
      rw [e]
      exact ⟨rfl, trivial⟩)
    (g := F0 m pc ls ([.int n, .int dp, .ref b, .int sp, .ref a].map (gw_v x))) rfl (by rw [F.2.2.1]; exact hl.1) (rest := []) (by show [Value.int n, .int dp, gw_v x (.ref b), .int sp, gw_v x (.ref a)] = _; rw [hra, hrb]) (by rw [F.2.1]; exact hd) (by omega) (by show 2 * 0 + 0 + (7 + 11) ≤ _; omega)
  have e1 : copied (arrV x.2.2.2.1 (gw_ln S a) (fun j => .int (μ a j))) (arrV x.2.2.2.1 (gw_ln S b) (fun j => .int (μ b j))) sp dp n = arrV x.2.2.2.1 (gw_ln S b) (fun j => .int (va_cpy (μ a) (μ b) sp.toNatClampNeg dp.toNatClampNeg n.toNatClampNeg j)) := va_copied (fun z => .int z) _ _ (μ a) (μ b) h4
  rw [e1] at X' step
  have hlb : x.1 + b < H.size := by rw [hr.2.2.1]; omega
  generalize hc9 : arrV x.2.2.2.1 (gw_ln S b) (fun j => Value.int (va_cpy (μ a) (μ b) sp.toNatClampNeg dp.toNatClampNeg n.toNatClampNeg j)) = c9 at X' step
  have hheap : ((T.setVm vm').setCell (x.1 + b) c9).heap = H.setIfInBounds (x.1 + b) c9 := by rw [← hT]; rfl
  have oq : ∀ q : Nat, q ≠ x.1 + b → (H.setIfInBounds (x.1 + b) c9)[q]? = H[q]? := fun q hq => by simp [Array.getElem?_setIfInBounds, Ne.symm hq]
  have e2 : (H.setIfInBounds (x.1 + b) c9)[x.1 + b]? = some c9 := by simp [Array.getElem?_setIfInBounds, hlb]
  have hrep : gw_rep x S (gw_cpy μ a b sp.toNatClampNeg dp.toNatClampNeg n.toNatClampNeg) (H.setIfInBounds (x.1 + b) c9) (locs ++ ((arrV x.2.2.2.1 (gw_ln S a) (fun j => Value.int (μ a j))).stretch sp.toNatClampNeg n.toNatClampNeg).zipIdx.map fun q => (⟨x.1 + b, dp.toNatClampNeg + q.2⟩ : Loc)) := by
    refine gw_rep_store (a := b) hr (by simp) oq b1 rfl (fun _ _ _ => rfl) (fun b' hb' jj => by simp [gw_cpy, gw_row, hb']) ?_ (fun q hq => ?_)
    · refine ⟨fun _ => ?_, fun z => by omega, fun z => by omega, fun q hq => ?_⟩
      · rw [e2, ← hc9]
        congr 2
        funext jj
        simp [gw_cpy, gw_row]
      · rw [hkb] at hq
        have := (gw_cls hq).2.2.2.2
        omega
    · rcases List.mem_append.mp hq with h | h
      · exact Or.inl h
      · obtain ⟨z, -, hz⟩ := List.mem_map.mp h
        rw [← hz]
        exact Or.inr rfl
  obtain ⟨t, g1, g2⟩ := hN _ _ _ _ _ _ hn _ _ ls hrep hl _ hheap X'
  exact ⟨t, step t g1, g2⟩
theorem gw_s_invokestatic (F : gw_fx p s m args c x nL cb own) (hRm : mc ≤ R.cells ∧ ms ≤ R.slots) (hRf : d + 1 ≤ R.frames ∧ 40 * d + 40 ≤ R.locals) (hd : decode cb pc = .ok (.invokestatic j, 3)) (hlk : gw_lk own nL rt pc (.invokestatic j) an iv sg = true) (h : gw_step (gw_ok l x d) x mc ms Q K (.invokestatic j) an iv sg lv st S μ cc ss N) (hN : ∀ lv st S μ cc ss, N lv st S μ cc ss → gw_at p l e R s m args below meth c Z x nL (pc + 3) lv st S μ cc ss) (hK : ∀ t lv st S μ cc ss, K t lv st S μ cc ss → gw_at p l e R s m args below meth c Z x nL t lv st S μ cc ss) : gw_at p l e R s m args below meth c Z x nL pc lv st S μ cc ss := by
  simp only [gw_step] at h
  split at h
  · rename_i n t1 t2 t3 t4 g
    simp only [gw_lk, Bool.and_eq_true] at hlk
    exact gw_st0 F hRm hRf hd hlk.1.1.1 hlk.1.1.2 hlk.1.2 hlk.2 h hN
  · rename_i n t1 t2 t3 t4 g
    simp only [gw_lk, Bool.and_eq_true] at hlk
    exact gw_st1 F hRm hRf hd hlk.1.1.1 hlk.1.1.2 hlk.1.2 hlk.2 h hN
  · rename_i t1 t2 t3 t4
    simp only [gw_lk, Bool.and_eq_true] at hlk
    split at h
    · obtain ⟨h1, h2, h3, h4, h5, h6, h7, h8⟩ := h
      exact gw_arraycopy F hRf hd hlk.1.1.1 hlk.1.1.2 hlk.1.2 hlk.2 h1 h2 h3 h4 h5 h6 h7 h8 hN
    · exact h.elim
  · exact h.elim
theorem gw_s_invokespecial (F : gw_fx p s m args c x nL cb own) (hRm : mc ≤ R.cells ∧ ms ≤ R.slots) (hRf : d + 1 ≤ R.frames ∧ 40 * d + 40 ≤ R.locals) (hd : decode cb pc = .ok (.invokespecial j, 3)) (hlk : gw_lk own nL rt pc (.invokespecial j) an iv sg = true) (h : gw_step (gw_ok l x d) x mc ms Q K (.invokespecial j) an iv sg lv st S μ cc ss N) (hN : ∀ lv st S μ cc ss, N lv st S μ cc ss → gw_at p l e R s m args below meth c Z x nL (pc + 3) lv st S μ cc ss) (hK : ∀ t lv st S μ cc ss, K t lv st S μ cc ss → gw_at p l e R s m args below meth c Z x nL t lv st S μ cc ss) : gw_at p l e R s m args below meth c Z x nL pc lv st S μ cc ss := by
  simp only [gw_step] at h
  split at h
  · rename_i t1 t2 t3 t4
    simp only [gw_lk, Bool.and_eq_true] at hlk
    split at h
    · rename_i a
      obtain ⟨ha, hn⟩ := h
      intro H locs ls hr hl
      show W p l e R s m args below meth c H locs cc ss Z (F0 m pc ls [gw_v x (.ref a)])
      rw [gw_v_ref x ha]
      exact W.objInit F.1 F.2.1 F.2.2.2.1 (F.2.2.2.2.1 _ (gw_is_spec hlk.1.1)) (F.2.2.2.2.1 _ (gw_is_spec hlk.1.2)) (F.2.2.2.2.1 _ (gw_is_spec hlk.2)) rfl (by rw [F.2.2.1]; exact hl.1) rfl hd (by omega) (by show 2 * 0 + 0 + 12 ≤ _; omega) (hN _ _ _ _ _ _ hn H locs ls hr hl)
    · exact h.elim
  · rename_i n k0 rest0 g
    cases hv : gw_nth st n with
    | ref a =>
      rw [hv] at h
      simp only [gw_lk] at hlk
      split at hlk
      · rename_i heq1 heq2
        cases heq2
      · rename_i heq1 heq2
        cases heq1
        cases heq2
        simp only [Bool.and_eq_true, decide_eq_true_eq] at hlk
        exact gw_sp0 F hRm hRf hd hlk.1.1.1.1.1 hlk.1.1.1.1.2 hlk.1.1.1.2 hlk.1.1.2 hlk.1.2 hlk.2 hv h hN
      · rename_i heq1 heq2
        cases heq1
        cases heq2
        simp only [Bool.and_eq_true, decide_eq_true_eq] at hlk
        exact gw_sp1 F hRm hRf hd hlk.1.1.1.1.1 hlk.1.1.1.1.2 hlk.1.1.1.2 hlk.1.1.2 hlk.1.2 hlk.2 hv h hN
      · cases hlk
    | retAddr v =>
      rw [hv] at h
      match v, h with
      | 0, h => exact h.elim
      | 1, h => exact h.elim
      | _ + 2, h => exact h.elim
    | _ => rw [hv] at h; exact h.elim
  · exact h.elim
/-- what a frame's end asks -/
def gw_ret (p : Program) (l : Launch) (e : Env) (R : Room) (s : State) (m : MethodId) (args : Array Value) (below : List Frame) (meth : Method) (c : Code) (Z : State → Prop) (x : gw_C) (cb : ByteArray) (rt : Option FieldType) (mc ms : Nat) (Q : Option Value → gw_S → gw_M → Prop) : Prop :=
  ∀ (pc : Nat) (i : Instr) (v : Option Value) (S : gw_S) (μ : gw_M) (cc ss : Nat) (H : Heap) (locs : List Loc) (ls : Array Slot), decode cb pc = .ok (i, 1) →
    ((i = .ireturn ∧ rt = some .int ∧ ∃ w, v = some (.int w)) ∨ (i = .ireturn ∧ rt = some .boolean ∧ ∃ w, v = some (.int w) ∧ (w = 0 ∨ w = 1)) ∨ (i = .lreturn ∧ rt = some .long ∧ ∃ w, v = some (.long w)) ∨ (i = .areturn ∧ (∃ n, rt = some (.object n)) ∧ ∃ w, v = some (.ref w)) ∨ (i = .return_ ∧ rt = none ∧ v = none)) →
    gw_rep x S μ H locs → cc ≤ mc → ss ≤ ms → Q v S μ → W p l e R s m args below meth c H locs cc ss Z (F0 m pc ls (v.toList.map (gw_v x)))
theorem gw_s_ireturn (F : gw_fx p s m args c x nL cb own) (hret : gw_ret p l e R s m args below meth c Z x cb rt mc ms Q) (hd : decode cb pc = .ok (.ireturn, 1)) (hlk : gw_lk own nL rt pc (.ireturn) an iv sg = true) (h : gw_step (gw_ok l x d) x mc ms Q K (.ireturn) an iv sg lv st S μ cc ss N) (hN : ∀ lv st S μ cc ss, N lv st S μ cc ss → gw_at p l e R s m args below meth c Z x nL (pc + 1) lv st S μ cc ss) (hK : ∀ t lv st S μ cc ss, K t lv st S μ cc ss → gw_at p l e R s m args below meth c Z x nL t lv st S μ cc ss) : gw_at p l e R s m args below meth c Z x nL pc lv st S μ cc ss := by
  simp only [gw_step] at h
  simp only [gw_lk, decide_eq_true_eq] at hlk
  split at h
  · rename_i v
    intro H locs ls hr hl
    refine hret pc _ (some (.int v)) S μ cc ss H locs ls hd (Or.inl ⟨rfl, ?_, v, rfl⟩) hr h.1 h.2.1 h.2.2
    rcases hlk with z | z
    · exact z.2
    · cases z.1
  · rename_i v
    intro H locs ls hr hl
    refine hret pc _ (some (.int v)) S μ cc ss H locs ls hd (Or.inr (Or.inl ⟨rfl, ?_, v, rfl, h.1⟩)) hr h.2.1 h.2.2.1 h.2.2.2
    rcases hlk with z | z
    · cases z.1
    · exact z.2
  · exact h.elim
theorem gw_s_lreturn (F : gw_fx p s m args c x nL cb own) (hret : gw_ret p l e R s m args below meth c Z x cb rt mc ms Q) (hd : decode cb pc = .ok (.lreturn, 1)) (hlk : gw_lk own nL rt pc (.lreturn) an iv sg = true) (h : gw_step (gw_ok l x d) x mc ms Q K (.lreturn) an iv sg lv st S μ cc ss N) (hN : ∀ lv st S μ cc ss, N lv st S μ cc ss → gw_at p l e R s m args below meth c Z x nL (pc + 1) lv st S μ cc ss) (hK : ∀ t lv st S μ cc ss, K t lv st S μ cc ss → gw_at p l e R s m args below meth c Z x nL t lv st S μ cc ss) : gw_at p l e R s m args below meth c Z x nL pc lv st S μ cc ss := by
  simp only [gw_step] at h
  simp only [gw_lk, decide_eq_true_eq] at hlk
  split at h
  · rename_i v
    intro H locs ls hr hl
    exact hret pc _ (some (.long v)) S μ cc ss H locs ls hd (Or.inr (Or.inr (Or.inl ⟨rfl, hlk, v, rfl⟩))) hr h.1 h.2.1 h.2.2
  · exact h.elim
theorem gw_s_areturn (F : gw_fx p s m args c x nL cb own) (hret : gw_ret p l e R s m args below meth c Z x cb rt mc ms Q) (hd : decode cb pc = .ok (.areturn, 1)) (hlk : gw_lk own nL rt pc (.areturn) an iv sg = true) (h : gw_step (gw_ok l x d) x mc ms Q K (.areturn) an iv sg lv st S μ cc ss N) (hN : ∀ lv st S μ cc ss, N lv st S μ cc ss → gw_at p l e R s m args below meth c Z x nL (pc + 1) lv st S μ cc ss) (hK : ∀ t lv st S μ cc ss, K t lv st S μ cc ss → gw_at p l e R s m args below meth c Z x nL t lv st S μ cc ss) : gw_at p l e R s m args below meth c Z x nL pc lv st S μ cc ss := by
  simp only [gw_step] at h
  simp only [gw_lk] at hlk
  split at h
  · rename_i v
    intro H locs ls hr hl
    split at hlk
    · rename_i n
      exact hret pc _ (some (.ref v)) S μ cc ss H locs ls hd (Or.inr (Or.inr (Or.inr (Or.inl ⟨rfl, ⟨_, rfl⟩, v, rfl⟩)))) hr h.1 h.2.1 h.2.2
    · cases hlk
  · exact h.elim
theorem gw_s_return_ (F : gw_fx p s m args c x nL cb own) (hret : gw_ret p l e R s m args below meth c Z x cb rt mc ms Q) (hd : decode cb pc = .ok (.return_, 1)) (hlk : gw_lk own nL rt pc (.return_) an iv sg = true) (h : gw_step (gw_ok l x d) x mc ms Q K (.return_) an iv sg lv st S μ cc ss N) (hN : ∀ lv st S μ cc ss, N lv st S μ cc ss → gw_at p l e R s m args below meth c Z x nL (pc + 1) lv st S μ cc ss) (hK : ∀ t lv st S μ cc ss, K t lv st S μ cc ss → gw_at p l e R s m args below meth c Z x nL t lv st S μ cc ss) : gw_at p l e R s m args below meth c Z x nL pc lv st S μ cc ss := by
  simp only [gw_step] at h
  simp only [gw_lk, decide_eq_true_eq] at hlk
  split at h
  · intro H locs ls hr hl
    exact hret pc _ none S μ cc ss H locs ls hd (Or.inr (Or.inr (Or.inr (Or.inr ⟨rfl, hlk, rfl⟩)))) hr h.1 h.2.1 h.2.2
  · exact h.elim
end SND6
end
section
/-! ===== a step, a block, a method ===== -/
def gw_chk (own nm : String) (nL : Nat) (rt : Option FieldType) (cb : ByteArray) : Nat → List gw_E → Bool
  | _, [] => true
  | pc, e :: es => decide (e.1 = pc) && decide (decode cb e.1 = .ok (e.2.2.1, e.2.1)) && decide (e.2.1 = gw_len e.2.1 e.2.2.1) && gw_ini nm e.2.2.1 e.2.2.2.1 && gw_lk own nL rt e.1 e.2.2.1 e.2.2.2.1 e.2.2.2.2.1 e.2.2.2.2.2 && gw_chk own nm nL rt cb (e.1 + e.2.1) es
section SND7
variable {p : Program} {l : Launch} {e : Env} {R : Room} {s : State} {m : MethodId} {args : Array Value} {below : List Frame} {meth : Method} {c : Code} {Z : State → Prop} {x : gw_C} {nL : Nat} {cb : ByteArray} {own : String}
variable {d mc ms : Nat} {Q : Option Value → gw_S → gw_M → Prop} {K : Nat → gw_Kt} {rt : Option FieldType}
set_option maxHeartbeats 4000000 in
theorem gw_step_sound (F : gw_fx p s m args c x nL cb own) (hRm : mc ≤ R.cells ∧ ms ≤ R.slots) (hRf : d + 1 ≤ R.frames ∧ 40 * d + 40 ≤ R.locals) (hret : gw_ret p l e R s m args below meth c Z x cb rt mc ms Q) {pc len : Nat} {i : Instr} {an : List Nat} {iv : List Int32} {sg : List gw_Sig} {lv st : List Value} {S : gw_S} {μ : gw_M} {cc ss : Nat} {N : gw_Kt}
    (hd : decode cb pc = .ok (i, len)) (hlen : len = gw_len len i) (hini : gw_ini meth.name i an = true) (hlk : gw_lk own nL rt pc i an iv sg = true) (h : gw_step (gw_ok l x d) x mc ms Q K i an iv sg lv st S μ cc ss N) (hN : ∀ lv st S μ cc ss, N lv st S μ cc ss → gw_at p l e R s m args below meth c Z x nL (pc + len) lv st S μ cc ss) (hK : ∀ t lv st S μ cc ss, K t lv st S μ cc ss → gw_at p l e R s m args below meth c Z x nL t lv st S μ cc ss) : gw_at p l e R s m args below meth c Z x nL pc lv st S μ cc ss := by
  cases i with
  | iadd => simp only [gw_len] at hlen; subst hlen; exact gw_s_iadd F hd hlk h hN hK
  | isub => simp only [gw_len] at hlen; subst hlen; exact gw_s_isub F hd hlk h hN hK
  | imul => simp only [gw_len] at hlen; subst hlen; exact gw_s_imul F hd hlk h hN hK
  | idiv => simp only [gw_len] at hlen; subst hlen; exact gw_s_idiv F hd hlk h hN hK
  | irem => simp only [gw_len] at hlen; subst hlen; exact gw_s_irem F hd hlk h hN hK
  | iand => simp only [gw_len] at hlen; subst hlen; exact gw_s_iand F hd hlk h hN hK
  | ior => simp only [gw_len] at hlen; subst hlen; exact gw_s_ior F hd hlk h hN hK
  | ixor => simp only [gw_len] at hlen; subst hlen; exact gw_s_ixor F hd hlk h hN hK
  | ishl => simp only [gw_len] at hlen; subst hlen; exact gw_s_ishl F hd hlk h hN hK
  | ishr => simp only [gw_len] at hlen; subst hlen; exact gw_s_ishr F hd hlk h hN hK
  | iushr => simp only [gw_len] at hlen; subst hlen; exact gw_s_iushr F hd hlk h hN hK
  | lcmp => simp only [gw_len] at hlen; subst hlen; exact gw_s_lcmp F hd hlk h hN hK
  | dup => simp only [gw_len] at hlen; subst hlen; exact gw_s_dup F hd hlk h hN hK
  | dup2 => simp only [gw_len] at hlen; subst hlen; exact gw_s_dup2 F hd hlk h hN hK
  | pop => simp only [gw_len] at hlen; subst hlen; exact gw_s_pop F hd hlk h hN hK
  | iconst k => simp only [gw_len] at hlen; subst hlen; exact gw_s_iconst F hd hlk h hN hK
  | bipush k => simp only [gw_len] at hlen; subst hlen; exact gw_s_bipush F hd hlk h hN hK
  | sipush k => simp only [gw_len] at hlen; subst hlen; exact gw_s_sipush F hd hlk h hN hK
  | ldc k => simp only [gw_len] at hlen; subst hlen; exact gw_s_ldc F hd hlk h hN hK
  | ldc_w k => simp only [gw_len] at hlen; subst hlen; exact gw_s_ldc_w F hd hlk h hN hK
  | aload_n k => simp only [gw_len] at hlen; subst hlen; exact gw_s_aload_n F hd hlk h hN hK
  | aload k => simp only [gw_len] at hlen; subst hlen; exact gw_s_aload F hd hlk h hN hK
  | iload_n k => simp only [gw_len] at hlen; subst hlen; exact gw_s_iload_n F hd hlk h hN hK
  | iload k => simp only [gw_len] at hlen; subst hlen; exact gw_s_iload F hd hlk h hN hK
  | astore_n k => simp only [gw_len] at hlen; subst hlen; exact gw_s_astore_n F hd hlk h hN hK
  | astore k => simp only [gw_len] at hlen; subst hlen; exact gw_s_astore F hd hlk h hN hK
  | istore_n k => simp only [gw_len] at hlen; subst hlen; exact gw_s_istore_n F hd hlk h hN hK
  | istore k => simp only [gw_len] at hlen; subst hlen; exact gw_s_istore F hd hlk h hN hK
  | iinc k n => simp only [gw_len] at hlen; subst hlen; exact gw_s_iinc F hd hlk h hN hK
  | ifCond k n => simp only [gw_len] at hlen; subst hlen; exact gw_s_ifCond F hd hlk h hN hK
  | if_icmp k n => simp only [gw_len] at hlen; subst hlen; exact gw_s_if_icmp F hd hlk h hN hK
  | ifnull k => simp only [gw_len] at hlen; subst hlen; exact gw_s_ifnull F hd hlk h hN hK
  | ifnonnull k => simp only [gw_len] at hlen; subst hlen; exact gw_s_ifnonnull F hd hlk h hN hK
  | goto k => simp only [gw_len] at hlen; subst hlen; exact gw_s_goto F hd hlk h hN hK
  | tableswitch a b f g => exact gw_s_tableswitch F hd hlk h hN hK
  | getfield k => simp only [gw_len] at hlen; subst hlen; exact gw_s_getfield F hd hlk h hN hK
  | putfield k =>
    simp only [gw_len] at hlen; subst hlen
    refine gw_s_putfield F ?_ hd hlk h hN hK
    simp only [gw_ini, decide_eq_true_eq] at hini
    by_cases hz : 1 = an.getD 2 0
    · exact Or.inl (hini hz.symm)
    · exact Or.inr hz
  | iaload => simp only [gw_len] at hlen; subst hlen; exact gw_s_iaload F hd hlk h hN hK
  | iastore => simp only [gw_len] at hlen; subst hlen; exact gw_s_iastore F hd hlk h hN hK
  | aaload => simp only [gw_len] at hlen; subst hlen; exact gw_s_aaload F hd hlk h hN hK
  | aastore => simp only [gw_len] at hlen; subst hlen; exact gw_s_aastore F hd hlk h hN hK
  | arraylength => simp only [gw_len] at hlen; subst hlen; exact gw_s_arraylength F hd hlk h hN hK
  | newarray k => simp only [gw_len] at hlen; subst hlen; exact gw_s_newarray F hRm (F.2.2.2.2.1 _ gw_ac) hd hlk h hN hK
  | anewarray k => simp only [gw_len] at hlen; subst hlen; exact gw_s_anewarray F hRm hd hlk h hN hK
  | new k => simp only [gw_len] at hlen; subst hlen; exact gw_s_new F hRm hd hlk h hN hK
  | invokevirtual k => simp only [gw_len] at hlen; subst hlen; exact gw_s_invokevirtual F hRm hRf hd hlk h hN hK
  | invokestatic k => simp only [gw_len] at hlen; subst hlen; exact gw_s_invokestatic F hRm hRf hd hlk h hN hK
  | invokespecial k => simp only [gw_len] at hlen; subst hlen; exact gw_s_invokespecial F hRm hRf hd hlk h hN hK
  | ireturn => simp only [gw_len] at hlen; subst hlen; exact gw_s_ireturn F hret hd hlk h hN hK
  | lreturn => simp only [gw_len] at hlen; subst hlen; exact gw_s_lreturn F hret hd hlk h hN hK
  | areturn => simp only [gw_len] at hlen; subst hlen; exact gw_s_areturn F hret hd hlk h hN hK
  | return_ => simp only [gw_len] at hlen; subst hlen; exact gw_s_return_ F hret hd hlk h hN hK
  | _ => exact h.elim
theorem gw_blk_sound (F : gw_fx p s m args c x nL cb own) (hRm : mc ≤ R.cells ∧ ms ≤ R.slots) (hRf : d + 1 ≤ R.frames ∧ 40 * d + 40 ≤ R.locals) (hret : gw_ret p l e R s m args below meth c Z x cb rt mc ms Q) (hK : ∀ t lv st S μ cc ss, K t lv st S μ cc ss → gw_at p l e R s m args below meth c Z x nL t lv st S μ cc ss) :
    ∀ (es : List gw_E) (pc : Nat) (lv st : List Value) (S : gw_S) (μ : gw_M) (cc ss : Nat), gw_chk own meth.name nL rt cb pc es = true → gw_blk (gw_ok l x d) x mc ms Q K es pc lv st S μ cc ss → gw_at p l e R s m args below meth c Z x nL pc lv st S μ cc ss
  | [], pc, lv, st, S, μ, cc, ss, _, h => hK pc lv st S μ cc ss h
  | e0 :: es, pc, lv, st, S, μ, cc, ss, hc, h => by
    simp only [gw_chk, Bool.and_eq_true, decide_eq_true_eq] at hc
    obtain ⟨⟨⟨⟨⟨h1, h2⟩, h3⟩, h4⟩, h5⟩, h6⟩ := hc
    subst h1
    exact gw_step_sound F hRm hRf hret h2 h3 h4 h5 h (fun lv st S μ cc ss hn => gw_blk_sound F hRm hRf hret hK es (e0.1 + e0.2.1) lv st S μ cc ss h6 hn) hK
end SND7
/-- what a program decides of a method, once -/
def gw_sta (g : gw_Sig) (bs : List (Nat × List gw_E)) : Prop := plainFor g.1 = true ∧ Cond.code g.1 g.2.1 g.2.2.1 g.2.2.2 ∈ gw_tb ∧ ∀ b ∈ bs, gw_chk g.1.cls g.1.name g.2.2.1 g.2.2.2 g.2.1 b.1 b.2 = true
theorem gw_all {g : gw_Sig} {bs : List (Nat × List gw_E)} (h : (bs.all (fun b => gw_chk g.1.cls g.1.name g.2.2.1 g.2.2.2 g.2.1 b.1 b.2)) = true) : ∀ b ∈ bs, gw_chk g.1.cls g.1.name g.2.2.1 g.2.2.2 g.2.1 b.1 b.2 = true := fun b hb => List.all_eq_true.mp h b hb
def gw_plain : List Value → Bool
  | [] => true
  | .int _ :: l => gw_plain l
  | .ref _ :: l => gw_plain l
  | .retAddr 1 :: l => gw_plain l
  | _ => false
theorem gw_plain_nth : ∀ (l : List Value), gw_plain l = true → ∀ i, (gw_nth l i).category = 1
  | [], _, _ => rfl
  | v :: l, h, 0 => by
    show v.category = 1
    cases v <;> first | rfl | (simp [gw_plain] at h)
  | v :: l, h, i + 1 => by
    refine gw_plain_nth l ?_ i
    cases v with
    | int v => exact h
    | ref v => exact h
    | retAddr v =>
      match v, h with
      | 1, h => exact h
      | 0, h => simp [gw_plain] at h
      | _ + 2, h => simp [gw_plain] at h
    | _ => simp [gw_plain] at h
theorem gw_nth_app : ∀ (l : List Value) (n i : Nat), gw_nth (l ++ List.replicate n (.retAddr 0)) i = gw_nth l i
  | [], 0, i => rfl
  | [], n + 1, 0 => rfl
  | [], n + 1, i + 1 => by
    have := gw_nth_app [] n i
    simpa [List.replicate_succ, gw_nth] using this
  | _ :: _, _, 0 => rfl
  | _ :: l, n, i + 1 => gw_nth_app l n i
theorem gw_args_mem (x : gw_C) : ∀ (l : List Value) (k : Nat), gw_plain l = true → ∀ i, gw_nth l i ≠ .retAddr 0 → (k + i, gw_v x (gw_nth l i)) ∈ lv_args k (l.map (gw_v x))
  | [], _, _, _, h => absurd rfl h
  | v :: l, k, hp, i, h => by
    have hc : (gw_v x v).category = 1 := gw_v_cat x (gw_plain_nth (v :: l) hp 0)
    have hp' : gw_plain l = true := by
      cases v with
      | int v => exact hp
      | ref v => exact hp
      | retAddr v =>
        match v, hp with
        | 1, hp => exact hp
        | 0, hp => simp [gw_plain] at hp
        | _ + 2, hp => simp [gw_plain] at hp
      | _ => simp [gw_plain] at hp
    simp only [List.map_cons, lv_args, hc]
    cases i with
    | zero => exact List.mem_cons_self
    | succ i =>
      have := gw_args_mem x l (k + 1) hp' i h
      refine List.mem_cons_of_mem _ ?_
      rw [show k + (i + 1) = k + 1 + i by omega]
      exact this
theorem gw_sl_len (x : gw_C) : ∀ (l : List Value), gw_plain l = true → (lg_sl (l.map (gw_v x))).length = l.length
  | [], _ => rfl
  | v :: l, hp => by
    have hc : (gw_v x v).category = 1 := gw_v_cat x (gw_plain_nth (v :: l) hp 0)
    have hp' : gw_plain l = true := by
      cases v with
      | int v => exact hp
      | ref v => exact hp
      | retAddr v =>
        match v, hp with
        | 1, hp => exact hp
        | 0, hp => simp [gw_plain] at hp
        | _ + 2, hp => simp [gw_plain] at hp
      | _ => simp [gw_plain] at hp
    have ih := gw_sl_len x l hp'
    simp only [lg_sl, List.map_cons, List.flatMap_cons, List.length_append, List.length_cons] at *
    rw [ih, if_neg (by rw [hc]; decide)]
    simp only [List.length_cons, List.length_nil]
    omega
theorem gw_find_in : ∀ (bs : List (Nat × List gw_E)) (pc : Nat), gw_find bs pc = [] ∨ ∃ b ∈ bs, b.1 = pc ∧ b.2 = gw_find bs pc
  | [], _ => Or.inl rfl
  | b :: bs, pc => by
    by_cases h : b.1 = pc
    · exact Or.inr ⟨b, List.mem_cons_self, h, by simp [gw_find, h]⟩
    · rcases gw_find_in bs pc with h1 | ⟨b', h1, h2, h3⟩
      · exact Or.inl (by simp [gw_find, h, h1])
      · exact Or.inr ⟨b', List.mem_cons_of_mem _ h1, h2, by simp [gw_find, h, h3]⟩
set_option maxHeartbeats 4000000 in
/-- THE CONTRACT OF A METHOD: from its blocks -/
theorem gw_ok_of {l : Launch} {x : gw_C} {g : gw_Sig} {bs : List (Nat × List gw_E)} (h : gw_sta g bs) {d mc ms : Nat} {as lv0 : List Value} {S : gw_S} {μ : gw_M} {Q : Option Value → gw_S → gw_M → Prop} (hlen : as.length ≤ g.2.2.1) (hpl : gw_plain as = true) (hlv : as ++ List.replicate (g.2.2.1 - as.length) (.retAddr 0) = lv0)
    (body : ∀ K : Nat → gw_Kt, (∀ pc lv st S μ cc ss, gw_blk (gw_ok l x d) x mc ms Q K (gw_find bs pc) pc lv st S μ cc ss → K pc lv st S μ cc ss) → K 0 lv0 [] S μ 0 0) : gw_ok l x (d + 1) g mc ms as S μ Q := by
  obtain ⟨hplain, hcode, hchk⟩ := h
  subst hlv
  refine ⟨hcode, va_MetF (cc := g.2.1) (maxL := g.2.2.1) (ret := g.2.2.2) hplain rfl ?_⟩
  intro p e s m args below meth c s₁ B hml hv
  obtain ⟨rfl, hrep, hkk⟩ := hv
  have hts := atoms_spec (ws := gw_wsg g) B.pre
  have hnm := (name_of_methodNamed B.named B.method).1
  have hlocks := B.notSynchronized
  have hr := B.returns
  have hx := B.exec
  have hb := B.bytes
  have F : gw_fx p s m (as.map (gw_v x)).toArray c x g.2.2.1 g.2.1 g.1.cls := ⟨B.exec, B.bytes, hml, findClass_of_methodNamed B.named, fun w hw => hts w (List.mem_cons_of_mem _ hw), hkk⟩
  have hret : gw_ret p l e (gw_rm (d + 1) mc ms) s m (as.map (gw_v x)).toArray below meth c (MQ below (gw_qc x Q) (as.map (gw_v x)).toArray s mc ms (gw_A x)) x g.2.1 g.2.2.2 mc ms Q := by
    intro pc i v S μ cc ss H locs ls hd hi hrep h1 h2 hq
    refine W.widen (k := mc) (n := ms) h1 h2 ?_
    have key : ∀ t : State, t.heap = H → s.WarmedH t.vm → gw_qc x Q (as.map (gw_v x)).toArray s (.returned (v.map (gw_v x))) t := fun t ht hW => ⟨v, S, μ, rfl, hq, by rw [ht]; exact ⟨hrep.1, hrep.2.1, hrep.2.2.1, hrep.2.2.2.1, hrep.2.2.2.2.1, fun q hq => by cases hq⟩, gw_kk_moved hW hkk⟩
    rcases hi with ⟨rfl, hrt, w, rfl⟩ | ⟨rfl, hrt, w, rfl, hw⟩ | ⟨rfl, hrt, w, rfl⟩ | ⟨rfl, ⟨n, hrt⟩, w, rfl⟩ | ⟨rfl, hrt, rfl⟩
    · exact W.iret (v := w) hx hb (hr.trans hrt) key hrep.2.2.2.2.2 hd hlocks
    · exact W.zret (v := w) hx hb (hr.trans hrt) (by rcases hw with rfl | rfl <;> rfl) key hrep.2.2.2.2.2 hd hlocks
    · exact W.lret (v := w) hx hb (hr.trans hrt) key hrep.2.2.2.2.2 hd hlocks
    · refine W.aret (v := gw_v x (.ref w)) hx hb (hr.trans hrt) (Or.inl ⟨n, rfl⟩) ?_ key hrep.2.2.2.2.2 hd hlocks
      cases w with
      | zero => exact Or.inl rfl
      | succ w => exact Or.inr ⟨_, rfl⟩
    · exact W.vret hx hb (hr.trans hrt) key hrep.2.2.2.2.2 hd hlocks
  have hat := body (gw_at p l e (gw_rm (d + 1) mc ms) s m (as.map (gw_v x)).toArray below meth c (MQ below (gw_qc x Q) (as.map (gw_v x)).toArray s mc ms (gw_A x)) x g.2.2.1) (fun pc lv st S μ cc ss hblk => by
    rcases gw_find_in bs pc with h1 | ⟨b, h1, h2, h3⟩
    · rw [h1] at hblk
      exact hblk
    · rw [← h3] at hblk
      have hc := hchk b h1
      rw [h2, ← hnm] at hc
      exact gw_blk_sound F ⟨Nat.le_refl _, Nat.le_refl _⟩ ⟨Nat.le_refl _, by show 40 * d + 40 ≤ 40 * (d + 1); omega⟩ hret (fun _ _ _ _ _ _ _ h => h) b.2 pc lv st S μ cc ss hc hblk)
  rw [lg_entry_eq]
  have hl := lv_entry (as.map (gw_v x)) (n := g.2.2.1) (by rw [gw_sl_len x as hpl]; exact hlen)
  generalize (lg_sl (as.map (gw_v x)) ++ List.replicate (g.2.2.1 - (lg_sl (as.map (gw_v x))).length) Slot.unset).toArray = ls at hl ⊢
  refine hat s.heap [] ls hrep ⟨hl.1, hl.2.1, ?_, fun i => ?_, fun i hi => ?_⟩
  · simp only [List.length_append, List.length_replicate]
    omega
  · rw [gw_nth_app]
    exact gw_plain_nth as hpl i
  · rw [gw_nth_app] at hi ⊢
    have := gw_args_mem x as 0 hpl i hi
    rw [Nat.zero_add] at this
    exact hl.2.2 _ this
/-! ===== the pure machine's steps, as rewriting ===== -/
section STEPS
variable {ok : gw_Ok} {x : gw_C} {mc ms : Nat} {Q : Option Value → gw_S → gw_M → Prop} {K : Nat → gw_Kt} {pc pc' n : Nat} {an : List Nat} {iv : List Int32} {sg : List gw_Sig} {es : List gw_E} {ls st t : List Value} {S : gw_S} {μ : gw_M} {cc ss : Nat} {k ci ti j r a0 : Nat} {v w a b : Int32} {q : ClassFile.Cond} {off : Int} {jn : Fin 4} {i0 : Int}
theorem gt_nil : gw_blk ok x mc ms Q K [] pc ls st S μ cc ss = K pc ls st S μ cc ss := rfl
theorem gt_aload_n : gw_blk ok x mc ms Q K ((pc, n, .aload_n jn, [k], iv, sg) :: es) pc' ls st S μ cc ss = gw_rfk (gw_nth ls k) (fun v => gw_blk ok x mc ms Q K es (pc + n) ls (v :: st) S μ cc ss) := rfl
theorem gt_aload : gw_blk ok x mc ms Q K ((pc, n, .aload j, [k], iv, sg) :: es) pc' ls st S μ cc ss = gw_rfk (gw_nth ls k) (fun v => gw_blk ok x mc ms Q K es (pc + n) ls (v :: st) S μ cc ss) := rfl
theorem gt_iload_n : gw_blk ok x mc ms Q K ((pc, n, .iload_n jn, [k], iv, sg) :: es) pc' ls st S μ cc ss = gw_ink (gw_nth ls k) (fun v => gw_blk ok x mc ms Q K es (pc + n) ls (.int v :: st) S μ cc ss) := rfl
theorem gt_iload : gw_blk ok x mc ms Q K ((pc, n, .iload j, [k], iv, sg) :: es) pc' ls st S μ cc ss = gw_ink (gw_nth ls k) (fun v => gw_blk ok x mc ms Q K es (pc + n) ls (.int v :: st) S μ cc ss) := rfl
theorem gt_astore_n : gw_blk ok x mc ms Q K ((pc, n, .astore_n jn, [k], iv, sg) :: es) pc' ls (.ref r :: t) S μ cc ss = gw_blk ok x mc ms Q K es (pc + n) (gw_set ls k (.ref r)) t S μ cc ss := rfl
theorem gt_astore : gw_blk ok x mc ms Q K ((pc, n, .astore j, [k], iv, sg) :: es) pc' ls (.ref r :: t) S μ cc ss = gw_blk ok x mc ms Q K es (pc + n) (gw_set ls k (.ref r)) t S μ cc ss := rfl
theorem gt_istore_n : gw_blk ok x mc ms Q K ((pc, n, .istore_n jn, [k], iv, sg) :: es) pc' ls (.int v :: t) S μ cc ss = gw_blk ok x mc ms Q K es (pc + n) (gw_set ls k (.int v)) t S μ cc ss := rfl
theorem gt_istore : gw_blk ok x mc ms Q K ((pc, n, .istore j, [k], iv, sg) :: es) pc' ls (.int v :: t) S μ cc ss = gw_blk ok x mc ms Q K es (pc + n) (gw_set ls k (.int v)) t S μ cc ss := rfl
theorem gt_iinc : gw_blk ok x mc ms Q K ((pc, n, .iinc j i0, [k], [w], sg) :: es) pc' ls st S μ cc ss = gw_ink (gw_nth ls k) (fun v => gw_blk ok x mc ms Q K es (pc + n) (gw_set ls k (.int (v + w))) st S μ cc ss) := rfl
theorem gt_iconst : gw_blk ok x mc ms Q K ((pc, n, .iconst i0, an, [w], sg) :: es) pc' ls st S μ cc ss = gw_blk ok x mc ms Q K es (pc + n) ls (.int w :: st) S μ cc ss := rfl
theorem gt_bipush : gw_blk ok x mc ms Q K ((pc, n, .bipush i0, an, [w], sg) :: es) pc' ls st S μ cc ss = gw_blk ok x mc ms Q K es (pc + n) ls (.int w :: st) S μ cc ss := rfl
theorem gt_sipush : gw_blk ok x mc ms Q K ((pc, n, .sipush i0, an, [w], sg) :: es) pc' ls st S μ cc ss = gw_blk ok x mc ms Q K es (pc + n) ls (.int w :: st) S μ cc ss := rfl
theorem gt_ldc : gw_blk ok x mc ms Q K ((pc, n, .ldc j, an, [w], sg) :: es) pc' ls st S μ cc ss = gw_blk ok x mc ms Q K es (pc + n) ls (.int w :: st) S μ cc ss := rfl
theorem gt_ldc_w : gw_blk ok x mc ms Q K ((pc, n, .ldc_w j, an, [w], sg) :: es) pc' ls st S μ cc ss = gw_blk ok x mc ms Q K es (pc + n) ls (.int w :: st) S μ cc ss := rfl
theorem gt_iadd : gw_blk ok x mc ms Q K ((pc, n, .iadd, an, iv, sg) :: es) pc' ls (.int b :: .int a :: t) S μ cc ss = gw_blk ok x mc ms Q K es (pc + n) ls (.int (a + b) :: t) S μ cc ss := rfl
theorem gt_isub : gw_blk ok x mc ms Q K ((pc, n, .isub, an, iv, sg) :: es) pc' ls (.int b :: .int a :: t) S μ cc ss = gw_blk ok x mc ms Q K es (pc + n) ls (.int (a - b) :: t) S μ cc ss := rfl
theorem gt_imul : gw_blk ok x mc ms Q K ((pc, n, .imul, an, iv, sg) :: es) pc' ls (.int b :: .int a :: t) S μ cc ss = gw_blk ok x mc ms Q K es (pc + n) ls (.int (a * b) :: t) S μ cc ss := rfl
theorem gt_idiv : gw_blk ok x mc ms Q K ((pc, n, .idiv, an, iv, sg) :: es) pc' ls (.int b :: .int a :: t) S μ cc ss = (¬ b = 0 ∧ gw_blk ok x mc ms Q K es (pc + n) ls (.int (a / b) :: t) S μ cc ss) := rfl
theorem gt_irem : gw_blk ok x mc ms Q K ((pc, n, .irem, an, iv, sg) :: es) pc' ls (.int b :: .int a :: t) S μ cc ss = (¬ b = 0 ∧ gw_blk ok x mc ms Q K es (pc + n) ls (.int (a - a / b * b) :: t) S μ cc ss) := rfl
theorem gt_iand : gw_blk ok x mc ms Q K ((pc, n, .iand, an, iv, sg) :: es) pc' ls (.int b :: .int a :: t) S μ cc ss = gw_blk ok x mc ms Q K es (pc + n) ls (.int (a &&& b) :: t) S μ cc ss := rfl
theorem gt_ior : gw_blk ok x mc ms Q K ((pc, n, .ior, an, iv, sg) :: es) pc' ls (.int b :: .int a :: t) S μ cc ss = gw_blk ok x mc ms Q K es (pc + n) ls (.int (a ||| b) :: t) S μ cc ss := rfl
theorem gt_ixor : gw_blk ok x mc ms Q K ((pc, n, .ixor, an, iv, sg) :: es) pc' ls (.int b :: .int a :: t) S μ cc ss = gw_blk ok x mc ms Q K es (pc + n) ls (.int (a ^^^ b) :: t) S μ cc ss := rfl
theorem gt_ishl : gw_blk ok x mc ms Q K ((pc, n, .ishl, an, iv, sg) :: es) pc' ls (.int b :: .int a :: t) S μ cc ss = gw_blk ok x mc ms Q K es (pc + n) ls (.int (a <<< (b &&& 31)) :: t) S μ cc ss := rfl
theorem gt_ishr : gw_blk ok x mc ms Q K ((pc, n, .ishr, an, iv, sg) :: es) pc' ls (.int b :: .int a :: t) S μ cc ss = gw_blk ok x mc ms Q K es (pc + n) ls (.int (a >>> (b &&& 31)) :: t) S μ cc ss := rfl
theorem gt_iushr : gw_blk ok x mc ms Q K ((pc, n, .iushr, an, iv, sg) :: es) pc' ls (.int b :: .int a :: t) S μ cc ss = gw_blk ok x mc ms Q K es (pc + n) ls (.int (a.toUInt32 >>> (b.toUInt32 &&& Int32.toUInt32 31)).toInt32 :: t) S μ cc ss := rfl
theorem gt_dup_i : gw_blk ok x mc ms Q K ((pc, n, .dup, an, iv, sg) :: es) pc' ls (.int a :: t) S μ cc ss = gw_blk ok x mc ms Q K es (pc + n) ls (.int a :: .int a :: t) S μ cc ss := rfl
theorem gt_dup_r : gw_blk ok x mc ms Q K ((pc, n, .dup, an, iv, sg) :: es) pc' ls (.ref r :: t) S μ cc ss = gw_blk ok x mc ms Q K es (pc + n) ls (.ref r :: .ref r :: t) S μ cc ss := rfl
theorem gt_dup2 : gw_blk ok x mc ms Q K ((pc, n, .dup2, an, iv, sg) :: es) pc' ls (.int b :: .ref r :: t) S μ cc ss = gw_blk ok x mc ms Q K es (pc + n) ls (.int b :: .ref r :: .int b :: .ref r :: t) S μ cc ss := rfl
theorem gt_pop_i : gw_blk ok x mc ms Q K ((pc, n, .pop, an, iv, sg) :: es) pc' ls (.int a :: t) S μ cc ss = gw_blk ok x mc ms Q K es (pc + n) ls t S μ cc ss := rfl
theorem gt_pop_r : gw_blk ok x mc ms Q K ((pc, n, .pop, an, iv, sg) :: es) pc' ls (.ref r :: t) S μ cc ss = gw_blk ok x mc ms Q K es (pc + n) ls t S μ cc ss := rfl
theorem gt_if : gw_blk ok x mc ms Q K ((pc, n, .ifCond q off, [k], iv, sg) :: es) pc' ls (.int a :: t) S μ cc ss = ((gw_c1 q a → K k ls t S μ cc ss) ∧ (¬ gw_c1 q a → gw_blk ok x mc ms Q K es (pc + n) ls t S μ cc ss)) := rfl
theorem gt_icmp : gw_blk ok x mc ms Q K ((pc, n, .if_icmp q off, [k], iv, sg) :: es) pc' ls (.int b :: .int a :: t) S μ cc ss = ((gw_c2 q a b → K k ls t S μ cc ss) ∧ (¬ gw_c2 q a b → gw_blk ok x mc ms Q K es (pc + n) ls t S μ cc ss)) := rfl
theorem gt_ifnull : gw_blk ok x mc ms Q K ((pc, n, .ifnull off, [k], iv, sg) :: es) pc' ls (.ref r :: t) S μ cc ss = ((r = 0 → K k ls t S μ cc ss) ∧ (¬ r = 0 → gw_blk ok x mc ms Q K es (pc + n) ls t S μ cc ss)) := rfl
theorem gt_ifnonnull : gw_blk ok x mc ms Q K ((pc, n, .ifnonnull off, [k], iv, sg) :: es) pc' ls (.ref r :: t) S μ cc ss = ((¬ r = 0 → K k ls t S μ cc ss) ∧ (r = 0 → gw_blk ok x mc ms Q K es (pc + n) ls t S μ cc ss)) := rfl
theorem gt_goto : gw_blk ok x mc ms Q K ((pc, n, .goto off, [k], iv, sg) :: es) pc' ls st S μ cc ss = K k ls st S μ cc ss := rfl
theorem gt_get_r : gw_blk ok x mc ms Q K ((pc, n, .getfield j, [ci, k, 1, ti], iv, sg) :: es) pc' ls (.ref r :: t) S μ cc ss = (gw_kd S r = ci ∧ gw_blk ok x mc ms Q K es (pc + n) ls (.ref (gw_rf S r k) :: t) S μ cc ss) := rfl
theorem gt_get_i : gw_blk ok x mc ms Q K ((pc, n, .getfield j, [ci, k, 0, ti], iv, sg) :: es) pc' ls (.ref r :: t) S μ cc ss = (gw_kd S r = ci ∧ gw_blk ok x mc ms Q K es (pc + n) ls (.int (μ r k) :: t) S μ cc ss) := rfl
theorem gt_get_z : gw_blk ok x mc ms Q K ((pc, n, .getfield j, [ci, k, 2, ti], iv, sg) :: es) pc' ls (.ref r :: t) S μ cc ss = (gw_kd S r = ci ∧ gw_blk ok x mc ms Q K es (pc + n) ls (.int (μ r k) :: t) S μ cc ss) := rfl
theorem gt_put_r : gw_blk ok x mc ms Q K ((pc, n, .putfield j, [ci, k, 1, ti], iv, sg) :: es) pc' ls (.ref a0 :: .ref r :: t) S μ cc ss = (gw_kd S r = ci ∧ ¬ a0 = 0 ∧ gw_blk ok x mc ms Q K es (pc + n) ls t (gw_sr S r k a0) μ cc ss) := rfl
theorem gt_put_i : gw_blk ok x mc ms Q K ((pc, n, .putfield j, [ci, k, 0, ti], iv, sg) :: es) pc' ls (.int v :: .ref r :: t) S μ cc ss = (gw_kd S r = ci ∧ gw_blk ok x mc ms Q K es (pc + n) ls t S (gw_up μ r k v) cc ss) := rfl
theorem gt_put_z : gw_blk ok x mc ms Q K ((pc, n, .putfield j, [ci, k, 2, ti], iv, sg) :: es) pc' ls (.int v :: .ref r :: t) S μ cc ss = (gw_kd S r = ci ∧ (v = 0 ∨ v = 1) ∧ gw_blk ok x mc ms Q K es (pc + n) ls t S (gw_up μ r k v) cc ss) := rfl
theorem gt_iaload : gw_blk ok x mc ms Q K ((pc, n, .iaload, an, iv, sg) :: es) pc' ls (.int v :: .ref r :: t) S μ cc ss = (gw_kd S r = 12 ∧ gw_in v (gw_ln S r) ∧ gw_blk ok x mc ms Q K es (pc + n) ls (.int (μ r v.toNatClampNeg) :: t) S μ cc ss) := rfl
theorem gt_iastore : gw_blk ok x mc ms Q K ((pc, n, .iastore, an, iv, sg) :: es) pc' ls (.int w :: .int v :: .ref r :: t) S μ cc ss = (gw_kd S r = 12 ∧ gw_in v (gw_ln S r) ∧ gw_blk ok x mc ms Q K es (pc + n) ls t S (gw_up μ r v.toNatClampNeg w) cc ss) := rfl
theorem gt_aaload : gw_blk ok x mc ms Q K ((pc, n, .aaload, an, iv, sg) :: es) pc' ls (.int v :: .ref r :: t) S μ cc ss = ((gw_kd S r = 13 ∨ gw_kd S r = 14) ∧ gw_in v (gw_ln S r) ∧ gw_blk ok x mc ms Q K es (pc + n) ls (.ref (gw_rf S r v.toNatClampNeg) :: t) S μ cc ss) := rfl
theorem gt_aastore : gw_blk ok x mc ms Q K ((pc, n, .aastore, an, iv, sg) :: es) pc' ls (.ref a0 :: .int v :: .ref r :: t) S μ cc ss = (((gw_kd S r = 13 ∧ gw_kd S a0 = 1) ∨ (gw_kd S r = 14 ∧ gw_kd S a0 = 3)) ∧ gw_in v (gw_ln S r) ∧ gw_blk ok x mc ms Q K es (pc + n) ls t (gw_sr S r v.toNatClampNeg a0) μ cc ss) := rfl
theorem gt_alen : gw_blk ok x mc ms Q K ((pc, n, .arraylength, an, iv, sg) :: es) pc' ls (.ref r :: t) S μ cc ss = ((gw_kd S r = 12 ∨ gw_kd S r = 13 ∨ gw_kd S r = 14) ∧ gw_blk ok x mc ms Q K es (pc + n) ls (.int (Int32.ofNat (gw_ln S r)) :: t) S μ cc ss) := rfl
theorem gt_virt {g : gw_Sig} {an' : List Nat} : gw_blk ok x mc ms Q K ((pc, n, .invokevirtual j, k :: ci :: an', iv, [g]) :: es) pc' ls st S μ cc ss = gw_rfk (gw_nth st k) (fun v => match v with
        | .ref a => gw_kd S a = ci ∧ gw_r8 (st.drop (k + 1)) 8 = true ∧ ∃ mc' ms', cc + mc' ≤ mc ∧ ss + ms' ≤ ms ∧ ok g mc' ms' (.ref a :: (st.take k).reverse) S μ (fun r S' μ' => gw_blk ok x mc ms Q K es (pc + n) ls (r.toList ++ st.drop (k + 1)) S' μ' (cc + mc') (ss + ms'))
        | _ => False) := rfl
theorem gt_stat0 {g : gw_Sig} {k1 k2 k3 k4 : Nat} : gw_blk ok x mc ms Q K ((pc, n, .invokestatic j, [k, 0, k1, k2, k3, k4], iv, [g]) :: es) pc' ls st S μ cc ss = (gw_r8 (st.drop k) 8 = true ∧ k ≤ st.length ∧ ∃ mc' ms', cc + mc' ≤ mc ∧ ss + ms' ≤ ms ∧ ok g mc' ms' (st.take k).reverse S μ (fun r S' μ' => gw_blk ok x mc ms Q K es (pc + n) ls (r.toList ++ st.drop k) S' μ' (cc + mc') (ss + ms'))) := rfl
theorem gt_stat1 {g : gw_Sig} {k1 k2 k3 k4 : Nat} : gw_blk ok x mc ms Q K ((pc, n, .invokestatic j, [k, 1, k1, k2, k3, k4], iv, [g]) :: es) pc' ls st S μ cc ss = (gw_r8 (st.drop k) 8 = true ∧ k ≤ st.length ∧ ∃ mc' ms', cc + mc' ≤ mc ∧ ss + ms' ≤ ms ∧ ok g mc' ms' (st.take k).reverse S μ (fun r S' μ' => gw_blk ok x mc ms Q K es (pc + n) ls (r.toList ++ st.drop k) S' μ' (cc + mc') (ss + ms'))) := rfl
theorem gt_iret : gw_blk ok x mc ms Q K ((pc, n, .ireturn, [0], iv, sg) :: es) pc' ls [.int v] S μ cc ss = (cc ≤ mc ∧ ss ≤ ms ∧ Q (some (.int v)) S μ) := rfl
theorem gt_zret : gw_blk ok x mc ms Q K ((pc, n, .ireturn, [1], iv, sg) :: es) pc' ls [.int v] S μ cc ss = ((v = 0 ∨ v = 1) ∧ cc ≤ mc ∧ ss ≤ ms ∧ Q (some (.int v)) S μ) := rfl
theorem gt_aret : gw_blk ok x mc ms Q K ((pc, n, .areturn, an, iv, sg) :: es) pc' ls [.ref r] S μ cc ss = (cc ≤ mc ∧ ss ≤ ms ∧ Q (some (.ref r)) S μ) := rfl
theorem gt_vret : gw_blk ok x mc ms Q K ((pc, n, .return_, an, iv, sg) :: es) pc' ls [] S μ cc ss = (cc ≤ mc ∧ ss ≤ ms ∧ Q none S μ) := rfl
theorem gt_rfk {f : Value → Prop} : gw_rfk (.ref r) f = f (.ref r) := rfl
theorem gt_ink {f : Int32 → Prop} : gw_ink (.int v) f = f v := rfl
end STEPS
end
section
def sgX0_init : gw_Sig := (⟨RX0, "<init>", "()V"⟩, prog_2_method_1_code, 1, (Option.none : Option FieldType))
def sgX0_copyFrom : gw_Sig := (⟨RX0, "copyFrom", "(LGuestLevels$Guest;)V"⟩, prog_2_method_2_code, 2, (Option.none : Option FieldType))
def sgX0_awaits : gw_Sig := (⟨RX0, "awaits", "(I)Z"⟩, prog_2_method_3_code, 2, (Option.some FieldType.boolean))
def sgX0_await : gw_Sig := (⟨RX0, "await", "(II)V"⟩, prog_2_method_4_code, 3, (Option.none : Option FieldType))
def sgX0_ready : gw_Sig := (⟨RX0, "ready", "()I"⟩, prog_2_method_5_code, 2, (Option.some FieldType.int))
def sgX0_take : gw_Sig := (⟨RX0, "take", "(II)I"⟩, prog_2_method_6_code, 3, (Option.some FieldType.int))
def sgX0_endService : gw_Sig := (⟨RX0, "endService", "()I"⟩, prog_2_method_7_code, 2, (Option.some FieldType.int))
def sgX0_clockUpon : gw_Sig := (⟨RX0, "clockUpon", "(I)I"⟩, prog_2_method_8_code, 2, (Option.some FieldType.int))
def sgX1_init : gw_Sig := (⟨RX1, "<init>", "()V"⟩, prog_3_method_1_code, 1, (Option.none : Option FieldType))
def sgX1_copyFrom : gw_Sig := (⟨RX1, "copyFrom", "(LGuestLevels$Inner;)V"⟩, prog_3_method_2_code, 2, (Option.none : Option FieldType))
def sgX1_trapAt : gw_Sig := (⟨RX1, "trapAt", "(I)V"⟩, prog_3_method_3_code, 2, (Option.none : Option FieldType))
def sgX1_actAlone : gw_Sig := (⟨RX1, "actAlone", "(III)V"⟩, prog_3_method_4_code, 4, (Option.none : Option FieldType))
def sgX2_init : gw_Sig := (⟨RX2, "<init>", "()V"⟩, prog_4_method_1_code, 1, (Option.none : Option FieldType))
def sgX2_copyFrom : gw_Sig := (⟨RX2, "copyFrom", "(LGuestLevels$Log;)V"⟩, prog_4_method_2_code, 2, (Option.none : Option FieldType))
def sgX2_allExits : gw_Sig := (⟨RX2, "allExits", "()I"⟩, prog_4_method_3_code, 1, (Option.some FieldType.int))
def sgX2_exitsKept : gw_Sig := (⟨RX2, "exitsKept", "()I"⟩, prog_4_method_4_code, 1, (Option.some FieldType.int))
def sgX2_writeExit : gw_Sig := (⟨RX2, "writeExit", "(IIII)V"⟩, prog_4_method_5_code, 6, (Option.none : Option FieldType))
def sgX2_exitAt : gw_Sig := (⟨RX2, "exitAt", "(II)I"⟩, prog_4_method_6_code, 4, (Option.some FieldType.int))
def sgX2_exitsBy : gw_Sig := (⟨RX2, "exitsBy", "(I)I"⟩, prog_4_method_7_code, 4, (Option.some FieldType.int))
def sgX2_hear : gw_Sig := (⟨RX2, "hear", "(I)V"⟩, prog_4_method_8_code, 2, (Option.none : Option FieldType))
def sgX2_heardKept : gw_Sig := (⟨RX2, "heardKept", "()I"⟩, prog_4_method_9_code, 1, (Option.some FieldType.int))
def sgX2_heardAt : gw_Sig := (⟨RX2, "heardAt", "(I)I"⟩, prog_4_method_10_code, 2, (Option.some FieldType.int))
def sgX2_noteTake : gw_Sig := (⟨RX2, "noteTake", "(III)V"⟩, prog_4_method_11_code, 4, (Option.none : Option FieldType))
def sgX3_init : gw_Sig := (⟨RX3, "<init>", "()V"⟩, prog_5_method_1_code, 2, (Option.none : Option FieldType))
def sgX3_copyFrom : gw_Sig := (⟨RX3, "copyFrom", "(LGuestLevels$Machine;)V"⟩, prog_5_method_2_code, 3, (Option.none : Option FieldType))
def sgX3_inHand : gw_Sig := (⟨RX3, "inHand", "()LGuestLevels$Inner;"⟩, prog_5_method_3_code, 1, (Option.some (FieldType.object "GuestLevels$Inner")))
def sgX3_guest : gw_Sig := (⟨RX3, "guest", "(I)LGuestLevels$Guest;"⟩, prog_5_method_4_code, 2, (Option.some (FieldType.object "GuestLevels$Guest")))
def sgX3_table : gw_Sig := (⟨RX3, "table", "(I)LGuestLevels$Table;"⟩, prog_5_method_5_code, 2, (Option.some (FieldType.object "GuestLevels$Table")))
def sgX3_figure : gw_Sig := (⟨RX3, "figure", "(I)I"⟩, prog_5_method_6_code, 2, (Option.some FieldType.int))
def sgX3_mayTell : gw_Sig := (⟨RX3, "mayTell", "(I)Z"⟩, prog_5_method_7_code, 2, (Option.some FieldType.boolean))
def sgX3_tellEntry : gw_Sig := (⟨RX3, "tellEntry", "(IIII)V"⟩, prog_5_method_8_code, 5, (Option.none : Option FieldType))
def sgX3_dropEntry : gw_Sig := (⟨RX3, "dropEntry", "(II)V"⟩, prog_5_method_9_code, 3, (Option.none : Option FieldType))
def sgX3_tellInner : gw_Sig := (⟨RX3, "tellInner", "(III)V"⟩, prog_5_method_10_code, 4, (Option.none : Option FieldType))
def sgX3_unfold : gw_Sig := (⟨RX3, "unfold", "(I)V"⟩, prog_5_method_11_code, 4, (Option.none : Option FieldType))
def sgX3_makeRoom : gw_Sig := (⟨RX3, "makeRoom", "(I)V"⟩, prog_5_method_12_code, 3, (Option.none : Option FieldType))
def sgX3_rightsOfBoth : gw_Sig := (⟨RX3, "rightsOfBoth", "(I)I"⟩, prog_5_method_13_code, 3, (Option.some FieldType.int))
def sgX3_lazyPages : gw_Sig := (⟨RX3, "lazyPages", "()I"⟩, prog_5_method_14_code, 3, (Option.some FieldType.int))
def sgX3_foldLazyPages : gw_Sig := (⟨RX3, "foldLazyPages", "()I"⟩, prog_5_method_15_code, 5, (Option.some FieldType.int))
def sgX3_fold : gw_Sig := (⟨RX3, "fold", "(I)V"⟩, prog_5_method_16_code, 5, (Option.none : Option FieldType))
def sgX3_joinFrames : gw_Sig := (⟨RX3, "joinFrames", "()I"⟩, prog_5_method_17_code, 4, (Option.some FieldType.int))
def sgX3_hostSees : gw_Sig := (⟨RX3, "hostSees", "(II)V"⟩, prog_5_method_18_code, 3, (Option.none : Option FieldType))
def sgX3_dealToOuter : gw_Sig := (⟨RX3, "dealToOuter", "(II)V"⟩, prog_5_method_19_code, 3, (Option.none : Option FieldType))
def sgX3_touchByInner : gw_Sig := (⟨RX3, "touchByInner", "(III)I"⟩, prog_5_method_20_code, 7, (Option.some FieldType.int))
def sgX3_foldOnTouch : gw_Sig := (⟨RX3, "foldOnTouch", "(II)I"⟩, prog_5_method_21_code, 6, (Option.some FieldType.int))
def sgX3_touchByOuter : gw_Sig := (⟨RX3, "touchByOuter", "(III)I"⟩, prog_5_method_22_code, 5, (Option.some FieldType.int))
def sgX3_seerOfInner : gw_Sig := (⟨RX3, "seerOfInner", "(I)I"⟩, prog_5_method_23_code, 2, (Option.some FieldType.int))
def sgX3_eventOfInner : gw_Sig := (⟨RX3, "eventOfInner", "(I)I"⟩, prog_5_method_24_code, 3, (Option.some FieldType.int))
def sgX3_eventOfOuter : gw_Sig := (⟨RX3, "eventOfOuter", "(I)I"⟩, prog_5_method_25_code, 3, (Option.some FieldType.int))
def sgX3_enterInner : gw_Sig := (⟨RX3, "enterInner", "()V"⟩, prog_5_method_26_code, 1, (Option.none : Option FieldType))
def sgX3_switchTo : gw_Sig := (⟨RX3, "switchTo", "(I)V"⟩, prog_5_method_27_code, 2, (Option.none : Option FieldType))
def sgX3_dealOut : gw_Sig := (⟨RX3, "dealOut", "()V"⟩, prog_5_method_28_code, 2, (Option.none : Option FieldType))
def sgX3_dealOutToInner : gw_Sig := (⟨RX3, "dealOutToInner", "()V"⟩, prog_5_method_29_code, 3, (Option.none : Option FieldType))
def sgX3_clockAt : gw_Sig := (⟨RX3, "clockAt", "(II)I"⟩, prog_5_method_30_code, 4, (Option.some FieldType.int))
def sgX3_dueTime : gw_Sig := (⟨RX3, "dueTime", "(I)I"⟩, prog_5_method_31_code, 8, (Option.some FieldType.int))
def sgX3_firstDue : gw_Sig := (⟨RX3, "firstDue", "()I"⟩, prog_5_method_32_code, 5, (Option.some FieldType.int))
def sgX3_timeGoesOn : gw_Sig := (⟨RX3, "timeGoesOn", "()I"⟩, prog_5_method_33_code, 4, (Option.some FieldType.int))
def sgX3_nextDueNow : gw_Sig := (⟨RX3, "nextDueNow", "()I"⟩, prog_5_method_34_code, 4, (Option.some FieldType.int))
def sgX3_goOff : gw_Sig := (⟨RX3, "goOff", "(I)V"⟩, prog_5_method_35_code, 4, (Option.none : Option FieldType))
def sgX3_goOn : gw_Sig := (⟨RX3, "goOn", "()V"⟩, prog_5_method_36_code, 1, (Option.none : Option FieldType))
def sgX3_actOfOuter : gw_Sig := (⟨RX3, "actOfOuter", "()V"⟩, prog_5_method_37_code, 6, (Option.none : Option FieldType))
def sgX3_tellMissed : gw_Sig := (⟨RX3, "tellMissed", "(I)V"⟩, prog_5_method_38_code, 2, (Option.none : Option FieldType))
def sgX3_switchUnlessInHand : gw_Sig := (⟨RX3, "switchUnlessInHand", "(I)V"⟩, prog_5_method_39_code, 2, (Option.none : Option FieldType))
def sgX3_actOfInner : gw_Sig := (⟨RX3, "actOfInner", "()V"⟩, prog_5_method_40_code, 7, (Option.none : Option FieldType))
def sgX3_lead : gw_Sig := (⟨RX3, "lead", "(LGuestLevels$Inner;II)V"⟩, prog_5_method_41_code, 4, (Option.none : Option FieldType))
def sgX3_walkTables : gw_Sig := (⟨RX3, "walkTables", "(II)I"⟩, prog_5_method_42_code, 7, (Option.some FieldType.int))
def sgX3_rightsOfVirtual : gw_Sig := (⟨RX3, "rightsOfVirtual", "(I)I"⟩, prog_5_method_43_code, 3, (Option.some FieldType.int))
def sgX3_frameOfInner : gw_Sig := (⟨RX3, "frameOfInner", "(I)I"⟩, prog_5_method_44_code, 3, (Option.some FieldType.int))
def sgX3_virtualPagesAt : gw_Sig := (⟨RX3, "virtualPagesAt", "(I)I"⟩, prog_5_method_45_code, 5, (Option.some FieldType.int))
def sgX3_plainValue : gw_Sig := (⟨RX3, "plainValue", "(I)I"⟩, prog_5_method_46_code, 4, (Option.some FieldType.int))
def sgX4_init : gw_Sig := (⟨RX4, "<init>", "()V"⟩, prog_6_method_1_code, 2, (Option.none : Option FieldType))
def sgX4_copyFrom : gw_Sig := (⟨RX4, "copyFrom", "(LGuestLevels$Memory;)V"⟩, prog_6_method_2_code, 2, (Option.none : Option FieldType))
def sgX4_tell : gw_Sig := (⟨RX4, "tell", "(III)V"⟩, prog_6_method_3_code, 4, (Option.none : Option FieldType))
def sgX4_untell : gw_Sig := (⟨RX4, "untell", "(I)V"⟩, prog_6_method_4_code, 2, (Option.none : Option FieldType))
def sgX4_rightsGiven : gw_Sig := (⟨RX4, "rightsGiven", "(I)I"⟩, prog_6_method_5_code, 3, (Option.some FieldType.int))
def sgX4_partsOnWrite : gw_Sig := (⟨RX4, "partsOnWrite", "(I)Z"⟩, prog_6_method_6_code, 2, (Option.some FieldType.boolean))
def sgX4_framesLedTo : gw_Sig := (⟨RX4, "framesLedTo", "()I"⟩, prog_6_method_7_code, 3, (Option.some FieldType.int))
def sgX4_framesFree : gw_Sig := (⟨RX4, "framesFree", "()I"⟩, prog_6_method_8_code, 1, (Option.some FieldType.int))
def sgX4_touchFrame : gw_Sig := (⟨RX4, "touchFrame", "(III)I"⟩, prog_6_method_9_code, 4, (Option.some FieldType.int))
def sgX4_give : gw_Sig := (⟨RX4, "give", "(I)I"⟩, prog_6_method_10_code, 6, (Option.some FieldType.int))
def sgX4_part : gw_Sig := (⟨RX4, "part", "(I)V"⟩, prog_6_method_11_code, 2, (Option.none : Option FieldType))
def sgX4_sharesFrame : gw_Sig := (⟨RX4, "sharesFrame", "(I)Z"⟩, prog_6_method_12_code, 3, (Option.some FieldType.boolean))
def sgX4_storeAway : gw_Sig := (⟨RX4, "storeAway", "(I)V"⟩, prog_6_method_13_code, 3, (Option.none : Option FieldType))
def sgX4_areLike : gw_Sig := (⟨RX4, "areLike", "(II)Z"⟩, prog_6_method_14_code, 4, (Option.some FieldType.boolean))
def sgX4_merge : gw_Sig := (⟨RX4, "merge", "(II)I"⟩, prog_6_method_15_code, 5, (Option.some FieldType.int))
def sgX5_init : gw_Sig := (⟨RX5, "<init>", "()V"⟩, prog_7_method_1_code, 1, (Option.none : Option FieldType))
def sgX5_push : gw_Sig := (⟨RX5, "push", "(LGuestLevels$Machine;)V"⟩, prog_7_method_2_code, 3, (Option.none : Option FieldType))
def sgX5_popInto : gw_Sig := (⟨RX5, "popInto", "(LGuestLevels$Machine;)V"⟩, prog_7_method_3_code, 3, (Option.none : Option FieldType))
def sgX5_copyFrom : gw_Sig := (⟨RX5, "copyFrom", "(LGuestLevels$Past;)V"⟩, prog_7_method_4_code, 4, (Option.none : Option FieldType))
def sgX6_init : gw_Sig := (⟨RX6, "<init>", "()V"⟩, prog_8_method_1_code, 1, (Option.none : Option FieldType))
def sgX6_startFrom : gw_Sig := (⟨RX6, "startFrom", "(LGuestLevels$Machine;)V"⟩, prog_8_method_2_code, 3, (Option.none : Option FieldType))
def sgX6_goOn : gw_Sig := (⟨RX6, "goOn", "()V"⟩, prog_8_method_3_code, 4, (Option.none : Option FieldType))
def sgX6_touchFrom : gw_Sig := (⟨RX6, "touchFrom", "(IIII)V"⟩, prog_8_method_4_code, 6, (Option.none : Option FieldType))
def sgX7_init : gw_Sig := (⟨RX7, "<init>", "()V"⟩, prog_9_method_1_code, 1, (Option.none : Option FieldType))
def sgX7_copyFrom : gw_Sig := (⟨RX7, "copyFrom", "(LGuestLevels$Program;)V"⟩, prog_9_method_2_code, 2, (Option.none : Option FieldType))
def sgX7_add : gw_Sig := (⟨RX7, "add", "(III)V"⟩, prog_9_method_3_code, 4, (Option.none : Option FieldType))
def sgX7_advance : gw_Sig := (⟨RX7, "advance", "()I"⟩, prog_9_method_4_code, 2, (Option.some FieldType.int))
def sgX7_goTo : gw_Sig := (⟨RX7, "goTo", "(I)V"⟩, prog_9_method_5_code, 2, (Option.none : Option FieldType))
def sgX8_init : gw_Sig := (⟨RX8, "<init>", "()V"⟩, prog_10_method_1_code, 1, (Option.none : Option FieldType))
def sgX8_copyFrom : gw_Sig := (⟨RX8, "copyFrom", "(LGuestLevels$Table;)V"⟩, prog_10_method_2_code, 2, (Option.none : Option FieldType))
def sgX8_has : gw_Sig := (⟨RX8, "has", "(I)Z"⟩, prog_10_method_3_code, 2, (Option.some FieldType.boolean))
def sgX8_gives : gw_Sig := (⟨RX8, "gives", "(II)Z"⟩, prog_10_method_4_code, 3, (Option.some FieldType.boolean))
def sgX8_put : gw_Sig := (⟨RX8, "put", "(III)V"⟩, prog_10_method_5_code, 4, (Option.none : Option FieldType))
def sgX8_drop : gw_Sig := (⟨RX8, "drop", "(I)V"⟩, prog_10_method_6_code, 2, (Option.none : Option FieldType))
def sgX8_dropAll : gw_Sig := (⟨RX8, "dropAll", "()V"⟩, prog_10_method_7_code, 1, (Option.none : Option FieldType))
def sgX8_dropEldest : gw_Sig := (⟨RX8, "dropEldest", "()V"⟩, prog_10_method_8_code, 2, (Option.none : Option FieldType))
def sgX8_size : gw_Sig := (⟨RX8, "size", "()I"⟩, prog_10_method_9_code, 3, (Option.some FieldType.int))
def sgX8_eldest : gw_Sig := (⟨RX8, "eldest", "()I"⟩, prog_10_method_10_code, 3, (Option.some FieldType.int))
def sgX8_byAge : gw_Sig := (⟨RX8, "byAge", "(I)I"⟩, prog_10_method_11_code, 3, (Option.some FieldType.int))
def sgX8_elderThan : gw_Sig := (⟨RX8, "elderThan", "(I)I"⟩, prog_10_method_12_code, 4, (Option.some FieldType.int))
def sgX9_init : gw_Sig := (⟨RX9, "<init>", "()V"⟩, prog_11_method_1_code, 1, (Option.none : Option FieldType))
def sgX9_copyFrom : gw_Sig := (⟨RX9, "copyFrom", "(LGuestLevels$Timers;)V"⟩, prog_11_method_2_code, 2, (Option.none : Option FieldType))
def sgX9_add : gw_Sig := (⟨RX9, "add", "(III)V"⟩, prog_11_method_3_code, 4, (Option.none : Option FieldType))
def sgX9_removeAt : gw_Sig := (⟨RX9, "removeAt", "(I)V"⟩, prog_11_method_4_code, 3, (Option.none : Option FieldType))
def sgX9_isAhead : gw_Sig := (⟨RX9, "isAhead", "(II)Z"⟩, prog_11_method_5_code, 3, (Option.some FieldType.boolean))
def sgX10_init : gw_Sig := (⟨RX10, "<init>", "()V"⟩, prog_1_method_1_code, 1, (Option.none : Option FieldType))
def sgX10_entry : gw_Sig := (⟨RX10, "entry", "(IIII)Z"⟩, prog_1_method_2_code, 6, (Option.some FieldType.boolean))
def sgX10_clear : gw_Sig := (⟨RX10, "clear", "(II)Z"⟩, prog_1_method_3_code, 3, (Option.some FieldType.boolean))
def sgX10_room : gw_Sig := (⟨RX10, "room", "(I)Z"⟩, prog_1_method_4_code, 2, (Option.some FieldType.boolean))
def sgX10_foldAhead : gw_Sig := (⟨RX10, "foldAhead", "()I"⟩, prog_1_method_5_code, 2, (Option.some FieldType.int))
def sgX10_join : gw_Sig := (⟨RX10, "join", "()I"⟩, prog_1_method_6_code, 2, (Option.some FieldType.int))
def sgX10_trapPlace : gw_Sig := (⟨RX10, "trapPlace", "(I)Z"⟩, prog_1_method_7_code, 2, (Option.some FieldType.boolean))
def sgX10_want : gw_Sig := (⟨RX10, "want", "(II)Z"⟩, prog_1_method_8_code, 4, (Option.some FieldType.boolean))
def sgX10_touch : gw_Sig := (⟨RX10, "touch", "(III)I"⟩, prog_1_method_9_code, 5, (Option.some FieldType.int))
def sgX10_event : gw_Sig := (⟨RX10, "event", "(I)I"⟩, prog_1_method_10_code, 3, (Option.some FieldType.int))
def sgX10_enter : gw_Sig := (⟨RX10, "enter", "()Z"⟩, prog_1_method_11_code, 1, (Option.some FieldType.boolean))
def sgX10_send : gw_Sig := (⟨RX10, "send", "(II)Z"⟩, prog_1_method_12_code, 4, (Option.some FieldType.boolean))
def sgX10_open : gw_Sig := (⟨RX10, "open", "(IZ)Z"⟩, prog_1_method_13_code, 3, (Option.some FieldType.boolean))
def sgX10_finish : gw_Sig := (⟨RX10, "finish", "()I"⟩, prog_1_method_14_code, 2, (Option.some FieldType.int))
def sgX10_hand : gw_Sig := (⟨RX10, "hand", "(I)Z"⟩, prog_1_method_15_code, 2, (Option.some FieldType.boolean))
def sgX10_scale : gw_Sig := (⟨RX10, "scale", "(III)Z"⟩, prog_1_method_16_code, 4, (Option.some FieldType.boolean))
def sgX10_timer : gw_Sig := (⟨RX10, "timer", "(III)I"⟩, prog_1_method_17_code, 4, (Option.some FieldType.int))
def sgX10_cancel : gw_Sig := (⟨RX10, "cancel", "(I)Z"⟩, prog_1_method_18_code, 2, (Option.some FieldType.boolean))
def sgX10_handler : gw_Sig := (⟨RX10, "handler", "(II)Z"⟩, prog_1_method_19_code, 3, (Option.some FieldType.boolean))
def sgX10_slice : gw_Sig := (⟨RX10, "slice", "(I)Z"⟩, prog_1_method_20_code, 2, (Option.some FieldType.boolean))
def sgX10_forget : gw_Sig := (⟨RX10, "forget", "()I"⟩, prog_1_method_21_code, 2, (Option.some FieldType.int))
def sgX10_pass : gw_Sig := (⟨RX10, "pass", "(I)I"⟩, prog_1_method_22_code, 4, (Option.some FieldType.int))
def sgX10_act : gw_Sig := (⟨RX10, "act", "(IIII)I"⟩, prog_1_method_23_code, 6, (Option.some FieldType.int))
def sgX10_wipe : gw_Sig := (⟨RX10, "wipe", "(I)I"⟩, prog_1_method_24_code, 4, (Option.some FieldType.int))
def sgX10_run : gw_Sig := (⟨RX10, "run", "(I)I"⟩, prog_1_method_25_code, 4, (Option.some FieldType.int))
def sgX10_undo : gw_Sig := (⟨RX10, "undo", "()I"⟩, prog_1_method_26_code, 1, (Option.some FieldType.int))
def sgX10_is : gw_Sig := (⟨RX10, "is", "(I)I"⟩, prog_1_method_27_code, 2, (Option.some FieldType.int))
def sgX10_told : gw_Sig := (⟨RX10, "told", "(III)I"⟩, prog_1_method_28_code, 5, (Option.some FieldType.int))
def sgX10_folded : gw_Sig := (⟨RX10, "folded", "(I)I"⟩, prog_1_method_29_code, 2, (Option.some FieldType.int))
def sgX10_frame : gw_Sig := (⟨RX10, "frame", "(I)I"⟩, prog_1_method_30_code, 2, (Option.some FieldType.int))
def sgX10_handled : gw_Sig := (⟨RX10, "handled", "(I)I"⟩, prog_1_method_31_code, 2, (Option.some FieldType.int))
def sgX10_stored : gw_Sig := (⟨RX10, "stored", "(I)I"⟩, prog_1_method_32_code, 2, (Option.some FieldType.int))
def sgX10_backed : gw_Sig := (⟨RX10, "backed", "(I)I"⟩, prog_1_method_33_code, 2, (Option.some FieldType.int))
def sgX10_copied : gw_Sig := (⟨RX10, "copied", "()I"⟩, prog_1_method_34_code, 1, (Option.some FieldType.int))
def sgX10_trapped : gw_Sig := (⟨RX10, "trapped", "(I)I"⟩, prog_1_method_35_code, 2, (Option.some FieldType.int))
def sgX10_heard : gw_Sig := (⟨RX10, "heard", "(I)I"⟩, prog_1_method_36_code, 2, (Option.some FieldType.int))
def sgX10_changed : gw_Sig := (⟨RX10, "changed", "()I"⟩, prog_1_method_37_code, 1, (Option.some FieldType.int))
def sgX10_walk : gw_Sig := (⟨RX10, "walk", "(II)I"⟩, prog_1_method_38_code, 3, (Option.some FieldType.int))
def sgX10_given : gw_Sig := (⟨RX10, "given", "(I)I"⟩, prog_1_method_39_code, 2, (Option.some FieldType.int))
def sgX10_lazy : gw_Sig := (⟨RX10, "lazy", "()I"⟩, prog_1_method_40_code, 1, (Option.some FieldType.int))
def sgX10_aliases : gw_Sig := (⟨RX10, "aliases", "(I)I"⟩, prog_1_method_41_code, 2, (Option.some FieldType.int))
def sgX10_free : gw_Sig := (⟨RX10, "free", "()I"⟩, prog_1_method_42_code, 1, (Option.some FieldType.int))
def sgX10_wanted : gw_Sig := (⟨RX10, "wanted", "(I)I"⟩, prog_1_method_43_code, 2, (Option.some FieldType.int))
def sgX10_whose : gw_Sig := (⟨RX10, "whose", "(I)I"⟩, prog_1_method_44_code, 2, (Option.some FieldType.int))
def sgX10_exit : gw_Sig := (⟨RX10, "exit", "(II)I"⟩, prog_1_method_45_code, 3, (Option.some FieldType.int))
def sgX10_exits : gw_Sig := (⟨RX10, "exits", "(I)I"⟩, prog_1_method_46_code, 2, (Option.some FieldType.int))
def sgX10_pending : gw_Sig := (⟨RX10, "pending", "(I)I"⟩, prog_1_method_47_code, 2, (Option.some FieldType.int))
def sgX10_service : gw_Sig := (⟨RX10, "service", "(I)I"⟩, prog_1_method_48_code, 2, (Option.some FieldType.int))
def sgX10_putBy : gw_Sig := (⟨RX10, "putBy", "(II)I"⟩, prog_1_method_49_code, 4, (Option.some FieldType.int))
def sgX10_spent : gw_Sig := (⟨RX10, "spent", "(I)I"⟩, prog_1_method_50_code, 2, (Option.some FieldType.int))
def sgX10_seenOf : gw_Sig := (⟨RX10, "seenOf", "(II)I"⟩, prog_1_method_51_code, 3, (Option.some FieldType.int))
def sgX10_isOpen : gw_Sig := (⟨RX10, "isOpen", "(I)Z"⟩, prog_1_method_52_code, 2, (Option.some FieldType.boolean))
def sgX10_taken : gw_Sig := (⟨RX10, "taken", "(I)I"⟩, prog_1_method_53_code, 2, (Option.some FieldType.int))
def sgX10_longest : gw_Sig := (⟨RX10, "longest", "(I)I"⟩, prog_1_method_54_code, 2, (Option.some FieldType.int))
def sgX10_pendingFor : gw_Sig := (⟨RX10, "pendingFor", "(II)I"⟩, prog_1_method_55_code, 3, (Option.some FieldType.int))
def sgX10_clock : gw_Sig := (⟨RX10, "clock", "(I)I"⟩, prog_1_method_56_code, 2, (Option.some FieldType.int))
def sgX10_timed : gw_Sig := (⟨RX10, "timed", "(II)I"⟩, prog_1_method_57_code, 3, (Option.some FieldType.int))
def sgX10_first : gw_Sig := (⟨RX10, "first", "()I"⟩, prog_1_method_58_code, 1, (Option.some FieldType.int))
def sgX10_program : gw_Sig := (⟨RX10, "program", "(III)I"⟩, prog_1_method_59_code, 5, (Option.some FieldType.int))
def sgX10_foretold : gw_Sig := (⟨RX10, "foretold", "(II)I"⟩, prog_1_method_60_code, 4, (Option.some FieldType.int))
def sgX10_till : gw_Sig := (⟨RX10, "till", "()I"⟩, prog_1_method_61_code, 3, (Option.some FieldType.int))
def sgX10_waits : gw_Sig := (⟨RX10, "waits", "(I)I"⟩, prog_1_method_62_code, 4, (Option.some FieldType.int))
def sgX10_roomiest : gw_Sig := (⟨RX10, "roomiest", "(I)I"⟩, prog_1_method_63_code, 6, (Option.some FieldType.int))
def sgX10_plainly : gw_Sig := (⟨RX10, "plainly", "(II)I"⟩, prog_1_method_64_code, 3, (Option.some FieldType.int))
def sgX10_plainTraps : gw_Sig := (⟨RX10, "plainTraps", "(I)I"⟩, prog_1_method_65_code, 2, (Option.some FieldType.int))
def sgX10_plainHeard : gw_Sig := (⟨RX10, "plainHeard", "(I)I"⟩, prog_1_method_66_code, 2, (Option.some FieldType.int))
def sgX10_share : gw_Sig := (⟨RX10, "share", "()J"⟩, prog_1_method_67_code, 1, (Option.some FieldType.long))
def sgX10_image : gw_Sig := (⟨RX10, "image", "()I"⟩, prog_1_method_68_code, 1, (Option.some FieldType.int))
def sgX10_back : gw_Sig := (⟨RX10, "back", "()I"⟩, prog_1_method_69_code, 1, (Option.some FieldType.int))
def sgX10_steps : gw_Sig := (⟨RX10, "steps", "()I"⟩, prog_1_method_70_code, 1, (Option.some FieldType.int))
def sgX10_mayGo : gw_Sig := (⟨RX10, "mayGo", "(II)Z"⟩, prog_1_method_71_code, 3, (Option.some FieldType.boolean))
def sgX10_goPlainly : gw_Sig := (⟨RX10, "goPlainly", "(I)V"⟩, prog_1_method_72_code, 3, (Option.none : Option FieldType))
def sgX10_within : gw_Sig := (⟨RX10, "within", "(III)Z"⟩, prog_1_method_73_code, 3, (Option.some FieldType.boolean))
def sgX10_isPage : gw_Sig := (⟨RX10, "isPage", "(I)Z"⟩, prog_1_method_74_code, 1, (Option.some FieldType.boolean))
def sgX10_isFrame : gw_Sig := (⟨RX10, "isFrame", "(I)Z"⟩, prog_1_method_75_code, 1, (Option.some FieldType.boolean))
def sgX10_isWay : gw_Sig := (⟨RX10, "isWay", "(I)Z"⟩, prog_1_method_76_code, 1, (Option.some FieldType.boolean))
def sgX10_isEvent : gw_Sig := (⟨RX10, "isEvent", "(I)Z"⟩, prog_1_method_77_code, 1, (Option.some FieldType.boolean))
def sgX10_isVector : gw_Sig := (⟨RX10, "isVector", "(I)Z"⟩, prog_1_method_78_code, 1, (Option.some FieldType.boolean))
def sgX10_isGuest : gw_Sig := (⟨RX10, "isGuest", "(I)Z"⟩, prog_1_method_79_code, 1, (Option.some FieldType.boolean))
def sgX10_isInnerGuest : gw_Sig := (⟨RX10, "isInnerGuest", "(I)Z"⟩, prog_1_method_80_code, 1, (Option.some FieldType.boolean))
def sgX10_mayHaveHandler : gw_Sig := (⟨RX10, "mayHaveHandler", "(I)Z"⟩, prog_1_method_81_code, 1, (Option.some FieldType.boolean))
def sgX10_isAct : gw_Sig := (⟨RX10, "isAct", "(IIII)Z"⟩, prog_1_method_82_code, 4, (Option.some FieldType.boolean))
def sgX10_mostOfA : gw_Sig := (⟨RX10, "mostOfA", "(II)I"⟩, prog_1_method_83_code, 2, (Option.some FieldType.int))
def sgX10_mostOfB : gw_Sig := (⟨RX10, "mostOfB", "(II)I"⟩, prog_1_method_84_code, 3, (Option.some FieldType.int))
def sgX10_hasBit : gw_Sig := (⟨RX10, "hasBit", "(II)Z"⟩, prog_1_method_85_code, 2, (Option.some FieldType.boolean))
def sgX10_greatestOf : gw_Sig := (⟨RX10, "greatestOf", "(I)I"⟩, prog_1_method_86_code, 2, (Option.some FieldType.int))
def sgX10_lowestOutside : gw_Sig := (⟨RX10, "lowestOutside", "(I)I"⟩, prog_1_method_87_code, 2, (Option.some FieldType.int))
def sgX10_bitsOfQuotient : gw_Sig := (⟨RX10, "bitsOfQuotient", "(II)J"⟩, prog_1_method_88_code, 8, (Option.some FieldType.long))
def sgX11_init : gw_Sig := (⟨RX11, "<init>", "()V"⟩, prog_13_method_1_code, 3, (Option.none : Option FieldType))
def sgX11_copy : gw_Sig := (⟨RX11, "copy", "([I[I)V"⟩, prog_13_method_2_code, 3, (Option.none : Option FieldType))
def sgX11_isIn : gw_Sig := (⟨RX11, "isIn", "(III)Z"⟩, prog_13_method_3_code, 3, (Option.some FieldType.boolean))
def sgX11_has : gw_Sig := (⟨RX11, "has", "(II)Z"⟩, prog_13_method_4_code, 2, (Option.some FieldType.boolean))
def sgX11_many : gw_Sig := (⟨RX11, "many", "(I)I"⟩, prog_13_method_5_code, 3, (Option.some FieldType.int))
def sgX11_greatest : gw_Sig := (⟨RX11, "greatest", "(I)I"⟩, prog_13_method_6_code, 2, (Option.some FieldType.int))
def sgX11_isPage : gw_Sig := (⟨RX11, "isPage", "(I)Z"⟩, prog_13_method_7_code, 1, (Option.some FieldType.boolean))
def sgX11_isGuest : gw_Sig := (⟨RX11, "isGuest", "(I)Z"⟩, prog_13_method_8_code, 1, (Option.some FieldType.boolean))
def sgX11_guestAt : gw_Sig := (⟨RX11, "guestAt", "(I)I"⟩, prog_13_method_9_code, 2, (Option.some FieldType.int))
def sgX11_entryAt : gw_Sig := (⟨RX11, "entryAt", "(II)I"⟩, prog_13_method_10_code, 3, (Option.some FieldType.int))
def sgX11_toOf : gw_Sig := (⟨RX11, "toOf", "(II)I"⟩, prog_13_method_11_code, 3, (Option.some FieldType.int))
def sgX11_isCopied : gw_Sig := (⟨RX11, "isCopied", "(I)Z"⟩, prog_13_method_12_code, 2, (Option.some FieldType.boolean))
def sgX11_rightsOf : gw_Sig := (⟨RX11, "rightsOf", "(II)I"⟩, prog_13_method_13_code, 4, (Option.some FieldType.int))
def sgX11_gives : gw_Sig := (⟨RX11, "gives", "(III)Z"⟩, prog_13_method_14_code, 4, (Option.some FieldType.boolean))
def sgX11_comeLast : gw_Sig := (⟨RX11, "comeLast", "(III)V"⟩, prog_13_method_15_code, 4, (Option.none : Option FieldType))
def sgX11_goOut : gw_Sig := (⟨RX11, "goOut", "(III)V"⟩, prog_13_method_16_code, 6, (Option.none : Option FieldType))
def sgX11_unfold : gw_Sig := (⟨RX11, "unfold", "(I)V"⟩, prog_13_method_17_code, 2, (Option.none : Option FieldType))
def sgX11_unfoldAll : gw_Sig := (⟨RX11, "unfoldAll", "()V"⟩, prog_13_method_18_code, 2, (Option.none : Option FieldType))
def sgX11_unfoldTo : gw_Sig := (⟨RX11, "unfoldTo", "(I)V"⟩, prog_13_method_19_code, 3, (Option.none : Option FieldType))
def sgX11_layEntry : gw_Sig := (⟨RX11, "layEntry", "(IIII)V"⟩, prog_13_method_20_code, 5, (Option.none : Option FieldType))
def sgX11_freeFrame : gw_Sig := (⟨RX11, "freeFrame", "()I"⟩, prog_13_method_21_code, 4, (Option.some FieldType.int))
def sgX11_swapOut : gw_Sig := (⟨RX11, "swapOut", "()V"⟩, prog_13_method_22_code, 2, (Option.none : Option FieldType))
def sgX11_give : gw_Sig := (⟨RX11, "give", "(I)V"⟩, prog_13_method_23_code, 3, (Option.none : Option FieldType))
def sgX11_leadTo : gw_Sig := (⟨RX11, "leadTo", "(I)I"⟩, prog_13_method_24_code, 4, (Option.some FieldType.int))
def sgX11_likeOf : gw_Sig := (⟨RX11, "likeOf", "(I)I"⟩, prog_13_method_25_code, 3, (Option.some FieldType.int))
def sgX11_joinNow : gw_Sig := (⟨RX11, "joinNow", "(II)V"⟩, prog_13_method_26_code, 4, (Option.none : Option FieldType))
def sgX11_part : gw_Sig := (⟨RX11, "part", "(I)V"⟩, prog_13_method_27_code, 3, (Option.none : Option FieldType))
def sgX11_isParted : gw_Sig := (⟨RX11, "isParted", "(II)Z"⟩, prog_13_method_28_code, 3, (Option.some FieldType.boolean))
def sgX11_fold : gw_Sig := (⟨RX11, "fold", "(I)V"⟩, prog_13_method_29_code, 3, (Option.none : Option FieldType))
def sgX11_writeExit : gw_Sig := (⟨RX11, "writeExit", "(III)V"⟩, prog_13_method_30_code, 5, (Option.none : Option FieldType))
def sgX11_see : gw_Sig := (⟨RX11, "see", "(II)V"⟩, prog_13_method_31_code, 3, (Option.none : Option FieldType))
def sgX11_deal : gw_Sig := (⟨RX11, "deal", "(II)V"⟩, prog_13_method_32_code, 4, (Option.none : Option FieldType))
def sgX11_whoSees : gw_Sig := (⟨RX11, "whoSees", "(I)I"⟩, prog_13_method_33_code, 2, (Option.some FieldType.int))
def sgX11_eventOuter : gw_Sig := (⟨RX11, "eventOuter", "(I)I"⟩, prog_13_method_34_code, 2, (Option.some FieldType.int))
def sgX11_eventInner : gw_Sig := (⟨RX11, "eventInner", "(I)I"⟩, prog_13_method_35_code, 3, (Option.some FieldType.int))
def sgX11_eventNow : gw_Sig := (⟨RX11, "eventNow", "(I)I"⟩, prog_13_method_36_code, 3, (Option.some FieldType.int))
def sgX11_hear : gw_Sig := (⟨RX11, "hear", "(I)V"⟩, prog_13_method_37_code, 3, (Option.none : Option FieldType))
def sgX11_doAt : gw_Sig := (⟨RX11, "doAt", "(III)I"⟩, prog_13_method_38_code, 4, (Option.some FieldType.int))
def sgX11_doInner : gw_Sig := (⟨RX11, "doInner", "(III)I"⟩, prog_13_method_39_code, 5, (Option.some FieldType.int))
def sgX11_touchInner : gw_Sig := (⟨RX11, "touchInner", "(III)I"⟩, prog_13_method_40_code, 6, (Option.some FieldType.int))
def sgX11_touchOuter : gw_Sig := (⟨RX11, "touchOuter", "(III)I"⟩, prog_13_method_41_code, 5, (Option.some FieldType.int))
def sgX11_touchNow : gw_Sig := (⟨RX11, "touchNow", "(III)I"⟩, prog_13_method_42_code, 4, (Option.some FieldType.int))
def sgX11_nextOf : gw_Sig := (⟨RX11, "nextOf", "(I)I"⟩, prog_13_method_43_code, 4, (Option.some FieldType.int))
def sgX11_pend : gw_Sig := (⟨RX11, "pend", "(II)V"⟩, prog_13_method_44_code, 4, (Option.none : Option FieldType))
def sgX11_sinceOf : gw_Sig := (⟨RX11, "sinceOf", "(II)I"⟩, prog_13_method_45_code, 3, (Option.some FieldType.int))
def sgX11_take : gw_Sig := (⟨RX11, "take", "(II)V"⟩, prog_13_method_46_code, 4, (Option.none : Option FieldType))
def sgX11_dealOut : gw_Sig := (⟨RX11, "dealOut", "()V"⟩, prog_13_method_47_code, 2, (Option.none : Option FieldType))
def sgX11_endNow : gw_Sig := (⟨RX11, "endNow", "(I)I"⟩, prog_13_method_48_code, 3, (Option.some FieldType.int))
def sgX11_enterNow : gw_Sig := (⟨RX11, "enterNow", "()V"⟩, prog_13_method_49_code, 1, (Option.none : Option FieldType))
def sgX11_handNow : gw_Sig := (⟨RX11, "handNow", "(I)V"⟩, prog_13_method_50_code, 2, (Option.none : Option FieldType))
def sgX11_clockAt : gw_Sig := (⟨RX11, "clockAt", "(II)I"⟩, prog_13_method_51_code, 5, (Option.some FieldType.int))
def sgX11_ofTimer : gw_Sig := (⟨RX11, "ofTimer", "(II)I"⟩, prog_13_method_52_code, 3, (Option.some FieldType.int))
def sgX11_isDue : gw_Sig := (⟨RX11, "isDue", "(II)Z"⟩, prog_13_method_53_code, 3, (Option.some FieldType.boolean))
def sgX11_isAhead : gw_Sig := (⟨RX11, "isAhead", "(II)Z"⟩, prog_13_method_54_code, 4, (Option.some FieldType.boolean))
def sgX11_firstDue : gw_Sig := (⟨RX11, "firstDue", "()I"⟩, prog_13_method_55_code, 3, (Option.some FieldType.int))
def sgX11_dropTimer : gw_Sig := (⟨RX11, "dropTimer", "(I)V"⟩, prog_13_method_56_code, 3, (Option.none : Option FieldType))
def sgX11_tick : gw_Sig := (⟨RX11, "tick", "()I"⟩, prog_13_method_57_code, 5, (Option.some FieldType.int))
def sgX11_putAside : gw_Sig := (⟨RX11, "putAside", "()V"⟩, prog_13_method_58_code, 2, (Option.none : Option FieldType))
def sgX11_bringBack : gw_Sig := (⟨RX11, "bringBack", "()V"⟩, prog_13_method_59_code, 2, (Option.none : Option FieldType))
def sgX11_stepAt : gw_Sig := (⟨RX11, "stepAt", "(II)I"⟩, prog_13_method_60_code, 2, (Option.some FieldType.int))
def sgX11_keep : gw_Sig := (⟨RX11, "keep", "()V"⟩, prog_13_method_61_code, 3, (Option.none : Option FieldType))
def sgX11_undo : gw_Sig := (⟨RX11, "undo", "()I"⟩, prog_13_method_62_code, 3, (Option.some FieldType.int))
def sgX11_canTell : gw_Sig := (⟨RX11, "canTell", "(I)Z"⟩, prog_13_method_63_code, 2, (Option.some FieldType.boolean))
def sgX11_tellEntry : gw_Sig := (⟨RX11, "tellEntry", "(IIII)V"⟩, prog_13_method_64_code, 5, (Option.none : Option FieldType))
def sgX11_entry : gw_Sig := (⟨RX11, "entry", "(IIII)Z"⟩, prog_13_method_65_code, 5, (Option.some FieldType.boolean))
def sgX11_clear : gw_Sig := (⟨RX11, "clear", "(II)Z"⟩, prog_13_method_66_code, 3, (Option.some FieldType.boolean))
def sgX11_roomNow : gw_Sig := (⟨RX11, "roomNow", "(I)V"⟩, prog_13_method_67_code, 2, (Option.none : Option FieldType))
def sgX11_room : gw_Sig := (⟨RX11, "room", "(I)Z"⟩, prog_13_method_68_code, 2, (Option.some FieldType.boolean))
def sgX11_isLazy : gw_Sig := (⟨RX11, "isLazy", "(I)Z"⟩, prog_13_method_69_code, 3, (Option.some FieldType.boolean))
def sgX11_foldAhead : gw_Sig := (⟨RX11, "foldAhead", "()I"⟩, prog_13_method_70_code, 3, (Option.some FieldType.int))
def sgX11_join : gw_Sig := (⟨RX11, "join", "()I"⟩, prog_13_method_71_code, 3, (Option.some FieldType.int))
def sgX11_copied : gw_Sig := (⟨RX11, "copied", "()I"⟩, prog_13_method_72_code, 1, (Option.some FieldType.int))
def sgX11_trapPlace : gw_Sig := (⟨RX11, "trapPlace", "(I)Z"⟩, prog_13_method_73_code, 2, (Option.some FieldType.boolean))
def sgX11_trapped : gw_Sig := (⟨RX11, "trapped", "(I)I"⟩, prog_13_method_74_code, 2, (Option.some FieldType.int))
def sgX11_want : gw_Sig := (⟨RX11, "want", "(II)Z"⟩, prog_13_method_75_code, 3, (Option.some FieldType.boolean))
def sgX11_touch : gw_Sig := (⟨RX11, "touch", "(III)I"⟩, prog_13_method_76_code, 5, (Option.some FieldType.int))
def sgX11_event : gw_Sig := (⟨RX11, "event", "(I)I"⟩, prog_13_method_77_code, 3, (Option.some FieldType.int))
def sgX11_enter : gw_Sig := (⟨RX11, "enter", "()Z"⟩, prog_13_method_78_code, 1, (Option.some FieldType.boolean))
def sgX11_send : gw_Sig := (⟨RX11, "send", "(II)Z"⟩, prog_13_method_79_code, 3, (Option.some FieldType.boolean))
def sgX11_open : gw_Sig := (⟨RX11, "open", "(IZ)Z"⟩, prog_13_method_80_code, 3, (Option.some FieldType.boolean))
def sgX11_finish : gw_Sig := (⟨RX11, "finish", "()I"⟩, prog_13_method_81_code, 2, (Option.some FieldType.int))
def sgX11_hand : gw_Sig := (⟨RX11, "hand", "(I)Z"⟩, prog_13_method_82_code, 2, (Option.some FieldType.boolean))
def sgX11_scale : gw_Sig := (⟨RX11, "scale", "(III)Z"⟩, prog_13_method_83_code, 4, (Option.some FieldType.boolean))
def sgX11_timer : gw_Sig := (⟨RX11, "timer", "(III)I"⟩, prog_13_method_84_code, 5, (Option.some FieldType.int))
def sgX11_cancel : gw_Sig := (⟨RX11, "cancel", "(I)Z"⟩, prog_13_method_85_code, 2, (Option.some FieldType.boolean))
def sgX11_isHandled : gw_Sig := (⟨RX11, "isHandled", "(I)Z"⟩, prog_13_method_86_code, 1, (Option.some FieldType.boolean))
def sgX11_handler : gw_Sig := (⟨RX11, "handler", "(II)Z"⟩, prog_13_method_87_code, 3, (Option.some FieldType.boolean))
def sgX11_slice : gw_Sig := (⟨RX11, "slice", "(I)Z"⟩, prog_13_method_88_code, 2, (Option.some FieldType.boolean))
def sgX11_forget : gw_Sig := (⟨RX11, "forget", "()I"⟩, prog_13_method_89_code, 2, (Option.some FieldType.int))
def sgX11_pass : gw_Sig := (⟨RX11, "pass", "(I)I"⟩, prog_13_method_90_code, 4, (Option.some FieldType.int))
def sgX11_needs : gw_Sig := (⟨RX11, "needs", "(II)I"⟩, prog_13_method_91_code, 2, (Option.some FieldType.int))
def sgX11_isAct : gw_Sig := (⟨RX11, "isAct", "(IIII)Z"⟩, prog_13_method_92_code, 7, (Option.some FieldType.boolean))
def sgX11_act : gw_Sig := (⟨RX11, "act", "(IIII)I"⟩, prog_13_method_93_code, 8, (Option.some FieldType.int))
def sgX11_wipe : gw_Sig := (⟨RX11, "wipe", "(I)I"⟩, prog_13_method_94_code, 5, (Option.some FieldType.int))
def sgX11_actOuter : gw_Sig := (⟨RX11, "actOuter", "(III)V"⟩, prog_13_method_95_code, 4, (Option.none : Option FieldType))
def sgX11_hasPlace : gw_Sig := (⟨RX11, "hasPlace", "(II)Z"⟩, prog_13_method_96_code, 3, (Option.some FieldType.boolean))
def sgX11_actInner : gw_Sig := (⟨RX11, "actInner", "(III)V"⟩, prog_13_method_97_code, 5, (Option.none : Option FieldType))
def sgX11_goOnBy : gw_Sig := (⟨RX11, "goOnBy", "(IIIZ)V"⟩, prog_13_method_98_code, 5, (Option.none : Option FieldType))
def sgX11_actNow : gw_Sig := (⟨RX11, "actNow", "()V"⟩, prog_13_method_99_code, 9, (Option.none : Option FieldType))
def sgX11_goNow : gw_Sig := (⟨RX11, "goNow", "()V"⟩, prog_13_method_100_code, 1, (Option.none : Option FieldType))
def sgX11_canGo : gw_Sig := (⟨RX11, "canGo", "(II)Z"⟩, prog_13_method_101_code, 3, (Option.some FieldType.boolean))
def sgX11_exitsAll : gw_Sig := (⟨RX11, "exitsAll", "()I"⟩, prog_13_method_102_code, 1, (Option.some FieldType.int))
def sgX11_run : gw_Sig := (⟨RX11, "run", "(I)I"⟩, prog_13_method_103_code, 4, (Option.some FieldType.int))
def sgX11_freeFrames : gw_Sig := (⟨RX11, "freeFrames", "()I"⟩, prog_13_method_104_code, 3, (Option.some FieldType.int))
def sgX11_is : gw_Sig := (⟨RX11, "is", "(I)I"⟩, prog_13_method_105_code, 2, (Option.some FieldType.int))
def sgX11_told : gw_Sig := (⟨RX11, "told", "(III)I"⟩, prog_13_method_106_code, 4, (Option.some FieldType.int))
def sgX11_folded : gw_Sig := (⟨RX11, "folded", "(I)I"⟩, prog_13_method_107_code, 2, (Option.some FieldType.int))
def sgX11_frame : gw_Sig := (⟨RX11, "frame", "(I)I"⟩, prog_13_method_108_code, 2, (Option.some FieldType.int))
def sgX11_handled : gw_Sig := (⟨RX11, "handled", "(I)I"⟩, prog_13_method_109_code, 2, (Option.some FieldType.int))
def sgX11_stored : gw_Sig := (⟨RX11, "stored", "(I)I"⟩, prog_13_method_110_code, 2, (Option.some FieldType.int))
def sgX11_backed : gw_Sig := (⟨RX11, "backed", "(I)I"⟩, prog_13_method_111_code, 2, (Option.some FieldType.int))
def sgX11_heard : gw_Sig := (⟨RX11, "heard", "(I)I"⟩, prog_13_method_112_code, 2, (Option.some FieldType.int))
def sgX11_changed : gw_Sig := (⟨RX11, "changed", "()I"⟩, prog_13_method_113_code, 1, (Option.some FieldType.int))
def sgX11_walk : gw_Sig := (⟨RX11, "walk", "(II)I"⟩, prog_13_method_114_code, 5, (Option.some FieldType.int))
def sgX11_given : gw_Sig := (⟨RX11, "given", "(I)I"⟩, prog_13_method_115_code, 5, (Option.some FieldType.int))
def sgX11_lazy : gw_Sig := (⟨RX11, "lazy", "()I"⟩, prog_13_method_116_code, 3, (Option.some FieldType.int))
def sgX11_aliases : gw_Sig := (⟨RX11, "aliases", "(I)I"⟩, prog_13_method_117_code, 6, (Option.some FieldType.int))
def sgX11_free : gw_Sig := (⟨RX11, "free", "()I"⟩, prog_13_method_118_code, 1, (Option.some FieldType.int))
def sgX11_wanted : gw_Sig := (⟨RX11, "wanted", "(I)I"⟩, prog_13_method_119_code, 2, (Option.some FieldType.int))
def sgX11_whose : gw_Sig := (⟨RX11, "whose", "(I)I"⟩, prog_13_method_120_code, 2, (Option.some FieldType.int))
def sgX11_exit : gw_Sig := (⟨RX11, "exit", "(II)I"⟩, prog_13_method_121_code, 3, (Option.some FieldType.int))
def sgX11_exits : gw_Sig := (⟨RX11, "exits", "(I)I"⟩, prog_13_method_122_code, 4, (Option.some FieldType.int))
def sgX11_spent : gw_Sig := (⟨RX11, "spent", "(I)I"⟩, prog_13_method_123_code, 2, (Option.some FieldType.int))
def sgX11_seenOf : gw_Sig := (⟨RX11, "seenOf", "(II)I"⟩, prog_13_method_124_code, 3, (Option.some FieldType.int))
def sgX11_pending : gw_Sig := (⟨RX11, "pending", "(I)I"⟩, prog_13_method_125_code, 2, (Option.some FieldType.int))
def sgX11_longest : gw_Sig := (⟨RX11, "longest", "(I)I"⟩, prog_13_method_126_code, 2, (Option.some FieldType.int))
def sgX11_pendingFor : gw_Sig := (⟨RX11, "pendingFor", "(II)I"⟩, prog_13_method_127_code, 3, (Option.some FieldType.int))
def sgX11_service : gw_Sig := (⟨RX11, "service", "(I)I"⟩, prog_13_method_128_code, 2, (Option.some FieldType.int))
def sgX11_entriesFrom : gw_Sig := (⟨RX11, "entriesFrom", "(I)I"⟩, prog_13_method_129_code, 4, (Option.some FieldType.int))
def sgX11_putBy : gw_Sig := (⟨RX11, "putBy", "(II)I"⟩, prog_13_method_130_code, 4, (Option.some FieldType.int))
def sgX11_isOpen : gw_Sig := (⟨RX11, "isOpen", "(I)Z"⟩, prog_13_method_131_code, 2, (Option.some FieldType.boolean))
def sgX11_taken : gw_Sig := (⟨RX11, "taken", "(I)I"⟩, prog_13_method_132_code, 2, (Option.some FieldType.int))
def sgX11_clock : gw_Sig := (⟨RX11, "clock", "(I)I"⟩, prog_13_method_133_code, 2, (Option.some FieldType.int))
def sgX11_dueOf : gw_Sig := (⟨RX11, "dueOf", "(I)I"⟩, prog_13_method_134_code, 5, (Option.some FieldType.int))
def sgX11_timed : gw_Sig := (⟨RX11, "timed", "(II)I"⟩, prog_13_method_135_code, 3, (Option.some FieldType.int))
def sgX11_first : gw_Sig := (⟨RX11, "first", "()I"⟩, prog_13_method_136_code, 3, (Option.some FieldType.int))
def sgX11_program : gw_Sig := (⟨RX11, "program", "(III)I"⟩, prog_13_method_137_code, 5, (Option.some FieldType.int))
def sgX11_foretold : gw_Sig := (⟨RX11, "foretold", "(II)I"⟩, prog_13_method_138_code, 4, (Option.some FieldType.int))
def sgX11_tillMore : gw_Sig := (⟨RX11, "tillMore", "(I)I"⟩, prog_13_method_139_code, 5, (Option.some FieldType.int))
def sgX11_till : gw_Sig := (⟨RX11, "till", "()I"⟩, prog_13_method_140_code, 1, (Option.some FieldType.int))
def sgX11_waits : gw_Sig := (⟨RX11, "waits", "(I)I"⟩, prog_13_method_141_code, 2, (Option.some FieldType.int))
def sgX11_seenBy : gw_Sig := (⟨RX11, "seenBy", "(II)I"⟩, prog_13_method_142_code, 5, (Option.some FieldType.int))
def sgX11_roomiest : gw_Sig := (⟨RX11, "roomiest", "(I)I"⟩, prog_13_method_143_code, 6, (Option.some FieldType.int))
def sgX11_plainValue : gw_Sig := (⟨RX11, "plainValue", "(I)I"⟩, prog_13_method_144_code, 3, (Option.some FieldType.int))
def sgX11_plainTrap : gw_Sig := (⟨RX11, "plainTrap", "(III)V"⟩, prog_13_method_145_code, 4, (Option.none : Option FieldType))
def sgX11_plainTell : gw_Sig := (⟨RX11, "plainTell", "(II)V"⟩, prog_13_method_146_code, 3, (Option.none : Option FieldType))
def sgX11_plainTouch : gw_Sig := (⟨RX11, "plainTouch", "(IIIII)V"⟩, prog_13_method_147_code, 7, (Option.none : Option FieldType))
def sgX11_layPlain : gw_Sig := (⟨RX11, "layPlain", "(I)V"⟩, prog_13_method_148_code, 4, (Option.none : Option FieldType))
def sgX11_plainAct : gw_Sig := (⟨RX11, "plainAct", "(II)V"⟩, prog_13_method_149_code, 4, (Option.none : Option FieldType))
def sgX11_plainly : gw_Sig := (⟨RX11, "plainly", "(II)I"⟩, prog_13_method_150_code, 3, (Option.some FieldType.int))
def sgX11_plainTraps : gw_Sig := (⟨RX11, "plainTraps", "(I)I"⟩, prog_13_method_151_code, 2, (Option.some FieldType.int))
def sgX11_plainHeard : gw_Sig := (⟨RX11, "plainHeard", "(I)I"⟩, prog_13_method_152_code, 2, (Option.some FieldType.int))
def sgX11_share : gw_Sig := (⟨RX11, "share", "()J"⟩, prog_13_method_153_code, 1, (Option.some FieldType.long))
def sgX11_image : gw_Sig := (⟨RX11, "image", "()I"⟩, prog_13_method_154_code, 1, (Option.some FieldType.int))
def sgX11_back : gw_Sig := (⟨RX11, "back", "()I"⟩, prog_13_method_155_code, 1, (Option.some FieldType.int))
def sgX11_steps : gw_Sig := (⟨RX11, "steps", "()I"⟩, prog_13_method_156_code, 1, (Option.some FieldType.int))
def sgJxe99ae_isNaN_b9ae7 : gw_Sig := (⟨"java/lang/Double", "isNaN", "(D)Z"⟩, prog_14_method_6_code, 2, (Option.some FieldType.boolean))
def sgJxe99ae_doubleToLongBits_ccdee : gw_Sig := (⟨"java/lang/Double", "doubleToLongBits", "(D)J"⟩, prog_14_method_23_code, 2, (Option.some FieldType.long))
def sgJ6_bitCount_0f7a4 : gw_Sig := (⟨"java/lang/Integer", "bitCount", "(I)I"⟩, prog_15_method_49_code, 1, (Option.some FieldType.int))
def sgJ9_floorDiv_7cf53 : gw_Sig := (⟨"java/lang/Math", "floorDiv", "(II)I"⟩, prog_16_method_47_code, 3, (Option.some FieldType.int))
def sgJ9_max_7cf53 : gw_Sig := (⟨"java/lang/Math", "max", "(II)I"⟩, prog_16_method_65_code, 2, (Option.some FieldType.int))
def sgJ9_min_7cf53 : gw_Sig := (⟨"java/lang/Math", "min", "(II)I"⟩, prog_16_method_69_code, 2, (Option.some FieldType.int))
def sgJ7_fill_53178 : gw_Sig := (⟨"java/util/Arrays", "fill", "([II)V"⟩, prog_19_method_103_code, 4, (Option.none : Option FieldType))
end
section
def bkJ6_bitCount_0f7a4_0 : List gw_E := [(0, 1, .iload_n 0, [0], [], []), (1, 1, .iload_n 0, [0], [], []), (2, 1, .iconst 1, [], [1], []), (3, 1, .iushr, [], [], []), (4, 3, .ldc_w 265, [4121], [1431655765], []), (7, 1, .iand, [], [], []), (8, 1, .isub, [], [], []), (9, 1, .istore_n 0, [0], [], []), (10, 1, .iload_n 0, [0], [], []), (11, 3, .ldc_w 266, [4122], [858993459], []), (14, 1, .iand, [], [], []), (15, 1, .iload_n 0, [0], [], []), (16, 1, .iconst 2, [], [2], []), (17, 1, .iushr, [], [], []), (18, 3, .ldc_w 266, [4122], [858993459], []), (21, 1, .iand, [], [], []), (22, 1, .iadd, [], [], []), (23, 1, .istore_n 0, [0], [], []), (24, 1, .iload_n 0, [0], [], []), (25, 1, .iload_n 0, [0], [], []), (26, 1, .iconst 4, [], [4], []), (27, 1, .iushr, [], [], []), (28, 1, .iadd, [], [], []), (29, 3, .ldc_w 267, [4123], [252645135], []), (32, 1, .iand, [], [], []), (33, 1, .istore_n 0, [0], [], []), (34, 1, .iload_n 0, [0], [], []), (35, 1, .iload_n 0, [0], [], []), (36, 2, .bipush 8, [], [8], []), (38, 1, .iushr, [], [], []), (39, 1, .iadd, [], [], []), (40, 1, .istore_n 0, [0], [], []), (41, 1, .iload_n 0, [0], [], []), (42, 1, .iload_n 0, [0], [], []), (43, 2, .bipush 16, [], [16], []), (45, 1, .iushr, [], [], []), (46, 1, .iadd, [], [], []), (47, 1, .istore_n 0, [0], [], []), (48, 1, .iload_n 0, [0], [], []), (49, 2, .bipush 63, [], [63], []), (51, 1, .iand, [], [], []), (52, 1, .ireturn, [0], [], [])]
def bsJ6_bitCount_0f7a4 : List (Nat × List gw_E) := [(0, bkJ6_bitCount_0f7a4_0)]
theorem fdJ6_bitCount_0f7a4_0 : gw_find bsJ6_bitCount_0f7a4 0 = bkJ6_bitCount_0f7a4_0 := rfl
set_option maxRecDepth 40000 in
theorem stJ6_bitCount_0f7a4 : gw_sta sgJ6_bitCount_0f7a4 bsJ6_bitCount_0f7a4 := ⟨by decide +kernel, gw_mem2 (i := 4120) rfl rfl, gw_all (by decide +kernel)⟩
def bkJ9_floorDiv_7cf53_0 : List gw_E := [(0, 1, .iload_n 0, [0], [], []), (1, 1, .iload_n 1, [1], [], []), (2, 1, .idiv, [], [], []), (3, 1, .istore_n 2, [2], [], []), (4, 1, .iload_n 0, [0], [], []), (5, 1, .iload_n 1, [1], [], []), (6, 1, .ixor, [], [], []), (7, 3, .ifCond .ge 14, [21], [], []), (10, 1, .iload_n 2, [2], [], []), (11, 1, .iload_n 1, [1], [], []), (12, 1, .imul, [], [], []), (13, 1, .iload_n 0, [0], [], []), (14, 3, .if_icmp .eq 7, [21], [], []), (17, 1, .iload_n 2, [2], [], []), (18, 1, .iconst 1, [], [1], []), (19, 1, .isub, [], [], []), (20, 1, .ireturn, [0], [], [])]
def bkJ9_floorDiv_7cf53_21 : List gw_E := [(21, 1, .iload_n 2, [2], [], []), (22, 1, .ireturn, [0], [], [])]
def bsJ9_floorDiv_7cf53 : List (Nat × List gw_E) := [(0, bkJ9_floorDiv_7cf53_0), (21, bkJ9_floorDiv_7cf53_21)]
theorem fdJ9_floorDiv_7cf53_0 : gw_find bsJ9_floorDiv_7cf53 0 = bkJ9_floorDiv_7cf53_0 := rfl
theorem fdJ9_floorDiv_7cf53_21 : gw_find bsJ9_floorDiv_7cf53 21 = bkJ9_floorDiv_7cf53_21 := rfl
set_option maxRecDepth 40000 in
theorem stJ9_floorDiv_7cf53 : gw_sta sgJ9_floorDiv_7cf53 bsJ9_floorDiv_7cf53 := ⟨by decide +kernel, gw_mem2 (i := 4151) rfl rfl, gw_all (by decide +kernel)⟩
def bkJ9_max_7cf53_0 : List gw_E := [(0, 1, .iload_n 0, [0], [], []), (1, 1, .iload_n 1, [1], [], []), (2, 3, .if_icmp .lt 7, [9], [], []), (5, 1, .iload_n 0, [0], [], []), (6, 3, .goto 4, [10], [], [])]
def bkJ9_max_7cf53_9 : List gw_E := [(9, 1, .iload_n 1, [1], [], [])]
def bkJ9_max_7cf53_10 : List gw_E := [(10, 1, .ireturn, [0], [], [])]
def bsJ9_max_7cf53 : List (Nat × List gw_E) := [(0, bkJ9_max_7cf53_0), (9, bkJ9_max_7cf53_9), (10, bkJ9_max_7cf53_10)]
theorem fdJ9_max_7cf53_0 : gw_find bsJ9_max_7cf53 0 = bkJ9_max_7cf53_0 := rfl
theorem fdJ9_max_7cf53_9 : gw_find bsJ9_max_7cf53 9 = bkJ9_max_7cf53_9 := rfl
theorem fdJ9_max_7cf53_10 : gw_find bsJ9_max_7cf53 10 = bkJ9_max_7cf53_10 := rfl
set_option maxRecDepth 40000 in
theorem stJ9_max_7cf53 : gw_sta sgJ9_max_7cf53 bsJ9_max_7cf53 := ⟨by decide +kernel, gw_mem2 (i := 3079) rfl rfl, gw_all (by decide +kernel)⟩
def bkJ9_min_7cf53_0 : List gw_E := [(0, 1, .iload_n 0, [0], [], []), (1, 1, .iload_n 1, [1], [], []), (2, 3, .if_icmp .gt 7, [9], [], []), (5, 1, .iload_n 0, [0], [], []), (6, 3, .goto 4, [10], [], [])]
def bkJ9_min_7cf53_9 : List gw_E := [(9, 1, .iload_n 1, [1], [], [])]
def bkJ9_min_7cf53_10 : List gw_E := [(10, 1, .ireturn, [0], [], [])]
def bsJ9_min_7cf53 : List (Nat × List gw_E) := [(0, bkJ9_min_7cf53_0), (9, bkJ9_min_7cf53_9), (10, bkJ9_min_7cf53_10)]
theorem fdJ9_min_7cf53_0 : gw_find bsJ9_min_7cf53 0 = bkJ9_min_7cf53_0 := rfl
theorem fdJ9_min_7cf53_9 : gw_find bsJ9_min_7cf53 9 = bkJ9_min_7cf53_9 := rfl
theorem fdJ9_min_7cf53_10 : gw_find bsJ9_min_7cf53 10 = bkJ9_min_7cf53_10 := rfl
set_option maxRecDepth 40000 in
theorem stJ9_min_7cf53 : gw_sta sgJ9_min_7cf53 bsJ9_min_7cf53 := ⟨by decide +kernel, gw_mem2 (i := 5072) rfl rfl, gw_all (by decide +kernel)⟩
def bkJ7_fill_53178_0 : List gw_E := [(0, 1, .iconst 0, [], [0], []), (1, 1, .istore_n 2, [2], [], []), (2, 1, .aload_n 0, [0], [], []), (3, 1, .arraylength, [], [], []), (4, 1, .istore_n 3, [3], [], [])]
def bkJ7_fill_53178_5 : List gw_E := [(5, 1, .iload_n 2, [2], [], []), (6, 1, .iload_n 3, [3], [], []), (7, 3, .if_icmp .ge 13, [20], [], []), (10, 1, .aload_n 0, [0], [], []), (11, 1, .iload_n 2, [2], [], []), (12, 1, .iload_n 1, [1], [], []), (13, 1, .iastore, [], [], []), (14, 3, .iinc 2 1, [2], [1], []), (17, 3, .goto (-12), [5], [], [])]
def bkJ7_fill_53178_20 : List gw_E := [(20, 1, .return_, [], [], [])]
def bsJ7_fill_53178 : List (Nat × List gw_E) := [(0, bkJ7_fill_53178_0), (5, bkJ7_fill_53178_5), (20, bkJ7_fill_53178_20)]
theorem fdJ7_fill_53178_0 : gw_find bsJ7_fill_53178 0 = bkJ7_fill_53178_0 := rfl
theorem fdJ7_fill_53178_5 : gw_find bsJ7_fill_53178 5 = bkJ7_fill_53178_5 := rfl
theorem fdJ7_fill_53178_20 : gw_find bsJ7_fill_53178 20 = bkJ7_fill_53178_20 := rfl
set_option maxRecDepth 40000 in
theorem stJ7_fill_53178 : gw_sta sgJ7_fill_53178 bsJ7_fill_53178 := ⟨by decide +kernel, gw_mem2 (i := 1047) rfl rfl, gw_all (by decide +kernel)⟩
def bkX8_init_0 : List gw_E := [(0, 1, .aload_n 0, [0], [], []), (1, 3, .invokespecial 3, [0, 2, 1044, 1025, 1026, 0], [], []), (4, 1, .aload_n 0, [0], [], []), (5, 2, .bipush 16, [], [16], []), (7, 2, .newarray .int, [], [], []), (9, 3, .putfield 9, [8, 0, 1, 1048], [], []), (12, 1, .aload_n 0, [0], [], []), (13, 2, .bipush 16, [], [16], []), (15, 2, .newarray .int, [], [], []), (17, 3, .putfield 15, [8, 1, 1, 1053], [], []), (20, 1, .aload_n 0, [0], [], []), (21, 2, .bipush 16, [], [16], []), (23, 2, .newarray .int, [], [], []), (25, 3, .putfield 18, [8, 2, 1, 1057], [], []), (28, 1, .aload_n 0, [0], [], []), (29, 3, .getfield 9, [8, 0, 1, 1048], [], []), (32, 1, .iconst (-1), [], [-1], []), (33, 3, .invokestatic 21, [2, 0, 1045, 1046, 1005, 0], [], [sgJ7_fill_53178]), (36, 1, .return_, [], [], [])]
def bsX8_init : List (Nat × List gw_E) := [(0, bkX8_init_0)]
theorem fdX8_init_0 : gw_find bsX8_init 0 = bkX8_init_0 := rfl
set_option maxRecDepth 40000 in
theorem stX8_init : gw_sta sgX8_init bsX8_init := ⟨by decide +kernel, gw_mem2 (i := 1043) rfl rfl, gw_all (by decide +kernel)⟩
def bkX8_copyFrom_0 : List gw_E := [(0, 1, .aload_n 1, [1], [], []), (1, 3, .getfield 9, [8, 0, 1, 1048], [], []), (4, 1, .iconst 0, [], [0], []), (5, 1, .aload_n 0, [0], [], []), (6, 3, .getfield 9, [8, 0, 1, 1048], [], []), (9, 1, .iconst 0, [], [0], []), (10, 2, .bipush 16, [], [16], []), (12, 3, .invokestatic 27, [5, 2, 2222, 2224, 2223, 1014], [], []), (15, 1, .aload_n 1, [1], [], []), (16, 3, .getfield 15, [8, 1, 1, 1053], [], []), (19, 1, .iconst 0, [], [0], []), (20, 1, .aload_n 0, [0], [], []), (21, 3, .getfield 15, [8, 1, 1, 1053], [], []), (24, 1, .iconst 0, [], [0], []), (25, 2, .bipush 16, [], [16], []), (27, 3, .invokestatic 27, [5, 2, 2222, 2224, 2223, 1014], [], []), (30, 1, .aload_n 1, [1], [], []), (31, 3, .getfield 18, [8, 2, 1, 1057], [], []), (34, 1, .iconst 0, [], [0], []), (35, 1, .aload_n 0, [0], [], []), (36, 3, .getfield 18, [8, 2, 1, 1057], [], []), (39, 1, .iconst 0, [], [0], []), (40, 2, .bipush 16, [], [16], []), (42, 3, .invokestatic 27, [5, 2, 2222, 2224, 2223, 1014], [], []), (45, 1, .aload_n 0, [0], [], []), (46, 1, .aload_n 1, [1], [], []), (47, 3, .getfield 33, [8, 3, 0, 1058], [], []), (50, 3, .putfield 33, [8, 3, 0, 1058], [], []), (53, 1, .return_, [], [], [])]
def bsX8_copyFrom : List (Nat × List gw_E) := [(0, bkX8_copyFrom_0)]
theorem fdX8_copyFrom_0 : gw_find bsX8_copyFrom 0 = bkX8_copyFrom_0 := rfl
set_option maxRecDepth 40000 in
theorem stX8_copyFrom : gw_sta sgX8_copyFrom bsX8_copyFrom := ⟨by decide +kernel, gw_mem2 (i := 2221) rfl rfl, gw_all (by decide +kernel)⟩
def bkX8_has_0 : List gw_E := [(0, 1, .aload_n 0, [0], [], []), (1, 3, .getfield 9, [8, 0, 1, 1048], [], []), (4, 1, .iload_n 1, [1], [], []), (5, 1, .iaload, [], [], []), (6, 1, .iconst (-1), [], [-1], []), (7, 3, .if_icmp .eq 7, [14], [], []), (10, 1, .iconst 1, [], [1], []), (11, 3, .goto 4, [15], [], [])]
def bkX8_has_14 : List gw_E := [(14, 1, .iconst 0, [], [0], [])]
def bkX8_has_15 : List gw_E := [(15, 1, .ireturn, [1], [], [])]
def bsX8_has : List (Nat × List gw_E) := [(0, bkX8_has_0), (14, bkX8_has_14), (15, bkX8_has_15)]
theorem fdX8_has_0 : gw_find bsX8_has 0 = bkX8_has_0 := rfl
theorem fdX8_has_14 : gw_find bsX8_has 14 = bkX8_has_14 := rfl
theorem fdX8_has_15 : gw_find bsX8_has 15 = bkX8_has_15 := rfl
set_option maxRecDepth 40000 in
theorem stX8_has : gw_sta sgX8_has bsX8_has := ⟨by decide +kernel, gw_mem2 (i := 3095) rfl rfl, gw_all (by decide +kernel)⟩
def bkX8_gives_0 : List gw_E := [(0, 1, .aload_n 0, [0], [], []), (1, 3, .getfield 15, [8, 1, 1, 1053], [], []), (4, 1, .iload_n 1, [1], [], []), (5, 1, .iaload, [], [], []), (6, 1, .iload_n 2, [2], [], []), (7, 3, .invokestatic 37, [2, 1, 3196, 3044, 1001, 0], [], [sgX10_hasBit]), (10, 1, .ireturn, [1], [], [])]
def bsX8_gives : List (Nat × List gw_E) := [(0, bkX8_gives_0)]
theorem fdX8_gives_0 : gw_find bsX8_gives 0 = bkX8_gives_0 := rfl
set_option maxRecDepth 40000 in
theorem stX8_gives : gw_sta sgX8_gives bsX8_gives := ⟨by decide +kernel, gw_mem2 (i := 3195) rfl rfl, gw_all (by decide +kernel)⟩
def bkX8_put_0 : List gw_E := [(0, 1, .aload_n 0, [0], [], []), (1, 3, .getfield 9, [8, 0, 1, 1048], [], []), (4, 1, .iload_n 1, [1], [], []), (5, 1, .iload_n 2, [2], [], []), (6, 1, .iastore, [], [], []), (7, 1, .aload_n 0, [0], [], []), (8, 3, .getfield 15, [8, 1, 1, 1053], [], []), (11, 1, .iload_n 1, [1], [], []), (12, 1, .iload_n 3, [3], [], []), (13, 1, .iastore, [], [], []), (14, 1, .aload_n 0, [0], [], []), (15, 3, .getfield 18, [8, 2, 1, 1057], [], []), (18, 1, .iload_n 1, [1], [], []), (19, 1, .aload_n 0, [0], [], []), (20, 3, .getfield 33, [8, 3, 0, 1058], [], []), (23, 1, .iastore, [], [], []), (24, 1, .aload_n 0, [0], [], []), (25, 1, .dup, [], [], []), (26, 3, .getfield 33, [8, 3, 0, 1058], [], []), (29, 1, .iconst 1, [], [1], []), (30, 1, .iadd, [], [], []), (31, 3, .putfield 33, [8, 3, 0, 1058], [], []), (34, 1, .return_, [], [], [])]
def bsX8_put : List (Nat × List gw_E) := [(0, bkX8_put_0)]
theorem fdX8_put_0 : gw_find bsX8_put 0 = bkX8_put_0 := rfl
set_option maxRecDepth 40000 in
theorem stX8_put : gw_sta sgX8_put bsX8_put := ⟨by decide +kernel, gw_mem2 (i := 3025) rfl rfl, gw_all (by decide +kernel)⟩
def bkX8_drop_0 : List gw_E := [(0, 1, .aload_n 0, [0], [], []), (1, 3, .getfield 9, [8, 0, 1, 1048], [], []), (4, 1, .iload_n 1, [1], [], []), (5, 1, .iconst (-1), [], [-1], []), (6, 1, .iastore, [], [], []), (7, 1, .aload_n 0, [0], [], []), (8, 3, .getfield 15, [8, 1, 1, 1053], [], []), (11, 1, .iload_n 1, [1], [], []), (12, 1, .iconst 0, [], [0], []), (13, 1, .iastore, [], [], []), (14, 1, .return_, [], [], [])]
def bsX8_drop : List (Nat × List gw_E) := [(0, bkX8_drop_0)]
theorem fdX8_drop_0 : gw_find bsX8_drop 0 = bkX8_drop_0 := rfl
set_option maxRecDepth 40000 in
theorem stX8_drop : gw_sta sgX8_drop bsX8_drop := ⟨by decide +kernel, gw_mem2 (i := 3033) rfl rfl, gw_all (by decide +kernel)⟩
def bkX8_dropAll_0 : List gw_E := [(0, 1, .aload_n 0, [0], [], []), (1, 3, .getfield 9, [8, 0, 1, 1048], [], []), (4, 1, .iconst (-1), [], [-1], []), (5, 3, .invokestatic 21, [2, 0, 1045, 1046, 1005, 0], [], [sgJ7_fill_53178]), (8, 1, .aload_n 0, [0], [], []), (9, 3, .getfield 15, [8, 1, 1, 1053], [], []), (12, 1, .iconst 0, [], [0], []), (13, 3, .invokestatic 21, [2, 0, 1045, 1046, 1005, 0], [], [sgJ7_fill_53178]), (16, 1, .return_, [], [], [])]
def bsX8_dropAll : List (Nat × List gw_E) := [(0, bkX8_dropAll_0)]
theorem fdX8_dropAll_0 : gw_find bsX8_dropAll 0 = bkX8_dropAll_0 := rfl
set_option maxRecDepth 40000 in
theorem stX8_dropAll : gw_sta sgX8_dropAll bsX8_dropAll := ⟨by decide +kernel, gw_mem2 (i := 4080) rfl rfl, gw_all (by decide +kernel)⟩
def bkX8_dropEldest_0 : List gw_E := [(0, 1, .aload_n 0, [0], [], []), (1, 3, .invokevirtual 41, [0, 8, 3121, 3122, 3123, 1004], [], [sgX8_eldest]), (4, 1, .istore_n 1, [1], [], []), (5, 1, .iload_n 1, [1], [], []), (6, 1, .iconst (-1), [], [-1], []), (7, 3, .if_icmp .eq 8, [15], [], []), (10, 1, .aload_n 0, [0], [], []), (11, 1, .iload_n 1, [1], [], []), (12, 3, .invokevirtual 45, [1, 8, 3125, 3031, 3032, 1004], [], [sgX8_drop])]
def bkX8_dropEldest_15 : List gw_E := [(15, 1, .return_, [], [], [])]
def bsX8_dropEldest : List (Nat × List gw_E) := [(0, bkX8_dropEldest_0), (15, bkX8_dropEldest_15)]
theorem fdX8_dropEldest_0 : gw_find bsX8_dropEldest 0 = bkX8_dropEldest_0 := rfl
theorem fdX8_dropEldest_15 : gw_find bsX8_dropEldest 15 = bkX8_dropEldest_15 := rfl
set_option maxRecDepth 40000 in
theorem stX8_dropEldest : gw_sta sgX8_dropEldest bsX8_dropEldest := ⟨by decide +kernel, gw_mem2 (i := 3120) rfl rfl, gw_all (by decide +kernel)⟩
def bkX8_size_0 : List gw_E := [(0, 1, .iconst 0, [], [0], []), (1, 1, .istore_n 1, [1], [], []), (2, 1, .iconst 0, [], [0], []), (3, 1, .istore_n 2, [2], [], [])]
def bkX8_size_4 : List gw_E := [(4, 1, .iload_n 2, [2], [], []), (5, 2, .bipush 16, [], [16], []), (7, 3, .if_icmp .ge 22, [29], [], []), (10, 1, .aload_n 0, [0], [], []), (11, 3, .getfield 9, [8, 0, 1, 1048], [], []), (14, 1, .iload_n 2, [2], [], []), (15, 1, .iaload, [], [], []), (16, 1, .iconst (-1), [], [-1], []), (17, 3, .if_icmp .eq 6, [23], [], []), (20, 3, .iinc 1 1, [1], [1], [])]
def bkX8_size_23 : List gw_E := [(23, 3, .iinc 2 1, [2], [1], []), (26, 3, .goto (-22), [4], [], [])]
def bkX8_size_29 : List gw_E := [(29, 1, .iload_n 1, [1], [], []), (30, 1, .ireturn, [0], [], [])]
def bsX8_size : List (Nat × List gw_E) := [(0, bkX8_size_0), (4, bkX8_size_4), (23, bkX8_size_23), (29, bkX8_size_29)]
theorem fdX8_size_0 : gw_find bsX8_size 0 = bkX8_size_0 := rfl
theorem fdX8_size_4 : gw_find bsX8_size 4 = bkX8_size_4 := rfl
theorem fdX8_size_23 : gw_find bsX8_size 23 = bkX8_size_23 := rfl
theorem fdX8_size_29 : gw_find bsX8_size 29 = bkX8_size_29 := rfl
set_option maxRecDepth 40000 in
theorem stX8_size : gw_sta sgX8_size bsX8_size := ⟨by decide +kernel, gw_mem2 (i := 3116) rfl rfl, gw_all (by decide +kernel)⟩
def bkX8_eldest_0 : List gw_E := [(0, 1, .iconst (-1), [], [-1], []), (1, 1, .istore_n 1, [1], [], []), (2, 1, .iconst 0, [], [0], []), (3, 1, .istore_n 2, [2], [], [])]
def bkX8_eldest_4 : List gw_E := [(4, 1, .iload_n 2, [2], [], []), (5, 2, .bipush 16, [], [16], []), (7, 3, .if_icmp .ge 41, [48], [], []), (10, 1, .aload_n 0, [0], [], []), (11, 3, .getfield 9, [8, 0, 1, 1048], [], []), (14, 1, .iload_n 2, [2], [], []), (15, 1, .iaload, [], [], []), (16, 1, .iconst (-1), [], [-1], []), (17, 3, .if_icmp .eq 25, [42], [], []), (20, 1, .iload_n 1, [1], [], []), (21, 1, .iconst (-1), [], [-1], []), (22, 3, .if_icmp .eq 18, [40], [], []), (25, 1, .aload_n 0, [0], [], []), (26, 3, .getfield 18, [8, 2, 1, 1057], [], []), (29, 1, .iload_n 2, [2], [], []), (30, 1, .iaload, [], [], []), (31, 1, .aload_n 0, [0], [], []), (32, 3, .getfield 18, [8, 2, 1, 1057], [], []), (35, 1, .iload_n 1, [1], [], []), (36, 1, .iaload, [], [], []), (37, 3, .if_icmp .ge 5, [42], [], [])]
def bkX8_eldest_40 : List gw_E := [(40, 1, .iload_n 2, [2], [], []), (41, 1, .istore_n 1, [1], [], [])]
def bkX8_eldest_42 : List gw_E := [(42, 3, .iinc 2 1, [2], [1], []), (45, 3, .goto (-41), [4], [], [])]
def bkX8_eldest_48 : List gw_E := [(48, 1, .iload_n 1, [1], [], []), (49, 1, .ireturn, [0], [], [])]
def bsX8_eldest : List (Nat × List gw_E) := [(0, bkX8_eldest_0), (4, bkX8_eldest_4), (40, bkX8_eldest_40), (42, bkX8_eldest_42), (48, bkX8_eldest_48)]
theorem fdX8_eldest_0 : gw_find bsX8_eldest 0 = bkX8_eldest_0 := rfl
theorem fdX8_eldest_4 : gw_find bsX8_eldest 4 = bkX8_eldest_4 := rfl
theorem fdX8_eldest_40 : gw_find bsX8_eldest 40 = bkX8_eldest_40 := rfl
theorem fdX8_eldest_42 : gw_find bsX8_eldest 42 = bkX8_eldest_42 := rfl
theorem fdX8_eldest_48 : gw_find bsX8_eldest 48 = bkX8_eldest_48 := rfl
set_option maxRecDepth 40000 in
theorem stX8_eldest : gw_sta sgX8_eldest bsX8_eldest := ⟨by decide +kernel, gw_mem2 (i := 3124) rfl rfl, gw_all (by decide +kernel)⟩
def bkX8_byAge_0 : List gw_E := [(0, 1, .iconst 0, [], [0], []), (1, 1, .istore_n 2, [2], [], [])]
def bkX8_byAge_2 : List gw_E := [(2, 1, .iload_n 2, [2], [], []), (3, 2, .bipush 16, [], [16], []), (5, 3, .if_icmp .ge 30, [35], [], []), (8, 1, .aload_n 0, [0], [], []), (9, 3, .getfield 9, [8, 0, 1, 1048], [], []), (12, 1, .iload_n 2, [2], [], []), (13, 1, .iaload, [], [], []), (14, 1, .iconst (-1), [], [-1], []), (15, 3, .if_icmp .eq 14, [29], [], []), (18, 1, .aload_n 0, [0], [], []), (19, 1, .iload_n 2, [2], [], []), (20, 3, .invokevirtual 49, [1, 8, 5031, 5033, 18, 1004], [], [sgX8_elderThan]), (23, 1, .iload_n 1, [1], [], []), (24, 3, .if_icmp .ne 5, [29], [], []), (27, 1, .iload_n 2, [2], [], []), (28, 1, .ireturn, [0], [], [])]
def bkX8_byAge_29 : List gw_E := [(29, 3, .iinc 2 1, [2], [1], []), (32, 3, .goto (-30), [2], [], [])]
def bkX8_byAge_35 : List gw_E := [(35, 1, .iconst (-1), [], [-1], []), (36, 1, .ireturn, [0], [], [])]
def bsX8_byAge : List (Nat × List gw_E) := [(0, bkX8_byAge_0), (2, bkX8_byAge_2), (29, bkX8_byAge_29), (35, bkX8_byAge_35)]
theorem fdX8_byAge_0 : gw_find bsX8_byAge 0 = bkX8_byAge_0 := rfl
theorem fdX8_byAge_2 : gw_find bsX8_byAge 2 = bkX8_byAge_2 := rfl
theorem fdX8_byAge_29 : gw_find bsX8_byAge 29 = bkX8_byAge_29 := rfl
theorem fdX8_byAge_35 : gw_find bsX8_byAge 35 = bkX8_byAge_35 := rfl
set_option maxRecDepth 40000 in
theorem stX8_byAge : gw_sta sgX8_byAge bsX8_byAge := ⟨by decide +kernel, gw_mem2 (i := 5030) rfl rfl, gw_all (by decide +kernel)⟩
def bkX8_elderThan_0 : List gw_E := [(0, 1, .iconst 0, [], [0], []), (1, 1, .istore_n 2, [2], [], []), (2, 1, .iconst 0, [], [0], []), (3, 1, .istore_n 3, [3], [], [])]
def bkX8_elderThan_4 : List gw_E := [(4, 1, .iload_n 3, [3], [], []), (5, 2, .bipush 16, [], [16], []), (7, 3, .if_icmp .ge 37, [44], [], []), (10, 1, .aload_n 0, [0], [], []), (11, 3, .getfield 9, [8, 0, 1, 1048], [], []), (14, 1, .iload_n 3, [3], [], []), (15, 1, .iaload, [], [], []), (16, 1, .iconst (-1), [], [-1], []), (17, 3, .if_icmp .eq 21, [38], [], []), (20, 1, .aload_n 0, [0], [], []), (21, 3, .getfield 18, [8, 2, 1, 1057], [], []), (24, 1, .iload_n 3, [3], [], []), (25, 1, .iaload, [], [], []), (26, 1, .aload_n 0, [0], [], []), (27, 3, .getfield 18, [8, 2, 1, 1057], [], []), (30, 1, .iload_n 1, [1], [], []), (31, 1, .iaload, [], [], []), (32, 3, .if_icmp .ge 6, [38], [], []), (35, 3, .iinc 2 1, [2], [1], [])]
def bkX8_elderThan_38 : List gw_E := [(38, 3, .iinc 3 1, [3], [1], []), (41, 3, .goto (-37), [4], [], [])]
def bkX8_elderThan_44 : List gw_E := [(44, 1, .iload_n 2, [2], [], []), (45, 1, .ireturn, [0], [], [])]
def bsX8_elderThan : List (Nat × List gw_E) := [(0, bkX8_elderThan_0), (4, bkX8_elderThan_4), (38, bkX8_elderThan_38), (44, bkX8_elderThan_44)]
theorem fdX8_elderThan_0 : gw_find bsX8_elderThan 0 = bkX8_elderThan_0 := rfl
theorem fdX8_elderThan_4 : gw_find bsX8_elderThan 4 = bkX8_elderThan_4 := rfl
theorem fdX8_elderThan_38 : gw_find bsX8_elderThan 38 = bkX8_elderThan_38 := rfl
theorem fdX8_elderThan_44 : gw_find bsX8_elderThan 44 = bkX8_elderThan_44 := rfl
set_option maxRecDepth 40000 in
theorem stX8_elderThan : gw_sta sgX8_elderThan bsX8_elderThan := ⟨by decide +kernel, gw_mem2 (i := 5034) rfl rfl, gw_all (by decide +kernel)⟩
def bkX7_init_0 : List gw_E := [(0, 1, .aload_n 0, [0], [], []), (1, 3, .invokespecial 3, [0, 2, 1111, 1025, 1026, 0], [], []), (4, 1, .aload_n 0, [0], [], []), (5, 2, .bipush 24, [], [24], []), (7, 2, .newarray .int, [], [], []), (9, 3, .putfield 9, [7, 0, 1, 1112], [], []), (12, 1, .aload_n 0, [0], [], []), (13, 2, .bipush 24, [], [24], []), (15, 2, .newarray .int, [], [], []), (17, 3, .putfield 15, [7, 1, 1, 1116], [], []), (20, 1, .aload_n 0, [0], [], []), (21, 2, .bipush 24, [], [24], []), (23, 2, .newarray .int, [], [], []), (25, 3, .putfield 18, [7, 2, 1, 1120], [], []), (28, 1, .return_, [], [], [])]
def bsX7_init : List (Nat × List gw_E) := [(0, bkX7_init_0)]
theorem fdX7_init_0 : gw_find bsX7_init 0 = bkX7_init_0 := rfl
set_option maxRecDepth 40000 in
theorem stX7_init : gw_sta sgX7_init bsX7_init := ⟨by decide +kernel, gw_mem2 (i := 1110) rfl rfl, gw_all (by decide +kernel)⟩
def bkX7_copyFrom_0 : List gw_E := [(0, 1, .aload_n 1, [1], [], []), (1, 3, .getfield 9, [7, 0, 1, 1112], [], []), (4, 1, .iconst 0, [], [0], []), (5, 1, .aload_n 0, [0], [], []), (6, 3, .getfield 9, [7, 0, 1, 1112], [], []), (9, 1, .iconst 0, [], [0], []), (10, 2, .bipush 24, [], [24], []), (12, 3, .invokestatic 21, [5, 2, 2235, 2224, 2223, 1014], [], []), (15, 1, .aload_n 1, [1], [], []), (16, 3, .getfield 15, [7, 1, 1, 1116], [], []), (19, 1, .iconst 0, [], [0], []), (20, 1, .aload_n 0, [0], [], []), (21, 3, .getfield 15, [7, 1, 1, 1116], [], []), (24, 1, .iconst 0, [], [0], []), (25, 2, .bipush 24, [], [24], []), (27, 3, .invokestatic 21, [5, 2, 2235, 2224, 2223, 1014], [], []), (30, 1, .aload_n 1, [1], [], []), (31, 3, .getfield 18, [7, 2, 1, 1120], [], []), (34, 1, .iconst 0, [], [0], []), (35, 1, .aload_n 0, [0], [], []), (36, 3, .getfield 18, [7, 2, 1, 1120], [], []), (39, 1, .iconst 0, [], [0], []), (40, 2, .bipush 24, [], [24], []), (42, 3, .invokestatic 21, [5, 2, 2235, 2224, 2223, 1014], [], []), (45, 1, .aload_n 0, [0], [], []), (46, 1, .aload_n 1, [1], [], []), (47, 3, .getfield 27, [7, 3, 0, 1124], [], []), (50, 3, .putfield 27, [7, 3, 0, 1124], [], []), (53, 1, .aload_n 0, [0], [], []), (54, 1, .aload_n 1, [1], [], []), (55, 3, .getfield 31, [7, 4, 0, 1128], [], []), (58, 3, .putfield 31, [7, 4, 0, 1128], [], []), (61, 1, .return_, [], [], [])]
def bsX7_copyFrom : List (Nat × List gw_E) := [(0, bkX7_copyFrom_0)]
theorem fdX7_copyFrom_0 : gw_find bsX7_copyFrom 0 = bkX7_copyFrom_0 := rfl
set_option maxRecDepth 40000 in
theorem stX7_copyFrom : gw_sta sgX7_copyFrom bsX7_copyFrom := ⟨by decide +kernel, gw_mem2 (i := 2234) rfl rfl, gw_all (by decide +kernel)⟩
def bkX7_add_0 : List gw_E := [(0, 1, .aload_n 0, [0], [], []), (1, 3, .getfield 9, [7, 0, 1, 1112], [], []), (4, 1, .aload_n 0, [0], [], []), (5, 3, .getfield 27, [7, 3, 0, 1124], [], []), (8, 1, .iload_n 1, [1], [], []), (9, 1, .iastore, [], [], []), (10, 1, .aload_n 0, [0], [], []), (11, 3, .getfield 15, [7, 1, 1, 1116], [], []), (14, 1, .aload_n 0, [0], [], []), (15, 3, .getfield 27, [7, 3, 0, 1124], [], []), (18, 1, .iload_n 2, [2], [], []), (19, 1, .iastore, [], [], []), (20, 1, .aload_n 0, [0], [], []), (21, 3, .getfield 18, [7, 2, 1, 1120], [], []), (24, 1, .aload_n 0, [0], [], []), (25, 3, .getfield 27, [7, 3, 0, 1124], [], []), (28, 1, .iload_n 3, [3], [], []), (29, 1, .iastore, [], [], []), (30, 1, .aload_n 0, [0], [], []), (31, 1, .dup, [], [], []), (32, 3, .getfield 27, [7, 3, 0, 1124], [], []), (35, 1, .iconst 1, [], [1], []), (36, 1, .iadd, [], [], []), (37, 3, .putfield 27, [7, 3, 0, 1124], [], []), (40, 1, .return_, [], [], [])]
def bsX7_add : List (Nat × List gw_E) := [(0, bkX7_add_0)]
theorem fdX7_add_0 : gw_find bsX7_add 0 = bkX7_add_0 := rfl
set_option maxRecDepth 40000 in
theorem stX7_add : gw_sta sgX7_add bsX7_add := ⟨by decide +kernel, gw_mem2 (i := 4179) rfl rfl, gw_all (by decide +kernel)⟩
def bkX7_advance_0 : List gw_E := [(0, 1, .aload_n 0, [0], [], []), (1, 3, .getfield 31, [7, 4, 0, 1128], [], []), (4, 1, .istore_n 1, [1], [], []), (5, 1, .aload_n 0, [0], [], []), (6, 1, .iload_n 1, [1], [], []), (7, 1, .iconst 1, [], [1], []), (8, 1, .iadd, [], [], []), (9, 1, .aload_n 0, [0], [], []), (10, 3, .getfield 27, [7, 3, 0, 1124], [], []), (13, 3, .if_icmp .ge 9, [22], [], []), (16, 1, .iload_n 1, [1], [], []), (17, 1, .iconst 1, [], [1], []), (18, 1, .iadd, [], [], []), (19, 3, .goto 4, [23], [], [])]
def bkX7_advance_22 : List gw_E := [(22, 1, .iconst 0, [], [0], [])]
def bkX7_advance_23 : List gw_E := [(23, 3, .putfield 31, [7, 4, 0, 1128], [], []), (26, 1, .iload_n 1, [1], [], []), (27, 1, .ireturn, [0], [], [])]
def bsX7_advance : List (Nat × List gw_E) := [(0, bkX7_advance_0), (22, bkX7_advance_22), (23, bkX7_advance_23)]
theorem fdX7_advance_0 : gw_find bsX7_advance 0 = bkX7_advance_0 := rfl
theorem fdX7_advance_22 : gw_find bsX7_advance 22 = bkX7_advance_22 := rfl
theorem fdX7_advance_23 : gw_find bsX7_advance 23 = bkX7_advance_23 := rfl
set_option maxRecDepth 40000 in
theorem stX7_advance : gw_sta sgX7_advance bsX7_advance := ⟨by decide +kernel, gw_mem2 (i := 4205) rfl rfl, gw_all (by decide +kernel)⟩
def bkX7_goTo_0 : List gw_E := [(0, 1, .iload_n 1, [1], [], []), (1, 3, .ifCond .lt 16, [17], [], []), (4, 1, .iload_n 1, [1], [], []), (5, 1, .aload_n 0, [0], [], []), (6, 3, .getfield 27, [7, 3, 0, 1124], [], []), (9, 3, .if_icmp .ge 8, [17], [], []), (12, 1, .aload_n 0, [0], [], []), (13, 1, .iload_n 1, [1], [], []), (14, 3, .putfield 31, [7, 4, 0, 1128], [], [])]
def bkX7_goTo_17 : List gw_E := [(17, 1, .return_, [], [], [])]
def bsX7_goTo : List (Nat × List gw_E) := [(0, bkX7_goTo_0), (17, bkX7_goTo_17)]
theorem fdX7_goTo_0 : gw_find bsX7_goTo 0 = bkX7_goTo_0 := rfl
theorem fdX7_goTo_17 : gw_find bsX7_goTo 17 = bkX7_goTo_17 := rfl
set_option maxRecDepth 40000 in
theorem stX7_goTo : gw_sta sgX7_goTo bsX7_goTo := ⟨by decide +kernel, gw_mem2 (i := 3068) rfl rfl, gw_all (by decide +kernel)⟩
def bkX0_init_0 : List gw_E := [(0, 1, .aload_n 0, [0], [], []), (1, 3, .invokespecial 3, [0, 2, 1105, 1025, 1026, 0], [], []), (4, 1, .aload_n 0, [0], [], []), (5, 3, .new 9, [7, 1106, 1107, 1007], [], []), (8, 1, .dup, [], [], []), (9, 3, .invokespecial 11, [0, 1, 1108, 1109, 1007, 0], [], [sgX7_init]), (12, 3, .putfield 12, [0, 0, 1, 1142], [], []), (15, 1, .aload_n 0, [0], [], []), (16, 2, .bipush 16, [], [16], []), (18, 2, .newarray .int, [], [], []), (20, 3, .putfield 18, [0, 1, 1, 1147], [], []), (23, 1, .aload_n 0, [0], [], []), (24, 2, .bipush 16, [], [16], []), (26, 3, .putfield 22, [0, 5, 0, 1156], [], []), (29, 1, .return_, [], [], [])]
def bsX0_init : List (Nat × List gw_E) := [(0, bkX0_init_0)]
theorem fdX0_init_0 : gw_find bsX0_init 0 = bkX0_init_0 := rfl
set_option maxRecDepth 40000 in
theorem stX0_init : gw_sta sgX0_init bsX0_init := ⟨by decide +kernel, gw_mem2 (i := 1104) rfl rfl, gw_all (by decide +kernel)⟩
def bkX0_copyFrom_0 : List gw_E := [(0, 1, .aload_n 0, [0], [], []), (1, 3, .getfield 12, [0, 0, 1, 1142], [], []), (4, 1, .aload_n 1, [1], [], []), (5, 3, .getfield 12, [0, 0, 1, 1142], [], []), (8, 3, .invokevirtual 26, [1, 7, 2231, 2232, 2233, 1007], [], [sgX7_copyFrom]), (11, 1, .aload_n 1, [1], [], []), (12, 3, .getfield 18, [0, 1, 1, 1147], [], []), (15, 1, .iconst 0, [], [0], []), (16, 1, .aload_n 0, [0], [], []), (17, 3, .getfield 18, [0, 1, 1, 1147], [], []), (20, 1, .iconst 0, [], [0], []), (21, 2, .bipush 16, [], [16], []), (23, 3, .invokestatic 30, [5, 2, 2236, 2224, 2223, 1014], [], []), (26, 1, .aload_n 0, [0], [], []), (27, 1, .aload_n 1, [1], [], []), (28, 3, .getfield 36, [0, 2, 0, 1149], [], []), (31, 3, .putfield 36, [0, 2, 0, 1149], [], []), (34, 1, .aload_n 0, [0], [], []), (35, 1, .aload_n 1, [1], [], []), (36, 3, .getfield 39, [0, 3, 0, 1151], [], []), (39, 3, .putfield 39, [0, 3, 0, 1151], [], []), (42, 1, .aload_n 0, [0], [], []), (43, 1, .aload_n 1, [1], [], []), (44, 3, .getfield 42, [0, 4, 2, 1153], [], []), (47, 3, .putfield 42, [0, 4, 2, 1153], [], []), (50, 1, .aload_n 0, [0], [], []), (51, 1, .aload_n 1, [1], [], []), (52, 3, .getfield 22, [0, 5, 0, 1156], [], []), (55, 3, .putfield 22, [0, 5, 0, 1156], [], []), (58, 1, .aload_n 0, [0], [], []), (59, 1, .aload_n 1, [1], [], []), (60, 3, .getfield 46, [0, 6, 0, 1158], [], []), (63, 3, .putfield 46, [0, 6, 0, 1158], [], []), (66, 1, .return_, [], [], [])]
def bsX0_copyFrom : List (Nat × List gw_E) := [(0, bkX0_copyFrom_0)]
theorem fdX0_copyFrom_0 : gw_find bsX0_copyFrom 0 = bkX0_copyFrom_0 := rfl
set_option maxRecDepth 40000 in
theorem stX0_copyFrom : gw_sta sgX0_copyFrom bsX0_copyFrom := ⟨by decide +kernel, gw_mem2 (i := 2230) rfl rfl, gw_all (by decide +kernel)⟩
def bkX0_awaits_0 : List gw_E := [(0, 1, .aload_n 0, [0], [], []), (1, 3, .getfield 36, [0, 2, 0, 1149], [], []), (4, 1, .iload_n 1, [1], [], []), (5, 3, .invokestatic 49, [2, 1, 4045, 3044, 1001, 0], [], [sgX10_hasBit]), (8, 1, .ireturn, [1], [], [])]
def bsX0_awaits : List (Nat × List gw_E) := [(0, bkX0_awaits_0)]
theorem fdX0_awaits_0 : gw_find bsX0_awaits 0 = bkX0_awaits_0 := rfl
set_option maxRecDepth 40000 in
theorem stX0_awaits : gw_sta sgX0_awaits bsX0_awaits := ⟨by decide +kernel, gw_mem2 (i := 4044) rfl rfl, gw_all (by decide +kernel)⟩
def bkX0_await_0 : List gw_E := [(0, 1, .aload_n 0, [0], [], []), (1, 1, .iload_n 1, [1], [], []), (2, 3, .invokevirtual 53, [1, 0, 4050, 4042, 4043, 1006], [], [sgX0_awaits]), (5, 3, .ifCond .ne 22, [27], [], []), (8, 1, .aload_n 0, [0], [], []), (9, 1, .dup, [], [], []), (10, 3, .getfield 36, [0, 2, 0, 1149], [], []), (13, 1, .iconst 1, [], [1], []), (14, 1, .iload_n 1, [1], [], []), (15, 1, .ishl, [], [], []), (16, 1, .ior, [], [], []), (17, 3, .putfield 36, [0, 2, 0, 1149], [], []), (20, 1, .aload_n 0, [0], [], []), (21, 3, .getfield 18, [0, 1, 1, 1147], [], []), (24, 1, .iload_n 1, [1], [], []), (25, 1, .iload_n 2, [2], [], []), (26, 1, .iastore, [], [], [])]
def bkX0_await_27 : List gw_E := [(27, 1, .return_, [], [], [])]
def bsX0_await : List (Nat × List gw_E) := [(0, bkX0_await_0), (27, bkX0_await_27)]
theorem fdX0_await_0 : gw_find bsX0_await 0 = bkX0_await_0 := rfl
theorem fdX0_await_27 : gw_find bsX0_await 27 = bkX0_await_27 := rfl
set_option maxRecDepth 40000 in
theorem stX0_await : gw_sta sgX0_await bsX0_await := ⟨by decide +kernel, gw_mem2 (i := 4049) rfl rfl, gw_all (by decide +kernel)⟩
def bkX0_ready_0 : List gw_E := [(0, 1, .aload_n 0, [0], [], []), (1, 3, .getfield 42, [0, 4, 2, 1153], [], []), (4, 3, .ifCond .eq 10, [14], [], []), (7, 1, .aload_n 0, [0], [], []), (8, 3, .getfield 36, [0, 2, 0, 1149], [], []), (11, 3, .ifCond .ne 5, [16], [], [])]
def bkX0_ready_14 : List gw_E := [(14, 1, .iconst (-1), [], [-1], []), (15, 1, .ireturn, [0], [], [])]
def bkX0_ready_16 : List gw_E := [(16, 1, .aload_n 0, [0], [], []), (17, 3, .getfield 36, [0, 2, 0, 1149], [], []), (20, 3, .invokestatic 57, [1, 1, 3054, 3055, 1001, 0], [], [sgX10_greatestOf]), (23, 1, .istore_n 1, [1], [], []), (24, 1, .iload_n 1, [1], [], []), (25, 1, .aload_n 0, [0], [], []), (26, 3, .getfield 39, [0, 3, 0, 1151], [], []), (29, 3, .invokestatic 57, [1, 1, 3054, 3055, 1001, 0], [], [sgX10_greatestOf]), (32, 3, .if_icmp .le 7, [39], [], []), (35, 1, .iload_n 1, [1], [], []), (36, 3, .goto 4, [40], [], [])]
def bkX0_ready_39 : List gw_E := [(39, 1, .iconst (-1), [], [-1], [])]
def bkX0_ready_40 : List gw_E := [(40, 1, .ireturn, [0], [], [])]
def bsX0_ready : List (Nat × List gw_E) := [(0, bkX0_ready_0), (14, bkX0_ready_14), (16, bkX0_ready_16), (39, bkX0_ready_39), (40, bkX0_ready_40)]
theorem fdX0_ready_0 : gw_find bsX0_ready 0 = bkX0_ready_0 := rfl
theorem fdX0_ready_14 : gw_find bsX0_ready 14 = bkX0_ready_14 := rfl
theorem fdX0_ready_16 : gw_find bsX0_ready 16 = bkX0_ready_16 := rfl
theorem fdX0_ready_39 : gw_find bsX0_ready 39 = bkX0_ready_39 := rfl
theorem fdX0_ready_40 : gw_find bsX0_ready 40 = bkX0_ready_40 := rfl
set_option maxRecDepth 40000 in
theorem stX0_ready : gw_sta sgX0_ready bsX0_ready := ⟨by decide +kernel, gw_mem2 (i := 3053) rfl rfl, gw_all (by decide +kernel)⟩
def bkX0_take_0 : List gw_E := [(0, 1, .aload_n 0, [0], [], []), (1, 1, .dup, [], [], []), (2, 3, .getfield 36, [0, 2, 0, 1149], [], []), (5, 1, .iconst 1, [], [1], []), (6, 1, .iload_n 1, [1], [], []), (7, 1, .ishl, [], [], []), (8, 1, .iconst (-1), [], [-1], []), (9, 1, .ixor, [], [], []), (10, 1, .iand, [], [], []), (11, 3, .putfield 36, [0, 2, 0, 1149], [], []), (14, 1, .aload_n 0, [0], [], []), (15, 1, .dup, [], [], []), (16, 3, .getfield 39, [0, 3, 0, 1151], [], []), (19, 1, .iconst 1, [], [1], []), (20, 1, .iload_n 1, [1], [], []), (21, 1, .ishl, [], [], []), (22, 1, .ior, [], [], []), (23, 3, .putfield 39, [0, 3, 0, 1151], [], []), (26, 1, .iload_n 2, [2], [], []), (27, 1, .aload_n 0, [0], [], []), (28, 3, .getfield 18, [0, 1, 1, 1147], [], []), (31, 1, .iload_n 1, [1], [], []), (32, 1, .iaload, [], [], []), (33, 1, .isub, [], [], []), (34, 1, .ireturn, [0], [], [])]
def bsX0_take : List (Nat × List gw_E) := [(0, bkX0_take_0)]
theorem fdX0_take_0 : gw_find bsX0_take 0 = bkX0_take_0 := rfl
set_option maxRecDepth 40000 in
theorem stX0_take : gw_sta sgX0_take bsX0_take := ⟨by decide +kernel, gw_mem2 (i := 3072) rfl rfl, gw_all (by decide +kernel)⟩
def bkX0_endService_0 : List gw_E := [(0, 1, .aload_n 0, [0], [], []), (1, 3, .getfield 39, [0, 3, 0, 1151], [], []), (4, 3, .invokestatic 57, [1, 1, 3054, 3055, 1001, 0], [], [sgX10_greatestOf]), (7, 1, .istore_n 1, [1], [], []), (8, 1, .iload_n 1, [1], [], []), (9, 1, .iconst (-1), [], [-1], []), (10, 3, .if_icmp .eq 17, [27], [], []), (13, 1, .aload_n 0, [0], [], []), (14, 1, .dup, [], [], []), (15, 3, .getfield 39, [0, 3, 0, 1151], [], []), (18, 1, .iconst 1, [], [1], []), (19, 1, .iload_n 1, [1], [], []), (20, 1, .ishl, [], [], []), (21, 1, .iconst (-1), [], [-1], []), (22, 1, .ixor, [], [], []), (23, 1, .iand, [], [], []), (24, 3, .putfield 39, [0, 3, 0, 1151], [], [])]
def bkX0_endService_27 : List gw_E := [(27, 1, .iload_n 1, [1], [], []), (28, 1, .ireturn, [0], [], [])]
def bsX0_endService : List (Nat × List gw_E) := [(0, bkX0_endService_0), (27, bkX0_endService_27)]
theorem fdX0_endService_0 : gw_find bsX0_endService 0 = bkX0_endService_0 := rfl
theorem fdX0_endService_27 : gw_find bsX0_endService 27 = bkX0_endService_27 := rfl
set_option maxRecDepth 40000 in
theorem stX0_endService : gw_sta sgX0_endService bsX0_endService := ⟨by decide +kernel, gw_mem2 (i := 4065) rfl rfl, gw_all (by decide +kernel)⟩
def bkX0_clockUpon_0 : List gw_E := [(0, 1, .iload_n 1, [1], [], []), (1, 1, .aload_n 0, [0], [], []), (2, 3, .getfield 22, [0, 5, 0, 1156], [], []), (5, 1, .imul, [], [], []), (6, 2, .bipush 16, [], [16], []), (8, 3, .invokestatic 61, [2, 0, 4149, 4150, 1015, 0], [], [sgJ9_floorDiv_7cf53]), (11, 1, .aload_n 0, [0], [], []), (12, 3, .getfield 46, [0, 6, 0, 1158], [], []), (15, 1, .iadd, [], [], []), (16, 1, .ireturn, [0], [], [])]
def bsX0_clockUpon : List (Nat × List gw_E) := [(0, bkX0_clockUpon_0)]
theorem fdX0_clockUpon_0 : gw_find bsX0_clockUpon 0 = bkX0_clockUpon_0 := rfl
set_option maxRecDepth 40000 in
theorem stX0_clockUpon : gw_sta sgX0_clockUpon bsX0_clockUpon := ⟨by decide +kernel, gw_mem2 (i := 4148) rfl rfl, gw_all (by decide +kernel)⟩
def bkX1_init_0 : List gw_E := [(0, 1, .aload_n 0, [0], [], []), (1, 3, .invokespecial 3, [0, 2, 2033, 1025, 1026, 0], [], []), (4, 1, .aload_n 0, [0], [], []), (5, 3, .new 9, [0, 2034, 1101, 1006], [], []), (8, 1, .dup, [], [], []), (9, 3, .invokespecial 11, [0, 1, 2035, 1103, 1006, 0], [], [sgX0_init]), (12, 3, .putfield 12, [1, 0, 1, 2038], [], []), (15, 1, .aload_n 0, [0], [], []), (16, 3, .new 18, [8, 2036, 1040, 1004], [], []), (19, 1, .dup, [], [], []), (20, 3, .invokespecial 20, [0, 0, 2037, 1042, 1004, 0], [], [sgX8_init]), (23, 3, .putfield 21, [1, 1, 1, 2042], [], []), (26, 1, .aload_n 0, [0], [], []), (27, 3, .new 18, [8, 2036, 1040, 1004], [], []), (30, 1, .dup, [], [], []), (31, 3, .invokespecial 20, [0, 0, 2037, 1042, 1004, 0], [], [sgX8_init]), (34, 3, .putfield 25, [1, 2, 1, 2046], [], []), (37, 1, .aload_n 0, [0], [], []), (38, 1, .iconst (-1), [], [-1], []), (39, 3, .putfield 28, [1, 3, 0, 2049], [], []), (42, 1, .aload_n 0, [0], [], []), (43, 1, .iconst (-1), [], [-1], []), (44, 3, .putfield 32, [1, 4, 0, 2051], [], []), (47, 1, .aload_n 0, [0], [], []), (48, 1, .iconst (-1), [], [-1], []), (49, 3, .putfield 35, [1, 5, 0, 2055], [], []), (52, 1, .return_, [], [], [])]
def bsX1_init : List (Nat × List gw_E) := [(0, bkX1_init_0)]
theorem fdX1_init_0 : gw_find bsX1_init 0 = bkX1_init_0 := rfl
set_option maxRecDepth 40000 in
theorem stX1_init : gw_sta sgX1_init bsX1_init := ⟨by decide +kernel, gw_mem2 (i := 2032) rfl rfl, gw_all (by decide +kernel)⟩
def bkX1_copyFrom_0 : List gw_E := [(0, 1, .aload_n 0, [0], [], []), (1, 3, .getfield 12, [1, 0, 1, 2038], [], []), (4, 1, .aload_n 1, [1], [], []), (5, 3, .getfield 12, [1, 0, 1, 2038], [], []), (8, 3, .invokevirtual 38, [1, 0, 3001, 2228, 2229, 1006], [], [sgX0_copyFrom]), (11, 1, .aload_n 0, [0], [], []), (12, 3, .getfield 21, [1, 1, 1, 2042], [], []), (15, 1, .aload_n 1, [1], [], []), (16, 3, .getfield 21, [1, 1, 1, 2042], [], []), (19, 3, .invokevirtual 42, [1, 8, 3002, 2219, 2220, 1004], [], [sgX8_copyFrom]), (22, 1, .aload_n 0, [0], [], []), (23, 3, .getfield 25, [1, 2, 1, 2046], [], []), (26, 1, .aload_n 1, [1], [], []), (27, 3, .getfield 25, [1, 2, 1, 2046], [], []), (30, 3, .invokevirtual 42, [1, 8, 3002, 2219, 2220, 1004], [], [sgX8_copyFrom]), (33, 1, .aload_n 0, [0], [], []), (34, 1, .aload_n 1, [1], [], []), (35, 3, .getfield 28, [1, 3, 0, 2049], [], []), (38, 3, .putfield 28, [1, 3, 0, 2049], [], []), (41, 1, .aload_n 0, [0], [], []), (42, 1, .aload_n 1, [1], [], []), (43, 3, .getfield 32, [1, 4, 0, 2051], [], []), (46, 3, .putfield 32, [1, 4, 0, 2051], [], []), (49, 1, .aload_n 0, [0], [], []), (50, 1, .aload_n 1, [1], [], []), (51, 3, .getfield 35, [1, 5, 0, 2055], [], []), (54, 3, .putfield 35, [1, 5, 0, 2055], [], []), (57, 1, .return_, [], [], [])]
def bsX1_copyFrom : List (Nat × List gw_E) := [(0, bkX1_copyFrom_0)]
theorem fdX1_copyFrom_0 : gw_find bsX1_copyFrom 0 = bkX1_copyFrom_0 := rfl
set_option maxRecDepth 40000 in
theorem stX1_copyFrom : gw_sta sgX1_copyFrom bsX1_copyFrom := ⟨by decide +kernel, gw_mem2 (i := 3000) rfl rfl, gw_all (by decide +kernel)⟩
def bkX1_trapAt_0 : List gw_E := [(0, 1, .aload_n 0, [0], [], []), (1, 1, .iload_n 1, [1], [], []), (2, 3, .putfield 35, [1, 5, 0, 2055], [], []), (5, 1, .aload_n 0, [0], [], []), (6, 3, .getfield 12, [1, 0, 1, 2038], [], []), (9, 3, .getfield 45, [0, 0, 1, 1144], [], []), (12, 1, .aload_n 0, [0], [], []), (13, 3, .getfield 28, [1, 3, 0, 2049], [], []), (16, 3, .invokevirtual 49, [1, 7, 4232, 3066, 3067, 1007], [], [sgX7_goTo]), (19, 1, .return_, [], [], [])]
def bsX1_trapAt : List (Nat × List gw_E) := [(0, bkX1_trapAt_0)]
theorem fdX1_trapAt_0 : gw_find bsX1_trapAt 0 = bkX1_trapAt_0 := rfl
set_option maxRecDepth 40000 in
theorem stX1_trapAt : gw_sta sgX1_trapAt bsX1_trapAt := ⟨by decide +kernel, gw_mem2 (i := 4231) rfl rfl, gw_all (by decide +kernel)⟩
def bkX1_actAlone_0 : List gw_E := [(0, 1, .iload_n 1, [1], [], []), (1, 2, .bipush 6, [], [6], []), (3, 3, .if_icmp .ne 17, [20], [], []), (6, 1, .aload_n 0, [0], [], []), (7, 3, .getfield 21, [1, 1, 1, 2042], [], []), (10, 1, .iload_n 2, [2], [], []), (11, 1, .iload_n 3, [3], [], []), (12, 2, .bipush 7, [], [7], []), (14, 3, .invokevirtual 55, [3, 8, 4237, 3023, 3024, 1004], [], [sgX8_put]), (17, 3, .goto 54, [71], [], [])]
def bkX1_actAlone_20 : List gw_E := [(20, 1, .iload_n 1, [1], [], []), (21, 2, .bipush 8, [], [8], []), (23, 3, .if_icmp .ne 28, [51], [], []), (26, 1, .aload_n 0, [0], [], []), (27, 3, .getfield 32, [1, 4, 0, 2051], [], []), (30, 1, .iconst (-1), [], [-1], []), (31, 3, .if_icmp .eq 20, [51], [], []), (34, 1, .aload_n 0, [0], [], []), (35, 3, .getfield 21, [1, 1, 1, 2042], [], []), (38, 1, .aload_n 0, [0], [], []), (39, 3, .getfield 32, [1, 4, 0, 2051], [], []), (42, 1, .iload_n 2, [2], [], []), (43, 2, .bipush 7, [], [7], []), (45, 3, .invokevirtual 55, [3, 8, 4237, 3023, 3024, 1004], [], [sgX8_put]), (48, 3, .goto 23, [71], [], [])]
def bkX1_actAlone_51 : List gw_E := [(51, 1, .iload_n 1, [1], [], []), (52, 2, .bipush 9, [], [9], []), (54, 3, .if_icmp .ne 17, [71], [], []), (57, 1, .aload_n 0, [0], [], []), (58, 3, .getfield 12, [1, 0, 1, 2038], [], []), (61, 3, .getfield 45, [0, 0, 1, 1144], [], []), (64, 1, .aload_n 0, [0], [], []), (65, 3, .getfield 35, [1, 5, 0, 2055], [], []), (68, 3, .invokevirtual 49, [1, 7, 4232, 3066, 3067, 1007], [], [sgX7_goTo])]
def bkX1_actAlone_71 : List gw_E := [(71, 1, .return_, [], [], [])]
def bsX1_actAlone : List (Nat × List gw_E) := [(0, bkX1_actAlone_0), (20, bkX1_actAlone_20), (51, bkX1_actAlone_51), (71, bkX1_actAlone_71)]
theorem fdX1_actAlone_0 : gw_find bsX1_actAlone 0 = bkX1_actAlone_0 := rfl
theorem fdX1_actAlone_20 : gw_find bsX1_actAlone 20 = bkX1_actAlone_20 := rfl
theorem fdX1_actAlone_51 : gw_find bsX1_actAlone 51 = bkX1_actAlone_51 := rfl
theorem fdX1_actAlone_71 : gw_find bsX1_actAlone 71 = bkX1_actAlone_71 := rfl
set_option maxRecDepth 40000 in
theorem stX1_actAlone : gw_sta sgX1_actAlone bsX1_actAlone := ⟨by decide +kernel, gw_mem2 (i := 4236) rfl rfl, gw_all (by decide +kernel)⟩
def bkX9_init_0 : List gw_E := [(0, 1, .aload_n 0, [0], [], []), (1, 3, .invokespecial 3, [0, 2, 1182, 1025, 1026, 0], [], []), (4, 1, .aload_n 0, [0], [], []), (5, 2, .bipush 12, [], [12], []), (7, 2, .newarray .int, [], [], []), (9, 3, .putfield 9, [9, 0, 1, 1183], [], []), (12, 1, .aload_n 0, [0], [], []), (13, 2, .bipush 12, [], [12], []), (15, 2, .newarray .int, [], [], []), (17, 3, .putfield 15, [9, 1, 1, 1186], [], []), (20, 1, .aload_n 0, [0], [], []), (21, 2, .bipush 12, [], [12], []), (23, 2, .newarray .int, [], [], []), (25, 3, .putfield 18, [9, 2, 1, 1189], [], []), (28, 1, .return_, [], [], [])]
def bsX9_init : List (Nat × List gw_E) := [(0, bkX9_init_0)]
theorem fdX9_init_0 : gw_find bsX9_init 0 = bkX9_init_0 := rfl
set_option maxRecDepth 40000 in
theorem stX9_init : gw_sta sgX9_init bsX9_init := ⟨by decide +kernel, gw_mem2 (i := 1181) rfl rfl, gw_all (by decide +kernel)⟩
def bkX9_copyFrom_0 : List gw_E := [(0, 1, .aload_n 1, [1], [], []), (1, 3, .getfield 9, [9, 0, 1, 1183], [], []), (4, 1, .iconst 0, [], [0], []), (5, 1, .aload_n 0, [0], [], []), (6, 3, .getfield 9, [9, 0, 1, 1183], [], []), (9, 1, .iconst 0, [], [0], []), (10, 2, .bipush 12, [], [12], []), (12, 3, .invokestatic 21, [5, 2, 3008, 2224, 2223, 1014], [], []), (15, 1, .aload_n 1, [1], [], []), (16, 3, .getfield 15, [9, 1, 1, 1186], [], []), (19, 1, .iconst 0, [], [0], []), (20, 1, .aload_n 0, [0], [], []), (21, 3, .getfield 15, [9, 1, 1, 1186], [], []), (24, 1, .iconst 0, [], [0], []), (25, 2, .bipush 12, [], [12], []), (27, 3, .invokestatic 21, [5, 2, 3008, 2224, 2223, 1014], [], []), (30, 1, .aload_n 1, [1], [], []), (31, 3, .getfield 18, [9, 2, 1, 1189], [], []), (34, 1, .iconst 0, [], [0], []), (35, 1, .aload_n 0, [0], [], []), (36, 3, .getfield 18, [9, 2, 1, 1189], [], []), (39, 1, .iconst 0, [], [0], []), (40, 2, .bipush 12, [], [12], []), (42, 3, .invokestatic 21, [5, 2, 3008, 2224, 2223, 1014], [], []), (45, 1, .aload_n 0, [0], [], []), (46, 1, .aload_n 1, [1], [], []), (47, 3, .getfield 27, [9, 3, 0, 1192], [], []), (50, 3, .putfield 27, [9, 3, 0, 1192], [], []), (53, 1, .return_, [], [], [])]
def bsX9_copyFrom : List (Nat × List gw_E) := [(0, bkX9_copyFrom_0)]
theorem fdX9_copyFrom_0 : gw_find bsX9_copyFrom 0 = bkX9_copyFrom_0 := rfl
set_option maxRecDepth 40000 in
theorem stX9_copyFrom : gw_sta sgX9_copyFrom bsX9_copyFrom := ⟨by decide +kernel, gw_mem2 (i := 3007) rfl rfl, gw_all (by decide +kernel)⟩
def bkX9_add_0 : List gw_E := [(0, 1, .aload_n 0, [0], [], []), (1, 3, .getfield 9, [9, 0, 1, 1183], [], []), (4, 1, .aload_n 0, [0], [], []), (5, 3, .getfield 27, [9, 3, 0, 1192], [], []), (8, 1, .iload_n 1, [1], [], []), (9, 1, .iastore, [], [], []), (10, 1, .aload_n 0, [0], [], []), (11, 3, .getfield 15, [9, 1, 1, 1186], [], []), (14, 1, .aload_n 0, [0], [], []), (15, 3, .getfield 27, [9, 3, 0, 1192], [], []), (18, 1, .iload_n 2, [2], [], []), (19, 1, .iastore, [], [], []), (20, 1, .aload_n 0, [0], [], []), (21, 3, .getfield 18, [9, 2, 1, 1189], [], []), (24, 1, .aload_n 0, [0], [], []), (25, 3, .getfield 27, [9, 3, 0, 1192], [], []), (28, 1, .iload_n 3, [3], [], []), (29, 1, .iastore, [], [], []), (30, 1, .aload_n 0, [0], [], []), (31, 1, .dup, [], [], []), (32, 3, .getfield 27, [9, 3, 0, 1192], [], []), (35, 1, .iconst 1, [], [1], []), (36, 1, .iadd, [], [], []), (37, 3, .putfield 27, [9, 3, 0, 1192], [], []), (40, 1, .return_, [], [], [])]
def bsX9_add : List (Nat × List gw_E) := [(0, bkX9_add_0)]
theorem fdX9_add_0 : gw_find bsX9_add 0 = bkX9_add_0 := rfl
set_option maxRecDepth 40000 in
theorem stX9_add : gw_sta sgX9_add bsX9_add := ⟨by decide +kernel, gw_mem2 (i := 4094) rfl rfl, gw_all (by decide +kernel)⟩
def bkX9_removeAt_0 : List gw_E := [(0, 1, .aload_n 0, [0], [], []), (1, 3, .getfield 27, [9, 3, 0, 1192], [], []), (4, 1, .iconst 1, [], [1], []), (5, 1, .isub, [], [], []), (6, 1, .iload_n 1, [1], [], []), (7, 1, .isub, [], [], []), (8, 1, .istore_n 2, [2], [], []), (9, 1, .aload_n 0, [0], [], []), (10, 3, .getfield 9, [9, 0, 1, 1183], [], []), (13, 1, .iload_n 1, [1], [], []), (14, 1, .iconst 1, [], [1], []), (15, 1, .iadd, [], [], []), (16, 1, .aload_n 0, [0], [], []), (17, 3, .getfield 9, [9, 0, 1, 1183], [], []), (20, 1, .iload_n 1, [1], [], []), (21, 1, .iload_n 2, [2], [], []), (22, 3, .invokestatic 21, [5, 2, 3008, 2224, 2223, 1014], [], []), (25, 1, .aload_n 0, [0], [], []), (26, 3, .getfield 15, [9, 1, 1, 1186], [], []), (29, 1, .iload_n 1, [1], [], []), (30, 1, .iconst 1, [], [1], []), (31, 1, .iadd, [], [], []), (32, 1, .aload_n 0, [0], [], []), (33, 3, .getfield 15, [9, 1, 1, 1186], [], []), (36, 1, .iload_n 1, [1], [], []), (37, 1, .iload_n 2, [2], [], []), (38, 3, .invokestatic 21, [5, 2, 3008, 2224, 2223, 1014], [], []), (41, 1, .aload_n 0, [0], [], []), (42, 3, .getfield 18, [9, 2, 1, 1189], [], []), (45, 1, .iload_n 1, [1], [], []), (46, 1, .iconst 1, [], [1], []), (47, 1, .iadd, [], [], []), (48, 1, .aload_n 0, [0], [], []), (49, 3, .getfield 18, [9, 2, 1, 1189], [], []), (52, 1, .iload_n 1, [1], [], []), (53, 1, .iload_n 2, [2], [], []), (54, 3, .invokestatic 21, [5, 2, 3008, 2224, 2223, 1014], [], []), (57, 1, .aload_n 0, [0], [], []), (58, 1, .dup, [], [], []), (59, 3, .getfield 27, [9, 3, 0, 1192], [], []), (62, 1, .iconst 1, [], [1], []), (63, 1, .isub, [], [], []), (64, 3, .putfield 27, [9, 3, 0, 1192], [], []), (67, 1, .return_, [], [], [])]
def bsX9_removeAt : List (Nat × List gw_E) := [(0, bkX9_removeAt_0)]
theorem fdX9_removeAt_0 : gw_find bsX9_removeAt 0 = bkX9_removeAt_0 := rfl
set_option maxRecDepth 40000 in
theorem stX9_removeAt : gw_sta sgX9_removeAt bsX9_removeAt := ⟨by decide +kernel, gw_mem2 (i := 4102) rfl rfl, gw_all (by decide +kernel)⟩
def bkX9_isAhead_0 : List gw_E := [(0, 1, .aload_n 0, [0], [], []), (1, 3, .getfield 9, [9, 0, 1, 1183], [], []), (4, 1, .iload_n 1, [1], [], []), (5, 1, .iaload, [], [], []), (6, 1, .aload_n 0, [0], [], []), (7, 3, .getfield 9, [9, 0, 1, 1183], [], []), (10, 1, .iload_n 2, [2], [], []), (11, 1, .iaload, [], [], []), (12, 3, .if_icmp .eq 24, [36], [], []), (15, 1, .aload_n 0, [0], [], []), (16, 3, .getfield 9, [9, 0, 1, 1183], [], []), (19, 1, .iload_n 1, [1], [], []), (20, 1, .iaload, [], [], []), (21, 1, .aload_n 0, [0], [], []), (22, 3, .getfield 9, [9, 0, 1, 1183], [], []), (25, 1, .iload_n 2, [2], [], []), (26, 1, .iaload, [], [], []), (27, 3, .if_icmp .ge 7, [34], [], []), (30, 1, .iconst 1, [], [1], []), (31, 3, .goto 4, [35], [], [])]
def bkX9_isAhead_34 : List gw_E := [(34, 1, .iconst 0, [], [0], [])]
def bkX9_isAhead_35 : List gw_E := [(35, 1, .ireturn, [1], [], [])]
def bkX9_isAhead_36 : List gw_E := [(36, 1, .aload_n 0, [0], [], []), (37, 3, .getfield 15, [9, 1, 1, 1186], [], []), (40, 1, .iload_n 1, [1], [], []), (41, 1, .iaload, [], [], []), (42, 1, .aload_n 0, [0], [], []), (43, 3, .getfield 15, [9, 1, 1, 1186], [], []), (46, 1, .iload_n 2, [2], [], []), (47, 1, .iaload, [], [], []), (48, 3, .if_icmp .eq 24, [72], [], []), (51, 1, .aload_n 0, [0], [], []), (52, 3, .getfield 15, [9, 1, 1, 1186], [], []), (55, 1, .iload_n 1, [1], [], []), (56, 1, .iaload, [], [], []), (57, 1, .aload_n 0, [0], [], []), (58, 3, .getfield 15, [9, 1, 1, 1186], [], []), (61, 1, .iload_n 2, [2], [], []), (62, 1, .iaload, [], [], []), (63, 3, .if_icmp .ge 7, [70], [], []), (66, 1, .iconst 1, [], [1], []), (67, 3, .goto 4, [71], [], [])]
def bkX9_isAhead_70 : List gw_E := [(70, 1, .iconst 0, [], [0], [])]
def bkX9_isAhead_71 : List gw_E := [(71, 1, .ireturn, [1], [], [])]
def bkX9_isAhead_72 : List gw_E := [(72, 1, .iload_n 1, [1], [], []), (73, 1, .iload_n 2, [2], [], []), (74, 3, .if_icmp .ge 7, [81], [], []), (77, 1, .iconst 1, [], [1], []), (78, 3, .goto 4, [82], [], [])]
def bkX9_isAhead_81 : List gw_E := [(81, 1, .iconst 0, [], [0], [])]
def bkX9_isAhead_82 : List gw_E := [(82, 1, .ireturn, [1], [], [])]
def bsX9_isAhead : List (Nat × List gw_E) := [(0, bkX9_isAhead_0), (34, bkX9_isAhead_34), (35, bkX9_isAhead_35), (36, bkX9_isAhead_36), (70, bkX9_isAhead_70), (71, bkX9_isAhead_71), (72, bkX9_isAhead_72), (81, bkX9_isAhead_81), (82, bkX9_isAhead_82)]
theorem fdX9_isAhead_0 : gw_find bsX9_isAhead 0 = bkX9_isAhead_0 := rfl
theorem fdX9_isAhead_34 : gw_find bsX9_isAhead 34 = bkX9_isAhead_34 := rfl
theorem fdX9_isAhead_35 : gw_find bsX9_isAhead 35 = bkX9_isAhead_35 := rfl
theorem fdX9_isAhead_36 : gw_find bsX9_isAhead 36 = bkX9_isAhead_36 := rfl
theorem fdX9_isAhead_70 : gw_find bsX9_isAhead 70 = bkX9_isAhead_70 := rfl
theorem fdX9_isAhead_71 : gw_find bsX9_isAhead 71 = bkX9_isAhead_71 := rfl
theorem fdX9_isAhead_72 : gw_find bsX9_isAhead 72 = bkX9_isAhead_72 := rfl
theorem fdX9_isAhead_81 : gw_find bsX9_isAhead 81 = bkX9_isAhead_81 := rfl
theorem fdX9_isAhead_82 : gw_find bsX9_isAhead 82 = bkX9_isAhead_82 := rfl
set_option maxRecDepth 40000 in
theorem stX9_isAhead : gw_sta sgX9_isAhead bsX9_isAhead := ⟨by decide +kernel, gw_mem2 (i := 4155) rfl rfl, gw_all (by decide +kernel)⟩
def bkX2_init_0 : List gw_E := [(0, 1, .aload_n 0, [0], [], []), (1, 3, .invokespecial 3, [0, 2, 1209, 1025, 1026, 0], [], []), (4, 1, .aload_n 0, [0], [], []), (5, 2, .bipush 24, [], [24], []), (7, 2, .newarray .int, [], [], []), (9, 3, .putfield 9, [2, 0, 1, 1210], [], []), (12, 1, .aload_n 0, [0], [], []), (13, 2, .bipush 24, [], [24], []), (15, 2, .newarray .int, [], [], []), (17, 3, .putfield 15, [2, 1, 1, 1211], [], []), (20, 1, .aload_n 0, [0], [], []), (21, 2, .bipush 24, [], [24], []), (23, 2, .newarray .int, [], [], []), (25, 3, .putfield 18, [2, 2, 1, 1212], [], []), (28, 1, .aload_n 0, [0], [], []), (29, 2, .bipush 24, [], [24], []), (31, 2, .newarray .int, [], [], []), (33, 3, .putfield 21, [2, 3, 1, 1213], [], []), (36, 1, .aload_n 0, [0], [], []), (37, 1, .iconst 2, [], [2], []), (38, 2, .newarray .int, [], [], []), (40, 3, .putfield 24, [2, 4, 1, 1214], [], []), (43, 1, .aload_n 0, [0], [], []), (44, 1, .iconst (-1), [], [-1], []), (45, 3, .putfield 27, [2, 5, 0, 1217], [], []), (48, 1, .aload_n 0, [0], [], []), (49, 1, .iconst (-1), [], [-1], []), (50, 3, .putfield 31, [2, 6, 0, 1219], [], []), (53, 1, .aload_n 0, [0], [], []), (54, 2, .bipush 24, [], [24], []), (56, 2, .newarray .int, [], [], []), (58, 3, .putfield 34, [2, 7, 1, 1221], [], []), (61, 1, .aload_n 0, [0], [], []), (62, 2, .bipush 24, [], [24], []), (64, 2, .newarray .int, [], [], []), (66, 3, .putfield 37, [2, 10, 1, 1225], [], []), (69, 1, .aload_n 0, [0], [], []), (70, 1, .iconst 4, [], [4], []), (71, 2, .newarray .int, [], [], []), (73, 3, .putfield 40, [2, 11, 1, 1228], [], []), (76, 1, .aload_n 0, [0], [], []), (77, 1, .iconst 2, [], [2], []), (78, 2, .newarray .int, [], [], []), (80, 3, .putfield 43, [2, 12, 1, 1231], [], []), (83, 1, .aload_n 0, [0], [], []), (84, 1, .iconst 2, [], [2], []), (85, 2, .newarray .int, [], [], []), (87, 1, .dup, [], [], []), (88, 1, .iconst 0, [], [0], []), (89, 1, .iconst (-1), [], [-1], []), (90, 1, .iastore, [], [], []), (91, 1, .dup, [], [], []), (92, 1, .iconst 1, [], [1], []), (93, 1, .iconst (-1), [], [-1], []), (94, 1, .iastore, [], [], []), (95, 3, .putfield 46, [2, 13, 1, 1234], [], []), (98, 1, .aload_n 0, [0], [], []), (99, 1, .iconst 2, [], [2], []), (100, 2, .newarray .int, [], [], []), (102, 1, .dup, [], [], []), (103, 1, .iconst 0, [], [0], []), (104, 1, .iconst (-1), [], [-1], []), (105, 1, .iastore, [], [], []), (106, 1, .dup, [], [], []), (107, 1, .iconst 1, [], [1], []), (108, 1, .iconst (-1), [], [-1], []), (109, 1, .iastore, [], [], []), (110, 3, .putfield 49, [2, 14, 1, 1236], [], []), (113, 1, .return_, [], [], [])]
def bsX2_init : List (Nat × List gw_E) := [(0, bkX2_init_0)]
theorem fdX2_init_0 : gw_find bsX2_init 0 = bkX2_init_0 := rfl
set_option maxRecDepth 40000 in
theorem stX2_init : gw_sta sgX2_init bsX2_init := ⟨by decide +kernel, gw_mem2 (i := 1208) rfl rfl, gw_all (by decide +kernel)⟩
def bkX2_copyFrom_0 : List gw_E := [(0, 1, .aload_n 1, [1], [], []), (1, 3, .getfield 9, [2, 0, 1, 1210], [], []), (4, 1, .iconst 0, [], [0], []), (5, 1, .aload_n 0, [0], [], []), (6, 3, .getfield 9, [2, 0, 1, 1210], [], []), (9, 1, .iconst 0, [], [0], []), (10, 2, .bipush 24, [], [24], []), (12, 3, .invokestatic 52, [5, 2, 3013, 2224, 2223, 1014], [], []), (15, 1, .aload_n 1, [1], [], []), (16, 3, .getfield 15, [2, 1, 1, 1211], [], []), (19, 1, .iconst 0, [], [0], []), (20, 1, .aload_n 0, [0], [], []), (21, 3, .getfield 15, [2, 1, 1, 1211], [], []), (24, 1, .iconst 0, [], [0], []), (25, 2, .bipush 24, [], [24], []), (27, 3, .invokestatic 52, [5, 2, 3013, 2224, 2223, 1014], [], []), (30, 1, .aload_n 1, [1], [], []), (31, 3, .getfield 18, [2, 2, 1, 1212], [], []), (34, 1, .iconst 0, [], [0], []), (35, 1, .aload_n 0, [0], [], []), (36, 3, .getfield 18, [2, 2, 1, 1212], [], []), (39, 1, .iconst 0, [], [0], []), (40, 2, .bipush 24, [], [24], []), (42, 3, .invokestatic 52, [5, 2, 3013, 2224, 2223, 1014], [], []), (45, 1, .aload_n 1, [1], [], []), (46, 3, .getfield 21, [2, 3, 1, 1213], [], []), (49, 1, .iconst 0, [], [0], []), (50, 1, .aload_n 0, [0], [], []), (51, 3, .getfield 21, [2, 3, 1, 1213], [], []), (54, 1, .iconst 0, [], [0], []), (55, 2, .bipush 24, [], [24], []), (57, 3, .invokestatic 52, [5, 2, 3013, 2224, 2223, 1014], [], []), (60, 1, .aload_n 1, [1], [], []), (61, 3, .getfield 24, [2, 4, 1, 1214], [], []), (64, 1, .iconst 0, [], [0], []), (65, 1, .aload_n 0, [0], [], []), (66, 3, .getfield 24, [2, 4, 1, 1214], [], []), (69, 1, .iconst 0, [], [0], []), (70, 1, .aload_n 0, [0], [], []), (71, 3, .getfield 24, [2, 4, 1, 1214], [], []), (74, 1, .arraylength, [], [], []), (75, 3, .invokestatic 52, [5, 2, 3013, 2224, 2223, 1014], [], []), (78, 1, .aload_n 0, [0], [], []), (79, 1, .aload_n 1, [1], [], []), (80, 3, .getfield 27, [2, 5, 0, 1217], [], []), (83, 3, .putfield 27, [2, 5, 0, 1217], [], []), (86, 1, .aload_n 0, [0], [], []), (87, 1, .aload_n 1, [1], [], []), (88, 3, .getfield 31, [2, 6, 0, 1219], [], []), (91, 3, .putfield 31, [2, 6, 0, 1219], [], []), (94, 1, .aload_n 1, [1], [], []), (95, 3, .getfield 34, [2, 7, 1, 1221], [], []), (98, 1, .iconst 0, [], [0], []), (99, 1, .aload_n 0, [0], [], []), (100, 3, .getfield 34, [2, 7, 1, 1221], [], []), (103, 1, .iconst 0, [], [0], []), (104, 2, .bipush 24, [], [24], []), (106, 3, .invokestatic 52, [5, 2, 3013, 2224, 2223, 1014], [], []), (109, 1, .aload_n 0, [0], [], []), (110, 1, .aload_n 1, [1], [], []), (111, 3, .getfield 58, [2, 8, 0, 1222], [], []), (114, 3, .putfield 58, [2, 8, 0, 1222], [], []), (117, 1, .aload_n 0, [0], [], []), (118, 1, .aload_n 1, [1], [], []), (119, 3, .getfield 61, [2, 9, 0, 1223], [], []), (122, 3, .putfield 61, [2, 9, 0, 1223], [], []), (125, 1, .aload_n 1, [1], [], []), (126, 3, .getfield 37, [2, 10, 1, 1225], [], []), (129, 1, .iconst 0, [], [0], []), (130, 1, .aload_n 0, [0], [], []), (131, 3, .getfield 37, [2, 10, 1, 1225], [], []), (134, 1, .iconst 0, [], [0], []), (135, 1, .aload_n 0, [0], [], []), (136, 3, .getfield 37, [2, 10, 1, 1225], [], []), (139, 1, .arraylength, [], [], []), (140, 3, .invokestatic 52, [5, 2, 3013, 2224, 2223, 1014], [], []), (143, 1, .aload_n 1, [1], [], []), (144, 3, .getfield 40, [2, 11, 1, 1228], [], []), (147, 1, .iconst 0, [], [0], []), (148, 1, .aload_n 0, [0], [], []), (149, 3, .getfield 40, [2, 11, 1, 1228], [], []), (152, 1, .iconst 0, [], [0], []), (153, 1, .aload_n 0, [0], [], []), (154, 3, .getfield 40, [2, 11, 1, 1228], [], []), (157, 1, .arraylength, [], [], []), (158, 3, .invokestatic 52, [5, 2, 3013, 2224, 2223, 1014], [], []), (161, 1, .aload_n 1, [1], [], []), (162, 3, .getfield 43, [2, 12, 1, 1231], [], []), (165, 1, .iconst 0, [], [0], []), (166, 1, .aload_n 0, [0], [], []), (167, 3, .getfield 43, [2, 12, 1, 1231], [], []), (170, 1, .iconst 0, [], [0], []), (171, 1, .aload_n 0, [0], [], []), (172, 3, .getfield 43, [2, 12, 1, 1231], [], []), (175, 1, .arraylength, [], [], []), (176, 3, .invokestatic 52, [5, 2, 3013, 2224, 2223, 1014], [], []), (179, 1, .aload_n 1, [1], [], []), (180, 3, .getfield 46, [2, 13, 1, 1234], [], []), (183, 1, .iconst 0, [], [0], []), (184, 1, .aload_n 0, [0], [], []), (185, 3, .getfield 46, [2, 13, 1, 1234], [], []), (188, 1, .iconst 0, [], [0], []), (189, 1, .aload_n 0, [0], [], []), (190, 3, .getfield 46, [2, 13, 1, 1234], [], []), (193, 1, .arraylength, [], [], []), (194, 3, .invokestatic 52, [5, 2, 3013, 2224, 2223, 1014], [], []), (197, 1, .aload_n 1, [1], [], []), (198, 3, .getfield 49, [2, 14, 1, 1236], [], []), (201, 1, .iconst 0, [], [0], []), (202, 1, .aload_n 0, [0], [], []), (203, 3, .getfield 49, [2, 14, 1, 1236], [], []), (206, 1, .iconst 0, [], [0], []), (207, 1, .aload_n 0, [0], [], []), (208, 3, .getfield 49, [2, 14, 1, 1236], [], []), (211, 1, .arraylength, [], [], []), (212, 3, .invokestatic 52, [5, 2, 3013, 2224, 2223, 1014], [], []), (215, 1, .return_, [], [], [])]
def bsX2_copyFrom : List (Nat × List gw_E) := [(0, bkX2_copyFrom_0)]
theorem fdX2_copyFrom_0 : gw_find bsX2_copyFrom 0 = bkX2_copyFrom_0 := rfl
set_option maxRecDepth 40000 in
theorem stX2_copyFrom : gw_sta sgX2_copyFrom bsX2_copyFrom := ⟨by decide +kernel, gw_mem2 (i := 3012) rfl rfl, gw_all (by decide +kernel)⟩
def bkX2_allExits_0 : List gw_E := [(0, 1, .aload_n 0, [0], [], []), (1, 3, .getfield 24, [2, 4, 1, 1214], [], []), (4, 1, .iconst 0, [], [0], []), (5, 1, .iaload, [], [], []), (6, 1, .aload_n 0, [0], [], []), (7, 3, .getfield 24, [2, 4, 1, 1214], [], []), (10, 1, .iconst 1, [], [1], []), (11, 1, .iaload, [], [], []), (12, 1, .iadd, [], [], []), (13, 1, .ireturn, [0], [], [])]
def bsX2_allExits : List (Nat × List gw_E) := [(0, bkX2_allExits_0)]
theorem fdX2_allExits_0 : gw_find bsX2_allExits 0 = bkX2_allExits_0 := rfl
set_option maxRecDepth 40000 in
theorem stX2_allExits : gw_sta sgX2_allExits bsX2_allExits := ⟨by decide +kernel, gw_mem2 (i := 4191) rfl rfl, gw_all (by decide +kernel)⟩
def bkX2_exitsKept_0 : List gw_E := [(0, 1, .aload_n 0, [0], [], []), (1, 3, .invokevirtual 64, [0, 2, 5139, 4189, 4190, 1009], [], [sgX2_allExits]), (4, 2, .bipush 24, [], [24], []), (6, 3, .invokestatic 68, [2, 0, 5070, 5071, 1015, 0], [], [sgJ9_min_7cf53]), (9, 1, .ireturn, [0], [], [])]
def bsX2_exitsKept : List (Nat × List gw_E) := [(0, bkX2_exitsKept_0)]
theorem fdX2_exitsKept_0 : gw_find bsX2_exitsKept 0 = bkX2_exitsKept_0 := rfl
set_option maxRecDepth 40000 in
theorem stX2_exitsKept : gw_sta sgX2_exitsKept bsX2_exitsKept := ⟨by decide +kernel, gw_mem2 (i := 5138) rfl rfl, gw_all (by decide +kernel)⟩
def bkX2_writeExit_0 : List gw_E := [(0, 1, .aload_n 0, [0], [], []), (1, 3, .getfield 24, [2, 4, 1, 1214], [], []), (4, 1, .iconst 0, [], [0], []), (5, 1, .iaload, [], [], []), (6, 1, .aload_n 0, [0], [], []), (7, 3, .getfield 24, [2, 4, 1, 1214], [], []), (10, 1, .iconst 1, [], [1], []), (11, 1, .iaload, [], [], []), (12, 1, .iadd, [], [], []), (13, 2, .bipush 24, [], [24], []), (15, 1, .irem, [], [], []), (16, 2, .istore 5, [5], [], []), (18, 1, .aload_n 0, [0], [], []), (19, 3, .getfield 9, [2, 0, 1, 1210], [], []), (22, 2, .iload 5, [5], [], []), (24, 1, .iload_n 1, [1], [], []), (25, 1, .iastore, [], [], []), (26, 1, .aload_n 0, [0], [], []), (27, 3, .getfield 15, [2, 1, 1, 1211], [], []), (30, 2, .iload 5, [5], [], []), (32, 1, .iload_n 2, [2], [], []), (33, 1, .iastore, [], [], []), (34, 1, .aload_n 0, [0], [], []), (35, 3, .getfield 18, [2, 2, 1, 1212], [], []), (38, 2, .iload 5, [5], [], []), (40, 1, .iload_n 3, [3], [], []), (41, 1, .iastore, [], [], []), (42, 1, .aload_n 0, [0], [], []), (43, 3, .getfield 21, [2, 3, 1, 1213], [], []), (46, 2, .iload 5, [5], [], []), (48, 2, .iload 4, [4], [], []), (50, 1, .iastore, [], [], []), (51, 1, .aload_n 0, [0], [], []), (52, 3, .getfield 24, [2, 4, 1, 1214], [], []), (55, 1, .iload_n 1, [1], [], []), (56, 1, .dup2, [], [], []), (57, 1, .iaload, [], [], []), (58, 1, .iconst 1, [], [1], []), (59, 1, .iadd, [], [], []), (60, 1, .iastore, [], [], []), (61, 1, .iload_n 1, [1], [], []), (62, 1, .iconst 1, [], [1], []), (63, 3, .if_icmp .ne 13, [76], [], []), (66, 1, .aload_n 0, [0], [], []), (67, 1, .iload_n 2, [2], [], []), (68, 3, .putfield 27, [2, 5, 0, 1217], [], []), (71, 1, .aload_n 0, [0], [], []), (72, 1, .iload_n 3, [3], [], []), (73, 3, .putfield 31, [2, 6, 0, 1219], [], [])]
def bkX2_writeExit_76 : List gw_E := [(76, 1, .return_, [], [], [])]
def bsX2_writeExit : List (Nat × List gw_E) := [(0, bkX2_writeExit_0), (76, bkX2_writeExit_76)]
theorem fdX2_writeExit_0 : gw_find bsX2_writeExit 0 = bkX2_writeExit_0 := rfl
theorem fdX2_writeExit_76 : gw_find bsX2_writeExit 76 = bkX2_writeExit_76 := rfl
set_option maxRecDepth 40000 in
theorem stX2_writeExit : gw_sta sgX2_writeExit bsX2_writeExit := ⟨by decide +kernel, gw_mem2 (i := 3064) rfl rfl, gw_all (by decide +kernel)⟩
def bkX2_exitAt_0 : List gw_E := [(0, 1, .iload_n 1, [1], [], []), (1, 1, .iconst 0, [], [0], []), (2, 1, .aload_n 0, [0], [], []), (3, 3, .invokevirtual 74, [0, 2, 5144, 5136, 5137, 1009], [], [sgX2_exitsKept]), (6, 1, .iconst 1, [], [1], []), (7, 1, .isub, [], [], []), (8, 3, .invokestatic 77, [3, 1, 5078, 2203, 1001, 0], [], [sgX10_within]), (11, 3, .ifCond .ne 6, [17], [], []), (14, 2, .bipush (-2), [], [-2], []), (16, 1, .ireturn, [0], [], [])]
def bkX2_exitAt_17 : List gw_E := [(17, 1, .aload_n 0, [0], [], []), (18, 3, .invokevirtual 64, [0, 2, 5139, 4189, 4190, 1009], [], [sgX2_allExits]), (21, 1, .aload_n 0, [0], [], []), (22, 3, .invokevirtual 74, [0, 2, 5144, 5136, 5137, 1009], [], [sgX2_exitsKept]), (25, 1, .isub, [], [], []), (26, 1, .iload_n 1, [1], [], []), (27, 1, .iadd, [], [], []), (28, 2, .bipush 24, [], [24], []), (30, 1, .irem, [], [], []), (31, 1, .istore_n 3, [3], [], []), (32, 1, .iload_n 2, [2], [], []), (33, 31, .tableswitch 59 0 3 #[31, 38, 45, 52], [92, 64, 71, 78, 85], [0], [])]
def bkX2_exitAt_64 : List gw_E := [(64, 1, .aload_n 0, [0], [], []), (65, 3, .getfield 9, [2, 0, 1, 1210], [], []), (68, 1, .iload_n 3, [3], [], []), (69, 1, .iaload, [], [], []), (70, 1, .ireturn, [0], [], [])]
def bkX2_exitAt_71 : List gw_E := [(71, 1, .aload_n 0, [0], [], []), (72, 3, .getfield 15, [2, 1, 1, 1211], [], []), (75, 1, .iload_n 3, [3], [], []), (76, 1, .iaload, [], [], []), (77, 1, .ireturn, [0], [], [])]
def bkX2_exitAt_78 : List gw_E := [(78, 1, .aload_n 0, [0], [], []), (79, 3, .getfield 18, [2, 2, 1, 1212], [], []), (82, 1, .iload_n 3, [3], [], []), (83, 1, .iaload, [], [], []), (84, 1, .ireturn, [0], [], [])]
def bkX2_exitAt_85 : List gw_E := [(85, 1, .aload_n 0, [0], [], []), (86, 3, .getfield 21, [2, 3, 1, 1213], [], []), (89, 1, .iload_n 3, [3], [], []), (90, 1, .iaload, [], [], []), (91, 1, .ireturn, [0], [], [])]
def bkX2_exitAt_92 : List gw_E := [(92, 2, .bipush (-2), [], [-2], []), (94, 1, .ireturn, [0], [], [])]
def bsX2_exitAt : List (Nat × List gw_E) := [(0, bkX2_exitAt_0), (17, bkX2_exitAt_17), (64, bkX2_exitAt_64), (71, bkX2_exitAt_71), (78, bkX2_exitAt_78), (85, bkX2_exitAt_85), (92, bkX2_exitAt_92)]
theorem fdX2_exitAt_0 : gw_find bsX2_exitAt 0 = bkX2_exitAt_0 := rfl
theorem fdX2_exitAt_17 : gw_find bsX2_exitAt 17 = bkX2_exitAt_17 := rfl
theorem fdX2_exitAt_64 : gw_find bsX2_exitAt 64 = bkX2_exitAt_64 := rfl
theorem fdX2_exitAt_71 : gw_find bsX2_exitAt 71 = bkX2_exitAt_71 := rfl
theorem fdX2_exitAt_78 : gw_find bsX2_exitAt 78 = bkX2_exitAt_78 := rfl
theorem fdX2_exitAt_85 : gw_find bsX2_exitAt 85 = bkX2_exitAt_85 := rfl
theorem fdX2_exitAt_92 : gw_find bsX2_exitAt 92 = bkX2_exitAt_92 := rfl
set_option maxRecDepth 40000 in
theorem stX2_exitAt : gw_sta sgX2_exitAt bsX2_exitAt := ⟨by decide +kernel, gw_mem2 (i := 5143) rfl rfl, gw_all (by decide +kernel)⟩
def bkX2_exitsBy_0 : List gw_E := [(0, 1, .iconst 0, [], [0], []), (1, 1, .istore_n 2, [2], [], []), (2, 1, .iconst 0, [], [0], []), (3, 1, .istore_n 3, [3], [], [])]
def bkX2_exitsBy_4 : List gw_E := [(4, 1, .iload_n 3, [3], [], []), (5, 1, .aload_n 0, [0], [], []), (6, 3, .invokevirtual 74, [0, 2, 5144, 5136, 5137, 1009], [], [sgX2_exitsKept]), (9, 3, .if_icmp .ge 22, [31], [], []), (12, 1, .aload_n 0, [0], [], []), (13, 3, .getfield 15, [2, 1, 1, 1211], [], []), (16, 1, .iload_n 3, [3], [], []), (17, 1, .iaload, [], [], []), (18, 1, .iload_n 1, [1], [], []), (19, 3, .if_icmp .ne 6, [25], [], []), (22, 3, .iinc 2 1, [2], [1], [])]
def bkX2_exitsBy_25 : List gw_E := [(25, 3, .iinc 3 1, [3], [1], []), (28, 3, .goto (-24), [4], [], [])]
def bkX2_exitsBy_31 : List gw_E := [(31, 1, .iload_n 2, [2], [], []), (32, 1, .ireturn, [0], [], [])]
def bsX2_exitsBy : List (Nat × List gw_E) := [(0, bkX2_exitsBy_0), (4, bkX2_exitsBy_4), (25, bkX2_exitsBy_25), (31, bkX2_exitsBy_31)]
theorem fdX2_exitsBy_0 : gw_find bsX2_exitsBy 0 = bkX2_exitsBy_0 := rfl
theorem fdX2_exitsBy_4 : gw_find bsX2_exitsBy 4 = bkX2_exitsBy_4 := rfl
theorem fdX2_exitsBy_25 : gw_find bsX2_exitsBy 25 = bkX2_exitsBy_25 := rfl
theorem fdX2_exitsBy_31 : gw_find bsX2_exitsBy 31 = bkX2_exitsBy_31 := rfl
set_option maxRecDepth 40000 in
theorem stX2_exitsBy : gw_sta sgX2_exitsBy bsX2_exitsBy := ⟨by decide +kernel, gw_mem2 (i := 5152) rfl rfl, gw_all (by decide +kernel)⟩
def bkX2_hear_0 : List gw_E := [(0, 1, .aload_n 0, [0], [], []), (1, 3, .getfield 34, [2, 7, 1, 1221], [], []), (4, 1, .aload_n 0, [0], [], []), (5, 3, .getfield 58, [2, 8, 0, 1222], [], []), (8, 2, .bipush 24, [], [24], []), (10, 1, .irem, [], [], []), (11, 1, .iload_n 1, [1], [], []), (12, 1, .iastore, [], [], []), (13, 1, .aload_n 0, [0], [], []), (14, 1, .dup, [], [], []), (15, 3, .getfield 58, [2, 8, 0, 1222], [], []), (18, 1, .iconst 1, [], [1], []), (19, 1, .iadd, [], [], []), (20, 3, .putfield 58, [2, 8, 0, 1222], [], []), (23, 1, .return_, [], [], [])]
def bsX2_hear : List (Nat × List gw_E) := [(0, bkX2_hear_0)]
theorem fdX2_hear_0 : gw_find bsX2_hear 0 = bkX2_hear_0 := rfl
set_option maxRecDepth 40000 in
theorem stX2_hear : gw_sta sgX2_hear bsX2_hear := ⟨by decide +kernel, gw_mem2 (i := 4005) rfl rfl, gw_all (by decide +kernel)⟩
def bkX2_heardKept_0 : List gw_E := [(0, 1, .aload_n 0, [0], [], []), (1, 3, .getfield 58, [2, 8, 0, 1222], [], []), (4, 2, .bipush 24, [], [24], []), (6, 3, .invokestatic 68, [2, 0, 5070, 5071, 1015, 0], [], [sgJ9_min_7cf53]), (9, 1, .ireturn, [0], [], [])]
def bsX2_heardKept : List (Nat × List gw_E) := [(0, bkX2_heardKept_0)]
theorem fdX2_heardKept_0 : gw_find bsX2_heardKept 0 = bkX2_heardKept_0 := rfl
set_option maxRecDepth 40000 in
theorem stX2_heardKept : gw_sta sgX2_heardKept bsX2_heardKept := ⟨by decide +kernel, gw_mem2 (i := 5069) rfl rfl, gw_all (by decide +kernel)⟩
def bkX2_heardAt_0 : List gw_E := [(0, 1, .iload_n 1, [1], [], []), (1, 1, .iconst 0, [], [0], []), (2, 1, .aload_n 0, [0], [], []), (3, 3, .invokevirtual 81, [0, 2, 5077, 5067, 5068, 1009], [], [sgX2_heardKept]), (6, 1, .iconst 1, [], [1], []), (7, 1, .isub, [], [], []), (8, 3, .invokestatic 77, [3, 1, 5078, 2203, 1001, 0], [], [sgX10_within]), (11, 3, .ifCond .ne 5, [16], [], []), (14, 1, .iconst (-1), [], [-1], []), (15, 1, .ireturn, [0], [], [])]
def bkX2_heardAt_16 : List gw_E := [(16, 1, .aload_n 0, [0], [], []), (17, 3, .getfield 34, [2, 7, 1, 1221], [], []), (20, 1, .aload_n 0, [0], [], []), (21, 3, .getfield 58, [2, 8, 0, 1222], [], []), (24, 1, .aload_n 0, [0], [], []), (25, 3, .invokevirtual 81, [0, 2, 5077, 5067, 5068, 1009], [], [sgX2_heardKept]), (28, 1, .isub, [], [], []), (29, 1, .iload_n 1, [1], [], []), (30, 1, .iadd, [], [], []), (31, 2, .bipush 24, [], [24], []), (33, 1, .irem, [], [], []), (34, 1, .iaload, [], [], []), (35, 1, .ireturn, [0], [], [])]
def bsX2_heardAt : List (Nat × List gw_E) := [(0, bkX2_heardAt_0), (16, bkX2_heardAt_16)]
theorem fdX2_heardAt_0 : gw_find bsX2_heardAt 0 = bkX2_heardAt_0 := rfl
theorem fdX2_heardAt_16 : gw_find bsX2_heardAt 16 = bkX2_heardAt_16 := rfl
set_option maxRecDepth 40000 in
theorem stX2_heardAt : gw_sta sgX2_heardAt bsX2_heardAt := ⟨by decide +kernel, gw_mem2 (i := 5076) rfl rfl, gw_all (by decide +kernel)⟩
def bkX2_noteTake_0 : List gw_E := [(0, 1, .aload_n 0, [0], [], []), (1, 3, .getfield 43, [2, 12, 1, 1231], [], []), (4, 1, .iload_n 1, [1], [], []), (5, 1, .iconst 1, [], [1], []), (6, 1, .isub, [], [], []), (7, 1, .dup2, [], [], []), (8, 1, .iaload, [], [], []), (9, 1, .iconst 1, [], [1], []), (10, 1, .iadd, [], [], []), (11, 1, .iastore, [], [], []), (12, 1, .aload_n 0, [0], [], []), (13, 3, .getfield 46, [2, 13, 1, 1234], [], []), (16, 1, .iload_n 1, [1], [], []), (17, 1, .iconst 1, [], [1], []), (18, 1, .isub, [], [], []), (19, 1, .iload_n 2, [2], [], []), (20, 1, .iastore, [], [], []), (21, 1, .aload_n 0, [0], [], []), (22, 3, .getfield 49, [2, 14, 1, 1236], [], []), (25, 1, .iload_n 1, [1], [], []), (26, 1, .iconst 1, [], [1], []), (27, 1, .isub, [], [], []), (28, 1, .aload_n 0, [0], [], []), (29, 3, .getfield 49, [2, 14, 1, 1236], [], []), (32, 1, .iload_n 1, [1], [], []), (33, 1, .iconst 1, [], [1], []), (34, 1, .isub, [], [], []), (35, 1, .iaload, [], [], []), (36, 1, .iload_n 3, [3], [], []), (37, 3, .invokestatic 84, [2, 0, 3077, 3078, 1015, 0], [], [sgJ9_max_7cf53]), (40, 1, .iastore, [], [], []), (41, 1, .return_, [], [], [])]
def bsX2_noteTake : List (Nat × List gw_E) := [(0, bkX2_noteTake_0)]
theorem fdX2_noteTake_0 : gw_find bsX2_noteTake 0 = bkX2_noteTake_0 := rfl
set_option maxRecDepth 40000 in
theorem stX2_noteTake : gw_sta sgX2_noteTake bsX2_noteTake := ⟨by decide +kernel, gw_mem2 (i := 3076) rfl rfl, gw_all (by decide +kernel)⟩
def bkX4_init_0 : List gw_E := [(0, 1, .aload_n 0, [0], [], []), (1, 3, .invokespecial 3, [0, 2, 1038, 1025, 1026, 0], [], []), (4, 1, .aload_n 0, [0], [], []), (5, 3, .new 9, [8, 1039, 1040, 1004], [], []), (8, 1, .dup, [], [], []), (9, 3, .invokespecial 11, [0, 0, 1041, 1042, 1004, 0], [], [sgX8_init]), (12, 3, .putfield 12, [4, 0, 1, 1070], [], []), (15, 1, .aload_n 0, [0], [], []), (16, 2, .bipush 10, [], [10], []), (18, 2, .newarray .int, [], [], []), (20, 3, .putfield 18, [4, 1, 1, 1073], [], []), (23, 1, .aload_n 0, [0], [], []), (24, 2, .bipush 16, [], [16], []), (26, 2, .newarray .int, [], [], []), (28, 3, .putfield 22, [4, 2, 1, 1076], [], []), (31, 1, .iconst 0, [], [0], []), (32, 1, .istore_n 1, [1], [], [])]
def bkX4_init_33 : List gw_E := [(33, 1, .iload_n 1, [1], [], []), (34, 2, .bipush 10, [], [10], []), (36, 3, .if_icmp .ge 19, [55], [], []), (39, 1, .aload_n 0, [0], [], []), (40, 3, .getfield 18, [4, 1, 1, 1073], [], []), (43, 1, .iload_n 1, [1], [], []), (44, 1, .iload_n 1, [1], [], []), (45, 2, .bipush 11, [], [11], []), (47, 1, .imul, [], [], []), (48, 1, .iastore, [], [], []), (49, 3, .iinc 1 1, [1], [1], []), (52, 3, .goto (-19), [33], [], [])]
def bkX4_init_55 : List gw_E := [(55, 1, .aload_n 0, [0], [], []), (56, 3, .getfield 22, [4, 2, 1, 1076], [], []), (59, 1, .iconst (-1), [], [-1], []), (60, 3, .invokestatic 25, [2, 0, 1069, 1046, 1005, 0], [], [sgJ7_fill_53178]), (63, 1, .return_, [], [], [])]
def bsX4_init : List (Nat × List gw_E) := [(0, bkX4_init_0), (33, bkX4_init_33), (55, bkX4_init_55)]
theorem fdX4_init_0 : gw_find bsX4_init 0 = bkX4_init_0 := rfl
theorem fdX4_init_33 : gw_find bsX4_init 33 = bkX4_init_33 := rfl
theorem fdX4_init_55 : gw_find bsX4_init 55 = bkX4_init_55 := rfl
set_option maxRecDepth 40000 in
theorem stX4_init : gw_sta sgX4_init bsX4_init := ⟨by decide +kernel, gw_mem2 (i := 1037) rfl rfl, gw_all (by decide +kernel)⟩
def bkX4_copyFrom_0 : List gw_E := [(0, 1, .aload_n 0, [0], [], []), (1, 3, .getfield 12, [4, 0, 1, 1070], [], []), (4, 1, .aload_n 1, [1], [], []), (5, 3, .getfield 12, [4, 0, 1, 1070], [], []), (8, 3, .invokevirtual 31, [1, 8, 2218, 2219, 2220, 1004], [], [sgX8_copyFrom]), (11, 1, .aload_n 1, [1], [], []), (12, 3, .getfield 18, [4, 1, 1, 1073], [], []), (15, 1, .iconst 0, [], [0], []), (16, 1, .aload_n 0, [0], [], []), (17, 3, .getfield 18, [4, 1, 1, 1073], [], []), (20, 1, .iconst 0, [], [0], []), (21, 2, .bipush 10, [], [10], []), (23, 3, .invokestatic 35, [5, 2, 2225, 2224, 2223, 1014], [], []), (26, 1, .aload_n 1, [1], [], []), (27, 3, .getfield 22, [4, 2, 1, 1076], [], []), (30, 1, .iconst 0, [], [0], []), (31, 1, .aload_n 0, [0], [], []), (32, 3, .getfield 22, [4, 2, 1, 1076], [], []), (35, 1, .iconst 0, [], [0], []), (36, 2, .bipush 16, [], [16], []), (38, 3, .invokestatic 35, [5, 2, 2225, 2224, 2223, 1014], [], []), (41, 1, .aload_n 0, [0], [], []), (42, 1, .aload_n 1, [1], [], []), (43, 3, .getfield 41, [4, 3, 0, 1079], [], []), (46, 3, .putfield 41, [4, 3, 0, 1079], [], []), (49, 1, .aload_n 0, [0], [], []), (50, 1, .aload_n 1, [1], [], []), (51, 3, .getfield 45, [4, 4, 0, 1081], [], []), (54, 3, .putfield 45, [4, 4, 0, 1081], [], []), (57, 1, .aload_n 0, [0], [], []), (58, 1, .aload_n 1, [1], [], []), (59, 3, .getfield 48, [4, 5, 0, 1083], [], []), (62, 3, .putfield 48, [4, 5, 0, 1083], [], []), (65, 1, .return_, [], [], [])]
def bsX4_copyFrom : List (Nat × List gw_E) := [(0, bkX4_copyFrom_0)]
theorem fdX4_copyFrom_0 : gw_find bsX4_copyFrom 0 = bkX4_copyFrom_0 := rfl
set_option maxRecDepth 40000 in
theorem stX4_copyFrom : gw_sta sgX4_copyFrom bsX4_copyFrom := ⟨by decide +kernel, gw_mem2 (i := 2217) rfl rfl, gw_all (by decide +kernel)⟩
def bkX4_tell_0 : List gw_E := [(0, 1, .aload_n 0, [0], [], []), (1, 3, .getfield 12, [4, 0, 1, 1070], [], []), (4, 1, .iload_n 1, [1], [], []), (5, 1, .iload_n 2, [2], [], []), (6, 1, .iload_n 3, [3], [], []), (7, 3, .invokevirtual 51, [3, 8, 3038, 3023, 3024, 1004], [], [sgX8_put]), (10, 1, .aload_n 0, [0], [], []), (11, 1, .dup, [], [], []), (12, 3, .getfield 41, [4, 3, 0, 1079], [], []), (15, 1, .iconst 1, [], [1], []), (16, 1, .iload_n 1, [1], [], []), (17, 1, .ishl, [], [], []), (18, 1, .iconst (-1), [], [-1], []), (19, 1, .ixor, [], [], []), (20, 1, .iand, [], [], []), (21, 3, .putfield 41, [4, 3, 0, 1079], [], []), (24, 1, .aload_n 0, [0], [], []), (25, 3, .getfield 22, [4, 2, 1, 1076], [], []), (28, 1, .iload_n 1, [1], [], []), (29, 1, .iconst (-1), [], [-1], []), (30, 1, .iastore, [], [], []), (31, 1, .return_, [], [], [])]
def bsX4_tell : List (Nat × List gw_E) := [(0, bkX4_tell_0)]
theorem fdX4_tell_0 : gw_find bsX4_tell 0 = bkX4_tell_0 := rfl
set_option maxRecDepth 40000 in
theorem stX4_tell : gw_sta sgX4_tell bsX4_tell := ⟨by decide +kernel, gw_mem2 (i := 3037) rfl rfl, gw_all (by decide +kernel)⟩
def bkX4_untell_0 : List gw_E := [(0, 1, .aload_n 0, [0], [], []), (1, 3, .getfield 12, [4, 0, 1, 1070], [], []), (4, 1, .iload_n 1, [1], [], []), (5, 3, .invokevirtual 55, [1, 8, 3104, 3031, 3032, 1004], [], [sgX8_drop]), (8, 1, .aload_n 0, [0], [], []), (9, 1, .dup, [], [], []), (10, 3, .getfield 41, [4, 3, 0, 1079], [], []), (13, 1, .iconst 1, [], [1], []), (14, 1, .iload_n 1, [1], [], []), (15, 1, .ishl, [], [], []), (16, 1, .iconst (-1), [], [-1], []), (17, 1, .ixor, [], [], []), (18, 1, .iand, [], [], []), (19, 3, .putfield 41, [4, 3, 0, 1079], [], []), (22, 1, .aload_n 0, [0], [], []), (23, 3, .getfield 22, [4, 2, 1, 1076], [], []), (26, 1, .iload_n 1, [1], [], []), (27, 1, .iconst (-1), [], [-1], []), (28, 1, .iastore, [], [], []), (29, 1, .return_, [], [], [])]
def bsX4_untell : List (Nat × List gw_E) := [(0, bkX4_untell_0)]
theorem fdX4_untell_0 : gw_find bsX4_untell 0 = bkX4_untell_0 := rfl
set_option maxRecDepth 40000 in
theorem stX4_untell : gw_sta sgX4_untell bsX4_untell := ⟨by decide +kernel, gw_mem2 (i := 3103) rfl rfl, gw_all (by decide +kernel)⟩
def bkX4_rightsGiven_0 : List gw_E := [(0, 1, .aload_n 0, [0], [], []), (1, 3, .getfield 41, [4, 3, 0, 1079], [], []), (4, 1, .iload_n 1, [1], [], []), (5, 1, .ishr, [], [], []), (6, 1, .iconst 1, [], [1], []), (7, 1, .iand, [], [], []), (8, 3, .ifCond .eq 7, [15], [], []), (11, 1, .iconst 1, [], [1], []), (12, 3, .goto 4, [16], [], [])]
def bkX4_rightsGiven_15 : List gw_E := [(15, 1, .iconst 0, [], [0], [])]
def bkX4_rightsGiven_16 : List gw_E := [(16, 1, .istore_n 2, [2], [], []), (17, 1, .iload_n 2, [2], [], []), (18, 3, .ifCond .eq 18, [36], [], []), (21, 1, .aload_n 0, [0], [], []), (22, 3, .getfield 12, [4, 0, 1, 1070], [], []), (25, 3, .getfield 59, [8, 1, 1, 1054], [], []), (28, 1, .iload_n 1, [1], [], []), (29, 1, .iaload, [], [], []), (30, 2, .bipush (-3), [], [-3], []), (32, 1, .iand, [], [], []), (33, 3, .goto 12, [45], [], [])]
def bkX4_rightsGiven_36 : List gw_E := [(36, 1, .aload_n 0, [0], [], []), (37, 3, .getfield 12, [4, 0, 1, 1070], [], []), (40, 3, .getfield 59, [8, 1, 1, 1054], [], []), (43, 1, .iload_n 1, [1], [], []), (44, 1, .iaload, [], [], [])]
def bkX4_rightsGiven_45 : List gw_E := [(45, 1, .ireturn, [0], [], [])]
def bsX4_rightsGiven : List (Nat × List gw_E) := [(0, bkX4_rightsGiven_0), (15, bkX4_rightsGiven_15), (16, bkX4_rightsGiven_16), (36, bkX4_rightsGiven_36), (45, bkX4_rightsGiven_45)]
theorem fdX4_rightsGiven_0 : gw_find bsX4_rightsGiven 0 = bkX4_rightsGiven_0 := rfl
theorem fdX4_rightsGiven_15 : gw_find bsX4_rightsGiven 15 = bkX4_rightsGiven_15 := rfl
theorem fdX4_rightsGiven_16 : gw_find bsX4_rightsGiven 16 = bkX4_rightsGiven_16 := rfl
theorem fdX4_rightsGiven_36 : gw_find bsX4_rightsGiven 36 = bkX4_rightsGiven_36 := rfl
theorem fdX4_rightsGiven_45 : gw_find bsX4_rightsGiven 45 = bkX4_rightsGiven_45 := rfl
set_option maxRecDepth 40000 in
theorem stX4_rightsGiven : gw_sta sgX4_rightsGiven bsX4_rightsGiven := ⟨by decide +kernel, gw_mem2 (i := 3146) rfl rfl, gw_all (by decide +kernel)⟩
def bkX4_partsOnWrite_0 : List gw_E := [(0, 1, .aload_n 0, [0], [], []), (1, 3, .getfield 41, [4, 3, 0, 1079], [], []), (4, 1, .iload_n 1, [1], [], []), (5, 3, .invokestatic 62, [2, 1, 3167, 3044, 1001, 0], [], [sgX10_hasBit]), (8, 3, .ifCond .eq 23, [31], [], []), (11, 1, .aload_n 0, [0], [], []), (12, 3, .getfield 12, [4, 0, 1, 1070], [], []), (15, 3, .getfield 59, [8, 1, 1, 1054], [], []), (18, 1, .iload_n 1, [1], [], []), (19, 1, .iaload, [], [], []), (20, 1, .iconst 1, [], [1], []), (21, 3, .invokestatic 62, [2, 1, 3167, 3044, 1001, 0], [], [sgX10_hasBit]), (24, 3, .ifCond .eq 7, [31], [], []), (27, 1, .iconst 1, [], [1], []), (28, 3, .goto 4, [32], [], [])]
def bkX4_partsOnWrite_31 : List gw_E := [(31, 1, .iconst 0, [], [0], [])]
def bkX4_partsOnWrite_32 : List gw_E := [(32, 1, .ireturn, [1], [], [])]
def bsX4_partsOnWrite : List (Nat × List gw_E) := [(0, bkX4_partsOnWrite_0), (31, bkX4_partsOnWrite_31), (32, bkX4_partsOnWrite_32)]
theorem fdX4_partsOnWrite_0 : gw_find bsX4_partsOnWrite 0 = bkX4_partsOnWrite_0 := rfl
theorem fdX4_partsOnWrite_31 : gw_find bsX4_partsOnWrite 31 = bkX4_partsOnWrite_31 := rfl
theorem fdX4_partsOnWrite_32 : gw_find bsX4_partsOnWrite 32 = bkX4_partsOnWrite_32 := rfl
set_option maxRecDepth 40000 in
theorem stX4_partsOnWrite : gw_sta sgX4_partsOnWrite bsX4_partsOnWrite := ⟨by decide +kernel, gw_mem2 (i := 3216) rfl rfl, gw_all (by decide +kernel)⟩
def bkX4_framesLedTo_0 : List gw_E := [(0, 1, .iconst 0, [], [0], []), (1, 1, .istore_n 1, [1], [], []), (2, 1, .iconst 0, [], [0], []), (3, 1, .istore_n 2, [2], [], [])]
def bkX4_framesLedTo_4 : List gw_E := [(4, 1, .iload_n 2, [2], [], []), (5, 2, .bipush 16, [], [16], []), (7, 3, .if_icmp .ge 36, [43], [], []), (10, 1, .aload_n 0, [0], [], []), (11, 3, .getfield 12, [4, 0, 1, 1070], [], []), (14, 3, .getfield 66, [8, 0, 1, 1050], [], []), (17, 1, .iload_n 2, [2], [], []), (18, 1, .iaload, [], [], []), (19, 1, .iconst (-1), [], [-1], []), (20, 3, .if_icmp .eq 17, [37], [], []), (23, 1, .iload_n 1, [1], [], []), (24, 1, .iconst 1, [], [1], []), (25, 1, .aload_n 0, [0], [], []), (26, 3, .getfield 12, [4, 0, 1, 1070], [], []), (29, 3, .getfield 66, [8, 0, 1, 1050], [], []), (32, 1, .iload_n 2, [2], [], []), (33, 1, .iaload, [], [], []), (34, 1, .ishl, [], [], []), (35, 1, .ior, [], [], []), (36, 1, .istore_n 1, [1], [], [])]
def bkX4_framesLedTo_37 : List gw_E := [(37, 3, .iinc 2 1, [2], [1], []), (40, 3, .goto (-36), [4], [], [])]
def bkX4_framesLedTo_43 : List gw_E := [(43, 1, .iload_n 1, [1], [], []), (44, 1, .ireturn, [0], [], [])]
def bsX4_framesLedTo : List (Nat × List gw_E) := [(0, bkX4_framesLedTo_0), (4, bkX4_framesLedTo_4), (37, bkX4_framesLedTo_37), (43, bkX4_framesLedTo_43)]
theorem fdX4_framesLedTo_0 : gw_find bsX4_framesLedTo 0 = bkX4_framesLedTo_0 := rfl
theorem fdX4_framesLedTo_4 : gw_find bsX4_framesLedTo 4 = bkX4_framesLedTo_4 := rfl
theorem fdX4_framesLedTo_37 : gw_find bsX4_framesLedTo 37 = bkX4_framesLedTo_37 := rfl
theorem fdX4_framesLedTo_43 : gw_find bsX4_framesLedTo 43 = bkX4_framesLedTo_43 := rfl
set_option maxRecDepth 40000 in
theorem stX4_framesLedTo : gw_sta sgX4_framesLedTo bsX4_framesLedTo := ⟨by decide +kernel, gw_mem2 (i := 3166) rfl rfl, gw_all (by decide +kernel)⟩
def bkX4_framesFree_0 : List gw_E := [(0, 2, .bipush 10, [], [10], []), (2, 1, .aload_n 0, [0], [], []), (3, 3, .invokevirtual 69, [0, 4, 3163, 3164, 3165, 1003], [], [sgX4_framesLedTo]), (6, 3, .invokestatic 73, [1, 0, 5018, 4119, 1017, 0], [], [sgJ6_bitCount_0f7a4]), (9, 1, .isub, [], [], []), (10, 1, .ireturn, [0], [], [])]
def bsX4_framesFree : List (Nat × List gw_E) := [(0, bkX4_framesFree_0)]
theorem fdX4_framesFree_0 : gw_find bsX4_framesFree 0 = bkX4_framesFree_0 := rfl
set_option maxRecDepth 40000 in
theorem stX4_framesFree : gw_sta sgX4_framesFree bsX4_framesFree := ⟨by decide +kernel, gw_mem2 (i := 5017) rfl rfl, gw_all (by decide +kernel)⟩
def bkX4_touchFrame_0 : List gw_E := [(0, 1, .iload_n 2, [2], [], []), (1, 1, .iconst 1, [], [1], []), (2, 3, .if_icmp .ne 22, [24], [], []), (5, 1, .aload_n 0, [0], [], []), (6, 3, .getfield 18, [4, 1, 1, 1073], [], []), (9, 1, .iload_n 1, [1], [], []), (10, 1, .iload_n 3, [3], [], []), (11, 1, .iastore, [], [], []), (12, 1, .aload_n 0, [0], [], []), (13, 1, .dup, [], [], []), (14, 3, .getfield 45, [4, 4, 0, 1081], [], []), (17, 1, .iconst 1, [], [1], []), (18, 1, .iload_n 1, [1], [], []), (19, 1, .ishl, [], [], []), (20, 1, .ior, [], [], []), (21, 3, .putfield 45, [4, 4, 0, 1081], [], [])]
def bkX4_touchFrame_24 : List gw_E := [(24, 1, .aload_n 0, [0], [], []), (25, 3, .getfield 18, [4, 1, 1, 1073], [], []), (28, 1, .iload_n 1, [1], [], []), (29, 1, .iaload, [], [], []), (30, 1, .ireturn, [0], [], [])]
def bsX4_touchFrame : List (Nat × List gw_E) := [(0, bkX4_touchFrame_0), (24, bkX4_touchFrame_24)]
theorem fdX4_touchFrame_0 : gw_find bsX4_touchFrame 0 = bkX4_touchFrame_0 := rfl
theorem fdX4_touchFrame_24 : gw_find bsX4_touchFrame 24 = bkX4_touchFrame_24 := rfl
set_option maxRecDepth 40000 in
theorem stX4_touchFrame : gw_sta sgX4_touchFrame bsX4_touchFrame := ⟨by decide +kernel, gw_mem2 (i := 4001) rfl rfl, gw_all (by decide +kernel)⟩
end
section
def bkX4_give_0 : List gw_E := [(0, 1, .iconst 1, [], [1], []), (1, 1, .iload_n 1, [1], [], []), (2, 1, .ishl, [], [], []), (3, 1, .istore_n 2, [2], [], []), (4, 1, .aload_n 0, [0], [], []), (5, 3, .invokevirtual 69, [0, 4, 3163, 3164, 3165, 1003], [], [sgX4_framesLedTo]), (8, 3, .invokestatic 79, [1, 1, 3233, 3234, 1001, 0], [], [sgX10_lowestOutside]), (11, 1, .istore_n 3, [3], [], []), (12, 1, .iconst 0, [], [0], []), (13, 2, .istore 4, [4], [], [])]
def bkX4_give_15 : List gw_E := [(15, 2, .iload 4, [4], [], []), (17, 2, .bipush 16, [], [16], []), (19, 3, .if_icmp .ge 63, [82], [], []), (22, 1, .iload_n 3, [3], [], []), (23, 1, .iconst (-1), [], [-1], []), (24, 3, .if_icmp .ne 58, [82], [], []), (27, 1, .aload_n 0, [0], [], []), (28, 3, .getfield 12, [4, 0, 1, 1070], [], []), (31, 3, .invokevirtual 82, [0, 8, 3236, 3122, 3123, 1004], [], [sgX8_eldest]), (34, 2, .istore 5, [5], [], []), (36, 2, .iload 5, [5], [], []), (38, 1, .iconst (-1), [], [-1], []), (39, 3, .if_icmp .ne 6, [45], [], []), (42, 3, .goto 40, [82], [], [])]
def bkX4_give_45 : List gw_E := [(45, 1, .aload_n 0, [0], [], []), (46, 2, .iload 5, [5], [], []), (48, 3, .invokevirtual 85, [1, 4, 3225, 3227, 9, 1003], [], [sgX4_storeAway]), (51, 1, .aload_n 0, [0], [], []), (52, 1, .dup, [], [], []), (53, 3, .getfield 48, [4, 5, 0, 1083], [], []), (56, 1, .iconst 1, [], [1], []), (57, 1, .iadd, [], [], []), (58, 3, .putfield 48, [4, 5, 0, 1083], [], []), (61, 1, .iload_n 2, [2], [], []), (62, 1, .iconst 1, [], [1], []), (63, 2, .iload 5, [5], [], []), (65, 1, .ishl, [], [], []), (66, 1, .ior, [], [], []), (67, 1, .istore_n 2, [2], [], []), (68, 1, .aload_n 0, [0], [], []), (69, 3, .invokevirtual 69, [0, 4, 3163, 3164, 3165, 1003], [], [sgX4_framesLedTo]), (72, 3, .invokestatic 79, [1, 1, 3233, 3234, 1001, 0], [], [sgX10_lowestOutside]), (75, 1, .istore_n 3, [3], [], []), (76, 3, .iinc 4 1, [4], [1], []), (79, 3, .goto (-64), [15], [], [])]
def bkX4_give_82 : List gw_E := [(82, 1, .iload_n 3, [3], [], []), (83, 1, .iconst (-1), [], [-1], []), (84, 3, .if_icmp .ne 5, [89], [], []), (87, 1, .iload_n 2, [2], [], []), (88, 1, .ireturn, [0], [], [])]
def bkX4_give_89 : List gw_E := [(89, 1, .aload_n 0, [0], [], []), (90, 3, .getfield 12, [4, 0, 1, 1070], [], []), (93, 1, .iload_n 1, [1], [], []), (94, 1, .iload_n 3, [3], [], []), (95, 2, .bipush 7, [], [7], []), (97, 3, .invokevirtual 51, [3, 8, 3038, 3023, 3024, 1004], [], [sgX8_put]), (100, 1, .aload_n 0, [0], [], []), (101, 1, .dup, [], [], []), (102, 3, .getfield 41, [4, 3, 0, 1079], [], []), (105, 1, .iconst 1, [], [1], []), (106, 1, .iload_n 1, [1], [], []), (107, 1, .ishl, [], [], []), (108, 1, .iconst (-1), [], [-1], []), (109, 1, .ixor, [], [], []), (110, 1, .iand, [], [], []), (111, 3, .putfield 41, [4, 3, 0, 1079], [], []), (114, 1, .aload_n 0, [0], [], []), (115, 3, .getfield 18, [4, 1, 1, 1073], [], []), (118, 1, .iload_n 3, [3], [], []), (119, 1, .aload_n 0, [0], [], []), (120, 3, .getfield 22, [4, 2, 1, 1076], [], []), (123, 1, .iload_n 1, [1], [], []), (124, 1, .iaload, [], [], []), (125, 1, .iconst 0, [], [0], []), (126, 3, .invokestatic 88, [2, 0, 3237, 3078, 1015, 0], [], [sgJ9_max_7cf53]), (129, 1, .iastore, [], [], []), (130, 1, .aload_n 0, [0], [], []), (131, 3, .getfield 22, [4, 2, 1, 1076], [], []), (134, 1, .iload_n 1, [1], [], []), (135, 1, .iconst (-1), [], [-1], []), (136, 1, .iastore, [], [], []), (137, 1, .aload_n 0, [0], [], []), (138, 1, .dup, [], [], []), (139, 3, .getfield 45, [4, 4, 0, 1081], [], []), (142, 1, .iconst 1, [], [1], []), (143, 1, .iload_n 3, [3], [], []), (144, 1, .ishl, [], [], []), (145, 1, .ior, [], [], []), (146, 3, .putfield 45, [4, 4, 0, 1081], [], []), (149, 1, .iload_n 2, [2], [], []), (150, 1, .ireturn, [0], [], [])]
def bsX4_give : List (Nat × List gw_E) := [(0, bkX4_give_0), (15, bkX4_give_15), (45, bkX4_give_45), (82, bkX4_give_82), (89, bkX4_give_89)]
theorem fdX4_give_0 : gw_find bsX4_give 0 = bkX4_give_0 := rfl
theorem fdX4_give_15 : gw_find bsX4_give 15 = bkX4_give_15 := rfl
theorem fdX4_give_45 : gw_find bsX4_give 45 = bkX4_give_45 := rfl
theorem fdX4_give_82 : gw_find bsX4_give 82 = bkX4_give_82 := rfl
theorem fdX4_give_89 : gw_find bsX4_give 89 = bkX4_give_89 := rfl
set_option maxRecDepth 40000 in
theorem stX4_give : gw_sta sgX4_give bsX4_give := ⟨by decide +kernel, gw_mem2 (i := 3232) rfl rfl, gw_all (by decide +kernel)⟩
def bkX4_part_0 : List gw_E := [(0, 1, .aload_n 0, [0], [], []), (1, 1, .iload_n 1, [1], [], []), (2, 3, .invokevirtual 94, [1, 4, 3221, 3223, 8, 1003], [], [sgX4_sharesFrame]), (5, 3, .ifCond .eq 11, [16], [], []), (8, 1, .aload_n 0, [0], [], []), (9, 1, .iload_n 1, [1], [], []), (10, 3, .invokevirtual 85, [1, 4, 3225, 3227, 9, 1003], [], [sgX4_storeAway]), (13, 3, .goto 17, [30], [], [])]
def bkX4_part_16 : List gw_E := [(16, 1, .aload_n 0, [0], [], []), (17, 1, .dup, [], [], []), (18, 3, .getfield 41, [4, 3, 0, 1079], [], []), (21, 1, .iconst 1, [], [1], []), (22, 1, .iload_n 1, [1], [], []), (23, 1, .ishl, [], [], []), (24, 1, .iconst (-1), [], [-1], []), (25, 1, .ixor, [], [], []), (26, 1, .iand, [], [], []), (27, 3, .putfield 41, [4, 3, 0, 1079], [], [])]
def bkX4_part_30 : List gw_E := [(30, 1, .return_, [], [], [])]
def bsX4_part : List (Nat × List gw_E) := [(0, bkX4_part_0), (16, bkX4_part_16), (30, bkX4_part_30)]
theorem fdX4_part_0 : gw_find bsX4_part 0 = bkX4_part_0 := rfl
theorem fdX4_part_16 : gw_find bsX4_part 16 = bkX4_part_16 := rfl
theorem fdX4_part_30 : gw_find bsX4_part 30 = bkX4_part_30 := rfl
set_option maxRecDepth 40000 in
theorem stX4_part : gw_sta sgX4_part bsX4_part := ⟨by decide +kernel, gw_mem2 (i := 3220) rfl rfl, gw_all (by decide +kernel)⟩
def bkX4_sharesFrame_0 : List gw_E := [(0, 1, .iconst 0, [], [0], []), (1, 1, .istore_n 2, [2], [], [])]
def bkX4_sharesFrame_2 : List gw_E := [(2, 1, .iload_n 2, [2], [], []), (3, 2, .bipush 16, [], [16], []), (5, 3, .if_icmp .ge 37, [42], [], []), (8, 1, .iload_n 2, [2], [], []), (9, 1, .iload_n 1, [1], [], []), (10, 3, .if_icmp .eq 26, [36], [], []), (13, 1, .aload_n 0, [0], [], []), (14, 3, .getfield 12, [4, 0, 1, 1070], [], []), (17, 3, .getfield 66, [8, 0, 1, 1050], [], []), (20, 1, .iload_n 2, [2], [], []), (21, 1, .iaload, [], [], []), (22, 1, .aload_n 0, [0], [], []), (23, 3, .getfield 12, [4, 0, 1, 1070], [], []), (26, 3, .getfield 66, [8, 0, 1, 1050], [], []), (29, 1, .iload_n 1, [1], [], []), (30, 1, .iaload, [], [], []), (31, 3, .if_icmp .ne 5, [36], [], []), (34, 1, .iconst 1, [], [1], []), (35, 1, .ireturn, [1], [], [])]
def bkX4_sharesFrame_36 : List gw_E := [(36, 3, .iinc 2 1, [2], [1], []), (39, 3, .goto (-37), [2], [], [])]
def bkX4_sharesFrame_42 : List gw_E := [(42, 1, .iconst 0, [], [0], []), (43, 1, .ireturn, [1], [], [])]
def bsX4_sharesFrame : List (Nat × List gw_E) := [(0, bkX4_sharesFrame_0), (2, bkX4_sharesFrame_2), (36, bkX4_sharesFrame_36), (42, bkX4_sharesFrame_42)]
theorem fdX4_sharesFrame_0 : gw_find bsX4_sharesFrame 0 = bkX4_sharesFrame_0 := rfl
theorem fdX4_sharesFrame_2 : gw_find bsX4_sharesFrame 2 = bkX4_sharesFrame_2 := rfl
theorem fdX4_sharesFrame_36 : gw_find bsX4_sharesFrame 36 = bkX4_sharesFrame_36 := rfl
theorem fdX4_sharesFrame_42 : gw_find bsX4_sharesFrame 42 = bkX4_sharesFrame_42 := rfl
set_option maxRecDepth 40000 in
theorem stX4_sharesFrame : gw_sta sgX4_sharesFrame bsX4_sharesFrame := ⟨by decide +kernel, gw_mem2 (i := 3224) rfl rfl, gw_all (by decide +kernel)⟩
def bkX4_storeAway_0 : List gw_E := [(0, 1, .aload_n 0, [0], [], []), (1, 3, .getfield 12, [4, 0, 1, 1070], [], []), (4, 3, .getfield 66, [8, 0, 1, 1050], [], []), (7, 1, .iload_n 1, [1], [], []), (8, 1, .iaload, [], [], []), (9, 1, .istore_n 2, [2], [], []), (10, 1, .iload_n 2, [2], [], []), (11, 1, .iconst (-1), [], [-1], []), (12, 3, .if_icmp .ne 4, [16], [], []), (15, 1, .return_, [], [], [])]
def bkX4_storeAway_16 : List gw_E := [(16, 1, .aload_n 0, [0], [], []), (17, 3, .getfield 22, [4, 2, 1, 1076], [], []), (20, 1, .iload_n 1, [1], [], []), (21, 1, .aload_n 0, [0], [], []), (22, 3, .getfield 18, [4, 1, 1, 1073], [], []), (25, 1, .iload_n 2, [2], [], []), (26, 1, .iaload, [], [], []), (27, 1, .iastore, [], [], []), (28, 1, .aload_n 0, [0], [], []), (29, 3, .getfield 12, [4, 0, 1, 1070], [], []), (32, 3, .getfield 66, [8, 0, 1, 1050], [], []), (35, 1, .iload_n 1, [1], [], []), (36, 1, .iconst (-1), [], [-1], []), (37, 1, .iastore, [], [], []), (38, 1, .aload_n 0, [0], [], []), (39, 3, .getfield 12, [4, 0, 1, 1070], [], []), (42, 3, .getfield 59, [8, 1, 1, 1054], [], []), (45, 1, .iload_n 1, [1], [], []), (46, 1, .iconst 0, [], [0], []), (47, 1, .iastore, [], [], []), (48, 1, .aload_n 0, [0], [], []), (49, 1, .dup, [], [], []), (50, 3, .getfield 41, [4, 3, 0, 1079], [], []), (53, 1, .iconst 1, [], [1], []), (54, 1, .iload_n 1, [1], [], []), (55, 1, .ishl, [], [], []), (56, 1, .iconst (-1), [], [-1], []), (57, 1, .ixor, [], [], []), (58, 1, .iand, [], [], []), (59, 3, .putfield 41, [4, 3, 0, 1079], [], []), (62, 1, .return_, [], [], [])]
def bsX4_storeAway : List (Nat × List gw_E) := [(0, bkX4_storeAway_0), (16, bkX4_storeAway_16)]
theorem fdX4_storeAway_0 : gw_find bsX4_storeAway 0 = bkX4_storeAway_0 := rfl
theorem fdX4_storeAway_16 : gw_find bsX4_storeAway 16 = bkX4_storeAway_16 := rfl
set_option maxRecDepth 40000 in
theorem stX4_storeAway : gw_sta sgX4_storeAway bsX4_storeAway := ⟨by decide +kernel, gw_mem2 (i := 3228) rfl rfl, gw_all (by decide +kernel)⟩
def bkX4_areLike_0 : List gw_E := [(0, 1, .aload_n 0, [0], [], []), (1, 3, .invokevirtual 69, [0, 4, 3163, 3164, 3165, 1003], [], [sgX4_framesLedTo]), (4, 1, .istore_n 3, [3], [], []), (5, 1, .iload_n 3, [3], [], []), (6, 1, .iload_n 1, [1], [], []), (7, 3, .invokestatic 62, [2, 1, 3167, 3044, 1001, 0], [], [sgX10_hasBit]), (10, 3, .ifCond .eq 30, [40], [], []), (13, 1, .iload_n 3, [3], [], []), (14, 1, .iload_n 2, [2], [], []), (15, 3, .invokestatic 62, [2, 1, 3167, 3044, 1001, 0], [], [sgX10_hasBit]), (18, 3, .ifCond .eq 22, [40], [], []), (21, 1, .aload_n 0, [0], [], []), (22, 3, .getfield 18, [4, 1, 1, 1073], [], []), (25, 1, .iload_n 1, [1], [], []), (26, 1, .iaload, [], [], []), (27, 1, .aload_n 0, [0], [], []), (28, 3, .getfield 18, [4, 1, 1, 1073], [], []), (31, 1, .iload_n 2, [2], [], []), (32, 1, .iaload, [], [], []), (33, 3, .if_icmp .ne 7, [40], [], []), (36, 1, .iconst 1, [], [1], []), (37, 3, .goto 4, [41], [], [])]
def bkX4_areLike_40 : List gw_E := [(40, 1, .iconst 0, [], [0], [])]
def bkX4_areLike_41 : List gw_E := [(41, 1, .ireturn, [1], [], [])]
def bsX4_areLike : List (Nat × List gw_E) := [(0, bkX4_areLike_0), (40, bkX4_areLike_40), (41, bkX4_areLike_41)]
theorem fdX4_areLike_0 : gw_find bsX4_areLike 0 = bkX4_areLike_0 := rfl
theorem fdX4_areLike_40 : gw_find bsX4_areLike 40 = bkX4_areLike_40 := rfl
theorem fdX4_areLike_41 : gw_find bsX4_areLike 41 = bkX4_areLike_41 := rfl
set_option maxRecDepth 40000 in
theorem stX4_areLike : gw_sta sgX4_areLike bsX4_areLike := ⟨by decide +kernel, gw_mem2 (i := 3162) rfl rfl, gw_all (by decide +kernel)⟩
def bkX4_merge_0 : List gw_E := [(0, 1, .iconst 0, [], [0], []), (1, 1, .istore_n 3, [3], [], []), (2, 1, .iconst 0, [], [0], []), (3, 2, .istore 4, [4], [], [])]
def bkX4_merge_5 : List gw_E := [(5, 2, .iload 4, [4], [], []), (7, 2, .bipush 16, [], [16], []), (9, 3, .if_icmp .ge 55, [64], [], []), (12, 1, .aload_n 0, [0], [], []), (13, 3, .getfield 12, [4, 0, 1, 1070], [], []), (16, 3, .getfield 66, [8, 0, 1, 1050], [], []), (19, 2, .iload 4, [4], [], []), (21, 1, .iaload, [], [], []), (22, 1, .iload_n 2, [2], [], []), (23, 3, .if_icmp .ne 14, [37], [], []), (26, 1, .aload_n 0, [0], [], []), (27, 3, .getfield 12, [4, 0, 1, 1070], [], []), (30, 3, .getfield 66, [8, 0, 1, 1050], [], []), (33, 2, .iload 4, [4], [], []), (35, 1, .iload_n 1, [1], [], []), (36, 1, .iastore, [], [], [])]
def bkX4_merge_37 : List gw_E := [(37, 1, .aload_n 0, [0], [], []), (38, 3, .getfield 12, [4, 0, 1, 1070], [], []), (41, 3, .getfield 66, [8, 0, 1, 1050], [], []), (44, 2, .iload 4, [4], [], []), (46, 1, .iaload, [], [], []), (47, 1, .iload_n 1, [1], [], []), (48, 3, .if_icmp .ne 10, [58], [], []), (51, 1, .iload_n 3, [3], [], []), (52, 1, .iconst 1, [], [1], []), (53, 2, .iload 4, [4], [], []), (55, 1, .ishl, [], [], []), (56, 1, .ior, [], [], []), (57, 1, .istore_n 3, [3], [], [])]
def bkX4_merge_58 : List gw_E := [(58, 3, .iinc 4 1, [4], [1], []), (61, 3, .goto (-56), [5], [], [])]
def bkX4_merge_64 : List gw_E := [(64, 1, .aload_n 0, [0], [], []), (65, 1, .dup, [], [], []), (66, 3, .getfield 41, [4, 3, 0, 1079], [], []), (69, 1, .iload_n 3, [3], [], []), (70, 1, .ior, [], [], []), (71, 3, .putfield 41, [4, 3, 0, 1079], [], []), (74, 1, .iload_n 3, [3], [], []), (75, 1, .ireturn, [0], [], [])]
def bsX4_merge : List (Nat × List gw_E) := [(0, bkX4_merge_0), (5, bkX4_merge_5), (37, bkX4_merge_37), (58, bkX4_merge_58), (64, bkX4_merge_64)]
theorem fdX4_merge_0 : gw_find bsX4_merge 0 = bkX4_merge_0 := rfl
theorem fdX4_merge_5 : gw_find bsX4_merge 5 = bkX4_merge_5 := rfl
theorem fdX4_merge_37 : gw_find bsX4_merge 37 = bkX4_merge_37 := rfl
theorem fdX4_merge_58 : gw_find bsX4_merge 58 = bkX4_merge_58 := rfl
theorem fdX4_merge_64 : gw_find bsX4_merge 64 = bkX4_merge_64 := rfl
set_option maxRecDepth 40000 in
theorem stX4_merge : gw_sta sgX4_merge bsX4_merge := ⟨by decide +kernel, gw_mem2 (i := 3171) rfl rfl, gw_all (by decide +kernel)⟩
def bkX3_init_0 : List gw_E := [(0, 1, .aload_n 0, [0], [], []), (1, 3, .invokespecial 3, [0, 2, 1032, 1025, 1026, 0], [], []), (4, 1, .aload_n 0, [0], [], []), (5, 3, .new 9, [4, 1033, 1034, 1003], [], []), (8, 1, .dup, [], [], []), (9, 3, .invokespecial 11, [0, 0, 1035, 1036, 1003, 0], [], [sgX4_init]), (12, 3, .putfield 12, [3, 0, 1, 2071], [], []), (15, 1, .aload_n 0, [0], [], []), (16, 3, .new 18, [8, 1098, 1040, 1004], [], []), (19, 1, .dup, [], [], []), (20, 3, .invokespecial 20, [0, 0, 1099, 1042, 1004, 0], [], [sgX8_init]), (23, 3, .putfield 21, [3, 1, 1, 2073], [], []), (26, 1, .aload_n 0, [0], [], []), (27, 2, .bipush 6, [], [6], []), (29, 3, .putfield 25, [3, 2, 0, 2075], [], []), (32, 1, .aload_n 0, [0], [], []), (33, 3, .new 29, [0, 1100, 1101, 1006], [], []), (36, 1, .dup, [], [], []), (37, 3, .invokespecial 31, [0, 1, 1102, 1103, 1006, 0], [], [sgX0_init]), (40, 3, .putfield 32, [3, 3, 1, 2077], [], []), (43, 1, .aload_n 0, [0], [], []), (44, 1, .iconst 3, [], [3], []), (45, 3, .anewarray 36, [13, 1175, 1176], [], []), (48, 3, .putfield 38, [3, 4, 1, 2078], [], []), (51, 1, .aload_n 0, [0], [], []), (52, 1, .iconst 1, [], [1], []), (53, 3, .putfield 42, [3, 6, 0, 2082], [], []), (56, 1, .aload_n 0, [0], [], []), (57, 1, .iconst 2, [], [2], []), (58, 2, .newarray .int, [], [], []), (60, 3, .putfield 45, [3, 8, 1, 2086], [], []), (63, 1, .aload_n 0, [0], [], []), (64, 2, .bipush 10, [], [10], []), (66, 2, .newarray .int, [], [], []), (68, 3, .putfield 49, [3, 9, 1, 2088], [], []), (71, 1, .aload_n 0, [0], [], []), (72, 1, .iconst (-1), [], [-1], []), (73, 3, .putfield 52, [3, 12, 0, 2093], [], []), (76, 1, .aload_n 0, [0], [], []), (77, 3, .new 55, [9, 1177, 1178, 1008], [], []), (80, 1, .dup, [], [], []), (81, 3, .invokespecial 57, [0, 1, 1179, 1180, 1008, 0], [], [sgX9_init]), (84, 3, .putfield 58, [3, 13, 1, 2094], [], []), (87, 1, .aload_n 0, [0], [], []), (88, 3, .new 62, [2, 1204, 1205, 1009], [], []), (91, 1, .dup, [], [], []), (92, 3, .invokespecial 64, [0, 1, 1206, 1207, 1009, 0], [], [sgX2_init]), (95, 3, .putfield 65, [3, 14, 1, 2096], [], []), (98, 1, .iconst 0, [], [0], []), (99, 1, .istore_n 1, [1], [], [])]
def bkX3_init_100 : List gw_E := [(100, 1, .iload_n 1, [1], [], []), (101, 1, .iconst 3, [], [3], []), (102, 3, .if_icmp .ge 22, [124], [], []), (105, 1, .aload_n 0, [0], [], []), (106, 3, .getfield 38, [3, 4, 1, 2078], [], []), (109, 1, .iload_n 1, [1], [], []), (110, 3, .new 36, [1, 1175, 2029, 1010], [], []), (113, 1, .dup, [], [], []), (114, 3, .invokespecial 69, [0, 1, 2030, 2031, 1010, 0], [], [sgX1_init]), (117, 1, .aastore, [], [], []), (118, 3, .iinc 1 1, [1], [1], []), (121, 3, .goto (-21), [100], [], [])]
def bkX3_init_124 : List gw_E := [(124, 1, .aload_n 0, [0], [], []), (125, 3, .getfield 49, [3, 9, 1, 2088], [], []), (128, 1, .iconst (-1), [], [-1], []), (129, 3, .invokestatic 70, [2, 0, 2070, 1046, 1005, 0], [], [sgJ7_fill_53178]), (132, 1, .return_, [], [], [])]
def bsX3_init : List (Nat × List gw_E) := [(0, bkX3_init_0), (100, bkX3_init_100), (124, bkX3_init_124)]
theorem fdX3_init_0 : gw_find bsX3_init 0 = bkX3_init_0 := rfl
theorem fdX3_init_100 : gw_find bsX3_init 100 = bkX3_init_100 := rfl
theorem fdX3_init_124 : gw_find bsX3_init 124 = bkX3_init_124 := rfl
set_option maxRecDepth 40000 in
theorem stX3_init : gw_sta sgX3_init bsX3_init := ⟨by decide +kernel, gw_mem2 (i := 1031) rfl rfl, gw_all (by decide +kernel)⟩
def bkX3_copyFrom_0 : List gw_E := [(0, 1, .aload_n 0, [0], [], []), (1, 3, .getfield 12, [3, 0, 1, 2071], [], []), (4, 1, .aload_n 1, [1], [], []), (5, 3, .getfield 12, [3, 0, 1, 2071], [], []), (8, 3, .invokevirtual 76, [1, 4, 2214, 2215, 2216, 1003], [], [sgX4_copyFrom]), (11, 1, .aload_n 0, [0], [], []), (12, 3, .getfield 21, [3, 1, 1, 2073], [], []), (15, 1, .aload_n 1, [1], [], []), (16, 3, .getfield 21, [3, 1, 1, 2073], [], []), (19, 3, .invokevirtual 80, [1, 8, 2226, 2219, 2220, 1004], [], [sgX8_copyFrom]), (22, 1, .aload_n 0, [0], [], []), (23, 1, .aload_n 1, [1], [], []), (24, 3, .getfield 25, [3, 2, 0, 2075], [], []), (27, 3, .putfield 25, [3, 2, 0, 2075], [], []), (30, 1, .aload_n 0, [0], [], []), (31, 3, .getfield 32, [3, 3, 1, 2077], [], []), (34, 1, .aload_n 1, [1], [], []), (35, 3, .getfield 32, [3, 3, 1, 2077], [], []), (38, 3, .invokevirtual 83, [1, 0, 2227, 2228, 2229, 1006], [], [sgX0_copyFrom]), (41, 1, .iconst 0, [], [0], []), (42, 1, .istore_n 2, [2], [], [])]
def bkX3_copyFrom_43 : List gw_E := [(43, 1, .iload_n 2, [2], [], []), (44, 1, .iconst 3, [], [3], []), (45, 3, .if_icmp .ge 24, [69], [], []), (48, 1, .aload_n 0, [0], [], []), (49, 3, .getfield 38, [3, 4, 1, 2078], [], []), (52, 1, .iload_n 2, [2], [], []), (53, 1, .aaload, [], [], []), (54, 1, .aload_n 1, [1], [], []), (55, 3, .getfield 38, [3, 4, 1, 2078], [], []), (58, 1, .iload_n 2, [2], [], []), (59, 1, .aaload, [], [], []), (60, 3, .invokevirtual 86, [1, 1, 2237, 2238, 2239, 1010], [], [sgX1_copyFrom]), (63, 3, .iinc 2 1, [2], [1], []), (66, 3, .goto (-23), [43], [], [])]
def bkX3_copyFrom_69 : List gw_E := [(69, 1, .aload_n 0, [0], [], []), (70, 1, .aload_n 1, [1], [], []), (71, 3, .getfield 89, [3, 5, 0, 2080], [], []), (74, 3, .putfield 89, [3, 5, 0, 2080], [], []), (77, 1, .aload_n 0, [0], [], []), (78, 1, .aload_n 1, [1], [], []), (79, 3, .getfield 42, [3, 6, 0, 2082], [], []), (82, 3, .putfield 42, [3, 6, 0, 2082], [], []), (85, 1, .aload_n 0, [0], [], []), (86, 1, .aload_n 1, [1], [], []), (87, 3, .getfield 92, [3, 7, 0, 2084], [], []), (90, 3, .putfield 92, [3, 7, 0, 2084], [], []), (93, 1, .aload_n 1, [1], [], []), (94, 3, .getfield 45, [3, 8, 1, 2086], [], []), (97, 1, .iconst 0, [], [0], []), (98, 1, .aload_n 0, [0], [], []), (99, 3, .getfield 45, [3, 8, 1, 2086], [], []), (102, 1, .iconst 0, [], [0], []), (103, 1, .aload_n 0, [0], [], []), (104, 3, .getfield 45, [3, 8, 1, 2086], [], []), (107, 1, .arraylength, [], [], []), (108, 3, .invokestatic 95, [5, 2, 3003, 2224, 2223, 1014], [], []), (111, 1, .aload_n 1, [1], [], []), (112, 3, .getfield 49, [3, 9, 1, 2088], [], []), (115, 1, .iconst 0, [], [0], []), (116, 1, .aload_n 0, [0], [], []), (117, 3, .getfield 49, [3, 9, 1, 2088], [], []), (120, 1, .iconst 0, [], [0], []), (121, 2, .bipush 10, [], [10], []), (123, 3, .invokestatic 95, [5, 2, 3003, 2224, 2223, 1014], [], []), (126, 1, .aload_n 0, [0], [], []), (127, 1, .aload_n 1, [1], [], []), (128, 3, .getfield 101, [3, 10, 0, 2090], [], []), (131, 3, .putfield 101, [3, 10, 0, 2090], [], []), (134, 1, .aload_n 0, [0], [], []), (135, 1, .aload_n 1, [1], [], []), (136, 3, .getfield 104, [3, 11, 0, 2092], [], []), (139, 3, .putfield 104, [3, 11, 0, 2092], [], []), (142, 1, .aload_n 0, [0], [], []), (143, 1, .aload_n 1, [1], [], []), (144, 3, .getfield 52, [3, 12, 0, 2093], [], []), (147, 3, .putfield 52, [3, 12, 0, 2093], [], []), (150, 1, .aload_n 0, [0], [], []), (151, 3, .getfield 58, [3, 13, 1, 2094], [], []), (154, 1, .aload_n 1, [1], [], []), (155, 3, .getfield 58, [3, 13, 1, 2094], [], []), (158, 3, .invokevirtual 107, [1, 9, 3004, 3005, 3006, 1008], [], [sgX9_copyFrom]), (161, 1, .aload_n 0, [0], [], []), (162, 3, .getfield 65, [3, 14, 1, 2096], [], []), (165, 1, .aload_n 1, [1], [], []), (166, 3, .getfield 65, [3, 14, 1, 2096], [], []), (169, 3, .invokevirtual 110, [1, 2, 3009, 3010, 3011, 1009], [], [sgX2_copyFrom]), (172, 1, .return_, [], [], [])]
def bsX3_copyFrom : List (Nat × List gw_E) := [(0, bkX3_copyFrom_0), (43, bkX3_copyFrom_43), (69, bkX3_copyFrom_69)]
theorem fdX3_copyFrom_0 : gw_find bsX3_copyFrom 0 = bkX3_copyFrom_0 := rfl
theorem fdX3_copyFrom_43 : gw_find bsX3_copyFrom 43 = bkX3_copyFrom_43 := rfl
theorem fdX3_copyFrom_69 : gw_find bsX3_copyFrom 69 = bkX3_copyFrom_69 := rfl
set_option maxRecDepth 40000 in
theorem stX3_copyFrom : gw_sta sgX3_copyFrom bsX3_copyFrom := ⟨by decide +kernel, gw_mem2 (i := 2213) rfl rfl, gw_all (by decide +kernel)⟩
def bkX3_inHand_0 : List gw_E := [(0, 1, .aload_n 0, [0], [], []), (1, 3, .getfield 38, [3, 4, 1, 2078], [], []), (4, 1, .aload_n 0, [0], [], []), (5, 3, .getfield 89, [3, 5, 0, 2080], [], []), (8, 1, .aaload, [], [], []), (9, 1, .areturn, [], [], [])]
def bsX3_inHand : List (Nat × List gw_E) := [(0, bkX3_inHand_0)]
theorem fdX3_inHand_0 : gw_find bsX3_inHand 0 = bkX3_inHand_0 := rfl
set_option maxRecDepth 40000 in
theorem stX3_inHand : gw_sta sgX3_inHand bsX3_inHand := ⟨by decide +kernel, gw_mem2 (i := 3021) rfl rfl, gw_all (by decide +kernel)⟩
def bkX3_guest_0 : List gw_E := [(0, 1, .iload_n 1, [1], [], []), (1, 1, .iconst 1, [], [1], []), (2, 3, .if_icmp .ne 10, [12], [], []), (5, 1, .aload_n 0, [0], [], []), (6, 3, .getfield 32, [3, 3, 1, 2077], [], []), (9, 3, .goto 15, [24], [], [])]
def bkX3_guest_12 : List gw_E := [(12, 1, .aload_n 0, [0], [], []), (13, 3, .getfield 38, [3, 4, 1, 2078], [], []), (16, 1, .aload_n 0, [0], [], []), (17, 3, .getfield 89, [3, 5, 0, 2080], [], []), (20, 1, .aaload, [], [], []), (21, 3, .getfield 113, [1, 0, 1, 2040], [], [])]
def bkX3_guest_24 : List gw_E := [(24, 1, .areturn, [], [], [])]
def bsX3_guest : List (Nat × List gw_E) := [(0, bkX3_guest_0), (12, bkX3_guest_12), (24, bkX3_guest_24)]
theorem fdX3_guest_0 : gw_find bsX3_guest 0 = bkX3_guest_0 := rfl
theorem fdX3_guest_12 : gw_find bsX3_guest 12 = bkX3_guest_12 := rfl
theorem fdX3_guest_24 : gw_find bsX3_guest 24 = bkX3_guest_24 := rfl
set_option maxRecDepth 40000 in
theorem stX3_guest : gw_sta sgX3_guest bsX3_guest := ⟨by decide +kernel, gw_mem2 (i := 4040) rfl rfl, gw_all (by decide +kernel)⟩
def bkX3_table_0 : List gw_E := [(0, 1, .iload_n 1, [1], [], []), (1, 27, .tableswitch 61 0 2 #[27, 40, 53], [62, 28, 41, 54], [0], [])]
def bkX3_table_28 : List gw_E := [(28, 1, .aload_n 0, [0], [], []), (29, 3, .getfield 38, [3, 4, 1, 2078], [], []), (32, 1, .aload_n 0, [0], [], []), (33, 3, .getfield 89, [3, 5, 0, 2080], [], []), (36, 1, .aaload, [], [], []), (37, 3, .getfield 116, [1, 1, 1, 2044], [], []), (40, 1, .areturn, [], [], [])]
def bkX3_table_41 : List gw_E := [(41, 1, .aload_n 0, [0], [], []), (42, 3, .getfield 38, [3, 4, 1, 2078], [], []), (45, 1, .aload_n 0, [0], [], []), (46, 3, .getfield 89, [3, 5, 0, 2080], [], []), (49, 1, .aaload, [], [], []), (50, 3, .getfield 119, [1, 2, 1, 2047], [], []), (53, 1, .areturn, [], [], [])]
def bkX3_table_54 : List gw_E := [(54, 1, .aload_n 0, [0], [], []), (55, 3, .getfield 12, [3, 0, 1, 2071], [], []), (58, 3, .getfield 122, [4, 0, 1, 1071], [], []), (61, 1, .areturn, [], [], [])]
def bkX3_table_62 : List gw_E := [(62, 1, .aload_n 0, [0], [], []), (63, 3, .getfield 21, [3, 1, 1, 2073], [], []), (66, 1, .areturn, [], [], [])]
def bsX3_table : List (Nat × List gw_E) := [(0, bkX3_table_0), (28, bkX3_table_28), (41, bkX3_table_41), (54, bkX3_table_54), (62, bkX3_table_62)]
theorem fdX3_table_0 : gw_find bsX3_table 0 = bkX3_table_0 := rfl
theorem fdX3_table_28 : gw_find bsX3_table 28 = bkX3_table_28 := rfl
theorem fdX3_table_41 : gw_find bsX3_table 41 = bkX3_table_41 := rfl
theorem fdX3_table_54 : gw_find bsX3_table 54 = bkX3_table_54 := rfl
theorem fdX3_table_62 : gw_find bsX3_table 62 = bkX3_table_62 := rfl
set_option maxRecDepth 40000 in
theorem stX3_table : gw_sta sgX3_table bsX3_table := ⟨by decide +kernel, gw_mem2 (i := 3091) rfl rfl, gw_all (by decide +kernel)⟩
def bkX3_figure_0 : List gw_E := [(0, 1, .iload_n 1, [1], [], []), (1, 87, .tableswitch 235 0 17 #[87, 92, 97, 102, 110, 118, 128, 138, 146, 154, 164, 174, 185, 204, 209, 214, 222, 230], [236, 88, 93, 98, 103, 111, 119, 129, 139, 147, 155, 165, 175, 186, 205, 210, 215, 223, 231], [0], [])]
def bkX3_figure_88 : List gw_E := [(88, 1, .aload_n 0, [0], [], []), (89, 3, .getfield 42, [3, 6, 0, 2082], [], []), (92, 1, .ireturn, [0], [], [])]
def bkX3_figure_93 : List gw_E := [(93, 1, .aload_n 0, [0], [], []), (94, 3, .getfield 92, [3, 7, 0, 2084], [], []), (97, 1, .ireturn, [0], [], [])]
def bkX3_figure_98 : List gw_E := [(98, 1, .aload_n 0, [0], [], []), (99, 3, .getfield 25, [3, 2, 0, 2075], [], []), (102, 1, .ireturn, [0], [], [])]
def bkX3_figure_103 : List gw_E := [(103, 1, .aload_n 0, [0], [], []), (104, 3, .getfield 21, [3, 1, 1, 2073], [], []), (107, 3, .invokevirtual 125, [0, 8, 3113, 3114, 3115, 1004], [], [sgX8_size]), (110, 1, .ireturn, [0], [], [])]
def bkX3_figure_111 : List gw_E := [(111, 1, .aload_n 0, [0], [], []), (112, 3, .getfield 12, [3, 0, 1, 2071], [], []), (115, 3, .invokevirtual 129, [0, 4, 5014, 5015, 5016, 1003], [], [sgX4_framesFree]), (118, 1, .ireturn, [0], [], [])]
def bkX3_figure_119 : List gw_E := [(119, 1, .aload_n 0, [0], [], []), (120, 3, .getfield 65, [3, 14, 1, 2096], [], []), (123, 3, .getfield 132, [2, 4, 1, 1215], [], []), (126, 1, .iconst 0, [], [0], []), (127, 1, .iaload, [], [], []), (128, 1, .ireturn, [0], [], [])]
def bkX3_figure_129 : List gw_E := [(129, 1, .aload_n 0, [0], [], []), (130, 3, .getfield 65, [3, 14, 1, 2096], [], []), (133, 3, .getfield 132, [2, 4, 1, 1215], [], []), (136, 1, .iconst 1, [], [1], []), (137, 1, .iaload, [], [], []), (138, 1, .ireturn, [0], [], [])]
def bkX3_figure_139 : List gw_E := [(139, 1, .aload_n 0, [0], [], []), (140, 3, .getfield 65, [3, 14, 1, 2096], [], []), (143, 3, .getfield 135, [2, 9, 0, 1224], [], []), (146, 1, .ireturn, [0], [], [])]
def bkX3_figure_147 : List gw_E := [(147, 1, .aload_n 0, [0], [], []), (148, 3, .getfield 12, [3, 0, 1, 2071], [], []), (151, 3, .getfield 138, [4, 5, 0, 1084], [], []), (154, 1, .ireturn, [0], [], [])]
def bkX3_figure_155 : List gw_E := [(155, 1, .aload_n 0, [0], [], []), (156, 3, .getfield 65, [3, 14, 1, 2096], [], []), (159, 3, .getfield 141, [2, 12, 1, 1232], [], []), (162, 1, .iconst 0, [], [0], []), (163, 1, .iaload, [], [], []), (164, 1, .ireturn, [0], [], [])]
def bkX3_figure_165 : List gw_E := [(165, 1, .aload_n 0, [0], [], []), (166, 3, .getfield 65, [3, 14, 1, 2096], [], []), (169, 3, .getfield 141, [2, 12, 1, 1232], [], []), (172, 1, .iconst 1, [], [1], []), (173, 1, .iaload, [], [], []), (174, 1, .ireturn, [0], [], [])]
def bkX3_figure_175 : List gw_E := [(175, 1, .aload_n 0, [0], [], []), (176, 3, .getfield 32, [3, 3, 1, 2077], [], []), (179, 3, .getfield 144, [0, 0, 1, 1145], [], []), (182, 3, .getfield 148, [7, 4, 0, 1129], [], []), (185, 1, .ireturn, [0], [], [])]
def bkX3_figure_186 : List gw_E := [(186, 1, .aload_n 0, [0], [], []), (187, 3, .getfield 38, [3, 4, 1, 2078], [], []), (190, 1, .aload_n 0, [0], [], []), (191, 3, .getfield 89, [3, 5, 0, 2080], [], []), (194, 1, .aaload, [], [], []), (195, 3, .getfield 113, [1, 0, 1, 2040], [], []), (198, 3, .getfield 144, [0, 0, 1, 1145], [], []), (201, 3, .getfield 148, [7, 4, 0, 1129], [], []), (204, 1, .ireturn, [0], [], [])]
def bkX3_figure_205 : List gw_E := [(205, 1, .aload_n 0, [0], [], []), (206, 3, .getfield 101, [3, 10, 0, 2090], [], []), (209, 1, .ireturn, [0], [], [])]
def bkX3_figure_210 : List gw_E := [(210, 1, .aload_n 0, [0], [], []), (211, 3, .getfield 104, [3, 11, 0, 2092], [], []), (214, 1, .ireturn, [0], [], [])]
def bkX3_figure_215 : List gw_E := [(215, 1, .aload_n 0, [0], [], []), (216, 3, .getfield 65, [3, 14, 1, 2096], [], []), (219, 3, .getfield 153, [2, 5, 0, 1218], [], []), (222, 1, .ireturn, [0], [], [])]
def bkX3_figure_223 : List gw_E := [(223, 1, .aload_n 0, [0], [], []), (224, 3, .getfield 65, [3, 14, 1, 2096], [], []), (227, 3, .getfield 156, [2, 6, 0, 1220], [], []), (230, 1, .ireturn, [0], [], [])]
def bkX3_figure_231 : List gw_E := [(231, 1, .aload_n 0, [0], [], []), (232, 3, .getfield 89, [3, 5, 0, 2080], [], []), (235, 1, .ireturn, [0], [], [])]
def bkX3_figure_236 : List gw_E := [(236, 1, .iconst (-1), [], [-1], []), (237, 1, .ireturn, [0], [], [])]
def bsX3_figure : List (Nat × List gw_E) := [(0, bkX3_figure_0), (88, bkX3_figure_88), (93, bkX3_figure_93), (98, bkX3_figure_98), (103, bkX3_figure_103), (111, bkX3_figure_111), (119, bkX3_figure_119), (129, bkX3_figure_129), (139, bkX3_figure_139), (147, bkX3_figure_147), (155, bkX3_figure_155), (165, bkX3_figure_165), (175, bkX3_figure_175), (186, bkX3_figure_186), (205, bkX3_figure_205), (210, bkX3_figure_210), (215, bkX3_figure_215), (223, bkX3_figure_223), (231, bkX3_figure_231), (236, bkX3_figure_236)]
theorem fdX3_figure_0 : gw_find bsX3_figure 0 = bkX3_figure_0 := rfl
theorem fdX3_figure_88 : gw_find bsX3_figure 88 = bkX3_figure_88 := rfl
theorem fdX3_figure_93 : gw_find bsX3_figure 93 = bkX3_figure_93 := rfl
theorem fdX3_figure_98 : gw_find bsX3_figure 98 = bkX3_figure_98 := rfl
theorem fdX3_figure_103 : gw_find bsX3_figure 103 = bkX3_figure_103 := rfl
theorem fdX3_figure_111 : gw_find bsX3_figure 111 = bkX3_figure_111 := rfl
theorem fdX3_figure_119 : gw_find bsX3_figure 119 = bkX3_figure_119 := rfl
theorem fdX3_figure_129 : gw_find bsX3_figure 129 = bkX3_figure_129 := rfl
theorem fdX3_figure_139 : gw_find bsX3_figure 139 = bkX3_figure_139 := rfl
theorem fdX3_figure_147 : gw_find bsX3_figure 147 = bkX3_figure_147 := rfl
theorem fdX3_figure_155 : gw_find bsX3_figure 155 = bkX3_figure_155 := rfl
theorem fdX3_figure_165 : gw_find bsX3_figure 165 = bkX3_figure_165 := rfl
theorem fdX3_figure_175 : gw_find bsX3_figure 175 = bkX3_figure_175 := rfl
theorem fdX3_figure_186 : gw_find bsX3_figure 186 = bkX3_figure_186 := rfl
theorem fdX3_figure_205 : gw_find bsX3_figure 205 = bkX3_figure_205 := rfl
theorem fdX3_figure_210 : gw_find bsX3_figure 210 = bkX3_figure_210 := rfl
theorem fdX3_figure_215 : gw_find bsX3_figure 215 = bkX3_figure_215 := rfl
theorem fdX3_figure_223 : gw_find bsX3_figure 223 = bkX3_figure_223 := rfl
theorem fdX3_figure_231 : gw_find bsX3_figure 231 = bkX3_figure_231 := rfl
theorem fdX3_figure_236 : gw_find bsX3_figure 236 = bkX3_figure_236 := rfl
set_option maxRecDepth 40000 in
theorem stX3_figure : gw_sta sgX3_figure bsX3_figure := ⟨by decide +kernel, gw_mem2 (i := 5013) rfl rfl, gw_all (by decide +kernel)⟩
def bkX3_mayTell_0 : List gw_E := [(0, 1, .iload_n 1, [1], [], []), (1, 3, .ifCond .ne 11, [12], [], []), (4, 1, .aload_n 0, [0], [], []), (5, 3, .getfield 42, [3, 6, 0, 2082], [], []), (8, 1, .iconst 2, [], [2], []), (9, 3, .if_icmp .eq 21, [30], [], [])]
def bkX3_mayTell_12 : List gw_E := [(12, 1, .iload_n 1, [1], [], []), (13, 1, .iconst 1, [], [1], []), (14, 3, .if_icmp .ne 11, [25], [], []), (17, 1, .aload_n 0, [0], [], []), (18, 3, .getfield 42, [3, 6, 0, 2082], [], []), (21, 1, .iconst 1, [], [1], []), (22, 3, .if_icmp .eq 8, [30], [], [])]
def bkX3_mayTell_25 : List gw_E := [(25, 1, .iload_n 1, [1], [], []), (26, 1, .iconst 2, [], [2], []), (27, 3, .if_icmp .ne 7, [34], [], [])]
def bkX3_mayTell_30 : List gw_E := [(30, 1, .iconst 1, [], [1], []), (31, 3, .goto 4, [35], [], [])]
def bkX3_mayTell_34 : List gw_E := [(34, 1, .iconst 0, [], [0], [])]
def bkX3_mayTell_35 : List gw_E := [(35, 1, .ireturn, [1], [], [])]
def bsX3_mayTell : List (Nat × List gw_E) := [(0, bkX3_mayTell_0), (12, bkX3_mayTell_12), (25, bkX3_mayTell_25), (30, bkX3_mayTell_30), (34, bkX3_mayTell_34), (35, bkX3_mayTell_35)]
theorem fdX3_mayTell_0 : gw_find bsX3_mayTell 0 = bkX3_mayTell_0 := rfl
theorem fdX3_mayTell_12 : gw_find bsX3_mayTell 12 = bkX3_mayTell_12 := rfl
theorem fdX3_mayTell_25 : gw_find bsX3_mayTell 25 = bkX3_mayTell_25 := rfl
theorem fdX3_mayTell_30 : gw_find bsX3_mayTell 30 = bkX3_mayTell_30 := rfl
theorem fdX3_mayTell_34 : gw_find bsX3_mayTell 34 = bkX3_mayTell_34 := rfl
theorem fdX3_mayTell_35 : gw_find bsX3_mayTell 35 = bkX3_mayTell_35 := rfl
set_option maxRecDepth 40000 in
theorem stX3_mayTell : gw_sta sgX3_mayTell bsX3_mayTell := ⟨by decide +kernel, gw_mem2 (i := 2198) rfl rfl, gw_all (by decide +kernel)⟩
def bkX3_tellEntry_0 : List gw_E := [(0, 1, .iload_n 1, [1], [], []), (1, 3, .ifCond .ne 20, [21], [], []), (4, 1, .aload_n 0, [0], [], []), (5, 3, .invokevirtual 159, [0, 3, 3018, 3019, 3020, 1002], [], [sgX3_inHand]), (8, 3, .getfield 116, [1, 1, 1, 2044], [], []), (11, 1, .iload_n 2, [2], [], []), (12, 1, .iload_n 3, [3], [], []), (13, 2, .iload 4, [4], [], []), (15, 3, .invokevirtual 163, [3, 8, 3022, 3023, 3024, 1004], [], [sgX8_put]), (18, 3, .goto 37, [55], [], [])]
def bkX3_tellEntry_21 : List gw_E := [(21, 1, .iload_n 1, [1], [], []), (22, 1, .iconst 1, [], [1], []), (23, 3, .if_icmp .ne 14, [37], [], []), (26, 1, .aload_n 0, [0], [], []), (27, 1, .iload_n 2, [2], [], []), (28, 1, .iload_n 3, [3], [], []), (29, 2, .iload 4, [4], [], []), (31, 3, .invokevirtual 167, [3, 3, 3026, 3028, 0, 1002], [], [sgX3_tellInner]), (34, 3, .goto 21, [55], [], [])]
def bkX3_tellEntry_37 : List gw_E := [(37, 1, .aload_n 0, [0], [], []), (38, 3, .getfield 12, [3, 0, 1, 2071], [], []), (41, 1, .iload_n 2, [2], [], []), (42, 1, .iload_n 3, [3], [], []), (43, 2, .iload 4, [4], [], []), (45, 3, .invokevirtual 170, [3, 4, 3034, 3035, 3036, 1003], [], [sgX4_tell]), (48, 1, .aload_n 0, [0], [], []), (49, 1, .iconst 1, [], [1], []), (50, 1, .iload_n 2, [2], [], []), (51, 1, .ishl, [], [], []), (52, 3, .invokevirtual 173, [1, 3, 3039, 3041, 1, 1002], [], [sgX3_unfold])]
def bkX3_tellEntry_55 : List gw_E := [(55, 1, .return_, [], [], [])]
def bsX3_tellEntry : List (Nat × List gw_E) := [(0, bkX3_tellEntry_0), (21, bkX3_tellEntry_21), (37, bkX3_tellEntry_37), (55, bkX3_tellEntry_55)]
theorem fdX3_tellEntry_0 : gw_find bsX3_tellEntry 0 = bkX3_tellEntry_0 := rfl
theorem fdX3_tellEntry_21 : gw_find bsX3_tellEntry 21 = bkX3_tellEntry_21 := rfl
theorem fdX3_tellEntry_37 : gw_find bsX3_tellEntry 37 = bkX3_tellEntry_37 := rfl
theorem fdX3_tellEntry_55 : gw_find bsX3_tellEntry 55 = bkX3_tellEntry_55 := rfl
set_option maxRecDepth 40000 in
theorem stX3_tellEntry : gw_sta sgX3_tellEntry bsX3_tellEntry := ⟨by decide +kernel, gw_mem2 (i := 3017) rfl rfl, gw_all (by decide +kernel)⟩
def bkX3_dropEntry_0 : List gw_E := [(0, 1, .iload_n 1, [1], [], []), (1, 3, .ifCond .ne 17, [18], [], []), (4, 1, .aload_n 0, [0], [], []), (5, 3, .invokevirtual 159, [0, 3, 3018, 3019, 3020, 1002], [], [sgX3_inHand]), (8, 3, .getfield 116, [1, 1, 1, 2044], [], []), (11, 1, .iload_n 2, [2], [], []), (12, 3, .invokevirtual 177, [1, 8, 3030, 3031, 3032, 1004], [], [sgX8_drop]), (15, 3, .goto 45, [60], [], [])]
def bkX3_dropEntry_18 : List gw_E := [(18, 1, .iload_n 1, [1], [], []), (19, 1, .iconst 1, [], [1], []), (20, 3, .if_icmp .ne 25, [45], [], []), (23, 1, .aload_n 0, [0], [], []), (24, 3, .invokevirtual 159, [0, 3, 3018, 3019, 3020, 1002], [], [sgX3_inHand]), (27, 3, .getfield 119, [1, 2, 1, 2047], [], []), (30, 1, .iload_n 2, [2], [], []), (31, 3, .invokevirtual 177, [1, 8, 3030, 3031, 3032, 1004], [], [sgX8_drop]), (34, 1, .aload_n 0, [0], [], []), (35, 3, .getfield 21, [3, 1, 1, 2073], [], []), (38, 1, .iload_n 2, [2], [], []), (39, 3, .invokevirtual 177, [1, 8, 3030, 3031, 3032, 1004], [], [sgX8_drop]), (42, 3, .goto 18, [60], [], [])]
def bkX3_dropEntry_45 : List gw_E := [(45, 1, .aload_n 0, [0], [], []), (46, 3, .getfield 12, [3, 0, 1, 2071], [], []), (49, 1, .iload_n 2, [2], [], []), (50, 3, .invokevirtual 180, [1, 4, 3100, 3101, 3102, 1003], [], [sgX4_untell]), (53, 1, .aload_n 0, [0], [], []), (54, 1, .iconst 1, [], [1], []), (55, 1, .iload_n 2, [2], [], []), (56, 1, .ishl, [], [], []), (57, 3, .invokevirtual 173, [1, 3, 3039, 3041, 1, 1002], [], [sgX3_unfold])]
def bkX3_dropEntry_60 : List gw_E := [(60, 1, .return_, [], [], [])]
def bsX3_dropEntry : List (Nat × List gw_E) := [(0, bkX3_dropEntry_0), (18, bkX3_dropEntry_18), (45, bkX3_dropEntry_45), (60, bkX3_dropEntry_60)]
theorem fdX3_dropEntry_0 : gw_find bsX3_dropEntry 0 = bkX3_dropEntry_0 := rfl
theorem fdX3_dropEntry_18 : gw_find bsX3_dropEntry 18 = bkX3_dropEntry_18 := rfl
theorem fdX3_dropEntry_45 : gw_find bsX3_dropEntry 45 = bkX3_dropEntry_45 := rfl
theorem fdX3_dropEntry_60 : gw_find bsX3_dropEntry 60 = bkX3_dropEntry_60 := rfl
set_option maxRecDepth 40000 in
theorem stX3_dropEntry : gw_sta sgX3_dropEntry bsX3_dropEntry := ⟨by decide +kernel, gw_mem2 (i := 3099) rfl rfl, gw_all (by decide +kernel)⟩
def bkX3_tellInner_0 : List gw_E := [(0, 1, .aload_n 0, [0], [], []), (1, 3, .invokevirtual 159, [0, 3, 3018, 3019, 3020, 1002], [], [sgX3_inHand]), (4, 3, .getfield 119, [1, 2, 1, 2047], [], []), (7, 1, .iload_n 1, [1], [], []), (8, 1, .iload_n 2, [2], [], []), (9, 1, .iload_n 3, [3], [], []), (10, 3, .invokevirtual 163, [3, 8, 3022, 3023, 3024, 1004], [], [sgX8_put]), (13, 1, .aload_n 0, [0], [], []), (14, 3, .getfield 21, [3, 1, 1, 2073], [], []), (17, 1, .iload_n 1, [1], [], []), (18, 3, .invokevirtual 177, [1, 8, 3030, 3031, 3032, 1004], [], [sgX8_drop]), (21, 1, .return_, [], [], [])]
def bsX3_tellInner : List (Nat × List gw_E) := [(0, bkX3_tellInner_0)]
theorem fdX3_tellInner_0 : gw_find bsX3_tellInner 0 = bkX3_tellInner_0 := rfl
set_option maxRecDepth 40000 in
theorem stX3_tellInner : gw_sta sgX3_tellInner bsX3_tellInner := ⟨by decide +kernel, gw_mem2 (i := 3029) rfl rfl, gw_all (by decide +kernel)⟩
def bkX3_unfold_0 : List gw_E := [(0, 1, .aload_n 0, [0], [], []), (1, 3, .invokevirtual 159, [0, 3, 3018, 3019, 3020, 1002], [], [sgX3_inHand]), (4, 3, .getfield 119, [1, 2, 1, 2047], [], []), (7, 1, .astore_n 2, [2], [], []), (8, 1, .iconst 0, [], [0], []), (9, 1, .istore_n 3, [3], [], [])]
def bkX3_unfold_10 : List gw_E := [(10, 1, .iload_n 3, [3], [], []), (11, 2, .bipush 16, [], [16], []), (13, 3, .if_icmp .ge 40, [53], [], []), (16, 1, .aload_n 2, [2], [], []), (17, 3, .getfield 183, [8, 0, 1, 1051], [], []), (20, 1, .iload_n 3, [3], [], []), (21, 1, .iaload, [], [], []), (22, 1, .iconst (-1), [], [-1], []), (23, 3, .if_icmp .eq 24, [47], [], []), (26, 1, .iload_n 1, [1], [], []), (27, 1, .aload_n 2, [2], [], []), (28, 3, .getfield 183, [8, 0, 1, 1051], [], []), (31, 1, .iload_n 3, [3], [], []), (32, 1, .iaload, [], [], []), (33, 3, .invokestatic 186, [2, 1, 3043, 3044, 1001, 0], [], [sgX10_hasBit]), (36, 3, .ifCond .eq 11, [47], [], []), (39, 1, .aload_n 0, [0], [], []), (40, 3, .getfield 21, [3, 1, 1, 2073], [], []), (43, 1, .iload_n 3, [3], [], []), (44, 3, .invokevirtual 177, [1, 8, 3030, 3031, 3032, 1004], [], [sgX8_drop])]
def bkX3_unfold_47 : List gw_E := [(47, 3, .iinc 3 1, [3], [1], []), (50, 3, .goto (-40), [10], [], [])]
def bkX3_unfold_53 : List gw_E := [(53, 1, .return_, [], [], [])]
def bsX3_unfold : List (Nat × List gw_E) := [(0, bkX3_unfold_0), (10, bkX3_unfold_10), (47, bkX3_unfold_47), (53, bkX3_unfold_53)]
theorem fdX3_unfold_0 : gw_find bsX3_unfold 0 = bkX3_unfold_0 := rfl
theorem fdX3_unfold_10 : gw_find bsX3_unfold 10 = bkX3_unfold_10 := rfl
theorem fdX3_unfold_47 : gw_find bsX3_unfold 47 = bkX3_unfold_47 := rfl
theorem fdX3_unfold_53 : gw_find bsX3_unfold 53 = bkX3_unfold_53 := rfl
set_option maxRecDepth 40000 in
theorem stX3_unfold : gw_sta sgX3_unfold bsX3_unfold := ⟨by decide +kernel, gw_mem2 (i := 3042) rfl rfl, gw_all (by decide +kernel)⟩
def bkX3_makeRoom_0 : List gw_E := [(0, 1, .aload_n 0, [0], [], []), (1, 1, .iload_n 1, [1], [], []), (2, 3, .putfield 25, [3, 2, 0, 2075], [], []), (5, 1, .aload_n 0, [0], [], []), (6, 3, .getfield 21, [3, 1, 1, 2073], [], []), (9, 3, .invokevirtual 125, [0, 8, 3113, 3114, 3115, 1004], [], [sgX8_size]), (12, 1, .aload_n 0, [0], [], []), (13, 3, .getfield 25, [3, 2, 0, 2075], [], []), (16, 1, .isub, [], [], []), (17, 1, .istore_n 2, [2], [], [])]
def bkX3_makeRoom_18 : List gw_E := [(18, 1, .iload_n 2, [2], [], []), (19, 3, .ifCond .le 16, [35], [], []), (22, 1, .aload_n 0, [0], [], []), (23, 3, .getfield 21, [3, 1, 1, 2073], [], []), (26, 3, .invokevirtual 190, [0, 8, 3117, 3118, 3119, 1004], [], [sgX8_dropEldest]), (29, 3, .iinc 2 (-1), [2], [-1], []), (32, 3, .goto (-14), [18], [], [])]
def bkX3_makeRoom_35 : List gw_E := [(35, 1, .return_, [], [], [])]
def bsX3_makeRoom : List (Nat × List gw_E) := [(0, bkX3_makeRoom_0), (18, bkX3_makeRoom_18), (35, bkX3_makeRoom_35)]
theorem fdX3_makeRoom_0 : gw_find bsX3_makeRoom 0 = bkX3_makeRoom_0 := rfl
theorem fdX3_makeRoom_18 : gw_find bsX3_makeRoom 18 = bkX3_makeRoom_18 := rfl
theorem fdX3_makeRoom_35 : gw_find bsX3_makeRoom 35 = bkX3_makeRoom_35 := rfl
set_option maxRecDepth 40000 in
theorem stX3_makeRoom : gw_sta sgX3_makeRoom bsX3_makeRoom := ⟨by decide +kernel, gw_mem2 (i := 3112) rfl rfl, gw_all (by decide +kernel)⟩
def bkX3_rightsOfBoth_0 : List gw_E := [(0, 1, .aload_n 0, [0], [], []), (1, 3, .invokevirtual 159, [0, 3, 3018, 3019, 3020, 1002], [], [sgX3_inHand]), (4, 3, .getfield 119, [1, 2, 1, 2047], [], []), (7, 1, .astore_n 2, [2], [], []), (8, 1, .aload_n 2, [2], [], []), (9, 1, .iload_n 1, [1], [], []), (10, 3, .invokevirtual 193, [1, 8, 3138, 3093, 3094, 1004], [], [sgX8_has]), (13, 3, .ifCond .ne 5, [18], [], []), (16, 1, .iconst 0, [], [0], []), (17, 1, .ireturn, [0], [], [])]
def bkX3_rightsOfBoth_18 : List gw_E := [(18, 1, .aload_n 2, [2], [], []), (19, 3, .getfield 197, [8, 1, 1, 1055], [], []), (22, 1, .iload_n 1, [1], [], []), (23, 1, .iaload, [], [], []), (24, 1, .aload_n 0, [0], [], []), (25, 3, .getfield 12, [3, 0, 1, 2071], [], []), (28, 1, .aload_n 2, [2], [], []), (29, 3, .getfield 183, [8, 0, 1, 1051], [], []), (32, 1, .iload_n 1, [1], [], []), (33, 1, .iaload, [], [], []), (34, 3, .invokevirtual 200, [1, 4, 3143, 3144, 3145, 1003], [], [sgX4_rightsGiven]), (37, 1, .iand, [], [], []), (38, 1, .ireturn, [0], [], [])]
def bsX3_rightsOfBoth : List (Nat × List gw_E) := [(0, bkX3_rightsOfBoth_0), (18, bkX3_rightsOfBoth_18)]
theorem fdX3_rightsOfBoth_0 : gw_find bsX3_rightsOfBoth 0 = bkX3_rightsOfBoth_0 := rfl
theorem fdX3_rightsOfBoth_18 : gw_find bsX3_rightsOfBoth 18 = bkX3_rightsOfBoth_18 := rfl
set_option maxRecDepth 40000 in
theorem stX3_rightsOfBoth : gw_sta sgX3_rightsOfBoth bsX3_rightsOfBoth := ⟨by decide +kernel, gw_mem2 (i := 3142) rfl rfl, gw_all (by decide +kernel)⟩
def bkX3_lazyPages_0 : List gw_E := [(0, 1, .iconst 0, [], [0], []), (1, 1, .istore_n 1, [1], [], []), (2, 1, .iconst 0, [], [0], []), (3, 1, .istore_n 2, [2], [], [])]
def bkX3_lazyPages_4 : List gw_E := [(4, 1, .iload_n 2, [2], [], []), (5, 2, .bipush 16, [], [16], []), (7, 3, .if_icmp .ge 34, [41], [], []), (10, 1, .aload_n 0, [0], [], []), (11, 3, .getfield 21, [3, 1, 1, 2073], [], []), (14, 1, .iload_n 2, [2], [], []), (15, 3, .invokevirtual 193, [1, 8, 3138, 3093, 3094, 1004], [], [sgX8_has]), (18, 3, .ifCond .ne 17, [35], [], []), (21, 1, .aload_n 0, [0], [], []), (22, 1, .iload_n 2, [2], [], []), (23, 3, .invokevirtual 204, [1, 3, 3139, 3141, 4, 1002], [], [sgX3_rightsOfBoth]), (26, 3, .ifCond .eq 9, [35], [], []), (29, 1, .iload_n 1, [1], [], []), (30, 1, .iconst 1, [], [1], []), (31, 1, .iload_n 2, [2], [], []), (32, 1, .ishl, [], [], []), (33, 1, .ior, [], [], []), (34, 1, .istore_n 1, [1], [], [])]
def bkX3_lazyPages_35 : List gw_E := [(35, 3, .iinc 2 1, [2], [1], []), (38, 3, .goto (-34), [4], [], [])]
def bkX3_lazyPages_41 : List gw_E := [(41, 1, .iload_n 1, [1], [], []), (42, 1, .ireturn, [0], [], [])]
def bsX3_lazyPages : List (Nat × List gw_E) := [(0, bkX3_lazyPages_0), (4, bkX3_lazyPages_4), (35, bkX3_lazyPages_35), (41, bkX3_lazyPages_41)]
theorem fdX3_lazyPages_0 : gw_find bsX3_lazyPages 0 = bkX3_lazyPages_0 := rfl
theorem fdX3_lazyPages_4 : gw_find bsX3_lazyPages 4 = bkX3_lazyPages_4 := rfl
theorem fdX3_lazyPages_35 : gw_find bsX3_lazyPages 35 = bkX3_lazyPages_35 := rfl
theorem fdX3_lazyPages_41 : gw_find bsX3_lazyPages 41 = bkX3_lazyPages_41 := rfl
set_option maxRecDepth 40000 in
theorem stX3_lazyPages : gw_sta sgX3_lazyPages bsX3_lazyPages := ⟨by decide +kernel, gw_mem2 (i := 3137) rfl rfl, gw_all (by decide +kernel)⟩
def bkX3_foldLazyPages_0 : List gw_E := [(0, 1, .aload_n 0, [0], [], []), (1, 3, .invokevirtual 207, [0, 3, 3134, 3135, 3136, 1002], [], [sgX3_lazyPages]), (4, 1, .istore_n 1, [1], [], []), (5, 1, .aload_n 0, [0], [], []), (6, 3, .getfield 25, [3, 2, 0, 2075], [], []), (9, 1, .aload_n 0, [0], [], []), (10, 3, .getfield 21, [3, 1, 1, 2073], [], []), (13, 3, .invokevirtual 125, [0, 8, 3113, 3114, 3115, 1004], [], [sgX8_size]), (16, 1, .isub, [], [], []), (17, 1, .istore_n 2, [2], [], []), (18, 1, .iconst 0, [], [0], []), (19, 1, .istore_n 3, [3], [], []), (20, 1, .iconst 0, [], [0], []), (21, 2, .istore 4, [4], [], [])]
def bkX3_foldLazyPages_23 : List gw_E := [(23, 2, .iload 4, [4], [], []), (25, 2, .bipush 16, [], [16], []), (27, 3, .if_icmp .ge 32, [59], [], []), (30, 1, .iload_n 3, [3], [], []), (31, 1, .iload_n 2, [2], [], []), (32, 3, .if_icmp .ge 27, [59], [], []), (35, 1, .iload_n 1, [1], [], []), (36, 2, .iload 4, [4], [], []), (38, 3, .invokestatic 186, [2, 1, 3043, 3044, 1001, 0], [], [sgX10_hasBit]), (41, 3, .ifCond .eq 12, [53], [], []), (44, 1, .aload_n 0, [0], [], []), (45, 2, .iload 4, [4], [], []), (47, 3, .invokevirtual 210, [1, 3, 3147, 3149, 5, 1002], [], [sgX3_fold]), (50, 3, .iinc 3 1, [3], [1], [])]
def bkX3_foldLazyPages_53 : List gw_E := [(53, 3, .iinc 4 1, [4], [1], []), (56, 3, .goto (-33), [23], [], [])]
def bkX3_foldLazyPages_59 : List gw_E := [(59, 1, .iload_n 3, [3], [], []), (60, 1, .ireturn, [0], [], [])]
def bsX3_foldLazyPages : List (Nat × List gw_E) := [(0, bkX3_foldLazyPages_0), (23, bkX3_foldLazyPages_23), (53, bkX3_foldLazyPages_53), (59, bkX3_foldLazyPages_59)]
theorem fdX3_foldLazyPages_0 : gw_find bsX3_foldLazyPages 0 = bkX3_foldLazyPages_0 := rfl
theorem fdX3_foldLazyPages_23 : gw_find bsX3_foldLazyPages 23 = bkX3_foldLazyPages_23 := rfl
theorem fdX3_foldLazyPages_53 : gw_find bsX3_foldLazyPages 53 = bkX3_foldLazyPages_53 := rfl
theorem fdX3_foldLazyPages_59 : gw_find bsX3_foldLazyPages 59 = bkX3_foldLazyPages_59 := rfl
set_option maxRecDepth 40000 in
theorem stX3_foldLazyPages : gw_sta sgX3_foldLazyPages bsX3_foldLazyPages := ⟨by decide +kernel, gw_mem2 (i := 3133) rfl rfl, gw_all (by decide +kernel)⟩
def bkX3_fold_0 : List gw_E := [(0, 1, .aload_n 0, [0], [], []), (1, 3, .invokevirtual 159, [0, 3, 3018, 3019, 3020, 1002], [], [sgX3_inHand]), (4, 3, .getfield 119, [1, 2, 1, 2047], [], []), (7, 1, .astore_n 2, [2], [], []), (8, 1, .aload_n 2, [2], [], []), (9, 3, .getfield 183, [8, 0, 1, 1051], [], []), (12, 1, .iload_n 1, [1], [], []), (13, 1, .iaload, [], [], []), (14, 1, .istore_n 3, [3], [], []), (15, 1, .aload_n 2, [2], [], []), (16, 3, .getfield 197, [8, 1, 1, 1055], [], []), (19, 1, .iload_n 1, [1], [], []), (20, 1, .iaload, [], [], []), (21, 1, .aload_n 0, [0], [], []), (22, 3, .getfield 12, [3, 0, 1, 2071], [], []), (25, 1, .iload_n 3, [3], [], []), (26, 3, .invokevirtual 200, [1, 4, 3143, 3144, 3145, 1003], [], [sgX4_rightsGiven]), (29, 1, .iand, [], [], []), (30, 2, .istore 4, [4], [], []), (32, 1, .aload_n 0, [0], [], []), (33, 3, .getfield 21, [3, 1, 1, 2073], [], []), (36, 1, .iload_n 1, [1], [], []), (37, 1, .aload_n 0, [0], [], []), (38, 3, .getfield 12, [3, 0, 1, 2071], [], []), (41, 3, .getfield 122, [4, 0, 1, 1071], [], []), (44, 3, .getfield 183, [8, 0, 1, 1051], [], []), (47, 1, .iload_n 3, [3], [], []), (48, 1, .iaload, [], [], []), (49, 2, .iload 4, [4], [], []), (51, 3, .invokevirtual 163, [3, 8, 3022, 3023, 3024, 1004], [], [sgX8_put]), (54, 1, .return_, [], [], [])]
def bsX3_fold : List (Nat × List gw_E) := [(0, bkX3_fold_0)]
theorem fdX3_fold_0 : gw_find bsX3_fold 0 = bkX3_fold_0 := rfl
set_option maxRecDepth 40000 in
theorem stX3_fold : gw_sta sgX3_fold bsX3_fold := ⟨by decide +kernel, gw_mem2 (i := 3150) rfl rfl, gw_all (by decide +kernel)⟩
def bkX3_joinFrames_0 : List gw_E := [(0, 1, .iconst 0, [], [0], []), (1, 1, .istore_n 1, [1], [], []), (2, 1, .iconst 0, [], [0], []), (3, 1, .istore_n 2, [2], [], [])]
def bkX3_joinFrames_4 : List gw_E := [(4, 1, .iload_n 2, [2], [], []), (5, 2, .bipush 10, [], [10], []), (7, 3, .if_icmp .ge 53, [60], [], []), (10, 1, .iload_n 2, [2], [], []), (11, 1, .iconst 1, [], [1], []), (12, 1, .iadd, [], [], []), (13, 1, .istore_n 3, [3], [], [])]
def bkX3_joinFrames_14 : List gw_E := [(14, 1, .iload_n 3, [3], [], []), (15, 2, .bipush 10, [], [10], []), (17, 3, .if_icmp .ge 37, [54], [], []), (20, 1, .aload_n 0, [0], [], []), (21, 3, .getfield 12, [3, 0, 1, 2071], [], []), (24, 1, .iload_n 2, [2], [], []), (25, 1, .iload_n 3, [3], [], []), (26, 3, .invokevirtual 213, [2, 4, 3159, 3160, 3161, 1003], [], [sgX4_areLike]), (29, 3, .ifCond .eq 19, [48], [], []), (32, 1, .aload_n 0, [0], [], []), (33, 1, .aload_n 0, [0], [], []), (34, 3, .getfield 12, [3, 0, 1, 2071], [], []), (37, 1, .iload_n 2, [2], [], []), (38, 1, .iload_n 3, [3], [], []), (39, 3, .invokevirtual 216, [2, 4, 3168, 3169, 3170, 1003], [], [sgX4_merge]), (42, 3, .invokevirtual 173, [1, 3, 3039, 3041, 1, 1002], [], [sgX3_unfold]), (45, 3, .iinc 1 1, [1], [1], [])]
def bkX3_joinFrames_48 : List gw_E := [(48, 3, .iinc 3 1, [3], [1], []), (51, 3, .goto (-37), [14], [], [])]
def bkX3_joinFrames_54 : List gw_E := [(54, 3, .iinc 2 1, [2], [1], []), (57, 3, .goto (-53), [4], [], [])]
def bkX3_joinFrames_60 : List gw_E := [(60, 1, .iload_n 1, [1], [], []), (61, 1, .ireturn, [0], [], [])]
def bsX3_joinFrames : List (Nat × List gw_E) := [(0, bkX3_joinFrames_0), (4, bkX3_joinFrames_4), (14, bkX3_joinFrames_14), (48, bkX3_joinFrames_48), (54, bkX3_joinFrames_54), (60, bkX3_joinFrames_60)]
theorem fdX3_joinFrames_0 : gw_find bsX3_joinFrames 0 = bkX3_joinFrames_0 := rfl
theorem fdX3_joinFrames_4 : gw_find bsX3_joinFrames 4 = bkX3_joinFrames_4 := rfl
theorem fdX3_joinFrames_14 : gw_find bsX3_joinFrames 14 = bkX3_joinFrames_14 := rfl
theorem fdX3_joinFrames_48 : gw_find bsX3_joinFrames 48 = bkX3_joinFrames_48 := rfl
theorem fdX3_joinFrames_54 : gw_find bsX3_joinFrames 54 = bkX3_joinFrames_54 := rfl
theorem fdX3_joinFrames_60 : gw_find bsX3_joinFrames 60 = bkX3_joinFrames_60 := rfl
set_option maxRecDepth 40000 in
theorem stX3_joinFrames : gw_sta sgX3_joinFrames bsX3_joinFrames := ⟨by decide +kernel, gw_mem2 (i := 3158) rfl rfl, gw_all (by decide +kernel)⟩
def bkX3_hostSees_0 : List gw_E := [(0, 1, .aload_n 0, [0], [], []), (1, 3, .getfield 65, [3, 14, 1, 2096], [], []), (4, 1, .iconst 0, [], [0], []), (5, 1, .iload_n 1, [1], [], []), (6, 1, .iload_n 2, [2], [], []), (7, 1, .aload_n 0, [0], [], []), (8, 3, .getfield 92, [3, 7, 0, 2084], [], []), (11, 3, .invokevirtual 220, [4, 2, 3061, 3062, 3063, 1009], [], [sgX2_writeExit]), (14, 1, .return_, [], [], [])]
def bsX3_hostSees : List (Nat × List gw_E) := [(0, bkX3_hostSees_0)]
theorem fdX3_hostSees_0 : gw_find bsX3_hostSees 0 = bkX3_hostSees_0 := rfl
set_option maxRecDepth 40000 in
theorem stX3_hostSees : gw_sta sgX3_hostSees bsX3_hostSees := ⟨by decide +kernel, gw_mem2 (i := 3208) rfl rfl, gw_all (by decide +kernel)⟩
def bkX3_dealToOuter_0 : List gw_E := [(0, 1, .aload_n 0, [0], [], []), (1, 3, .getfield 65, [3, 14, 1, 2096], [], []), (4, 1, .iconst 1, [], [1], []), (5, 1, .iload_n 1, [1], [], []), (6, 1, .iload_n 2, [2], [], []), (7, 1, .aload_n 0, [0], [], []), (8, 3, .getfield 92, [3, 7, 0, 2084], [], []), (11, 3, .invokevirtual 220, [4, 2, 3061, 3062, 3063, 1009], [], [sgX2_writeExit]), (14, 1, .aload_n 0, [0], [], []), (15, 1, .iconst 1, [], [1], []), (16, 3, .putfield 42, [3, 6, 0, 2082], [], []), (19, 1, .aload_n 0, [0], [], []), (20, 3, .getfield 32, [3, 3, 1, 2077], [], []), (23, 3, .getfield 144, [0, 0, 1, 1145], [], []), (26, 1, .aload_n 0, [0], [], []), (27, 3, .getfield 49, [3, 9, 1, 2088], [], []), (30, 1, .iload_n 1, [1], [], []), (31, 1, .iaload, [], [], []), (32, 3, .invokevirtual 224, [1, 7, 3065, 3066, 3067, 1007], [], [sgX7_goTo]), (35, 1, .return_, [], [], [])]
def bsX3_dealToOuter : List (Nat × List gw_E) := [(0, bkX3_dealToOuter_0)]
theorem fdX3_dealToOuter_0 : gw_find bsX3_dealToOuter 0 = bkX3_dealToOuter_0 := rfl
set_option maxRecDepth 40000 in
theorem stX3_dealToOuter : gw_sta sgX3_dealToOuter bsX3_dealToOuter := ⟨by decide +kernel, gw_mem2 (i := 3060) rfl rfl, gw_all (by decide +kernel)⟩
def bkX3_touchByInner_0 : List gw_E := [(0, 1, .aload_n 0, [0], [], []), (1, 3, .invokevirtual 159, [0, 3, 3018, 3019, 3020, 1002], [], [sgX3_inHand]), (4, 2, .astore 4, [4], [], []), (6, 2, .aload 4, [4], [], []), (8, 3, .getfield 116, [1, 1, 1, 2044], [], []), (11, 1, .iload_n 1, [1], [], []), (12, 1, .iload_n 2, [2], [], []), (13, 3, .invokevirtual 227, [2, 8, 3192, 3193, 3194, 1004], [], [sgX8_gives]), (16, 3, .ifCond .ne 34, [50], [], []), (19, 1, .aload_n 0, [0], [], []), (20, 1, .iconst 0, [], [0], []), (21, 3, .invokevirtual 230, [1, 3, 3197, 3198, 3199, 1002], [], [sgX3_eventOfInner]), (24, 1, .iconst 2, [], [2], []), (25, 3, .if_icmp .ne 22, [47], [], []), (28, 2, .aload 4, [4], [], []), (30, 1, .iload_n 1, [1], [], []), (31, 3, .putfield 233, [1, 4, 0, 2053], [], []), (34, 1, .aload_n 0, [0], [], []), (35, 3, .getfield 65, [3, 14, 1, 2096], [], []), (38, 1, .dup, [], [], []), (39, 3, .getfield 135, [2, 9, 0, 1224], [], []), (42, 1, .iconst 1, [], [1], []), (43, 1, .iadd, [], [], []), (44, 3, .putfield 135, [2, 9, 0, 1224], [], [])]
def bkX3_touchByInner_47 : List gw_E := [(47, 2, .bipush (-2), [], [-2], []), (49, 1, .ireturn, [0], [], [])]
def bkX3_touchByInner_50 : List gw_E := [(50, 2, .aload 4, [4], [], []), (52, 3, .getfield 116, [1, 1, 1, 2044], [], []), (55, 3, .getfield 183, [8, 0, 1, 1051], [], []), (58, 1, .iload_n 1, [1], [], []), (59, 1, .iaload, [], [], []), (60, 2, .istore 5, [5], [], []), (62, 1, .aload_n 0, [0], [], []), (63, 3, .getfield 21, [3, 1, 1, 2073], [], []), (66, 2, .iload 5, [5], [], []), (68, 1, .iload_n 2, [2], [], []), (69, 3, .invokevirtual 227, [2, 8, 3192, 3193, 3194, 1004], [], [sgX8_gives]), (72, 3, .ifCond .ne 20, [92], [], []), (75, 1, .aload_n 0, [0], [], []), (76, 2, .iload 5, [5], [], []), (78, 1, .iload_n 2, [2], [], []), (79, 3, .invokevirtual 236, [2, 3, 3209, 3211, 7, 1002], [], [sgX3_foldOnTouch]), (82, 2, .istore 6, [6], [], []), (84, 2, .iload 6, [6], [], []), (86, 3, .ifCond .eq 6, [92], [], []), (89, 2, .iload 6, [6], [], []), (91, 1, .ireturn, [0], [], [])]
def bkX3_touchByInner_92 : List gw_E := [(92, 1, .aload_n 0, [0], [], []), (93, 3, .getfield 12, [3, 0, 1, 2071], [], []), (96, 1, .aload_n 0, [0], [], []), (97, 3, .getfield 21, [3, 1, 1, 2073], [], []), (100, 3, .getfield 183, [8, 0, 1, 1051], [], []), (103, 2, .iload 5, [5], [], []), (105, 1, .iaload, [], [], []), (106, 1, .iload_n 2, [2], [], []), (107, 1, .iload_n 3, [3], [], []), (108, 3, .invokevirtual 239, [3, 4, 3238, 3239, 4000, 1003], [], [sgX4_touchFrame]), (111, 2, .istore 6, [6], [], []), (113, 1, .iload_n 2, [2], [], []), (114, 1, .iconst 1, [], [1], []), (115, 3, .if_icmp .eq 12, [127], [], []), (118, 1, .aload_n 0, [0], [], []), (119, 3, .getfield 65, [3, 14, 1, 2096], [], []), (122, 2, .iload 6, [6], [], []), (124, 3, .invokevirtual 243, [1, 2, 4002, 4003, 4004, 1009], [], [sgX2_hear])]
def bkX3_touchByInner_127 : List gw_E := [(127, 2, .iload 6, [6], [], []), (129, 1, .ireturn, [0], [], [])]
def bsX3_touchByInner : List (Nat × List gw_E) := [(0, bkX3_touchByInner_0), (47, bkX3_touchByInner_47), (50, bkX3_touchByInner_50), (92, bkX3_touchByInner_92), (127, bkX3_touchByInner_127)]
theorem fdX3_touchByInner_0 : gw_find bsX3_touchByInner 0 = bkX3_touchByInner_0 := rfl
theorem fdX3_touchByInner_47 : gw_find bsX3_touchByInner 47 = bkX3_touchByInner_47 := rfl
theorem fdX3_touchByInner_50 : gw_find bsX3_touchByInner 50 = bkX3_touchByInner_50 := rfl
theorem fdX3_touchByInner_92 : gw_find bsX3_touchByInner 92 = bkX3_touchByInner_92 := rfl
theorem fdX3_touchByInner_127 : gw_find bsX3_touchByInner 127 = bkX3_touchByInner_127 := rfl
set_option maxRecDepth 40000 in
theorem stX3_touchByInner : gw_sta sgX3_touchByInner bsX3_touchByInner := ⟨by decide +kernel, gw_mem2 (i := 3191) rfl rfl, gw_all (by decide +kernel)⟩
def bkX3_foldOnTouch_0 : List gw_E := [(0, 1, .aload_n 0, [0], [], []), (1, 3, .invokevirtual 159, [0, 3, 3018, 3019, 3020, 1002], [], [sgX3_inHand]), (4, 3, .getfield 119, [1, 2, 1, 2047], [], []), (7, 1, .astore_n 3, [3], [], []), (8, 1, .iconst 4, [], [4], []), (9, 1, .iload_n 1, [1], [], []), (10, 1, .imul, [], [], []), (11, 1, .iload_n 2, [2], [], []), (12, 1, .iadd, [], [], []), (13, 2, .istore 4, [4], [], []), (15, 1, .aload_n 3, [3], [], []), (16, 1, .iload_n 1, [1], [], []), (17, 1, .iload_n 2, [2], [], []), (18, 3, .invokevirtual 227, [2, 8, 3192, 3193, 3194, 1004], [], [sgX8_gives]), (21, 3, .ifCond .ne 18, [39], [], []), (24, 1, .aload_n 0, [0], [], []), (25, 1, .iload_n 1, [1], [], []), (26, 3, .putfield 52, [3, 12, 0, 2093], [], []), (29, 1, .aload_n 0, [0], [], []), (30, 1, .iconst 1, [], [1], []), (31, 2, .iload 4, [4], [], []), (33, 3, .invokevirtual 246, [2, 3, 3057, 3059, 2, 1002], [], [sgX3_dealToOuter]), (36, 2, .bipush (-3), [], [-3], []), (38, 1, .ireturn, [0], [], [])]
def bkX3_foldOnTouch_39 : List gw_E := [(39, 1, .aload_n 0, [0], [], []), (40, 1, .iconst 2, [], [2], []), (41, 2, .iload 4, [4], [], []), (43, 3, .invokevirtual 250, [2, 3, 3205, 3207, 6, 1002], [], [sgX3_hostSees]), (46, 1, .aload_n 3, [3], [], []), (47, 3, .getfield 183, [8, 0, 1, 1051], [], []), (50, 1, .iload_n 1, [1], [], []), (51, 1, .iaload, [], [], []), (52, 2, .istore 5, [5], [], []), (54, 1, .iload_n 2, [2], [], []), (55, 1, .iconst 1, [], [1], []), (56, 3, .if_icmp .ne 32, [88], [], []), (59, 1, .aload_n 0, [0], [], []), (60, 3, .getfield 12, [3, 0, 1, 2071], [], []), (63, 2, .iload 5, [5], [], []), (65, 3, .invokevirtual 253, [1, 4, 3213, 3214, 3215, 1003], [], [sgX4_partsOnWrite]), (68, 3, .ifCond .eq 20, [88], [], []), (71, 1, .aload_n 0, [0], [], []), (72, 3, .getfield 12, [3, 0, 1, 2071], [], []), (75, 2, .iload 5, [5], [], []), (77, 3, .invokevirtual 256, [1, 4, 3217, 3218, 3219, 1003], [], [sgX4_part]), (80, 1, .aload_n 0, [0], [], []), (81, 1, .iconst 1, [], [1], []), (82, 2, .iload 5, [5], [], []), (84, 1, .ishl, [], [], []), (85, 3, .invokevirtual 173, [1, 3, 3039, 3041, 1, 1002], [], [sgX3_unfold])]
def bkX3_foldOnTouch_88 : List gw_E := [(88, 1, .aload_n 0, [0], [], []), (89, 3, .getfield 12, [3, 0, 1, 2071], [], []), (92, 3, .getfield 122, [4, 0, 1, 1071], [], []), (95, 2, .iload 5, [5], [], []), (97, 3, .invokevirtual 193, [1, 8, 3138, 3093, 3094, 1004], [], [sgX8_has]), (100, 3, .ifCond .ne 16, [116], [], []), (103, 1, .aload_n 0, [0], [], []), (104, 1, .aload_n 0, [0], [], []), (105, 3, .getfield 12, [3, 0, 1, 2071], [], []), (108, 2, .iload 5, [5], [], []), (110, 3, .invokevirtual 259, [1, 4, 3229, 3230, 3231, 1003], [], [sgX4_give]), (113, 3, .invokevirtual 173, [1, 3, 3039, 3041, 1, 1002], [], [sgX3_unfold])]
def bkX3_foldOnTouch_116 : List gw_E := [(116, 1, .aload_n 0, [0], [], []), (117, 3, .getfield 12, [3, 0, 1, 2071], [], []), (120, 3, .getfield 122, [4, 0, 1, 1071], [], []), (123, 2, .iload 5, [5], [], []), (125, 1, .iload_n 2, [2], [], []), (126, 3, .invokevirtual 227, [2, 8, 3192, 3193, 3194, 1004], [], [sgX8_gives]), (129, 3, .ifCond .ne 6, [135], [], []), (132, 2, .bipush (-4), [], [-4], []), (134, 1, .ireturn, [0], [], [])]
def bkX3_foldOnTouch_135 : List gw_E := [(135, 1, .aload_n 0, [0], [], []), (136, 3, .getfield 21, [3, 1, 1, 2073], [], []), (139, 1, .iload_n 1, [1], [], []), (140, 3, .invokevirtual 177, [1, 8, 3030, 3031, 3032, 1004], [], [sgX8_drop]), (143, 1, .aload_n 0, [0], [], []), (144, 3, .getfield 21, [3, 1, 1, 2073], [], []), (147, 3, .invokevirtual 125, [0, 8, 3113, 3114, 3115, 1004], [], [sgX8_size]), (150, 1, .aload_n 0, [0], [], []), (151, 3, .getfield 25, [3, 2, 0, 2075], [], []), (154, 3, .if_icmp .lt 10, [164], [], []), (157, 1, .aload_n 0, [0], [], []), (158, 3, .getfield 21, [3, 1, 1, 2073], [], []), (161, 3, .invokevirtual 190, [0, 8, 3117, 3118, 3119, 1004], [], [sgX8_dropEldest])]
def bkX3_foldOnTouch_164 : List gw_E := [(164, 1, .aload_n 0, [0], [], []), (165, 1, .iload_n 1, [1], [], []), (166, 3, .invokevirtual 210, [1, 3, 3147, 3149, 5, 1002], [], [sgX3_fold]), (169, 1, .iconst 0, [], [0], []), (170, 1, .ireturn, [0], [], [])]
def bsX3_foldOnTouch : List (Nat × List gw_E) := [(0, bkX3_foldOnTouch_0), (39, bkX3_foldOnTouch_39), (88, bkX3_foldOnTouch_88), (116, bkX3_foldOnTouch_116), (135, bkX3_foldOnTouch_135), (164, bkX3_foldOnTouch_164)]
theorem fdX3_foldOnTouch_0 : gw_find bsX3_foldOnTouch 0 = bkX3_foldOnTouch_0 := rfl
theorem fdX3_foldOnTouch_39 : gw_find bsX3_foldOnTouch 39 = bkX3_foldOnTouch_39 := rfl
theorem fdX3_foldOnTouch_88 : gw_find bsX3_foldOnTouch 88 = bkX3_foldOnTouch_88 := rfl
theorem fdX3_foldOnTouch_116 : gw_find bsX3_foldOnTouch 116 = bkX3_foldOnTouch_116 := rfl
theorem fdX3_foldOnTouch_135 : gw_find bsX3_foldOnTouch 135 = bkX3_foldOnTouch_135 := rfl
theorem fdX3_foldOnTouch_164 : gw_find bsX3_foldOnTouch 164 = bkX3_foldOnTouch_164 := rfl
set_option maxRecDepth 40000 in
theorem stX3_foldOnTouch : gw_sta sgX3_foldOnTouch bsX3_foldOnTouch := ⟨by decide +kernel, gw_mem2 (i := 3212) rfl rfl, gw_all (by decide +kernel)⟩
def bkX3_touchByOuter_0 : List gw_E := [(0, 2, .bipush 64, [], [64], []), (2, 1, .iconst 4, [], [4], []), (3, 1, .iload_n 1, [1], [], []), (4, 1, .imul, [], [], []), (5, 1, .iadd, [], [], []), (6, 1, .iload_n 2, [2], [], []), (7, 1, .iadd, [], [], []), (8, 2, .istore 4, [4], [], []), (10, 1, .aload_n 0, [0], [], []), (11, 3, .getfield 12, [3, 0, 1, 2071], [], []), (14, 3, .getfield 122, [4, 0, 1, 1071], [], []), (17, 1, .iload_n 1, [1], [], []), (18, 3, .invokevirtual 193, [1, 8, 3138, 3093, 3094, 1004], [], [sgX8_has]), (21, 3, .ifCond .ne 13, [34], [], []), (24, 1, .aload_n 0, [0], [], []), (25, 1, .iconst 2, [], [2], []), (26, 2, .iload 4, [4], [], []), (28, 3, .invokevirtual 250, [2, 3, 3205, 3207, 6, 1002], [], [sgX3_hostSees]), (31, 3, .goto 70, [101], [], [])]
def bkX3_touchByOuter_34 : List gw_E := [(34, 1, .iload_n 2, [2], [], []), (35, 1, .iconst 1, [], [1], []), (36, 3, .if_icmp .ne 40, [76], [], []), (39, 1, .aload_n 0, [0], [], []), (40, 3, .getfield 12, [3, 0, 1, 2071], [], []), (43, 1, .iload_n 1, [1], [], []), (44, 3, .invokevirtual 253, [1, 4, 3213, 3214, 3215, 1003], [], [sgX4_partsOnWrite]), (47, 3, .ifCond .eq 29, [76], [], []), (50, 1, .aload_n 0, [0], [], []), (51, 2, .bipush 9, [], [9], []), (53, 2, .iload 4, [4], [], []), (55, 3, .invokevirtual 250, [2, 3, 3205, 3207, 6, 1002], [], [sgX3_hostSees]), (58, 1, .aload_n 0, [0], [], []), (59, 3, .getfield 12, [3, 0, 1, 2071], [], []), (62, 1, .iload_n 1, [1], [], []), (63, 3, .invokevirtual 256, [1, 4, 3217, 3218, 3219, 1003], [], [sgX4_part]), (66, 1, .aload_n 0, [0], [], []), (67, 1, .iconst 1, [], [1], []), (68, 1, .iload_n 1, [1], [], []), (69, 1, .ishl, [], [], []), (70, 3, .invokevirtual 173, [1, 3, 3039, 3041, 1, 1002], [], [sgX3_unfold]), (73, 3, .goto 28, [101], [], [])]
def bkX3_touchByOuter_76 : List gw_E := [(76, 1, .aload_n 0, [0], [], []), (77, 3, .getfield 12, [3, 0, 1, 2071], [], []), (80, 3, .getfield 122, [4, 0, 1, 1071], [], []), (83, 1, .iload_n 1, [1], [], []), (84, 1, .iload_n 2, [2], [], []), (85, 3, .invokevirtual 227, [2, 8, 3192, 3193, 3194, 1004], [], [sgX8_gives]), (88, 3, .ifCond .ne 13, [101], [], []), (91, 1, .aload_n 0, [0], [], []), (92, 1, .iconst 3, [], [3], []), (93, 2, .iload 4, [4], [], []), (95, 3, .invokevirtual 250, [2, 3, 3205, 3207, 6, 1002], [], [sgX3_hostSees]), (98, 2, .bipush (-4), [], [-4], []), (100, 1, .ireturn, [0], [], [])]
def bkX3_touchByOuter_101 : List gw_E := [(101, 1, .aload_n 0, [0], [], []), (102, 3, .getfield 12, [3, 0, 1, 2071], [], []), (105, 3, .getfield 122, [4, 0, 1, 1071], [], []), (108, 1, .iload_n 1, [1], [], []), (109, 3, .invokevirtual 193, [1, 8, 3138, 3093, 3094, 1004], [], [sgX8_has]), (112, 3, .ifCond .ne 15, [127], [], []), (115, 1, .aload_n 0, [0], [], []), (116, 1, .aload_n 0, [0], [], []), (117, 3, .getfield 12, [3, 0, 1, 2071], [], []), (120, 1, .iload_n 1, [1], [], []), (121, 3, .invokevirtual 259, [1, 4, 3229, 3230, 3231, 1003], [], [sgX4_give]), (124, 3, .invokevirtual 173, [1, 3, 3039, 3041, 1, 1002], [], [sgX3_unfold])]
def bkX3_touchByOuter_127 : List gw_E := [(127, 1, .aload_n 0, [0], [], []), (128, 3, .getfield 12, [3, 0, 1, 2071], [], []), (131, 1, .aload_n 0, [0], [], []), (132, 3, .getfield 12, [3, 0, 1, 2071], [], []), (135, 3, .getfield 122, [4, 0, 1, 1071], [], []), (138, 3, .getfield 183, [8, 0, 1, 1051], [], []), (141, 1, .iload_n 1, [1], [], []), (142, 1, .iaload, [], [], []), (143, 1, .iload_n 2, [2], [], []), (144, 1, .iload_n 3, [3], [], []), (145, 3, .invokevirtual 239, [3, 4, 3238, 3239, 4000, 1003], [], [sgX4_touchFrame]), (148, 1, .ireturn, [0], [], [])]
def bsX3_touchByOuter : List (Nat × List gw_E) := [(0, bkX3_touchByOuter_0), (34, bkX3_touchByOuter_34), (76, bkX3_touchByOuter_76), (101, bkX3_touchByOuter_101), (127, bkX3_touchByOuter_127)]
theorem fdX3_touchByOuter_0 : gw_find bsX3_touchByOuter 0 = bkX3_touchByOuter_0 := rfl
theorem fdX3_touchByOuter_34 : gw_find bsX3_touchByOuter 34 = bkX3_touchByOuter_34 := rfl
theorem fdX3_touchByOuter_76 : gw_find bsX3_touchByOuter 76 = bkX3_touchByOuter_76 := rfl
theorem fdX3_touchByOuter_101 : gw_find bsX3_touchByOuter 101 = bkX3_touchByOuter_101 := rfl
theorem fdX3_touchByOuter_127 : gw_find bsX3_touchByOuter 127 = bkX3_touchByOuter_127 := rfl
set_option maxRecDepth 40000 in
theorem stX3_touchByOuter : gw_sta sgX3_touchByOuter bsX3_touchByOuter := ⟨by decide +kernel, gw_mem2 (i := 4009) rfl rfl, gw_all (by decide +kernel)⟩
def bkX3_seerOfInner_0 : List gw_E := [(0, 1, .aload_n 0, [0], [], []), (1, 3, .getfield 45, [3, 8, 1, 2086], [], []), (4, 1, .iconst 1, [], [1], []), (5, 1, .iaload, [], [], []), (6, 1, .iload_n 1, [1], [], []), (7, 3, .invokestatic 186, [2, 1, 3043, 3044, 1001, 0], [], [sgX10_hasBit]), (10, 3, .ifCond .eq 5, [15], [], []), (13, 1, .iconst 1, [], [1], []), (14, 1, .ireturn, [0], [], [])]
def bkX3_seerOfInner_15 : List gw_E := [(15, 1, .aload_n 0, [0], [], []), (16, 3, .getfield 45, [3, 8, 1, 2086], [], []), (19, 1, .iconst 0, [], [0], []), (20, 1, .iaload, [], [], []), (21, 1, .iload_n 1, [1], [], []), (22, 3, .invokestatic 186, [2, 1, 3043, 3044, 1001, 0], [], [sgX10_hasBit]), (25, 3, .ifCond .eq 7, [32], [], []), (28, 1, .iconst 0, [], [0], []), (29, 3, .goto 4, [33], [], [])]
def bkX3_seerOfInner_32 : List gw_E := [(32, 1, .iconst 2, [], [2], [])]
def bkX3_seerOfInner_33 : List gw_E := [(33, 1, .ireturn, [0], [], [])]
def bsX3_seerOfInner : List (Nat × List gw_E) := [(0, bkX3_seerOfInner_0), (15, bkX3_seerOfInner_15), (32, bkX3_seerOfInner_32), (33, bkX3_seerOfInner_33)]
theorem fdX3_seerOfInner_0 : gw_find bsX3_seerOfInner 0 = bkX3_seerOfInner_0 := rfl
theorem fdX3_seerOfInner_15 : gw_find bsX3_seerOfInner 15 = bkX3_seerOfInner_15 := rfl
theorem fdX3_seerOfInner_32 : gw_find bsX3_seerOfInner 32 = bkX3_seerOfInner_32 := rfl
theorem fdX3_seerOfInner_33 : gw_find bsX3_seerOfInner 33 = bkX3_seerOfInner_33 := rfl
set_option maxRecDepth 40000 in
theorem stX3_seerOfInner : gw_sta sgX3_seerOfInner bsX3_seerOfInner := ⟨by decide +kernel, gw_mem2 (i := 3204) rfl rfl, gw_all (by decide +kernel)⟩
def bkX3_eventOfInner_0 : List gw_E := [(0, 1, .aload_n 0, [0], [], []), (1, 1, .iload_n 1, [1], [], []), (2, 3, .invokevirtual 262, [1, 3, 3201, 3202, 3203, 1002], [], [sgX3_seerOfInner]), (5, 1, .istore_n 2, [2], [], []), (6, 1, .aload_n 0, [0], [], []), (7, 3, .getfield 65, [3, 14, 1, 2096], [], []), (10, 3, .getfield 265, [2, 10, 1, 1226], [], []), (13, 1, .iconst 3, [], [3], []), (14, 1, .iload_n 1, [1], [], []), (15, 1, .imul, [], [], []), (16, 1, .iload_n 2, [2], [], []), (17, 1, .iadd, [], [], []), (18, 1, .dup2, [], [], []), (19, 1, .iaload, [], [], []), (20, 1, .iconst 1, [], [1], []), (21, 1, .iadd, [], [], []), (22, 1, .iastore, [], [], []), (23, 1, .iload_n 2, [2], [], []), (24, 1, .iconst 1, [], [1], []), (25, 3, .if_icmp .ne 12, [37], [], []), (28, 1, .aload_n 0, [0], [], []), (29, 1, .iconst 4, [], [4], []), (30, 1, .iload_n 1, [1], [], []), (31, 3, .invokevirtual 246, [2, 3, 3057, 3059, 2, 1002], [], [sgX3_dealToOuter]), (34, 3, .goto 13, [47], [], [])]
def bkX3_eventOfInner_37 : List gw_E := [(37, 1, .iload_n 2, [2], [], []), (38, 3, .ifCond .ne 9, [47], [], []), (41, 1, .aload_n 0, [0], [], []), (42, 1, .iconst 4, [], [4], []), (43, 1, .iload_n 1, [1], [], []), (44, 3, .invokevirtual 250, [2, 3, 3205, 3207, 6, 1002], [], [sgX3_hostSees])]
def bkX3_eventOfInner_47 : List gw_E := [(47, 1, .iload_n 2, [2], [], []), (48, 1, .ireturn, [0], [], [])]
def bsX3_eventOfInner : List (Nat × List gw_E) := [(0, bkX3_eventOfInner_0), (37, bkX3_eventOfInner_37), (47, bkX3_eventOfInner_47)]
theorem fdX3_eventOfInner_0 : gw_find bsX3_eventOfInner 0 = bkX3_eventOfInner_0 := rfl
theorem fdX3_eventOfInner_37 : gw_find bsX3_eventOfInner 37 = bkX3_eventOfInner_37 := rfl
theorem fdX3_eventOfInner_47 : gw_find bsX3_eventOfInner 47 = bkX3_eventOfInner_47 := rfl
set_option maxRecDepth 40000 in
theorem stX3_eventOfInner : gw_sta sgX3_eventOfInner bsX3_eventOfInner := ⟨by decide +kernel, gw_mem2 (i := 3200) rfl rfl, gw_all (by decide +kernel)⟩
def bkX3_eventOfOuter_0 : List gw_E := [(0, 1, .aload_n 0, [0], [], []), (1, 3, .getfield 45, [3, 8, 1, 2086], [], []), (4, 1, .iconst 0, [], [0], []), (5, 1, .iaload, [], [], []), (6, 1, .iload_n 1, [1], [], []), (7, 3, .invokestatic 186, [2, 1, 3043, 3044, 1001, 0], [], [sgX10_hasBit]), (10, 3, .ifCond .eq 7, [17], [], []), (13, 1, .iconst 0, [], [0], []), (14, 3, .goto 4, [18], [], [])]
def bkX3_eventOfOuter_17 : List gw_E := [(17, 1, .iconst 2, [], [2], [])]
def bkX3_eventOfOuter_18 : List gw_E := [(18, 1, .istore_n 2, [2], [], []), (19, 1, .aload_n 0, [0], [], []), (20, 3, .getfield 65, [3, 14, 1, 2096], [], []), (23, 3, .getfield 265, [2, 10, 1, 1226], [], []), (26, 1, .iconst 3, [], [3], []), (27, 1, .iload_n 1, [1], [], []), (28, 1, .imul, [], [], []), (29, 1, .iload_n 2, [2], [], []), (30, 1, .iadd, [], [], []), (31, 1, .dup2, [], [], []), (32, 1, .iaload, [], [], []), (33, 1, .iconst 1, [], [1], []), (34, 1, .iadd, [], [], []), (35, 1, .iastore, [], [], []), (36, 1, .iload_n 2, [2], [], []), (37, 3, .ifCond .ne 9, [46], [], []), (40, 1, .aload_n 0, [0], [], []), (41, 1, .iconst 5, [], [5], []), (42, 1, .iload_n 1, [1], [], []), (43, 3, .invokevirtual 250, [2, 3, 3205, 3207, 6, 1002], [], [sgX3_hostSees])]
def bkX3_eventOfOuter_46 : List gw_E := [(46, 1, .iload_n 2, [2], [], []), (47, 1, .ireturn, [0], [], [])]
def bsX3_eventOfOuter : List (Nat × List gw_E) := [(0, bkX3_eventOfOuter_0), (17, bkX3_eventOfOuter_17), (18, bkX3_eventOfOuter_18), (46, bkX3_eventOfOuter_46)]
theorem fdX3_eventOfOuter_0 : gw_find bsX3_eventOfOuter 0 = bkX3_eventOfOuter_0 := rfl
theorem fdX3_eventOfOuter_17 : gw_find bsX3_eventOfOuter 17 = bkX3_eventOfOuter_17 := rfl
theorem fdX3_eventOfOuter_18 : gw_find bsX3_eventOfOuter 18 = bkX3_eventOfOuter_18 := rfl
theorem fdX3_eventOfOuter_46 : gw_find bsX3_eventOfOuter 46 = bkX3_eventOfOuter_46 := rfl
set_option maxRecDepth 40000 in
theorem stX3_eventOfOuter : gw_sta sgX3_eventOfOuter bsX3_eventOfOuter := ⟨by decide +kernel, gw_mem2 (i := 4021) rfl rfl, gw_all (by decide +kernel)⟩
def bkX3_enterInner_0 : List gw_E := [(0, 1, .aload_n 0, [0], [], []), (1, 1, .iconst 2, [], [2], []), (2, 3, .putfield 42, [3, 6, 0, 2082], [], []), (5, 1, .aload_n 0, [0], [], []), (6, 1, .aload_n 0, [0], [], []), (7, 3, .getfield 101, [3, 10, 0, 2090], [], []), (10, 3, .putfield 104, [3, 11, 0, 2092], [], []), (13, 1, .return_, [], [], [])]
def bsX3_enterInner : List (Nat × List gw_E) := [(0, bkX3_enterInner_0)]
theorem fdX3_enterInner_0 : gw_find bsX3_enterInner 0 = bkX3_enterInner_0 := rfl
set_option maxRecDepth 40000 in
theorem stX3_enterInner : gw_sta sgX3_enterInner bsX3_enterInner := ⟨by decide +kernel, gw_mem2 (i := 4029) rfl rfl, gw_all (by decide +kernel)⟩
def bkX3_switchTo_0 : List gw_E := [(0, 1, .aload_n 0, [0], [], []), (1, 1, .iload_n 1, [1], [], []), (2, 3, .putfield 89, [3, 5, 0, 2080], [], []), (5, 1, .aload_n 0, [0], [], []), (6, 3, .getfield 21, [3, 1, 1, 2073], [], []), (9, 3, .invokevirtual 268, [0, 8, 4077, 4078, 4079, 1004], [], [sgX8_dropAll]), (12, 1, .aload_n 0, [0], [], []), (13, 1, .iconst (-1), [], [-1], []), (14, 3, .putfield 52, [3, 12, 0, 2093], [], []), (17, 1, .return_, [], [], [])]
def bsX3_switchTo : List (Nat × List gw_E) := [(0, bkX3_switchTo_0)]
theorem fdX3_switchTo_0 : gw_find bsX3_switchTo 0 = bkX3_switchTo_0 := rfl
set_option maxRecDepth 40000 in
theorem stX3_switchTo : gw_sta sgX3_switchTo bsX3_switchTo := ⟨by decide +kernel, gw_mem2 (i := 4076) rfl rfl, gw_all (by decide +kernel)⟩
def bkX3_dealOut_0 : List gw_E := [(0, 1, .aload_n 0, [0], [], []), (1, 3, .getfield 32, [3, 3, 1, 2077], [], []), (4, 3, .invokevirtual 271, [0, 0, 3050, 3051, 3052, 1006], [], [sgX0_ready]), (7, 1, .istore_n 1, [1], [], []), (8, 1, .iload_n 1, [1], [], []), (9, 1, .iconst (-1), [], [-1], []), (10, 3, .if_icmp .eq 39, [49], [], []), (13, 1, .aload_n 0, [0], [], []), (14, 3, .getfield 42, [3, 6, 0, 2082], [], []), (17, 1, .iconst 2, [], [2], []), (18, 3, .if_icmp .ne 10, [28], [], []), (21, 1, .aload_n 0, [0], [], []), (22, 2, .bipush 6, [], [6], []), (24, 1, .iload_n 1, [1], [], []), (25, 3, .invokevirtual 246, [2, 3, 3057, 3059, 2, 1002], [], [sgX3_dealToOuter])]
def bkX3_dealOut_28 : List gw_E := [(28, 1, .aload_n 0, [0], [], []), (29, 3, .getfield 65, [3, 14, 1, 2096], [], []), (32, 1, .iconst 1, [], [1], []), (33, 1, .iload_n 1, [1], [], []), (34, 1, .aload_n 0, [0], [], []), (35, 3, .getfield 32, [3, 3, 1, 2077], [], []), (38, 1, .iload_n 1, [1], [], []), (39, 1, .aload_n 0, [0], [], []), (40, 3, .getfield 92, [3, 7, 0, 2084], [], []), (43, 3, .invokevirtual 274, [2, 0, 3069, 3070, 3071, 1006], [], [sgX0_take]), (46, 3, .invokevirtual 277, [3, 2, 3073, 3074, 3075, 1009], [], [sgX2_noteTake])]
def bkX3_dealOut_49 : List gw_E := [(49, 1, .aload_n 0, [0], [], []), (50, 3, .getfield 42, [3, 6, 0, 2082], [], []), (53, 1, .iconst 2, [], [2], []), (54, 3, .if_icmp .ne 7, [61], [], []), (57, 1, .aload_n 0, [0], [], []), (58, 3, .invokevirtual 280, [0, 3, 3080, 3082, 3, 1002], [], [sgX3_dealOutToInner])]
def bkX3_dealOut_61 : List gw_E := [(61, 1, .return_, [], [], [])]
def bsX3_dealOut : List (Nat × List gw_E) := [(0, bkX3_dealOut_0), (28, bkX3_dealOut_28), (49, bkX3_dealOut_49), (61, bkX3_dealOut_61)]
theorem fdX3_dealOut_0 : gw_find bsX3_dealOut 0 = bkX3_dealOut_0 := rfl
theorem fdX3_dealOut_28 : gw_find bsX3_dealOut 28 = bkX3_dealOut_28 := rfl
theorem fdX3_dealOut_49 : gw_find bsX3_dealOut 49 = bkX3_dealOut_49 := rfl
theorem fdX3_dealOut_61 : gw_find bsX3_dealOut 61 = bkX3_dealOut_61 := rfl
set_option maxRecDepth 40000 in
theorem stX3_dealOut : gw_sta sgX3_dealOut bsX3_dealOut := ⟨by decide +kernel, gw_mem2 (i := 3049) rfl rfl, gw_all (by decide +kernel)⟩
def bkX3_dealOutToInner_0 : List gw_E := [(0, 1, .aload_n 0, [0], [], []), (1, 3, .invokevirtual 159, [0, 3, 3018, 3019, 3020, 1002], [], [sgX3_inHand]), (4, 3, .getfield 113, [1, 0, 1, 2040], [], []), (7, 1, .astore_n 1, [1], [], []), (8, 1, .aload_n 1, [1], [], []), (9, 3, .invokevirtual 271, [0, 0, 3050, 3051, 3052, 1006], [], [sgX0_ready]), (12, 1, .istore_n 2, [2], [], []), (13, 1, .iload_n 2, [2], [], []), (14, 1, .iconst (-1), [], [-1], []), (15, 3, .if_icmp .eq 21, [36], [], []), (18, 1, .aload_n 0, [0], [], []), (19, 3, .getfield 65, [3, 14, 1, 2096], [], []), (22, 1, .iconst 2, [], [2], []), (23, 1, .iload_n 2, [2], [], []), (24, 1, .aload_n 1, [1], [], []), (25, 1, .iload_n 2, [2], [], []), (26, 1, .aload_n 0, [0], [], []), (27, 3, .getfield 92, [3, 7, 0, 2084], [], []), (30, 3, .invokevirtual 274, [2, 0, 3069, 3070, 3071, 1006], [], [sgX0_take]), (33, 3, .invokevirtual 277, [3, 2, 3073, 3074, 3075, 1009], [], [sgX2_noteTake])]
def bkX3_dealOutToInner_36 : List gw_E := [(36, 1, .return_, [], [], [])]
def bsX3_dealOutToInner : List (Nat × List gw_E) := [(0, bkX3_dealOutToInner_0), (36, bkX3_dealOutToInner_36)]
theorem fdX3_dealOutToInner_0 : gw_find bsX3_dealOutToInner 0 = bkX3_dealOutToInner_0 := rfl
theorem fdX3_dealOutToInner_36 : gw_find bsX3_dealOutToInner 36 = bkX3_dealOutToInner_36 := rfl
set_option maxRecDepth 40000 in
theorem stX3_dealOutToInner : gw_sta sgX3_dealOutToInner bsX3_dealOutToInner := ⟨by decide +kernel, gw_mem2 (i := 3083) rfl rfl, gw_all (by decide +kernel)⟩
def bkX3_clockAt_0 : List gw_E := [(0, 1, .iload_n 1, [1], [], []), (1, 3, .ifCond .ne 5, [6], [], []), (4, 1, .iload_n 2, [2], [], []), (5, 1, .ireturn, [0], [], [])]
def bkX3_clockAt_6 : List gw_E := [(6, 1, .aload_n 0, [0], [], []), (7, 3, .getfield 32, [3, 3, 1, 2077], [], []), (10, 1, .iload_n 2, [2], [], []), (11, 3, .invokevirtual 283, [1, 0, 4145, 4146, 4147, 1006], [], [sgX0_clockUpon]), (14, 1, .istore_n 3, [3], [], []), (15, 1, .iload_n 1, [1], [], []), (16, 1, .iconst 1, [], [1], []), (17, 3, .if_icmp .ne 7, [24], [], []), (20, 1, .iload_n 3, [3], [], []), (21, 3, .goto 14, [35], [], [])]
def bkX3_clockAt_24 : List gw_E := [(24, 1, .aload_n 0, [0], [], []), (25, 3, .invokevirtual 159, [0, 3, 3018, 3019, 3020, 1002], [], [sgX3_inHand]), (28, 3, .getfield 113, [1, 0, 1, 2040], [], []), (31, 1, .iload_n 3, [3], [], []), (32, 3, .invokevirtual 283, [1, 0, 4145, 4146, 4147, 1006], [], [sgX0_clockUpon])]
def bkX3_clockAt_35 : List gw_E := [(35, 1, .ireturn, [0], [], [])]
def bsX3_clockAt : List (Nat × List gw_E) := [(0, bkX3_clockAt_0), (6, bkX3_clockAt_6), (24, bkX3_clockAt_24), (35, bkX3_clockAt_35)]
theorem fdX3_clockAt_0 : gw_find bsX3_clockAt 0 = bkX3_clockAt_0 := rfl
theorem fdX3_clockAt_6 : gw_find bsX3_clockAt 6 = bkX3_clockAt_6 := rfl
theorem fdX3_clockAt_24 : gw_find bsX3_clockAt 24 = bkX3_clockAt_24 := rfl
theorem fdX3_clockAt_35 : gw_find bsX3_clockAt 35 = bkX3_clockAt_35 := rfl
set_option maxRecDepth 40000 in
theorem stX3_clockAt : gw_sta sgX3_clockAt bsX3_clockAt := ⟨by decide +kernel, gw_mem2 (i := 4144) rfl rfl, gw_all (by decide +kernel)⟩
def bkX3_dueTime_0 : List gw_E := [(0, 1, .aload_n 0, [0], [], []), (1, 3, .getfield 58, [3, 13, 1, 2094], [], []), (4, 3, .getfield 286, [9, 0, 1, 1184], [], []), (7, 1, .iload_n 1, [1], [], []), (8, 1, .iaload, [], [], []), (9, 1, .istore_n 2, [2], [], []), (10, 1, .aload_n 0, [0], [], []), (11, 3, .getfield 58, [3, 13, 1, 2094], [], []), (14, 3, .getfield 288, [9, 1, 1, 1187], [], []), (17, 1, .iload_n 1, [1], [], []), (18, 1, .iaload, [], [], []), (19, 1, .istore_n 3, [3], [], []), (20, 1, .aload_n 0, [0], [], []), (21, 3, .getfield 92, [3, 7, 0, 2084], [], []), (24, 1, .iconst 1, [], [1], []), (25, 1, .iadd, [], [], []), (26, 2, .istore 4, [4], [], []), (28, 3, .ldc_w 291, [5204], [99999], []), (31, 2, .istore 5, [5], [], []), (33, 2, .iload 4, [4], [], []), (35, 2, .iload 5, [5], [], []), (37, 3, .if_icmp .gt 14, [51], [], []), (40, 1, .aload_n 0, [0], [], []), (41, 1, .iload_n 2, [2], [], []), (42, 2, .iload 5, [5], [], []), (44, 3, .invokevirtual 292, [2, 3, 4141, 4142, 4143, 1002], [], [sgX3_clockAt]), (47, 1, .iload_n 3, [3], [], []), (48, 3, .if_icmp .ge 5, [53], [], [])]
def bkX3_dueTime_51 : List gw_E := [(51, 1, .iconst (-1), [], [-1], []), (52, 1, .ireturn, [0], [], [])]
def bkX3_dueTime_53 : List gw_E := [(53, 1, .iconst 0, [], [0], []), (54, 2, .istore 6, [6], [], [])]
def bkX3_dueTime_56 : List gw_E := [(56, 2, .iload 6, [6], [], []), (58, 2, .bipush 32, [], [32], []), (60, 3, .if_icmp .ge 49, [109], [], []), (63, 2, .iload 4, [4], [], []), (65, 2, .iload 5, [5], [], []), (67, 3, .if_icmp .ge 42, [109], [], []), (70, 2, .iload 4, [4], [], []), (72, 2, .iload 5, [5], [], []), (74, 1, .iadd, [], [], []), (75, 1, .iconst 2, [], [2], []), (76, 1, .idiv, [], [], []), (77, 2, .istore 7, [7], [], []), (79, 1, .aload_n 0, [0], [], []), (80, 1, .iload_n 2, [2], [], []), (81, 2, .iload 7, [7], [], []), (83, 3, .invokevirtual 292, [2, 3, 4141, 4142, 4143, 1002], [], [sgX3_clockAt]), (86, 1, .iload_n 3, [3], [], []), (87, 3, .if_icmp .lt 10, [97], [], []), (90, 2, .iload 7, [7], [], []), (92, 2, .istore 5, [5], [], []), (94, 3, .goto 9, [103], [], [])]
def bkX3_dueTime_97 : List gw_E := [(97, 2, .iload 7, [7], [], []), (99, 1, .iconst 1, [], [1], []), (100, 1, .iadd, [], [], []), (101, 2, .istore 4, [4], [], [])]
def bkX3_dueTime_103 : List gw_E := [(103, 3, .iinc 6 1, [6], [1], []), (106, 3, .goto (-50), [56], [], [])]
def bkX3_dueTime_109 : List gw_E := [(109, 2, .iload 4, [4], [], []), (111, 1, .ireturn, [0], [], [])]
def bsX3_dueTime : List (Nat × List gw_E) := [(0, bkX3_dueTime_0), (51, bkX3_dueTime_51), (53, bkX3_dueTime_53), (56, bkX3_dueTime_56), (97, bkX3_dueTime_97), (103, bkX3_dueTime_103), (109, bkX3_dueTime_109)]
theorem fdX3_dueTime_0 : gw_find bsX3_dueTime 0 = bkX3_dueTime_0 := rfl
theorem fdX3_dueTime_51 : gw_find bsX3_dueTime 51 = bkX3_dueTime_51 := rfl
theorem fdX3_dueTime_53 : gw_find bsX3_dueTime 53 = bkX3_dueTime_53 := rfl
theorem fdX3_dueTime_56 : gw_find bsX3_dueTime 56 = bkX3_dueTime_56 := rfl
theorem fdX3_dueTime_97 : gw_find bsX3_dueTime 97 = bkX3_dueTime_97 := rfl
theorem fdX3_dueTime_103 : gw_find bsX3_dueTime 103 = bkX3_dueTime_103 := rfl
theorem fdX3_dueTime_109 : gw_find bsX3_dueTime 109 = bkX3_dueTime_109 := rfl
set_option maxRecDepth 40000 in
theorem stX3_dueTime : gw_sta sgX3_dueTime bsX3_dueTime := ⟨by decide +kernel, gw_mem2 (i := 5203) rfl rfl, gw_all (by decide +kernel)⟩
def bkX3_firstDue_0 : List gw_E := [(0, 1, .iconst (-1), [], [-1], []), (1, 1, .istore_n 1, [1], [], []), (2, 1, .iconst (-1), [], [-1], []), (3, 1, .istore_n 2, [2], [], []), (4, 1, .iconst 0, [], [0], []), (5, 1, .istore_n 3, [3], [], [])]
def bkX3_firstDue_6 : List gw_E := [(6, 1, .iload_n 3, [3], [], []), (7, 1, .aload_n 0, [0], [], []), (8, 3, .getfield 58, [3, 13, 1, 2094], [], []), (11, 3, .getfield 295, [9, 3, 0, 1194], [], []), (14, 3, .if_icmp .ge 59, [73], [], []), (17, 1, .aload_n 0, [0], [], []), (18, 1, .iload_n 3, [3], [], []), (19, 3, .invokevirtual 297, [1, 3, 5213, 5201, 5202, 1002], [], [sgX3_dueTime]), (22, 2, .istore 4, [4], [], []), (24, 2, .iload 4, [4], [], []), (26, 1, .iconst (-1), [], [-1], []), (27, 3, .if_icmp .ne 6, [33], [], []), (30, 3, .goto 37, [67], [], [])]
def bkX3_firstDue_33 : List gw_E := [(33, 1, .iload_n 1, [1], [], []), (34, 1, .iconst (-1), [], [-1], []), (35, 3, .if_icmp .eq 27, [62], [], []), (38, 2, .iload 4, [4], [], []), (40, 1, .iload_n 2, [2], [], []), (41, 3, .if_icmp .lt 21, [62], [], []), (44, 2, .iload 4, [4], [], []), (46, 1, .iload_n 2, [2], [], []), (47, 3, .if_icmp .ne 20, [67], [], []), (50, 1, .aload_n 0, [0], [], []), (51, 3, .getfield 58, [3, 13, 1, 2094], [], []), (54, 1, .iload_n 3, [3], [], []), (55, 1, .iload_n 1, [1], [], []), (56, 3, .invokevirtual 300, [2, 9, 4152, 4153, 4154, 1008], [], [sgX9_isAhead]), (59, 3, .ifCond .eq 8, [67], [], [])]
def bkX3_firstDue_62 : List gw_E := [(62, 1, .iload_n 3, [3], [], []), (63, 1, .istore_n 1, [1], [], []), (64, 2, .iload 4, [4], [], []), (66, 1, .istore_n 2, [2], [], [])]
def bkX3_firstDue_67 : List gw_E := [(67, 3, .iinc 3 1, [3], [1], []), (70, 3, .goto (-64), [6], [], [])]
def bkX3_firstDue_73 : List gw_E := [(73, 1, .iload_n 1, [1], [], []), (74, 1, .ireturn, [0], [], [])]
def bsX3_firstDue : List (Nat × List gw_E) := [(0, bkX3_firstDue_0), (6, bkX3_firstDue_6), (33, bkX3_firstDue_33), (62, bkX3_firstDue_62), (67, bkX3_firstDue_67), (73, bkX3_firstDue_73)]
theorem fdX3_firstDue_0 : gw_find bsX3_firstDue 0 = bkX3_firstDue_0 := rfl
theorem fdX3_firstDue_6 : gw_find bsX3_firstDue 6 = bkX3_firstDue_6 := rfl
theorem fdX3_firstDue_33 : gw_find bsX3_firstDue 33 = bkX3_firstDue_33 := rfl
theorem fdX3_firstDue_62 : gw_find bsX3_firstDue 62 = bkX3_firstDue_62 := rfl
theorem fdX3_firstDue_67 : gw_find bsX3_firstDue 67 = bkX3_firstDue_67 := rfl
theorem fdX3_firstDue_73 : gw_find bsX3_firstDue 73 = bkX3_firstDue_73 := rfl
set_option maxRecDepth 40000 in
theorem stX3_firstDue : gw_sta sgX3_firstDue bsX3_firstDue := ⟨by decide +kernel, gw_mem2 (i := 5212) rfl rfl, gw_all (by decide +kernel)⟩
def bkX3_timeGoesOn_0 : List gw_E := [(0, 1, .aload_n 0, [0], [], []), (1, 1, .dup, [], [], []), (2, 3, .getfield 92, [3, 7, 0, 2084], [], []), (5, 1, .iconst 1, [], [1], []), (6, 1, .iadd, [], [], []), (7, 3, .putfield 92, [3, 7, 0, 2084], [], []), (10, 1, .aload_n 0, [0], [], []), (11, 3, .getfield 65, [3, 14, 1, 2096], [], []), (14, 3, .getfield 303, [2, 11, 1, 1229], [], []), (17, 1, .aload_n 0, [0], [], []), (18, 3, .getfield 42, [3, 6, 0, 2082], [], []), (21, 1, .iconst 1, [], [1], []), (22, 3, .if_icmp .ne 7, [29], [], []), (25, 1, .iconst 0, [], [0], []), (26, 3, .goto 9, [35], [], [])]
def bkX3_timeGoesOn_29 : List gw_E := [(29, 1, .iconst 1, [], [1], []), (30, 1, .aload_n 0, [0], [], []), (31, 3, .getfield 89, [3, 5, 0, 2080], [], []), (34, 1, .iadd, [], [], [])]
def bkX3_timeGoesOn_35 : List gw_E := [(35, 1, .dup2, [], [], []), (36, 1, .iaload, [], [], []), (37, 1, .iconst 1, [], [1], []), (38, 1, .iadd, [], [], []), (39, 1, .iastore, [], [], []), (40, 1, .iconst 0, [], [0], []), (41, 1, .istore_n 1, [1], [], []), (42, 1, .iconst 0, [], [0], []), (43, 1, .istore_n 2, [2], [], [])]
def bkX3_timeGoesOn_44 : List gw_E := [(44, 1, .iload_n 2, [2], [], []), (45, 2, .bipush 12, [], [12], []), (47, 3, .if_icmp .ge 30, [77], [], []), (50, 1, .aload_n 0, [0], [], []), (51, 3, .invokevirtual 306, [0, 3, 4137, 4139, 11, 1002], [], [sgX3_nextDueNow]), (54, 1, .istore_n 3, [3], [], []), (55, 1, .iload_n 3, [3], [], []), (56, 1, .iconst (-1), [], [-1], []), (57, 3, .if_icmp .ne 6, [63], [], []), (60, 3, .goto 17, [77], [], [])]
def bkX3_timeGoesOn_63 : List gw_E := [(63, 1, .aload_n 0, [0], [], []), (64, 1, .iload_n 3, [3], [], []), (65, 3, .invokevirtual 309, [1, 3, 4156, 4158, 12, 1002], [], [sgX3_goOff]), (68, 3, .iinc 1 1, [1], [1], []), (71, 3, .iinc 2 1, [2], [1], []), (74, 3, .goto (-30), [44], [], [])]
def bkX3_timeGoesOn_77 : List gw_E := [(77, 1, .aload_n 0, [0], [], []), (78, 3, .getfield 42, [3, 6, 0, 2082], [], []), (81, 1, .iconst 2, [], [2], []), (82, 3, .if_icmp .ne 37, [119], [], []), (85, 1, .aload_n 0, [0], [], []), (86, 3, .getfield 101, [3, 10, 0, 2090], [], []), (89, 3, .ifCond .eq 30, [119], [], []), (92, 1, .aload_n 0, [0], [], []), (93, 1, .dup, [], [], []), (94, 3, .getfield 104, [3, 11, 0, 2092], [], []), (97, 1, .iconst 1, [], [1], []), (98, 1, .isub, [], [], []), (99, 3, .putfield 104, [3, 11, 0, 2092], [], []), (102, 1, .aload_n 0, [0], [], []), (103, 3, .getfield 104, [3, 11, 0, 2092], [], []), (106, 3, .ifCond .gt 13, [119], [], []), (109, 1, .aload_n 0, [0], [], []), (110, 2, .bipush 8, [], [8], []), (112, 1, .aload_n 0, [0], [], []), (113, 3, .getfield 101, [3, 10, 0, 2090], [], []), (116, 3, .invokevirtual 246, [2, 3, 3057, 3059, 2, 1002], [], [sgX3_dealToOuter])]
def bkX3_timeGoesOn_119 : List gw_E := [(119, 1, .iload_n 1, [1], [], []), (120, 1, .ireturn, [0], [], [])]
def bsX3_timeGoesOn : List (Nat × List gw_E) := [(0, bkX3_timeGoesOn_0), (29, bkX3_timeGoesOn_29), (35, bkX3_timeGoesOn_35), (44, bkX3_timeGoesOn_44), (63, bkX3_timeGoesOn_63), (77, bkX3_timeGoesOn_77), (119, bkX3_timeGoesOn_119)]
theorem fdX3_timeGoesOn_0 : gw_find bsX3_timeGoesOn 0 = bkX3_timeGoesOn_0 := rfl
theorem fdX3_timeGoesOn_29 : gw_find bsX3_timeGoesOn 29 = bkX3_timeGoesOn_29 := rfl
theorem fdX3_timeGoesOn_35 : gw_find bsX3_timeGoesOn 35 = bkX3_timeGoesOn_35 := rfl
theorem fdX3_timeGoesOn_44 : gw_find bsX3_timeGoesOn 44 = bkX3_timeGoesOn_44 := rfl
theorem fdX3_timeGoesOn_63 : gw_find bsX3_timeGoesOn 63 = bkX3_timeGoesOn_63 := rfl
theorem fdX3_timeGoesOn_77 : gw_find bsX3_timeGoesOn 77 = bkX3_timeGoesOn_77 := rfl
theorem fdX3_timeGoesOn_119 : gw_find bsX3_timeGoesOn 119 = bkX3_timeGoesOn_119 := rfl
set_option maxRecDepth 40000 in
theorem stX3_timeGoesOn : gw_sta sgX3_timeGoesOn bsX3_timeGoesOn := ⟨by decide +kernel, gw_mem2 (i := 4136) rfl rfl, gw_all (by decide +kernel)⟩
def bkX3_nextDueNow_0 : List gw_E := [(0, 1, .iconst (-1), [], [-1], []), (1, 1, .istore_n 1, [1], [], []), (2, 1, .iconst 0, [], [0], []), (3, 1, .istore_n 2, [2], [], [])]
def bkX3_nextDueNow_4 : List gw_E := [(4, 1, .iload_n 2, [2], [], []), (5, 1, .aload_n 0, [0], [], []), (6, 3, .getfield 58, [3, 13, 1, 2094], [], []), (9, 3, .getfield 295, [9, 3, 0, 1194], [], []), (12, 3, .if_icmp .ge 67, [79], [], []), (15, 1, .aload_n 0, [0], [], []), (16, 1, .aload_n 0, [0], [], []), (17, 3, .getfield 58, [3, 13, 1, 2094], [], []), (20, 3, .getfield 286, [9, 0, 1, 1184], [], []), (23, 1, .iload_n 2, [2], [], []), (24, 1, .iaload, [], [], []), (25, 1, .aload_n 0, [0], [], []), (26, 3, .getfield 92, [3, 7, 0, 2084], [], []), (29, 3, .invokevirtual 292, [2, 3, 4141, 4142, 4143, 1002], [], [sgX3_clockAt]), (32, 1, .aload_n 0, [0], [], []), (33, 3, .getfield 58, [3, 13, 1, 2094], [], []), (36, 3, .getfield 288, [9, 1, 1, 1187], [], []), (39, 1, .iload_n 2, [2], [], []), (40, 1, .iaload, [], [], []), (41, 3, .if_icmp .lt 7, [48], [], []), (44, 1, .iconst 1, [], [1], []), (45, 3, .goto 4, [49], [], [])]
def bkX3_nextDueNow_48 : List gw_E := [(48, 1, .iconst 0, [], [0], [])]
def bkX3_nextDueNow_49 : List gw_E := [(49, 1, .istore_n 3, [3], [], []), (50, 1, .iload_n 3, [3], [], []), (51, 3, .ifCond .eq 22, [73], [], []), (54, 1, .iload_n 1, [1], [], []), (55, 1, .iconst (-1), [], [-1], []), (56, 3, .if_icmp .eq 15, [71], [], []), (59, 1, .aload_n 0, [0], [], []), (60, 3, .getfield 58, [3, 13, 1, 2094], [], []), (63, 1, .iload_n 2, [2], [], []), (64, 1, .iload_n 1, [1], [], []), (65, 3, .invokevirtual 300, [2, 9, 4152, 4153, 4154, 1008], [], [sgX9_isAhead]), (68, 3, .ifCond .eq 5, [73], [], [])]
def bkX3_nextDueNow_71 : List gw_E := [(71, 1, .iload_n 2, [2], [], []), (72, 1, .istore_n 1, [1], [], [])]
def bkX3_nextDueNow_73 : List gw_E := [(73, 3, .iinc 2 1, [2], [1], []), (76, 3, .goto (-72), [4], [], [])]
def bkX3_nextDueNow_79 : List gw_E := [(79, 1, .iload_n 1, [1], [], []), (80, 1, .ireturn, [0], [], [])]
def bsX3_nextDueNow : List (Nat × List gw_E) := [(0, bkX3_nextDueNow_0), (4, bkX3_nextDueNow_4), (48, bkX3_nextDueNow_48), (49, bkX3_nextDueNow_49), (71, bkX3_nextDueNow_71), (73, bkX3_nextDueNow_73), (79, bkX3_nextDueNow_79)]
theorem fdX3_nextDueNow_0 : gw_find bsX3_nextDueNow 0 = bkX3_nextDueNow_0 := rfl
theorem fdX3_nextDueNow_4 : gw_find bsX3_nextDueNow 4 = bkX3_nextDueNow_4 := rfl
theorem fdX3_nextDueNow_48 : gw_find bsX3_nextDueNow 48 = bkX3_nextDueNow_48 := rfl
theorem fdX3_nextDueNow_49 : gw_find bsX3_nextDueNow 49 = bkX3_nextDueNow_49 := rfl
theorem fdX3_nextDueNow_71 : gw_find bsX3_nextDueNow 71 = bkX3_nextDueNow_71 := rfl
theorem fdX3_nextDueNow_73 : gw_find bsX3_nextDueNow 73 = bkX3_nextDueNow_73 := rfl
theorem fdX3_nextDueNow_79 : gw_find bsX3_nextDueNow 79 = bkX3_nextDueNow_79 := rfl
set_option maxRecDepth 40000 in
theorem stX3_nextDueNow : gw_sta sgX3_nextDueNow bsX3_nextDueNow := ⟨by decide +kernel, gw_mem2 (i := 4140) rfl rfl, gw_all (by decide +kernel)⟩
def bkX3_goOff_0 : List gw_E := [(0, 1, .aload_n 0, [0], [], []), (1, 3, .getfield 58, [3, 13, 1, 2094], [], []), (4, 3, .getfield 286, [9, 0, 1, 1184], [], []), (7, 1, .iload_n 1, [1], [], []), (8, 1, .iaload, [], [], []), (9, 1, .istore_n 2, [2], [], []), (10, 1, .aload_n 0, [0], [], []), (11, 3, .getfield 58, [3, 13, 1, 2094], [], []), (14, 3, .getfield 312, [9, 2, 1, 1190], [], []), (17, 1, .iload_n 1, [1], [], []), (18, 1, .iaload, [], [], []), (19, 1, .istore_n 3, [3], [], []), (20, 1, .aload_n 0, [0], [], []), (21, 3, .getfield 58, [3, 13, 1, 2094], [], []), (24, 1, .iload_n 1, [1], [], []), (25, 3, .invokevirtual 315, [1, 9, 4160, 4100, 4101, 1008], [], [sgX9_removeAt]), (28, 1, .iload_n 2, [2], [], []), (29, 3, .ifCond .ne 13, [42], [], []), (32, 1, .aload_n 0, [0], [], []), (33, 2, .bipush 7, [], [7], []), (35, 1, .iload_n 3, [3], [], []), (36, 3, .invokevirtual 250, [2, 3, 3205, 3207, 6, 1002], [], [sgX3_hostSees]), (39, 3, .goto 16, [55], [], [])]
def bkX3_goOff_42 : List gw_E := [(42, 1, .aload_n 0, [0], [], []), (43, 1, .iload_n 2, [2], [], []), (44, 3, .invokevirtual 318, [1, 3, 4161, 4038, 4039, 1002], [], [sgX3_guest]), (47, 1, .iload_n 3, [3], [], []), (48, 1, .aload_n 0, [0], [], []), (49, 3, .getfield 92, [3, 7, 0, 2084], [], []), (52, 3, .invokevirtual 321, [2, 0, 4162, 4047, 4048, 1006], [], [sgX0_await])]
def bkX3_goOff_55 : List gw_E := [(55, 1, .return_, [], [], [])]
def bsX3_goOff : List (Nat × List gw_E) := [(0, bkX3_goOff_0), (42, bkX3_goOff_42), (55, bkX3_goOff_55)]
theorem fdX3_goOff_0 : gw_find bsX3_goOff 0 = bkX3_goOff_0 := rfl
theorem fdX3_goOff_42 : gw_find bsX3_goOff 42 = bkX3_goOff_42 := rfl
theorem fdX3_goOff_55 : gw_find bsX3_goOff 55 = bkX3_goOff_55 := rfl
set_option maxRecDepth 40000 in
theorem stX3_goOff : gw_sta sgX3_goOff bsX3_goOff := ⟨by decide +kernel, gw_mem2 (i := 4159) rfl rfl, gw_all (by decide +kernel)⟩
end
section
def bkX3_goOn_0 : List gw_E := [(0, 1, .aload_n 0, [0], [], []), (1, 3, .invokevirtual 324, [0, 3, 4196, 4134, 4135, 1002], [], [sgX3_timeGoesOn]), (4, 1, .pop, [], [], []), (5, 1, .aload_n 0, [0], [], []), (6, 3, .invokevirtual 327, [0, 3, 4197, 3047, 3048, 1002], [], [sgX3_dealOut]), (9, 1, .aload_n 0, [0], [], []), (10, 3, .getfield 42, [3, 6, 0, 2082], [], []), (13, 1, .iconst 1, [], [1], []), (14, 3, .if_icmp .ne 10, [24], [], []), (17, 1, .aload_n 0, [0], [], []), (18, 3, .invokevirtual 330, [0, 3, 4198, 4200, 13, 1002], [], [sgX3_actOfOuter]), (21, 3, .goto 7, [28], [], [])]
def bkX3_goOn_24 : List gw_E := [(24, 1, .aload_n 0, [0], [], []), (25, 3, .invokevirtual 333, [0, 3, 4219, 4221, 16, 1002], [], [sgX3_actOfInner])]
def bkX3_goOn_28 : List gw_E := [(28, 1, .aload_n 0, [0], [], []), (29, 3, .invokevirtual 327, [0, 3, 4197, 3047, 3048, 1002], [], [sgX3_dealOut]), (32, 1, .return_, [], [], [])]
def bsX3_goOn : List (Nat × List gw_E) := [(0, bkX3_goOn_0), (24, bkX3_goOn_24), (28, bkX3_goOn_28)]
theorem fdX3_goOn_0 : gw_find bsX3_goOn 0 = bkX3_goOn_0 := rfl
theorem fdX3_goOn_24 : gw_find bsX3_goOn 24 = bkX3_goOn_24 := rfl
theorem fdX3_goOn_28 : gw_find bsX3_goOn 28 = bkX3_goOn_28 := rfl
set_option maxRecDepth 40000 in
theorem stX3_goOn : gw_sta sgX3_goOn bsX3_goOn := ⟨by decide +kernel, gw_mem2 (i := 4195) rfl rfl, gw_all (by decide +kernel)⟩
def bkX3_actOfOuter_0 : List gw_E := [(0, 1, .aload_n 0, [0], [], []), (1, 3, .getfield 32, [3, 3, 1, 2077], [], []), (4, 3, .getfield 144, [0, 0, 1, 1145], [], []), (7, 1, .astore_n 1, [1], [], []), (8, 1, .aload_n 1, [1], [], []), (9, 3, .getfield 336, [7, 3, 0, 1127], [], []), (12, 3, .ifCond .ne 4, [16], [], []), (15, 1, .return_, [], [], [])]
def bkX3_actOfOuter_16 : List gw_E := [(16, 1, .aload_n 1, [1], [], []), (17, 3, .invokevirtual 337, [0, 7, 4202, 4203, 4204, 1007], [], [sgX7_advance]), (20, 1, .istore_n 2, [2], [], []), (21, 1, .aload_n 1, [1], [], []), (22, 3, .getfield 340, [7, 0, 1, 1114], [], []), (25, 1, .iload_n 2, [2], [], []), (26, 1, .iaload, [], [], []), (27, 1, .istore_n 3, [3], [], []), (28, 1, .aload_n 1, [1], [], []), (29, 3, .getfield 343, [7, 1, 1, 1118], [], []), (32, 1, .iload_n 2, [2], [], []), (33, 1, .iaload, [], [], []), (34, 2, .istore 4, [4], [], []), (36, 1, .aload_n 1, [1], [], []), (37, 3, .getfield 346, [7, 2, 1, 1122], [], []), (40, 1, .iload_n 2, [2], [], []), (41, 1, .iaload, [], [], []), (42, 2, .istore 5, [5], [], []), (44, 1, .iload_n 3, [3], [], []), (45, 63, .tableswitch 176 0 11 #[63, 63, 63, 76, 86, 97, 108, 115, 128, 147, 156, 167], [221, 108, 108, 108, 121, 131, 142, 153, 160, 173, 192, 201, 212], [0], [])]
def bkX3_actOfOuter_108 : List gw_E := [(108, 1, .aload_n 0, [0], [], []), (109, 2, .iload 4, [4], [], []), (111, 1, .iload_n 3, [3], [], []), (112, 2, .iload 5, [5], [], []), (114, 3, .invokevirtual 349, [3, 3, 4206, 4007, 4008, 1002], [], [sgX3_touchByOuter]), (117, 1, .pop, [], [], []), (118, 3, .goto 103, [221], [], [])]
def bkX3_actOfOuter_121 : List gw_E := [(121, 1, .aload_n 0, [0], [], []), (122, 2, .iload 4, [4], [], []), (124, 3, .invokevirtual 352, [1, 3, 4207, 4019, 4020, 1002], [], [sgX3_eventOfOuter]), (127, 1, .pop, [], [], []), (128, 3, .goto 93, [221], [], [])]
def bkX3_actOfOuter_131 : List gw_E := [(131, 1, .aload_n 0, [0], [], []), (132, 3, .getfield 32, [3, 3, 1, 2077], [], []), (135, 1, .iconst 1, [], [1], []), (136, 3, .putfield 355, [0, 4, 2, 1155], [], []), (139, 3, .goto 82, [221], [], [])]
def bkX3_actOfOuter_142 : List gw_E := [(142, 1, .aload_n 0, [0], [], []), (143, 3, .getfield 32, [3, 3, 1, 2077], [], []), (146, 1, .iconst 0, [], [0], []), (147, 3, .putfield 355, [0, 4, 2, 1155], [], []), (150, 3, .goto 71, [221], [], [])]
def bkX3_actOfOuter_153 : List gw_E := [(153, 1, .aload_n 0, [0], [], []), (154, 3, .invokevirtual 359, [0, 3, 4208, 4027, 4028, 1002], [], [sgX3_enterInner]), (157, 3, .goto 64, [221], [], [])]
def bkX3_actOfOuter_160 : List gw_E := [(160, 1, .aload_n 0, [0], [], []), (161, 2, .iload 4, [4], [], []), (163, 2, .iload 5, [5], [], []), (165, 2, .bipush 7, [], [7], []), (167, 3, .invokevirtual 167, [3, 3, 3026, 3028, 0, 1002], [], [sgX3_tellInner]), (170, 3, .goto 51, [221], [], [])]
def bkX3_actOfOuter_173 : List gw_E := [(173, 1, .aload_n 0, [0], [], []), (174, 3, .invokevirtual 159, [0, 3, 3018, 3019, 3020, 1002], [], [sgX3_inHand]), (177, 3, .getfield 113, [1, 0, 1, 2040], [], []), (180, 2, .iload 4, [4], [], []), (182, 1, .aload_n 0, [0], [], []), (183, 3, .getfield 92, [3, 7, 0, 2084], [], []), (186, 3, .invokevirtual 321, [2, 0, 4162, 4047, 4048, 1006], [], [sgX0_await]), (189, 3, .goto 32, [221], [], [])]
def bkX3_actOfOuter_192 : List gw_E := [(192, 1, .aload_n 0, [0], [], []), (193, 2, .iload 4, [4], [], []), (195, 3, .invokevirtual 362, [1, 3, 4209, 4211, 14, 1002], [], [sgX3_tellMissed]), (198, 3, .goto 23, [221], [], [])]
def bkX3_actOfOuter_201 : List gw_E := [(201, 1, .aload_n 0, [0], [], []), (202, 3, .getfield 32, [3, 3, 1, 2077], [], []), (205, 3, .invokevirtual 365, [0, 0, 4213, 4063, 4064, 1006], [], [sgX0_endService]), (208, 1, .pop, [], [], []), (209, 3, .goto 12, [221], [], [])]
def bkX3_actOfOuter_212 : List gw_E := [(212, 1, .aload_n 0, [0], [], []), (213, 2, .iload 4, [4], [], []), (215, 3, .invokevirtual 368, [1, 3, 4214, 4216, 15, 1002], [], [sgX3_switchUnlessInHand]), (218, 3, .goto 3, [221], [], [])]
def bkX3_actOfOuter_221 : List gw_E := [(221, 1, .return_, [], [], [])]
def bsX3_actOfOuter : List (Nat × List gw_E) := [(0, bkX3_actOfOuter_0), (16, bkX3_actOfOuter_16), (108, bkX3_actOfOuter_108), (121, bkX3_actOfOuter_121), (131, bkX3_actOfOuter_131), (142, bkX3_actOfOuter_142), (153, bkX3_actOfOuter_153), (160, bkX3_actOfOuter_160), (173, bkX3_actOfOuter_173), (192, bkX3_actOfOuter_192), (201, bkX3_actOfOuter_201), (212, bkX3_actOfOuter_212), (221, bkX3_actOfOuter_221)]
theorem fdX3_actOfOuter_0 : gw_find bsX3_actOfOuter 0 = bkX3_actOfOuter_0 := rfl
theorem fdX3_actOfOuter_16 : gw_find bsX3_actOfOuter 16 = bkX3_actOfOuter_16 := rfl
theorem fdX3_actOfOuter_108 : gw_find bsX3_actOfOuter 108 = bkX3_actOfOuter_108 := rfl
theorem fdX3_actOfOuter_121 : gw_find bsX3_actOfOuter 121 = bkX3_actOfOuter_121 := rfl
theorem fdX3_actOfOuter_131 : gw_find bsX3_actOfOuter 131 = bkX3_actOfOuter_131 := rfl
theorem fdX3_actOfOuter_142 : gw_find bsX3_actOfOuter 142 = bkX3_actOfOuter_142 := rfl
theorem fdX3_actOfOuter_153 : gw_find bsX3_actOfOuter 153 = bkX3_actOfOuter_153 := rfl
theorem fdX3_actOfOuter_160 : gw_find bsX3_actOfOuter 160 = bkX3_actOfOuter_160 := rfl
theorem fdX3_actOfOuter_173 : gw_find bsX3_actOfOuter 173 = bkX3_actOfOuter_173 := rfl
theorem fdX3_actOfOuter_192 : gw_find bsX3_actOfOuter 192 = bkX3_actOfOuter_192 := rfl
theorem fdX3_actOfOuter_201 : gw_find bsX3_actOfOuter 201 = bkX3_actOfOuter_201 := rfl
theorem fdX3_actOfOuter_212 : gw_find bsX3_actOfOuter 212 = bkX3_actOfOuter_212 := rfl
theorem fdX3_actOfOuter_221 : gw_find bsX3_actOfOuter 221 = bkX3_actOfOuter_221 := rfl
set_option maxRecDepth 40000 in
theorem stX3_actOfOuter : gw_sta sgX3_actOfOuter bsX3_actOfOuter := ⟨by decide +kernel, gw_mem2 (i := 4201) rfl rfl, gw_all (by decide +kernel)⟩
def bkX3_tellMissed_0 : List gw_E := [(0, 1, .aload_n 0, [0], [], []), (1, 3, .getfield 52, [3, 12, 0, 2093], [], []), (4, 1, .iconst (-1), [], [-1], []), (5, 3, .if_icmp .eq 14, [19], [], []), (8, 1, .aload_n 0, [0], [], []), (9, 1, .aload_n 0, [0], [], []), (10, 3, .getfield 52, [3, 12, 0, 2093], [], []), (13, 1, .iload_n 1, [1], [], []), (14, 2, .bipush 7, [], [7], []), (16, 3, .invokevirtual 167, [3, 3, 3026, 3028, 0, 1002], [], [sgX3_tellInner])]
def bkX3_tellMissed_19 : List gw_E := [(19, 1, .return_, [], [], [])]
def bsX3_tellMissed : List (Nat × List gw_E) := [(0, bkX3_tellMissed_0), (19, bkX3_tellMissed_19)]
theorem fdX3_tellMissed_0 : gw_find bsX3_tellMissed 0 = bkX3_tellMissed_0 := rfl
theorem fdX3_tellMissed_19 : gw_find bsX3_tellMissed 19 = bkX3_tellMissed_19 := rfl
set_option maxRecDepth 40000 in
theorem stX3_tellMissed : gw_sta sgX3_tellMissed bsX3_tellMissed := ⟨by decide +kernel, gw_mem2 (i := 4212) rfl rfl, gw_all (by decide +kernel)⟩
def bkX3_switchUnlessInHand_0 : List gw_E := [(0, 1, .iload_n 1, [1], [], []), (1, 1, .aload_n 0, [0], [], []), (2, 3, .getfield 89, [3, 5, 0, 2080], [], []), (5, 3, .if_icmp .eq 8, [13], [], []), (8, 1, .aload_n 0, [0], [], []), (9, 1, .iload_n 1, [1], [], []), (10, 3, .invokevirtual 371, [1, 3, 4218, 4074, 4075, 1002], [], [sgX3_switchTo])]
def bkX3_switchUnlessInHand_13 : List gw_E := [(13, 1, .return_, [], [], [])]
def bsX3_switchUnlessInHand : List (Nat × List gw_E) := [(0, bkX3_switchUnlessInHand_0), (13, bkX3_switchUnlessInHand_13)]
theorem fdX3_switchUnlessInHand_0 : gw_find bsX3_switchUnlessInHand 0 = bkX3_switchUnlessInHand_0 := rfl
theorem fdX3_switchUnlessInHand_13 : gw_find bsX3_switchUnlessInHand 13 = bkX3_switchUnlessInHand_13 := rfl
set_option maxRecDepth 40000 in
theorem stX3_switchUnlessInHand : gw_sta sgX3_switchUnlessInHand bsX3_switchUnlessInHand := ⟨by decide +kernel, gw_mem2 (i := 4217) rfl rfl, gw_all (by decide +kernel)⟩
def bkX3_actOfInner_0 : List gw_E := [(0, 1, .aload_n 0, [0], [], []), (1, 3, .invokevirtual 159, [0, 3, 3018, 3019, 3020, 1002], [], [sgX3_inHand]), (4, 1, .astore_n 1, [1], [], []), (5, 1, .aload_n 1, [1], [], []), (6, 3, .getfield 113, [1, 0, 1, 2040], [], []), (9, 3, .getfield 144, [0, 0, 1, 1145], [], []), (12, 1, .astore_n 2, [2], [], []), (13, 1, .aload_n 2, [2], [], []), (14, 3, .getfield 336, [7, 3, 0, 1127], [], []), (17, 3, .ifCond .ne 4, [21], [], []), (20, 1, .return_, [], [], [])]
def bkX3_actOfInner_21 : List gw_E := [(21, 1, .aload_n 2, [2], [], []), (22, 3, .invokevirtual 337, [0, 7, 4202, 4203, 4204, 1007], [], [sgX7_advance]), (25, 1, .istore_n 3, [3], [], []), (26, 1, .aload_n 2, [2], [], []), (27, 3, .getfield 340, [7, 0, 1, 1114], [], []), (30, 1, .iload_n 3, [3], [], []), (31, 1, .iaload, [], [], []), (32, 2, .istore 4, [4], [], []), (34, 1, .aload_n 2, [2], [], []), (35, 3, .getfield 343, [7, 1, 1, 1118], [], []), (38, 1, .iload_n 3, [3], [], []), (39, 1, .iaload, [], [], []), (40, 2, .istore 5, [5], [], []), (42, 1, .aload_n 2, [2], [], []), (43, 3, .getfield 346, [7, 2, 1, 1122], [], []), (46, 1, .iload_n 3, [3], [], []), (47, 1, .iaload, [], [], []), (48, 2, .istore 6, [6], [], []), (50, 2, .iload 4, [4], [], []), (52, 48, .tableswitch 110 0 7 #[48, 48, 48, 67, 77, 88, 110, 99], [162, 100, 100, 100, 119, 129, 140, 162, 151], [0], [])]
def bkX3_actOfInner_100 : List gw_E := [(100, 1, .aload_n 0, [0], [], []), (101, 1, .aload_n 1, [1], [], []), (102, 1, .iload_n 3, [3], [], []), (103, 1, .aload_n 0, [0], [], []), (104, 2, .iload 5, [5], [], []), (106, 2, .iload 4, [4], [], []), (108, 2, .iload 6, [6], [], []), (110, 3, .invokevirtual 374, [3, 3, 4223, 3189, 3190, 1002], [], [sgX3_touchByInner]), (113, 3, .invokevirtual 377, [3, 3, 4224, 4226, 17, 1002], [], [sgX3_lead]), (116, 3, .goto 56, [172], [], [])]
def bkX3_actOfInner_119 : List gw_E := [(119, 1, .aload_n 0, [0], [], []), (120, 2, .iload 5, [5], [], []), (122, 3, .invokevirtual 230, [1, 3, 3197, 3198, 3199, 1002], [], [sgX3_eventOfInner]), (125, 1, .pop, [], [], []), (126, 3, .goto 46, [172], [], [])]
def bkX3_actOfInner_129 : List gw_E := [(129, 1, .aload_n 1, [1], [], []), (130, 3, .getfield 113, [1, 0, 1, 2040], [], []), (133, 1, .iconst 1, [], [1], []), (134, 3, .putfield 355, [0, 4, 2, 1155], [], []), (137, 3, .goto 35, [172], [], [])]
def bkX3_actOfInner_140 : List gw_E := [(140, 1, .aload_n 1, [1], [], []), (141, 3, .getfield 113, [1, 0, 1, 2040], [], []), (144, 1, .iconst 0, [], [0], []), (145, 3, .putfield 355, [0, 4, 2, 1155], [], []), (148, 3, .goto 24, [172], [], [])]
def bkX3_actOfInner_151 : List gw_E := [(151, 1, .aload_n 1, [1], [], []), (152, 3, .getfield 113, [1, 0, 1, 2040], [], []), (155, 3, .invokevirtual 365, [0, 0, 4213, 4063, 4064, 1006], [], [sgX0_endService]), (158, 1, .pop, [], [], []), (159, 3, .goto 13, [172], [], [])]
def bkX3_actOfInner_162 : List gw_E := [(162, 1, .aload_n 1, [1], [], []), (163, 2, .iload 4, [4], [], []), (165, 2, .iload 5, [5], [], []), (167, 2, .iload 6, [6], [], []), (169, 3, .invokevirtual 381, [3, 1, 4233, 4234, 4235, 1010], [], [sgX1_actAlone])]
def bkX3_actOfInner_172 : List gw_E := [(172, 1, .return_, [], [], [])]
def bsX3_actOfInner : List (Nat × List gw_E) := [(0, bkX3_actOfInner_0), (21, bkX3_actOfInner_21), (100, bkX3_actOfInner_100), (119, bkX3_actOfInner_119), (129, bkX3_actOfInner_129), (140, bkX3_actOfInner_140), (151, bkX3_actOfInner_151), (162, bkX3_actOfInner_162), (172, bkX3_actOfInner_172)]
theorem fdX3_actOfInner_0 : gw_find bsX3_actOfInner 0 = bkX3_actOfInner_0 := rfl
theorem fdX3_actOfInner_21 : gw_find bsX3_actOfInner 21 = bkX3_actOfInner_21 := rfl
theorem fdX3_actOfInner_100 : gw_find bsX3_actOfInner 100 = bkX3_actOfInner_100 := rfl
theorem fdX3_actOfInner_119 : gw_find bsX3_actOfInner 119 = bkX3_actOfInner_119 := rfl
theorem fdX3_actOfInner_129 : gw_find bsX3_actOfInner 129 = bkX3_actOfInner_129 := rfl
theorem fdX3_actOfInner_140 : gw_find bsX3_actOfInner 140 = bkX3_actOfInner_140 := rfl
theorem fdX3_actOfInner_151 : gw_find bsX3_actOfInner 151 = bkX3_actOfInner_151 := rfl
theorem fdX3_actOfInner_162 : gw_find bsX3_actOfInner 162 = bkX3_actOfInner_162 := rfl
theorem fdX3_actOfInner_172 : gw_find bsX3_actOfInner 172 = bkX3_actOfInner_172 := rfl
set_option maxRecDepth 40000 in
theorem stX3_actOfInner : gw_sta sgX3_actOfInner bsX3_actOfInner := ⟨by decide +kernel, gw_mem2 (i := 4222) rfl rfl, gw_all (by decide +kernel)⟩
def bkX3_lead_0 : List gw_E := [(0, 1, .iload_n 3, [3], [], []), (1, 2, .bipush (-3), [], [-3], []), (3, 3, .if_icmp .ne 17, [20], [], []), (6, 1, .aload_n 1, [1], [], []), (7, 3, .getfield 113, [1, 0, 1, 2040], [], []), (10, 3, .getfield 144, [0, 0, 1, 1145], [], []), (13, 1, .iload_n 2, [2], [], []), (14, 3, .invokevirtual 224, [1, 7, 3065, 3066, 3067, 1007], [], [sgX7_goTo]), (17, 3, .goto 23, [40], [], [])]
def bkX3_lead_20 : List gw_E := [(20, 1, .iload_n 3, [3], [], []), (21, 2, .bipush (-2), [], [-2], []), (23, 3, .if_icmp .ne 17, [40], [], []), (26, 1, .aload_n 0, [0], [], []), (27, 1, .iconst 0, [], [0], []), (28, 3, .invokevirtual 262, [1, 3, 3201, 3202, 3203, 1002], [], [sgX3_seerOfInner]), (31, 1, .iconst 2, [], [2], []), (32, 3, .if_icmp .ne 8, [40], [], []), (35, 1, .aload_n 1, [1], [], []), (36, 1, .iload_n 2, [2], [], []), (37, 3, .invokevirtual 384, [1, 1, 4228, 4229, 4230, 1010], [], [sgX1_trapAt])]
def bkX3_lead_40 : List gw_E := [(40, 1, .return_, [], [], [])]
def bsX3_lead : List (Nat × List gw_E) := [(0, bkX3_lead_0), (20, bkX3_lead_20), (40, bkX3_lead_40)]
theorem fdX3_lead_0 : gw_find bsX3_lead 0 = bkX3_lead_0 := rfl
theorem fdX3_lead_20 : gw_find bsX3_lead 20 = bkX3_lead_20 := rfl
theorem fdX3_lead_40 : gw_find bsX3_lead 40 = bkX3_lead_40 := rfl
set_option maxRecDepth 40000 in
theorem stX3_lead : gw_sta sgX3_lead bsX3_lead := ⟨by decide +kernel, gw_mem2 (i := 4227) rfl rfl, gw_all (by decide +kernel)⟩
def bkX3_walkTables_0 : List gw_E := [(0, 1, .aload_n 0, [0], [], []), (1, 3, .invokevirtual 159, [0, 3, 3018, 3019, 3020, 1002], [], [sgX3_inHand]), (4, 3, .getfield 116, [1, 1, 1, 2044], [], []), (7, 1, .astore_n 3, [3], [], []), (8, 1, .aload_n 3, [3], [], []), (9, 1, .iload_n 1, [1], [], []), (10, 1, .iload_n 2, [2], [], []), (11, 3, .invokevirtual 227, [2, 8, 3192, 3193, 3194, 1004], [], [sgX8_gives]), (14, 3, .ifCond .ne 6, [20], [], []), (17, 2, .bipush (-2), [], [-2], []), (19, 1, .ireturn, [0], [], [])]
def bkX3_walkTables_20 : List gw_E := [(20, 1, .aload_n 0, [0], [], []), (21, 3, .invokevirtual 159, [0, 3, 3018, 3019, 3020, 1002], [], [sgX3_inHand]), (24, 3, .getfield 119, [1, 2, 1, 2047], [], []), (27, 2, .astore 4, [4], [], []), (29, 1, .aload_n 3, [3], [], []), (30, 3, .getfield 183, [8, 0, 1, 1051], [], []), (33, 1, .iload_n 1, [1], [], []), (34, 1, .iaload, [], [], []), (35, 2, .istore 5, [5], [], []), (37, 2, .aload 4, [4], [], []), (39, 2, .iload 5, [5], [], []), (41, 1, .iload_n 2, [2], [], []), (42, 3, .invokevirtual 227, [2, 8, 3192, 3193, 3194, 1004], [], [sgX8_gives]), (45, 3, .ifCond .ne 6, [51], [], []), (48, 2, .bipush (-3), [], [-3], []), (50, 1, .ireturn, [0], [], [])]
def bkX3_walkTables_51 : List gw_E := [(51, 2, .aload 4, [4], [], []), (53, 3, .getfield 183, [8, 0, 1, 1051], [], []), (56, 2, .iload 5, [5], [], []), (58, 1, .iaload, [], [], []), (59, 2, .istore 6, [6], [], []), (61, 1, .aload_n 0, [0], [], []), (62, 3, .getfield 12, [3, 0, 1, 2071], [], []), (65, 2, .iload 6, [6], [], []), (67, 3, .invokevirtual 200, [1, 4, 3143, 3144, 3145, 1003], [], [sgX4_rightsGiven]), (70, 1, .iload_n 2, [2], [], []), (71, 3, .invokestatic 186, [2, 1, 3043, 3044, 1001, 0], [], [sgX10_hasBit]), (74, 3, .ifCond .eq 19, [93], [], []), (77, 1, .aload_n 0, [0], [], []), (78, 3, .getfield 12, [3, 0, 1, 2071], [], []), (81, 3, .getfield 122, [4, 0, 1, 1071], [], []), (84, 3, .getfield 183, [8, 0, 1, 1051], [], []), (87, 2, .iload 6, [6], [], []), (89, 1, .iaload, [], [], []), (90, 3, .goto 5, [95], [], [])]
def bkX3_walkTables_93 : List gw_E := [(93, 2, .bipush (-4), [], [-4], [])]
def bkX3_walkTables_95 : List gw_E := [(95, 1, .ireturn, [0], [], [])]
def bsX3_walkTables : List (Nat × List gw_E) := [(0, bkX3_walkTables_0), (20, bkX3_walkTables_20), (51, bkX3_walkTables_51), (93, bkX3_walkTables_93), (95, bkX3_walkTables_95)]
theorem fdX3_walkTables_0 : gw_find bsX3_walkTables 0 = bkX3_walkTables_0 := rfl
theorem fdX3_walkTables_20 : gw_find bsX3_walkTables 20 = bkX3_walkTables_20 := rfl
theorem fdX3_walkTables_51 : gw_find bsX3_walkTables 51 = bkX3_walkTables_51 := rfl
theorem fdX3_walkTables_93 : gw_find bsX3_walkTables 93 = bkX3_walkTables_93 := rfl
theorem fdX3_walkTables_95 : gw_find bsX3_walkTables 95 = bkX3_walkTables_95 := rfl
set_option maxRecDepth 40000 in
theorem stX3_walkTables : gw_sta sgX3_walkTables bsX3_walkTables := ⟨by decide +kernel, gw_mem2 (i := 5090) rfl rfl, gw_all (by decide +kernel)⟩
def bkX3_rightsOfVirtual_0 : List gw_E := [(0, 1, .aload_n 0, [0], [], []), (1, 3, .invokevirtual 159, [0, 3, 3018, 3019, 3020, 1002], [], [sgX3_inHand]), (4, 3, .getfield 116, [1, 1, 1, 2044], [], []), (7, 1, .astore_n 2, [2], [], []), (8, 1, .aload_n 2, [2], [], []), (9, 1, .iload_n 1, [1], [], []), (10, 3, .invokevirtual 193, [1, 8, 3138, 3093, 3094, 1004], [], [sgX8_has]), (13, 3, .ifCond .eq 23, [36], [], []), (16, 1, .aload_n 2, [2], [], []), (17, 3, .getfield 197, [8, 1, 1, 1055], [], []), (20, 1, .iload_n 1, [1], [], []), (21, 1, .iaload, [], [], []), (22, 1, .aload_n 0, [0], [], []), (23, 1, .aload_n 2, [2], [], []), (24, 3, .getfield 183, [8, 0, 1, 1051], [], []), (27, 1, .iload_n 1, [1], [], []), (28, 1, .iaload, [], [], []), (29, 3, .invokevirtual 204, [1, 3, 3139, 3141, 4, 1002], [], [sgX3_rightsOfBoth]), (32, 1, .iand, [], [], []), (33, 3, .goto 4, [37], [], [])]
def bkX3_rightsOfVirtual_36 : List gw_E := [(36, 1, .iconst 0, [], [0], [])]
def bkX3_rightsOfVirtual_37 : List gw_E := [(37, 1, .ireturn, [0], [], [])]
def bsX3_rightsOfVirtual : List (Nat × List gw_E) := [(0, bkX3_rightsOfVirtual_0), (36, bkX3_rightsOfVirtual_36), (37, bkX3_rightsOfVirtual_37)]
theorem fdX3_rightsOfVirtual_0 : gw_find bsX3_rightsOfVirtual 0 = bkX3_rightsOfVirtual_0 := rfl
theorem fdX3_rightsOfVirtual_36 : gw_find bsX3_rightsOfVirtual 36 = bkX3_rightsOfVirtual_36 := rfl
theorem fdX3_rightsOfVirtual_37 : gw_find bsX3_rightsOfVirtual 37 = bkX3_rightsOfVirtual_37 := rfl
set_option maxRecDepth 40000 in
theorem stX3_rightsOfVirtual : gw_sta sgX3_rightsOfVirtual bsX3_rightsOfVirtual := ⟨by decide +kernel, gw_mem2 (i := 5098) rfl rfl, gw_all (by decide +kernel)⟩
def bkX3_frameOfInner_0 : List gw_E := [(0, 1, .aload_n 0, [0], [], []), (1, 3, .invokevirtual 159, [0, 3, 3018, 3019, 3020, 1002], [], [sgX3_inHand]), (4, 3, .getfield 119, [1, 2, 1, 2047], [], []), (7, 1, .astore_n 2, [2], [], []), (8, 1, .aload_n 2, [2], [], []), (9, 1, .iload_n 1, [1], [], []), (10, 3, .invokevirtual 193, [1, 8, 3138, 3093, 3094, 1004], [], [sgX8_has]), (13, 3, .ifCond .eq 23, [36], [], []), (16, 1, .aload_n 0, [0], [], []), (17, 3, .getfield 12, [3, 0, 1, 2071], [], []), (20, 3, .getfield 122, [4, 0, 1, 1071], [], []), (23, 3, .getfield 183, [8, 0, 1, 1051], [], []), (26, 1, .aload_n 2, [2], [], []), (27, 3, .getfield 183, [8, 0, 1, 1051], [], []), (30, 1, .iload_n 1, [1], [], []), (31, 1, .iaload, [], [], []), (32, 1, .iaload, [], [], []), (33, 3, .goto 4, [37], [], [])]
def bkX3_frameOfInner_36 : List gw_E := [(36, 1, .iconst (-1), [], [-1], [])]
def bkX3_frameOfInner_37 : List gw_E := [(37, 1, .ireturn, [0], [], [])]
def bsX3_frameOfInner : List (Nat × List gw_E) := [(0, bkX3_frameOfInner_0), (36, bkX3_frameOfInner_36), (37, bkX3_frameOfInner_37)]
theorem fdX3_frameOfInner_0 : gw_find bsX3_frameOfInner 0 = bkX3_frameOfInner_0 := rfl
theorem fdX3_frameOfInner_36 : gw_find bsX3_frameOfInner 36 = bkX3_frameOfInner_36 := rfl
theorem fdX3_frameOfInner_37 : gw_find bsX3_frameOfInner 37 = bkX3_frameOfInner_37 := rfl
set_option maxRecDepth 40000 in
theorem stX3_frameOfInner : gw_sta sgX3_frameOfInner bsX3_frameOfInner := ⟨by decide +kernel, gw_mem2 (i := 5115) rfl rfl, gw_all (by decide +kernel)⟩
def bkX3_virtualPagesAt_0 : List gw_E := [(0, 1, .aload_n 0, [0], [], []), (1, 3, .invokevirtual 159, [0, 3, 3018, 3019, 3020, 1002], [], [sgX3_inHand]), (4, 3, .getfield 116, [1, 1, 1, 2044], [], []), (7, 1, .astore_n 2, [2], [], []), (8, 1, .iconst 0, [], [0], []), (9, 1, .istore_n 3, [3], [], []), (10, 1, .iconst 0, [], [0], []), (11, 2, .istore 4, [4], [], [])]
def bkX3_virtualPagesAt_13 : List gw_E := [(13, 2, .iload 4, [4], [], []), (15, 2, .bipush 16, [], [16], []), (17, 3, .if_icmp .ge 40, [57], [], []), (20, 1, .aload_n 2, [2], [], []), (21, 2, .iload 4, [4], [], []), (23, 3, .invokevirtual 193, [1, 8, 3138, 3093, 3094, 1004], [], [sgX8_has]), (26, 3, .ifCond .eq 25, [51], [], []), (29, 1, .aload_n 0, [0], [], []), (30, 1, .aload_n 2, [2], [], []), (31, 3, .getfield 183, [8, 0, 1, 1051], [], []), (34, 2, .iload 4, [4], [], []), (36, 1, .iaload, [], [], []), (37, 3, .invokevirtual 387, [1, 3, 5112, 5114, 19, 1002], [], [sgX3_frameOfInner]), (40, 1, .iload_n 1, [1], [], []), (41, 3, .if_icmp .ne 10, [51], [], []), (44, 1, .iload_n 3, [3], [], []), (45, 1, .iconst 1, [], [1], []), (46, 2, .iload 4, [4], [], []), (48, 1, .ishl, [], [], []), (49, 1, .ior, [], [], []), (50, 1, .istore_n 3, [3], [], [])]
def bkX3_virtualPagesAt_51 : List gw_E := [(51, 3, .iinc 4 1, [4], [1], []), (54, 3, .goto (-41), [13], [], [])]
def bkX3_virtualPagesAt_57 : List gw_E := [(57, 1, .iload_n 3, [3], [], []), (58, 1, .ireturn, [0], [], [])]
def bsX3_virtualPagesAt : List (Nat × List gw_E) := [(0, bkX3_virtualPagesAt_0), (13, bkX3_virtualPagesAt_13), (51, bkX3_virtualPagesAt_51), (57, bkX3_virtualPagesAt_57)]
theorem fdX3_virtualPagesAt_0 : gw_find bsX3_virtualPagesAt 0 = bkX3_virtualPagesAt_0 := rfl
theorem fdX3_virtualPagesAt_13 : gw_find bsX3_virtualPagesAt 13 = bkX3_virtualPagesAt_13 := rfl
theorem fdX3_virtualPagesAt_51 : gw_find bsX3_virtualPagesAt 51 = bkX3_virtualPagesAt_51 := rfl
theorem fdX3_virtualPagesAt_57 : gw_find bsX3_virtualPagesAt 57 = bkX3_virtualPagesAt_57 := rfl
set_option maxRecDepth 40000 in
theorem stX3_virtualPagesAt : gw_sta sgX3_virtualPagesAt bsX3_virtualPagesAt := ⟨by decide +kernel, gw_mem2 (i := 5111) rfl rfl, gw_all (by decide +kernel)⟩
def bkX3_plainValue_0 : List gw_E := [(0, 1, .aload_n 0, [0], [], []), (1, 1, .iload_n 1, [1], [], []), (2, 3, .invokevirtual 387, [1, 3, 5112, 5114, 19, 1002], [], [sgX3_frameOfInner]), (5, 1, .istore_n 2, [2], [], []), (6, 1, .iload_n 2, [2], [], []), (7, 1, .iconst (-1), [], [-1], []), (8, 3, .if_icmp .eq 13, [21], [], []), (11, 1, .aload_n 0, [0], [], []), (12, 3, .getfield 12, [3, 0, 1, 2071], [], []), (15, 3, .getfield 390, [4, 1, 1, 1075], [], []), (18, 1, .iload_n 2, [2], [], []), (19, 1, .iaload, [], [], []), (20, 1, .ireturn, [0], [], [])]
def bkX3_plainValue_21 : List gw_E := [(21, 1, .aload_n 0, [0], [], []), (22, 3, .invokevirtual 159, [0, 3, 3018, 3019, 3020, 1002], [], [sgX3_inHand]), (25, 3, .getfield 119, [1, 2, 1, 2047], [], []), (28, 1, .astore_n 3, [3], [], []), (29, 1, .aload_n 3, [3], [], []), (30, 1, .iload_n 1, [1], [], []), (31, 3, .invokevirtual 193, [1, 8, 3138, 3093, 3094, 1004], [], [sgX8_has]), (34, 3, .ifCond .eq 24, [58], [], []), (37, 1, .aload_n 0, [0], [], []), (38, 3, .getfield 12, [3, 0, 1, 2071], [], []), (41, 3, .getfield 393, [4, 2, 1, 1078], [], []), (44, 1, .aload_n 3, [3], [], []), (45, 3, .getfield 183, [8, 0, 1, 1051], [], []), (48, 1, .iload_n 1, [1], [], []), (49, 1, .iaload, [], [], []), (50, 1, .iaload, [], [], []), (51, 1, .iconst 0, [], [0], []), (52, 3, .invokestatic 396, [2, 0, 6015, 3078, 1015, 0], [], [sgJ9_max_7cf53]), (55, 3, .goto 4, [59], [], [])]
def bkX3_plainValue_58 : List gw_E := [(58, 1, .iconst 0, [], [0], [])]
def bkX3_plainValue_59 : List gw_E := [(59, 1, .ireturn, [0], [], [])]
def bsX3_plainValue : List (Nat × List gw_E) := [(0, bkX3_plainValue_0), (21, bkX3_plainValue_21), (58, bkX3_plainValue_58), (59, bkX3_plainValue_59)]
theorem fdX3_plainValue_0 : gw_find bsX3_plainValue 0 = bkX3_plainValue_0 := rfl
theorem fdX3_plainValue_21 : gw_find bsX3_plainValue 21 = bkX3_plainValue_21 := rfl
theorem fdX3_plainValue_58 : gw_find bsX3_plainValue 58 = bkX3_plainValue_58 := rfl
theorem fdX3_plainValue_59 : gw_find bsX3_plainValue 59 = bkX3_plainValue_59 := rfl
set_option maxRecDepth 40000 in
theorem stX3_plainValue : gw_sta sgX3_plainValue bsX3_plainValue := ⟨by decide +kernel, gw_mem2 (i := 6014) rfl rfl, gw_all (by decide +kernel)⟩
def bkX5_init_0 : List gw_E := [(0, 1, .aload_n 0, [0], [], []), (1, 3, .invokespecial 3, [0, 2, 2134, 1025, 1026, 0], [], []), (4, 1, .aload_n 0, [0], [], []), (5, 2, .bipush 20, [], [20], []), (7, 3, .anewarray 9, [14, 2135, 2136], [], []), (10, 3, .putfield 11, [5, 0, 1, 2137], [], []), (13, 1, .return_, [], [], [])]
def bsX5_init : List (Nat × List gw_E) := [(0, bkX5_init_0)]
theorem fdX5_init_0 : gw_find bsX5_init 0 = bkX5_init_0 := rfl
set_option maxRecDepth 40000 in
theorem stX5_init : gw_sta sgX5_init bsX5_init := ⟨by decide +kernel, gw_mem2 (i := 2133) rfl rfl, gw_all (by decide +kernel)⟩
def bkX5_push_0 : List gw_E := [(0, 1, .aload_n 0, [0], [], []), (1, 3, .getfield 17, [5, 1, 0, 2138], [], []), (4, 1, .aload_n 0, [0], [], []), (5, 3, .getfield 21, [5, 2, 0, 2139], [], []), (8, 1, .iadd, [], [], []), (9, 2, .bipush 20, [], [20], []), (11, 1, .irem, [], [], []), (12, 1, .istore_n 2, [2], [], []), (13, 1, .aload_n 0, [0], [], []), (14, 3, .getfield 11, [5, 0, 1, 2137], [], []), (17, 1, .iload_n 2, [2], [], []), (18, 1, .aaload, [], [], []), (19, 3, .ifnonnull 16, [35], [], []), (22, 1, .aload_n 0, [0], [], []), (23, 3, .getfield 11, [5, 0, 1, 2137], [], []), (26, 1, .iload_n 2, [2], [], []), (27, 3, .new 9, [3, 2135, 1028, 1002], [], []), (30, 1, .dup, [], [], []), (31, 3, .invokespecial 24, [0, 0, 2209, 1030, 1002, 0], [], [sgX3_init]), (34, 1, .aastore, [], [], [])]
def bkX5_push_35 : List gw_E := [(35, 1, .aload_n 0, [0], [], []), (36, 3, .getfield 11, [5, 0, 1, 2137], [], []), (39, 1, .iload_n 2, [2], [], []), (40, 1, .aaload, [], [], []), (41, 1, .aload_n 1, [1], [], []), (42, 3, .invokevirtual 25, [1, 3, 2210, 2211, 2212, 1002], [], [sgX3_copyFrom]), (45, 1, .aload_n 0, [0], [], []), (46, 3, .getfield 21, [5, 2, 0, 2139], [], []), (49, 2, .bipush 20, [], [20], []), (51, 3, .if_icmp .ge 16, [67], [], []), (54, 1, .aload_n 0, [0], [], []), (55, 1, .dup, [], [], []), (56, 3, .getfield 21, [5, 2, 0, 2139], [], []), (59, 1, .iconst 1, [], [1], []), (60, 1, .iadd, [], [], []), (61, 3, .putfield 21, [5, 2, 0, 2139], [], []), (64, 3, .goto 16, [80], [], [])]
def bkX5_push_67 : List gw_E := [(67, 1, .aload_n 0, [0], [], []), (68, 1, .aload_n 0, [0], [], []), (69, 3, .getfield 17, [5, 1, 0, 2138], [], []), (72, 1, .iconst 1, [], [1], []), (73, 1, .iadd, [], [], []), (74, 2, .bipush 20, [], [20], []), (76, 1, .irem, [], [], []), (77, 3, .putfield 17, [5, 1, 0, 2138], [], [])]
def bkX5_push_80 : List gw_E := [(80, 1, .return_, [], [], [])]
def bsX5_push : List (Nat × List gw_E) := [(0, bkX5_push_0), (35, bkX5_push_35), (67, bkX5_push_67), (80, bkX5_push_80)]
theorem fdX5_push_0 : gw_find bsX5_push 0 = bkX5_push_0 := rfl
theorem fdX5_push_35 : gw_find bsX5_push 35 = bkX5_push_35 := rfl
theorem fdX5_push_67 : gw_find bsX5_push 67 = bkX5_push_67 := rfl
theorem fdX5_push_80 : gw_find bsX5_push 80 = bkX5_push_80 := rfl
set_option maxRecDepth 40000 in
theorem stX5_push : gw_sta sgX5_push bsX5_push := ⟨by decide +kernel, gw_mem2 (i := 2208) rfl rfl, gw_all (by decide +kernel)⟩
def bkX5_popInto_0 : List gw_E := [(0, 1, .aload_n 0, [0], [], []), (1, 3, .getfield 21, [5, 2, 0, 2139], [], []), (4, 3, .ifCond .ne 4, [8], [], []), (7, 1, .return_, [], [], [])]
def bkX5_popInto_8 : List gw_E := [(8, 1, .aload_n 0, [0], [], []), (9, 1, .dup, [], [], []), (10, 3, .getfield 21, [5, 2, 0, 2139], [], []), (13, 1, .iconst 1, [], [1], []), (14, 1, .isub, [], [], []), (15, 3, .putfield 21, [5, 2, 0, 2139], [], []), (18, 1, .aload_n 0, [0], [], []), (19, 3, .getfield 11, [5, 0, 1, 2137], [], []), (22, 1, .aload_n 0, [0], [], []), (23, 3, .getfield 17, [5, 1, 0, 2138], [], []), (26, 1, .aload_n 0, [0], [], []), (27, 3, .getfield 21, [5, 2, 0, 2139], [], []), (30, 1, .iadd, [], [], []), (31, 2, .bipush 20, [], [20], []), (33, 1, .irem, [], [], []), (34, 1, .aaload, [], [], []), (35, 1, .astore_n 2, [2], [], []), (36, 1, .aload_n 2, [2], [], []), (37, 3, .ifnull 8, [45], [], []), (40, 1, .aload_n 1, [1], [], []), (41, 1, .aload_n 2, [2], [], []), (42, 3, .invokevirtual 25, [1, 3, 2210, 2211, 2212, 1002], [], [sgX3_copyFrom])]
def bkX5_popInto_45 : List gw_E := [(45, 1, .return_, [], [], [])]
def bsX5_popInto : List (Nat × List gw_E) := [(0, bkX5_popInto_0), (8, bkX5_popInto_8), (45, bkX5_popInto_45)]
theorem fdX5_popInto_0 : gw_find bsX5_popInto 0 = bkX5_popInto_0 := rfl
theorem fdX5_popInto_8 : gw_find bsX5_popInto 8 = bkX5_popInto_8 := rfl
theorem fdX5_popInto_45 : gw_find bsX5_popInto 45 = bkX5_popInto_45 := rfl
set_option maxRecDepth 40000 in
theorem stX5_popInto : gw_sta sgX5_popInto bsX5_popInto := ⟨by decide +kernel, gw_mem2 (i := 5005) rfl rfl, gw_all (by decide +kernel)⟩
def bkX5_copyFrom_0 : List gw_E := [(0, 1, .aload_n 0, [0], [], []), (1, 1, .iconst 0, [], [0], []), (2, 3, .putfield 17, [5, 1, 0, 2138], [], []), (5, 1, .aload_n 0, [0], [], []), (6, 1, .iconst 0, [], [0], []), (7, 3, .putfield 21, [5, 2, 0, 2139], [], []), (10, 1, .iconst 0, [], [0], []), (11, 1, .istore_n 2, [2], [], [])]
def bkX5_copyFrom_12 : List gw_E := [(12, 1, .iload_n 2, [2], [], []), (13, 1, .aload_n 1, [1], [], []), (14, 3, .getfield 21, [5, 2, 0, 2139], [], []), (17, 3, .if_icmp .ge 33, [50], [], []), (20, 1, .aload_n 1, [1], [], []), (21, 3, .getfield 11, [5, 0, 1, 2137], [], []), (24, 1, .aload_n 1, [1], [], []), (25, 3, .getfield 17, [5, 1, 0, 2138], [], []), (28, 1, .iload_n 2, [2], [], []), (29, 1, .iadd, [], [], []), (30, 2, .bipush 20, [], [20], []), (32, 1, .irem, [], [], []), (33, 1, .aaload, [], [], []), (34, 1, .astore_n 3, [3], [], []), (35, 1, .aload_n 3, [3], [], []), (36, 3, .ifnull 8, [44], [], []), (39, 1, .aload_n 0, [0], [], []), (40, 1, .aload_n 3, [3], [], []), (41, 3, .invokevirtual 29, [1, 5, 6055, 2206, 2207, 1011], [], [sgX5_push])]
def bkX5_copyFrom_44 : List gw_E := [(44, 3, .iinc 2 1, [2], [1], []), (47, 3, .goto (-35), [12], [], [])]
def bkX5_copyFrom_50 : List gw_E := [(50, 1, .return_, [], [], [])]
def bsX5_copyFrom : List (Nat × List gw_E) := [(0, bkX5_copyFrom_0), (12, bkX5_copyFrom_12), (44, bkX5_copyFrom_44), (50, bkX5_copyFrom_50)]
theorem fdX5_copyFrom_0 : gw_find bsX5_copyFrom 0 = bkX5_copyFrom_0 := rfl
theorem fdX5_copyFrom_12 : gw_find bsX5_copyFrom 12 = bkX5_copyFrom_12 := rfl
theorem fdX5_copyFrom_44 : gw_find bsX5_copyFrom 44 = bkX5_copyFrom_44 := rfl
theorem fdX5_copyFrom_50 : gw_find bsX5_copyFrom 50 = bkX5_copyFrom_50 := rfl
set_option maxRecDepth 40000 in
theorem stX5_copyFrom : gw_sta sgX5_copyFrom bsX5_copyFrom := ⟨by decide +kernel, gw_mem2 (i := 6054) rfl rfl, gw_all (by decide +kernel)⟩
def bkX6_init_0 : List gw_E := [(0, 1, .aload_n 0, [0], [], []), (1, 3, .invokespecial 3, [0, 2, 2153, 1025, 1026, 0], [], []), (4, 1, .aload_n 0, [0], [], []), (5, 3, .new 9, [1, 2154, 2029, 1010], [], []), (8, 1, .dup, [], [], []), (9, 3, .invokespecial 11, [0, 1, 2155, 2031, 1010, 0], [], [sgX1_init]), (12, 3, .putfield 12, [6, 0, 1, 2156], [], []), (15, 1, .aload_n 0, [0], [], []), (16, 2, .bipush 16, [], [16], []), (18, 2, .newarray .int, [], [], []), (20, 3, .putfield 18, [6, 1, 1, 2157], [], []), (23, 1, .return_, [], [], [])]
def bsX6_init : List (Nat × List gw_E) := [(0, bkX6_init_0)]
theorem fdX6_init_0 : gw_find bsX6_init 0 = bkX6_init_0 := rfl
set_option maxRecDepth 40000 in
theorem stX6_init : gw_sta sgX6_init bsX6_init := ⟨by decide +kernel, gw_mem2 (i := 2152) rfl rfl, gw_all (by decide +kernel)⟩
def bkX6_startFrom_0 : List gw_E := [(0, 1, .aload_n 0, [0], [], []), (1, 3, .getfield 12, [6, 0, 1, 2156], [], []), (4, 1, .aload_n 1, [1], [], []), (5, 3, .invokevirtual 22, [0, 3, 6009, 3019, 3020, 1002], [], [sgX3_inHand]), (8, 3, .invokevirtual 28, [1, 1, 6010, 2238, 2239, 1010], [], [sgX1_copyFrom]), (11, 1, .iconst 0, [], [0], []), (12, 1, .istore_n 2, [2], [], [])]
def bkX6_startFrom_13 : List gw_E := [(13, 1, .iload_n 2, [2], [], []), (14, 2, .bipush 16, [], [16], []), (16, 3, .if_icmp .ge 20, [36], [], []), (19, 1, .aload_n 0, [0], [], []), (20, 3, .getfield 18, [6, 1, 1, 2157], [], []), (23, 1, .iload_n 2, [2], [], []), (24, 1, .aload_n 1, [1], [], []), (25, 1, .iload_n 2, [2], [], []), (26, 3, .invokevirtual 32, [1, 3, 6011, 6012, 6013, 1002], [], [sgX3_plainValue]), (29, 1, .iastore, [], [], []), (30, 3, .iinc 2 1, [2], [1], []), (33, 3, .goto (-20), [13], [], [])]
def bkX6_startFrom_36 : List gw_E := [(36, 1, .aload_n 0, [0], [], []), (37, 1, .iconst 0, [], [0], []), (38, 3, .putfield 36, [6, 2, 0, 2159], [], []), (41, 1, .aload_n 0, [0], [], []), (42, 1, .iconst (-1), [], [-1], []), (43, 3, .putfield 40, [6, 3, 0, 2161], [], []), (46, 1, .return_, [], [], [])]
def bsX6_startFrom : List (Nat × List gw_E) := [(0, bkX6_startFrom_0), (13, bkX6_startFrom_13), (36, bkX6_startFrom_36)]
theorem fdX6_startFrom_0 : gw_find bsX6_startFrom 0 = bkX6_startFrom_0 := rfl
theorem fdX6_startFrom_13 : gw_find bsX6_startFrom 13 = bkX6_startFrom_13 := rfl
theorem fdX6_startFrom_36 : gw_find bsX6_startFrom 36 = bkX6_startFrom_36 := rfl
set_option maxRecDepth 40000 in
theorem stX6_startFrom : gw_sta sgX6_startFrom bsX6_startFrom := ⟨by decide +kernel, gw_mem2 (i := 6008) rfl rfl, gw_all (by decide +kernel)⟩
def bkX6_goOn_0 : List gw_E := [(0, 1, .aload_n 0, [0], [], []), (1, 3, .getfield 12, [6, 0, 1, 2156], [], []), (4, 3, .getfield 43, [1, 0, 1, 2039], [], []), (7, 3, .getfield 47, [0, 0, 1, 1143], [], []), (10, 1, .astore_n 1, [1], [], []), (11, 1, .aload_n 1, [1], [], []), (12, 3, .getfield 53, [7, 3, 0, 1125], [], []), (15, 3, .ifCond .ne 4, [19], [], []), (18, 1, .return_, [], [], [])]
def bkX6_goOn_19 : List gw_E := [(19, 1, .aload_n 1, [1], [], []), (20, 3, .invokevirtual 58, [0, 7, 6020, 4203, 4204, 1007], [], [sgX7_advance]), (23, 1, .istore_n 2, [2], [], []), (24, 1, .aload_n 1, [1], [], []), (25, 3, .getfield 62, [7, 0, 1, 1113], [], []), (28, 1, .iload_n 2, [2], [], []), (29, 1, .iaload, [], [], []), (30, 1, .istore_n 3, [3], [], []), (31, 1, .iload_n 3, [3], [], []), (32, 3, .invokestatic 65, [1, 1, 6021, 3186, 1001, 0], [], [sgX10_isWay]), (35, 3, .ifCond .eq 24, [59], [], []), (38, 1, .aload_n 0, [0], [], []), (39, 1, .iload_n 2, [2], [], []), (40, 1, .aload_n 1, [1], [], []), (41, 3, .getfield 69, [7, 1, 1, 1117], [], []), (44, 1, .iload_n 2, [2], [], []), (45, 1, .iaload, [], [], []), (46, 1, .iload_n 3, [3], [], []), (47, 1, .aload_n 1, [1], [], []), (48, 3, .getfield 72, [7, 2, 1, 1121], [], []), (51, 1, .iload_n 2, [2], [], []), (52, 1, .iaload, [], [], []), (53, 3, .invokevirtual 75, [4, 6, 6022, 6024, 21, 1012], [], [sgX6_touchFrom]), (56, 3, .goto 23, [79], [], [])]
def bkX6_goOn_59 : List gw_E := [(59, 1, .aload_n 0, [0], [], []), (60, 3, .getfield 12, [6, 0, 1, 2156], [], []), (63, 1, .iload_n 3, [3], [], []), (64, 1, .aload_n 1, [1], [], []), (65, 3, .getfield 69, [7, 1, 1, 1117], [], []), (68, 1, .iload_n 2, [2], [], []), (69, 1, .iaload, [], [], []), (70, 1, .aload_n 1, [1], [], []), (71, 3, .getfield 72, [7, 2, 1, 1121], [], []), (74, 1, .iload_n 2, [2], [], []), (75, 1, .iaload, [], [], []), (76, 3, .invokevirtual 79, [3, 1, 6028, 4234, 4235, 1010], [], [sgX1_actAlone])]
def bkX6_goOn_79 : List gw_E := [(79, 1, .return_, [], [], [])]
def bsX6_goOn : List (Nat × List gw_E) := [(0, bkX6_goOn_0), (19, bkX6_goOn_19), (59, bkX6_goOn_59), (79, bkX6_goOn_79)]
theorem fdX6_goOn_0 : gw_find bsX6_goOn 0 = bkX6_goOn_0 := rfl
theorem fdX6_goOn_19 : gw_find bsX6_goOn 19 = bkX6_goOn_19 := rfl
theorem fdX6_goOn_59 : gw_find bsX6_goOn 59 = bkX6_goOn_59 := rfl
theorem fdX6_goOn_79 : gw_find bsX6_goOn 79 = bkX6_goOn_79 := rfl
set_option maxRecDepth 40000 in
theorem stX6_goOn : gw_sta sgX6_goOn bsX6_goOn := ⟨by decide +kernel, gw_mem2 (i := 6019) rfl rfl, gw_all (by decide +kernel)⟩
def bkX6_touchFrom_0 : List gw_E := [(0, 1, .aload_n 0, [0], [], []), (1, 3, .getfield 12, [6, 0, 1, 2156], [], []), (4, 3, .getfield 83, [1, 1, 1, 2043], [], []), (7, 1, .iload_n 2, [2], [], []), (8, 1, .iload_n 3, [3], [], []), (9, 3, .invokevirtual 87, [2, 8, 6026, 3193, 3194, 1004], [], [sgX8_gives]), (12, 3, .ifCond .ne 30, [42], [], []), (15, 1, .aload_n 0, [0], [], []), (16, 1, .dup, [], [], []), (17, 3, .getfield 36, [6, 2, 0, 2159], [], []), (20, 1, .iconst 1, [], [1], []), (21, 1, .iadd, [], [], []), (22, 3, .putfield 36, [6, 2, 0, 2159], [], []), (25, 1, .aload_n 0, [0], [], []), (26, 3, .getfield 12, [6, 0, 1, 2156], [], []), (29, 1, .iload_n 2, [2], [], []), (30, 3, .putfield 93, [1, 4, 0, 2052], [], []), (33, 1, .aload_n 0, [0], [], []), (34, 3, .getfield 12, [6, 0, 1, 2156], [], []), (37, 1, .iload_n 1, [1], [], []), (38, 3, .invokevirtual 96, [1, 1, 6027, 4229, 4230, 1010], [], [sgX1_trapAt]), (41, 1, .return_, [], [], [])]
def bkX6_touchFrom_42 : List gw_E := [(42, 1, .aload_n 0, [0], [], []), (43, 3, .getfield 12, [6, 0, 1, 2156], [], []), (46, 3, .getfield 83, [1, 1, 1, 2043], [], []), (49, 3, .getfield 100, [8, 0, 1, 1049], [], []), (52, 1, .iload_n 2, [2], [], []), (53, 1, .iaload, [], [], []), (54, 2, .istore 5, [5], [], []), (56, 1, .iload_n 3, [3], [], []), (57, 1, .iconst 1, [], [1], []), (58, 3, .if_icmp .ne 15, [73], [], []), (61, 1, .aload_n 0, [0], [], []), (62, 3, .getfield 18, [6, 1, 1, 2157], [], []), (65, 2, .iload 5, [5], [], []), (67, 2, .iload 4, [4], [], []), (69, 1, .iastore, [], [], []), (70, 3, .goto 14, [84], [], [])]
def bkX6_touchFrom_73 : List gw_E := [(73, 1, .aload_n 0, [0], [], []), (74, 1, .aload_n 0, [0], [], []), (75, 3, .getfield 18, [6, 1, 1, 2157], [], []), (78, 2, .iload 5, [5], [], []), (80, 1, .iaload, [], [], []), (81, 3, .putfield 40, [6, 3, 0, 2161], [], [])]
def bkX6_touchFrom_84 : List gw_E := [(84, 1, .return_, [], [], [])]
def bsX6_touchFrom : List (Nat × List gw_E) := [(0, bkX6_touchFrom_0), (42, bkX6_touchFrom_42), (73, bkX6_touchFrom_73), (84, bkX6_touchFrom_84)]
theorem fdX6_touchFrom_0 : gw_find bsX6_touchFrom 0 = bkX6_touchFrom_0 := rfl
theorem fdX6_touchFrom_42 : gw_find bsX6_touchFrom 42 = bkX6_touchFrom_42 := rfl
theorem fdX6_touchFrom_73 : gw_find bsX6_touchFrom 73 = bkX6_touchFrom_73 := rfl
theorem fdX6_touchFrom_84 : gw_find bsX6_touchFrom 84 = bkX6_touchFrom_84 := rfl
set_option maxRecDepth 40000 in
theorem stX6_touchFrom : gw_sta sgX6_touchFrom bsX6_touchFrom := ⟨by decide +kernel, gw_mem2 (i := 6025) rfl rfl, gw_all (by decide +kernel)⟩
def bkX10_init_0 : List gw_E := [(0, 1, .aload_n 0, [0], [], []), (1, 3, .invokespecial 1, [0, 2, 1024, 1025, 1026, 0], [], []), (4, 1, .aload_n 0, [0], [], []), (5, 3, .new 7, [3, 1027, 1028, 1002], [], []), (8, 1, .dup, [], [], []), (9, 3, .invokespecial 9, [0, 0, 1029, 1030, 1002, 0], [], [sgX3_init]), (12, 3, .putfield 10, [10, 0, 1, 2172], [], []), (15, 1, .aload_n 0, [0], [], []), (16, 3, .new 16, [5, 2129, 2130, 1011], [], []), (19, 1, .dup, [], [], []), (20, 3, .invokespecial 18, [0, 1, 2131, 2132, 1011, 0], [], [sgX5_init]), (23, 3, .putfield 19, [10, 1, 1, 2173], [], []), (26, 1, .aload_n 0, [0], [], []), (27, 3, .new 7, [3, 1027, 1028, 1002], [], []), (30, 1, .dup, [], [], []), (31, 3, .invokespecial 9, [0, 0, 1029, 1030, 1002, 0], [], [sgX3_init]), (34, 3, .putfield 23, [10, 2, 1, 2174], [], []), (37, 1, .aload_n 0, [0], [], []), (38, 3, .new 16, [5, 2129, 2130, 1011], [], []), (41, 1, .dup, [], [], []), (42, 3, .invokespecial 18, [0, 1, 2131, 2132, 1011, 0], [], [sgX5_init]), (45, 3, .putfield 26, [10, 3, 1, 2175], [], []), (48, 1, .aload_n 0, [0], [], []), (49, 3, .new 7, [3, 1027, 1028, 1002], [], []), (52, 1, .dup, [], [], []), (53, 3, .invokespecial 9, [0, 0, 1029, 1030, 1002, 0], [], [sgX3_init]), (56, 3, .putfield 29, [10, 4, 1, 2176], [], []), (59, 1, .aload_n 0, [0], [], []), (60, 3, .new 32, [6, 2148, 2149, 1012], [], []), (63, 1, .dup, [], [], []), (64, 3, .invokespecial 34, [0, 1, 2150, 2151, 1012, 0], [], [sgX6_init]), (67, 3, .putfield 35, [10, 5, 1, 2177], [], []), (70, 1, .return_, [], [], [])]
def bsX10_init : List (Nat × List gw_E) := [(0, bkX10_init_0)]
theorem fdX10_init_0 : gw_find bsX10_init 0 = bkX10_init_0 := rfl
set_option maxRecDepth 40000 in
theorem stX10_init : gw_sta sgX10_init bsX10_init := ⟨by decide +kernel, gw_mem2 (i := 1023) rfl rfl, gw_all (by decide +kernel)⟩
def bkX10_entry_0 : List gw_E := [(0, 1, .iload_n 1, [1], [], []), (1, 1, .iconst 2, [], [2], []), (2, 3, .if_icmp .ne 8, [10], [], []), (5, 2, .bipush 10, [], [10], []), (7, 3, .goto 5, [12], [], [])]
def bkX10_entry_10 : List gw_E := [(10, 2, .bipush 16, [], [16], [])]
def bkX10_entry_12 : List gw_E := [(12, 2, .istore 5, [5], [], []), (14, 1, .aload_n 0, [0], [], []), (15, 3, .getfield 10, [10, 0, 1, 2172], [], []), (18, 1, .iload_n 1, [1], [], []), (19, 3, .invokevirtual 39, [1, 3, 2195, 2196, 2197, 1002], [], [sgX3_mayTell]), (22, 3, .ifCond .eq 33, [55], [], []), (25, 1, .iload_n 2, [2], [], []), (26, 3, .invokestatic 43, [1, 0, 2199, 2200, 1001, 0], [], [sgX10_isPage]), (29, 3, .ifCond .eq 26, [55], [], []), (32, 1, .iload_n 3, [3], [], []), (33, 1, .iconst 0, [], [0], []), (34, 2, .iload 5, [5], [], []), (36, 1, .iconst 1, [], [1], []), (37, 1, .isub, [], [], []), (38, 3, .invokestatic 46, [3, 0, 2202, 2203, 1001, 0], [], [sgX10_within]), (41, 3, .ifCond .eq 14, [55], [], []), (44, 2, .iload 4, [4], [], []), (46, 1, .iconst 1, [], [1], []), (47, 2, .bipush 7, [], [7], []), (49, 3, .invokestatic 46, [3, 0, 2202, 2203, 1001, 0], [], [sgX10_within]), (52, 3, .ifCond .ne 5, [57], [], [])]
def bkX10_entry_55 : List gw_E := [(55, 1, .iconst 0, [], [0], []), (56, 1, .ireturn, [1], [], [])]
def bkX10_entry_57 : List gw_E := [(57, 1, .aload_n 0, [0], [], []), (58, 3, .getfield 19, [10, 1, 1, 2173], [], []), (61, 1, .aload_n 0, [0], [], []), (62, 3, .getfield 10, [10, 0, 1, 2172], [], []), (65, 3, .invokevirtual 50, [1, 5, 2205, 2206, 2207, 1011], [], [sgX5_push]), (68, 1, .aload_n 0, [0], [], []), (69, 3, .getfield 10, [10, 0, 1, 2172], [], []), (72, 1, .iload_n 1, [1], [], []), (73, 1, .iload_n 2, [2], [], []), (74, 1, .iload_n 3, [3], [], []), (75, 2, .iload 4, [4], [], []), (77, 3, .invokevirtual 54, [4, 3, 3014, 3015, 3016, 1002], [], [sgX3_tellEntry]), (80, 1, .aload_n 0, [0], [], []), (81, 3, .getfield 10, [10, 0, 1, 2172], [], []), (84, 3, .invokevirtual 58, [0, 3, 3046, 3047, 3048, 1002], [], [sgX3_dealOut]), (87, 1, .iconst 1, [], [1], []), (88, 1, .ireturn, [1], [], [])]
def bsX10_entry : List (Nat × List gw_E) := [(0, bkX10_entry_0), (10, bkX10_entry_10), (12, bkX10_entry_12), (55, bkX10_entry_55), (57, bkX10_entry_57)]
theorem fdX10_entry_0 : gw_find bsX10_entry 0 = bkX10_entry_0 := rfl
theorem fdX10_entry_10 : gw_find bsX10_entry 10 = bkX10_entry_10 := rfl
theorem fdX10_entry_12 : gw_find bsX10_entry 12 = bkX10_entry_12 := rfl
theorem fdX10_entry_55 : gw_find bsX10_entry 55 = bkX10_entry_55 := rfl
theorem fdX10_entry_57 : gw_find bsX10_entry 57 = bkX10_entry_57 := rfl
set_option maxRecDepth 40000 in
theorem stX10_entry : gw_sta sgX10_entry bsX10_entry := ⟨by decide +kernel, gw_mem2 (i := 2194) rfl rfl, gw_all (by decide +kernel)⟩
def bkX10_clear_0 : List gw_E := [(0, 1, .aload_n 0, [0], [], []), (1, 3, .getfield 10, [10, 0, 1, 2172], [], []), (4, 1, .iload_n 1, [1], [], []), (5, 3, .invokevirtual 39, [1, 3, 2195, 2196, 2197, 1002], [], [sgX3_mayTell]), (8, 3, .ifCond .eq 25, [33], [], []), (11, 1, .iload_n 2, [2], [], []), (12, 3, .invokestatic 43, [1, 0, 2199, 2200, 1001, 0], [], [sgX10_isPage]), (15, 3, .ifCond .eq 18, [33], [], []), (18, 1, .aload_n 0, [0], [], []), (19, 3, .getfield 10, [10, 0, 1, 2172], [], []), (22, 1, .iload_n 1, [1], [], []), (23, 3, .invokevirtual 61, [1, 3, 3088, 3089, 3090, 1002], [], [sgX3_table]), (26, 1, .iload_n 2, [2], [], []), (27, 3, .invokevirtual 65, [1, 8, 3092, 3093, 3094, 1004], [], [sgX8_has]), (30, 3, .ifCond .ne 5, [35], [], [])]
def bkX10_clear_33 : List gw_E := [(33, 1, .iconst 0, [], [0], []), (34, 1, .ireturn, [1], [], [])]
def bkX10_clear_35 : List gw_E := [(35, 1, .aload_n 0, [0], [], []), (36, 3, .getfield 19, [10, 1, 1, 2173], [], []), (39, 1, .aload_n 0, [0], [], []), (40, 3, .getfield 10, [10, 0, 1, 2172], [], []), (43, 3, .invokevirtual 50, [1, 5, 2205, 2206, 2207, 1011], [], [sgX5_push]), (46, 1, .aload_n 0, [0], [], []), (47, 3, .getfield 10, [10, 0, 1, 2172], [], []), (50, 1, .iload_n 1, [1], [], []), (51, 1, .iload_n 2, [2], [], []), (52, 3, .invokevirtual 70, [2, 3, 3096, 3097, 3098, 1002], [], [sgX3_dropEntry]), (55, 1, .aload_n 0, [0], [], []), (56, 3, .getfield 10, [10, 0, 1, 2172], [], []), (59, 3, .invokevirtual 58, [0, 3, 3046, 3047, 3048, 1002], [], [sgX3_dealOut]), (62, 1, .iconst 1, [], [1], []), (63, 1, .ireturn, [1], [], [])]
def bsX10_clear : List (Nat × List gw_E) := [(0, bkX10_clear_0), (33, bkX10_clear_33), (35, bkX10_clear_35)]
theorem fdX10_clear_0 : gw_find bsX10_clear 0 = bkX10_clear_0 := rfl
theorem fdX10_clear_33 : gw_find bsX10_clear 33 = bkX10_clear_33 := rfl
theorem fdX10_clear_35 : gw_find bsX10_clear 35 = bkX10_clear_35 := rfl
set_option maxRecDepth 40000 in
theorem stX10_clear : gw_sta sgX10_clear bsX10_clear := ⟨by decide +kernel, gw_mem2 (i := 3087) rfl rfl, gw_all (by decide +kernel)⟩
def bkX10_room_0 : List gw_E := [(0, 1, .iload_n 1, [1], [], []), (1, 1, .iconst 1, [], [1], []), (2, 2, .bipush 16, [], [16], []), (4, 3, .invokestatic 46, [3, 0, 2202, 2203, 1001, 0], [], [sgX10_within]), (7, 3, .ifCond .ne 5, [12], [], []), (10, 1, .iconst 0, [], [0], []), (11, 1, .ireturn, [1], [], [])]
def bkX10_room_12 : List gw_E := [(12, 1, .aload_n 0, [0], [], []), (13, 3, .getfield 19, [10, 1, 1, 2173], [], []), (16, 1, .aload_n 0, [0], [], []), (17, 3, .getfield 10, [10, 0, 1, 2172], [], []), (20, 3, .invokevirtual 50, [1, 5, 2205, 2206, 2207, 1011], [], [sgX5_push]), (23, 1, .aload_n 0, [0], [], []), (24, 3, .getfield 10, [10, 0, 1, 2172], [], []), (27, 1, .iload_n 1, [1], [], []), (28, 3, .invokevirtual 74, [1, 3, 3109, 3110, 3111, 1002], [], [sgX3_makeRoom]), (31, 1, .aload_n 0, [0], [], []), (32, 3, .getfield 10, [10, 0, 1, 2172], [], []), (35, 3, .invokevirtual 58, [0, 3, 3046, 3047, 3048, 1002], [], [sgX3_dealOut]), (38, 1, .iconst 1, [], [1], []), (39, 1, .ireturn, [1], [], [])]
def bsX10_room : List (Nat × List gw_E) := [(0, bkX10_room_0), (12, bkX10_room_12)]
theorem fdX10_room_0 : gw_find bsX10_room 0 = bkX10_room_0 := rfl
theorem fdX10_room_12 : gw_find bsX10_room 12 = bkX10_room_12 := rfl
set_option maxRecDepth 40000 in
theorem stX10_room : gw_sta sgX10_room bsX10_room := ⟨by decide +kernel, gw_mem2 (i := 3108) rfl rfl, gw_all (by decide +kernel)⟩
def bkX10_foldAhead_0 : List gw_E := [(0, 1, .aload_n 0, [0], [], []), (1, 3, .getfield 19, [10, 1, 1, 2173], [], []), (4, 1, .aload_n 0, [0], [], []), (5, 3, .getfield 10, [10, 0, 1, 2172], [], []), (8, 3, .invokevirtual 50, [1, 5, 2205, 2206, 2207, 1011], [], [sgX5_push]), (11, 1, .aload_n 0, [0], [], []), (12, 3, .getfield 10, [10, 0, 1, 2172], [], []), (15, 3, .invokevirtual 78, [0, 3, 3130, 3131, 3132, 1002], [], [sgX3_foldLazyPages]), (18, 1, .istore_n 1, [1], [], []), (19, 1, .aload_n 0, [0], [], []), (20, 3, .getfield 10, [10, 0, 1, 2172], [], []), (23, 3, .invokevirtual 58, [0, 3, 3046, 3047, 3048, 1002], [], [sgX3_dealOut]), (26, 1, .iload_n 1, [1], [], []), (27, 1, .ireturn, [0], [], [])]
def bsX10_foldAhead : List (Nat × List gw_E) := [(0, bkX10_foldAhead_0)]
theorem fdX10_foldAhead_0 : gw_find bsX10_foldAhead 0 = bkX10_foldAhead_0 := rfl
set_option maxRecDepth 40000 in
theorem stX10_foldAhead : gw_sta sgX10_foldAhead bsX10_foldAhead := ⟨by decide +kernel, gw_mem2 (i := 3129) rfl rfl, gw_all (by decide +kernel)⟩
def bkX10_join_0 : List gw_E := [(0, 1, .aload_n 0, [0], [], []), (1, 3, .getfield 19, [10, 1, 1, 2173], [], []), (4, 1, .aload_n 0, [0], [], []), (5, 3, .getfield 10, [10, 0, 1, 2172], [], []), (8, 3, .invokevirtual 50, [1, 5, 2205, 2206, 2207, 1011], [], [sgX5_push]), (11, 1, .aload_n 0, [0], [], []), (12, 3, .getfield 10, [10, 0, 1, 2172], [], []), (15, 3, .invokevirtual 82, [0, 3, 3155, 3156, 3157, 1002], [], [sgX3_joinFrames]), (18, 1, .istore_n 1, [1], [], []), (19, 1, .aload_n 0, [0], [], []), (20, 3, .getfield 10, [10, 0, 1, 2172], [], []), (23, 3, .invokevirtual 58, [0, 3, 3046, 3047, 3048, 1002], [], [sgX3_dealOut]), (26, 1, .iload_n 1, [1], [], []), (27, 1, .ireturn, [0], [], [])]
def bsX10_join : List (Nat × List gw_E) := [(0, bkX10_join_0)]
theorem fdX10_join_0 : gw_find bsX10_join 0 = bkX10_join_0 := rfl
set_option maxRecDepth 40000 in
theorem stX10_join : gw_sta sgX10_join bsX10_join := ⟨by decide +kernel, gw_mem2 (i := 3154) rfl rfl, gw_all (by decide +kernel)⟩
def bkX10_trapPlace_0 : List gw_E := [(0, 1, .iload_n 1, [1], [], []), (1, 1, .iconst (-1), [], [-1], []), (2, 2, .bipush 23, [], [23], []), (4, 3, .invokestatic 46, [3, 0, 2202, 2203, 1001, 0], [], [sgX10_within]), (7, 3, .ifCond .ne 5, [12], [], []), (10, 1, .iconst 0, [], [0], []), (11, 1, .ireturn, [1], [], [])]
def bkX10_trapPlace_12 : List gw_E := [(12, 1, .aload_n 0, [0], [], []), (13, 3, .getfield 19, [10, 1, 1, 2173], [], []), (16, 1, .aload_n 0, [0], [], []), (17, 3, .getfield 10, [10, 0, 1, 2172], [], []), (20, 3, .invokevirtual 50, [1, 5, 2205, 2206, 2207, 1011], [], [sgX5_push]), (23, 1, .aload_n 0, [0], [], []), (24, 3, .getfield 10, [10, 0, 1, 2172], [], []), (27, 3, .invokevirtual 85, [0, 3, 3176, 3019, 3020, 1002], [], [sgX3_inHand]), (30, 1, .iload_n 1, [1], [], []), (31, 3, .putfield 89, [1, 3, 0, 2050], [], []), (34, 1, .aload_n 0, [0], [], []), (35, 3, .getfield 10, [10, 0, 1, 2172], [], []), (38, 3, .invokevirtual 58, [0, 3, 3046, 3047, 3048, 1002], [], [sgX3_dealOut]), (41, 1, .iconst 1, [], [1], []), (42, 1, .ireturn, [1], [], [])]
def bsX10_trapPlace : List (Nat × List gw_E) := [(0, bkX10_trapPlace_0), (12, bkX10_trapPlace_12)]
theorem fdX10_trapPlace_0 : gw_find bsX10_trapPlace 0 = bkX10_trapPlace_0 := rfl
theorem fdX10_trapPlace_12 : gw_find bsX10_trapPlace 12 = bkX10_trapPlace_12 := rfl
set_option maxRecDepth 40000 in
theorem stX10_trapPlace : gw_sta sgX10_trapPlace bsX10_trapPlace := ⟨by decide +kernel, gw_mem2 (i := 3175) rfl rfl, gw_all (by decide +kernel)⟩
def bkX10_want_0 : List gw_E := [(0, 1, .iload_n 1, [1], [], []), (1, 3, .ifCond .eq 19, [20], [], []), (4, 1, .iload_n 1, [1], [], []), (5, 1, .iconst 1, [], [1], []), (6, 3, .if_icmp .ne 18, [24], [], []), (9, 1, .aload_n 0, [0], [], []), (10, 3, .getfield 10, [10, 0, 1, 2172], [], []), (13, 3, .getfield 95, [3, 6, 0, 2083], [], []), (16, 1, .iconst 1, [], [1], []), (17, 3, .if_icmp .ne 7, [24], [], [])]
def bkX10_want_20 : List gw_E := [(20, 1, .iconst 1, [], [1], []), (21, 3, .goto 4, [25], [], [])]
def bkX10_want_24 : List gw_E := [(24, 1, .iconst 0, [], [0], [])]
def bkX10_want_25 : List gw_E := [(25, 1, .istore_n 3, [3], [], []), (26, 1, .iload_n 3, [3], [], []), (27, 3, .ifCond .eq 14, [41], [], []), (30, 1, .iload_n 2, [2], [], []), (31, 1, .iconst 0, [], [0], []), (32, 3, .sipush 255, [], [255], []), (35, 3, .invokestatic 46, [3, 0, 2202, 2203, 1001, 0], [], [sgX10_within]), (38, 3, .ifCond .ne 5, [43], [], [])]
def bkX10_want_41 : List gw_E := [(41, 1, .iconst 0, [], [0], []), (42, 1, .ireturn, [1], [], [])]
def bkX10_want_43 : List gw_E := [(43, 1, .aload_n 0, [0], [], []), (44, 3, .getfield 19, [10, 1, 1, 2173], [], []), (47, 1, .aload_n 0, [0], [], []), (48, 3, .getfield 10, [10, 0, 1, 2172], [], []), (51, 3, .invokevirtual 50, [1, 5, 2205, 2206, 2207, 1011], [], [sgX5_push]), (54, 1, .aload_n 0, [0], [], []), (55, 3, .getfield 10, [10, 0, 1, 2172], [], []), (58, 3, .getfield 98, [3, 8, 1, 2087], [], []), (61, 1, .iload_n 1, [1], [], []), (62, 1, .iload_n 2, [2], [], []), (63, 1, .iastore, [], [], []), (64, 1, .aload_n 0, [0], [], []), (65, 3, .getfield 10, [10, 0, 1, 2172], [], []), (68, 3, .invokevirtual 58, [0, 3, 3046, 3047, 3048, 1002], [], [sgX3_dealOut]), (71, 1, .iconst 1, [], [1], []), (72, 1, .ireturn, [1], [], [])]
def bsX10_want : List (Nat × List gw_E) := [(0, bkX10_want_0), (20, bkX10_want_20), (24, bkX10_want_24), (25, bkX10_want_25), (41, bkX10_want_41), (43, bkX10_want_43)]
theorem fdX10_want_0 : gw_find bsX10_want 0 = bkX10_want_0 := rfl
theorem fdX10_want_20 : gw_find bsX10_want 20 = bkX10_want_20 := rfl
theorem fdX10_want_24 : gw_find bsX10_want 24 = bkX10_want_24 := rfl
theorem fdX10_want_25 : gw_find bsX10_want 25 = bkX10_want_25 := rfl
theorem fdX10_want_41 : gw_find bsX10_want 41 = bkX10_want_41 := rfl
theorem fdX10_want_43 : gw_find bsX10_want 43 = bkX10_want_43 := rfl
set_option maxRecDepth 40000 in
theorem stX10_want : gw_sta sgX10_want bsX10_want := ⟨by decide +kernel, gw_mem2 (i := 3180) rfl rfl, gw_all (by decide +kernel)⟩
def bkX10_touch_0 : List gw_E := [(0, 1, .iload_n 1, [1], [], []), (1, 3, .invokestatic 43, [1, 0, 2199, 2200, 1001, 0], [], [sgX10_isPage]), (4, 3, .ifCond .eq 26, [30], [], []), (7, 1, .iload_n 2, [2], [], []), (8, 3, .invokestatic 102, [1, 0, 3185, 3186, 1001, 0], [], [sgX10_isWay]), (11, 3, .ifCond .eq 19, [30], [], []), (14, 1, .iload_n 2, [2], [], []), (15, 1, .iconst 1, [], [1], []), (16, 3, .if_icmp .ne 16, [32], [], []), (19, 1, .iload_n 3, [3], [], []), (20, 1, .iconst 0, [], [0], []), (21, 3, .sipush 9999, [], [9999], []), (24, 3, .invokestatic 46, [3, 0, 2202, 2203, 1001, 0], [], [sgX10_within]), (27, 3, .ifCond .ne 5, [32], [], [])]
def bkX10_touch_30 : List gw_E := [(30, 1, .iconst (-1), [], [-1], []), (31, 1, .ireturn, [0], [], [])]
def bkX10_touch_32 : List gw_E := [(32, 1, .aload_n 0, [0], [], []), (33, 3, .getfield 19, [10, 1, 1, 2173], [], []), (36, 1, .aload_n 0, [0], [], []), (37, 3, .getfield 10, [10, 0, 1, 2172], [], []), (40, 3, .invokevirtual 50, [1, 5, 2205, 2206, 2207, 1011], [], [sgX5_push]), (43, 1, .aload_n 0, [0], [], []), (44, 3, .getfield 10, [10, 0, 1, 2172], [], []), (47, 3, .getfield 95, [3, 6, 0, 2083], [], []), (50, 1, .iconst 2, [], [2], []), (51, 3, .if_icmp .ne 16, [67], [], []), (54, 1, .aload_n 0, [0], [], []), (55, 3, .getfield 10, [10, 0, 1, 2172], [], []), (58, 1, .iload_n 1, [1], [], []), (59, 1, .iload_n 2, [2], [], []), (60, 1, .iload_n 3, [3], [], []), (61, 3, .invokevirtual 105, [3, 3, 3188, 3189, 3190, 1002], [], [sgX3_touchByInner]), (64, 3, .goto 13, [77], [], [])]
def bkX10_touch_67 : List gw_E := [(67, 1, .aload_n 0, [0], [], []), (68, 3, .getfield 10, [10, 0, 1, 2172], [], []), (71, 1, .iload_n 1, [1], [], []), (72, 1, .iload_n 2, [2], [], []), (73, 1, .iload_n 3, [3], [], []), (74, 3, .invokevirtual 109, [3, 3, 4006, 4007, 4008, 1002], [], [sgX3_touchByOuter])]
def bkX10_touch_77 : List gw_E := [(77, 2, .istore 4, [4], [], []), (79, 1, .aload_n 0, [0], [], []), (80, 3, .getfield 10, [10, 0, 1, 2172], [], []), (83, 3, .invokevirtual 58, [0, 3, 3046, 3047, 3048, 1002], [], [sgX3_dealOut]), (86, 2, .iload 4, [4], [], []), (88, 1, .ireturn, [0], [], [])]
def bsX10_touch : List (Nat × List gw_E) := [(0, bkX10_touch_0), (30, bkX10_touch_30), (32, bkX10_touch_32), (67, bkX10_touch_67), (77, bkX10_touch_77)]
theorem fdX10_touch_0 : gw_find bsX10_touch 0 = bkX10_touch_0 := rfl
theorem fdX10_touch_30 : gw_find bsX10_touch 30 = bkX10_touch_30 := rfl
theorem fdX10_touch_32 : gw_find bsX10_touch 32 = bkX10_touch_32 := rfl
theorem fdX10_touch_67 : gw_find bsX10_touch 67 = bkX10_touch_67 := rfl
theorem fdX10_touch_77 : gw_find bsX10_touch 77 = bkX10_touch_77 := rfl
set_option maxRecDepth 40000 in
theorem stX10_touch : gw_sta sgX10_touch bsX10_touch := ⟨by decide +kernel, gw_mem2 (i := 3184) rfl rfl, gw_all (by decide +kernel)⟩
def bkX10_event_0 : List gw_E := [(0, 1, .iload_n 1, [1], [], []), (1, 3, .invokestatic 112, [1, 0, 4014, 4015, 1001, 0], [], [sgX10_isEvent]), (4, 3, .ifCond .ne 5, [9], [], []), (7, 1, .iconst (-1), [], [-1], []), (8, 1, .ireturn, [0], [], [])]
def bkX10_event_9 : List gw_E := [(9, 1, .aload_n 0, [0], [], []), (10, 3, .getfield 19, [10, 1, 1, 2173], [], []), (13, 1, .aload_n 0, [0], [], []), (14, 3, .getfield 10, [10, 0, 1, 2172], [], []), (17, 3, .invokevirtual 50, [1, 5, 2205, 2206, 2207, 1011], [], [sgX5_push]), (20, 1, .aload_n 0, [0], [], []), (21, 3, .getfield 10, [10, 0, 1, 2172], [], []), (24, 3, .getfield 95, [3, 6, 0, 2083], [], []), (27, 1, .iconst 2, [], [2], []), (28, 3, .if_icmp .ne 14, [42], [], []), (31, 1, .aload_n 0, [0], [], []), (32, 3, .getfield 10, [10, 0, 1, 2172], [], []), (35, 1, .iload_n 1, [1], [], []), (36, 3, .invokevirtual 115, [1, 3, 4017, 3198, 3199, 1002], [], [sgX3_eventOfInner]), (39, 3, .goto 11, [50], [], [])]
def bkX10_event_42 : List gw_E := [(42, 1, .aload_n 0, [0], [], []), (43, 3, .getfield 10, [10, 0, 1, 2172], [], []), (46, 1, .iload_n 1, [1], [], []), (47, 3, .invokevirtual 119, [1, 3, 4018, 4019, 4020, 1002], [], [sgX3_eventOfOuter])]
def bkX10_event_50 : List gw_E := [(50, 1, .istore_n 2, [2], [], []), (51, 1, .aload_n 0, [0], [], []), (52, 3, .getfield 10, [10, 0, 1, 2172], [], []), (55, 3, .invokevirtual 58, [0, 3, 3046, 3047, 3048, 1002], [], [sgX3_dealOut]), (58, 1, .iload_n 2, [2], [], []), (59, 1, .ireturn, [0], [], [])]
def bsX10_event : List (Nat × List gw_E) := [(0, bkX10_event_0), (9, bkX10_event_9), (42, bkX10_event_42), (50, bkX10_event_50)]
theorem fdX10_event_0 : gw_find bsX10_event 0 = bkX10_event_0 := rfl
theorem fdX10_event_9 : gw_find bsX10_event 9 = bkX10_event_9 := rfl
theorem fdX10_event_42 : gw_find bsX10_event 42 = bkX10_event_42 := rfl
theorem fdX10_event_50 : gw_find bsX10_event 50 = bkX10_event_50 := rfl
set_option maxRecDepth 40000 in
theorem stX10_event : gw_sta sgX10_event bsX10_event := ⟨by decide +kernel, gw_mem2 (i := 4013) rfl rfl, gw_all (by decide +kernel)⟩
def bkX10_enter_0 : List gw_E := [(0, 1, .aload_n 0, [0], [], []), (1, 3, .getfield 10, [10, 0, 1, 2172], [], []), (4, 3, .getfield 95, [3, 6, 0, 2083], [], []), (7, 1, .iconst 1, [], [1], []), (8, 3, .if_icmp .eq 5, [13], [], []), (11, 1, .iconst 0, [], [0], []), (12, 1, .ireturn, [1], [], [])]
def bkX10_enter_13 : List gw_E := [(13, 1, .aload_n 0, [0], [], []), (14, 3, .getfield 19, [10, 1, 1, 2173], [], []), (17, 1, .aload_n 0, [0], [], []), (18, 3, .getfield 10, [10, 0, 1, 2172], [], []), (21, 3, .invokevirtual 50, [1, 5, 2205, 2206, 2207, 1011], [], [sgX5_push]), (24, 1, .aload_n 0, [0], [], []), (25, 3, .getfield 10, [10, 0, 1, 2172], [], []), (28, 3, .invokevirtual 122, [0, 3, 4026, 4027, 4028, 1002], [], [sgX3_enterInner]), (31, 1, .aload_n 0, [0], [], []), (32, 3, .getfield 10, [10, 0, 1, 2172], [], []), (35, 3, .invokevirtual 58, [0, 3, 3046, 3047, 3048, 1002], [], [sgX3_dealOut]), (38, 1, .iconst 1, [], [1], []), (39, 1, .ireturn, [1], [], [])]
def bsX10_enter : List (Nat × List gw_E) := [(0, bkX10_enter_0), (13, bkX10_enter_13)]
theorem fdX10_enter_0 : gw_find bsX10_enter 0 = bkX10_enter_0 := rfl
theorem fdX10_enter_13 : gw_find bsX10_enter 13 = bkX10_enter_13 := rfl
set_option maxRecDepth 40000 in
theorem stX10_enter : gw_sta sgX10_enter bsX10_enter := ⟨by decide +kernel, gw_mem2 (i := 4025) rfl rfl, gw_all (by decide +kernel)⟩
def bkX10_send_0 : List gw_E := [(0, 1, .iload_n 1, [1], [], []), (1, 1, .iconst 1, [], [1], []), (2, 3, .if_icmp .eq 19, [21], [], []), (5, 1, .iload_n 1, [1], [], []), (6, 1, .iconst 2, [], [2], []), (7, 3, .if_icmp .ne 18, [25], [], []), (10, 1, .aload_n 0, [0], [], []), (11, 3, .getfield 10, [10, 0, 1, 2172], [], []), (14, 3, .getfield 95, [3, 6, 0, 2083], [], []), (17, 1, .iconst 1, [], [1], []), (18, 3, .if_icmp .ne 7, [25], [], [])]
def bkX10_send_21 : List gw_E := [(21, 1, .iconst 1, [], [1], []), (22, 3, .goto 4, [26], [], [])]
def bkX10_send_25 : List gw_E := [(25, 1, .iconst 0, [], [0], [])]
def bkX10_send_26 : List gw_E := [(26, 1, .istore_n 3, [3], [], []), (27, 1, .iload_n 3, [3], [], []), (28, 3, .ifCond .eq 25, [53], [], []), (31, 1, .iload_n 2, [2], [], []), (32, 3, .invokestatic 125, [1, 0, 4034, 4035, 1001, 0], [], [sgX10_isVector]), (35, 3, .ifCond .eq 18, [53], [], []), (38, 1, .aload_n 0, [0], [], []), (39, 3, .getfield 10, [10, 0, 1, 2172], [], []), (42, 1, .iload_n 1, [1], [], []), (43, 3, .invokevirtual 128, [1, 3, 4037, 4038, 4039, 1002], [], [sgX3_guest]), (46, 1, .iload_n 2, [2], [], []), (47, 3, .invokevirtual 132, [1, 0, 4041, 4042, 4043, 1006], [], [sgX0_awaits]), (50, 3, .ifCond .eq 5, [55], [], [])]
def bkX10_send_53 : List gw_E := [(53, 1, .iconst 0, [], [0], []), (54, 1, .ireturn, [1], [], [])]
def bkX10_send_55 : List gw_E := [(55, 1, .aload_n 0, [0], [], []), (56, 3, .getfield 19, [10, 1, 1, 2173], [], []), (59, 1, .aload_n 0, [0], [], []), (60, 3, .getfield 10, [10, 0, 1, 2172], [], []), (63, 3, .invokevirtual 50, [1, 5, 2205, 2206, 2207, 1011], [], [sgX5_push]), (66, 1, .aload_n 0, [0], [], []), (67, 3, .getfield 10, [10, 0, 1, 2172], [], []), (70, 1, .iload_n 1, [1], [], []), (71, 3, .invokevirtual 128, [1, 3, 4037, 4038, 4039, 1002], [], [sgX3_guest]), (74, 1, .iload_n 2, [2], [], []), (75, 1, .aload_n 0, [0], [], []), (76, 3, .getfield 10, [10, 0, 1, 2172], [], []), (79, 3, .getfield 137, [3, 7, 0, 2085], [], []), (82, 3, .invokevirtual 140, [2, 0, 4046, 4047, 4048, 1006], [], [sgX0_await]), (85, 1, .aload_n 0, [0], [], []), (86, 3, .getfield 10, [10, 0, 1, 2172], [], []), (89, 3, .invokevirtual 58, [0, 3, 3046, 3047, 3048, 1002], [], [sgX3_dealOut]), (92, 1, .iconst 1, [], [1], []), (93, 1, .ireturn, [1], [], [])]
def bsX10_send : List (Nat × List gw_E) := [(0, bkX10_send_0), (21, bkX10_send_21), (25, bkX10_send_25), (26, bkX10_send_26), (53, bkX10_send_53), (55, bkX10_send_55)]
theorem fdX10_send_0 : gw_find bsX10_send 0 = bkX10_send_0 := rfl
theorem fdX10_send_21 : gw_find bsX10_send 21 = bkX10_send_21 := rfl
theorem fdX10_send_25 : gw_find bsX10_send 25 = bkX10_send_25 := rfl
theorem fdX10_send_26 : gw_find bsX10_send 26 = bkX10_send_26 := rfl
theorem fdX10_send_53 : gw_find bsX10_send 53 = bkX10_send_53 := rfl
theorem fdX10_send_55 : gw_find bsX10_send 55 = bkX10_send_55 := rfl
set_option maxRecDepth 40000 in
theorem stX10_send : gw_sta sgX10_send bsX10_send := ⟨by decide +kernel, gw_mem2 (i := 4033) rfl rfl, gw_all (by decide +kernel)⟩
def bkX10_open_0 : List gw_E := [(0, 1, .iload_n 1, [1], [], []), (1, 3, .invokestatic 143, [1, 0, 4055, 4056, 1001, 0], [], [sgX10_isGuest]), (4, 3, .ifCond .ne 5, [9], [], []), (7, 1, .iconst 0, [], [0], []), (8, 1, .ireturn, [1], [], [])]
def bkX10_open_9 : List gw_E := [(9, 1, .aload_n 0, [0], [], []), (10, 3, .getfield 19, [10, 1, 1, 2173], [], []), (13, 1, .aload_n 0, [0], [], []), (14, 3, .getfield 10, [10, 0, 1, 2172], [], []), (17, 3, .invokevirtual 50, [1, 5, 2205, 2206, 2207, 1011], [], [sgX5_push]), (20, 1, .aload_n 0, [0], [], []), (21, 3, .getfield 10, [10, 0, 1, 2172], [], []), (24, 1, .iload_n 1, [1], [], []), (25, 3, .invokevirtual 128, [1, 3, 4037, 4038, 4039, 1002], [], [sgX3_guest]), (28, 1, .iload_n 2, [2], [], []), (29, 3, .putfield 146, [0, 4, 2, 1154], [], []), (32, 1, .aload_n 0, [0], [], []), (33, 3, .getfield 10, [10, 0, 1, 2172], [], []), (36, 3, .invokevirtual 58, [0, 3, 3046, 3047, 3048, 1002], [], [sgX3_dealOut]), (39, 1, .iconst 1, [], [1], []), (40, 1, .ireturn, [1], [], [])]
def bsX10_open : List (Nat × List gw_E) := [(0, bkX10_open_0), (9, bkX10_open_9)]
theorem fdX10_open_0 : gw_find bsX10_open 0 = bkX10_open_0 := rfl
theorem fdX10_open_9 : gw_find bsX10_open 9 = bkX10_open_9 := rfl
set_option maxRecDepth 40000 in
theorem stX10_open : gw_sta sgX10_open bsX10_open := ⟨by decide +kernel, gw_mem2 (i := 4054) rfl rfl, gw_all (by decide +kernel)⟩
def bkX10_finish_0 : List gw_E := [(0, 1, .aload_n 0, [0], [], []), (1, 3, .getfield 10, [10, 0, 1, 2172], [], []), (4, 1, .aload_n 0, [0], [], []), (5, 3, .getfield 10, [10, 0, 1, 2172], [], []), (8, 3, .getfield 95, [3, 6, 0, 2083], [], []), (11, 3, .invokevirtual 128, [1, 3, 4037, 4038, 4039, 1002], [], [sgX3_guest]), (14, 3, .getfield 150, [0, 3, 0, 1152], [], []), (17, 3, .ifCond .ne 5, [22], [], []), (20, 1, .iconst (-1), [], [-1], []), (21, 1, .ireturn, [0], [], [])]
def bkX10_finish_22 : List gw_E := [(22, 1, .aload_n 0, [0], [], []), (23, 3, .getfield 19, [10, 1, 1, 2173], [], []), (26, 1, .aload_n 0, [0], [], []), (27, 3, .getfield 10, [10, 0, 1, 2172], [], []), (30, 3, .invokevirtual 50, [1, 5, 2205, 2206, 2207, 1011], [], [sgX5_push]), (33, 1, .aload_n 0, [0], [], []), (34, 3, .getfield 10, [10, 0, 1, 2172], [], []), (37, 1, .aload_n 0, [0], [], []), (38, 3, .getfield 10, [10, 0, 1, 2172], [], []), (41, 3, .getfield 95, [3, 6, 0, 2083], [], []), (44, 3, .invokevirtual 128, [1, 3, 4037, 4038, 4039, 1002], [], [sgX3_guest]), (47, 3, .invokevirtual 153, [0, 0, 4062, 4063, 4064, 1006], [], [sgX0_endService]), (50, 1, .istore_n 1, [1], [], []), (51, 1, .aload_n 0, [0], [], []), (52, 3, .getfield 10, [10, 0, 1, 2172], [], []), (55, 3, .invokevirtual 58, [0, 3, 3046, 3047, 3048, 1002], [], [sgX3_dealOut]), (58, 1, .iload_n 1, [1], [], []), (59, 1, .ireturn, [0], [], [])]
def bsX10_finish : List (Nat × List gw_E) := [(0, bkX10_finish_0), (22, bkX10_finish_22)]
theorem fdX10_finish_0 : gw_find bsX10_finish 0 = bkX10_finish_0 := rfl
theorem fdX10_finish_22 : gw_find bsX10_finish 22 = bkX10_finish_22 := rfl
set_option maxRecDepth 40000 in
theorem stX10_finish : gw_sta sgX10_finish bsX10_finish := ⟨by decide +kernel, gw_mem2 (i := 4061) rfl rfl, gw_all (by decide +kernel)⟩
def bkX10_hand_0 : List gw_E := [(0, 1, .aload_n 0, [0], [], []), (1, 3, .getfield 10, [10, 0, 1, 2172], [], []), (4, 3, .getfield 95, [3, 6, 0, 2083], [], []), (7, 1, .iconst 1, [], [1], []), (8, 3, .if_icmp .ne 21, [29], [], []), (11, 1, .iload_n 1, [1], [], []), (12, 3, .invokestatic 156, [1, 0, 4070, 4071, 1001, 0], [], [sgX10_isInnerGuest]), (15, 3, .ifCond .eq 14, [29], [], []), (18, 1, .iload_n 1, [1], [], []), (19, 1, .aload_n 0, [0], [], []), (20, 3, .getfield 10, [10, 0, 1, 2172], [], []), (23, 3, .getfield 159, [3, 5, 0, 2081], [], []), (26, 3, .if_icmp .ne 5, [31], [], [])]
def bkX10_hand_29 : List gw_E := [(29, 1, .iconst 0, [], [0], []), (30, 1, .ireturn, [1], [], [])]
def bkX10_hand_31 : List gw_E := [(31, 1, .aload_n 0, [0], [], []), (32, 3, .getfield 19, [10, 1, 1, 2173], [], []), (35, 1, .aload_n 0, [0], [], []), (36, 3, .getfield 10, [10, 0, 1, 2172], [], []), (39, 3, .invokevirtual 50, [1, 5, 2205, 2206, 2207, 1011], [], [sgX5_push]), (42, 1, .aload_n 0, [0], [], []), (43, 3, .getfield 10, [10, 0, 1, 2172], [], []), (46, 1, .iload_n 1, [1], [], []), (47, 3, .invokevirtual 162, [1, 3, 4073, 4074, 4075, 1002], [], [sgX3_switchTo]), (50, 1, .aload_n 0, [0], [], []), (51, 3, .getfield 10, [10, 0, 1, 2172], [], []), (54, 3, .invokevirtual 58, [0, 3, 3046, 3047, 3048, 1002], [], [sgX3_dealOut]), (57, 1, .iconst 1, [], [1], []), (58, 1, .ireturn, [1], [], [])]
def bsX10_hand : List (Nat × List gw_E) := [(0, bkX10_hand_0), (29, bkX10_hand_29), (31, bkX10_hand_31)]
theorem fdX10_hand_0 : gw_find bsX10_hand 0 = bkX10_hand_0 := rfl
theorem fdX10_hand_29 : gw_find bsX10_hand 29 = bkX10_hand_29 := rfl
theorem fdX10_hand_31 : gw_find bsX10_hand 31 = bkX10_hand_31 := rfl
set_option maxRecDepth 40000 in
theorem stX10_hand : gw_sta sgX10_hand bsX10_hand := ⟨by decide +kernel, gw_mem2 (i := 4069) rfl rfl, gw_all (by decide +kernel)⟩
def bkX10_scale_0 : List gw_E := [(0, 1, .iload_n 1, [1], [], []), (1, 3, .invokestatic 143, [1, 0, 4055, 4056, 1001, 0], [], [sgX10_isGuest]), (4, 3, .ifCond .eq 26, [30], [], []), (7, 1, .iload_n 2, [2], [], []), (8, 1, .iconst 1, [], [1], []), (9, 2, .bipush 64, [], [64], []), (11, 3, .invokestatic 46, [3, 0, 2202, 2203, 1001, 0], [], [sgX10_within]), (14, 3, .ifCond .eq 16, [30], [], []), (17, 1, .iload_n 3, [3], [], []), (18, 3, .sipush (-9999), [], [-9999], []), (21, 3, .sipush 9999, [], [9999], []), (24, 3, .invokestatic 46, [3, 0, 2202, 2203, 1001, 0], [], [sgX10_within]), (27, 3, .ifCond .ne 5, [32], [], [])]
def bkX10_scale_30 : List gw_E := [(30, 1, .iconst 0, [], [0], []), (31, 1, .ireturn, [1], [], [])]
def bkX10_scale_32 : List gw_E := [(32, 1, .aload_n 0, [0], [], []), (33, 3, .getfield 19, [10, 1, 1, 2173], [], []), (36, 1, .aload_n 0, [0], [], []), (37, 3, .getfield 10, [10, 0, 1, 2172], [], []), (40, 3, .invokevirtual 50, [1, 5, 2205, 2206, 2207, 1011], [], [sgX5_push]), (43, 1, .aload_n 0, [0], [], []), (44, 3, .getfield 10, [10, 0, 1, 2172], [], []), (47, 1, .iload_n 1, [1], [], []), (48, 3, .invokevirtual 128, [1, 3, 4037, 4038, 4039, 1002], [], [sgX3_guest]), (51, 1, .iload_n 2, [2], [], []), (52, 3, .putfield 165, [0, 5, 0, 1157], [], []), (55, 1, .aload_n 0, [0], [], []), (56, 3, .getfield 10, [10, 0, 1, 2172], [], []), (59, 1, .iload_n 1, [1], [], []), (60, 3, .invokevirtual 128, [1, 3, 4037, 4038, 4039, 1002], [], [sgX3_guest]), (63, 1, .iload_n 3, [3], [], []), (64, 3, .putfield 168, [0, 6, 0, 1159], [], []), (67, 1, .aload_n 0, [0], [], []), (68, 3, .getfield 10, [10, 0, 1, 2172], [], []), (71, 3, .invokevirtual 58, [0, 3, 3046, 3047, 3048, 1002], [], [sgX3_dealOut]), (74, 1, .iconst 1, [], [1], []), (75, 1, .ireturn, [1], [], [])]
def bsX10_scale : List (Nat × List gw_E) := [(0, bkX10_scale_0), (30, bkX10_scale_30), (32, bkX10_scale_32)]
theorem fdX10_scale_0 : gw_find bsX10_scale 0 = bkX10_scale_0 := rfl
theorem fdX10_scale_30 : gw_find bsX10_scale 30 = bkX10_scale_30 := rfl
theorem fdX10_scale_32 : gw_find bsX10_scale 32 = bkX10_scale_32 := rfl
set_option maxRecDepth 40000 in
theorem stX10_scale : gw_sta sgX10_scale bsX10_scale := ⟨by decide +kernel, gw_mem2 (i := 4084) rfl rfl, gw_all (by decide +kernel)⟩
def bkX10_timer_0 : List gw_E := [(0, 1, .iload_n 1, [1], [], []), (1, 1, .iconst 0, [], [0], []), (2, 1, .iconst 2, [], [2], []), (3, 3, .invokestatic 46, [3, 0, 2202, 2203, 1001, 0], [], [sgX10_within]), (6, 3, .ifCond .eq 36, [42], [], []), (9, 1, .iload_n 2, [2], [], []), (10, 2, .ldc 171, [4089], [-99999], []), (12, 2, .ldc 172, [4090], [999999], []), (14, 3, .invokestatic 46, [3, 0, 2202, 2203, 1001, 0], [], [sgX10_within]), (17, 3, .ifCond .eq 25, [42], [], []), (20, 1, .iload_n 3, [3], [], []), (21, 3, .invokestatic 125, [1, 0, 4034, 4035, 1001, 0], [], [sgX10_isVector]), (24, 3, .ifCond .eq 18, [42], [], []), (27, 1, .aload_n 0, [0], [], []), (28, 3, .getfield 10, [10, 0, 1, 2172], [], []), (31, 3, .getfield 173, [3, 13, 1, 2095], [], []), (34, 3, .getfield 177, [9, 3, 0, 1193], [], []), (37, 2, .bipush 12, [], [12], []), (39, 3, .if_icmp .lt 5, [44], [], [])]
def bkX10_timer_42 : List gw_E := [(42, 1, .iconst (-1), [], [-1], []), (43, 1, .ireturn, [0], [], [])]
def bkX10_timer_44 : List gw_E := [(44, 1, .aload_n 0, [0], [], []), (45, 3, .getfield 19, [10, 1, 1, 2173], [], []), (48, 1, .aload_n 0, [0], [], []), (49, 3, .getfield 10, [10, 0, 1, 2172], [], []), (52, 3, .invokevirtual 50, [1, 5, 2205, 2206, 2207, 1011], [], [sgX5_push]), (55, 1, .aload_n 0, [0], [], []), (56, 3, .getfield 10, [10, 0, 1, 2172], [], []), (59, 3, .getfield 173, [3, 13, 1, 2095], [], []), (62, 1, .iload_n 1, [1], [], []), (63, 1, .iload_n 2, [2], [], []), (64, 1, .iload_n 3, [3], [], []), (65, 3, .invokevirtual 182, [3, 9, 4091, 4092, 4093, 1008], [], [sgX9_add]), (68, 1, .aload_n 0, [0], [], []), (69, 3, .getfield 10, [10, 0, 1, 2172], [], []), (72, 3, .invokevirtual 58, [0, 3, 3046, 3047, 3048, 1002], [], [sgX3_dealOut]), (75, 1, .aload_n 0, [0], [], []), (76, 3, .getfield 10, [10, 0, 1, 2172], [], []), (79, 3, .getfield 173, [3, 13, 1, 2095], [], []), (82, 3, .getfield 177, [9, 3, 0, 1193], [], []), (85, 1, .ireturn, [0], [], [])]
def bsX10_timer : List (Nat × List gw_E) := [(0, bkX10_timer_0), (42, bkX10_timer_42), (44, bkX10_timer_44)]
theorem fdX10_timer_0 : gw_find bsX10_timer 0 = bkX10_timer_0 := rfl
theorem fdX10_timer_42 : gw_find bsX10_timer 42 = bkX10_timer_42 := rfl
theorem fdX10_timer_44 : gw_find bsX10_timer 44 = bkX10_timer_44 := rfl
set_option maxRecDepth 40000 in
theorem stX10_timer : gw_sta sgX10_timer bsX10_timer := ⟨by decide +kernel, gw_mem2 (i := 4088) rfl rfl, gw_all (by decide +kernel)⟩
def bkX10_cancel_0 : List gw_E := [(0, 1, .iload_n 1, [1], [], []), (1, 1, .iconst 0, [], [0], []), (2, 1, .aload_n 0, [0], [], []), (3, 3, .getfield 10, [10, 0, 1, 2172], [], []), (6, 3, .getfield 173, [3, 13, 1, 2095], [], []), (9, 3, .getfield 177, [9, 3, 0, 1193], [], []), (12, 1, .iconst 1, [], [1], []), (13, 1, .isub, [], [], []), (14, 3, .invokestatic 46, [3, 0, 2202, 2203, 1001, 0], [], [sgX10_within]), (17, 3, .ifCond .ne 5, [22], [], []), (20, 1, .iconst 0, [], [0], []), (21, 1, .ireturn, [1], [], [])]
def bkX10_cancel_22 : List gw_E := [(22, 1, .aload_n 0, [0], [], []), (23, 3, .getfield 19, [10, 1, 1, 2173], [], []), (26, 1, .aload_n 0, [0], [], []), (27, 3, .getfield 10, [10, 0, 1, 2172], [], []), (30, 3, .invokevirtual 50, [1, 5, 2205, 2206, 2207, 1011], [], [sgX5_push]), (33, 1, .aload_n 0, [0], [], []), (34, 3, .getfield 10, [10, 0, 1, 2172], [], []), (37, 3, .getfield 173, [3, 13, 1, 2095], [], []), (40, 1, .iload_n 1, [1], [], []), (41, 3, .invokevirtual 186, [1, 9, 4099, 4100, 4101, 1008], [], [sgX9_removeAt]), (44, 1, .aload_n 0, [0], [], []), (45, 3, .getfield 10, [10, 0, 1, 2172], [], []), (48, 3, .invokevirtual 58, [0, 3, 3046, 3047, 3048, 1002], [], [sgX3_dealOut]), (51, 1, .iconst 1, [], [1], []), (52, 1, .ireturn, [1], [], [])]
def bsX10_cancel : List (Nat × List gw_E) := [(0, bkX10_cancel_0), (22, bkX10_cancel_22)]
theorem fdX10_cancel_0 : gw_find bsX10_cancel 0 = bkX10_cancel_0 := rfl
theorem fdX10_cancel_22 : gw_find bsX10_cancel 22 = bkX10_cancel_22 := rfl
set_option maxRecDepth 40000 in
theorem stX10_cancel : gw_sta sgX10_cancel bsX10_cancel := ⟨by decide +kernel, gw_mem2 (i := 4098) rfl rfl, gw_all (by decide +kernel)⟩
def bkX10_handler_0 : List gw_E := [(0, 1, .iload_n 1, [1], [], []), (1, 3, .invokestatic 189, [1, 0, 4107, 4108, 1001, 0], [], [sgX10_mayHaveHandler]), (4, 3, .ifCond .eq 13, [17], [], []), (7, 1, .iload_n 2, [2], [], []), (8, 1, .iconst (-1), [], [-1], []), (9, 2, .bipush 23, [], [23], []), (11, 3, .invokestatic 46, [3, 0, 2202, 2203, 1001, 0], [], [sgX10_within]), (14, 3, .ifCond .ne 5, [19], [], [])]
def bkX10_handler_17 : List gw_E := [(17, 1, .iconst 0, [], [0], []), (18, 1, .ireturn, [1], [], [])]
def bkX10_handler_19 : List gw_E := [(19, 1, .aload_n 0, [0], [], []), (20, 3, .getfield 19, [10, 1, 1, 2173], [], []), (23, 1, .aload_n 0, [0], [], []), (24, 3, .getfield 10, [10, 0, 1, 2172], [], []), (27, 3, .invokevirtual 50, [1, 5, 2205, 2206, 2207, 1011], [], [sgX5_push]), (30, 1, .aload_n 0, [0], [], []), (31, 3, .getfield 10, [10, 0, 1, 2172], [], []), (34, 3, .getfield 192, [3, 9, 1, 2089], [], []), (37, 1, .iload_n 1, [1], [], []), (38, 1, .iload_n 2, [2], [], []), (39, 1, .iastore, [], [], []), (40, 1, .aload_n 0, [0], [], []), (41, 3, .getfield 10, [10, 0, 1, 2172], [], []), (44, 3, .invokevirtual 58, [0, 3, 3046, 3047, 3048, 1002], [], [sgX3_dealOut]), (47, 1, .iconst 1, [], [1], []), (48, 1, .ireturn, [1], [], [])]
def bsX10_handler : List (Nat × List gw_E) := [(0, bkX10_handler_0), (17, bkX10_handler_17), (19, bkX10_handler_19)]
theorem fdX10_handler_0 : gw_find bsX10_handler 0 = bkX10_handler_0 := rfl
theorem fdX10_handler_17 : gw_find bsX10_handler 17 = bkX10_handler_17 := rfl
theorem fdX10_handler_19 : gw_find bsX10_handler 19 = bkX10_handler_19 := rfl
set_option maxRecDepth 40000 in
theorem stX10_handler : gw_sta sgX10_handler bsX10_handler := ⟨by decide +kernel, gw_mem2 (i := 4106) rfl rfl, gw_all (by decide +kernel)⟩
def bkX10_slice_0 : List gw_E := [(0, 1, .iload_n 1, [1], [], []), (1, 1, .iconst 0, [], [0], []), (2, 2, .bipush 99, [], [99], []), (4, 3, .invokestatic 46, [3, 0, 2202, 2203, 1001, 0], [], [sgX10_within]), (7, 3, .ifCond .ne 5, [12], [], []), (10, 1, .iconst 0, [], [0], []), (11, 1, .ireturn, [1], [], [])]
def bkX10_slice_12 : List gw_E := [(12, 1, .aload_n 0, [0], [], []), (13, 3, .getfield 19, [10, 1, 1, 2173], [], []), (16, 1, .aload_n 0, [0], [], []), (17, 3, .getfield 10, [10, 0, 1, 2172], [], []), (20, 3, .invokevirtual 50, [1, 5, 2205, 2206, 2207, 1011], [], [sgX5_push]), (23, 1, .aload_n 0, [0], [], []), (24, 3, .getfield 10, [10, 0, 1, 2172], [], []), (27, 1, .iload_n 1, [1], [], []), (28, 3, .putfield 195, [3, 10, 0, 2091], [], []), (31, 1, .aload_n 0, [0], [], []), (32, 3, .getfield 10, [10, 0, 1, 2172], [], []), (35, 3, .invokevirtual 58, [0, 3, 3046, 3047, 3048, 1002], [], [sgX3_dealOut]), (38, 1, .iconst 1, [], [1], []), (39, 1, .ireturn, [1], [], [])]
def bsX10_slice : List (Nat × List gw_E) := [(0, bkX10_slice_0), (12, bkX10_slice_12)]
theorem fdX10_slice_0 : gw_find bsX10_slice 0 = bkX10_slice_0 := rfl
theorem fdX10_slice_12 : gw_find bsX10_slice 12 = bkX10_slice_12 := rfl
set_option maxRecDepth 40000 in
theorem stX10_slice : gw_sta sgX10_slice bsX10_slice := ⟨by decide +kernel, gw_mem2 (i := 4113) rfl rfl, gw_all (by decide +kernel)⟩
def bkX10_forget_0 : List gw_E := [(0, 1, .aload_n 0, [0], [], []), (1, 3, .getfield 19, [10, 1, 1, 2173], [], []), (4, 1, .aload_n 0, [0], [], []), (5, 3, .getfield 10, [10, 0, 1, 2172], [], []), (8, 3, .invokevirtual 50, [1, 5, 2205, 2206, 2207, 1011], [], [sgX5_push]), (11, 1, .aload_n 0, [0], [], []), (12, 3, .getfield 10, [10, 0, 1, 2172], [], []), (15, 3, .getfield 198, [3, 0, 1, 2072], [], []), (18, 3, .getfield 202, [4, 4, 0, 1082], [], []), (21, 3, .invokestatic 207, [1, 0, 4118, 4119, 1017, 0], [], [sgJ6_bitCount_0f7a4]), (24, 1, .istore_n 1, [1], [], []), (25, 1, .aload_n 0, [0], [], []), (26, 3, .getfield 10, [10, 0, 1, 2172], [], []), (29, 3, .getfield 198, [3, 0, 1, 2072], [], []), (32, 1, .iconst 0, [], [0], []), (33, 3, .putfield 202, [4, 4, 0, 1082], [], []), (36, 1, .aload_n 0, [0], [], []), (37, 3, .getfield 10, [10, 0, 1, 2172], [], []), (40, 3, .invokevirtual 58, [0, 3, 3046, 3047, 3048, 1002], [], [sgX3_dealOut]), (43, 1, .iload_n 1, [1], [], []), (44, 1, .ireturn, [0], [], [])]
def bsX10_forget : List (Nat × List gw_E) := [(0, bkX10_forget_0)]
theorem fdX10_forget_0 : gw_find bsX10_forget 0 = bkX10_forget_0 := rfl
set_option maxRecDepth 40000 in
theorem stX10_forget : gw_sta sgX10_forget bsX10_forget := ⟨by decide +kernel, gw_mem2 (i := 4117) rfl rfl, gw_all (by decide +kernel)⟩
def bkX10_pass_0 : List gw_E := [(0, 1, .aload_n 0, [0], [], []), (1, 1, .iload_n 1, [1], [], []), (2, 3, .sipush 200, [], [200], []), (5, 3, .invokevirtual 212, [2, 10, 4128, 4130, 10, 1001], [], [sgX10_mayGo]), (8, 3, .ifCond .ne 5, [13], [], []), (11, 1, .iconst (-1), [], [-1], []), (12, 1, .ireturn, [0], [], [])]
def bkX10_pass_13 : List gw_E := [(13, 1, .aload_n 0, [0], [], []), (14, 3, .getfield 19, [10, 1, 1, 2173], [], []), (17, 1, .aload_n 0, [0], [], []), (18, 3, .getfield 10, [10, 0, 1, 2172], [], []), (21, 3, .invokevirtual 50, [1, 5, 2205, 2206, 2207, 1011], [], [sgX5_push]), (24, 1, .iconst 0, [], [0], []), (25, 1, .istore_n 2, [2], [], []), (26, 1, .iconst 0, [], [0], []), (27, 1, .istore_n 3, [3], [], [])]
def bkX10_pass_28 : List gw_E := [(28, 1, .iload_n 3, [3], [], []), (29, 1, .iload_n 1, [1], [], []), (30, 3, .if_icmp .ge 26, [56], [], []), (33, 1, .iload_n 2, [2], [], []), (34, 1, .aload_n 0, [0], [], []), (35, 3, .getfield 10, [10, 0, 1, 2172], [], []), (38, 3, .invokevirtual 216, [0, 3, 4133, 4134, 4135, 1002], [], [sgX3_timeGoesOn]), (41, 1, .iadd, [], [], []), (42, 1, .istore_n 2, [2], [], []), (43, 1, .aload_n 0, [0], [], []), (44, 3, .getfield 10, [10, 0, 1, 2172], [], []), (47, 3, .invokevirtual 58, [0, 3, 3046, 3047, 3048, 1002], [], [sgX3_dealOut]), (50, 3, .iinc 3 1, [3], [1], []), (53, 3, .goto (-25), [28], [], [])]
def bkX10_pass_56 : List gw_E := [(56, 1, .iload_n 2, [2], [], []), (57, 1, .ireturn, [0], [], [])]
def bsX10_pass : List (Nat × List gw_E) := [(0, bkX10_pass_0), (13, bkX10_pass_13), (28, bkX10_pass_28), (56, bkX10_pass_56)]
theorem fdX10_pass_0 : gw_find bsX10_pass 0 = bkX10_pass_0 := rfl
theorem fdX10_pass_13 : gw_find bsX10_pass 13 = bkX10_pass_13 := rfl
theorem fdX10_pass_28 : gw_find bsX10_pass 28 = bkX10_pass_28 := rfl
theorem fdX10_pass_56 : gw_find bsX10_pass 56 = bkX10_pass_56 := rfl
set_option maxRecDepth 40000 in
theorem stX10_pass : gw_sta sgX10_pass bsX10_pass := ⟨by decide +kernel, gw_mem2 (i := 4127) rfl rfl, gw_all (by decide +kernel)⟩
def bkX10_act_0 : List gw_E := [(0, 1, .iload_n 1, [1], [], []), (1, 3, .invokestatic 143, [1, 0, 4055, 4056, 1001, 0], [], [sgX10_isGuest]), (4, 3, .ifCond .eq 14, [18], [], []), (7, 1, .iload_n 1, [1], [], []), (8, 1, .iload_n 2, [2], [], []), (9, 1, .iload_n 3, [3], [], []), (10, 2, .iload 4, [4], [], []), (12, 3, .invokestatic 219, [4, 0, 4167, 4168, 1001, 0], [], [sgX10_isAct]), (15, 3, .ifCond .ne 5, [20], [], [])]
def bkX10_act_18 : List gw_E := [(18, 1, .iconst (-1), [], [-1], []), (19, 1, .ireturn, [0], [], [])]
def bkX10_act_20 : List gw_E := [(20, 1, .aload_n 0, [0], [], []), (21, 3, .getfield 10, [10, 0, 1, 2172], [], []), (24, 1, .iload_n 1, [1], [], []), (25, 3, .invokevirtual 128, [1, 3, 4037, 4038, 4039, 1002], [], [sgX3_guest]), (28, 3, .getfield 223, [0, 0, 1, 1146], [], []), (31, 2, .astore 5, [5], [], []), (33, 2, .aload 5, [5], [], []), (35, 3, .getfield 227, [7, 3, 0, 1126], [], []), (38, 2, .bipush 24, [], [24], []), (40, 3, .if_icmp .lt 5, [45], [], []), (43, 1, .iconst (-1), [], [-1], []), (44, 1, .ireturn, [0], [], [])]
def bkX10_act_45 : List gw_E := [(45, 1, .aload_n 0, [0], [], []), (46, 3, .getfield 19, [10, 1, 1, 2173], [], []), (49, 1, .aload_n 0, [0], [], []), (50, 3, .getfield 10, [10, 0, 1, 2172], [], []), (53, 3, .invokevirtual 50, [1, 5, 2205, 2206, 2207, 1011], [], [sgX5_push]), (56, 2, .aload 5, [5], [], []), (58, 1, .iload_n 2, [2], [], []), (59, 1, .iload_n 3, [3], [], []), (60, 2, .iload 4, [4], [], []), (62, 3, .invokevirtual 230, [3, 7, 4176, 4177, 4178, 1007], [], [sgX7_add]), (65, 1, .aload_n 0, [0], [], []), (66, 3, .getfield 10, [10, 0, 1, 2172], [], []), (69, 3, .invokevirtual 58, [0, 3, 3046, 3047, 3048, 1002], [], [sgX3_dealOut]), (72, 2, .aload 5, [5], [], []), (74, 3, .getfield 227, [7, 3, 0, 1126], [], []), (77, 1, .ireturn, [0], [], [])]
def bsX10_act : List (Nat × List gw_E) := [(0, bkX10_act_0), (18, bkX10_act_18), (20, bkX10_act_20), (45, bkX10_act_45)]
theorem fdX10_act_0 : gw_find bsX10_act 0 = bkX10_act_0 := rfl
theorem fdX10_act_18 : gw_find bsX10_act 18 = bkX10_act_18 := rfl
theorem fdX10_act_20 : gw_find bsX10_act 20 = bkX10_act_20 := rfl
theorem fdX10_act_45 : gw_find bsX10_act 45 = bkX10_act_45 := rfl
set_option maxRecDepth 40000 in
theorem stX10_act : gw_sta sgX10_act bsX10_act := ⟨by decide +kernel, gw_mem2 (i := 4166) rfl rfl, gw_all (by decide +kernel)⟩
def bkX10_wipe_0 : List gw_E := [(0, 1, .iload_n 1, [1], [], []), (1, 3, .invokestatic 143, [1, 0, 4055, 4056, 1001, 0], [], [sgX10_isGuest]), (4, 3, .ifCond .ne 5, [9], [], []), (7, 1, .iconst (-1), [], [-1], []), (8, 1, .ireturn, [0], [], [])]
def bkX10_wipe_9 : List gw_E := [(9, 1, .aload_n 0, [0], [], []), (10, 3, .getfield 19, [10, 1, 1, 2173], [], []), (13, 1, .aload_n 0, [0], [], []), (14, 3, .getfield 10, [10, 0, 1, 2172], [], []), (17, 3, .invokevirtual 50, [1, 5, 2205, 2206, 2207, 1011], [], [sgX5_push]), (20, 1, .aload_n 0, [0], [], []), (21, 3, .getfield 10, [10, 0, 1, 2172], [], []), (24, 1, .iload_n 1, [1], [], []), (25, 3, .invokevirtual 128, [1, 3, 4037, 4038, 4039, 1002], [], [sgX3_guest]), (28, 3, .getfield 223, [0, 0, 1, 1146], [], []), (31, 1, .astore_n 2, [2], [], []), (32, 1, .aload_n 2, [2], [], []), (33, 3, .getfield 227, [7, 3, 0, 1126], [], []), (36, 1, .istore_n 3, [3], [], []), (37, 1, .aload_n 2, [2], [], []), (38, 1, .iconst 0, [], [0], []), (39, 3, .putfield 227, [7, 3, 0, 1126], [], []), (42, 1, .aload_n 2, [2], [], []), (43, 1, .iconst 0, [], [0], []), (44, 3, .putfield 231, [7, 4, 0, 1130], [], []), (47, 1, .aload_n 0, [0], [], []), (48, 3, .getfield 10, [10, 0, 1, 2172], [], []), (51, 3, .invokevirtual 58, [0, 3, 3046, 3047, 3048, 1002], [], [sgX3_dealOut]), (54, 1, .iload_n 3, [3], [], []), (55, 1, .ireturn, [0], [], [])]
def bsX10_wipe : List (Nat × List gw_E) := [(0, bkX10_wipe_0), (9, bkX10_wipe_9)]
theorem fdX10_wipe_0 : gw_find bsX10_wipe 0 = bkX10_wipe_0 := rfl
theorem fdX10_wipe_9 : gw_find bsX10_wipe 9 = bkX10_wipe_9 := rfl
set_option maxRecDepth 40000 in
theorem stX10_wipe : gw_sta sgX10_wipe bsX10_wipe := ⟨by decide +kernel, gw_mem2 (i := 4183) rfl rfl, gw_all (by decide +kernel)⟩
def bkX10_run_0 : List gw_E := [(0, 1, .aload_n 0, [0], [], []), (1, 1, .iload_n 1, [1], [], []), (2, 3, .sipush 200, [], [200], []), (5, 3, .invokevirtual 212, [2, 10, 4128, 4130, 10, 1001], [], [sgX10_mayGo]), (8, 3, .ifCond .ne 5, [13], [], []), (11, 1, .iconst (-1), [], [-1], []), (12, 1, .ireturn, [0], [], [])]
def bkX10_run_13 : List gw_E := [(13, 1, .aload_n 0, [0], [], []), (14, 3, .getfield 19, [10, 1, 1, 2173], [], []), (17, 1, .aload_n 0, [0], [], []), (18, 3, .getfield 10, [10, 0, 1, 2172], [], []), (21, 3, .invokevirtual 50, [1, 5, 2205, 2206, 2207, 1011], [], [sgX5_push]), (24, 1, .aload_n 0, [0], [], []), (25, 3, .getfield 10, [10, 0, 1, 2172], [], []), (28, 3, .getfield 234, [3, 14, 1, 2097], [], []), (31, 3, .invokevirtual 238, [0, 2, 4188, 4189, 4190, 1009], [], [sgX2_allExits]), (34, 1, .istore_n 2, [2], [], []), (35, 1, .iconst 0, [], [0], []), (36, 1, .istore_n 3, [3], [], [])]
def bkX10_run_37 : List gw_E := [(37, 1, .iload_n 3, [3], [], []), (38, 1, .iload_n 1, [1], [], []), (39, 3, .if_icmp .ge 16, [55], [], []), (42, 1, .aload_n 0, [0], [], []), (43, 3, .getfield 10, [10, 0, 1, 2172], [], []), (46, 3, .invokevirtual 243, [0, 3, 4192, 4193, 4194, 1002], [], [sgX3_goOn]), (49, 3, .iinc 3 1, [3], [1], []), (52, 3, .goto (-15), [37], [], [])]
def bkX10_run_55 : List gw_E := [(55, 1, .aload_n 0, [0], [], []), (56, 3, .getfield 10, [10, 0, 1, 2172], [], []), (59, 3, .getfield 234, [3, 14, 1, 2097], [], []), (62, 3, .invokevirtual 238, [0, 2, 4188, 4189, 4190, 1009], [], [sgX2_allExits]), (65, 1, .iload_n 2, [2], [], []), (66, 1, .isub, [], [], []), (67, 1, .ireturn, [0], [], [])]
def bsX10_run : List (Nat × List gw_E) := [(0, bkX10_run_0), (13, bkX10_run_13), (37, bkX10_run_37), (55, bkX10_run_55)]
theorem fdX10_run_0 : gw_find bsX10_run 0 = bkX10_run_0 := rfl
theorem fdX10_run_13 : gw_find bsX10_run 13 = bkX10_run_13 := rfl
theorem fdX10_run_37 : gw_find bsX10_run 37 = bkX10_run_37 := rfl
theorem fdX10_run_55 : gw_find bsX10_run 55 = bkX10_run_55 := rfl
set_option maxRecDepth 40000 in
theorem stX10_run : gw_sta sgX10_run bsX10_run := ⟨by decide +kernel, gw_mem2 (i := 4187) rfl rfl, gw_all (by decide +kernel)⟩
def bkX10_undo_0 : List gw_E := [(0, 1, .aload_n 0, [0], [], []), (1, 3, .getfield 19, [10, 1, 1, 2173], [], []), (4, 3, .getfield 246, [5, 2, 0, 2140], [], []), (7, 3, .ifCond .ne 5, [12], [], []), (10, 1, .iconst (-1), [], [-1], []), (11, 1, .ireturn, [0], [], [])]
def bkX10_undo_12 : List gw_E := [(12, 1, .aload_n 0, [0], [], []), (13, 3, .getfield 19, [10, 1, 1, 2173], [], []), (16, 1, .aload_n 0, [0], [], []), (17, 3, .getfield 10, [10, 0, 1, 2172], [], []), (20, 3, .invokevirtual 247, [1, 5, 5002, 5003, 5004, 1011], [], [sgX5_popInto]), (23, 1, .aload_n 0, [0], [], []), (24, 3, .getfield 19, [10, 1, 1, 2173], [], []), (27, 3, .getfield 246, [5, 2, 0, 2140], [], []), (30, 1, .ireturn, [0], [], [])]
def bsX10_undo : List (Nat × List gw_E) := [(0, bkX10_undo_0), (12, bkX10_undo_12)]
theorem fdX10_undo_0 : gw_find bsX10_undo 0 = bkX10_undo_0 := rfl
theorem fdX10_undo_12 : gw_find bsX10_undo 12 = bkX10_undo_12 := rfl
set_option maxRecDepth 40000 in
theorem stX10_undo : gw_sta sgX10_undo bsX10_undo := ⟨by decide +kernel, gw_mem2 (i := 5001) rfl rfl, gw_all (by decide +kernel)⟩
def bkX10_is_0 : List gw_E := [(0, 1, .aload_n 0, [0], [], []), (1, 3, .getfield 10, [10, 0, 1, 2172], [], []), (4, 1, .iload_n 1, [1], [], []), (5, 3, .invokevirtual 250, [1, 3, 5010, 5011, 5012, 1002], [], [sgX3_figure]), (8, 1, .ireturn, [0], [], [])]
def bsX10_is : List (Nat × List gw_E) := [(0, bkX10_is_0)]
theorem fdX10_is_0 : gw_find bsX10_is 0 = bkX10_is_0 := rfl
set_option maxRecDepth 40000 in
theorem stX10_is : gw_sta sgX10_is bsX10_is := ⟨by decide +kernel, gw_mem2 (i := 5009) rfl rfl, gw_all (by decide +kernel)⟩
def bkX10_told_0 : List gw_E := [(0, 1, .iload_n 1, [1], [], []), (1, 1, .iconst 0, [], [0], []), (2, 1, .iconst 3, [], [3], []), (3, 3, .invokestatic 46, [3, 0, 2202, 2203, 1001, 0], [], [sgX10_within]), (6, 3, .ifCond .eq 19, [25], [], []), (9, 1, .iload_n 2, [2], [], []), (10, 3, .invokestatic 43, [1, 0, 2199, 2200, 1001, 0], [], [sgX10_isPage]), (13, 3, .ifCond .eq 12, [25], [], []), (16, 1, .iload_n 3, [3], [], []), (17, 1, .iconst 0, [], [0], []), (18, 1, .iconst 1, [], [1], []), (19, 3, .invokestatic 46, [3, 0, 2202, 2203, 1001, 0], [], [sgX10_within]), (22, 3, .ifCond .ne 5, [27], [], [])]
def bkX10_told_25 : List gw_E := [(25, 1, .iconst (-1), [], [-1], []), (26, 1, .ireturn, [0], [], [])]
def bkX10_told_27 : List gw_E := [(27, 1, .aload_n 0, [0], [], []), (28, 3, .getfield 10, [10, 0, 1, 2172], [], []), (31, 1, .iload_n 1, [1], [], []), (32, 3, .invokevirtual 61, [1, 3, 3088, 3089, 3090, 1002], [], [sgX3_table]), (35, 2, .astore 4, [4], [], []), (37, 2, .aload 4, [4], [], []), (39, 1, .iload_n 2, [2], [], []), (40, 3, .invokevirtual 65, [1, 8, 3092, 3093, 3094, 1004], [], [sgX8_has]), (43, 3, .ifCond .ne 5, [48], [], []), (46, 1, .iconst (-1), [], [-1], []), (47, 1, .ireturn, [0], [], [])]
def bkX10_told_48 : List gw_E := [(48, 1, .iload_n 3, [3], [], []), (49, 3, .ifCond .ne 13, [62], [], []), (52, 2, .aload 4, [4], [], []), (54, 3, .getfield 253, [8, 0, 1, 1052], [], []), (57, 1, .iload_n 2, [2], [], []), (58, 1, .iaload, [], [], []), (59, 3, .goto 10, [69], [], [])]
def bkX10_told_62 : List gw_E := [(62, 2, .aload 4, [4], [], []), (64, 3, .getfield 256, [8, 1, 1, 1056], [], []), (67, 1, .iload_n 2, [2], [], []), (68, 1, .iaload, [], [], [])]
def bkX10_told_69 : List gw_E := [(69, 1, .ireturn, [0], [], [])]
def bsX10_told : List (Nat × List gw_E) := [(0, bkX10_told_0), (25, bkX10_told_25), (27, bkX10_told_27), (48, bkX10_told_48), (62, bkX10_told_62), (69, bkX10_told_69)]
theorem fdX10_told_0 : gw_find bsX10_told 0 = bkX10_told_0 := rfl
theorem fdX10_told_25 : gw_find bsX10_told 25 = bkX10_told_25 := rfl
theorem fdX10_told_27 : gw_find bsX10_told 27 = bkX10_told_27 := rfl
theorem fdX10_told_48 : gw_find bsX10_told 48 = bkX10_told_48 := rfl
theorem fdX10_told_62 : gw_find bsX10_told 62 = bkX10_told_62 := rfl
theorem fdX10_told_69 : gw_find bsX10_told 69 = bkX10_told_69 := rfl
set_option maxRecDepth 40000 in
theorem stX10_told : gw_sta sgX10_told bsX10_told := ⟨by decide +kernel, gw_mem2 (i := 5022) rfl rfl, gw_all (by decide +kernel)⟩
def bkX10_folded_0 : List gw_E := [(0, 1, .aload_n 0, [0], [], []), (1, 3, .getfield 10, [10, 0, 1, 2172], [], []), (4, 3, .getfield 259, [3, 1, 1, 2074], [], []), (7, 1, .iload_n 1, [1], [], []), (8, 3, .invokevirtual 263, [1, 8, 5027, 5028, 5029, 1004], [], [sgX8_byAge]), (11, 1, .ireturn, [0], [], [])]
def bsX10_folded : List (Nat × List gw_E) := [(0, bkX10_folded_0)]
theorem fdX10_folded_0 : gw_find bsX10_folded 0 = bkX10_folded_0 := rfl
set_option maxRecDepth 40000 in
theorem stX10_folded : gw_sta sgX10_folded bsX10_folded := ⟨by decide +kernel, gw_mem2 (i := 5026) rfl rfl, gw_all (by decide +kernel)⟩
def bkX10_frame_0 : List gw_E := [(0, 1, .iload_n 1, [1], [], []), (1, 3, .invokestatic 266, [1, 0, 5039, 5040, 1001, 0], [], [sgX10_isFrame]), (4, 3, .ifCond .eq 18, [22], [], []), (7, 1, .aload_n 0, [0], [], []), (8, 3, .getfield 10, [10, 0, 1, 2172], [], []), (11, 3, .getfield 198, [3, 0, 1, 2072], [], []), (14, 3, .getfield 269, [4, 1, 1, 1074], [], []), (17, 1, .iload_n 1, [1], [], []), (18, 1, .iaload, [], [], []), (19, 3, .goto 4, [23], [], [])]
def bkX10_frame_22 : List gw_E := [(22, 1, .iconst (-1), [], [-1], [])]
def bkX10_frame_23 : List gw_E := [(23, 1, .ireturn, [0], [], [])]
def bsX10_frame : List (Nat × List gw_E) := [(0, bkX10_frame_0), (22, bkX10_frame_22), (23, bkX10_frame_23)]
theorem fdX10_frame_0 : gw_find bsX10_frame 0 = bkX10_frame_0 := rfl
theorem fdX10_frame_22 : gw_find bsX10_frame 22 = bkX10_frame_22 := rfl
theorem fdX10_frame_23 : gw_find bsX10_frame 23 = bkX10_frame_23 := rfl
set_option maxRecDepth 40000 in
theorem stX10_frame : gw_sta sgX10_frame bsX10_frame := ⟨by decide +kernel, gw_mem2 (i := 5038) rfl rfl, gw_all (by decide +kernel)⟩
def bkX10_handled_0 : List gw_E := [(0, 1, .iload_n 1, [1], [], []), (1, 3, .invokestatic 189, [1, 0, 4107, 4108, 1001, 0], [], [sgX10_mayHaveHandler]), (4, 3, .ifCond .eq 15, [19], [], []), (7, 1, .aload_n 0, [0], [], []), (8, 3, .getfield 10, [10, 0, 1, 2172], [], []), (11, 3, .getfield 192, [3, 9, 1, 2089], [], []), (14, 1, .iload_n 1, [1], [], []), (15, 1, .iaload, [], [], []), (16, 3, .goto 4, [20], [], [])]
def bkX10_handled_19 : List gw_E := [(19, 1, .iconst (-1), [], [-1], [])]
def bkX10_handled_20 : List gw_E := [(20, 1, .ireturn, [0], [], [])]
def bsX10_handled : List (Nat × List gw_E) := [(0, bkX10_handled_0), (19, bkX10_handled_19), (20, bkX10_handled_20)]
theorem fdX10_handled_0 : gw_find bsX10_handled 0 = bkX10_handled_0 := rfl
theorem fdX10_handled_19 : gw_find bsX10_handled 19 = bkX10_handled_19 := rfl
theorem fdX10_handled_20 : gw_find bsX10_handled 20 = bkX10_handled_20 := rfl
set_option maxRecDepth 40000 in
theorem stX10_handled : gw_sta sgX10_handled bsX10_handled := ⟨by decide +kernel, gw_mem2 (i := 5045) rfl rfl, gw_all (by decide +kernel)⟩
def bkX10_stored_0 : List gw_E := [(0, 1, .iload_n 1, [1], [], []), (1, 3, .invokestatic 43, [1, 0, 2199, 2200, 1001, 0], [], [sgX10_isPage]), (4, 3, .ifCond .eq 18, [22], [], []), (7, 1, .aload_n 0, [0], [], []), (8, 3, .getfield 10, [10, 0, 1, 2172], [], []), (11, 3, .getfield 198, [3, 0, 1, 2072], [], []), (14, 3, .getfield 272, [4, 2, 1, 1077], [], []), (17, 1, .iload_n 1, [1], [], []), (18, 1, .iaload, [], [], []), (19, 3, .goto 4, [23], [], [])]
def bkX10_stored_22 : List gw_E := [(22, 1, .iconst (-1), [], [-1], [])]
def bkX10_stored_23 : List gw_E := [(23, 1, .ireturn, [0], [], [])]
def bsX10_stored : List (Nat × List gw_E) := [(0, bkX10_stored_0), (22, bkX10_stored_22), (23, bkX10_stored_23)]
theorem fdX10_stored_0 : gw_find bsX10_stored 0 = bkX10_stored_0 := rfl
theorem fdX10_stored_22 : gw_find bsX10_stored 22 = bkX10_stored_22 := rfl
theorem fdX10_stored_23 : gw_find bsX10_stored 23 = bkX10_stored_23 := rfl
set_option maxRecDepth 40000 in
theorem stX10_stored : gw_sta sgX10_stored bsX10_stored := ⟨by decide +kernel, gw_mem2 (i := 5049) rfl rfl, gw_all (by decide +kernel)⟩
def bkX10_backed_0 : List gw_E := [(0, 1, .aload_n 0, [0], [], []), (1, 3, .getfield 10, [10, 0, 1, 2172], [], []), (4, 3, .getfield 198, [3, 0, 1, 2072], [], []), (7, 3, .getfield 275, [4, 0, 1, 1072], [], []), (10, 1, .iload_n 1, [1], [], []), (11, 3, .invokevirtual 263, [1, 8, 5027, 5028, 5029, 1004], [], [sgX8_byAge]), (14, 1, .ireturn, [0], [], [])]
def bsX10_backed : List (Nat × List gw_E) := [(0, bkX10_backed_0)]
theorem fdX10_backed_0 : gw_find bsX10_backed 0 = bkX10_backed_0 := rfl
set_option maxRecDepth 40000 in
theorem stX10_backed : gw_sta sgX10_backed bsX10_backed := ⟨by decide +kernel, gw_mem2 (i := 5053) rfl rfl, gw_all (by decide +kernel)⟩
def bkX10_copied_0 : List gw_E := [(0, 1, .aload_n 0, [0], [], []), (1, 3, .getfield 10, [10, 0, 1, 2172], [], []), (4, 3, .getfield 198, [3, 0, 1, 2072], [], []), (7, 3, .getfield 277, [4, 3, 0, 1080], [], []), (10, 1, .ireturn, [0], [], [])]
def bsX10_copied : List (Nat × List gw_E) := [(0, bkX10_copied_0)]
theorem fdX10_copied_0 : gw_find bsX10_copied 0 = bkX10_copied_0 := rfl
set_option maxRecDepth 40000 in
theorem stX10_copied : gw_sta sgX10_copied bsX10_copied := ⟨by decide +kernel, gw_mem2 (i := 5057) rfl rfl, gw_all (by decide +kernel)⟩
def bkX10_trapped_0 : List gw_E := [(0, 1, .iload_n 1, [1], [], []), (1, 27, .tableswitch 60 0 2 #[27, 38, 49], [61, 28, 39, 50], [0], [])]
def bkX10_trapped_28 : List gw_E := [(28, 1, .aload_n 0, [0], [], []), (29, 3, .getfield 10, [10, 0, 1, 2172], [], []), (32, 3, .invokevirtual 85, [0, 3, 3176, 3019, 3020, 1002], [], [sgX3_inHand]), (35, 3, .getfield 280, [1, 4, 0, 2054], [], []), (38, 1, .ireturn, [0], [], [])]
def bkX10_trapped_39 : List gw_E := [(39, 1, .aload_n 0, [0], [], []), (40, 3, .getfield 10, [10, 0, 1, 2172], [], []), (43, 3, .invokevirtual 85, [0, 3, 3176, 3019, 3020, 1002], [], [sgX3_inHand]), (46, 3, .getfield 283, [1, 5, 0, 2056], [], []), (49, 1, .ireturn, [0], [], [])]
def bkX10_trapped_50 : List gw_E := [(50, 1, .aload_n 0, [0], [], []), (51, 3, .getfield 10, [10, 0, 1, 2172], [], []), (54, 3, .invokevirtual 85, [0, 3, 3176, 3019, 3020, 1002], [], [sgX3_inHand]), (57, 3, .getfield 89, [1, 3, 0, 2050], [], []), (60, 1, .ireturn, [0], [], [])]
def bkX10_trapped_61 : List gw_E := [(61, 1, .iconst (-1), [], [-1], []), (62, 1, .ireturn, [0], [], [])]
def bsX10_trapped : List (Nat × List gw_E) := [(0, bkX10_trapped_0), (28, bkX10_trapped_28), (39, bkX10_trapped_39), (50, bkX10_trapped_50), (61, bkX10_trapped_61)]
theorem fdX10_trapped_0 : gw_find bsX10_trapped 0 = bkX10_trapped_0 := rfl
theorem fdX10_trapped_28 : gw_find bsX10_trapped 28 = bkX10_trapped_28 := rfl
theorem fdX10_trapped_39 : gw_find bsX10_trapped 39 = bkX10_trapped_39 := rfl
theorem fdX10_trapped_50 : gw_find bsX10_trapped 50 = bkX10_trapped_50 := rfl
theorem fdX10_trapped_61 : gw_find bsX10_trapped 61 = bkX10_trapped_61 := rfl
set_option maxRecDepth 40000 in
theorem stX10_trapped : gw_sta sgX10_trapped bsX10_trapped := ⟨by decide +kernel, gw_mem2 (i := 5061) rfl rfl, gw_all (by decide +kernel)⟩
def bkX10_heard_0 : List gw_E := [(0, 1, .iload_n 1, [1], [], []), (1, 1, .iconst (-1), [], [-1], []), (2, 3, .if_icmp .ne 16, [18], [], []), (5, 1, .aload_n 0, [0], [], []), (6, 3, .getfield 10, [10, 0, 1, 2172], [], []), (9, 3, .getfield 234, [3, 14, 1, 2097], [], []), (12, 3, .invokevirtual 286, [0, 2, 5066, 5067, 5068, 1009], [], [sgX2_heardKept]), (15, 3, .goto 14, [29], [], [])]
def bkX10_heard_18 : List gw_E := [(18, 1, .aload_n 0, [0], [], []), (19, 3, .getfield 10, [10, 0, 1, 2172], [], []), (22, 3, .getfield 234, [3, 14, 1, 2097], [], []), (25, 1, .iload_n 1, [1], [], []), (26, 3, .invokevirtual 289, [1, 2, 5073, 5074, 5075, 1009], [], [sgX2_heardAt])]
def bkX10_heard_29 : List gw_E := [(29, 1, .ireturn, [0], [], [])]
def bsX10_heard : List (Nat × List gw_E) := [(0, bkX10_heard_0), (18, bkX10_heard_18), (29, bkX10_heard_29)]
theorem fdX10_heard_0 : gw_find bsX10_heard 0 = bkX10_heard_0 := rfl
theorem fdX10_heard_18 : gw_find bsX10_heard 18 = bkX10_heard_18 := rfl
theorem fdX10_heard_29 : gw_find bsX10_heard 29 = bkX10_heard_29 := rfl
set_option maxRecDepth 40000 in
theorem stX10_heard : gw_sta sgX10_heard bsX10_heard := ⟨by decide +kernel, gw_mem2 (i := 5065) rfl rfl, gw_all (by decide +kernel)⟩
def bkX10_changed_0 : List gw_E := [(0, 1, .aload_n 0, [0], [], []), (1, 3, .getfield 10, [10, 0, 1, 2172], [], []), (4, 3, .getfield 198, [3, 0, 1, 2072], [], []), (7, 3, .getfield 202, [4, 4, 0, 1082], [], []), (10, 1, .ireturn, [0], [], [])]
def bsX10_changed : List (Nat × List gw_E) := [(0, bkX10_changed_0)]
theorem fdX10_changed_0 : gw_find bsX10_changed 0 = bkX10_changed_0 := rfl
set_option maxRecDepth 40000 in
theorem stX10_changed : gw_sta sgX10_changed bsX10_changed := ⟨by decide +kernel, gw_mem2 (i := 5082) rfl rfl, gw_all (by decide +kernel)⟩
end
section
def bkX10_walk_0 : List gw_E := [(0, 1, .iload_n 1, [1], [], []), (1, 3, .invokestatic 43, [1, 0, 2199, 2200, 1001, 0], [], [sgX10_isPage]), (4, 3, .ifCond .eq 22, [26], [], []), (7, 1, .iload_n 2, [2], [], []), (8, 3, .invokestatic 102, [1, 0, 3185, 3186, 1001, 0], [], [sgX10_isWay]), (11, 3, .ifCond .eq 15, [26], [], []), (14, 1, .aload_n 0, [0], [], []), (15, 3, .getfield 10, [10, 0, 1, 2172], [], []), (18, 1, .iload_n 1, [1], [], []), (19, 1, .iload_n 2, [2], [], []), (20, 3, .invokevirtual 292, [2, 3, 5087, 5088, 5089, 1002], [], [sgX3_walkTables]), (23, 3, .goto 4, [27], [], [])]
def bkX10_walk_26 : List gw_E := [(26, 1, .iconst (-1), [], [-1], [])]
def bkX10_walk_27 : List gw_E := [(27, 1, .ireturn, [0], [], [])]
def bsX10_walk : List (Nat × List gw_E) := [(0, bkX10_walk_0), (26, bkX10_walk_26), (27, bkX10_walk_27)]
theorem fdX10_walk_0 : gw_find bsX10_walk 0 = bkX10_walk_0 := rfl
theorem fdX10_walk_26 : gw_find bsX10_walk 26 = bkX10_walk_26 := rfl
theorem fdX10_walk_27 : gw_find bsX10_walk 27 = bkX10_walk_27 := rfl
set_option maxRecDepth 40000 in
theorem stX10_walk : gw_sta sgX10_walk bsX10_walk := ⟨by decide +kernel, gw_mem2 (i := 5086) rfl rfl, gw_all (by decide +kernel)⟩
def bkX10_given_0 : List gw_E := [(0, 1, .iload_n 1, [1], [], []), (1, 3, .invokestatic 43, [1, 0, 2199, 2200, 1001, 0], [], [sgX10_isPage]), (4, 3, .ifCond .eq 14, [18], [], []), (7, 1, .aload_n 0, [0], [], []), (8, 3, .getfield 10, [10, 0, 1, 2172], [], []), (11, 1, .iload_n 1, [1], [], []), (12, 3, .invokevirtual 296, [1, 3, 5095, 5096, 5097, 1002], [], [sgX3_rightsOfVirtual]), (15, 3, .goto 4, [19], [], [])]
def bkX10_given_18 : List gw_E := [(18, 1, .iconst (-1), [], [-1], [])]
def bkX10_given_19 : List gw_E := [(19, 1, .ireturn, [0], [], [])]
def bsX10_given : List (Nat × List gw_E) := [(0, bkX10_given_0), (18, bkX10_given_18), (19, bkX10_given_19)]
theorem fdX10_given_0 : gw_find bsX10_given 0 = bkX10_given_0 := rfl
theorem fdX10_given_18 : gw_find bsX10_given 18 = bkX10_given_18 := rfl
theorem fdX10_given_19 : gw_find bsX10_given 19 = bkX10_given_19 := rfl
set_option maxRecDepth 40000 in
theorem stX10_given : gw_sta sgX10_given bsX10_given := ⟨by decide +kernel, gw_mem2 (i := 5094) rfl rfl, gw_all (by decide +kernel)⟩
def bkX10_lazy_0 : List gw_E := [(0, 1, .aload_n 0, [0], [], []), (1, 3, .getfield 10, [10, 0, 1, 2172], [], []), (4, 3, .invokevirtual 299, [0, 3, 5103, 3135, 3136, 1002], [], [sgX3_lazyPages]), (7, 1, .ireturn, [0], [], [])]
def bsX10_lazy : List (Nat × List gw_E) := [(0, bkX10_lazy_0)]
theorem fdX10_lazy_0 : gw_find bsX10_lazy 0 = bkX10_lazy_0 := rfl
set_option maxRecDepth 40000 in
theorem stX10_lazy : gw_sta sgX10_lazy bsX10_lazy := ⟨by decide +kernel, gw_mem2 (i := 5102) rfl rfl, gw_all (by decide +kernel)⟩
def bkX10_aliases_0 : List gw_E := [(0, 1, .iload_n 1, [1], [], []), (1, 3, .invokestatic 266, [1, 0, 5039, 5040, 1001, 0], [], [sgX10_isFrame]), (4, 3, .ifCond .eq 14, [18], [], []), (7, 1, .aload_n 0, [0], [], []), (8, 3, .getfield 10, [10, 0, 1, 2172], [], []), (11, 1, .iload_n 1, [1], [], []), (12, 3, .invokevirtual 302, [1, 3, 5108, 5109, 5110, 1002], [], [sgX3_virtualPagesAt]), (15, 3, .goto 4, [19], [], [])]
def bkX10_aliases_18 : List gw_E := [(18, 1, .iconst (-1), [], [-1], [])]
def bkX10_aliases_19 : List gw_E := [(19, 1, .ireturn, [0], [], [])]
def bsX10_aliases : List (Nat × List gw_E) := [(0, bkX10_aliases_0), (18, bkX10_aliases_18), (19, bkX10_aliases_19)]
theorem fdX10_aliases_0 : gw_find bsX10_aliases 0 = bkX10_aliases_0 := rfl
theorem fdX10_aliases_18 : gw_find bsX10_aliases 18 = bkX10_aliases_18 := rfl
theorem fdX10_aliases_19 : gw_find bsX10_aliases 19 = bkX10_aliases_19 := rfl
set_option maxRecDepth 40000 in
theorem stX10_aliases : gw_sta sgX10_aliases bsX10_aliases := ⟨by decide +kernel, gw_mem2 (i := 5107) rfl rfl, gw_all (by decide +kernel)⟩
def bkX10_free_0 : List gw_E := [(0, 1, .aload_n 0, [0], [], []), (1, 3, .getfield 10, [10, 0, 1, 2172], [], []), (4, 3, .getfield 198, [3, 0, 1, 2072], [], []), (7, 3, .invokevirtual 305, [0, 4, 5120, 3164, 3165, 1003], [], [sgX4_framesLedTo]), (10, 3, .invokestatic 308, [1, 0, 5121, 3234, 1001, 0], [], [sgX10_lowestOutside]), (13, 1, .ireturn, [0], [], [])]
def bsX10_free : List (Nat × List gw_E) := [(0, bkX10_free_0)]
theorem fdX10_free_0 : gw_find bsX10_free 0 = bkX10_free_0 := rfl
set_option maxRecDepth 40000 in
theorem stX10_free : gw_sta sgX10_free bsX10_free := ⟨by decide +kernel, gw_mem2 (i := 5119) rfl rfl, gw_all (by decide +kernel)⟩
def bkX10_wanted_0 : List gw_E := [(0, 1, .iload_n 1, [1], [], []), (1, 27, .tableswitch 67 0 2 #[27, 37, 47], [68, 28, 38, 48], [0], [])]
def bkX10_wanted_28 : List gw_E := [(28, 1, .aload_n 0, [0], [], []), (29, 3, .getfield 10, [10, 0, 1, 2172], [], []), (32, 3, .getfield 98, [3, 8, 1, 2087], [], []), (35, 1, .iconst 0, [], [0], []), (36, 1, .iaload, [], [], []), (37, 1, .ireturn, [0], [], [])]
def bkX10_wanted_38 : List gw_E := [(38, 1, .aload_n 0, [0], [], []), (39, 3, .getfield 10, [10, 0, 1, 2172], [], []), (42, 3, .getfield 98, [3, 8, 1, 2087], [], []), (45, 1, .iconst 1, [], [1], []), (46, 1, .iaload, [], [], []), (47, 1, .ireturn, [0], [], [])]
def bkX10_wanted_48 : List gw_E := [(48, 1, .aload_n 0, [0], [], []), (49, 3, .getfield 10, [10, 0, 1, 2172], [], []), (52, 3, .getfield 98, [3, 8, 1, 2087], [], []), (55, 1, .iconst 0, [], [0], []), (56, 1, .iaload, [], [], []), (57, 1, .aload_n 0, [0], [], []), (58, 3, .getfield 10, [10, 0, 1, 2172], [], []), (61, 3, .getfield 98, [3, 8, 1, 2087], [], []), (64, 1, .iconst 1, [], [1], []), (65, 1, .iaload, [], [], []), (66, 1, .ior, [], [], []), (67, 1, .ireturn, [0], [], [])]
def bkX10_wanted_68 : List gw_E := [(68, 1, .iconst (-1), [], [-1], []), (69, 1, .ireturn, [0], [], [])]
def bsX10_wanted : List (Nat × List gw_E) := [(0, bkX10_wanted_0), (28, bkX10_wanted_28), (38, bkX10_wanted_38), (48, bkX10_wanted_48), (68, bkX10_wanted_68)]
theorem fdX10_wanted_0 : gw_find bsX10_wanted 0 = bkX10_wanted_0 := rfl
theorem fdX10_wanted_28 : gw_find bsX10_wanted 28 = bkX10_wanted_28 := rfl
theorem fdX10_wanted_38 : gw_find bsX10_wanted 38 = bkX10_wanted_38 := rfl
theorem fdX10_wanted_48 : gw_find bsX10_wanted 48 = bkX10_wanted_48 := rfl
theorem fdX10_wanted_68 : gw_find bsX10_wanted 68 = bkX10_wanted_68 := rfl
set_option maxRecDepth 40000 in
theorem stX10_wanted : gw_sta sgX10_wanted bsX10_wanted := ⟨by decide +kernel, gw_mem2 (i := 5125) rfl rfl, gw_all (by decide +kernel)⟩
def bkX10_whose_0 : List gw_E := [(0, 1, .iload_n 1, [1], [], []), (1, 3, .invokestatic 112, [1, 0, 4014, 4015, 1001, 0], [], [sgX10_isEvent]), (4, 3, .ifCond .eq 14, [18], [], []), (7, 1, .aload_n 0, [0], [], []), (8, 3, .getfield 10, [10, 0, 1, 2172], [], []), (11, 1, .iload_n 1, [1], [], []), (12, 3, .invokevirtual 311, [1, 3, 5130, 3202, 3203, 1002], [], [sgX3_seerOfInner]), (15, 3, .goto 4, [19], [], [])]
def bkX10_whose_18 : List gw_E := [(18, 1, .iconst (-1), [], [-1], [])]
def bkX10_whose_19 : List gw_E := [(19, 1, .ireturn, [0], [], [])]
def bsX10_whose : List (Nat × List gw_E) := [(0, bkX10_whose_0), (18, bkX10_whose_18), (19, bkX10_whose_19)]
theorem fdX10_whose_0 : gw_find bsX10_whose 0 = bkX10_whose_0 := rfl
theorem fdX10_whose_18 : gw_find bsX10_whose 18 = bkX10_whose_18 := rfl
theorem fdX10_whose_19 : gw_find bsX10_whose 19 = bkX10_whose_19 := rfl
set_option maxRecDepth 40000 in
theorem stX10_whose : gw_sta sgX10_whose bsX10_whose := ⟨by decide +kernel, gw_mem2 (i := 5129) rfl rfl, gw_all (by decide +kernel)⟩
def bkX10_exit_0 : List gw_E := [(0, 1, .iload_n 1, [1], [], []), (1, 1, .iconst (-1), [], [-1], []), (2, 3, .if_icmp .ne 16, [18], [], []), (5, 1, .aload_n 0, [0], [], []), (6, 3, .getfield 10, [10, 0, 1, 2172], [], []), (9, 3, .getfield 234, [3, 14, 1, 2097], [], []), (12, 3, .invokevirtual 314, [0, 2, 5135, 5136, 5137, 1009], [], [sgX2_exitsKept]), (15, 3, .goto 15, [30], [], [])]
def bkX10_exit_18 : List gw_E := [(18, 1, .aload_n 0, [0], [], []), (19, 3, .getfield 10, [10, 0, 1, 2172], [], []), (22, 3, .getfield 234, [3, 14, 1, 2097], [], []), (25, 1, .iload_n 1, [1], [], []), (26, 1, .iload_n 2, [2], [], []), (27, 3, .invokevirtual 317, [2, 2, 5140, 5141, 5142, 1009], [], [sgX2_exitAt])]
def bkX10_exit_30 : List gw_E := [(30, 1, .ireturn, [0], [], [])]
def bsX10_exit : List (Nat × List gw_E) := [(0, bkX10_exit_0), (18, bkX10_exit_18), (30, bkX10_exit_30)]
theorem fdX10_exit_0 : gw_find bsX10_exit 0 = bkX10_exit_0 := rfl
theorem fdX10_exit_18 : gw_find bsX10_exit 18 = bkX10_exit_18 := rfl
theorem fdX10_exit_30 : gw_find bsX10_exit 30 = bkX10_exit_30 := rfl
set_option maxRecDepth 40000 in
theorem stX10_exit : gw_sta sgX10_exit bsX10_exit := ⟨by decide +kernel, gw_mem2 (i := 5134) rfl rfl, gw_all (by decide +kernel)⟩
def bkX10_exits_0 : List gw_E := [(0, 1, .aload_n 0, [0], [], []), (1, 3, .getfield 10, [10, 0, 1, 2172], [], []), (4, 3, .getfield 234, [3, 14, 1, 2097], [], []), (7, 1, .iload_n 1, [1], [], []), (8, 3, .invokevirtual 320, [1, 2, 5149, 5150, 5151, 1009], [], [sgX2_exitsBy]), (11, 1, .ireturn, [0], [], [])]
def bsX10_exits : List (Nat × List gw_E) := [(0, bkX10_exits_0)]
theorem fdX10_exits_0 : gw_find bsX10_exits 0 = bkX10_exits_0 := rfl
set_option maxRecDepth 40000 in
theorem stX10_exits : gw_sta sgX10_exits bsX10_exits := ⟨by decide +kernel, gw_mem2 (i := 5148) rfl rfl, gw_all (by decide +kernel)⟩
def bkX10_pending_0 : List gw_E := [(0, 1, .iload_n 1, [1], [], []), (1, 3, .invokestatic 143, [1, 0, 4055, 4056, 1001, 0], [], [sgX10_isGuest]), (4, 3, .ifCond .eq 17, [21], [], []), (7, 1, .aload_n 0, [0], [], []), (8, 3, .getfield 10, [10, 0, 1, 2172], [], []), (11, 1, .iload_n 1, [1], [], []), (12, 3, .invokevirtual 128, [1, 3, 4037, 4038, 4039, 1002], [], [sgX3_guest]), (15, 3, .getfield 323, [0, 2, 0, 1150], [], []), (18, 3, .goto 4, [22], [], [])]
def bkX10_pending_21 : List gw_E := [(21, 1, .iconst (-1), [], [-1], [])]
def bkX10_pending_22 : List gw_E := [(22, 1, .ireturn, [0], [], [])]
def bsX10_pending : List (Nat × List gw_E) := [(0, bkX10_pending_0), (21, bkX10_pending_21), (22, bkX10_pending_22)]
theorem fdX10_pending_0 : gw_find bsX10_pending 0 = bkX10_pending_0 := rfl
theorem fdX10_pending_21 : gw_find bsX10_pending 21 = bkX10_pending_21 := rfl
theorem fdX10_pending_22 : gw_find bsX10_pending 22 = bkX10_pending_22 := rfl
set_option maxRecDepth 40000 in
theorem stX10_pending : gw_sta sgX10_pending bsX10_pending := ⟨by decide +kernel, gw_mem2 (i := 5156) rfl rfl, gw_all (by decide +kernel)⟩
def bkX10_service_0 : List gw_E := [(0, 1, .iload_n 1, [1], [], []), (1, 3, .invokestatic 143, [1, 0, 4055, 4056, 1001, 0], [], [sgX10_isGuest]), (4, 3, .ifCond .eq 17, [21], [], []), (7, 1, .aload_n 0, [0], [], []), (8, 3, .getfield 10, [10, 0, 1, 2172], [], []), (11, 1, .iload_n 1, [1], [], []), (12, 3, .invokevirtual 128, [1, 3, 4037, 4038, 4039, 1002], [], [sgX3_guest]), (15, 3, .getfield 150, [0, 3, 0, 1152], [], []), (18, 3, .goto 4, [22], [], [])]
def bkX10_service_21 : List gw_E := [(21, 1, .iconst (-1), [], [-1], [])]
def bkX10_service_22 : List gw_E := [(22, 1, .ireturn, [0], [], [])]
def bsX10_service : List (Nat × List gw_E) := [(0, bkX10_service_0), (21, bkX10_service_21), (22, bkX10_service_22)]
theorem fdX10_service_0 : gw_find bsX10_service 0 = bkX10_service_0 := rfl
theorem fdX10_service_21 : gw_find bsX10_service 21 = bkX10_service_21 := rfl
theorem fdX10_service_22 : gw_find bsX10_service 22 = bkX10_service_22 := rfl
set_option maxRecDepth 40000 in
theorem stX10_service : gw_sta sgX10_service bsX10_service := ⟨by decide +kernel, gw_mem2 (i := 5160) rfl rfl, gw_all (by decide +kernel)⟩
def bkX10_putBy_0 : List gw_E := [(0, 1, .iload_n 1, [1], [], []), (1, 3, .invokestatic 156, [1, 0, 4070, 4071, 1001, 0], [], [sgX10_isInnerGuest]), (4, 3, .ifCond .eq 14, [18], [], []), (7, 1, .iload_n 1, [1], [], []), (8, 1, .aload_n 0, [0], [], []), (9, 3, .getfield 10, [10, 0, 1, 2172], [], []), (12, 3, .getfield 159, [3, 5, 0, 2081], [], []), (15, 3, .if_icmp .ne 5, [20], [], [])]
def bkX10_putBy_18 : List gw_E := [(18, 1, .iconst (-1), [], [-1], []), (19, 1, .ireturn, [0], [], [])]
def bkX10_putBy_20 : List gw_E := [(20, 1, .aload_n 0, [0], [], []), (21, 3, .getfield 10, [10, 0, 1, 2172], [], []), (24, 3, .getfield 326, [3, 4, 1, 2079], [], []), (27, 1, .iload_n 1, [1], [], []), (28, 1, .aaload, [], [], []), (29, 1, .astore_n 3, [3], [], []), (30, 1, .iload_n 2, [2], [], []), (31, 41, .tableswitch 111 0 6 #[41, 49, 57, 68, 76, 84, 100], [142, 72, 80, 88, 99, 107, 115, 131], [0], [])]
def bkX10_putBy_72 : List gw_E := [(72, 1, .aload_n 3, [3], [], []), (73, 3, .getfield 330, [1, 1, 1, 2045], [], []), (76, 3, .invokevirtual 333, [0, 8, 5165, 3114, 3115, 1004], [], [sgX8_size]), (79, 1, .ireturn, [0], [], [])]
def bkX10_putBy_80 : List gw_E := [(80, 1, .aload_n 3, [3], [], []), (81, 3, .getfield 335, [1, 2, 1, 2048], [], []), (84, 3, .invokevirtual 333, [0, 8, 5165, 3114, 3115, 1004], [], [sgX8_size]), (87, 1, .ireturn, [0], [], [])]
def bkX10_putBy_88 : List gw_E := [(88, 1, .aload_n 3, [3], [], []), (89, 3, .getfield 338, [1, 0, 1, 2041], [], []), (92, 3, .getfield 223, [0, 0, 1, 1146], [], []), (95, 3, .getfield 231, [7, 4, 0, 1130], [], []), (98, 1, .ireturn, [0], [], [])]
def bkX10_putBy_99 : List gw_E := [(99, 1, .aload_n 3, [3], [], []), (100, 3, .getfield 338, [1, 0, 1, 2041], [], []), (103, 3, .getfield 323, [0, 2, 0, 1150], [], []), (106, 1, .ireturn, [0], [], [])]
def bkX10_putBy_107 : List gw_E := [(107, 1, .aload_n 3, [3], [], []), (108, 3, .getfield 338, [1, 0, 1, 2041], [], []), (111, 3, .getfield 150, [0, 3, 0, 1152], [], []), (114, 1, .ireturn, [0], [], [])]
def bkX10_putBy_115 : List gw_E := [(115, 1, .aload_n 3, [3], [], []), (116, 3, .getfield 338, [1, 0, 1, 2041], [], []), (119, 3, .getfield 146, [0, 4, 2, 1154], [], []), (122, 3, .ifCond .eq 7, [129], [], []), (125, 1, .iconst 1, [], [1], []), (126, 3, .goto 4, [130], [], [])]
def bkX10_putBy_129 : List gw_E := [(129, 1, .iconst 0, [], [0], [])]
def bkX10_putBy_130 : List gw_E := [(130, 1, .ireturn, [0], [], [])]
def bkX10_putBy_131 : List gw_E := [(131, 1, .aload_n 3, [3], [], []), (132, 3, .getfield 338, [1, 0, 1, 2041], [], []), (135, 3, .getfield 223, [0, 0, 1, 1146], [], []), (138, 3, .getfield 227, [7, 3, 0, 1126], [], []), (141, 1, .ireturn, [0], [], [])]
def bkX10_putBy_142 : List gw_E := [(142, 1, .iconst (-1), [], [-1], []), (143, 1, .ireturn, [0], [], [])]
def bsX10_putBy : List (Nat × List gw_E) := [(0, bkX10_putBy_0), (18, bkX10_putBy_18), (20, bkX10_putBy_20), (72, bkX10_putBy_72), (80, bkX10_putBy_80), (88, bkX10_putBy_88), (99, bkX10_putBy_99), (107, bkX10_putBy_107), (115, bkX10_putBy_115), (129, bkX10_putBy_129), (130, bkX10_putBy_130), (131, bkX10_putBy_131), (142, bkX10_putBy_142)]
theorem fdX10_putBy_0 : gw_find bsX10_putBy 0 = bkX10_putBy_0 := rfl
theorem fdX10_putBy_18 : gw_find bsX10_putBy 18 = bkX10_putBy_18 := rfl
theorem fdX10_putBy_20 : gw_find bsX10_putBy 20 = bkX10_putBy_20 := rfl
theorem fdX10_putBy_72 : gw_find bsX10_putBy 72 = bkX10_putBy_72 := rfl
theorem fdX10_putBy_80 : gw_find bsX10_putBy 80 = bkX10_putBy_80 := rfl
theorem fdX10_putBy_88 : gw_find bsX10_putBy 88 = bkX10_putBy_88 := rfl
theorem fdX10_putBy_99 : gw_find bsX10_putBy 99 = bkX10_putBy_99 := rfl
theorem fdX10_putBy_107 : gw_find bsX10_putBy 107 = bkX10_putBy_107 := rfl
theorem fdX10_putBy_115 : gw_find bsX10_putBy 115 = bkX10_putBy_115 := rfl
theorem fdX10_putBy_129 : gw_find bsX10_putBy 129 = bkX10_putBy_129 := rfl
theorem fdX10_putBy_130 : gw_find bsX10_putBy 130 = bkX10_putBy_130 := rfl
theorem fdX10_putBy_131 : gw_find bsX10_putBy 131 = bkX10_putBy_131 := rfl
theorem fdX10_putBy_142 : gw_find bsX10_putBy 142 = bkX10_putBy_142 := rfl
set_option maxRecDepth 40000 in
theorem stX10_putBy : gw_sta sgX10_putBy bsX10_putBy := ⟨by decide +kernel, gw_mem2 (i := 5164) rfl rfl, gw_all (by decide +kernel)⟩
def bkX10_spent_0 : List gw_E := [(0, 1, .iload_n 1, [1], [], []), (1, 1, .iconst 0, [], [0], []), (2, 1, .iconst 3, [], [3], []), (3, 3, .invokestatic 46, [3, 0, 2202, 2203, 1001, 0], [], [sgX10_within]), (6, 3, .ifCond .eq 18, [24], [], []), (9, 1, .aload_n 0, [0], [], []), (10, 3, .getfield 10, [10, 0, 1, 2172], [], []), (13, 3, .getfield 234, [3, 14, 1, 2097], [], []), (16, 3, .getfield 341, [2, 11, 1, 1230], [], []), (19, 1, .iload_n 1, [1], [], []), (20, 1, .iaload, [], [], []), (21, 3, .goto 4, [25], [], [])]
def bkX10_spent_24 : List gw_E := [(24, 1, .iconst (-1), [], [-1], [])]
def bkX10_spent_25 : List gw_E := [(25, 1, .ireturn, [0], [], [])]
def bsX10_spent : List (Nat × List gw_E) := [(0, bkX10_spent_0), (24, bkX10_spent_24), (25, bkX10_spent_25)]
theorem fdX10_spent_0 : gw_find bsX10_spent 0 = bkX10_spent_0 := rfl
theorem fdX10_spent_24 : gw_find bsX10_spent 24 = bkX10_spent_24 := rfl
theorem fdX10_spent_25 : gw_find bsX10_spent 25 = bkX10_spent_25 := rfl
set_option maxRecDepth 40000 in
theorem stX10_spent : gw_sta sgX10_spent bsX10_spent := ⟨by decide +kernel, gw_mem2 (i := 5169) rfl rfl, gw_all (by decide +kernel)⟩
def bkX10_seenOf_0 : List gw_E := [(0, 1, .iload_n 1, [1], [], []), (1, 3, .invokestatic 112, [1, 0, 4014, 4015, 1001, 0], [], [sgX10_isEvent]), (4, 3, .ifCond .eq 31, [35], [], []), (7, 1, .iload_n 2, [2], [], []), (8, 1, .iconst 0, [], [0], []), (9, 1, .iconst 2, [], [2], []), (10, 3, .invokestatic 46, [3, 0, 2202, 2203, 1001, 0], [], [sgX10_within]), (13, 3, .ifCond .eq 22, [35], [], []), (16, 1, .aload_n 0, [0], [], []), (17, 3, .getfield 10, [10, 0, 1, 2172], [], []), (20, 3, .getfield 234, [3, 14, 1, 2097], [], []), (23, 3, .getfield 344, [2, 10, 1, 1227], [], []), (26, 1, .iconst 3, [], [3], []), (27, 1, .iload_n 1, [1], [], []), (28, 1, .imul, [], [], []), (29, 1, .iload_n 2, [2], [], []), (30, 1, .iadd, [], [], []), (31, 1, .iaload, [], [], []), (32, 3, .goto 4, [36], [], [])]
def bkX10_seenOf_35 : List gw_E := [(35, 1, .iconst (-1), [], [-1], [])]
def bkX10_seenOf_36 : List gw_E := [(36, 1, .ireturn, [0], [], [])]
def bsX10_seenOf : List (Nat × List gw_E) := [(0, bkX10_seenOf_0), (35, bkX10_seenOf_35), (36, bkX10_seenOf_36)]
theorem fdX10_seenOf_0 : gw_find bsX10_seenOf 0 = bkX10_seenOf_0 := rfl
theorem fdX10_seenOf_35 : gw_find bsX10_seenOf 35 = bkX10_seenOf_35 := rfl
theorem fdX10_seenOf_36 : gw_find bsX10_seenOf 36 = bkX10_seenOf_36 := rfl
set_option maxRecDepth 40000 in
theorem stX10_seenOf : gw_sta sgX10_seenOf bsX10_seenOf := ⟨by decide +kernel, gw_mem2 (i := 5173) rfl rfl, gw_all (by decide +kernel)⟩
def bkX10_isOpen_0 : List gw_E := [(0, 1, .iload_n 1, [1], [], []), (1, 3, .invokestatic 143, [1, 0, 4055, 4056, 1001, 0], [], [sgX10_isGuest]), (4, 3, .ifCond .eq 21, [25], [], []), (7, 1, .aload_n 0, [0], [], []), (8, 3, .getfield 10, [10, 0, 1, 2172], [], []), (11, 1, .iload_n 1, [1], [], []), (12, 3, .invokevirtual 128, [1, 3, 4037, 4038, 4039, 1002], [], [sgX3_guest]), (15, 3, .getfield 146, [0, 4, 2, 1154], [], []), (18, 3, .ifCond .eq 7, [25], [], []), (21, 1, .iconst 1, [], [1], []), (22, 3, .goto 4, [26], [], [])]
def bkX10_isOpen_25 : List gw_E := [(25, 1, .iconst 0, [], [0], [])]
def bkX10_isOpen_26 : List gw_E := [(26, 1, .ireturn, [1], [], [])]
def bsX10_isOpen : List (Nat × List gw_E) := [(0, bkX10_isOpen_0), (25, bkX10_isOpen_25), (26, bkX10_isOpen_26)]
theorem fdX10_isOpen_0 : gw_find bsX10_isOpen 0 = bkX10_isOpen_0 := rfl
theorem fdX10_isOpen_25 : gw_find bsX10_isOpen 25 = bkX10_isOpen_25 := rfl
theorem fdX10_isOpen_26 : gw_find bsX10_isOpen 26 = bkX10_isOpen_26 := rfl
set_option maxRecDepth 40000 in
theorem stX10_isOpen : gw_sta sgX10_isOpen bsX10_isOpen := ⟨by decide +kernel, gw_mem2 (i := 5177) rfl rfl, gw_all (by decide +kernel)⟩
def bkX10_taken_0 : List gw_E := [(0, 1, .iload_n 1, [1], [], []), (1, 3, .invokestatic 143, [1, 0, 4055, 4056, 1001, 0], [], [sgX10_isGuest]), (4, 3, .ifCond .eq 20, [24], [], []), (7, 1, .aload_n 0, [0], [], []), (8, 3, .getfield 10, [10, 0, 1, 2172], [], []), (11, 3, .getfield 234, [3, 14, 1, 2097], [], []), (14, 3, .getfield 347, [2, 13, 1, 1235], [], []), (17, 1, .iload_n 1, [1], [], []), (18, 1, .iconst 1, [], [1], []), (19, 1, .isub, [], [], []), (20, 1, .iaload, [], [], []), (21, 3, .goto 4, [25], [], [])]
def bkX10_taken_24 : List gw_E := [(24, 1, .iconst (-1), [], [-1], [])]
def bkX10_taken_25 : List gw_E := [(25, 1, .ireturn, [0], [], [])]
def bsX10_taken : List (Nat × List gw_E) := [(0, bkX10_taken_0), (24, bkX10_taken_24), (25, bkX10_taken_25)]
theorem fdX10_taken_0 : gw_find bsX10_taken 0 = bkX10_taken_0 := rfl
theorem fdX10_taken_24 : gw_find bsX10_taken 24 = bkX10_taken_24 := rfl
theorem fdX10_taken_25 : gw_find bsX10_taken 25 = bkX10_taken_25 := rfl
set_option maxRecDepth 40000 in
theorem stX10_taken : gw_sta sgX10_taken bsX10_taken := ⟨by decide +kernel, gw_mem2 (i := 5181) rfl rfl, gw_all (by decide +kernel)⟩
def bkX10_longest_0 : List gw_E := [(0, 1, .iload_n 1, [1], [], []), (1, 3, .invokestatic 143, [1, 0, 4055, 4056, 1001, 0], [], [sgX10_isGuest]), (4, 3, .ifCond .eq 20, [24], [], []), (7, 1, .aload_n 0, [0], [], []), (8, 3, .getfield 10, [10, 0, 1, 2172], [], []), (11, 3, .getfield 234, [3, 14, 1, 2097], [], []), (14, 3, .getfield 350, [2, 14, 1, 1237], [], []), (17, 1, .iload_n 1, [1], [], []), (18, 1, .iconst 1, [], [1], []), (19, 1, .isub, [], [], []), (20, 1, .iaload, [], [], []), (21, 3, .goto 4, [25], [], [])]
def bkX10_longest_24 : List gw_E := [(24, 1, .iconst (-1), [], [-1], [])]
def bkX10_longest_25 : List gw_E := [(25, 1, .ireturn, [0], [], [])]
def bsX10_longest : List (Nat × List gw_E) := [(0, bkX10_longest_0), (24, bkX10_longest_24), (25, bkX10_longest_25)]
theorem fdX10_longest_0 : gw_find bsX10_longest 0 = bkX10_longest_0 := rfl
theorem fdX10_longest_24 : gw_find bsX10_longest 24 = bkX10_longest_24 := rfl
theorem fdX10_longest_25 : gw_find bsX10_longest 25 = bkX10_longest_25 := rfl
set_option maxRecDepth 40000 in
theorem stX10_longest : gw_sta sgX10_longest bsX10_longest := ⟨by decide +kernel, gw_mem2 (i := 5185) rfl rfl, gw_all (by decide +kernel)⟩
def bkX10_pendingFor_0 : List gw_E := [(0, 1, .iload_n 1, [1], [], []), (1, 3, .invokestatic 143, [1, 0, 4055, 4056, 1001, 0], [], [sgX10_isGuest]), (4, 3, .ifCond .eq 25, [29], [], []), (7, 1, .iload_n 2, [2], [], []), (8, 3, .invokestatic 125, [1, 0, 4034, 4035, 1001, 0], [], [sgX10_isVector]), (11, 3, .ifCond .eq 18, [29], [], []), (14, 1, .aload_n 0, [0], [], []), (15, 3, .getfield 10, [10, 0, 1, 2172], [], []), (18, 1, .iload_n 1, [1], [], []), (19, 3, .invokevirtual 128, [1, 3, 4037, 4038, 4039, 1002], [], [sgX3_guest]), (22, 1, .iload_n 2, [2], [], []), (23, 3, .invokevirtual 132, [1, 0, 4041, 4042, 4043, 1006], [], [sgX0_awaits]), (26, 3, .ifCond .ne 5, [31], [], [])]
def bkX10_pendingFor_29 : List gw_E := [(29, 1, .iconst (-1), [], [-1], []), (30, 1, .ireturn, [0], [], [])]
def bkX10_pendingFor_31 : List gw_E := [(31, 1, .aload_n 0, [0], [], []), (32, 3, .getfield 10, [10, 0, 1, 2172], [], []), (35, 3, .getfield 137, [3, 7, 0, 2085], [], []), (38, 1, .aload_n 0, [0], [], []), (39, 3, .getfield 10, [10, 0, 1, 2172], [], []), (42, 1, .iload_n 1, [1], [], []), (43, 3, .invokevirtual 128, [1, 3, 4037, 4038, 4039, 1002], [], [sgX3_guest]), (46, 3, .getfield 353, [0, 1, 1, 1148], [], []), (49, 1, .iload_n 2, [2], [], []), (50, 1, .iaload, [], [], []), (51, 1, .isub, [], [], []), (52, 1, .ireturn, [0], [], [])]
def bsX10_pendingFor : List (Nat × List gw_E) := [(0, bkX10_pendingFor_0), (29, bkX10_pendingFor_29), (31, bkX10_pendingFor_31)]
theorem fdX10_pendingFor_0 : gw_find bsX10_pendingFor 0 = bkX10_pendingFor_0 := rfl
theorem fdX10_pendingFor_29 : gw_find bsX10_pendingFor 29 = bkX10_pendingFor_29 := rfl
theorem fdX10_pendingFor_31 : gw_find bsX10_pendingFor 31 = bkX10_pendingFor_31 := rfl
set_option maxRecDepth 40000 in
theorem stX10_pendingFor : gw_sta sgX10_pendingFor bsX10_pendingFor := ⟨by decide +kernel, gw_mem2 (i := 5189) rfl rfl, gw_all (by decide +kernel)⟩
def bkX10_clock_0 : List gw_E := [(0, 1, .iload_n 1, [1], [], []), (1, 1, .iconst 0, [], [0], []), (2, 1, .iconst 2, [], [2], []), (3, 3, .invokestatic 46, [3, 0, 2202, 2203, 1001, 0], [], [sgX10_within]), (6, 3, .ifCond .eq 21, [27], [], []), (9, 1, .aload_n 0, [0], [], []), (10, 3, .getfield 10, [10, 0, 1, 2172], [], []), (13, 1, .iload_n 1, [1], [], []), (14, 1, .aload_n 0, [0], [], []), (15, 3, .getfield 10, [10, 0, 1, 2172], [], []), (18, 3, .getfield 137, [3, 7, 0, 2085], [], []), (21, 3, .invokevirtual 356, [2, 3, 5194, 4142, 4143, 1002], [], [sgX3_clockAt]), (24, 3, .goto 6, [30], [], [])]
def bkX10_clock_27 : List gw_E := [(27, 3, .ldc_w 359, [5195], [-1000000000], [])]
def bkX10_clock_30 : List gw_E := [(30, 1, .ireturn, [0], [], [])]
def bsX10_clock : List (Nat × List gw_E) := [(0, bkX10_clock_0), (27, bkX10_clock_27), (30, bkX10_clock_30)]
theorem fdX10_clock_0 : gw_find bsX10_clock 0 = bkX10_clock_0 := rfl
theorem fdX10_clock_27 : gw_find bsX10_clock 27 = bkX10_clock_27 := rfl
theorem fdX10_clock_30 : gw_find bsX10_clock 30 = bkX10_clock_30 := rfl
set_option maxRecDepth 40000 in
theorem stX10_clock : gw_sta sgX10_clock bsX10_clock := ⟨by decide +kernel, gw_mem2 (i := 5193) rfl rfl, gw_all (by decide +kernel)⟩
def bkX10_timed_0 : List gw_E := [(0, 1, .iload_n 1, [1], [], []), (1, 1, .iconst (-1), [], [-1], []), (2, 3, .if_icmp .ne 14, [16], [], []), (5, 1, .aload_n 0, [0], [], []), (6, 3, .getfield 10, [10, 0, 1, 2172], [], []), (9, 3, .getfield 173, [3, 13, 1, 2095], [], []), (12, 3, .getfield 177, [9, 3, 0, 1193], [], []), (15, 1, .ireturn, [0], [], [])]
def bkX10_timed_16 : List gw_E := [(16, 1, .iload_n 1, [1], [], []), (17, 1, .iconst 0, [], [0], []), (18, 1, .aload_n 0, [0], [], []), (19, 3, .getfield 10, [10, 0, 1, 2172], [], []), (22, 3, .getfield 173, [3, 13, 1, 2095], [], []), (25, 3, .getfield 177, [9, 3, 0, 1193], [], []), (28, 1, .iconst 1, [], [1], []), (29, 1, .isub, [], [], []), (30, 3, .invokestatic 46, [3, 0, 2202, 2203, 1001, 0], [], [sgX10_within]), (33, 3, .ifCond .ne 7, [40], [], []), (36, 3, .ldc_w 359, [5195], [-1000000000], []), (39, 1, .ireturn, [0], [], [])]
def bkX10_timed_40 : List gw_E := [(40, 1, .iload_n 2, [2], [], []), (41, 31, .tableswitch 79 0 3 #[31, 44, 57, 70], [120, 72, 85, 98, 111], [0], [])]
def bkX10_timed_72 : List gw_E := [(72, 1, .aload_n 0, [0], [], []), (73, 3, .getfield 10, [10, 0, 1, 2172], [], []), (76, 3, .getfield 173, [3, 13, 1, 2095], [], []), (79, 3, .getfield 360, [9, 0, 1, 1185], [], []), (82, 1, .iload_n 1, [1], [], []), (83, 1, .iaload, [], [], []), (84, 1, .ireturn, [0], [], [])]
def bkX10_timed_85 : List gw_E := [(85, 1, .aload_n 0, [0], [], []), (86, 3, .getfield 10, [10, 0, 1, 2172], [], []), (89, 3, .getfield 173, [3, 13, 1, 2095], [], []), (92, 3, .getfield 362, [9, 1, 1, 1188], [], []), (95, 1, .iload_n 1, [1], [], []), (96, 1, .iaload, [], [], []), (97, 1, .ireturn, [0], [], [])]
def bkX10_timed_98 : List gw_E := [(98, 1, .aload_n 0, [0], [], []), (99, 3, .getfield 10, [10, 0, 1, 2172], [], []), (102, 3, .getfield 173, [3, 13, 1, 2095], [], []), (105, 3, .getfield 365, [9, 2, 1, 1191], [], []), (108, 1, .iload_n 1, [1], [], []), (109, 1, .iaload, [], [], []), (110, 1, .ireturn, [0], [], [])]
def bkX10_timed_111 : List gw_E := [(111, 1, .aload_n 0, [0], [], []), (112, 3, .getfield 10, [10, 0, 1, 2172], [], []), (115, 1, .iload_n 1, [1], [], []), (116, 3, .invokevirtual 368, [1, 3, 5200, 5201, 5202, 1002], [], [sgX3_dueTime]), (119, 1, .ireturn, [0], [], [])]
def bkX10_timed_120 : List gw_E := [(120, 3, .ldc_w 359, [5195], [-1000000000], []), (123, 1, .ireturn, [0], [], [])]
def bsX10_timed : List (Nat × List gw_E) := [(0, bkX10_timed_0), (16, bkX10_timed_16), (40, bkX10_timed_40), (72, bkX10_timed_72), (85, bkX10_timed_85), (98, bkX10_timed_98), (111, bkX10_timed_111), (120, bkX10_timed_120)]
theorem fdX10_timed_0 : gw_find bsX10_timed 0 = bkX10_timed_0 := rfl
theorem fdX10_timed_16 : gw_find bsX10_timed 16 = bkX10_timed_16 := rfl
theorem fdX10_timed_40 : gw_find bsX10_timed 40 = bkX10_timed_40 := rfl
theorem fdX10_timed_72 : gw_find bsX10_timed 72 = bkX10_timed_72 := rfl
theorem fdX10_timed_85 : gw_find bsX10_timed 85 = bkX10_timed_85 := rfl
theorem fdX10_timed_98 : gw_find bsX10_timed 98 = bkX10_timed_98 := rfl
theorem fdX10_timed_111 : gw_find bsX10_timed 111 = bkX10_timed_111 := rfl
theorem fdX10_timed_120 : gw_find bsX10_timed 120 = bkX10_timed_120 := rfl
set_option maxRecDepth 40000 in
theorem stX10_timed : gw_sta sgX10_timed bsX10_timed := ⟨by decide +kernel, gw_mem2 (i := 5199) rfl rfl, gw_all (by decide +kernel)⟩
def bkX10_first_0 : List gw_E := [(0, 1, .aload_n 0, [0], [], []), (1, 3, .getfield 10, [10, 0, 1, 2172], [], []), (4, 3, .invokevirtual 371, [0, 3, 5209, 5210, 5211, 1002], [], [sgX3_firstDue]), (7, 1, .ireturn, [0], [], [])]
def bsX10_first : List (Nat × List gw_E) := [(0, bkX10_first_0)]
theorem fdX10_first_0 : gw_find bsX10_first 0 = bkX10_first_0 := rfl
set_option maxRecDepth 40000 in
theorem stX10_first : gw_sta sgX10_first bsX10_first := ⟨by decide +kernel, gw_mem2 (i := 5208) rfl rfl, gw_all (by decide +kernel)⟩
def bkX10_program_0 : List gw_E := [(0, 1, .iload_n 1, [1], [], []), (1, 3, .invokestatic 143, [1, 0, 4055, 4056, 1001, 0], [], [sgX10_isGuest]), (4, 3, .ifCond .ne 6, [10], [], []), (7, 2, .bipush (-2), [], [-2], []), (9, 1, .ireturn, [0], [], [])]
def bkX10_program_10 : List gw_E := [(10, 1, .aload_n 0, [0], [], []), (11, 3, .getfield 10, [10, 0, 1, 2172], [], []), (14, 1, .iload_n 1, [1], [], []), (15, 3, .invokevirtual 128, [1, 3, 4037, 4038, 4039, 1002], [], [sgX3_guest]), (18, 3, .getfield 223, [0, 0, 1, 1146], [], []), (21, 2, .astore 4, [4], [], []), (23, 1, .iload_n 2, [2], [], []), (24, 1, .iconst (-1), [], [-1], []), (25, 3, .if_icmp .ne 9, [34], [], []), (28, 2, .aload 4, [4], [], []), (30, 3, .getfield 227, [7, 3, 0, 1126], [], []), (33, 1, .ireturn, [0], [], [])]
def bkX10_program_34 : List gw_E := [(34, 1, .iload_n 2, [2], [], []), (35, 1, .iconst 0, [], [0], []), (36, 2, .aload 4, [4], [], []), (38, 3, .getfield 227, [7, 3, 0, 1126], [], []), (41, 1, .iconst 1, [], [1], []), (42, 1, .isub, [], [], []), (43, 3, .invokestatic 46, [3, 0, 2202, 2203, 1001, 0], [], [sgX10_within]), (46, 3, .ifCond .ne 6, [52], [], []), (49, 2, .bipush (-2), [], [-2], []), (51, 1, .ireturn, [0], [], [])]
def bkX10_program_52 : List gw_E := [(52, 1, .iload_n 3, [3], [], []), (53, 27, .tableswitch 51 0 2 #[27, 35, 43], [104, 80, 88, 96], [0], [])]
def bkX10_program_80 : List gw_E := [(80, 2, .aload 4, [4], [], []), (82, 3, .getfield 374, [7, 0, 1, 1115], [], []), (85, 1, .iload_n 2, [2], [], []), (86, 1, .iaload, [], [], []), (87, 1, .ireturn, [0], [], [])]
def bkX10_program_88 : List gw_E := [(88, 2, .aload 4, [4], [], []), (90, 3, .getfield 377, [7, 1, 1, 1119], [], []), (93, 1, .iload_n 2, [2], [], []), (94, 1, .iaload, [], [], []), (95, 1, .ireturn, [0], [], [])]
def bkX10_program_96 : List gw_E := [(96, 2, .aload 4, [4], [], []), (98, 3, .getfield 380, [7, 2, 1, 1123], [], []), (101, 1, .iload_n 2, [2], [], []), (102, 1, .iaload, [], [], []), (103, 1, .ireturn, [0], [], [])]
def bkX10_program_104 : List gw_E := [(104, 2, .bipush (-2), [], [-2], []), (106, 1, .ireturn, [0], [], [])]
def bsX10_program : List (Nat × List gw_E) := [(0, bkX10_program_0), (10, bkX10_program_10), (34, bkX10_program_34), (52, bkX10_program_52), (80, bkX10_program_80), (88, bkX10_program_88), (96, bkX10_program_96), (104, bkX10_program_104)]
theorem fdX10_program_0 : gw_find bsX10_program 0 = bkX10_program_0 := rfl
theorem fdX10_program_10 : gw_find bsX10_program 10 = bkX10_program_10 := rfl
theorem fdX10_program_34 : gw_find bsX10_program 34 = bkX10_program_34 := rfl
theorem fdX10_program_52 : gw_find bsX10_program 52 = bkX10_program_52 := rfl
theorem fdX10_program_80 : gw_find bsX10_program 80 = bkX10_program_80 := rfl
theorem fdX10_program_88 : gw_find bsX10_program 88 = bkX10_program_88 := rfl
theorem fdX10_program_96 : gw_find bsX10_program 96 = bkX10_program_96 := rfl
theorem fdX10_program_104 : gw_find bsX10_program 104 = bkX10_program_104 := rfl
set_option maxRecDepth 40000 in
theorem stX10_program : gw_sta sgX10_program bsX10_program := ⟨by decide +kernel, gw_mem2 (i := 5217) rfl rfl, gw_all (by decide +kernel)⟩
def bkX10_foretold_0 : List gw_E := [(0, 1, .aload_n 0, [0], [], []), (1, 1, .iload_n 1, [1], [], []), (2, 3, .sipush 200, [], [200], []), (5, 3, .invokevirtual 212, [2, 10, 4128, 4130, 10, 1001], [], [sgX10_mayGo]), (8, 3, .ifCond .eq 13, [21], [], []), (11, 1, .iload_n 2, [2], [], []), (12, 1, .iconst 0, [], [0], []), (13, 2, .bipush 17, [], [17], []), (15, 3, .invokestatic 46, [3, 0, 2202, 2203, 1001, 0], [], [sgX10_within]), (18, 3, .ifCond .ne 5, [23], [], [])]
def bkX10_foretold_21 : List gw_E := [(21, 1, .iconst (-1), [], [-1], []), (22, 1, .ireturn, [0], [], [])]
def bkX10_foretold_23 : List gw_E := [(23, 1, .aload_n 0, [0], [], []), (24, 3, .getfield 29, [10, 4, 1, 2176], [], []), (27, 1, .aload_n 0, [0], [], []), (28, 3, .getfield 10, [10, 0, 1, 2172], [], []), (31, 3, .invokevirtual 383, [1, 3, 5222, 2211, 2212, 1002], [], [sgX3_copyFrom]), (34, 1, .iconst 0, [], [0], []), (35, 1, .istore_n 3, [3], [], [])]
def bkX10_foretold_36 : List gw_E := [(36, 1, .iload_n 3, [3], [], []), (37, 1, .iload_n 1, [1], [], []), (38, 3, .if_icmp .ge 16, [54], [], []), (41, 1, .aload_n 0, [0], [], []), (42, 3, .getfield 29, [10, 4, 1, 2176], [], []), (45, 3, .invokevirtual 243, [0, 3, 4192, 4193, 4194, 1002], [], [sgX3_goOn]), (48, 3, .iinc 3 1, [3], [1], []), (51, 3, .goto (-15), [36], [], [])]
def bkX10_foretold_54 : List gw_E := [(54, 1, .aload_n 0, [0], [], []), (55, 3, .getfield 29, [10, 4, 1, 2176], [], []), (58, 1, .iload_n 2, [2], [], []), (59, 3, .invokevirtual 250, [1, 3, 5010, 5011, 5012, 1002], [], [sgX3_figure]), (62, 1, .ireturn, [0], [], [])]
def bsX10_foretold : List (Nat × List gw_E) := [(0, bkX10_foretold_0), (21, bkX10_foretold_21), (23, bkX10_foretold_23), (36, bkX10_foretold_36), (54, bkX10_foretold_54)]
theorem fdX10_foretold_0 : gw_find bsX10_foretold 0 = bkX10_foretold_0 := rfl
theorem fdX10_foretold_21 : gw_find bsX10_foretold 21 = bkX10_foretold_21 := rfl
theorem fdX10_foretold_23 : gw_find bsX10_foretold 23 = bkX10_foretold_23 := rfl
theorem fdX10_foretold_36 : gw_find bsX10_foretold 36 = bkX10_foretold_36 := rfl
theorem fdX10_foretold_54 : gw_find bsX10_foretold 54 = bkX10_foretold_54 := rfl
set_option maxRecDepth 40000 in
theorem stX10_foretold : gw_sta sgX10_foretold bsX10_foretold := ⟨by decide +kernel, gw_mem2 (i := 5221) rfl rfl, gw_all (by decide +kernel)⟩
def bkX10_till_0 : List gw_E := [(0, 1, .aload_n 0, [0], [], []), (1, 3, .getfield 29, [10, 4, 1, 2176], [], []), (4, 1, .aload_n 0, [0], [], []), (5, 3, .getfield 10, [10, 0, 1, 2172], [], []), (8, 3, .invokevirtual 383, [1, 3, 5222, 2211, 2212, 1002], [], [sgX3_copyFrom]), (11, 3, .sipush 200, [], [200], []), (14, 3, .ldc_w 386, [4132], [99999], []), (17, 1, .aload_n 0, [0], [], []), (18, 3, .getfield 10, [10, 0, 1, 2172], [], []), (21, 3, .getfield 137, [3, 7, 0, 2085], [], []), (24, 1, .isub, [], [], []), (25, 3, .invokestatic 387, [2, 0, 5227, 5071, 1015, 0], [], [sgJ9_min_7cf53]), (28, 1, .istore_n 1, [1], [], []), (29, 1, .iconst 1, [], [1], []), (30, 1, .istore_n 2, [2], [], [])]
def bkX10_till_31 : List gw_E := [(31, 1, .iload_n 2, [2], [], []), (32, 1, .iload_n 1, [1], [], []), (33, 3, .if_icmp .gt 45, [78], [], []), (36, 1, .aload_n 0, [0], [], []), (37, 3, .getfield 29, [10, 4, 1, 2176], [], []), (40, 3, .invokevirtual 243, [0, 3, 4192, 4193, 4194, 1002], [], [sgX3_goOn]), (43, 1, .aload_n 0, [0], [], []), (44, 3, .getfield 29, [10, 4, 1, 2176], [], []), (47, 3, .getfield 234, [3, 14, 1, 2097], [], []), (50, 3, .getfield 392, [2, 4, 1, 1216], [], []), (53, 1, .iconst 1, [], [1], []), (54, 1, .iaload, [], [], []), (55, 1, .aload_n 0, [0], [], []), (56, 3, .getfield 10, [10, 0, 1, 2172], [], []), (59, 3, .getfield 234, [3, 14, 1, 2097], [], []), (62, 3, .getfield 392, [2, 4, 1, 1216], [], []), (65, 1, .iconst 1, [], [1], []), (66, 1, .iaload, [], [], []), (67, 3, .if_icmp .le 5, [72], [], []), (70, 1, .iload_n 2, [2], [], []), (71, 1, .ireturn, [0], [], [])]
def bkX10_till_72 : List gw_E := [(72, 3, .iinc 2 1, [2], [1], []), (75, 3, .goto (-44), [31], [], [])]
def bkX10_till_78 : List gw_E := [(78, 1, .iconst (-1), [], [-1], []), (79, 1, .ireturn, [0], [], [])]
def bsX10_till : List (Nat × List gw_E) := [(0, bkX10_till_0), (31, bkX10_till_31), (72, bkX10_till_72), (78, bkX10_till_78)]
theorem fdX10_till_0 : gw_find bsX10_till 0 = bkX10_till_0 := rfl
theorem fdX10_till_31 : gw_find bsX10_till 31 = bkX10_till_31 := rfl
theorem fdX10_till_72 : gw_find bsX10_till 72 = bkX10_till_72 := rfl
theorem fdX10_till_78 : gw_find bsX10_till 78 = bkX10_till_78 := rfl
set_option maxRecDepth 40000 in
theorem stX10_till : gw_sta sgX10_till bsX10_till := ⟨by decide +kernel, gw_mem2 (i := 5226) rfl rfl, gw_all (by decide +kernel)⟩
def bkX10_waits_0 : List gw_E := [(0, 1, .iload_n 1, [1], [], []), (1, 3, .invokestatic 143, [1, 0, 4055, 4056, 1001, 0], [], [sgX10_isGuest]), (4, 3, .ifCond .ne 5, [9], [], []), (7, 1, .iconst (-1), [], [-1], []), (8, 1, .ireturn, [0], [], [])]
def bkX10_waits_9 : List gw_E := [(9, 1, .aload_n 0, [0], [], []), (10, 3, .getfield 29, [10, 4, 1, 2176], [], []), (13, 1, .aload_n 0, [0], [], []), (14, 3, .getfield 10, [10, 0, 1, 2172], [], []), (17, 3, .invokevirtual 383, [1, 3, 5222, 2211, 2212, 1002], [], [sgX3_copyFrom]), (20, 3, .sipush 200, [], [200], []), (23, 3, .ldc_w 386, [4132], [99999], []), (26, 1, .aload_n 0, [0], [], []), (27, 3, .getfield 10, [10, 0, 1, 2172], [], []), (30, 3, .getfield 137, [3, 7, 0, 2085], [], []), (33, 1, .isub, [], [], []), (34, 3, .invokestatic 387, [2, 0, 5227, 5071, 1015, 0], [], [sgJ9_min_7cf53]), (37, 1, .istore_n 2, [2], [], []), (38, 1, .iconst 1, [], [1], []), (39, 1, .istore_n 3, [3], [], [])]
def bkX10_waits_40 : List gw_E := [(40, 1, .iload_n 3, [3], [], []), (41, 1, .iload_n 2, [2], [], []), (42, 3, .if_icmp .gt 49, [91], [], []), (45, 1, .aload_n 0, [0], [], []), (46, 3, .getfield 29, [10, 4, 1, 2176], [], []), (49, 3, .invokevirtual 243, [0, 3, 4192, 4193, 4194, 1002], [], [sgX3_goOn]), (52, 1, .aload_n 0, [0], [], []), (53, 3, .getfield 29, [10, 4, 1, 2176], [], []), (56, 3, .getfield 234, [3, 14, 1, 2097], [], []), (59, 3, .getfield 395, [2, 12, 1, 1233], [], []), (62, 1, .iload_n 1, [1], [], []), (63, 1, .iconst 1, [], [1], []), (64, 1, .isub, [], [], []), (65, 1, .iaload, [], [], []), (66, 1, .aload_n 0, [0], [], []), (67, 3, .getfield 10, [10, 0, 1, 2172], [], []), (70, 3, .getfield 234, [3, 14, 1, 2097], [], []), (73, 3, .getfield 395, [2, 12, 1, 1233], [], []), (76, 1, .iload_n 1, [1], [], []), (77, 1, .iconst 1, [], [1], []), (78, 1, .isub, [], [], []), (79, 1, .iaload, [], [], []), (80, 3, .if_icmp .le 5, [85], [], []), (83, 1, .iload_n 3, [3], [], []), (84, 1, .ireturn, [0], [], [])]
def bkX10_waits_85 : List gw_E := [(85, 3, .iinc 3 1, [3], [1], []), (88, 3, .goto (-48), [40], [], [])]
def bkX10_waits_91 : List gw_E := [(91, 1, .iconst (-1), [], [-1], []), (92, 1, .ireturn, [0], [], [])]
def bsX10_waits : List (Nat × List gw_E) := [(0, bkX10_waits_0), (9, bkX10_waits_9), (40, bkX10_waits_40), (85, bkX10_waits_85), (91, bkX10_waits_91)]
theorem fdX10_waits_0 : gw_find bsX10_waits 0 = bkX10_waits_0 := rfl
theorem fdX10_waits_9 : gw_find bsX10_waits 9 = bkX10_waits_9 := rfl
theorem fdX10_waits_40 : gw_find bsX10_waits 40 = bkX10_waits_40 := rfl
theorem fdX10_waits_85 : gw_find bsX10_waits 85 = bkX10_waits_85 := rfl
theorem fdX10_waits_91 : gw_find bsX10_waits 91 = bkX10_waits_91 := rfl
set_option maxRecDepth 40000 in
theorem stX10_waits : gw_sta sgX10_waits bsX10_waits := ⟨by decide +kernel, gw_mem2 (i := 5231) rfl rfl, gw_all (by decide +kernel)⟩
def bkX10_roomiest_0 : List gw_E := [(0, 1, .aload_n 0, [0], [], []), (1, 1, .iload_n 1, [1], [], []), (2, 2, .bipush 100, [], [100], []), (4, 3, .invokevirtual 212, [2, 10, 4128, 4130, 10, 1001], [], [sgX10_mayGo]), (7, 3, .ifCond .ne 5, [12], [], []), (10, 1, .iconst (-1), [], [-1], []), (11, 1, .ireturn, [0], [], [])]
def bkX10_roomiest_12 : List gw_E := [(12, 1, .iconst (-1), [], [-1], []), (13, 1, .istore_n 2, [2], [], []), (14, 1, .iconst 0, [], [0], []), (15, 1, .istore_n 3, [3], [], []), (16, 1, .iconst 1, [], [1], []), (17, 2, .istore 4, [4], [], [])]
def bkX10_roomiest_19 : List gw_E := [(19, 2, .iload 4, [4], [], []), (21, 2, .bipush 16, [], [16], []), (23, 3, .if_icmp .gt 98, [121], [], []), (26, 1, .aload_n 0, [0], [], []), (27, 3, .getfield 29, [10, 4, 1, 2176], [], []), (30, 1, .aload_n 0, [0], [], []), (31, 3, .getfield 10, [10, 0, 1, 2172], [], []), (34, 3, .invokevirtual 383, [1, 3, 5222, 2211, 2212, 1002], [], [sgX3_copyFrom]), (37, 1, .aload_n 0, [0], [], []), (38, 3, .getfield 29, [10, 4, 1, 2176], [], []), (41, 3, .getfield 259, [3, 1, 1, 2074], [], []), (44, 3, .invokevirtual 398, [0, 8, 5236, 4078, 4079, 1004], [], [sgX8_dropAll]), (47, 1, .aload_n 0, [0], [], []), (48, 3, .getfield 29, [10, 4, 1, 2176], [], []), (51, 2, .iload 4, [4], [], []), (53, 3, .putfield 401, [3, 2, 0, 2076], [], []), (56, 1, .iconst 0, [], [0], []), (57, 2, .istore 5, [5], [], [])]
def bkX10_roomiest_59 : List gw_E := [(59, 2, .iload 5, [5], [], []), (61, 1, .iload_n 1, [1], [], []), (62, 3, .if_icmp .ge 16, [78], [], []), (65, 1, .aload_n 0, [0], [], []), (66, 3, .getfield 29, [10, 4, 1, 2176], [], []), (69, 3, .invokevirtual 243, [0, 3, 4192, 4193, 4194, 1002], [], [sgX3_goOn]), (72, 3, .iinc 5 1, [5], [1], []), (75, 3, .goto (-16), [59], [], [])]
def bkX10_roomiest_78 : List gw_E := [(78, 1, .iload_n 2, [2], [], []), (79, 1, .iconst (-1), [], [-1], []), (80, 3, .if_icmp .eq 19, [99], [], []), (83, 1, .aload_n 0, [0], [], []), (84, 3, .getfield 29, [10, 4, 1, 2176], [], []), (87, 3, .getfield 234, [3, 14, 1, 2097], [], []), (90, 3, .getfield 392, [2, 4, 1, 1216], [], []), (93, 1, .iconst 0, [], [0], []), (94, 1, .iaload, [], [], []), (95, 1, .iload_n 3, [3], [], []), (96, 3, .if_icmp .ge 19, [115], [], [])]
def bkX10_roomiest_99 : List gw_E := [(99, 2, .iload 4, [4], [], []), (101, 1, .istore_n 2, [2], [], []), (102, 1, .aload_n 0, [0], [], []), (103, 3, .getfield 29, [10, 4, 1, 2176], [], []), (106, 3, .getfield 234, [3, 14, 1, 2097], [], []), (109, 3, .getfield 392, [2, 4, 1, 1216], [], []), (112, 1, .iconst 0, [], [0], []), (113, 1, .iaload, [], [], []), (114, 1, .istore_n 3, [3], [], [])]
def bkX10_roomiest_115 : List gw_E := [(115, 3, .iinc 4 1, [4], [1], []), (118, 3, .goto (-99), [19], [], [])]
def bkX10_roomiest_121 : List gw_E := [(121, 1, .iload_n 2, [2], [], []), (122, 1, .ireturn, [0], [], [])]
def bsX10_roomiest : List (Nat × List gw_E) := [(0, bkX10_roomiest_0), (12, bkX10_roomiest_12), (19, bkX10_roomiest_19), (59, bkX10_roomiest_59), (78, bkX10_roomiest_78), (99, bkX10_roomiest_99), (115, bkX10_roomiest_115), (121, bkX10_roomiest_121)]
theorem fdX10_roomiest_0 : gw_find bsX10_roomiest 0 = bkX10_roomiest_0 := rfl
theorem fdX10_roomiest_12 : gw_find bsX10_roomiest 12 = bkX10_roomiest_12 := rfl
theorem fdX10_roomiest_19 : gw_find bsX10_roomiest 19 = bkX10_roomiest_19 := rfl
theorem fdX10_roomiest_59 : gw_find bsX10_roomiest 59 = bkX10_roomiest_59 := rfl
theorem fdX10_roomiest_78 : gw_find bsX10_roomiest 78 = bkX10_roomiest_78 := rfl
theorem fdX10_roomiest_99 : gw_find bsX10_roomiest 99 = bkX10_roomiest_99 := rfl
theorem fdX10_roomiest_115 : gw_find bsX10_roomiest 115 = bkX10_roomiest_115 := rfl
theorem fdX10_roomiest_121 : gw_find bsX10_roomiest 121 = bkX10_roomiest_121 := rfl
set_option maxRecDepth 40000 in
theorem stX10_roomiest : gw_sta sgX10_roomiest bsX10_roomiest := ⟨by decide +kernel, gw_mem2 (i := 5235) rfl rfl, gw_all (by decide +kernel)⟩
def bkX10_plainly_0 : List gw_E := [(0, 1, .iload_n 1, [1], [], []), (1, 1, .iconst 1, [], [1], []), (2, 3, .sipush 200, [], [200], []), (5, 3, .invokestatic 46, [3, 0, 2202, 2203, 1001, 0], [], [sgX10_within]), (8, 3, .ifCond .eq 10, [18], [], []), (11, 1, .iload_n 2, [2], [], []), (12, 3, .invokestatic 43, [1, 0, 2199, 2200, 1001, 0], [], [sgX10_isPage]), (15, 3, .ifCond .ne 5, [20], [], [])]
def bkX10_plainly_18 : List gw_E := [(18, 1, .iconst (-1), [], [-1], []), (19, 1, .ireturn, [0], [], [])]
def bkX10_plainly_20 : List gw_E := [(20, 1, .aload_n 0, [0], [], []), (21, 1, .iload_n 1, [1], [], []), (22, 3, .invokevirtual 404, [1, 10, 6001, 6003, 20, 1001], [], [sgX10_goPlainly]), (25, 1, .aload_n 0, [0], [], []), (26, 3, .getfield 35, [10, 5, 1, 2177], [], []), (29, 3, .getfield 407, [6, 1, 1, 2158], [], []), (32, 1, .iload_n 2, [2], [], []), (33, 1, .iaload, [], [], []), (34, 1, .ireturn, [0], [], [])]
def bsX10_plainly : List (Nat × List gw_E) := [(0, bkX10_plainly_0), (18, bkX10_plainly_18), (20, bkX10_plainly_20)]
theorem fdX10_plainly_0 : gw_find bsX10_plainly 0 = bkX10_plainly_0 := rfl
theorem fdX10_plainly_18 : gw_find bsX10_plainly 18 = bkX10_plainly_18 := rfl
theorem fdX10_plainly_20 : gw_find bsX10_plainly 20 = bkX10_plainly_20 := rfl
set_option maxRecDepth 40000 in
theorem stX10_plainly : gw_sta sgX10_plainly bsX10_plainly := ⟨by decide +kernel, gw_mem2 (i := 6000) rfl rfl, gw_all (by decide +kernel)⟩
def bkX10_plainTraps_0 : List gw_E := [(0, 1, .iload_n 1, [1], [], []), (1, 1, .iconst 1, [], [1], []), (2, 3, .sipush 200, [], [200], []), (5, 3, .invokestatic 46, [3, 0, 2202, 2203, 1001, 0], [], [sgX10_within]), (8, 3, .ifCond .ne 5, [13], [], []), (11, 1, .iconst (-1), [], [-1], []), (12, 1, .ireturn, [0], [], [])]
def bkX10_plainTraps_13 : List gw_E := [(13, 1, .aload_n 0, [0], [], []), (14, 1, .iload_n 1, [1], [], []), (15, 3, .invokevirtual 404, [1, 10, 6001, 6003, 20, 1001], [], [sgX10_goPlainly]), (18, 1, .aload_n 0, [0], [], []), (19, 3, .getfield 35, [10, 5, 1, 2177], [], []), (22, 3, .getfield 408, [6, 2, 0, 2160], [], []), (25, 1, .ireturn, [0], [], [])]
def bsX10_plainTraps : List (Nat × List gw_E) := [(0, bkX10_plainTraps_0), (13, bkX10_plainTraps_13)]
theorem fdX10_plainTraps_0 : gw_find bsX10_plainTraps 0 = bkX10_plainTraps_0 := rfl
theorem fdX10_plainTraps_13 : gw_find bsX10_plainTraps 13 = bkX10_plainTraps_13 := rfl
set_option maxRecDepth 40000 in
theorem stX10_plainTraps : gw_sta sgX10_plainTraps bsX10_plainTraps := ⟨by decide +kernel, gw_mem2 (i := 6032) rfl rfl, gw_all (by decide +kernel)⟩
def bkX10_plainHeard_0 : List gw_E := [(0, 1, .iload_n 1, [1], [], []), (1, 1, .iconst 1, [], [1], []), (2, 3, .sipush 200, [], [200], []), (5, 3, .invokestatic 46, [3, 0, 2202, 2203, 1001, 0], [], [sgX10_within]), (8, 3, .ifCond .ne 5, [13], [], []), (11, 1, .iconst (-1), [], [-1], []), (12, 1, .ireturn, [0], [], [])]
def bkX10_plainHeard_13 : List gw_E := [(13, 1, .aload_n 0, [0], [], []), (14, 1, .iload_n 1, [1], [], []), (15, 3, .invokevirtual 404, [1, 10, 6001, 6003, 20, 1001], [], [sgX10_goPlainly]), (18, 1, .aload_n 0, [0], [], []), (19, 3, .getfield 35, [10, 5, 1, 2177], [], []), (22, 3, .getfield 411, [6, 3, 0, 2162], [], []), (25, 1, .ireturn, [0], [], [])]
def bsX10_plainHeard : List (Nat × List gw_E) := [(0, bkX10_plainHeard_0), (13, bkX10_plainHeard_13)]
theorem fdX10_plainHeard_0 : gw_find bsX10_plainHeard 0 = bkX10_plainHeard_0 := rfl
theorem fdX10_plainHeard_13 : gw_find bsX10_plainHeard 13 = bkX10_plainHeard_13 := rfl
set_option maxRecDepth 40000 in
theorem stX10_plainHeard : gw_sta sgX10_plainHeard bsX10_plainHeard := ⟨by decide +kernel, gw_mem2 (i := 6036) rfl rfl, gw_all (by decide +kernel)⟩
def bkX10_share_0 : List gw_E := [(0, 1, .aload_n 0, [0], [], []), (1, 3, .getfield 10, [10, 0, 1, 2172], [], []), (4, 3, .getfield 234, [3, 14, 1, 2097], [], []), (7, 3, .getfield 392, [2, 4, 1, 1216], [], []), (10, 1, .iconst 0, [], [0], []), (11, 1, .iaload, [], [], []), (12, 1, .aload_n 0, [0], [], []), (13, 3, .getfield 10, [10, 0, 1, 2172], [], []), (16, 3, .getfield 234, [3, 14, 1, 2097], [], []), (19, 3, .invokevirtual 238, [0, 2, 4188, 4189, 4190, 1009], [], [sgX2_allExits]), (22, 3, .invokestatic 414, [2, 0, 6041, 6042, 1001, 0], [], [sgX10_bitsOfQuotient]), (25, 1, .lreturn, [], [], [])]
def bsX10_share : List (Nat × List gw_E) := [(0, bkX10_share_0)]
theorem fdX10_share_0 : gw_find bsX10_share 0 = bkX10_share_0 := rfl
set_option maxRecDepth 40000 in
theorem stX10_share : gw_sta sgX10_share bsX10_share := ⟨by decide +kernel, gw_mem2 (i := 6040) rfl rfl, gw_all (by decide +kernel)⟩
def bkX10_image_0 : List gw_E := [(0, 1, .aload_n 0, [0], [], []), (1, 3, .getfield 23, [10, 2, 1, 2174], [], []), (4, 1, .aload_n 0, [0], [], []), (5, 3, .getfield 10, [10, 0, 1, 2172], [], []), (8, 3, .invokevirtual 383, [1, 3, 5222, 2211, 2212, 1002], [], [sgX3_copyFrom]), (11, 1, .aload_n 0, [0], [], []), (12, 3, .getfield 26, [10, 3, 1, 2175], [], []), (15, 1, .aload_n 0, [0], [], []), (16, 3, .getfield 19, [10, 1, 1, 2173], [], []), (19, 3, .invokevirtual 418, [1, 5, 6051, 6052, 6053, 1011], [], [sgX5_copyFrom]), (22, 1, .aload_n 0, [0], [], []), (23, 3, .getfield 10, [10, 0, 1, 2172], [], []), (26, 3, .getfield 137, [3, 7, 0, 2085], [], []), (29, 1, .ireturn, [0], [], [])]
def bsX10_image : List (Nat × List gw_E) := [(0, bkX10_image_0)]
theorem fdX10_image_0 : gw_find bsX10_image 0 = bkX10_image_0 := rfl
set_option maxRecDepth 40000 in
theorem stX10_image : gw_sta sgX10_image bsX10_image := ⟨by decide +kernel, gw_mem2 (i := 6050) rfl rfl, gw_all (by decide +kernel)⟩
def bkX10_back_0 : List gw_E := [(0, 1, .aload_n 0, [0], [], []), (1, 3, .getfield 10, [10, 0, 1, 2172], [], []), (4, 1, .aload_n 0, [0], [], []), (5, 3, .getfield 23, [10, 2, 1, 2174], [], []), (8, 3, .invokevirtual 383, [1, 3, 5222, 2211, 2212, 1002], [], [sgX3_copyFrom]), (11, 1, .aload_n 0, [0], [], []), (12, 3, .getfield 19, [10, 1, 1, 2173], [], []), (15, 1, .aload_n 0, [0], [], []), (16, 3, .getfield 26, [10, 3, 1, 2175], [], []), (19, 3, .invokevirtual 418, [1, 5, 6051, 6052, 6053, 1011], [], [sgX5_copyFrom]), (22, 1, .aload_n 0, [0], [], []), (23, 3, .getfield 10, [10, 0, 1, 2172], [], []), (26, 3, .getfield 137, [3, 7, 0, 2085], [], []), (29, 1, .ireturn, [0], [], [])]
def bsX10_back : List (Nat × List gw_E) := [(0, bkX10_back_0)]
theorem fdX10_back_0 : gw_find bsX10_back 0 = bkX10_back_0 := rfl
set_option maxRecDepth 40000 in
theorem stX10_back : gw_sta sgX10_back bsX10_back := ⟨by decide +kernel, gw_mem2 (i := 6059) rfl rfl, gw_all (by decide +kernel)⟩
def bkX10_steps_0 : List gw_E := [(0, 1, .aload_n 0, [0], [], []), (1, 3, .getfield 19, [10, 1, 1, 2173], [], []), (4, 3, .getfield 246, [5, 2, 0, 2140], [], []), (7, 1, .ireturn, [0], [], [])]
def bsX10_steps : List (Nat × List gw_E) := [(0, bkX10_steps_0)]
theorem fdX10_steps_0 : gw_find bsX10_steps 0 = bkX10_steps_0 := rfl
set_option maxRecDepth 40000 in
theorem stX10_steps : gw_sta sgX10_steps bsX10_steps := ⟨by decide +kernel, gw_mem2 (i := 6063) rfl rfl, gw_all (by decide +kernel)⟩
def bkX10_mayGo_0 : List gw_E := [(0, 1, .iload_n 1, [1], [], []), (1, 1, .iconst 1, [], [1], []), (2, 1, .iload_n 2, [2], [], []), (3, 3, .invokestatic 46, [3, 0, 2202, 2203, 1001, 0], [], [sgX10_within]), (6, 3, .ifCond .eq 22, [28], [], []), (9, 1, .aload_n 0, [0], [], []), (10, 3, .getfield 10, [10, 0, 1, 2172], [], []), (13, 3, .getfield 137, [3, 7, 0, 2085], [], []), (16, 1, .iload_n 1, [1], [], []), (17, 1, .iadd, [], [], []), (18, 3, .ldc_w 386, [4132], [99999], []), (21, 3, .if_icmp .gt 7, [28], [], []), (24, 1, .iconst 1, [], [1], []), (25, 3, .goto 4, [29], [], [])]
def bkX10_mayGo_28 : List gw_E := [(28, 1, .iconst 0, [], [0], [])]
def bkX10_mayGo_29 : List gw_E := [(29, 1, .ireturn, [1], [], [])]
def bsX10_mayGo : List (Nat × List gw_E) := [(0, bkX10_mayGo_0), (28, bkX10_mayGo_28), (29, bkX10_mayGo_29)]
theorem fdX10_mayGo_0 : gw_find bsX10_mayGo 0 = bkX10_mayGo_0 := rfl
theorem fdX10_mayGo_28 : gw_find bsX10_mayGo 28 = bkX10_mayGo_28 := rfl
theorem fdX10_mayGo_29 : gw_find bsX10_mayGo 29 = bkX10_mayGo_29 := rfl
set_option maxRecDepth 40000 in
theorem stX10_mayGo : gw_sta sgX10_mayGo bsX10_mayGo := ⟨by decide +kernel, gw_mem2 (i := 4131) rfl rfl, gw_all (by decide +kernel)⟩
def bkX10_goPlainly_0 : List gw_E := [(0, 1, .aload_n 0, [0], [], []), (1, 3, .getfield 35, [10, 5, 1, 2177], [], []), (4, 1, .aload_n 0, [0], [], []), (5, 3, .getfield 10, [10, 0, 1, 2172], [], []), (8, 3, .invokevirtual 421, [1, 6, 6005, 6006, 6007, 1012], [], [sgX6_startFrom]), (11, 1, .iconst 0, [], [0], []), (12, 1, .istore_n 2, [2], [], [])]
def bkX10_goPlainly_13 : List gw_E := [(13, 1, .iload_n 2, [2], [], []), (14, 1, .iload_n 1, [1], [], []), (15, 3, .if_icmp .ge 16, [31], [], []), (18, 1, .aload_n 0, [0], [], []), (19, 3, .getfield 35, [10, 5, 1, 2177], [], []), (22, 3, .invokevirtual 424, [0, 6, 6016, 6017, 6018, 1012], [], [sgX6_goOn]), (25, 3, .iinc 2 1, [2], [1], []), (28, 3, .goto (-15), [13], [], [])]
def bkX10_goPlainly_31 : List gw_E := [(31, 1, .return_, [], [], [])]
def bsX10_goPlainly : List (Nat × List gw_E) := [(0, bkX10_goPlainly_0), (13, bkX10_goPlainly_13), (31, bkX10_goPlainly_31)]
theorem fdX10_goPlainly_0 : gw_find bsX10_goPlainly 0 = bkX10_goPlainly_0 := rfl
theorem fdX10_goPlainly_13 : gw_find bsX10_goPlainly 13 = bkX10_goPlainly_13 := rfl
theorem fdX10_goPlainly_31 : gw_find bsX10_goPlainly 31 = bkX10_goPlainly_31 := rfl
set_option maxRecDepth 40000 in
theorem stX10_goPlainly : gw_sta sgX10_goPlainly bsX10_goPlainly := ⟨by decide +kernel, gw_mem2 (i := 6004) rfl rfl, gw_all (by decide +kernel)⟩
def bkX10_within_0 : List gw_E := [(0, 1, .iload_n 0, [0], [], []), (1, 1, .iload_n 1, [1], [], []), (2, 3, .if_icmp .lt 12, [14], [], []), (5, 1, .iload_n 0, [0], [], []), (6, 1, .iload_n 2, [2], [], []), (7, 3, .if_icmp .gt 7, [14], [], []), (10, 1, .iconst 1, [], [1], []), (11, 3, .goto 4, [15], [], [])]
def bkX10_within_14 : List gw_E := [(14, 1, .iconst 0, [], [0], [])]
def bkX10_within_15 : List gw_E := [(15, 1, .ireturn, [1], [], [])]
def bsX10_within : List (Nat × List gw_E) := [(0, bkX10_within_0), (14, bkX10_within_14), (15, bkX10_within_15)]
theorem fdX10_within_0 : gw_find bsX10_within 0 = bkX10_within_0 := rfl
theorem fdX10_within_14 : gw_find bsX10_within 14 = bkX10_within_14 := rfl
theorem fdX10_within_15 : gw_find bsX10_within 15 = bkX10_within_15 := rfl
set_option maxRecDepth 40000 in
theorem stX10_within : gw_sta sgX10_within bsX10_within := ⟨by decide +kernel, gw_mem2 (i := 2204) rfl rfl, gw_all (by decide +kernel)⟩
def bkX10_isPage_0 : List gw_E := [(0, 1, .iload_n 0, [0], [], []), (1, 1, .iconst 0, [], [0], []), (2, 2, .bipush 15, [], [15], []), (4, 3, .invokestatic 46, [3, 0, 2202, 2203, 1001, 0], [], [sgX10_within]), (7, 1, .ireturn, [1], [], [])]
def bsX10_isPage : List (Nat × List gw_E) := [(0, bkX10_isPage_0)]
theorem fdX10_isPage_0 : gw_find bsX10_isPage 0 = bkX10_isPage_0 := rfl
set_option maxRecDepth 40000 in
theorem stX10_isPage : gw_sta sgX10_isPage bsX10_isPage := ⟨by decide +kernel, gw_mem2 (i := 2201) rfl rfl, gw_all (by decide +kernel)⟩
def bkX10_isFrame_0 : List gw_E := [(0, 1, .iload_n 0, [0], [], []), (1, 1, .iconst 0, [], [0], []), (2, 2, .bipush 9, [], [9], []), (4, 3, .invokestatic 46, [3, 0, 2202, 2203, 1001, 0], [], [sgX10_within]), (7, 1, .ireturn, [1], [], [])]
def bsX10_isFrame : List (Nat × List gw_E) := [(0, bkX10_isFrame_0)]
theorem fdX10_isFrame_0 : gw_find bsX10_isFrame 0 = bkX10_isFrame_0 := rfl
set_option maxRecDepth 40000 in
theorem stX10_isFrame : gw_sta sgX10_isFrame bsX10_isFrame := ⟨by decide +kernel, gw_mem2 (i := 5041) rfl rfl, gw_all (by decide +kernel)⟩
def bkX10_isWay_0 : List gw_E := [(0, 1, .iload_n 0, [0], [], []), (1, 1, .iconst 0, [], [0], []), (2, 1, .iconst 2, [], [2], []), (3, 3, .invokestatic 46, [3, 0, 2202, 2203, 1001, 0], [], [sgX10_within]), (6, 1, .ireturn, [1], [], [])]
def bsX10_isWay : List (Nat × List gw_E) := [(0, bkX10_isWay_0)]
theorem fdX10_isWay_0 : gw_find bsX10_isWay 0 = bkX10_isWay_0 := rfl
set_option maxRecDepth 40000 in
theorem stX10_isWay : gw_sta sgX10_isWay bsX10_isWay := ⟨by decide +kernel, gw_mem2 (i := 3187) rfl rfl, gw_all (by decide +kernel)⟩
def bkX10_isEvent_0 : List gw_E := [(0, 1, .iload_n 0, [0], [], []), (1, 1, .iconst 0, [], [0], []), (2, 2, .bipush 7, [], [7], []), (4, 3, .invokestatic 46, [3, 0, 2202, 2203, 1001, 0], [], [sgX10_within]), (7, 1, .ireturn, [1], [], [])]
def bsX10_isEvent : List (Nat × List gw_E) := [(0, bkX10_isEvent_0)]
theorem fdX10_isEvent_0 : gw_find bsX10_isEvent 0 = bkX10_isEvent_0 := rfl
set_option maxRecDepth 40000 in
theorem stX10_isEvent : gw_sta sgX10_isEvent bsX10_isEvent := ⟨by decide +kernel, gw_mem2 (i := 4016) rfl rfl, gw_all (by decide +kernel)⟩
def bkX10_isVector_0 : List gw_E := [(0, 1, .iload_n 0, [0], [], []), (1, 1, .iconst 0, [], [0], []), (2, 2, .bipush 15, [], [15], []), (4, 3, .invokestatic 46, [3, 0, 2202, 2203, 1001, 0], [], [sgX10_within]), (7, 1, .ireturn, [1], [], [])]
def bsX10_isVector : List (Nat × List gw_E) := [(0, bkX10_isVector_0)]
theorem fdX10_isVector_0 : gw_find bsX10_isVector 0 = bkX10_isVector_0 := rfl
set_option maxRecDepth 40000 in
theorem stX10_isVector : gw_sta sgX10_isVector bsX10_isVector := ⟨by decide +kernel, gw_mem2 (i := 4036) rfl rfl, gw_all (by decide +kernel)⟩
def bkX10_isGuest_0 : List gw_E := [(0, 1, .iload_n 0, [0], [], []), (1, 1, .iconst 1, [], [1], []), (2, 3, .if_icmp .eq 8, [10], [], []), (5, 1, .iload_n 0, [0], [], []), (6, 1, .iconst 2, [], [2], []), (7, 3, .if_icmp .ne 7, [14], [], [])]
def bkX10_isGuest_10 : List gw_E := [(10, 1, .iconst 1, [], [1], []), (11, 3, .goto 4, [15], [], [])]
def bkX10_isGuest_14 : List gw_E := [(14, 1, .iconst 0, [], [0], [])]
def bkX10_isGuest_15 : List gw_E := [(15, 1, .ireturn, [1], [], [])]
def bsX10_isGuest : List (Nat × List gw_E) := [(0, bkX10_isGuest_0), (10, bkX10_isGuest_10), (14, bkX10_isGuest_14), (15, bkX10_isGuest_15)]
theorem fdX10_isGuest_0 : gw_find bsX10_isGuest 0 = bkX10_isGuest_0 := rfl
theorem fdX10_isGuest_10 : gw_find bsX10_isGuest 10 = bkX10_isGuest_10 := rfl
theorem fdX10_isGuest_14 : gw_find bsX10_isGuest 14 = bkX10_isGuest_14 := rfl
theorem fdX10_isGuest_15 : gw_find bsX10_isGuest 15 = bkX10_isGuest_15 := rfl
set_option maxRecDepth 40000 in
theorem stX10_isGuest : gw_sta sgX10_isGuest bsX10_isGuest := ⟨by decide +kernel, gw_mem2 (i := 4057) rfl rfl, gw_all (by decide +kernel)⟩
def bkX10_isInnerGuest_0 : List gw_E := [(0, 1, .iload_n 0, [0], [], []), (1, 1, .iconst 0, [], [0], []), (2, 1, .iconst 2, [], [2], []), (3, 3, .invokestatic 46, [3, 0, 2202, 2203, 1001, 0], [], [sgX10_within]), (6, 1, .ireturn, [1], [], [])]
def bsX10_isInnerGuest : List (Nat × List gw_E) := [(0, bkX10_isInnerGuest_0)]
theorem fdX10_isInnerGuest_0 : gw_find bsX10_isInnerGuest 0 = bkX10_isInnerGuest_0 := rfl
set_option maxRecDepth 40000 in
theorem stX10_isInnerGuest : gw_sta sgX10_isInnerGuest bsX10_isInnerGuest := ⟨by decide +kernel, gw_mem2 (i := 4072) rfl rfl, gw_all (by decide +kernel)⟩
def bkX10_mayHaveHandler_0 : List gw_E := [(0, 1, .iload_n 0, [0], [], []), (1, 1, .iconst 1, [], [1], []), (2, 3, .if_icmp .eq 20, [22], [], []), (5, 1, .iload_n 0, [0], [], []), (6, 1, .iconst 4, [], [4], []), (7, 3, .if_icmp .eq 15, [22], [], []), (10, 1, .iload_n 0, [0], [], []), (11, 2, .bipush 6, [], [6], []), (13, 3, .if_icmp .eq 9, [22], [], []), (16, 1, .iload_n 0, [0], [], []), (17, 2, .bipush 8, [], [8], []), (19, 3, .if_icmp .ne 7, [26], [], [])]
def bkX10_mayHaveHandler_22 : List gw_E := [(22, 1, .iconst 1, [], [1], []), (23, 3, .goto 4, [27], [], [])]
def bkX10_mayHaveHandler_26 : List gw_E := [(26, 1, .iconst 0, [], [0], [])]
def bkX10_mayHaveHandler_27 : List gw_E := [(27, 1, .ireturn, [1], [], [])]
def bsX10_mayHaveHandler : List (Nat × List gw_E) := [(0, bkX10_mayHaveHandler_0), (22, bkX10_mayHaveHandler_22), (26, bkX10_mayHaveHandler_26), (27, bkX10_mayHaveHandler_27)]
theorem fdX10_mayHaveHandler_0 : gw_find bsX10_mayHaveHandler 0 = bkX10_mayHaveHandler_0 := rfl
theorem fdX10_mayHaveHandler_22 : gw_find bsX10_mayHaveHandler 22 = bkX10_mayHaveHandler_22 := rfl
theorem fdX10_mayHaveHandler_26 : gw_find bsX10_mayHaveHandler 26 = bkX10_mayHaveHandler_26 := rfl
theorem fdX10_mayHaveHandler_27 : gw_find bsX10_mayHaveHandler 27 = bkX10_mayHaveHandler_27 := rfl
set_option maxRecDepth 40000 in
theorem stX10_mayHaveHandler : gw_sta sgX10_mayHaveHandler bsX10_mayHaveHandler := ⟨by decide +kernel, gw_mem2 (i := 4109) rfl rfl, gw_all (by decide +kernel)⟩
def bkX10_isAct_0 : List gw_E := [(0, 1, .iload_n 2, [2], [], []), (1, 1, .iconst 0, [], [0], []), (2, 1, .iload_n 0, [0], [], []), (3, 1, .iload_n 1, [1], [], []), (4, 3, .invokestatic 425, [2, 0, 4170, 4171, 1001, 0], [], [sgX10_mostOfA]), (7, 3, .invokestatic 46, [3, 0, 2202, 2203, 1001, 0], [], [sgX10_within]), (10, 3, .ifCond .eq 20, [30], [], []), (13, 1, .iload_n 3, [3], [], []), (14, 1, .iconst 0, [], [0], []), (15, 1, .iload_n 0, [0], [], []), (16, 1, .iload_n 1, [1], [], []), (17, 3, .invokestatic 428, [2, 0, 4173, 4174, 1001, 0], [], [sgX10_mostOfB]), (20, 3, .invokestatic 46, [3, 0, 2202, 2203, 1001, 0], [], [sgX10_within]), (23, 3, .ifCond .eq 7, [30], [], []), (26, 1, .iconst 1, [], [1], []), (27, 3, .goto 4, [31], [], [])]
def bkX10_isAct_30 : List gw_E := [(30, 1, .iconst 0, [], [0], [])]
def bkX10_isAct_31 : List gw_E := [(31, 1, .ireturn, [1], [], [])]
def bsX10_isAct : List (Nat × List gw_E) := [(0, bkX10_isAct_0), (30, bkX10_isAct_30), (31, bkX10_isAct_31)]
theorem fdX10_isAct_0 : gw_find bsX10_isAct 0 = bkX10_isAct_0 := rfl
theorem fdX10_isAct_30 : gw_find bsX10_isAct 30 = bkX10_isAct_30 := rfl
theorem fdX10_isAct_31 : gw_find bsX10_isAct 31 = bkX10_isAct_31 := rfl
set_option maxRecDepth 40000 in
theorem stX10_isAct : gw_sta sgX10_isAct bsX10_isAct := ⟨by decide +kernel, gw_mem2 (i := 4169) rfl rfl, gw_all (by decide +kernel)⟩
def bkX10_mostOfA_0 : List gw_E := [(0, 1, .iload_n 1, [1], [], []), (1, 63, .tableswitch 117 0 11 #[63, 63, 63, 66, 69, 69, 71, 83, 63, 83, 95, 106], [118, 64, 64, 64, 67, 70, 70, 72, 84, 64, 84, 96, 107], [0], [])]
def bkX10_mostOfA_64 : List gw_E := [(64, 2, .bipush 15, [], [15], []), (66, 1, .ireturn, [0], [], [])]
def bkX10_mostOfA_67 : List gw_E := [(67, 2, .bipush 7, [], [7], []), (69, 1, .ireturn, [0], [], [])]
def bkX10_mostOfA_70 : List gw_E := [(70, 1, .iconst 0, [], [0], []), (71, 1, .ireturn, [0], [], [])]
def bkX10_mostOfA_72 : List gw_E := [(72, 1, .iload_n 0, [0], [], []), (73, 1, .iconst 2, [], [2], []), (74, 3, .if_icmp .ne 8, [82], [], []), (77, 2, .bipush 15, [], [15], []), (79, 3, .goto 4, [83], [], [])]
def bkX10_mostOfA_82 : List gw_E := [(82, 1, .iconst 0, [], [0], [])]
def bkX10_mostOfA_83 : List gw_E := [(83, 1, .ireturn, [0], [], [])]
def bkX10_mostOfA_84 : List gw_E := [(84, 1, .iload_n 0, [0], [], []), (85, 1, .iconst 1, [], [1], []), (86, 3, .if_icmp .ne 8, [94], [], []), (89, 2, .bipush 15, [], [15], []), (91, 3, .goto 4, [95], [], [])]
def bkX10_mostOfA_94 : List gw_E := [(94, 1, .iconst 0, [], [0], [])]
def bkX10_mostOfA_95 : List gw_E := [(95, 1, .ireturn, [0], [], [])]
def bkX10_mostOfA_96 : List gw_E := [(96, 1, .iload_n 0, [0], [], []), (97, 1, .iconst 1, [], [1], []), (98, 3, .if_icmp .ne 7, [105], [], []), (101, 1, .iconst 0, [], [0], []), (102, 3, .goto 4, [106], [], [])]
def bkX10_mostOfA_105 : List gw_E := [(105, 1, .iconst (-1), [], [-1], [])]
def bkX10_mostOfA_106 : List gw_E := [(106, 1, .ireturn, [0], [], [])]
def bkX10_mostOfA_107 : List gw_E := [(107, 1, .iload_n 0, [0], [], []), (108, 1, .iconst 1, [], [1], []), (109, 3, .if_icmp .ne 7, [116], [], []), (112, 1, .iconst 2, [], [2], []), (113, 3, .goto 4, [117], [], [])]
def bkX10_mostOfA_116 : List gw_E := [(116, 1, .iconst (-1), [], [-1], [])]
def bkX10_mostOfA_117 : List gw_E := [(117, 1, .ireturn, [0], [], [])]
def bkX10_mostOfA_118 : List gw_E := [(118, 1, .iconst (-1), [], [-1], []), (119, 1, .ireturn, [0], [], [])]
def bsX10_mostOfA : List (Nat × List gw_E) := [(0, bkX10_mostOfA_0), (64, bkX10_mostOfA_64), (67, bkX10_mostOfA_67), (70, bkX10_mostOfA_70), (72, bkX10_mostOfA_72), (82, bkX10_mostOfA_82), (83, bkX10_mostOfA_83), (84, bkX10_mostOfA_84), (94, bkX10_mostOfA_94), (95, bkX10_mostOfA_95), (96, bkX10_mostOfA_96), (105, bkX10_mostOfA_105), (106, bkX10_mostOfA_106), (107, bkX10_mostOfA_107), (116, bkX10_mostOfA_116), (117, bkX10_mostOfA_117), (118, bkX10_mostOfA_118)]
theorem fdX10_mostOfA_0 : gw_find bsX10_mostOfA 0 = bkX10_mostOfA_0 := rfl
theorem fdX10_mostOfA_64 : gw_find bsX10_mostOfA 64 = bkX10_mostOfA_64 := rfl
theorem fdX10_mostOfA_67 : gw_find bsX10_mostOfA 67 = bkX10_mostOfA_67 := rfl
theorem fdX10_mostOfA_70 : gw_find bsX10_mostOfA 70 = bkX10_mostOfA_70 := rfl
theorem fdX10_mostOfA_72 : gw_find bsX10_mostOfA 72 = bkX10_mostOfA_72 := rfl
theorem fdX10_mostOfA_82 : gw_find bsX10_mostOfA 82 = bkX10_mostOfA_82 := rfl
theorem fdX10_mostOfA_83 : gw_find bsX10_mostOfA 83 = bkX10_mostOfA_83 := rfl
theorem fdX10_mostOfA_84 : gw_find bsX10_mostOfA 84 = bkX10_mostOfA_84 := rfl
theorem fdX10_mostOfA_94 : gw_find bsX10_mostOfA 94 = bkX10_mostOfA_94 := rfl
theorem fdX10_mostOfA_95 : gw_find bsX10_mostOfA 95 = bkX10_mostOfA_95 := rfl
theorem fdX10_mostOfA_96 : gw_find bsX10_mostOfA 96 = bkX10_mostOfA_96 := rfl
theorem fdX10_mostOfA_105 : gw_find bsX10_mostOfA 105 = bkX10_mostOfA_105 := rfl
theorem fdX10_mostOfA_106 : gw_find bsX10_mostOfA 106 = bkX10_mostOfA_106 := rfl
theorem fdX10_mostOfA_107 : gw_find bsX10_mostOfA 107 = bkX10_mostOfA_107 := rfl
theorem fdX10_mostOfA_116 : gw_find bsX10_mostOfA 116 = bkX10_mostOfA_116 := rfl
theorem fdX10_mostOfA_117 : gw_find bsX10_mostOfA 117 = bkX10_mostOfA_117 := rfl
theorem fdX10_mostOfA_118 : gw_find bsX10_mostOfA 118 = bkX10_mostOfA_118 := rfl
set_option maxRecDepth 40000 in
theorem stX10_mostOfA : gw_sta sgX10_mostOfA bsX10_mostOfA := ⟨by decide +kernel, gw_mem2 (i := 4172) rfl rfl, gw_all (by decide +kernel)⟩
def bkX10_mostOfB_0 : List gw_E := [(0, 1, .iload_n 0, [0], [], []), (1, 1, .iconst 1, [], [1], []), (2, 3, .if_icmp .ne 17, [19], [], []), (5, 1, .iload_n 1, [1], [], []), (6, 2, .bipush 7, [], [7], []), (8, 3, .if_icmp .ne 7, [15], [], []), (11, 1, .iconst 1, [], [1], []), (12, 3, .goto 18, [30], [], [])]
def bkX10_mostOfB_15 : List gw_E := [(15, 1, .iconst 0, [], [0], []), (16, 3, .goto 14, [30], [], [])]
def bkX10_mostOfB_19 : List gw_E := [(19, 1, .iload_n 1, [1], [], []), (20, 2, .bipush 6, [], [6], []), (22, 3, .if_icmp .ne 7, [29], [], []), (25, 1, .iconst 1, [], [1], []), (26, 3, .goto 4, [30], [], [])]
def bkX10_mostOfB_29 : List gw_E := [(29, 1, .iconst 0, [], [0], [])]
def bkX10_mostOfB_30 : List gw_E := [(30, 1, .istore_n 2, [2], [], []), (31, 1, .iload_n 1, [1], [], []), (32, 1, .iconst 1, [], [1], []), (33, 3, .if_icmp .ne 7, [40], [], []), (36, 3, .sipush 9999, [], [9999], []), (39, 1, .ireturn, [0], [], [])]
def bkX10_mostOfB_40 : List gw_E := [(40, 1, .iload_n 2, [2], [], []), (41, 3, .ifCond .eq 8, [49], [], []), (44, 2, .bipush 15, [], [15], []), (46, 3, .goto 4, [50], [], [])]
def bkX10_mostOfB_49 : List gw_E := [(49, 1, .iconst 0, [], [0], [])]
def bkX10_mostOfB_50 : List gw_E := [(50, 1, .ireturn, [0], [], [])]
def bsX10_mostOfB : List (Nat × List gw_E) := [(0, bkX10_mostOfB_0), (15, bkX10_mostOfB_15), (19, bkX10_mostOfB_19), (29, bkX10_mostOfB_29), (30, bkX10_mostOfB_30), (40, bkX10_mostOfB_40), (49, bkX10_mostOfB_49), (50, bkX10_mostOfB_50)]
theorem fdX10_mostOfB_0 : gw_find bsX10_mostOfB 0 = bkX10_mostOfB_0 := rfl
theorem fdX10_mostOfB_15 : gw_find bsX10_mostOfB 15 = bkX10_mostOfB_15 := rfl
theorem fdX10_mostOfB_19 : gw_find bsX10_mostOfB 19 = bkX10_mostOfB_19 := rfl
theorem fdX10_mostOfB_29 : gw_find bsX10_mostOfB 29 = bkX10_mostOfB_29 := rfl
theorem fdX10_mostOfB_30 : gw_find bsX10_mostOfB 30 = bkX10_mostOfB_30 := rfl
theorem fdX10_mostOfB_40 : gw_find bsX10_mostOfB 40 = bkX10_mostOfB_40 := rfl
theorem fdX10_mostOfB_49 : gw_find bsX10_mostOfB 49 = bkX10_mostOfB_49 := rfl
theorem fdX10_mostOfB_50 : gw_find bsX10_mostOfB 50 = bkX10_mostOfB_50 := rfl
set_option maxRecDepth 40000 in
theorem stX10_mostOfB : gw_sta sgX10_mostOfB bsX10_mostOfB := ⟨by decide +kernel, gw_mem2 (i := 4175) rfl rfl, gw_all (by decide +kernel)⟩
def bkX10_hasBit_0 : List gw_E := [(0, 1, .iload_n 0, [0], [], []), (1, 1, .iload_n 1, [1], [], []), (2, 1, .ishr, [], [], []), (3, 1, .iconst 1, [], [1], []), (4, 1, .iand, [], [], []), (5, 3, .ifCond .eq 7, [12], [], []), (8, 1, .iconst 1, [], [1], []), (9, 3, .goto 4, [13], [], [])]
def bkX10_hasBit_12 : List gw_E := [(12, 1, .iconst 0, [], [0], [])]
def bkX10_hasBit_13 : List gw_E := [(13, 1, .ireturn, [1], [], [])]
def bsX10_hasBit : List (Nat × List gw_E) := [(0, bkX10_hasBit_0), (12, bkX10_hasBit_12), (13, bkX10_hasBit_13)]
theorem fdX10_hasBit_0 : gw_find bsX10_hasBit 0 = bkX10_hasBit_0 := rfl
theorem fdX10_hasBit_12 : gw_find bsX10_hasBit 12 = bkX10_hasBit_12 := rfl
theorem fdX10_hasBit_13 : gw_find bsX10_hasBit 13 = bkX10_hasBit_13 := rfl
set_option maxRecDepth 40000 in
theorem stX10_hasBit : gw_sta sgX10_hasBit bsX10_hasBit := ⟨by decide +kernel, gw_mem2 (i := 3045) rfl rfl, gw_all (by decide +kernel)⟩
def bkX10_greatestOf_0 : List gw_E := [(0, 2, .bipush 15, [], [15], []), (2, 1, .istore_n 1, [1], [], [])]
def bkX10_greatestOf_3 : List gw_E := [(3, 1, .iload_n 1, [1], [], []), (4, 3, .ifCond .lt 19, [23], [], []), (7, 1, .iload_n 0, [0], [], []), (8, 1, .iload_n 1, [1], [], []), (9, 1, .ishr, [], [], []), (10, 1, .iconst 1, [], [1], []), (11, 1, .iand, [], [], []), (12, 3, .ifCond .eq 5, [17], [], []), (15, 1, .iload_n 1, [1], [], []), (16, 1, .ireturn, [0], [], [])]
def bkX10_greatestOf_17 : List gw_E := [(17, 3, .iinc 1 (-1), [1], [-1], []), (20, 3, .goto (-17), [3], [], [])]
def bkX10_greatestOf_23 : List gw_E := [(23, 1, .iconst (-1), [], [-1], []), (24, 1, .ireturn, [0], [], [])]
def bsX10_greatestOf : List (Nat × List gw_E) := [(0, bkX10_greatestOf_0), (3, bkX10_greatestOf_3), (17, bkX10_greatestOf_17), (23, bkX10_greatestOf_23)]
theorem fdX10_greatestOf_0 : gw_find bsX10_greatestOf 0 = bkX10_greatestOf_0 := rfl
theorem fdX10_greatestOf_3 : gw_find bsX10_greatestOf 3 = bkX10_greatestOf_3 := rfl
theorem fdX10_greatestOf_17 : gw_find bsX10_greatestOf 17 = bkX10_greatestOf_17 := rfl
theorem fdX10_greatestOf_23 : gw_find bsX10_greatestOf 23 = bkX10_greatestOf_23 := rfl
set_option maxRecDepth 40000 in
theorem stX10_greatestOf : gw_sta sgX10_greatestOf bsX10_greatestOf := ⟨by decide +kernel, gw_mem2 (i := 3056) rfl rfl, gw_all (by decide +kernel)⟩
def bkX10_lowestOutside_0 : List gw_E := [(0, 1, .iconst 0, [], [0], []), (1, 1, .istore_n 1, [1], [], [])]
def bkX10_lowestOutside_2 : List gw_E := [(2, 1, .iload_n 1, [1], [], []), (3, 2, .bipush 10, [], [10], []), (5, 3, .if_icmp .ge 19, [24], [], []), (8, 1, .iload_n 0, [0], [], []), (9, 1, .iload_n 1, [1], [], []), (10, 1, .ishr, [], [], []), (11, 1, .iconst 1, [], [1], []), (12, 1, .iand, [], [], []), (13, 3, .ifCond .ne 5, [18], [], []), (16, 1, .iload_n 1, [1], [], []), (17, 1, .ireturn, [0], [], [])]
def bkX10_lowestOutside_18 : List gw_E := [(18, 3, .iinc 1 1, [1], [1], []), (21, 3, .goto (-19), [2], [], [])]
def bkX10_lowestOutside_24 : List gw_E := [(24, 1, .iconst (-1), [], [-1], []), (25, 1, .ireturn, [0], [], [])]
def bsX10_lowestOutside : List (Nat × List gw_E) := [(0, bkX10_lowestOutside_0), (2, bkX10_lowestOutside_2), (18, bkX10_lowestOutside_18), (24, bkX10_lowestOutside_24)]
theorem fdX10_lowestOutside_0 : gw_find bsX10_lowestOutside 0 = bkX10_lowestOutside_0 := rfl
theorem fdX10_lowestOutside_2 : gw_find bsX10_lowestOutside 2 = bkX10_lowestOutside_2 := rfl
theorem fdX10_lowestOutside_18 : gw_find bsX10_lowestOutside 18 = bkX10_lowestOutside_18 := rfl
theorem fdX10_lowestOutside_24 : gw_find bsX10_lowestOutside 24 = bkX10_lowestOutside_24 := rfl
set_option maxRecDepth 40000 in
theorem stX10_lowestOutside : gw_sta sgX10_lowestOutside bsX10_lowestOutside := ⟨by decide +kernel, gw_mem2 (i := 3235) rfl rfl, gw_all (by decide +kernel)⟩
def bkX11_init_0 : List gw_E := [(0, 1, .aload_n 0, [0], [], []), (1, 3, .invokespecial 1, [0, 2, 6069, 1025, 1026, 0], [], []), (4, 1, .aload_n 0, [0], [], []), (5, 3, .sipush 20813, [], [20813], []), (8, 2, .newarray .int, [], [], []), (10, 3, .putfield 7, [11, 0, 1, 6073], [], []), (13, 1, .aload_n 0, [0], [], []), (14, 3, .sipush 20813, [], [20813], []), (17, 2, .newarray .int, [], [], []), (19, 3, .putfield 13, [11, 1, 1, 6074], [], []), (22, 1, .aload_n 0, [0], [], []), (23, 3, .sipush 991, [], [991], []), (26, 2, .newarray .int, [], [], []), (28, 3, .putfield 16, [11, 2, 1, 6075], [], []), (31, 1, .aload_n 0, [0], [], []), (32, 2, .bipush 16, [], [16], []), (34, 2, .newarray .int, [], [], []), (36, 3, .putfield 19, [11, 3, 1, 6076], [], []), (39, 1, .aload_n 0, [0], [], []), (40, 2, .bipush 32, [], [32], []), (42, 2, .newarray .int, [], [], []), (44, 3, .putfield 22, [11, 4, 1, 6077], [], []), (47, 1, .aload_n 0, [0], [], []), (48, 3, .getfield 7, [11, 0, 1, 6073], [], []), (51, 1, .iconst 2, [], [2], []), (52, 1, .iconst 1, [], [1], []), (53, 1, .iastore, [], [], []), (54, 1, .aload_n 0, [0], [], []), (55, 3, .getfield 7, [11, 0, 1, 6073], [], []), (58, 1, .iconst 4, [], [4], []), (59, 2, .bipush 6, [], [6], []), (61, 1, .iastore, [], [], []), (62, 1, .aload_n 0, [0], [], []), (63, 3, .getfield 7, [11, 0, 1, 6073], [], []), (66, 2, .bipush 13, [], [13], []), (68, 1, .iconst (-1), [], [-1], []), (69, 1, .iastore, [], [], []), (70, 1, .aload_n 0, [0], [], []), (71, 3, .getfield 7, [11, 0, 1, 6073], [], []), (74, 2, .bipush 14, [], [14], []), (76, 1, .iconst (-1), [], [-1], []), (77, 1, .iastore, [], [], []), (78, 1, .aload_n 0, [0], [], []), (79, 3, .getfield 7, [11, 0, 1, 6073], [], []), (82, 2, .bipush 16, [], [16], []), (84, 1, .iconst (-1), [], [-1], []), (85, 1, .iastore, [], [], []), (86, 1, .aload_n 0, [0], [], []), (87, 3, .getfield 7, [11, 0, 1, 6073], [], []), (90, 2, .bipush 19, [], [19], []), (92, 1, .iconst (-1), [], [-1], []), (93, 1, .iastore, [], [], []), (94, 1, .aload_n 0, [0], [], []), (95, 3, .getfield 7, [11, 0, 1, 6073], [], []), (98, 2, .bipush 20, [], [20], []), (100, 1, .iconst (-1), [], [-1], []), (101, 1, .iastore, [], [], []), (102, 1, .aload_n 0, [0], [], []), (103, 3, .getfield 7, [11, 0, 1, 6073], [], []), (106, 2, .bipush 56, [], [56], []), (108, 1, .iconst (-1), [], [-1], []), (109, 1, .iastore, [], [], []), (110, 1, .aload_n 0, [0], [], []), (111, 3, .getfield 7, [11, 0, 1, 6073], [], []), (114, 2, .bipush 57, [], [57], []), (116, 1, .iconst (-1), [], [-1], []), (117, 1, .iastore, [], [], []), (118, 1, .iconst 0, [], [0], []), (119, 1, .istore_n 1, [1], [], [])]
def bkX11_init_120 : List gw_E := [(120, 1, .iload_n 1, [1], [], []), (121, 1, .iconst 4, [], [4], []), (122, 3, .if_icmp .ge 94, [216], [], []), (125, 1, .aload_n 0, [0], [], []), (126, 3, .getfield 7, [11, 0, 1, 6073], [], []), (129, 2, .bipush 58, [], [58], []), (131, 3, .sipush 162, [], [162], []), (134, 1, .iload_n 1, [1], [], []), (135, 1, .imul, [], [], []), (136, 1, .iadd, [], [], []), (137, 1, .iconst 3, [], [3], []), (138, 1, .iadd, [], [], []), (139, 2, .bipush 16, [], [16], []), (141, 1, .iastore, [], [], []), (142, 1, .iconst 0, [], [0], []), (143, 1, .istore_n 2, [2], [], [])]
def bkX11_init_144 : List gw_E := [(144, 1, .iload_n 2, [2], [], []), (145, 2, .bipush 32, [], [32], []), (147, 3, .if_icmp .ge 30, [177], [], []), (150, 1, .aload_n 0, [0], [], []), (151, 3, .getfield 7, [11, 0, 1, 6073], [], []), (154, 2, .bipush 58, [], [58], []), (156, 3, .sipush 162, [], [162], []), (159, 1, .iload_n 1, [1], [], []), (160, 1, .imul, [], [], []), (161, 1, .iadd, [], [], []), (162, 2, .bipush 79, [], [79], []), (164, 1, .iadd, [], [], []), (165, 1, .iconst 2, [], [2], []), (166, 1, .iload_n 2, [2], [], []), (167, 1, .imul, [], [], []), (168, 1, .iadd, [], [], []), (169, 1, .iconst (-1), [], [-1], []), (170, 1, .iastore, [], [], []), (171, 3, .iinc 2 1, [2], [1], []), (174, 3, .goto (-30), [144], [], [])]
def bkX11_init_177 : List gw_E := [(177, 1, .iconst 0, [], [0], []), (178, 1, .istore_n 2, [2], [], [])]
def bkX11_init_179 : List gw_E := [(179, 1, .iload_n 2, [2], [], []), (180, 1, .iconst 3, [], [3], []), (181, 3, .if_icmp .ge 29, [210], [], []), (184, 1, .aload_n 0, [0], [], []), (185, 3, .getfield 7, [11, 0, 1, 6073], [], []), (188, 2, .bipush 58, [], [58], []), (190, 3, .sipush 162, [], [162], []), (193, 1, .iload_n 1, [1], [], []), (194, 1, .imul, [], [], []), (195, 1, .iadd, [], [], []), (196, 3, .sipush 143, [], [143], []), (199, 1, .iadd, [], [], []), (200, 1, .iload_n 2, [2], [], []), (201, 1, .iadd, [], [], []), (202, 1, .iconst (-1), [], [-1], []), (203, 1, .iastore, [], [], []), (204, 3, .iinc 2 1, [2], [1], []), (207, 3, .goto (-28), [179], [], [])]
def bkX11_init_210 : List gw_E := [(210, 3, .iinc 1 1, [1], [1], []), (213, 3, .goto (-93), [120], [], [])]
def bkX11_init_216 : List gw_E := [(216, 1, .iconst 0, [], [0], []), (217, 1, .istore_n 1, [1], [], [])]
def bkX11_init_218 : List gw_E := [(218, 1, .iload_n 1, [1], [], []), (219, 2, .bipush 16, [], [16], []), (221, 3, .if_icmp .ge 46, [267], [], []), (224, 1, .aload_n 0, [0], [], []), (225, 3, .getfield 7, [11, 0, 1, 6073], [], []), (228, 3, .sipush 706, [], [706], []), (231, 1, .iconst 2, [], [2], []), (232, 1, .iload_n 1, [1], [], []), (233, 1, .imul, [], [], []), (234, 1, .iadd, [], [], []), (235, 1, .iconst (-1), [], [-1], []), (236, 1, .iastore, [], [], []), (237, 1, .aload_n 0, [0], [], []), (238, 3, .getfield 7, [11, 0, 1, 6073], [], []), (241, 3, .sipush 754, [], [754], []), (244, 1, .iconst 2, [], [2], []), (245, 1, .iload_n 1, [1], [], []), (246, 1, .imul, [], [], []), (247, 1, .iadd, [], [], []), (248, 1, .iconst (-1), [], [-1], []), (249, 1, .iastore, [], [], []), (250, 1, .aload_n 0, [0], [], []), (251, 3, .getfield 7, [11, 0, 1, 6073], [], []), (254, 3, .sipush 812, [], [812], []), (257, 1, .iload_n 1, [1], [], []), (258, 1, .iadd, [], [], []), (259, 1, .iconst (-1), [], [-1], []), (260, 1, .iastore, [], [], []), (261, 3, .iinc 1 1, [1], [1], []), (264, 3, .goto (-46), [218], [], [])]
def bkX11_init_267 : List gw_E := [(267, 1, .iconst 0, [], [0], []), (268, 1, .istore_n 1, [1], [], [])]
def bkX11_init_269 : List gw_E := [(269, 1, .iload_n 1, [1], [], []), (270, 2, .bipush 10, [], [10], []), (272, 3, .if_icmp .ge 23, [295], [], []), (275, 1, .aload_n 0, [0], [], []), (276, 3, .getfield 7, [11, 0, 1, 6073], [], []), (279, 3, .sipush 802, [], [802], []), (282, 1, .iload_n 1, [1], [], []), (283, 1, .iadd, [], [], []), (284, 2, .bipush 11, [], [11], []), (286, 1, .iload_n 1, [1], [], []), (287, 1, .imul, [], [], []), (288, 1, .iastore, [], [], []), (289, 3, .iinc 1 1, [1], [1], []), (292, 3, .goto (-23), [269], [], [])]
def bkX11_init_295 : List gw_E := [(295, 1, .iconst 0, [], [0], []), (296, 1, .istore_n 1, [1], [], [])]
def bkX11_init_297 : List gw_E := [(297, 1, .iload_n 1, [1], [], []), (298, 2, .bipush 9, [], [9], []), (300, 3, .if_icmp .ge 20, [320], [], []), (303, 1, .aload_n 0, [0], [], []), (304, 3, .getfield 7, [11, 0, 1, 6073], [], []), (307, 3, .sipush 828, [], [828], []), (310, 1, .iload_n 1, [1], [], []), (311, 1, .iadd, [], [], []), (312, 1, .iconst (-1), [], [-1], []), (313, 1, .iastore, [], [], []), (314, 3, .iinc 1 1, [1], [1], []), (317, 3, .goto (-20), [297], [], [])]
def bkX11_init_320 : List gw_E := [(320, 1, .aload_n 0, [0], [], []), (321, 3, .getfield 7, [11, 0, 1, 6073], [], []), (324, 1, .aload_n 0, [0], [], []), (325, 3, .getfield 13, [11, 1, 1, 6074], [], []), (328, 3, .invokestatic 25, [2, 0, 6070, 6071, 1013, 0], [], [sgX11_copy]), (331, 1, .return_, [], [], [])]
def bsX11_init : List (Nat × List gw_E) := [(0, bkX11_init_0), (120, bkX11_init_120), (144, bkX11_init_144), (177, bkX11_init_177), (179, bkX11_init_179), (210, bkX11_init_210), (216, bkX11_init_216), (218, bkX11_init_218), (267, bkX11_init_267), (269, bkX11_init_269), (295, bkX11_init_295), (297, bkX11_init_297), (320, bkX11_init_320)]
theorem fdX11_init_0 : gw_find bsX11_init 0 = bkX11_init_0 := rfl
theorem fdX11_init_120 : gw_find bsX11_init 120 = bkX11_init_120 := rfl
theorem fdX11_init_144 : gw_find bsX11_init 144 = bkX11_init_144 := rfl
theorem fdX11_init_177 : gw_find bsX11_init 177 = bkX11_init_177 := rfl
theorem fdX11_init_179 : gw_find bsX11_init 179 = bkX11_init_179 := rfl
theorem fdX11_init_210 : gw_find bsX11_init 210 = bkX11_init_210 := rfl
theorem fdX11_init_216 : gw_find bsX11_init 216 = bkX11_init_216 := rfl
theorem fdX11_init_218 : gw_find bsX11_init 218 = bkX11_init_218 := rfl
theorem fdX11_init_267 : gw_find bsX11_init 267 = bkX11_init_267 := rfl
theorem fdX11_init_269 : gw_find bsX11_init 269 = bkX11_init_269 := rfl
theorem fdX11_init_295 : gw_find bsX11_init 295 = bkX11_init_295 := rfl
theorem fdX11_init_297 : gw_find bsX11_init 297 = bkX11_init_297 := rfl
theorem fdX11_init_320 : gw_find bsX11_init 320 = bkX11_init_320 := rfl
set_option maxRecDepth 40000 in
theorem stX11_init : gw_sta sgX11_init bsX11_init := ⟨by decide +kernel, gw_mem2 (i := 6068) rfl rfl, gw_all (by decide +kernel)⟩
def bkX11_copy_0 : List gw_E := [(0, 1, .iconst 0, [], [0], []), (1, 1, .istore_n 2, [2], [], [])]
def bkX11_copy_2 : List gw_E := [(2, 1, .iload_n 2, [2], [], []), (3, 3, .sipush 20813, [], [20813], []), (6, 3, .if_icmp .ge 15, [21], [], []), (9, 1, .aload_n 1, [1], [], []), (10, 1, .iload_n 2, [2], [], []), (11, 1, .aload_n 0, [0], [], []), (12, 1, .iload_n 2, [2], [], []), (13, 1, .iaload, [], [], []), (14, 1, .iastore, [], [], []), (15, 3, .iinc 2 1, [2], [1], []), (18, 3, .goto (-16), [2], [], [])]
def bkX11_copy_21 : List gw_E := [(21, 1, .return_, [], [], [])]
def bsX11_copy : List (Nat × List gw_E) := [(0, bkX11_copy_0), (2, bkX11_copy_2), (21, bkX11_copy_21)]
theorem fdX11_copy_0 : gw_find bsX11_copy 0 = bkX11_copy_0 := rfl
theorem fdX11_copy_2 : gw_find bsX11_copy 2 = bkX11_copy_2 := rfl
theorem fdX11_copy_21 : gw_find bsX11_copy 21 = bkX11_copy_21 := rfl
set_option maxRecDepth 40000 in
theorem stX11_copy : gw_sta sgX11_copy bsX11_copy := ⟨by decide +kernel, gw_mem2 (i := 6072) rfl rfl, gw_all (by decide +kernel)⟩
def bkX11_isIn_0 : List gw_E := [(0, 1, .iload_n 0, [0], [], []), (1, 1, .iload_n 1, [1], [], []), (2, 3, .if_icmp .lt 12, [14], [], []), (5, 1, .iload_n 0, [0], [], []), (6, 1, .iload_n 2, [2], [], []), (7, 3, .if_icmp .gt 7, [14], [], []), (10, 1, .iconst 1, [], [1], []), (11, 3, .goto 4, [15], [], [])]
def bkX11_isIn_14 : List gw_E := [(14, 1, .iconst 0, [], [0], [])]
def bkX11_isIn_15 : List gw_E := [(15, 1, .ireturn, [1], [], [])]
def bsX11_isIn : List (Nat × List gw_E) := [(0, bkX11_isIn_0), (14, bkX11_isIn_14), (15, bkX11_isIn_15)]
theorem fdX11_isIn_0 : gw_find bsX11_isIn 0 = bkX11_isIn_0 := rfl
theorem fdX11_isIn_14 : gw_find bsX11_isIn 14 = bkX11_isIn_14 := rfl
theorem fdX11_isIn_15 : gw_find bsX11_isIn 15 = bkX11_isIn_15 := rfl
set_option maxRecDepth 40000 in
theorem stX11_isIn : gw_sta sgX11_isIn bsX11_isIn := ⟨by decide +kernel, gw_mem2 (i := 6124) rfl rfl, gw_all (by decide +kernel)⟩
def bkX11_has_0 : List gw_E := [(0, 1, .iload_n 0, [0], [], []), (1, 1, .iload_n 1, [1], [], []), (2, 1, .ishr, [], [], []), (3, 1, .iconst 1, [], [1], []), (4, 1, .iand, [], [], []), (5, 1, .iconst 1, [], [1], []), (6, 3, .if_icmp .ne 7, [13], [], []), (9, 1, .iconst 1, [], [1], []), (10, 3, .goto 4, [14], [], [])]
def bkX11_has_13 : List gw_E := [(13, 1, .iconst 0, [], [0], [])]
def bkX11_has_14 : List gw_E := [(14, 1, .ireturn, [1], [], [])]
def bsX11_has : List (Nat × List gw_E) := [(0, bkX11_has_0), (13, bkX11_has_13), (14, bkX11_has_14)]
theorem fdX11_has_0 : gw_find bsX11_has 0 = bkX11_has_0 := rfl
theorem fdX11_has_13 : gw_find bsX11_has 13 = bkX11_has_13 := rfl
theorem fdX11_has_14 : gw_find bsX11_has 14 = bkX11_has_14 := rfl
set_option maxRecDepth 40000 in
theorem stX11_has : gw_sta sgX11_has bsX11_has := ⟨by decide +kernel, gw_mem2 (i := 6178) rfl rfl, gw_all (by decide +kernel)⟩
def bkX11_many_0 : List gw_E := [(0, 1, .iconst 0, [], [0], []), (1, 1, .istore_n 1, [1], [], []), (2, 1, .iload_n 0, [0], [], []), (3, 1, .istore_n 2, [2], [], [])]
def bkX11_many_4 : List gw_E := [(4, 1, .iload_n 2, [2], [], []), (5, 3, .ifCond .eq 15, [20], [], []), (8, 3, .iinc 1 1, [1], [1], []), (11, 1, .iload_n 2, [2], [], []), (12, 1, .iload_n 2, [2], [], []), (13, 1, .iconst 1, [], [1], []), (14, 1, .isub, [], [], []), (15, 1, .iand, [], [], []), (16, 1, .istore_n 2, [2], [], []), (17, 3, .goto (-13), [4], [], [])]
def bkX11_many_20 : List gw_E := [(20, 1, .iload_n 1, [1], [], []), (21, 1, .ireturn, [0], [], [])]
def bsX11_many : List (Nat × List gw_E) := [(0, bkX11_many_0), (4, bkX11_many_4), (20, bkX11_many_20)]
theorem fdX11_many_0 : gw_find bsX11_many 0 = bkX11_many_0 := rfl
theorem fdX11_many_4 : gw_find bsX11_many 4 = bkX11_many_4 := rfl
theorem fdX11_many_20 : gw_find bsX11_many 20 = bkX11_many_20 := rfl
set_option maxRecDepth 40000 in
theorem stX11_many : gw_sta sgX11_many bsX11_many := ⟨by decide +kernel, gw_mem2 (i := 7173) rfl rfl, gw_all (by decide +kernel)⟩
def bkX11_greatest_0 : List gw_E := [(0, 2, .bipush 15, [], [15], []), (2, 1, .istore_n 1, [1], [], [])]
def bkX11_greatest_3 : List gw_E := [(3, 1, .iload_n 1, [1], [], []), (4, 3, .ifCond .lt 17, [21], [], []), (7, 1, .iload_n 0, [0], [], []), (8, 1, .iload_n 1, [1], [], []), (9, 3, .invokestatic 29, [2, 0, 6176, 6177, 1013, 0], [], [sgX11_has]), (12, 3, .ifCond .ne 9, [21], [], []), (15, 3, .iinc 1 (-1), [1], [-1], []), (18, 3, .goto (-15), [3], [], [])]
def bkX11_greatest_21 : List gw_E := [(21, 1, .iload_n 1, [1], [], []), (22, 1, .ireturn, [0], [], [])]
def bsX11_greatest : List (Nat × List gw_E) := [(0, bkX11_greatest_0), (3, bkX11_greatest_3), (21, bkX11_greatest_21)]
theorem fdX11_greatest_0 : gw_find bsX11_greatest 0 = bkX11_greatest_0 := rfl
theorem fdX11_greatest_3 : gw_find bsX11_greatest 3 = bkX11_greatest_3 := rfl
theorem fdX11_greatest_21 : gw_find bsX11_greatest 21 = bkX11_greatest_21 := rfl
set_option maxRecDepth 40000 in
theorem stX11_greatest : gw_sta sgX11_greatest bsX11_greatest := ⟨by decide +kernel, gw_mem2 (i := 6175) rfl rfl, gw_all (by decide +kernel)⟩
def bkX11_isPage_0 : List gw_E := [(0, 1, .iload_n 0, [0], [], []), (1, 1, .iconst 0, [], [0], []), (2, 2, .bipush 15, [], [15], []), (4, 3, .invokestatic 33, [3, 0, 6122, 6123, 1013, 0], [], [sgX11_isIn]), (7, 1, .ireturn, [1], [], [])]
def bsX11_isPage : List (Nat × List gw_E) := [(0, bkX11_isPage_0)]
theorem fdX11_isPage_0 : gw_find bsX11_isPage 0 = bkX11_isPage_0 := rfl
set_option maxRecDepth 40000 in
theorem stX11_isPage : gw_sta sgX11_isPage bsX11_isPage := ⟨by decide +kernel, gw_mem2 (i := 6121) rfl rfl, gw_all (by decide +kernel)⟩
def bkX11_isGuest_0 : List gw_E := [(0, 1, .iload_n 0, [0], [], []), (1, 1, .iconst 1, [], [1], []), (2, 1, .iconst 2, [], [2], []), (3, 3, .invokestatic 33, [3, 0, 6122, 6123, 1013, 0], [], [sgX11_isIn]), (6, 1, .ireturn, [1], [], [])]
def bsX11_isGuest : List (Nat × List gw_E) := [(0, bkX11_isGuest_0)]
theorem fdX11_isGuest_0 : gw_find bsX11_isGuest 0 = bkX11_isGuest_0 := rfl
set_option maxRecDepth 40000 in
theorem stX11_isGuest : gw_sta sgX11_isGuest bsX11_isGuest := ⟨by decide +kernel, gw_mem2 (i := 7109) rfl rfl, gw_all (by decide +kernel)⟩
def bkX11_guestAt_0 : List gw_E := [(0, 1, .iload_n 1, [1], [], []), (1, 1, .iconst 1, [], [1], []), (2, 3, .if_icmp .ne 8, [10], [], []), (5, 2, .bipush 58, [], [58], []), (7, 3, .goto 19, [26], [], [])]
def bkX11_guestAt_10 : List gw_E := [(10, 2, .bipush 58, [], [58], []), (12, 3, .sipush 162, [], [162], []), (15, 1, .iconst 1, [], [1], []), (16, 1, .aload_n 0, [0], [], []), (17, 3, .getfield 7, [11, 0, 1, 6073], [], []), (20, 2, .bipush 15, [], [15], []), (22, 1, .iaload, [], [], []), (23, 1, .iadd, [], [], []), (24, 1, .imul, [], [], []), (25, 1, .iadd, [], [], [])]
def bkX11_guestAt_26 : List gw_E := [(26, 1, .ireturn, [0], [], [])]
def bsX11_guestAt : List (Nat × List gw_E) := [(0, bkX11_guestAt_0), (10, bkX11_guestAt_10), (26, bkX11_guestAt_26)]
theorem fdX11_guestAt_0 : gw_find bsX11_guestAt 0 = bkX11_guestAt_0 := rfl
theorem fdX11_guestAt_10 : gw_find bsX11_guestAt 10 = bkX11_guestAt_10 := rfl
theorem fdX11_guestAt_26 : gw_find bsX11_guestAt 26 = bkX11_guestAt_26 := rfl
set_option maxRecDepth 40000 in
theorem stX11_guestAt : gw_sta sgX11_guestAt bsX11_guestAt := ⟨by decide +kernel, gw_mem2 (i := 6144) rfl rfl, gw_all (by decide +kernel)⟩
def bkX11_entryAt_0 : List gw_E := [(0, 1, .iload_n 1, [1], [], []), (1, 1, .iconst 3, [], [3], []), (2, 3, .if_icmp .ne 13, [15], [], []), (5, 3, .sipush 754, [], [754], []), (8, 1, .iconst 2, [], [2], []), (9, 1, .iload_n 2, [2], [], []), (10, 1, .imul, [], [], []), (11, 1, .iadd, [], [], []), (12, 3, .goto 35, [47], [], [])]
def bkX11_entryAt_15 : List gw_E := [(15, 1, .iload_n 1, [1], [], []), (16, 1, .iconst 2, [], [2], []), (17, 3, .if_icmp .ne 13, [30], [], []), (20, 3, .sipush 706, [], [706], []), (23, 1, .iconst 2, [], [2], []), (24, 1, .iload_n 2, [2], [], []), (25, 1, .imul, [], [], []), (26, 1, .iadd, [], [], []), (27, 3, .goto 20, [47], [], [])]
def bkX11_entryAt_30 : List gw_E := [(30, 1, .aload_n 0, [0], [], []), (31, 1, .iconst 2, [], [2], []), (32, 3, .invokevirtual 37, [1, 11, 6141, 6143, 27, 1013], [], [sgX11_guestAt]), (35, 2, .bipush 79, [], [79], []), (37, 1, .iadd, [], [], []), (38, 2, .bipush 32, [], [32], []), (40, 1, .iload_n 1, [1], [], []), (41, 1, .imul, [], [], []), (42, 1, .iadd, [], [], []), (43, 1, .iconst 2, [], [2], []), (44, 1, .iload_n 2, [2], [], []), (45, 1, .imul, [], [], []), (46, 1, .iadd, [], [], [])]
def bkX11_entryAt_47 : List gw_E := [(47, 1, .ireturn, [0], [], [])]
def bsX11_entryAt : List (Nat × List gw_E) := [(0, bkX11_entryAt_0), (15, bkX11_entryAt_15), (30, bkX11_entryAt_30), (47, bkX11_entryAt_47)]
theorem fdX11_entryAt_0 : gw_find bsX11_entryAt 0 = bkX11_entryAt_0 := rfl
theorem fdX11_entryAt_15 : gw_find bsX11_entryAt 15 = bkX11_entryAt_15 := rfl
theorem fdX11_entryAt_30 : gw_find bsX11_entryAt 30 = bkX11_entryAt_30 := rfl
theorem fdX11_entryAt_47 : gw_find bsX11_entryAt 47 = bkX11_entryAt_47 := rfl
set_option maxRecDepth 40000 in
theorem stX11_entryAt : gw_sta sgX11_entryAt bsX11_entryAt := ⟨by decide +kernel, gw_mem2 (i := 6140) rfl rfl, gw_all (by decide +kernel)⟩
def bkX11_toOf_0 : List gw_E := [(0, 1, .aload_n 0, [0], [], []), (1, 3, .getfield 7, [11, 0, 1, 6073], [], []), (4, 1, .aload_n 0, [0], [], []), (5, 1, .iload_n 1, [1], [], []), (6, 1, .iload_n 2, [2], [], []), (7, 3, .invokevirtual 41, [2, 11, 6137, 6139, 26, 1013], [], [sgX11_entryAt]), (10, 1, .iaload, [], [], []), (11, 1, .ireturn, [0], [], [])]
def bsX11_toOf : List (Nat × List gw_E) := [(0, bkX11_toOf_0)]
theorem fdX11_toOf_0 : gw_find bsX11_toOf 0 = bkX11_toOf_0 := rfl
set_option maxRecDepth 40000 in
theorem stX11_toOf : gw_sta sgX11_toOf bsX11_toOf := ⟨by decide +kernel, gw_mem2 (i := 6152) rfl rfl, gw_all (by decide +kernel)⟩
def bkX11_isCopied_0 : List gw_E := [(0, 1, .aload_n 0, [0], [], []), (1, 3, .getfield 7, [11, 0, 1, 6073], [], []), (4, 2, .bipush 27, [], [27], []), (6, 1, .iaload, [], [], []), (7, 1, .iload_n 1, [1], [], []), (8, 3, .invokestatic 29, [2, 0, 6176, 6177, 1013, 0], [], [sgX11_has]), (11, 1, .ireturn, [1], [], [])]
def bsX11_isCopied : List (Nat × List gw_E) := [(0, bkX11_isCopied_0)]
theorem fdX11_isCopied_0 : gw_find bsX11_isCopied 0 = bkX11_isCopied_0 := rfl
set_option maxRecDepth 40000 in
theorem stX11_isCopied : gw_sta sgX11_isCopied bsX11_isCopied := ⟨by decide +kernel, gw_mem2 (i := 6222) rfl rfl, gw_all (by decide +kernel)⟩
def bkX11_rightsOf_0 : List gw_E := [(0, 1, .aload_n 0, [0], [], []), (1, 3, .getfield 7, [11, 0, 1, 6073], [], []), (4, 1, .aload_n 0, [0], [], []), (5, 1, .iload_n 1, [1], [], []), (6, 1, .iload_n 2, [2], [], []), (7, 3, .invokevirtual 41, [2, 11, 6137, 6139, 26, 1013], [], [sgX11_entryAt]), (10, 1, .iaload, [], [], []), (11, 1, .iconst (-1), [], [-1], []), (12, 3, .if_icmp .ne 5, [17], [], []), (15, 1, .iconst 0, [], [0], []), (16, 1, .ireturn, [0], [], [])]
def bkX11_rightsOf_17 : List gw_E := [(17, 1, .aload_n 0, [0], [], []), (18, 3, .getfield 7, [11, 0, 1, 6073], [], []), (21, 1, .aload_n 0, [0], [], []), (22, 1, .iload_n 1, [1], [], []), (23, 1, .iload_n 2, [2], [], []), (24, 3, .invokevirtual 41, [2, 11, 6137, 6139, 26, 1013], [], [sgX11_entryAt]), (27, 1, .iconst 1, [], [1], []), (28, 1, .iadd, [], [], []), (29, 1, .iaload, [], [], []), (30, 1, .istore_n 3, [3], [], []), (31, 1, .iload_n 1, [1], [], []), (32, 1, .iconst 2, [], [2], []), (33, 3, .if_icmp .ne 18, [51], [], []), (36, 1, .aload_n 0, [0], [], []), (37, 1, .iload_n 2, [2], [], []), (38, 3, .invokevirtual 45, [1, 11, 6219, 6221, 42, 1013], [], [sgX11_isCopied]), (41, 3, .ifCond .eq 10, [51], [], []), (44, 1, .iload_n 3, [3], [], []), (45, 2, .bipush (-3), [], [-3], []), (47, 1, .iand, [], [], []), (48, 3, .goto 4, [52], [], [])]
def bkX11_rightsOf_51 : List gw_E := [(51, 1, .iload_n 3, [3], [], [])]
def bkX11_rightsOf_52 : List gw_E := [(52, 1, .ireturn, [0], [], [])]
def bsX11_rightsOf : List (Nat × List gw_E) := [(0, bkX11_rightsOf_0), (17, bkX11_rightsOf_17), (51, bkX11_rightsOf_51), (52, bkX11_rightsOf_52)]
theorem fdX11_rightsOf_0 : gw_find bsX11_rightsOf 0 = bkX11_rightsOf_0 := rfl
theorem fdX11_rightsOf_17 : gw_find bsX11_rightsOf 17 = bkX11_rightsOf_17 := rfl
theorem fdX11_rightsOf_51 : gw_find bsX11_rightsOf 51 = bkX11_rightsOf_51 := rfl
theorem fdX11_rightsOf_52 : gw_find bsX11_rightsOf 52 = bkX11_rightsOf_52 := rfl
set_option maxRecDepth 40000 in
theorem stX11_rightsOf : gw_sta sgX11_rightsOf bsX11_rightsOf := ⟨by decide +kernel, gw_mem2 (i := 6218) rfl rfl, gw_all (by decide +kernel)⟩
def bkX11_gives_0 : List gw_E := [(0, 1, .aload_n 0, [0], [], []), (1, 1, .iload_n 1, [1], [], []), (2, 1, .iload_n 2, [2], [], []), (3, 3, .invokevirtual 49, [2, 11, 6215, 6217, 41, 1013], [], [sgX11_rightsOf]), (6, 1, .iload_n 3, [3], [], []), (7, 3, .invokestatic 29, [2, 0, 6176, 6177, 1013, 0], [], [sgX11_has]), (10, 1, .ireturn, [1], [], [])]
def bsX11_gives : List (Nat × List gw_E) := [(0, bkX11_gives_0)]
theorem fdX11_gives_0 : gw_find bsX11_gives 0 = bkX11_gives_0 := rfl
set_option maxRecDepth 40000 in
theorem stX11_gives : gw_sta sgX11_gives bsX11_gives := ⟨by decide +kernel, gw_mem2 (i := 7058) rfl rfl, gw_all (by decide +kernel)⟩
def bkX11_comeLast_0 : List gw_E := [(0, 1, .aload_n 0, [0], [], []), (1, 3, .getfield 7, [11, 0, 1, 6073], [], []), (4, 1, .iload_n 1, [1], [], []), (5, 1, .aload_n 0, [0], [], []), (6, 3, .getfield 7, [11, 0, 1, 6073], [], []), (9, 1, .iload_n 2, [2], [], []), (10, 1, .iaload, [], [], []), (11, 1, .iadd, [], [], []), (12, 1, .iload_n 3, [3], [], []), (13, 1, .iastore, [], [], []), (14, 1, .aload_n 0, [0], [], []), (15, 3, .getfield 7, [11, 0, 1, 6073], [], []), (18, 1, .iload_n 2, [2], [], []), (19, 1, .dup2, [], [], []), (20, 1, .iaload, [], [], []), (21, 1, .iconst 1, [], [1], []), (22, 1, .iadd, [], [], []), (23, 1, .iastore, [], [], []), (24, 1, .return_, [], [], [])]
def bsX11_comeLast : List (Nat × List gw_E) := [(0, bkX11_comeLast_0)]
theorem fdX11_comeLast_0 : gw_find bsX11_comeLast 0 = bkX11_comeLast_0 := rfl
set_option maxRecDepth 40000 in
theorem stX11_comeLast : gw_sta sgX11_comeLast bsX11_comeLast := ⟨by decide +kernel, gw_mem2 (i := 6164) rfl rfl, gw_all (by decide +kernel)⟩
def bkX11_goOut_0 : List gw_E := [(0, 1, .iconst 0, [], [0], []), (1, 2, .istore 4, [4], [], []), (3, 1, .iconst 0, [], [0], []), (4, 2, .istore 5, [5], [], [])]
def bkX11_goOut_6 : List gw_E := [(6, 2, .iload 5, [5], [], []), (8, 1, .aload_n 0, [0], [], []), (9, 3, .getfield 7, [11, 0, 1, 6073], [], []), (12, 1, .iload_n 2, [2], [], []), (13, 1, .iaload, [], [], []), (14, 3, .if_icmp .ge 46, [60], [], []), (17, 1, .aload_n 0, [0], [], []), (18, 3, .getfield 7, [11, 0, 1, 6073], [], []), (21, 1, .iload_n 1, [1], [], []), (22, 2, .iload 5, [5], [], []), (24, 1, .iadd, [], [], []), (25, 1, .iaload, [], [], []), (26, 1, .iload_n 3, [3], [], []), (27, 3, .if_icmp .ne 6, [33], [], []), (30, 3, .goto 24, [54], [], [])]
def bkX11_goOut_33 : List gw_E := [(33, 1, .aload_n 0, [0], [], []), (34, 3, .getfield 7, [11, 0, 1, 6073], [], []), (37, 1, .iload_n 1, [1], [], []), (38, 2, .iload 4, [4], [], []), (40, 1, .iadd, [], [], []), (41, 1, .aload_n 0, [0], [], []), (42, 3, .getfield 7, [11, 0, 1, 6073], [], []), (45, 1, .iload_n 1, [1], [], []), (46, 2, .iload 5, [5], [], []), (48, 1, .iadd, [], [], []), (49, 1, .iaload, [], [], []), (50, 1, .iastore, [], [], []), (51, 3, .iinc 4 1, [4], [1], [])]
def bkX11_goOut_54 : List gw_E := [(54, 3, .iinc 5 1, [5], [1], []), (57, 3, .goto (-51), [6], [], [])]
def bkX11_goOut_60 : List gw_E := [(60, 2, .iload 4, [4], [], []), (62, 2, .istore 5, [5], [], [])]
def bkX11_goOut_64 : List gw_E := [(64, 2, .iload 5, [5], [], []), (66, 1, .aload_n 0, [0], [], []), (67, 3, .getfield 7, [11, 0, 1, 6073], [], []), (70, 1, .iload_n 2, [2], [], []), (71, 1, .iaload, [], [], []), (72, 3, .if_icmp .ge 19, [91], [], []), (75, 1, .aload_n 0, [0], [], []), (76, 3, .getfield 7, [11, 0, 1, 6073], [], []), (79, 1, .iload_n 1, [1], [], []), (80, 2, .iload 5, [5], [], []), (82, 1, .iadd, [], [], []), (83, 1, .iconst 0, [], [0], []), (84, 1, .iastore, [], [], []), (85, 3, .iinc 5 1, [5], [1], []), (88, 3, .goto (-24), [64], [], [])]
def bkX11_goOut_91 : List gw_E := [(91, 1, .aload_n 0, [0], [], []), (92, 3, .getfield 7, [11, 0, 1, 6073], [], []), (95, 1, .iload_n 2, [2], [], []), (96, 2, .iload 4, [4], [], []), (98, 1, .iastore, [], [], []), (99, 1, .return_, [], [], [])]
def bsX11_goOut : List (Nat × List gw_E) := [(0, bkX11_goOut_0), (6, bkX11_goOut_6), (33, bkX11_goOut_33), (54, bkX11_goOut_54), (60, bkX11_goOut_60), (64, bkX11_goOut_64), (91, bkX11_goOut_91)]
theorem fdX11_goOut_0 : gw_find bsX11_goOut 0 = bkX11_goOut_0 := rfl
theorem fdX11_goOut_6 : gw_find bsX11_goOut 6 = bkX11_goOut_6 := rfl
theorem fdX11_goOut_33 : gw_find bsX11_goOut 33 = bkX11_goOut_33 := rfl
theorem fdX11_goOut_54 : gw_find bsX11_goOut 54 = bkX11_goOut_54 := rfl
theorem fdX11_goOut_60 : gw_find bsX11_goOut 60 = bkX11_goOut_60 := rfl
theorem fdX11_goOut_64 : gw_find bsX11_goOut 64 = bkX11_goOut_64 := rfl
theorem fdX11_goOut_91 : gw_find bsX11_goOut 91 = bkX11_goOut_91 := rfl
set_option maxRecDepth 40000 in
theorem stX11_goOut : gw_sta sgX11_goOut bsX11_goOut := ⟨by decide +kernel, gw_mem2 (i := 6156) rfl rfl, gw_all (by decide +kernel)⟩
def bkX11_unfold_0 : List gw_E := [(0, 1, .aload_n 0, [0], [], []), (1, 1, .iconst 3, [], [3], []), (2, 1, .iload_n 1, [1], [], []), (3, 3, .invokevirtual 52, [2, 11, 6149, 6151, 29, 1013], [], [sgX11_toOf]), (6, 1, .iconst (-1), [], [-1], []), (7, 3, .if_icmp .ne 4, [11], [], []), (10, 1, .return_, [], [], [])]
def bkX11_unfold_11 : List gw_E := [(11, 1, .aload_n 0, [0], [], []), (12, 3, .getfield 7, [11, 0, 1, 6073], [], []), (15, 1, .aload_n 0, [0], [], []), (16, 1, .iconst 3, [], [3], []), (17, 1, .iload_n 1, [1], [], []), (18, 3, .invokevirtual 41, [2, 11, 6137, 6139, 26, 1013], [], [sgX11_entryAt]), (21, 1, .iconst (-1), [], [-1], []), (22, 1, .iastore, [], [], []), (23, 1, .aload_n 0, [0], [], []), (24, 3, .getfield 7, [11, 0, 1, 6073], [], []), (27, 1, .aload_n 0, [0], [], []), (28, 1, .iconst 3, [], [3], []), (29, 1, .iload_n 1, [1], [], []), (30, 3, .invokevirtual 41, [2, 11, 6137, 6139, 26, 1013], [], [sgX11_entryAt]), (33, 1, .iconst 1, [], [1], []), (34, 1, .iadd, [], [], []), (35, 1, .iconst 0, [], [0], []), (36, 1, .iastore, [], [], []), (37, 1, .aload_n 0, [0], [], []), (38, 3, .sipush 786, [], [786], []), (41, 2, .bipush 23, [], [23], []), (43, 1, .iload_n 1, [1], [], []), (44, 3, .invokevirtual 55, [3, 11, 6153, 6155, 30, 1013], [], [sgX11_goOut]), (47, 1, .return_, [], [], [])]
def bsX11_unfold : List (Nat × List gw_E) := [(0, bkX11_unfold_0), (11, bkX11_unfold_11)]
theorem fdX11_unfold_0 : gw_find bsX11_unfold 0 = bkX11_unfold_0 := rfl
theorem fdX11_unfold_11 : gw_find bsX11_unfold 11 = bkX11_unfold_11 := rfl
set_option maxRecDepth 40000 in
theorem stX11_unfold : gw_sta sgX11_unfold bsX11_unfold := ⟨by decide +kernel, gw_mem2 (i := 6148) rfl rfl, gw_all (by decide +kernel)⟩
def bkX11_unfoldAll_0 : List gw_E := [(0, 1, .iconst 0, [], [0], []), (1, 1, .istore_n 1, [1], [], [])]
def bkX11_unfoldAll_2 : List gw_E := [(2, 1, .iload_n 1, [1], [], []), (3, 2, .bipush 16, [], [16], []), (5, 3, .if_icmp .ge 14, [19], [], []), (8, 1, .aload_n 0, [0], [], []), (9, 1, .iload_n 1, [1], [], []), (10, 3, .invokevirtual 59, [1, 11, 6145, 6147, 28, 1013], [], [sgX11_unfold]), (13, 3, .iinc 1 1, [1], [1], []), (16, 3, .goto (-14), [2], [], [])]
def bkX11_unfoldAll_19 : List gw_E := [(19, 1, .return_, [], [], [])]
def bsX11_unfoldAll : List (Nat × List gw_E) := [(0, bkX11_unfoldAll_0), (2, bkX11_unfoldAll_2), (19, bkX11_unfoldAll_19)]
theorem fdX11_unfoldAll_0 : gw_find bsX11_unfoldAll 0 = bkX11_unfoldAll_0 := rfl
theorem fdX11_unfoldAll_2 : gw_find bsX11_unfoldAll 2 = bkX11_unfoldAll_2 := rfl
theorem fdX11_unfoldAll_19 : gw_find bsX11_unfoldAll 19 = bkX11_unfoldAll_19 := rfl
set_option maxRecDepth 40000 in
theorem stX11_unfoldAll : gw_sta sgX11_unfoldAll bsX11_unfoldAll := ⟨by decide +kernel, gw_mem2 (i := 7137) rfl rfl, gw_all (by decide +kernel)⟩
def bkX11_unfoldTo_0 : List gw_E := [(0, 1, .iconst 0, [], [0], []), (1, 1, .istore_n 2, [2], [], [])]
def bkX11_unfoldTo_2 : List gw_E := [(2, 1, .iload_n 2, [2], [], []), (3, 2, .bipush 16, [], [16], []), (5, 3, .if_icmp .ge 24, [29], [], []), (8, 1, .aload_n 0, [0], [], []), (9, 1, .iconst 1, [], [1], []), (10, 1, .iload_n 2, [2], [], []), (11, 3, .invokevirtual 52, [2, 11, 6149, 6151, 29, 1013], [], [sgX11_toOf]), (14, 1, .iload_n 1, [1], [], []), (15, 3, .if_icmp .ne 8, [23], [], []), (18, 1, .aload_n 0, [0], [], []), (19, 1, .iload_n 2, [2], [], []), (20, 3, .invokevirtual 59, [1, 11, 6145, 6147, 28, 1013], [], [sgX11_unfold])]
def bkX11_unfoldTo_23 : List gw_E := [(23, 3, .iinc 2 1, [2], [1], []), (26, 3, .goto (-24), [2], [], [])]
def bkX11_unfoldTo_29 : List gw_E := [(29, 1, .return_, [], [], [])]
def bsX11_unfoldTo : List (Nat × List gw_E) := [(0, bkX11_unfoldTo_0), (2, bkX11_unfoldTo_2), (23, bkX11_unfoldTo_23), (29, bkX11_unfoldTo_29)]
theorem fdX11_unfoldTo_0 : gw_find bsX11_unfoldTo 0 = bkX11_unfoldTo_0 := rfl
theorem fdX11_unfoldTo_2 : gw_find bsX11_unfoldTo 2 = bkX11_unfoldTo_2 := rfl
theorem fdX11_unfoldTo_23 : gw_find bsX11_unfoldTo 23 = bkX11_unfoldTo_23 := rfl
theorem fdX11_unfoldTo_29 : gw_find bsX11_unfoldTo 29 = bkX11_unfoldTo_29 := rfl
set_option maxRecDepth 40000 in
theorem stX11_unfoldTo : gw_sta sgX11_unfoldTo bsX11_unfoldTo := ⟨by decide +kernel, gw_mem2 (i := 6160) rfl rfl, gw_all (by decide +kernel)⟩
def bkX11_layEntry_0 : List gw_E := [(0, 1, .aload_n 0, [0], [], []), (1, 3, .getfield 7, [11, 0, 1, 6073], [], []), (4, 1, .aload_n 0, [0], [], []), (5, 1, .iload_n 1, [1], [], []), (6, 1, .iload_n 2, [2], [], []), (7, 3, .invokevirtual 41, [2, 11, 6137, 6139, 26, 1013], [], [sgX11_entryAt]), (10, 1, .iload_n 3, [3], [], []), (11, 1, .iastore, [], [], []), (12, 1, .aload_n 0, [0], [], []), (13, 3, .getfield 7, [11, 0, 1, 6073], [], []), (16, 1, .aload_n 0, [0], [], []), (17, 1, .iload_n 1, [1], [], []), (18, 1, .iload_n 2, [2], [], []), (19, 3, .invokevirtual 41, [2, 11, 6137, 6139, 26, 1013], [], [sgX11_entryAt]), (22, 1, .iconst 1, [], [1], []), (23, 1, .iadd, [], [], []), (24, 1, .iload_n 3, [3], [], []), (25, 1, .iconst (-1), [], [-1], []), (26, 3, .if_icmp .ne 7, [33], [], []), (29, 1, .iconst 0, [], [0], []), (30, 3, .goto 5, [35], [], [])]
def bkX11_layEntry_33 : List gw_E := [(33, 2, .iload 4, [4], [], [])]
def bkX11_layEntry_35 : List gw_E := [(35, 1, .iastore, [], [], []), (36, 1, .iload_n 1, [1], [], []), (37, 1, .iconst 1, [], [1], []), (38, 3, .if_icmp .ne 8, [46], [], []), (41, 1, .aload_n 0, [0], [], []), (42, 1, .iload_n 2, [2], [], []), (43, 3, .invokevirtual 59, [1, 11, 6145, 6147, 28, 1013], [], [sgX11_unfold])]
def bkX11_layEntry_46 : List gw_E := [(46, 1, .iload_n 1, [1], [], []), (47, 1, .iconst 2, [], [2], []), (48, 3, .if_icmp .eq 4, [52], [], []), (51, 1, .return_, [], [], [])]
def bkX11_layEntry_52 : List gw_E := [(52, 1, .aload_n 0, [0], [], []), (53, 1, .iload_n 2, [2], [], []), (54, 3, .invokevirtual 63, [1, 11, 6157, 6159, 31, 1013], [], [sgX11_unfoldTo]), (57, 1, .aload_n 0, [0], [], []), (58, 3, .getfield 7, [11, 0, 1, 6073], [], []), (61, 2, .bipush 27, [], [27], []), (63, 1, .dup2, [], [], []), (64, 1, .iaload, [], [], []), (65, 1, .iconst 1, [], [1], []), (66, 1, .iload_n 2, [2], [], []), (67, 1, .ishl, [], [], []), (68, 1, .iconst (-1), [], [-1], []), (69, 1, .ixor, [], [], []), (70, 1, .iand, [], [], []), (71, 1, .iastore, [], [], []), (72, 1, .aload_n 0, [0], [], []), (73, 3, .sipush 738, [], [738], []), (76, 2, .bipush 22, [], [22], []), (78, 1, .iload_n 2, [2], [], []), (79, 3, .invokevirtual 55, [3, 11, 6153, 6155, 30, 1013], [], [sgX11_goOut]), (82, 1, .iload_n 3, [3], [], []), (83, 1, .iconst (-1), [], [-1], []), (84, 3, .if_icmp .eq 13, [97], [], []), (87, 1, .aload_n 0, [0], [], []), (88, 3, .sipush 738, [], [738], []), (91, 2, .bipush 22, [], [22], []), (93, 1, .iload_n 2, [2], [], []), (94, 3, .invokevirtual 66, [3, 11, 6161, 6163, 32, 1013], [], [sgX11_comeLast])]
def bkX11_layEntry_97 : List gw_E := [(97, 1, .return_, [], [], [])]
def bsX11_layEntry : List (Nat × List gw_E) := [(0, bkX11_layEntry_0), (33, bkX11_layEntry_33), (35, bkX11_layEntry_35), (46, bkX11_layEntry_46), (52, bkX11_layEntry_52), (97, bkX11_layEntry_97)]
theorem fdX11_layEntry_0 : gw_find bsX11_layEntry 0 = bkX11_layEntry_0 := rfl
theorem fdX11_layEntry_33 : gw_find bsX11_layEntry 33 = bkX11_layEntry_33 := rfl
theorem fdX11_layEntry_35 : gw_find bsX11_layEntry 35 = bkX11_layEntry_35 := rfl
theorem fdX11_layEntry_46 : gw_find bsX11_layEntry 46 = bkX11_layEntry_46 := rfl
theorem fdX11_layEntry_52 : gw_find bsX11_layEntry 52 = bkX11_layEntry_52 := rfl
theorem fdX11_layEntry_97 : gw_find bsX11_layEntry 97 = bkX11_layEntry_97 := rfl
set_option maxRecDepth 40000 in
theorem stX11_layEntry : gw_sta sgX11_layEntry bsX11_layEntry := ⟨by decide +kernel, gw_mem2 (i := 6136) rfl rfl, gw_all (by decide +kernel)⟩
def bkX11_freeFrame_0 : List gw_E := [(0, 1, .iconst 0, [], [0], []), (1, 1, .istore_n 1, [1], [], [])]
def bkX11_freeFrame_2 : List gw_E := [(2, 1, .iload_n 1, [1], [], []), (3, 2, .bipush 10, [], [10], []), (5, 3, .if_icmp .ge 51, [56], [], []), (8, 1, .iconst 1, [], [1], []), (9, 1, .istore_n 2, [2], [], []), (10, 1, .iconst 0, [], [0], []), (11, 1, .istore_n 3, [3], [], [])]
def bkX11_freeFrame_12 : List gw_E := [(12, 1, .iload_n 3, [3], [], []), (13, 2, .bipush 16, [], [16], []), (15, 3, .if_icmp .ge 29, [44], [], []), (18, 1, .iload_n 2, [2], [], []), (19, 3, .ifCond .eq 17, [36], [], []), (22, 1, .aload_n 0, [0], [], []), (23, 1, .iconst 2, [], [2], []), (24, 1, .iload_n 3, [3], [], []), (25, 3, .invokevirtual 52, [2, 11, 6149, 6151, 29, 1013], [], [sgX11_toOf]), (28, 1, .iload_n 1, [1], [], []), (29, 3, .if_icmp .eq 7, [36], [], []), (32, 1, .iconst 1, [], [1], []), (33, 3, .goto 4, [37], [], [])]
def bkX11_freeFrame_36 : List gw_E := [(36, 1, .iconst 0, [], [0], [])]
def bkX11_freeFrame_37 : List gw_E := [(37, 1, .istore_n 2, [2], [], []), (38, 3, .iinc 3 1, [3], [1], []), (41, 3, .goto (-29), [12], [], [])]
def bkX11_freeFrame_44 : List gw_E := [(44, 1, .iload_n 2, [2], [], []), (45, 3, .ifCond .eq 5, [50], [], []), (48, 1, .iload_n 1, [1], [], []), (49, 1, .ireturn, [0], [], [])]
def bkX11_freeFrame_50 : List gw_E := [(50, 3, .iinc 1 1, [1], [1], []), (53, 3, .goto (-51), [2], [], [])]
def bkX11_freeFrame_56 : List gw_E := [(56, 1, .iconst (-1), [], [-1], []), (57, 1, .ireturn, [0], [], [])]
def bsX11_freeFrame : List (Nat × List gw_E) := [(0, bkX11_freeFrame_0), (2, bkX11_freeFrame_2), (12, bkX11_freeFrame_12), (36, bkX11_freeFrame_36), (37, bkX11_freeFrame_37), (44, bkX11_freeFrame_44), (50, bkX11_freeFrame_50), (56, bkX11_freeFrame_56)]
theorem fdX11_freeFrame_0 : gw_find bsX11_freeFrame 0 = bkX11_freeFrame_0 := rfl
theorem fdX11_freeFrame_2 : gw_find bsX11_freeFrame 2 = bkX11_freeFrame_2 := rfl
theorem fdX11_freeFrame_12 : gw_find bsX11_freeFrame 12 = bkX11_freeFrame_12 := rfl
theorem fdX11_freeFrame_36 : gw_find bsX11_freeFrame 36 = bkX11_freeFrame_36 := rfl
theorem fdX11_freeFrame_37 : gw_find bsX11_freeFrame 37 = bkX11_freeFrame_37 := rfl
theorem fdX11_freeFrame_44 : gw_find bsX11_freeFrame 44 = bkX11_freeFrame_44 := rfl
theorem fdX11_freeFrame_50 : gw_find bsX11_freeFrame 50 = bkX11_freeFrame_50 := rfl
theorem fdX11_freeFrame_56 : gw_find bsX11_freeFrame 56 = bkX11_freeFrame_56 := rfl
set_option maxRecDepth 40000 in
theorem stX11_freeFrame : gw_sta sgX11_freeFrame bsX11_freeFrame := ⟨by decide +kernel, gw_mem2 (i := 7042) rfl rfl, gw_all (by decide +kernel)⟩
end
section
def bkX11_swapOut_0 : List gw_E := [(0, 1, .aload_n 0, [0], [], []), (1, 3, .getfield 7, [11, 0, 1, 6073], [], []), (4, 3, .sipush 738, [], [738], []), (7, 1, .iaload, [], [], []), (8, 1, .istore_n 1, [1], [], []), (9, 1, .aload_n 0, [0], [], []), (10, 3, .getfield 7, [11, 0, 1, 6073], [], []), (13, 3, .sipush 812, [], [812], []), (16, 1, .iload_n 1, [1], [], []), (17, 1, .iadd, [], [], []), (18, 1, .aload_n 0, [0], [], []), (19, 3, .getfield 7, [11, 0, 1, 6073], [], []), (22, 3, .sipush 802, [], [802], []), (25, 1, .aload_n 0, [0], [], []), (26, 1, .iconst 2, [], [2], []), (27, 1, .iload_n 1, [1], [], []), (28, 3, .invokevirtual 52, [2, 11, 6149, 6151, 29, 1013], [], [sgX11_toOf]), (31, 1, .iadd, [], [], []), (32, 1, .iaload, [], [], []), (33, 1, .iastore, [], [], []), (34, 1, .aload_n 0, [0], [], []), (35, 3, .getfield 7, [11, 0, 1, 6073], [], []), (38, 2, .bipush 8, [], [8], []), (40, 1, .dup2, [], [], []), (41, 1, .iaload, [], [], []), (42, 1, .iconst 1, [], [1], []), (43, 1, .iadd, [], [], []), (44, 1, .iastore, [], [], []), (45, 1, .aload_n 0, [0], [], []), (46, 1, .iconst 2, [], [2], []), (47, 1, .iload_n 1, [1], [], []), (48, 1, .iconst (-1), [], [-1], []), (49, 1, .iconst 0, [], [0], []), (50, 3, .invokevirtual 69, [4, 11, 6133, 6135, 25, 1013], [], [sgX11_layEntry]), (53, 1, .return_, [], [], [])]
def bsX11_swapOut : List (Nat × List gw_E) := [(0, bkX11_swapOut_0)]
theorem fdX11_swapOut_0 : gw_find bsX11_swapOut 0 = bkX11_swapOut_0 := rfl
set_option maxRecDepth 40000 in
theorem stX11_swapOut : gw_sta sgX11_swapOut bsX11_swapOut := ⟨by decide +kernel, gw_mem2 (i := 7046) rfl rfl, gw_all (by decide +kernel)⟩
def bkX11_give_0 : List gw_E := [(0, 1, .aload_n 0, [0], [], []), (1, 3, .invokevirtual 73, [0, 11, 7039, 7041, 51, 1013], [], [sgX11_freeFrame]), (4, 1, .iconst (-1), [], [-1], []), (5, 3, .if_icmp .ne 10, [15], [], []), (8, 1, .aload_n 0, [0], [], []), (9, 3, .invokevirtual 77, [0, 11, 7043, 7045, 52, 1013], [], [sgX11_swapOut]), (12, 3, .goto (-12), [0], [], [])]
def bkX11_give_15 : List gw_E := [(15, 1, .aload_n 0, [0], [], []), (16, 3, .invokevirtual 73, [0, 11, 7039, 7041, 51, 1013], [], [sgX11_freeFrame]), (19, 1, .istore_n 2, [2], [], []), (20, 1, .aload_n 0, [0], [], []), (21, 1, .iconst 2, [], [2], []), (22, 1, .iload_n 1, [1], [], []), (23, 1, .iload_n 2, [2], [], []), (24, 2, .bipush 7, [], [7], []), (26, 3, .invokevirtual 69, [4, 11, 6133, 6135, 25, 1013], [], [sgX11_layEntry]), (29, 1, .aload_n 0, [0], [], []), (30, 3, .getfield 7, [11, 0, 1, 6073], [], []), (33, 3, .sipush 802, [], [802], []), (36, 1, .iload_n 2, [2], [], []), (37, 1, .iadd, [], [], []), (38, 1, .aload_n 0, [0], [], []), (39, 3, .getfield 7, [11, 0, 1, 6073], [], []), (42, 3, .sipush 812, [], [812], []), (45, 1, .iload_n 1, [1], [], []), (46, 1, .iadd, [], [], []), (47, 1, .iaload, [], [], []), (48, 1, .iconst (-1), [], [-1], []), (49, 3, .if_icmp .ne 7, [56], [], []), (52, 1, .iconst 0, [], [0], []), (53, 3, .goto 13, [66], [], [])]
def bkX11_give_56 : List gw_E := [(56, 1, .aload_n 0, [0], [], []), (57, 3, .getfield 7, [11, 0, 1, 6073], [], []), (60, 3, .sipush 812, [], [812], []), (63, 1, .iload_n 1, [1], [], []), (64, 1, .iadd, [], [], []), (65, 1, .iaload, [], [], [])]
def bkX11_give_66 : List gw_E := [(66, 1, .iastore, [], [], []), (67, 1, .aload_n 0, [0], [], []), (68, 3, .getfield 7, [11, 0, 1, 6073], [], []), (71, 3, .sipush 812, [], [812], []), (74, 1, .iload_n 1, [1], [], []), (75, 1, .iadd, [], [], []), (76, 1, .iconst (-1), [], [-1], []), (77, 1, .iastore, [], [], []), (78, 1, .aload_n 0, [0], [], []), (79, 3, .getfield 7, [11, 0, 1, 6073], [], []), (82, 2, .bipush 21, [], [21], []), (84, 1, .dup2, [], [], []), (85, 1, .iaload, [], [], []), (86, 1, .iconst 1, [], [1], []), (87, 1, .iload_n 2, [2], [], []), (88, 1, .ishl, [], [], []), (89, 1, .ior, [], [], []), (90, 1, .iastore, [], [], []), (91, 1, .return_, [], [], [])]
def bsX11_give : List (Nat × List gw_E) := [(0, bkX11_give_0), (15, bkX11_give_15), (56, bkX11_give_56), (66, bkX11_give_66)]
theorem fdX11_give_0 : gw_find bsX11_give 0 = bkX11_give_0 := rfl
theorem fdX11_give_15 : gw_find bsX11_give 15 = bkX11_give_15 := rfl
theorem fdX11_give_56 : gw_find bsX11_give 56 = bkX11_give_56 := rfl
theorem fdX11_give_66 : gw_find bsX11_give 66 = bkX11_give_66 := rfl
set_option maxRecDepth 40000 in
theorem stX11_give : gw_sta sgX11_give bsX11_give := ⟨by decide +kernel, gw_mem2 (i := 7038) rfl rfl, gw_all (by decide +kernel)⟩
def bkX11_leadTo_0 : List gw_E := [(0, 1, .iconst 0, [], [0], []), (1, 1, .istore_n 2, [2], [], []), (2, 1, .iconst 0, [], [0], []), (3, 1, .istore_n 3, [3], [], [])]
def bkX11_leadTo_4 : List gw_E := [(4, 1, .iload_n 3, [3], [], []), (5, 2, .bipush 16, [], [16], []), (7, 3, .if_icmp .ge 29, [36], [], []), (10, 1, .iload_n 2, [2], [], []), (11, 1, .aload_n 0, [0], [], []), (12, 1, .iconst 2, [], [2], []), (13, 1, .iload_n 3, [3], [], []), (14, 3, .invokevirtual 52, [2, 11, 6149, 6151, 29, 1013], [], [sgX11_toOf]), (17, 1, .iload_n 1, [1], [], []), (18, 3, .if_icmp .ne 9, [27], [], []), (21, 1, .iconst 1, [], [1], []), (22, 1, .iload_n 3, [3], [], []), (23, 1, .ishl, [], [], []), (24, 3, .goto 4, [28], [], [])]
def bkX11_leadTo_27 : List gw_E := [(27, 1, .iconst 0, [], [0], [])]
def bkX11_leadTo_28 : List gw_E := [(28, 1, .ior, [], [], []), (29, 1, .istore_n 2, [2], [], []), (30, 3, .iinc 3 1, [3], [1], []), (33, 3, .goto (-29), [4], [], [])]
def bkX11_leadTo_36 : List gw_E := [(36, 1, .iload_n 2, [2], [], []), (37, 1, .ireturn, [0], [], [])]
def bsX11_leadTo : List (Nat × List gw_E) := [(0, bkX11_leadTo_0), (4, bkX11_leadTo_4), (27, bkX11_leadTo_27), (28, bkX11_leadTo_28), (36, bkX11_leadTo_36)]
theorem fdX11_leadTo_0 : gw_find bsX11_leadTo 0 = bkX11_leadTo_0 := rfl
theorem fdX11_leadTo_4 : gw_find bsX11_leadTo 4 = bkX11_leadTo_4 := rfl
theorem fdX11_leadTo_27 : gw_find bsX11_leadTo 27 = bkX11_leadTo_27 := rfl
theorem fdX11_leadTo_28 : gw_find bsX11_leadTo 28 = bkX11_leadTo_28 := rfl
theorem fdX11_leadTo_36 : gw_find bsX11_leadTo 36 = bkX11_leadTo_36 := rfl
set_option maxRecDepth 40000 in
theorem stX11_leadTo : gw_sta sgX11_leadTo bsX11_leadTo := ⟨by decide +kernel, gw_mem2 (i := 6238) rfl rfl, gw_all (by decide +kernel)⟩
def bkX11_likeOf_0 : List gw_E := [(0, 1, .aload_n 0, [0], [], []), (1, 1, .iload_n 1, [1], [], []), (2, 3, .invokevirtual 80, [1, 11, 6235, 6237, 45, 1013], [], [sgX11_leadTo]), (5, 3, .ifCond .ne 5, [10], [], []), (8, 1, .iconst (-1), [], [-1], []), (9, 1, .ireturn, [0], [], [])]
def bkX11_likeOf_10 : List gw_E := [(10, 1, .iload_n 1, [1], [], []), (11, 1, .iconst 1, [], [1], []), (12, 1, .iadd, [], [], []), (13, 1, .istore_n 2, [2], [], [])]
def bkX11_likeOf_14 : List gw_E := [(14, 1, .iload_n 2, [2], [], []), (15, 2, .bipush 10, [], [10], []), (17, 3, .if_icmp .ge 42, [59], [], []), (20, 1, .aload_n 0, [0], [], []), (21, 1, .iload_n 2, [2], [], []), (22, 3, .invokevirtual 80, [1, 11, 6235, 6237, 45, 1013], [], [sgX11_leadTo]), (25, 3, .ifCond .eq 28, [53], [], []), (28, 1, .aload_n 0, [0], [], []), (29, 3, .getfield 7, [11, 0, 1, 6073], [], []), (32, 3, .sipush 802, [], [802], []), (35, 1, .iload_n 2, [2], [], []), (36, 1, .iadd, [], [], []), (37, 1, .iaload, [], [], []), (38, 1, .aload_n 0, [0], [], []), (39, 3, .getfield 7, [11, 0, 1, 6073], [], []), (42, 3, .sipush 802, [], [802], []), (45, 1, .iload_n 1, [1], [], []), (46, 1, .iadd, [], [], []), (47, 1, .iaload, [], [], []), (48, 3, .if_icmp .ne 5, [53], [], []), (51, 1, .iload_n 2, [2], [], []), (52, 1, .ireturn, [0], [], [])]
def bkX11_likeOf_53 : List gw_E := [(53, 3, .iinc 2 1, [2], [1], []), (56, 3, .goto (-42), [14], [], [])]
def bkX11_likeOf_59 : List gw_E := [(59, 1, .iconst (-1), [], [-1], []), (60, 1, .ireturn, [0], [], [])]
def bsX11_likeOf : List (Nat × List gw_E) := [(0, bkX11_likeOf_0), (10, bkX11_likeOf_10), (14, bkX11_likeOf_14), (53, bkX11_likeOf_53), (59, bkX11_likeOf_59)]
theorem fdX11_likeOf_0 : gw_find bsX11_likeOf 0 = bkX11_likeOf_0 := rfl
theorem fdX11_likeOf_10 : gw_find bsX11_likeOf 10 = bkX11_likeOf_10 := rfl
theorem fdX11_likeOf_14 : gw_find bsX11_likeOf 14 = bkX11_likeOf_14 := rfl
theorem fdX11_likeOf_53 : gw_find bsX11_likeOf 53 = bkX11_likeOf_53 := rfl
theorem fdX11_likeOf_59 : gw_find bsX11_likeOf 59 = bkX11_likeOf_59 := rfl
set_option maxRecDepth 40000 in
theorem stX11_likeOf : gw_sta sgX11_likeOf bsX11_likeOf := ⟨by decide +kernel, gw_mem2 (i := 6234) rfl rfl, gw_all (by decide +kernel)⟩
def bkX11_joinNow_0 : List gw_E := [(0, 1, .iconst 0, [], [0], []), (1, 1, .istore_n 3, [3], [], [])]
def bkX11_joinNow_2 : List gw_E := [(2, 1, .iload_n 3, [3], [], []), (3, 2, .bipush 16, [], [16], []), (5, 3, .if_icmp .ge 31, [36], [], []), (8, 1, .aload_n 0, [0], [], []), (9, 1, .iconst 2, [], [2], []), (10, 1, .iload_n 3, [3], [], []), (11, 3, .invokevirtual 52, [2, 11, 6149, 6151, 29, 1013], [], [sgX11_toOf]), (14, 1, .iload_n 2, [2], [], []), (15, 3, .if_icmp .ne 15, [30], [], []), (18, 1, .aload_n 0, [0], [], []), (19, 3, .getfield 7, [11, 0, 1, 6073], [], []), (22, 1, .aload_n 0, [0], [], []), (23, 1, .iconst 2, [], [2], []), (24, 1, .iload_n 3, [3], [], []), (25, 3, .invokevirtual 41, [2, 11, 6137, 6139, 26, 1013], [], [sgX11_entryAt]), (28, 1, .iload_n 1, [1], [], []), (29, 1, .iastore, [], [], [])]
def bkX11_joinNow_30 : List gw_E := [(30, 3, .iinc 3 1, [3], [1], []), (33, 3, .goto (-31), [2], [], [])]
def bkX11_joinNow_36 : List gw_E := [(36, 1, .aload_n 0, [0], [], []), (37, 3, .getfield 7, [11, 0, 1, 6073], [], []), (40, 2, .bipush 27, [], [27], []), (42, 1, .dup2, [], [], []), (43, 1, .iaload, [], [], []), (44, 1, .aload_n 0, [0], [], []), (45, 1, .iload_n 1, [1], [], []), (46, 3, .invokevirtual 80, [1, 11, 6235, 6237, 45, 1013], [], [sgX11_leadTo]), (49, 1, .ior, [], [], []), (50, 1, .iastore, [], [], []), (51, 1, .iconst 0, [], [0], []), (52, 1, .istore_n 3, [3], [], [])]
def bkX11_joinNow_53 : List gw_E := [(53, 1, .iload_n 3, [3], [], []), (54, 2, .bipush 16, [], [16], []), (56, 3, .if_icmp .ge 24, [80], [], []), (59, 1, .aload_n 0, [0], [], []), (60, 1, .iconst 2, [], [2], []), (61, 1, .iload_n 3, [3], [], []), (62, 3, .invokevirtual 52, [2, 11, 6149, 6151, 29, 1013], [], [sgX11_toOf]), (65, 1, .iload_n 1, [1], [], []), (66, 3, .if_icmp .ne 8, [74], [], []), (69, 1, .aload_n 0, [0], [], []), (70, 1, .iload_n 3, [3], [], []), (71, 3, .invokevirtual 63, [1, 11, 6157, 6159, 31, 1013], [], [sgX11_unfoldTo])]
def bkX11_joinNow_74 : List gw_E := [(74, 3, .iinc 3 1, [3], [1], []), (77, 3, .goto (-24), [53], [], [])]
def bkX11_joinNow_80 : List gw_E := [(80, 1, .return_, [], [], [])]
def bsX11_joinNow : List (Nat × List gw_E) := [(0, bkX11_joinNow_0), (2, bkX11_joinNow_2), (30, bkX11_joinNow_30), (36, bkX11_joinNow_36), (53, bkX11_joinNow_53), (74, bkX11_joinNow_74), (80, bkX11_joinNow_80)]
theorem fdX11_joinNow_0 : gw_find bsX11_joinNow 0 = bkX11_joinNow_0 := rfl
theorem fdX11_joinNow_2 : gw_find bsX11_joinNow 2 = bkX11_joinNow_2 := rfl
theorem fdX11_joinNow_30 : gw_find bsX11_joinNow 30 = bkX11_joinNow_30 := rfl
theorem fdX11_joinNow_36 : gw_find bsX11_joinNow 36 = bkX11_joinNow_36 := rfl
theorem fdX11_joinNow_53 : gw_find bsX11_joinNow 53 = bkX11_joinNow_53 := rfl
theorem fdX11_joinNow_74 : gw_find bsX11_joinNow 74 = bkX11_joinNow_74 := rfl
theorem fdX11_joinNow_80 : gw_find bsX11_joinNow 80 = bkX11_joinNow_80 := rfl
set_option maxRecDepth 40000 in
theorem stX11_joinNow : gw_sta sgX11_joinNow bsX11_joinNow := ⟨by decide +kernel, gw_mem2 (i := 7002) rfl rfl, gw_all (by decide +kernel)⟩
def bkX11_part_0 : List gw_E := [(0, 1, .aload_n 0, [0], [], []), (1, 1, .iconst 2, [], [2], []), (2, 1, .iload_n 1, [1], [], []), (3, 3, .invokevirtual 52, [2, 11, 6149, 6151, 29, 1013], [], [sgX11_toOf]), (6, 1, .istore_n 2, [2], [], []), (7, 1, .aload_n 0, [0], [], []), (8, 1, .iload_n 2, [2], [], []), (9, 3, .invokevirtual 80, [1, 11, 6235, 6237, 45, 1013], [], [sgX11_leadTo]), (12, 1, .iconst 1, [], [1], []), (13, 1, .iload_n 1, [1], [], []), (14, 1, .ishl, [], [], []), (15, 3, .if_icmp .ne 24, [39], [], []), (18, 1, .aload_n 0, [0], [], []), (19, 3, .getfield 7, [11, 0, 1, 6073], [], []), (22, 2, .bipush 27, [], [27], []), (24, 1, .dup2, [], [], []), (25, 1, .iaload, [], [], []), (26, 1, .iconst 1, [], [1], []), (27, 1, .iload_n 1, [1], [], []), (28, 1, .ishl, [], [], []), (29, 1, .iconst (-1), [], [-1], []), (30, 1, .ixor, [], [], []), (31, 1, .iand, [], [], []), (32, 1, .iastore, [], [], []), (33, 1, .aload_n 0, [0], [], []), (34, 1, .iload_n 1, [1], [], []), (35, 3, .invokevirtual 63, [1, 11, 6157, 6159, 31, 1013], [], [sgX11_unfoldTo]), (38, 1, .return_, [], [], [])]
def bkX11_part_39 : List gw_E := [(39, 1, .aload_n 0, [0], [], []), (40, 1, .iconst 2, [], [2], []), (41, 1, .iload_n 1, [1], [], []), (42, 1, .iconst (-1), [], [-1], []), (43, 1, .iconst 0, [], [0], []), (44, 3, .invokevirtual 69, [4, 11, 6133, 6135, 25, 1013], [], [sgX11_layEntry]), (47, 1, .aload_n 0, [0], [], []), (48, 3, .getfield 7, [11, 0, 1, 6073], [], []), (51, 3, .sipush 812, [], [812], []), (54, 1, .iload_n 1, [1], [], []), (55, 1, .iadd, [], [], []), (56, 1, .aload_n 0, [0], [], []), (57, 3, .getfield 7, [11, 0, 1, 6073], [], []), (60, 3, .sipush 802, [], [802], []), (63, 1, .iload_n 2, [2], [], []), (64, 1, .iadd, [], [], []), (65, 1, .iaload, [], [], []), (66, 1, .iastore, [], [], []), (67, 1, .aload_n 0, [0], [], []), (68, 1, .iload_n 1, [1], [], []), (69, 3, .invokevirtual 83, [1, 11, 7035, 7037, 50, 1013], [], [sgX11_give]), (72, 1, .return_, [], [], [])]
def bsX11_part : List (Nat × List gw_E) := [(0, bkX11_part_0), (39, bkX11_part_39)]
theorem fdX11_part_0 : gw_find bsX11_part 0 = bkX11_part_0 := rfl
theorem fdX11_part_39 : gw_find bsX11_part 39 = bkX11_part_39 := rfl
set_option maxRecDepth 40000 in
theorem stX11_part : gw_sta sgX11_part bsX11_part := ⟨by decide +kernel, gw_mem2 (i := 7054) rfl rfl, gw_all (by decide +kernel)⟩
def bkX11_isParted_0 : List gw_E := [(0, 1, .iload_n 2, [2], [], []), (1, 1, .iconst 1, [], [1], []), (2, 3, .if_icmp .ne 35, [37], [], []), (5, 1, .aload_n 0, [0], [], []), (6, 1, .iload_n 1, [1], [], []), (7, 3, .invokevirtual 45, [1, 11, 6219, 6221, 42, 1013], [], [sgX11_isCopied]), (10, 3, .ifCond .eq 27, [37], [], []), (13, 1, .aload_n 0, [0], [], []), (14, 3, .getfield 7, [11, 0, 1, 6073], [], []), (17, 1, .aload_n 0, [0], [], []), (18, 1, .iconst 2, [], [2], []), (19, 1, .iload_n 1, [1], [], []), (20, 3, .invokevirtual 41, [2, 11, 6137, 6139, 26, 1013], [], [sgX11_entryAt]), (23, 1, .iconst 1, [], [1], []), (24, 1, .iadd, [], [], []), (25, 1, .iaload, [], [], []), (26, 1, .iconst 1, [], [1], []), (27, 3, .invokestatic 29, [2, 0, 6176, 6177, 1013, 0], [], [sgX11_has]), (30, 3, .ifCond .eq 7, [37], [], []), (33, 1, .iconst 1, [], [1], []), (34, 3, .goto 4, [38], [], [])]
def bkX11_isParted_37 : List gw_E := [(37, 1, .iconst 0, [], [0], [])]
def bkX11_isParted_38 : List gw_E := [(38, 1, .ireturn, [1], [], [])]
def bsX11_isParted : List (Nat × List gw_E) := [(0, bkX11_isParted_0), (37, bkX11_isParted_37), (38, bkX11_isParted_38)]
theorem fdX11_isParted_0 : gw_find bsX11_isParted 0 = bkX11_isParted_0 := rfl
theorem fdX11_isParted_37 : gw_find bsX11_isParted 37 = bkX11_isParted_37 := rfl
theorem fdX11_isParted_38 : gw_find bsX11_isParted 38 = bkX11_isParted_38 := rfl
set_option maxRecDepth 40000 in
theorem stX11_isParted : gw_sta sgX11_isParted bsX11_isParted := ⟨by decide +kernel, gw_mem2 (i := 7050) rfl rfl, gw_all (by decide +kernel)⟩
def bkX11_fold_0 : List gw_E := [(0, 1, .aload_n 0, [0], [], []), (1, 3, .getfield 7, [11, 0, 1, 6073], [], []), (4, 2, .bipush 23, [], [23], []), (6, 1, .iaload, [], [], []), (7, 1, .aload_n 0, [0], [], []), (8, 3, .getfield 7, [11, 0, 1, 6073], [], []), (11, 1, .iconst 4, [], [4], []), (12, 1, .iaload, [], [], []), (13, 3, .if_icmp .lt 18, [31], [], []), (16, 1, .aload_n 0, [0], [], []), (17, 1, .aload_n 0, [0], [], []), (18, 3, .getfield 7, [11, 0, 1, 6073], [], []), (21, 3, .sipush 786, [], [786], []), (24, 1, .iaload, [], [], []), (25, 3, .invokevirtual 59, [1, 11, 6145, 6147, 28, 1013], [], [sgX11_unfold]), (28, 3, .goto (-28), [0], [], [])]
def bkX11_fold_31 : List gw_E := [(31, 1, .aload_n 0, [0], [], []), (32, 1, .iconst 1, [], [1], []), (33, 1, .iload_n 1, [1], [], []), (34, 3, .invokevirtual 52, [2, 11, 6149, 6151, 29, 1013], [], [sgX11_toOf]), (37, 1, .istore_n 2, [2], [], []), (38, 1, .aload_n 0, [0], [], []), (39, 3, .getfield 7, [11, 0, 1, 6073], [], []), (42, 1, .aload_n 0, [0], [], []), (43, 1, .iconst 3, [], [3], []), (44, 1, .iload_n 1, [1], [], []), (45, 3, .invokevirtual 41, [2, 11, 6137, 6139, 26, 1013], [], [sgX11_entryAt]), (48, 1, .aload_n 0, [0], [], []), (49, 1, .iconst 2, [], [2], []), (50, 1, .iload_n 2, [2], [], []), (51, 3, .invokevirtual 52, [2, 11, 6149, 6151, 29, 1013], [], [sgX11_toOf]), (54, 1, .iastore, [], [], []), (55, 1, .aload_n 0, [0], [], []), (56, 3, .getfield 7, [11, 0, 1, 6073], [], []), (59, 1, .aload_n 0, [0], [], []), (60, 1, .iconst 3, [], [3], []), (61, 1, .iload_n 1, [1], [], []), (62, 3, .invokevirtual 41, [2, 11, 6137, 6139, 26, 1013], [], [sgX11_entryAt]), (65, 1, .iconst 1, [], [1], []), (66, 1, .iadd, [], [], []), (67, 1, .aload_n 0, [0], [], []), (68, 1, .iconst 1, [], [1], []), (69, 1, .iload_n 1, [1], [], []), (70, 3, .invokevirtual 49, [2, 11, 6215, 6217, 41, 1013], [], [sgX11_rightsOf]), (73, 1, .aload_n 0, [0], [], []), (74, 1, .iconst 2, [], [2], []), (75, 1, .iload_n 2, [2], [], []), (76, 3, .invokevirtual 49, [2, 11, 6215, 6217, 41, 1013], [], [sgX11_rightsOf]), (79, 1, .iand, [], [], []), (80, 1, .iastore, [], [], []), (81, 1, .aload_n 0, [0], [], []), (82, 3, .sipush 786, [], [786], []), (85, 2, .bipush 23, [], [23], []), (87, 1, .iload_n 1, [1], [], []), (88, 3, .invokevirtual 66, [3, 11, 6161, 6163, 32, 1013], [], [sgX11_comeLast]), (91, 1, .return_, [], [], [])]
def bsX11_fold : List (Nat × List gw_E) := [(0, bkX11_fold_0), (31, bkX11_fold_31)]
theorem fdX11_fold_0 : gw_find bsX11_fold 0 = bkX11_fold_0 := rfl
theorem fdX11_fold_31 : gw_find bsX11_fold 31 = bkX11_fold_31 := rfl
set_option maxRecDepth 40000 in
theorem stX11_fold : gw_sta sgX11_fold bsX11_fold := ⟨by decide +kernel, gw_mem2 (i := 6226) rfl rfl, gw_all (by decide +kernel)⟩
def bkX11_writeExit_0 : List gw_E := [(0, 1, .aload_n 0, [0], [], []), (1, 3, .getfield 7, [11, 0, 1, 6073], [], []), (4, 2, .bipush 25, [], [25], []), (6, 1, .iaload, [], [], []), (7, 2, .bipush 24, [], [24], []), (9, 3, .if_icmp .ne 49, [58], [], []), (12, 3, .sipush 861, [], [861], []), (15, 2, .istore 4, [4], [], [])]
def bkX11_writeExit_17 : List gw_E := [(17, 2, .iload 4, [4], [], []), (19, 3, .sipush 953, [], [953], []), (22, 3, .if_icmp .ge 25, [47], [], []), (25, 1, .aload_n 0, [0], [], []), (26, 3, .getfield 7, [11, 0, 1, 6073], [], []), (29, 2, .iload 4, [4], [], []), (31, 1, .aload_n 0, [0], [], []), (32, 3, .getfield 7, [11, 0, 1, 6073], [], []), (35, 2, .iload 4, [4], [], []), (37, 1, .iconst 4, [], [4], []), (38, 1, .iadd, [], [], []), (39, 1, .iaload, [], [], []), (40, 1, .iastore, [], [], []), (41, 3, .iinc 4 1, [4], [1], []), (44, 3, .goto (-27), [17], [], [])]
def bkX11_writeExit_47 : List gw_E := [(47, 1, .aload_n 0, [0], [], []), (48, 3, .getfield 7, [11, 0, 1, 6073], [], []), (51, 2, .bipush 25, [], [25], []), (53, 1, .dup2, [], [], []), (54, 1, .iaload, [], [], []), (55, 1, .iconst 1, [], [1], []), (56, 1, .isub, [], [], []), (57, 1, .iastore, [], [], [])]
def bkX11_writeExit_58 : List gw_E := [(58, 3, .sipush 861, [], [861], []), (61, 1, .iconst 4, [], [4], []), (62, 1, .aload_n 0, [0], [], []), (63, 3, .getfield 7, [11, 0, 1, 6073], [], []), (66, 2, .bipush 25, [], [25], []), (68, 1, .iaload, [], [], []), (69, 1, .imul, [], [], []), (70, 1, .iadd, [], [], []), (71, 2, .istore 4, [4], [], []), (73, 1, .aload_n 0, [0], [], []), (74, 3, .getfield 7, [11, 0, 1, 6073], [], []), (77, 2, .iload 4, [4], [], []), (79, 1, .iload_n 1, [1], [], []), (80, 1, .iastore, [], [], []), (81, 1, .aload_n 0, [0], [], []), (82, 3, .getfield 7, [11, 0, 1, 6073], [], []), (85, 2, .iload 4, [4], [], []), (87, 1, .iconst 1, [], [1], []), (88, 1, .iadd, [], [], []), (89, 1, .iload_n 2, [2], [], []), (90, 1, .iastore, [], [], []), (91, 1, .aload_n 0, [0], [], []), (92, 3, .getfield 7, [11, 0, 1, 6073], [], []), (95, 2, .iload 4, [4], [], []), (97, 1, .iconst 2, [], [2], []), (98, 1, .iadd, [], [], []), (99, 1, .iload_n 3, [3], [], []), (100, 1, .iastore, [], [], []), (101, 1, .aload_n 0, [0], [], []), (102, 3, .getfield 7, [11, 0, 1, 6073], [], []), (105, 2, .iload 4, [4], [], []), (107, 1, .iconst 3, [], [3], []), (108, 1, .iadd, [], [], []), (109, 1, .aload_n 0, [0], [], []), (110, 3, .getfield 7, [11, 0, 1, 6073], [], []), (113, 1, .iconst 3, [], [3], []), (114, 1, .iaload, [], [], []), (115, 1, .iastore, [], [], []), (116, 1, .aload_n 0, [0], [], []), (117, 3, .getfield 7, [11, 0, 1, 6073], [], []), (120, 2, .bipush 25, [], [25], []), (122, 1, .dup2, [], [], []), (123, 1, .iaload, [], [], []), (124, 1, .iconst 1, [], [1], []), (125, 1, .iadd, [], [], []), (126, 1, .iastore, [], [], []), (127, 1, .aload_n 0, [0], [], []), (128, 3, .getfield 7, [11, 0, 1, 6073], [], []), (131, 1, .iconst 5, [], [5], []), (132, 1, .iload_n 1, [1], [], []), (133, 1, .iadd, [], [], []), (134, 1, .dup2, [], [], []), (135, 1, .iaload, [], [], []), (136, 1, .iconst 1, [], [1], []), (137, 1, .iadd, [], [], []), (138, 1, .iastore, [], [], []), (139, 1, .return_, [], [], [])]
def bsX11_writeExit : List (Nat × List gw_E) := [(0, bkX11_writeExit_0), (17, bkX11_writeExit_17), (47, bkX11_writeExit_47), (58, bkX11_writeExit_58)]
theorem fdX11_writeExit_0 : gw_find bsX11_writeExit 0 = bkX11_writeExit_0 := rfl
theorem fdX11_writeExit_17 : gw_find bsX11_writeExit 17 = bkX11_writeExit_17 := rfl
theorem fdX11_writeExit_47 : gw_find bsX11_writeExit 47 = bkX11_writeExit_47 := rfl
theorem fdX11_writeExit_58 : gw_find bsX11_writeExit 58 = bkX11_writeExit_58 := rfl
set_option maxRecDepth 40000 in
theorem stX11_writeExit : gw_sta sgX11_writeExit bsX11_writeExit := ⟨by decide +kernel, gw_mem2 (i := 6186) rfl rfl, gw_all (by decide +kernel)⟩
def bkX11_see_0 : List gw_E := [(0, 1, .aload_n 0, [0], [], []), (1, 1, .iconst 0, [], [0], []), (2, 1, .iload_n 1, [1], [], []), (3, 1, .iload_n 2, [2], [], []), (4, 3, .invokevirtual 86, [3, 11, 6183, 6185, 36, 1013], [], [sgX11_writeExit]), (7, 1, .return_, [], [], [])]
def bsX11_see : List (Nat × List gw_E) := [(0, bkX11_see_0)]
theorem fdX11_see_0 : gw_find bsX11_see 0 = bkX11_see_0 := rfl
set_option maxRecDepth 40000 in
theorem stX11_see : gw_sta sgX11_see bsX11_see := ⟨by decide +kernel, gw_mem2 (i := 7034) rfl rfl, gw_all (by decide +kernel)⟩
def bkX11_deal_0 : List gw_E := [(0, 1, .aload_n 0, [0], [], []), (1, 1, .iconst 1, [], [1], []), (2, 1, .iload_n 1, [1], [], []), (3, 1, .iload_n 2, [2], [], []), (4, 3, .invokevirtual 86, [3, 11, 6183, 6185, 36, 1013], [], [sgX11_writeExit]), (7, 1, .aload_n 0, [0], [], []), (8, 3, .getfield 7, [11, 0, 1, 6073], [], []), (11, 2, .bipush 13, [], [13], []), (13, 1, .iload_n 1, [1], [], []), (14, 1, .iastore, [], [], []), (15, 1, .aload_n 0, [0], [], []), (16, 3, .getfield 7, [11, 0, 1, 6073], [], []), (19, 2, .bipush 14, [], [14], []), (21, 1, .iload_n 2, [2], [], []), (22, 1, .iastore, [], [], []), (23, 1, .iload_n 1, [1], [], []), (24, 1, .iconst 1, [], [1], []), (25, 3, .if_icmp .ne 13, [38], [], []), (28, 1, .aload_n 0, [0], [], []), (29, 3, .getfield 7, [11, 0, 1, 6073], [], []), (32, 2, .bipush 16, [], [16], []), (34, 1, .iload_n 2, [2], [], []), (35, 1, .iconst 4, [], [4], []), (36, 1, .idiv, [], [], []), (37, 1, .iastore, [], [], [])]
def bkX11_deal_38 : List gw_E := [(38, 1, .aload_n 0, [0], [], []), (39, 3, .getfield 7, [11, 0, 1, 6073], [], []), (42, 1, .iconst 2, [], [2], []), (43, 1, .iconst 1, [], [1], []), (44, 1, .iastore, [], [], []), (45, 1, .aload_n 0, [0], [], []), (46, 3, .getfield 7, [11, 0, 1, 6073], [], []), (49, 3, .sipush 828, [], [828], []), (52, 1, .iload_n 1, [1], [], []), (53, 1, .iadd, [], [], []), (54, 1, .iaload, [], [], []), (55, 1, .istore_n 3, [3], [], []), (56, 1, .iload_n 3, [3], [], []), (57, 1, .iconst 0, [], [0], []), (58, 1, .aload_n 0, [0], [], []), (59, 3, .getfield 7, [11, 0, 1, 6073], [], []), (62, 1, .aload_n 0, [0], [], []), (63, 1, .iconst 1, [], [1], []), (64, 3, .invokevirtual 37, [1, 11, 6141, 6143, 27, 1013], [], [sgX11_guestAt]), (67, 2, .bipush 6, [], [6], []), (69, 1, .iadd, [], [], []), (70, 1, .iaload, [], [], []), (71, 1, .iconst 1, [], [1], []), (72, 1, .isub, [], [], []), (73, 3, .invokestatic 33, [3, 0, 6122, 6123, 1013, 0], [], [sgX11_isIn]), (76, 3, .ifCond .eq 16, [92], [], []), (79, 1, .aload_n 0, [0], [], []), (80, 3, .getfield 7, [11, 0, 1, 6073], [], []), (83, 1, .aload_n 0, [0], [], []), (84, 1, .iconst 1, [], [1], []), (85, 3, .invokevirtual 37, [1, 11, 6141, 6143, 27, 1013], [], [sgX11_guestAt]), (88, 1, .iconst 5, [], [5], []), (89, 1, .iadd, [], [], []), (90, 1, .iload_n 3, [3], [], []), (91, 1, .iastore, [], [], [])]
def bkX11_deal_92 : List gw_E := [(92, 1, .return_, [], [], [])]
def bsX11_deal : List (Nat × List gw_E) := [(0, bkX11_deal_0), (38, bkX11_deal_38), (92, bkX11_deal_92)]
theorem fdX11_deal_0 : gw_find bsX11_deal 0 = bkX11_deal_0 := rfl
theorem fdX11_deal_38 : gw_find bsX11_deal 38 = bkX11_deal_38 := rfl
theorem fdX11_deal_92 : gw_find bsX11_deal 92 = bkX11_deal_92 := rfl
set_option maxRecDepth 40000 in
theorem stX11_deal : gw_sta sgX11_deal bsX11_deal := ⟨by decide +kernel, gw_mem2 (i := 6182) rfl rfl, gw_all (by decide +kernel)⟩
def bkX11_whoSees_0 : List gw_E := [(0, 1, .aload_n 0, [0], [], []), (1, 3, .getfield 7, [11, 0, 1, 6073], [], []), (4, 2, .bipush 18, [], [18], []), (6, 1, .iaload, [], [], []), (7, 1, .iload_n 1, [1], [], []), (8, 3, .invokestatic 29, [2, 0, 6176, 6177, 1013, 0], [], [sgX11_has]), (11, 3, .ifCond .eq 7, [18], [], []), (14, 1, .iconst 1, [], [1], []), (15, 3, .goto 22, [37], [], [])]
def bkX11_whoSees_18 : List gw_E := [(18, 1, .aload_n 0, [0], [], []), (19, 3, .getfield 7, [11, 0, 1, 6073], [], []), (22, 2, .bipush 17, [], [17], []), (24, 1, .iaload, [], [], []), (25, 1, .iload_n 1, [1], [], []), (26, 3, .invokestatic 29, [2, 0, 6176, 6177, 1013, 0], [], [sgX11_has]), (29, 3, .ifCond .eq 7, [36], [], []), (32, 1, .iconst 0, [], [0], []), (33, 3, .goto 4, [37], [], [])]
def bkX11_whoSees_36 : List gw_E := [(36, 1, .iconst 2, [], [2], [])]
def bkX11_whoSees_37 : List gw_E := [(37, 1, .ireturn, [0], [], [])]
def bsX11_whoSees : List (Nat × List gw_E) := [(0, bkX11_whoSees_0), (18, bkX11_whoSees_18), (36, bkX11_whoSees_36), (37, bkX11_whoSees_37)]
theorem fdX11_whoSees_0 : gw_find bsX11_whoSees 0 = bkX11_whoSees_0 := rfl
theorem fdX11_whoSees_18 : gw_find bsX11_whoSees 18 = bkX11_whoSees_18 := rfl
theorem fdX11_whoSees_36 : gw_find bsX11_whoSees 36 = bkX11_whoSees_36 := rfl
theorem fdX11_whoSees_37 : gw_find bsX11_whoSees 37 = bkX11_whoSees_37 := rfl
set_option maxRecDepth 40000 in
theorem stX11_whoSees : gw_sta sgX11_whoSees bsX11_whoSees := ⟨by decide +kernel, gw_mem2 (i := 7082) rfl rfl, gw_all (by decide +kernel)⟩
def bkX11_eventOuter_0 : List gw_E := [(0, 1, .aload_n 0, [0], [], []), (1, 3, .getfield 7, [11, 0, 1, 6073], [], []), (4, 2, .bipush 17, [], [17], []), (6, 1, .iaload, [], [], []), (7, 1, .iload_n 1, [1], [], []), (8, 3, .invokestatic 29, [2, 0, 6176, 6177, 1013, 0], [], [sgX11_has]), (11, 3, .ifCond .ne 5, [16], [], []), (14, 1, .iconst 2, [], [2], []), (15, 1, .ireturn, [0], [], [])]
def bkX11_eventOuter_16 : List gw_E := [(16, 1, .aload_n 0, [0], [], []), (17, 1, .iconst 5, [], [5], []), (18, 1, .iload_n 1, [1], [], []), (19, 3, .invokevirtual 89, [2, 11, 7031, 7033, 49, 1013], [], [sgX11_see]), (22, 1, .iconst 0, [], [0], []), (23, 1, .ireturn, [0], [], [])]
def bsX11_eventOuter : List (Nat × List gw_E) := [(0, bkX11_eventOuter_0), (16, bkX11_eventOuter_16)]
theorem fdX11_eventOuter_0 : gw_find bsX11_eventOuter 0 = bkX11_eventOuter_0 := rfl
theorem fdX11_eventOuter_16 : gw_find bsX11_eventOuter 16 = bkX11_eventOuter_16 := rfl
set_option maxRecDepth 40000 in
theorem stX11_eventOuter : gw_sta sgX11_eventOuter bsX11_eventOuter := ⟨by decide +kernel, gw_mem2 (i := 7074) rfl rfl, gw_all (by decide +kernel)⟩
def bkX11_eventInner_0 : List gw_E := [(0, 1, .aload_n 0, [0], [], []), (1, 1, .iload_n 1, [1], [], []), (2, 3, .invokevirtual 93, [1, 11, 7079, 7081, 61, 1013], [], [sgX11_whoSees]), (5, 1, .istore_n 2, [2], [], []), (6, 1, .iload_n 2, [2], [], []), (7, 1, .iconst 1, [], [1], []), (8, 3, .if_icmp .ne 9, [17], [], []), (11, 1, .aload_n 0, [0], [], []), (12, 1, .iconst 4, [], [4], []), (13, 1, .iload_n 1, [1], [], []), (14, 3, .invokevirtual 96, [2, 11, 6179, 6181, 35, 1013], [], [sgX11_deal])]
def bkX11_eventInner_17 : List gw_E := [(17, 1, .iload_n 2, [2], [], []), (18, 3, .ifCond .ne 9, [27], [], []), (21, 1, .aload_n 0, [0], [], []), (22, 1, .iconst 4, [], [4], []), (23, 1, .iload_n 1, [1], [], []), (24, 3, .invokevirtual 89, [2, 11, 7031, 7033, 49, 1013], [], [sgX11_see])]
def bkX11_eventInner_27 : List gw_E := [(27, 1, .iload_n 2, [2], [], []), (28, 1, .ireturn, [0], [], [])]
def bsX11_eventInner : List (Nat × List gw_E) := [(0, bkX11_eventInner_0), (17, bkX11_eventInner_17), (27, bkX11_eventInner_27)]
theorem fdX11_eventInner_0 : gw_find bsX11_eventInner 0 = bkX11_eventInner_0 := rfl
theorem fdX11_eventInner_17 : gw_find bsX11_eventInner 17 = bkX11_eventInner_17 := rfl
theorem fdX11_eventInner_27 : gw_find bsX11_eventInner 27 = bkX11_eventInner_27 := rfl
set_option maxRecDepth 40000 in
theorem stX11_eventInner : gw_sta sgX11_eventInner bsX11_eventInner := ⟨by decide +kernel, gw_mem2 (i := 7078) rfl rfl, gw_all (by decide +kernel)⟩
def bkX11_eventNow_0 : List gw_E := [(0, 1, .aload_n 0, [0], [], []), (1, 3, .getfield 7, [11, 0, 1, 6073], [], []), (4, 1, .iconst 2, [], [2], []), (5, 1, .iaload, [], [], []), (6, 1, .iconst 1, [], [1], []), (7, 3, .if_icmp .ne 11, [18], [], []), (10, 1, .aload_n 0, [0], [], []), (11, 1, .iload_n 1, [1], [], []), (12, 3, .invokevirtual 99, [1, 11, 7071, 7073, 59, 1013], [], [sgX11_eventOuter]), (15, 3, .goto 8, [23], [], [])]
def bkX11_eventNow_18 : List gw_E := [(18, 1, .aload_n 0, [0], [], []), (19, 1, .iload_n 1, [1], [], []), (20, 3, .invokevirtual 102, [1, 11, 7075, 7077, 60, 1013], [], [sgX11_eventInner])]
def bkX11_eventNow_23 : List gw_E := [(23, 1, .istore_n 2, [2], [], []), (24, 1, .aload_n 0, [0], [], []), (25, 3, .getfield 7, [11, 0, 1, 6073], [], []), (28, 2, .bipush 32, [], [32], []), (30, 1, .iconst 3, [], [3], []), (31, 1, .iload_n 1, [1], [], []), (32, 1, .imul, [], [], []), (33, 1, .iadd, [], [], []), (34, 1, .iload_n 2, [2], [], []), (35, 1, .iadd, [], [], []), (36, 1, .dup2, [], [], []), (37, 1, .iaload, [], [], []), (38, 1, .iconst 1, [], [1], []), (39, 1, .iadd, [], [], []), (40, 1, .iastore, [], [], []), (41, 1, .iload_n 2, [2], [], []), (42, 1, .ireturn, [0], [], [])]
def bsX11_eventNow : List (Nat × List gw_E) := [(0, bkX11_eventNow_0), (18, bkX11_eventNow_18), (23, bkX11_eventNow_23)]
theorem fdX11_eventNow_0 : gw_find bsX11_eventNow 0 = bkX11_eventNow_0 := rfl
theorem fdX11_eventNow_18 : gw_find bsX11_eventNow 18 = bkX11_eventNow_18 := rfl
theorem fdX11_eventNow_23 : gw_find bsX11_eventNow 23 = bkX11_eventNow_23 := rfl
set_option maxRecDepth 40000 in
theorem stX11_eventNow : gw_sta sgX11_eventNow bsX11_eventNow := ⟨by decide +kernel, gw_mem2 (i := 7070) rfl rfl, gw_all (by decide +kernel)⟩
def bkX11_hear_0 : List gw_E := [(0, 1, .aload_n 0, [0], [], []), (1, 3, .getfield 7, [11, 0, 1, 6073], [], []), (4, 2, .bipush 24, [], [24], []), (6, 1, .iaload, [], [], []), (7, 2, .bipush 24, [], [24], []), (9, 3, .if_icmp .ne 45, [54], [], []), (12, 3, .sipush 837, [], [837], []), (15, 1, .istore_n 2, [2], [], [])]
def bkX11_hear_16 : List gw_E := [(16, 1, .iload_n 2, [2], [], []), (17, 3, .sipush 860, [], [860], []), (20, 3, .if_icmp .ge 23, [43], [], []), (23, 1, .aload_n 0, [0], [], []), (24, 3, .getfield 7, [11, 0, 1, 6073], [], []), (27, 1, .iload_n 2, [2], [], []), (28, 1, .aload_n 0, [0], [], []), (29, 3, .getfield 7, [11, 0, 1, 6073], [], []), (32, 1, .iload_n 2, [2], [], []), (33, 1, .iconst 1, [], [1], []), (34, 1, .iadd, [], [], []), (35, 1, .iaload, [], [], []), (36, 1, .iastore, [], [], []), (37, 3, .iinc 2 1, [2], [1], []), (40, 3, .goto (-24), [16], [], [])]
def bkX11_hear_43 : List gw_E := [(43, 1, .aload_n 0, [0], [], []), (44, 3, .getfield 7, [11, 0, 1, 6073], [], []), (47, 2, .bipush 24, [], [24], []), (49, 1, .dup2, [], [], []), (50, 1, .iaload, [], [], []), (51, 1, .iconst 1, [], [1], []), (52, 1, .isub, [], [], []), (53, 1, .iastore, [], [], [])]
def bkX11_hear_54 : List gw_E := [(54, 1, .aload_n 0, [0], [], []), (55, 3, .getfield 7, [11, 0, 1, 6073], [], []), (58, 3, .sipush 837, [], [837], []), (61, 1, .aload_n 0, [0], [], []), (62, 3, .getfield 7, [11, 0, 1, 6073], [], []), (65, 2, .bipush 24, [], [24], []), (67, 1, .iaload, [], [], []), (68, 1, .iadd, [], [], []), (69, 1, .iload_n 1, [1], [], []), (70, 1, .iastore, [], [], []), (71, 1, .aload_n 0, [0], [], []), (72, 3, .getfield 7, [11, 0, 1, 6073], [], []), (75, 2, .bipush 24, [], [24], []), (77, 1, .dup2, [], [], []), (78, 1, .iaload, [], [], []), (79, 1, .iconst 1, [], [1], []), (80, 1, .iadd, [], [], []), (81, 1, .iastore, [], [], []), (82, 1, .return_, [], [], [])]
def bsX11_hear : List (Nat × List gw_E) := [(0, bkX11_hear_0), (16, bkX11_hear_16), (43, bkX11_hear_43), (54, bkX11_hear_54)]
theorem fdX11_hear_0 : gw_find bsX11_hear 0 = bkX11_hear_0 := rfl
theorem fdX11_hear_16 : gw_find bsX11_hear 16 = bkX11_hear_16 := rfl
theorem fdX11_hear_43 : gw_find bsX11_hear 43 = bkX11_hear_43 := rfl
theorem fdX11_hear_54 : gw_find bsX11_hear 54 = bkX11_hear_54 := rfl
set_option maxRecDepth 40000 in
theorem stX11_hear : gw_sta sgX11_hear bsX11_hear := ⟨by decide +kernel, gw_mem2 (i := 7090) rfl rfl, gw_all (by decide +kernel)⟩
def bkX11_doAt_0 : List gw_E := [(0, 1, .iload_n 2, [2], [], []), (1, 1, .iconst 1, [], [1], []), (2, 3, .if_icmp .ne 27, [29], [], []), (5, 1, .aload_n 0, [0], [], []), (6, 3, .getfield 7, [11, 0, 1, 6073], [], []), (9, 3, .sipush 802, [], [802], []), (12, 1, .iload_n 1, [1], [], []), (13, 1, .iadd, [], [], []), (14, 1, .iload_n 3, [3], [], []), (15, 1, .iastore, [], [], []), (16, 1, .aload_n 0, [0], [], []), (17, 3, .getfield 7, [11, 0, 1, 6073], [], []), (20, 2, .bipush 21, [], [21], []), (22, 1, .dup2, [], [], []), (23, 1, .iaload, [], [], []), (24, 1, .iconst 1, [], [1], []), (25, 1, .iload_n 1, [1], [], []), (26, 1, .ishl, [], [], []), (27, 1, .ior, [], [], []), (28, 1, .iastore, [], [], [])]
def bkX11_doAt_29 : List gw_E := [(29, 1, .aload_n 0, [0], [], []), (30, 3, .getfield 7, [11, 0, 1, 6073], [], []), (33, 3, .sipush 802, [], [802], []), (36, 1, .iload_n 1, [1], [], []), (37, 1, .iadd, [], [], []), (38, 1, .iaload, [], [], []), (39, 1, .ireturn, [0], [], [])]
def bsX11_doAt : List (Nat × List gw_E) := [(0, bkX11_doAt_0), (29, bkX11_doAt_29)]
theorem fdX11_doAt_0 : gw_find bsX11_doAt 0 = bkX11_doAt_0 := rfl
theorem fdX11_doAt_29 : gw_find bsX11_doAt 29 = bkX11_doAt_29 := rfl
set_option maxRecDepth 40000 in
theorem stX11_doAt : gw_sta sgX11_doAt bsX11_doAt := ⟨by decide +kernel, gw_mem2 (i := 7062) rfl rfl, gw_all (by decide +kernel)⟩
def bkX11_doInner_0 : List gw_E := [(0, 1, .aload_n 0, [0], [], []), (1, 1, .iload_n 1, [1], [], []), (2, 1, .iload_n 2, [2], [], []), (3, 1, .iload_n 3, [3], [], []), (4, 3, .invokevirtual 105, [3, 11, 7059, 7061, 56, 1013], [], [sgX11_doAt]), (7, 2, .istore 4, [4], [], []), (9, 1, .iload_n 2, [2], [], []), (10, 1, .iconst 1, [], [1], []), (11, 3, .if_icmp .eq 9, [20], [], []), (14, 1, .aload_n 0, [0], [], []), (15, 2, .iload 4, [4], [], []), (17, 3, .invokevirtual 109, [1, 11, 7087, 7089, 63, 1013], [], [sgX11_hear])]
def bkX11_doInner_20 : List gw_E := [(20, 2, .iload 4, [4], [], []), (22, 1, .ireturn, [0], [], [])]
def bsX11_doInner : List (Nat × List gw_E) := [(0, bkX11_doInner_0), (20, bkX11_doInner_20)]
theorem fdX11_doInner_0 : gw_find bsX11_doInner 0 = bkX11_doInner_0 := rfl
theorem fdX11_doInner_20 : gw_find bsX11_doInner 20 = bkX11_doInner_20 := rfl
set_option maxRecDepth 40000 in
theorem stX11_doInner : gw_sta sgX11_doInner bsX11_doInner := ⟨by decide +kernel, gw_mem2 (i := 7086) rfl rfl, gw_all (by decide +kernel)⟩
def bkX11_touchInner_0 : List gw_E := [(0, 1, .aload_n 0, [0], [], []), (1, 1, .iconst 0, [], [0], []), (2, 1, .iload_n 1, [1], [], []), (3, 1, .iload_n 2, [2], [], []), (4, 3, .invokevirtual 112, [3, 11, 7055, 7057, 55, 1013], [], [sgX11_gives]), (7, 3, .ifCond .ne 41, [48], [], []), (10, 1, .aload_n 0, [0], [], []), (11, 1, .iconst 0, [], [0], []), (12, 3, .invokevirtual 115, [1, 11, 7067, 7069, 58, 1013], [], [sgX11_eventNow]), (15, 1, .iconst 2, [], [2], []), (16, 3, .if_icmp .ne 29, [45], [], []), (19, 1, .aload_n 0, [0], [], []), (20, 3, .getfield 7, [11, 0, 1, 6073], [], []), (23, 2, .bipush 7, [], [7], []), (25, 1, .dup2, [], [], []), (26, 1, .iaload, [], [], []), (27, 1, .iconst 1, [], [1], []), (28, 1, .iadd, [], [], []), (29, 1, .iastore, [], [], []), (30, 1, .aload_n 0, [0], [], []), (31, 3, .getfield 7, [11, 0, 1, 6073], [], []), (34, 1, .aload_n 0, [0], [], []), (35, 1, .iconst 2, [], [2], []), (36, 3, .invokevirtual 37, [1, 11, 6141, 6143, 27, 1013], [], [sgX11_guestAt]), (39, 3, .sipush 144, [], [144], []), (42, 1, .iadd, [], [], []), (43, 1, .iload_n 1, [1], [], []), (44, 1, .iastore, [], [], [])]
def bkX11_touchInner_45 : List gw_E := [(45, 2, .bipush (-2), [], [-2], []), (47, 1, .ireturn, [0], [], [])]
def bkX11_touchInner_48 : List gw_E := [(48, 1, .aload_n 0, [0], [], []), (49, 1, .iconst 0, [], [0], []), (50, 1, .iload_n 1, [1], [], []), (51, 3, .invokevirtual 52, [2, 11, 6149, 6151, 29, 1013], [], [sgX11_toOf]), (54, 2, .istore 4, [4], [], []), (56, 1, .aload_n 0, [0], [], []), (57, 1, .iconst 3, [], [3], []), (58, 2, .iload 4, [4], [], []), (60, 1, .iload_n 2, [2], [], []), (61, 3, .invokevirtual 112, [3, 11, 7055, 7057, 55, 1013], [], [sgX11_gives]), (64, 3, .ifCond .eq 17, [81], [], []), (67, 1, .aload_n 0, [0], [], []), (68, 1, .aload_n 0, [0], [], []), (69, 1, .iconst 3, [], [3], []), (70, 2, .iload 4, [4], [], []), (72, 3, .invokevirtual 52, [2, 11, 6149, 6151, 29, 1013], [], [sgX11_toOf]), (75, 1, .iload_n 2, [2], [], []), (76, 1, .iload_n 3, [3], [], []), (77, 3, .invokevirtual 118, [3, 11, 7083, 7085, 62, 1013], [], [sgX11_doInner]), (80, 1, .ireturn, [0], [], [])]
def bkX11_touchInner_81 : List gw_E := [(81, 1, .aload_n 0, [0], [], []), (82, 1, .iconst 1, [], [1], []), (83, 2, .iload 4, [4], [], []), (85, 1, .iload_n 2, [2], [], []), (86, 3, .invokevirtual 112, [3, 11, 7055, 7057, 55, 1013], [], [sgX11_gives]), (89, 3, .ifCond .ne 17, [106], [], []), (92, 1, .aload_n 0, [0], [], []), (93, 1, .iconst 1, [], [1], []), (94, 1, .iconst 4, [], [4], []), (95, 2, .iload 4, [4], [], []), (97, 1, .imul, [], [], []), (98, 1, .iload_n 2, [2], [], []), (99, 1, .iadd, [], [], []), (100, 3, .invokevirtual 96, [2, 11, 6179, 6181, 35, 1013], [], [sgX11_deal]), (103, 2, .bipush (-3), [], [-3], []), (105, 1, .ireturn, [0], [], [])]
def bkX11_touchInner_106 : List gw_E := [(106, 1, .aload_n 0, [0], [], []), (107, 1, .iconst 2, [], [2], []), (108, 1, .iconst 4, [], [4], []), (109, 2, .iload 4, [4], [], []), (111, 1, .imul, [], [], []), (112, 1, .iload_n 2, [2], [], []), (113, 1, .iadd, [], [], []), (114, 3, .invokevirtual 89, [2, 11, 7031, 7033, 49, 1013], [], [sgX11_see]), (117, 1, .aload_n 0, [0], [], []), (118, 1, .iconst 1, [], [1], []), (119, 2, .iload 4, [4], [], []), (121, 3, .invokevirtual 52, [2, 11, 6149, 6151, 29, 1013], [], [sgX11_toOf]), (124, 2, .istore 5, [5], [], []), (126, 1, .aload_n 0, [0], [], []), (127, 1, .iconst 2, [], [2], []), (128, 2, .iload 5, [5], [], []), (130, 3, .invokevirtual 52, [2, 11, 6149, 6151, 29, 1013], [], [sgX11_toOf]), (133, 1, .iconst (-1), [], [-1], []), (134, 3, .if_icmp .ne 9, [143], [], []), (137, 1, .aload_n 0, [0], [], []), (138, 2, .iload 5, [5], [], []), (140, 3, .invokevirtual 83, [1, 11, 7035, 7037, 50, 1013], [], [sgX11_give])]
def bkX11_touchInner_143 : List gw_E := [(143, 1, .aload_n 0, [0], [], []), (144, 2, .iload 5, [5], [], []), (146, 1, .iload_n 2, [2], [], []), (147, 3, .invokevirtual 121, [2, 11, 7047, 7049, 53, 1013], [], [sgX11_isParted]), (150, 3, .ifCond .eq 9, [159], [], []), (153, 1, .aload_n 0, [0], [], []), (154, 2, .iload 5, [5], [], []), (156, 3, .invokevirtual 124, [1, 11, 7051, 7053, 54, 1013], [], [sgX11_part])]
def bkX11_touchInner_159 : List gw_E := [(159, 1, .aload_n 0, [0], [], []), (160, 1, .iconst 2, [], [2], []), (161, 2, .iload 5, [5], [], []), (163, 1, .iload_n 2, [2], [], []), (164, 3, .invokevirtual 112, [3, 11, 7055, 7057, 55, 1013], [], [sgX11_gives]), (167, 3, .ifCond .ne 6, [173], [], []), (170, 2, .bipush (-4), [], [-4], []), (172, 1, .ireturn, [0], [], [])]
def bkX11_touchInner_173 : List gw_E := [(173, 1, .aload_n 0, [0], [], []), (174, 2, .iload 4, [4], [], []), (176, 3, .invokevirtual 127, [1, 11, 6223, 6225, 43, 1013], [], [sgX11_fold]), (179, 1, .aload_n 0, [0], [], []), (180, 1, .aload_n 0, [0], [], []), (181, 1, .iconst 3, [], [3], []), (182, 2, .iload 4, [4], [], []), (184, 3, .invokevirtual 52, [2, 11, 6149, 6151, 29, 1013], [], [sgX11_toOf]), (187, 1, .iload_n 2, [2], [], []), (188, 1, .iload_n 3, [3], [], []), (189, 3, .invokevirtual 118, [3, 11, 7083, 7085, 62, 1013], [], [sgX11_doInner]), (192, 1, .ireturn, [0], [], [])]
def bsX11_touchInner : List (Nat × List gw_E) := [(0, bkX11_touchInner_0), (45, bkX11_touchInner_45), (48, bkX11_touchInner_48), (81, bkX11_touchInner_81), (106, bkX11_touchInner_106), (143, bkX11_touchInner_143), (159, bkX11_touchInner_159), (173, bkX11_touchInner_173)]
theorem fdX11_touchInner_0 : gw_find bsX11_touchInner 0 = bkX11_touchInner_0 := rfl
theorem fdX11_touchInner_45 : gw_find bsX11_touchInner 45 = bkX11_touchInner_45 := rfl
theorem fdX11_touchInner_48 : gw_find bsX11_touchInner 48 = bkX11_touchInner_48 := rfl
theorem fdX11_touchInner_81 : gw_find bsX11_touchInner 81 = bkX11_touchInner_81 := rfl
theorem fdX11_touchInner_106 : gw_find bsX11_touchInner 106 = bkX11_touchInner_106 := rfl
theorem fdX11_touchInner_143 : gw_find bsX11_touchInner 143 = bkX11_touchInner_143 := rfl
theorem fdX11_touchInner_159 : gw_find bsX11_touchInner 159 = bkX11_touchInner_159 := rfl
theorem fdX11_touchInner_173 : gw_find bsX11_touchInner 173 = bkX11_touchInner_173 := rfl
set_option maxRecDepth 40000 in
theorem stX11_touchInner : gw_sta sgX11_touchInner bsX11_touchInner := ⟨by decide +kernel, gw_mem2 (i := 7066) rfl rfl, gw_all (by decide +kernel)⟩
def bkX11_touchOuter_0 : List gw_E := [(0, 2, .bipush 64, [], [64], []), (2, 1, .iconst 4, [], [4], []), (3, 1, .iload_n 1, [1], [], []), (4, 1, .imul, [], [], []), (5, 1, .iadd, [], [], []), (6, 1, .iload_n 2, [2], [], []), (7, 1, .iadd, [], [], []), (8, 2, .istore 4, [4], [], []), (10, 1, .aload_n 0, [0], [], []), (11, 1, .iconst 2, [], [2], []), (12, 1, .iload_n 1, [1], [], []), (13, 3, .invokevirtual 52, [2, 11, 6149, 6151, 29, 1013], [], [sgX11_toOf]), (16, 1, .iconst (-1), [], [-1], []), (17, 3, .if_icmp .ne 15, [32], [], []), (20, 1, .aload_n 0, [0], [], []), (21, 1, .iconst 2, [], [2], []), (22, 2, .iload 4, [4], [], []), (24, 3, .invokevirtual 89, [2, 11, 7031, 7033, 49, 1013], [], [sgX11_see]), (27, 1, .aload_n 0, [0], [], []), (28, 1, .iload_n 1, [1], [], []), (29, 3, .invokevirtual 83, [1, 11, 7035, 7037, 50, 1013], [], [sgX11_give])]
def bkX11_touchOuter_32 : List gw_E := [(32, 1, .aload_n 0, [0], [], []), (33, 1, .iload_n 1, [1], [], []), (34, 1, .iload_n 2, [2], [], []), (35, 3, .invokevirtual 121, [2, 11, 7047, 7049, 53, 1013], [], [sgX11_isParted]), (38, 3, .ifCond .eq 16, [54], [], []), (41, 1, .aload_n 0, [0], [], []), (42, 2, .bipush 9, [], [9], []), (44, 2, .iload 4, [4], [], []), (46, 3, .invokevirtual 89, [2, 11, 7031, 7033, 49, 1013], [], [sgX11_see]), (49, 1, .aload_n 0, [0], [], []), (50, 1, .iload_n 1, [1], [], []), (51, 3, .invokevirtual 124, [1, 11, 7051, 7053, 54, 1013], [], [sgX11_part])]
def bkX11_touchOuter_54 : List gw_E := [(54, 1, .aload_n 0, [0], [], []), (55, 1, .iconst 2, [], [2], []), (56, 1, .iload_n 1, [1], [], []), (57, 1, .iload_n 2, [2], [], []), (58, 3, .invokevirtual 112, [3, 11, 7055, 7057, 55, 1013], [], [sgX11_gives]), (61, 3, .ifCond .ne 13, [74], [], []), (64, 1, .aload_n 0, [0], [], []), (65, 1, .iconst 3, [], [3], []), (66, 2, .iload 4, [4], [], []), (68, 3, .invokevirtual 89, [2, 11, 7031, 7033, 49, 1013], [], [sgX11_see]), (71, 2, .bipush (-4), [], [-4], []), (73, 1, .ireturn, [0], [], [])]
def bkX11_touchOuter_74 : List gw_E := [(74, 1, .aload_n 0, [0], [], []), (75, 1, .aload_n 0, [0], [], []), (76, 1, .iconst 2, [], [2], []), (77, 1, .iload_n 1, [1], [], []), (78, 3, .invokevirtual 52, [2, 11, 6149, 6151, 29, 1013], [], [sgX11_toOf]), (81, 1, .iload_n 2, [2], [], []), (82, 1, .iload_n 3, [3], [], []), (83, 3, .invokevirtual 105, [3, 11, 7059, 7061, 56, 1013], [], [sgX11_doAt]), (86, 1, .ireturn, [0], [], [])]
def bsX11_touchOuter : List (Nat × List gw_E) := [(0, bkX11_touchOuter_0), (32, bkX11_touchOuter_32), (54, bkX11_touchOuter_54), (74, bkX11_touchOuter_74)]
theorem fdX11_touchOuter_0 : gw_find bsX11_touchOuter 0 = bkX11_touchOuter_0 := rfl
theorem fdX11_touchOuter_32 : gw_find bsX11_touchOuter 32 = bkX11_touchOuter_32 := rfl
theorem fdX11_touchOuter_54 : gw_find bsX11_touchOuter 54 = bkX11_touchOuter_54 := rfl
theorem fdX11_touchOuter_74 : gw_find bsX11_touchOuter 74 = bkX11_touchOuter_74 := rfl
set_option maxRecDepth 40000 in
theorem stX11_touchOuter : gw_sta sgX11_touchOuter bsX11_touchOuter := ⟨by decide +kernel, gw_mem2 (i := 7030) rfl rfl, gw_all (by decide +kernel)⟩
def bkX11_touchNow_0 : List gw_E := [(0, 1, .aload_n 0, [0], [], []), (1, 3, .getfield 7, [11, 0, 1, 6073], [], []), (4, 1, .iconst 2, [], [2], []), (5, 1, .iaload, [], [], []), (6, 1, .iconst 1, [], [1], []), (7, 3, .if_icmp .ne 13, [20], [], []), (10, 1, .aload_n 0, [0], [], []), (11, 1, .iload_n 1, [1], [], []), (12, 1, .iload_n 2, [2], [], []), (13, 1, .iload_n 3, [3], [], []), (14, 3, .invokevirtual 130, [3, 11, 7027, 7029, 48, 1013], [], [sgX11_touchOuter]), (17, 3, .goto 10, [27], [], [])]
def bkX11_touchNow_20 : List gw_E := [(20, 1, .aload_n 0, [0], [], []), (21, 1, .iload_n 1, [1], [], []), (22, 1, .iload_n 2, [2], [], []), (23, 1, .iload_n 3, [3], [], []), (24, 3, .invokevirtual 133, [3, 11, 7063, 7065, 57, 1013], [], [sgX11_touchInner])]
def bkX11_touchNow_27 : List gw_E := [(27, 1, .ireturn, [0], [], [])]
def bsX11_touchNow : List (Nat × List gw_E) := [(0, bkX11_touchNow_0), (20, bkX11_touchNow_20), (27, bkX11_touchNow_27)]
theorem fdX11_touchNow_0 : gw_find bsX11_touchNow 0 = bkX11_touchNow_0 := rfl
theorem fdX11_touchNow_20 : gw_find bsX11_touchNow 20 = bkX11_touchNow_20 := rfl
theorem fdX11_touchNow_27 : gw_find bsX11_touchNow 27 = bkX11_touchNow_27 := rfl
set_option maxRecDepth 40000 in
theorem stX11_touchNow : gw_sta sgX11_touchNow bsX11_touchNow := ⟨by decide +kernel, gw_mem2 (i := 7026) rfl rfl, gw_all (by decide +kernel)⟩
def bkX11_nextOf_0 : List gw_E := [(0, 1, .aload_n 0, [0], [], []), (1, 1, .iload_n 1, [1], [], []), (2, 3, .invokevirtual 37, [1, 11, 6141, 6143, 27, 1013], [], [sgX11_guestAt]), (5, 1, .istore_n 2, [2], [], []), (6, 1, .aload_n 0, [0], [], []), (7, 3, .getfield 7, [11, 0, 1, 6073], [], []), (10, 1, .iload_n 2, [2], [], []), (11, 1, .iconst 0, [], [0], []), (12, 1, .iadd, [], [], []), (13, 1, .iaload, [], [], []), (14, 3, .invokestatic 136, [1, 0, 6173, 6174, 1013, 0], [], [sgX11_greatest]), (17, 1, .istore_n 3, [3], [], []), (18, 1, .aload_n 0, [0], [], []), (19, 3, .getfield 7, [11, 0, 1, 6073], [], []), (22, 1, .iload_n 2, [2], [], []), (23, 1, .iconst 2, [], [2], []), (24, 1, .iadd, [], [], []), (25, 1, .iaload, [], [], []), (26, 1, .iconst 1, [], [1], []), (27, 3, .if_icmp .ne 22, [49], [], []), (30, 1, .iload_n 3, [3], [], []), (31, 1, .aload_n 0, [0], [], []), (32, 3, .getfield 7, [11, 0, 1, 6073], [], []), (35, 1, .iload_n 2, [2], [], []), (36, 1, .iconst 1, [], [1], []), (37, 1, .iadd, [], [], []), (38, 1, .iaload, [], [], []), (39, 3, .invokestatic 136, [1, 0, 6173, 6174, 1013, 0], [], [sgX11_greatest]), (42, 3, .if_icmp .le 7, [49], [], []), (45, 1, .iload_n 3, [3], [], []), (46, 3, .goto 4, [50], [], [])]
def bkX11_nextOf_49 : List gw_E := [(49, 1, .iconst (-1), [], [-1], [])]
def bkX11_nextOf_50 : List gw_E := [(50, 1, .ireturn, [0], [], [])]
def bsX11_nextOf : List (Nat × List gw_E) := [(0, bkX11_nextOf_0), (49, bkX11_nextOf_49), (50, bkX11_nextOf_50)]
theorem fdX11_nextOf_0 : gw_find bsX11_nextOf 0 = bkX11_nextOf_0 := rfl
theorem fdX11_nextOf_49 : gw_find bsX11_nextOf 49 = bkX11_nextOf_49 := rfl
theorem fdX11_nextOf_50 : gw_find bsX11_nextOf 50 = bkX11_nextOf_50 := rfl
set_option maxRecDepth 40000 in
theorem stX11_nextOf : gw_sta sgX11_nextOf bsX11_nextOf := ⟨by decide +kernel, gw_mem2 (i := 6172) rfl rfl, gw_all (by decide +kernel)⟩
def bkX11_pend_0 : List gw_E := [(0, 1, .aload_n 0, [0], [], []), (1, 1, .iload_n 1, [1], [], []), (2, 3, .invokevirtual 37, [1, 11, 6141, 6143, 27, 1013], [], [sgX11_guestAt]), (5, 1, .istore_n 3, [3], [], []), (6, 1, .aload_n 0, [0], [], []), (7, 3, .getfield 7, [11, 0, 1, 6073], [], []), (10, 1, .iload_n 3, [3], [], []), (11, 1, .iconst 0, [], [0], []), (12, 1, .iadd, [], [], []), (13, 1, .iaload, [], [], []), (14, 1, .iload_n 2, [2], [], []), (15, 3, .invokestatic 29, [2, 0, 6176, 6177, 1013, 0], [], [sgX11_has]), (18, 3, .ifCond .eq 4, [22], [], []), (21, 1, .return_, [], [], [])]
def bkX11_pend_22 : List gw_E := [(22, 1, .aload_n 0, [0], [], []), (23, 3, .getfield 7, [11, 0, 1, 6073], [], []), (26, 1, .iload_n 3, [3], [], []), (27, 1, .iconst 0, [], [0], []), (28, 1, .iadd, [], [], []), (29, 1, .dup2, [], [], []), (30, 1, .iaload, [], [], []), (31, 1, .iconst 1, [], [1], []), (32, 1, .iload_n 2, [2], [], []), (33, 1, .ishl, [], [], []), (34, 1, .ior, [], [], []), (35, 1, .iastore, [], [], []), (36, 1, .aload_n 0, [0], [], []), (37, 3, .getfield 7, [11, 0, 1, 6073], [], []), (40, 1, .iload_n 3, [3], [], []), (41, 3, .sipush 146, [], [146], []), (44, 1, .iadd, [], [], []), (45, 1, .iload_n 2, [2], [], []), (46, 1, .iadd, [], [], []), (47, 1, .aload_n 0, [0], [], []), (48, 3, .getfield 7, [11, 0, 1, 6073], [], []), (51, 1, .iconst 3, [], [3], []), (52, 1, .iaload, [], [], []), (53, 1, .iastore, [], [], []), (54, 1, .return_, [], [], [])]
def bsX11_pend : List (Nat × List gw_E) := [(0, bkX11_pend_0), (22, bkX11_pend_22)]
theorem fdX11_pend_0 : gw_find bsX11_pend 0 = bkX11_pend_0 := rfl
theorem fdX11_pend_22 : gw_find bsX11_pend 22 = bkX11_pend_22 := rfl
set_option maxRecDepth 40000 in
theorem stX11_pend : gw_sta sgX11_pend bsX11_pend := ⟨by decide +kernel, gw_mem2 (i := 7113) rfl rfl, gw_all (by decide +kernel)⟩
def bkX11_sinceOf_0 : List gw_E := [(0, 1, .aload_n 0, [0], [], []), (1, 3, .getfield 7, [11, 0, 1, 6073], [], []), (4, 1, .iconst 3, [], [3], []), (5, 1, .iaload, [], [], []), (6, 1, .aload_n 0, [0], [], []), (7, 3, .getfield 7, [11, 0, 1, 6073], [], []), (10, 1, .aload_n 0, [0], [], []), (11, 1, .iload_n 1, [1], [], []), (12, 3, .invokevirtual 37, [1, 11, 6141, 6143, 27, 1013], [], [sgX11_guestAt]), (15, 3, .sipush 146, [], [146], []), (18, 1, .iadd, [], [], []), (19, 1, .iload_n 2, [2], [], []), (20, 1, .iadd, [], [], []), (21, 1, .iaload, [], [], []), (22, 1, .isub, [], [], []), (23, 1, .ireturn, [0], [], [])]
def bsX11_sinceOf : List (Nat × List gw_E) := [(0, bkX11_sinceOf_0)]
theorem fdX11_sinceOf_0 : gw_find bsX11_sinceOf 0 = bkX11_sinceOf_0 := rfl
set_option maxRecDepth 40000 in
theorem stX11_sinceOf : gw_sta sgX11_sinceOf bsX11_sinceOf := ⟨by decide +kernel, gw_mem2 (i := 6194) rfl rfl, gw_all (by decide +kernel)⟩
def bkX11_take_0 : List gw_E := [(0, 1, .aload_n 0, [0], [], []), (1, 1, .iload_n 1, [1], [], []), (2, 3, .invokevirtual 37, [1, 11, 6141, 6143, 27, 1013], [], [sgX11_guestAt]), (5, 1, .istore_n 3, [3], [], []), (6, 1, .aload_n 0, [0], [], []), (7, 1, .iload_n 1, [1], [], []), (8, 1, .iload_n 2, [2], [], []), (9, 3, .invokevirtual 139, [2, 11, 6191, 6193, 38, 1013], [], [sgX11_sinceOf]), (12, 1, .aload_n 0, [0], [], []), (13, 3, .getfield 7, [11, 0, 1, 6073], [], []), (16, 2, .bipush 56, [], [56], []), (18, 1, .iload_n 1, [1], [], []), (19, 1, .iadd, [], [], []), (20, 1, .iconst 1, [], [1], []), (21, 1, .isub, [], [], []), (22, 1, .iaload, [], [], []), (23, 3, .if_icmp .le 20, [43], [], []), (26, 1, .aload_n 0, [0], [], []), (27, 3, .getfield 7, [11, 0, 1, 6073], [], []), (30, 2, .bipush 56, [], [56], []), (32, 1, .iload_n 1, [1], [], []), (33, 1, .iadd, [], [], []), (34, 1, .iconst 1, [], [1], []), (35, 1, .isub, [], [], []), (36, 1, .aload_n 0, [0], [], []), (37, 1, .iload_n 1, [1], [], []), (38, 1, .iload_n 2, [2], [], []), (39, 3, .invokevirtual 139, [2, 11, 6191, 6193, 38, 1013], [], [sgX11_sinceOf]), (42, 1, .iastore, [], [], [])]
def bkX11_take_43 : List gw_E := [(43, 1, .aload_n 0, [0], [], []), (44, 3, .getfield 7, [11, 0, 1, 6073], [], []), (47, 1, .iload_n 3, [3], [], []), (48, 3, .sipush 146, [], [146], []), (51, 1, .iadd, [], [], []), (52, 1, .iload_n 2, [2], [], []), (53, 1, .iadd, [], [], []), (54, 1, .iconst 0, [], [0], []), (55, 1, .iastore, [], [], []), (56, 1, .aload_n 0, [0], [], []), (57, 3, .getfield 7, [11, 0, 1, 6073], [], []), (60, 1, .iload_n 3, [3], [], []), (61, 1, .iconst 0, [], [0], []), (62, 1, .iadd, [], [], []), (63, 1, .dup2, [], [], []), (64, 1, .iaload, [], [], []), (65, 1, .iconst 1, [], [1], []), (66, 1, .iload_n 2, [2], [], []), (67, 1, .ishl, [], [], []), (68, 1, .iconst (-1), [], [-1], []), (69, 1, .ixor, [], [], []), (70, 1, .iand, [], [], []), (71, 1, .iastore, [], [], []), (72, 1, .aload_n 0, [0], [], []), (73, 3, .getfield 7, [11, 0, 1, 6073], [], []), (76, 1, .iload_n 3, [3], [], []), (77, 1, .iconst 1, [], [1], []), (78, 1, .iadd, [], [], []), (79, 1, .dup2, [], [], []), (80, 1, .iaload, [], [], []), (81, 1, .iconst 1, [], [1], []), (82, 1, .iload_n 2, [2], [], []), (83, 1, .ishl, [], [], []), (84, 1, .ior, [], [], []), (85, 1, .iastore, [], [], []), (86, 1, .aload_n 0, [0], [], []), (87, 3, .getfield 7, [11, 0, 1, 6073], [], []), (90, 2, .bipush 9, [], [9], []), (92, 1, .iload_n 1, [1], [], []), (93, 1, .iadd, [], [], []), (94, 1, .iconst 1, [], [1], []), (95, 1, .isub, [], [], []), (96, 1, .dup2, [], [], []), (97, 1, .iaload, [], [], []), (98, 1, .iconst 1, [], [1], []), (99, 1, .iadd, [], [], []), (100, 1, .iastore, [], [], []), (101, 1, .aload_n 0, [0], [], []), (102, 3, .getfield 7, [11, 0, 1, 6073], [], []), (105, 2, .bipush 19, [], [19], []), (107, 1, .iload_n 1, [1], [], []), (108, 1, .iadd, [], [], []), (109, 1, .iconst 1, [], [1], []), (110, 1, .isub, [], [], []), (111, 1, .iload_n 2, [2], [], []), (112, 1, .iastore, [], [], []), (113, 1, .return_, [], [], [])]
def bsX11_take : List (Nat × List gw_E) := [(0, bkX11_take_0), (43, bkX11_take_43)]
theorem fdX11_take_0 : gw_find bsX11_take 0 = bkX11_take_0 := rfl
theorem fdX11_take_43 : gw_find bsX11_take 43 = bkX11_take_43 := rfl
set_option maxRecDepth 40000 in
theorem stX11_take : gw_sta sgX11_take bsX11_take := ⟨by decide +kernel, gw_mem2 (i := 6190) rfl rfl, gw_all (by decide +kernel)⟩
def bkX11_dealOut_0 : List gw_E := [(0, 1, .aload_n 0, [0], [], []), (1, 1, .iconst 1, [], [1], []), (2, 3, .invokevirtual 142, [1, 11, 6169, 6171, 34, 1013], [], [sgX11_nextOf]), (5, 1, .istore_n 1, [1], [], []), (6, 1, .iload_n 1, [1], [], []), (7, 1, .iconst (-1), [], [-1], []), (8, 3, .if_icmp .eq 26, [34], [], []), (11, 1, .aload_n 0, [0], [], []), (12, 3, .getfield 7, [11, 0, 1, 6073], [], []), (15, 1, .iconst 2, [], [2], []), (16, 1, .iaload, [], [], []), (17, 1, .iconst 2, [], [2], []), (18, 3, .if_icmp .ne 10, [28], [], []), (21, 1, .aload_n 0, [0], [], []), (22, 2, .bipush 6, [], [6], []), (24, 1, .iload_n 1, [1], [], []), (25, 3, .invokevirtual 96, [2, 11, 6179, 6181, 35, 1013], [], [sgX11_deal])]
def bkX11_dealOut_28 : List gw_E := [(28, 1, .aload_n 0, [0], [], []), (29, 1, .iconst 1, [], [1], []), (30, 1, .iload_n 1, [1], [], []), (31, 3, .invokevirtual 145, [2, 11, 6187, 6189, 37, 1013], [], [sgX11_take])]
def bkX11_dealOut_34 : List gw_E := [(34, 1, .aload_n 0, [0], [], []), (35, 3, .getfield 7, [11, 0, 1, 6073], [], []), (38, 1, .iconst 2, [], [2], []), (39, 1, .iaload, [], [], []), (40, 1, .iconst 2, [], [2], []), (41, 3, .if_icmp .ne 22, [63], [], []), (44, 1, .aload_n 0, [0], [], []), (45, 1, .iconst 2, [], [2], []), (46, 3, .invokevirtual 142, [1, 11, 6169, 6171, 34, 1013], [], [sgX11_nextOf]), (49, 1, .iconst (-1), [], [-1], []), (50, 3, .if_icmp .eq 13, [63], [], []), (53, 1, .aload_n 0, [0], [], []), (54, 1, .iconst 2, [], [2], []), (55, 1, .aload_n 0, [0], [], []), (56, 1, .iconst 2, [], [2], []), (57, 3, .invokevirtual 142, [1, 11, 6169, 6171, 34, 1013], [], [sgX11_nextOf]), (60, 3, .invokevirtual 145, [2, 11, 6187, 6189, 37, 1013], [], [sgX11_take])]
def bkX11_dealOut_63 : List gw_E := [(63, 1, .return_, [], [], [])]
def bsX11_dealOut : List (Nat × List gw_E) := [(0, bkX11_dealOut_0), (28, bkX11_dealOut_28), (34, bkX11_dealOut_34), (63, bkX11_dealOut_63)]
theorem fdX11_dealOut_0 : gw_find bsX11_dealOut 0 = bkX11_dealOut_0 := rfl
theorem fdX11_dealOut_28 : gw_find bsX11_dealOut 28 = bkX11_dealOut_28 := rfl
theorem fdX11_dealOut_34 : gw_find bsX11_dealOut 34 = bkX11_dealOut_34 := rfl
theorem fdX11_dealOut_63 : gw_find bsX11_dealOut 63 = bkX11_dealOut_63 := rfl
set_option maxRecDepth 40000 in
theorem stX11_dealOut : gw_sta sgX11_dealOut bsX11_dealOut := ⟨by decide +kernel, gw_mem2 (i := 6168) rfl rfl, gw_all (by decide +kernel)⟩
def bkX11_endNow_0 : List gw_E := [(0, 1, .aload_n 0, [0], [], []), (1, 3, .getfield 7, [11, 0, 1, 6073], [], []), (4, 1, .aload_n 0, [0], [], []), (5, 1, .iload_n 1, [1], [], []), (6, 3, .invokevirtual 37, [1, 11, 6141, 6143, 27, 1013], [], [sgX11_guestAt]), (9, 1, .iconst 1, [], [1], []), (10, 1, .iadd, [], [], []), (11, 1, .iaload, [], [], []), (12, 3, .invokestatic 136, [1, 0, 6173, 6174, 1013, 0], [], [sgX11_greatest]), (15, 1, .istore_n 2, [2], [], []), (16, 1, .iload_n 2, [2], [], []), (17, 1, .iconst (-1), [], [-1], []), (18, 3, .if_icmp .eq 23, [41], [], []), (21, 1, .aload_n 0, [0], [], []), (22, 3, .getfield 7, [11, 0, 1, 6073], [], []), (25, 1, .aload_n 0, [0], [], []), (26, 1, .iload_n 1, [1], [], []), (27, 3, .invokevirtual 37, [1, 11, 6141, 6143, 27, 1013], [], [sgX11_guestAt]), (30, 1, .iconst 1, [], [1], []), (31, 1, .iadd, [], [], []), (32, 1, .dup2, [], [], []), (33, 1, .iaload, [], [], []), (34, 1, .iconst 1, [], [1], []), (35, 1, .iload_n 2, [2], [], []), (36, 1, .ishl, [], [], []), (37, 1, .iconst (-1), [], [-1], []), (38, 1, .ixor, [], [], []), (39, 1, .iand, [], [], []), (40, 1, .iastore, [], [], [])]
def bkX11_endNow_41 : List gw_E := [(41, 1, .iload_n 2, [2], [], []), (42, 1, .ireturn, [0], [], [])]
def bsX11_endNow : List (Nat × List gw_E) := [(0, bkX11_endNow_0), (41, bkX11_endNow_41)]
theorem fdX11_endNow_0 : gw_find bsX11_endNow 0 = bkX11_endNow_0 := rfl
theorem fdX11_endNow_41 : gw_find bsX11_endNow 41 = bkX11_endNow_41 := rfl
set_option maxRecDepth 40000 in
theorem stX11_endNow : gw_sta sgX11_endNow bsX11_endNow := ⟨by decide +kernel, gw_mem2 (i := 7125) rfl rfl, gw_all (by decide +kernel)⟩
def bkX11_enterNow_0 : List gw_E := [(0, 1, .aload_n 0, [0], [], []), (1, 3, .getfield 7, [11, 0, 1, 6073], [], []), (4, 1, .iconst 2, [], [2], []), (5, 1, .iconst 2, [], [2], []), (6, 1, .iastore, [], [], []), (7, 1, .aload_n 0, [0], [], []), (8, 3, .getfield 7, [11, 0, 1, 6073], [], []), (11, 2, .bipush 12, [], [12], []), (13, 1, .aload_n 0, [0], [], []), (14, 3, .getfield 7, [11, 0, 1, 6073], [], []), (17, 2, .bipush 11, [], [11], []), (19, 1, .iaload, [], [], []), (20, 1, .iastore, [], [], []), (21, 1, .return_, [], [], [])]
def bsX11_enterNow : List (Nat × List gw_E) := [(0, bkX11_enterNow_0)]
theorem fdX11_enterNow_0 : gw_find bsX11_enterNow 0 = bkX11_enterNow_0 := rfl
set_option maxRecDepth 40000 in
theorem stX11_enterNow : gw_sta sgX11_enterNow bsX11_enterNow := ⟨by decide +kernel, gw_mem2 (i := 7102) rfl rfl, gw_all (by decide +kernel)⟩
def bkX11_handNow_0 : List gw_E := [(0, 1, .aload_n 0, [0], [], []), (1, 3, .invokevirtual 148, [0, 11, 7134, 7136, 68, 1013], [], [sgX11_unfoldAll]), (4, 1, .aload_n 0, [0], [], []), (5, 3, .getfield 7, [11, 0, 1, 6073], [], []), (8, 2, .bipush 15, [], [15], []), (10, 1, .iload_n 1, [1], [], []), (11, 1, .iastore, [], [], []), (12, 1, .aload_n 0, [0], [], []), (13, 3, .getfield 7, [11, 0, 1, 6073], [], []), (16, 2, .bipush 16, [], [16], []), (18, 1, .iconst (-1), [], [-1], []), (19, 1, .iastore, [], [], []), (20, 1, .return_, [], [], [])]
def bsX11_handNow : List (Nat × List gw_E) := [(0, bkX11_handNow_0)]
theorem fdX11_handNow_0 : gw_find bsX11_handNow 0 = bkX11_handNow_0 := rfl
set_option maxRecDepth 40000 in
theorem stX11_handNow : gw_sta sgX11_handNow bsX11_handNow := ⟨by decide +kernel, gw_mem2 (i := 7133) rfl rfl, gw_all (by decide +kernel)⟩
def bkX11_clockAt_0 : List gw_E := [(0, 1, .iload_n 2, [2], [], []), (1, 1, .istore_n 3, [3], [], []), (2, 1, .iconst 1, [], [1], []), (3, 2, .istore 4, [4], [], [])]
def bkX11_clockAt_5 : List gw_E := [(5, 2, .iload 4, [4], [], []), (7, 1, .iload_n 1, [1], [], []), (8, 3, .if_icmp .gt 41, [49], [], []), (11, 1, .iload_n 3, [3], [], []), (12, 1, .aload_n 0, [0], [], []), (13, 3, .getfield 7, [11, 0, 1, 6073], [], []), (16, 1, .aload_n 0, [0], [], []), (17, 2, .iload 4, [4], [], []), (19, 3, .invokevirtual 37, [1, 11, 6141, 6143, 27, 1013], [], [sgX11_guestAt]), (22, 1, .iconst 3, [], [3], []), (23, 1, .iadd, [], [], []), (24, 1, .iaload, [], [], []), (25, 1, .imul, [], [], []), (26, 1, .iconst 4, [], [4], []), (27, 1, .ishr, [], [], []), (28, 1, .aload_n 0, [0], [], []), (29, 3, .getfield 7, [11, 0, 1, 6073], [], []), (32, 1, .aload_n 0, [0], [], []), (33, 2, .iload 4, [4], [], []), (35, 3, .invokevirtual 37, [1, 11, 6141, 6143, 27, 1013], [], [sgX11_guestAt]), (38, 1, .iconst 4, [], [4], []), (39, 1, .iadd, [], [], []), (40, 1, .iaload, [], [], []), (41, 1, .iadd, [], [], []), (42, 1, .istore_n 3, [3], [], []), (43, 3, .iinc 4 1, [4], [1], []), (46, 3, .goto (-41), [5], [], [])]
def bkX11_clockAt_49 : List gw_E := [(49, 1, .iload_n 3, [3], [], []), (50, 1, .ireturn, [0], [], [])]
def bsX11_clockAt : List (Nat × List gw_E) := [(0, bkX11_clockAt_0), (5, bkX11_clockAt_5), (49, bkX11_clockAt_49)]
theorem fdX11_clockAt_0 : gw_find bsX11_clockAt 0 = bkX11_clockAt_0 := rfl
theorem fdX11_clockAt_5 : gw_find bsX11_clockAt 5 = bkX11_clockAt_5 := rfl
theorem fdX11_clockAt_49 : gw_find bsX11_clockAt 49 = bkX11_clockAt_49 := rfl
set_option maxRecDepth 40000 in
theorem stX11_clockAt : gw_sta sgX11_clockAt bsX11_clockAt := ⟨by decide +kernel, gw_mem2 (i := 7198) rfl rfl, gw_all (by decide +kernel)⟩
def bkX11_ofTimer_0 : List gw_E := [(0, 1, .aload_n 0, [0], [], []), (1, 3, .getfield 7, [11, 0, 1, 6073], [], []), (4, 3, .sipush 957, [], [957], []), (7, 1, .iconst 3, [], [3], []), (8, 1, .iload_n 1, [1], [], []), (9, 1, .imul, [], [], []), (10, 1, .iadd, [], [], []), (11, 1, .iload_n 2, [2], [], []), (12, 1, .iadd, [], [], []), (13, 1, .iaload, [], [], []), (14, 1, .ireturn, [0], [], [])]
def bsX11_ofTimer : List (Nat × List gw_E) := [(0, bkX11_ofTimer_0)]
theorem fdX11_ofTimer_0 : gw_find bsX11_ofTimer 0 = bkX11_ofTimer_0 := rfl
set_option maxRecDepth 40000 in
theorem stX11_ofTimer : gw_sta sgX11_ofTimer bsX11_ofTimer := ⟨by decide +kernel, gw_mem2 (i := 7194) rfl rfl, gw_all (by decide +kernel)⟩
def bkX11_isDue_0 : List gw_E := [(0, 1, .aload_n 0, [0], [], []), (1, 1, .aload_n 0, [0], [], []), (2, 1, .iload_n 1, [1], [], []), (3, 1, .iconst 0, [], [0], []), (4, 3, .invokevirtual 151, [2, 11, 7191, 7193, 73, 1013], [], [sgX11_ofTimer]), (7, 1, .iload_n 2, [2], [], []), (8, 3, .invokevirtual 154, [2, 11, 7195, 7197, 74, 1013], [], [sgX11_clockAt]), (11, 1, .aload_n 0, [0], [], []), (12, 1, .iload_n 1, [1], [], []), (13, 1, .iconst 1, [], [1], []), (14, 3, .invokevirtual 151, [2, 11, 7191, 7193, 73, 1013], [], [sgX11_ofTimer]), (17, 3, .if_icmp .lt 7, [24], [], []), (20, 1, .iconst 1, [], [1], []), (21, 3, .goto 4, [25], [], [])]
def bkX11_isDue_24 : List gw_E := [(24, 1, .iconst 0, [], [0], [])]
def bkX11_isDue_25 : List gw_E := [(25, 1, .ireturn, [1], [], [])]
def bsX11_isDue : List (Nat × List gw_E) := [(0, bkX11_isDue_0), (24, bkX11_isDue_24), (25, bkX11_isDue_25)]
theorem fdX11_isDue_0 : gw_find bsX11_isDue 0 = bkX11_isDue_0 := rfl
theorem fdX11_isDue_24 : gw_find bsX11_isDue 24 = bkX11_isDue_24 := rfl
theorem fdX11_isDue_25 : gw_find bsX11_isDue 25 = bkX11_isDue_25 := rfl
set_option maxRecDepth 40000 in
theorem stX11_isDue : gw_sta sgX11_isDue bsX11_isDue := ⟨by decide +kernel, gw_mem2 (i := 7190) rfl rfl, gw_all (by decide +kernel)⟩
def bkX11_isAhead_0 : List gw_E := [(0, 1, .aload_n 0, [0], [], []), (1, 1, .iload_n 1, [1], [], []), (2, 1, .iconst 0, [], [0], []), (3, 3, .invokevirtual 151, [2, 11, 7191, 7193, 73, 1013], [], [sgX11_ofTimer]), (6, 1, .aload_n 0, [0], [], []), (7, 1, .iload_n 2, [2], [], []), (8, 1, .iconst 0, [], [0], []), (9, 3, .invokevirtual 151, [2, 11, 7191, 7193, 73, 1013], [], [sgX11_ofTimer]), (12, 3, .if_icmp .eq 7, [19], [], []), (15, 1, .iconst 0, [], [0], []), (16, 3, .goto 4, [20], [], [])]
def bkX11_isAhead_19 : List gw_E := [(19, 1, .iconst 1, [], [1], [])]
def bkX11_isAhead_20 : List gw_E := [(20, 1, .istore_n 3, [3], [], []), (21, 1, .aload_n 0, [0], [], []), (22, 1, .iload_n 1, [1], [], []), (23, 1, .iload_n 3, [3], [], []), (24, 3, .invokevirtual 151, [2, 11, 7191, 7193, 73, 1013], [], [sgX11_ofTimer]), (27, 1, .aload_n 0, [0], [], []), (28, 1, .iload_n 2, [2], [], []), (29, 1, .iload_n 3, [3], [], []), (30, 3, .invokevirtual 151, [2, 11, 7191, 7193, 73, 1013], [], [sgX11_ofTimer]), (33, 3, .if_icmp .ge 7, [40], [], []), (36, 1, .iconst 1, [], [1], []), (37, 3, .goto 4, [41], [], [])]
def bkX11_isAhead_40 : List gw_E := [(40, 1, .iconst 0, [], [0], [])]
def bkX11_isAhead_41 : List gw_E := [(41, 1, .ireturn, [1], [], [])]
def bsX11_isAhead : List (Nat × List gw_E) := [(0, bkX11_isAhead_0), (19, bkX11_isAhead_19), (20, bkX11_isAhead_20), (40, bkX11_isAhead_40), (41, bkX11_isAhead_41)]
theorem fdX11_isAhead_0 : gw_find bsX11_isAhead 0 = bkX11_isAhead_0 := rfl
theorem fdX11_isAhead_19 : gw_find bsX11_isAhead 19 = bkX11_isAhead_19 := rfl
theorem fdX11_isAhead_20 : gw_find bsX11_isAhead 20 = bkX11_isAhead_20 := rfl
theorem fdX11_isAhead_40 : gw_find bsX11_isAhead 40 = bkX11_isAhead_40 := rfl
theorem fdX11_isAhead_41 : gw_find bsX11_isAhead 41 = bkX11_isAhead_41 := rfl
set_option maxRecDepth 40000 in
theorem stX11_isAhead : gw_sta sgX11_isAhead bsX11_isAhead := ⟨by decide +kernel, gw_mem2 (i := 7202) rfl rfl, gw_all (by decide +kernel)⟩
def bkX11_firstDue_0 : List gw_E := [(0, 1, .iconst (-1), [], [-1], []), (1, 1, .istore_n 1, [1], [], []), (2, 1, .iconst 0, [], [0], []), (3, 1, .istore_n 2, [2], [], [])]
def bkX11_firstDue_4 : List gw_E := [(4, 1, .iload_n 2, [2], [], []), (5, 1, .aload_n 0, [0], [], []), (6, 3, .getfield 7, [11, 0, 1, 6073], [], []), (9, 2, .bipush 26, [], [26], []), (11, 1, .iaload, [], [], []), (12, 3, .if_icmp .ge 39, [51], [], []), (15, 1, .aload_n 0, [0], [], []), (16, 1, .iload_n 2, [2], [], []), (17, 1, .aload_n 0, [0], [], []), (18, 3, .getfield 7, [11, 0, 1, 6073], [], []), (21, 1, .iconst 3, [], [3], []), (22, 1, .iaload, [], [], []), (23, 3, .invokevirtual 157, [2, 11, 7187, 7189, 72, 1013], [], [sgX11_isDue]), (26, 3, .ifCond .eq 19, [45], [], []), (29, 1, .iload_n 1, [1], [], []), (30, 1, .iconst (-1), [], [-1], []), (31, 3, .if_icmp .eq 12, [43], [], []), (34, 1, .aload_n 0, [0], [], []), (35, 1, .iload_n 2, [2], [], []), (36, 1, .iload_n 1, [1], [], []), (37, 3, .invokevirtual 160, [2, 11, 7199, 7201, 75, 1013], [], [sgX11_isAhead]), (40, 3, .ifCond .eq 5, [45], [], [])]
def bkX11_firstDue_43 : List gw_E := [(43, 1, .iload_n 2, [2], [], []), (44, 1, .istore_n 1, [1], [], [])]
def bkX11_firstDue_45 : List gw_E := [(45, 3, .iinc 2 1, [2], [1], []), (48, 3, .goto (-44), [4], [], [])]
def bkX11_firstDue_51 : List gw_E := [(51, 1, .iload_n 1, [1], [], []), (52, 1, .ireturn, [0], [], [])]
def bsX11_firstDue : List (Nat × List gw_E) := [(0, bkX11_firstDue_0), (4, bkX11_firstDue_4), (43, bkX11_firstDue_43), (45, bkX11_firstDue_45), (51, bkX11_firstDue_51)]
theorem fdX11_firstDue_0 : gw_find bsX11_firstDue 0 = bkX11_firstDue_0 := rfl
theorem fdX11_firstDue_4 : gw_find bsX11_firstDue 4 = bkX11_firstDue_4 := rfl
theorem fdX11_firstDue_43 : gw_find bsX11_firstDue 43 = bkX11_firstDue_43 := rfl
theorem fdX11_firstDue_45 : gw_find bsX11_firstDue 45 = bkX11_firstDue_45 := rfl
theorem fdX11_firstDue_51 : gw_find bsX11_firstDue 51 = bkX11_firstDue_51 := rfl
set_option maxRecDepth 40000 in
theorem stX11_firstDue : gw_sta sgX11_firstDue bsX11_firstDue := ⟨by decide +kernel, gw_mem2 (i := 7186) rfl rfl, gw_all (by decide +kernel)⟩
def bkX11_dropTimer_0 : List gw_E := [(0, 3, .sipush 957, [], [957], []), (3, 1, .iconst 3, [], [3], []), (4, 1, .iload_n 1, [1], [], []), (5, 1, .imul, [], [], []), (6, 1, .iadd, [], [], []), (7, 1, .istore_n 2, [2], [], [])]
def bkX11_dropTimer_8 : List gw_E := [(8, 1, .iload_n 2, [2], [], []), (9, 3, .sipush 957, [], [957], []), (12, 1, .iconst 3, [], [3], []), (13, 1, .aload_n 0, [0], [], []), (14, 3, .getfield 7, [11, 0, 1, 6073], [], []), (17, 2, .bipush 26, [], [26], []), (19, 1, .iaload, [], [], []), (20, 1, .imul, [], [], []), (21, 1, .iadd, [], [], []), (22, 1, .iconst 3, [], [3], []), (23, 1, .isub, [], [], []), (24, 3, .if_icmp .ge 23, [47], [], []), (27, 1, .aload_n 0, [0], [], []), (28, 3, .getfield 7, [11, 0, 1, 6073], [], []), (31, 1, .iload_n 2, [2], [], []), (32, 1, .aload_n 0, [0], [], []), (33, 3, .getfield 7, [11, 0, 1, 6073], [], []), (36, 1, .iload_n 2, [2], [], []), (37, 1, .iconst 3, [], [3], []), (38, 1, .iadd, [], [], []), (39, 1, .iaload, [], [], []), (40, 1, .iastore, [], [], []), (41, 3, .iinc 2 1, [2], [1], []), (44, 3, .goto (-36), [8], [], [])]
def bkX11_dropTimer_47 : List gw_E := [(47, 1, .aload_n 0, [0], [], []), (48, 3, .getfield 7, [11, 0, 1, 6073], [], []), (51, 2, .bipush 26, [], [26], []), (53, 1, .dup2, [], [], []), (54, 1, .iaload, [], [], []), (55, 1, .iconst 1, [], [1], []), (56, 1, .isub, [], [], []), (57, 1, .iastore, [], [], []), (58, 1, .iconst 0, [], [0], []), (59, 1, .istore_n 2, [2], [], [])]
def bkX11_dropTimer_60 : List gw_E := [(60, 1, .iload_n 2, [2], [], []), (61, 1, .iconst 3, [], [3], []), (62, 3, .if_icmp .ge 30, [92], [], []), (65, 1, .aload_n 0, [0], [], []), (66, 3, .getfield 7, [11, 0, 1, 6073], [], []), (69, 3, .sipush 957, [], [957], []), (72, 1, .iconst 3, [], [3], []), (73, 1, .aload_n 0, [0], [], []), (74, 3, .getfield 7, [11, 0, 1, 6073], [], []), (77, 2, .bipush 26, [], [26], []), (79, 1, .iaload, [], [], []), (80, 1, .imul, [], [], []), (81, 1, .iadd, [], [], []), (82, 1, .iload_n 2, [2], [], []), (83, 1, .iadd, [], [], []), (84, 1, .iconst 0, [], [0], []), (85, 1, .iastore, [], [], []), (86, 3, .iinc 2 1, [2], [1], []), (89, 3, .goto (-29), [60], [], [])]
def bkX11_dropTimer_92 : List gw_E := [(92, 1, .return_, [], [], [])]
def bsX11_dropTimer : List (Nat × List gw_E) := [(0, bkX11_dropTimer_0), (8, bkX11_dropTimer_8), (47, bkX11_dropTimer_47), (60, bkX11_dropTimer_60), (92, bkX11_dropTimer_92)]
theorem fdX11_dropTimer_0 : gw_find bsX11_dropTimer 0 = bkX11_dropTimer_0 := rfl
theorem fdX11_dropTimer_8 : gw_find bsX11_dropTimer 8 = bkX11_dropTimer_8 := rfl
theorem fdX11_dropTimer_47 : gw_find bsX11_dropTimer 47 = bkX11_dropTimer_47 := rfl
theorem fdX11_dropTimer_60 : gw_find bsX11_dropTimer 60 = bkX11_dropTimer_60 := rfl
theorem fdX11_dropTimer_92 : gw_find bsX11_dropTimer 92 = bkX11_dropTimer_92 := rfl
set_option maxRecDepth 40000 in
theorem stX11_dropTimer : gw_sta sgX11_dropTimer bsX11_dropTimer := ⟨by decide +kernel, gw_mem2 (i := 7155) rfl rfl, gw_all (by decide +kernel)⟩
def bkX11_tick_0 : List gw_E := [(0, 1, .aload_n 0, [0], [], []), (1, 3, .getfield 7, [11, 0, 1, 6073], [], []), (4, 1, .iconst 3, [], [3], []), (5, 1, .dup2, [], [], []), (6, 1, .iaload, [], [], []), (7, 1, .iconst 1, [], [1], []), (8, 1, .iadd, [], [], []), (9, 1, .iastore, [], [], []), (10, 1, .aload_n 0, [0], [], []), (11, 3, .getfield 7, [11, 0, 1, 6073], [], []), (14, 2, .bipush 28, [], [28], []), (16, 1, .aload_n 0, [0], [], []), (17, 3, .getfield 7, [11, 0, 1, 6073], [], []), (20, 1, .iconst 2, [], [2], []), (21, 1, .iaload, [], [], []), (22, 1, .iconst 1, [], [1], []), (23, 3, .if_icmp .ne 7, [30], [], []), (26, 1, .iconst 0, [], [0], []), (27, 3, .goto 12, [39], [], [])]
def bkX11_tick_30 : List gw_E := [(30, 1, .iconst 1, [], [1], []), (31, 1, .aload_n 0, [0], [], []), (32, 3, .getfield 7, [11, 0, 1, 6073], [], []), (35, 2, .bipush 15, [], [15], []), (37, 1, .iaload, [], [], []), (38, 1, .iadd, [], [], [])]
def bkX11_tick_39 : List gw_E := [(39, 1, .iadd, [], [], []), (40, 1, .dup2, [], [], []), (41, 1, .iaload, [], [], []), (42, 1, .iconst 1, [], [1], []), (43, 1, .iadd, [], [], []), (44, 1, .iastore, [], [], []), (45, 1, .iconst 0, [], [0], []), (46, 1, .istore_n 1, [1], [], []), (47, 1, .aload_n 0, [0], [], []), (48, 3, .invokevirtual 163, [0, 11, 7183, 7185, 71, 1013], [], [sgX11_firstDue]), (51, 1, .istore_n 2, [2], [], [])]
def bkX11_tick_52 : List gw_E := [(52, 1, .iload_n 2, [2], [], []), (53, 1, .iconst (-1), [], [-1], []), (54, 3, .if_icmp .eq 56, [110], [], []), (57, 1, .aload_n 0, [0], [], []), (58, 1, .iload_n 2, [2], [], []), (59, 1, .iconst 0, [], [0], []), (60, 3, .invokevirtual 151, [2, 11, 7191, 7193, 73, 1013], [], [sgX11_ofTimer]), (63, 1, .istore_n 3, [3], [], []), (64, 1, .aload_n 0, [0], [], []), (65, 1, .iload_n 2, [2], [], []), (66, 1, .iconst 2, [], [2], []), (67, 3, .invokevirtual 151, [2, 11, 7191, 7193, 73, 1013], [], [sgX11_ofTimer]), (70, 2, .istore 4, [4], [], []), (72, 1, .aload_n 0, [0], [], []), (73, 1, .iload_n 2, [2], [], []), (74, 3, .invokevirtual 166, [1, 11, 7152, 7154, 69, 1013], [], [sgX11_dropTimer]), (77, 1, .iload_n 3, [3], [], []), (78, 3, .ifCond .ne 14, [92], [], []), (81, 1, .aload_n 0, [0], [], []), (82, 2, .bipush 7, [], [7], []), (84, 2, .iload 4, [4], [], []), (86, 3, .invokevirtual 89, [2, 11, 7031, 7033, 49, 1013], [], [sgX11_see]), (89, 3, .goto 10, [99], [], [])]
def bkX11_tick_92 : List gw_E := [(92, 1, .aload_n 0, [0], [], []), (93, 1, .iload_n 3, [3], [], []), (94, 2, .iload 4, [4], [], []), (96, 3, .invokevirtual 169, [2, 11, 7110, 7112, 65, 1013], [], [sgX11_pend])]
def bkX11_tick_99 : List gw_E := [(99, 3, .iinc 1 1, [1], [1], []), (102, 1, .aload_n 0, [0], [], []), (103, 3, .invokevirtual 163, [0, 11, 7183, 7185, 71, 1013], [], [sgX11_firstDue]), (106, 1, .istore_n 2, [2], [], []), (107, 3, .goto (-55), [52], [], [])]
def bkX11_tick_110 : List gw_E := [(110, 1, .aload_n 0, [0], [], []), (111, 3, .getfield 7, [11, 0, 1, 6073], [], []), (114, 1, .iconst 2, [], [2], []), (115, 1, .iaload, [], [], []), (116, 1, .iconst 2, [], [2], []), (117, 3, .if_icmp .ne 47, [164], [], []), (120, 1, .aload_n 0, [0], [], []), (121, 3, .getfield 7, [11, 0, 1, 6073], [], []), (124, 2, .bipush 11, [], [11], []), (126, 1, .iaload, [], [], []), (127, 3, .ifCond .eq 37, [164], [], []), (130, 1, .aload_n 0, [0], [], []), (131, 3, .getfield 7, [11, 0, 1, 6073], [], []), (134, 2, .bipush 12, [], [12], []), (136, 1, .dup2, [], [], []), (137, 1, .iaload, [], [], []), (138, 1, .iconst 1, [], [1], []), (139, 1, .isub, [], [], []), (140, 1, .iastore, [], [], []), (141, 1, .aload_n 0, [0], [], []), (142, 3, .getfield 7, [11, 0, 1, 6073], [], []), (145, 2, .bipush 12, [], [12], []), (147, 1, .iaload, [], [], []), (148, 3, .ifCond .gt 16, [164], [], []), (151, 1, .aload_n 0, [0], [], []), (152, 2, .bipush 8, [], [8], []), (154, 1, .aload_n 0, [0], [], []), (155, 3, .getfield 7, [11, 0, 1, 6073], [], []), (158, 2, .bipush 11, [], [11], []), (160, 1, .iaload, [], [], []), (161, 3, .invokevirtual 96, [2, 11, 6179, 6181, 35, 1013], [], [sgX11_deal])]
def bkX11_tick_164 : List gw_E := [(164, 1, .iload_n 1, [1], [], []), (165, 1, .ireturn, [0], [], [])]
def bsX11_tick : List (Nat × List gw_E) := [(0, bkX11_tick_0), (30, bkX11_tick_30), (39, bkX11_tick_39), (52, bkX11_tick_52), (92, bkX11_tick_92), (99, bkX11_tick_99), (110, bkX11_tick_110), (164, bkX11_tick_164)]
theorem fdX11_tick_0 : gw_find bsX11_tick 0 = bkX11_tick_0 := rfl
theorem fdX11_tick_30 : gw_find bsX11_tick 30 = bkX11_tick_30 := rfl
theorem fdX11_tick_39 : gw_find bsX11_tick 39 = bkX11_tick_39 := rfl
theorem fdX11_tick_52 : gw_find bsX11_tick 52 = bkX11_tick_52 := rfl
theorem fdX11_tick_92 : gw_find bsX11_tick 92 = bkX11_tick_92 := rfl
theorem fdX11_tick_99 : gw_find bsX11_tick 99 = bkX11_tick_99 := rfl
theorem fdX11_tick_110 : gw_find bsX11_tick 110 = bkX11_tick_110 := rfl
theorem fdX11_tick_164 : gw_find bsX11_tick 164 = bkX11_tick_164 := rfl
set_option maxRecDepth 40000 in
theorem stX11_tick : gw_sta sgX11_tick bsX11_tick := ⟨by decide +kernel, gw_mem2 (i := 7182) rfl rfl, gw_all (by decide +kernel)⟩
def bkX11_putAside_0 : List gw_E := [(0, 1, .iconst 0, [], [0], []), (1, 1, .istore_n 1, [1], [], [])]
def bkX11_putAside_2 : List gw_E := [(2, 1, .iload_n 1, [1], [], []), (3, 3, .sipush 991, [], [991], []), (6, 3, .if_icmp .ge 23, [29], [], []), (9, 1, .aload_n 0, [0], [], []), (10, 3, .getfield 16, [11, 2, 1, 6075], [], []), (13, 1, .iload_n 1, [1], [], []), (14, 1, .aload_n 0, [0], [], []), (15, 3, .getfield 7, [11, 0, 1, 6073], [], []), (18, 1, .iconst 2, [], [2], []), (19, 1, .iload_n 1, [1], [], []), (20, 1, .iadd, [], [], []), (21, 1, .iaload, [], [], []), (22, 1, .iastore, [], [], []), (23, 3, .iinc 1 1, [1], [1], []), (26, 3, .goto (-24), [2], [], [])]
def bkX11_putAside_29 : List gw_E := [(29, 1, .return_, [], [], [])]
def bsX11_putAside : List (Nat × List gw_E) := [(0, bkX11_putAside_0), (2, bkX11_putAside_2), (29, bkX11_putAside_29)]
theorem fdX11_putAside_0 : gw_find bsX11_putAside 0 = bkX11_putAside_0 := rfl
theorem fdX11_putAside_2 : gw_find bsX11_putAside 2 = bkX11_putAside_2 := rfl
theorem fdX11_putAside_29 : gw_find bsX11_putAside 29 = bkX11_putAside_29 := rfl
set_option maxRecDepth 40000 in
theorem stX11_putAside : gw_sta sgX11_putAside bsX11_putAside := ⟨by decide +kernel, gw_mem2 (i := 8158) rfl rfl, gw_all (by decide +kernel)⟩
def bkX11_bringBack_0 : List gw_E := [(0, 1, .iconst 0, [], [0], []), (1, 1, .istore_n 1, [1], [], [])]
def bkX11_bringBack_2 : List gw_E := [(2, 1, .iload_n 1, [1], [], []), (3, 3, .sipush 991, [], [991], []), (6, 3, .if_icmp .ge 23, [29], [], []), (9, 1, .aload_n 0, [0], [], []), (10, 3, .getfield 7, [11, 0, 1, 6073], [], []), (13, 1, .iconst 2, [], [2], []), (14, 1, .iload_n 1, [1], [], []), (15, 1, .iadd, [], [], []), (16, 1, .aload_n 0, [0], [], []), (17, 3, .getfield 16, [11, 2, 1, 6075], [], []), (20, 1, .iload_n 1, [1], [], []), (21, 1, .iaload, [], [], []), (22, 1, .iastore, [], [], []), (23, 3, .iinc 1 1, [1], [1], []), (26, 3, .goto (-24), [2], [], [])]
def bkX11_bringBack_29 : List gw_E := [(29, 1, .return_, [], [], [])]
def bsX11_bringBack : List (Nat × List gw_E) := [(0, bkX11_bringBack_0), (2, bkX11_bringBack_2), (29, bkX11_bringBack_29)]
theorem fdX11_bringBack_0 : gw_find bsX11_bringBack 0 = bkX11_bringBack_0 := rfl
theorem fdX11_bringBack_2 : gw_find bsX11_bringBack 2 = bkX11_bringBack_2 := rfl
theorem fdX11_bringBack_29 : gw_find bsX11_bringBack 29 = bkX11_bringBack_29 := rfl
set_option maxRecDepth 40000 in
theorem stX11_bringBack : gw_sta sgX11_bringBack bsX11_bringBack := ⟨by decide +kernel, gw_mem2 (i := 8163) rfl rfl, gw_all (by decide +kernel)⟩
def bkX11_stepAt_0 : List gw_E := [(0, 3, .sipush 993, [], [993], []), (3, 3, .sipush 991, [], [991], []), (6, 1, .iload_n 0, [0], [], []), (7, 1, .iload_n 1, [1], [], []), (8, 1, .iadd, [], [], []), (9, 2, .bipush 20, [], [20], []), (11, 1, .irem, [], [], []), (12, 1, .imul, [], [], []), (13, 1, .iadd, [], [], []), (14, 1, .ireturn, [0], [], [])]
def bsX11_stepAt : List (Nat × List gw_E) := [(0, bkX11_stepAt_0)]
theorem fdX11_stepAt_0 : gw_find bsX11_stepAt 0 = bkX11_stepAt_0 := rfl
set_option maxRecDepth 40000 in
theorem stX11_stepAt : gw_sta sgX11_stepAt bsX11_stepAt := ⟨by decide +kernel, gw_mem2 (i := 6110) rfl rfl, gw_all (by decide +kernel)⟩
end
section
def bkX11_keep_0 : List gw_E := [(0, 1, .aload_n 0, [0], [], []), (1, 3, .getfield 7, [11, 0, 1, 6073], [], []), (4, 1, .iconst 0, [], [0], []), (5, 1, .iaload, [], [], []), (6, 2, .bipush 20, [], [20], []), (8, 3, .if_icmp .ne 30, [38], [], []), (11, 1, .aload_n 0, [0], [], []), (12, 3, .getfield 7, [11, 0, 1, 6073], [], []), (15, 1, .iconst 1, [], [1], []), (16, 1, .aload_n 0, [0], [], []), (17, 3, .getfield 7, [11, 0, 1, 6073], [], []), (20, 1, .iconst 1, [], [1], []), (21, 1, .iaload, [], [], []), (22, 1, .iconst 1, [], [1], []), (23, 1, .iadd, [], [], []), (24, 2, .bipush 20, [], [20], []), (26, 1, .irem, [], [], []), (27, 1, .iastore, [], [], []), (28, 1, .aload_n 0, [0], [], []), (29, 3, .getfield 7, [11, 0, 1, 6073], [], []), (32, 1, .iconst 0, [], [0], []), (33, 1, .dup2, [], [], []), (34, 1, .iaload, [], [], []), (35, 1, .iconst 1, [], [1], []), (36, 1, .isub, [], [], []), (37, 1, .iastore, [], [], [])]
def bkX11_keep_38 : List gw_E := [(38, 1, .aload_n 0, [0], [], []), (39, 3, .getfield 7, [11, 0, 1, 6073], [], []), (42, 1, .iconst 1, [], [1], []), (43, 1, .iaload, [], [], []), (44, 1, .aload_n 0, [0], [], []), (45, 3, .getfield 7, [11, 0, 1, 6073], [], []), (48, 1, .iconst 0, [], [0], []), (49, 1, .iaload, [], [], []), (50, 3, .invokestatic 172, [2, 0, 6108, 6109, 1013, 0], [], [sgX11_stepAt]), (53, 1, .istore_n 1, [1], [], []), (54, 1, .iconst 0, [], [0], []), (55, 1, .istore_n 2, [2], [], [])]
def bkX11_keep_56 : List gw_E := [(56, 1, .iload_n 2, [2], [], []), (57, 3, .sipush 991, [], [991], []), (60, 3, .if_icmp .ge 25, [85], [], []), (63, 1, .aload_n 0, [0], [], []), (64, 3, .getfield 7, [11, 0, 1, 6073], [], []), (67, 1, .iload_n 1, [1], [], []), (68, 1, .iload_n 2, [2], [], []), (69, 1, .iadd, [], [], []), (70, 1, .aload_n 0, [0], [], []), (71, 3, .getfield 7, [11, 0, 1, 6073], [], []), (74, 1, .iconst 2, [], [2], []), (75, 1, .iload_n 2, [2], [], []), (76, 1, .iadd, [], [], []), (77, 1, .iaload, [], [], []), (78, 1, .iastore, [], [], []), (79, 3, .iinc 2 1, [2], [1], []), (82, 3, .goto (-26), [56], [], [])]
def bkX11_keep_85 : List gw_E := [(85, 1, .aload_n 0, [0], [], []), (86, 3, .getfield 7, [11, 0, 1, 6073], [], []), (89, 1, .iconst 0, [], [0], []), (90, 1, .dup2, [], [], []), (91, 1, .iaload, [], [], []), (92, 1, .iconst 1, [], [1], []), (93, 1, .iadd, [], [], []), (94, 1, .iastore, [], [], []), (95, 1, .return_, [], [], [])]
def bsX11_keep : List (Nat × List gw_E) := [(0, bkX11_keep_0), (38, bkX11_keep_38), (56, bkX11_keep_56), (85, bkX11_keep_85)]
theorem fdX11_keep_0 : gw_find bsX11_keep 0 = bkX11_keep_0 := rfl
theorem fdX11_keep_38 : gw_find bsX11_keep 38 = bkX11_keep_38 := rfl
theorem fdX11_keep_56 : gw_find bsX11_keep 56 = bkX11_keep_56 := rfl
theorem fdX11_keep_85 : gw_find bsX11_keep 85 = bkX11_keep_85 := rfl
set_option maxRecDepth 40000 in
theorem stX11_keep : gw_sta sgX11_keep bsX11_keep := ⟨by decide +kernel, gw_mem2 (i := 6128) rfl rfl, gw_all (by decide +kernel)⟩
def bkX11_undo_0 : List gw_E := [(0, 1, .aload_n 0, [0], [], []), (1, 3, .getfield 7, [11, 0, 1, 6073], [], []), (4, 1, .iconst 0, [], [0], []), (5, 1, .iaload, [], [], []), (6, 3, .ifCond .ne 5, [11], [], []), (9, 1, .iconst (-1), [], [-1], []), (10, 1, .ireturn, [0], [], [])]
def bkX11_undo_11 : List gw_E := [(11, 1, .aload_n 0, [0], [], []), (12, 3, .getfield 7, [11, 0, 1, 6073], [], []), (15, 1, .iconst 0, [], [0], []), (16, 1, .dup2, [], [], []), (17, 1, .iaload, [], [], []), (18, 1, .iconst 1, [], [1], []), (19, 1, .isub, [], [], []), (20, 1, .iastore, [], [], []), (21, 1, .aload_n 0, [0], [], []), (22, 3, .getfield 7, [11, 0, 1, 6073], [], []), (25, 1, .iconst 1, [], [1], []), (26, 1, .iaload, [], [], []), (27, 1, .aload_n 0, [0], [], []), (28, 3, .getfield 7, [11, 0, 1, 6073], [], []), (31, 1, .iconst 0, [], [0], []), (32, 1, .iaload, [], [], []), (33, 3, .invokestatic 172, [2, 0, 6108, 6109, 1013, 0], [], [sgX11_stepAt]), (36, 1, .istore_n 1, [1], [], []), (37, 1, .iconst 0, [], [0], []), (38, 1, .istore_n 2, [2], [], [])]
def bkX11_undo_39 : List gw_E := [(39, 1, .iload_n 2, [2], [], []), (40, 3, .sipush 991, [], [991], []), (43, 3, .if_icmp .ge 25, [68], [], []), (46, 1, .aload_n 0, [0], [], []), (47, 3, .getfield 7, [11, 0, 1, 6073], [], []), (50, 1, .iconst 2, [], [2], []), (51, 1, .iload_n 2, [2], [], []), (52, 1, .iadd, [], [], []), (53, 1, .aload_n 0, [0], [], []), (54, 3, .getfield 7, [11, 0, 1, 6073], [], []), (57, 1, .iload_n 1, [1], [], []), (58, 1, .iload_n 2, [2], [], []), (59, 1, .iadd, [], [], []), (60, 1, .iaload, [], [], []), (61, 1, .iastore, [], [], []), (62, 3, .iinc 2 1, [2], [1], []), (65, 3, .goto (-26), [39], [], [])]
def bkX11_undo_68 : List gw_E := [(68, 1, .aload_n 0, [0], [], []), (69, 3, .getfield 7, [11, 0, 1, 6073], [], []), (72, 1, .iconst 0, [], [0], []), (73, 1, .iaload, [], [], []), (74, 1, .ireturn, [0], [], [])]
def bsX11_undo : List (Nat × List gw_E) := [(0, bkX11_undo_0), (11, bkX11_undo_11), (39, bkX11_undo_39), (68, bkX11_undo_68)]
theorem fdX11_undo_0 : gw_find bsX11_undo 0 = bkX11_undo_0 := rfl
theorem fdX11_undo_11 : gw_find bsX11_undo 11 = bkX11_undo_11 := rfl
theorem fdX11_undo_39 : gw_find bsX11_undo 39 = bkX11_undo_39 := rfl
theorem fdX11_undo_68 : gw_find bsX11_undo 68 = bkX11_undo_68 := rfl
set_option maxRecDepth 40000 in
theorem stX11_undo : gw_sta sgX11_undo bsX11_undo := ⟨by decide +kernel, gw_mem2 (i := 6107) rfl rfl, gw_all (by decide +kernel)⟩
def bkX11_canTell_0 : List gw_E := [(0, 1, .iload_n 1, [1], [], []), (1, 3, .ifCond .ne 21, [22], [], []), (4, 1, .aload_n 0, [0], [], []), (5, 3, .getfield 7, [11, 0, 1, 6073], [], []), (8, 1, .iconst 2, [], [2], []), (9, 1, .iaload, [], [], []), (10, 1, .iconst 2, [], [2], []), (11, 3, .if_icmp .ne 7, [18], [], []), (14, 1, .iconst 1, [], [1], []), (15, 3, .goto 40, [55], [], [])]
def bkX11_canTell_18 : List gw_E := [(18, 1, .iconst 0, [], [0], []), (19, 3, .goto 36, [55], [], [])]
def bkX11_canTell_22 : List gw_E := [(22, 1, .iload_n 1, [1], [], []), (23, 1, .iconst 1, [], [1], []), (24, 3, .if_icmp .ne 21, [45], [], []), (27, 1, .aload_n 0, [0], [], []), (28, 3, .getfield 7, [11, 0, 1, 6073], [], []), (31, 1, .iconst 2, [], [2], []), (32, 1, .iaload, [], [], []), (33, 1, .iconst 1, [], [1], []), (34, 3, .if_icmp .ne 7, [41], [], []), (37, 1, .iconst 1, [], [1], []), (38, 3, .goto 17, [55], [], [])]
def bkX11_canTell_41 : List gw_E := [(41, 1, .iconst 0, [], [0], []), (42, 3, .goto 13, [55], [], [])]
def bkX11_canTell_45 : List gw_E := [(45, 1, .iload_n 1, [1], [], []), (46, 1, .iconst 2, [], [2], []), (47, 3, .if_icmp .ne 7, [54], [], []), (50, 1, .iconst 1, [], [1], []), (51, 3, .goto 4, [55], [], [])]
def bkX11_canTell_54 : List gw_E := [(54, 1, .iconst 0, [], [0], [])]
def bkX11_canTell_55 : List gw_E := [(55, 1, .ireturn, [1], [], [])]
def bsX11_canTell : List (Nat × List gw_E) := [(0, bkX11_canTell_0), (18, bkX11_canTell_18), (22, bkX11_canTell_22), (41, bkX11_canTell_41), (45, bkX11_canTell_45), (54, bkX11_canTell_54), (55, bkX11_canTell_55)]
theorem fdX11_canTell_0 : gw_find bsX11_canTell 0 = bkX11_canTell_0 := rfl
theorem fdX11_canTell_18 : gw_find bsX11_canTell 18 = bkX11_canTell_18 := rfl
theorem fdX11_canTell_22 : gw_find bsX11_canTell 22 = bkX11_canTell_22 := rfl
theorem fdX11_canTell_41 : gw_find bsX11_canTell 41 = bkX11_canTell_41 := rfl
theorem fdX11_canTell_45 : gw_find bsX11_canTell 45 = bkX11_canTell_45 := rfl
theorem fdX11_canTell_54 : gw_find bsX11_canTell 54 = bkX11_canTell_54 := rfl
theorem fdX11_canTell_55 : gw_find bsX11_canTell 55 = bkX11_canTell_55 := rfl
set_option maxRecDepth 40000 in
theorem stX11_canTell : gw_sta sgX11_canTell bsX11_canTell := ⟨by decide +kernel, gw_mem2 (i := 6118) rfl rfl, gw_all (by decide +kernel)⟩
def bkX11_tellEntry_0 : List gw_E := [(0, 1, .aload_n 0, [0], [], []), (1, 1, .iload_n 1, [1], [], []), (2, 1, .iload_n 2, [2], [], []), (3, 1, .iload_n 3, [3], [], []), (4, 2, .iload 4, [4], [], []), (6, 3, .invokevirtual 69, [4, 11, 6133, 6135, 25, 1013], [], [sgX11_layEntry]), (9, 1, .iload_n 1, [1], [], []), (10, 1, .iconst 2, [], [2], []), (11, 3, .if_icmp .ne 14, [25], [], []), (14, 1, .aload_n 0, [0], [], []), (15, 3, .getfield 7, [11, 0, 1, 6073], [], []), (18, 3, .sipush 812, [], [812], []), (21, 1, .iload_n 2, [2], [], []), (22, 1, .iadd, [], [], []), (23, 1, .iconst (-1), [], [-1], []), (24, 1, .iastore, [], [], [])]
def bkX11_tellEntry_25 : List gw_E := [(25, 1, .return_, [], [], [])]
def bsX11_tellEntry : List (Nat × List gw_E) := [(0, bkX11_tellEntry_0), (25, bkX11_tellEntry_25)]
theorem fdX11_tellEntry_0 : gw_find bsX11_tellEntry 0 = bkX11_tellEntry_0 := rfl
theorem fdX11_tellEntry_25 : gw_find bsX11_tellEntry 25 = bkX11_tellEntry_25 := rfl
set_option maxRecDepth 40000 in
theorem stX11_tellEntry : gw_sta sgX11_tellEntry bsX11_tellEntry := ⟨by decide +kernel, gw_mem2 (i := 6132) rfl rfl, gw_all (by decide +kernel)⟩
def bkX11_entry_0 : List gw_E := [(0, 1, .aload_n 0, [0], [], []), (1, 1, .iload_n 1, [1], [], []), (2, 3, .invokevirtual 175, [1, 11, 6115, 6117, 22, 1013], [], [sgX11_canTell]), (5, 3, .ifCond .eq 41, [46], [], []), (8, 1, .iload_n 2, [2], [], []), (9, 3, .invokestatic 178, [1, 0, 6119, 6120, 1013, 0], [], [sgX11_isPage]), (12, 3, .ifCond .eq 34, [46], [], []), (15, 1, .iload_n 3, [3], [], []), (16, 1, .iconst 0, [], [0], []), (17, 1, .iload_n 1, [1], [], []), (18, 1, .iconst 2, [], [2], []), (19, 3, .if_icmp .ne 8, [27], [], []), (22, 2, .bipush 9, [], [9], []), (24, 3, .goto 5, [29], [], [])]
def bkX11_entry_27 : List gw_E := [(27, 2, .bipush 15, [], [15], [])]
def bkX11_entry_29 : List gw_E := [(29, 3, .invokestatic 33, [3, 0, 6122, 6123, 1013, 0], [], [sgX11_isIn]), (32, 3, .ifCond .eq 14, [46], [], []), (35, 2, .iload 4, [4], [], []), (37, 1, .iconst 1, [], [1], []), (38, 2, .bipush 7, [], [7], []), (40, 3, .invokestatic 33, [3, 0, 6122, 6123, 1013, 0], [], [sgX11_isIn]), (43, 3, .ifCond .ne 5, [48], [], [])]
def bkX11_entry_46 : List gw_E := [(46, 1, .iconst 0, [], [0], []), (47, 1, .ireturn, [1], [], [])]
def bkX11_entry_48 : List gw_E := [(48, 1, .aload_n 0, [0], [], []), (49, 3, .invokevirtual 181, [0, 11, 6125, 6127, 23, 1013], [], [sgX11_keep]), (52, 1, .aload_n 0, [0], [], []), (53, 1, .iload_n 1, [1], [], []), (54, 1, .iload_n 2, [2], [], []), (55, 1, .iload_n 3, [3], [], []), (56, 2, .iload 4, [4], [], []), (58, 3, .invokevirtual 184, [4, 11, 6129, 6131, 24, 1013], [], [sgX11_tellEntry]), (61, 1, .aload_n 0, [0], [], []), (62, 3, .invokevirtual 187, [0, 11, 6165, 6167, 33, 1013], [], [sgX11_dealOut]), (65, 1, .iconst 1, [], [1], []), (66, 1, .ireturn, [1], [], [])]
def bsX11_entry : List (Nat × List gw_E) := [(0, bkX11_entry_0), (27, bkX11_entry_27), (29, bkX11_entry_29), (46, bkX11_entry_46), (48, bkX11_entry_48)]
theorem fdX11_entry_0 : gw_find bsX11_entry 0 = bkX11_entry_0 := rfl
theorem fdX11_entry_27 : gw_find bsX11_entry 27 = bkX11_entry_27 := rfl
theorem fdX11_entry_29 : gw_find bsX11_entry 29 = bkX11_entry_29 := rfl
theorem fdX11_entry_46 : gw_find bsX11_entry 46 = bkX11_entry_46 := rfl
theorem fdX11_entry_48 : gw_find bsX11_entry 48 = bkX11_entry_48 := rfl
set_option maxRecDepth 40000 in
theorem stX11_entry : gw_sta sgX11_entry bsX11_entry := ⟨by decide +kernel, gw_mem2 (i := 6114) rfl rfl, gw_all (by decide +kernel)⟩
def bkX11_clear_0 : List gw_E := [(0, 1, .aload_n 0, [0], [], []), (1, 1, .iload_n 1, [1], [], []), (2, 3, .invokevirtual 175, [1, 11, 6115, 6117, 22, 1013], [], [sgX11_canTell]), (5, 3, .ifCond .eq 20, [25], [], []), (8, 1, .iload_n 2, [2], [], []), (9, 3, .invokestatic 178, [1, 0, 6119, 6120, 1013, 0], [], [sgX11_isPage]), (12, 3, .ifCond .eq 13, [25], [], []), (15, 1, .aload_n 0, [0], [], []), (16, 1, .iload_n 1, [1], [], []), (17, 1, .iload_n 2, [2], [], []), (18, 3, .invokevirtual 52, [2, 11, 6149, 6151, 29, 1013], [], [sgX11_toOf]), (21, 1, .iconst (-1), [], [-1], []), (22, 3, .if_icmp .ne 5, [27], [], [])]
def bkX11_clear_25 : List gw_E := [(25, 1, .iconst 0, [], [0], []), (26, 1, .ireturn, [1], [], [])]
def bkX11_clear_27 : List gw_E := [(27, 1, .aload_n 0, [0], [], []), (28, 3, .invokevirtual 181, [0, 11, 6125, 6127, 23, 1013], [], [sgX11_keep]), (31, 1, .aload_n 0, [0], [], []), (32, 1, .iload_n 1, [1], [], []), (33, 1, .iload_n 2, [2], [], []), (34, 1, .iconst (-1), [], [-1], []), (35, 1, .iconst 0, [], [0], []), (36, 3, .invokevirtual 184, [4, 11, 6129, 6131, 24, 1013], [], [sgX11_tellEntry]), (39, 1, .aload_n 0, [0], [], []), (40, 3, .invokevirtual 187, [0, 11, 6165, 6167, 33, 1013], [], [sgX11_dealOut]), (43, 1, .iconst 1, [], [1], []), (44, 1, .ireturn, [1], [], [])]
def bsX11_clear : List (Nat × List gw_E) := [(0, bkX11_clear_0), (25, bkX11_clear_25), (27, bkX11_clear_27)]
theorem fdX11_clear_0 : gw_find bsX11_clear 0 = bkX11_clear_0 := rfl
theorem fdX11_clear_25 : gw_find bsX11_clear 25 = bkX11_clear_25 := rfl
theorem fdX11_clear_27 : gw_find bsX11_clear 27 = bkX11_clear_27 := rfl
set_option maxRecDepth 40000 in
theorem stX11_clear : gw_sta sgX11_clear bsX11_clear := ⟨by decide +kernel, gw_mem2 (i := 6198) rfl rfl, gw_all (by decide +kernel)⟩
def bkX11_roomNow_0 : List gw_E := [(0, 1, .aload_n 0, [0], [], []), (1, 3, .getfield 7, [11, 0, 1, 6073], [], []), (4, 1, .iconst 4, [], [4], []), (5, 1, .iload_n 1, [1], [], []), (6, 1, .iastore, [], [], [])]
def bkX11_roomNow_7 : List gw_E := [(7, 1, .aload_n 0, [0], [], []), (8, 3, .getfield 7, [11, 0, 1, 6073], [], []), (11, 2, .bipush 23, [], [23], []), (13, 1, .iaload, [], [], []), (14, 1, .iload_n 1, [1], [], []), (15, 3, .if_icmp .le 18, [33], [], []), (18, 1, .aload_n 0, [0], [], []), (19, 1, .aload_n 0, [0], [], []), (20, 3, .getfield 7, [11, 0, 1, 6073], [], []), (23, 3, .sipush 786, [], [786], []), (26, 1, .iaload, [], [], []), (27, 3, .invokevirtual 59, [1, 11, 6145, 6147, 28, 1013], [], [sgX11_unfold]), (30, 3, .goto (-23), [7], [], [])]
def bkX11_roomNow_33 : List gw_E := [(33, 1, .return_, [], [], [])]
def bsX11_roomNow : List (Nat × List gw_E) := [(0, bkX11_roomNow_0), (7, bkX11_roomNow_7), (33, bkX11_roomNow_33)]
theorem fdX11_roomNow_0 : gw_find bsX11_roomNow 0 = bkX11_roomNow_0 := rfl
theorem fdX11_roomNow_7 : gw_find bsX11_roomNow 7 = bkX11_roomNow_7 := rfl
theorem fdX11_roomNow_33 : gw_find bsX11_roomNow 33 = bkX11_roomNow_33 := rfl
set_option maxRecDepth 40000 in
theorem stX11_roomNow : gw_sta sgX11_roomNow bsX11_roomNow := ⟨by decide +kernel, gw_mem2 (i := 6206) rfl rfl, gw_all (by decide +kernel)⟩
def bkX11_room_0 : List gw_E := [(0, 1, .iload_n 1, [1], [], []), (1, 1, .iconst 1, [], [1], []), (2, 2, .bipush 16, [], [16], []), (4, 3, .invokestatic 33, [3, 0, 6122, 6123, 1013, 0], [], [sgX11_isIn]), (7, 3, .ifCond .ne 5, [12], [], []), (10, 1, .iconst 0, [], [0], []), (11, 1, .ireturn, [1], [], [])]
def bkX11_room_12 : List gw_E := [(12, 1, .aload_n 0, [0], [], []), (13, 3, .invokevirtual 181, [0, 11, 6125, 6127, 23, 1013], [], [sgX11_keep]), (16, 1, .aload_n 0, [0], [], []), (17, 1, .iload_n 1, [1], [], []), (18, 3, .invokevirtual 190, [1, 11, 6203, 6205, 39, 1013], [], [sgX11_roomNow]), (21, 1, .aload_n 0, [0], [], []), (22, 3, .invokevirtual 187, [0, 11, 6165, 6167, 33, 1013], [], [sgX11_dealOut]), (25, 1, .iconst 1, [], [1], []), (26, 1, .ireturn, [1], [], [])]
def bsX11_room : List (Nat × List gw_E) := [(0, bkX11_room_0), (12, bkX11_room_12)]
theorem fdX11_room_0 : gw_find bsX11_room 0 = bkX11_room_0 := rfl
theorem fdX11_room_12 : gw_find bsX11_room 12 = bkX11_room_12 := rfl
set_option maxRecDepth 40000 in
theorem stX11_room : gw_sta sgX11_room bsX11_room := ⟨by decide +kernel, gw_mem2 (i := 6202) rfl rfl, gw_all (by decide +kernel)⟩
def bkX11_isLazy_0 : List gw_E := [(0, 1, .aload_n 0, [0], [], []), (1, 1, .iconst 1, [], [1], []), (2, 1, .iload_n 1, [1], [], []), (3, 3, .invokevirtual 52, [2, 11, 6149, 6151, 29, 1013], [], [sgX11_toOf]), (6, 1, .istore_n 2, [2], [], []), (7, 1, .iload_n 2, [2], [], []), (8, 1, .iconst (-1), [], [-1], []), (9, 3, .if_icmp .eq 33, [42], [], []), (12, 1, .aload_n 0, [0], [], []), (13, 1, .iconst 1, [], [1], []), (14, 1, .iload_n 1, [1], [], []), (15, 3, .invokevirtual 49, [2, 11, 6215, 6217, 41, 1013], [], [sgX11_rightsOf]), (18, 1, .aload_n 0, [0], [], []), (19, 1, .iconst 2, [], [2], []), (20, 1, .iload_n 2, [2], [], []), (21, 3, .invokevirtual 49, [2, 11, 6215, 6217, 41, 1013], [], [sgX11_rightsOf]), (24, 1, .iand, [], [], []), (25, 3, .ifCond .eq 17, [42], [], []), (28, 1, .aload_n 0, [0], [], []), (29, 1, .iconst 3, [], [3], []), (30, 1, .iload_n 1, [1], [], []), (31, 3, .invokevirtual 52, [2, 11, 6149, 6151, 29, 1013], [], [sgX11_toOf]), (34, 1, .iconst (-1), [], [-1], []), (35, 3, .if_icmp .ne 7, [42], [], []), (38, 1, .iconst 1, [], [1], []), (39, 3, .goto 4, [43], [], [])]
def bkX11_isLazy_42 : List gw_E := [(42, 1, .iconst 0, [], [0], [])]
def bkX11_isLazy_43 : List gw_E := [(43, 1, .ireturn, [1], [], [])]
def bsX11_isLazy : List (Nat × List gw_E) := [(0, bkX11_isLazy_0), (42, bkX11_isLazy_42), (43, bkX11_isLazy_43)]
theorem fdX11_isLazy_0 : gw_find bsX11_isLazy 0 = bkX11_isLazy_0 := rfl
theorem fdX11_isLazy_42 : gw_find bsX11_isLazy 42 = bkX11_isLazy_42 := rfl
theorem fdX11_isLazy_43 : gw_find bsX11_isLazy 43 = bkX11_isLazy_43 := rfl
set_option maxRecDepth 40000 in
theorem stX11_isLazy : gw_sta sgX11_isLazy bsX11_isLazy := ⟨by decide +kernel, gw_mem2 (i := 6214) rfl rfl, gw_all (by decide +kernel)⟩
def bkX11_foldAhead_0 : List gw_E := [(0, 1, .aload_n 0, [0], [], []), (1, 3, .invokevirtual 181, [0, 11, 6125, 6127, 23, 1013], [], [sgX11_keep]), (4, 1, .iconst 0, [], [0], []), (5, 1, .istore_n 1, [1], [], []), (6, 1, .iconst 0, [], [0], []), (7, 1, .istore_n 2, [2], [], [])]
def bkX11_foldAhead_8 : List gw_E := [(8, 1, .iload_n 2, [2], [], []), (9, 2, .bipush 16, [], [16], []), (11, 3, .if_icmp .ge 44, [55], [], []), (14, 1, .aload_n 0, [0], [], []), (15, 1, .iload_n 2, [2], [], []), (16, 3, .invokevirtual 193, [1, 11, 6211, 6213, 40, 1013], [], [sgX11_isLazy]), (19, 3, .ifCond .eq 30, [49], [], []), (22, 1, .aload_n 0, [0], [], []), (23, 3, .getfield 7, [11, 0, 1, 6073], [], []), (26, 2, .bipush 23, [], [23], []), (28, 1, .iaload, [], [], []), (29, 1, .aload_n 0, [0], [], []), (30, 3, .getfield 7, [11, 0, 1, 6073], [], []), (33, 1, .iconst 4, [], [4], []), (34, 1, .iaload, [], [], []), (35, 3, .if_icmp .lt 6, [41], [], []), (38, 3, .goto 11, [49], [], [])]
def bkX11_foldAhead_41 : List gw_E := [(41, 1, .aload_n 0, [0], [], []), (42, 1, .iload_n 2, [2], [], []), (43, 3, .invokevirtual 127, [1, 11, 6223, 6225, 43, 1013], [], [sgX11_fold]), (46, 3, .iinc 1 1, [1], [1], [])]
def bkX11_foldAhead_49 : List gw_E := [(49, 3, .iinc 2 1, [2], [1], []), (52, 3, .goto (-44), [8], [], [])]
def bkX11_foldAhead_55 : List gw_E := [(55, 1, .aload_n 0, [0], [], []), (56, 3, .invokevirtual 187, [0, 11, 6165, 6167, 33, 1013], [], [sgX11_dealOut]), (59, 1, .iload_n 1, [1], [], []), (60, 1, .ireturn, [0], [], [])]
def bsX11_foldAhead : List (Nat × List gw_E) := [(0, bkX11_foldAhead_0), (8, bkX11_foldAhead_8), (41, bkX11_foldAhead_41), (49, bkX11_foldAhead_49), (55, bkX11_foldAhead_55)]
theorem fdX11_foldAhead_0 : gw_find bsX11_foldAhead 0 = bkX11_foldAhead_0 := rfl
theorem fdX11_foldAhead_8 : gw_find bsX11_foldAhead 8 = bkX11_foldAhead_8 := rfl
theorem fdX11_foldAhead_41 : gw_find bsX11_foldAhead 41 = bkX11_foldAhead_41 := rfl
theorem fdX11_foldAhead_49 : gw_find bsX11_foldAhead 49 = bkX11_foldAhead_49 := rfl
theorem fdX11_foldAhead_55 : gw_find bsX11_foldAhead 55 = bkX11_foldAhead_55 := rfl
set_option maxRecDepth 40000 in
theorem stX11_foldAhead : gw_sta sgX11_foldAhead bsX11_foldAhead := ⟨by decide +kernel, gw_mem2 (i := 6210) rfl rfl, gw_all (by decide +kernel)⟩
def bkX11_join_0 : List gw_E := [(0, 1, .aload_n 0, [0], [], []), (1, 3, .invokevirtual 181, [0, 11, 6125, 6127, 23, 1013], [], [sgX11_keep]), (4, 1, .iconst 0, [], [0], []), (5, 1, .istore_n 1, [1], [], []), (6, 1, .iconst 0, [], [0], []), (7, 1, .istore_n 2, [2], [], [])]
def bkX11_join_8 : List gw_E := [(8, 1, .iload_n 2, [2], [], []), (9, 2, .bipush 10, [], [10], []), (11, 3, .if_icmp .ge 34, [45], [], [])]
def bkX11_join_14 : List gw_E := [(14, 1, .aload_n 0, [0], [], []), (15, 1, .iload_n 2, [2], [], []), (16, 3, .invokevirtual 196, [1, 11, 6231, 6233, 44, 1013], [], [sgX11_likeOf]), (19, 1, .iconst (-1), [], [-1], []), (20, 3, .if_icmp .eq 19, [39], [], []), (23, 1, .aload_n 0, [0], [], []), (24, 1, .iload_n 2, [2], [], []), (25, 1, .aload_n 0, [0], [], []), (26, 1, .iload_n 2, [2], [], []), (27, 3, .invokevirtual 196, [1, 11, 6231, 6233, 44, 1013], [], [sgX11_likeOf]), (30, 3, .invokevirtual 199, [2, 11, 6239, 7001, 46, 1013], [], [sgX11_joinNow]), (33, 3, .iinc 1 1, [1], [1], []), (36, 3, .goto (-22), [14], [], [])]
def bkX11_join_39 : List gw_E := [(39, 3, .iinc 2 1, [2], [1], []), (42, 3, .goto (-34), [8], [], [])]
def bkX11_join_45 : List gw_E := [(45, 1, .aload_n 0, [0], [], []), (46, 3, .invokevirtual 187, [0, 11, 6165, 6167, 33, 1013], [], [sgX11_dealOut]), (49, 1, .iload_n 1, [1], [], []), (50, 1, .ireturn, [0], [], [])]
def bsX11_join : List (Nat × List gw_E) := [(0, bkX11_join_0), (8, bkX11_join_8), (14, bkX11_join_14), (39, bkX11_join_39), (45, bkX11_join_45)]
theorem fdX11_join_0 : gw_find bsX11_join 0 = bkX11_join_0 := rfl
theorem fdX11_join_8 : gw_find bsX11_join 8 = bkX11_join_8 := rfl
theorem fdX11_join_14 : gw_find bsX11_join 14 = bkX11_join_14 := rfl
theorem fdX11_join_39 : gw_find bsX11_join 39 = bkX11_join_39 := rfl
theorem fdX11_join_45 : gw_find bsX11_join 45 = bkX11_join_45 := rfl
set_option maxRecDepth 40000 in
theorem stX11_join : gw_sta sgX11_join bsX11_join := ⟨by decide +kernel, gw_mem2 (i := 6230) rfl rfl, gw_all (by decide +kernel)⟩
def bkX11_copied_0 : List gw_E := [(0, 1, .aload_n 0, [0], [], []), (1, 3, .getfield 7, [11, 0, 1, 6073], [], []), (4, 2, .bipush 27, [], [27], []), (6, 1, .iaload, [], [], []), (7, 1, .ireturn, [0], [], [])]
def bsX11_copied : List (Nat × List gw_E) := [(0, bkX11_copied_0)]
theorem fdX11_copied_0 : gw_find bsX11_copied 0 = bkX11_copied_0 := rfl
set_option maxRecDepth 40000 in
theorem stX11_copied : gw_sta sgX11_copied bsX11_copied := ⟨by decide +kernel, gw_mem2 (i := 7006) rfl rfl, gw_all (by decide +kernel)⟩
def bkX11_trapPlace_0 : List gw_E := [(0, 1, .iload_n 1, [1], [], []), (1, 1, .iconst (-1), [], [-1], []), (2, 2, .bipush 23, [], [23], []), (4, 3, .invokestatic 33, [3, 0, 6122, 6123, 1013, 0], [], [sgX11_isIn]), (7, 3, .ifCond .ne 5, [12], [], []), (10, 1, .iconst 0, [], [0], []), (11, 1, .ireturn, [1], [], [])]
def bkX11_trapPlace_12 : List gw_E := [(12, 1, .aload_n 0, [0], [], []), (13, 3, .invokevirtual 181, [0, 11, 6125, 6127, 23, 1013], [], [sgX11_keep]), (16, 1, .aload_n 0, [0], [], []), (17, 3, .getfield 7, [11, 0, 1, 6073], [], []), (20, 1, .aload_n 0, [0], [], []), (21, 1, .iconst 2, [], [2], []), (22, 3, .invokevirtual 37, [1, 11, 6141, 6143, 27, 1013], [], [sgX11_guestAt]), (25, 3, .sipush 143, [], [143], []), (28, 1, .iadd, [], [], []), (29, 1, .iload_n 1, [1], [], []), (30, 1, .iastore, [], [], []), (31, 1, .aload_n 0, [0], [], []), (32, 3, .invokevirtual 187, [0, 11, 6165, 6167, 33, 1013], [], [sgX11_dealOut]), (35, 1, .iconst 1, [], [1], []), (36, 1, .ireturn, [1], [], [])]
def bsX11_trapPlace : List (Nat × List gw_E) := [(0, bkX11_trapPlace_0), (12, bkX11_trapPlace_12)]
theorem fdX11_trapPlace_0 : gw_find bsX11_trapPlace 0 = bkX11_trapPlace_0 := rfl
theorem fdX11_trapPlace_12 : gw_find bsX11_trapPlace 12 = bkX11_trapPlace_12 := rfl
set_option maxRecDepth 40000 in
theorem stX11_trapPlace : gw_sta sgX11_trapPlace bsX11_trapPlace := ⟨by decide +kernel, gw_mem2 (i := 7010) rfl rfl, gw_all (by decide +kernel)⟩
def bkX11_trapped_0 : List gw_E := [(0, 1, .iload_n 1, [1], [], []), (1, 1, .iconst 2, [], [2], []), (2, 3, .if_icmp .ne 20, [22], [], []), (5, 1, .aload_n 0, [0], [], []), (6, 3, .getfield 7, [11, 0, 1, 6073], [], []), (9, 1, .aload_n 0, [0], [], []), (10, 1, .iconst 2, [], [2], []), (11, 3, .invokevirtual 37, [1, 11, 6141, 6143, 27, 1013], [], [sgX11_guestAt]), (14, 3, .sipush 143, [], [143], []), (17, 1, .iadd, [], [], []), (18, 1, .iaload, [], [], []), (19, 3, .goto 32, [51], [], [])]
def bkX11_trapped_22 : List gw_E := [(22, 1, .iload_n 1, [1], [], []), (23, 1, .iconst 0, [], [0], []), (24, 1, .iconst 1, [], [1], []), (25, 3, .invokestatic 33, [3, 0, 6122, 6123, 1013, 0], [], [sgX11_isIn]), (28, 3, .ifCond .eq 22, [50], [], []), (31, 1, .aload_n 0, [0], [], []), (32, 3, .getfield 7, [11, 0, 1, 6073], [], []), (35, 1, .aload_n 0, [0], [], []), (36, 1, .iconst 2, [], [2], []), (37, 3, .invokevirtual 37, [1, 11, 6141, 6143, 27, 1013], [], [sgX11_guestAt]), (40, 3, .sipush 144, [], [144], []), (43, 1, .iadd, [], [], []), (44, 1, .iload_n 1, [1], [], []), (45, 1, .iadd, [], [], []), (46, 1, .iaload, [], [], []), (47, 3, .goto 4, [51], [], [])]
def bkX11_trapped_50 : List gw_E := [(50, 1, .iconst (-1), [], [-1], [])]
def bkX11_trapped_51 : List gw_E := [(51, 1, .ireturn, [0], [], [])]
def bsX11_trapped : List (Nat × List gw_E) := [(0, bkX11_trapped_0), (22, bkX11_trapped_22), (50, bkX11_trapped_50), (51, bkX11_trapped_51)]
theorem fdX11_trapped_0 : gw_find bsX11_trapped 0 = bkX11_trapped_0 := rfl
theorem fdX11_trapped_22 : gw_find bsX11_trapped 22 = bkX11_trapped_22 := rfl
theorem fdX11_trapped_50 : gw_find bsX11_trapped 50 = bkX11_trapped_50 := rfl
theorem fdX11_trapped_51 : gw_find bsX11_trapped 51 = bkX11_trapped_51 := rfl
set_option maxRecDepth 40000 in
theorem stX11_trapped : gw_sta sgX11_trapped bsX11_trapped := ⟨by decide +kernel, gw_mem2 (i := 7014) rfl rfl, gw_all (by decide +kernel)⟩
def bkX11_want_0 : List gw_E := [(0, 1, .iload_n 1, [1], [], []), (1, 1, .iconst 0, [], [0], []), (2, 1, .iconst 1, [], [1], []), (3, 3, .invokestatic 33, [3, 0, 6122, 6123, 1013, 0], [], [sgX11_isIn]), (6, 3, .ifCond .eq 29, [35], [], []), (9, 1, .iload_n 2, [2], [], []), (10, 1, .iconst 0, [], [0], []), (11, 3, .sipush 255, [], [255], []), (14, 3, .invokestatic 33, [3, 0, 6122, 6123, 1013, 0], [], [sgX11_isIn]), (17, 3, .ifCond .eq 18, [35], [], []), (20, 1, .iload_n 1, [1], [], []), (21, 1, .iconst 1, [], [1], []), (22, 3, .if_icmp .ne 15, [37], [], []), (25, 1, .aload_n 0, [0], [], []), (26, 3, .getfield 7, [11, 0, 1, 6073], [], []), (29, 1, .iconst 2, [], [2], []), (30, 1, .iaload, [], [], []), (31, 1, .iconst 2, [], [2], []), (32, 3, .if_icmp .ne 5, [37], [], [])]
def bkX11_want_35 : List gw_E := [(35, 1, .iconst 0, [], [0], []), (36, 1, .ireturn, [1], [], [])]
def bkX11_want_37 : List gw_E := [(37, 1, .aload_n 0, [0], [], []), (38, 3, .invokevirtual 181, [0, 11, 6125, 6127, 23, 1013], [], [sgX11_keep]), (41, 1, .aload_n 0, [0], [], []), (42, 3, .getfield 7, [11, 0, 1, 6073], [], []), (45, 2, .bipush 17, [], [17], []), (47, 1, .iload_n 1, [1], [], []), (48, 1, .iadd, [], [], []), (49, 1, .iload_n 2, [2], [], []), (50, 1, .iastore, [], [], []), (51, 1, .aload_n 0, [0], [], []), (52, 3, .invokevirtual 187, [0, 11, 6165, 6167, 33, 1013], [], [sgX11_dealOut]), (55, 1, .iconst 1, [], [1], []), (56, 1, .ireturn, [1], [], [])]
def bsX11_want : List (Nat × List gw_E) := [(0, bkX11_want_0), (35, bkX11_want_35), (37, bkX11_want_37)]
theorem fdX11_want_0 : gw_find bsX11_want 0 = bkX11_want_0 := rfl
theorem fdX11_want_35 : gw_find bsX11_want 35 = bkX11_want_35 := rfl
theorem fdX11_want_37 : gw_find bsX11_want 37 = bkX11_want_37 := rfl
set_option maxRecDepth 40000 in
theorem stX11_want : gw_sta sgX11_want bsX11_want := ⟨by decide +kernel, gw_mem2 (i := 7018) rfl rfl, gw_all (by decide +kernel)⟩
def bkX11_touch_0 : List gw_E := [(0, 1, .iload_n 1, [1], [], []), (1, 3, .invokestatic 178, [1, 0, 6119, 6120, 1013, 0], [], [sgX11_isPage]), (4, 3, .ifCond .eq 28, [32], [], []), (7, 1, .iload_n 2, [2], [], []), (8, 1, .iconst 0, [], [0], []), (9, 1, .iconst 2, [], [2], []), (10, 3, .invokestatic 33, [3, 0, 6122, 6123, 1013, 0], [], [sgX11_isIn]), (13, 3, .ifCond .eq 19, [32], [], []), (16, 1, .iload_n 2, [2], [], []), (17, 1, .iconst 1, [], [1], []), (18, 3, .if_icmp .ne 16, [34], [], []), (21, 1, .iload_n 3, [3], [], []), (22, 1, .iconst 0, [], [0], []), (23, 3, .sipush 9999, [], [9999], []), (26, 3, .invokestatic 33, [3, 0, 6122, 6123, 1013, 0], [], [sgX11_isIn]), (29, 3, .ifCond .ne 5, [34], [], [])]
def bkX11_touch_32 : List gw_E := [(32, 1, .iconst (-1), [], [-1], []), (33, 1, .ireturn, [0], [], [])]
def bkX11_touch_34 : List gw_E := [(34, 1, .aload_n 0, [0], [], []), (35, 3, .invokevirtual 181, [0, 11, 6125, 6127, 23, 1013], [], [sgX11_keep]), (38, 1, .aload_n 0, [0], [], []), (39, 1, .iload_n 1, [1], [], []), (40, 1, .iload_n 2, [2], [], []), (41, 1, .iload_n 3, [3], [], []), (42, 3, .invokevirtual 202, [3, 11, 7023, 7025, 47, 1013], [], [sgX11_touchNow]), (45, 2, .istore 4, [4], [], []), (47, 1, .aload_n 0, [0], [], []), (48, 3, .invokevirtual 187, [0, 11, 6165, 6167, 33, 1013], [], [sgX11_dealOut]), (51, 2, .iload 4, [4], [], []), (53, 1, .ireturn, [0], [], [])]
def bsX11_touch : List (Nat × List gw_E) := [(0, bkX11_touch_0), (32, bkX11_touch_32), (34, bkX11_touch_34)]
theorem fdX11_touch_0 : gw_find bsX11_touch 0 = bkX11_touch_0 := rfl
theorem fdX11_touch_32 : gw_find bsX11_touch 32 = bkX11_touch_32 := rfl
theorem fdX11_touch_34 : gw_find bsX11_touch 34 = bkX11_touch_34 := rfl
set_option maxRecDepth 40000 in
theorem stX11_touch : gw_sta sgX11_touch bsX11_touch := ⟨by decide +kernel, gw_mem2 (i := 7022) rfl rfl, gw_all (by decide +kernel)⟩
def bkX11_event_0 : List gw_E := [(0, 1, .iload_n 1, [1], [], []), (1, 1, .iconst 0, [], [0], []), (2, 2, .bipush 7, [], [7], []), (4, 3, .invokestatic 33, [3, 0, 6122, 6123, 1013, 0], [], [sgX11_isIn]), (7, 3, .ifCond .ne 5, [12], [], []), (10, 1, .iconst (-1), [], [-1], []), (11, 1, .ireturn, [0], [], [])]
def bkX11_event_12 : List gw_E := [(12, 1, .aload_n 0, [0], [], []), (13, 3, .invokevirtual 181, [0, 11, 6125, 6127, 23, 1013], [], [sgX11_keep]), (16, 1, .aload_n 0, [0], [], []), (17, 1, .iload_n 1, [1], [], []), (18, 3, .invokevirtual 115, [1, 11, 7067, 7069, 58, 1013], [], [sgX11_eventNow]), (21, 1, .istore_n 2, [2], [], []), (22, 1, .aload_n 0, [0], [], []), (23, 3, .invokevirtual 187, [0, 11, 6165, 6167, 33, 1013], [], [sgX11_dealOut]), (26, 1, .iload_n 2, [2], [], []), (27, 1, .ireturn, [0], [], [])]
def bsX11_event : List (Nat × List gw_E) := [(0, bkX11_event_0), (12, bkX11_event_12)]
theorem fdX11_event_0 : gw_find bsX11_event 0 = bkX11_event_0 := rfl
theorem fdX11_event_12 : gw_find bsX11_event 12 = bkX11_event_12 := rfl
set_option maxRecDepth 40000 in
theorem stX11_event : gw_sta sgX11_event bsX11_event := ⟨by decide +kernel, gw_mem2 (i := 7094) rfl rfl, gw_all (by decide +kernel)⟩
def bkX11_enter_0 : List gw_E := [(0, 1, .aload_n 0, [0], [], []), (1, 3, .getfield 7, [11, 0, 1, 6073], [], []), (4, 1, .iconst 2, [], [2], []), (5, 1, .iaload, [], [], []), (6, 1, .iconst 2, [], [2], []), (7, 3, .if_icmp .ne 5, [12], [], []), (10, 1, .iconst 0, [], [0], []), (11, 1, .ireturn, [1], [], [])]
def bkX11_enter_12 : List gw_E := [(12, 1, .aload_n 0, [0], [], []), (13, 3, .invokevirtual 181, [0, 11, 6125, 6127, 23, 1013], [], [sgX11_keep]), (16, 1, .aload_n 0, [0], [], []), (17, 3, .invokevirtual 205, [0, 11, 7099, 7101, 64, 1013], [], [sgX11_enterNow]), (20, 1, .aload_n 0, [0], [], []), (21, 3, .invokevirtual 187, [0, 11, 6165, 6167, 33, 1013], [], [sgX11_dealOut]), (24, 1, .iconst 1, [], [1], []), (25, 1, .ireturn, [1], [], [])]
def bsX11_enter : List (Nat × List gw_E) := [(0, bkX11_enter_0), (12, bkX11_enter_12)]
theorem fdX11_enter_0 : gw_find bsX11_enter 0 = bkX11_enter_0 := rfl
theorem fdX11_enter_12 : gw_find bsX11_enter 12 = bkX11_enter_12 := rfl
set_option maxRecDepth 40000 in
theorem stX11_enter : gw_sta sgX11_enter bsX11_enter := ⟨by decide +kernel, gw_mem2 (i := 7098) rfl rfl, gw_all (by decide +kernel)⟩
def bkX11_send_0 : List gw_E := [(0, 1, .iload_n 1, [1], [], []), (1, 3, .invokestatic 208, [1, 0, 7107, 7108, 1013, 0], [], [sgX11_isGuest]), (4, 3, .ifCond .eq 47, [51], [], []), (7, 1, .iload_n 2, [2], [], []), (8, 1, .iconst 0, [], [0], []), (9, 2, .bipush 15, [], [15], []), (11, 3, .invokestatic 33, [3, 0, 6122, 6123, 1013, 0], [], [sgX11_isIn]), (14, 3, .ifCond .eq 37, [51], [], []), (17, 1, .iload_n 1, [1], [], []), (18, 1, .iconst 2, [], [2], []), (19, 3, .if_icmp .ne 13, [32], [], []), (22, 1, .aload_n 0, [0], [], []), (23, 3, .getfield 7, [11, 0, 1, 6073], [], []), (26, 1, .iconst 2, [], [2], []), (27, 1, .iaload, [], [], []), (28, 1, .iconst 2, [], [2], []), (29, 3, .if_icmp .eq 22, [51], [], [])]
def bkX11_send_32 : List gw_E := [(32, 1, .aload_n 0, [0], [], []), (33, 3, .getfield 7, [11, 0, 1, 6073], [], []), (36, 1, .aload_n 0, [0], [], []), (37, 1, .iload_n 1, [1], [], []), (38, 3, .invokevirtual 37, [1, 11, 6141, 6143, 27, 1013], [], [sgX11_guestAt]), (41, 1, .iconst 0, [], [0], []), (42, 1, .iadd, [], [], []), (43, 1, .iaload, [], [], []), (44, 1, .iload_n 2, [2], [], []), (45, 3, .invokestatic 29, [2, 0, 6176, 6177, 1013, 0], [], [sgX11_has]), (48, 3, .ifCond .eq 5, [53], [], [])]
def bkX11_send_51 : List gw_E := [(51, 1, .iconst 0, [], [0], []), (52, 1, .ireturn, [1], [], [])]
def bkX11_send_53 : List gw_E := [(53, 1, .aload_n 0, [0], [], []), (54, 3, .invokevirtual 181, [0, 11, 6125, 6127, 23, 1013], [], [sgX11_keep]), (57, 1, .aload_n 0, [0], [], []), (58, 1, .iload_n 1, [1], [], []), (59, 1, .iload_n 2, [2], [], []), (60, 3, .invokevirtual 169, [2, 11, 7110, 7112, 65, 1013], [], [sgX11_pend]), (63, 1, .aload_n 0, [0], [], []), (64, 3, .invokevirtual 187, [0, 11, 6165, 6167, 33, 1013], [], [sgX11_dealOut]), (67, 1, .iconst 1, [], [1], []), (68, 1, .ireturn, [1], [], [])]
def bsX11_send : List (Nat × List gw_E) := [(0, bkX11_send_0), (32, bkX11_send_32), (51, bkX11_send_51), (53, bkX11_send_53)]
theorem fdX11_send_0 : gw_find bsX11_send 0 = bkX11_send_0 := rfl
theorem fdX11_send_32 : gw_find bsX11_send 32 = bkX11_send_32 := rfl
theorem fdX11_send_51 : gw_find bsX11_send 51 = bkX11_send_51 := rfl
theorem fdX11_send_53 : gw_find bsX11_send 53 = bkX11_send_53 := rfl
set_option maxRecDepth 40000 in
theorem stX11_send : gw_sta sgX11_send bsX11_send := ⟨by decide +kernel, gw_mem2 (i := 7106) rfl rfl, gw_all (by decide +kernel)⟩
def bkX11_open_0 : List gw_E := [(0, 1, .iload_n 1, [1], [], []), (1, 3, .invokestatic 208, [1, 0, 7107, 7108, 1013, 0], [], [sgX11_isGuest]), (4, 3, .ifCond .ne 5, [9], [], []), (7, 1, .iconst 0, [], [0], []), (8, 1, .ireturn, [1], [], [])]
def bkX11_open_9 : List gw_E := [(9, 1, .aload_n 0, [0], [], []), (10, 3, .invokevirtual 181, [0, 11, 6125, 6127, 23, 1013], [], [sgX11_keep]), (13, 1, .aload_n 0, [0], [], []), (14, 3, .getfield 7, [11, 0, 1, 6073], [], []), (17, 1, .aload_n 0, [0], [], []), (18, 1, .iload_n 1, [1], [], []), (19, 3, .invokevirtual 37, [1, 11, 6141, 6143, 27, 1013], [], [sgX11_guestAt]), (22, 1, .iconst 2, [], [2], []), (23, 1, .iadd, [], [], []), (24, 1, .iload_n 2, [2], [], []), (25, 3, .ifCond .eq 7, [32], [], []), (28, 1, .iconst 1, [], [1], []), (29, 3, .goto 4, [33], [], [])]
def bkX11_open_32 : List gw_E := [(32, 1, .iconst 0, [], [0], [])]
def bkX11_open_33 : List gw_E := [(33, 1, .iastore, [], [], []), (34, 1, .aload_n 0, [0], [], []), (35, 3, .invokevirtual 187, [0, 11, 6165, 6167, 33, 1013], [], [sgX11_dealOut]), (38, 1, .iconst 1, [], [1], []), (39, 1, .ireturn, [1], [], [])]
def bsX11_open : List (Nat × List gw_E) := [(0, bkX11_open_0), (9, bkX11_open_9), (32, bkX11_open_32), (33, bkX11_open_33)]
theorem fdX11_open_0 : gw_find bsX11_open 0 = bkX11_open_0 := rfl
theorem fdX11_open_9 : gw_find bsX11_open 9 = bkX11_open_9 := rfl
theorem fdX11_open_32 : gw_find bsX11_open 32 = bkX11_open_32 := rfl
theorem fdX11_open_33 : gw_find bsX11_open 33 = bkX11_open_33 := rfl
set_option maxRecDepth 40000 in
theorem stX11_open : gw_sta sgX11_open bsX11_open := ⟨by decide +kernel, gw_mem2 (i := 7117) rfl rfl, gw_all (by decide +kernel)⟩
def bkX11_finish_0 : List gw_E := [(0, 1, .aload_n 0, [0], [], []), (1, 3, .getfield 7, [11, 0, 1, 6073], [], []), (4, 1, .aload_n 0, [0], [], []), (5, 1, .aload_n 0, [0], [], []), (6, 3, .getfield 7, [11, 0, 1, 6073], [], []), (9, 1, .iconst 2, [], [2], []), (10, 1, .iaload, [], [], []), (11, 3, .invokevirtual 37, [1, 11, 6141, 6143, 27, 1013], [], [sgX11_guestAt]), (14, 1, .iconst 1, [], [1], []), (15, 1, .iadd, [], [], []), (16, 1, .iaload, [], [], []), (17, 3, .ifCond .ne 5, [22], [], []), (20, 1, .iconst (-1), [], [-1], []), (21, 1, .ireturn, [0], [], [])]
def bkX11_finish_22 : List gw_E := [(22, 1, .aload_n 0, [0], [], []), (23, 3, .invokevirtual 181, [0, 11, 6125, 6127, 23, 1013], [], [sgX11_keep]), (26, 1, .aload_n 0, [0], [], []), (27, 1, .aload_n 0, [0], [], []), (28, 3, .getfield 7, [11, 0, 1, 6073], [], []), (31, 1, .iconst 2, [], [2], []), (32, 1, .iaload, [], [], []), (33, 3, .invokevirtual 211, [1, 11, 7122, 7124, 66, 1013], [], [sgX11_endNow]), (36, 1, .istore_n 1, [1], [], []), (37, 1, .aload_n 0, [0], [], []), (38, 3, .invokevirtual 187, [0, 11, 6165, 6167, 33, 1013], [], [sgX11_dealOut]), (41, 1, .iload_n 1, [1], [], []), (42, 1, .ireturn, [0], [], [])]
def bsX11_finish : List (Nat × List gw_E) := [(0, bkX11_finish_0), (22, bkX11_finish_22)]
theorem fdX11_finish_0 : gw_find bsX11_finish 0 = bkX11_finish_0 := rfl
theorem fdX11_finish_22 : gw_find bsX11_finish 22 = bkX11_finish_22 := rfl
set_option maxRecDepth 40000 in
theorem stX11_finish : gw_sta sgX11_finish bsX11_finish := ⟨by decide +kernel, gw_mem2 (i := 7121) rfl rfl, gw_all (by decide +kernel)⟩
def bkX11_hand_0 : List gw_E := [(0, 1, .iload_n 1, [1], [], []), (1, 1, .iconst 0, [], [0], []), (2, 1, .iconst 2, [], [2], []), (3, 3, .invokestatic 33, [3, 0, 6122, 6123, 1013, 0], [], [sgX11_isIn]), (6, 3, .ifCond .eq 24, [30], [], []), (9, 1, .iload_n 1, [1], [], []), (10, 1, .aload_n 0, [0], [], []), (11, 3, .getfield 7, [11, 0, 1, 6073], [], []), (14, 2, .bipush 15, [], [15], []), (16, 1, .iaload, [], [], []), (17, 3, .if_icmp .eq 13, [30], [], []), (20, 1, .aload_n 0, [0], [], []), (21, 3, .getfield 7, [11, 0, 1, 6073], [], []), (24, 1, .iconst 2, [], [2], []), (25, 1, .iaload, [], [], []), (26, 1, .iconst 2, [], [2], []), (27, 3, .if_icmp .ne 5, [32], [], [])]
def bkX11_hand_30 : List gw_E := [(30, 1, .iconst 0, [], [0], []), (31, 1, .ireturn, [1], [], [])]
def bkX11_hand_32 : List gw_E := [(32, 1, .aload_n 0, [0], [], []), (33, 3, .invokevirtual 181, [0, 11, 6125, 6127, 23, 1013], [], [sgX11_keep]), (36, 1, .aload_n 0, [0], [], []), (37, 1, .iload_n 1, [1], [], []), (38, 3, .invokevirtual 214, [1, 11, 7130, 7132, 67, 1013], [], [sgX11_handNow]), (41, 1, .aload_n 0, [0], [], []), (42, 3, .invokevirtual 187, [0, 11, 6165, 6167, 33, 1013], [], [sgX11_dealOut]), (45, 1, .iconst 1, [], [1], []), (46, 1, .ireturn, [1], [], [])]
def bsX11_hand : List (Nat × List gw_E) := [(0, bkX11_hand_0), (30, bkX11_hand_30), (32, bkX11_hand_32)]
theorem fdX11_hand_0 : gw_find bsX11_hand 0 = bkX11_hand_0 := rfl
theorem fdX11_hand_30 : gw_find bsX11_hand 30 = bkX11_hand_30 := rfl
theorem fdX11_hand_32 : gw_find bsX11_hand 32 = bkX11_hand_32 := rfl
set_option maxRecDepth 40000 in
theorem stX11_hand : gw_sta sgX11_hand bsX11_hand := ⟨by decide +kernel, gw_mem2 (i := 7129) rfl rfl, gw_all (by decide +kernel)⟩
def bkX11_scale_0 : List gw_E := [(0, 1, .iload_n 1, [1], [], []), (1, 3, .invokestatic 208, [1, 0, 7107, 7108, 1013, 0], [], [sgX11_isGuest]), (4, 3, .ifCond .eq 26, [30], [], []), (7, 1, .iload_n 2, [2], [], []), (8, 1, .iconst 1, [], [1], []), (9, 2, .bipush 64, [], [64], []), (11, 3, .invokestatic 33, [3, 0, 6122, 6123, 1013, 0], [], [sgX11_isIn]), (14, 3, .ifCond .eq 16, [30], [], []), (17, 1, .iload_n 3, [3], [], []), (18, 3, .sipush (-9999), [], [-9999], []), (21, 3, .sipush 9999, [], [9999], []), (24, 3, .invokestatic 33, [3, 0, 6122, 6123, 1013, 0], [], [sgX11_isIn]), (27, 3, .ifCond .ne 5, [32], [], [])]
def bkX11_scale_30 : List gw_E := [(30, 1, .iconst 0, [], [0], []), (31, 1, .ireturn, [1], [], [])]
def bkX11_scale_32 : List gw_E := [(32, 1, .aload_n 0, [0], [], []), (33, 3, .invokevirtual 181, [0, 11, 6125, 6127, 23, 1013], [], [sgX11_keep]), (36, 1, .aload_n 0, [0], [], []), (37, 3, .getfield 7, [11, 0, 1, 6073], [], []), (40, 1, .aload_n 0, [0], [], []), (41, 1, .iload_n 1, [1], [], []), (42, 3, .invokevirtual 37, [1, 11, 6141, 6143, 27, 1013], [], [sgX11_guestAt]), (45, 1, .iconst 3, [], [3], []), (46, 1, .iadd, [], [], []), (47, 1, .iload_n 2, [2], [], []), (48, 1, .iastore, [], [], []), (49, 1, .aload_n 0, [0], [], []), (50, 3, .getfield 7, [11, 0, 1, 6073], [], []), (53, 1, .aload_n 0, [0], [], []), (54, 1, .iload_n 1, [1], [], []), (55, 3, .invokevirtual 37, [1, 11, 6141, 6143, 27, 1013], [], [sgX11_guestAt]), (58, 1, .iconst 4, [], [4], []), (59, 1, .iadd, [], [], []), (60, 1, .iload_n 3, [3], [], []), (61, 1, .iastore, [], [], []), (62, 1, .aload_n 0, [0], [], []), (63, 3, .invokevirtual 187, [0, 11, 6165, 6167, 33, 1013], [], [sgX11_dealOut]), (66, 1, .iconst 1, [], [1], []), (67, 1, .ireturn, [1], [], [])]
def bsX11_scale : List (Nat × List gw_E) := [(0, bkX11_scale_0), (30, bkX11_scale_30), (32, bkX11_scale_32)]
theorem fdX11_scale_0 : gw_find bsX11_scale 0 = bkX11_scale_0 := rfl
theorem fdX11_scale_30 : gw_find bsX11_scale 30 = bkX11_scale_30 := rfl
theorem fdX11_scale_32 : gw_find bsX11_scale 32 = bkX11_scale_32 := rfl
set_option maxRecDepth 40000 in
theorem stX11_scale : gw_sta sgX11_scale bsX11_scale := ⟨by decide +kernel, gw_mem2 (i := 7141) rfl rfl, gw_all (by decide +kernel)⟩
def bkX11_timer_0 : List gw_E := [(0, 1, .iload_n 1, [1], [], []), (1, 1, .iconst 0, [], [0], []), (2, 1, .iconst 2, [], [2], []), (3, 3, .invokestatic 33, [3, 0, 6122, 6123, 1013, 0], [], [sgX11_isIn]), (6, 3, .ifCond .eq 36, [42], [], []), (9, 1, .iload_n 2, [2], [], []), (10, 2, .ldc 217, [7146], [-99999], []), (12, 2, .ldc 218, [7147], [999999], []), (14, 3, .invokestatic 33, [3, 0, 6122, 6123, 1013, 0], [], [sgX11_isIn]), (17, 3, .ifCond .eq 25, [42], [], []), (20, 1, .iload_n 3, [3], [], []), (21, 1, .iconst 0, [], [0], []), (22, 2, .bipush 15, [], [15], []), (24, 3, .invokestatic 33, [3, 0, 6122, 6123, 1013, 0], [], [sgX11_isIn]), (27, 3, .ifCond .eq 15, [42], [], []), (30, 1, .aload_n 0, [0], [], []), (31, 3, .getfield 7, [11, 0, 1, 6073], [], []), (34, 2, .bipush 26, [], [26], []), (36, 1, .iaload, [], [], []), (37, 2, .bipush 12, [], [12], []), (39, 3, .if_icmp .ne 5, [44], [], [])]
def bkX11_timer_42 : List gw_E := [(42, 1, .iconst (-1), [], [-1], []), (43, 1, .ireturn, [0], [], [])]
def bkX11_timer_44 : List gw_E := [(44, 1, .aload_n 0, [0], [], []), (45, 3, .invokevirtual 181, [0, 11, 6125, 6127, 23, 1013], [], [sgX11_keep]), (48, 3, .sipush 957, [], [957], []), (51, 1, .iconst 3, [], [3], []), (52, 1, .aload_n 0, [0], [], []), (53, 3, .getfield 7, [11, 0, 1, 6073], [], []), (56, 2, .bipush 26, [], [26], []), (58, 1, .iaload, [], [], []), (59, 1, .imul, [], [], []), (60, 1, .iadd, [], [], []), (61, 2, .istore 4, [4], [], []), (63, 1, .aload_n 0, [0], [], []), (64, 3, .getfield 7, [11, 0, 1, 6073], [], []), (67, 2, .iload 4, [4], [], []), (69, 1, .iload_n 1, [1], [], []), (70, 1, .iastore, [], [], []), (71, 1, .aload_n 0, [0], [], []), (72, 3, .getfield 7, [11, 0, 1, 6073], [], []), (75, 2, .iload 4, [4], [], []), (77, 1, .iconst 1, [], [1], []), (78, 1, .iadd, [], [], []), (79, 1, .iload_n 2, [2], [], []), (80, 1, .iastore, [], [], []), (81, 1, .aload_n 0, [0], [], []), (82, 3, .getfield 7, [11, 0, 1, 6073], [], []), (85, 2, .iload 4, [4], [], []), (87, 1, .iconst 2, [], [2], []), (88, 1, .iadd, [], [], []), (89, 1, .iload_n 3, [3], [], []), (90, 1, .iastore, [], [], []), (91, 1, .aload_n 0, [0], [], []), (92, 3, .getfield 7, [11, 0, 1, 6073], [], []), (95, 2, .bipush 26, [], [26], []), (97, 1, .dup2, [], [], []), (98, 1, .iaload, [], [], []), (99, 1, .iconst 1, [], [1], []), (100, 1, .iadd, [], [], []), (101, 1, .iastore, [], [], []), (102, 1, .aload_n 0, [0], [], []), (103, 3, .invokevirtual 187, [0, 11, 6165, 6167, 33, 1013], [], [sgX11_dealOut]), (106, 1, .aload_n 0, [0], [], []), (107, 3, .getfield 7, [11, 0, 1, 6073], [], []), (110, 2, .bipush 26, [], [26], []), (112, 1, .iaload, [], [], []), (113, 1, .ireturn, [0], [], [])]
def bsX11_timer : List (Nat × List gw_E) := [(0, bkX11_timer_0), (42, bkX11_timer_42), (44, bkX11_timer_44)]
theorem fdX11_timer_0 : gw_find bsX11_timer 0 = bkX11_timer_0 := rfl
theorem fdX11_timer_42 : gw_find bsX11_timer 42 = bkX11_timer_42 := rfl
theorem fdX11_timer_44 : gw_find bsX11_timer 44 = bkX11_timer_44 := rfl
set_option maxRecDepth 40000 in
theorem stX11_timer : gw_sta sgX11_timer bsX11_timer := ⟨by decide +kernel, gw_mem2 (i := 7145) rfl rfl, gw_all (by decide +kernel)⟩
def bkX11_cancel_0 : List gw_E := [(0, 1, .iload_n 1, [1], [], []), (1, 1, .iconst 0, [], [0], []), (2, 1, .aload_n 0, [0], [], []), (3, 3, .getfield 7, [11, 0, 1, 6073], [], []), (6, 2, .bipush 26, [], [26], []), (8, 1, .iaload, [], [], []), (9, 1, .iconst 1, [], [1], []), (10, 1, .isub, [], [], []), (11, 3, .invokestatic 33, [3, 0, 6122, 6123, 1013, 0], [], [sgX11_isIn]), (14, 3, .ifCond .ne 5, [19], [], []), (17, 1, .iconst 0, [], [0], []), (18, 1, .ireturn, [1], [], [])]
def bkX11_cancel_19 : List gw_E := [(19, 1, .aload_n 0, [0], [], []), (20, 3, .invokevirtual 181, [0, 11, 6125, 6127, 23, 1013], [], [sgX11_keep]), (23, 1, .aload_n 0, [0], [], []), (24, 1, .iload_n 1, [1], [], []), (25, 3, .invokevirtual 166, [1, 11, 7152, 7154, 69, 1013], [], [sgX11_dropTimer]), (28, 1, .aload_n 0, [0], [], []), (29, 3, .invokevirtual 187, [0, 11, 6165, 6167, 33, 1013], [], [sgX11_dealOut]), (32, 1, .iconst 1, [], [1], []), (33, 1, .ireturn, [1], [], [])]
def bsX11_cancel : List (Nat × List gw_E) := [(0, bkX11_cancel_0), (19, bkX11_cancel_19)]
theorem fdX11_cancel_0 : gw_find bsX11_cancel 0 = bkX11_cancel_0 := rfl
theorem fdX11_cancel_19 : gw_find bsX11_cancel 19 = bkX11_cancel_19 := rfl
set_option maxRecDepth 40000 in
theorem stX11_cancel : gw_sta sgX11_cancel bsX11_cancel := ⟨by decide +kernel, gw_mem2 (i := 7151) rfl rfl, gw_all (by decide +kernel)⟩
def bkX11_isHandled_0 : List gw_E := [(0, 1, .iload_n 0, [0], [], []), (1, 1, .iconst 1, [], [1], []), (2, 3, .if_icmp .eq 20, [22], [], []), (5, 1, .iload_n 0, [0], [], []), (6, 1, .iconst 4, [], [4], []), (7, 3, .if_icmp .eq 15, [22], [], []), (10, 1, .iload_n 0, [0], [], []), (11, 2, .bipush 6, [], [6], []), (13, 3, .if_icmp .eq 9, [22], [], []), (16, 1, .iload_n 0, [0], [], []), (17, 2, .bipush 8, [], [8], []), (19, 3, .if_icmp .ne 7, [26], [], [])]
def bkX11_isHandled_22 : List gw_E := [(22, 1, .iconst 1, [], [1], []), (23, 3, .goto 4, [27], [], [])]
def bkX11_isHandled_26 : List gw_E := [(26, 1, .iconst 0, [], [0], [])]
def bkX11_isHandled_27 : List gw_E := [(27, 1, .ireturn, [1], [], [])]
def bsX11_isHandled : List (Nat × List gw_E) := [(0, bkX11_isHandled_0), (22, bkX11_isHandled_22), (26, bkX11_isHandled_26), (27, bkX11_isHandled_27)]
theorem fdX11_isHandled_0 : gw_find bsX11_isHandled 0 = bkX11_isHandled_0 := rfl
theorem fdX11_isHandled_22 : gw_find bsX11_isHandled 22 = bkX11_isHandled_22 := rfl
theorem fdX11_isHandled_26 : gw_find bsX11_isHandled 26 = bkX11_isHandled_26 := rfl
theorem fdX11_isHandled_27 : gw_find bsX11_isHandled 27 = bkX11_isHandled_27 := rfl
set_option maxRecDepth 40000 in
theorem stX11_isHandled : gw_sta sgX11_isHandled bsX11_isHandled := ⟨by decide +kernel, gw_mem2 (i := 7162) rfl rfl, gw_all (by decide +kernel)⟩
def bkX11_handler_0 : List gw_E := [(0, 1, .iload_n 1, [1], [], []), (1, 3, .invokestatic 219, [1, 0, 7160, 7161, 1013, 0], [], [sgX11_isHandled]), (4, 3, .ifCond .eq 13, [17], [], []), (7, 1, .iload_n 2, [2], [], []), (8, 1, .iconst (-1), [], [-1], []), (9, 2, .bipush 23, [], [23], []), (11, 3, .invokestatic 33, [3, 0, 6122, 6123, 1013, 0], [], [sgX11_isIn]), (14, 3, .ifCond .ne 5, [19], [], [])]
def bkX11_handler_17 : List gw_E := [(17, 1, .iconst 0, [], [0], []), (18, 1, .ireturn, [1], [], [])]
def bkX11_handler_19 : List gw_E := [(19, 1, .aload_n 0, [0], [], []), (20, 3, .invokevirtual 181, [0, 11, 6125, 6127, 23, 1013], [], [sgX11_keep]), (23, 1, .aload_n 0, [0], [], []), (24, 3, .getfield 7, [11, 0, 1, 6073], [], []), (27, 3, .sipush 828, [], [828], []), (30, 1, .iload_n 1, [1], [], []), (31, 1, .iadd, [], [], []), (32, 1, .iload_n 2, [2], [], []), (33, 1, .iastore, [], [], []), (34, 1, .aload_n 0, [0], [], []), (35, 3, .invokevirtual 187, [0, 11, 6165, 6167, 33, 1013], [], [sgX11_dealOut]), (38, 1, .iconst 1, [], [1], []), (39, 1, .ireturn, [1], [], [])]
def bsX11_handler : List (Nat × List gw_E) := [(0, bkX11_handler_0), (17, bkX11_handler_17), (19, bkX11_handler_19)]
theorem fdX11_handler_0 : gw_find bsX11_handler 0 = bkX11_handler_0 := rfl
theorem fdX11_handler_17 : gw_find bsX11_handler 17 = bkX11_handler_17 := rfl
theorem fdX11_handler_19 : gw_find bsX11_handler 19 = bkX11_handler_19 := rfl
set_option maxRecDepth 40000 in
theorem stX11_handler : gw_sta sgX11_handler bsX11_handler := ⟨by decide +kernel, gw_mem2 (i := 7159) rfl rfl, gw_all (by decide +kernel)⟩
def bkX11_slice_0 : List gw_E := [(0, 1, .iload_n 1, [1], [], []), (1, 1, .iconst 0, [], [0], []), (2, 2, .bipush 99, [], [99], []), (4, 3, .invokestatic 33, [3, 0, 6122, 6123, 1013, 0], [], [sgX11_isIn]), (7, 3, .ifCond .ne 5, [12], [], []), (10, 1, .iconst 0, [], [0], []), (11, 1, .ireturn, [1], [], [])]
def bkX11_slice_12 : List gw_E := [(12, 1, .aload_n 0, [0], [], []), (13, 3, .invokevirtual 181, [0, 11, 6125, 6127, 23, 1013], [], [sgX11_keep]), (16, 1, .aload_n 0, [0], [], []), (17, 3, .getfield 7, [11, 0, 1, 6073], [], []), (20, 2, .bipush 11, [], [11], []), (22, 1, .iload_n 1, [1], [], []), (23, 1, .iastore, [], [], []), (24, 1, .aload_n 0, [0], [], []), (25, 3, .invokevirtual 187, [0, 11, 6165, 6167, 33, 1013], [], [sgX11_dealOut]), (28, 1, .iconst 1, [], [1], []), (29, 1, .ireturn, [1], [], [])]
def bsX11_slice : List (Nat × List gw_E) := [(0, bkX11_slice_0), (12, bkX11_slice_12)]
theorem fdX11_slice_0 : gw_find bsX11_slice 0 = bkX11_slice_0 := rfl
theorem fdX11_slice_12 : gw_find bsX11_slice 12 = bkX11_slice_12 := rfl
set_option maxRecDepth 40000 in
theorem stX11_slice : gw_sta sgX11_slice bsX11_slice := ⟨by decide +kernel, gw_mem2 (i := 7166) rfl rfl, gw_all (by decide +kernel)⟩
def bkX11_forget_0 : List gw_E := [(0, 1, .aload_n 0, [0], [], []), (1, 3, .invokevirtual 181, [0, 11, 6125, 6127, 23, 1013], [], [sgX11_keep]), (4, 1, .aload_n 0, [0], [], []), (5, 3, .getfield 7, [11, 0, 1, 6073], [], []), (8, 2, .bipush 21, [], [21], []), (10, 1, .iaload, [], [], []), (11, 3, .invokestatic 222, [1, 0, 7171, 7172, 1013, 0], [], [sgX11_many]), (14, 1, .istore_n 1, [1], [], []), (15, 1, .aload_n 0, [0], [], []), (16, 3, .getfield 7, [11, 0, 1, 6073], [], []), (19, 2, .bipush 21, [], [21], []), (21, 1, .iconst 0, [], [0], []), (22, 1, .iastore, [], [], []), (23, 1, .aload_n 0, [0], [], []), (24, 3, .invokevirtual 187, [0, 11, 6165, 6167, 33, 1013], [], [sgX11_dealOut]), (27, 1, .iload_n 1, [1], [], []), (28, 1, .ireturn, [0], [], [])]
def bsX11_forget : List (Nat × List gw_E) := [(0, bkX11_forget_0)]
theorem fdX11_forget_0 : gw_find bsX11_forget 0 = bkX11_forget_0 := rfl
set_option maxRecDepth 40000 in
theorem stX11_forget : gw_sta sgX11_forget bsX11_forget := ⟨by decide +kernel, gw_mem2 (i := 7170) rfl rfl, gw_all (by decide +kernel)⟩
def bkX11_pass_0 : List gw_E := [(0, 1, .iload_n 1, [1], [], []), (1, 1, .iconst 1, [], [1], []), (2, 3, .sipush 200, [], [200], []), (5, 3, .invokestatic 33, [3, 0, 6122, 6123, 1013, 0], [], [sgX11_isIn]), (8, 3, .ifCond .eq 16, [24], [], []), (11, 1, .aload_n 0, [0], [], []), (12, 3, .getfield 7, [11, 0, 1, 6073], [], []), (15, 1, .iconst 3, [], [3], []), (16, 1, .iaload, [], [], []), (17, 1, .iload_n 1, [1], [], []), (18, 1, .iadd, [], [], []), (19, 2, .ldc 225, [7178], [99999], []), (21, 3, .if_icmp .le 5, [26], [], [])]
def bkX11_pass_24 : List gw_E := [(24, 1, .iconst (-1), [], [-1], []), (25, 1, .ireturn, [0], [], [])]
def bkX11_pass_26 : List gw_E := [(26, 1, .aload_n 0, [0], [], []), (27, 3, .invokevirtual 181, [0, 11, 6125, 6127, 23, 1013], [], [sgX11_keep]), (30, 1, .iconst 0, [], [0], []), (31, 1, .istore_n 2, [2], [], []), (32, 1, .iconst 0, [], [0], []), (33, 1, .istore_n 3, [3], [], [])]
def bkX11_pass_34 : List gw_E := [(34, 1, .iload_n 3, [3], [], []), (35, 1, .iload_n 1, [1], [], []), (36, 3, .if_icmp .ge 20, [56], [], []), (39, 1, .iload_n 2, [2], [], []), (40, 1, .aload_n 0, [0], [], []), (41, 3, .invokevirtual 226, [0, 11, 7179, 7181, 70, 1013], [], [sgX11_tick]), (44, 1, .iadd, [], [], []), (45, 1, .istore_n 2, [2], [], []), (46, 1, .aload_n 0, [0], [], []), (47, 3, .invokevirtual 187, [0, 11, 6165, 6167, 33, 1013], [], [sgX11_dealOut]), (50, 3, .iinc 3 1, [3], [1], []), (53, 3, .goto (-19), [34], [], [])]
def bkX11_pass_56 : List gw_E := [(56, 1, .iload_n 2, [2], [], []), (57, 1, .ireturn, [0], [], [])]
def bsX11_pass : List (Nat × List gw_E) := [(0, bkX11_pass_0), (24, bkX11_pass_24), (26, bkX11_pass_26), (34, bkX11_pass_34), (56, bkX11_pass_56)]
theorem fdX11_pass_0 : gw_find bsX11_pass 0 = bkX11_pass_0 := rfl
theorem fdX11_pass_24 : gw_find bsX11_pass 24 = bkX11_pass_24 := rfl
theorem fdX11_pass_26 : gw_find bsX11_pass 26 = bkX11_pass_26 := rfl
theorem fdX11_pass_34 : gw_find bsX11_pass 34 = bkX11_pass_34 := rfl
theorem fdX11_pass_56 : gw_find bsX11_pass 56 = bkX11_pass_56 := rfl
set_option maxRecDepth 40000 in
theorem stX11_pass : gw_sta sgX11_pass bsX11_pass := ⟨by decide +kernel, gw_mem2 (i := 7177) rfl rfl, gw_all (by decide +kernel)⟩
def bkX11_needs_0 : List gw_E := [(0, 1, .iload_n 1, [1], [], []), (1, 1, .iconst 0, [], [0], []), (2, 1, .iload_n 0, [0], [], []), (3, 1, .iconst 1, [], [1], []), (4, 3, .if_icmp .ne 8, [12], [], []), (7, 2, .bipush 11, [], [11], []), (9, 3, .goto 5, [14], [], [])]
def bkX11_needs_12 : List gw_E := [(12, 2, .bipush 9, [], [9], [])]
def bkX11_needs_14 : List gw_E := [(14, 3, .invokestatic 33, [3, 0, 6122, 6123, 1013, 0], [], [sgX11_isIn]), (17, 3, .ifCond .ne 5, [22], [], []), (20, 1, .iconst (-1), [], [-1], []), (21, 1, .ireturn, [0], [], [])]
def bkX11_needs_22 : List gw_E := [(22, 1, .iload_n 1, [1], [], []), (23, 57, .tableswitch 98 0 10 #[57, 59, 57, 57, 61, 61, 63, 74, 98, 85, 96], [121, 80, 82, 80, 80, 84, 84, 86, 97, 121, 108, 119], [0], [])]
def bkX11_needs_80 : List gw_E := [(80, 1, .iconst 1, [], [1], []), (81, 1, .ireturn, [0], [], [])]
def bkX11_needs_82 : List gw_E := [(82, 1, .iconst 2, [], [2], []), (83, 1, .ireturn, [0], [], [])]
def bkX11_needs_84 : List gw_E := [(84, 1, .iconst 0, [], [0], []), (85, 1, .ireturn, [0], [], [])]
def bkX11_needs_86 : List gw_E := [(86, 1, .iload_n 0, [0], [], []), (87, 1, .iconst 1, [], [1], []), (88, 3, .if_icmp .ne 7, [95], [], []), (91, 1, .iconst 0, [], [0], []), (92, 3, .goto 4, [96], [], [])]
def bkX11_needs_95 : List gw_E := [(95, 1, .iconst 2, [], [2], [])]
def bkX11_needs_96 : List gw_E := [(96, 1, .ireturn, [0], [], [])]
def bkX11_needs_97 : List gw_E := [(97, 1, .iload_n 0, [0], [], []), (98, 1, .iconst 1, [], [1], []), (99, 3, .if_icmp .ne 7, [106], [], []), (102, 1, .iconst 2, [], [2], []), (103, 3, .goto 4, [107], [], [])]
def bkX11_needs_106 : List gw_E := [(106, 1, .iconst 0, [], [0], [])]
def bkX11_needs_107 : List gw_E := [(107, 1, .ireturn, [0], [], [])]
def bkX11_needs_108 : List gw_E := [(108, 1, .iload_n 0, [0], [], []), (109, 1, .iconst 1, [], [1], []), (110, 3, .if_icmp .ne 7, [117], [], []), (113, 1, .iconst 1, [], [1], []), (114, 3, .goto 4, [118], [], [])]
def bkX11_needs_117 : List gw_E := [(117, 1, .iconst 0, [], [0], [])]
def bkX11_needs_118 : List gw_E := [(118, 1, .ireturn, [0], [], [])]
def bkX11_needs_119 : List gw_E := [(119, 1, .iconst 0, [], [0], []), (120, 1, .ireturn, [0], [], [])]
def bkX11_needs_121 : List gw_E := [(121, 1, .iconst 1, [], [1], []), (122, 1, .ireturn, [0], [], [])]
def bsX11_needs : List (Nat × List gw_E) := [(0, bkX11_needs_0), (12, bkX11_needs_12), (14, bkX11_needs_14), (22, bkX11_needs_22), (80, bkX11_needs_80), (82, bkX11_needs_82), (84, bkX11_needs_84), (86, bkX11_needs_86), (95, bkX11_needs_95), (96, bkX11_needs_96), (97, bkX11_needs_97), (106, bkX11_needs_106), (107, bkX11_needs_107), (108, bkX11_needs_108), (117, bkX11_needs_117), (118, bkX11_needs_118), (119, bkX11_needs_119), (121, bkX11_needs_121)]
theorem fdX11_needs_0 : gw_find bsX11_needs 0 = bkX11_needs_0 := rfl
theorem fdX11_needs_12 : gw_find bsX11_needs 12 = bkX11_needs_12 := rfl
theorem fdX11_needs_14 : gw_find bsX11_needs 14 = bkX11_needs_14 := rfl
theorem fdX11_needs_22 : gw_find bsX11_needs 22 = bkX11_needs_22 := rfl
theorem fdX11_needs_80 : gw_find bsX11_needs 80 = bkX11_needs_80 := rfl
theorem fdX11_needs_82 : gw_find bsX11_needs 82 = bkX11_needs_82 := rfl
theorem fdX11_needs_84 : gw_find bsX11_needs 84 = bkX11_needs_84 := rfl
theorem fdX11_needs_86 : gw_find bsX11_needs 86 = bkX11_needs_86 := rfl
theorem fdX11_needs_95 : gw_find bsX11_needs 95 = bkX11_needs_95 := rfl
theorem fdX11_needs_96 : gw_find bsX11_needs 96 = bkX11_needs_96 := rfl
theorem fdX11_needs_97 : gw_find bsX11_needs 97 = bkX11_needs_97 := rfl
theorem fdX11_needs_106 : gw_find bsX11_needs 106 = bkX11_needs_106 := rfl
theorem fdX11_needs_107 : gw_find bsX11_needs 107 = bkX11_needs_107 := rfl
theorem fdX11_needs_108 : gw_find bsX11_needs 108 = bkX11_needs_108 := rfl
theorem fdX11_needs_117 : gw_find bsX11_needs 117 = bkX11_needs_117 := rfl
theorem fdX11_needs_118 : gw_find bsX11_needs 118 = bkX11_needs_118 := rfl
theorem fdX11_needs_119 : gw_find bsX11_needs 119 = bkX11_needs_119 := rfl
theorem fdX11_needs_121 : gw_find bsX11_needs 121 = bkX11_needs_121 := rfl
set_option maxRecDepth 40000 in
theorem stX11_needs : gw_sta sgX11_needs bsX11_needs := ⟨by decide +kernel, gw_mem2 (i := 7212) rfl rfl, gw_all (by decide +kernel)⟩
def bkX11_isAct_0 : List gw_E := [(0, 1, .iload_n 0, [0], [], []), (1, 1, .iload_n 1, [1], [], []), (2, 3, .invokestatic 229, [2, 0, 7210, 7211, 1013, 0], [], [sgX11_needs]), (5, 2, .istore 4, [4], [], []), (7, 1, .iload_n 1, [1], [], []), (8, 1, .iconst 3, [], [3], []), (9, 3, .if_icmp .ne 8, [17], [], []), (12, 2, .bipush 7, [], [7], []), (14, 3, .goto 15, [29], [], [])]
def bkX11_isAct_17 : List gw_E := [(17, 1, .iload_n 1, [1], [], []), (18, 2, .bipush 11, [], [11], []), (20, 3, .if_icmp .ne 7, [27], [], []), (23, 1, .iconst 2, [], [2], []), (24, 3, .goto 5, [29], [], [])]
def bkX11_isAct_27 : List gw_E := [(27, 2, .bipush 15, [], [15], [])]
def bkX11_isAct_29 : List gw_E := [(29, 2, .istore 5, [5], [], []), (31, 1, .iload_n 1, [1], [], []), (32, 1, .iconst 1, [], [1], []), (33, 3, .if_icmp .ne 9, [42], [], []), (36, 3, .sipush 9999, [], [9999], []), (39, 3, .goto 5, [44], [], [])]
def bkX11_isAct_42 : List gw_E := [(42, 2, .bipush 15, [], [15], [])]
def bkX11_isAct_44 : List gw_E := [(44, 2, .istore 6, [6], [], []), (46, 2, .iload 4, [4], [], []), (48, 1, .iconst (-1), [], [-1], []), (49, 3, .if_icmp .eq 46, [95], [], []), (52, 1, .iload_n 2, [2], [], []), (53, 1, .iconst 0, [], [0], []), (54, 2, .iload 4, [4], [], []), (56, 3, .ifCond .le 8, [64], [], []), (59, 2, .iload 5, [5], [], []), (61, 3, .goto 4, [65], [], [])]
def bkX11_isAct_64 : List gw_E := [(64, 1, .iconst 0, [], [0], [])]
def bkX11_isAct_65 : List gw_E := [(65, 3, .invokestatic 33, [3, 0, 6122, 6123, 1013, 0], [], [sgX11_isIn]), (68, 3, .ifCond .eq 27, [95], [], []), (71, 1, .iload_n 3, [3], [], []), (72, 1, .iconst 0, [], [0], []), (73, 2, .iload 4, [4], [], []), (75, 1, .iconst 1, [], [1], []), (76, 3, .if_icmp .le 8, [84], [], []), (79, 2, .iload 6, [6], [], []), (81, 3, .goto 4, [85], [], [])]
def bkX11_isAct_84 : List gw_E := [(84, 1, .iconst 0, [], [0], [])]
def bkX11_isAct_85 : List gw_E := [(85, 3, .invokestatic 33, [3, 0, 6122, 6123, 1013, 0], [], [sgX11_isIn]), (88, 3, .ifCond .eq 7, [95], [], []), (91, 1, .iconst 1, [], [1], []), (92, 3, .goto 4, [96], [], [])]
def bkX11_isAct_95 : List gw_E := [(95, 1, .iconst 0, [], [0], [])]
def bkX11_isAct_96 : List gw_E := [(96, 1, .ireturn, [1], [], [])]
def bsX11_isAct : List (Nat × List gw_E) := [(0, bkX11_isAct_0), (17, bkX11_isAct_17), (27, bkX11_isAct_27), (29, bkX11_isAct_29), (42, bkX11_isAct_42), (44, bkX11_isAct_44), (64, bkX11_isAct_64), (65, bkX11_isAct_65), (84, bkX11_isAct_84), (85, bkX11_isAct_85), (95, bkX11_isAct_95), (96, bkX11_isAct_96)]
theorem fdX11_isAct_0 : gw_find bsX11_isAct 0 = bkX11_isAct_0 := rfl
theorem fdX11_isAct_17 : gw_find bsX11_isAct 17 = bkX11_isAct_17 := rfl
theorem fdX11_isAct_27 : gw_find bsX11_isAct 27 = bkX11_isAct_27 := rfl
theorem fdX11_isAct_29 : gw_find bsX11_isAct 29 = bkX11_isAct_29 := rfl
theorem fdX11_isAct_42 : gw_find bsX11_isAct 42 = bkX11_isAct_42 := rfl
theorem fdX11_isAct_44 : gw_find bsX11_isAct 44 = bkX11_isAct_44 := rfl
theorem fdX11_isAct_64 : gw_find bsX11_isAct 64 = bkX11_isAct_64 := rfl
theorem fdX11_isAct_65 : gw_find bsX11_isAct 65 = bkX11_isAct_65 := rfl
theorem fdX11_isAct_84 : gw_find bsX11_isAct 84 = bkX11_isAct_84 := rfl
theorem fdX11_isAct_85 : gw_find bsX11_isAct 85 = bkX11_isAct_85 := rfl
theorem fdX11_isAct_95 : gw_find bsX11_isAct 95 = bkX11_isAct_95 := rfl
theorem fdX11_isAct_96 : gw_find bsX11_isAct 96 = bkX11_isAct_96 := rfl
set_option maxRecDepth 40000 in
theorem stX11_isAct : gw_sta sgX11_isAct bsX11_isAct := ⟨by decide +kernel, gw_mem2 (i := 7209) rfl rfl, gw_all (by decide +kernel)⟩
def bkX11_act_0 : List gw_E := [(0, 1, .iload_n 1, [1], [], []), (1, 3, .invokestatic 208, [1, 0, 7107, 7108, 1013, 0], [], [sgX11_isGuest]), (4, 3, .ifCond .eq 32, [36], [], []), (7, 1, .iload_n 1, [1], [], []), (8, 1, .iload_n 2, [2], [], []), (9, 1, .iload_n 3, [3], [], []), (10, 2, .iload 4, [4], [], []), (12, 3, .invokestatic 232, [4, 0, 7207, 7208, 1013, 0], [], [sgX11_isAct]), (15, 3, .ifCond .eq 21, [36], [], []), (18, 1, .aload_n 0, [0], [], []), (19, 3, .getfield 7, [11, 0, 1, 6073], [], []), (22, 1, .aload_n 0, [0], [], []), (23, 1, .iload_n 1, [1], [], []), (24, 3, .invokevirtual 37, [1, 11, 6141, 6143, 27, 1013], [], [sgX11_guestAt]), (27, 2, .bipush 6, [], [6], []), (29, 1, .iadd, [], [], []), (30, 1, .iaload, [], [], []), (31, 2, .bipush 24, [], [24], []), (33, 3, .if_icmp .ne 5, [38], [], [])]
def bkX11_act_36 : List gw_E := [(36, 1, .iconst (-1), [], [-1], []), (37, 1, .ireturn, [0], [], [])]
def bkX11_act_38 : List gw_E := [(38, 1, .aload_n 0, [0], [], []), (39, 3, .invokevirtual 181, [0, 11, 6125, 6127, 23, 1013], [], [sgX11_keep]), (42, 1, .aload_n 0, [0], [], []), (43, 1, .iload_n 1, [1], [], []), (44, 3, .invokevirtual 37, [1, 11, 6141, 6143, 27, 1013], [], [sgX11_guestAt]), (47, 2, .istore 5, [5], [], []), (49, 2, .iload 5, [5], [], []), (51, 2, .bipush 7, [], [7], []), (53, 1, .iadd, [], [], []), (54, 1, .iconst 3, [], [3], []), (55, 1, .aload_n 0, [0], [], []), (56, 3, .getfield 7, [11, 0, 1, 6073], [], []), (59, 2, .iload 5, [5], [], []), (61, 2, .bipush 6, [], [6], []), (63, 1, .iadd, [], [], []), (64, 1, .iaload, [], [], []), (65, 1, .imul, [], [], []), (66, 1, .iadd, [], [], []), (67, 2, .istore 6, [6], [], []), (69, 1, .aload_n 0, [0], [], []), (70, 3, .getfield 7, [11, 0, 1, 6073], [], []), (73, 2, .iload 6, [6], [], []), (75, 1, .iload_n 2, [2], [], []), (76, 1, .iastore, [], [], []), (77, 1, .aload_n 0, [0], [], []), (78, 3, .getfield 7, [11, 0, 1, 6073], [], []), (81, 2, .iload 6, [6], [], []), (83, 1, .iconst 1, [], [1], []), (84, 1, .iadd, [], [], []), (85, 1, .iload_n 3, [3], [], []), (86, 1, .iastore, [], [], []), (87, 1, .aload_n 0, [0], [], []), (88, 3, .getfield 7, [11, 0, 1, 6073], [], []), (91, 2, .iload 6, [6], [], []), (93, 1, .iconst 2, [], [2], []), (94, 1, .iadd, [], [], []), (95, 2, .iload 4, [4], [], []), (97, 1, .iastore, [], [], []), (98, 1, .aload_n 0, [0], [], []), (99, 3, .getfield 7, [11, 0, 1, 6073], [], []), (102, 2, .iload 5, [5], [], []), (104, 2, .bipush 6, [], [6], []), (106, 1, .iadd, [], [], []), (107, 1, .dup2, [], [], []), (108, 1, .iaload, [], [], []), (109, 1, .iconst 1, [], [1], []), (110, 1, .iadd, [], [], []), (111, 1, .iastore, [], [], []), (112, 1, .aload_n 0, [0], [], []), (113, 3, .getfield 7, [11, 0, 1, 6073], [], []), (116, 2, .iload 5, [5], [], []), (118, 2, .bipush 6, [], [6], []), (120, 1, .iadd, [], [], []), (121, 1, .iaload, [], [], []), (122, 2, .istore 7, [7], [], []), (124, 1, .aload_n 0, [0], [], []), (125, 3, .invokevirtual 187, [0, 11, 6165, 6167, 33, 1013], [], [sgX11_dealOut]), (128, 2, .iload 7, [7], [], []), (130, 1, .ireturn, [0], [], [])]
def bsX11_act : List (Nat × List gw_E) := [(0, bkX11_act_0), (36, bkX11_act_36), (38, bkX11_act_38)]
theorem fdX11_act_0 : gw_find bsX11_act 0 = bkX11_act_0 := rfl
theorem fdX11_act_36 : gw_find bsX11_act 36 = bkX11_act_36 := rfl
theorem fdX11_act_38 : gw_find bsX11_act 38 = bkX11_act_38 := rfl
set_option maxRecDepth 40000 in
theorem stX11_act : gw_sta sgX11_act bsX11_act := ⟨by decide +kernel, gw_mem2 (i := 7206) rfl rfl, gw_all (by decide +kernel)⟩
def bkX11_wipe_0 : List gw_E := [(0, 1, .iload_n 1, [1], [], []), (1, 3, .invokestatic 208, [1, 0, 7107, 7108, 1013, 0], [], [sgX11_isGuest]), (4, 3, .ifCond .ne 5, [9], [], []), (7, 1, .iconst (-1), [], [-1], []), (8, 1, .ireturn, [0], [], [])]
def bkX11_wipe_9 : List gw_E := [(9, 1, .aload_n 0, [0], [], []), (10, 3, .invokevirtual 181, [0, 11, 6125, 6127, 23, 1013], [], [sgX11_keep]), (13, 1, .aload_n 0, [0], [], []), (14, 1, .iload_n 1, [1], [], []), (15, 3, .invokevirtual 37, [1, 11, 6141, 6143, 27, 1013], [], [sgX11_guestAt]), (18, 1, .istore_n 2, [2], [], []), (19, 1, .aload_n 0, [0], [], []), (20, 3, .getfield 7, [11, 0, 1, 6073], [], []), (23, 1, .iload_n 2, [2], [], []), (24, 2, .bipush 6, [], [6], []), (26, 1, .iadd, [], [], []), (27, 1, .iaload, [], [], []), (28, 1, .istore_n 3, [3], [], []), (29, 1, .iconst 5, [], [5], []), (30, 2, .istore 4, [4], [], [])]
def bkX11_wipe_32 : List gw_E := [(32, 2, .iload 4, [4], [], []), (34, 2, .bipush 79, [], [79], []), (36, 3, .if_icmp .ge 19, [55], [], []), (39, 1, .aload_n 0, [0], [], []), (40, 3, .getfield 7, [11, 0, 1, 6073], [], []), (43, 1, .iload_n 2, [2], [], []), (44, 2, .iload 4, [4], [], []), (46, 1, .iadd, [], [], []), (47, 1, .iconst 0, [], [0], []), (48, 1, .iastore, [], [], []), (49, 3, .iinc 4 1, [4], [1], []), (52, 3, .goto (-20), [32], [], [])]
def bkX11_wipe_55 : List gw_E := [(55, 1, .aload_n 0, [0], [], []), (56, 3, .invokevirtual 187, [0, 11, 6165, 6167, 33, 1013], [], [sgX11_dealOut]), (59, 1, .iload_n 3, [3], [], []), (60, 1, .ireturn, [0], [], [])]
def bsX11_wipe : List (Nat × List gw_E) := [(0, bkX11_wipe_0), (9, bkX11_wipe_9), (32, bkX11_wipe_32), (55, bkX11_wipe_55)]
theorem fdX11_wipe_0 : gw_find bsX11_wipe 0 = bkX11_wipe_0 := rfl
theorem fdX11_wipe_9 : gw_find bsX11_wipe 9 = bkX11_wipe_9 := rfl
theorem fdX11_wipe_32 : gw_find bsX11_wipe 32 = bkX11_wipe_32 := rfl
theorem fdX11_wipe_55 : gw_find bsX11_wipe 55 = bkX11_wipe_55 := rfl
set_option maxRecDepth 40000 in
theorem stX11_wipe : gw_sta sgX11_wipe bsX11_wipe := ⟨by decide +kernel, gw_mem2 (i := 7216) rfl rfl, gw_all (by decide +kernel)⟩
def bkX11_actOuter_0 : List gw_E := [(0, 1, .iload_n 1, [1], [], []), (1, 35, .tableswitch 101 6 10 #[35, 42, 54, 63, 92], [102, 36, 43, 55, 64, 93], [6], [])]
def bkX11_actOuter_36 : List gw_E := [(36, 1, .aload_n 0, [0], [], []), (37, 3, .invokevirtual 205, [0, 11, 7099, 7101, 64, 1013], [], [sgX11_enterNow]), (40, 3, .goto 78, [118], [], [])]
def bkX11_actOuter_43 : List gw_E := [(43, 1, .aload_n 0, [0], [], []), (44, 1, .iconst 1, [], [1], []), (45, 1, .iload_n 2, [2], [], []), (46, 1, .iload_n 3, [3], [], []), (47, 2, .bipush 7, [], [7], []), (49, 3, .invokevirtual 69, [4, 11, 6133, 6135, 25, 1013], [], [sgX11_layEntry]), (52, 3, .goto 66, [118], [], [])]
def bkX11_actOuter_55 : List gw_E := [(55, 1, .aload_n 0, [0], [], []), (56, 1, .iconst 2, [], [2], []), (57, 1, .iload_n 2, [2], [], []), (58, 3, .invokevirtual 169, [2, 11, 7110, 7112, 65, 1013], [], [sgX11_pend]), (61, 3, .goto 57, [118], [], [])]
def bkX11_actOuter_64 : List gw_E := [(64, 1, .aload_n 0, [0], [], []), (65, 3, .getfield 7, [11, 0, 1, 6073], [], []), (68, 2, .bipush 16, [], [16], []), (70, 1, .iaload, [], [], []), (71, 1, .iconst (-1), [], [-1], []), (72, 3, .if_icmp .eq 46, [118], [], []), (75, 1, .aload_n 0, [0], [], []), (76, 1, .iconst 1, [], [1], []), (77, 1, .aload_n 0, [0], [], []), (78, 3, .getfield 7, [11, 0, 1, 6073], [], []), (81, 2, .bipush 16, [], [16], []), (83, 1, .iaload, [], [], []), (84, 1, .iload_n 2, [2], [], []), (85, 2, .bipush 7, [], [7], []), (87, 3, .invokevirtual 69, [4, 11, 6133, 6135, 25, 1013], [], [sgX11_layEntry]), (90, 3, .goto 28, [118], [], [])]
def bkX11_actOuter_93 : List gw_E := [(93, 1, .aload_n 0, [0], [], []), (94, 1, .iconst 1, [], [1], []), (95, 3, .invokevirtual 211, [1, 11, 7122, 7124, 66, 1013], [], [sgX11_endNow]), (98, 1, .pop, [], [], []), (99, 3, .goto 19, [118], [], [])]
def bkX11_actOuter_102 : List gw_E := [(102, 1, .aload_n 0, [0], [], []), (103, 3, .getfield 7, [11, 0, 1, 6073], [], []), (106, 2, .bipush 15, [], [15], []), (108, 1, .iaload, [], [], []), (109, 1, .iload_n 2, [2], [], []), (110, 3, .if_icmp .eq 8, [118], [], []), (113, 1, .aload_n 0, [0], [], []), (114, 1, .iload_n 2, [2], [], []), (115, 3, .invokevirtual 214, [1, 11, 7130, 7132, 67, 1013], [], [sgX11_handNow])]
def bkX11_actOuter_118 : List gw_E := [(118, 1, .return_, [], [], [])]
def bsX11_actOuter : List (Nat × List gw_E) := [(0, bkX11_actOuter_0), (36, bkX11_actOuter_36), (43, bkX11_actOuter_43), (55, bkX11_actOuter_55), (64, bkX11_actOuter_64), (93, bkX11_actOuter_93), (102, bkX11_actOuter_102), (118, bkX11_actOuter_118)]
theorem fdX11_actOuter_0 : gw_find bsX11_actOuter 0 = bkX11_actOuter_0 := rfl
theorem fdX11_actOuter_36 : gw_find bsX11_actOuter 36 = bkX11_actOuter_36 := rfl
theorem fdX11_actOuter_43 : gw_find bsX11_actOuter 43 = bkX11_actOuter_43 := rfl
theorem fdX11_actOuter_55 : gw_find bsX11_actOuter 55 = bkX11_actOuter_55 := rfl
theorem fdX11_actOuter_64 : gw_find bsX11_actOuter 64 = bkX11_actOuter_64 := rfl
theorem fdX11_actOuter_93 : gw_find bsX11_actOuter 93 = bkX11_actOuter_93 := rfl
theorem fdX11_actOuter_102 : gw_find bsX11_actOuter 102 = bkX11_actOuter_102 := rfl
theorem fdX11_actOuter_118 : gw_find bsX11_actOuter 118 = bkX11_actOuter_118 := rfl
set_option maxRecDepth 40000 in
theorem stX11_actOuter : gw_sta sgX11_actOuter bsX11_actOuter := ⟨by decide +kernel, gw_mem2 (i := 8008) rfl rfl, gw_all (by decide +kernel)⟩
def bkX11_hasPlace_0 : List gw_E := [(0, 1, .iload_n 2, [2], [], []), (1, 1, .iconst 0, [], [0], []), (2, 1, .aload_n 0, [0], [], []), (3, 3, .getfield 7, [11, 0, 1, 6073], [], []), (6, 1, .iload_n 1, [1], [], []), (7, 2, .bipush 6, [], [6], []), (9, 1, .iadd, [], [], []), (10, 1, .iaload, [], [], []), (11, 1, .iconst 1, [], [1], []), (12, 1, .isub, [], [], []), (13, 3, .invokestatic 33, [3, 0, 6122, 6123, 1013, 0], [], [sgX11_isIn]), (16, 1, .ireturn, [1], [], [])]
def bsX11_hasPlace : List (Nat × List gw_E) := [(0, bkX11_hasPlace_0)]
theorem fdX11_hasPlace_0 : gw_find bsX11_hasPlace 0 = bkX11_hasPlace_0 := rfl
set_option maxRecDepth 40000 in
theorem stX11_hasPlace : gw_sta sgX11_hasPlace bsX11_hasPlace := ⟨by decide +kernel, gw_mem2 (i := 8004) rfl rfl, gw_all (by decide +kernel)⟩
def bkX11_actInner_0 : List gw_E := [(0, 1, .aload_n 0, [0], [], []), (1, 1, .iconst 2, [], [2], []), (2, 3, .invokevirtual 37, [1, 11, 6141, 6143, 27, 1013], [], [sgX11_guestAt]), (5, 2, .istore 4, [4], [], []), (7, 1, .iload_n 1, [1], [], []), (8, 28, .tableswitch 86 6 8 #[28, 40, 49], [94, 36, 48, 57], [6], [])]
def bkX11_actInner_36 : List gw_E := [(36, 1, .aload_n 0, [0], [], []), (37, 1, .iconst 0, [], [0], []), (38, 1, .iload_n 2, [2], [], []), (39, 1, .iload_n 3, [3], [], []), (40, 2, .bipush 7, [], [7], []), (42, 3, .invokevirtual 69, [4, 11, 6133, 6135, 25, 1013], [], [sgX11_layEntry]), (45, 3, .goto 93, [138], [], [])]
def bkX11_actInner_48 : List gw_E := [(48, 1, .aload_n 0, [0], [], []), (49, 1, .iconst 2, [], [2], []), (50, 3, .invokevirtual 211, [1, 11, 7122, 7124, 66, 1013], [], [sgX11_endNow]), (53, 1, .pop, [], [], []), (54, 3, .goto 84, [138], [], [])]
def bkX11_actInner_57 : List gw_E := [(57, 1, .aload_n 0, [0], [], []), (58, 3, .getfield 7, [11, 0, 1, 6073], [], []), (61, 2, .iload 4, [4], [], []), (63, 3, .sipush 144, [], [144], []), (66, 1, .iadd, [], [], []), (67, 1, .iaload, [], [], []), (68, 1, .iconst (-1), [], [-1], []), (69, 3, .if_icmp .eq 69, [138], [], []), (72, 1, .aload_n 0, [0], [], []), (73, 1, .iconst 0, [], [0], []), (74, 1, .aload_n 0, [0], [], []), (75, 3, .getfield 7, [11, 0, 1, 6073], [], []), (78, 2, .iload 4, [4], [], []), (80, 3, .sipush 144, [], [144], []), (83, 1, .iadd, [], [], []), (84, 1, .iaload, [], [], []), (85, 1, .iload_n 2, [2], [], []), (86, 2, .bipush 7, [], [7], []), (88, 3, .invokevirtual 69, [4, 11, 6133, 6135, 25, 1013], [], [sgX11_layEntry]), (91, 3, .goto 47, [138], [], [])]
def bkX11_actInner_94 : List gw_E := [(94, 1, .aload_n 0, [0], [], []), (95, 2, .iload 4, [4], [], []), (97, 1, .aload_n 0, [0], [], []), (98, 3, .getfield 7, [11, 0, 1, 6073], [], []), (101, 2, .iload 4, [4], [], []), (103, 3, .sipush 144, [], [144], []), (106, 1, .iadd, [], [], []), (107, 1, .iconst 1, [], [1], []), (108, 1, .iadd, [], [], []), (109, 1, .iaload, [], [], []), (110, 3, .invokevirtual 236, [2, 11, 8001, 8003, 81, 1013], [], [sgX11_hasPlace]), (113, 3, .ifCond .eq 25, [138], [], []), (116, 1, .aload_n 0, [0], [], []), (117, 3, .getfield 7, [11, 0, 1, 6073], [], []), (120, 2, .iload 4, [4], [], []), (122, 1, .iconst 5, [], [5], []), (123, 1, .iadd, [], [], []), (124, 1, .aload_n 0, [0], [], []), (125, 3, .getfield 7, [11, 0, 1, 6073], [], []), (128, 2, .iload 4, [4], [], []), (130, 3, .sipush 144, [], [144], []), (133, 1, .iadd, [], [], []), (134, 1, .iconst 1, [], [1], []), (135, 1, .iadd, [], [], []), (136, 1, .iaload, [], [], []), (137, 1, .iastore, [], [], [])]
def bkX11_actInner_138 : List gw_E := [(138, 1, .return_, [], [], [])]
def bsX11_actInner : List (Nat × List gw_E) := [(0, bkX11_actInner_0), (36, bkX11_actInner_36), (48, bkX11_actInner_48), (57, bkX11_actInner_57), (94, bkX11_actInner_94), (138, bkX11_actInner_138)]
theorem fdX11_actInner_0 : gw_find bsX11_actInner 0 = bkX11_actInner_0 := rfl
theorem fdX11_actInner_36 : gw_find bsX11_actInner 36 = bkX11_actInner_36 := rfl
theorem fdX11_actInner_48 : gw_find bsX11_actInner 48 = bkX11_actInner_48 := rfl
theorem fdX11_actInner_57 : gw_find bsX11_actInner 57 = bkX11_actInner_57 := rfl
theorem fdX11_actInner_94 : gw_find bsX11_actInner 94 = bkX11_actInner_94 := rfl
theorem fdX11_actInner_138 : gw_find bsX11_actInner 138 = bkX11_actInner_138 := rfl
set_option maxRecDepth 40000 in
theorem stX11_actInner : gw_sta sgX11_actInner bsX11_actInner := ⟨by decide +kernel, gw_mem2 (i := 8012) rfl rfl, gw_all (by decide +kernel)⟩
def bkX11_goOnBy_0 : List gw_E := [(0, 1, .iload_n 3, [3], [], []), (1, 2, .bipush (-3), [], [-3], []), (3, 3, .if_icmp .ne 12, [15], [], []), (6, 1, .aload_n 0, [0], [], []), (7, 3, .getfield 7, [11, 0, 1, 6073], [], []), (10, 1, .iload_n 1, [1], [], []), (11, 1, .iconst 5, [], [5], []), (12, 1, .iadd, [], [], []), (13, 1, .iload_n 2, [2], [], []), (14, 1, .iastore, [], [], [])]
def bkX11_goOnBy_15 : List gw_E := [(15, 2, .iload 4, [4], [], []), (17, 3, .ifCond .ne 4, [21], [], []), (20, 1, .return_, [], [], [])]
def bkX11_goOnBy_21 : List gw_E := [(21, 1, .aload_n 0, [0], [], []), (22, 3, .getfield 7, [11, 0, 1, 6073], [], []), (25, 1, .iload_n 1, [1], [], []), (26, 3, .sipush 144, [], [144], []), (29, 1, .iadd, [], [], []), (30, 1, .iconst 1, [], [1], []), (31, 1, .iadd, [], [], []), (32, 1, .iload_n 2, [2], [], []), (33, 1, .iastore, [], [], []), (34, 1, .aload_n 0, [0], [], []), (35, 1, .iload_n 1, [1], [], []), (36, 1, .aload_n 0, [0], [], []), (37, 3, .getfield 7, [11, 0, 1, 6073], [], []), (40, 1, .iload_n 1, [1], [], []), (41, 3, .sipush 143, [], [143], []), (44, 1, .iadd, [], [], []), (45, 1, .iaload, [], [], []), (46, 3, .invokevirtual 236, [2, 11, 8001, 8003, 81, 1013], [], [sgX11_hasPlace]), (49, 3, .ifCond .eq 21, [70], [], []), (52, 1, .aload_n 0, [0], [], []), (53, 3, .getfield 7, [11, 0, 1, 6073], [], []), (56, 1, .iload_n 1, [1], [], []), (57, 1, .iconst 5, [], [5], []), (58, 1, .iadd, [], [], []), (59, 1, .aload_n 0, [0], [], []), (60, 3, .getfield 7, [11, 0, 1, 6073], [], []), (63, 1, .iload_n 1, [1], [], []), (64, 3, .sipush 143, [], [143], []), (67, 1, .iadd, [], [], []), (68, 1, .iaload, [], [], []), (69, 1, .iastore, [], [], [])]
def bkX11_goOnBy_70 : List gw_E := [(70, 1, .return_, [], [], [])]
def bsX11_goOnBy : List (Nat × List gw_E) := [(0, bkX11_goOnBy_0), (15, bkX11_goOnBy_15), (21, bkX11_goOnBy_21), (70, bkX11_goOnBy_70)]
theorem fdX11_goOnBy_0 : gw_find bsX11_goOnBy 0 = bkX11_goOnBy_0 := rfl
theorem fdX11_goOnBy_15 : gw_find bsX11_goOnBy 15 = bkX11_goOnBy_15 := rfl
theorem fdX11_goOnBy_21 : gw_find bsX11_goOnBy 21 = bkX11_goOnBy_21 := rfl
theorem fdX11_goOnBy_70 : gw_find bsX11_goOnBy 70 = bkX11_goOnBy_70 := rfl
set_option maxRecDepth 40000 in
theorem stX11_goOnBy : gw_sta sgX11_goOnBy bsX11_goOnBy := ⟨by decide +kernel, gw_mem2 (i := 8000) rfl rfl, gw_all (by decide +kernel)⟩
def bkX11_actNow_0 : List gw_E := [(0, 1, .aload_n 0, [0], [], []), (1, 3, .getfield 7, [11, 0, 1, 6073], [], []), (4, 1, .iconst 2, [], [2], []), (5, 1, .iaload, [], [], []), (6, 1, .istore_n 1, [1], [], []), (7, 1, .aload_n 0, [0], [], []), (8, 1, .iload_n 1, [1], [], []), (9, 3, .invokevirtual 37, [1, 11, 6141, 6143, 27, 1013], [], [sgX11_guestAt]), (12, 1, .istore_n 2, [2], [], []), (13, 1, .aload_n 0, [0], [], []), (14, 3, .getfield 7, [11, 0, 1, 6073], [], []), (17, 1, .iload_n 2, [2], [], []), (18, 2, .bipush 6, [], [6], []), (20, 1, .iadd, [], [], []), (21, 1, .iaload, [], [], []), (22, 3, .ifCond .ne 4, [26], [], []), (25, 1, .return_, [], [], [])]
def bkX11_actNow_26 : List gw_E := [(26, 1, .aload_n 0, [0], [], []), (27, 3, .getfield 7, [11, 0, 1, 6073], [], []), (30, 1, .iload_n 2, [2], [], []), (31, 1, .iconst 5, [], [5], []), (32, 1, .iadd, [], [], []), (33, 1, .iaload, [], [], []), (34, 1, .istore_n 3, [3], [], []), (35, 1, .aload_n 0, [0], [], []), (36, 3, .getfield 7, [11, 0, 1, 6073], [], []), (39, 1, .iload_n 2, [2], [], []), (40, 2, .bipush 7, [], [7], []), (42, 1, .iadd, [], [], []), (43, 1, .iconst 3, [], [3], []), (44, 1, .iload_n 3, [3], [], []), (45, 1, .imul, [], [], []), (46, 1, .iadd, [], [], []), (47, 1, .iaload, [], [], []), (48, 2, .istore 4, [4], [], []), (50, 1, .aload_n 0, [0], [], []), (51, 3, .getfield 7, [11, 0, 1, 6073], [], []), (54, 1, .iload_n 2, [2], [], []), (55, 2, .bipush 7, [], [7], []), (57, 1, .iadd, [], [], []), (58, 1, .iconst 3, [], [3], []), (59, 1, .iload_n 3, [3], [], []), (60, 1, .imul, [], [], []), (61, 1, .iadd, [], [], []), (62, 1, .iconst 1, [], [1], []), (63, 1, .iadd, [], [], []), (64, 1, .iaload, [], [], []), (65, 2, .istore 5, [5], [], []), (67, 1, .aload_n 0, [0], [], []), (68, 3, .getfield 7, [11, 0, 1, 6073], [], []), (71, 1, .iload_n 2, [2], [], []), (72, 2, .bipush 7, [], [7], []), (74, 1, .iadd, [], [], []), (75, 1, .iconst 3, [], [3], []), (76, 1, .iload_n 3, [3], [], []), (77, 1, .imul, [], [], []), (78, 1, .iadd, [], [], []), (79, 1, .iconst 2, [], [2], []), (80, 1, .iadd, [], [], []), (81, 1, .iaload, [], [], []), (82, 2, .istore 6, [6], [], []), (84, 1, .aload_n 0, [0], [], []), (85, 3, .getfield 7, [11, 0, 1, 6073], [], []), (88, 1, .iload_n 2, [2], [], []), (89, 1, .iconst 5, [], [5], []), (90, 1, .iadd, [], [], []), (91, 1, .iload_n 3, [3], [], []), (92, 1, .iconst 1, [], [1], []), (93, 1, .iadd, [], [], []), (94, 1, .aload_n 0, [0], [], []), (95, 3, .getfield 7, [11, 0, 1, 6073], [], []), (98, 1, .iload_n 2, [2], [], []), (99, 2, .bipush 6, [], [6], []), (101, 1, .iadd, [], [], []), (102, 1, .iaload, [], [], []), (103, 1, .irem, [], [], []), (104, 1, .iastore, [], [], []), (105, 2, .iload 4, [4], [], []), (107, 1, .iconst 3, [], [3], []), (108, 3, .if_icmp .ge 52, [160], [], []), (111, 1, .aload_n 0, [0], [], []), (112, 3, .getfield 7, [11, 0, 1, 6073], [], []), (115, 2, .bipush 7, [], [7], []), (117, 1, .iaload, [], [], []), (118, 2, .istore 7, [7], [], []), (120, 1, .aload_n 0, [0], [], []), (121, 2, .iload 5, [5], [], []), (123, 2, .iload 4, [4], [], []), (125, 2, .iload 6, [6], [], []), (127, 3, .invokevirtual 202, [3, 11, 7023, 7025, 47, 1013], [], [sgX11_touchNow]), (130, 2, .istore 8, [8], [], []), (132, 1, .aload_n 0, [0], [], []), (133, 1, .iload_n 2, [2], [], []), (134, 1, .iload_n 3, [3], [], []), (135, 2, .iload 8, [8], [], []), (137, 1, .aload_n 0, [0], [], []), (138, 3, .getfield 7, [11, 0, 1, 6073], [], []), (141, 2, .bipush 7, [], [7], []), (143, 1, .iaload, [], [], []), (144, 2, .iload 7, [7], [], []), (146, 3, .if_icmp .le 7, [153], [], []), (149, 1, .iconst 1, [], [1], []), (150, 3, .goto 4, [154], [], [])]
def bkX11_actNow_153 : List gw_E := [(153, 1, .iconst 0, [], [0], [])]
def bkX11_actNow_154 : List gw_E := [(154, 3, .invokevirtual 239, [4, 11, 7237, 7239, 80, 1013], [], [sgX11_goOnBy]), (157, 3, .goto 76, [233], [], [])]
def bkX11_actNow_160 : List gw_E := [(160, 2, .iload 4, [4], [], []), (162, 1, .iconst 3, [], [3], []), (163, 3, .if_icmp .ne 13, [176], [], []), (166, 1, .aload_n 0, [0], [], []), (167, 2, .iload 5, [5], [], []), (169, 3, .invokevirtual 115, [1, 11, 7067, 7069, 58, 1013], [], [sgX11_eventNow]), (172, 1, .pop, [], [], []), (173, 3, .goto 60, [233], [], [])]
def bkX11_actNow_176 : List gw_E := [(176, 2, .iload 4, [4], [], []), (178, 2, .bipush 6, [], [6], []), (180, 3, .if_icmp .ge 25, [205], [], []), (183, 1, .aload_n 0, [0], [], []), (184, 3, .getfield 7, [11, 0, 1, 6073], [], []), (187, 1, .iload_n 2, [2], [], []), (188, 1, .iconst 2, [], [2], []), (189, 1, .iadd, [], [], []), (190, 2, .iload 4, [4], [], []), (192, 1, .iconst 4, [], [4], []), (193, 3, .if_icmp .ne 7, [200], [], []), (196, 1, .iconst 1, [], [1], []), (197, 3, .goto 4, [201], [], [])]
def bkX11_actNow_200 : List gw_E := [(200, 1, .iconst 0, [], [0], [])]
def bkX11_actNow_201 : List gw_E := [(201, 1, .iastore, [], [], []), (202, 3, .goto 31, [233], [], [])]
def bkX11_actNow_205 : List gw_E := [(205, 1, .iload_n 1, [1], [], []), (206, 1, .iconst 1, [], [1], []), (207, 3, .if_icmp .ne 16, [223], [], []), (210, 1, .aload_n 0, [0], [], []), (211, 2, .iload 4, [4], [], []), (213, 2, .iload 5, [5], [], []), (215, 2, .iload 6, [6], [], []), (217, 3, .invokevirtual 243, [3, 11, 8005, 8007, 82, 1013], [], [sgX11_actOuter]), (220, 3, .goto 13, [233], [], [])]
def bkX11_actNow_223 : List gw_E := [(223, 1, .aload_n 0, [0], [], []), (224, 2, .iload 4, [4], [], []), (226, 2, .iload 5, [5], [], []), (228, 2, .iload 6, [6], [], []), (230, 3, .invokevirtual 246, [3, 11, 8009, 8011, 83, 1013], [], [sgX11_actInner])]
def bkX11_actNow_233 : List gw_E := [(233, 1, .return_, [], [], [])]
def bsX11_actNow : List (Nat × List gw_E) := [(0, bkX11_actNow_0), (26, bkX11_actNow_26), (153, bkX11_actNow_153), (154, bkX11_actNow_154), (160, bkX11_actNow_160), (176, bkX11_actNow_176), (200, bkX11_actNow_200), (201, bkX11_actNow_201), (205, bkX11_actNow_205), (223, bkX11_actNow_223), (233, bkX11_actNow_233)]
theorem fdX11_actNow_0 : gw_find bsX11_actNow 0 = bkX11_actNow_0 := rfl
theorem fdX11_actNow_26 : gw_find bsX11_actNow 26 = bkX11_actNow_26 := rfl
theorem fdX11_actNow_153 : gw_find bsX11_actNow 153 = bkX11_actNow_153 := rfl
theorem fdX11_actNow_154 : gw_find bsX11_actNow 154 = bkX11_actNow_154 := rfl
theorem fdX11_actNow_160 : gw_find bsX11_actNow 160 = bkX11_actNow_160 := rfl
theorem fdX11_actNow_176 : gw_find bsX11_actNow 176 = bkX11_actNow_176 := rfl
theorem fdX11_actNow_200 : gw_find bsX11_actNow 200 = bkX11_actNow_200 := rfl
theorem fdX11_actNow_201 : gw_find bsX11_actNow 201 = bkX11_actNow_201 := rfl
theorem fdX11_actNow_205 : gw_find bsX11_actNow 205 = bkX11_actNow_205 := rfl
theorem fdX11_actNow_223 : gw_find bsX11_actNow 223 = bkX11_actNow_223 := rfl
theorem fdX11_actNow_233 : gw_find bsX11_actNow 233 = bkX11_actNow_233 := rfl
set_option maxRecDepth 40000 in
theorem stX11_actNow : gw_sta sgX11_actNow bsX11_actNow := ⟨by decide +kernel, gw_mem2 (i := 7236) rfl rfl, gw_all (by decide +kernel)⟩
def bkX11_goNow_0 : List gw_E := [(0, 1, .aload_n 0, [0], [], []), (1, 3, .invokevirtual 226, [0, 11, 7179, 7181, 70, 1013], [], [sgX11_tick]), (4, 1, .pop, [], [], []), (5, 1, .aload_n 0, [0], [], []), (6, 3, .invokevirtual 187, [0, 11, 6165, 6167, 33, 1013], [], [sgX11_dealOut]), (9, 1, .aload_n 0, [0], [], []), (10, 3, .invokevirtual 249, [0, 11, 7233, 7235, 79, 1013], [], [sgX11_actNow]), (13, 1, .aload_n 0, [0], [], []), (14, 3, .invokevirtual 187, [0, 11, 6165, 6167, 33, 1013], [], [sgX11_dealOut]), (17, 1, .return_, [], [], [])]
def bsX11_goNow : List (Nat × List gw_E) := [(0, bkX11_goNow_0)]
theorem fdX11_goNow_0 : gw_find bsX11_goNow 0 = bkX11_goNow_0 := rfl
set_option maxRecDepth 40000 in
theorem stX11_goNow : gw_sta sgX11_goNow bsX11_goNow := ⟨by decide +kernel, gw_mem2 (i := 7232) rfl rfl, gw_all (by decide +kernel)⟩
def bkX11_canGo_0 : List gw_E := [(0, 1, .iload_n 1, [1], [], []), (1, 1, .iconst 1, [], [1], []), (2, 1, .iload_n 2, [2], [], []), (3, 3, .invokestatic 33, [3, 0, 6122, 6123, 1013, 0], [], [sgX11_isIn]), (6, 3, .ifCond .eq 20, [26], [], []), (9, 1, .aload_n 0, [0], [], []), (10, 3, .getfield 7, [11, 0, 1, 6073], [], []), (13, 1, .iconst 3, [], [3], []), (14, 1, .iaload, [], [], []), (15, 1, .iload_n 1, [1], [], []), (16, 1, .iadd, [], [], []), (17, 2, .ldc 225, [7178], [99999], []), (19, 3, .if_icmp .gt 7, [26], [], []), (22, 1, .iconst 1, [], [1], []), (23, 3, .goto 4, [27], [], [])]
def bkX11_canGo_26 : List gw_E := [(26, 1, .iconst 0, [], [0], [])]
def bkX11_canGo_27 : List gw_E := [(27, 1, .ireturn, [1], [], [])]
def bsX11_canGo : List (Nat × List gw_E) := [(0, bkX11_canGo_0), (26, bkX11_canGo_26), (27, bkX11_canGo_27)]
theorem fdX11_canGo_0 : gw_find bsX11_canGo 0 = bkX11_canGo_0 := rfl
theorem fdX11_canGo_26 : gw_find bsX11_canGo 26 = bkX11_canGo_26 := rfl
theorem fdX11_canGo_27 : gw_find bsX11_canGo 27 = bkX11_canGo_27 := rfl
set_option maxRecDepth 40000 in
theorem stX11_canGo : gw_sta sgX11_canGo bsX11_canGo := ⟨by decide +kernel, gw_mem2 (i := 7224) rfl rfl, gw_all (by decide +kernel)⟩
def bkX11_exitsAll_0 : List gw_E := [(0, 1, .aload_n 0, [0], [], []), (1, 3, .getfield 7, [11, 0, 1, 6073], [], []), (4, 1, .iconst 5, [], [5], []), (5, 1, .iaload, [], [], []), (6, 1, .aload_n 0, [0], [], []), (7, 3, .getfield 7, [11, 0, 1, 6073], [], []), (10, 2, .bipush 6, [], [6], []), (12, 1, .iaload, [], [], []), (13, 1, .iadd, [], [], []), (14, 1, .ireturn, [0], [], [])]
def bsX11_exitsAll : List (Nat × List gw_E) := [(0, bkX11_exitsAll_0)]
theorem fdX11_exitsAll_0 : gw_find bsX11_exitsAll 0 = bkX11_exitsAll_0 := rfl
set_option maxRecDepth 40000 in
theorem stX11_exitsAll : gw_sta sgX11_exitsAll bsX11_exitsAll := ⟨by decide +kernel, gw_mem2 (i := 7228) rfl rfl, gw_all (by decide +kernel)⟩
def bkX11_run_0 : List gw_E := [(0, 1, .aload_n 0, [0], [], []), (1, 1, .iload_n 1, [1], [], []), (2, 3, .sipush 200, [], [200], []), (5, 3, .invokevirtual 252, [2, 11, 7221, 7223, 76, 1013], [], [sgX11_canGo]), (8, 3, .ifCond .ne 5, [13], [], []), (11, 1, .iconst (-1), [], [-1], []), (12, 1, .ireturn, [0], [], [])]
def bkX11_run_13 : List gw_E := [(13, 1, .aload_n 0, [0], [], []), (14, 3, .invokevirtual 181, [0, 11, 6125, 6127, 23, 1013], [], [sgX11_keep]), (17, 1, .aload_n 0, [0], [], []), (18, 3, .invokevirtual 255, [0, 11, 7225, 7227, 77, 1013], [], [sgX11_exitsAll]), (21, 1, .istore_n 2, [2], [], []), (22, 1, .iconst 0, [], [0], []), (23, 1, .istore_n 3, [3], [], [])]
def bkX11_run_24 : List gw_E := [(24, 1, .iload_n 3, [3], [], []), (25, 1, .iload_n 1, [1], [], []), (26, 3, .if_icmp .ge 13, [39], [], []), (29, 1, .aload_n 0, [0], [], []), (30, 3, .invokevirtual 258, [0, 11, 7229, 7231, 78, 1013], [], [sgX11_goNow]), (33, 3, .iinc 3 1, [3], [1], []), (36, 3, .goto (-12), [24], [], [])]
def bkX11_run_39 : List gw_E := [(39, 1, .aload_n 0, [0], [], []), (40, 3, .invokevirtual 255, [0, 11, 7225, 7227, 77, 1013], [], [sgX11_exitsAll]), (43, 1, .iload_n 2, [2], [], []), (44, 1, .isub, [], [], []), (45, 1, .ireturn, [0], [], [])]
def bsX11_run : List (Nat × List gw_E) := [(0, bkX11_run_0), (13, bkX11_run_13), (24, bkX11_run_24), (39, bkX11_run_39)]
theorem fdX11_run_0 : gw_find bsX11_run 0 = bkX11_run_0 := rfl
theorem fdX11_run_13 : gw_find bsX11_run 13 = bkX11_run_13 := rfl
theorem fdX11_run_24 : gw_find bsX11_run 24 = bkX11_run_24 := rfl
theorem fdX11_run_39 : gw_find bsX11_run 39 = bkX11_run_39 := rfl
set_option maxRecDepth 40000 in
theorem stX11_run : gw_sta sgX11_run bsX11_run := ⟨by decide +kernel, gw_mem2 (i := 7220) rfl rfl, gw_all (by decide +kernel)⟩
def bkX11_freeFrames_0 : List gw_E := [(0, 1, .iconst 0, [], [0], []), (1, 1, .istore_n 1, [1], [], []), (2, 1, .iconst 0, [], [0], []), (3, 1, .istore_n 2, [2], [], [])]
def bkX11_freeFrames_4 : List gw_E := [(4, 1, .iload_n 2, [2], [], []), (5, 2, .bipush 16, [], [16], []), (7, 3, .if_icmp .ge 34, [41], [], []), (10, 1, .iload_n 1, [1], [], []), (11, 1, .aload_n 0, [0], [], []), (12, 1, .iconst 2, [], [2], []), (13, 1, .iload_n 2, [2], [], []), (14, 3, .invokevirtual 52, [2, 11, 6149, 6151, 29, 1013], [], [sgX11_toOf]), (17, 1, .iconst (-1), [], [-1], []), (18, 3, .if_icmp .ne 7, [25], [], []), (21, 1, .iconst 0, [], [0], []), (22, 3, .goto 11, [33], [], [])]
def bkX11_freeFrames_25 : List gw_E := [(25, 1, .iconst 1, [], [1], []), (26, 1, .aload_n 0, [0], [], []), (27, 1, .iconst 2, [], [2], []), (28, 1, .iload_n 2, [2], [], []), (29, 3, .invokevirtual 52, [2, 11, 6149, 6151, 29, 1013], [], [sgX11_toOf]), (32, 1, .ishl, [], [], [])]
def bkX11_freeFrames_33 : List gw_E := [(33, 1, .ior, [], [], []), (34, 1, .istore_n 1, [1], [], []), (35, 3, .iinc 2 1, [2], [1], []), (38, 3, .goto (-34), [4], [], [])]
def bkX11_freeFrames_41 : List gw_E := [(41, 2, .bipush 10, [], [10], []), (43, 1, .iload_n 1, [1], [], []), (44, 3, .invokestatic 222, [1, 0, 7171, 7172, 1013, 0], [], [sgX11_many]), (47, 1, .isub, [], [], []), (48, 1, .ireturn, [0], [], [])]
def bsX11_freeFrames : List (Nat × List gw_E) := [(0, bkX11_freeFrames_0), (4, bkX11_freeFrames_4), (25, bkX11_freeFrames_25), (33, bkX11_freeFrames_33), (41, bkX11_freeFrames_41)]
theorem fdX11_freeFrames_0 : gw_find bsX11_freeFrames 0 = bkX11_freeFrames_0 := rfl
theorem fdX11_freeFrames_4 : gw_find bsX11_freeFrames 4 = bkX11_freeFrames_4 := rfl
theorem fdX11_freeFrames_25 : gw_find bsX11_freeFrames 25 = bkX11_freeFrames_25 := rfl
theorem fdX11_freeFrames_33 : gw_find bsX11_freeFrames 33 = bkX11_freeFrames_33 := rfl
theorem fdX11_freeFrames_41 : gw_find bsX11_freeFrames 41 = bkX11_freeFrames_41 := rfl
set_option maxRecDepth 40000 in
theorem stX11_freeFrames : gw_sta sgX11_freeFrames bsX11_freeFrames := ⟨by decide +kernel, gw_mem2 (i := 8020) rfl rfl, gw_all (by decide +kernel)⟩
end
section
def bkX11_is_0 : List gw_E := [(0, 1, .iload_n 1, [1], [], []), (1, 87, .tableswitch 155 0 17 #[87, 94, 101, 108, 116, 155, 155, 155, 155, 155, 155, 121, 134, 155, 155, 155, 155, 147], [156, 88, 95, 102, 109, 117, 156, 156, 156, 156, 156, 156, 122, 135, 156, 156, 156, 156, 148], [0], [])]
def bkX11_is_88 : List gw_E := [(88, 1, .aload_n 0, [0], [], []), (89, 3, .getfield 7, [11, 0, 1, 6073], [], []), (92, 1, .iconst 2, [], [2], []), (93, 1, .iaload, [], [], []), (94, 1, .ireturn, [0], [], [])]
def bkX11_is_95 : List gw_E := [(95, 1, .aload_n 0, [0], [], []), (96, 3, .getfield 7, [11, 0, 1, 6073], [], []), (99, 1, .iconst 3, [], [3], []), (100, 1, .iaload, [], [], []), (101, 1, .ireturn, [0], [], [])]
def bkX11_is_102 : List gw_E := [(102, 1, .aload_n 0, [0], [], []), (103, 3, .getfield 7, [11, 0, 1, 6073], [], []), (106, 1, .iconst 4, [], [4], []), (107, 1, .iaload, [], [], []), (108, 1, .ireturn, [0], [], [])]
def bkX11_is_109 : List gw_E := [(109, 1, .aload_n 0, [0], [], []), (110, 3, .getfield 7, [11, 0, 1, 6073], [], []), (113, 2, .bipush 23, [], [23], []), (115, 1, .iaload, [], [], []), (116, 1, .ireturn, [0], [], [])]
def bkX11_is_117 : List gw_E := [(117, 1, .aload_n 0, [0], [], []), (118, 3, .invokevirtual 261, [0, 11, 8017, 8019, 84, 1013], [], [sgX11_freeFrames]), (121, 1, .ireturn, [0], [], [])]
def bkX11_is_122 : List gw_E := [(122, 1, .aload_n 0, [0], [], []), (123, 3, .getfield 7, [11, 0, 1, 6073], [], []), (126, 1, .aload_n 0, [0], [], []), (127, 1, .iconst 1, [], [1], []), (128, 3, .invokevirtual 37, [1, 11, 6141, 6143, 27, 1013], [], [sgX11_guestAt]), (131, 1, .iconst 5, [], [5], []), (132, 1, .iadd, [], [], []), (133, 1, .iaload, [], [], []), (134, 1, .ireturn, [0], [], [])]
def bkX11_is_135 : List gw_E := [(135, 1, .aload_n 0, [0], [], []), (136, 3, .getfield 7, [11, 0, 1, 6073], [], []), (139, 1, .aload_n 0, [0], [], []), (140, 1, .iconst 2, [], [2], []), (141, 3, .invokevirtual 37, [1, 11, 6141, 6143, 27, 1013], [], [sgX11_guestAt]), (144, 1, .iconst 5, [], [5], []), (145, 1, .iadd, [], [], []), (146, 1, .iaload, [], [], []), (147, 1, .ireturn, [0], [], [])]
def bkX11_is_148 : List gw_E := [(148, 1, .aload_n 0, [0], [], []), (149, 3, .getfield 7, [11, 0, 1, 6073], [], []), (152, 2, .bipush 15, [], [15], []), (154, 1, .iaload, [], [], []), (155, 1, .ireturn, [0], [], [])]
def bkX11_is_156 : List gw_E := [(156, 1, .iload_n 1, [1], [], []), (157, 1, .iconst 5, [], [5], []), (158, 2, .bipush 10, [], [10], []), (160, 3, .invokestatic 33, [3, 0, 6122, 6123, 1013, 0], [], [sgX11_isIn]), (163, 3, .ifCond .eq 16, [179], [], []), (166, 1, .aload_n 0, [0], [], []), (167, 3, .getfield 7, [11, 0, 1, 6073], [], []), (170, 1, .iconst 5, [], [5], []), (171, 1, .iload_n 1, [1], [], []), (172, 1, .iadd, [], [], []), (173, 1, .iconst 5, [], [5], []), (174, 1, .isub, [], [], []), (175, 1, .iaload, [], [], []), (176, 3, .goto 30, [206], [], [])]
def bkX11_is_179 : List gw_E := [(179, 1, .iload_n 1, [1], [], []), (180, 2, .bipush 13, [], [13], []), (182, 2, .bipush 16, [], [16], []), (184, 3, .invokestatic 33, [3, 0, 6122, 6123, 1013, 0], [], [sgX11_isIn]), (187, 3, .ifCond .eq 18, [205], [], []), (190, 1, .aload_n 0, [0], [], []), (191, 3, .getfield 7, [11, 0, 1, 6073], [], []), (194, 2, .bipush 11, [], [11], []), (196, 1, .iload_n 1, [1], [], []), (197, 1, .iadd, [], [], []), (198, 2, .bipush 13, [], [13], []), (200, 1, .isub, [], [], []), (201, 1, .iaload, [], [], []), (202, 3, .goto 4, [206], [], [])]
def bkX11_is_205 : List gw_E := [(205, 1, .iconst (-1), [], [-1], [])]
def bkX11_is_206 : List gw_E := [(206, 1, .ireturn, [0], [], [])]
def bsX11_is : List (Nat × List gw_E) := [(0, bkX11_is_0), (88, bkX11_is_88), (95, bkX11_is_95), (102, bkX11_is_102), (109, bkX11_is_109), (117, bkX11_is_117), (122, bkX11_is_122), (135, bkX11_is_135), (148, bkX11_is_148), (156, bkX11_is_156), (179, bkX11_is_179), (205, bkX11_is_205), (206, bkX11_is_206)]
theorem fdX11_is_0 : gw_find bsX11_is 0 = bkX11_is_0 := rfl
theorem fdX11_is_88 : gw_find bsX11_is 88 = bkX11_is_88 := rfl
theorem fdX11_is_95 : gw_find bsX11_is 95 = bkX11_is_95 := rfl
theorem fdX11_is_102 : gw_find bsX11_is 102 = bkX11_is_102 := rfl
theorem fdX11_is_109 : gw_find bsX11_is 109 = bkX11_is_109 := rfl
theorem fdX11_is_117 : gw_find bsX11_is 117 = bkX11_is_117 := rfl
theorem fdX11_is_122 : gw_find bsX11_is 122 = bkX11_is_122 := rfl
theorem fdX11_is_135 : gw_find bsX11_is 135 = bkX11_is_135 := rfl
theorem fdX11_is_148 : gw_find bsX11_is 148 = bkX11_is_148 := rfl
theorem fdX11_is_156 : gw_find bsX11_is 156 = bkX11_is_156 := rfl
theorem fdX11_is_179 : gw_find bsX11_is 179 = bkX11_is_179 := rfl
theorem fdX11_is_205 : gw_find bsX11_is 205 = bkX11_is_205 := rfl
theorem fdX11_is_206 : gw_find bsX11_is 206 = bkX11_is_206 := rfl
set_option maxRecDepth 40000 in
theorem stX11_is : gw_sta sgX11_is bsX11_is := ⟨by decide +kernel, gw_mem2 (i := 8016) rfl rfl, gw_all (by decide +kernel)⟩
def bkX11_told_0 : List gw_E := [(0, 1, .iload_n 1, [1], [], []), (1, 1, .iconst 0, [], [0], []), (2, 1, .iconst 3, [], [3], []), (3, 3, .invokestatic 33, [3, 0, 6122, 6123, 1013, 0], [], [sgX11_isIn]), (6, 3, .ifCond .eq 29, [35], [], []), (9, 1, .iload_n 2, [2], [], []), (10, 3, .invokestatic 178, [1, 0, 6119, 6120, 1013, 0], [], [sgX11_isPage]), (13, 3, .ifCond .eq 22, [35], [], []), (16, 1, .iload_n 3, [3], [], []), (17, 1, .iconst 0, [], [0], []), (18, 1, .iconst 1, [], [1], []), (19, 3, .invokestatic 33, [3, 0, 6122, 6123, 1013, 0], [], [sgX11_isIn]), (22, 3, .ifCond .eq 13, [35], [], []), (25, 1, .aload_n 0, [0], [], []), (26, 1, .iload_n 1, [1], [], []), (27, 1, .iload_n 2, [2], [], []), (28, 3, .invokevirtual 52, [2, 11, 6149, 6151, 29, 1013], [], [sgX11_toOf]), (31, 1, .iconst (-1), [], [-1], []), (32, 3, .if_icmp .ne 5, [37], [], [])]
def bkX11_told_35 : List gw_E := [(35, 1, .iconst (-1), [], [-1], []), (36, 1, .ireturn, [0], [], [])]
def bkX11_told_37 : List gw_E := [(37, 1, .aload_n 0, [0], [], []), (38, 3, .getfield 7, [11, 0, 1, 6073], [], []), (41, 1, .aload_n 0, [0], [], []), (42, 1, .iload_n 1, [1], [], []), (43, 1, .iload_n 2, [2], [], []), (44, 3, .invokevirtual 41, [2, 11, 6137, 6139, 26, 1013], [], [sgX11_entryAt]), (47, 1, .iload_n 3, [3], [], []), (48, 1, .iadd, [], [], []), (49, 1, .iaload, [], [], []), (50, 1, .ireturn, [0], [], [])]
def bsX11_told : List (Nat × List gw_E) := [(0, bkX11_told_0), (35, bkX11_told_35), (37, bkX11_told_37)]
theorem fdX11_told_0 : gw_find bsX11_told 0 = bkX11_told_0 := rfl
theorem fdX11_told_35 : gw_find bsX11_told 35 = bkX11_told_35 := rfl
theorem fdX11_told_37 : gw_find bsX11_told 37 = bkX11_told_37 := rfl
set_option maxRecDepth 40000 in
theorem stX11_told : gw_sta sgX11_told bsX11_told := ⟨by decide +kernel, gw_mem2 (i := 8024) rfl rfl, gw_all (by decide +kernel)⟩
def bkX11_folded_0 : List gw_E := [(0, 1, .iload_n 1, [1], [], []), (1, 1, .iconst 0, [], [0], []), (2, 1, .aload_n 0, [0], [], []), (3, 3, .getfield 7, [11, 0, 1, 6073], [], []), (6, 2, .bipush 23, [], [23], []), (8, 1, .iaload, [], [], []), (9, 1, .iconst 1, [], [1], []), (10, 1, .isub, [], [], []), (11, 3, .invokestatic 33, [3, 0, 6122, 6123, 1013, 0], [], [sgX11_isIn]), (14, 3, .ifCond .eq 16, [30], [], []), (17, 1, .aload_n 0, [0], [], []), (18, 3, .getfield 7, [11, 0, 1, 6073], [], []), (21, 3, .sipush 786, [], [786], []), (24, 1, .iload_n 1, [1], [], []), (25, 1, .iadd, [], [], []), (26, 1, .iaload, [], [], []), (27, 3, .goto 4, [31], [], [])]
def bkX11_folded_30 : List gw_E := [(30, 1, .iconst (-1), [], [-1], [])]
def bkX11_folded_31 : List gw_E := [(31, 1, .ireturn, [0], [], [])]
def bsX11_folded : List (Nat × List gw_E) := [(0, bkX11_folded_0), (30, bkX11_folded_30), (31, bkX11_folded_31)]
theorem fdX11_folded_0 : gw_find bsX11_folded 0 = bkX11_folded_0 := rfl
theorem fdX11_folded_30 : gw_find bsX11_folded 30 = bkX11_folded_30 := rfl
theorem fdX11_folded_31 : gw_find bsX11_folded 31 = bkX11_folded_31 := rfl
set_option maxRecDepth 40000 in
theorem stX11_folded : gw_sta sgX11_folded bsX11_folded := ⟨by decide +kernel, gw_mem2 (i := 8028) rfl rfl, gw_all (by decide +kernel)⟩
def bkX11_frame_0 : List gw_E := [(0, 1, .iload_n 1, [1], [], []), (1, 1, .iconst 0, [], [0], []), (2, 2, .bipush 9, [], [9], []), (4, 3, .invokestatic 33, [3, 0, 6122, 6123, 1013, 0], [], [sgX11_isIn]), (7, 3, .ifCond .eq 16, [23], [], []), (10, 1, .aload_n 0, [0], [], []), (11, 3, .getfield 7, [11, 0, 1, 6073], [], []), (14, 3, .sipush 802, [], [802], []), (17, 1, .iload_n 1, [1], [], []), (18, 1, .iadd, [], [], []), (19, 1, .iaload, [], [], []), (20, 3, .goto 4, [24], [], [])]
def bkX11_frame_23 : List gw_E := [(23, 1, .iconst (-1), [], [-1], [])]
def bkX11_frame_24 : List gw_E := [(24, 1, .ireturn, [0], [], [])]
def bsX11_frame : List (Nat × List gw_E) := [(0, bkX11_frame_0), (23, bkX11_frame_23), (24, bkX11_frame_24)]
theorem fdX11_frame_0 : gw_find bsX11_frame 0 = bkX11_frame_0 := rfl
theorem fdX11_frame_23 : gw_find bsX11_frame 23 = bkX11_frame_23 := rfl
theorem fdX11_frame_24 : gw_find bsX11_frame 24 = bkX11_frame_24 := rfl
set_option maxRecDepth 40000 in
theorem stX11_frame : gw_sta sgX11_frame bsX11_frame := ⟨by decide +kernel, gw_mem2 (i := 8032) rfl rfl, gw_all (by decide +kernel)⟩
def bkX11_handled_0 : List gw_E := [(0, 1, .iload_n 1, [1], [], []), (1, 3, .invokestatic 219, [1, 0, 7160, 7161, 1013, 0], [], [sgX11_isHandled]), (4, 3, .ifCond .eq 16, [20], [], []), (7, 1, .aload_n 0, [0], [], []), (8, 3, .getfield 7, [11, 0, 1, 6073], [], []), (11, 3, .sipush 828, [], [828], []), (14, 1, .iload_n 1, [1], [], []), (15, 1, .iadd, [], [], []), (16, 1, .iaload, [], [], []), (17, 3, .goto 4, [21], [], [])]
def bkX11_handled_20 : List gw_E := [(20, 1, .iconst (-1), [], [-1], [])]
def bkX11_handled_21 : List gw_E := [(21, 1, .ireturn, [0], [], [])]
def bsX11_handled : List (Nat × List gw_E) := [(0, bkX11_handled_0), (20, bkX11_handled_20), (21, bkX11_handled_21)]
theorem fdX11_handled_0 : gw_find bsX11_handled 0 = bkX11_handled_0 := rfl
theorem fdX11_handled_20 : gw_find bsX11_handled 20 = bkX11_handled_20 := rfl
theorem fdX11_handled_21 : gw_find bsX11_handled 21 = bkX11_handled_21 := rfl
set_option maxRecDepth 40000 in
theorem stX11_handled : gw_sta sgX11_handled bsX11_handled := ⟨by decide +kernel, gw_mem2 (i := 8036) rfl rfl, gw_all (by decide +kernel)⟩
def bkX11_stored_0 : List gw_E := [(0, 1, .iload_n 1, [1], [], []), (1, 3, .invokestatic 178, [1, 0, 6119, 6120, 1013, 0], [], [sgX11_isPage]), (4, 3, .ifCond .eq 16, [20], [], []), (7, 1, .aload_n 0, [0], [], []), (8, 3, .getfield 7, [11, 0, 1, 6073], [], []), (11, 3, .sipush 812, [], [812], []), (14, 1, .iload_n 1, [1], [], []), (15, 1, .iadd, [], [], []), (16, 1, .iaload, [], [], []), (17, 3, .goto 4, [21], [], [])]
def bkX11_stored_20 : List gw_E := [(20, 1, .iconst (-1), [], [-1], [])]
def bkX11_stored_21 : List gw_E := [(21, 1, .ireturn, [0], [], [])]
def bsX11_stored : List (Nat × List gw_E) := [(0, bkX11_stored_0), (20, bkX11_stored_20), (21, bkX11_stored_21)]
theorem fdX11_stored_0 : gw_find bsX11_stored 0 = bkX11_stored_0 := rfl
theorem fdX11_stored_20 : gw_find bsX11_stored 20 = bkX11_stored_20 := rfl
theorem fdX11_stored_21 : gw_find bsX11_stored 21 = bkX11_stored_21 := rfl
set_option maxRecDepth 40000 in
theorem stX11_stored : gw_sta sgX11_stored bsX11_stored := ⟨by decide +kernel, gw_mem2 (i := 8040) rfl rfl, gw_all (by decide +kernel)⟩
def bkX11_backed_0 : List gw_E := [(0, 1, .iload_n 1, [1], [], []), (1, 1, .iconst 0, [], [0], []), (2, 1, .aload_n 0, [0], [], []), (3, 3, .getfield 7, [11, 0, 1, 6073], [], []), (6, 2, .bipush 22, [], [22], []), (8, 1, .iaload, [], [], []), (9, 1, .iconst 1, [], [1], []), (10, 1, .isub, [], [], []), (11, 3, .invokestatic 33, [3, 0, 6122, 6123, 1013, 0], [], [sgX11_isIn]), (14, 3, .ifCond .eq 16, [30], [], []), (17, 1, .aload_n 0, [0], [], []), (18, 3, .getfield 7, [11, 0, 1, 6073], [], []), (21, 3, .sipush 738, [], [738], []), (24, 1, .iload_n 1, [1], [], []), (25, 1, .iadd, [], [], []), (26, 1, .iaload, [], [], []), (27, 3, .goto 4, [31], [], [])]
def bkX11_backed_30 : List gw_E := [(30, 1, .iconst (-1), [], [-1], [])]
def bkX11_backed_31 : List gw_E := [(31, 1, .ireturn, [0], [], [])]
def bsX11_backed : List (Nat × List gw_E) := [(0, bkX11_backed_0), (30, bkX11_backed_30), (31, bkX11_backed_31)]
theorem fdX11_backed_0 : gw_find bsX11_backed 0 = bkX11_backed_0 := rfl
theorem fdX11_backed_30 : gw_find bsX11_backed 30 = bkX11_backed_30 := rfl
theorem fdX11_backed_31 : gw_find bsX11_backed 31 = bkX11_backed_31 := rfl
set_option maxRecDepth 40000 in
theorem stX11_backed : gw_sta sgX11_backed bsX11_backed := ⟨by decide +kernel, gw_mem2 (i := 8044) rfl rfl, gw_all (by decide +kernel)⟩
def bkX11_heard_0 : List gw_E := [(0, 1, .iload_n 1, [1], [], []), (1, 1, .iconst (-1), [], [-1], []), (2, 3, .if_icmp .ne 13, [15], [], []), (5, 1, .aload_n 0, [0], [], []), (6, 3, .getfield 7, [11, 0, 1, 6073], [], []), (9, 2, .bipush 24, [], [24], []), (11, 1, .iaload, [], [], []), (12, 3, .goto 34, [46], [], [])]
def bkX11_heard_15 : List gw_E := [(15, 1, .iload_n 1, [1], [], []), (16, 1, .iconst 0, [], [0], []), (17, 1, .aload_n 0, [0], [], []), (18, 3, .getfield 7, [11, 0, 1, 6073], [], []), (21, 2, .bipush 24, [], [24], []), (23, 1, .iaload, [], [], []), (24, 1, .iconst 1, [], [1], []), (25, 1, .isub, [], [], []), (26, 3, .invokestatic 33, [3, 0, 6122, 6123, 1013, 0], [], [sgX11_isIn]), (29, 3, .ifCond .eq 16, [45], [], []), (32, 1, .aload_n 0, [0], [], []), (33, 3, .getfield 7, [11, 0, 1, 6073], [], []), (36, 3, .sipush 837, [], [837], []), (39, 1, .iload_n 1, [1], [], []), (40, 1, .iadd, [], [], []), (41, 1, .iaload, [], [], []), (42, 3, .goto 4, [46], [], [])]
def bkX11_heard_45 : List gw_E := [(45, 1, .iconst (-1), [], [-1], [])]
def bkX11_heard_46 : List gw_E := [(46, 1, .ireturn, [0], [], [])]
def bsX11_heard : List (Nat × List gw_E) := [(0, bkX11_heard_0), (15, bkX11_heard_15), (45, bkX11_heard_45), (46, bkX11_heard_46)]
theorem fdX11_heard_0 : gw_find bsX11_heard 0 = bkX11_heard_0 := rfl
theorem fdX11_heard_15 : gw_find bsX11_heard 15 = bkX11_heard_15 := rfl
theorem fdX11_heard_45 : gw_find bsX11_heard 45 = bkX11_heard_45 := rfl
theorem fdX11_heard_46 : gw_find bsX11_heard 46 = bkX11_heard_46 := rfl
set_option maxRecDepth 40000 in
theorem stX11_heard : gw_sta sgX11_heard bsX11_heard := ⟨by decide +kernel, gw_mem2 (i := 8048) rfl rfl, gw_all (by decide +kernel)⟩
def bkX11_changed_0 : List gw_E := [(0, 1, .aload_n 0, [0], [], []), (1, 3, .getfield 7, [11, 0, 1, 6073], [], []), (4, 2, .bipush 21, [], [21], []), (6, 1, .iaload, [], [], []), (7, 1, .ireturn, [0], [], [])]
def bsX11_changed : List (Nat × List gw_E) := [(0, bkX11_changed_0)]
theorem fdX11_changed_0 : gw_find bsX11_changed 0 = bkX11_changed_0 := rfl
set_option maxRecDepth 40000 in
theorem stX11_changed : gw_sta sgX11_changed bsX11_changed := ⟨by decide +kernel, gw_mem2 (i := 8052) rfl rfl, gw_all (by decide +kernel)⟩
def bkX11_walk_0 : List gw_E := [(0, 1, .iload_n 1, [1], [], []), (1, 3, .invokestatic 178, [1, 0, 6119, 6120, 1013, 0], [], [sgX11_isPage]), (4, 3, .ifCond .eq 12, [16], [], []), (7, 1, .iload_n 2, [2], [], []), (8, 1, .iconst 0, [], [0], []), (9, 1, .iconst 2, [], [2], []), (10, 3, .invokestatic 33, [3, 0, 6122, 6123, 1013, 0], [], [sgX11_isIn]), (13, 3, .ifCond .ne 5, [18], [], [])]
def bkX11_walk_16 : List gw_E := [(16, 1, .iconst (-1), [], [-1], []), (17, 1, .ireturn, [0], [], [])]
def bkX11_walk_18 : List gw_E := [(18, 1, .iload_n 1, [1], [], []), (19, 1, .istore_n 3, [3], [], []), (20, 1, .iconst 0, [], [0], []), (21, 2, .istore 4, [4], [], [])]
def bkX11_walk_23 : List gw_E := [(23, 2, .iload 4, [4], [], []), (25, 1, .iconst 3, [], [3], []), (26, 3, .if_icmp .ge 34, [60], [], []), (29, 1, .aload_n 0, [0], [], []), (30, 2, .iload 4, [4], [], []), (32, 1, .iload_n 3, [3], [], []), (33, 1, .iload_n 2, [2], [], []), (34, 3, .invokevirtual 112, [3, 11, 7055, 7057, 55, 1013], [], [sgX11_gives]), (37, 3, .ifCond .ne 9, [46], [], []), (40, 2, .bipush (-2), [], [-2], []), (42, 2, .iload 4, [4], [], []), (44, 1, .isub, [], [], []), (45, 1, .ireturn, [0], [], [])]
def bkX11_walk_46 : List gw_E := [(46, 1, .aload_n 0, [0], [], []), (47, 2, .iload 4, [4], [], []), (49, 1, .iload_n 3, [3], [], []), (50, 3, .invokevirtual 52, [2, 11, 6149, 6151, 29, 1013], [], [sgX11_toOf]), (53, 1, .istore_n 3, [3], [], []), (54, 3, .iinc 4 1, [4], [1], []), (57, 3, .goto (-34), [23], [], [])]
def bkX11_walk_60 : List gw_E := [(60, 1, .iload_n 3, [3], [], []), (61, 1, .ireturn, [0], [], [])]
def bsX11_walk : List (Nat × List gw_E) := [(0, bkX11_walk_0), (16, bkX11_walk_16), (18, bkX11_walk_18), (23, bkX11_walk_23), (46, bkX11_walk_46), (60, bkX11_walk_60)]
theorem fdX11_walk_0 : gw_find bsX11_walk 0 = bkX11_walk_0 := rfl
theorem fdX11_walk_16 : gw_find bsX11_walk 16 = bkX11_walk_16 := rfl
theorem fdX11_walk_18 : gw_find bsX11_walk 18 = bkX11_walk_18 := rfl
theorem fdX11_walk_23 : gw_find bsX11_walk 23 = bkX11_walk_23 := rfl
theorem fdX11_walk_46 : gw_find bsX11_walk 46 = bkX11_walk_46 := rfl
theorem fdX11_walk_60 : gw_find bsX11_walk 60 = bkX11_walk_60 := rfl
set_option maxRecDepth 40000 in
theorem stX11_walk : gw_sta sgX11_walk bsX11_walk := ⟨by decide +kernel, gw_mem2 (i := 8056) rfl rfl, gw_all (by decide +kernel)⟩
def bkX11_given_0 : List gw_E := [(0, 1, .iload_n 1, [1], [], []), (1, 3, .invokestatic 178, [1, 0, 6119, 6120, 1013, 0], [], [sgX11_isPage]), (4, 3, .ifCond .ne 5, [9], [], []), (7, 1, .iconst (-1), [], [-1], []), (8, 1, .ireturn, [0], [], [])]
def bkX11_given_9 : List gw_E := [(9, 1, .iload_n 1, [1], [], []), (10, 1, .istore_n 2, [2], [], []), (11, 2, .bipush 7, [], [7], []), (13, 1, .istore_n 3, [3], [], []), (14, 1, .iconst 0, [], [0], []), (15, 2, .istore 4, [4], [], [])]
def bkX11_given_17 : List gw_E := [(17, 2, .iload 4, [4], [], []), (19, 1, .iconst 3, [], [3], []), (20, 3, .if_icmp .ge 32, [52], [], []), (23, 1, .iload_n 2, [2], [], []), (24, 1, .iconst (-1), [], [-1], []), (25, 3, .if_icmp .eq 27, [52], [], []), (28, 1, .iload_n 3, [3], [], []), (29, 1, .aload_n 0, [0], [], []), (30, 2, .iload 4, [4], [], []), (32, 1, .iload_n 2, [2], [], []), (33, 3, .invokevirtual 49, [2, 11, 6215, 6217, 41, 1013], [], [sgX11_rightsOf]), (36, 1, .iand, [], [], []), (37, 1, .istore_n 3, [3], [], []), (38, 1, .aload_n 0, [0], [], []), (39, 2, .iload 4, [4], [], []), (41, 1, .iload_n 2, [2], [], []), (42, 3, .invokevirtual 52, [2, 11, 6149, 6151, 29, 1013], [], [sgX11_toOf]), (45, 1, .istore_n 2, [2], [], []), (46, 3, .iinc 4 1, [4], [1], []), (49, 3, .goto (-32), [17], [], [])]
def bkX11_given_52 : List gw_E := [(52, 1, .iload_n 2, [2], [], []), (53, 1, .iconst (-1), [], [-1], []), (54, 3, .if_icmp .ne 7, [61], [], []), (57, 1, .iconst 0, [], [0], []), (58, 3, .goto 4, [62], [], [])]
def bkX11_given_61 : List gw_E := [(61, 1, .iload_n 3, [3], [], [])]
def bkX11_given_62 : List gw_E := [(62, 1, .ireturn, [0], [], [])]
def bsX11_given : List (Nat × List gw_E) := [(0, bkX11_given_0), (9, bkX11_given_9), (17, bkX11_given_17), (52, bkX11_given_52), (61, bkX11_given_61), (62, bkX11_given_62)]
theorem fdX11_given_0 : gw_find bsX11_given 0 = bkX11_given_0 := rfl
theorem fdX11_given_9 : gw_find bsX11_given 9 = bkX11_given_9 := rfl
theorem fdX11_given_17 : gw_find bsX11_given 17 = bkX11_given_17 := rfl
theorem fdX11_given_52 : gw_find bsX11_given 52 = bkX11_given_52 := rfl
theorem fdX11_given_61 : gw_find bsX11_given 61 = bkX11_given_61 := rfl
theorem fdX11_given_62 : gw_find bsX11_given 62 = bkX11_given_62 := rfl
set_option maxRecDepth 40000 in
theorem stX11_given : gw_sta sgX11_given bsX11_given := ⟨by decide +kernel, gw_mem2 (i := 8060) rfl rfl, gw_all (by decide +kernel)⟩
def bkX11_lazy_0 : List gw_E := [(0, 1, .iconst 0, [], [0], []), (1, 1, .istore_n 1, [1], [], []), (2, 1, .iconst 0, [], [0], []), (3, 1, .istore_n 2, [2], [], [])]
def bkX11_lazy_4 : List gw_E := [(4, 1, .iload_n 2, [2], [], []), (5, 2, .bipush 16, [], [16], []), (7, 3, .if_icmp .ge 27, [34], [], []), (10, 1, .iload_n 1, [1], [], []), (11, 1, .aload_n 0, [0], [], []), (12, 1, .iload_n 2, [2], [], []), (13, 3, .invokevirtual 193, [1, 11, 6211, 6213, 40, 1013], [], [sgX11_isLazy]), (16, 3, .ifCond .eq 9, [25], [], []), (19, 1, .iconst 1, [], [1], []), (20, 1, .iload_n 2, [2], [], []), (21, 1, .ishl, [], [], []), (22, 3, .goto 4, [26], [], [])]
def bkX11_lazy_25 : List gw_E := [(25, 1, .iconst 0, [], [0], [])]
def bkX11_lazy_26 : List gw_E := [(26, 1, .ior, [], [], []), (27, 1, .istore_n 1, [1], [], []), (28, 3, .iinc 2 1, [2], [1], []), (31, 3, .goto (-27), [4], [], [])]
def bkX11_lazy_34 : List gw_E := [(34, 1, .iload_n 1, [1], [], []), (35, 1, .ireturn, [0], [], [])]
def bsX11_lazy : List (Nat × List gw_E) := [(0, bkX11_lazy_0), (4, bkX11_lazy_4), (25, bkX11_lazy_25), (26, bkX11_lazy_26), (34, bkX11_lazy_34)]
theorem fdX11_lazy_0 : gw_find bsX11_lazy 0 = bkX11_lazy_0 := rfl
theorem fdX11_lazy_4 : gw_find bsX11_lazy 4 = bkX11_lazy_4 := rfl
theorem fdX11_lazy_25 : gw_find bsX11_lazy 25 = bkX11_lazy_25 := rfl
theorem fdX11_lazy_26 : gw_find bsX11_lazy 26 = bkX11_lazy_26 := rfl
theorem fdX11_lazy_34 : gw_find bsX11_lazy 34 = bkX11_lazy_34 := rfl
set_option maxRecDepth 40000 in
theorem stX11_lazy : gw_sta sgX11_lazy bsX11_lazy := ⟨by decide +kernel, gw_mem2 (i := 8064) rfl rfl, gw_all (by decide +kernel)⟩
def bkX11_aliases_0 : List gw_E := [(0, 1, .iload_n 1, [1], [], []), (1, 1, .iconst 0, [], [0], []), (2, 2, .bipush 9, [], [9], []), (4, 3, .invokestatic 33, [3, 0, 6122, 6123, 1013, 0], [], [sgX11_isIn]), (7, 3, .ifCond .ne 5, [12], [], []), (10, 1, .iconst (-1), [], [-1], []), (11, 1, .ireturn, [0], [], [])]
def bkX11_aliases_12 : List gw_E := [(12, 1, .iconst 0, [], [0], []), (13, 1, .istore_n 2, [2], [], []), (14, 1, .iconst 0, [], [0], []), (15, 1, .istore_n 3, [3], [], [])]
def bkX11_aliases_16 : List gw_E := [(16, 1, .iload_n 3, [3], [], []), (17, 2, .bipush 16, [], [16], []), (19, 3, .if_icmp .ge 59, [78], [], []), (22, 1, .iload_n 3, [3], [], []), (23, 2, .istore 4, [4], [], []), (25, 1, .iconst 0, [], [0], []), (26, 2, .istore 5, [5], [], [])]
def bkX11_aliases_28 : List gw_E := [(28, 2, .iload 5, [5], [], []), (30, 1, .iconst 3, [], [3], []), (31, 3, .if_icmp .ge 25, [56], [], []), (34, 2, .iload 4, [4], [], []), (36, 1, .iconst (-1), [], [-1], []), (37, 3, .if_icmp .eq 19, [56], [], []), (40, 1, .aload_n 0, [0], [], []), (41, 2, .iload 5, [5], [], []), (43, 2, .iload 4, [4], [], []), (45, 3, .invokevirtual 52, [2, 11, 6149, 6151, 29, 1013], [], [sgX11_toOf]), (48, 2, .istore 4, [4], [], []), (50, 3, .iinc 5 1, [5], [1], []), (53, 3, .goto (-25), [28], [], [])]
def bkX11_aliases_56 : List gw_E := [(56, 1, .iload_n 2, [2], [], []), (57, 2, .iload 4, [4], [], []), (59, 1, .iload_n 1, [1], [], []), (60, 3, .if_icmp .ne 9, [69], [], []), (63, 1, .iconst 1, [], [1], []), (64, 1, .iload_n 3, [3], [], []), (65, 1, .ishl, [], [], []), (66, 3, .goto 4, [70], [], [])]
def bkX11_aliases_69 : List gw_E := [(69, 1, .iconst 0, [], [0], [])]
def bkX11_aliases_70 : List gw_E := [(70, 1, .ior, [], [], []), (71, 1, .istore_n 2, [2], [], []), (72, 3, .iinc 3 1, [3], [1], []), (75, 3, .goto (-59), [16], [], [])]
def bkX11_aliases_78 : List gw_E := [(78, 1, .iload_n 2, [2], [], []), (79, 1, .ireturn, [0], [], [])]
def bsX11_aliases : List (Nat × List gw_E) := [(0, bkX11_aliases_0), (12, bkX11_aliases_12), (16, bkX11_aliases_16), (28, bkX11_aliases_28), (56, bkX11_aliases_56), (69, bkX11_aliases_69), (70, bkX11_aliases_70), (78, bkX11_aliases_78)]
theorem fdX11_aliases_0 : gw_find bsX11_aliases 0 = bkX11_aliases_0 := rfl
theorem fdX11_aliases_12 : gw_find bsX11_aliases 12 = bkX11_aliases_12 := rfl
theorem fdX11_aliases_16 : gw_find bsX11_aliases 16 = bkX11_aliases_16 := rfl
theorem fdX11_aliases_28 : gw_find bsX11_aliases 28 = bkX11_aliases_28 := rfl
theorem fdX11_aliases_56 : gw_find bsX11_aliases 56 = bkX11_aliases_56 := rfl
theorem fdX11_aliases_69 : gw_find bsX11_aliases 69 = bkX11_aliases_69 := rfl
theorem fdX11_aliases_70 : gw_find bsX11_aliases 70 = bkX11_aliases_70 := rfl
theorem fdX11_aliases_78 : gw_find bsX11_aliases 78 = bkX11_aliases_78 := rfl
set_option maxRecDepth 40000 in
theorem stX11_aliases : gw_sta sgX11_aliases bsX11_aliases := ⟨by decide +kernel, gw_mem2 (i := 8068) rfl rfl, gw_all (by decide +kernel)⟩
def bkX11_free_0 : List gw_E := [(0, 1, .aload_n 0, [0], [], []), (1, 3, .invokevirtual 73, [0, 11, 7039, 7041, 51, 1013], [], [sgX11_freeFrame]), (4, 1, .ireturn, [0], [], [])]
def bsX11_free : List (Nat × List gw_E) := [(0, bkX11_free_0)]
theorem fdX11_free_0 : gw_find bsX11_free 0 = bkX11_free_0 := rfl
set_option maxRecDepth 40000 in
theorem stX11_free : gw_sta sgX11_free bsX11_free := ⟨by decide +kernel, gw_mem2 (i := 8072) rfl rfl, gw_all (by decide +kernel)⟩
def bkX11_wanted_0 : List gw_E := [(0, 1, .iload_n 1, [1], [], []), (1, 1, .iconst 2, [], [2], []), (2, 3, .if_icmp .ne 21, [23], [], []), (5, 1, .aload_n 0, [0], [], []), (6, 3, .getfield 7, [11, 0, 1, 6073], [], []), (9, 2, .bipush 17, [], [17], []), (11, 1, .iaload, [], [], []), (12, 1, .aload_n 0, [0], [], []), (13, 3, .getfield 7, [11, 0, 1, 6073], [], []), (16, 2, .bipush 18, [], [18], []), (18, 1, .iaload, [], [], []), (19, 1, .ior, [], [], []), (20, 3, .goto 25, [45], [], [])]
def bkX11_wanted_23 : List gw_E := [(23, 1, .iload_n 1, [1], [], []), (24, 1, .iconst 0, [], [0], []), (25, 1, .iconst 1, [], [1], []), (26, 3, .invokestatic 33, [3, 0, 6122, 6123, 1013, 0], [], [sgX11_isIn]), (29, 3, .ifCond .eq 15, [44], [], []), (32, 1, .aload_n 0, [0], [], []), (33, 3, .getfield 7, [11, 0, 1, 6073], [], []), (36, 2, .bipush 17, [], [17], []), (38, 1, .iload_n 1, [1], [], []), (39, 1, .iadd, [], [], []), (40, 1, .iaload, [], [], []), (41, 3, .goto 4, [45], [], [])]
def bkX11_wanted_44 : List gw_E := [(44, 1, .iconst (-1), [], [-1], [])]
def bkX11_wanted_45 : List gw_E := [(45, 1, .ireturn, [0], [], [])]
def bsX11_wanted : List (Nat × List gw_E) := [(0, bkX11_wanted_0), (23, bkX11_wanted_23), (44, bkX11_wanted_44), (45, bkX11_wanted_45)]
theorem fdX11_wanted_0 : gw_find bsX11_wanted 0 = bkX11_wanted_0 := rfl
theorem fdX11_wanted_23 : gw_find bsX11_wanted 23 = bkX11_wanted_23 := rfl
theorem fdX11_wanted_44 : gw_find bsX11_wanted 44 = bkX11_wanted_44 := rfl
theorem fdX11_wanted_45 : gw_find bsX11_wanted 45 = bkX11_wanted_45 := rfl
set_option maxRecDepth 40000 in
theorem stX11_wanted : gw_sta sgX11_wanted bsX11_wanted := ⟨by decide +kernel, gw_mem2 (i := 8076) rfl rfl, gw_all (by decide +kernel)⟩
def bkX11_whose_0 : List gw_E := [(0, 1, .iload_n 1, [1], [], []), (1, 1, .iconst 0, [], [0], []), (2, 2, .bipush 7, [], [7], []), (4, 3, .invokestatic 33, [3, 0, 6122, 6123, 1013, 0], [], [sgX11_isIn]), (7, 3, .ifCond .eq 11, [18], [], []), (10, 1, .aload_n 0, [0], [], []), (11, 1, .iload_n 1, [1], [], []), (12, 3, .invokevirtual 93, [1, 11, 7079, 7081, 61, 1013], [], [sgX11_whoSees]), (15, 3, .goto 4, [19], [], [])]
def bkX11_whose_18 : List gw_E := [(18, 1, .iconst (-1), [], [-1], [])]
def bkX11_whose_19 : List gw_E := [(19, 1, .ireturn, [0], [], [])]
def bsX11_whose : List (Nat × List gw_E) := [(0, bkX11_whose_0), (18, bkX11_whose_18), (19, bkX11_whose_19)]
theorem fdX11_whose_0 : gw_find bsX11_whose 0 = bkX11_whose_0 := rfl
theorem fdX11_whose_18 : gw_find bsX11_whose 18 = bkX11_whose_18 := rfl
theorem fdX11_whose_19 : gw_find bsX11_whose 19 = bkX11_whose_19 := rfl
set_option maxRecDepth 40000 in
theorem stX11_whose : gw_sta sgX11_whose bsX11_whose := ⟨by decide +kernel, gw_mem2 (i := 8080) rfl rfl, gw_all (by decide +kernel)⟩
def bkX11_exit_0 : List gw_E := [(0, 1, .iload_n 1, [1], [], []), (1, 1, .iconst (-1), [], [-1], []), (2, 3, .if_icmp .ne 11, [13], [], []), (5, 1, .aload_n 0, [0], [], []), (6, 3, .getfield 7, [11, 0, 1, 6073], [], []), (9, 2, .bipush 25, [], [25], []), (11, 1, .iaload, [], [], []), (12, 1, .ireturn, [0], [], [])]
def bkX11_exit_13 : List gw_E := [(13, 1, .iload_n 1, [1], [], []), (14, 1, .iconst 0, [], [0], []), (15, 1, .aload_n 0, [0], [], []), (16, 3, .getfield 7, [11, 0, 1, 6073], [], []), (19, 2, .bipush 25, [], [25], []), (21, 1, .iaload, [], [], []), (22, 1, .iconst 1, [], [1], []), (23, 1, .isub, [], [], []), (24, 3, .invokestatic 33, [3, 0, 6122, 6123, 1013, 0], [], [sgX11_isIn]), (27, 3, .ifCond .eq 29, [56], [], []), (30, 1, .iload_n 2, [2], [], []), (31, 1, .iconst 0, [], [0], []), (32, 1, .iconst 3, [], [3], []), (33, 3, .invokestatic 33, [3, 0, 6122, 6123, 1013, 0], [], [sgX11_isIn]), (36, 3, .ifCond .eq 20, [56], [], []), (39, 1, .aload_n 0, [0], [], []), (40, 3, .getfield 7, [11, 0, 1, 6073], [], []), (43, 3, .sipush 861, [], [861], []), (46, 1, .iconst 4, [], [4], []), (47, 1, .iload_n 1, [1], [], []), (48, 1, .imul, [], [], []), (49, 1, .iadd, [], [], []), (50, 1, .iload_n 2, [2], [], []), (51, 1, .iadd, [], [], []), (52, 1, .iaload, [], [], []), (53, 3, .goto 5, [58], [], [])]
def bkX11_exit_56 : List gw_E := [(56, 2, .bipush (-2), [], [-2], [])]
def bkX11_exit_58 : List gw_E := [(58, 1, .ireturn, [0], [], [])]
def bsX11_exit : List (Nat × List gw_E) := [(0, bkX11_exit_0), (13, bkX11_exit_13), (56, bkX11_exit_56), (58, bkX11_exit_58)]
theorem fdX11_exit_0 : gw_find bsX11_exit 0 = bkX11_exit_0 := rfl
theorem fdX11_exit_13 : gw_find bsX11_exit 13 = bkX11_exit_13 := rfl
theorem fdX11_exit_56 : gw_find bsX11_exit 56 = bkX11_exit_56 := rfl
theorem fdX11_exit_58 : gw_find bsX11_exit 58 = bkX11_exit_58 := rfl
set_option maxRecDepth 40000 in
theorem stX11_exit : gw_sta sgX11_exit bsX11_exit := ⟨by decide +kernel, gw_mem2 (i := 8084) rfl rfl, gw_all (by decide +kernel)⟩
def bkX11_exits_0 : List gw_E := [(0, 1, .iconst 0, [], [0], []), (1, 1, .istore_n 2, [2], [], []), (2, 1, .iconst 0, [], [0], []), (3, 1, .istore_n 3, [3], [], [])]
def bkX11_exits_4 : List gw_E := [(4, 1, .iload_n 3, [3], [], []), (5, 1, .aload_n 0, [0], [], []), (6, 3, .getfield 7, [11, 0, 1, 6073], [], []), (9, 2, .bipush 25, [], [25], []), (11, 1, .iaload, [], [], []), (12, 3, .if_icmp .ge 35, [47], [], []), (15, 1, .iload_n 2, [2], [], []), (16, 1, .aload_n 0, [0], [], []), (17, 3, .getfield 7, [11, 0, 1, 6073], [], []), (20, 3, .sipush 861, [], [861], []), (23, 1, .iconst 4, [], [4], []), (24, 1, .iload_n 3, [3], [], []), (25, 1, .imul, [], [], []), (26, 1, .iadd, [], [], []), (27, 1, .iconst 1, [], [1], []), (28, 1, .iadd, [], [], []), (29, 1, .iaload, [], [], []), (30, 1, .iload_n 1, [1], [], []), (31, 3, .if_icmp .ne 7, [38], [], []), (34, 1, .iconst 1, [], [1], []), (35, 3, .goto 4, [39], [], [])]
def bkX11_exits_38 : List gw_E := [(38, 1, .iconst 0, [], [0], [])]
def bkX11_exits_39 : List gw_E := [(39, 1, .iadd, [], [], []), (40, 1, .istore_n 2, [2], [], []), (41, 3, .iinc 3 1, [3], [1], []), (44, 3, .goto (-40), [4], [], [])]
def bkX11_exits_47 : List gw_E := [(47, 1, .iload_n 2, [2], [], []), (48, 1, .ireturn, [0], [], [])]
def bsX11_exits : List (Nat × List gw_E) := [(0, bkX11_exits_0), (4, bkX11_exits_4), (38, bkX11_exits_38), (39, bkX11_exits_39), (47, bkX11_exits_47)]
theorem fdX11_exits_0 : gw_find bsX11_exits 0 = bkX11_exits_0 := rfl
theorem fdX11_exits_4 : gw_find bsX11_exits 4 = bkX11_exits_4 := rfl
theorem fdX11_exits_38 : gw_find bsX11_exits 38 = bkX11_exits_38 := rfl
theorem fdX11_exits_39 : gw_find bsX11_exits 39 = bkX11_exits_39 := rfl
theorem fdX11_exits_47 : gw_find bsX11_exits 47 = bkX11_exits_47 := rfl
set_option maxRecDepth 40000 in
theorem stX11_exits : gw_sta sgX11_exits bsX11_exits := ⟨by decide +kernel, gw_mem2 (i := 8088) rfl rfl, gw_all (by decide +kernel)⟩
def bkX11_spent_0 : List gw_E := [(0, 1, .iload_n 1, [1], [], []), (1, 1, .iconst 0, [], [0], []), (2, 1, .iconst 3, [], [3], []), (3, 3, .invokestatic 33, [3, 0, 6122, 6123, 1013, 0], [], [sgX11_isIn]), (6, 3, .ifCond .eq 15, [21], [], []), (9, 1, .aload_n 0, [0], [], []), (10, 3, .getfield 7, [11, 0, 1, 6073], [], []), (13, 2, .bipush 28, [], [28], []), (15, 1, .iload_n 1, [1], [], []), (16, 1, .iadd, [], [], []), (17, 1, .iaload, [], [], []), (18, 3, .goto 4, [22], [], [])]
def bkX11_spent_21 : List gw_E := [(21, 1, .iconst (-1), [], [-1], [])]
def bkX11_spent_22 : List gw_E := [(22, 1, .ireturn, [0], [], [])]
def bsX11_spent : List (Nat × List gw_E) := [(0, bkX11_spent_0), (21, bkX11_spent_21), (22, bkX11_spent_22)]
theorem fdX11_spent_0 : gw_find bsX11_spent 0 = bkX11_spent_0 := rfl
theorem fdX11_spent_21 : gw_find bsX11_spent 21 = bkX11_spent_21 := rfl
theorem fdX11_spent_22 : gw_find bsX11_spent 22 = bkX11_spent_22 := rfl
set_option maxRecDepth 40000 in
theorem stX11_spent : gw_sta sgX11_spent bsX11_spent := ⟨by decide +kernel, gw_mem2 (i := 8092) rfl rfl, gw_all (by decide +kernel)⟩
def bkX11_seenOf_0 : List gw_E := [(0, 1, .iload_n 1, [1], [], []), (1, 1, .iconst 0, [], [0], []), (2, 2, .bipush 7, [], [7], []), (4, 3, .invokestatic 33, [3, 0, 6122, 6123, 1013, 0], [], [sgX11_isIn]), (7, 3, .ifCond .eq 12, [19], [], []), (10, 1, .iload_n 2, [2], [], []), (11, 1, .iconst 0, [], [0], []), (12, 1, .iconst 2, [], [2], []), (13, 3, .invokestatic 33, [3, 0, 6122, 6123, 1013, 0], [], [sgX11_isIn]), (16, 3, .ifCond .ne 5, [21], [], [])]
def bkX11_seenOf_19 : List gw_E := [(19, 1, .iconst (-1), [], [-1], []), (20, 1, .ireturn, [0], [], [])]
def bkX11_seenOf_21 : List gw_E := [(21, 1, .aload_n 0, [0], [], []), (22, 3, .getfield 7, [11, 0, 1, 6073], [], []), (25, 2, .bipush 32, [], [32], []), (27, 1, .iconst 3, [], [3], []), (28, 1, .iload_n 1, [1], [], []), (29, 1, .imul, [], [], []), (30, 1, .iadd, [], [], []), (31, 1, .iload_n 2, [2], [], []), (32, 1, .iadd, [], [], []), (33, 1, .iaload, [], [], []), (34, 1, .ireturn, [0], [], [])]
def bsX11_seenOf : List (Nat × List gw_E) := [(0, bkX11_seenOf_0), (19, bkX11_seenOf_19), (21, bkX11_seenOf_21)]
theorem fdX11_seenOf_0 : gw_find bsX11_seenOf 0 = bkX11_seenOf_0 := rfl
theorem fdX11_seenOf_19 : gw_find bsX11_seenOf 19 = bkX11_seenOf_19 := rfl
theorem fdX11_seenOf_21 : gw_find bsX11_seenOf 21 = bkX11_seenOf_21 := rfl
set_option maxRecDepth 40000 in
theorem stX11_seenOf : gw_sta sgX11_seenOf bsX11_seenOf := ⟨by decide +kernel, gw_mem2 (i := 8096) rfl rfl, gw_all (by decide +kernel)⟩
def bkX11_pending_0 : List gw_E := [(0, 1, .iload_n 1, [1], [], []), (1, 3, .invokestatic 208, [1, 0, 7107, 7108, 1013, 0], [], [sgX11_isGuest]), (4, 3, .ifCond .eq 18, [22], [], []), (7, 1, .aload_n 0, [0], [], []), (8, 3, .getfield 7, [11, 0, 1, 6073], [], []), (11, 1, .aload_n 0, [0], [], []), (12, 1, .iload_n 1, [1], [], []), (13, 3, .invokevirtual 37, [1, 11, 6141, 6143, 27, 1013], [], [sgX11_guestAt]), (16, 1, .iconst 0, [], [0], []), (17, 1, .iadd, [], [], []), (18, 1, .iaload, [], [], []), (19, 3, .goto 4, [23], [], [])]
def bkX11_pending_22 : List gw_E := [(22, 1, .iconst (-1), [], [-1], [])]
def bkX11_pending_23 : List gw_E := [(23, 1, .ireturn, [0], [], [])]
def bsX11_pending : List (Nat × List gw_E) := [(0, bkX11_pending_0), (22, bkX11_pending_22), (23, bkX11_pending_23)]
theorem fdX11_pending_0 : gw_find bsX11_pending 0 = bkX11_pending_0 := rfl
theorem fdX11_pending_22 : gw_find bsX11_pending 22 = bkX11_pending_22 := rfl
theorem fdX11_pending_23 : gw_find bsX11_pending 23 = bkX11_pending_23 := rfl
set_option maxRecDepth 40000 in
theorem stX11_pending : gw_sta sgX11_pending bsX11_pending := ⟨by decide +kernel, gw_mem2 (i := 8100) rfl rfl, gw_all (by decide +kernel)⟩
def bkX11_longest_0 : List gw_E := [(0, 1, .iload_n 1, [1], [], []), (1, 3, .invokestatic 208, [1, 0, 7107, 7108, 1013, 0], [], [sgX11_isGuest]), (4, 3, .ifCond .eq 17, [21], [], []), (7, 1, .aload_n 0, [0], [], []), (8, 3, .getfield 7, [11, 0, 1, 6073], [], []), (11, 2, .bipush 56, [], [56], []), (13, 1, .iload_n 1, [1], [], []), (14, 1, .iadd, [], [], []), (15, 1, .iconst 1, [], [1], []), (16, 1, .isub, [], [], []), (17, 1, .iaload, [], [], []), (18, 3, .goto 4, [22], [], [])]
def bkX11_longest_21 : List gw_E := [(21, 1, .iconst (-1), [], [-1], [])]
def bkX11_longest_22 : List gw_E := [(22, 1, .ireturn, [0], [], [])]
def bsX11_longest : List (Nat × List gw_E) := [(0, bkX11_longest_0), (21, bkX11_longest_21), (22, bkX11_longest_22)]
theorem fdX11_longest_0 : gw_find bsX11_longest 0 = bkX11_longest_0 := rfl
theorem fdX11_longest_21 : gw_find bsX11_longest 21 = bkX11_longest_21 := rfl
theorem fdX11_longest_22 : gw_find bsX11_longest 22 = bkX11_longest_22 := rfl
set_option maxRecDepth 40000 in
theorem stX11_longest : gw_sta sgX11_longest bsX11_longest := ⟨by decide +kernel, gw_mem2 (i := 8104) rfl rfl, gw_all (by decide +kernel)⟩
def bkX11_pendingFor_0 : List gw_E := [(0, 1, .iload_n 1, [1], [], []), (1, 3, .invokestatic 208, [1, 0, 7107, 7108, 1013, 0], [], [sgX11_isGuest]), (4, 3, .ifCond .eq 32, [36], [], []), (7, 1, .iload_n 2, [2], [], []), (8, 1, .iconst 0, [], [0], []), (9, 2, .bipush 15, [], [15], []), (11, 3, .invokestatic 33, [3, 0, 6122, 6123, 1013, 0], [], [sgX11_isIn]), (14, 3, .ifCond .eq 22, [36], [], []), (17, 1, .aload_n 0, [0], [], []), (18, 3, .getfield 7, [11, 0, 1, 6073], [], []), (21, 1, .aload_n 0, [0], [], []), (22, 1, .iload_n 1, [1], [], []), (23, 3, .invokevirtual 37, [1, 11, 6141, 6143, 27, 1013], [], [sgX11_guestAt]), (26, 1, .iconst 0, [], [0], []), (27, 1, .iadd, [], [], []), (28, 1, .iaload, [], [], []), (29, 1, .iload_n 2, [2], [], []), (30, 3, .invokestatic 29, [2, 0, 6176, 6177, 1013, 0], [], [sgX11_has]), (33, 3, .ifCond .ne 5, [38], [], [])]
def bkX11_pendingFor_36 : List gw_E := [(36, 1, .iconst (-1), [], [-1], []), (37, 1, .ireturn, [0], [], [])]
def bkX11_pendingFor_38 : List gw_E := [(38, 1, .aload_n 0, [0], [], []), (39, 1, .iload_n 1, [1], [], []), (40, 1, .iload_n 2, [2], [], []), (41, 3, .invokevirtual 139, [2, 11, 6191, 6193, 38, 1013], [], [sgX11_sinceOf]), (44, 1, .ireturn, [0], [], [])]
def bsX11_pendingFor : List (Nat × List gw_E) := [(0, bkX11_pendingFor_0), (36, bkX11_pendingFor_36), (38, bkX11_pendingFor_38)]
theorem fdX11_pendingFor_0 : gw_find bsX11_pendingFor 0 = bkX11_pendingFor_0 := rfl
theorem fdX11_pendingFor_36 : gw_find bsX11_pendingFor 36 = bkX11_pendingFor_36 := rfl
theorem fdX11_pendingFor_38 : gw_find bsX11_pendingFor 38 = bkX11_pendingFor_38 := rfl
set_option maxRecDepth 40000 in
theorem stX11_pendingFor : gw_sta sgX11_pendingFor bsX11_pendingFor := ⟨by decide +kernel, gw_mem2 (i := 8108) rfl rfl, gw_all (by decide +kernel)⟩
def bkX11_service_0 : List gw_E := [(0, 1, .iload_n 1, [1], [], []), (1, 3, .invokestatic 208, [1, 0, 7107, 7108, 1013, 0], [], [sgX11_isGuest]), (4, 3, .ifCond .eq 18, [22], [], []), (7, 1, .aload_n 0, [0], [], []), (8, 3, .getfield 7, [11, 0, 1, 6073], [], []), (11, 1, .aload_n 0, [0], [], []), (12, 1, .iload_n 1, [1], [], []), (13, 3, .invokevirtual 37, [1, 11, 6141, 6143, 27, 1013], [], [sgX11_guestAt]), (16, 1, .iconst 1, [], [1], []), (17, 1, .iadd, [], [], []), (18, 1, .iaload, [], [], []), (19, 3, .goto 4, [23], [], [])]
def bkX11_service_22 : List gw_E := [(22, 1, .iconst (-1), [], [-1], [])]
def bkX11_service_23 : List gw_E := [(23, 1, .ireturn, [0], [], [])]
def bsX11_service : List (Nat × List gw_E) := [(0, bkX11_service_0), (22, bkX11_service_22), (23, bkX11_service_23)]
theorem fdX11_service_0 : gw_find bsX11_service 0 = bkX11_service_0 := rfl
theorem fdX11_service_22 : gw_find bsX11_service 22 = bkX11_service_22 := rfl
theorem fdX11_service_23 : gw_find bsX11_service 23 = bkX11_service_23 := rfl
set_option maxRecDepth 40000 in
theorem stX11_service : gw_sta sgX11_service bsX11_service := ⟨by decide +kernel, gw_mem2 (i := 8112) rfl rfl, gw_all (by decide +kernel)⟩
def bkX11_entriesFrom_0 : List gw_E := [(0, 1, .iconst 0, [], [0], []), (1, 1, .istore_n 2, [2], [], []), (2, 1, .iconst 0, [], [0], []), (3, 1, .istore_n 3, [3], [], [])]
def bkX11_entriesFrom_4 : List gw_E := [(4, 1, .iload_n 3, [3], [], []), (5, 2, .bipush 16, [], [16], []), (7, 3, .if_icmp .ge 31, [38], [], []), (10, 1, .iload_n 2, [2], [], []), (11, 1, .aload_n 0, [0], [], []), (12, 3, .getfield 7, [11, 0, 1, 6073], [], []), (15, 1, .iload_n 1, [1], [], []), (16, 1, .iconst 2, [], [2], []), (17, 1, .iload_n 3, [3], [], []), (18, 1, .imul, [], [], []), (19, 1, .iadd, [], [], []), (20, 1, .iaload, [], [], []), (21, 1, .iconst (-1), [], [-1], []), (22, 3, .if_icmp .ne 7, [29], [], []), (25, 1, .iconst 0, [], [0], []), (26, 3, .goto 4, [30], [], [])]
def bkX11_entriesFrom_29 : List gw_E := [(29, 1, .iconst 1, [], [1], [])]
def bkX11_entriesFrom_30 : List gw_E := [(30, 1, .iadd, [], [], []), (31, 1, .istore_n 2, [2], [], []), (32, 3, .iinc 3 1, [3], [1], []), (35, 3, .goto (-31), [4], [], [])]
def bkX11_entriesFrom_38 : List gw_E := [(38, 1, .iload_n 2, [2], [], []), (39, 1, .ireturn, [0], [], [])]
def bsX11_entriesFrom : List (Nat × List gw_E) := [(0, bkX11_entriesFrom_0), (4, bkX11_entriesFrom_4), (29, bkX11_entriesFrom_29), (30, bkX11_entriesFrom_30), (38, bkX11_entriesFrom_38)]
theorem fdX11_entriesFrom_0 : gw_find bsX11_entriesFrom 0 = bkX11_entriesFrom_0 := rfl
theorem fdX11_entriesFrom_4 : gw_find bsX11_entriesFrom 4 = bkX11_entriesFrom_4 := rfl
theorem fdX11_entriesFrom_29 : gw_find bsX11_entriesFrom 29 = bkX11_entriesFrom_29 := rfl
theorem fdX11_entriesFrom_30 : gw_find bsX11_entriesFrom 30 = bkX11_entriesFrom_30 := rfl
theorem fdX11_entriesFrom_38 : gw_find bsX11_entriesFrom 38 = bkX11_entriesFrom_38 := rfl
set_option maxRecDepth 40000 in
theorem stX11_entriesFrom : gw_sta sgX11_entriesFrom bsX11_entriesFrom := ⟨by decide +kernel, gw_mem2 (i := 8120) rfl rfl, gw_all (by decide +kernel)⟩
def bkX11_putBy_0 : List gw_E := [(0, 1, .iload_n 1, [1], [], []), (1, 1, .iconst 0, [], [0], []), (2, 1, .iconst 2, [], [2], []), (3, 3, .invokestatic 33, [3, 0, 6122, 6123, 1013, 0], [], [sgX11_isIn]), (6, 3, .ifCond .eq 14, [20], [], []), (9, 1, .iload_n 1, [1], [], []), (10, 1, .aload_n 0, [0], [], []), (11, 3, .getfield 7, [11, 0, 1, 6073], [], []), (14, 2, .bipush 15, [], [15], []), (16, 1, .iaload, [], [], []), (17, 3, .if_icmp .ne 5, [22], [], [])]
def bkX11_putBy_20 : List gw_E := [(20, 1, .iconst (-1), [], [-1], []), (21, 1, .ireturn, [0], [], [])]
def bkX11_putBy_22 : List gw_E := [(22, 2, .bipush 58, [], [58], []), (24, 3, .sipush 162, [], [162], []), (27, 1, .iconst 1, [], [1], []), (28, 1, .iload_n 1, [1], [], []), (29, 1, .iadd, [], [], []), (30, 1, .imul, [], [], []), (31, 1, .iadd, [], [], []), (32, 1, .istore_n 3, [3], [], []), (33, 1, .iload_n 2, [2], [], []), (34, 42, .tableswitch 102 0 6 #[42, 42, 56, 65, 74, 83, 92], [136, 76, 76, 90, 99, 108, 117, 126], [0], [])]
def bkX11_putBy_76 : List gw_E := [(76, 1, .aload_n 0, [0], [], []), (77, 1, .iload_n 3, [3], [], []), (78, 2, .bipush 79, [], [79], []), (80, 1, .iadd, [], [], []), (81, 2, .bipush 32, [], [32], []), (83, 1, .iload_n 2, [2], [], []), (84, 1, .imul, [], [], []), (85, 1, .iadd, [], [], []), (86, 3, .invokevirtual 264, [1, 11, 8117, 8119, 85, 1013], [], [sgX11_entriesFrom]), (89, 1, .ireturn, [0], [], [])]
def bkX11_putBy_90 : List gw_E := [(90, 1, .aload_n 0, [0], [], []), (91, 3, .getfield 7, [11, 0, 1, 6073], [], []), (94, 1, .iload_n 3, [3], [], []), (95, 1, .iconst 5, [], [5], []), (96, 1, .iadd, [], [], []), (97, 1, .iaload, [], [], []), (98, 1, .ireturn, [0], [], [])]
def bkX11_putBy_99 : List gw_E := [(99, 1, .aload_n 0, [0], [], []), (100, 3, .getfield 7, [11, 0, 1, 6073], [], []), (103, 1, .iload_n 3, [3], [], []), (104, 1, .iconst 0, [], [0], []), (105, 1, .iadd, [], [], []), (106, 1, .iaload, [], [], []), (107, 1, .ireturn, [0], [], [])]
def bkX11_putBy_108 : List gw_E := [(108, 1, .aload_n 0, [0], [], []), (109, 3, .getfield 7, [11, 0, 1, 6073], [], []), (112, 1, .iload_n 3, [3], [], []), (113, 1, .iconst 1, [], [1], []), (114, 1, .iadd, [], [], []), (115, 1, .iaload, [], [], []), (116, 1, .ireturn, [0], [], [])]
def bkX11_putBy_117 : List gw_E := [(117, 1, .aload_n 0, [0], [], []), (118, 3, .getfield 7, [11, 0, 1, 6073], [], []), (121, 1, .iload_n 3, [3], [], []), (122, 1, .iconst 2, [], [2], []), (123, 1, .iadd, [], [], []), (124, 1, .iaload, [], [], []), (125, 1, .ireturn, [0], [], [])]
def bkX11_putBy_126 : List gw_E := [(126, 1, .aload_n 0, [0], [], []), (127, 3, .getfield 7, [11, 0, 1, 6073], [], []), (130, 1, .iload_n 3, [3], [], []), (131, 2, .bipush 6, [], [6], []), (133, 1, .iadd, [], [], []), (134, 1, .iaload, [], [], []), (135, 1, .ireturn, [0], [], [])]
def bkX11_putBy_136 : List gw_E := [(136, 1, .iconst (-1), [], [-1], []), (137, 1, .ireturn, [0], [], [])]
def bsX11_putBy : List (Nat × List gw_E) := [(0, bkX11_putBy_0), (20, bkX11_putBy_20), (22, bkX11_putBy_22), (76, bkX11_putBy_76), (90, bkX11_putBy_90), (99, bkX11_putBy_99), (108, bkX11_putBy_108), (117, bkX11_putBy_117), (126, bkX11_putBy_126), (136, bkX11_putBy_136)]
theorem fdX11_putBy_0 : gw_find bsX11_putBy 0 = bkX11_putBy_0 := rfl
theorem fdX11_putBy_20 : gw_find bsX11_putBy 20 = bkX11_putBy_20 := rfl
theorem fdX11_putBy_22 : gw_find bsX11_putBy 22 = bkX11_putBy_22 := rfl
theorem fdX11_putBy_76 : gw_find bsX11_putBy 76 = bkX11_putBy_76 := rfl
theorem fdX11_putBy_90 : gw_find bsX11_putBy 90 = bkX11_putBy_90 := rfl
theorem fdX11_putBy_99 : gw_find bsX11_putBy 99 = bkX11_putBy_99 := rfl
theorem fdX11_putBy_108 : gw_find bsX11_putBy 108 = bkX11_putBy_108 := rfl
theorem fdX11_putBy_117 : gw_find bsX11_putBy 117 = bkX11_putBy_117 := rfl
theorem fdX11_putBy_126 : gw_find bsX11_putBy 126 = bkX11_putBy_126 := rfl
theorem fdX11_putBy_136 : gw_find bsX11_putBy 136 = bkX11_putBy_136 := rfl
set_option maxRecDepth 40000 in
theorem stX11_putBy : gw_sta sgX11_putBy bsX11_putBy := ⟨by decide +kernel, gw_mem2 (i := 8116) rfl rfl, gw_all (by decide +kernel)⟩
def bkX11_isOpen_0 : List gw_E := [(0, 1, .iload_n 1, [1], [], []), (1, 3, .invokestatic 208, [1, 0, 7107, 7108, 1013, 0], [], [sgX11_isGuest]), (4, 3, .ifCond .eq 23, [27], [], []), (7, 1, .aload_n 0, [0], [], []), (8, 3, .getfield 7, [11, 0, 1, 6073], [], []), (11, 1, .aload_n 0, [0], [], []), (12, 1, .iload_n 1, [1], [], []), (13, 3, .invokevirtual 37, [1, 11, 6141, 6143, 27, 1013], [], [sgX11_guestAt]), (16, 1, .iconst 2, [], [2], []), (17, 1, .iadd, [], [], []), (18, 1, .iaload, [], [], []), (19, 1, .iconst 1, [], [1], []), (20, 3, .if_icmp .ne 7, [27], [], []), (23, 1, .iconst 1, [], [1], []), (24, 3, .goto 4, [28], [], [])]
def bkX11_isOpen_27 : List gw_E := [(27, 1, .iconst 0, [], [0], [])]
def bkX11_isOpen_28 : List gw_E := [(28, 1, .ireturn, [1], [], [])]
def bsX11_isOpen : List (Nat × List gw_E) := [(0, bkX11_isOpen_0), (27, bkX11_isOpen_27), (28, bkX11_isOpen_28)]
theorem fdX11_isOpen_0 : gw_find bsX11_isOpen 0 = bkX11_isOpen_0 := rfl
theorem fdX11_isOpen_27 : gw_find bsX11_isOpen 27 = bkX11_isOpen_27 := rfl
theorem fdX11_isOpen_28 : gw_find bsX11_isOpen 28 = bkX11_isOpen_28 := rfl
set_option maxRecDepth 40000 in
theorem stX11_isOpen : gw_sta sgX11_isOpen bsX11_isOpen := ⟨by decide +kernel, gw_mem2 (i := 8124) rfl rfl, gw_all (by decide +kernel)⟩
def bkX11_taken_0 : List gw_E := [(0, 1, .iload_n 1, [1], [], []), (1, 3, .invokestatic 208, [1, 0, 7107, 7108, 1013, 0], [], [sgX11_isGuest]), (4, 3, .ifCond .eq 17, [21], [], []), (7, 1, .aload_n 0, [0], [], []), (8, 3, .getfield 7, [11, 0, 1, 6073], [], []), (11, 2, .bipush 19, [], [19], []), (13, 1, .iload_n 1, [1], [], []), (14, 1, .iadd, [], [], []), (15, 1, .iconst 1, [], [1], []), (16, 1, .isub, [], [], []), (17, 1, .iaload, [], [], []), (18, 3, .goto 4, [22], [], [])]
def bkX11_taken_21 : List gw_E := [(21, 1, .iconst (-1), [], [-1], [])]
def bkX11_taken_22 : List gw_E := [(22, 1, .ireturn, [0], [], [])]
def bsX11_taken : List (Nat × List gw_E) := [(0, bkX11_taken_0), (21, bkX11_taken_21), (22, bkX11_taken_22)]
theorem fdX11_taken_0 : gw_find bsX11_taken 0 = bkX11_taken_0 := rfl
theorem fdX11_taken_21 : gw_find bsX11_taken 21 = bkX11_taken_21 := rfl
theorem fdX11_taken_22 : gw_find bsX11_taken 22 = bkX11_taken_22 := rfl
set_option maxRecDepth 40000 in
theorem stX11_taken : gw_sta sgX11_taken bsX11_taken := ⟨by decide +kernel, gw_mem2 (i := 8128) rfl rfl, gw_all (by decide +kernel)⟩
def bkX11_clock_0 : List gw_E := [(0, 1, .iload_n 1, [1], [], []), (1, 1, .iconst 0, [], [0], []), (2, 1, .iconst 2, [], [2], []), (3, 3, .invokestatic 33, [3, 0, 6122, 6123, 1013, 0], [], [sgX11_isIn]), (6, 3, .ifCond .eq 17, [23], [], []), (9, 1, .aload_n 0, [0], [], []), (10, 1, .iload_n 1, [1], [], []), (11, 1, .aload_n 0, [0], [], []), (12, 3, .getfield 7, [11, 0, 1, 6073], [], []), (15, 1, .iconst 3, [], [3], []), (16, 1, .iaload, [], [], []), (17, 3, .invokevirtual 154, [2, 11, 7195, 7197, 74, 1013], [], [sgX11_clockAt]), (20, 3, .goto 6, [26], [], [])]
def bkX11_clock_23 : List gw_E := [(23, 3, .ldc_w 267, [8133], [-1000000000], [])]
def bkX11_clock_26 : List gw_E := [(26, 1, .ireturn, [0], [], [])]
def bsX11_clock : List (Nat × List gw_E) := [(0, bkX11_clock_0), (23, bkX11_clock_23), (26, bkX11_clock_26)]
theorem fdX11_clock_0 : gw_find bsX11_clock 0 = bkX11_clock_0 := rfl
theorem fdX11_clock_23 : gw_find bsX11_clock 23 = bkX11_clock_23 := rfl
theorem fdX11_clock_26 : gw_find bsX11_clock 26 = bkX11_clock_26 := rfl
set_option maxRecDepth 40000 in
theorem stX11_clock : gw_sta sgX11_clock bsX11_clock := ⟨by decide +kernel, gw_mem2 (i := 8132) rfl rfl, gw_all (by decide +kernel)⟩
def bkX11_dueOf_0 : List gw_E := [(0, 1, .aload_n 0, [0], [], []), (1, 3, .getfield 7, [11, 0, 1, 6073], [], []), (4, 1, .iconst 3, [], [3], []), (5, 1, .iaload, [], [], []), (6, 1, .iconst 1, [], [1], []), (7, 1, .iadd, [], [], []), (8, 1, .istore_n 2, [2], [], []), (9, 3, .ldc_w 268, [8142], [100000], []), (12, 1, .istore_n 3, [3], [], [])]
def bkX11_dueOf_13 : List gw_E := [(13, 1, .iload_n 2, [2], [], []), (14, 1, .iload_n 3, [3], [], []), (15, 3, .if_icmp .ge 34, [49], [], []), (18, 1, .iload_n 2, [2], [], []), (19, 1, .iload_n 3, [3], [], []), (20, 1, .iadd, [], [], []), (21, 1, .iconst 2, [], [2], []), (22, 1, .idiv, [], [], []), (23, 2, .istore 4, [4], [], []), (25, 1, .aload_n 0, [0], [], []), (26, 1, .iload_n 1, [1], [], []), (27, 2, .iload 4, [4], [], []), (29, 3, .invokevirtual 157, [2, 11, 7187, 7189, 72, 1013], [], [sgX11_isDue]), (32, 3, .ifCond .eq 9, [41], [], []), (35, 2, .iload 4, [4], [], []), (37, 1, .istore_n 3, [3], [], []), (38, 3, .goto 8, [46], [], [])]
def bkX11_dueOf_41 : List gw_E := [(41, 2, .iload 4, [4], [], []), (43, 1, .iconst 1, [], [1], []), (44, 1, .iadd, [], [], []), (45, 1, .istore_n 2, [2], [], [])]
def bkX11_dueOf_46 : List gw_E := [(46, 3, .goto (-33), [13], [], [])]
def bkX11_dueOf_49 : List gw_E := [(49, 1, .iload_n 2, [2], [], []), (50, 2, .ldc 225, [7178], [99999], []), (52, 3, .if_icmp .le 7, [59], [], []), (55, 1, .iconst (-1), [], [-1], []), (56, 3, .goto 4, [60], [], [])]
def bkX11_dueOf_59 : List gw_E := [(59, 1, .iload_n 2, [2], [], [])]
def bkX11_dueOf_60 : List gw_E := [(60, 1, .ireturn, [0], [], [])]
def bsX11_dueOf : List (Nat × List gw_E) := [(0, bkX11_dueOf_0), (13, bkX11_dueOf_13), (41, bkX11_dueOf_41), (46, bkX11_dueOf_46), (49, bkX11_dueOf_49), (59, bkX11_dueOf_59), (60, bkX11_dueOf_60)]
theorem fdX11_dueOf_0 : gw_find bsX11_dueOf 0 = bkX11_dueOf_0 := rfl
theorem fdX11_dueOf_13 : gw_find bsX11_dueOf 13 = bkX11_dueOf_13 := rfl
theorem fdX11_dueOf_41 : gw_find bsX11_dueOf 41 = bkX11_dueOf_41 := rfl
theorem fdX11_dueOf_46 : gw_find bsX11_dueOf 46 = bkX11_dueOf_46 := rfl
theorem fdX11_dueOf_49 : gw_find bsX11_dueOf 49 = bkX11_dueOf_49 := rfl
theorem fdX11_dueOf_59 : gw_find bsX11_dueOf 59 = bkX11_dueOf_59 := rfl
theorem fdX11_dueOf_60 : gw_find bsX11_dueOf 60 = bkX11_dueOf_60 := rfl
set_option maxRecDepth 40000 in
theorem stX11_dueOf : gw_sta sgX11_dueOf bsX11_dueOf := ⟨by decide +kernel, gw_mem2 (i := 8141) rfl rfl, gw_all (by decide +kernel)⟩
def bkX11_timed_0 : List gw_E := [(0, 1, .iload_n 1, [1], [], []), (1, 1, .iconst (-1), [], [-1], []), (2, 3, .if_icmp .ne 11, [13], [], []), (5, 1, .aload_n 0, [0], [], []), (6, 3, .getfield 7, [11, 0, 1, 6073], [], []), (9, 2, .bipush 26, [], [26], []), (11, 1, .iaload, [], [], []), (12, 1, .ireturn, [0], [], [])]
def bkX11_timed_13 : List gw_E := [(13, 1, .iload_n 1, [1], [], []), (14, 1, .iconst 0, [], [0], []), (15, 1, .aload_n 0, [0], [], []), (16, 3, .getfield 7, [11, 0, 1, 6073], [], []), (19, 2, .bipush 26, [], [26], []), (21, 1, .iaload, [], [], []), (22, 1, .iconst 1, [], [1], []), (23, 1, .isub, [], [], []), (24, 3, .invokestatic 33, [3, 0, 6122, 6123, 1013, 0], [], [sgX11_isIn]), (27, 3, .ifCond .eq 12, [39], [], []), (30, 1, .iload_n 2, [2], [], []), (31, 1, .iconst 0, [], [0], []), (32, 1, .iconst 3, [], [3], []), (33, 3, .invokestatic 33, [3, 0, 6122, 6123, 1013, 0], [], [sgX11_isIn]), (36, 3, .ifCond .ne 7, [43], [], [])]
def bkX11_timed_39 : List gw_E := [(39, 3, .ldc_w 267, [8133], [-1000000000], []), (42, 1, .ireturn, [0], [], [])]
def bkX11_timed_43 : List gw_E := [(43, 1, .iload_n 2, [2], [], []), (44, 1, .iconst 3, [], [3], []), (45, 3, .if_icmp .ne 11, [56], [], []), (48, 1, .aload_n 0, [0], [], []), (49, 1, .iload_n 1, [1], [], []), (50, 3, .invokevirtual 269, [1, 11, 8138, 8140, 86, 1013], [], [sgX11_dueOf]), (53, 3, .goto 9, [62], [], [])]
def bkX11_timed_56 : List gw_E := [(56, 1, .aload_n 0, [0], [], []), (57, 1, .iload_n 1, [1], [], []), (58, 1, .iload_n 2, [2], [], []), (59, 3, .invokevirtual 151, [2, 11, 7191, 7193, 73, 1013], [], [sgX11_ofTimer])]
def bkX11_timed_62 : List gw_E := [(62, 1, .ireturn, [0], [], [])]
def bsX11_timed : List (Nat × List gw_E) := [(0, bkX11_timed_0), (13, bkX11_timed_13), (39, bkX11_timed_39), (43, bkX11_timed_43), (56, bkX11_timed_56), (62, bkX11_timed_62)]
theorem fdX11_timed_0 : gw_find bsX11_timed 0 = bkX11_timed_0 := rfl
theorem fdX11_timed_13 : gw_find bsX11_timed 13 = bkX11_timed_13 := rfl
theorem fdX11_timed_39 : gw_find bsX11_timed 39 = bkX11_timed_39 := rfl
theorem fdX11_timed_43 : gw_find bsX11_timed 43 = bkX11_timed_43 := rfl
theorem fdX11_timed_56 : gw_find bsX11_timed 56 = bkX11_timed_56 := rfl
theorem fdX11_timed_62 : gw_find bsX11_timed 62 = bkX11_timed_62 := rfl
set_option maxRecDepth 40000 in
theorem stX11_timed : gw_sta sgX11_timed bsX11_timed := ⟨by decide +kernel, gw_mem2 (i := 8137) rfl rfl, gw_all (by decide +kernel)⟩
def bkX11_first_0 : List gw_E := [(0, 1, .iconst (-1), [], [-1], []), (1, 1, .istore_n 1, [1], [], []), (2, 1, .iconst 0, [], [0], []), (3, 1, .istore_n 2, [2], [], [])]
def bkX11_first_4 : List gw_E := [(4, 1, .iload_n 2, [2], [], []), (5, 1, .aload_n 0, [0], [], []), (6, 3, .getfield 7, [11, 0, 1, 6073], [], []), (9, 2, .bipush 26, [], [26], []), (11, 1, .iaload, [], [], []), (12, 3, .if_icmp .ge 63, [75], [], []), (15, 1, .aload_n 0, [0], [], []), (16, 1, .iload_n 2, [2], [], []), (17, 3, .invokevirtual 269, [1, 11, 8138, 8140, 86, 1013], [], [sgX11_dueOf]), (20, 1, .iconst (-1), [], [-1], []), (21, 3, .if_icmp .ne 6, [27], [], []), (24, 3, .goto 45, [69], [], [])]
def bkX11_first_27 : List gw_E := [(27, 1, .iload_n 1, [1], [], []), (28, 1, .iconst (-1), [], [-1], []), (29, 3, .if_icmp .eq 38, [67], [], []), (32, 1, .aload_n 0, [0], [], []), (33, 1, .iload_n 2, [2], [], []), (34, 3, .invokevirtual 269, [1, 11, 8138, 8140, 86, 1013], [], [sgX11_dueOf]), (37, 1, .aload_n 0, [0], [], []), (38, 1, .iload_n 1, [1], [], []), (39, 3, .invokevirtual 269, [1, 11, 8138, 8140, 86, 1013], [], [sgX11_dueOf]), (42, 3, .if_icmp .lt 25, [67], [], []), (45, 1, .aload_n 0, [0], [], []), (46, 1, .iload_n 2, [2], [], []), (47, 3, .invokevirtual 269, [1, 11, 8138, 8140, 86, 1013], [], [sgX11_dueOf]), (50, 1, .aload_n 0, [0], [], []), (51, 1, .iload_n 1, [1], [], []), (52, 3, .invokevirtual 269, [1, 11, 8138, 8140, 86, 1013], [], [sgX11_dueOf]), (55, 3, .if_icmp .ne 14, [69], [], []), (58, 1, .aload_n 0, [0], [], []), (59, 1, .iload_n 2, [2], [], []), (60, 1, .iload_n 1, [1], [], []), (61, 3, .invokevirtual 160, [2, 11, 7199, 7201, 75, 1013], [], [sgX11_isAhead]), (64, 3, .ifCond .eq 5, [69], [], [])]
def bkX11_first_67 : List gw_E := [(67, 1, .iload_n 2, [2], [], []), (68, 1, .istore_n 1, [1], [], [])]
def bkX11_first_69 : List gw_E := [(69, 3, .iinc 2 1, [2], [1], []), (72, 3, .goto (-68), [4], [], [])]
def bkX11_first_75 : List gw_E := [(75, 1, .iload_n 1, [1], [], []), (76, 1, .ireturn, [0], [], [])]
def bsX11_first : List (Nat × List gw_E) := [(0, bkX11_first_0), (4, bkX11_first_4), (27, bkX11_first_27), (67, bkX11_first_67), (69, bkX11_first_69), (75, bkX11_first_75)]
theorem fdX11_first_0 : gw_find bsX11_first 0 = bkX11_first_0 := rfl
theorem fdX11_first_4 : gw_find bsX11_first 4 = bkX11_first_4 := rfl
theorem fdX11_first_27 : gw_find bsX11_first 27 = bkX11_first_27 := rfl
theorem fdX11_first_67 : gw_find bsX11_first 67 = bkX11_first_67 := rfl
theorem fdX11_first_69 : gw_find bsX11_first 69 = bkX11_first_69 := rfl
theorem fdX11_first_75 : gw_find bsX11_first 75 = bkX11_first_75 := rfl
set_option maxRecDepth 40000 in
theorem stX11_first : gw_sta sgX11_first bsX11_first := ⟨by decide +kernel, gw_mem2 (i := 8146) rfl rfl, gw_all (by decide +kernel)⟩
def bkX11_program_0 : List gw_E := [(0, 1, .iload_n 1, [1], [], []), (1, 3, .invokestatic 208, [1, 0, 7107, 7108, 1013, 0], [], [sgX11_isGuest]), (4, 3, .ifCond .ne 6, [10], [], []), (7, 2, .bipush (-2), [], [-2], []), (9, 1, .ireturn, [0], [], [])]
def bkX11_program_10 : List gw_E := [(10, 1, .aload_n 0, [0], [], []), (11, 1, .iload_n 1, [1], [], []), (12, 3, .invokevirtual 37, [1, 11, 6141, 6143, 27, 1013], [], [sgX11_guestAt]), (15, 2, .istore 4, [4], [], []), (17, 1, .iload_n 2, [2], [], []), (18, 1, .iconst (-1), [], [-1], []), (19, 3, .if_icmp .ne 14, [33], [], []), (22, 1, .aload_n 0, [0], [], []), (23, 3, .getfield 7, [11, 0, 1, 6073], [], []), (26, 2, .iload 4, [4], [], []), (28, 2, .bipush 6, [], [6], []), (30, 1, .iadd, [], [], []), (31, 1, .iaload, [], [], []), (32, 1, .ireturn, [0], [], [])]
def bkX11_program_33 : List gw_E := [(33, 1, .iload_n 2, [2], [], []), (34, 1, .iconst 0, [], [0], []), (35, 1, .aload_n 0, [0], [], []), (36, 3, .getfield 7, [11, 0, 1, 6073], [], []), (39, 2, .iload 4, [4], [], []), (41, 2, .bipush 6, [], [6], []), (43, 1, .iadd, [], [], []), (44, 1, .iaload, [], [], []), (45, 1, .iconst 1, [], [1], []), (46, 1, .isub, [], [], []), (47, 3, .invokestatic 33, [3, 0, 6122, 6123, 1013, 0], [], [sgX11_isIn]), (50, 3, .ifCond .eq 31, [81], [], []), (53, 1, .iload_n 3, [3], [], []), (54, 1, .iconst 0, [], [0], []), (55, 1, .iconst 2, [], [2], []), (56, 3, .invokestatic 33, [3, 0, 6122, 6123, 1013, 0], [], [sgX11_isIn]), (59, 3, .ifCond .eq 22, [81], [], []), (62, 1, .aload_n 0, [0], [], []), (63, 3, .getfield 7, [11, 0, 1, 6073], [], []), (66, 2, .iload 4, [4], [], []), (68, 2, .bipush 7, [], [7], []), (70, 1, .iadd, [], [], []), (71, 1, .iconst 3, [], [3], []), (72, 1, .iload_n 2, [2], [], []), (73, 1, .imul, [], [], []), (74, 1, .iadd, [], [], []), (75, 1, .iload_n 3, [3], [], []), (76, 1, .iadd, [], [], []), (77, 1, .iaload, [], [], []), (78, 3, .goto 5, [83], [], [])]
def bkX11_program_81 : List gw_E := [(81, 2, .bipush (-2), [], [-2], [])]
def bkX11_program_83 : List gw_E := [(83, 1, .ireturn, [0], [], [])]
def bsX11_program : List (Nat × List gw_E) := [(0, bkX11_program_0), (10, bkX11_program_10), (33, bkX11_program_33), (81, bkX11_program_81), (83, bkX11_program_83)]
theorem fdX11_program_0 : gw_find bsX11_program 0 = bkX11_program_0 := rfl
theorem fdX11_program_10 : gw_find bsX11_program 10 = bkX11_program_10 := rfl
theorem fdX11_program_33 : gw_find bsX11_program 33 = bkX11_program_33 := rfl
theorem fdX11_program_81 : gw_find bsX11_program 81 = bkX11_program_81 := rfl
theorem fdX11_program_83 : gw_find bsX11_program 83 = bkX11_program_83 := rfl
set_option maxRecDepth 40000 in
theorem stX11_program : gw_sta sgX11_program bsX11_program := ⟨by decide +kernel, gw_mem2 (i := 8150) rfl rfl, gw_all (by decide +kernel)⟩
def bkX11_foretold_0 : List gw_E := [(0, 1, .aload_n 0, [0], [], []), (1, 1, .iload_n 1, [1], [], []), (2, 3, .sipush 200, [], [200], []), (5, 3, .invokevirtual 252, [2, 11, 7221, 7223, 76, 1013], [], [sgX11_canGo]), (8, 3, .ifCond .ne 5, [13], [], []), (11, 1, .iconst (-1), [], [-1], []), (12, 1, .ireturn, [0], [], [])]
def bkX11_foretold_13 : List gw_E := [(13, 1, .aload_n 0, [0], [], []), (14, 3, .invokevirtual 272, [0, 11, 8155, 8157, 87, 1013], [], [sgX11_putAside]), (17, 1, .iconst 0, [], [0], []), (18, 1, .istore_n 3, [3], [], [])]
def bkX11_foretold_19 : List gw_E := [(19, 1, .iload_n 3, [3], [], []), (20, 1, .iload_n 1, [1], [], []), (21, 3, .if_icmp .ge 13, [34], [], []), (24, 1, .aload_n 0, [0], [], []), (25, 3, .invokevirtual 258, [0, 11, 7229, 7231, 78, 1013], [], [sgX11_goNow]), (28, 3, .iinc 3 1, [3], [1], []), (31, 3, .goto (-12), [19], [], [])]
def bkX11_foretold_34 : List gw_E := [(34, 1, .aload_n 0, [0], [], []), (35, 1, .iload_n 2, [2], [], []), (36, 3, .invokevirtual 275, [1, 11, 8159, 8014, 8015, 1013], [], [sgX11_is]), (39, 1, .istore_n 3, [3], [], []), (40, 1, .aload_n 0, [0], [], []), (41, 3, .invokevirtual 278, [0, 11, 8160, 8162, 88, 1013], [], [sgX11_bringBack]), (44, 1, .iload_n 3, [3], [], []), (45, 1, .ireturn, [0], [], [])]
def bsX11_foretold : List (Nat × List gw_E) := [(0, bkX11_foretold_0), (13, bkX11_foretold_13), (19, bkX11_foretold_19), (34, bkX11_foretold_34)]
theorem fdX11_foretold_0 : gw_find bsX11_foretold 0 = bkX11_foretold_0 := rfl
theorem fdX11_foretold_13 : gw_find bsX11_foretold 13 = bkX11_foretold_13 := rfl
theorem fdX11_foretold_19 : gw_find bsX11_foretold 19 = bkX11_foretold_19 := rfl
theorem fdX11_foretold_34 : gw_find bsX11_foretold 34 = bkX11_foretold_34 := rfl
set_option maxRecDepth 40000 in
theorem stX11_foretold : gw_sta sgX11_foretold bsX11_foretold := ⟨by decide +kernel, gw_mem2 (i := 8154) rfl rfl, gw_all (by decide +kernel)⟩
def bkX11_tillMore_0 : List gw_E := [(0, 1, .aload_n 0, [0], [], []), (1, 3, .getfield 7, [11, 0, 1, 6073], [], []), (4, 1, .iload_n 1, [1], [], []), (5, 1, .iaload, [], [], []), (6, 1, .istore_n 2, [2], [], []), (7, 1, .iconst 0, [], [0], []), (8, 1, .istore_n 3, [3], [], []), (9, 1, .aload_n 0, [0], [], []), (10, 3, .invokevirtual 272, [0, 11, 8155, 8157, 87, 1013], [], [sgX11_putAside])]
def bkX11_tillMore_13 : List gw_E := [(13, 1, .iload_n 3, [3], [], []), (14, 3, .sipush 200, [], [200], []), (17, 3, .if_icmp .ge 34, [51], [], []), (20, 1, .aload_n 0, [0], [], []), (21, 3, .getfield 7, [11, 0, 1, 6073], [], []), (24, 1, .iconst 3, [], [3], []), (25, 1, .iaload, [], [], []), (26, 2, .ldc 225, [7178], [99999], []), (28, 3, .if_icmp .ge 23, [51], [], []), (31, 1, .aload_n 0, [0], [], []), (32, 3, .getfield 7, [11, 0, 1, 6073], [], []), (35, 1, .iload_n 1, [1], [], []), (36, 1, .iaload, [], [], []), (37, 1, .iload_n 2, [2], [], []), (38, 3, .if_icmp .ne 13, [51], [], []), (41, 1, .aload_n 0, [0], [], []), (42, 3, .invokevirtual 258, [0, 11, 7229, 7231, 78, 1013], [], [sgX11_goNow]), (45, 3, .iinc 3 1, [3], [1], []), (48, 3, .goto (-35), [13], [], [])]
def bkX11_tillMore_51 : List gw_E := [(51, 1, .aload_n 0, [0], [], []), (52, 3, .getfield 7, [11, 0, 1, 6073], [], []), (55, 1, .iload_n 1, [1], [], []), (56, 1, .iaload, [], [], []), (57, 1, .iload_n 2, [2], [], []), (58, 3, .if_icmp .eq 7, [65], [], []), (61, 1, .iconst 1, [], [1], []), (62, 3, .goto 4, [66], [], [])]
def bkX11_tillMore_65 : List gw_E := [(65, 1, .iconst 0, [], [0], [])]
def bkX11_tillMore_66 : List gw_E := [(66, 2, .istore 4, [4], [], []), (68, 1, .aload_n 0, [0], [], []), (69, 3, .invokevirtual 278, [0, 11, 8160, 8162, 88, 1013], [], [sgX11_bringBack]), (72, 2, .iload 4, [4], [], []), (74, 3, .ifCond .eq 7, [81], [], []), (77, 1, .iload_n 3, [3], [], []), (78, 3, .goto 4, [82], [], [])]
def bkX11_tillMore_81 : List gw_E := [(81, 1, .iconst (-1), [], [-1], [])]
def bkX11_tillMore_82 : List gw_E := [(82, 1, .ireturn, [0], [], [])]
def bsX11_tillMore : List (Nat × List gw_E) := [(0, bkX11_tillMore_0), (13, bkX11_tillMore_13), (51, bkX11_tillMore_51), (65, bkX11_tillMore_65), (66, bkX11_tillMore_66), (81, bkX11_tillMore_81), (82, bkX11_tillMore_82)]
theorem fdX11_tillMore_0 : gw_find bsX11_tillMore 0 = bkX11_tillMore_0 := rfl
theorem fdX11_tillMore_13 : gw_find bsX11_tillMore 13 = bkX11_tillMore_13 := rfl
theorem fdX11_tillMore_51 : gw_find bsX11_tillMore 51 = bkX11_tillMore_51 := rfl
theorem fdX11_tillMore_65 : gw_find bsX11_tillMore 65 = bkX11_tillMore_65 := rfl
theorem fdX11_tillMore_66 : gw_find bsX11_tillMore 66 = bkX11_tillMore_66 := rfl
theorem fdX11_tillMore_81 : gw_find bsX11_tillMore 81 = bkX11_tillMore_81 := rfl
theorem fdX11_tillMore_82 : gw_find bsX11_tillMore 82 = bkX11_tillMore_82 := rfl
set_option maxRecDepth 40000 in
theorem stX11_tillMore : gw_sta sgX11_tillMore bsX11_tillMore := ⟨by decide +kernel, gw_mem2 (i := 8171) rfl rfl, gw_all (by decide +kernel)⟩
def bkX11_till_0 : List gw_E := [(0, 1, .aload_n 0, [0], [], []), (1, 2, .bipush 6, [], [6], []), (3, 3, .invokevirtual 281, [1, 11, 8168, 8170, 89, 1013], [], [sgX11_tillMore]), (6, 1, .ireturn, [0], [], [])]
def bsX11_till : List (Nat × List gw_E) := [(0, bkX11_till_0)]
theorem fdX11_till_0 : gw_find bsX11_till 0 = bkX11_till_0 := rfl
set_option maxRecDepth 40000 in
theorem stX11_till : gw_sta sgX11_till bsX11_till := ⟨by decide +kernel, gw_mem2 (i := 8167) rfl rfl, gw_all (by decide +kernel)⟩
def bkX11_waits_0 : List gw_E := [(0, 1, .iload_n 1, [1], [], []), (1, 3, .invokestatic 208, [1, 0, 7107, 7108, 1013, 0], [], [sgX11_isGuest]), (4, 3, .ifCond .eq 16, [20], [], []), (7, 1, .aload_n 0, [0], [], []), (8, 2, .bipush 9, [], [9], []), (10, 1, .iload_n 1, [1], [], []), (11, 1, .iadd, [], [], []), (12, 1, .iconst 1, [], [1], []), (13, 1, .isub, [], [], []), (14, 3, .invokevirtual 281, [1, 11, 8168, 8170, 89, 1013], [], [sgX11_tillMore]), (17, 3, .goto 4, [21], [], [])]
def bkX11_waits_20 : List gw_E := [(20, 1, .iconst (-1), [], [-1], [])]
def bkX11_waits_21 : List gw_E := [(21, 1, .ireturn, [0], [], [])]
def bsX11_waits : List (Nat × List gw_E) := [(0, bkX11_waits_0), (20, bkX11_waits_20), (21, bkX11_waits_21)]
theorem fdX11_waits_0 : gw_find bsX11_waits 0 = bkX11_waits_0 := rfl
theorem fdX11_waits_20 : gw_find bsX11_waits 20 = bkX11_waits_20 := rfl
theorem fdX11_waits_21 : gw_find bsX11_waits 21 = bkX11_waits_21 := rfl
set_option maxRecDepth 40000 in
theorem stX11_waits : gw_sta sgX11_waits bsX11_waits := ⟨by decide +kernel, gw_mem2 (i := 8175) rfl rfl, gw_all (by decide +kernel)⟩
def bkX11_seenBy_0 : List gw_E := [(0, 1, .aload_n 0, [0], [], []), (1, 3, .invokevirtual 272, [0, 11, 8155, 8157, 87, 1013], [], [sgX11_putAside]), (4, 1, .aload_n 0, [0], [], []), (5, 3, .invokevirtual 148, [0, 11, 7134, 7136, 68, 1013], [], [sgX11_unfoldAll]), (8, 1, .aload_n 0, [0], [], []), (9, 1, .iload_n 1, [1], [], []), (10, 3, .invokevirtual 190, [1, 11, 6203, 6205, 39, 1013], [], [sgX11_roomNow]), (13, 1, .aload_n 0, [0], [], []), (14, 3, .getfield 7, [11, 0, 1, 6073], [], []), (17, 1, .iconst 5, [], [5], []), (18, 1, .iaload, [], [], []), (19, 1, .istore_n 3, [3], [], []), (20, 1, .iconst 0, [], [0], []), (21, 2, .istore 4, [4], [], [])]
def bkX11_seenBy_23 : List gw_E := [(23, 2, .iload 4, [4], [], []), (25, 1, .iload_n 2, [2], [], []), (26, 3, .if_icmp .ge 13, [39], [], []), (29, 1, .aload_n 0, [0], [], []), (30, 3, .invokevirtual 258, [0, 11, 7229, 7231, 78, 1013], [], [sgX11_goNow]), (33, 3, .iinc 4 1, [4], [1], []), (36, 3, .goto (-13), [23], [], [])]
def bkX11_seenBy_39 : List gw_E := [(39, 1, .aload_n 0, [0], [], []), (40, 3, .getfield 7, [11, 0, 1, 6073], [], []), (43, 1, .iconst 5, [], [5], []), (44, 1, .iaload, [], [], []), (45, 1, .iload_n 3, [3], [], []), (46, 1, .isub, [], [], []), (47, 2, .istore 4, [4], [], []), (49, 1, .aload_n 0, [0], [], []), (50, 3, .invokevirtual 278, [0, 11, 8160, 8162, 88, 1013], [], [sgX11_bringBack]), (53, 2, .iload 4, [4], [], []), (55, 1, .ireturn, [0], [], [])]
def bsX11_seenBy : List (Nat × List gw_E) := [(0, bkX11_seenBy_0), (23, bkX11_seenBy_23), (39, bkX11_seenBy_39)]
theorem fdX11_seenBy_0 : gw_find bsX11_seenBy 0 = bkX11_seenBy_0 := rfl
theorem fdX11_seenBy_23 : gw_find bsX11_seenBy 23 = bkX11_seenBy_23 := rfl
theorem fdX11_seenBy_39 : gw_find bsX11_seenBy 39 = bkX11_seenBy_39 := rfl
set_option maxRecDepth 40000 in
theorem stX11_seenBy : gw_sta sgX11_seenBy bsX11_seenBy := ⟨by decide +kernel, gw_mem2 (i := 8183) rfl rfl, gw_all (by decide +kernel)⟩
def bkX11_roomiest_0 : List gw_E := [(0, 1, .aload_n 0, [0], [], []), (1, 1, .iload_n 1, [1], [], []), (2, 2, .bipush 100, [], [100], []), (4, 3, .invokevirtual 252, [2, 11, 7221, 7223, 76, 1013], [], [sgX11_canGo]), (7, 3, .ifCond .ne 5, [12], [], []), (10, 1, .iconst (-1), [], [-1], []), (11, 1, .ireturn, [0], [], [])]
def bkX11_roomiest_12 : List gw_E := [(12, 1, .iconst 1, [], [1], []), (13, 1, .istore_n 2, [2], [], []), (14, 1, .aload_n 0, [0], [], []), (15, 1, .iconst 1, [], [1], []), (16, 1, .iload_n 1, [1], [], []), (17, 3, .invokevirtual 284, [2, 11, 8180, 8182, 90, 1013], [], [sgX11_seenBy]), (20, 1, .istore_n 3, [3], [], []), (21, 1, .iconst 2, [], [2], []), (22, 2, .istore 4, [4], [], [])]
def bkX11_roomiest_24 : List gw_E := [(24, 2, .iload 4, [4], [], []), (26, 2, .bipush 16, [], [16], []), (28, 3, .if_icmp .gt 33, [61], [], []), (31, 1, .aload_n 0, [0], [], []), (32, 2, .iload 4, [4], [], []), (34, 1, .iload_n 1, [1], [], []), (35, 3, .invokevirtual 284, [2, 11, 8180, 8182, 90, 1013], [], [sgX11_seenBy]), (38, 2, .istore 5, [5], [], []), (40, 2, .iload 5, [5], [], []), (42, 1, .iload_n 3, [3], [], []), (43, 3, .if_icmp .lt 6, [49], [], []), (46, 3, .goto 9, [55], [], [])]
def bkX11_roomiest_49 : List gw_E := [(49, 2, .iload 4, [4], [], []), (51, 1, .istore_n 2, [2], [], []), (52, 2, .iload 5, [5], [], []), (54, 1, .istore_n 3, [3], [], [])]
def bkX11_roomiest_55 : List gw_E := [(55, 3, .iinc 4 1, [4], [1], []), (58, 3, .goto (-34), [24], [], [])]
def bkX11_roomiest_61 : List gw_E := [(61, 1, .iload_n 2, [2], [], []), (62, 1, .ireturn, [0], [], [])]
def bsX11_roomiest : List (Nat × List gw_E) := [(0, bkX11_roomiest_0), (12, bkX11_roomiest_12), (24, bkX11_roomiest_24), (49, bkX11_roomiest_49), (55, bkX11_roomiest_55), (61, bkX11_roomiest_61)]
theorem fdX11_roomiest_0 : gw_find bsX11_roomiest 0 = bkX11_roomiest_0 := rfl
theorem fdX11_roomiest_12 : gw_find bsX11_roomiest 12 = bkX11_roomiest_12 := rfl
theorem fdX11_roomiest_24 : gw_find bsX11_roomiest 24 = bkX11_roomiest_24 := rfl
theorem fdX11_roomiest_49 : gw_find bsX11_roomiest 49 = bkX11_roomiest_49 := rfl
theorem fdX11_roomiest_55 : gw_find bsX11_roomiest 55 = bkX11_roomiest_55 := rfl
theorem fdX11_roomiest_61 : gw_find bsX11_roomiest 61 = bkX11_roomiest_61 := rfl
set_option maxRecDepth 40000 in
theorem stX11_roomiest : gw_sta sgX11_roomiest bsX11_roomiest := ⟨by decide +kernel, gw_mem2 (i := 8179) rfl rfl, gw_all (by decide +kernel)⟩
def bkX11_plainValue_0 : List gw_E := [(0, 1, .aload_n 0, [0], [], []), (1, 1, .iconst 1, [], [1], []), (2, 1, .iload_n 1, [1], [], []), (3, 3, .invokevirtual 52, [2, 11, 6149, 6151, 29, 1013], [], [sgX11_toOf]), (6, 1, .istore_n 2, [2], [], []), (7, 1, .iload_n 2, [2], [], []), (8, 1, .iconst (-1), [], [-1], []), (9, 3, .if_icmp .ne 5, [14], [], []), (12, 1, .iconst 0, [], [0], []), (13, 1, .ireturn, [0], [], [])]
def bkX11_plainValue_14 : List gw_E := [(14, 1, .aload_n 0, [0], [], []), (15, 1, .iconst 2, [], [2], []), (16, 1, .iload_n 2, [2], [], []), (17, 3, .invokevirtual 52, [2, 11, 6149, 6151, 29, 1013], [], [sgX11_toOf]), (20, 1, .iconst (-1), [], [-1], []), (21, 3, .if_icmp .eq 19, [40], [], []), (24, 1, .aload_n 0, [0], [], []), (25, 3, .getfield 7, [11, 0, 1, 6073], [], []), (28, 3, .sipush 802, [], [802], []), (31, 1, .aload_n 0, [0], [], []), (32, 1, .iconst 2, [], [2], []), (33, 1, .iload_n 2, [2], [], []), (34, 3, .invokevirtual 52, [2, 11, 6149, 6151, 29, 1013], [], [sgX11_toOf]), (37, 1, .iadd, [], [], []), (38, 1, .iaload, [], [], []), (39, 1, .ireturn, [0], [], [])]
def bkX11_plainValue_40 : List gw_E := [(40, 1, .aload_n 0, [0], [], []), (41, 3, .getfield 7, [11, 0, 1, 6073], [], []), (44, 3, .sipush 812, [], [812], []), (47, 1, .iload_n 2, [2], [], []), (48, 1, .iadd, [], [], []), (49, 1, .iaload, [], [], []), (50, 1, .iconst (-1), [], [-1], []), (51, 3, .if_icmp .ne 7, [58], [], []), (54, 1, .iconst 0, [], [0], []), (55, 3, .goto 13, [68], [], [])]
def bkX11_plainValue_58 : List gw_E := [(58, 1, .aload_n 0, [0], [], []), (59, 3, .getfield 7, [11, 0, 1, 6073], [], []), (62, 3, .sipush 812, [], [812], []), (65, 1, .iload_n 2, [2], [], []), (66, 1, .iadd, [], [], []), (67, 1, .iaload, [], [], [])]
def bkX11_plainValue_68 : List gw_E := [(68, 1, .ireturn, [0], [], [])]
def bsX11_plainValue : List (Nat × List gw_E) := [(0, bkX11_plainValue_0), (14, bkX11_plainValue_14), (40, bkX11_plainValue_40), (58, bkX11_plainValue_58), (68, bkX11_plainValue_68)]
theorem fdX11_plainValue_0 : gw_find bsX11_plainValue 0 = bkX11_plainValue_0 := rfl
theorem fdX11_plainValue_14 : gw_find bsX11_plainValue 14 = bkX11_plainValue_14 := rfl
theorem fdX11_plainValue_40 : gw_find bsX11_plainValue 40 = bkX11_plainValue_40 := rfl
theorem fdX11_plainValue_58 : gw_find bsX11_plainValue 58 = bkX11_plainValue_58 := rfl
theorem fdX11_plainValue_68 : gw_find bsX11_plainValue 68 = bkX11_plainValue_68 := rfl
set_option maxRecDepth 40000 in
theorem stX11_plainValue : gw_sta sgX11_plainValue bsX11_plainValue := ⟨by decide +kernel, gw_mem2 (i := 8195) rfl rfl, gw_all (by decide +kernel)⟩
def bkX11_plainTrap_0 : List gw_E := [(0, 1, .aload_n 0, [0], [], []), (1, 1, .dup, [], [], []), (2, 3, .getfield 287, [11, 5, 0, 6078], [], []), (5, 1, .iconst 1, [], [1], []), (6, 1, .iadd, [], [], []), (7, 3, .putfield 287, [11, 5, 0, 6078], [], []), (10, 1, .aload_n 0, [0], [], []), (11, 1, .iload_n 2, [2], [], []), (12, 3, .putfield 291, [11, 8, 0, 6081], [], []), (15, 1, .aload_n 0, [0], [], []), (16, 1, .iload_n 3, [3], [], []), (17, 3, .putfield 294, [11, 9, 0, 6082], [], []), (20, 1, .aload_n 0, [0], [], []), (21, 1, .iload_n 1, [1], [], []), (22, 1, .aload_n 0, [0], [], []), (23, 3, .getfield 7, [11, 0, 1, 6073], [], []), (26, 1, .iload_n 1, [1], [], []), (27, 3, .sipush 143, [], [143], []), (30, 1, .iadd, [], [], []), (31, 1, .iaload, [], [], []), (32, 3, .invokevirtual 236, [2, 11, 8001, 8003, 81, 1013], [], [sgX11_hasPlace]), (35, 3, .ifCond .eq 17, [52], [], []), (38, 1, .aload_n 0, [0], [], []), (39, 1, .aload_n 0, [0], [], []), (40, 3, .getfield 7, [11, 0, 1, 6073], [], []), (43, 1, .iload_n 1, [1], [], []), (44, 3, .sipush 143, [], [143], []), (47, 1, .iadd, [], [], []), (48, 1, .iaload, [], [], []), (49, 3, .putfield 297, [11, 7, 0, 6080], [], [])]
def bkX11_plainTrap_52 : List gw_E := [(52, 1, .return_, [], [], [])]
def bsX11_plainTrap : List (Nat × List gw_E) := [(0, bkX11_plainTrap_0), (52, bkX11_plainTrap_52)]
theorem fdX11_plainTrap_0 : gw_find bsX11_plainTrap 0 = bkX11_plainTrap_0 := rfl
theorem fdX11_plainTrap_52 : gw_find bsX11_plainTrap 52 = bkX11_plainTrap_52 := rfl
set_option maxRecDepth 40000 in
theorem stX11_plainTrap : gw_sta sgX11_plainTrap bsX11_plainTrap := ⟨by decide +kernel, gw_mem2 (i := 8207) rfl rfl, gw_all (by decide +kernel)⟩
def bkX11_plainTell_0 : List gw_E := [(0, 1, .aload_n 0, [0], [], []), (1, 3, .getfield 22, [11, 4, 1, 6077], [], []), (4, 1, .iconst 2, [], [2], []), (5, 1, .iload_n 1, [1], [], []), (6, 1, .imul, [], [], []), (7, 1, .iload_n 2, [2], [], []), (8, 1, .iastore, [], [], []), (9, 1, .aload_n 0, [0], [], []), (10, 3, .getfield 22, [11, 4, 1, 6077], [], []), (13, 1, .iconst 2, [], [2], []), (14, 1, .iload_n 1, [1], [], []), (15, 1, .imul, [], [], []), (16, 1, .iconst 1, [], [1], []), (17, 1, .iadd, [], [], []), (18, 2, .bipush 7, [], [7], []), (20, 1, .iastore, [], [], []), (21, 1, .return_, [], [], [])]
def bsX11_plainTell : List (Nat × List gw_E) := [(0, bkX11_plainTell_0)]
theorem fdX11_plainTell_0 : gw_find bsX11_plainTell 0 = bkX11_plainTell_0 := rfl
set_option maxRecDepth 40000 in
theorem stX11_plainTell : gw_sta sgX11_plainTell bsX11_plainTell := ⟨by decide +kernel, gw_mem2 (i := 8211) rfl rfl, gw_all (by decide +kernel)⟩
def bkX11_plainTouch_0 : List gw_E := [(0, 1, .aload_n 0, [0], [], []), (1, 3, .getfield 22, [11, 4, 1, 6077], [], []), (4, 1, .iconst 2, [], [2], []), (5, 1, .iload_n 3, [3], [], []), (6, 1, .imul, [], [], []), (7, 1, .iaload, [], [], []), (8, 1, .iconst (-1), [], [-1], []), (9, 3, .if_icmp .eq 21, [30], [], []), (12, 1, .aload_n 0, [0], [], []), (13, 3, .getfield 22, [11, 4, 1, 6077], [], []), (16, 1, .iconst 2, [], [2], []), (17, 1, .iload_n 3, [3], [], []), (18, 1, .imul, [], [], []), (19, 1, .iconst 1, [], [1], []), (20, 1, .iadd, [], [], []), (21, 1, .iaload, [], [], []), (22, 2, .iload 4, [4], [], []), (24, 3, .invokestatic 29, [2, 0, 6176, 6177, 1013, 0], [], [sgX11_has]), (27, 3, .ifCond .ne 11, [38], [], [])]
def bkX11_plainTouch_30 : List gw_E := [(30, 1, .aload_n 0, [0], [], []), (31, 1, .iload_n 1, [1], [], []), (32, 1, .iload_n 3, [3], [], []), (33, 1, .iload_n 2, [2], [], []), (34, 3, .invokevirtual 300, [3, 11, 8204, 8206, 95, 1013], [], [sgX11_plainTrap]), (37, 1, .return_, [], [], [])]
def bkX11_plainTouch_38 : List gw_E := [(38, 1, .aload_n 0, [0], [], []), (39, 3, .getfield 22, [11, 4, 1, 6077], [], []), (42, 1, .iconst 2, [], [2], []), (43, 1, .iload_n 3, [3], [], []), (44, 1, .imul, [], [], []), (45, 1, .iaload, [], [], []), (46, 2, .istore 6, [6], [], []), (48, 2, .iload 4, [4], [], []), (50, 1, .iconst 1, [], [1], []), (51, 3, .if_icmp .ne 15, [66], [], []), (54, 1, .aload_n 0, [0], [], []), (55, 3, .getfield 19, [11, 3, 1, 6076], [], []), (58, 2, .iload 6, [6], [], []), (60, 2, .iload 5, [5], [], []), (62, 1, .iastore, [], [], []), (63, 3, .goto 14, [77], [], [])]
def bkX11_plainTouch_66 : List gw_E := [(66, 1, .aload_n 0, [0], [], []), (67, 1, .aload_n 0, [0], [], []), (68, 3, .getfield 19, [11, 3, 1, 6076], [], []), (71, 2, .iload 6, [6], [], []), (73, 1, .iaload, [], [], []), (74, 3, .putfield 303, [11, 6, 0, 6079], [], [])]
def bkX11_plainTouch_77 : List gw_E := [(77, 1, .return_, [], [], [])]
def bsX11_plainTouch : List (Nat × List gw_E) := [(0, bkX11_plainTouch_0), (30, bkX11_plainTouch_30), (38, bkX11_plainTouch_38), (66, bkX11_plainTouch_66), (77, bkX11_plainTouch_77)]
theorem fdX11_plainTouch_0 : gw_find bsX11_plainTouch 0 = bkX11_plainTouch_0 := rfl
theorem fdX11_plainTouch_30 : gw_find bsX11_plainTouch 30 = bkX11_plainTouch_30 := rfl
theorem fdX11_plainTouch_38 : gw_find bsX11_plainTouch 38 = bkX11_plainTouch_38 := rfl
theorem fdX11_plainTouch_66 : gw_find bsX11_plainTouch 66 = bkX11_plainTouch_66 := rfl
theorem fdX11_plainTouch_77 : gw_find bsX11_plainTouch 77 = bkX11_plainTouch_77 := rfl
set_option maxRecDepth 40000 in
theorem stX11_plainTouch : gw_sta sgX11_plainTouch bsX11_plainTouch := ⟨by decide +kernel, gw_mem2 (i := 8203) rfl rfl, gw_all (by decide +kernel)⟩
def bkX11_layPlain_0 : List gw_E := [(0, 1, .aload_n 0, [0], [], []), (1, 1, .iconst 2, [], [2], []), (2, 3, .invokevirtual 37, [1, 11, 6141, 6143, 27, 1013], [], [sgX11_guestAt]), (5, 1, .istore_n 2, [2], [], []), (6, 1, .iconst 0, [], [0], []), (7, 1, .istore_n 3, [3], [], [])]
def bkX11_layPlain_8 : List gw_E := [(8, 1, .iload_n 3, [3], [], []), (9, 2, .bipush 16, [], [16], []), (11, 3, .if_icmp .ge 20, [31], [], []), (14, 1, .aload_n 0, [0], [], []), (15, 3, .getfield 19, [11, 3, 1, 6076], [], []), (18, 1, .iload_n 3, [3], [], []), (19, 1, .aload_n 0, [0], [], []), (20, 1, .iload_n 3, [3], [], []), (21, 3, .invokevirtual 306, [1, 11, 8192, 8194, 92, 1013], [], [sgX11_plainValue]), (24, 1, .iastore, [], [], []), (25, 3, .iinc 3 1, [3], [1], []), (28, 3, .goto (-20), [8], [], [])]
def bkX11_layPlain_31 : List gw_E := [(31, 1, .iconst 0, [], [0], []), (32, 1, .istore_n 3, [3], [], [])]
def bkX11_layPlain_33 : List gw_E := [(33, 1, .iload_n 3, [3], [], []), (34, 2, .bipush 32, [], [32], []), (36, 3, .if_icmp .ge 26, [62], [], []), (39, 1, .aload_n 0, [0], [], []), (40, 3, .getfield 22, [11, 4, 1, 6077], [], []), (43, 1, .iload_n 3, [3], [], []), (44, 1, .aload_n 0, [0], [], []), (45, 3, .getfield 7, [11, 0, 1, 6073], [], []), (48, 1, .iload_n 2, [2], [], []), (49, 2, .bipush 79, [], [79], []), (51, 1, .iadd, [], [], []), (52, 1, .iload_n 3, [3], [], []), (53, 1, .iadd, [], [], []), (54, 1, .iaload, [], [], []), (55, 1, .iastore, [], [], []), (56, 3, .iinc 3 1, [3], [1], []), (59, 3, .goto (-26), [33], [], [])]
def bkX11_layPlain_62 : List gw_E := [(62, 1, .aload_n 0, [0], [], []), (63, 1, .iconst 0, [], [0], []), (64, 3, .putfield 287, [11, 5, 0, 6078], [], []), (67, 1, .aload_n 0, [0], [], []), (68, 1, .iconst (-1), [], [-1], []), (69, 3, .putfield 303, [11, 6, 0, 6079], [], []), (72, 1, .aload_n 0, [0], [], []), (73, 1, .aload_n 0, [0], [], []), (74, 3, .getfield 7, [11, 0, 1, 6073], [], []), (77, 1, .iload_n 2, [2], [], []), (78, 1, .iconst 5, [], [5], []), (79, 1, .iadd, [], [], []), (80, 1, .iaload, [], [], []), (81, 3, .putfield 297, [11, 7, 0, 6080], [], []), (84, 1, .aload_n 0, [0], [], []), (85, 1, .aload_n 0, [0], [], []), (86, 3, .getfield 7, [11, 0, 1, 6073], [], []), (89, 1, .iload_n 2, [2], [], []), (90, 3, .sipush 144, [], [144], []), (93, 1, .iadd, [], [], []), (94, 1, .iaload, [], [], []), (95, 3, .putfield 291, [11, 8, 0, 6081], [], []), (98, 1, .aload_n 0, [0], [], []), (99, 1, .aload_n 0, [0], [], []), (100, 3, .getfield 7, [11, 0, 1, 6073], [], []), (103, 1, .iload_n 2, [2], [], []), (104, 3, .sipush 144, [], [144], []), (107, 1, .iadd, [], [], []), (108, 1, .iconst 1, [], [1], []), (109, 1, .iadd, [], [], []), (110, 1, .iaload, [], [], []), (111, 3, .putfield 294, [11, 9, 0, 6082], [], []), (114, 1, .iconst 0, [], [0], []), (115, 1, .istore_n 3, [3], [], [])]
def bkX11_layPlain_116 : List gw_E := [(116, 1, .iload_n 3, [3], [], []), (117, 1, .iload_n 1, [1], [], []), (118, 3, .if_icmp .ge 30, [148], [], []), (121, 1, .aload_n 0, [0], [], []), (122, 3, .getfield 7, [11, 0, 1, 6073], [], []), (125, 1, .iload_n 2, [2], [], []), (126, 2, .bipush 6, [], [6], []), (128, 1, .iadd, [], [], []), (129, 1, .iaload, [], [], []), (130, 3, .ifCond .le 18, [148], [], []), (133, 1, .aload_n 0, [0], [], []), (134, 1, .iload_n 2, [2], [], []), (135, 1, .aload_n 0, [0], [], []), (136, 3, .getfield 297, [11, 7, 0, 6080], [], []), (139, 3, .invokevirtual 309, [2, 11, 8196, 8198, 93, 1013], [], [sgX11_plainAct]), (142, 3, .iinc 3 1, [3], [1], []), (145, 3, .goto (-29), [116], [], [])]
def bkX11_layPlain_148 : List gw_E := [(148, 1, .return_, [], [], [])]
def bsX11_layPlain : List (Nat × List gw_E) := [(0, bkX11_layPlain_0), (8, bkX11_layPlain_8), (31, bkX11_layPlain_31), (33, bkX11_layPlain_33), (62, bkX11_layPlain_62), (116, bkX11_layPlain_116), (148, bkX11_layPlain_148)]
theorem fdX11_layPlain_0 : gw_find bsX11_layPlain 0 = bkX11_layPlain_0 := rfl
theorem fdX11_layPlain_8 : gw_find bsX11_layPlain 8 = bkX11_layPlain_8 := rfl
theorem fdX11_layPlain_31 : gw_find bsX11_layPlain 31 = bkX11_layPlain_31 := rfl
theorem fdX11_layPlain_33 : gw_find bsX11_layPlain 33 = bkX11_layPlain_33 := rfl
theorem fdX11_layPlain_62 : gw_find bsX11_layPlain 62 = bkX11_layPlain_62 := rfl
theorem fdX11_layPlain_116 : gw_find bsX11_layPlain 116 = bkX11_layPlain_116 := rfl
theorem fdX11_layPlain_148 : gw_find bsX11_layPlain 148 = bkX11_layPlain_148 := rfl
set_option maxRecDepth 40000 in
theorem stX11_layPlain : gw_sta sgX11_layPlain bsX11_layPlain := ⟨by decide +kernel, gw_mem2 (i := 8191) rfl rfl, gw_all (by decide +kernel)⟩
def bkX11_plainAct_0 : List gw_E := [(0, 1, .iload_n 1, [1], [], []), (1, 2, .bipush 7, [], [7], []), (3, 1, .iadd, [], [], []), (4, 1, .iconst 3, [], [3], []), (5, 1, .iload_n 2, [2], [], []), (6, 1, .imul, [], [], []), (7, 1, .iadd, [], [], []), (8, 1, .istore_n 3, [3], [], []), (9, 1, .aload_n 0, [0], [], []), (10, 1, .iload_n 2, [2], [], []), (11, 1, .iconst 1, [], [1], []), (12, 1, .iadd, [], [], []), (13, 1, .aload_n 0, [0], [], []), (14, 3, .getfield 7, [11, 0, 1, 6073], [], []), (17, 1, .iload_n 1, [1], [], []), (18, 2, .bipush 6, [], [6], []), (20, 1, .iadd, [], [], []), (21, 1, .iaload, [], [], []), (22, 1, .irem, [], [], []), (23, 3, .putfield 297, [11, 7, 0, 6080], [], []), (26, 1, .aload_n 0, [0], [], []), (27, 3, .getfield 7, [11, 0, 1, 6073], [], []), (30, 1, .iload_n 3, [3], [], []), (31, 1, .iaload, [], [], []), (32, 1, .iconst 3, [], [3], []), (33, 3, .if_icmp .ge 34, [67], [], []), (36, 1, .aload_n 0, [0], [], []), (37, 1, .iload_n 1, [1], [], []), (38, 1, .iload_n 2, [2], [], []), (39, 1, .aload_n 0, [0], [], []), (40, 3, .getfield 7, [11, 0, 1, 6073], [], []), (43, 1, .iload_n 3, [3], [], []), (44, 1, .iconst 1, [], [1], []), (45, 1, .iadd, [], [], []), (46, 1, .iaload, [], [], []), (47, 1, .aload_n 0, [0], [], []), (48, 3, .getfield 7, [11, 0, 1, 6073], [], []), (51, 1, .iload_n 3, [3], [], []), (52, 1, .iaload, [], [], []), (53, 1, .aload_n 0, [0], [], []), (54, 3, .getfield 7, [11, 0, 1, 6073], [], []), (57, 1, .iload_n 3, [3], [], []), (58, 1, .iconst 2, [], [2], []), (59, 1, .iadd, [], [], []), (60, 1, .iaload, [], [], []), (61, 3, .invokevirtual 312, [5, 11, 8200, 8202, 94, 1013], [], [sgX11_plainTouch]), (64, 3, .goto 106, [170], [], [])]
def bkX11_plainAct_67 : List gw_E := [(67, 1, .aload_n 0, [0], [], []), (68, 3, .getfield 7, [11, 0, 1, 6073], [], []), (71, 1, .iload_n 3, [3], [], []), (72, 1, .iaload, [], [], []), (73, 2, .bipush 6, [], [6], []), (75, 3, .if_icmp .ne 26, [101], [], []), (78, 1, .aload_n 0, [0], [], []), (79, 1, .aload_n 0, [0], [], []), (80, 3, .getfield 7, [11, 0, 1, 6073], [], []), (83, 1, .iload_n 3, [3], [], []), (84, 1, .iconst 1, [], [1], []), (85, 1, .iadd, [], [], []), (86, 1, .iaload, [], [], []), (87, 1, .aload_n 0, [0], [], []), (88, 3, .getfield 7, [11, 0, 1, 6073], [], []), (91, 1, .iload_n 3, [3], [], []), (92, 1, .iconst 2, [], [2], []), (93, 1, .iadd, [], [], []), (94, 1, .iaload, [], [], []), (95, 3, .invokevirtual 316, [2, 11, 8208, 8210, 96, 1013], [], [sgX11_plainTell]), (98, 3, .goto 72, [170], [], [])]
def bkX11_plainAct_101 : List gw_E := [(101, 1, .aload_n 0, [0], [], []), (102, 3, .getfield 7, [11, 0, 1, 6073], [], []), (105, 1, .iload_n 3, [3], [], []), (106, 1, .iaload, [], [], []), (107, 2, .bipush 8, [], [8], []), (109, 3, .if_icmp .ne 30, [139], [], []), (112, 1, .aload_n 0, [0], [], []), (113, 3, .getfield 291, [11, 8, 0, 6081], [], []), (116, 1, .iconst (-1), [], [-1], []), (117, 3, .if_icmp .eq 22, [139], [], []), (120, 1, .aload_n 0, [0], [], []), (121, 1, .aload_n 0, [0], [], []), (122, 3, .getfield 291, [11, 8, 0, 6081], [], []), (125, 1, .aload_n 0, [0], [], []), (126, 3, .getfield 7, [11, 0, 1, 6073], [], []), (129, 1, .iload_n 3, [3], [], []), (130, 1, .iconst 1, [], [1], []), (131, 1, .iadd, [], [], []), (132, 1, .iaload, [], [], []), (133, 3, .invokevirtual 316, [2, 11, 8208, 8210, 96, 1013], [], [sgX11_plainTell]), (136, 3, .goto 34, [170], [], [])]
def bkX11_plainAct_139 : List gw_E := [(139, 1, .aload_n 0, [0], [], []), (140, 3, .getfield 7, [11, 0, 1, 6073], [], []), (143, 1, .iload_n 3, [3], [], []), (144, 1, .iaload, [], [], []), (145, 2, .bipush 9, [], [9], []), (147, 3, .if_icmp .ne 23, [170], [], []), (150, 1, .aload_n 0, [0], [], []), (151, 1, .iload_n 1, [1], [], []), (152, 1, .aload_n 0, [0], [], []), (153, 3, .getfield 294, [11, 9, 0, 6082], [], []), (156, 3, .invokevirtual 236, [2, 11, 8001, 8003, 81, 1013], [], [sgX11_hasPlace]), (159, 3, .ifCond .eq 11, [170], [], []), (162, 1, .aload_n 0, [0], [], []), (163, 1, .aload_n 0, [0], [], []), (164, 3, .getfield 294, [11, 9, 0, 6082], [], []), (167, 3, .putfield 297, [11, 7, 0, 6080], [], [])]
def bkX11_plainAct_170 : List gw_E := [(170, 1, .return_, [], [], [])]
def bsX11_plainAct : List (Nat × List gw_E) := [(0, bkX11_plainAct_0), (67, bkX11_plainAct_67), (101, bkX11_plainAct_101), (139, bkX11_plainAct_139), (170, bkX11_plainAct_170)]
theorem fdX11_plainAct_0 : gw_find bsX11_plainAct 0 = bkX11_plainAct_0 := rfl
theorem fdX11_plainAct_67 : gw_find bsX11_plainAct 67 = bkX11_plainAct_67 := rfl
theorem fdX11_plainAct_101 : gw_find bsX11_plainAct 101 = bkX11_plainAct_101 := rfl
theorem fdX11_plainAct_139 : gw_find bsX11_plainAct 139 = bkX11_plainAct_139 := rfl
theorem fdX11_plainAct_170 : gw_find bsX11_plainAct 170 = bkX11_plainAct_170 := rfl
set_option maxRecDepth 40000 in
theorem stX11_plainAct : gw_sta sgX11_plainAct bsX11_plainAct := ⟨by decide +kernel, gw_mem2 (i := 8199) rfl rfl, gw_all (by decide +kernel)⟩
def bkX11_plainly_0 : List gw_E := [(0, 1, .iload_n 1, [1], [], []), (1, 1, .iconst 1, [], [1], []), (2, 3, .sipush 200, [], [200], []), (5, 3, .invokestatic 33, [3, 0, 6122, 6123, 1013, 0], [], [sgX11_isIn]), (8, 3, .ifCond .eq 10, [18], [], []), (11, 1, .iload_n 2, [2], [], []), (12, 3, .invokestatic 178, [1, 0, 6119, 6120, 1013, 0], [], [sgX11_isPage]), (15, 3, .ifCond .ne 5, [20], [], [])]
def bkX11_plainly_18 : List gw_E := [(18, 1, .iconst (-1), [], [-1], []), (19, 1, .ireturn, [0], [], [])]
def bkX11_plainly_20 : List gw_E := [(20, 1, .aload_n 0, [0], [], []), (21, 1, .iload_n 1, [1], [], []), (22, 3, .invokevirtual 319, [1, 11, 8188, 8190, 91, 1013], [], [sgX11_layPlain]), (25, 1, .aload_n 0, [0], [], []), (26, 3, .getfield 19, [11, 3, 1, 6076], [], []), (29, 1, .iload_n 2, [2], [], []), (30, 1, .iaload, [], [], []), (31, 1, .ireturn, [0], [], [])]
def bsX11_plainly : List (Nat × List gw_E) := [(0, bkX11_plainly_0), (18, bkX11_plainly_18), (20, bkX11_plainly_20)]
theorem fdX11_plainly_0 : gw_find bsX11_plainly 0 = bkX11_plainly_0 := rfl
theorem fdX11_plainly_18 : gw_find bsX11_plainly 18 = bkX11_plainly_18 := rfl
theorem fdX11_plainly_20 : gw_find bsX11_plainly 20 = bkX11_plainly_20 := rfl
set_option maxRecDepth 40000 in
theorem stX11_plainly : gw_sta sgX11_plainly bsX11_plainly := ⟨by decide +kernel, gw_mem2 (i := 8187) rfl rfl, gw_all (by decide +kernel)⟩
def bkX11_plainTraps_0 : List gw_E := [(0, 1, .iload_n 1, [1], [], []), (1, 1, .iconst 1, [], [1], []), (2, 3, .sipush 200, [], [200], []), (5, 3, .invokestatic 33, [3, 0, 6122, 6123, 1013, 0], [], [sgX11_isIn]), (8, 3, .ifCond .ne 5, [13], [], []), (11, 1, .iconst (-1), [], [-1], []), (12, 1, .ireturn, [0], [], [])]
def bkX11_plainTraps_13 : List gw_E := [(13, 1, .aload_n 0, [0], [], []), (14, 1, .iload_n 1, [1], [], []), (15, 3, .invokevirtual 319, [1, 11, 8188, 8190, 91, 1013], [], [sgX11_layPlain]), (18, 1, .aload_n 0, [0], [], []), (19, 3, .getfield 287, [11, 5, 0, 6078], [], []), (22, 1, .ireturn, [0], [], [])]
def bsX11_plainTraps : List (Nat × List gw_E) := [(0, bkX11_plainTraps_0), (13, bkX11_plainTraps_13)]
theorem fdX11_plainTraps_0 : gw_find bsX11_plainTraps 0 = bkX11_plainTraps_0 := rfl
theorem fdX11_plainTraps_13 : gw_find bsX11_plainTraps 13 = bkX11_plainTraps_13 := rfl
set_option maxRecDepth 40000 in
theorem stX11_plainTraps : gw_sta sgX11_plainTraps bsX11_plainTraps := ⟨by decide +kernel, gw_mem2 (i := 8215) rfl rfl, gw_all (by decide +kernel)⟩
def bkX11_plainHeard_0 : List gw_E := [(0, 1, .iload_n 1, [1], [], []), (1, 1, .iconst 1, [], [1], []), (2, 3, .sipush 200, [], [200], []), (5, 3, .invokestatic 33, [3, 0, 6122, 6123, 1013, 0], [], [sgX11_isIn]), (8, 3, .ifCond .ne 5, [13], [], []), (11, 1, .iconst (-1), [], [-1], []), (12, 1, .ireturn, [0], [], [])]
def bkX11_plainHeard_13 : List gw_E := [(13, 1, .aload_n 0, [0], [], []), (14, 1, .iload_n 1, [1], [], []), (15, 3, .invokevirtual 319, [1, 11, 8188, 8190, 91, 1013], [], [sgX11_layPlain]), (18, 1, .aload_n 0, [0], [], []), (19, 3, .getfield 303, [11, 6, 0, 6079], [], []), (22, 1, .ireturn, [0], [], [])]
def bsX11_plainHeard : List (Nat × List gw_E) := [(0, bkX11_plainHeard_0), (13, bkX11_plainHeard_13)]
theorem fdX11_plainHeard_0 : gw_find bsX11_plainHeard 0 = bkX11_plainHeard_0 := rfl
theorem fdX11_plainHeard_13 : gw_find bsX11_plainHeard 13 = bkX11_plainHeard_13 := rfl
set_option maxRecDepth 40000 in
theorem stX11_plainHeard : gw_sta sgX11_plainHeard bsX11_plainHeard := ⟨by decide +kernel, gw_mem2 (i := 8219) rfl rfl, gw_all (by decide +kernel)⟩
def bkX11_image_0 : List gw_E := [(0, 1, .aload_n 0, [0], [], []), (1, 3, .getfield 7, [11, 0, 1, 6073], [], []), (4, 1, .aload_n 0, [0], [], []), (5, 3, .getfield 13, [11, 1, 1, 6074], [], []), (8, 3, .invokestatic 25, [2, 0, 6070, 6071, 1013, 0], [], [sgX11_copy]), (11, 1, .aload_n 0, [0], [], []), (12, 3, .getfield 7, [11, 0, 1, 6073], [], []), (15, 1, .iconst 3, [], [3], []), (16, 1, .iaload, [], [], []), (17, 1, .ireturn, [0], [], [])]
def bsX11_image : List (Nat × List gw_E) := [(0, bkX11_image_0)]
theorem fdX11_image_0 : gw_find bsX11_image 0 = bkX11_image_0 := rfl
set_option maxRecDepth 40000 in
theorem stX11_image : gw_sta sgX11_image bsX11_image := ⟨by decide +kernel, gw_mem2 (i := 8237) rfl rfl, gw_all (by decide +kernel)⟩
def bkX11_back_0 : List gw_E := [(0, 1, .aload_n 0, [0], [], []), (1, 3, .getfield 13, [11, 1, 1, 6074], [], []), (4, 1, .aload_n 0, [0], [], []), (5, 3, .getfield 7, [11, 0, 1, 6073], [], []), (8, 3, .invokestatic 25, [2, 0, 6070, 6071, 1013, 0], [], [sgX11_copy]), (11, 1, .aload_n 0, [0], [], []), (12, 3, .getfield 7, [11, 0, 1, 6073], [], []), (15, 1, .iconst 3, [], [3], []), (16, 1, .iaload, [], [], []), (17, 1, .ireturn, [0], [], [])]
def bsX11_back : List (Nat × List gw_E) := [(0, bkX11_back_0)]
theorem fdX11_back_0 : gw_find bsX11_back 0 = bkX11_back_0 := rfl
set_option maxRecDepth 40000 in
theorem stX11_back : gw_sta sgX11_back bsX11_back := ⟨by decide +kernel, gw_mem2 (i := 9001) rfl rfl, gw_all (by decide +kernel)⟩
def bkX11_steps_0 : List gw_E := [(0, 1, .aload_n 0, [0], [], []), (1, 3, .getfield 7, [11, 0, 1, 6073], [], []), (4, 1, .iconst 0, [], [0], []), (5, 1, .iaload, [], [], []), (6, 1, .ireturn, [0], [], [])]
def bsX11_steps : List (Nat × List gw_E) := [(0, bkX11_steps_0)]
theorem fdX11_steps_0 : gw_find bsX11_steps 0 = bkX11_steps_0 := rfl
set_option maxRecDepth 40000 in
theorem stX11_steps : gw_sta sgX11_steps bsX11_steps := ⟨by decide +kernel, gw_mem2 (i := 9005) rfl rfl, gw_all (by decide +kernel)⟩
end
