section
-- ===== PART A: goes FIRST, ahead of the names: the tables' words, and 'selects' of the private methods out of them =====
/-- a private method of a class that the tables say can be made, by its rows of tables_1 -/
def lw_okq (q : MethodName × Nat) : Prop := (q.1.cls ≠ "java/lang/invoke/MethodHandle" ∧ q.1.cls ≠ "java/lang/invoke/VarHandle") ∧ Cond.instantiable q.1.cls q.2 ∈ tables_1 ∧ Cond.privateMethod q.1 ∈ tables_1 ∧ Cond.instanceMethod q.1 ∈ tables_1
theorem lw_p0 : lw_okq (⟨"GuestLevels$Machine", "tellInner", "(III)V"⟩, 15) := ⟨⟨by decide +kernel, by decide +kernel⟩, List.mem_of_getElem? (i := 28) (by decide +kernel), List.mem_of_getElem? (i := 507) (by decide +kernel), List.mem_of_getElem? (i := 508) (by decide +kernel)⟩
theorem lw_p1 : lw_okq (⟨"GuestLevels$Machine", "unfold", "(I)V"⟩, 15) := ⟨⟨by decide +kernel, by decide +kernel⟩, List.mem_of_getElem? (i := 28) (by decide +kernel), List.mem_of_getElem? (i := 520) (by decide +kernel), List.mem_of_getElem? (i := 521) (by decide +kernel)⟩
theorem lw_p2 : lw_okq (⟨"GuestLevels$Machine", "dealToOuter", "(II)V"⟩, 15) := ⟨⟨by decide +kernel, by decide +kernel⟩, List.mem_of_getElem? (i := 28) (by decide +kernel), List.mem_of_getElem? (i := 538) (by decide +kernel), List.mem_of_getElem? (i := 539) (by decide +kernel)⟩
theorem lw_p3 : lw_okq (⟨"GuestLevels$Machine", "dealOutToInner", "()V"⟩, 15) := ⟨⟨by decide +kernel, by decide +kernel⟩, List.mem_of_getElem? (i := 28) (by decide +kernel), List.mem_of_getElem? (i := 561) (by decide +kernel), List.mem_of_getElem? (i := 562) (by decide +kernel)⟩
theorem lw_p4 : lw_okq (⟨"GuestLevels$Machine", "rightsOfBoth", "(I)I"⟩, 15) := ⟨⟨by decide +kernel, by decide +kernel⟩, List.mem_of_getElem? (i := 28) (by decide +kernel), List.mem_of_getElem? (i := 620) (by decide +kernel), List.mem_of_getElem? (i := 621) (by decide +kernel)⟩
theorem lw_p5 : lw_okq (⟨"GuestLevels$Machine", "fold", "(I)V"⟩, 15) := ⟨⟨by decide +kernel, by decide +kernel⟩, List.mem_of_getElem? (i := 28) (by decide +kernel), List.mem_of_getElem? (i := 628) (by decide +kernel), List.mem_of_getElem? (i := 629) (by decide +kernel)⟩
theorem lw_p6 : lw_okq (⟨"GuestLevels$Machine", "hostSees", "(II)V"⟩, 15) := ⟨⟨by decide +kernel, by decide +kernel⟩, List.mem_of_getElem? (i := 28) (by decide +kernel), List.mem_of_getElem? (i := 686) (by decide +kernel), List.mem_of_getElem? (i := 687) (by decide +kernel)⟩
theorem lw_p7 : lw_okq (⟨"GuestLevels$Machine", "foldOnTouch", "(II)I"⟩, 15) := ⟨⟨by decide +kernel, by decide +kernel⟩, List.mem_of_getElem? (i := 28) (by decide +kernel), List.mem_of_getElem? (i := 690) (by decide +kernel), List.mem_of_getElem? (i := 691) (by decide +kernel)⟩
theorem lw_p8 : lw_okq (⟨"GuestLevels$Memory", "sharesFrame", "(I)Z"⟩, 6) := ⟨⟨by decide +kernel, by decide +kernel⟩, List.mem_of_getElem? (i := 34) (by decide +kernel), List.mem_of_getElem? (i := 702) (by decide +kernel), List.mem_of_getElem? (i := 703) (by decide +kernel)⟩
theorem lw_p9 : lw_okq (⟨"GuestLevels$Memory", "storeAway", "(I)V"⟩, 6) := ⟨⟨by decide +kernel, by decide +kernel⟩, List.mem_of_getElem? (i := 34) (by decide +kernel), List.mem_of_getElem? (i := 706) (by decide +kernel), List.mem_of_getElem? (i := 707) (by decide +kernel)⟩
theorem lw_p10 : lw_okq (⟨"GuestLevels", "mayGo", "(II)Z"⟩, 6) := ⟨⟨by decide +kernel, by decide +kernel⟩, List.mem_of_getElem? (i := 20) (by decide +kernel), List.mem_of_getElem? (i := 849) (by decide +kernel), List.mem_of_getElem? (i := 850) (by decide +kernel)⟩
theorem lw_p11 : lw_okq (⟨"GuestLevels$Machine", "nextDueNow", "()I"⟩, 15) := ⟨⟨by decide +kernel, by decide +kernel⟩, List.mem_of_getElem? (i := 28) (by decide +kernel), List.mem_of_getElem? (i := 858) (by decide +kernel), List.mem_of_getElem? (i := 859) (by decide +kernel)⟩
theorem lw_p12 : lw_okq (⟨"GuestLevels$Machine", "goOff", "(I)V"⟩, 15) := ⟨⟨by decide +kernel, by decide +kernel⟩, List.mem_of_getElem? (i := 28) (by decide +kernel), List.mem_of_getElem? (i := 877) (by decide +kernel), List.mem_of_getElem? (i := 878) (by decide +kernel)⟩
theorem lw_p13 : lw_okq (⟨"GuestLevels$Machine", "actOfOuter", "()V"⟩, 15) := ⟨⟨by decide +kernel, by decide +kernel⟩, List.mem_of_getElem? (i := 28) (by decide +kernel), List.mem_of_getElem? (i := 919) (by decide +kernel), List.mem_of_getElem? (i := 920) (by decide +kernel)⟩
theorem lw_p14 : lw_okq (⟨"GuestLevels$Machine", "tellMissed", "(I)V"⟩, 15) := ⟨⟨by decide +kernel, by decide +kernel⟩, List.mem_of_getElem? (i := 28) (by decide +kernel), List.mem_of_getElem? (i := 930) (by decide +kernel), List.mem_of_getElem? (i := 931) (by decide +kernel)⟩
theorem lw_p15 : lw_okq (⟨"GuestLevels$Machine", "switchUnlessInHand", "(I)V"⟩, 15) := ⟨⟨by decide +kernel, by decide +kernel⟩, List.mem_of_getElem? (i := 28) (by decide +kernel), List.mem_of_getElem? (i := 935) (by decide +kernel), List.mem_of_getElem? (i := 936) (by decide +kernel)⟩
def lw_privs_1 : List (MethodName × Nat) := [(⟨"GuestLevels$Machine", "tellInner", "(III)V"⟩, 15), (⟨"GuestLevels$Machine", "unfold", "(I)V"⟩, 15), (⟨"GuestLevels$Machine", "dealToOuter", "(II)V"⟩, 15), (⟨"GuestLevels$Machine", "dealOutToInner", "()V"⟩, 15), (⟨"GuestLevels$Machine", "rightsOfBoth", "(I)I"⟩, 15), (⟨"GuestLevels$Machine", "fold", "(I)V"⟩, 15), (⟨"GuestLevels$Machine", "hostSees", "(II)V"⟩, 15), (⟨"GuestLevels$Machine", "foldOnTouch", "(II)I"⟩, 15), (⟨"GuestLevels$Memory", "sharesFrame", "(I)Z"⟩, 6), (⟨"GuestLevels$Memory", "storeAway", "(I)V"⟩, 6), (⟨"GuestLevels", "mayGo", "(II)Z"⟩, 6), (⟨"GuestLevels$Machine", "nextDueNow", "()I"⟩, 15), (⟨"GuestLevels$Machine", "goOff", "(I)V"⟩, 15), (⟨"GuestLevels$Machine", "actOfOuter", "()V"⟩, 15), (⟨"GuestLevels$Machine", "tellMissed", "(I)V"⟩, 15), (⟨"GuestLevels$Machine", "switchUnlessInHand", "(I)V"⟩, 15)]
theorem lw_r1 : ∀ q ∈ lw_privs_1, lw_okq q := List.forall_mem_cons.mpr ⟨lw_p0, List.forall_mem_cons.mpr ⟨lw_p1, List.forall_mem_cons.mpr ⟨lw_p2, List.forall_mem_cons.mpr ⟨lw_p3, List.forall_mem_cons.mpr ⟨lw_p4, List.forall_mem_cons.mpr ⟨lw_p5, List.forall_mem_cons.mpr ⟨lw_p6, List.forall_mem_cons.mpr ⟨lw_p7, List.forall_mem_cons.mpr ⟨lw_p8, List.forall_mem_cons.mpr ⟨lw_p9, List.forall_mem_cons.mpr ⟨lw_p10, List.forall_mem_cons.mpr ⟨lw_p11, List.forall_mem_cons.mpr ⟨lw_p12, List.forall_mem_cons.mpr ⟨lw_p13, List.forall_mem_cons.mpr ⟨lw_p14, List.forall_mem_cons.mpr ⟨lw_p15, fun _ h => absurd h List.not_mem_nil⟩⟩⟩⟩⟩⟩⟩⟩⟩⟩⟩⟩⟩⟩⟩⟩
theorem lw_p16 : lw_okq (⟨"GuestLevels$Machine", "actOfInner", "()V"⟩, 15) := ⟨⟨by decide +kernel, by decide +kernel⟩, List.mem_of_getElem? (i := 28) (by decide +kernel), List.mem_of_getElem? (i := 940) (by decide +kernel), List.mem_of_getElem? (i := 941) (by decide +kernel)⟩
theorem lw_p17 : lw_okq (⟨"GuestLevels$Machine", "lead", "(LGuestLevels$Inner;II)V"⟩, 15) := ⟨⟨by decide +kernel, by decide +kernel⟩, List.mem_of_getElem? (i := 28) (by decide +kernel), List.mem_of_getElem? (i := 945) (by decide +kernel), List.mem_of_getElem? (i := 946) (by decide +kernel)⟩
theorem lw_p18 : lw_okq (⟨"GuestLevels$Table", "elderThan", "(I)I"⟩, 4) := ⟨⟨by decide +kernel, by decide +kernel⟩, List.mem_of_getElem? (i := 40) (by decide +kernel), List.mem_of_getElem? (i := 992) (by decide +kernel), List.mem_of_getElem? (i := 993) (by decide +kernel)⟩
theorem lw_p19 : lw_okq (⟨"GuestLevels$Machine", "frameOfInner", "(I)I"⟩, 15) := ⟨⟨by decide +kernel, by decide +kernel⟩, List.mem_of_getElem? (i := 28) (by decide +kernel), List.mem_of_getElem? (i := 1073) (by decide +kernel), List.mem_of_getElem? (i := 1074) (by decide +kernel)⟩
theorem lw_p20 : lw_okq (⟨"GuestLevels", "goPlainly", "(I)V"⟩, 6) := ⟨⟨by decide +kernel, by decide +kernel⟩, List.mem_of_getElem? (i := 20) (by decide +kernel), List.mem_of_getElem? (i := 1202) (by decide +kernel), List.mem_of_getElem? (i := 1203) (by decide +kernel)⟩
theorem lw_p21 : lw_okq (⟨"GuestLevels$Plain", "touchFrom", "(IIII)V"⟩, 4) := ⟨⟨by decide +kernel, by decide +kernel⟩, List.mem_of_getElem? (i := 389) (by decide +kernel), List.mem_of_getElem? (i := 1223) (by decide +kernel), List.mem_of_getElem? (i := 1224) (by decide +kernel)⟩
theorem lw_p22 : lw_okq (⟨"GuestLevelsModel", "canTell", "(I)Z"⟩, 10) := ⟨⟨by decide +kernel, by decide +kernel⟩, List.mem_of_getElem? (i := 1265) (by decide +kernel), List.mem_of_getElem? (i := 1316) (by decide +kernel), List.mem_of_getElem? (i := 1317) (by decide +kernel)⟩
theorem lw_p23 : lw_okq (⟨"GuestLevelsModel", "keep", "()V"⟩, 10) := ⟨⟨by decide +kernel, by decide +kernel⟩, List.mem_of_getElem? (i := 1265) (by decide +kernel), List.mem_of_getElem? (i := 1326) (by decide +kernel), List.mem_of_getElem? (i := 1327) (by decide +kernel)⟩
theorem lw_p24 : lw_okq (⟨"GuestLevelsModel", "tellEntry", "(IIII)V"⟩, 10) := ⟨⟨by decide +kernel, by decide +kernel⟩, List.mem_of_getElem? (i := 1265) (by decide +kernel), List.mem_of_getElem? (i := 1330) (by decide +kernel), List.mem_of_getElem? (i := 1331) (by decide +kernel)⟩
theorem lw_p25 : lw_okq (⟨"GuestLevelsModel", "layEntry", "(IIII)V"⟩, 10) := ⟨⟨by decide +kernel, by decide +kernel⟩, List.mem_of_getElem? (i := 1265) (by decide +kernel), List.mem_of_getElem? (i := 1334) (by decide +kernel), List.mem_of_getElem? (i := 1335) (by decide +kernel)⟩
theorem lw_p26 : lw_okq (⟨"GuestLevelsModel", "entryAt", "(II)I"⟩, 10) := ⟨⟨by decide +kernel, by decide +kernel⟩, List.mem_of_getElem? (i := 1265) (by decide +kernel), List.mem_of_getElem? (i := 1338) (by decide +kernel), List.mem_of_getElem? (i := 1339) (by decide +kernel)⟩
theorem lw_p27 : lw_okq (⟨"GuestLevelsModel", "guestAt", "(I)I"⟩, 10) := ⟨⟨by decide +kernel, by decide +kernel⟩, List.mem_of_getElem? (i := 1265) (by decide +kernel), List.mem_of_getElem? (i := 1342) (by decide +kernel), List.mem_of_getElem? (i := 1343) (by decide +kernel)⟩
theorem lw_p28 : lw_okq (⟨"GuestLevelsModel", "unfold", "(I)V"⟩, 10) := ⟨⟨by decide +kernel, by decide +kernel⟩, List.mem_of_getElem? (i := 1265) (by decide +kernel), List.mem_of_getElem? (i := 1346) (by decide +kernel), List.mem_of_getElem? (i := 1347) (by decide +kernel)⟩
theorem lw_p29 : lw_okq (⟨"GuestLevelsModel", "toOf", "(II)I"⟩, 10) := ⟨⟨by decide +kernel, by decide +kernel⟩, List.mem_of_getElem? (i := 1265) (by decide +kernel), List.mem_of_getElem? (i := 1350) (by decide +kernel), List.mem_of_getElem? (i := 1351) (by decide +kernel)⟩
theorem lw_p30 : lw_okq (⟨"GuestLevelsModel", "goOut", "(III)V"⟩, 10) := ⟨⟨by decide +kernel, by decide +kernel⟩, List.mem_of_getElem? (i := 1265) (by decide +kernel), List.mem_of_getElem? (i := 1354) (by decide +kernel), List.mem_of_getElem? (i := 1355) (by decide +kernel)⟩
theorem lw_p31 : lw_okq (⟨"GuestLevelsModel", "unfoldTo", "(I)V"⟩, 10) := ⟨⟨by decide +kernel, by decide +kernel⟩, List.mem_of_getElem? (i := 1265) (by decide +kernel), List.mem_of_getElem? (i := 1358) (by decide +kernel), List.mem_of_getElem? (i := 1359) (by decide +kernel)⟩
def lw_privs_2 : List (MethodName × Nat) := [(⟨"GuestLevels$Machine", "actOfInner", "()V"⟩, 15), (⟨"GuestLevels$Machine", "lead", "(LGuestLevels$Inner;II)V"⟩, 15), (⟨"GuestLevels$Table", "elderThan", "(I)I"⟩, 4), (⟨"GuestLevels$Machine", "frameOfInner", "(I)I"⟩, 15), (⟨"GuestLevels", "goPlainly", "(I)V"⟩, 6), (⟨"GuestLevels$Plain", "touchFrom", "(IIII)V"⟩, 4), (⟨"GuestLevelsModel", "canTell", "(I)Z"⟩, 10), (⟨"GuestLevelsModel", "keep", "()V"⟩, 10), (⟨"GuestLevelsModel", "tellEntry", "(IIII)V"⟩, 10), (⟨"GuestLevelsModel", "layEntry", "(IIII)V"⟩, 10), (⟨"GuestLevelsModel", "entryAt", "(II)I"⟩, 10), (⟨"GuestLevelsModel", "guestAt", "(I)I"⟩, 10), (⟨"GuestLevelsModel", "unfold", "(I)V"⟩, 10), (⟨"GuestLevelsModel", "toOf", "(II)I"⟩, 10), (⟨"GuestLevelsModel", "goOut", "(III)V"⟩, 10), (⟨"GuestLevelsModel", "unfoldTo", "(I)V"⟩, 10)]
theorem lw_r2 : ∀ q ∈ lw_privs_2, lw_okq q := List.forall_mem_cons.mpr ⟨lw_p16, List.forall_mem_cons.mpr ⟨lw_p17, List.forall_mem_cons.mpr ⟨lw_p18, List.forall_mem_cons.mpr ⟨lw_p19, List.forall_mem_cons.mpr ⟨lw_p20, List.forall_mem_cons.mpr ⟨lw_p21, List.forall_mem_cons.mpr ⟨lw_p22, List.forall_mem_cons.mpr ⟨lw_p23, List.forall_mem_cons.mpr ⟨lw_p24, List.forall_mem_cons.mpr ⟨lw_p25, List.forall_mem_cons.mpr ⟨lw_p26, List.forall_mem_cons.mpr ⟨lw_p27, List.forall_mem_cons.mpr ⟨lw_p28, List.forall_mem_cons.mpr ⟨lw_p29, List.forall_mem_cons.mpr ⟨lw_p30, List.forall_mem_cons.mpr ⟨lw_p31, fun _ h => absurd h List.not_mem_nil⟩⟩⟩⟩⟩⟩⟩⟩⟩⟩⟩⟩⟩⟩⟩⟩
theorem lw_p32 : lw_okq (⟨"GuestLevelsModel", "comeLast", "(III)V"⟩, 10) := ⟨⟨by decide +kernel, by decide +kernel⟩, List.mem_of_getElem? (i := 1265) (by decide +kernel), List.mem_of_getElem? (i := 1362) (by decide +kernel), List.mem_of_getElem? (i := 1363) (by decide +kernel)⟩
theorem lw_p33 : lw_okq (⟨"GuestLevelsModel", "dealOut", "()V"⟩, 10) := ⟨⟨by decide +kernel, by decide +kernel⟩, List.mem_of_getElem? (i := 1265) (by decide +kernel), List.mem_of_getElem? (i := 1366) (by decide +kernel), List.mem_of_getElem? (i := 1367) (by decide +kernel)⟩
theorem lw_p34 : lw_okq (⟨"GuestLevelsModel", "nextOf", "(I)I"⟩, 10) := ⟨⟨by decide +kernel, by decide +kernel⟩, List.mem_of_getElem? (i := 1265) (by decide +kernel), List.mem_of_getElem? (i := 1370) (by decide +kernel), List.mem_of_getElem? (i := 1371) (by decide +kernel)⟩
theorem lw_p35 : lw_okq (⟨"GuestLevelsModel", "deal", "(II)V"⟩, 10) := ⟨⟨by decide +kernel, by decide +kernel⟩, List.mem_of_getElem? (i := 1265) (by decide +kernel), List.mem_of_getElem? (i := 1380) (by decide +kernel), List.mem_of_getElem? (i := 1381) (by decide +kernel)⟩
theorem lw_p36 : lw_okq (⟨"GuestLevelsModel", "writeExit", "(III)V"⟩, 10) := ⟨⟨by decide +kernel, by decide +kernel⟩, List.mem_of_getElem? (i := 1265) (by decide +kernel), List.mem_of_getElem? (i := 1384) (by decide +kernel), List.mem_of_getElem? (i := 1385) (by decide +kernel)⟩
theorem lw_p37 : lw_okq (⟨"GuestLevelsModel", "take", "(II)V"⟩, 10) := ⟨⟨by decide +kernel, by decide +kernel⟩, List.mem_of_getElem? (i := 1265) (by decide +kernel), List.mem_of_getElem? (i := 1388) (by decide +kernel), List.mem_of_getElem? (i := 1389) (by decide +kernel)⟩
theorem lw_p38 : lw_okq (⟨"GuestLevelsModel", "sinceOf", "(II)I"⟩, 10) := ⟨⟨by decide +kernel, by decide +kernel⟩, List.mem_of_getElem? (i := 1265) (by decide +kernel), List.mem_of_getElem? (i := 1392) (by decide +kernel), List.mem_of_getElem? (i := 1393) (by decide +kernel)⟩
theorem lw_p39 : lw_okq (⟨"GuestLevelsModel", "roomNow", "(I)V"⟩, 10) := ⟨⟨by decide +kernel, by decide +kernel⟩, List.mem_of_getElem? (i := 1265) (by decide +kernel), List.mem_of_getElem? (i := 1404) (by decide +kernel), List.mem_of_getElem? (i := 1405) (by decide +kernel)⟩
theorem lw_p40 : lw_okq (⟨"GuestLevelsModel", "isLazy", "(I)Z"⟩, 10) := ⟨⟨by decide +kernel, by decide +kernel⟩, List.mem_of_getElem? (i := 1265) (by decide +kernel), List.mem_of_getElem? (i := 1412) (by decide +kernel), List.mem_of_getElem? (i := 1413) (by decide +kernel)⟩
theorem lw_p41 : lw_okq (⟨"GuestLevelsModel", "rightsOf", "(II)I"⟩, 10) := ⟨⟨by decide +kernel, by decide +kernel⟩, List.mem_of_getElem? (i := 1265) (by decide +kernel), List.mem_of_getElem? (i := 1416) (by decide +kernel), List.mem_of_getElem? (i := 1417) (by decide +kernel)⟩
theorem lw_p42 : lw_okq (⟨"GuestLevelsModel", "isCopied", "(I)Z"⟩, 10) := ⟨⟨by decide +kernel, by decide +kernel⟩, List.mem_of_getElem? (i := 1265) (by decide +kernel), List.mem_of_getElem? (i := 1420) (by decide +kernel), List.mem_of_getElem? (i := 1421) (by decide +kernel)⟩
theorem lw_p43 : lw_okq (⟨"GuestLevelsModel", "fold", "(I)V"⟩, 10) := ⟨⟨by decide +kernel, by decide +kernel⟩, List.mem_of_getElem? (i := 1265) (by decide +kernel), List.mem_of_getElem? (i := 1424) (by decide +kernel), List.mem_of_getElem? (i := 1425) (by decide +kernel)⟩
theorem lw_p44 : lw_okq (⟨"GuestLevelsModel", "likeOf", "(I)I"⟩, 10) := ⟨⟨by decide +kernel, by decide +kernel⟩, List.mem_of_getElem? (i := 1265) (by decide +kernel), List.mem_of_getElem? (i := 1432) (by decide +kernel), List.mem_of_getElem? (i := 1433) (by decide +kernel)⟩
theorem lw_p45 : lw_okq (⟨"GuestLevelsModel", "leadTo", "(I)I"⟩, 10) := ⟨⟨by decide +kernel, by decide +kernel⟩, List.mem_of_getElem? (i := 1265) (by decide +kernel), List.mem_of_getElem? (i := 1436) (by decide +kernel), List.mem_of_getElem? (i := 1437) (by decide +kernel)⟩
theorem lw_p46 : lw_okq (⟨"GuestLevelsModel", "joinNow", "(II)V"⟩, 10) := ⟨⟨by decide +kernel, by decide +kernel⟩, List.mem_of_getElem? (i := 1265) (by decide +kernel), List.mem_of_getElem? (i := 1440) (by decide +kernel), List.mem_of_getElem? (i := 1441) (by decide +kernel)⟩
theorem lw_p47 : lw_okq (⟨"GuestLevelsModel", "touchNow", "(III)I"⟩, 10) := ⟨⟨by decide +kernel, by decide +kernel⟩, List.mem_of_getElem? (i := 1265) (by decide +kernel), List.mem_of_getElem? (i := 1464) (by decide +kernel), List.mem_of_getElem? (i := 1465) (by decide +kernel)⟩
def lw_privs_3 : List (MethodName × Nat) := [(⟨"GuestLevelsModel", "comeLast", "(III)V"⟩, 10), (⟨"GuestLevelsModel", "dealOut", "()V"⟩, 10), (⟨"GuestLevelsModel", "nextOf", "(I)I"⟩, 10), (⟨"GuestLevelsModel", "deal", "(II)V"⟩, 10), (⟨"GuestLevelsModel", "writeExit", "(III)V"⟩, 10), (⟨"GuestLevelsModel", "take", "(II)V"⟩, 10), (⟨"GuestLevelsModel", "sinceOf", "(II)I"⟩, 10), (⟨"GuestLevelsModel", "roomNow", "(I)V"⟩, 10), (⟨"GuestLevelsModel", "isLazy", "(I)Z"⟩, 10), (⟨"GuestLevelsModel", "rightsOf", "(II)I"⟩, 10), (⟨"GuestLevelsModel", "isCopied", "(I)Z"⟩, 10), (⟨"GuestLevelsModel", "fold", "(I)V"⟩, 10), (⟨"GuestLevelsModel", "likeOf", "(I)I"⟩, 10), (⟨"GuestLevelsModel", "leadTo", "(I)I"⟩, 10), (⟨"GuestLevelsModel", "joinNow", "(II)V"⟩, 10), (⟨"GuestLevelsModel", "touchNow", "(III)I"⟩, 10)]
theorem lw_r3 : ∀ q ∈ lw_privs_3, lw_okq q := List.forall_mem_cons.mpr ⟨lw_p32, List.forall_mem_cons.mpr ⟨lw_p33, List.forall_mem_cons.mpr ⟨lw_p34, List.forall_mem_cons.mpr ⟨lw_p35, List.forall_mem_cons.mpr ⟨lw_p36, List.forall_mem_cons.mpr ⟨lw_p37, List.forall_mem_cons.mpr ⟨lw_p38, List.forall_mem_cons.mpr ⟨lw_p39, List.forall_mem_cons.mpr ⟨lw_p40, List.forall_mem_cons.mpr ⟨lw_p41, List.forall_mem_cons.mpr ⟨lw_p42, List.forall_mem_cons.mpr ⟨lw_p43, List.forall_mem_cons.mpr ⟨lw_p44, List.forall_mem_cons.mpr ⟨lw_p45, List.forall_mem_cons.mpr ⟨lw_p46, List.forall_mem_cons.mpr ⟨lw_p47, fun _ h => absurd h List.not_mem_nil⟩⟩⟩⟩⟩⟩⟩⟩⟩⟩⟩⟩⟩⟩⟩⟩
theorem lw_p48 : lw_okq (⟨"GuestLevelsModel", "touchOuter", "(III)I"⟩, 10) := ⟨⟨by decide +kernel, by decide +kernel⟩, List.mem_of_getElem? (i := 1265) (by decide +kernel), List.mem_of_getElem? (i := 1468) (by decide +kernel), List.mem_of_getElem? (i := 1469) (by decide +kernel)⟩
theorem lw_p49 : lw_okq (⟨"GuestLevelsModel", "see", "(II)V"⟩, 10) := ⟨⟨by decide +kernel, by decide +kernel⟩, List.mem_of_getElem? (i := 1265) (by decide +kernel), List.mem_of_getElem? (i := 1472) (by decide +kernel), List.mem_of_getElem? (i := 1473) (by decide +kernel)⟩
theorem lw_p50 : lw_okq (⟨"GuestLevelsModel", "give", "(I)V"⟩, 10) := ⟨⟨by decide +kernel, by decide +kernel⟩, List.mem_of_getElem? (i := 1265) (by decide +kernel), List.mem_of_getElem? (i := 1476) (by decide +kernel), List.mem_of_getElem? (i := 1477) (by decide +kernel)⟩
theorem lw_p51 : lw_okq (⟨"GuestLevelsModel", "freeFrame", "()I"⟩, 10) := ⟨⟨by decide +kernel, by decide +kernel⟩, List.mem_of_getElem? (i := 1265) (by decide +kernel), List.mem_of_getElem? (i := 1480) (by decide +kernel), List.mem_of_getElem? (i := 1481) (by decide +kernel)⟩
theorem lw_p52 : lw_okq (⟨"GuestLevelsModel", "swapOut", "()V"⟩, 10) := ⟨⟨by decide +kernel, by decide +kernel⟩, List.mem_of_getElem? (i := 1265) (by decide +kernel), List.mem_of_getElem? (i := 1484) (by decide +kernel), List.mem_of_getElem? (i := 1485) (by decide +kernel)⟩
theorem lw_p53 : lw_okq (⟨"GuestLevelsModel", "isParted", "(II)Z"⟩, 10) := ⟨⟨by decide +kernel, by decide +kernel⟩, List.mem_of_getElem? (i := 1265) (by decide +kernel), List.mem_of_getElem? (i := 1488) (by decide +kernel), List.mem_of_getElem? (i := 1489) (by decide +kernel)⟩
theorem lw_p54 : lw_okq (⟨"GuestLevelsModel", "part", "(I)V"⟩, 10) := ⟨⟨by decide +kernel, by decide +kernel⟩, List.mem_of_getElem? (i := 1265) (by decide +kernel), List.mem_of_getElem? (i := 1492) (by decide +kernel), List.mem_of_getElem? (i := 1493) (by decide +kernel)⟩
theorem lw_p55 : lw_okq (⟨"GuestLevelsModel", "gives", "(III)Z"⟩, 10) := ⟨⟨by decide +kernel, by decide +kernel⟩, List.mem_of_getElem? (i := 1265) (by decide +kernel), List.mem_of_getElem? (i := 1496) (by decide +kernel), List.mem_of_getElem? (i := 1497) (by decide +kernel)⟩
theorem lw_p56 : lw_okq (⟨"GuestLevelsModel", "doAt", "(III)I"⟩, 10) := ⟨⟨by decide +kernel, by decide +kernel⟩, List.mem_of_getElem? (i := 1265) (by decide +kernel), List.mem_of_getElem? (i := 1500) (by decide +kernel), List.mem_of_getElem? (i := 1501) (by decide +kernel)⟩
theorem lw_p57 : lw_okq (⟨"GuestLevelsModel", "touchInner", "(III)I"⟩, 10) := ⟨⟨by decide +kernel, by decide +kernel⟩, List.mem_of_getElem? (i := 1265) (by decide +kernel), List.mem_of_getElem? (i := 1504) (by decide +kernel), List.mem_of_getElem? (i := 1505) (by decide +kernel)⟩
theorem lw_p58 : lw_okq (⟨"GuestLevelsModel", "eventNow", "(I)I"⟩, 10) := ⟨⟨by decide +kernel, by decide +kernel⟩, List.mem_of_getElem? (i := 1265) (by decide +kernel), List.mem_of_getElem? (i := 1508) (by decide +kernel), List.mem_of_getElem? (i := 1509) (by decide +kernel)⟩
theorem lw_p59 : lw_okq (⟨"GuestLevelsModel", "eventOuter", "(I)I"⟩, 10) := ⟨⟨by decide +kernel, by decide +kernel⟩, List.mem_of_getElem? (i := 1265) (by decide +kernel), List.mem_of_getElem? (i := 1512) (by decide +kernel), List.mem_of_getElem? (i := 1513) (by decide +kernel)⟩
theorem lw_p60 : lw_okq (⟨"GuestLevelsModel", "eventInner", "(I)I"⟩, 10) := ⟨⟨by decide +kernel, by decide +kernel⟩, List.mem_of_getElem? (i := 1265) (by decide +kernel), List.mem_of_getElem? (i := 1516) (by decide +kernel), List.mem_of_getElem? (i := 1517) (by decide +kernel)⟩
theorem lw_p61 : lw_okq (⟨"GuestLevelsModel", "whoSees", "(I)I"⟩, 10) := ⟨⟨by decide +kernel, by decide +kernel⟩, List.mem_of_getElem? (i := 1265) (by decide +kernel), List.mem_of_getElem? (i := 1520) (by decide +kernel), List.mem_of_getElem? (i := 1521) (by decide +kernel)⟩
theorem lw_p62 : lw_okq (⟨"GuestLevelsModel", "doInner", "(III)I"⟩, 10) := ⟨⟨by decide +kernel, by decide +kernel⟩, List.mem_of_getElem? (i := 1265) (by decide +kernel), List.mem_of_getElem? (i := 1524) (by decide +kernel), List.mem_of_getElem? (i := 1525) (by decide +kernel)⟩
theorem lw_p63 : lw_okq (⟨"GuestLevelsModel", "hear", "(I)V"⟩, 10) := ⟨⟨by decide +kernel, by decide +kernel⟩, List.mem_of_getElem? (i := 1265) (by decide +kernel), List.mem_of_getElem? (i := 1528) (by decide +kernel), List.mem_of_getElem? (i := 1529) (by decide +kernel)⟩
def lw_privs_4 : List (MethodName × Nat) := [(⟨"GuestLevelsModel", "touchOuter", "(III)I"⟩, 10), (⟨"GuestLevelsModel", "see", "(II)V"⟩, 10), (⟨"GuestLevelsModel", "give", "(I)V"⟩, 10), (⟨"GuestLevelsModel", "freeFrame", "()I"⟩, 10), (⟨"GuestLevelsModel", "swapOut", "()V"⟩, 10), (⟨"GuestLevelsModel", "isParted", "(II)Z"⟩, 10), (⟨"GuestLevelsModel", "part", "(I)V"⟩, 10), (⟨"GuestLevelsModel", "gives", "(III)Z"⟩, 10), (⟨"GuestLevelsModel", "doAt", "(III)I"⟩, 10), (⟨"GuestLevelsModel", "touchInner", "(III)I"⟩, 10), (⟨"GuestLevelsModel", "eventNow", "(I)I"⟩, 10), (⟨"GuestLevelsModel", "eventOuter", "(I)I"⟩, 10), (⟨"GuestLevelsModel", "eventInner", "(I)I"⟩, 10), (⟨"GuestLevelsModel", "whoSees", "(I)I"⟩, 10), (⟨"GuestLevelsModel", "doInner", "(III)I"⟩, 10), (⟨"GuestLevelsModel", "hear", "(I)V"⟩, 10)]
theorem lw_r4 : ∀ q ∈ lw_privs_4, lw_okq q := List.forall_mem_cons.mpr ⟨lw_p48, List.forall_mem_cons.mpr ⟨lw_p49, List.forall_mem_cons.mpr ⟨lw_p50, List.forall_mem_cons.mpr ⟨lw_p51, List.forall_mem_cons.mpr ⟨lw_p52, List.forall_mem_cons.mpr ⟨lw_p53, List.forall_mem_cons.mpr ⟨lw_p54, List.forall_mem_cons.mpr ⟨lw_p55, List.forall_mem_cons.mpr ⟨lw_p56, List.forall_mem_cons.mpr ⟨lw_p57, List.forall_mem_cons.mpr ⟨lw_p58, List.forall_mem_cons.mpr ⟨lw_p59, List.forall_mem_cons.mpr ⟨lw_p60, List.forall_mem_cons.mpr ⟨lw_p61, List.forall_mem_cons.mpr ⟨lw_p62, List.forall_mem_cons.mpr ⟨lw_p63, fun _ h => absurd h List.not_mem_nil⟩⟩⟩⟩⟩⟩⟩⟩⟩⟩⟩⟩⟩⟩⟩⟩
theorem lw_p64 : lw_okq (⟨"GuestLevelsModel", "enterNow", "()V"⟩, 10) := ⟨⟨by decide +kernel, by decide +kernel⟩, List.mem_of_getElem? (i := 1265) (by decide +kernel), List.mem_of_getElem? (i := 1540) (by decide +kernel), List.mem_of_getElem? (i := 1541) (by decide +kernel)⟩
theorem lw_p65 : lw_okq (⟨"GuestLevelsModel", "pend", "(II)V"⟩, 10) := ⟨⟨by decide +kernel, by decide +kernel⟩, List.mem_of_getElem? (i := 1265) (by decide +kernel), List.mem_of_getElem? (i := 1551) (by decide +kernel), List.mem_of_getElem? (i := 1552) (by decide +kernel)⟩
theorem lw_p66 : lw_okq (⟨"GuestLevelsModel", "endNow", "(I)I"⟩, 10) := ⟨⟨by decide +kernel, by decide +kernel⟩, List.mem_of_getElem? (i := 1265) (by decide +kernel), List.mem_of_getElem? (i := 1563) (by decide +kernel), List.mem_of_getElem? (i := 1564) (by decide +kernel)⟩
theorem lw_p67 : lw_okq (⟨"GuestLevelsModel", "handNow", "(I)V"⟩, 10) := ⟨⟨by decide +kernel, by decide +kernel⟩, List.mem_of_getElem? (i := 1265) (by decide +kernel), List.mem_of_getElem? (i := 1571) (by decide +kernel), List.mem_of_getElem? (i := 1572) (by decide +kernel)⟩
theorem lw_p68 : lw_okq (⟨"GuestLevelsModel", "unfoldAll", "()V"⟩, 10) := ⟨⟨by decide +kernel, by decide +kernel⟩, List.mem_of_getElem? (i := 1265) (by decide +kernel), List.mem_of_getElem? (i := 1575) (by decide +kernel), List.mem_of_getElem? (i := 1576) (by decide +kernel)⟩
theorem lw_p69 : lw_okq (⟨"GuestLevelsModel", "dropTimer", "(I)V"⟩, 10) := ⟨⟨by decide +kernel, by decide +kernel⟩, List.mem_of_getElem? (i := 1265) (by decide +kernel), List.mem_of_getElem? (i := 1593) (by decide +kernel), List.mem_of_getElem? (i := 1594) (by decide +kernel)⟩
theorem lw_p70 : lw_okq (⟨"GuestLevelsModel", "tick", "()I"⟩, 10) := ⟨⟨by decide +kernel, by decide +kernel⟩, List.mem_of_getElem? (i := 1265) (by decide +kernel), List.mem_of_getElem? (i := 1620) (by decide +kernel), List.mem_of_getElem? (i := 1621) (by decide +kernel)⟩
theorem lw_p71 : lw_okq (⟨"GuestLevelsModel", "firstDue", "()I"⟩, 10) := ⟨⟨by decide +kernel, by decide +kernel⟩, List.mem_of_getElem? (i := 1265) (by decide +kernel), List.mem_of_getElem? (i := 1624) (by decide +kernel), List.mem_of_getElem? (i := 1625) (by decide +kernel)⟩
theorem lw_p72 : lw_okq (⟨"GuestLevelsModel", "isDue", "(II)Z"⟩, 10) := ⟨⟨by decide +kernel, by decide +kernel⟩, List.mem_of_getElem? (i := 1265) (by decide +kernel), List.mem_of_getElem? (i := 1628) (by decide +kernel), List.mem_of_getElem? (i := 1629) (by decide +kernel)⟩
theorem lw_p73 : lw_okq (⟨"GuestLevelsModel", "ofTimer", "(II)I"⟩, 10) := ⟨⟨by decide +kernel, by decide +kernel⟩, List.mem_of_getElem? (i := 1265) (by decide +kernel), List.mem_of_getElem? (i := 1632) (by decide +kernel), List.mem_of_getElem? (i := 1633) (by decide +kernel)⟩
theorem lw_p74 : lw_okq (⟨"GuestLevelsModel", "clockAt", "(II)I"⟩, 10) := ⟨⟨by decide +kernel, by decide +kernel⟩, List.mem_of_getElem? (i := 1265) (by decide +kernel), List.mem_of_getElem? (i := 1636) (by decide +kernel), List.mem_of_getElem? (i := 1637) (by decide +kernel)⟩
theorem lw_p75 : lw_okq (⟨"GuestLevelsModel", "isAhead", "(II)Z"⟩, 10) := ⟨⟨by decide +kernel, by decide +kernel⟩, List.mem_of_getElem? (i := 1265) (by decide +kernel), List.mem_of_getElem? (i := 1640) (by decide +kernel), List.mem_of_getElem? (i := 1641) (by decide +kernel)⟩
theorem lw_p76 : lw_okq (⟨"GuestLevelsModel", "canGo", "(II)Z"⟩, 10) := ⟨⟨by decide +kernel, by decide +kernel⟩, List.mem_of_getElem? (i := 1265) (by decide +kernel), List.mem_of_getElem? (i := 1662) (by decide +kernel), List.mem_of_getElem? (i := 1663) (by decide +kernel)⟩
theorem lw_p77 : lw_okq (⟨"GuestLevelsModel", "exitsAll", "()I"⟩, 10) := ⟨⟨by decide +kernel, by decide +kernel⟩, List.mem_of_getElem? (i := 1265) (by decide +kernel), List.mem_of_getElem? (i := 1666) (by decide +kernel), List.mem_of_getElem? (i := 1667) (by decide +kernel)⟩
theorem lw_p78 : lw_okq (⟨"GuestLevelsModel", "goNow", "()V"⟩, 10) := ⟨⟨by decide +kernel, by decide +kernel⟩, List.mem_of_getElem? (i := 1265) (by decide +kernel), List.mem_of_getElem? (i := 1670) (by decide +kernel), List.mem_of_getElem? (i := 1671) (by decide +kernel)⟩
theorem lw_p79 : lw_okq (⟨"GuestLevelsModel", "actNow", "()V"⟩, 10) := ⟨⟨by decide +kernel, by decide +kernel⟩, List.mem_of_getElem? (i := 1265) (by decide +kernel), List.mem_of_getElem? (i := 1674) (by decide +kernel), List.mem_of_getElem? (i := 1675) (by decide +kernel)⟩
def lw_privs_5 : List (MethodName × Nat) := [(⟨"GuestLevelsModel", "enterNow", "()V"⟩, 10), (⟨"GuestLevelsModel", "pend", "(II)V"⟩, 10), (⟨"GuestLevelsModel", "endNow", "(I)I"⟩, 10), (⟨"GuestLevelsModel", "handNow", "(I)V"⟩, 10), (⟨"GuestLevelsModel", "unfoldAll", "()V"⟩, 10), (⟨"GuestLevelsModel", "dropTimer", "(I)V"⟩, 10), (⟨"GuestLevelsModel", "tick", "()I"⟩, 10), (⟨"GuestLevelsModel", "firstDue", "()I"⟩, 10), (⟨"GuestLevelsModel", "isDue", "(II)Z"⟩, 10), (⟨"GuestLevelsModel", "ofTimer", "(II)I"⟩, 10), (⟨"GuestLevelsModel", "clockAt", "(II)I"⟩, 10), (⟨"GuestLevelsModel", "isAhead", "(II)Z"⟩, 10), (⟨"GuestLevelsModel", "canGo", "(II)Z"⟩, 10), (⟨"GuestLevelsModel", "exitsAll", "()I"⟩, 10), (⟨"GuestLevelsModel", "goNow", "()V"⟩, 10), (⟨"GuestLevelsModel", "actNow", "()V"⟩, 10)]
theorem lw_r5 : ∀ q ∈ lw_privs_5, lw_okq q := List.forall_mem_cons.mpr ⟨lw_p64, List.forall_mem_cons.mpr ⟨lw_p65, List.forall_mem_cons.mpr ⟨lw_p66, List.forall_mem_cons.mpr ⟨lw_p67, List.forall_mem_cons.mpr ⟨lw_p68, List.forall_mem_cons.mpr ⟨lw_p69, List.forall_mem_cons.mpr ⟨lw_p70, List.forall_mem_cons.mpr ⟨lw_p71, List.forall_mem_cons.mpr ⟨lw_p72, List.forall_mem_cons.mpr ⟨lw_p73, List.forall_mem_cons.mpr ⟨lw_p74, List.forall_mem_cons.mpr ⟨lw_p75, List.forall_mem_cons.mpr ⟨lw_p76, List.forall_mem_cons.mpr ⟨lw_p77, List.forall_mem_cons.mpr ⟨lw_p78, List.forall_mem_cons.mpr ⟨lw_p79, fun _ h => absurd h List.not_mem_nil⟩⟩⟩⟩⟩⟩⟩⟩⟩⟩⟩⟩⟩⟩⟩⟩
theorem lw_p80 : lw_okq (⟨"GuestLevelsModel", "goOnBy", "(IIIZ)V"⟩, 10) := ⟨⟨by decide +kernel, by decide +kernel⟩, List.mem_of_getElem? (i := 1265) (by decide +kernel), List.mem_of_getElem? (i := 1678) (by decide +kernel), List.mem_of_getElem? (i := 1679) (by decide +kernel)⟩
theorem lw_p81 : lw_okq (⟨"GuestLevelsModel", "hasPlace", "(II)Z"⟩, 10) := ⟨⟨by decide +kernel, by decide +kernel⟩, List.mem_of_getElem? (i := 1265) (by decide +kernel), List.mem_of_getElem? (i := 1682) (by decide +kernel), List.mem_of_getElem? (i := 1683) (by decide +kernel)⟩
theorem lw_p82 : lw_okq (⟨"GuestLevelsModel", "actOuter", "(III)V"⟩, 10) := ⟨⟨by decide +kernel, by decide +kernel⟩, List.mem_of_getElem? (i := 1265) (by decide +kernel), List.mem_of_getElem? (i := 1686) (by decide +kernel), List.mem_of_getElem? (i := 1687) (by decide +kernel)⟩
theorem lw_p83 : lw_okq (⟨"GuestLevelsModel", "actInner", "(III)V"⟩, 10) := ⟨⟨by decide +kernel, by decide +kernel⟩, List.mem_of_getElem? (i := 1265) (by decide +kernel), List.mem_of_getElem? (i := 1690) (by decide +kernel), List.mem_of_getElem? (i := 1691) (by decide +kernel)⟩
theorem lw_p84 : lw_okq (⟨"GuestLevelsModel", "freeFrames", "()I"⟩, 10) := ⟨⟨by decide +kernel, by decide +kernel⟩, List.mem_of_getElem? (i := 1265) (by decide +kernel), List.mem_of_getElem? (i := 1698) (by decide +kernel), List.mem_of_getElem? (i := 1699) (by decide +kernel)⟩
theorem lw_p85 : lw_okq (⟨"GuestLevelsModel", "entriesFrom", "(I)I"⟩, 10) := ⟨⟨by decide +kernel, by decide +kernel⟩, List.mem_of_getElem? (i := 1265) (by decide +kernel), List.mem_of_getElem? (i := 1798) (by decide +kernel), List.mem_of_getElem? (i := 1799) (by decide +kernel)⟩
theorem lw_p86 : lw_okq (⟨"GuestLevelsModel", "dueOf", "(I)I"⟩, 10) := ⟨⟨by decide +kernel, by decide +kernel⟩, List.mem_of_getElem? (i := 1265) (by decide +kernel), List.mem_of_getElem? (i := 1819) (by decide +kernel), List.mem_of_getElem? (i := 1820) (by decide +kernel)⟩
theorem lw_p87 : lw_okq (⟨"GuestLevelsModel", "putAside", "()V"⟩, 10) := ⟨⟨by decide +kernel, by decide +kernel⟩, List.mem_of_getElem? (i := 1265) (by decide +kernel), List.mem_of_getElem? (i := 1836) (by decide +kernel), List.mem_of_getElem? (i := 1837) (by decide +kernel)⟩
theorem lw_p88 : lw_okq (⟨"GuestLevelsModel", "bringBack", "()V"⟩, 10) := ⟨⟨by decide +kernel, by decide +kernel⟩, List.mem_of_getElem? (i := 1265) (by decide +kernel), List.mem_of_getElem? (i := 1841) (by decide +kernel), List.mem_of_getElem? (i := 1842) (by decide +kernel)⟩
theorem lw_p89 : lw_okq (⟨"GuestLevelsModel", "tillMore", "(I)I"⟩, 10) := ⟨⟨by decide +kernel, by decide +kernel⟩, List.mem_of_getElem? (i := 1265) (by decide +kernel), List.mem_of_getElem? (i := 1849) (by decide +kernel), List.mem_of_getElem? (i := 1850) (by decide +kernel)⟩
theorem lw_p90 : lw_okq (⟨"GuestLevelsModel", "seenBy", "(II)I"⟩, 10) := ⟨⟨by decide +kernel, by decide +kernel⟩, List.mem_of_getElem? (i := 1265) (by decide +kernel), List.mem_of_getElem? (i := 1861) (by decide +kernel), List.mem_of_getElem? (i := 1862) (by decide +kernel)⟩
theorem lw_p91 : lw_okq (⟨"GuestLevelsModel", "layPlain", "(I)V"⟩, 10) := ⟨⟨by decide +kernel, by decide +kernel⟩, List.mem_of_getElem? (i := 1265) (by decide +kernel), List.mem_of_getElem? (i := 1869) (by decide +kernel), List.mem_of_getElem? (i := 1870) (by decide +kernel)⟩
theorem lw_p92 : lw_okq (⟨"GuestLevelsModel", "plainValue", "(I)I"⟩, 10) := ⟨⟨by decide +kernel, by decide +kernel⟩, List.mem_of_getElem? (i := 1265) (by decide +kernel), List.mem_of_getElem? (i := 1873) (by decide +kernel), List.mem_of_getElem? (i := 1874) (by decide +kernel)⟩
theorem lw_p93 : lw_okq (⟨"GuestLevelsModel", "plainAct", "(II)V"⟩, 10) := ⟨⟨by decide +kernel, by decide +kernel⟩, List.mem_of_getElem? (i := 1265) (by decide +kernel), List.mem_of_getElem? (i := 1877) (by decide +kernel), List.mem_of_getElem? (i := 1878) (by decide +kernel)⟩
theorem lw_p94 : lw_okq (⟨"GuestLevelsModel", "plainTouch", "(IIIII)V"⟩, 10) := ⟨⟨by decide +kernel, by decide +kernel⟩, List.mem_of_getElem? (i := 1265) (by decide +kernel), List.mem_of_getElem? (i := 1881) (by decide +kernel), List.mem_of_getElem? (i := 1882) (by decide +kernel)⟩
theorem lw_p95 : lw_okq (⟨"GuestLevelsModel", "plainTrap", "(III)V"⟩, 10) := ⟨⟨by decide +kernel, by decide +kernel⟩, List.mem_of_getElem? (i := 1265) (by decide +kernel), List.mem_of_getElem? (i := 1885) (by decide +kernel), List.mem_of_getElem? (i := 1886) (by decide +kernel)⟩
def lw_privs_6 : List (MethodName × Nat) := [(⟨"GuestLevelsModel", "goOnBy", "(IIIZ)V"⟩, 10), (⟨"GuestLevelsModel", "hasPlace", "(II)Z"⟩, 10), (⟨"GuestLevelsModel", "actOuter", "(III)V"⟩, 10), (⟨"GuestLevelsModel", "actInner", "(III)V"⟩, 10), (⟨"GuestLevelsModel", "freeFrames", "()I"⟩, 10), (⟨"GuestLevelsModel", "entriesFrom", "(I)I"⟩, 10), (⟨"GuestLevelsModel", "dueOf", "(I)I"⟩, 10), (⟨"GuestLevelsModel", "putAside", "()V"⟩, 10), (⟨"GuestLevelsModel", "bringBack", "()V"⟩, 10), (⟨"GuestLevelsModel", "tillMore", "(I)I"⟩, 10), (⟨"GuestLevelsModel", "seenBy", "(II)I"⟩, 10), (⟨"GuestLevelsModel", "layPlain", "(I)V"⟩, 10), (⟨"GuestLevelsModel", "plainValue", "(I)I"⟩, 10), (⟨"GuestLevelsModel", "plainAct", "(II)V"⟩, 10), (⟨"GuestLevelsModel", "plainTouch", "(IIIII)V"⟩, 10), (⟨"GuestLevelsModel", "plainTrap", "(III)V"⟩, 10)]
theorem lw_r6 : ∀ q ∈ lw_privs_6, lw_okq q := List.forall_mem_cons.mpr ⟨lw_p80, List.forall_mem_cons.mpr ⟨lw_p81, List.forall_mem_cons.mpr ⟨lw_p82, List.forall_mem_cons.mpr ⟨lw_p83, List.forall_mem_cons.mpr ⟨lw_p84, List.forall_mem_cons.mpr ⟨lw_p85, List.forall_mem_cons.mpr ⟨lw_p86, List.forall_mem_cons.mpr ⟨lw_p87, List.forall_mem_cons.mpr ⟨lw_p88, List.forall_mem_cons.mpr ⟨lw_p89, List.forall_mem_cons.mpr ⟨lw_p90, List.forall_mem_cons.mpr ⟨lw_p91, List.forall_mem_cons.mpr ⟨lw_p92, List.forall_mem_cons.mpr ⟨lw_p93, List.forall_mem_cons.mpr ⟨lw_p94, List.forall_mem_cons.mpr ⟨lw_p95, fun _ h => absurd h List.not_mem_nil⟩⟩⟩⟩⟩⟩⟩⟩⟩⟩⟩⟩⟩⟩⟩⟩
theorem lw_p96 : lw_okq (⟨"GuestLevelsModel", "plainTell", "(II)V"⟩, 10) := ⟨⟨by decide +kernel, by decide +kernel⟩, List.mem_of_getElem? (i := 1265) (by decide +kernel), List.mem_of_getElem? (i := 1889) (by decide +kernel), List.mem_of_getElem? (i := 1890) (by decide +kernel)⟩
def lw_privs_7 : List (MethodName × Nat) := [(⟨"GuestLevelsModel", "plainTell", "(II)V"⟩, 10)]
theorem lw_r7 : ∀ q ∈ lw_privs_7, lw_okq q := List.forall_mem_cons.mpr ⟨lw_p96, fun _ h => absurd h List.not_mem_nil⟩
def lw_privs : List (MethodName × Nat) := lw_privs_1 ++ (lw_privs_2 ++ (lw_privs_3 ++ (lw_privs_4 ++ (lw_privs_5 ++ (lw_privs_6 ++ (lw_privs_7))))))
def lw_tbl : List Cond := k2_sels lw_privs ++ tables_1
theorem lw_privs_ok : ∀ q ∈ lw_privs, lw_okq q := by
  show ∀ q ∈ lw_privs_1 ++ (lw_privs_2 ++ (lw_privs_3 ++ (lw_privs_4 ++ (lw_privs_5 ++ (lw_privs_6 ++ (lw_privs_7)))))), lw_okq q
  exact List.forall_mem_append.mpr ⟨lw_r1, List.forall_mem_append.mpr ⟨lw_r2, List.forall_mem_append.mpr ⟨lw_r3, List.forall_mem_append.mpr ⟨lw_r4, List.forall_mem_append.mpr ⟨lw_r5, List.forall_mem_append.mpr ⟨lw_r6, lw_r7⟩⟩⟩⟩⟩⟩
/-- the streams that the claim lets the run draw from -/
abbrev lw_cs : List Choice := [Jvm.Choice.named "NaN.bits"]
theorem lw_bits : nanBits ∈ lw_cs := by first | decide | exact List.mem_cons_self | simp [lw_cs, nanBits]
def gw_tb : List Cond := lw_tbl.filter goodWord
theorem gw_mem {i : Nat} {c : Cond} (h : lw_tbl[i]? = some c) (hg : goodWord c = true) : c ∈ gw_tb := List.mem_filter.mpr ⟨List.mem_of_getElem? h, hg⟩
theorem gw_tb_lw : ∀ w ∈ gw_tb, w ∈ lw_tbl := fun _ h => (List.mem_filter.mp h).1
theorem gw_tb_good : ∀ w ∈ gw_tb, goodWord w = true := fun _ h => (List.mem_filter.mp h).2
theorem gw_among (ws : List Cond) (ps : List Nat) (hp : ws = ps.filterMap (fun i => lw_tbl[i]?)) (hg : ws.all goodWord = true) : ∀ w ∈ ws, w ∈ gw_tb := by
  intro w hw
  have h1 := List.all_eq_true.mp hg w hw
  rw [hp] at hw
  obtain ⟨i, -, hi⟩ := List.mem_filterMap.mp hw
  exact gw_mem hi h1
def RX0 : String := "GuestLevels$Guest"
def TX0 : u_T := fun k => match k with
  | 0 => ("GuestLevels$Guest", "program", "LGuestLevels$Program;", true)
  | 1 => ("GuestLevels$Guest", "since", "[I", true)
  | 2 => ("GuestLevels$Guest", "waiting", "I", false)
  | 3 => ("GuestLevels$Guest", "serving", "I", false)
  | 4 => ("GuestLevels$Guest", "opened", "Z", false)
  | 5 => ("GuestLevels$Guest", "scale", "I", false)
  | _ => ("GuestLevels$Guest", "offset", "I", false)
def tyX0 : Nat → FieldType := fun k => match k with
  | 0 => .object "GuestLevels$Program"
  | 1 => .array .int
  | 2 => .int
  | 3 => .int
  | 4 => .boolean
  | 5 => .int
  | _ => .int
theorem nmX0 : ∀ a, a < 7 → ∀ b, b < 7 → a ≠ b → (TX0 a).2.1 ≠ (TX0 b).2.1 := by decide +kernel
theorem tyX0_ok : ∀ k, k < 7 → parseFieldDescriptor (TX0 k).2.2.1 = some (tyX0 k) := by decide +kernel
theorem inX0 : ∀ w ∈ u_ws RX0 TX0 7, w ∈ gw_tb := gw_among _ [257, 259, 261, 263, 265, 267, 269] (by decide +kernel) (by decide +kernel)
def RX1 : String := "GuestLevels$Inner"
def TX1 : u_T := fun k => match k with
  | 0 => ("GuestLevels$Inner", "guest", "LGuestLevels$Guest;", true)
  | 1 => ("GuestLevels$Inner", "toInner", "LGuestLevels$Table;", true)
  | 2 => ("GuestLevels$Inner", "toOuter", "LGuestLevels$Table;", true)
  | 3 => ("GuestLevels$Inner", "trapPlace", "I", false)
  | 4 => ("GuestLevels$Inner", "trappedPage", "I", false)
  | _ => ("GuestLevels$Inner", "trappedPlace", "I", false)
def tyX1 : Nat → FieldType := fun k => match k with
  | 0 => .object "GuestLevels$Guest"
  | 1 => .object "GuestLevels$Table"
  | 2 => .object "GuestLevels$Table"
  | 3 => .int
  | 4 => .int
  | _ => .int
theorem nmX1 : ∀ a, a < 6 → ∀ b, b < 6 → a ≠ b → (TX1 a).2.1 ≠ (TX1 b).2.1 := by decide +kernel
theorem tyX1_ok : ∀ k, k < 6 → parseFieldDescriptor (TX1 k).2.2.1 = some (tyX1 k) := by decide +kernel
theorem inX1 : ∀ w ∈ u_ws RX1 TX1 6, w ∈ gw_tb := gw_among _ [394, 396, 398, 400, 402, 404] (by decide +kernel) (by decide +kernel)
def RX2 : String := "GuestLevels$Log"
def TX2 : u_T := fun k => match k with
  | 0 => ("GuestLevels$Log", "who", "[I", true)
  | 1 => ("GuestLevels$Log", "reason", "[I", true)
  | 2 => ("GuestLevels$Log", "detail", "[I", true)
  | 3 => ("GuestLevels$Log", "time", "[I", true)
  | 4 => ("GuestLevels$Log", "exitsOf", "[I", true)
  | 5 => ("GuestLevels$Log", "dealtReason", "I", false)
  | 6 => ("GuestLevels$Log", "dealtDetail", "I", false)
  | 7 => ("GuestLevels$Log", "heardValue", "[I", true)
  | 8 => ("GuestLevels$Log", "allHeard", "I", false)
  | 9 => ("GuestLevels$Log", "ownTraps", "I", false)
  | 10 => ("GuestLevels$Log", "seenBy", "[I", true)
  | 11 => ("GuestLevels$Log", "spentBy", "[I", true)
  | 12 => ("GuestLevels$Log", "takes", "[I", true)
  | 13 => ("GuestLevels$Log", "latestTake", "[I", true)
  | _ => ("GuestLevels$Log", "longestWait", "[I", true)
def tyX2 : Nat → FieldType := fun k => match k with
  | 0 => .array .int
  | 1 => .array .int
  | 2 => .array .int
  | 3 => .array .int
  | 4 => .array .int
  | 5 => .int
  | 6 => .int
  | 7 => .array .int
  | 8 => .int
  | 9 => .int
  | 10 => .array .int
  | 11 => .array .int
  | 12 => .array .int
  | 13 => .array .int
  | _ => .array .int
theorem nmX2 : ∀ a, a < 15 → ∀ b, b < 15 → a ≠ b → (TX2 a).2.1 ≠ (TX2 b).2.1 := by decide +kernel
theorem tyX2_ok : ∀ k, k < 15 → parseFieldDescriptor (TX2 k).2.2.1 = some (tyX2 k) := by decide +kernel
theorem inX2 : ∀ w ∈ u_ws RX2 TX2 15, w ∈ gw_tb := gw_among _ [335, 337, 339, 341, 343, 345, 347, 349, 351, 353, 355, 357, 359, 361, 363] (by decide +kernel) (by decide +kernel)
def RX3 : String := "GuestLevels$Machine"
def TX3 : u_T := fun k => match k with
  | 0 => ("GuestLevels$Machine", "memory", "LGuestLevels$Memory;", true)
  | 1 => ("GuestLevels$Machine", "folds", "LGuestLevels$Table;", true)
  | 2 => ("GuestLevels$Machine", "room", "I", false)
  | 3 => ("GuestLevels$Machine", "outer", "LGuestLevels$Guest;", true)
  | 4 => ("GuestLevels$Machine", "inners", "[LGuestLevels$Inner;", true)
  | 5 => ("GuestLevels$Machine", "handed", "I", false)
  | 6 => ("GuestLevels$Machine", "level", "I", false)
  | 7 => ("GuestLevels$Machine", "time", "I", false)
  | 8 => ("GuestLevels$Machine", "wants", "[I", true)
  | 9 => ("GuestLevels$Machine", "handlers", "[I", true)
  | 10 => ("GuestLevels$Machine", "slice", "I", false)
  | 11 => ("GuestLevels$Machine", "left", "I", false)
  | 12 => ("GuestLevels$Machine", "missedPage", "I", false)
  | 13 => ("GuestLevels$Machine", "timers", "LGuestLevels$Timers;", true)
  | _ => ("GuestLevels$Machine", "log", "LGuestLevels$Log;", true)
def tyX3 : Nat → FieldType := fun k => match k with
  | 0 => .object "GuestLevels$Memory"
  | 1 => .object "GuestLevels$Table"
  | 2 => .int
  | 3 => .object "GuestLevels$Guest"
  | 4 => .array (.object "GuestLevels$Inner")
  | 5 => .int
  | 6 => .int
  | 7 => .int
  | 8 => .array .int
  | 9 => .array .int
  | 10 => .int
  | 11 => .int
  | 12 => .int
  | 13 => .object "GuestLevels$Timers"
  | _ => .object "GuestLevels$Log"
theorem nmX3 : ∀ a, a < 15 → ∀ b, b < 15 → a ≠ b → (TX3 a).2.1 ≠ (TX3 b).2.1 := by decide +kernel
theorem tyX3_ok : ∀ k, k < 15 → parseFieldDescriptor (TX3 k).2.2.1 = some (tyX3 k) := by decide +kernel
theorem inX3 : ∀ w ∈ u_ws RX3 TX3 15, w ∈ gw_tb := gw_among _ [435, 437, 439, 441, 443, 445, 447, 449, 451, 453, 455, 457, 459, 461, 463] (by decide +kernel) (by decide +kernel)
def RX4 : String := "GuestLevels$Memory"
def TX4 : u_T := fun k => match k with
  | 0 => ("GuestLevels$Memory", "table", "LGuestLevels$Table;", true)
  | 1 => ("GuestLevels$Memory", "value", "[I", true)
  | 2 => ("GuestLevels$Memory", "stored", "[I", true)
  | 3 => ("GuestLevels$Memory", "copies", "I", false)
  | 4 => ("GuestLevels$Memory", "changes", "I", false)
  | _ => ("GuestLevels$Memory", "swaps", "I", false)
def tyX4 : Nat → FieldType := fun k => match k with
  | 0 => .object "GuestLevels$Table"
  | 1 => .array .int
  | 2 => .array .int
  | 3 => .int
  | 4 => .int
  | _ => .int
theorem nmX4 : ∀ a, a < 6 → ∀ b, b < 6 → a ≠ b → (TX4 a).2.1 ≠ (TX4 b).2.1 := by decide +kernel
theorem tyX4_ok : ∀ k, k < 6 → parseFieldDescriptor (TX4 k).2.2.1 = some (tyX4 k) := by decide +kernel
theorem inX4 : ∀ w ∈ u_ws RX4 TX4 6, w ∈ gw_tb := gw_among _ [182, 184, 186, 188, 190, 192] (by decide +kernel) (by decide +kernel)
def RX5 : String := "GuestLevels$Past"
def TX5 : u_T := fun k => match k with
  | 0 => ("GuestLevels$Past", "rows", "[LGuestLevels$Machine;", true)
  | 1 => ("GuestLevels$Past", "start", "I", false)
  | _ => ("GuestLevels$Past", "size", "I", false)
def tyX5 : Nat → FieldType := fun k => match k with
  | 0 => .array (.object "GuestLevels$Machine")
  | 1 => .int
  | _ => .int
theorem nmX5 : ∀ a, a < 3 → ∀ b, b < 3 → a ≠ b → (TX5 a).2.1 ≠ (TX5 b).2.1 := by decide +kernel
theorem tyX5_ok : ∀ k, k < 3 → parseFieldDescriptor (TX5 k).2.2.1 = some (tyX5 k) := by decide +kernel
theorem inX5 : ∀ w ∈ u_ws RX5 TX5 3, w ∈ gw_tb := gw_among _ [478, 480, 482] (by decide +kernel) (by decide +kernel)
def RX6 : String := "GuestLevels$Plain"
def TX6 : u_T := fun k => match k with
  | 0 => ("GuestLevels$Plain", "inner", "LGuestLevels$Inner;", true)
  | 1 => ("GuestLevels$Plain", "value", "[I", true)
  | 2 => ("GuestLevels$Plain", "traps", "I", false)
  | _ => ("GuestLevels$Plain", "latestHeard", "I", false)
def tyX6 : Nat → FieldType := fun k => match k with
  | 0 => .object "GuestLevels$Inner"
  | 1 => .array .int
  | 2 => .int
  | _ => .int
theorem nmX6 : ∀ a, a < 4 → ∀ b, b < 4 → a ≠ b → (TX6 a).2.1 ≠ (TX6 b).2.1 := by decide +kernel
theorem tyX6_ok : ∀ k, k < 4 → parseFieldDescriptor (TX6 k).2.2.1 = some (tyX6 k) := by decide +kernel
theorem inX6 : ∀ w ∈ u_ws RX6 TX6 4, w ∈ gw_tb := gw_among _ [500, 502, 504, 506] (by decide +kernel) (by decide +kernel)
def RX7 : String := "GuestLevels$Program"
def TX7 : u_T := fun k => match k with
  | 0 => ("GuestLevels$Program", "act", "[I", true)
  | 1 => ("GuestLevels$Program", "a", "[I", true)
  | 2 => ("GuestLevels$Program", "b", "[I", true)
  | 3 => ("GuestLevels$Program", "size", "I", false)
  | _ => ("GuestLevels$Program", "place", "I", false)
def tyX7 : Nat → FieldType := fun k => match k with
  | 0 => .array .int
  | 1 => .array .int
  | 2 => .array .int
  | 3 => .int
  | _ => .int
theorem nmX7 : ∀ a, a < 5 → ∀ b, b < 5 → a ≠ b → (TX7 a).2.1 ≠ (TX7 b).2.1 := by decide +kernel
theorem tyX7_ok : ∀ k, k < 5 → parseFieldDescriptor (TX7 k).2.2.1 = some (tyX7 k) := by decide +kernel
theorem inX7 : ∀ w ∈ u_ws RX7 TX7 5, w ∈ gw_tb := gw_among _ [228, 230, 232, 234, 236] (by decide +kernel) (by decide +kernel)
def RX8 : String := "GuestLevels$Table"
def TX8 : u_T := fun k => match k with
  | 0 => ("GuestLevels$Table", "to", "[I", true)
  | 1 => ("GuestLevels$Table", "rights", "[I", true)
  | 2 => ("GuestLevels$Table", "came", "[I", true)
  | _ => ("GuestLevels$Table", "comings", "I", false)
def tyX8 : Nat → FieldType := fun k => match k with
  | 0 => .array .int
  | 1 => .array .int
  | 2 => .array .int
  | _ => .int
theorem nmX8 : ∀ a, a < 4 → ∀ b, b < 4 → a ≠ b → (TX8 a).2.1 ≠ (TX8 b).2.1 := by decide +kernel
theorem tyX8_ok : ∀ k, k < 4 → parseFieldDescriptor (TX8 k).2.2.1 = some (tyX8 k) := by decide +kernel
theorem inX8 : ∀ w ∈ u_ws RX8 TX8 4, w ∈ gw_tb := gw_among _ [156, 158, 160, 162] (by decide +kernel) (by decide +kernel)
def RX9 : String := "GuestLevels$Timers"
def TX9 : u_T := fun k => match k with
  | 0 => ("GuestLevels$Timers", "level", "[I", true)
  | 1 => ("GuestLevels$Timers", "deadline", "[I", true)
  | 2 => ("GuestLevels$Timers", "vector", "[I", true)
  | _ => ("GuestLevels$Timers", "size", "I", false)
def tyX9 : Nat → FieldType := fun k => match k with
  | 0 => .array .int
  | 1 => .array .int
  | 2 => .array .int
  | _ => .int
theorem nmX9 : ∀ a, a < 4 → ∀ b, b < 4 → a ≠ b → (TX9 a).2.1 ≠ (TX9 b).2.1 := by decide +kernel
theorem tyX9_ok : ∀ k, k < 4 → parseFieldDescriptor (TX9 k).2.2.1 = some (tyX9 k) := by decide +kernel
theorem inX9 : ∀ w ∈ u_ws RX9 TX9 4, w ∈ gw_tb := gw_among _ [292, 294, 296, 298] (by decide +kernel) (by decide +kernel)
def RX10 : String := "GuestLevels"
def TX10 : u_T := fun k => match k with
  | 0 => ("GuestLevels", "now", "LGuestLevels$Machine;", true)
  | 1 => ("GuestLevels", "past", "LGuestLevels$Past;", true)
  | 2 => ("GuestLevels", "imaged", "LGuestLevels$Machine;", true)
  | 3 => ("GuestLevels", "imagedPast", "LGuestLevels$Past;", true)
  | 4 => ("GuestLevels", "trial", "LGuestLevels$Machine;", true)
  | _ => ("GuestLevels", "plain", "LGuestLevels$Plain;", true)
def tyX10 : Nat → FieldType := fun k => match k with
  | 0 => .object "GuestLevels$Machine"
  | 1 => .object "GuestLevels$Past"
  | 2 => .object "GuestLevels$Machine"
  | 3 => .object "GuestLevels$Past"
  | 4 => .object "GuestLevels$Machine"
  | _ => .object "GuestLevels$Plain"
theorem nmX10 : ∀ a, a < 6 → ∀ b, b < 6 → a ≠ b → (TX10 a).2.1 ≠ (TX10 b).2.1 := by decide +kernel
theorem tyX10_ok : ∀ k, k < 6 → parseFieldDescriptor (TX10 k).2.2.1 = some (tyX10 k) := by decide +kernel
theorem inX10 : ∀ w ∈ u_ws RX10 TX10 6, w ∈ gw_tb := gw_among _ [515, 517, 519, 521, 523, 525] (by decide +kernel) (by decide +kernel)
def RX11 : String := "GuestLevelsModel"
def TX11 : u_T := fun k => match k with
  | 0 => ("GuestLevelsModel", "a", "[I", true)
  | 1 => ("GuestLevelsModel", "image", "[I", true)
  | 2 => ("GuestLevelsModel", "aside", "[I", true)
  | 3 => ("GuestLevelsModel", "plain", "[I", true)
  | 4 => ("GuestLevelsModel", "firstTable", "[I", true)
  | 5 => ("GuestLevelsModel", "plainTrapped", "I", false)
  | 6 => ("GuestLevelsModel", "plainRead", "I", false)
  | 7 => ("GuestLevelsModel", "plainAt", "I", false)
  | 8 => ("GuestLevelsModel", "plainPage", "I", false)
  | _ => ("GuestLevelsModel", "plainPlace", "I", false)
def tyX11 : Nat → FieldType := fun k => match k with
  | 0 => .array .int
  | 1 => .array .int
  | 2 => .array .int
  | 3 => .array .int
  | 4 => .array .int
  | 5 => .int
  | 6 => .int
  | 7 => .int
  | 8 => .int
  | _ => .int
theorem nmX11 : ∀ a, a < 10 → ∀ b, b < 10 → a ≠ b → (TX11 a).2.1 ≠ (TX11 b).2.1 := by decide +kernel
theorem tyX11_ok : ∀ k, k < 10 → parseFieldDescriptor (TX11 k).2.2.1 = some (tyX11 k) := by decide +kernel
theorem inX11 : ∀ w ∈ u_ws RX11 TX11 10, w ∈ gw_tb := gw_among _ [1380, 1382, 1384, 1386, 1388, 1390, 1392, 1394, 1396, 1398] (by decide +kernel) (by decide +kernel)
abbrev vwCl : List vw_C := [(RX0, TX0, 7), (RX1, TX1, 6), (RX2, TX2, 15), (RX3, TX3, 15), (RX4, TX4, 6), (RX5, TX5, 3), (RX6, TX6, 4), (RX7, TX7, 5), (RX8, TX8, 4), (RX9, TX9, 4), (RX10, TX10, 6), (RX11, TX11, 10)]
end
