section
-- ===== PART A: goes FIRST, ahead of the names: the tables' words, and 'selects' of the private methods out of them =====
/-- a private method of a class that the tables say can be made, by its rows of tables_1 -/
def lw_okq (q : MethodName × Nat) : Prop := (q.1.cls ≠ "java/lang/invoke/MethodHandle" ∧ q.1.cls ≠ "java/lang/invoke/VarHandle") ∧ Cond.instantiable q.1.cls q.2 ∈ tables_1 ∧ Cond.privateMethod q.1 ∈ tables_1 ∧ Cond.instanceMethod q.1 ∈ tables_1
theorem lw_p0 : lw_okq (⟨"GuestLevels$Machine", "tellInner", "(III)V"⟩, 15) := ⟨⟨by decide +kernel, by decide +kernel⟩, List.mem_of_getElem? (i := 28) (by decide +kernel), List.mem_of_getElem? (i := 507) (by decide +kernel), List.mem_of_getElem? (i := 508) (by decide +kernel)⟩
theorem lw_p1 : lw_okq (⟨"GuestLevels$Machine", "unfold", "(I)V"⟩, 15) := ⟨⟨by decide +kernel, by decide +kernel⟩, List.mem_of_getElem? (i := 28) (by decide +kernel), List.mem_of_getElem? (i := 520) (by decide +kernel), List.mem_of_getElem? (i := 521) (by decide +kernel)⟩
theorem lw_p2 : lw_okq (⟨"GuestLevels$Machine", "dealToOuter", "(II)V"⟩, 15) := ⟨⟨by decide +kernel, by decide +kernel⟩, List.mem_of_getElem? (i := 28) (by decide +kernel), List.mem_of_getElem? (i := 538) (by decide +kernel), List.mem_of_getElem? (i := 539) (by decide +kernel)⟩
theorem lw_p3 : lw_okq (⟨"GuestLevels$Machine", "dealOutToInner", "()V"⟩, 15) := ⟨⟨by decide +kernel, by decide +kernel⟩, List.mem_of_getElem? (i := 28) (by decide +kernel), List.mem_of_getElem? (i := 561) (by decide +kernel), List.mem_of_getElem? (i := 562) (by decide +kernel)⟩
theorem lw_p4 : lw_okq (⟨"GuestLevels$Machine", "rightsOfBoth", "(I)I"⟩, 15) := ⟨⟨by decide +kernel, by decide +kernel⟩, List.mem_of_getElem? (i := 28) (by decide +kernel), List.mem_of_getElem? (i := 620) (by decide +kernel), List.mem_of_getElem? (i := 621) (by decide +kernel)⟩
theorem lw_p5 : lw_okq (⟨"GuestLevels$Machine", "fold", "(I)V"⟩, 15) := ⟨⟨by decide +kernel, by decide +kernel⟩, List.mem_of_getElem? (i := 28) (by decide +kernel), List.mem_of_getElem? (i := 628) (by decide +kernel), List.mem_of_getElem? (i := 629) (by decide +kernel)⟩
theorem lw_p6 : lw_okq (⟨"GuestLevels$Machine", "hostSees", "(II)V"⟩, 15) := ⟨⟨by decide +kernel, by decide +kernel⟩, List.mem_of_getElem? (i := 28) (by decide +kernel), List.mem_of_getElem? (i := 686) (by decide +kernel), List.mem_of_getElem? (i := 687) (by decide +kernel)⟩
theorem lw_p7 : lw_okq (⟨"GuestLevels$Machine", "foldOnTouch", "(II)I"⟩, 15) := ⟨⟨by decide +kernel, by decide +kernel⟩, List.mem_of_getElem? (i := 28) (by decide +kernel), List.mem_of_getElem? (i := 690) (by decide +kernel), List.mem_of_getElem? (i := 691) (by decide +kernel)⟩
theorem lw_p8 : lw_okq (⟨"GuestLevels$Memory", "sharesFrame", "(I)Z"⟩, 6) := ⟨⟨by decide +kernel, by decide +kernel⟩, List.mem_of_getElem? (i := 34) (by decide +kernel), List.mem_of_getElem? (i := 702) (by decide +kernel), List.mem_of_getElem? (i := 703) (by decide +kernel)⟩
theorem lw_p9 : lw_okq (⟨"GuestLevels$Memory", "storeAway", "(I)V"⟩, 6) := ⟨⟨by decide +kernel, by decide +kernel⟩, List.mem_of_getElem? (i := 34) (by decide +kernel), List.mem_of_getElem? (i := 706) (by decide +kernel), List.mem_of_getElem? (i := 707) (by decide +kernel)⟩
theorem lw_p10 : lw_okq (⟨"GuestLevels", "mayGo", "(II)Z"⟩, 6) := ⟨⟨by decide +kernel, by decide +kernel⟩, List.mem_of_getElem? (i := 20) (by decide +kernel), List.mem_of_getElem? (i := 849) (by decide +kernel), List.mem_of_getElem? (i := 850) (by decide +kernel)⟩
theorem lw_p11 : lw_okq (⟨"GuestLevels$Machine", "nextDueNow", "()I"⟩, 15) := ⟨⟨by decide +kernel, by decide +kernel⟩, List.mem_of_getElem? (i := 28) (by decide +kernel), List.mem_of_getElem? (i := 858) (by decide +kernel), List.mem_of_getElem? (i := 859) (by decide +kernel)⟩
theorem lw_p12 : lw_okq (⟨"GuestLevels$Machine", "goOff", "(I)V"⟩, 15) := ⟨⟨by decide +kernel, by decide +kernel⟩, List.mem_of_getElem? (i := 28) (by decide +kernel), List.mem_of_getElem? (i := 877) (by decide +kernel), List.mem_of_getElem? (i := 878) (by decide +kernel)⟩
theorem lw_p13 : lw_okq (⟨"GuestLevels$Machine", "actOfOuter", "()V"⟩, 15) := ⟨⟨by decide +kernel, by decide +kernel⟩, List.mem_of_getElem? (i := 28) (by decide +kernel), List.mem_of_getElem? (i := 919) (by decide +kernel), List.mem_of_getElem? (i := 920) (by decide +kernel)⟩
theorem lw_p14 : lw_okq (⟨"GuestLevels$Machine", "tellMissed", "(I)V"⟩, 15) := ⟨⟨by decide +kernel, by decide +kernel⟩, List.mem_of_getElem? (i := 28) (by decide +kernel), List.mem_of_getElem? (i := 930) (by decide +kernel), List.mem_of_getElem? (i := 931) (by decide +kernel)⟩
theorem lw_p15 : lw_okq (⟨"GuestLevels$Machine", "switchUnlessInHand", "(I)V"⟩, 15) := ⟨⟨by decide +kernel, by decide +kernel⟩, List.mem_of_getElem? (i := 28) (by decide +kernel), List.mem_of_getElem? (i := 935) (by decide +kernel), List.mem_of_getElem? (i := 936) (by decide +kernel)⟩
def lw_privs_1 : List (MethodName × Nat) := [(⟨"GuestLevels$Machine", "tellInner", "(III)V"⟩, 15), (⟨"GuestLevels$Machine", "unfold", "(I)V"⟩, 15), (⟨"GuestLevels$Machine", "dealToOuter", "(II)V"⟩, 15), (⟨"GuestLevels$Machine", "dealOutToInner", "()V"⟩, 15), (⟨"GuestLevels$Machine", "rightsOfBoth", "(I)I"⟩, 15), (⟨"GuestLevels$Machine", "fold", "(I)V"⟩, 15), (⟨"GuestLevels$Machine", "hostSees", "(II)V"⟩, 15), (⟨"GuestLevels$Machine", "foldOnTouch", "(II)I"⟩, 15), (⟨"GuestLevels$Memory", "sharesFrame", "(I)Z"⟩, 6), (⟨"GuestLevels$Memory", "storeAway", "(I)V"⟩, 6), (⟨"GuestLevels", "mayGo", "(II)Z"⟩, 6), (⟨"GuestLevels$Machine", "nextDueNow", "()I"⟩, 15), (⟨"GuestLevels$Machine", "goOff", "(I)V"⟩, 15), (⟨"GuestLevels$Machine", "actOfOuter", "()V"⟩, 15), (⟨"GuestLevels$Machine", "tellMissed", "(I)V"⟩, 15), (⟨"GuestLevels$Machine", "switchUnlessInHand", "(I)V"⟩, 15)]
theorem lw_r1 : ∀ q ∈ lw_privs_1, lw_okq q := List.forall_mem_cons.mpr ⟨lw_p0, List.forall_mem_cons.mpr ⟨lw_p1, List.forall_mem_cons.mpr ⟨lw_p2, List.forall_mem_cons.mpr ⟨lw_p3, List.forall_mem_cons.mpr ⟨lw_p4, List.forall_mem_cons.mpr ⟨lw_p5, List.forall_mem_cons.mpr ⟨lw_p6, List.forall_mem_cons.mpr ⟨lw_p7, List.forall_mem_cons.mpr ⟨lw_p8, List.forall_mem_cons.mpr ⟨lw_p9, List.forall_mem_cons.mpr ⟨lw_p10, List.forall_mem_cons.mpr ⟨lw_p11, List.forall_mem_cons.mpr ⟨lw_p12, List.forall_mem_cons.mpr ⟨lw_p13, List.forall_mem_cons.mpr ⟨lw_p14, List.forall_mem_cons.mpr ⟨lw_p15, fun _ h => absurd h List.not_mem_nil⟩⟩⟩⟩⟩⟩⟩⟩⟩⟩⟩⟩⟩⟩⟩⟩
theorem lw_p16 : lw_okq (⟨"GuestLevels$Machine", "actOfInner", "()V"⟩, 15) := ⟨⟨by decide +kernel, by decide +kernel⟩, List.mem_of_getElem? (i := 28) (by decide +kernel), List.mem_of_getElem? (i := 940) (by decide +kernel), List.mem_of_getElem? (i := 941) (by decide +kernel)⟩
theorem lw_p17 : lw_okq (⟨"GuestLevels$Machine", "lead", "(LGuestLevels$Inner;II)V"⟩, 15) := ⟨⟨by decide +kernel, by decide +kernel⟩, List.mem_of_getElem? (i := 28) (by decide +kernel), List.mem_of_getElem? (i := 945) (by decide +kernel), List.mem_of_getElem? (i := 946) (by decide +kernel)⟩
theorem lw_p18 : lw_okq (⟨"GuestLevels$Table", "elderThan", "(I)I"⟩, 4) := ⟨⟨by decide +kernel, by decide +kernel⟩, List.mem_of_getElem? (i := 40) (by decide +kernel), List.mem_of_getElem? (i := 992) (by decide +kernel), List.mem_of_getElem? (i := 993) (by decide +kernel)⟩
theorem lw_p19 : lw_okq (⟨"GuestLevels$Machine", "frameOfInner", "(I)I"⟩, 15) := ⟨⟨by decide +kernel, by decide +kernel⟩, List.mem_of_getElem? (i := 28) (by decide +kernel), List.mem_of_getElem? (i := 1073) (by decide +kernel), List.mem_of_getElem? (i := 1074) (by decide +kernel)⟩
theorem lw_p20 : lw_okq (⟨"GuestLevels", "goPlainly", "(I)V"⟩, 6) := ⟨⟨by decide +kernel, by decide +kernel⟩, List.mem_of_getElem? (i := 20) (by decide +kernel), List.mem_of_getElem? (i := 1202) (by decide +kernel), List.mem_of_getElem? (i := 1203) (by decide +kernel)⟩
theorem lw_p21 : lw_okq (⟨"GuestLevels$Plain", "touchFrom", "(IIII)V"⟩, 4) := ⟨⟨by decide +kernel, by decide +kernel⟩, List.mem_of_getElem? (i := 389) (by decide +kernel), List.mem_of_getElem? (i := 1223) (by decide +kernel), List.mem_of_getElem? (i := 1224) (by decide +kernel)⟩
theorem lw_p22 : lw_okq (⟨"GuestLevelsModel", "canTell", "(I)Z"⟩, 10) := ⟨⟨by decide +kernel, by decide +kernel⟩, List.mem_of_getElem? (i := 1265) (by decide +kernel), List.mem_of_getElem? (i := 1316) (by decide +kernel), List.mem_of_getElem? (i := 1317) (by decide +kernel)⟩
theorem lw_p23 : lw_okq (⟨"GuestLevelsModel", "keep", "()V"⟩, 10) := ⟨⟨by decide +kernel, by decide +kernel⟩, List.mem_of_getElem? (i := 1265) (by decide +kernel), List.mem_of_getElem? (i := 1326) (by decide +kernel), List.mem_of_getElem? (i := 1327) (by decide +kernel)⟩
theorem lw_p24 : lw_okq (⟨"GuestLevelsModel", "tellEntry", "(IIII)V"⟩, 10) := ⟨⟨by decide +kernel, by decide +kernel⟩, List.mem_of_getElem? (i := 1265) (by decide +kernel), List.mem_of_getElem? (i := 1330) (by decide +kernel), List.mem_of_getElem? (i := 1331) (by decide +kernel)⟩
theorem lw_p25 : lw_okq (⟨"GuestLevelsModel", "layEntry", "(IIII)V"⟩, 10) := ⟨⟨by decide +kernel, by decide +kernel⟩, List.mem_of_getElem? (i := 1265) (by decide +kernel), List.mem_of_getElem? (i := 1334) (by decide +kernel), List.mem_of_getElem? (i := 1335) (by decide +kernel)⟩
theorem lw_p26 : lw_okq (⟨"GuestLevelsModel", "entryAt", "(II)I"⟩, 10) := ⟨⟨by decide +kernel, by decide +kernel⟩, List.mem_of_getElem? (i := 1265) (by decide +kernel), List.mem_of_getElem? (i := 1338) (by decide +kernel), List.mem_of_getElem? (i := 1339) (by decide +kernel)⟩
theorem lw_p27 : lw_okq (⟨"GuestLevelsModel", "guestAt", "(I)I"⟩, 10) := ⟨⟨by decide +kernel, by decide +kernel⟩, List.mem_of_getElem? (i := 1265) (by decide +kernel), List.mem_of_getElem? (i := 1342) (by decide +kernel), List.mem_of_getElem? (i := 1343) (by decide +kernel)⟩
theorem lw_p28 : lw_okq (⟨"GuestLevelsModel", "unfold", "(I)V"⟩, 10) := ⟨⟨by decide +kernel, by decide +kernel⟩, List.mem_of_getElem? (i := 1265) (by decide +kernel), List.mem_of_getElem? (i := 1346) (by decide +kernel), List.mem_of_getElem? (i := 1347) (by decide +kernel)⟩
theorem lw_p29 : lw_okq (⟨"GuestLevelsModel", "toOf", "(II)I"⟩, 10) := ⟨⟨by decide +kernel, by decide +kernel⟩, List.mem_of_getElem? (i := 1265) (by decide +kernel), List.mem_of_getElem? (i := 1350) (by decide +kernel), List.mem_of_getElem? (i := 1351) (by decide +kernel)⟩
theorem lw_p30 : lw_okq (⟨"GuestLevelsModel", "goOut", "(III)V"⟩, 10) := ⟨⟨by decide +kernel, by decide +kernel⟩, List.mem_of_getElem? (i := 1265) (by decide +kernel), List.mem_of_getElem? (i := 1354) (by decide +kernel), List.mem_of_getElem? (i := 1355) (by decide +kernel)⟩
theorem lw_p31 : lw_okq (⟨"GuestLevelsModel", "unfoldTo", "(I)V"⟩, 10) := ⟨⟨by decide +kernel, by decide +kernel⟩, List.mem_of_getElem? (i := 1265) (by decide +kernel), List.mem_of_getElem? (i := 1358) (by decide +kernel), List.mem_of_getElem? (i := 1359) (by decide +kernel)⟩
def lw_privs_2 : List (MethodName × Nat) := [(⟨"GuestLevels$Machine", "actOfInner", "()V"⟩, 15), (⟨"GuestLevels$Machine", "lead", "(LGuestLevels$Inner;II)V"⟩, 15), (⟨"GuestLevels$Table", "elderThan", "(I)I"⟩, 4), (⟨"GuestLevels$Machine", "frameOfInner", "(I)I"⟩, 15), (⟨"GuestLevels", "goPlainly", "(I)V"⟩, 6), (⟨"GuestLevels$Plain", "touchFrom", "(IIII)V"⟩, 4), (⟨"GuestLevelsModel", "canTell", "(I)Z"⟩, 10), (⟨"GuestLevelsModel", "keep", "()V"⟩, 10), (⟨"GuestLevelsModel", "tellEntry", "(IIII)V"⟩, 10), (⟨"GuestLevelsModel", "layEntry", "(IIII)V"⟩, 10), (⟨"GuestLevelsModel", "entryAt", "(II)I"⟩, 10), (⟨"GuestLevelsModel", "guestAt", "(I)I"⟩, 10), (⟨"GuestLevelsModel", "unfold", "(I)V"⟩, 10), (⟨"GuestLevelsModel", "toOf", "(II)I"⟩, 10), (⟨"GuestLevelsModel", "goOut", "(III)V"⟩, 10), (⟨"GuestLevelsModel", "unfoldTo", "(I)V"⟩, 10)]
theorem lw_r2 : ∀ q ∈ lw_privs_2, lw_okq q := List.forall_mem_cons.mpr ⟨lw_p16, List.forall_mem_cons.mpr ⟨lw_p17, List.forall_mem_cons.mpr ⟨lw_p18, List.forall_mem_cons.mpr ⟨lw_p19, List.forall_mem_cons.mpr ⟨lw_p20, List.forall_mem_cons.mpr ⟨lw_p21, List.forall_mem_cons.mpr ⟨lw_p22, List.forall_mem_cons.mpr ⟨lw_p23, List.forall_mem_cons.mpr ⟨lw_p24, List.forall_mem_cons.mpr ⟨lw_p25, List.forall_mem_cons.mpr ⟨lw_p26, List.forall_mem_cons.mpr ⟨lw_p27, List.forall_mem_cons.mpr ⟨lw_p28, List.forall_mem_cons.mpr ⟨lw_p29, List.forall_mem_cons.mpr ⟨lw_p30, List.forall_mem_cons.mpr ⟨lw_p31, fun _ h => absurd h List.not_mem_nil⟩⟩⟩⟩⟩⟩⟩⟩⟩⟩⟩⟩⟩⟩⟩⟩
theorem lw_p32 : lw_okq (⟨"GuestLevelsModel", "comeLast", "(III)V"⟩, 10) := ⟨⟨by decide +kernel, by decide +kernel⟩, List.mem_of_getElem? (i := 1265) (by decide +kernel), List.mem_of_getElem? (i := 1362) (by decide +kernel), List.mem_of_getElem? (i := 1363) (by decide +kernel)⟩
theorem lw_p33 : lw_okq (⟨"GuestLevelsModel", "dealOut", "()V"⟩, 10) := ⟨⟨by decide +kernel, by decide +kernel⟩, List.mem_of_getElem? (i := 1265) (by decide +kernel), List.mem_of_getElem? (i := 1366) (by decide +kernel), List.mem_of_getElem? (i := 1367) (by decide +kernel)⟩
theorem lw_p34 : lw_okq (⟨"GuestLevelsModel", "nextOf", "(I)I"⟩, 10) := ⟨⟨by decide +kernel, by decide +kernel⟩, List.mem_of_getElem? (i := 1265) (by decide +kernel), List.mem_of_getElem? (i := 1370) (by decide +kernel), List.mem_of_getElem? (i := 1371) (by decide +kernel)⟩
theorem lw_p35 : lw_okq (⟨"GuestLevelsModel", "deal", "(II)V"⟩, 10) := ⟨⟨by decide +kernel, by decide +kernel⟩, List.mem_of_getElem? (i := 1265) (by decide +kernel), List.mem_of_getElem? (i := 1380) (by decide +kernel), List.mem_of_getElem? (i := 1381) (by decide +kernel)⟩
theorem lw_p36 : lw_okq (⟨"GuestLevelsModel", "writeExit", "(III)V"⟩, 10) := ⟨⟨by decide +kernel, by decide +kernel⟩, List.mem_of_getElem? (i := 1265) (by decide +kernel), List.mem_of_getElem? (i := 1384) (by decide +kernel), List.mem_of_getElem? (i := 1385) (by decide +kernel)⟩
theorem lw_p37 : lw_okq (⟨"GuestLevelsModel", "take", "(II)V"⟩, 10) := ⟨⟨by decide +kernel, by decide +kernel⟩, List.mem_of_getElem? (i := 1265) (by decide +kernel), List.mem_of_getElem? (i := 1388) (by decide +kernel), List.mem_of_getElem? (i := 1389) (by decide +kernel)⟩
theorem lw_p38 : lw_okq (⟨"GuestLevelsModel", "sinceOf", "(II)I"⟩, 10) := ⟨⟨by decide +kernel, by decide +kernel⟩, List.mem_of_getElem? (i := 1265) (by decide +kernel), List.mem_of_getElem? (i := 1392) (by decide +kernel), List.mem_of_getElem? (i := 1393) (by decide +kernel)⟩
theorem lw_p39 : lw_okq (⟨"GuestLevelsModel", "roomNow", "(I)V"⟩, 10) := ⟨⟨by decide +kernel, by decide +kernel⟩, List.mem_of_getElem? (i := 1265) (by decide +kernel), List.mem_of_getElem? (i := 1404) (by decide +kernel), List.mem_of_getElem? (i := 1405) (by decide +kernel)⟩
theorem lw_p40 : lw_okq (⟨"GuestLevelsModel", "isLazy", "(I)Z"⟩, 10) := ⟨⟨by decide +kernel, by decide +kernel⟩, List.mem_of_getElem? (i := 1265) (by decide +kernel), List.mem_of_getElem? (i := 1412) (by decide +kernel), List.mem_of_getElem? (i := 1413) (by decide +kernel)⟩
theorem lw_p41 : lw_okq (⟨"GuestLevelsModel", "rightsOf", "(II)I"⟩, 10) := ⟨⟨by decide +kernel, by decide +kernel⟩, List.mem_of_getElem? (i := 1265) (by decide +kernel), List.mem_of_getElem? (i := 1416) (by decide +kernel), List.mem_of_getElem? (i := 1417) (by decide +kernel)⟩
theorem lw_p42 : lw_okq (⟨"GuestLevelsModel", "isCopied", "(I)Z"⟩, 10) := ⟨⟨by decide +kernel, by decide +kernel⟩, List.mem_of_getElem? (i := 1265) (by decide +kernel), List.mem_of_getElem? (i := 1420) (by decide +kernel), List.mem_of_getElem? (i := 1421) (by decide +kernel)⟩
theorem lw_p43 : lw_okq (⟨"GuestLevelsModel", "fold", "(I)V"⟩, 10) := ⟨⟨by decide +kernel, by decide +kernel⟩, List.mem_of_getElem? (i := 1265) (by decide +kernel), List.mem_of_getElem? (i := 1424) (by decide +kernel), List.mem_of_getElem? (i := 1425) (by decide +kernel)⟩
theorem lw_p44 : lw_okq (⟨"GuestLevelsModel", "likeOf", "(I)I"⟩, 10) := ⟨⟨by decide +kernel, by decide +kernel⟩, List.mem_of_getElem? (i := 1265) (by decide +kernel), List.mem_of_getElem? (i := 1432) (by decide +kernel), List.mem_of_getElem? (i := 1433) (by decide +kernel)⟩
theorem lw_p45 : lw_okq (⟨"GuestLevelsModel", "leadTo", "(I)I"⟩, 10) := ⟨⟨by decide +kernel, by decide +kernel⟩, List.mem_of_getElem? (i := 1265) (by decide +kernel), List.mem_of_getElem? (i := 1436) (by decide +kernel), List.mem_of_getElem? (i := 1437) (by decide +kernel)⟩
theorem lw_p46 : lw_okq (⟨"GuestLevelsModel", "joinNow", "(II)V"⟩, 10) := ⟨⟨by decide +kernel, by decide +kernel⟩, List.mem_of_getElem? (i := 1265) (by decide +kernel), List.mem_of_getElem? (i := 1440) (by decide +kernel), List.mem_of_getElem? (i := 1441) (by decide +kernel)⟩
theorem lw_p47 : lw_okq (⟨"GuestLevelsModel", "touchNow", "(III)I"⟩, 10) := ⟨⟨by decide +kernel, by decide +kernel⟩, List.mem_of_getElem? (i := 1265) (by decide +kernel), List.mem_of_getElem? (i := 1464) (by decide +kernel), List.mem_of_getElem? (i := 1465) (by decide +kernel)⟩
def lw_privs_3 : List (MethodName × Nat) := [(⟨"GuestLevelsModel", "comeLast", "(III)V"⟩, 10), (⟨"GuestLevelsModel", "dealOut", "()V"⟩, 10), (⟨"GuestLevelsModel", "nextOf", "(I)I"⟩, 10), (⟨"GuestLevelsModel", "deal", "(II)V"⟩, 10), (⟨"GuestLevelsModel", "writeExit", "(III)V"⟩, 10), (⟨"GuestLevelsModel", "take", "(II)V"⟩, 10), (⟨"GuestLevelsModel", "sinceOf", "(II)I"⟩, 10), (⟨"GuestLevelsModel", "roomNow", "(I)V"⟩, 10), (⟨"GuestLevelsModel", "isLazy", "(I)Z"⟩, 10), (⟨"GuestLevelsModel", "rightsOf", "(II)I"⟩, 10), (⟨"GuestLevelsModel", "isCopied", "(I)Z"⟩, 10), (⟨"GuestLevelsModel", "fold", "(I)V"⟩, 10), (⟨"GuestLevelsModel", "likeOf", "(I)I"⟩, 10), (⟨"GuestLevelsModel", "leadTo", "(I)I"⟩, 10), (⟨"GuestLevelsModel", "joinNow", "(II)V"⟩, 10), (⟨"GuestLevelsModel", "touchNow", "(III)I"⟩, 10)]
theorem lw_r3 : ∀ q ∈ lw_privs_3, lw_okq q := List.forall_mem_cons.mpr ⟨lw_p32, List.forall_mem_cons.mpr ⟨lw_p33, List.forall_mem_cons.mpr ⟨lw_p34, List.forall_mem_cons.mpr ⟨lw_p35, List.forall_mem_cons.mpr ⟨lw_p36, List.forall_mem_cons.mpr ⟨lw_p37, List.forall_mem_cons.mpr ⟨lw_p38, List.forall_mem_cons.mpr ⟨lw_p39, List.forall_mem_cons.mpr ⟨lw_p40, List.forall_mem_cons.mpr ⟨lw_p41, List.forall_mem_cons.mpr ⟨lw_p42, List.forall_mem_cons.mpr ⟨lw_p43, List.forall_mem_cons.mpr ⟨lw_p44, List.forall_mem_cons.mpr ⟨lw_p45, List.forall_mem_cons.mpr ⟨lw_p46, List.forall_mem_cons.mpr ⟨lw_p47, fun _ h => absurd h List.not_mem_nil⟩⟩⟩⟩⟩⟩⟩⟩⟩⟩⟩⟩⟩⟩⟩⟩
theorem lw_p48 : lw_okq (⟨"GuestLevelsModel", "touchOuter", "(III)I"⟩, 10) := ⟨⟨by decide +kernel, by decide +kernel⟩, List.mem_of_getElem? (i := 1265) (by decide +kernel), List.mem_of_getElem? (i := 1468) (by decide +kernel), List.mem_of_getElem? (i := 1469) (by decide +kernel)⟩
theorem lw_p49 : lw_okq (⟨"GuestLevelsModel", "see", "(II)V"⟩, 10) := ⟨⟨by decide +kernel, by decide +kernel⟩, List.mem_of_getElem? (i := 1265) (by decide +kernel), List.mem_of_getElem? (i := 1472) (by decide +kernel), List.mem_of_getElem? (i := 1473) (by decide +kernel)⟩
theorem lw_p50 : lw_okq (⟨"GuestLevelsModel", "give", "(I)V"⟩, 10) := ⟨⟨by decide +kernel, by decide +kernel⟩, List.mem_of_getElem? (i := 1265) (by decide +kernel), List.mem_of_getElem? (i := 1476) (by decide +kernel), List.mem_of_getElem? (i := 1477) (by decide +kernel)⟩
theorem lw_p51 : lw_okq (⟨"GuestLevelsModel", "freeFrame", "()I"⟩, 10) := ⟨⟨by decide +kernel, by decide +kernel⟩, List.mem_of_getElem? (i := 1265) (by decide +kernel), List.mem_of_getElem? (i := 1480) (by decide +kernel), List.mem_of_getElem? (i := 1481) (by decide +kernel)⟩
theorem lw_p52 : lw_okq (⟨"GuestLevelsModel", "swapOut", "()V"⟩, 10) := ⟨⟨by decide +kernel, by decide +kernel⟩, List.mem_of_getElem? (i := 1265) (by decide +kernel), List.mem_of_getElem? (i := 1484) (by decide +kernel), List.mem_of_getElem? (i := 1485) (by decide +kernel)⟩
theorem lw_p53 : lw_okq (⟨"GuestLevelsModel", "isParted", "(II)Z"⟩, 10) := ⟨⟨by decide +kernel, by decide +kernel⟩, List.mem_of_getElem? (i := 1265) (by decide +kernel), List.mem_of_getElem? (i := 1488) (by decide +kernel), List.mem_of_getElem? (i := 1489) (by decide +kernel)⟩
theorem lw_p54 : lw_okq (⟨"GuestLevelsModel", "part", "(I)V"⟩, 10) := ⟨⟨by decide +kernel, by decide +kernel⟩, List.mem_of_getElem? (i := 1265) (by decide +kernel), List.mem_of_getElem? (i := 1492) (by decide +kernel), List.mem_of_getElem? (i := 1493) (by decide +kernel)⟩
theorem lw_p55 : lw_okq (⟨"GuestLevelsModel", "gives", "(III)Z"⟩, 10) := ⟨⟨by decide +kernel, by decide +kernel⟩, List.mem_of_getElem? (i := 1265) (by decide +kernel), List.mem_of_getElem? (i := 1496) (by decide +kernel), List.mem_of_getElem? (i := 1497) (by decide +kernel)⟩
theorem lw_p56 : lw_okq (⟨"GuestLevelsModel", "doAt", "(III)I"⟩, 10) := ⟨⟨by decide +kernel, by decide +kernel⟩, List.mem_of_getElem? (i := 1265) (by decide +kernel), List.mem_of_getElem? (i := 1500) (by decide +kernel), List.mem_of_getElem? (i := 1501) (by decide +kernel)⟩
theorem lw_p57 : lw_okq (⟨"GuestLevelsModel", "touchInner", "(III)I"⟩, 10) := ⟨⟨by decide +kernel, by decide +kernel⟩, List.mem_of_getElem? (i := 1265) (by decide +kernel), List.mem_of_getElem? (i := 1504) (by decide +kernel), List.mem_of_getElem? (i := 1505) (by decide +kernel)⟩
theorem lw_p58 : lw_okq (⟨"GuestLevelsModel", "eventNow", "(I)I"⟩, 10) := ⟨⟨by decide +kernel, by decide +kernel⟩, List.mem_of_getElem? (i := 1265) (by decide +kernel), List.mem_of_getElem? (i := 1508) (by decide +kernel), List.mem_of_getElem? (i := 1509) (by decide +kernel)⟩
theorem lw_p59 : lw_okq (⟨"GuestLevelsModel", "eventOuter", "(I)I"⟩, 10) := ⟨⟨by decide +kernel, by decide +kernel⟩, List.mem_of_getElem? (i := 1265) (by decide +kernel), List.mem_of_getElem? (i := 1512) (by decide +kernel), List.mem_of_getElem? (i := 1513) (by decide +kernel)⟩
theorem lw_p60 : lw_okq (⟨"GuestLevelsModel", "eventInner", "(I)I"⟩, 10) := ⟨⟨by decide +kernel, by decide +kernel⟩, List.mem_of_getElem? (i := 1265) (by decide +kernel), List.mem_of_getElem? (i := 1516) (by decide +kernel), List.mem_of_getElem? (i := 1517) (by decide +kernel)⟩
theorem lw_p61 : lw_okq (⟨"GuestLevelsModel", "whoSees", "(I)I"⟩, 10) := ⟨⟨by decide +kernel, by decide +kernel⟩, List.mem_of_getElem? (i := 1265) (by decide +kernel), List.mem_of_getElem? (i := 1520) (by decide +kernel), List.mem_of_getElem? (i := 1521) (by decide +kernel)⟩
theorem lw_p62 : lw_okq (⟨"GuestLevelsModel", "doInner", "(III)I"⟩, 10) := ⟨⟨by decide +kernel, by decide +kernel⟩, List.mem_of_getElem? (i := 1265) (by decide +kernel), List.mem_of_getElem? (i := 1524) (by decide +kernel), List.mem_of_getElem? (i := 1525) (by decide +kernel)⟩
theorem lw_p63 : lw_okq (⟨"GuestLevelsModel", "hear", "(I)V"⟩, 10) := ⟨⟨by decide +kernel, by decide +kernel⟩, List.mem_of_getElem? (i := 1265) (by decide +kernel), List.mem_of_getElem? (i := 1528) (by decide +kernel), List.mem_of_getElem? (i := 1529) (by decide +kernel)⟩
def lw_privs_4 : List (MethodName × Nat) := [(⟨"GuestLevelsModel", "touchOuter", "(III)I"⟩, 10), (⟨"GuestLevelsModel", "see", "(II)V"⟩, 10), (⟨"GuestLevelsModel", "give", "(I)V"⟩, 10), (⟨"GuestLevelsModel", "freeFrame", "()I"⟩, 10), (⟨"GuestLevelsModel", "swapOut", "()V"⟩, 10), (⟨"GuestLevelsModel", "isParted", "(II)Z"⟩, 10), (⟨"GuestLevelsModel", "part", "(I)V"⟩, 10), (⟨"GuestLevelsModel", "gives", "(III)Z"⟩, 10), (⟨"GuestLevelsModel", "doAt", "(III)I"⟩, 10), (⟨"GuestLevelsModel", "touchInner", "(III)I"⟩, 10), (⟨"GuestLevelsModel", "eventNow", "(I)I"⟩, 10), (⟨"GuestLevelsModel", "eventOuter", "(I)I"⟩, 10), (⟨"GuestLevelsModel", "eventInner", "(I)I"⟩, 10), (⟨"GuestLevelsModel", "whoSees", "(I)I"⟩, 10), (⟨"GuestLevelsModel", "doInner", "(III)I"⟩, 10), (⟨"GuestLevelsModel", "hear", "(I)V"⟩, 10)]
theorem lw_r4 : ∀ q ∈ lw_privs_4, lw_okq q := List.forall_mem_cons.mpr ⟨lw_p48, List.forall_mem_cons.mpr ⟨lw_p49, List.forall_mem_cons.mpr ⟨lw_p50, List.forall_mem_cons.mpr ⟨lw_p51, List.forall_mem_cons.mpr ⟨lw_p52, List.forall_mem_cons.mpr ⟨lw_p53, List.forall_mem_cons.mpr ⟨lw_p54, List.forall_mem_cons.mpr ⟨lw_p55, List.forall_mem_cons.mpr ⟨lw_p56, List.forall_mem_cons.mpr ⟨lw_p57, List.forall_mem_cons.mpr ⟨lw_p58, List.forall_mem_cons.mpr ⟨lw_p59, List.forall_mem_cons.mpr ⟨lw_p60, List.forall_mem_cons.mpr ⟨lw_p61, List.forall_mem_cons.mpr ⟨lw_p62, List.forall_mem_cons.mpr ⟨lw_p63, fun _ h => absurd h List.not_mem_nil⟩⟩⟩⟩⟩⟩⟩⟩⟩⟩⟩⟩⟩⟩⟩⟩
theorem lw_p64 : lw_okq (⟨"GuestLevelsModel", "enterNow", "()V"⟩, 10) := ⟨⟨by decide +kernel, by decide +kernel⟩, List.mem_of_getElem? (i := 1265) (by decide +kernel), List.mem_of_getElem? (i := 1540) (by decide +kernel), List.mem_of_getElem? (i := 1541) (by decide +kernel)⟩
theorem lw_p65 : lw_okq (⟨"GuestLevelsModel", "pend", "(II)V"⟩, 10) := ⟨⟨by decide +kernel, by decide +kernel⟩, List.mem_of_getElem? (i := 1265) (by decide +kernel), List.mem_of_getElem? (i := 1551) (by decide +kernel), List.mem_of_getElem? (i := 1552) (by decide +kernel)⟩
theorem lw_p66 : lw_okq (⟨"GuestLevelsModel", "endNow", "(I)I"⟩, 10) := ⟨⟨by decide +kernel, by decide +kernel⟩, List.mem_of_getElem? (i := 1265) (by decide +kernel), List.mem_of_getElem? (i := 1563) (by decide +kernel), List.mem_of_getElem? (i := 1564) (by decide +kernel)⟩
theorem lw_p67 : lw_okq (⟨"GuestLevelsModel", "handNow", "(I)V"⟩, 10) := ⟨⟨by decide +kernel, by decide +kernel⟩, List.mem_of_getElem? (i := 1265) (by decide +kernel), List.mem_of_getElem? (i := 1571) (by decide +kernel), List.mem_of_getElem? (i := 1572) (by decide +kernel)⟩
theorem lw_p68 : lw_okq (⟨"GuestLevelsModel", "unfoldAll", "()V"⟩, 10) := ⟨⟨by decide +kernel, by decide +kernel⟩, List.mem_of_getElem? (i := 1265) (by decide +kernel), List.mem_of_getElem? (i := 1575) (by decide +kernel), List.mem_of_getElem? (i := 1576) (by decide +kernel)⟩
theorem lw_p69 : lw_okq (⟨"GuestLevelsModel", "dropTimer", "(I)V"⟩, 10) := ⟨⟨by decide +kernel, by decide +kernel⟩, List.mem_of_getElem? (i := 1265) (by decide +kernel), List.mem_of_getElem? (i := 1593) (by decide +kernel), List.mem_of_getElem? (i := 1594) (by decide +kernel)⟩
theorem lw_p70 : lw_okq (⟨"GuestLevelsModel", "tick", "()I"⟩, 10) := ⟨⟨by decide +kernel, by decide +kernel⟩, List.mem_of_getElem? (i := 1265) (by decide +kernel), List.mem_of_getElem? (i := 1620) (by decide +kernel), List.mem_of_getElem? (i := 1621) (by decide +kernel)⟩
theorem lw_p71 : lw_okq (⟨"GuestLevelsModel", "firstDue", "()I"⟩, 10) := ⟨⟨by decide +kernel, by decide +kernel⟩, List.mem_of_getElem? (i := 1265) (by decide +kernel), List.mem_of_getElem? (i := 1624) (by decide +kernel), List.mem_of_getElem? (i := 1625) (by decide +kernel)⟩
theorem lw_p72 : lw_okq (⟨"GuestLevelsModel", "isDue", "(II)Z"⟩, 10) := ⟨⟨by decide +kernel, by decide +kernel⟩, List.mem_of_getElem? (i := 1265) (by decide +kernel), List.mem_of_getElem? (i := 1628) (by decide +kernel), List.mem_of_getElem? (i := 1629) (by decide +kernel)⟩
theorem lw_p73 : lw_okq (⟨"GuestLevelsModel", "ofTimer", "(II)I"⟩, 10) := ⟨⟨by decide +kernel, by decide +kernel⟩, List.mem_of_getElem? (i := 1265) (by decide +kernel), List.mem_of_getElem? (i := 1632) (by decide +kernel), List.mem_of_getElem? (i := 1633) (by decide +kernel)⟩
theorem lw_p74 : lw_okq (⟨"GuestLevelsModel", "clockAt", "(II)I"⟩, 10) := ⟨⟨by decide +kernel, by decide +kernel⟩, List.mem_of_getElem? (i := 1265) (by decide +kernel), List.mem_of_getElem? (i := 1636) (by decide +kernel), List.mem_of_getElem? (i := 1637) (by decide +kernel)⟩
theorem lw_p75 : lw_okq (⟨"GuestLevelsModel", "isAhead", "(II)Z"⟩, 10) := ⟨⟨by decide +kernel, by decide +kernel⟩, List.mem_of_getElem? (i := 1265) (by decide +kernel), List.mem_of_getElem? (i := 1640) (by decide +kernel), List.mem_of_getElem? (i := 1641) (by decide +kernel)⟩
theorem lw_p76 : lw_okq (⟨"GuestLevelsModel", "canGo", "(II)Z"⟩, 10) := ⟨⟨by decide +kernel, by decide +kernel⟩, List.mem_of_getElem? (i := 1265) (by decide +kernel), List.mem_of_getElem? (i := 1662) (by decide +kernel), List.mem_of_getElem? (i := 1663) (by decide +kernel)⟩
theorem lw_p77 : lw_okq (⟨"GuestLevelsModel", "exitsAll", "()I"⟩, 10) := ⟨⟨by decide +kernel, by decide +kernel⟩, List.mem_of_getElem? (i := 1265) (by decide +kernel), List.mem_of_getElem? (i := 1666) (by decide +kernel), List.mem_of_getElem? (i := 1667) (by decide +kernel)⟩
theorem lw_p78 : lw_okq (⟨"GuestLevelsModel", "goNow", "()V"⟩, 10) := ⟨⟨by decide +kernel, by decide +kernel⟩, List.mem_of_getElem? (i := 1265) (by decide +kernel), List.mem_of_getElem? (i := 1670) (by decide +kernel), List.mem_of_getElem? (i := 1671) (by decide +kernel)⟩
theorem lw_p79 : lw_okq (⟨"GuestLevelsModel", "actNow", "()V"⟩, 10) := ⟨⟨by decide +kernel, by decide +kernel⟩, List.mem_of_getElem? (i := 1265) (by decide +kernel), List.mem_of_getElem? (i := 1674) (by decide +kernel), List.mem_of_getElem? (i := 1675) (by decide +kernel)⟩
def lw_privs_5 : List (MethodName × Nat) := [(⟨"GuestLevelsModel", "enterNow", "()V"⟩, 10), (⟨"GuestLevelsModel", "pend", "(II)V"⟩, 10), (⟨"GuestLevelsModel", "endNow", "(I)I"⟩, 10), (⟨"GuestLevelsModel", "handNow", "(I)V"⟩, 10), (⟨"GuestLevelsModel", "unfoldAll", "()V"⟩, 10), (⟨"GuestLevelsModel", "dropTimer", "(I)V"⟩, 10), (⟨"GuestLevelsModel", "tick", "()I"⟩, 10), (⟨"GuestLevelsModel", "firstDue", "()I"⟩, 10), (⟨"GuestLevelsModel", "isDue", "(II)Z"⟩, 10), (⟨"GuestLevelsModel", "ofTimer", "(II)I"⟩, 10), (⟨"GuestLevelsModel", "clockAt", "(II)I"⟩, 10), (⟨"GuestLevelsModel", "isAhead", "(II)Z"⟩, 10), (⟨"GuestLevelsModel", "canGo", "(II)Z"⟩, 10), (⟨"GuestLevelsModel", "exitsAll", "()I"⟩, 10), (⟨"GuestLevelsModel", "goNow", "()V"⟩, 10), (⟨"GuestLevelsModel", "actNow", "()V"⟩, 10)]
theorem lw_r5 : ∀ q ∈ lw_privs_5, lw_okq q := List.forall_mem_cons.mpr ⟨lw_p64, List.forall_mem_cons.mpr ⟨lw_p65, List.forall_mem_cons.mpr ⟨lw_p66, List.forall_mem_cons.mpr ⟨lw_p67, List.forall_mem_cons.mpr ⟨lw_p68, List.forall_mem_cons.mpr ⟨lw_p69, List.forall_mem_cons.mpr ⟨lw_p70, List.forall_mem_cons.mpr ⟨lw_p71, List.forall_mem_cons.mpr ⟨lw_p72, List.forall_mem_cons.mpr ⟨lw_p73, List.forall_mem_cons.mpr ⟨lw_p74, List.forall_mem_cons.mpr ⟨lw_p75, List.forall_mem_cons.mpr ⟨lw_p76, List.forall_mem_cons.mpr ⟨lw_p77, List.forall_mem_cons.mpr ⟨lw_p78, List.forall_mem_cons.mpr ⟨lw_p79, fun _ h => absurd h List.not_mem_nil⟩⟩⟩⟩⟩⟩⟩⟩⟩⟩⟩⟩⟩⟩⟩⟩
theorem lw_p80 : lw_okq (⟨"GuestLevelsModel", "goOnBy", "(IIIZ)V"⟩, 10) := ⟨⟨by decide +kernel, by decide +kernel⟩, List.mem_of_getElem? (i := 1265) (by decide +kernel), List.mem_of_getElem? (i := 1678) (by decide +kernel), List.mem_of_getElem? (i := 1679) (by decide +kernel)⟩
theorem lw_p81 : lw_okq (⟨"GuestLevelsModel", "hasPlace", "(II)Z"⟩, 10) := ⟨⟨by decide +kernel, by decide +kernel⟩, List.mem_of_getElem? (i := 1265) (by decide +kernel), List.mem_of_getElem? (i := 1682) (by decide +kernel), List.mem_of_getElem? (i := 1683) (by decide +kernel)⟩
theorem lw_p82 : lw_okq (⟨"GuestLevelsModel", "actOuter", "(III)V"⟩, 10) := ⟨⟨by decide +kernel, by decide +kernel⟩, List.mem_of_getElem? (i := 1265) (by decide +kernel), List.mem_of_getElem? (i := 1686) (by decide +kernel), List.mem_of_getElem? (i := 1687) (by decide +kernel)⟩
theorem lw_p83 : lw_okq (⟨"GuestLevelsModel", "actInner", "(III)V"⟩, 10) := ⟨⟨by decide +kernel, by decide +kernel⟩, List.mem_of_getElem? (i := 1265) (by decide +kernel), List.mem_of_getElem? (i := 1690) (by decide +kernel), List.mem_of_getElem? (i := 1691) (by decide +kernel)⟩
theorem lw_p84 : lw_okq (⟨"GuestLevelsModel", "freeFrames", "()I"⟩, 10) := ⟨⟨by decide +kernel, by decide +kernel⟩, List.mem_of_getElem? (i := 1265) (by decide +kernel), List.mem_of_getElem? (i := 1698) (by decide +kernel), List.mem_of_getElem? (i := 1699) (by decide +kernel)⟩
theorem lw_p85 : lw_okq (⟨"GuestLevelsModel", "entriesFrom", "(I)I"⟩, 10) := ⟨⟨by decide +kernel, by decide +kernel⟩, List.mem_of_getElem? (i := 1265) (by decide +kernel), List.mem_of_getElem? (i := 1798) (by decide +kernel), List.mem_of_getElem? (i := 1799) (by decide +kernel)⟩
theorem lw_p86 : lw_okq (⟨"GuestLevelsModel", "dueOf", "(I)I"⟩, 10) := ⟨⟨by decide +kernel, by decide +kernel⟩, List.mem_of_getElem? (i := 1265) (by decide +kernel), List.mem_of_getElem? (i := 1819) (by decide +kernel), List.mem_of_getElem? (i := 1820) (by decide +kernel)⟩
theorem lw_p87 : lw_okq (⟨"GuestLevelsModel", "putAside", "()V"⟩, 10) := ⟨⟨by decide +kernel, by decide +kernel⟩, List.mem_of_getElem? (i := 1265) (by decide +kernel), List.mem_of_getElem? (i := 1836) (by decide +kernel), List.mem_of_getElem? (i := 1837) (by decide +kernel)⟩
theorem lw_p88 : lw_okq (⟨"GuestLevelsModel", "bringBack", "()V"⟩, 10) := ⟨⟨by decide +kernel, by decide +kernel⟩, List.mem_of_getElem? (i := 1265) (by decide +kernel), List.mem_of_getElem? (i := 1841) (by decide +kernel), List.mem_of_getElem? (i := 1842) (by decide +kernel)⟩
theorem lw_p89 : lw_okq (⟨"GuestLevelsModel", "tillMore", "(I)I"⟩, 10) := ⟨⟨by decide +kernel, by decide +kernel⟩, List.mem_of_getElem? (i := 1265) (by decide +kernel), List.mem_of_getElem? (i := 1849) (by decide +kernel), List.mem_of_getElem? (i := 1850) (by decide +kernel)⟩
theorem lw_p90 : lw_okq (⟨"GuestLevelsModel", "seenBy", "(II)I"⟩, 10) := ⟨⟨by decide +kernel, by decide +kernel⟩, List.mem_of_getElem? (i := 1265) (by decide +kernel), List.mem_of_getElem? (i := 1861) (by decide +kernel), List.mem_of_getElem? (i := 1862) (by decide +kernel)⟩
theorem lw_p91 : lw_okq (⟨"GuestLevelsModel", "layPlain", "(I)V"⟩, 10) := ⟨⟨by decide +kernel, by decide +kernel⟩, List.mem_of_getElem? (i := 1265) (by decide +kernel), List.mem_of_getElem? (i := 1869) (by decide +kernel), List.mem_of_getElem? (i := 1870) (by decide +kernel)⟩
theorem lw_p92 : lw_okq (⟨"GuestLevelsModel", "plainValue", "(I)I"⟩, 10) := ⟨⟨by decide +kernel, by decide +kernel⟩, List.mem_of_getElem? (i := 1265) (by decide +kernel), List.mem_of_getElem? (i := 1873) (by decide +kernel), List.mem_of_getElem? (i := 1874) (by decide +kernel)⟩
theorem lw_p93 : lw_okq (⟨"GuestLevelsModel", "plainAct", "(II)V"⟩, 10) := ⟨⟨by decide +kernel, by decide +kernel⟩, List.mem_of_getElem? (i := 1265) (by decide +kernel), List.mem_of_getElem? (i := 1877) (by decide +kernel), List.mem_of_getElem? (i := 1878) (by decide +kernel)⟩
theorem lw_p94 : lw_okq (⟨"GuestLevelsModel", "plainTouch", "(IIIII)V"⟩, 10) := ⟨⟨by decide +kernel, by decide +kernel⟩, List.mem_of_getElem? (i := 1265) (by decide +kernel), List.mem_of_getElem? (i := 1881) (by decide +kernel), List.mem_of_getElem? (i := 1882) (by decide +kernel)⟩
theorem lw_p95 : lw_okq (⟨"GuestLevelsModel", "plainTrap", "(III)V"⟩, 10) := ⟨⟨by decide +kernel, by decide +kernel⟩, List.mem_of_getElem? (i := 1265) (by decide +kernel), List.mem_of_getElem? (i := 1885) (by decide +kernel), List.mem_of_getElem? (i := 1886) (by decide +kernel)⟩
def lw_privs_6 : List (MethodName × Nat) := [(⟨"GuestLevelsModel", "goOnBy", "(IIIZ)V"⟩, 10), (⟨"GuestLevelsModel", "hasPlace", "(II)Z"⟩, 10), (⟨"GuestLevelsModel", "actOuter", "(III)V"⟩, 10), (⟨"GuestLevelsModel", "actInner", "(III)V"⟩, 10), (⟨"GuestLevelsModel", "freeFrames", "()I"⟩, 10), (⟨"GuestLevelsModel", "entriesFrom", "(I)I"⟩, 10), (⟨"GuestLevelsModel", "dueOf", "(I)I"⟩, 10), (⟨"GuestLevelsModel", "putAside", "()V"⟩, 10), (⟨"GuestLevelsModel", "bringBack", "()V"⟩, 10), (⟨"GuestLevelsModel", "tillMore", "(I)I"⟩, 10), (⟨"GuestLevelsModel", "seenBy", "(II)I"⟩, 10), (⟨"GuestLevelsModel", "layPlain", "(I)V"⟩, 10), (⟨"GuestLevelsModel", "plainValue", "(I)I"⟩, 10), (⟨"GuestLevelsModel", "plainAct", "(II)V"⟩, 10), (⟨"GuestLevelsModel", "plainTouch", "(IIIII)V"⟩, 10), (⟨"GuestLevelsModel", "plainTrap", "(III)V"⟩, 10)]
theorem lw_r6 : ∀ q ∈ lw_privs_6, lw_okq q := List.forall_mem_cons.mpr ⟨lw_p80, List.forall_mem_cons.mpr ⟨lw_p81, List.forall_mem_cons.mpr ⟨lw_p82, List.forall_mem_cons.mpr ⟨lw_p83, List.forall_mem_cons.mpr ⟨lw_p84, List.forall_mem_cons.mpr ⟨lw_p85, List.forall_mem_cons.mpr ⟨lw_p86, List.forall_mem_cons.mpr ⟨lw_p87, List.forall_mem_cons.mpr ⟨lw_p88, List.forall_mem_cons.mpr ⟨lw_p89, List.forall_mem_cons.mpr ⟨lw_p90, List.forall_mem_cons.mpr ⟨lw_p91, List.forall_mem_cons.mpr ⟨lw_p92, List.forall_mem_cons.mpr ⟨lw_p93, List.forall_mem_cons.mpr ⟨lw_p94, List.forall_mem_cons.mpr ⟨lw_p95, fun _ h => absurd h List.not_mem_nil⟩⟩⟩⟩⟩⟩⟩⟩⟩⟩⟩⟩⟩⟩⟩⟩
theorem lw_p96 : lw_okq (⟨"GuestLevelsModel", "plainTell", "(II)V"⟩, 10) := ⟨⟨by decide +kernel, by decide +kernel⟩, List.mem_of_getElem? (i := 1265) (by decide +kernel), List.mem_of_getElem? (i := 1889) (by decide +kernel), List.mem_of_getElem? (i := 1890) (by decide +kernel)⟩
def lw_privs_7 : List (MethodName × Nat) := [(⟨"GuestLevelsModel", "plainTell", "(II)V"⟩, 10)]
theorem lw_r7 : ∀ q ∈ lw_privs_7, lw_okq q := List.forall_mem_cons.mpr ⟨lw_p96, fun _ h => absurd h List.not_mem_nil⟩
def lw_privs : List (MethodName × Nat) := lw_privs_1 ++ (lw_privs_2 ++ (lw_privs_3 ++ (lw_privs_4 ++ (lw_privs_5 ++ (lw_privs_6 ++ (lw_privs_7))))))
def lw_tbl : List Cond := k2_sels lw_privs ++ tables_1
theorem lw_privs_ok : ∀ q ∈ lw_privs, lw_okq q := by
  show ∀ q ∈ lw_privs_1 ++ (lw_privs_2 ++ (lw_privs_3 ++ (lw_privs_4 ++ (lw_privs_5 ++ (lw_privs_6 ++ (lw_privs_7)))))), lw_okq q
  exact List.forall_mem_append.mpr ⟨lw_r1, List.forall_mem_append.mpr ⟨lw_r2, List.forall_mem_append.mpr ⟨lw_r3, List.forall_mem_append.mpr ⟨lw_r4, List.forall_mem_append.mpr ⟨lw_r5, List.forall_mem_append.mpr ⟨lw_r6, lw_r7⟩⟩⟩⟩⟩⟩
/-- the streams that the claim lets the run draw from -/
abbrev lw_cs : List Choice := [Jvm.Choice.named "NaN.bits"]
theorem lw_bits : nanBits ∈ lw_cs := by first | decide | exact List.mem_cons_self | simp [lw_cs, nanBits]
def gw_tb : List Cond := lw_tbl.filter goodWord
theorem gw_mem {i : Nat} {c : Cond} (h : lw_tbl[i]? = some c) (hg : goodWord c = true) : c ∈ gw_tb := List.mem_filter.mpr ⟨List.mem_of_getElem? h, hg⟩
theorem gw_tb_lw : ∀ w ∈ gw_tb, w ∈ lw_tbl := fun _ h => (List.mem_filter.mp h).1
theorem gw_tb_good : ∀ w ∈ gw_tb, goodWord w = true := fun _ h => (List.mem_filter.mp h).2
theorem gw_among (ws : List Cond) (ps : List Nat) (hp : ws = ps.filterMap (fun i => lw_tbl[i]?)) (hg : ws.all goodWord = true) : ∀ w ∈ ws, w ∈ gw_tb := by
  intro w hw
  have h1 := List.all_eq_true.mp hg w hw
  rw [hp] at hw
  obtain ⟨i, -, hi⟩ := List.mem_filterMap.mp hw
  exact gw_mem hi h1
def RX0 : String := "GuestLevels$Guest"
def TX0 : u_T := fun k => match k with
  | 0 => ("GuestLevels$Guest", "program", "LGuestLevels$Program;", true)
  | 1 => ("GuestLevels$Guest", "since", "[I", true)
  | 2 => ("GuestLevels$Guest", "waiting", "I", false)
  | 3 => ("GuestLevels$Guest", "serving", "I", false)
  | 4 => ("GuestLevels$Guest", "opened", "Z", false)
  | 5 => ("GuestLevels$Guest", "scale", "I", false)
  | _ => ("GuestLevels$Guest", "offset", "I", false)
def tyX0 : Nat → FieldType := fun k => match k with
  | 0 => .object "GuestLevels$Program"
  | 1 => .array .int
  | 2 => .int
  | 3 => .int
  | 4 => .boolean
  | 5 => .int
  | _ => .int
theorem nmX0 : ∀ a, a < 7 → ∀ b, b < 7 → a ≠ b → (TX0 a).2.1 ≠ (TX0 b).2.1 := by decide +kernel
theorem tyX0_ok : ∀ k, k < 7 → parseFieldDescriptor (TX0 k).2.2.1 = some (tyX0 k) := by decide +kernel
theorem inX0 : ∀ w ∈ u_ws RX0 TX0 7, w ∈ gw_tb := gw_among _ [257, 259, 261, 263, 265, 267, 269] (by decide +kernel) (by decide +kernel)
def RX1 : String := "GuestLevels$Inner"
def TX1 : u_T := fun k => match k with
  | 0 => ("GuestLevels$Inner", "guest", "LGuestLevels$Guest;", true)
  | 1 => ("GuestLevels$Inner", "toInner", "LGuestLevels$Table;", true)
  | 2 => ("GuestLevels$Inner", "toOuter", "LGuestLevels$Table;", true)
  | 3 => ("GuestLevels$Inner", "trapPlace", "I", false)
  | 4 => ("GuestLevels$Inner", "trappedPage", "I", false)
  | _ => ("GuestLevels$Inner", "trappedPlace", "I", false)
def tyX1 : Nat → FieldType := fun k => match k with
  | 0 => .object "GuestLevels$Guest"
  | 1 => .object "GuestLevels$Table"
  | 2 => .object "GuestLevels$Table"
  | 3 => .int
  | 4 => .int
  | _ => .int
theorem nmX1 : ∀ a, a < 6 → ∀ b, b < 6 → a ≠ b → (TX1 a).2.1 ≠ (TX1 b).2.1 := by decide +kernel
theorem tyX1_ok : ∀ k, k < 6 → parseFieldDescriptor (TX1 k).2.2.1 = some (tyX1 k) := by decide +kernel
theorem inX1 : ∀ w ∈ u_ws RX1 TX1 6, w ∈ gw_tb := gw_among _ [394, 396, 398, 400, 402, 404] (by decide +kernel) (by decide +kernel)
def RX2 : String := "GuestLevels$Log"
def TX2 : u_T := fun k => match k with
  | 0 => ("GuestLevels$Log", "who", "[I", true)
  | 1 => ("GuestLevels$Log", "reason", "[I", true)
  | 2 => ("GuestLevels$Log", "detail", "[I", true)
  | 3 => ("GuestLevels$Log", "time", "[I", true)
  | 4 => ("GuestLevels$Log", "exitsOf", "[I", true)
  | 5 => ("GuestLevels$Log", "dealtReason", "I", false)
  | 6 => ("GuestLevels$Log", "dealtDetail", "I", false)
  | 7 => ("GuestLevels$Log", "heardValue", "[I", true)
  | 8 => ("GuestLevels$Log", "allHeard", "I", false)
  | 9 => ("GuestLevels$Log", "ownTraps", "I", false)
  | 10 => ("GuestLevels$Log", "seenBy", "[I", true)
  | 11 => ("GuestLevels$Log", "spentBy", "[I", true)
  | 12 => ("GuestLevels$Log", "takes", "[I", true)
  | 13 => ("GuestLevels$Log", "latestTake", "[I", true)
  | _ => ("GuestLevels$Log", "longestWait", "[I", true)
def tyX2 : Nat → FieldType := fun k => match k with
  | 0 => .array .int
  | 1 => .array .int
  | 2 => .array .int
  | 3 => .array .int
  | 4 => .array .int
  | 5 => .int
  | 6 => .int
  | 7 => .array .int
  | 8 => .int
  | 9 => .int
  | 10 => .array .int
  | 11 => .array .int
  | 12 => .array .int
  | 13 => .array .int
  | _ => .array .int
theorem nmX2 : ∀ a, a < 15 → ∀ b, b < 15 → a ≠ b → (TX2 a).2.1 ≠ (TX2 b).2.1 := by decide +kernel
theorem tyX2_ok : ∀ k, k < 15 → parseFieldDescriptor (TX2 k).2.2.1 = some (tyX2 k) := by decide +kernel
theorem inX2 : ∀ w ∈ u_ws RX2 TX2 15, w ∈ gw_tb := gw_among _ [335, 337, 339, 341, 343, 345, 347, 349, 351, 353, 355, 357, 359, 361, 363] (by decide +kernel) (by decide +kernel)
def RX3 : String := "GuestLevels$Machine"
def TX3 : u_T := fun k => match k with
  | 0 => ("GuestLevels$Machine", "memory", "LGuestLevels$Memory;", true)
  | 1 => ("GuestLevels$Machine", "folds", "LGuestLevels$Table;", true)
  | 2 => ("GuestLevels$Machine", "room", "I", false)
  | 3 => ("GuestLevels$Machine", "outer", "LGuestLevels$Guest;", true)
  | 4 => ("GuestLevels$Machine", "inners", "[LGuestLevels$Inner;", true)
  | 5 => ("GuestLevels$Machine", "handed", "I", false)
  | 6 => ("GuestLevels$Machine", "level", "I", false)
  | 7 => ("GuestLevels$Machine", "time", "I", false)
  | 8 => ("GuestLevels$Machine", "wants", "[I", true)
  | 9 => ("GuestLevels$Machine", "handlers", "[I", true)
  | 10 => ("GuestLevels$Machine", "slice", "I", false)
  | 11 => ("GuestLevels$Machine", "left", "I", false)
  | 12 => ("GuestLevels$Machine", "missedPage", "I", false)
  | 13 => ("GuestLevels$Machine", "timers", "LGuestLevels$Timers;", true)
  | _ => ("GuestLevels$Machine", "log", "LGuestLevels$Log;", true)
def tyX3 : Nat → FieldType := fun k => match k with
  | 0 => .object "GuestLevels$Memory"
  | 1 => .object "GuestLevels$Table"
  | 2 => .int
  | 3 => .object "GuestLevels$Guest"
  | 4 => .array (.object "GuestLevels$Inner")
  | 5 => .int
  | 6 => .int
  | 7 => .int
  | 8 => .array .int
  | 9 => .array .int
  | 10 => .int
  | 11 => .int
  | 12 => .int
  | 13 => .object "GuestLevels$Timers"
  | _ => .object "GuestLevels$Log"
theorem nmX3 : ∀ a, a < 15 → ∀ b, b < 15 → a ≠ b → (TX3 a).2.1 ≠ (TX3 b).2.1 := by decide +kernel
theorem tyX3_ok : ∀ k, k < 15 → parseFieldDescriptor (TX3 k).2.2.1 = some (tyX3 k) := by decide +kernel
theorem inX3 : ∀ w ∈ u_ws RX3 TX3 15, w ∈ gw_tb := gw_among _ [435, 437, 439, 441, 443, 445, 447, 449, 451, 453, 455, 457, 459, 461, 463] (by decide +kernel) (by decide +kernel)
def RX4 : String := "GuestLevels$Memory"
def TX4 : u_T := fun k => match k with
  | 0 => ("GuestLevels$Memory", "table", "LGuestLevels$Table;", true)
  | 1 => ("GuestLevels$Memory", "value", "[I", true)
  | 2 => ("GuestLevels$Memory", "stored", "[I", true)
  | 3 => ("GuestLevels$Memory", "copies", "I", false)
  | 4 => ("GuestLevels$Memory", "changes", "I", false)
  | _ => ("GuestLevels$Memory", "swaps", "I", false)
def tyX4 : Nat → FieldType := fun k => match k with
  | 0 => .object "GuestLevels$Table"
  | 1 => .array .int
  | 2 => .array .int
  | 3 => .int
  | 4 => .int
  | _ => .int
theorem nmX4 : ∀ a, a < 6 → ∀ b, b < 6 → a ≠ b → (TX4 a).2.1 ≠ (TX4 b).2.1 := by decide +kernel
theorem tyX4_ok : ∀ k, k < 6 → parseFieldDescriptor (TX4 k).2.2.1 = some (tyX4 k) := by decide +kernel
theorem inX4 : ∀ w ∈ u_ws RX4 TX4 6, w ∈ gw_tb := gw_among _ [182, 184, 186, 188, 190, 192] (by decide +kernel) (by decide +kernel)
def RX5 : String := "GuestLevels$Past"
def TX5 : u_T := fun k => match k with
  | 0 => ("GuestLevels$Past", "rows", "[LGuestLevels$Machine;", true)
  | 1 => ("GuestLevels$Past", "start", "I", false)
  | _ => ("GuestLevels$Past", "size", "I", false)
def tyX5 : Nat → FieldType := fun k => match k with
  | 0 => .array (.object "GuestLevels$Machine")
  | 1 => .int
  | _ => .int
theorem nmX5 : ∀ a, a < 3 → ∀ b, b < 3 → a ≠ b → (TX5 a).2.1 ≠ (TX5 b).2.1 := by decide +kernel
theorem tyX5_ok : ∀ k, k < 3 → parseFieldDescriptor (TX5 k).2.2.1 = some (tyX5 k) := by decide +kernel
theorem inX5 : ∀ w ∈ u_ws RX5 TX5 3, w ∈ gw_tb := gw_among _ [478, 480, 482] (by decide +kernel) (by decide +kernel)
def RX6 : String := "GuestLevels$Plain"
def TX6 : u_T := fun k => match k with
  | 0 => ("GuestLevels$Plain", "inner", "LGuestLevels$Inner;", true)
  | 1 => ("GuestLevels$Plain", "value", "[I", true)
  | 2 => ("GuestLevels$Plain", "traps", "I", false)
  | _ => ("GuestLevels$Plain", "latestHeard", "I", false)
def tyX6 : Nat → FieldType := fun k => match k with
  | 0 => .object "GuestLevels$Inner"
  | 1 => .array .int
  | 2 => .int
  | _ => .int
theorem nmX6 : ∀ a, a < 4 → ∀ b, b < 4 → a ≠ b → (TX6 a).2.1 ≠ (TX6 b).2.1 := by decide +kernel
theorem tyX6_ok : ∀ k, k < 4 → parseFieldDescriptor (TX6 k).2.2.1 = some (tyX6 k) := by decide +kernel
theorem inX6 : ∀ w ∈ u_ws RX6 TX6 4, w ∈ gw_tb := gw_among _ [500, 502, 504, 506] (by decide +kernel) (by decide +kernel)
def RX7 : String := "GuestLevels$Program"
def TX7 : u_T := fun k => match k with
  | 0 => ("GuestLevels$Program", "act", "[I", true)
  | 1 => ("GuestLevels$Program", "a", "[I", true)
  | 2 => ("GuestLevels$Program", "b", "[I", true)
  | 3 => ("GuestLevels$Program", "size", "I", false)
  | _ => ("GuestLevels$Program", "place", "I", false)
def tyX7 : Nat → FieldType := fun k => match k with
  | 0 => .array .int
  | 1 => .array .int
  | 2 => .array .int
  | 3 => .int
  | _ => .int
theorem nmX7 : ∀ a, a < 5 → ∀ b, b < 5 → a ≠ b → (TX7 a).2.1 ≠ (TX7 b).2.1 := by decide +kernel
theorem tyX7_ok : ∀ k, k < 5 → parseFieldDescriptor (TX7 k).2.2.1 = some (tyX7 k) := by decide +kernel
theorem inX7 : ∀ w ∈ u_ws RX7 TX7 5, w ∈ gw_tb := gw_among _ [228, 230, 232, 234, 236] (by decide +kernel) (by decide +kernel)
def RX8 : String := "GuestLevels$Table"
def TX8 : u_T := fun k => match k with
  | 0 => ("GuestLevels$Table", "to", "[I", true)
  | 1 => ("GuestLevels$Table", "rights", "[I", true)
  | 2 => ("GuestLevels$Table", "came", "[I", true)
  | _ => ("GuestLevels$Table", "comings", "I", false)
def tyX8 : Nat → FieldType := fun k => match k with
  | 0 => .array .int
  | 1 => .array .int
  | 2 => .array .int
  | _ => .int
theorem nmX8 : ∀ a, a < 4 → ∀ b, b < 4 → a ≠ b → (TX8 a).2.1 ≠ (TX8 b).2.1 := by decide +kernel
theorem tyX8_ok : ∀ k, k < 4 → parseFieldDescriptor (TX8 k).2.2.1 = some (tyX8 k) := by decide +kernel
theorem inX8 : ∀ w ∈ u_ws RX8 TX8 4, w ∈ gw_tb := gw_among _ [156, 158, 160, 162] (by decide +kernel) (by decide +kernel)
def RX9 : String := "GuestLevels$Timers"
def TX9 : u_T := fun k => match k with
  | 0 => ("GuestLevels$Timers", "level", "[I", true)
  | 1 => ("GuestLevels$Timers", "deadline", "[I", true)
  | 2 => ("GuestLevels$Timers", "vector", "[I", true)
  | _ => ("GuestLevels$Timers", "size", "I", false)
def tyX9 : Nat → FieldType := fun k => match k with
  | 0 => .array .int
  | 1 => .array .int
  | 2 => .array .int
  | _ => .int
theorem nmX9 : ∀ a, a < 4 → ∀ b, b < 4 → a ≠ b → (TX9 a).2.1 ≠ (TX9 b).2.1 := by decide +kernel
theorem tyX9_ok : ∀ k, k < 4 → parseFieldDescriptor (TX9 k).2.2.1 = some (tyX9 k) := by decide +kernel
theorem inX9 : ∀ w ∈ u_ws RX9 TX9 4, w ∈ gw_tb := gw_among _ [292, 294, 296, 298] (by decide +kernel) (by decide +kernel)
def RX10 : String := "GuestLevels"
def TX10 : u_T := fun k => match k with
  | 0 => ("GuestLevels", "now", "LGuestLevels$Machine;", true)
  | 1 => ("GuestLevels", "past", "LGuestLevels$Past;", true)
  | 2 => ("GuestLevels", "imaged", "LGuestLevels$Machine;", true)
  | 3 => ("GuestLevels", "imagedPast", "LGuestLevels$Past;", true)
  | 4 => ("GuestLevels", "trial", "LGuestLevels$Machine;", true)
  | _ => ("GuestLevels", "plain", "LGuestLevels$Plain;", true)
def tyX10 : Nat → FieldType := fun k => match k with
  | 0 => .object "GuestLevels$Machine"
  | 1 => .object "GuestLevels$Past"
  | 2 => .object "GuestLevels$Machine"
  | 3 => .object "GuestLevels$Past"
  | 4 => .object "GuestLevels$Machine"
  | _ => .object "GuestLevels$Plain"
theorem nmX10 : ∀ a, a < 6 → ∀ b, b < 6 → a ≠ b → (TX10 a).2.1 ≠ (TX10 b).2.1 := by decide +kernel
theorem tyX10_ok : ∀ k, k < 6 → parseFieldDescriptor (TX10 k).2.2.1 = some (tyX10 k) := by decide +kernel
theorem inX10 : ∀ w ∈ u_ws RX10 TX10 6, w ∈ gw_tb := gw_among _ [515, 517, 519, 521, 523, 525] (by decide +kernel) (by decide +kernel)
def RX11 : String := "GuestLevelsModel"
def TX11 : u_T := fun k => match k with
  | 0 => ("GuestLevelsModel", "a", "[I", true)
  | 1 => ("GuestLevelsModel", "image", "[I", true)
  | 2 => ("GuestLevelsModel", "aside", "[I", true)
  | 3 => ("GuestLevelsModel", "plain", "[I", true)
  | 4 => ("GuestLevelsModel", "firstTable", "[I", true)
  | 5 => ("GuestLevelsModel", "plainTrapped", "I", false)
  | 6 => ("GuestLevelsModel", "plainRead", "I", false)
  | 7 => ("GuestLevelsModel", "plainAt", "I", false)
  | 8 => ("GuestLevelsModel", "plainPage", "I", false)
  | _ => ("GuestLevelsModel", "plainPlace", "I", false)
def tyX11 : Nat → FieldType := fun k => match k with
  | 0 => .array .int
  | 1 => .array .int
  | 2 => .array .int
  | 3 => .array .int
  | 4 => .array .int
  | 5 => .int
  | 6 => .int
  | 7 => .int
  | 8 => .int
  | _ => .int
theorem nmX11 : ∀ a, a < 10 → ∀ b, b < 10 → a ≠ b → (TX11 a).2.1 ≠ (TX11 b).2.1 := by decide +kernel
theorem tyX11_ok : ∀ k, k < 10 → parseFieldDescriptor (TX11 k).2.2.1 = some (tyX11 k) := by decide +kernel
theorem inX11 : ∀ w ∈ u_ws RX11 TX11 10, w ∈ gw_tb := gw_among _ [1380, 1382, 1384, 1386, 1388, 1390, 1392, 1394, 1396, 1398] (by decide +kernel) (by decide +kernel)
abbrev vwCl : List vw_C := [(RX0, TX0, 7), (RX1, TX1, 6), (RX2, TX2, 15), (RX3, TX3, 15), (RX4, TX4, 6), (RX5, TX5, 3), (RX6, TX6, 4), (RX7, TX7, 5), (RX8, TX8, 4), (RX9, TX9, 4), (RX10, TX10, 6), (RX11, TX11, 10)]
end
section
/-! ===== the pure machine: refs are numbers (0: null), ints lie at (object, slot) ===== -/
abbrev gw_S : Type := (Nat → Nat → Nat) × (Nat → Nat) × (Nat → Nat) × Nat
abbrev gw_M : Type := Nat → Nat → Int32
abbrev gw_Sig : Type := MethodName × ByteArray × Nat × Option FieldType
abbrev gw_E : Type := Nat × Nat × Instr × List Nat × List Int32 × List gw_Sig
abbrev gw_C : Type := Nat × Heap × va_G × ClassId × ClassId × ClassId × Nat × Nat × (Nat → Int32)
def gw_rf (S : gw_S) (a k : Nat) : Nat := S.1 a k
def gw_kd (S : gw_S) (a : Nat) : Nat := S.2.1 a
def gw_ln (S : gw_S) (a : Nat) : Nat := S.2.2.1 a
def gw_nn (S : gw_S) : Nat := S.2.2.2
def gw_up (μ : gw_M) (a k : Nat) (v : Int32) : gw_M := fun b j => if b = a ∧ j = k then v else μ b j
def gw_row (μ : gw_M) (a : Nat) (f : Nat → Int32) : gw_M := fun b j => if b = a then f j else μ b j
def gw_sr (S : gw_S) (a k r : Nat) : gw_S := (fun b j => if b = a ∧ j = k then r else S.1 b j, S.2)
def gw_new (S : gw_S) (kd ln : Nat) : gw_S := (fun b j => if b = S.2.2.2 + 1 then 0 else S.1 b j, fun b => if b = S.2.2.2 + 1 then kd else S.2.1 b, fun b => if b = S.2.2.2 + 1 then ln else S.2.2.1 b, S.2.2.2 + 1)
def gw_nth : List Value → Nat → Value
  | [], _ => .retAddr 0
  | v :: _, 0 => v
  | _ :: l, n + 1 => gw_nth l n
def gw_set : List Value → Nat → Value → List Value
  | [], _, _ => []
  | _ :: l, 0, w => w :: l
  | v :: l, n + 1, w => v :: gw_set l n w
def gw_v (x : gw_C) : Value → Value
  | .ref 0 => .null
  | .ref (r + 1) => .ref (x.1 + (r + 1))
  | .retAddr _ => .ref x.2.2.2.2.2.2.1
  | v => v
def gw_ty (c k : Nat) : FieldType := match c with
  | 0 => tyX0 k
  | 1 => tyX1 k
  | 2 => tyX2 k
  | 3 => tyX3 k
  | 4 => tyX4 k
  | 5 => tyX5 k
  | 6 => tyX6 k
  | 7 => tyX7 k
  | 8 => tyX8 k
  | 9 => tyX9 k
  | 10 => tyX10 k
  | _ => tyX11 k
def gw_nf (c : Nat) : Nat := match c with
  | 0 => 7
  | 1 => 6
  | 2 => 15
  | 3 => 15
  | 4 => 6
  | 5 => 3
  | 6 => 4
  | 7 => 5
  | 8 => 4
  | 9 => 4
  | 10 => 6
  | _ => 10
def gw_ft (t : FieldType) : Nat := match t with
  | .int => 0
  | .boolean => 2
  | _ => 1
def gw_fld (x : gw_C) (S : gw_S) (μ : gw_M) (a c k : Nat) : Value := if gw_ft (gw_ty c k) = 1 then gw_v x (.ref (gw_rf S a k)) else .int (μ a k)
def gw_cell (x : gw_C) (S : gw_S) (μ : gw_M) (a : Nat) (H : Heap) : Prop :=
  (gw_kd S a = 12 → H[x.1 + a]? = some (arrV x.2.2.2.1 (gw_ln S a) (fun j => .int (μ a j)))) ∧
  (gw_kd S a = 13 → H[x.1 + a]? = some (arrV x.2.2.2.2.1 (gw_ln S a) (fun j => gw_v x (.ref (gw_rf S a j))))) ∧
  (gw_kd S a = 14 → H[x.1 + a]? = some (arrV x.2.2.2.2.2.1 (gw_ln S a) (fun j => gw_v x (.ref (gw_rf S a j))))) ∧
  (∀ q, vwCl[gw_kd S a]? = some q → t_OB (x.1 + a) (x.2.2.1.1 (gw_kd S a)) q.2.2 (x.2.2.1.2 (gw_kd S a)) H (gw_fld x S μ a (gw_kd S a)))
abbrev gw_A (x : gw_C) : Nat → Prop := fun q => x.1 < q
def gw_wf (S : gw_S) : Prop := ∀ a, gw_kd S a < 15 → 1 ≤ a ∧ a ≤ gw_nn S
def gw_rep (x : gw_C) (S : gw_S) (μ : gw_M) (H : Heap) (locs : List Loc) : Prop :=
  gw_wf S ∧ (∀ a, 1 ≤ a → a ≤ gw_nn S → gw_cell x S μ a H) ∧ H.size = x.1 + 1 + gw_nn S ∧ x.2.1.size = x.1 + 1 ∧ (∀ q : Nat, q < x.1 + 1 → H[q]? = x.2.1[q]?) ∧ ∀ q ∈ locs, x.1 < q.base
abbrev gw_tys (x : gw_C) : List (ClassId × FieldType) := [(x.2.2.2.1, .int), (x.2.2.2.2.1, .object RX1), (x.2.2.2.2.2.1, .object RX3)]
def gw_isn : Cond → Bool
  | .methodLinkNest _ _ _ _ => true
  | _ => false
def gw_nest : List Cond := lw_tbl.filter gw_isn
def gw_kk (x : gw_C) (U : State) : Prop := va_K x.2.2.1 vwCl (gw_tys x) U ∧ va_X x.2.2.2.2.2.2.1 x.2.2.2.2.2.2.2.1 x.2.2.2.2.2.2.2.2 U x.2.1 ∧ x.2.2.2.2.2.2.1 < x.2.1.size ∧ ∀ w ∈ gw_nest, va_Nw w U
def gw_wd (x : gw_C) (S : gw_S) (μ : gw_M) (U : State) : Prop := gw_rep x S μ U.heap [] ∧ gw_kk x U
def gw_has (x : gw_C) (ls : Array Slot) (nL : Nat) (lv : List Value) : Prop :=
  ls.size = nL ∧ lv_wf ls ∧ lv.length = nL ∧ (∀ i, (gw_nth lv i).category = 1) ∧ ∀ i, gw_nth lv i ≠ .retAddr 0 → ls[i]? = some (.val (gw_v x (gw_nth lv i)))
def gw_rm (d mc ms : Nat) : Room := { frames := d, cells := mc, slots := ms, locals := 40 * d }
def gw_wsg (g : gw_Sig) : List Cond := Cond.code g.1 g.2.1 g.2.2.1 g.2.2.2 :: gw_tb
def gw_qc (x : gw_C) (Q : Option Value → gw_S → gw_M → Prop) : Array Value → State → Outcome → State → Prop := fun _ _ oc t => ∃ (r : Option Value) (S : gw_S) (μ : gw_M), oc = .returned (r.map (gw_v x)) ∧ Q r S μ ∧ gw_wd x S μ t
/-- the contract of a method, in the pure machine's words -/
def gw_ok (l : Launch) (x : gw_C) (d : Nat) (g : gw_Sig) (mc ms : Nat) (as : List Value) (S : gw_S) (μ : gw_M) (Q : Option Value → gw_S → gw_M → Prop) : Prop :=
  Cond.code g.1 g.2.1 g.2.2.1 g.2.2.2 ∈ gw_tb ∧ Met l g.1 (gw_wsg g) (gw_rm d mc ms) (va_Pc (as.map (gw_v x)) (gw_wd x S μ)) (gw_qc x Q) mc ms (gw_A x)
/-! ===== one instruction ===== -/
abbrev gw_Kt : Type := List Value → List Value → gw_S → gw_M → Nat → Nat → Prop
abbrev gw_Ok : Type := gw_Sig → Nat → Nat → List Value → gw_S → gw_M → (Option Value → gw_S → gw_M → Prop) → Prop
def gw_rfk (v : Value) (f : Value → Prop) : Prop := match v with
  | .ref r => f (.ref r)
  | .retAddr 1 => f (.retAddr 1)
  | _ => False
def gw_ink (v : Value) (f : Int32 → Prop) : Prop := match v with
  | .int r => f r
  | _ => False
def gw_c1 (c : ClassFile.Cond) (a : Int32) : Prop := match c with
  | .eq => a = 0
  | .ne => ¬ a = 0
  | .lt => a < 0
  | .ge => 0 ≤ a
  | .gt => 0 < a
  | .le => a ≤ 0
def gw_c2 (c : ClassFile.Cond) (a b : Int32) : Prop := match c with
  | .eq => a = b
  | .ne => ¬ a = b
  | .lt => a < b
  | .ge => b ≤ a
  | .gt => b < a
  | .le => a ≤ b
def gw_in (i : Int32) (n : Nat) : Prop := 0 ≤ i ∧ i.toNatClampNeg < n
def gw_r8 : List Value → Nat → Bool
  | [], _ => true
  | .int _ :: l, n + 1 => gw_r8 l n
  | .ref _ :: l, n + 1 => gw_r8 l n
  | .retAddr _ :: l, n + 1 => gw_r8 l n
  | _, _ => false
def gw_sw (K : Nat → Prop) (dflt : Nat) : List Nat → Int32 → Int32 → Prop
  | [], _, _ => K dflt
  | t :: ts, lo, v => (v = lo → K t) ∧ (¬ v = lo → gw_sw K dflt ts (lo + 1) v)
def gw_cpy (μ : gw_M) (a b : Nat) (sp dp n : Nat) : gw_M := gw_row μ b (va_cpy (μ a) (μ b) sp dp n)
def gw_step (ok : gw_Ok) (x : gw_C) (mc ms : Nat) (Q : Option Value → gw_S → gw_M → Prop) (K : Nat → gw_Kt) (i : Instr) (an : List Nat) (iv : List Int32) (sg : List gw_Sig) (ls st : List Value) (S : gw_S) (μ : gw_M) (cc ss : Nat) (N : gw_Kt) : Prop :=
  match i with
  | .aload_n _ => match an with
    | [k] => gw_rfk (gw_nth ls k) (fun v => N ls (v :: st) S μ cc ss)
    | _ => False
  | .aload _ => match an with
    | [k] => gw_rfk (gw_nth ls k) (fun v => N ls (v :: st) S μ cc ss)
    | _ => False
  | .iload_n _ => match an with
    | [k] => gw_ink (gw_nth ls k) (fun v => N ls (.int v :: st) S μ cc ss)
    | _ => False
  | .iload _ => match an with
    | [k] => gw_ink (gw_nth ls k) (fun v => N ls (.int v :: st) S μ cc ss)
    | _ => False
  | .astore_n _ => match an, st with
    | [k], .ref r :: t => N (gw_set ls k (.ref r)) t S μ cc ss
    | _, _ => False
  | .astore _ => match an, st with
    | [k], .ref r :: t => N (gw_set ls k (.ref r)) t S μ cc ss
    | _, _ => False
  | .istore_n _ => match an, st with
    | [k], .int r :: t => N (gw_set ls k (.int r)) t S μ cc ss
    | _, _ => False
  | .istore _ => match an, st with
    | [k], .int r :: t => N (gw_set ls k (.int r)) t S μ cc ss
    | _, _ => False
  | .iinc _ _ => match an, iv with
    | [k], [w] => gw_ink (gw_nth ls k) (fun v => N (gw_set ls k (.int (v + w))) st S μ cc ss)
    | _, _ => False
  | .iconst _ => match iv with
    | [w] => N ls (.int w :: st) S μ cc ss
    | _ => False
  | .bipush _ => match iv with
    | [w] => N ls (.int w :: st) S μ cc ss
    | _ => False
  | .sipush _ => match iv with
    | [w] => N ls (.int w :: st) S μ cc ss
    | _ => False
  | .ldc _ => match iv with
    | [w] => N ls (.int w :: st) S μ cc ss
    | _ => False
  | .ldc_w _ => match iv with
    | [w] => N ls (.int w :: st) S μ cc ss
    | _ => False
  | .iadd => match st with
    | .int b :: .int a :: t => N ls (.int (a + b) :: t) S μ cc ss
    | _ => False
  | .isub => match st with
    | .int b :: .int a :: t => N ls (.int (a - b) :: t) S μ cc ss
    | _ => False
  | .imul => match st with
    | .int b :: .int a :: t => N ls (.int (a * b) :: t) S μ cc ss
    | _ => False
  | .idiv => match st with
    | .int b :: .int a :: t => ¬ b = 0 ∧ N ls (.int (a / b) :: t) S μ cc ss
    | _ => False
  | .irem => match st with
    | .int b :: .int a :: t => ¬ b = 0 ∧ N ls (.int (a - a / b * b) :: t) S μ cc ss
    | _ => False
  | .iand => match st with
    | .int b :: .int a :: t => N ls (.int (a &&& b) :: t) S μ cc ss
    | _ => False
  | .ior => match st with
    | .int b :: .int a :: t => N ls (.int (a ||| b) :: t) S μ cc ss
    | _ => False
  | .ixor => match st with
    | .int b :: .int a :: t => N ls (.int (a ^^^ b) :: t) S μ cc ss
    | _ => False
  | .ishl => match st with
    | .int b :: .int a :: t => N ls (.int (a <<< (b &&& 31)) :: t) S μ cc ss
    | _ => False
  | .ishr => match st with
    | .int b :: .int a :: t => N ls (.int (a >>> (b &&& 31)) :: t) S μ cc ss
    | _ => False
  | .iushr => match st with
    | .int b :: .int a :: t => N ls (.int (a.toUInt32 >>> (b.toUInt32 &&& Int32.toUInt32 31)).toInt32 :: t) S μ cc ss
    | _ => False
  | .dup => match st with
    | .int a :: t => N ls (.int a :: .int a :: t) S μ cc ss
    | .ref a :: t => N ls (.ref a :: .ref a :: t) S μ cc ss
    | _ => False
  | .dup2 => match st with
    | .int b :: .ref a :: t => N ls (.int b :: .ref a :: .int b :: .ref a :: t) S μ cc ss
    | _ => False
  | .pop => match st with
    | .int _ :: t => N ls t S μ cc ss
    | .ref _ :: t => N ls t S μ cc ss
    | _ => False
  | .lcmp => match st with
    | .long b :: .long a :: t => N ls (.int (lg_cmp a b) :: t) S μ cc ss
    | _ => False
  | .ifCond c _ => match an, st with
    | [k], .int a :: t => (gw_c1 c a → K k ls t S μ cc ss) ∧ (¬ gw_c1 c a → N ls t S μ cc ss)
    | _, _ => False
  | .if_icmp c _ => match an, st with
    | [k], .int b :: .int a :: t => (gw_c2 c a b → K k ls t S μ cc ss) ∧ (¬ gw_c2 c a b → N ls t S μ cc ss)
    | _, _ => False
  | .ifnull _ => match an, st with
    | [k], .ref a :: t => (a = 0 → K k ls t S μ cc ss) ∧ (¬ a = 0 → N ls t S μ cc ss)
    | _, _ => False
  | .ifnonnull _ => match an, st with
    | [k], .ref a :: t => (¬ a = 0 → K k ls t S μ cc ss) ∧ (a = 0 → N ls t S μ cc ss)
    | _, _ => False
  | .goto _ => match an with
    | [k] => K k ls st S μ cc ss
    | _ => False
  | .tableswitch _ _ _ _ => match an, iv, st with
    | d :: ts, [lo], .int a :: t => gw_sw (fun k => K k ls t S μ cc ss) d ts lo a
    | _, _, _ => False
  | .getfield _ => match an, st with
    | [ci, k, 1, _], .ref a :: t => gw_kd S a = ci ∧ N ls (.ref (gw_rf S a k) :: t) S μ cc ss
    | [ci, k, _, _], .ref a :: t => gw_kd S a = ci ∧ N ls (.int (μ a k) :: t) S μ cc ss
    | _, _ => False
  | .putfield _ => match an, st with
    | [ci, k, 1, _], .ref r :: .ref a :: t => gw_kd S a = ci ∧ ¬ r = 0 ∧ N ls t (gw_sr S a k r) μ cc ss
    | [ci, k, 2, _], .int v :: .ref a :: t => gw_kd S a = ci ∧ (v = 0 ∨ v = 1) ∧ N ls t S (gw_up μ a k v) cc ss
    | [ci, k, 0, _], .int v :: .ref a :: t => gw_kd S a = ci ∧ N ls t S (gw_up μ a k v) cc ss
    | _, _ => False
  | .iaload => match st with
    | .int j :: .ref a :: t => gw_kd S a = 12 ∧ gw_in j (gw_ln S a) ∧ N ls (.int (μ a j.toNatClampNeg) :: t) S μ cc ss
    | .int j :: .retAddr 1 :: t => gw_in j x.2.2.2.2.2.2.2.1 ∧ N ls (.int (x.2.2.2.2.2.2.2.2 j.toNatClampNeg) :: t) S μ cc ss
    | _ => False
  | .iastore => match st with
    | .int v :: .int j :: .ref a :: t => gw_kd S a = 12 ∧ gw_in j (gw_ln S a) ∧ N ls t S (gw_up μ a j.toNatClampNeg v) cc ss
    | _ => False
  | .aaload => match st with
    | .int j :: .ref a :: t => (gw_kd S a = 13 ∨ gw_kd S a = 14) ∧ gw_in j (gw_ln S a) ∧ N ls (.ref (gw_rf S a j.toNatClampNeg) :: t) S μ cc ss
    | _ => False
  | .aastore => match st with
    | .ref r :: .int j :: .ref a :: t => ((gw_kd S a = 13 ∧ gw_kd S r = 1) ∨ (gw_kd S a = 14 ∧ gw_kd S r = 3)) ∧ gw_in j (gw_ln S a) ∧ N ls t (gw_sr S a j.toNatClampNeg r) μ cc ss
    | _ => False
  | .arraylength => match st with
    | .ref a :: t => (gw_kd S a = 12 ∨ gw_kd S a = 13 ∨ gw_kd S a = 14) ∧ N ls (.int (Int32.ofNat (gw_ln S a)) :: t) S μ cc ss
    | .retAddr 1 :: t => N ls (.int (Int32.ofNat x.2.2.2.2.2.2.2.1) :: t) S μ cc ss
    | _ => False
  | .newarray _ => match st with
    | .int n :: t => gw_in n 100000 ∧ cc + 1 ≤ mc ∧ ss + n.toNatClampNeg ≤ ms ∧ N ls (.ref (gw_nn S + 1) :: t) (gw_new S 12 n.toNatClampNeg) (gw_row μ (gw_nn S + 1) (fun _ => 0)) (cc + 1) (ss + n.toNatClampNeg)
    | _ => False
  | .anewarray _ => match an, st with
    | kd :: _, .int n :: t => gw_in n 100000 ∧ cc + 1 ≤ mc ∧ ss + n.toNatClampNeg ≤ ms ∧ N ls (.ref (gw_nn S + 1) :: t) (gw_new S kd n.toNatClampNeg) (gw_row μ (gw_nn S + 1) (fun _ => 0)) (cc + 1) (ss + n.toNatClampNeg)
    | _, _ => False
  | .new _ => match an with
    | ci :: _ => cc + 1 ≤ mc ∧ ss + gw_nf ci ≤ ms ∧ N ls (.ref (gw_nn S + 1) :: st) (gw_new S ci 0) (gw_row μ (gw_nn S + 1) (fun _ => 0)) (cc + 1) (ss + gw_nf ci)
    | _ => False
  | .invokevirtual _ => match an, sg with
    | n :: ci :: _, [g] => gw_rfk (gw_nth st n) (fun v => match v with
        | .ref a => gw_kd S a = ci ∧ gw_r8 (st.drop (n + 1)) 8 = true ∧ ∃ mc' ms', cc + mc' ≤ mc ∧ ss + ms' ≤ ms ∧ ok g mc' ms' (.ref a :: (st.take n).reverse) S μ (fun r S' μ' => N ls (r.toList ++ st.drop (n + 1)) S' μ' (cc + mc') (ss + ms'))
        | _ => False)
    | _, _ => False
  | .invokestatic _ => match an, sg with
    | [n, 0, _, _, _, _], [g] => gw_r8 (st.drop n) 8 = true ∧ n ≤ st.length ∧ ∃ mc' ms', cc + mc' ≤ mc ∧ ss + ms' ≤ ms ∧ ok g mc' ms' (st.take n).reverse S μ (fun r S' μ' => N ls (r.toList ++ st.drop n) S' μ' (cc + mc') (ss + ms'))
    | [n, 1, _, _, _, _], [g] => gw_r8 (st.drop n) 8 = true ∧ n ≤ st.length ∧ ∃ mc' ms', cc + mc' ≤ mc ∧ ss + ms' ≤ ms ∧ ok g mc' ms' (st.take n).reverse S μ (fun r S' μ' => N ls (r.toList ++ st.drop n) S' μ' (cc + mc') (ss + ms'))
    | [5, 2, _, _, _, _], [] => match st with
      | [.int n, .int dp, .ref b, .int sp, .ref a] => gw_kd S a = 12 ∧ gw_kd S b = 12 ∧ 0 ≤ sp ∧ 0 ≤ dp ∧ 0 ≤ n ∧ sp.toNatClampNeg + n.toNatClampNeg ≤ gw_ln S a ∧ dp.toNatClampNeg + n.toNatClampNeg ≤ gw_ln S b ∧ N ls [] S (gw_cpy μ a b sp.toNatClampNeg dp.toNatClampNeg n.toNatClampNeg) cc ss
      | _ => False
    | _, _ => False
  | .invokespecial _ => match an, sg with
    | [0, 2, _, _, _, _], [] => match st with
      | [.ref a] => ¬ a = 0 ∧ N ls [] S μ cc ss
      | _ => False
    | n :: _ :: _, [g] => gw_rfk (gw_nth st n) (fun v => match v with
        | .ref a => ¬ a = 0 ∧ gw_r8 (st.drop (n + 1)) 8 = true ∧ ∃ mc' ms', cc + mc' ≤ mc ∧ ss + ms' ≤ ms ∧ ok g mc' ms' (.ref a :: (st.take n).reverse) S μ (fun r S' μ' => N ls (r.toList ++ st.drop (n + 1)) S' μ' (cc + mc') (ss + ms'))
        | _ => False)
    | _, _ => False
  | .ireturn => match an, st with
    | [0], [.int v] => cc ≤ mc ∧ ss ≤ ms ∧ Q (some (.int v)) S μ
    | [1], [.int v] => (v = 0 ∨ v = 1) ∧ cc ≤ mc ∧ ss ≤ ms ∧ Q (some (.int v)) S μ
    | _, _ => False
  | .lreturn => match st with
    | [.long v] => cc ≤ mc ∧ ss ≤ ms ∧ Q (some (.long v)) S μ
    | _ => False
  | .areturn => match st with
    | [.ref v] => cc ≤ mc ∧ ss ≤ ms ∧ Q (some (.ref v)) S μ
    | _ => False
  | .return_ => match st with
    | [] => cc ≤ mc ∧ ss ≤ ms ∧ Q none S μ
    | _ => False
  | _ => False
def gw_blk (ok : gw_Ok) (x : gw_C) (mc ms : Nat) (Q : Option Value → gw_S → gw_M → Prop) (K : Nat → gw_Kt) : List gw_E → Nat → gw_Kt
  | [], pc, ls, st, S, μ, cc, ss => K pc ls st S μ cc ss
  | e :: es, _, ls, st, S, μ, cc, ss => gw_step ok x mc ms Q K e.2.2.1 e.2.2.2.1 e.2.2.2.2.1 e.2.2.2.2.2 ls st S μ cc ss (gw_blk ok x mc ms Q K es (e.1 + e.2.1))
def gw_find : List (Nat × List gw_E) → Nat → List gw_E
  | [], _ => []
  | b :: bs, pc => if b.1 = pc then b.2 else gw_find bs pc
/-! ===== what the tables must say of an instruction ===== -/
def gw_is (i : Nat) (c : Cond) : Bool := decide (lw_tbl[i]? = some c) && goodWord c
def gw_in1 (i : Nat) (c : Cond) : Bool := decide (lw_tbl[i]? = some c) && gw_isn c
def gw_call (g : gw_Sig) (n : Nat) : Bool := decide (g.1.cls ≠ "java/lang/invoke/MethodHandle") && decide (g.1.cls ≠ "java/lang/invoke/VarHandle") && decide ((parseMethodDescriptor g.1.desc).map (fun d => d.parameters.length) = some n) && decide (g.2.2.1 ≤ 20)
def gw_lk (own : String) (nL : Nat) (rt : Option FieldType) (pc : Nat) (i : Instr) (an : List Nat) (iv : List Int32) (sg : List gw_Sig) : Bool := match i with
  | .aload_n k => decide (an = [k.val])
  | .aload k => decide (an = [k])
  | .iload_n k => decide (an = [k.val])
  | .iload k => decide (an = [k])
  | .astore_n k => decide (an = [k.val]) && decide (k.val < nL)
  | .astore k => decide (an = [k]) && decide (k < nL)
  | .istore_n k => decide (an = [k.val]) && decide (k.val < nL)
  | .istore k => decide (an = [k]) && decide (k < nL)
  | .iinc k n => decide (an = [k]) && decide (k < nL) && decide (iv = [Int32.ofInt n])
  | .iconst n => decide (iv = [Int32.ofInt n])
  | .bipush n => decide (iv = [(Int8.ofInt n).toInt32])
  | .sipush n => decide (iv = [(Int16.ofInt n).toInt32])
  | .ldc k => match an, iv with
    | [ti], [w] => gw_is ti (.constant own k w)
    | _, _ => false
  | .ldc_w k => match an, iv with
    | [ti], [w] => gw_is ti (.constant own k w)
    | _, _ => false
  | .ifCond _ off => match an with
    | [t] => decide ((pc : Int) + off = (t : Int))
    | _ => false
  | .if_icmp _ off => match an with
    | [t] => decide ((pc : Int) + off = (t : Int))
    | _ => false
  | .ifnull off => match an with
    | [t] => decide ((pc : Int) + off = (t : Int))
    | _ => false
  | .ifnonnull off => match an with
    | [t] => decide ((pc : Int) + off = (t : Int))
    | _ => false
  | .goto off => match an with
    | [t] => decide ((pc : Int) + off = (t : Int))
    | _ => false
  | .tableswitch dflt lo hi offs => match an, iv with
    | d :: ts, [w] => decide ((pc : Int) + dflt = (d : Int)) && decide (w.toInt = lo) && decide (offs.toList.map (fun o => (pc : Int) + o) = ts.map (fun t : Nat => (t : Int))) && decide (hi = lo + ts.length - 1) && decide (lo + ts.length < 1000) && decide (-1000 < lo)
    | _, _ => false
  | .getfield k => match an with
    | [ci, f, t, ti] => match vwCl[ci]? with
      | some q => decide (f < q.2.2) && decide (t = gw_ft (gw_ty ci f)) && gw_is ti (.fieldLink own k (q.2.1 f).1 (q.2.1 f).2.1 (q.2.1 f).2.2.1)
      | none => false
    | _ => false
  | .putfield k => match an with
    | [ci, f, t, ti] => match vwCl[ci]? with
      | some q => decide (f < q.2.2) && decide (t = gw_ft (gw_ty ci f)) && decide ((q.2.1 f).2.2.2 = decide (t = 1)) && decide (t = 1 → (q.2.1 f).1 = own) && gw_is ti (.fieldLink own k (q.2.1 f).1 (q.2.1 f).2.1 (q.2.1 f).2.2.1)
      | none => false
    | _ => false
  | .newarray ty => decide (ty = .int)
  | .anewarray k => match an with
    | [kd, t1, t2] => (decide (kd = 13) && gw_is t1 (.classLink own k RX1) && gw_is t2 (.arrayOver (.object RX1))) || (decide (kd = 14) && gw_is t1 (.classLink own k RX3) && gw_is t2 (.arrayOver (.object RX3)))
    | _ => false
  | .new k => match an with
    | [ci, t1, t2, t3] => match vwCl[ci]? with
      | some q => gw_is t1 (.classLink own k q.1) && gw_is t2 (.instantiable q.1 q.2.2) && gw_is t3 (.initialized q.1)
      | none => false
    | _ => false
  | .invokevirtual k => match an, sg with
    | [n, ci, t1, t2, t3, t4], [g] => match vwCl[ci]? with
      | some q => decide (g.1.cls = q.1) && gw_call g n && gw_is t1 (.methodLink own k g.1) && gw_is t2 (.instanceMethod g.1) && gw_is t3 (.selects q.1 g.1 g.1) && gw_is t4 (.initialized q.1)
      | none => false
    | _, _ => false
  | .invokestatic k => match an, sg with
    | [n, 0, t1, t2, t3, _], [g] => gw_call g n && gw_is t1 (.methodLink own k g.1) && gw_is t2 (.static g.1) && gw_is t3 (.initialized g.1.cls)
    | [n, 1, t1, t2, t3, _], [g] => gw_call g n && gw_in1 t1 (.methodLinkNest own k g.1 RX10) && gw_is t2 (.static g.1) && gw_is t3 (.initialized g.1.cls)
    | [5, 2, t1, t2, t3, t4], [] => gw_is t1 (.methodLink own k arraycopyName) && gw_is t2 (.native arraycopyName) && gw_is t3 (.static arraycopyName) && gw_is t4 (.initialized "java/lang/System")
    | _, _ => false
  | .invokespecial k => match an, sg with
    | [0, 2, t1, t2, t3, _], [] => gw_is t1 (.methodLink own k objectInit) && gw_is t2 (.instanceMethod objectInit) && gw_is t3 (.code objectInit ⟨#[0xb1]⟩ 1 none)
    | [n, 0, t1, t2, t3, _], [g] => gw_call g n && decide (g.1.name = "<init>") && decide (g.2.2.2 = none) && gw_is t1 (.methodLink own k g.1) && gw_is t2 (.instanceMethod g.1) && gw_is t3 (.initialized g.1.cls)
    | [n, 1, t1, t2, t3, _], [g] => gw_call g n && decide (g.1.name = "<init>") && decide (g.2.2.2 = none) && gw_in1 t1 (.methodLinkNest own k g.1 RX10) && gw_is t2 (.instanceMethod g.1) && gw_is t3 (.initialized g.1.cls)
    | _, _ => false
  | .ireturn => decide ((an = [0] ∧ rt = some .int) ∨ (an = [1] ∧ rt = some .boolean))
  | .lreturn => decide (rt = some .long)
  | .areturn => match rt with
    | some (.object _) => true
    | _ => false
  | .return_ => decide (rt = none)
  | _ => true
def gw_ini (nm : String) (i : Instr) (an : List Nat) : Bool := match i with
  | .putfield _ => decide (an.getD 2 0 = 1 → nm = "<init>")
  | _ => true
/-! ===== the pure machine is the machine ===== -/
theorem gw_cls {ci : Nat} {q : vw_C} (h : vwCl[ci]? = some q) : (∀ w ∈ u_ws q.1 q.2.1 q.2.2, w ∈ gw_tb) ∧ (∀ k, k < q.2.2 → parseFieldDescriptor (q.2.1 k).2.2.1 = some (gw_ty ci k)) ∧ (∀ a, a < q.2.2 → ∀ b, b < q.2.2 → a ≠ b → (q.2.1 a).2.1 ≠ (q.2.1 b).2.1) ∧ q.2.2 = gw_nf ci ∧ ci < 12 := by
  match ci, h with
  | 0, h => cases h; exact ⟨inX0, tyX0_ok, nmX0, rfl, by decide⟩
  | 1, h => cases h; exact ⟨inX1, tyX1_ok, nmX1, rfl, by decide⟩
  | 2, h => cases h; exact ⟨inX2, tyX2_ok, nmX2, rfl, by decide⟩
  | 3, h => cases h; exact ⟨inX3, tyX3_ok, nmX3, rfl, by decide⟩
  | 4, h => cases h; exact ⟨inX4, tyX4_ok, nmX4, rfl, by decide⟩
  | 5, h => cases h; exact ⟨inX5, tyX5_ok, nmX5, rfl, by decide⟩
  | 6, h => cases h; exact ⟨inX6, tyX6_ok, nmX6, rfl, by decide⟩
  | 7, h => cases h; exact ⟨inX7, tyX7_ok, nmX7, rfl, by decide⟩
  | 8, h => cases h; exact ⟨inX8, tyX8_ok, nmX8, rfl, by decide⟩
  | 9, h => cases h; exact ⟨inX9, tyX9_ok, nmX9, rfl, by decide⟩
  | 10, h => cases h; exact ⟨inX10, tyX10_ok, nmX10, rfl, by decide⟩
  | 11, h => cases h; exact ⟨inX11, tyX11_ok, nmX11, rfl, by decide⟩
  | n + 12, h => simp [vwCl] at h
theorem gw_cls_some {ci : Nat} (h : ci < 12) : ∃ q, vwCl[ci]? = some q := by
  have : ci < vwCl.length := h
  exact ⟨vwCl[ci], List.getElem?_eq_getElem this⟩
theorem gw_is_spec {i : Nat} {c : Cond} (h : gw_is i c = true) : c ∈ gw_tb := by
  simp only [gw_is, Bool.and_eq_true, decide_eq_true_eq] at h
  exact gw_mem h.1 h.2
theorem gw_v_ref (x : gw_C) {r : Nat} (h : ¬ r = 0) : gw_v x (.ref r) = .ref (x.1 + r) := by
  cases r with
  | zero => exact absurd rfl h
  | succ r => rfl
theorem gw_v_int (x : gw_C) (v : Int32) : gw_v x (.int v) = .int v := rfl
theorem gw_v_cat (x : gw_C) {v : Value} (h : v.category = 1) : (gw_v x v).category = 1 := by
  cases v with
  | ref r => cases r <;> rfl
  | long v => cases h
  | double v => cases h
  | _ => rfl
theorem gw_in_vp {i : Int32} {n : Nat} (h : gw_in i n) : vp_in i n := by
  rintro (h1 | h1)
  · exact absurd h.1 (Int32.not_le.mpr h1)
  · exact absurd h.2 (Nat.not_lt.mpr h1)
theorem gw_len_set : ∀ (l : List Value) (k : Nat) (v : Value), (gw_set l k v).length = l.length
  | [], _, _ => rfl
  | _ :: _, 0, _ => rfl
  | _ :: l, n + 1, v => by simp [gw_set, gw_len_set l n v]
theorem gw_nth_set : ∀ (l : List Value) (k : Nat) (v : Value) (j : Nat), k < l.length → gw_nth (gw_set l k v) j = if j = k then v else gw_nth l j
  | [], _, _, _, h => by simp at h
  | _ :: l, 0, v, 0, _ => by simp [gw_set, gw_nth]
  | _ :: l, 0, v, j + 1, _ => by simp [gw_set, gw_nth]
  | _ :: l, n + 1, v, 0, _ => by simp [gw_set, gw_nth]
  | _ :: l, n + 1, v, j + 1, h => by
    have := gw_nth_set l n v j (by simpa using h)
    simp [gw_set, gw_nth, this]
theorem gw_kd_ok {x : gw_C} {S : gw_S} {μ : gw_M} {H : Heap} {locs : List Loc} (h : gw_rep x S μ H locs) {a k : Nat} (hk : gw_kd S a = k) (hl : k < 15) : 1 ≤ a ∧ a ≤ gw_nn S ∧ gw_cell x S μ a H ∧ gw_v x (.ref a) = .ref (x.1 + a) := by
  have h1 := h.1 a (by omega)
  exact ⟨h1.1, h1.2, h.2.1 a h1.1 h1.2, gw_v_ref x (by omega)⟩
theorem gw_cell_kept {x : gw_C} {S S' : gw_S} {μ μ' : gw_M} {b : Nat} {H H1 : Heap} (h : gw_cell x S μ b H) (hq : H1[x.1 + b]? = H[x.1 + b]?) (hk : gw_kd S' b = gw_kd S b) (hl : gw_ln S' b = gw_ln S b) (hr : ∀ j, gw_rf S' b j = gw_rf S b j) (hm : ∀ j, μ' b j = μ b j) : gw_cell x S' μ' b H1 := by
  have e1 : gw_fld x S' μ' b = gw_fld x S μ b := by
    funext c k
    simp only [gw_fld, hr, hm]
  unfold gw_cell at *
  simp only [hk, hl, hr, hm, hq, e1]
  exact ⟨h.1, h.2.1, h.2.2.1, fun q hv => (h.2.2.2 q hv).kept hq⟩
/-- one cell was written -/
theorem gw_rep_store {x : gw_C} {S S' : gw_S} {μ μ' : gw_M} {a : Nat} {H H1 : Heap} {locs locs1 : List Loc} (h : gw_rep x S μ H locs) (z : H1.size = H.size) (oq : ∀ q : Nat, q ≠ x.1 + a → H1[q]? = H[q]?) (ha : 1 ≤ a)
    (hn : S'.2 = S.2) (hr : ∀ b, b ≠ a → ∀ j, gw_rf S' b j = gw_rf S b j) (hm : ∀ b, b ≠ a → ∀ j, μ' b j = μ b j) (hc : gw_cell x S' μ' a H1) (hl : ∀ q ∈ locs1, q ∈ locs ∨ q.base = x.1 + a) : gw_rep x S' μ' H1 locs1 := by
  obtain ⟨h1, h2, h3, h4, h5, h6⟩ := h
  have e1 : ∀ b, gw_kd S' b = gw_kd S b := fun b => by simp only [gw_kd, hn]
  have e2 : ∀ b, gw_ln S' b = gw_ln S b := fun b => by simp only [gw_ln, hn]
  have e3 : gw_nn S' = gw_nn S := by simp only [gw_nn, hn]
  refine ⟨fun b hb => ?_, fun b hb1 hb2 => ?_, by rw [z, h3, e3], h4, fun q hq => by rw [oq q (by omega)]; exact h5 q hq, fun q hq => ?_⟩
  · rw [e3]; exact h1 b (by rw [← e1]; exact hb)
  · by_cases hba : b = a
    · subst hba; exact hc
    · exact gw_cell_kept (h2 b hb1 (by rw [← e3]; exact hb2)) (oq _ (by omega)) (e1 b) (e2 b) (hr b hba) (hm b hba)
  · rcases hl q hq with h | h
    · exact h6 q h
    · rw [h]; omega
/-- one cell came -/
theorem gw_rep_new {x : gw_C} {S : gw_S} {μ : gw_M} {kd ln : Nat} {H H1 : Heap} {locs : List Loc} (h : gw_rep x S μ H locs) (z : H1.size = H.size + 1) (oq : ∀ q : Nat, q < H.size → H1[q]? = H[q]?)
    (hc : gw_cell x (gw_new S kd ln) (gw_row μ (gw_nn S + 1) (fun _ => 0)) (gw_nn S + 1) H1) : gw_rep x (gw_new S kd ln) (gw_row μ (gw_nn S + 1) (fun _ => 0)) H1 locs := by
  obtain ⟨h1, h2, h3, h4, h5, h6⟩ := h
  have e3 : gw_nn (gw_new S kd ln) = gw_nn S + 1 := rfl
  refine ⟨fun b hb => ?_, fun b hb1 hb2 => ?_, by rw [z, h3, e3]; omega, h4, fun q hq => by rw [oq q (by omega)]; exact h5 q hq, h6⟩
  · rw [e3]
    by_cases hb1 : b = gw_nn S + 1
    · omega
    · have : gw_kd S b < 15 := by
        have e : gw_kd (gw_new S kd ln) b = gw_kd S b := by simp only [gw_kd, gw_new]; exact if_neg hb1
        rw [← e]; exact hb
      have := h1 b this
      omega
  · by_cases hba : b = gw_nn S + 1
    · subst hba; exact hc
    · rw [e3] at hb2
      refine gw_cell_kept (h2 b hb1 (by omega)) (oq _ (by omega)) ?_ ?_ (fun j => ?_) (fun j => ?_)
      · simp only [gw_kd, gw_new]; exact if_neg hba
      · simp only [gw_ln, gw_new]; exact if_neg hba
      · simp only [gw_rf, gw_new]; exact if_neg hba
      · simp only [gw_row]; rw [if_neg hba]
theorem gw_kk_same {x : gw_C} {u U : State} (hvm : u.vm = U.vm) (h : gw_kk x u) : gw_kk x U := by
  obtain ⟨h1, ⟨scr, a1, a2, a3⟩, h3, h4⟩ := h
  have ha : u.vm.Alike U.vm := by rw [hvm]; exact Vm.Alike.refl U.vm
  refine ⟨va_K.moved ha h1, ⟨scr, a1, State.isArrayOf_alike ha a2, a3⟩, h3, fun w hw => va_Nw.same ?_ hvm (h4 w hw)⟩
  have := (List.mem_filter.mp hw).2
  cases w <;> first | rfl | (simp [gw_isn] at this)
theorem gw_kk_moved {x : gw_C} {u U : State} (hW : u.WarmedH U.vm) (h : gw_kk x u) : gw_kk x U := by
  obtain ⟨h1, ⟨scr, a1, a2, a3⟩, h3, h4⟩ := h
  refine ⟨va_K.moved hW.alike h1, ⟨scr, a1, State.isArrayOf_alike hW.alike a2, a3⟩, h3, fun w hw => ?_⟩
  have hm := h4 w hw
  have := (List.mem_filter.mp hw).2
  cases w with
  | methodLinkNest a b c d => exact va_Nw.warmM hW hm
  | _ => simp [gw_isn] at this
theorem gw_in1_spec {i : Nat} {c : Cond} (h : gw_in1 i c = true) : c ∈ gw_nest := by
  simp only [gw_in1, Bool.and_eq_true, decide_eq_true_eq] at h
  exact List.mem_filter.mpr ⟨List.mem_of_getElem? h.1, h.2⟩
/-- the locals that a row of the kit reads -/
def gw_lvl (x : gw_C) (lv : List Value) : List (Nat × Value) := (List.range lv.length).filterMap (fun i => if gw_nth lv i = .retAddr 0 then none else some (i, gw_v x (gw_nth lv i)))
theorem gw_nth_big : ∀ (l : List Value) (k : Nat), l.length ≤ k → gw_nth l k = .retAddr 0
  | [], _, _ => rfl
  | _ :: _, 0, h => by simp at h
  | _ :: l, k + 1, h => gw_nth_big l k (by simpa using h)
theorem gw_has_lv {x : gw_C} {ls : Array Slot} {nL : Nat} {lv : List Value} (h : gw_has x ls nL lv) : lv_has ls nL (gw_lvl x lv) := by
  obtain ⟨h1, h2, h3, h4, h5⟩ := h
  refine ⟨h1, h2, fun q hq => ?_⟩
  obtain ⟨i, hi, he⟩ := List.mem_filterMap.mp hq
  by_cases hn : gw_nth lv i = .retAddr 0
  · simp [hn] at he
  · simp only [hn, if_false, Option.some.injEq] at he
    rw [← he]
    exact h5 i hn
theorem gw_has_set {x : gw_C} {ls' : Array Slot} {nL : Nat} {lv : List Value} {k : Nat} {v : Value} {ls : Array Slot} (h : gw_has x ls nL lv) (hk : k < nL) (hv : v.category = 1)
    (h' : lv_has ls' nL ((k, gw_v x v) :: (gw_lvl x lv).filter (fun q => !(q.1 == k) && !(q.1 + 1 == k && q.2.category == 2)))) : gw_has x ls' nL (gw_set lv k v) := by
  obtain ⟨h1, h2, h3, h4, h5⟩ := h
  obtain ⟨g1, g2, g3⟩ := h'
  refine ⟨g1, g2, by rw [gw_len_set]; exact h3, fun i => ?_, fun i hi => ?_⟩
  · rw [gw_nth_set lv k v i (by omega)]
    by_cases hik : i = k
    · rw [if_pos hik]; exact hv
    · rw [if_neg hik]; exact h4 i
  · rw [gw_nth_set lv k v i (by omega)] at hi ⊢
    by_cases hik : i = k
    · rw [if_pos hik]
      subst hik
      exact g3 _ List.mem_cons_self
    · rw [if_neg hik] at hi ⊢
      refine g3 (i, gw_v x (gw_nth lv i)) (List.mem_cons_of_mem _ (List.mem_filter.mpr ⟨List.mem_filterMap.mpr ⟨i, List.mem_range.mpr ?_, by simp [hi]⟩, ?_⟩))
      · rcases Nat.lt_or_ge i lv.length with q | q
        · exact q
        · exact absurd (gw_nth_big lv i q) hi
      · have hc : (gw_v x (gw_nth lv i)).category = 1 := gw_v_cat x (h4 i)
        simp [hik, hc]
end
section
/-! ===== soundness, an instruction at a time ===== -/
def gw_len (n : Nat) : Instr → Nat
  | .aload _ => 2
  | .iload _ => 2
  | .astore _ => 2
  | .istore _ => 2
  | .bipush _ => 2
  | .ldc _ => 2
  | .newarray _ => 2
  | .sipush _ => 3
  | .ldc_w _ => 3
  | .iinc _ _ => 3
  | .ifCond _ _ => 3
  | .if_icmp _ _ => 3
  | .ifnull _ => 3
  | .ifnonnull _ => 3
  | .goto _ => 3
  | .getfield _ => 3
  | .putfield _ => 3
  | .anewarray _ => 3
  | .new _ => 3
  | .invokevirtual _ => 3
  | .invokestatic _ => 3
  | .invokespecial _ => 3
  | .tableswitch _ _ _ _ => n
  | _ => 1
def gw_at (p : Program) (l : Launch) (e : Env) (R : Room) (s : State) (m : MethodId) (args : Array Value) (below : List Frame) (meth : Method) (c : Code) (Z : State → Prop) (x : gw_C) (nL pc : Nat) : gw_Kt := fun lv st S μ cc ss =>
  ∀ (H : Heap) (locs : List Loc) (ls : Array Slot), gw_rep x S μ H locs → gw_has x ls nL lv → W p l e R s m args below meth c H locs cc ss Z (F0 m pc ls (st.map (gw_v x)))
abbrev gw_fx (p : Program) (s : State) (m : MethodId) (args : Array Value) (c : Code) (x : gw_C) (nL : Nat) (cb : ByteArray) (own : String) : Prop :=
  p.tables.exec = Jvm.exec ∧ c.code = cb ∧ c.maxLocals = nL ∧ s.vm.findClass own = some m.cls ∧ (∀ w ∈ gw_tb, w.before args s = true) ∧ gw_kk x s
section SND
variable {p : Program} {l : Launch} {e : Env} {R : Room} {s : State} {m : MethodId} {args : Array Value} {below : List Frame} {meth : Method} {c : Code} {Z : State → Prop} {x : gw_C} {nL : Nat} {cb : ByteArray} {own : String}
variable {ok : gw_Ok} {mc ms pc : Nat} {Q : Option Value → gw_S → gw_M → Prop} {K : Nat → gw_Kt} {an : List Nat} {iv : List Int32} {sg : List gw_Sig} {lv st : List Value} {S : gw_S} {μ : gw_M} {cc ss : Nat} {N : gw_Kt} {rt : Option FieldType}
theorem gw_s_iadd (F : gw_fx p s m args c x nL cb own) (hd : decode cb pc = .ok (.iadd, 1)) (hlk : gw_lk own nL rt pc (.iadd) an iv sg = true) (h : gw_step ok x mc ms Q K (.iadd) an iv sg lv st S μ cc ss N) (hN : ∀ lv st S μ cc ss, N lv st S μ cc ss → gw_at p l e R s m args below meth c Z x nL (pc + 1) lv st S μ cc ss) (hK : ∀ t lv st S μ cc ss, K t lv st S μ cc ss → gw_at p l e R s m args below meth c Z x nL t lv st S μ cc ss) : gw_at p l e R s m args below meth c Z x nL pc lv st S μ cc ss := by
  simp only [gw_step] at h
  split at h
  · rename_i b a t
    intro H locs ls hr hl
    exact lv_iadd F.1 F.2.1 hd (hN _ _ _ _ _ _ h H locs ls hr hl)
  · exact h.elim
theorem gw_s_isub (F : gw_fx p s m args c x nL cb own) (hd : decode cb pc = .ok (.isub, 1)) (hlk : gw_lk own nL rt pc (.isub) an iv sg = true) (h : gw_step ok x mc ms Q K (.isub) an iv sg lv st S μ cc ss N) (hN : ∀ lv st S μ cc ss, N lv st S μ cc ss → gw_at p l e R s m args below meth c Z x nL (pc + 1) lv st S μ cc ss) (hK : ∀ t lv st S μ cc ss, K t lv st S μ cc ss → gw_at p l e R s m args below meth c Z x nL t lv st S μ cc ss) : gw_at p l e R s m args below meth c Z x nL pc lv st S μ cc ss := by
  simp only [gw_step] at h
  split at h
  · rename_i b a t
    intro H locs ls hr hl
    exact lv_isub F.1 F.2.1 hd (hN _ _ _ _ _ _ h H locs ls hr hl)
  · exact h.elim
theorem gw_s_imul (F : gw_fx p s m args c x nL cb own) (hd : decode cb pc = .ok (.imul, 1)) (hlk : gw_lk own nL rt pc (.imul) an iv sg = true) (h : gw_step ok x mc ms Q K (.imul) an iv sg lv st S μ cc ss N) (hN : ∀ lv st S μ cc ss, N lv st S μ cc ss → gw_at p l e R s m args below meth c Z x nL (pc + 1) lv st S μ cc ss) (hK : ∀ t lv st S μ cc ss, K t lv st S μ cc ss → gw_at p l e R s m args below meth c Z x nL t lv st S μ cc ss) : gw_at p l e R s m args below meth c Z x nL pc lv st S μ cc ss := by
  simp only [gw_step] at h
  split at h
  · rename_i b a t
    intro H locs ls hr hl
    exact lv_imul F.1 F.2.1 hd (hN _ _ _ _ _ _ h H locs ls hr hl)
  · exact h.elim
theorem gw_s_iand (F : gw_fx p s m args c x nL cb own) (hd : decode cb pc = .ok (.iand, 1)) (hlk : gw_lk own nL rt pc (.iand) an iv sg = true) (h : gw_step ok x mc ms Q K (.iand) an iv sg lv st S μ cc ss N) (hN : ∀ lv st S μ cc ss, N lv st S μ cc ss → gw_at p l e R s m args below meth c Z x nL (pc + 1) lv st S μ cc ss) (hK : ∀ t lv st S μ cc ss, K t lv st S μ cc ss → gw_at p l e R s m args below meth c Z x nL t lv st S μ cc ss) : gw_at p l e R s m args below meth c Z x nL pc lv st S μ cc ss := by
  simp only [gw_step] at h
  split at h
  · rename_i b a t
    intro H locs ls hr hl
    exact lv_iand F.1 F.2.1 hd (hN _ _ _ _ _ _ h H locs ls hr hl)
  · exact h.elim
theorem gw_s_ior (F : gw_fx p s m args c x nL cb own) (hd : decode cb pc = .ok (.ior, 1)) (hlk : gw_lk own nL rt pc (.ior) an iv sg = true) (h : gw_step ok x mc ms Q K (.ior) an iv sg lv st S μ cc ss N) (hN : ∀ lv st S μ cc ss, N lv st S μ cc ss → gw_at p l e R s m args below meth c Z x nL (pc + 1) lv st S μ cc ss) (hK : ∀ t lv st S μ cc ss, K t lv st S μ cc ss → gw_at p l e R s m args below meth c Z x nL t lv st S μ cc ss) : gw_at p l e R s m args below meth c Z x nL pc lv st S μ cc ss := by
  simp only [gw_step] at h
  split at h
  · rename_i b a t
    intro H locs ls hr hl
    exact lv_ior F.1 F.2.1 hd (hN _ _ _ _ _ _ h H locs ls hr hl)
  · exact h.elim
theorem gw_s_ixor (F : gw_fx p s m args c x nL cb own) (hd : decode cb pc = .ok (.ixor, 1)) (hlk : gw_lk own nL rt pc (.ixor) an iv sg = true) (h : gw_step ok x mc ms Q K (.ixor) an iv sg lv st S μ cc ss N) (hN : ∀ lv st S μ cc ss, N lv st S μ cc ss → gw_at p l e R s m args below meth c Z x nL (pc + 1) lv st S μ cc ss) (hK : ∀ t lv st S μ cc ss, K t lv st S μ cc ss → gw_at p l e R s m args below meth c Z x nL t lv st S μ cc ss) : gw_at p l e R s m args below meth c Z x nL pc lv st S μ cc ss := by
  simp only [gw_step] at h
  split at h
  · rename_i b a t
    intro H locs ls hr hl
    exact lv_ixor F.1 F.2.1 hd (hN _ _ _ _ _ _ h H locs ls hr hl)
  · exact h.elim
theorem gw_s_ishl (F : gw_fx p s m args c x nL cb own) (hd : decode cb pc = .ok (.ishl, 1)) (hlk : gw_lk own nL rt pc (.ishl) an iv sg = true) (h : gw_step ok x mc ms Q K (.ishl) an iv sg lv st S μ cc ss N) (hN : ∀ lv st S μ cc ss, N lv st S μ cc ss → gw_at p l e R s m args below meth c Z x nL (pc + 1) lv st S μ cc ss) (hK : ∀ t lv st S μ cc ss, K t lv st S μ cc ss → gw_at p l e R s m args below meth c Z x nL t lv st S μ cc ss) : gw_at p l e R s m args below meth c Z x nL pc lv st S μ cc ss := by
  simp only [gw_step] at h
  split at h
  · rename_i b a t
    intro H locs ls hr hl
    exact lv_ishl F.1 F.2.1 hd (hN _ _ _ _ _ _ h H locs ls hr hl)
  · exact h.elim
theorem gw_s_ishr (F : gw_fx p s m args c x nL cb own) (hd : decode cb pc = .ok (.ishr, 1)) (hlk : gw_lk own nL rt pc (.ishr) an iv sg = true) (h : gw_step ok x mc ms Q K (.ishr) an iv sg lv st S μ cc ss N) (hN : ∀ lv st S μ cc ss, N lv st S μ cc ss → gw_at p l e R s m args below meth c Z x nL (pc + 1) lv st S μ cc ss) (hK : ∀ t lv st S μ cc ss, K t lv st S μ cc ss → gw_at p l e R s m args below meth c Z x nL t lv st S μ cc ss) : gw_at p l e R s m args below meth c Z x nL pc lv st S μ cc ss := by
  simp only [gw_step] at h
  split at h
  · rename_i b a t
    intro H locs ls hr hl
    exact lv_ishr F.1 F.2.1 hd (hN _ _ _ _ _ _ h H locs ls hr hl)
  · exact h.elim
theorem gw_s_iushr (F : gw_fx p s m args c x nL cb own) (hd : decode cb pc = .ok (.iushr, 1)) (hlk : gw_lk own nL rt pc (.iushr) an iv sg = true) (h : gw_step ok x mc ms Q K (.iushr) an iv sg lv st S μ cc ss N) (hN : ∀ lv st S μ cc ss, N lv st S μ cc ss → gw_at p l e R s m args below meth c Z x nL (pc + 1) lv st S μ cc ss) (hK : ∀ t lv st S μ cc ss, K t lv st S μ cc ss → gw_at p l e R s m args below meth c Z x nL t lv st S μ cc ss) : gw_at p l e R s m args below meth c Z x nL pc lv st S μ cc ss := by
  simp only [gw_step] at h
  split at h
  · rename_i b a t
    intro H locs ls hr hl
    exact lv_iushr F.1 F.2.1 hd rfl (hN _ _ _ _ _ _ h H locs ls hr hl)
  · exact h.elim
theorem gw_s_idiv (F : gw_fx p s m args c x nL cb own) (hd : decode cb pc = .ok (.idiv, 1)) (hlk : gw_lk own nL rt pc (.idiv) an iv sg = true) (h : gw_step ok x mc ms Q K (.idiv) an iv sg lv st S μ cc ss N) (hN : ∀ lv st S μ cc ss, N lv st S μ cc ss → gw_at p l e R s m args below meth c Z x nL (pc + 1) lv st S μ cc ss) (hK : ∀ t lv st S μ cc ss, K t lv st S μ cc ss → gw_at p l e R s m args below meth c Z x nL t lv st S μ cc ss) : gw_at p l e R s m args below meth c Z x nL pc lv st S μ cc ss := by
  simp only [gw_step] at h
  split at h
  · rename_i b a t
    intro H locs ls hr hl
    exact lv_idiv F.1 F.2.1 hd h.1 (hN _ _ _ _ _ _ h.2 H locs ls hr hl)
  · exact h.elim
theorem gw_s_irem (F : gw_fx p s m args c x nL cb own) (hd : decode cb pc = .ok (.irem, 1)) (hlk : gw_lk own nL rt pc (.irem) an iv sg = true) (h : gw_step ok x mc ms Q K (.irem) an iv sg lv st S μ cc ss N) (hN : ∀ lv st S μ cc ss, N lv st S μ cc ss → gw_at p l e R s m args below meth c Z x nL (pc + 1) lv st S μ cc ss) (hK : ∀ t lv st S μ cc ss, K t lv st S μ cc ss → gw_at p l e R s m args below meth c Z x nL t lv st S μ cc ss) : gw_at p l e R s m args below meth c Z x nL pc lv st S μ cc ss := by
  simp only [gw_step] at h
  split at h
  · rename_i b a t
    intro H locs ls hr hl
    exact lv_irem F.1 F.2.1 hd h.1 (hN _ _ _ _ _ _ h.2 H locs ls hr hl)
  · exact h.elim
theorem gw_s_lcmp (F : gw_fx p s m args c x nL cb own) (hd : decode cb pc = .ok (.lcmp, 1)) (hlk : gw_lk own nL rt pc (.lcmp) an iv sg = true) (h : gw_step ok x mc ms Q K (.lcmp) an iv sg lv st S μ cc ss N) (hN : ∀ lv st S μ cc ss, N lv st S μ cc ss → gw_at p l e R s m args below meth c Z x nL (pc + 1) lv st S μ cc ss) (hK : ∀ t lv st S μ cc ss, K t lv st S μ cc ss → gw_at p l e R s m args below meth c Z x nL t lv st S μ cc ss) : gw_at p l e R s m args below meth c Z x nL pc lv st S μ cc ss := by
  simp only [gw_step] at h
  split at h
  · rename_i b a t
    intro H locs ls hr hl
    exact W.lcmp F.1 F.2.1 hd (hN _ _ _ _ _ _ h H locs ls hr hl)
  · exact h.elim
theorem gw_s_dup (F : gw_fx p s m args c x nL cb own) (hd : decode cb pc = .ok (.dup, 1)) (hlk : gw_lk own nL rt pc (.dup) an iv sg = true) (h : gw_step ok x mc ms Q K (.dup) an iv sg lv st S μ cc ss N) (hN : ∀ lv st S μ cc ss, N lv st S μ cc ss → gw_at p l e R s m args below meth c Z x nL (pc + 1) lv st S μ cc ss) (hK : ∀ t lv st S μ cc ss, K t lv st S μ cc ss → gw_at p l e R s m args below meth c Z x nL t lv st S μ cc ss) : gw_at p l e R s m args below meth c Z x nL pc lv st S μ cc ss := by
  simp only [gw_step] at h
  split at h
  · rename_i a t
    intro H locs ls hr hl
    exact lv_dup F.1 F.2.1 hd rfl (hN _ _ _ _ _ _ h H locs ls hr hl)
  · rename_i a t
    intro H locs ls hr hl
    exact lv_dup F.1 F.2.1 hd (gw_v_cat x rfl) (hN _ _ _ _ _ _ h H locs ls hr hl)
  · exact h.elim
theorem gw_s_dup2 (F : gw_fx p s m args c x nL cb own) (hd : decode cb pc = .ok (.dup2, 1)) (hlk : gw_lk own nL rt pc (.dup2) an iv sg = true) (h : gw_step ok x mc ms Q K (.dup2) an iv sg lv st S μ cc ss N) (hN : ∀ lv st S μ cc ss, N lv st S μ cc ss → gw_at p l e R s m args below meth c Z x nL (pc + 1) lv st S μ cc ss) (hK : ∀ t lv st S μ cc ss, K t lv st S μ cc ss → gw_at p l e R s m args below meth c Z x nL t lv st S μ cc ss) : gw_at p l e R s m args below meth c Z x nL pc lv st S μ cc ss := by
  simp only [gw_step] at h
  split at h
  · rename_i b a t
    intro H locs ls hr hl
    exact lv_dup2_11 F.1 F.2.1 hd rfl (gw_v_cat x rfl) (hN _ _ _ _ _ _ h H locs ls hr hl)
  · exact h.elim
theorem gw_s_pop (F : gw_fx p s m args c x nL cb own) (hd : decode cb pc = .ok (.pop, 1)) (hlk : gw_lk own nL rt pc (.pop) an iv sg = true) (h : gw_step ok x mc ms Q K (.pop) an iv sg lv st S μ cc ss N) (hN : ∀ lv st S μ cc ss, N lv st S μ cc ss → gw_at p l e R s m args below meth c Z x nL (pc + 1) lv st S μ cc ss) (hK : ∀ t lv st S μ cc ss, K t lv st S μ cc ss → gw_at p l e R s m args below meth c Z x nL t lv st S μ cc ss) : gw_at p l e R s m args below meth c Z x nL pc lv st S μ cc ss := by
  simp only [gw_step] at h
  split at h
  · rename_i a t
    intro H locs ls hr hl
    exact lv_pop F.1 F.2.1 hd rfl (hN _ _ _ _ _ _ h H locs ls hr hl)
  · rename_i a t
    intro H locs ls hr hl
    exact lv_pop F.1 F.2.1 hd (gw_v_cat x rfl) (hN _ _ _ _ _ _ h H locs ls hr hl)
  · exact h.elim
variable {k : Int}
theorem gw_s_iconst (F : gw_fx p s m args c x nL cb own) (hd : decode cb pc = .ok (.iconst k, 1)) (hlk : gw_lk own nL rt pc (.iconst k) an iv sg = true) (h : gw_step ok x mc ms Q K (.iconst k) an iv sg lv st S μ cc ss N) (hN : ∀ lv st S μ cc ss, N lv st S μ cc ss → gw_at p l e R s m args below meth c Z x nL (pc + 1) lv st S μ cc ss) (hK : ∀ t lv st S μ cc ss, K t lv st S μ cc ss → gw_at p l e R s m args below meth c Z x nL t lv st S μ cc ss) : gw_at p l e R s m args below meth c Z x nL pc lv st S μ cc ss := by
  simp only [gw_step] at h
  split at h
  · rename_i w
    intro H locs ls hr hl
    simp only [gw_lk, decide_eq_true_eq, List.cons.injEq, and_true] at hlk
    exact lv_iconst F.1 F.2.1 hd hlk.symm (hN _ _ _ _ _ _ h H locs ls hr hl)
  · exact h.elim

theorem gw_s_bipush (F : gw_fx p s m args c x nL cb own) (hd : decode cb pc = .ok (.bipush k, 2)) (hlk : gw_lk own nL rt pc (.bipush k) an iv sg = true) (h : gw_step ok x mc ms Q K (.bipush k) an iv sg lv st S μ cc ss N) (hN : ∀ lv st S μ cc ss, N lv st S μ cc ss → gw_at p l e R s m args below meth c Z x nL (pc + 2) lv st S μ cc ss) (hK : ∀ t lv st S μ cc ss, K t lv st S μ cc ss → gw_at p l e R s m args below meth c Z x nL t lv st S μ cc ss) : gw_at p l e R s m args below meth c Z x nL pc lv st S μ cc ss := by
  simp only [gw_step] at h
  split at h
  · rename_i w
    intro H locs ls hr hl
    simp only [gw_lk, decide_eq_true_eq, List.cons.injEq, and_true] at hlk
    exact lv_bipush F.1 F.2.1 hd hlk.symm (hN _ _ _ _ _ _ h H locs ls hr hl)
  · exact h.elim

theorem gw_s_sipush (F : gw_fx p s m args c x nL cb own) (hd : decode cb pc = .ok (.sipush k, 3)) (hlk : gw_lk own nL rt pc (.sipush k) an iv sg = true) (h : gw_step ok x mc ms Q K (.sipush k) an iv sg lv st S μ cc ss N) (hN : ∀ lv st S μ cc ss, N lv st S μ cc ss → gw_at p l e R s m args below meth c Z x nL (pc + 3) lv st S μ cc ss) (hK : ∀ t lv st S μ cc ss, K t lv st S μ cc ss → gw_at p l e R s m args below meth c Z x nL t lv st S μ cc ss) : gw_at p l e R s m args below meth c Z x nL pc lv st S μ cc ss := by
  simp only [gw_step] at h
  split at h
  · rename_i w
    intro H locs ls hr hl
    simp only [gw_lk, decide_eq_true_eq, List.cons.injEq, and_true] at hlk
    exact lv_sipush F.1 F.2.1 hd hlk.symm (hN _ _ _ _ _ _ h H locs ls hr hl)
  · exact h.elim
variable {j : Nat}
theorem gw_s_ldc (F : gw_fx p s m args c x nL cb own) (hd : decode cb pc = .ok (.ldc j, 2)) (hlk : gw_lk own nL rt pc (.ldc j) an iv sg = true) (h : gw_step ok x mc ms Q K (.ldc j) an iv sg lv st S μ cc ss N) (hN : ∀ lv st S μ cc ss, N lv st S μ cc ss → gw_at p l e R s m args below meth c Z x nL (pc + 2) lv st S μ cc ss) (hK : ∀ t lv st S μ cc ss, K t lv st S μ cc ss → gw_at p l e R s m args below meth c Z x nL t lv st S μ cc ss) : gw_at p l e R s m args below meth c Z x nL pc lv st S μ cc ss := by
  simp only [gw_step] at h
  simp only [gw_lk] at hlk
  split at h
  · split at hlk
    · rename_i heq
      cases heq
      intro H locs ls hr hl
      exact lv_ldc F.1 F.2.1 F.2.2.2.1 (F.2.2.2.2.1 _ (gw_is_spec hlk)) hd (hN _ _ _ _ _ _ h H locs ls hr hl)
    · cases hlk
  · exact h.elim
theorem gw_s_ldc_w (F : gw_fx p s m args c x nL cb own) (hd : decode cb pc = .ok (.ldc_w j, 3)) (hlk : gw_lk own nL rt pc (.ldc_w j) an iv sg = true) (h : gw_step ok x mc ms Q K (.ldc_w j) an iv sg lv st S μ cc ss N) (hN : ∀ lv st S μ cc ss, N lv st S μ cc ss → gw_at p l e R s m args below meth c Z x nL (pc + 3) lv st S μ cc ss) (hK : ∀ t lv st S μ cc ss, K t lv st S μ cc ss → gw_at p l e R s m args below meth c Z x nL t lv st S μ cc ss) : gw_at p l e R s m args below meth c Z x nL pc lv st S μ cc ss := by
  simp only [gw_step] at h
  simp only [gw_lk] at hlk
  split at h
  · split at hlk
    · rename_i heq
      cases heq
      intro H locs ls hr hl
      exact lv_ldcw F.1 F.2.1 F.2.2.2.1 (F.2.2.2.2.1 _ (gw_is_spec hlk)) hd (hN _ _ _ _ _ _ h H locs ls hr hl)
    · cases hlk
  · exact h.elim
variable {jn : Fin 4}
theorem gw_s_aload_n (F : gw_fx p s m args c x nL cb own) (hd : decode cb pc = .ok (.aload_n jn, 1)) (hlk : gw_lk own nL rt pc (.aload_n jn) an iv sg = true) (h : gw_step ok x mc ms Q K (.aload_n jn) an iv sg lv st S μ cc ss N) (hN : ∀ lv st S μ cc ss, N lv st S μ cc ss → gw_at p l e R s m args below meth c Z x nL (pc + 1) lv st S μ cc ss) (hK : ∀ t lv st S μ cc ss, K t lv st S μ cc ss → gw_at p l e R s m args below meth c Z x nL t lv st S μ cc ss) : gw_at p l e R s m args below meth c Z x nL pc lv st S μ cc ss := by
  simp only [gw_step] at h
  simp only [gw_lk, decide_eq_true_eq] at hlk
  subst hlk
  dsimp only at h
  cases hv : gw_nth lv jn.val with
  | ref v =>
    rw [hv] at h
    intro H locs ls hr hl
    have h5 := hl.2.2.2.2 jn.val (by rw [hv]; exact fun q => by cases q)
    rw [hv] at h5
    cases v with
    | zero => exact lv_aload_nN F.1 F.2.1 hd rfl h5 (hN _ _ _ _ _ _ h H locs ls hr hl)
    | succ v => exact lv_aload_n F.1 F.2.1 hd rfl h5 (hN _ _ _ _ _ _ h H locs ls hr hl)
  | retAddr v =>
    rw [hv] at h
    match v, hv, h with
    | 1, hv, h =>
      intro H locs ls hr hl
      have h5 := hl.2.2.2.2 jn.val (by rw [hv]; exact fun q => by cases q)
      rw [hv] at h5
      exact lv_aload_n F.1 F.2.1 hd rfl h5 (hN _ _ _ _ _ _ h H locs ls hr hl)
    | 0, _, h => exact h.elim
    | _ + 2, _, h => exact h.elim
  | _ => rw [hv] at h; exact h.elim
theorem gw_s_aload (F : gw_fx p s m args c x nL cb own) (hd : decode cb pc = .ok (.aload j, 2)) (hlk : gw_lk own nL rt pc (.aload j) an iv sg = true) (h : gw_step ok x mc ms Q K (.aload j) an iv sg lv st S μ cc ss N) (hN : ∀ lv st S μ cc ss, N lv st S μ cc ss → gw_at p l e R s m args below meth c Z x nL (pc + 2) lv st S μ cc ss) (hK : ∀ t lv st S μ cc ss, K t lv st S μ cc ss → gw_at p l e R s m args below meth c Z x nL t lv st S μ cc ss) : gw_at p l e R s m args below meth c Z x nL pc lv st S μ cc ss := by
  simp only [gw_step] at h
  simp only [gw_lk, decide_eq_true_eq] at hlk
  subst hlk
  dsimp only at h
  cases hv : gw_nth lv j with
  | ref v =>
    rw [hv] at h
    intro H locs ls hr hl
    have h5 := hl.2.2.2.2 j (by rw [hv]; exact fun q => by cases q)
    rw [hv] at h5
    cases v with
    | zero => exact lv_aloadN F.1 F.2.1 hd h5 (hN _ _ _ _ _ _ h H locs ls hr hl)
    | succ v => exact lv_aload F.1 F.2.1 hd h5 (hN _ _ _ _ _ _ h H locs ls hr hl)
  | retAddr v =>
    rw [hv] at h
    match v, hv, h with
    | 1, hv, h =>
      intro H locs ls hr hl
      have h5 := hl.2.2.2.2 j (by rw [hv]; exact fun q => by cases q)
      rw [hv] at h5
      exact lv_aload F.1 F.2.1 hd h5 (hN _ _ _ _ _ _ h H locs ls hr hl)
    | 0, _, h => exact h.elim
    | _ + 2, _, h => exact h.elim
  | _ => rw [hv] at h; exact h.elim
theorem gw_s_iload_n (F : gw_fx p s m args c x nL cb own) (hd : decode cb pc = .ok (.iload_n jn, 1)) (hlk : gw_lk own nL rt pc (.iload_n jn) an iv sg = true) (h : gw_step ok x mc ms Q K (.iload_n jn) an iv sg lv st S μ cc ss N) (hN : ∀ lv st S μ cc ss, N lv st S μ cc ss → gw_at p l e R s m args below meth c Z x nL (pc + 1) lv st S μ cc ss) (hK : ∀ t lv st S μ cc ss, K t lv st S μ cc ss → gw_at p l e R s m args below meth c Z x nL t lv st S μ cc ss) : gw_at p l e R s m args below meth c Z x nL pc lv st S μ cc ss := by
  simp only [gw_step] at h
  simp only [gw_lk, decide_eq_true_eq] at hlk
  subst hlk
  dsimp only at h
  cases hv : gw_nth lv jn.val with
  | int v =>
    rw [hv] at h
    intro H locs ls hr hl
    have h5 := hl.2.2.2.2 jn.val (by rw [hv]; exact fun q => by cases q)
    rw [hv] at h5
    exact lv_iload_n F.1 F.2.1 hd rfl h5 (hN _ _ _ _ _ _ h H locs ls hr hl)
  | _ => rw [hv] at h; exact h.elim
theorem gw_s_iload (F : gw_fx p s m args c x nL cb own) (hd : decode cb pc = .ok (.iload j, 2)) (hlk : gw_lk own nL rt pc (.iload j) an iv sg = true) (h : gw_step ok x mc ms Q K (.iload j) an iv sg lv st S μ cc ss N) (hN : ∀ lv st S μ cc ss, N lv st S μ cc ss → gw_at p l e R s m args below meth c Z x nL (pc + 2) lv st S μ cc ss) (hK : ∀ t lv st S μ cc ss, K t lv st S μ cc ss → gw_at p l e R s m args below meth c Z x nL t lv st S μ cc ss) : gw_at p l e R s m args below meth c Z x nL pc lv st S μ cc ss := by
  simp only [gw_step] at h
  simp only [gw_lk, decide_eq_true_eq] at hlk
  subst hlk
  dsimp only at h
  cases hv : gw_nth lv j with
  | int v =>
    rw [hv] at h
    intro H locs ls hr hl
    have h5 := hl.2.2.2.2 j (by rw [hv]; exact fun q => by cases q)
    rw [hv] at h5
    exact lv_iload F.1 F.2.1 hd h5 (hN _ _ _ _ _ _ h H locs ls hr hl)
  | _ => rw [hv] at h; exact h.elim
theorem gw_s_astore_n (F : gw_fx p s m args c x nL cb own) (hd : decode cb pc = .ok (.astore_n jn, 1)) (hlk : gw_lk own nL rt pc (.astore_n jn) an iv sg = true) (h : gw_step ok x mc ms Q K (.astore_n jn) an iv sg lv st S μ cc ss N) (hN : ∀ lv st S μ cc ss, N lv st S μ cc ss → gw_at p l e R s m args below meth c Z x nL (pc + 1) lv st S μ cc ss) (hK : ∀ t lv st S μ cc ss, K t lv st S μ cc ss → gw_at p l e R s m args below meth c Z x nL t lv st S μ cc ss) : gw_at p l e R s m args below meth c Z x nL pc lv st S μ cc ss := by
  simp only [gw_step] at h
  simp only [gw_lk, Bool.and_eq_true, decide_eq_true_eq] at hlk
  split at h
  · rename_i k0 r t
    obtain ⟨h1, h2⟩ := hlk
    cases h1
    have hlk : True ∧ jn.val < nL := ⟨trivial, h2⟩
    intro H locs ls hr hl
    cases r with
    | zero => exact lv_astore_nN F.1 F.2.1 hd rfl (gw_has_lv hl) hlk.2 rfl (fun ls' h' => hN _ _ _ _ _ _ h H locs ls' hr (gw_has_set hl hlk.2 rfl h'))
    | succ r => exact lv_astore_n F.1 F.2.1 hd rfl (gw_has_lv hl) hlk.2 rfl (fun ls' h' => hN _ _ _ _ _ _ h H locs ls' hr (gw_has_set hl hlk.2 rfl h'))
  · exact h.elim
theorem gw_s_astore (F : gw_fx p s m args c x nL cb own) (hd : decode cb pc = .ok (.astore j, 2)) (hlk : gw_lk own nL rt pc (.astore j) an iv sg = true) (h : gw_step ok x mc ms Q K (.astore j) an iv sg lv st S μ cc ss N) (hN : ∀ lv st S μ cc ss, N lv st S μ cc ss → gw_at p l e R s m args below meth c Z x nL (pc + 2) lv st S μ cc ss) (hK : ∀ t lv st S μ cc ss, K t lv st S μ cc ss → gw_at p l e R s m args below meth c Z x nL t lv st S μ cc ss) : gw_at p l e R s m args below meth c Z x nL pc lv st S μ cc ss := by
  simp only [gw_step] at h
  simp only [gw_lk, Bool.and_eq_true, decide_eq_true_eq] at hlk
  split at h
  · rename_i k0 r t
    obtain ⟨h1, h2⟩ := hlk
    cases h1
    have hlk : True ∧ j < nL := ⟨trivial, h2⟩
    intro H locs ls hr hl
    cases r with
    | zero => exact lv_astoreN F.1 F.2.1 hd (gw_has_lv hl) hlk.2 rfl (fun ls' h' => hN _ _ _ _ _ _ h H locs ls' hr (gw_has_set hl hlk.2 rfl h'))
    | succ r => exact lv_astore F.1 F.2.1 hd (gw_has_lv hl) hlk.2 rfl (fun ls' h' => hN _ _ _ _ _ _ h H locs ls' hr (gw_has_set hl hlk.2 rfl h'))
  · exact h.elim
theorem gw_s_istore_n (F : gw_fx p s m args c x nL cb own) (hd : decode cb pc = .ok (.istore_n jn, 1)) (hlk : gw_lk own nL rt pc (.istore_n jn) an iv sg = true) (h : gw_step ok x mc ms Q K (.istore_n jn) an iv sg lv st S μ cc ss N) (hN : ∀ lv st S μ cc ss, N lv st S μ cc ss → gw_at p l e R s m args below meth c Z x nL (pc + 1) lv st S μ cc ss) (hK : ∀ t lv st S μ cc ss, K t lv st S μ cc ss → gw_at p l e R s m args below meth c Z x nL t lv st S μ cc ss) : gw_at p l e R s m args below meth c Z x nL pc lv st S μ cc ss := by
  simp only [gw_step] at h
  simp only [gw_lk, Bool.and_eq_true, decide_eq_true_eq] at hlk
  split at h
  · rename_i k0 r t
    obtain ⟨h1, h2⟩ := hlk
    cases h1
    have hlk : True ∧ jn.val < nL := ⟨trivial, h2⟩
    intro H locs ls hr hl
    exact lv_istore_n F.1 F.2.1 hd rfl (gw_has_lv hl) hlk.2 rfl (fun ls' h' => hN _ _ _ _ _ _ h H locs ls' hr (gw_has_set hl hlk.2 rfl h'))
  · exact h.elim
theorem gw_s_istore (F : gw_fx p s m args c x nL cb own) (hd : decode cb pc = .ok (.istore j, 2)) (hlk : gw_lk own nL rt pc (.istore j) an iv sg = true) (h : gw_step ok x mc ms Q K (.istore j) an iv sg lv st S μ cc ss N) (hN : ∀ lv st S μ cc ss, N lv st S μ cc ss → gw_at p l e R s m args below meth c Z x nL (pc + 2) lv st S μ cc ss) (hK : ∀ t lv st S μ cc ss, K t lv st S μ cc ss → gw_at p l e R s m args below meth c Z x nL t lv st S μ cc ss) : gw_at p l e R s m args below meth c Z x nL pc lv st S μ cc ss := by
  simp only [gw_step] at h
  simp only [gw_lk, Bool.and_eq_true, decide_eq_true_eq] at hlk
  split at h
  · rename_i k0 r t
    obtain ⟨h1, h2⟩ := hlk
    cases h1
    have hlk : True ∧ j < nL := ⟨trivial, h2⟩
    intro H locs ls hr hl
    exact lv_istore F.1 F.2.1 hd (gw_has_lv hl) hlk.2 rfl (fun ls' h' => hN _ _ _ _ _ _ h H locs ls' hr (gw_has_set hl hlk.2 rfl h'))
  · exact h.elim
theorem gw_s_iinc (F : gw_fx p s m args c x nL cb own) (hd : decode cb pc = .ok (.iinc j k, 3)) (hlk : gw_lk own nL rt pc (.iinc j k) an iv sg = true) (h : gw_step ok x mc ms Q K (.iinc j k) an iv sg lv st S μ cc ss N) (hN : ∀ lv st S μ cc ss, N lv st S μ cc ss → gw_at p l e R s m args below meth c Z x nL (pc + 3) lv st S μ cc ss) (hK : ∀ t lv st S μ cc ss, K t lv st S μ cc ss → gw_at p l e R s m args below meth c Z x nL t lv st S μ cc ss) : gw_at p l e R s m args below meth c Z x nL pc lv st S μ cc ss := by
  simp only [gw_step] at h
  simp only [gw_lk, Bool.and_eq_true, decide_eq_true_eq] at hlk
  obtain ⟨⟨h1, h2⟩, h3⟩ := hlk
  subst h1
  subst h3
  dsimp only at h
  cases hv : gw_nth lv j with
  | int v =>
    rw [hv] at h
    intro H locs ls hr hl
    have hm : (j, Value.int v) ∈ gw_lvl x lv := by
      refine List.mem_filterMap.mpr ⟨j, List.mem_range.mpr (by have := hl.2.2.1; omega), ?_⟩
      simp [hv, gw_v]
    obtain ⟨q, hq⟩ := List.getElem?_of_mem hm
    exact lv_iinc F.1 F.2.1 hd (gw_has_lv hl) hq rfl h2 rfl (fun ls' h' => hN _ _ _ _ _ _ h H locs ls' hr (gw_has_set hl h2 rfl h'))
  | _ => rw [hv] at h; exact h.elim
variable {q : ClassFile.Cond} {off : Int}
theorem gw_s_ifCond (F : gw_fx p s m args c x nL cb own) (hd : decode cb pc = .ok (.ifCond q off, 3)) (hlk : gw_lk own nL rt pc (.ifCond q off) an iv sg = true) (h : gw_step ok x mc ms Q K (.ifCond q off) an iv sg lv st S μ cc ss N) (hN : ∀ lv st S μ cc ss, N lv st S μ cc ss → gw_at p l e R s m args below meth c Z x nL (pc + 3) lv st S μ cc ss) (hK : ∀ t lv st S μ cc ss, K t lv st S μ cc ss → gw_at p l e R s m args below meth c Z x nL t lv st S μ cc ss) : gw_at p l e R s m args below meth c Z x nL pc lv st S μ cc ss := by
  simp only [gw_step] at h
  simp only [gw_lk] at hlk
  split at h
  · simp only [decide_eq_true_eq] at hlk
    obtain ⟨hk1, hk2⟩ := h
    intro H locs ls hr hl
    cases q with
    | eq => exact lv_if_eq F.1 F.2.1 hd hlk (fun z => hK _ _ _ _ _ _ _ (hk1 z) H locs ls hr hl) (fun z => hN _ _ _ _ _ _ (hk2 z) H locs ls hr hl)
    | ne => exact lv_if_ne F.1 F.2.1 hd hlk (fun z => hK _ _ _ _ _ _ _ (hk1 z) H locs ls hr hl) (fun z => hN _ _ _ _ _ _ (hk2 (fun y => y z)) H locs ls hr hl)
    | lt => exact lv_if_lt F.1 F.2.1 hd hlk (fun z => hK _ _ _ _ _ _ _ (hk1 z) H locs ls hr hl) (fun z => hN _ _ _ _ _ _ (hk2 z) H locs ls hr hl)
    | ge => exact lv_if_ge F.1 F.2.1 hd hlk (fun z => hK _ _ _ _ _ _ _ (hk1 z) H locs ls hr hl) (fun z => hN _ _ _ _ _ _ (hk2 z) H locs ls hr hl)
    | gt => exact lv_if_gt F.1 F.2.1 hd hlk (fun z => hK _ _ _ _ _ _ _ (hk1 z) H locs ls hr hl) (fun z => hN _ _ _ _ _ _ (hk2 z) H locs ls hr hl)
    | le => exact lv_if_le F.1 F.2.1 hd hlk (fun z => hK _ _ _ _ _ _ _ (hk1 z) H locs ls hr hl) (fun z => hN _ _ _ _ _ _ (hk2 z) H locs ls hr hl)
  · exact h.elim
theorem gw_s_if_icmp (F : gw_fx p s m args c x nL cb own) (hd : decode cb pc = .ok (.if_icmp q off, 3)) (hlk : gw_lk own nL rt pc (.if_icmp q off) an iv sg = true) (h : gw_step ok x mc ms Q K (.if_icmp q off) an iv sg lv st S μ cc ss N) (hN : ∀ lv st S μ cc ss, N lv st S μ cc ss → gw_at p l e R s m args below meth c Z x nL (pc + 3) lv st S μ cc ss) (hK : ∀ t lv st S μ cc ss, K t lv st S μ cc ss → gw_at p l e R s m args below meth c Z x nL t lv st S μ cc ss) : gw_at p l e R s m args below meth c Z x nL pc lv st S μ cc ss := by
  simp only [gw_step] at h
  simp only [gw_lk] at hlk
  split at h
  · simp only [decide_eq_true_eq] at hlk
    obtain ⟨hk1, hk2⟩ := h
    intro H locs ls hr hl
    cases q with
    | eq => exact lv_icmp_eq F.1 F.2.1 hd hlk (fun z => hK _ _ _ _ _ _ _ (hk1 z) H locs ls hr hl) (fun z => hN _ _ _ _ _ _ (hk2 z) H locs ls hr hl)
    | ne => exact lv_icmp_ne F.1 F.2.1 hd hlk (fun z => hK _ _ _ _ _ _ _ (hk1 z) H locs ls hr hl) (fun z => hN _ _ _ _ _ _ (hk2 (fun y => y z)) H locs ls hr hl)
    | lt => exact lv_icmp_lt F.1 F.2.1 hd hlk (fun z => hK _ _ _ _ _ _ _ (hk1 z) H locs ls hr hl) (fun z => hN _ _ _ _ _ _ (hk2 z) H locs ls hr hl)
    | ge => exact lv_icmp_ge F.1 F.2.1 hd hlk (fun z => hK _ _ _ _ _ _ _ (hk1 z) H locs ls hr hl) (fun z => hN _ _ _ _ _ _ (hk2 z) H locs ls hr hl)
    | gt => exact lv_icmp_gt F.1 F.2.1 hd hlk (fun z => hK _ _ _ _ _ _ _ (hk1 z) H locs ls hr hl) (fun z => hN _ _ _ _ _ _ (hk2 z) H locs ls hr hl)
    | le => exact lv_icmp_le F.1 F.2.1 hd hlk (fun z => hK _ _ _ _ _ _ _ (hk1 z) H locs ls hr hl) (fun z => hN _ _ _ _ _ _ (hk2 z) H locs ls hr hl)
  · exact h.elim
theorem gw_s_ifnull (F : gw_fx p s m args c x nL cb own) (hd : decode cb pc = .ok (.ifnull off, 3)) (hlk : gw_lk own nL rt pc (.ifnull off) an iv sg = true) (h : gw_step ok x mc ms Q K (.ifnull off) an iv sg lv st S μ cc ss N) (hN : ∀ lv st S μ cc ss, N lv st S μ cc ss → gw_at p l e R s m args below meth c Z x nL (pc + 3) lv st S μ cc ss) (hK : ∀ t lv st S μ cc ss, K t lv st S μ cc ss → gw_at p l e R s m args below meth c Z x nL t lv st S μ cc ss) : gw_at p l e R s m args below meth c Z x nL pc lv st S μ cc ss := by
  simp only [gw_step] at h
  simp only [gw_lk] at hlk
  split at h
  · rename_i a t
    simp only [decide_eq_true_eq] at hlk
    intro H locs ls hr hl
    cases a with
    | zero => exact lv_ifnullN F.1 F.2.1 hd hlk (hK _ _ _ _ _ _ _ (h.1 rfl) H locs ls hr hl)
    | succ a => exact lv_ifnull F.1 F.2.1 hd (hN _ _ _ _ _ _ (h.2 (Nat.succ_ne_zero _)) H locs ls hr hl)
  · exact h.elim
theorem gw_s_ifnonnull (F : gw_fx p s m args c x nL cb own) (hd : decode cb pc = .ok (.ifnonnull off, 3)) (hlk : gw_lk own nL rt pc (.ifnonnull off) an iv sg = true) (h : gw_step ok x mc ms Q K (.ifnonnull off) an iv sg lv st S μ cc ss N) (hN : ∀ lv st S μ cc ss, N lv st S μ cc ss → gw_at p l e R s m args below meth c Z x nL (pc + 3) lv st S μ cc ss) (hK : ∀ t lv st S μ cc ss, K t lv st S μ cc ss → gw_at p l e R s m args below meth c Z x nL t lv st S μ cc ss) : gw_at p l e R s m args below meth c Z x nL pc lv st S μ cc ss := by
  simp only [gw_step] at h
  simp only [gw_lk] at hlk
  split at h
  · rename_i a t
    simp only [decide_eq_true_eq] at hlk
    intro H locs ls hr hl
    cases a with
    | zero => exact lv_ifnonnullN F.1 F.2.1 hd (hN _ _ _ _ _ _ (h.2 rfl) H locs ls hr hl)
    | succ a => exact lv_ifnonnull F.1 F.2.1 hd hlk (hK _ _ _ _ _ _ _ (h.1 (Nat.succ_ne_zero _)) H locs ls hr hl)
  · exact h.elim
theorem gw_s_goto (F : gw_fx p s m args c x nL cb own) (hd : decode cb pc = .ok (.goto off, 3)) (hlk : gw_lk own nL rt pc (.goto off) an iv sg = true) (h : gw_step ok x mc ms Q K (.goto off) an iv sg lv st S μ cc ss N) (hN : ∀ lv st S μ cc ss, N lv st S μ cc ss → gw_at p l e R s m args below meth c Z x nL (pc + 3) lv st S μ cc ss) (hK : ∀ t lv st S μ cc ss, K t lv st S μ cc ss → gw_at p l e R s m args below meth c Z x nL t lv st S μ cc ss) : gw_at p l e R s m args below meth c Z x nL pc lv st S μ cc ss := by
  simp only [gw_step] at h
  simp only [gw_lk] at hlk
  split at h
  · simp only [decide_eq_true_eq] at hlk
    intro H locs ls hr hl
    exact lv_goto F.1 F.2.1 hd hlk (hK _ _ _ _ _ _ _ h H locs ls hr hl)
  · exact h.elim
end SND
end
section
/-! ===== soundness: fields, arrays, new cells ===== -/
section SND2
variable {p : Program} {l : Launch} {e : Env} {R : Room} {s : State} {m : MethodId} {args : Array Value} {below : List Frame} {meth : Method} {c : Code} {Z : State → Prop} {x : gw_C} {nL : Nat} {cb : ByteArray} {own : String}
variable {ok : gw_Ok} {mc ms pc : Nat} {Q : Option Value → gw_S → gw_M → Prop} {K : Nat → gw_Kt} {an : List Nat} {iv : List Int32} {sg : List gw_Sig} {lv st : List Value} {S : gw_S} {μ : gw_M} {cc ss : Nat} {N : gw_Kt} {rt : Option FieldType} {j : Nat}
theorem gw_sw_at {K : Nat → Prop} {d : Nat} : ∀ (ts : List Nat) (lo v : Int32) (n : Nat), gw_sw K d ts lo v → -1000 < lo.toInt → lo.toInt + ts.length < 1000 → ts.length = n →
    (∀ (i t : Nat), ts[i]? = some t → v.toInt = lo.toInt + (i : Int) → K t) ∧ (v.toInt < lo.toInt ∨ lo.toInt + ts.length ≤ v.toInt → K d)
  | [], lo, v, n, h, h1, h2, h3 => ⟨fun i t q => by simp at q, fun _ => h⟩
  | t :: ts, lo, v, n, h, h1, h2, h3 => by
    have e1 : (lo + 1).toInt = lo.toInt + 1 := by
      rw [Int32.toInt_add]
      have : (1 : Int32).toInt = 1 := rfl
      rw [this]
      simp only [List.length_cons] at h2
      exact Int.bmod_eq_of_le (by omega) (by omega)
    by_cases hv : v = lo
    · subst hv
      refine ⟨fun i t' q hi => ?_, fun q => ?_⟩
      · have : i = 0 := by omega
        subst this
        cases q
        exact h.1 rfl
      · simp only [List.length_cons] at q
        omega
    · have ih := gw_sw_at ts (lo + 1) v ts.length (h.2 hv) (by omega) (by rw [e1]; simp only [List.length_cons] at h2; omega) rfl
      have hne : v.toInt ≠ lo.toInt := fun q => hv (Int32.toInt_inj.mp q)
      refine ⟨fun i t' q hi => ?_, fun q => ih.2 ?_⟩
      · cases i with
        | zero => omega
        | succ i => exact ih.1 i t' (by simpa using q) (by rw [e1, hi]; omega)
      · rw [e1]
        simp only [List.length_cons] at q
        omega
variable {dflt lo hi : Int} {offs : Array Int} {len : Nat}
theorem gw_s_tableswitch (F : gw_fx p s m args c x nL cb own) (hd : decode cb pc = .ok (.tableswitch dflt lo hi offs, len)) (hlk : gw_lk own nL rt pc (.tableswitch dflt lo hi offs) an iv sg = true) (h : gw_step ok x mc ms Q K (.tableswitch dflt lo hi offs) an iv sg lv st S μ cc ss N) (hN : ∀ lv st S μ cc ss, N lv st S μ cc ss → gw_at p l e R s m args below meth c Z x nL (pc + len) lv st S μ cc ss) (hK : ∀ t lv st S μ cc ss, K t lv st S μ cc ss → gw_at p l e R s m args below meth c Z x nL t lv st S μ cc ss) : gw_at p l e R s m args below meth c Z x nL pc lv st S μ cc ss := by
  simp only [gw_step] at h
  simp only [gw_lk] at hlk
  split at h
  · rename_i d ts w a t
    simp only [Bool.and_eq_true, decide_eq_true_eq] at hlk
    obtain ⟨⟨⟨⟨⟨h1, h2⟩, h3⟩, h4⟩, h5⟩, h6⟩ := hlk
    intro H locs ls hr hl
    obtain ⟨g1, g2⟩ := gw_sw_at ts w a ts.length h (by omega) (by omega) rfl
    by_cases hin : a.toInt < lo ∨ hi < a.toInt
    · refine lv_tableOut F.1 F.2.1 hd hin h1 (hK _ _ _ _ _ _ _ (g2 (by omega)) H locs ls hr hl)
    · have hlt : (a.toInt - lo).toNat < ts.length := by omega
      have ht : ts[(a.toInt - lo).toNat]? = some ts[(a.toInt - lo).toNat] := List.getElem?_eq_getElem hlt
      have e1 : (offs.toList.map (fun o => (pc : Int) + o))[(a.toInt - lo).toNat]? = some ((ts[(a.toInt - lo).toNat] : Nat) : Int) := by
        rw [h3, List.getElem?_map, ht]; rfl
      rw [List.getElem?_map] at e1
      cases ho : offs.toList[(a.toInt - lo).toNat]? with
      | none => rw [ho] at e1; cases e1
      | some off =>
        rw [ho] at e1
        simp only [Option.map_some, Option.some.injEq] at e1
        exact lv_tableIn F.1 F.2.1 hd (by omega) (by omega) (by rw [← Array.getElem?_toList]; exact ho) e1 (hK _ _ _ _ _ _ _ (g1 _ _ ht (by omega)) H locs ls hr hl)
  · exact h.elim
theorem gw_s_getfield (F : gw_fx p s m args c x nL cb own) (hd : decode cb pc = .ok (.getfield j, 3)) (hlk : gw_lk own nL rt pc (.getfield j) an iv sg = true) (h : gw_step ok x mc ms Q K (.getfield j) an iv sg lv st S μ cc ss N) (hN : ∀ lv st S μ cc ss, N lv st S μ cc ss → gw_at p l e R s m args below meth c Z x nL (pc + 3) lv st S μ cc ss) (hK : ∀ t lv st S μ cc ss, K t lv st S μ cc ss → gw_at p l e R s m args below meth c Z x nL t lv st S μ cc ss) : gw_at p l e R s m args below meth c Z x nL pc lv st S μ cc ss := by
  simp only [gw_step] at h
  simp only [gw_lk] at hlk
  have key : ∀ (ci k t0 ti : Nat) (v : Value) (a : Nat) (t : List Value), an = [ci, k, t0, ti] → gw_kd S a = ci → gw_fld x S μ a ci k = gw_v x v → N lv (v :: t) S μ cc ss → gw_at p l e R s m args below meth c Z x nL pc lv (.ref a :: t) S μ cc ss := by
    intro ci k t0 ti v a t han hka hv hn H locs ls hr hl
    subst han
    cases hq : vwCl[ci]? with
    | none => simp [hq] at hlk
    | some q =>
      simp only [hq, Bool.and_eq_true, decide_eq_true_eq] at hlk
      obtain ⟨⟨hk, -⟩, hli⟩ := hlk
      obtain ⟨h1, h2, hc, hra⟩ := gw_kd_ok hr hka (by have := (gw_cls hq).2.2.2.2; omega)
      have hob := hc.2.2.2 q (by rw [hka]; exact hq)
      rw [hka] at hob
      obtain ⟨cell, q1, q2, q3, q4⟩ := hob
      have hKn := F.2.2.2.2.2.1.1 ci q hq
      obtain ⟨hS, hfc, kC, hkC, hkind⟩ := hKn
      obtain ⟨cf, kf, fi, f, hi, hsl⟩ := hS k hk
      have hst := (u_facts hfc hkC (u_lays F.2.2.2.2.1 (gw_cls hq).1 hk) hi).1
      show W p l e R s m args below meth c H locs cc ss Z (F0 m pc ls (gw_v x (.ref a) :: t.map (gw_v x)))
      rw [hra]
      refine W.getf F.1 F.2.1 F.2.2.2.1 (F.2.2.2.2.1 _ (gw_is_spec hli)) hi hst q1 (by rw [q3]; exact fun z => by cases z) (v := gw_v x v) ?_ rfl rfl hd (hN _ _ _ _ _ _ hn H locs ls hr hl)
      rw [hsl, q4 k hk, hv]
  have ftv : ∀ (ci k t0 ti : Nat), an = [ci, k, t0, ti] → t0 = gw_ft (gw_ty ci k) := by
    intro ci k t0 ti han
    subst han
    cases hq : vwCl[ci]? with
    | none => simp [hq] at hlk
    | some q =>
      simp only [hq, Bool.and_eq_true, decide_eq_true_eq] at hlk
      exact hlk.1.2
  split at h
  · rename_i ci k ti a t
    exact key ci k 1 ti _ a t rfl h.1 (by rw [gw_fld, if_pos (ftv ci k 1 ti rfl).symm]) h.2
  · rename_i ci k t0 ti a t hne
    refine key ci k t0 ti _ a t rfl h.1 ?_ h.2
    rw [gw_fld, if_neg]
    · rfl
    · intro hz
      exact hne (by rw [ftv ci k t0 ti rfl]; exact hz)
  · exact h.elim
theorem gw_s_iaload (F : gw_fx p s m args c x nL cb own) (hd : decode cb pc = .ok (.iaload, 1)) (hlk : gw_lk own nL rt pc (.iaload) an iv sg = true) (h : gw_step ok x mc ms Q K (.iaload) an iv sg lv st S μ cc ss N) (hN : ∀ lv st S μ cc ss, N lv st S μ cc ss → gw_at p l e R s m args below meth c Z x nL (pc + 1) lv st S μ cc ss) (hK : ∀ t lv st S μ cc ss, K t lv st S μ cc ss → gw_at p l e R s m args below meth c Z x nL t lv st S μ cc ss) : gw_at p l e R s m args below meth c Z x nL pc lv st S μ cc ss := by
  simp only [gw_step] at h
  split at h
  · rename_i i a t
    obtain ⟨hk, hin, hn⟩ := h
    intro H locs ls hr hl
    obtain ⟨h1, h2, hc, hra⟩ := gw_kd_ok hr hk (by decide)
    show W p l e R s m args below meth c H locs cc ss Z (F0 m pc ls (.int i :: gw_v x (.ref a) :: t.map (gw_v x)))
    rw [hra]
    refine W.iald F.1 F.2.1 (hc.1 hk) ((F.2.2.2.2.2.1.2 0 _ rfl).1 _ _) (fun z => by cases z) (by rw [arrV_size]; exact gw_in_vp hin) (v := .int (μ a i.toNatClampNeg)) (by rw [arrV_read _ _ hin.2]) rfl rfl hd (hN _ _ _ _ _ _ hn H locs ls hr hl)
  · rename_i i t
    obtain ⟨hin, hn⟩ := h
    intro H locs ls hr hl
    obtain ⟨scr, a1, a2, a3, a4, a5⟩ := F.2.2.2.2.2.2.1
    refine W.iald F.1 F.2.1 (a := x.2.2.2.2.2.2.1) (cell := scr) ?_ a2 a3 (by rw [a4]; exact gw_in_vp hin) (a5 _ hin.2) rfl rfl hd (hN _ _ _ _ _ _ hn H locs ls hr hl)
    rw [hr.2.2.2.2.1 _ (by have := hr.2.2.2.1; have := F.2.2.2.2.2.2.2.1; omega)]
    exact a1
  · exact h.elim
theorem gw_s_arraylength (F : gw_fx p s m args c x nL cb own) (hd : decode cb pc = .ok (.arraylength, 1)) (hlk : gw_lk own nL rt pc (.arraylength) an iv sg = true) (h : gw_step ok x mc ms Q K (.arraylength) an iv sg lv st S μ cc ss N) (hN : ∀ lv st S μ cc ss, N lv st S μ cc ss → gw_at p l e R s m args below meth c Z x nL (pc + 1) lv st S μ cc ss) (hK : ∀ t lv st S μ cc ss, K t lv st S μ cc ss → gw_at p l e R s m args below meth c Z x nL t lv st S μ cc ss) : gw_at p l e R s m args below meth c Z x nL pc lv st S μ cc ss := by
  simp only [gw_step] at h
  split at h
  · rename_i a t
    obtain ⟨hk, hn⟩ := h
    intro H locs ls hr hl
    have hk15 : gw_kd S a < 15 := by omega
    obtain ⟨h1, h2, hc, hra⟩ := gw_kd_ok hr rfl hk15
    show W p l e R s m args below meth c H locs cc ss Z (F0 m pc ls (gw_v x (.ref a) :: t.map (gw_v x)))
    rw [hra]
    rcases hk with hk | hk | hk
    · exact W.alen F.1 F.2.1 (hc.1 hk) ((F.2.2.2.2.2.1.2 0 _ rfl).1 _ _) (by rw [arrV_size]) rfl rfl hd (hN _ _ _ _ _ _ hn H locs ls hr hl)
    · exact W.alen F.1 F.2.1 (hc.2.1 hk) ((F.2.2.2.2.2.1.2 1 _ rfl).1 _ _) (by rw [arrV_size]) rfl rfl hd (hN _ _ _ _ _ _ hn H locs ls hr hl)
    · exact W.alen F.1 F.2.1 (hc.2.2.1 hk) ((F.2.2.2.2.2.1.2 2 _ rfl).1 _ _) (by rw [arrV_size]) rfl rfl hd (hN _ _ _ _ _ _ hn H locs ls hr hl)
  · rename_i t
    intro H locs ls hr hl
    obtain ⟨scr, a1, a2, a3, a4, a5⟩ := F.2.2.2.2.2.2.1
    refine W.alen F.1 F.2.1 (a := x.2.2.2.2.2.2.1) (cell := scr) ?_ a2 (by rw [a4]) rfl rfl hd (hN _ _ _ _ _ _ h H locs ls hr hl)
    rw [hr.2.2.2.2.1 _ (by have := hr.2.2.2.1; have := F.2.2.2.2.2.2.2.1; omega)]
    exact a1
  · exact h.elim
theorem gw_s_aaload (F : gw_fx p s m args c x nL cb own) (hd : decode cb pc = .ok (.aaload, 1)) (hlk : gw_lk own nL rt pc (.aaload) an iv sg = true) (h : gw_step ok x mc ms Q K (.aaload) an iv sg lv st S μ cc ss N) (hN : ∀ lv st S μ cc ss, N lv st S μ cc ss → gw_at p l e R s m args below meth c Z x nL (pc + 1) lv st S μ cc ss) (hK : ∀ t lv st S μ cc ss, K t lv st S μ cc ss → gw_at p l e R s m args below meth c Z x nL t lv st S μ cc ss) : gw_at p l e R s m args below meth c Z x nL pc lv st S μ cc ss := by
  simp only [gw_step] at h
  split at h
  · rename_i i a t
    obtain ⟨hk, hin, hn⟩ := h
    intro H locs ls hr hl
    have hk15 : gw_kd S a < 15 := by omega
    obtain ⟨h1, h2, hc, hra⟩ := gw_kd_ok hr rfl hk15
    show W p l e R s m args below meth c H locs cc ss Z (F0 m pc ls (.int i :: gw_v x (.ref a) :: t.map (gw_v x)))
    rw [hra]
    rcases hk with hk | hk
    · exact W.aald F.1 F.2.1 (hc.2.1 hk) ((F.2.2.2.2.2.1.2 1 _ rfl).1 _ _) rfl (fun z => by cases z) (by rw [arrV_size]; exact gw_in_vp hin) (v := gw_v x (.ref (gw_rf S a i.toNatClampNeg))) (by rw [arrV_read _ _ hin.2]) rfl rfl hd (hN _ _ _ _ _ _ hn H locs ls hr hl)
    · exact W.aald F.1 F.2.1 (hc.2.2.1 hk) ((F.2.2.2.2.2.1.2 2 _ rfl).1 _ _) rfl (fun z => by cases z) (by rw [arrV_size]; exact gw_in_vp hin) (v := gw_v x (.ref (gw_rf S a i.toNatClampNeg))) (by rw [arrV_read _ _ hin.2]) rfl rfl hd (hN _ _ _ _ _ _ hn H locs ls hr hl)
  · exact h.elim
theorem gw_up_ne {μ : gw_M} {a k : Nat} {v : Int32} {b : Nat} (h : b ≠ a) (j : Nat) : gw_up μ a k v b j = μ b j := by simp [gw_up, h]
theorem gw_sr_ne {S : gw_S} {a k r : Nat} {b : Nat} (h : b ≠ a) (j : Nat) : gw_rf (gw_sr S a k r) b j = gw_rf S b j := by simp [gw_sr, gw_rf, h]
theorem gw_locs {locs : List Loc} {q : Loc} {a k : Nat} (h : q ∈ locs ++ [(⟨a, k⟩ : Loc)]) : q ∈ locs ∨ q.base = a := by
  rcases List.mem_append.mp h with h | h
  · exact Or.inl h
  · rw [List.mem_singleton.mp h]; exact Or.inr rfl
theorem gw_s_iastore (F : gw_fx p s m args c x nL cb own) (hd : decode cb pc = .ok (.iastore, 1)) (hlk : gw_lk own nL rt pc (.iastore) an iv sg = true) (h : gw_step ok x mc ms Q K (.iastore) an iv sg lv st S μ cc ss N) (hN : ∀ lv st S μ cc ss, N lv st S μ cc ss → gw_at p l e R s m args below meth c Z x nL (pc + 1) lv st S μ cc ss) (hK : ∀ t lv st S μ cc ss, K t lv st S μ cc ss → gw_at p l e R s m args below meth c Z x nL t lv st S μ cc ss) : gw_at p l e R s m args below meth c Z x nL pc lv st S μ cc ss := by
  simp only [gw_step] at h
  split at h
  · rename_i v i a t
    obtain ⟨hk, hin, hn⟩ := h
    intro H locs ls hr hl
    obtain ⟨h1, h2, hc, hra⟩ := gw_kd_ok hr hk (by decide)
    show W p l e R s m args below meth c H locs cc ss Z (F0 m pc ls (.int v :: .int i :: gw_v x (.ref a) :: t.map (gw_v x)))
    rw [hra]
    refine W.iast F.1 F.2.1 (hc.1 hk) ((F.2.2.2.2.2.1.2 0 _ rfl).1 _ _) (fun z => by cases z) (by rw [arrV_size]; exact gw_in_vp hin) rfl rfl hd (fun H1 e1 z1 o1 => ?_)
    refine hN _ _ _ _ _ _ hn H1 _ ls (gw_rep_store hr z1 o1 h1 rfl (fun _ _ _ => rfl) (fun b hb jj => gw_up_ne hb jj) ?_ (fun q hq => gw_locs hq)) hl
    refine ⟨fun _ => ?_, fun z => ?_, fun z => ?_, fun q hq => ?_⟩
    · rw [e1, arrV_store]
      congr 2
      funext jj
      by_cases hj : jj = i.toNatClampNeg
      · subst hj
        simp [updV, gw_up]
      · simp [updV, gw_up, hj]
    · omega
    · omega
    · rw [hk] at hq
      have := (gw_cls hq).2.2.2.2
      omega
  · exact h.elim
theorem gw_s_aastore (F : gw_fx p s m args c x nL cb own) (hd : decode cb pc = .ok (.aastore, 1)) (hlk : gw_lk own nL rt pc (.aastore) an iv sg = true) (h : gw_step ok x mc ms Q K (.aastore) an iv sg lv st S μ cc ss N) (hN : ∀ lv st S μ cc ss, N lv st S μ cc ss → gw_at p l e R s m args below meth c Z x nL (pc + 1) lv st S μ cc ss) (hK : ∀ t lv st S μ cc ss, K t lv st S μ cc ss → gw_at p l e R s m args below meth c Z x nL t lv st S μ cc ss) : gw_at p l e R s m args below meth c Z x nL pc lv st S μ cc ss := by
  simp only [gw_step] at h
  split at h
  · rename_i r i a t
    obtain ⟨hk, hin, hn⟩ := h
    intro H locs ls hr hl
    have hk15 : gw_kd S a < 15 := by omega
    have hr15 : gw_kd S r < 15 := by omega
    obtain ⟨h1, h2, hc, hra⟩ := gw_kd_ok hr rfl hk15
    obtain ⟨g1, g2, hcr, hrr⟩ := gw_kd_ok hr rfl hr15
    show W p l e R s m args below meth c H locs cc ss Z (F0 m pc ls (gw_v x (.ref r) :: .int i :: gw_v x (.ref a) :: t.map (gw_v x)))
    rw [hra, hrr]
    have upd : ∀ cA : ClassId, arrV cA (gw_ln S a) (updV (fun j => gw_v x (.ref (gw_rf S a j))) i.toNatClampNeg (.ref (x.1 + r))) = arrV cA (gw_ln S a) (fun j => gw_v x (.ref (gw_rf (gw_sr S a i.toNatClampNeg r) a j))) := by
      intro cA
      congr 1
      funext jj
      by_cases hj : jj = i.toNatClampNeg
      · subst hj
        simp [updV, gw_sr, gw_rf, ← hrr]
      · simp [updV, gw_sr, gw_rf, hj]
    rcases hk with ⟨hk, hkr⟩ | ⟨hk, hkr⟩
    · obtain ⟨cellV, q1, q2, q3, q4⟩ := hcr.2.2.2 _ (by rw [hkr]; rfl)
      rw [hkr] at q2
      have hcls := (F.2.2.2.2.2.1.1 1 _ rfl).2
      obtain ⟨kA, comp, k1, k2, k3, -⟩ := (F.2.2.2.2.2.1.2 1 _ rfl).2
      have hcomp : comp = x.2.2.1.1 1 := Option.some.inj (k3.symm.trans hcls.1)
      subst hcomp
      obtain ⟨kC, hkC, -⟩ := hcls.2
      refine W.aast F.1 F.2.1 (hc.2.1 hk) (fun q h => by cases h) (fun h => by cases h) k1 k2 rfl hkC ⟨Int32.not_lt.mpr hin.1, by rw [arrV_size]; exact hin.2⟩ q1 (fun q h => by rw [q3] at h; cases h) (by rw [q2]; exact hkC) (by rw [q2]; exact va_assign hcls) rfl rfl hd (fun H1 e1 z1 o1 => ?_)
      refine hN _ _ _ _ _ _ hn H1 _ ls (gw_rep_store hr z1 o1 h1 rfl (fun b hb jj => gw_sr_ne hb jj) (fun _ _ _ => rfl) ?_ (fun q hq => gw_locs hq)) hl
      have hk' : gw_kd (gw_sr S a i.toNatClampNeg r) a = 13 := hk
      refine ⟨fun z => ?_, fun z => ?_, fun z => ?_, fun q hq => ?_⟩
      · omega
      · rw [e1, arrV_store]
        exact congrArg some (upd _)
      · omega
      · rw [hk'] at hq
        have := (gw_cls hq).2.2.2.2
        omega
    · obtain ⟨cellV, q1, q2, q3, q4⟩ := hcr.2.2.2 _ (by rw [hkr]; rfl)
      rw [hkr] at q2
      have hcls := (F.2.2.2.2.2.1.1 3 _ rfl).2
      obtain ⟨kA, comp, k1, k2, k3, -⟩ := (F.2.2.2.2.2.1.2 2 _ rfl).2
      have hcomp : comp = x.2.2.1.1 3 := Option.some.inj (k3.symm.trans hcls.1)
      subst hcomp
      obtain ⟨kC, hkC, -⟩ := hcls.2
      refine W.aast F.1 F.2.1 (hc.2.2.1 hk) (fun q h => by cases h) (fun h => by cases h) k1 k2 rfl hkC ⟨Int32.not_lt.mpr hin.1, by rw [arrV_size]; exact hin.2⟩ q1 (fun q h => by rw [q3] at h; cases h) (by rw [q2]; exact hkC) (by rw [q2]; exact va_assign hcls) rfl rfl hd (fun H1 e1 z1 o1 => ?_)
      refine hN _ _ _ _ _ _ hn H1 _ ls (gw_rep_store hr z1 o1 h1 rfl (fun b hb jj => gw_sr_ne hb jj) (fun _ _ _ => rfl) ?_ (fun q hq => gw_locs hq)) hl
      have hk' : gw_kd (gw_sr S a i.toNatClampNeg r) a = 14 := hk
      refine ⟨fun z => ?_, fun z => ?_, fun z => ?_, fun q hq => ?_⟩
      · omega
      · omega
      · rw [e1, arrV_store]
        exact congrArg some (upd _)
      · rw [hk'] at hq
        have := (gw_cls hq).2.2.2.2
        omega
  · exact h.elim
end SND2
end
section
/-! ===== soundness: fields, arrays, new cells ===== -/
section SND3
variable {p : Program} {l : Launch} {e : Env} {R : Room} {s : State} {m : MethodId} {args : Array Value} {below : List Frame} {meth : Method} {c : Code} {Z : State → Prop} {x : gw_C} {nL : Nat} {cb : ByteArray} {own : String}
variable {ok : gw_Ok} {mc ms pc : Nat} {Q : Option Value → gw_S → gw_M → Prop} {K : Nat → gw_Kt} {an : List Nat} {iv : List Int32} {sg : List gw_Sig} {lv st : List Value} {S : gw_S} {μ : gw_M} {cc ss : Nat} {N : gw_Kt} {rt : Option FieldType} {j : Nat}
theorem gw_s_putfield (F : gw_fx p s m args c x nL cb own) (hin0 : meth.name = "<init>" ∨ ¬ 1 = (an.getD 2 0)) (hd : decode cb pc = .ok (.putfield j, 3)) (hlk : gw_lk own nL rt pc (.putfield j) an iv sg = true) (h : gw_step ok x mc ms Q K (.putfield j) an iv sg lv st S μ cc ss N) (hN : ∀ lv st S μ cc ss, N lv st S μ cc ss → gw_at p l e R s m args below meth c Z x nL (pc + 3) lv st S μ cc ss) (hK : ∀ t lv st S μ cc ss, K t lv st S μ cc ss → gw_at p l e R s m args below meth c Z x nL t lv st S μ cc ss) : gw_at p l e R s m args below meth c Z x nL pc lv st S μ cc ss := by
  simp only [gw_step] at h
  simp only [gw_lk] at hlk
  have fld : ∀ (ci k a : Nat) (S' : gw_S) (μ' : gw_M) (v : Value), S'.2 = S.2 → (∀ k', k' ≠ k → gw_fld x S' μ' a ci k' = gw_fld x S μ a ci k') → gw_fld x S' μ' a ci k = v → ∀ j', updV (gw_fld x S μ a ci) k v j' = gw_fld x S' μ' a ci j' := by
    intro ci k a S' μ' v _ h1 h2 j'
    by_cases hj : j' = k
    · subst hj
      simp [updV, h2]
    · simp [updV, hj, h1 j' hj]
  have cellOf : ∀ (ci k a : Nat) (q : vw_C) (S' : gw_S) (μ' : gw_M) (v : Value) (H1 : Heap) (cell : Cell), vwCl[ci]? = some q → gw_kd S a = ci → k < q.2.2 → S'.2 = S.2 → (∀ k', k' ≠ k → gw_fld x S' μ' a ci k' = gw_fld x S μ a ci k') → gw_fld x S' μ' a ci k = v → cell.cls = x.2.2.1.1 ci → cell.vm = .none → (∀ k', k' < q.2.2 → cell.slots[x.2.2.1.2 ci k']? = some (gw_fld x S μ a ci k')) → H1[x.1 + a]? = some (cell.setSlot (x.2.2.1.2 ci k) v) → gw_cell x S' μ' a H1 := by
    intro ci k a q S' μ' v H1 cell hq hka hk hS2 hf1 hf2 c1 c2 c3 e1
    have hkd' : gw_kd S' a = ci := by rw [← hka]; simp only [gw_kd, hS2]
    have hci := (gw_cls hq).2.2.2.2
    refine ⟨fun z => by omega, fun z => by omega, fun z => by omega, fun q' hq' => ?_⟩
    rw [hkd'] at hq' ⊢
    cases hq.symm.trans hq'
    have hap := va_apart (own := own) F.2.2.2.2.1 (gw_cls hq).1 (gw_ty ci) (gw_cls hq).2.1 (gw_cls hq).2.2.1 F.2.2.2.2.2.1 hq
    exact t_OB.to (V := updV (gw_fld x S μ a ci) k v) ⟨_, e1, c1, c2, t_set c3 hap hk v⟩ (fun j' _ => fld ci k a S' μ' v hS2 hf1 hf2 j')
  split at h
  · rename_i ci k ti r a t
    obtain ⟨hka, hr0, hn⟩ := h
    cases hq : vwCl[ci]? with
    | none => simp [hq] at hlk
    | some q =>
      simp only [hq, Bool.and_eq_true, decide_eq_true_eq] at hlk
      obtain ⟨⟨⟨⟨hk, hft⟩, hfin⟩, hown⟩, hli⟩ := hlk
      intro H locs ls hr hl
      obtain ⟨h1, h2, hc, hra⟩ := gw_kd_ok hr hka (by have := (gw_cls hq).2.2.2.2; omega)
      have hob := hc.2.2.2 q (by rw [hka]; exact hq)
      rw [hka] at hob
      obtain ⟨cell, q1, q2, q3, q4⟩ := hob
      obtain ⟨hS, hfc, kC, hkC, hkind⟩ := F.2.2.2.2.2.1.1 ci q hq
      obtain ⟨cf, kf, fi, f, hi, hsl⟩ := hS k hk
      have hst := (u_facts hfc hkC (u_lays F.2.2.2.2.1 (gw_cls hq).1 hk) hi).1
      have hlay := F.2.2.2.2.1 _ ((gw_cls hq).1 _ (u_in_lay hk))
      unfold u_lay at hlay
      rw [if_pos (by simpa using hfin)] at hlay
      have hcf : m.cls = cf := by
        obtain ⟨_, _, c', _, _, _, -, -, hf', -, -, -, hown2, -⟩ := Cond.laysFinal_spec hlay
        have e1 : c' = cf := by have := hi.symm.trans hf'; simp at this; exact this.1.symm
        rw [hown trivial] at hown2
        rw [← e1]; exact Option.some.inj (F.2.2.2.1.symm.trans hown2)
      have hty : gw_ty ci k = .int ∨ gw_ty ci k = .boolean ∨ ∀ b, narrow (gw_ty ci k) (.ref b) = .ref b ∧ (fits (gw_ty ci k) (.ref b) = true ∨ True) := by
        right; right
        intro b
        cases gw_ty ci k <;> exact ⟨rfl, Or.inr trivial⟩
      have h6 : narrow f.type (Value.ref (x.1 + r)) = Value.ref (x.1 + r) ∧ s.fitsSlot cell.cls .none f.slot (Value.ref (x.1 + r)) = true := by
        rw [q2]
        refine u_fits hfc hkC hkind (Or.inr hlay) hi ((gw_cls hq).2.1 k hk) ?_ ?_
        · cases gw_ty ci k <;> rfl
        · have hfr : ∀ (ci k : Nat), ci < 12 → k < gw_nf ci → gw_ft (gw_ty ci k) = 1 → (∃ n, gw_ty ci k = .object n) ∨ ∃ t, gw_ty ci k = .array t := by
            intro ci k hci hk hf
            have hall : ∀ ci, ci < 12 → ∀ k, k < 15 → k < gw_nf ci → gw_ft (gw_ty ci k) = 1 → (match gw_ty ci k with | .object _ => true | .array _ => true | _ => false) = true := by decide +kernel
            have hn15 : ∀ ci, ci < 12 → gw_nf ci ≤ 15 := by decide
            have := hall ci hci k (by have := hn15 ci hci; omega) hk hf
            cases hgt : gw_ty ci k with
            | object n => exact Or.inl ⟨n, rfl⟩
            | array t => exact Or.inr ⟨t, rfl⟩
            | _ => rw [hgt] at this; cases this
          rcases hfr ci k (gw_cls hq).2.2.2.2 (by rw [← (gw_cls hq).2.2.2.1]; exact hk) hft.symm with ⟨n, hn⟩ | ⟨n, hn⟩ <;> rw [hn] <;> rfl
      have hin1 : meth.name = "<init>" := by
        rcases hin0 with z | z
        · exact z
        · exact absurd rfl z
      show W p l e R s m args below meth c H locs cc ss Z (F0 m pc ls (gw_v x (.ref r) :: gw_v x (.ref a) :: t.map (gw_v x)))
      rw [hra, gw_v_ref x hr0]
      refine W.putFinK F.1 F.2.1 F.2.2.2.1 (F.2.2.2.2.1 _ (gw_is_spec hli)) hi hst hcf hin1 h6 q1 q3 (by rw [hsl]; exact k2_hasslot (q4 k hk)) rfl rfl hd (fun H1 e1 z1 o1 => ?_)
      rw [hsl] at e1
      refine hN _ _ _ _ _ _ hn H1 _ ls (gw_rep_store hr z1 o1 h1 rfl (fun b hb jj => gw_sr_ne hb jj) (fun _ _ _ => rfl) ?_ (fun q hq => gw_locs hq)) hl
      refine cellOf ci k a q _ _ (.ref (x.1 + r)) H1 cell hq hka hk rfl (fun k' hk' => ?_) ?_ q2 q3 q4 e1
      · simp [gw_fld, gw_rf, gw_sr, hk']
      · rw [gw_fld, if_pos hft.symm]
        simp only [gw_rf, gw_sr, and_self, if_true]
        exact gw_v_ref x hr0
  · rename_i ci k ti v a t
    obtain ⟨hka, hv01, hn⟩ := h
    cases hq : vwCl[ci]? with
    | none => simp [hq] at hlk
    | some q =>
      simp only [hq, Bool.and_eq_true, decide_eq_true_eq] at hlk
      obtain ⟨⟨⟨⟨hk, hft⟩, hfin⟩, hown⟩, hli⟩ := hlk
      intro H locs ls hr hl
      obtain ⟨h1, h2, hc, hra⟩ := gw_kd_ok hr hka (by have := (gw_cls hq).2.2.2.2; omega)
      have hob := hc.2.2.2 q (by rw [hka]; exact hq)
      rw [hka] at hob
      obtain ⟨cell, q1, q2, q3, q4⟩ := hob
      obtain ⟨hS, hfc, kC, hkC, hkind⟩ := F.2.2.2.2.2.1.1 ci q hq
      obtain ⟨cf, kf, fi, f, hi, hsl⟩ := hS k hk
      have hst := (u_facts hfc hkC (u_lays F.2.2.2.2.1 (gw_cls hq).1 hk) hi).1
      have hlay := F.2.2.2.2.1 _ ((gw_cls hq).1 _ (u_in_lay hk))
      unfold u_lay at hlay
      rw [if_neg (by simp at hfin; simp [hfin])] at hlay
      have hgt : gw_ty ci k = .boolean := by
        cases hz : gw_ty ci k <;> rw [hz] at hft <;> first | rfl | (simp [gw_ft] at hft)
      have h6 : k2_Sd s f cell.cls (Value.int v) := by
        rw [q2]
        refine u_store hfc hkC hkind hlay hi ((gw_cls hq).2.1 k hk) ?_ ?_
        · rw [hgt]; rcases hv01 with rfl | rfl <;> rfl
        · rw [hgt]; rcases hv01 with rfl | rfl <;> rfl
      show W p l e R s m args below meth c H locs cc ss Z (F0 m pc ls (.int v :: gw_v x (.ref a) :: t.map (gw_v x)))
      rw [hra]
      refine W.putK F.1 F.2.1 (f := f) ⟨F.2.2.2.1, F.2.2.2.2.1 _ (gw_is_spec hli), ⟨_, _, _, hi⟩, hst⟩ h6 q1 q3 (by rw [hsl]; exact k2_hasslot (q4 k hk)) rfl rfl hd (fun H1 e1 z1 o1 => ?_)
      rw [hsl] at e1
      refine hN _ _ _ _ _ _ hn H1 _ ls (gw_rep_store hr z1 o1 h1 rfl (fun _ _ _ => rfl) (fun b hb jj => gw_up_ne hb jj) ?_ (fun q hq => gw_locs hq)) hl
      refine cellOf ci k a q _ _ (.int v) H1 cell hq hka hk rfl (fun k' hk' => ?_) ?_ q2 q3 q4 e1
      · simp [gw_fld, gw_up, hk']
      · rw [gw_fld, if_neg (by rw [← hft]; decide)]
        simp [gw_up]
  · rename_i ci k ti v a t
    obtain ⟨hka, hn⟩ := h
    cases hq : vwCl[ci]? with
    | none => simp [hq] at hlk
    | some q =>
      simp only [hq, Bool.and_eq_true, decide_eq_true_eq] at hlk
      obtain ⟨⟨⟨⟨hk, hft⟩, hfin⟩, hown⟩, hli⟩ := hlk
      intro H locs ls hr hl
      obtain ⟨h1, h2, hc, hra⟩ := gw_kd_ok hr hka (by have := (gw_cls hq).2.2.2.2; omega)
      have hob := hc.2.2.2 q (by rw [hka]; exact hq)
      rw [hka] at hob
      obtain ⟨cell, q1, q2, q3, q4⟩ := hob
      obtain ⟨hS, hfc, kC, hkC, hkind⟩ := F.2.2.2.2.2.1.1 ci q hq
      obtain ⟨cf, kf, fi, f, hi, hsl⟩ := hS k hk
      have hst := (u_facts hfc hkC (u_lays F.2.2.2.2.1 (gw_cls hq).1 hk) hi).1
      have hlay := F.2.2.2.2.1 _ ((gw_cls hq).1 _ (u_in_lay hk))
      unfold u_lay at hlay
      rw [if_neg (by simp at hfin; simp [hfin])] at hlay
      have hgt : gw_ty ci k = .int := by
        cases hz : gw_ty ci k <;> rw [hz] at hft <;> first | rfl | (simp [gw_ft] at hft)
      have h6 : k2_Sd s f cell.cls (Value.int v) := by
        rw [q2]
        refine u_store hfc hkC hkind hlay hi ((gw_cls hq).2.1 k hk) ?_ ?_
        · rw [hgt]; rfl
        · rw [hgt]; rfl
      show W p l e R s m args below meth c H locs cc ss Z (F0 m pc ls (.int v :: gw_v x (.ref a) :: t.map (gw_v x)))
      rw [hra]
      refine W.putK F.1 F.2.1 (f := f) ⟨F.2.2.2.1, F.2.2.2.2.1 _ (gw_is_spec hli), ⟨_, _, _, hi⟩, hst⟩ h6 q1 q3 (by rw [hsl]; exact k2_hasslot (q4 k hk)) rfl rfl hd (fun H1 e1 z1 o1 => ?_)
      rw [hsl] at e1
      refine hN _ _ _ _ _ _ hn H1 _ ls (gw_rep_store hr z1 o1 h1 rfl (fun _ _ _ => rfl) (fun b hb jj => gw_up_ne hb jj) ?_ (fun q hq => gw_locs hq)) hl
      refine cellOf ci k a q _ _ (.int v) H1 cell hq hka hk rfl (fun k' hk' => ?_) ?_ q2 q3 q4 e1
      · simp [gw_fld, gw_up, hk']
      · rw [gw_fld, if_neg (by rw [← hft]; decide)]
        simp [gw_up]
  · exact h.elim
end SND3
end
section
/-! ===== soundness: fields, arrays, new cells ===== -/
section SND4
variable {p : Program} {l : Launch} {e : Env} {R : Room} {s : State} {m : MethodId} {args : Array Value} {below : List Frame} {meth : Method} {c : Code} {Z : State → Prop} {x : gw_C} {nL : Nat} {cb : ByteArray} {own : String}
variable {ok : gw_Ok} {mc ms pc : Nat} {Q : Option Value → gw_S → gw_M → Prop} {K : Nat → gw_Kt} {an : List Nat} {iv : List Int32} {sg : List gw_Sig} {lv st : List Value} {S : gw_S} {μ : gw_M} {cc ss : Nat} {N : gw_Kt} {rt : Option FieldType} {j : Nat}
variable {aty : ArrayType}
theorem gw_s_newarray (F : gw_fx p s m args c x nL cb own) (hRm : mc ≤ R.cells ∧ ms ≤ R.slots) (hac : (Cond.arrayClass .int).before args s = true) (hd : decode cb pc = .ok (.newarray aty, 2)) (hlk : gw_lk own nL rt pc (.newarray aty) an iv sg = true) (h : gw_step ok x mc ms Q K (.newarray aty) an iv sg lv st S μ cc ss N) (hN : ∀ lv st S μ cc ss, N lv st S μ cc ss → gw_at p l e R s m args below meth c Z x nL (pc + 2) lv st S μ cc ss) (hK : ∀ t lv st S μ cc ss, K t lv st S μ cc ss → gw_at p l e R s m args below meth c Z x nL t lv st S μ cc ss) : gw_at p l e R s m args below meth c Z x nL pc lv st S μ cc ss := by
  simp only [gw_step] at h
  simp only [gw_lk, decide_eq_true_eq] at hlk
  subst hlk
  split at h
  · rename_i n t
    obtain ⟨hin, h1, h2, hn⟩ := h
    intro H locs ls hr hl
    refine va_newaK F.1 F.2.1 (atype := .int) hac rfl hd rfl (Int32.not_lt.mpr hin.1) rfl ?_ (by omega) (by omega) (h := x.1 + (gw_nn S + 1)) (by rw [hr.2.2.1]; omega) (fun H1 cA e1 z1 o1 hAr hNm => ?_)
    · have : componentBytes (newarray.typeOf .int) = 4 := rfl
      rw [this]
      have := hin.2
      omega
    · have hcA : cA = x.2.2.2.1 := by
        have := (F.2.2.2.2.2.1.2 0 _ rfl).2
        exact Option.some.inj (hNm.symm.trans this)
      subst hcA
      refine hN _ _ _ _ _ _ hn H1 locs ls (gw_rep_new hr (by rw [z1, hr.2.2.1]; omega) (fun q hq => o1 q (by rw [hr.2.2.1] at hq; omega)) ?_) hl
      have hk : gw_kd (gw_new S 12 n.toNatClampNeg) (gw_nn S + 1) = 12 := by simp [gw_kd, gw_new, gw_nn]
      refine ⟨fun _ => ?_, fun z => by omega, fun z => by omega, fun q hq => ?_⟩
      · rw [e1]
        have e2 : gw_ln (gw_new S 12 n.toNatClampNeg) (gw_nn S + 1) = n.toNatClampNeg := by simp [gw_ln, gw_new, gw_nn]
        rw [e2]
        congr 2
        funext jj
        simp [gw_row]
        rfl
      · rw [hk] at hq
        have := (gw_cls hq).2.2.2.2
        omega
  · exact h.elim
theorem gw_s_anewarray (F : gw_fx p s m args c x nL cb own) (hRm : mc ≤ R.cells ∧ ms ≤ R.slots) (hd : decode cb pc = .ok (.anewarray j, 3)) (hlk : gw_lk own nL rt pc (.anewarray j) an iv sg = true) (h : gw_step ok x mc ms Q K (.anewarray j) an iv sg lv st S μ cc ss N) (hN : ∀ lv st S μ cc ss, N lv st S μ cc ss → gw_at p l e R s m args below meth c Z x nL (pc + 3) lv st S μ cc ss) (hK : ∀ t lv st S μ cc ss, K t lv st S μ cc ss → gw_at p l e R s m args below meth c Z x nL t lv st S μ cc ss) : gw_at p l e R s m args below meth c Z x nL pc lv st S μ cc ss := by
  simp only [gw_step] at h
  simp only [gw_lk] at hlk
  have key : ∀ (C : String) (kd t1 : Nat) (cA' : ClassId) (n : Int32) (t : List Value), an.head? = some kd → (Cond.classLink own j C) ∈ gw_tb → (Cond.arrayOver (.object C)) ∈ gw_tb → va_RA s cA' (.object C) → (kd = 13 ∧ cA' = x.2.2.2.2.1 ∨ kd = 14 ∧ cA' = x.2.2.2.2.2.1) → gw_in n 100000 → cc + 1 ≤ mc → ss + n.toNatClampNeg ≤ ms → N lv (.ref (gw_nn S + 1) :: t) (gw_new S kd n.toNatClampNeg) (gw_row μ (gw_nn S + 1) (fun _ => 0)) (cc + 1) (ss + n.toNatClampNeg) → gw_at p l e R s m args below meth c Z x nL pc lv (.int n :: t) S μ cc ss := by
    intro C kd t1 cA' n t han hc1 hc2 hRA hkd hin h1 h2 hn H locs ls hr hl
    refine W.anew F.1 F.2.1 F.2.2.2.1 (F.2.2.2.2.1 _ hc1) (F.2.2.2.2.1 _ hc2) rfl hd rfl (Int32.not_lt.mpr hin.1) (by have := hin.2; omega) (by omega) (by omega) (fun cA kA comp f1 f2 f3 f4 => ?_)
    have hcA : cA = cA' := by
      obtain ⟨kA', comp', -, -, -, g4⟩ := hRA
      exact Option.some.inj (f1.symm.trans g4)
    subst hcA
    generalize hH1 : H.push ({ cls := cA, slots := Array.replicate n.toNatClampNeg .null, vm := .none } : Cell) = H1
    have z1 : H1.size = H.size + 1 := by rw [← hH1, Array.size_push]
    have e1 : H1[H.size]? = some (arrV cA n.toNatClampNeg (fun _ => .null)) := by rw [← hH1, Array.getElem?_push_size, ← arrV_new]
    have o1 : ∀ q : Nat, q < H.size → H1[q]? = H[q]? := fun q hq => by rw [← hH1, Array.getElem?_push, if_neg (Nat.ne_of_lt hq)]
    have eH : H.size = x.1 + (gw_nn S + 1) := by rw [hr.2.2.1]; omega
    rw [eH] at e1 ⊢
    refine hN _ _ _ _ _ _ hn H1 locs ls (gw_rep_new hr z1 o1 ?_) hl
    have hk : gw_kd (gw_new S kd n.toNatClampNeg) (gw_nn S + 1) = kd := by simp [gw_kd, gw_new, gw_nn]
    have e2 : gw_ln (gw_new S kd n.toNatClampNeg) (gw_nn S + 1) = n.toNatClampNeg := by simp [gw_ln, gw_new, gw_nn]
    have e3 : (fun jj => gw_v x (.ref (gw_rf (gw_new S kd n.toNatClampNeg) (gw_nn S + 1) jj))) = fun _ => .null := by
      funext jj
      simp [gw_rf, gw_new, gw_nn, gw_v]
    refine ⟨fun z => by omega, fun z => ?_, fun z => ?_, fun q hq => ?_⟩
    · rw [e1, e2, e3]
      rcases hkd with ⟨_, rfl⟩ | ⟨q, _⟩
      · rfl
      · omega
    · rw [e1, e2, e3]
      rcases hkd with ⟨q, _⟩ | ⟨_, rfl⟩
      · omega
      · rfl
    · rw [hk] at hq
      have := (gw_cls hq).2.2.2.2
      omega
  split at h
  · rename_i kd rest n t
    obtain ⟨hin, h1, h2, hn⟩ := h
    split at hlk
    · rename_i heq
      cases heq
      simp only [Bool.or_eq_true, Bool.and_eq_true, decide_eq_true_eq] at hlk
      rcases hlk with ⟨⟨rfl, c1⟩, c2⟩ | ⟨⟨rfl, c1⟩, c2⟩
      · exact key RX1 13 0 _ n t rfl (gw_is_spec c1) (gw_is_spec c2) (F.2.2.2.2.2.1.2 1 _ rfl).2 (Or.inl ⟨rfl, rfl⟩) hin h1 h2 hn
      · exact key RX3 14 0 _ n t rfl (gw_is_spec c1) (gw_is_spec c2) (F.2.2.2.2.2.1.2 2 _ rfl).2 (Or.inr ⟨rfl, rfl⟩) hin h1 h2 hn
    · cases hlk
  · exact h.elim
theorem gw_dflt : ∀ ci, ci < 12 → ∀ k, k < 15 → k < gw_nf ci → defaultValue (gw_ty ci k) = if gw_ft (gw_ty ci k) = 1 then .null else .int 0 := by decide +kernel
theorem gw_nf15 : ∀ ci, ci < 12 → gw_nf ci ≤ 15 := by decide
theorem gw_s_new (F : gw_fx p s m args c x nL cb own) (hRm : mc ≤ R.cells ∧ ms ≤ R.slots) (hd : decode cb pc = .ok (.new j, 3)) (hlk : gw_lk own nL rt pc (.new j) an iv sg = true) (h : gw_step ok x mc ms Q K (.new j) an iv sg lv st S μ cc ss N) (hN : ∀ lv st S μ cc ss, N lv st S μ cc ss → gw_at p l e R s m args below meth c Z x nL (pc + 3) lv st S μ cc ss) (hK : ∀ t lv st S μ cc ss, K t lv st S μ cc ss → gw_at p l e R s m args below meth c Z x nL t lv st S μ cc ss) : gw_at p l e R s m args below meth c Z x nL pc lv st S μ cc ss := by
  simp only [gw_step] at h
  simp only [gw_lk] at hlk
  split at h
  · rename_i ci rest
    obtain ⟨h1, h2, hn⟩ := h
    split at hlk
    · rename_i heq
      cases heq
      cases hq : vwCl[ci]? with
      | none => simp [hq] at hlk
      | some q =>
        simp only [hq, Bool.and_eq_true] at hlk
        obtain ⟨⟨c1, c2⟩, c3⟩ := hlk
        intro H locs ls hr hl
        have hKn := F.2.2.2.2.2.1.1 ci q hq
        have hnf := (gw_cls hq).2.2.2.1
        have hci := (gw_cls hq).2.2.2.2
        refine W.widen (k := cc) (n := ss) (Nat.le_refl _) (Nat.le_refl _) ?_
        refine W.newcK F.1 F.2.1 F.2.2.2.1 (F.2.2.2.2.1 _ (gw_is_spec c1)) (F.2.2.2.2.1 _ (gw_is_spec c2)) (F.2.2.2.2.1 _ (gw_is_spec c3)) rfl hd (by omega) (by rw [hnf]; omega) hKn.2.1 (h := x.1 + (gw_nn S + 1)) (by rw [hr.2.2.1]; omega) (fun H1 kC hkC e1 z1 o1 => ?_)
        rw [hnf]
        refine hN _ _ _ _ _ _ hn H1 locs ls (gw_rep_new hr (by rw [z1, hr.2.2.1]; omega) (fun q hq => o1 q (by rw [hr.2.2.1] at hq; omega)) ?_) hl
        have hk : gw_kd (gw_new S ci 0) (gw_nn S + 1) = ci := by simp [gw_kd, gw_new, gw_nn]
        refine ⟨fun z => by omega, fun z => by omega, fun z => by omega, fun q' hq' => ?_⟩
        rw [hk] at hq' ⊢
        cases hq.symm.trans hq'
        refine (u_born (gw_ty ci) F.2.2.2.2.1 (gw_cls hq).1 hKn hkC e1 (gw_cls hq).2.1).to (fun k hk => ?_)
        rw [gw_dflt ci hci k (by have := gw_nf15 ci hci; omega) (by omega)]
        simp only [gw_fld]
        split
        · simp [gw_rf, gw_new, gw_nn, gw_v]
        · simp [gw_row]
    · cases hlk
  · exact h.elim
end SND4
end
section
/-! ===== soundness: fields, arrays, new cells ===== -/
section SND5
variable {p : Program} {l : Launch} {e : Env} {R : Room} {s : State} {m : MethodId} {args : Array Value} {below : List Frame} {meth : Method} {c : Code} {Z : State → Prop} {x : gw_C} {nL : Nat} {cb : ByteArray} {own : String}
variable {d : Nat} {mc ms pc : Nat} {Q : Option Value → gw_S → gw_M → Prop} {K : Nat → gw_Kt} {an : List Nat} {iv : List Int32} {sg : List gw_Sig} {lv st : List Value} {S : gw_S} {μ : gw_M} {cc ss : Nat} {N : gw_Kt} {rt : Option FieldType} {j : Nat}
theorem gw_r8_sum (x : gw_C) : ∀ (l : List Value) (n : Nat), gw_r8 l n = true → ((l.map (gw_v x)).map fun v => v.category).sum ≤ n
  | [], n, _ => by simp
  | v :: l, 0, h => by cases v <;> simp [gw_r8] at h
  | v :: l, n + 1, h => by
    have hc : v.category = 1 ∧ gw_r8 l n = true := by
      cases v <;> simp [gw_r8] at h <;> exact ⟨rfl, h⟩
    have := gw_r8_sum x l n hc.2
    have h2 := gw_v_cat x hc.1
    simp only [List.map_cons, List.sum_cons, h2]
    omega
theorem gw_nth_split : ∀ (l : List Value) (n : Nat) (v : Value), gw_nth l n = v → v ≠ .retAddr 0 → l = l.take n ++ v :: l.drop (n + 1) ∧ n < l.length
  | [], n, v, h, hv => absurd h.symm hv
  | w :: l, 0, v, h, hv => by
    subst h
    simp [gw_nth]
  | w :: l, n + 1, v, h, hv => by
    obtain ⟨h1, h2⟩ := gw_nth_split l n v h hv
    refine ⟨?_, by simp; exact h2⟩
    simp only [List.take_succ_cons, List.drop_succ_cons, List.cons_append]
    rw [← h1]
theorem gw_blind (x : gw_C) (av : List Value) (S : gw_S) (μ : gw_M) : FrameBlind (va_Pc av (gw_wd x S μ)) := fun a U g mk q => ⟨q.1, q.2.1, gw_kk_same (u := U) (U := U.calling g mk a) rfl q.2.2⟩
theorem gw_pre {as : List Value} {H : Heap} {locs : List Loc} (hr : gw_rep x S μ H locs) (hk : gw_kk x s) : ∀ U : State, U.heap = H → s.WarmedH U.vm → va_Pc as (gw_wd x S μ) as.toArray U := fun U hU hW => ⟨rfl, by rw [hU]; exact ⟨hr.1, hr.2.1, hr.2.2.1, hr.2.2.2.1, hr.2.2.2.2.1, fun q hq => by cases hq⟩, gw_kk_moved hW hk⟩
theorem gw_callrow {mc' ms' : Nat} {ls : Array Slot} {st0 rest : List Value} {H : Heap} {locs : List Loc} {a : Array Value} {Q' : Option Value → gw_S → gw_M → Prop} (hr : va_Run p l e R s m args below meth c H locs cc ss mc' ms' (F0 m pc ls st0) rest (gw_qc x Q' a) (gw_A x)) (hloc : ∀ q ∈ locs, x.1 < q.base)
    (kk : ∀ (r : Option Value) (S' : gw_S) (μ' : gw_M) (H1 : Heap) (locs1 : List Loc), Q' r S' μ' → gw_rep x S' μ' H1 locs1 → W p l e R s m args below meth c H1 locs1 (cc + mc') (ss + ms') Z (F0 m (pc + 3) ls ((r.map (gw_v x)).toList ++ rest))) : W p l e R s m args below meth c H locs cc ss Z (F0 m pc ls st0) := by
  intro T hT X
  obtain ⟨v, st₀, t, T', L, h0, X', hL, e1, e2, ⟨r, S', μ', hv, hq, hw⟩, st⟩ := hr T hT X
  cases hv
  obtain ⟨t2, a1, b1⟩ := kk r S' μ' T'.heap (locs ++ L) hq (by
    rw [e1]
    obtain ⟨⟨w1, w2, w3, w4, w5, w6⟩, -⟩ := hw
    exact ⟨w1, w2, w3, w4, w5, fun q hq => (List.mem_append.mp hq).elim (hloc q) (hL q)⟩) T' rfl X'
  exact ⟨t2, st t2 a1, b1⟩
theorem gw_good {g : gw_Sig} (h : Cond.code g.1 g.2.1 g.2.2.1 g.2.2.2 ∈ gw_tb) : GoodIn gw_tb (gw_wsg g) := fun w hw => by
  have hm : w ∈ gw_tb := (List.mem_cons.mp hw).elim (fun e => e ▸ h) id
  exact ⟨hm, good_of_word (gw_tb_good w hm)⟩
theorem gw_call_spec {g : gw_Sig} {n : Nat} (h : gw_call g n = true) : (g.1.cls ≠ "java/lang/invoke/MethodHandle" ∧ g.1.cls ≠ "java/lang/invoke/VarHandle" ∧ (parseMethodDescriptor g.1.desc).map (fun d => d.parameters.length) = some n) ∧ g.2.2.1 ≤ 20 := by
  simp only [gw_call, Bool.and_eq_true, decide_eq_true_eq] at h
  exact ⟨⟨h.1.1.1, h.1.1.2, h.1.2⟩, h.2⟩
theorem gw_ret_map (r : Option Value) (t : List Value) : (r.map (gw_v x)).toList ++ t.map (gw_v x) = (r.toList ++ t).map (gw_v x) := by cases r <;> rfl
theorem gw_s_invokevirtual (F : gw_fx p s m args c x nL cb own) (hRm : mc ≤ R.cells ∧ ms ≤ R.slots) (hRf : d + 1 ≤ R.frames ∧ 40 * d + 40 ≤ R.locals) (hd : decode cb pc = .ok (.invokevirtual j, 3)) (hlk : gw_lk own nL rt pc (.invokevirtual j) an iv sg = true) (h : gw_step (gw_ok l x d) x mc ms Q K (.invokevirtual j) an iv sg lv st S μ cc ss N) (hN : ∀ lv st S μ cc ss, N lv st S μ cc ss → gw_at p l e R s m args below meth c Z x nL (pc + 3) lv st S μ cc ss) (hK : ∀ t lv st S μ cc ss, K t lv st S μ cc ss → gw_at p l e R s m args below meth c Z x nL t lv st S μ cc ss) : gw_at p l e R s m args below meth c Z x nL pc lv st S μ cc ss := by
  simp only [gw_step] at h
  simp only [gw_lk] at hlk
  split at h
  · rename_i n ci rest0 g
    cases hv : gw_nth st n with
    | ref a =>
      rw [hv] at h
      obtain ⟨hka, hr8, mc', ms', hm1, hm2, hcode, hM⟩ := h
      obtain ⟨hsp, hlt⟩ := gw_nth_split st n _ hv (fun z => by cases z)
      split at hlk
      · rename_i heq1 heq2
        cases heq1
        cases heq2
        cases hq : vwCl[ci]? with
        | none => simp [hq] at hlk
        | some q =>
          simp only [hq, Bool.and_eq_true, decide_eq_true_eq] at hlk
          obtain ⟨⟨⟨⟨⟨c0, c1⟩, c2⟩, c3⟩, c4⟩, c5⟩ := hlk
          obtain ⟨cd, cl⟩ := gw_call_spec c1
          intro H locs ls hr hl
          obtain ⟨g1, g2, hc, hra⟩ := gw_kd_ok hr hka (by have := (gw_cls hq).2.2.2.2; omega)
          have hob := hc.2.2.2 q (by rw [hka]; exact hq)
          rw [hka] at hob
          obtain ⟨cell, q1, q2, q3, q4⟩ := hob
          refine gw_callrow (mc' := mc') (ms' := ms') (rest := (st.drop (n + 1)).map (gw_v x)) (va_runV (bytes := g.2.1) (maxL := g.2.2.1) (ret := g.2.2.2) (n := n) (As := ((st.take n).reverse).map (gw_v x)) (b := x.1 + a) (C := q.1) ⟨F.1, F.2.1, F.2.2.1, F.2.2.2.1, F.2.2.2.2.1⟩ hM ?_ ⟨gw_blind x _ S μ, ⟨cell, q1, by rw [q3]; rfl, ?_⟩, ?_⟩ rfl ?_ hl.1 ?_ (lv_room (gw_r8_sum x _ _ hr8)) hd ⟨by omega, by omega⟩) hr.2.2.2.2.2 ?_
          · exact ⟨callB_of n F.2.2.2.2.1 (gw_good hcode) rfl rfl rfl (by rw [c0]; exact F.2.2.2.2.1 _ (gw_is_spec c5)) (F.2.2.2.2.1 _ (gw_is_spec c2)) cd ⟨hRf.1, by show 8 + (g.2.2.1 + 11) + 40 * d ≤ R.locals; omega⟩, F.2.2.2.2.1 _ (gw_is_spec c3), F.2.2.2.2.1 _ (gw_is_spec c4)⟩
          · rw [q2]; exact (F.2.2.2.2.2.1.1 ci q hq).2.1
          · have := gw_pre (as := (gw_v x (.ref a)) :: ((st.take n).reverse).map (gw_v x)) hr F.2.2.2.2.2
            rw [hra] at this
            simpa only [List.map_cons, hra] using this
          · simp only [List.length_map, List.length_reverse, List.length_take]
            omega
          · show st.map (gw_v x) = _
            rw [← List.map_reverse, List.reverse_reverse, ← hra, ← List.map_cons, ← List.map_append, ← hsp]
          · intro r S' μ' H1 locs1 hq' hr'
            rw [gw_ret_map]
            exact hN _ _ _ _ _ _ hq' H1 locs1 ls hr' hl
      · cases hlk
    | retAddr v =>
      rw [hv] at h
      match v, h with
      | 0, h => exact h.elim
      | 1, h => exact h.elim
      | _ + 2, h => exact h.elim
    | _ => rw [hv] at h; exact h.elim
  · exact h.elim
theorem gw_st0 {n : Nat} {g : gw_Sig} (F : gw_fx p s m args c x nL cb own) (hRm : mc ≤ R.cells ∧ ms ≤ R.slots) (hRf : d + 1 ≤ R.frames ∧ 40 * d + 40 ≤ R.locals) (hd : decode cb pc = .ok (.invokestatic j, 3)) (c1 : gw_call g n = true) {t1 t2 t3 : Nat} (c2 : gw_is t1 (.methodLink own j g.1) = true) (c3 : gw_is t2 (.static g.1) = true) (c4 : gw_is t3 (.initialized g.1.cls) = true)
    (h : gw_r8 (st.drop n) 8 = true ∧ n ≤ st.length ∧ ∃ mc' ms', cc + mc' ≤ mc ∧ ss + ms' ≤ ms ∧ gw_ok l x d g mc' ms' (st.take n).reverse S μ (fun r S' μ' => N lv (r.toList ++ st.drop n) S' μ' (cc + mc') (ss + ms'))) (hN : ∀ lv st S μ cc ss, N lv st S μ cc ss → gw_at p l e R s m args below meth c Z x nL (pc + 3) lv st S μ cc ss) : gw_at p l e R s m args below meth c Z x nL pc lv st S μ cc ss := by
  obtain ⟨hr8, hlen, mc', ms', hm1, hm2, hcode, hM⟩ := h
  obtain ⟨cd, cl⟩ := gw_call_spec c1
  intro H locs ls hr hl
  refine gw_callrow (mc' := mc') (ms' := ms') (rest := (st.drop n).map (gw_v x)) (va_runS (As := ((st.take n).reverse).map (gw_v x)) ⟨F.1, F.2.1, F.2.2.1, F.2.2.2.1, F.2.2.2.2.1⟩ hM ⟨callB_of n F.2.2.2.2.1 (gw_good hcode) rfl rfl rfl (F.2.2.2.2.1 _ (gw_is_spec c4)) (F.2.2.2.2.1 _ (gw_is_spec c2)) cd ⟨hRf.1, by show 8 + (g.2.2.1 + 11) + 40 * d ≤ R.locals; omega⟩, F.2.2.2.2.1 _ (gw_is_spec c3)⟩ ⟨gw_blind x _ S μ, gw_pre hr F.2.2.2.2.2⟩ rfl ?_ hl.1 ?_ (lv_room (gw_r8_sum x _ _ hr8)) hd ⟨by omega, by omega⟩) hr.2.2.2.2.2 ?_
  · simp only [List.length_map, List.length_reverse, List.length_take]
    omega
  · show st.map (gw_v x) = _
    rw [← List.map_reverse, List.reverse_reverse, ← List.map_append, List.take_append_drop]
  · intro r S' μ' H1 locs1 hq' hr'
    rw [gw_ret_map]
    exact hN _ _ _ _ _ _ hq' H1 locs1 ls hr' hl
theorem gw_sp0 {n a : Nat} {g : gw_Sig} (F : gw_fx p s m args c x nL cb own) (hRm : mc ≤ R.cells ∧ ms ≤ R.slots) (hRf : d + 1 ≤ R.frames ∧ 40 * d + 40 ≤ R.locals) (hd : decode cb pc = .ok (.invokespecial j, 3)) (c1 : gw_call g n = true) (hnm : g.1.name = "<init>") (hrt : g.2.2.2 = none) {t1 t2 t3 : Nat} (c2 : gw_is t1 (.methodLink own j g.1) = true) (c3 : gw_is t2 (.instanceMethod g.1) = true) (c4 : gw_is t3 (.initialized g.1.cls) = true) (hv : gw_nth st n = .ref a)
    (h : ¬ a = 0 ∧ gw_r8 (st.drop (n + 1)) 8 = true ∧ ∃ mc' ms', cc + mc' ≤ mc ∧ ss + ms' ≤ ms ∧ gw_ok l x d g mc' ms' (.ref a :: (st.take n).reverse) S μ (fun r S' μ' => N lv (r.toList ++ st.drop (n + 1)) S' μ' (cc + mc') (ss + ms'))) (hN : ∀ lv st S μ cc ss, N lv st S μ cc ss → gw_at p l e R s m args below meth c Z x nL (pc + 3) lv st S μ cc ss) : gw_at p l e R s m args below meth c Z x nL pc lv st S μ cc ss := by
  obtain ⟨ha, hr8, mc', ms', hm1, hm2, hcode, hM⟩ := h
  obtain ⟨hsp, hlt⟩ := gw_nth_split st n _ hv (fun z => by cases z)
  obtain ⟨cd, cl⟩ := gw_call_spec c1
  have hra := gw_v_ref x ha
  intro H locs ls hr hl
  refine gw_callrow (mc' := mc') (ms' := ms') (rest := (st.drop (n + 1)).map (gw_v x)) (va_runI (As := ((st.take n).reverse).map (gw_v x)) (b := x.1 + a) ⟨F.1, F.2.1, F.2.2.1, F.2.2.2.1, F.2.2.2.2.1⟩ hM ⟨callB_of n F.2.2.2.2.1 (gw_good hcode) (by rw [gw_wsg, hrt]) rfl rfl (F.2.2.2.2.1 _ (gw_is_spec c4)) (F.2.2.2.2.1 _ (gw_is_spec c2)) cd ⟨hRf.1, by show 8 + (g.2.2.1 + 11) + 40 * d ≤ R.locals; omega⟩, hnm, F.2.2.2.2.1 _ (gw_is_spec c3)⟩ ⟨gw_blind x _ S μ, ?_⟩ rfl ?_ hl.1 ?_ (lv_room (gw_r8_sum x _ _ hr8)) hd ⟨by omega, by omega⟩) hr.2.2.2.2.2 ?_
  · have := gw_pre (as := (gw_v x (.ref a)) :: ((st.take n).reverse).map (gw_v x)) hr F.2.2.2.2.2
    rw [hra] at this
    simpa only [List.map_cons, hra] using this
  · simp only [List.length_map, List.length_reverse, List.length_take]
    omega
  · show st.map (gw_v x) = _
    rw [← List.map_reverse, List.reverse_reverse, ← hra, ← List.map_cons, ← List.map_append, ← hsp]
  · intro r S' μ' H1 locs1 hq' hr'
    rw [gw_ret_map]
    exact hN _ _ _ _ _ _ hq' H1 locs1 ls hr' hl
theorem gw_st1 {n : Nat} {g : gw_Sig} (F : gw_fx p s m args c x nL cb own) (hRm : mc ≤ R.cells ∧ ms ≤ R.slots) (hRf : d + 1 ≤ R.frames ∧ 40 * d + 40 ≤ R.locals) (hd : decode cb pc = .ok (.invokestatic j, 3)) (c1 : gw_call g n = true) {t1 t2 t3 : Nat} (c2 : gw_in1 t1 (.methodLinkNest own j g.1 RX10) = true) (c3 : gw_is t2 (.static g.1) = true) (c4 : gw_is t3 (.initialized g.1.cls) = true)
    (h : gw_r8 (st.drop n) 8 = true ∧ n ≤ st.length ∧ ∃ mc' ms', cc + mc' ≤ mc ∧ ss + ms' ≤ ms ∧ gw_ok l x d g mc' ms' (st.take n).reverse S μ (fun r S' μ' => N lv (r.toList ++ st.drop n) S' μ' (cc + mc') (ss + ms'))) (hN : ∀ lv st S μ cc ss, N lv st S μ cc ss → gw_at p l e R s m args below meth c Z x nL (pc + 3) lv st S μ cc ss) : gw_at p l e R s m args below meth c Z x nL pc lv st S μ cc ss := by
  obtain ⟨hr8, hlen, mc', ms', hm1, hm2, hcode, hM⟩ := h
  obtain ⟨cd, cl⟩ := gw_call_spec c1
  intro H locs ls hr hl
  refine gw_callrow (mc' := mc') (ms' := ms') (rest := (st.drop n).map (gw_v x)) (va_runSN (host := RX10) (As := ((st.take n).reverse).map (gw_v x)) ⟨F.1, F.2.1, F.2.2.1, F.2.2.2.1, F.2.2.2.2.1⟩ hM ⟨va_cnB n F.2.2.2.2.1 (gw_good hcode) rfl rfl rfl (F.2.2.2.2.2.2.2.2 _ (gw_in1_spec c2)) (F.2.2.2.2.1 _ (gw_is_spec c4)) cd ⟨hRf.1, by show 8 + (g.2.2.1 + 11) + 40 * d ≤ R.locals; omega⟩, F.2.2.2.2.1 _ (gw_is_spec c3), trivial⟩ ⟨gw_blind x _ S μ, gw_pre hr F.2.2.2.2.2⟩ rfl ?_ hl.1 ?_ (lv_room (gw_r8_sum x _ _ hr8)) hd ⟨by omega, by omega⟩) hr.2.2.2.2.2 ?_
  · simp only [List.length_map, List.length_reverse, List.length_take]
    omega
  · show st.map (gw_v x) = _
    rw [← List.map_reverse, List.reverse_reverse, ← List.map_append, List.take_append_drop]
  · intro r S' μ' H1 locs1 hq' hr'
    rw [gw_ret_map]
    exact hN _ _ _ _ _ _ hq' H1 locs1 ls hr' hl
theorem gw_sp1 {n a : Nat} {g : gw_Sig} (F : gw_fx p s m args c x nL cb own) (hRm : mc ≤ R.cells ∧ ms ≤ R.slots) (hRf : d + 1 ≤ R.frames ∧ 40 * d + 40 ≤ R.locals) (hd : decode cb pc = .ok (.invokespecial j, 3)) (c1 : gw_call g n = true) (hnm : g.1.name = "<init>") (hrt : g.2.2.2 = none) {t1 t2 t3 : Nat} (c2 : gw_in1 t1 (.methodLinkNest own j g.1 RX10) = true) (c3 : gw_is t2 (.instanceMethod g.1) = true) (c4 : gw_is t3 (.initialized g.1.cls) = true) (hv : gw_nth st n = .ref a)
    (h : ¬ a = 0 ∧ gw_r8 (st.drop (n + 1)) 8 = true ∧ ∃ mc' ms', cc + mc' ≤ mc ∧ ss + ms' ≤ ms ∧ gw_ok l x d g mc' ms' (.ref a :: (st.take n).reverse) S μ (fun r S' μ' => N lv (r.toList ++ st.drop (n + 1)) S' μ' (cc + mc') (ss + ms'))) (hN : ∀ lv st S μ cc ss, N lv st S μ cc ss → gw_at p l e R s m args below meth c Z x nL (pc + 3) lv st S μ cc ss) : gw_at p l e R s m args below meth c Z x nL pc lv st S μ cc ss := by
  obtain ⟨ha, hr8, mc', ms', hm1, hm2, hcode, hM⟩ := h
  obtain ⟨hsp, hlt⟩ := gw_nth_split st n _ hv (fun z => by cases z)
  obtain ⟨cd, cl⟩ := gw_call_spec c1
  have hra := gw_v_ref x ha
  intro H locs ls hr hl
  refine gw_callrow (mc' := mc') (ms' := ms') (rest := (st.drop (n + 1)).map (gw_v x)) (va_runIN (host := RX10) (As := ((st.take n).reverse).map (gw_v x)) (b := x.1 + a) ⟨F.1, F.2.1, F.2.2.1, F.2.2.2.1, F.2.2.2.2.1⟩ hM ⟨va_cnB n F.2.2.2.2.1 (gw_good hcode) (by rw [gw_wsg, hrt]) rfl rfl (F.2.2.2.2.2.2.2.2 _ (gw_in1_spec c2)) (F.2.2.2.2.1 _ (gw_is_spec c4)) cd ⟨hRf.1, by show 8 + (g.2.2.1 + 11) + 40 * d ≤ R.locals; omega⟩, hnm, F.2.2.2.2.1 _ (gw_is_spec c3)⟩ ⟨gw_blind x _ S μ, ?_⟩ rfl ?_ hl.1 ?_ (lv_room (gw_r8_sum x _ _ hr8)) hd ⟨by omega, by omega⟩) hr.2.2.2.2.2 ?_
  · have := gw_pre (as := (gw_v x (.ref a)) :: ((st.take n).reverse).map (gw_v x)) hr F.2.2.2.2.2
    rw [hra] at this
    simpa only [List.map_cons, hra] using this
  · simp only [List.length_map, List.length_reverse, List.length_take]
    omega
  · show st.map (gw_v x) = _
    rw [← List.map_reverse, List.reverse_reverse, ← hra, ← List.map_cons, ← List.map_append, ← hsp]
  · intro r S' μ' H1 locs1 hq' hr'
    rw [gw_ret_map]
    exact hN _ _ _ _ _ _ hq' H1 locs1 ls hr' hl
end SND5
end
section
/-! ===== soundness: fields, arrays, new cells ===== -/
section SND6
variable {p : Program} {l : Launch} {e : Env} {R : Room} {s : State} {m : MethodId} {args : Array Value} {below : List Frame} {meth : Method} {c : Code} {Z : State → Prop} {x : gw_C} {nL : Nat} {cb : ByteArray} {own : String}
variable {d : Nat} {mc ms pc : Nat} {Q : Option Value → gw_S → gw_M → Prop} {K : Nat → gw_Kt} {an : List Nat} {iv : List Int32} {sg : List gw_Sig} {lv st : List Value} {S : gw_S} {μ : gw_M} {cc ss : Nat} {N : gw_Kt} {rt : Option FieldType} {j : Nat}
theorem gw_ac : Cond.arrayClass .int ∈ gw_tb := gw_mem (i := 165) (by decide +kernel) rfl
theorem gw_nonneg {z : Int32} (h : 0 ≤ z) : z.toInt = (z.toNatClampNeg : Int) := by
  have h0 : (0 : Int) ≤ z.toInt := by simpa using Int32.le_iff_toInt_le.mp h
  show z.toInt = ((z.toInt.toNat : Nat) : Int)
  omega
/-- ints of one row into another -/
theorem gw_arraycopy {a b : Nat} {sp dp n : Int32} (F : gw_fx p s m args c x nL cb own) (hRf : d + 1 ≤ R.frames ∧ 40 * d + 40 ≤ R.locals) (hd : decode cb pc = .ok (.invokestatic j, 3)) {t1 t2 t3 t4 : Nat} (c1 : gw_is t1 (.methodLink own j arraycopyName) = true) (c2 : gw_is t2 (.native arraycopyName) = true) (c3 : gw_is t3 (.static arraycopyName) = true) (c4 : gw_is t4 (.initialized "java/lang/System") = true)
    (hka : gw_kd S a = 12) (hkb : gw_kd S b = 12) (h1 : 0 ≤ sp) (h2 : 0 ≤ dp) (h3 : 0 ≤ n) (h4 : sp.toNatClampNeg + n.toNatClampNeg ≤ gw_ln S a) (h5 : dp.toNatClampNeg + n.toNatClampNeg ≤ gw_ln S b) (hn : N lv [] S (gw_cpy μ a b sp.toNatClampNeg dp.toNatClampNeg n.toNatClampNeg) cc ss) (hN : ∀ lv st S μ cc ss, N lv st S μ cc ss → gw_at p l e R s m args below meth c Z x nL (pc + 3) lv st S μ cc ss) : gw_at p l e R s m args below meth c Z x nL pc lv [.int n, .int dp, .ref b, .int sp, .ref a] S μ cc ss := by
  intro H locs ls hr hl T hT X
  obtain ⟨a1, a2, hca, hra⟩ := gw_kd_ok hr hka (by decide)
  obtain ⟨b1, b2, hcb, hrb⟩ := gw_kd_ok hr hkb (by decide)
  have hA := hca.1 hka
  have hB := hcb.1 hkb
  obtain ⟨-, k0, hk0, cm0, hkk0⟩ := (F.2.2.2.2.2.1.2 0 _ rfl).1 (gw_ln S a) (fun j => .int (μ a j))
  obtain ⟨-, k1, hk1, cm1, hkk1⟩ := (F.2.2.2.2.2.1.2 0 _ rfl).1 (gw_ln S b) (fun j => .int (μ b j))
  obtain ⟨vm', X', step⟩ := X.arraycopy F.1 F.2.2.2.1 (F.2.2.2.2.1 _ (gw_is_spec c1)) (F.2.2.2.2.1 _ (gw_is_spec c2)) (F.2.2.2.2.1 _ (gw_is_spec c3)) (F.2.2.2.2.1 _ (gw_is_spec c4)) (srcPos := sp) (destPos := dp) (n := n) (by rw [hT]; exact hA) (by rw [hT]; exact hB)
    (fun _ h => by cases h) (fun _ h => by cases h) (fun h => by cases h) (fun h => by cases h) hk0 hk1 hkk0 hkk1 rfl (Int32.not_lt.mpr h1) (Int32.not_lt.mpr h2) (Int32.not_lt.mpr h3)
    (by rw [gw_nonneg h1, gw_nonneg h3, arrV_size]; omega) (by rw [gw_nonneg h2, gw_nonneg h3, arrV_size]; omega)
    (fun vm₁ _ i hi => by
      have e : (arrV x.2.2.2.1 (gw_ln S a) (fun j => .int (μ a j))).slots.getD (sp.toNatClampNeg + i) .null = .int (μ a (sp.toNatClampNeg + i)) := by
        rw [Array.getD_eq_getD_getElem?, arrV_read _ _ (by omega)]
        rfl
      rw [e]
      exact ⟨rfl, trivial⟩)
    (g := F0 m pc ls ([.int n, .int dp, .ref b, .int sp, .ref a].map (gw_v x))) rfl (by rw [F.2.2.1]; exact hl.1) (rest := []) (by show [Value.int n, .int dp, gw_v x (.ref b), .int sp, gw_v x (.ref a)] = _; rw [hra, hrb]) (by rw [F.2.1]; exact hd) (by omega) (by show 2 * 0 + 0 + (7 + 11) ≤ _; omega)
  have e1 : copied (arrV x.2.2.2.1 (gw_ln S a) (fun j => .int (μ a j))) (arrV x.2.2.2.1 (gw_ln S b) (fun j => .int (μ b j))) sp dp n = arrV x.2.2.2.1 (gw_ln S b) (fun j => .int (va_cpy (μ a) (μ b) sp.toNatClampNeg dp.toNatClampNeg n.toNatClampNeg j)) := va_copied (fun z => .int z) _ _ (μ a) (μ b) h4
  rw [e1] at X' step
  have hlb : x.1 + b < H.size := by rw [hr.2.2.1]; omega
  generalize hc9 : arrV x.2.2.2.1 (gw_ln S b) (fun j => Value.int (va_cpy (μ a) (μ b) sp.toNatClampNeg dp.toNatClampNeg n.toNatClampNeg j)) = c9 at X' step
  have hheap : ((T.setVm vm').setCell (x.1 + b) c9).heap = H.setIfInBounds (x.1 + b) c9 := by rw [← hT]; rfl
  have oq : ∀ q : Nat, q ≠ x.1 + b → (H.setIfInBounds (x.1 + b) c9)[q]? = H[q]? := fun q hq => by simp [Array.getElem?_setIfInBounds, Ne.symm hq]
  have e2 : (H.setIfInBounds (x.1 + b) c9)[x.1 + b]? = some c9 := by simp [Array.getElem?_setIfInBounds, hlb]
  have hrep : gw_rep x S (gw_cpy μ a b sp.toNatClampNeg dp.toNatClampNeg n.toNatClampNeg) (H.setIfInBounds (x.1 + b) c9) (locs ++ ((arrV x.2.2.2.1 (gw_ln S a) (fun j => Value.int (μ a j))).stretch sp.toNatClampNeg n.toNatClampNeg).zipIdx.map fun q => (⟨x.1 + b, dp.toNatClampNeg + q.2⟩ : Loc)) := by
    refine gw_rep_store (a := b) hr (by simp) oq b1 rfl (fun _ _ _ => rfl) (fun b' hb' jj => by simp [gw_cpy, gw_row, hb']) ?_ (fun q hq => ?_)
    · refine ⟨fun _ => ?_, fun z => by omega, fun z => by omega, fun q hq => ?_⟩
      · rw [e2, ← hc9]
        congr 2
        funext jj
        simp [gw_cpy, gw_row]
      · rw [hkb] at hq
        have := (gw_cls hq).2.2.2.2
        omega
    · rcases List.mem_append.mp hq with h | h
      · exact Or.inl h
      · obtain ⟨z, -, hz⟩ := List.mem_map.mp h
        rw [← hz]
        exact Or.inr rfl
  obtain ⟨t, g1, g2⟩ := hN _ _ _ _ _ _ hn _ _ ls hrep hl _ hheap X'
  exact ⟨t, step t g1, g2⟩
theorem gw_s_invokestatic (F : gw_fx p s m args c x nL cb own) (hRm : mc ≤ R.cells ∧ ms ≤ R.slots) (hRf : d + 1 ≤ R.frames ∧ 40 * d + 40 ≤ R.locals) (hd : decode cb pc = .ok (.invokestatic j, 3)) (hlk : gw_lk own nL rt pc (.invokestatic j) an iv sg = true) (h : gw_step (gw_ok l x d) x mc ms Q K (.invokestatic j) an iv sg lv st S μ cc ss N) (hN : ∀ lv st S μ cc ss, N lv st S μ cc ss → gw_at p l e R s m args below meth c Z x nL (pc + 3) lv st S μ cc ss) (hK : ∀ t lv st S μ cc ss, K t lv st S μ cc ss → gw_at p l e R s m args below meth c Z x nL t lv st S μ cc ss) : gw_at p l e R s m args below meth c Z x nL pc lv st S μ cc ss := by
  simp only [gw_step] at h
  split at h
  · rename_i n t1 t2 t3 t4 g
    simp only [gw_lk, Bool.and_eq_true] at hlk
    exact gw_st0 F hRm hRf hd hlk.1.1.1 hlk.1.1.2 hlk.1.2 hlk.2 h hN
  · rename_i n t1 t2 t3 t4 g
    simp only [gw_lk, Bool.and_eq_true] at hlk
    exact gw_st1 F hRm hRf hd hlk.1.1.1 hlk.1.1.2 hlk.1.2 hlk.2 h hN
  · rename_i t1 t2 t3 t4
    simp only [gw_lk, Bool.and_eq_true] at hlk
    split at h
    · obtain ⟨h1, h2, h3, h4, h5, h6, h7, h8⟩ := h
      exact gw_arraycopy F hRf hd hlk.1.1.1 hlk.1.1.2 hlk.1.2 hlk.2 h1 h2 h3 h4 h5 h6 h7 h8 hN
    · exact h.elim
  · exact h.elim
theorem gw_s_invokespecial (F : gw_fx p s m args c x nL cb own) (hRm : mc ≤ R.cells ∧ ms ≤ R.slots) (hRf : d + 1 ≤ R.frames ∧ 40 * d + 40 ≤ R.locals) (hd : decode cb pc = .ok (.invokespecial j, 3)) (hlk : gw_lk own nL rt pc (.invokespecial j) an iv sg = true) (h : gw_step (gw_ok l x d) x mc ms Q K (.invokespecial j) an iv sg lv st S μ cc ss N) (hN : ∀ lv st S μ cc ss, N lv st S μ cc ss → gw_at p l e R s m args below meth c Z x nL (pc + 3) lv st S μ cc ss) (hK : ∀ t lv st S μ cc ss, K t lv st S μ cc ss → gw_at p l e R s m args below meth c Z x nL t lv st S μ cc ss) : gw_at p l e R s m args below meth c Z x nL pc lv st S μ cc ss := by
  simp only [gw_step] at h
  split at h
  · rename_i t1 t2 t3 t4
    simp only [gw_lk, Bool.and_eq_true] at hlk
    split at h
    · rename_i a
      obtain ⟨ha, hn⟩ := h
      intro H locs ls hr hl
      show W p l e R s m args below meth c H locs cc ss Z (F0 m pc ls [gw_v x (.ref a)])
      rw [gw_v_ref x ha]
      exact W.objInit F.1 F.2.1 F.2.2.2.1 (F.2.2.2.2.1 _ (gw_is_spec hlk.1.1)) (F.2.2.2.2.1 _ (gw_is_spec hlk.1.2)) (F.2.2.2.2.1 _ (gw_is_spec hlk.2)) rfl (by rw [F.2.2.1]; exact hl.1) rfl hd (by omega) (by show 2 * 0 + 0 + 12 ≤ _; omega) (hN _ _ _ _ _ _ hn H locs ls hr hl)
    · exact h.elim
  · rename_i n k0 rest0 g
    cases hv : gw_nth st n with
    | ref a =>
      rw [hv] at h
      simp only [gw_lk] at hlk
      split at hlk
      · rename_i heq1 heq2
        cases heq2
      · rename_i heq1 heq2
        cases heq1
        cases heq2
        simp only [Bool.and_eq_true, decide_eq_true_eq] at hlk
        exact gw_sp0 F hRm hRf hd hlk.1.1.1.1.1 hlk.1.1.1.1.2 hlk.1.1.1.2 hlk.1.1.2 hlk.1.2 hlk.2 hv h hN
      · rename_i heq1 heq2
        cases heq1
        cases heq2
        simp only [Bool.and_eq_true, decide_eq_true_eq] at hlk
        exact gw_sp1 F hRm hRf hd hlk.1.1.1.1.1 hlk.1.1.1.1.2 hlk.1.1.1.2 hlk.1.1.2 hlk.1.2 hlk.2 hv h hN
      · cases hlk
    | retAddr v =>
      rw [hv] at h
      match v, h with
      | 0, h => exact h.elim
      | 1, h => exact h.elim
      | _ + 2, h => exact h.elim
    | _ => rw [hv] at h; exact h.elim
  · exact h.elim
/-- what a frame's end asks -/
def gw_ret (p : Program) (l : Launch) (e : Env) (R : Room) (s : State) (m : MethodId) (args : Array Value) (below : List Frame) (meth : Method) (c : Code) (Z : State → Prop) (x : gw_C) (cb : ByteArray) (rt : Option FieldType) (mc ms : Nat) (Q : Option Value → gw_S → gw_M → Prop) : Prop :=
  ∀ (pc : Nat) (i : Instr) (v : Option Value) (S : gw_S) (μ : gw_M) (cc ss : Nat) (H : Heap) (locs : List Loc) (ls : Array Slot), decode cb pc = .ok (i, 1) →
    ((i = .ireturn ∧ rt = some .int ∧ ∃ w, v = some (.int w)) ∨ (i = .ireturn ∧ rt = some .boolean ∧ ∃ w, v = some (.int w) ∧ (w = 0 ∨ w = 1)) ∨ (i = .lreturn ∧ rt = some .long ∧ ∃ w, v = some (.long w)) ∨ (i = .areturn ∧ (∃ n, rt = some (.object n)) ∧ ∃ w, v = some (.ref w)) ∨ (i = .return_ ∧ rt = none ∧ v = none)) →
    gw_rep x S μ H locs → cc ≤ mc → ss ≤ ms → Q v S μ → W p l e R s m args below meth c H locs cc ss Z (F0 m pc ls (v.toList.map (gw_v x)))
theorem gw_s_ireturn (F : gw_fx p s m args c x nL cb own) (hret : gw_ret p l e R s m args below meth c Z x cb rt mc ms Q) (hd : decode cb pc = .ok (.ireturn, 1)) (hlk : gw_lk own nL rt pc (.ireturn) an iv sg = true) (h : gw_step (gw_ok l x d) x mc ms Q K (.ireturn) an iv sg lv st S μ cc ss N) (hN : ∀ lv st S μ cc ss, N lv st S μ cc ss → gw_at p l e R s m args below meth c Z x nL (pc + 1) lv st S μ cc ss) (hK : ∀ t lv st S μ cc ss, K t lv st S μ cc ss → gw_at p l e R s m args below meth c Z x nL t lv st S μ cc ss) : gw_at p l e R s m args below meth c Z x nL pc lv st S μ cc ss := by
  simp only [gw_step] at h
  simp only [gw_lk, decide_eq_true_eq] at hlk
  split at h
  · rename_i v
    intro H locs ls hr hl
    refine hret pc _ (some (.int v)) S μ cc ss H locs ls hd (Or.inl ⟨rfl, ?_, v, rfl⟩) hr h.1 h.2.1 h.2.2
    rcases hlk with z | z
    · exact z.2
    · cases z.1
  · rename_i v
    intro H locs ls hr hl
    refine hret pc _ (some (.int v)) S μ cc ss H locs ls hd (Or.inr (Or.inl ⟨rfl, ?_, v, rfl, h.1⟩)) hr h.2.1 h.2.2.1 h.2.2.2
    rcases hlk with z | z
    · cases z.1
    · exact z.2
  · exact h.elim
theorem gw_s_lreturn (F : gw_fx p s m args c x nL cb own) (hret : gw_ret p l e R s m args below meth c Z x cb rt mc ms Q) (hd : decode cb pc = .ok (.lreturn, 1)) (hlk : gw_lk own nL rt pc (.lreturn) an iv sg = true) (h : gw_step (gw_ok l x d) x mc ms Q K (.lreturn) an iv sg lv st S μ cc ss N) (hN : ∀ lv st S μ cc ss, N lv st S μ cc ss → gw_at p l e R s m args below meth c Z x nL (pc + 1) lv st S μ cc ss) (hK : ∀ t lv st S μ cc ss, K t lv st S μ cc ss → gw_at p l e R s m args below meth c Z x nL t lv st S μ cc ss) : gw_at p l e R s m args below meth c Z x nL pc lv st S μ cc ss := by
  simp only [gw_step] at h
  simp only [gw_lk, decide_eq_true_eq] at hlk
  split at h
  · rename_i v
    intro H locs ls hr hl
    exact hret pc _ (some (.long v)) S μ cc ss H locs ls hd (Or.inr (Or.inr (Or.inl ⟨rfl, hlk, v, rfl⟩))) hr h.1 h.2.1 h.2.2
  · exact h.elim
theorem gw_s_areturn (F : gw_fx p s m args c x nL cb own) (hret : gw_ret p l e R s m args below meth c Z x cb rt mc ms Q) (hd : decode cb pc = .ok (.areturn, 1)) (hlk : gw_lk own nL rt pc (.areturn) an iv sg = true) (h : gw_step (gw_ok l x d) x mc ms Q K (.areturn) an iv sg lv st S μ cc ss N) (hN : ∀ lv st S μ cc ss, N lv st S μ cc ss → gw_at p l e R s m args below meth c Z x nL (pc + 1) lv st S μ cc ss) (hK : ∀ t lv st S μ cc ss, K t lv st S μ cc ss → gw_at p l e R s m args below meth c Z x nL t lv st S μ cc ss) : gw_at p l e R s m args below meth c Z x nL pc lv st S μ cc ss := by
  simp only [gw_step] at h
  simp only [gw_lk] at hlk
  split at h
  · rename_i v
    intro H locs ls hr hl
    split at hlk
    · rename_i n
      exact hret pc _ (some (.ref v)) S μ cc ss H locs ls hd (Or.inr (Or.inr (Or.inr (Or.inl ⟨rfl, ⟨_, rfl⟩, v, rfl⟩)))) hr h.1 h.2.1 h.2.2
    · cases hlk
  · exact h.elim
theorem gw_s_return_ (F : gw_fx p s m args c x nL cb own) (hret : gw_ret p l e R s m args below meth c Z x cb rt mc ms Q) (hd : decode cb pc = .ok (.return_, 1)) (hlk : gw_lk own nL rt pc (.return_) an iv sg = true) (h : gw_step (gw_ok l x d) x mc ms Q K (.return_) an iv sg lv st S μ cc ss N) (hN : ∀ lv st S μ cc ss, N lv st S μ cc ss → gw_at p l e R s m args below meth c Z x nL (pc + 1) lv st S μ cc ss) (hK : ∀ t lv st S μ cc ss, K t lv st S μ cc ss → gw_at p l e R s m args below meth c Z x nL t lv st S μ cc ss) : gw_at p l e R s m args below meth c Z x nL pc lv st S μ cc ss := by
  simp only [gw_step] at h
  simp only [gw_lk, decide_eq_true_eq] at hlk
  split at h
  · intro H locs ls hr hl
    exact hret pc _ none S μ cc ss H locs ls hd (Or.inr (Or.inr (Or.inr (Or.inr ⟨rfl, hlk, rfl⟩)))) hr h.1 h.2.1 h.2.2
  · exact h.elim
end SND6
end
section
/-! ===== a step, a block, a method ===== -/
def gw_chk (own nm : String) (nL : Nat) (rt : Option FieldType) (cb : ByteArray) : Nat → List gw_E → Bool
  | _, [] => true
  | pc, e :: es => decide (e.1 = pc) && decide (decode cb e.1 = .ok (e.2.2.1, e.2.1)) && decide (e.2.1 = gw_len e.2.1 e.2.2.1) && gw_ini nm e.2.2.1 e.2.2.2.1 && gw_lk own nL rt e.1 e.2.2.1 e.2.2.2.1 e.2.2.2.2.1 e.2.2.2.2.2 && gw_chk own nm nL rt cb (e.1 + e.2.1) es
section SND7
variable {p : Program} {l : Launch} {e : Env} {R : Room} {s : State} {m : MethodId} {args : Array Value} {below : List Frame} {meth : Method} {c : Code} {Z : State → Prop} {x : gw_C} {nL : Nat} {cb : ByteArray} {own : String}
variable {d mc ms : Nat} {Q : Option Value → gw_S → gw_M → Prop} {K : Nat → gw_Kt} {rt : Option FieldType}
set_option maxHeartbeats 4000000 in
theorem gw_step_sound (F : gw_fx p s m args c x nL cb own) (hRm : mc ≤ R.cells ∧ ms ≤ R.slots) (hRf : d + 1 ≤ R.frames ∧ 40 * d + 40 ≤ R.locals) (hret : gw_ret p l e R s m args below meth c Z x cb rt mc ms Q) {pc len : Nat} {i : Instr} {an : List Nat} {iv : List Int32} {sg : List gw_Sig} {lv st : List Value} {S : gw_S} {μ : gw_M} {cc ss : Nat} {N : gw_Kt}
    (hd : decode cb pc = .ok (i, len)) (hlen : len = gw_len len i) (hini : gw_ini meth.name i an = true) (hlk : gw_lk own nL rt pc i an iv sg = true) (h : gw_step (gw_ok l x d) x mc ms Q K i an iv sg lv st S μ cc ss N) (hN : ∀ lv st S μ cc ss, N lv st S μ cc ss → gw_at p l e R s m args below meth c Z x nL (pc + len) lv st S μ cc ss) (hK : ∀ t lv st S μ cc ss, K t lv st S μ cc ss → gw_at p l e R s m args below meth c Z x nL t lv st S μ cc ss) : gw_at p l e R s m args below meth c Z x nL pc lv st S μ cc ss := by
  cases i with
  | iadd => simp only [gw_len] at hlen; subst hlen; exact gw_s_iadd F hd hlk h hN hK
  | isub => simp only [gw_len] at hlen; subst hlen; exact gw_s_isub F hd hlk h hN hK
  | imul => simp only [gw_len] at hlen; subst hlen; exact gw_s_imul F hd hlk h hN hK
  | idiv => simp only [gw_len] at hlen; subst hlen; exact gw_s_idiv F hd hlk h hN hK
  | irem => simp only [gw_len] at hlen; subst hlen; exact gw_s_irem F hd hlk h hN hK
  | iand => simp only [gw_len] at hlen; subst hlen; exact gw_s_iand F hd hlk h hN hK
  | ior => simp only [gw_len] at hlen; subst hlen; exact gw_s_ior F hd hlk h hN hK
  | ixor => simp only [gw_len] at hlen; subst hlen; exact gw_s_ixor F hd hlk h hN hK
  | ishl => simp only [gw_len] at hlen; subst hlen; exact gw_s_ishl F hd hlk h hN hK
  | ishr => simp only [gw_len] at hlen; subst hlen; exact gw_s_ishr F hd hlk h hN hK
  | iushr => simp only [gw_len] at hlen; subst hlen; exact gw_s_iushr F hd hlk h hN hK
  | lcmp => simp only [gw_len] at hlen; subst hlen; exact gw_s_lcmp F hd hlk h hN hK
  | dup => simp only [gw_len] at hlen; subst hlen; exact gw_s_dup F hd hlk h hN hK
  | dup2 => simp only [gw_len] at hlen; subst hlen; exact gw_s_dup2 F hd hlk h hN hK
  | pop => simp only [gw_len] at hlen; subst hlen; exact gw_s_pop F hd hlk h hN hK
  | iconst k => simp only [gw_len] at hlen; subst hlen; exact gw_s_iconst F hd hlk h hN hK
  | bipush k => simp only [gw_len] at hlen; subst hlen; exact gw_s_bipush F hd hlk h hN hK
  | sipush k => simp only [gw_len] at hlen; subst hlen; exact gw_s_sipush F hd hlk h hN hK
  | ldc k => simp only [gw_len] at hlen; subst hlen; exact gw_s_ldc F hd hlk h hN hK
  | ldc_w k => simp only [gw_len] at hlen; subst hlen; exact gw_s_ldc_w F hd hlk h hN hK
  | aload_n k => simp only [gw_len] at hlen; subst hlen; exact gw_s_aload_n F hd hlk h hN hK
  | aload k => simp only [gw_len] at hlen; subst hlen; exact gw_s_aload F hd hlk h hN hK
  | iload_n k => simp only [gw_len] at hlen; subst hlen; exact gw_s_iload_n F hd hlk h hN hK
  | iload k => simp only [gw_len] at hlen; subst hlen; exact gw_s_iload F hd hlk h hN hK
  | astore_n k => simp only [gw_len] at hlen; subst hlen; exact gw_s_astore_n F hd hlk h hN hK
  | astore k => simp only [gw_len] at hlen; subst hlen; exact gw_s_astore F hd hlk h hN hK
  | istore_n k => simp only [gw_len] at hlen; subst hlen; exact gw_s_istore_n F hd hlk h hN hK
  | istore k => simp only [gw_len] at hlen; subst hlen; exact gw_s_istore F hd hlk h hN hK
  | iinc k n => simp only [gw_len] at hlen; subst hlen; exact gw_s_iinc F hd hlk h hN hK
  | ifCond k n => simp only [gw_len] at hlen; subst hlen; exact gw_s_ifCond F hd hlk h hN hK
  | if_icmp k n => simp only [gw_len] at hlen; subst hlen; exact gw_s_if_icmp F hd hlk h hN hK
  | ifnull k => simp only [gw_len] at hlen; subst hlen; exact gw_s_ifnull F hd hlk h hN hK
  | ifnonnull k => simp only [gw_len] at hlen; subst hlen; exact gw_s_ifnonnull F hd hlk h hN hK
  | goto k => simp only [gw_len] at hlen; subst hlen; exact gw_s_goto F hd hlk h hN hK
  | tableswitch a b f g => exact gw_s_tableswitch F hd hlk h hN hK
  | getfield k => simp only [gw_len] at hlen; subst hlen; exact gw_s_getfield F hd hlk h hN hK
  | putfield k =>
    simp only [gw_len] at hlen; subst hlen
    refine gw_s_putfield F ?_ hd hlk h hN hK
    simp only [gw_ini, decide_eq_true_eq] at hini
    by_cases hz : 1 = an.getD 2 0
    · exact Or.inl (hini hz.symm)
    · exact Or.inr hz
  | iaload => simp only [gw_len] at hlen; subst hlen; exact gw_s_iaload F hd hlk h hN hK
  | iastore => simp only [gw_len] at hlen; subst hlen; exact gw_s_iastore F hd hlk h hN hK
  | aaload => simp only [gw_len] at hlen; subst hlen; exact gw_s_aaload F hd hlk h hN hK
  | aastore => simp only [gw_len] at hlen; subst hlen; exact gw_s_aastore F hd hlk h hN hK
  | arraylength => simp only [gw_len] at hlen; subst hlen; exact gw_s_arraylength F hd hlk h hN hK
  | newarray k => simp only [gw_len] at hlen; subst hlen; exact gw_s_newarray F hRm (F.2.2.2.2.1 _ gw_ac) hd hlk h hN hK
  | anewarray k => simp only [gw_len] at hlen; subst hlen; exact gw_s_anewarray F hRm hd hlk h hN hK
  | new k => simp only [gw_len] at hlen; subst hlen; exact gw_s_new F hRm hd hlk h hN hK
  | invokevirtual k => simp only [gw_len] at hlen; subst hlen; exact gw_s_invokevirtual F hRm hRf hd hlk h hN hK
  | invokestatic k => simp only [gw_len] at hlen; subst hlen; exact gw_s_invokestatic F hRm hRf hd hlk h hN hK
  | invokespecial k => simp only [gw_len] at hlen; subst hlen; exact gw_s_invokespecial F hRm hRf hd hlk h hN hK
  | ireturn => simp only [gw_len] at hlen; subst hlen; exact gw_s_ireturn F hret hd hlk h hN hK
  | lreturn => simp only [gw_len] at hlen; subst hlen; exact gw_s_lreturn F hret hd hlk h hN hK
  | areturn => simp only [gw_len] at hlen; subst hlen; exact gw_s_areturn F hret hd hlk h hN hK
  | return_ => simp only [gw_len] at hlen; subst hlen; exact gw_s_return_ F hret hd hlk h hN hK
  | _ => exact h.elim
theorem gw_blk_sound (F : gw_fx p s m args c x nL cb own) (hRm : mc ≤ R.cells ∧ ms ≤ R.slots) (hRf : d + 1 ≤ R.frames ∧ 40 * d + 40 ≤ R.locals) (hret : gw_ret p l e R s m args below meth c Z x cb rt mc ms Q) (hK : ∀ t lv st S μ cc ss, K t lv st S μ cc ss → gw_at p l e R s m args below meth c Z x nL t lv st S μ cc ss) :
    ∀ (es : List gw_E) (pc : Nat) (lv st : List Value) (S : gw_S) (μ : gw_M) (cc ss : Nat), gw_chk own meth.name nL rt cb pc es = true → gw_blk (gw_ok l x d) x mc ms Q K es pc lv st S μ cc ss → gw_at p l e R s m args below meth c Z x nL pc lv st S μ cc ss
  | [], pc, lv, st, S, μ, cc, ss, _, h => hK pc lv st S μ cc ss h
  | e0 :: es, pc, lv, st, S, μ, cc, ss, hc, h => by
    simp only [gw_chk, Bool.and_eq_true, decide_eq_true_eq] at hc
    obtain ⟨⟨⟨⟨⟨h1, h2⟩, h3⟩, h4⟩, h5⟩, h6⟩ := hc
    subst h1
    exact gw_step_sound F hRm hRf hret h2 h3 h4 h5 h (fun lv st S μ cc ss hn => gw_blk_sound F hRm hRf hret hK es (e0.1 + e0.2.1) lv st S μ cc ss h6 hn) hK
end SND7
/-- what a program decides of a method, once -/
def gw_sta (g : gw_Sig) (bs : List (Nat × List gw_E)) : Prop := plainName g.1.cls = true ∧ Cond.code g.1 g.2.1 g.2.2.1 g.2.2.2 ∈ gw_tb ∧ ∀ b ∈ bs, gw_chk g.1.cls g.1.name g.2.2.1 g.2.2.2 g.2.1 b.1 b.2 = true
def gw_plain : List Value → Bool
  | [] => true
  | .int _ :: l => gw_plain l
  | .ref _ :: l => gw_plain l
  | .retAddr 1 :: l => gw_plain l
  | _ => false
theorem gw_plain_nth : ∀ (l : List Value), gw_plain l = true → ∀ i, (gw_nth l i).category = 1
  | [], _, _ => rfl
  | v :: l, h, 0 => by
    show v.category = 1
    cases v <;> first | rfl | (simp [gw_plain] at h)
  | v :: l, h, i + 1 => by
    refine gw_plain_nth l ?_ i
    cases v with
    | int v => exact h
    | ref v => exact h
    | retAddr v =>
      match v, h with
      | 1, h => exact h
      | 0, h => simp [gw_plain] at h
      | _ + 2, h => simp [gw_plain] at h
    | _ => simp [gw_plain] at h
theorem gw_nth_app : ∀ (l : List Value) (n i : Nat), gw_nth (l ++ List.replicate n (.retAddr 0)) i = gw_nth l i
  | [], 0, i => rfl
  | [], n + 1, 0 => rfl
  | [], n + 1, i + 1 => by
    have := gw_nth_app [] n i
    simpa [List.replicate_succ, gw_nth] using this
  | _ :: _, _, 0 => rfl
  | _ :: l, n, i + 1 => gw_nth_app l n i
theorem gw_args_mem (x : gw_C) : ∀ (l : List Value) (k : Nat), gw_plain l = true → ∀ i, gw_nth l i ≠ .retAddr 0 → (k + i, gw_v x (gw_nth l i)) ∈ lv_args k (l.map (gw_v x))
  | [], _, _, _, h => absurd rfl h
  | v :: l, k, hp, i, h => by
    have hc : (gw_v x v).category = 1 := gw_v_cat x (gw_plain_nth (v :: l) hp 0)
    have hp' : gw_plain l = true := by
      cases v with
      | int v => exact hp
      | ref v => exact hp
      | retAddr v =>
        match v, hp with
        | 1, hp => exact hp
        | 0, hp => simp [gw_plain] at hp
        | _ + 2, hp => simp [gw_plain] at hp
      | _ => simp [gw_plain] at hp
    simp only [List.map_cons, lv_args, hc]
    cases i with
    | zero => exact List.mem_cons_self
    | succ i =>
      have := gw_args_mem x l (k + 1) hp' i h
      refine List.mem_cons_of_mem _ ?_
      rw [show k + (i + 1) = k + 1 + i by omega]
      exact this
theorem gw_sl_len (x : gw_C) : ∀ (l : List Value), gw_plain l = true → (lg_sl (l.map (gw_v x))).length = l.length
  | [], _ => rfl
  | v :: l, hp => by
    have hc : (gw_v x v).category = 1 := gw_v_cat x (gw_plain_nth (v :: l) hp 0)
    have hp' : gw_plain l = true := by
      cases v with
      | int v => exact hp
      | ref v => exact hp
      | retAddr v =>
        match v, hp with
        | 1, hp => exact hp
        | 0, hp => simp [gw_plain] at hp
        | _ + 2, hp => simp [gw_plain] at hp
      | _ => simp [gw_plain] at hp
    have ih := gw_sl_len x l hp'
    simp only [lg_sl, List.map_cons, List.flatMap_cons, List.length_append, List.length_cons] at *
    rw [ih, if_neg (by rw [hc]; decide)]
    simp only [List.length_cons, List.length_nil]
    omega
theorem gw_find_in : ∀ (bs : List (Nat × List gw_E)) (pc : Nat), gw_find bs pc = [] ∨ ∃ b ∈ bs, b.1 = pc ∧ b.2 = gw_find bs pc
  | [], _ => Or.inl rfl
  | b :: bs, pc => by
    by_cases h : b.1 = pc
    · exact Or.inr ⟨b, List.mem_cons_self, h, by simp [gw_find, h]⟩
    · rcases gw_find_in bs pc with h1 | ⟨b', h1, h2, h3⟩
      · exact Or.inl (by simp [gw_find, h, h1])
      · exact Or.inr ⟨b', List.mem_cons_of_mem _ h1, h2, by simp [gw_find, h, h3]⟩
set_option maxHeartbeats 4000000 in
/-- THE CONTRACT OF A METHOD: from its blocks -/
theorem gw_ok_of {l : Launch} {x : gw_C} {g : gw_Sig} {bs : List (Nat × List gw_E)} (h : gw_sta g bs) {d mc ms : Nat} {as lv0 : List Value} {S : gw_S} {μ : gw_M} {Q : Option Value → gw_S → gw_M → Prop} (hlen : as.length ≤ g.2.2.1) (hpl : gw_plain as = true) (hlv : as ++ List.replicate (g.2.2.1 - as.length) (.retAddr 0) = lv0)
    (body : ∀ K : Nat → gw_Kt, (∀ pc lv st S μ cc ss, gw_blk (gw_ok l x d) x mc ms Q K (gw_find bs pc) pc lv st S μ cc ss → K pc lv st S μ cc ss) → K 0 lv0 [] S μ 0 0) : gw_ok l x (d + 1) g mc ms as S μ Q := by
  obtain ⟨hplain, hcode, hchk⟩ := h
  subst hlv
  refine ⟨hcode, Met.ofW (cc := g.2.1) (maxL := g.2.2.1) (ret := g.2.2.2) hplain rfl ?_⟩
  intro p e s m args below meth c s₁ B hml hv
  obtain ⟨rfl, hrep, hkk⟩ := hv
  have hts := atoms_spec (ws := gw_wsg g) B.pre
  have hnm := (name_of_methodNamed B.named B.method).1
  have hlocks := B.notSynchronized
  have hr := B.returns
  have hx := B.exec
  have hb := B.bytes
  have F : gw_fx p s m (as.map (gw_v x)).toArray c x g.2.2.1 g.2.1 g.1.cls := ⟨B.exec, B.bytes, hml, findClass_of_methodNamed B.named, fun w hw => hts w (List.mem_cons_of_mem _ hw), hkk⟩
  have hret : gw_ret p l e (gw_rm (d + 1) mc ms) s m (as.map (gw_v x)).toArray below meth c (MQ below (gw_qc x Q) (as.map (gw_v x)).toArray s mc ms (gw_A x)) x g.2.1 g.2.2.2 mc ms Q := by
    intro pc i v S μ cc ss H locs ls hd hi hrep h1 h2 hq
    refine W.widen (k := mc) (n := ms) h1 h2 ?_
    have key : ∀ t : State, t.heap = H → s.WarmedH t.vm → gw_qc x Q (as.map (gw_v x)).toArray s (.returned (v.map (gw_v x))) t := fun t ht hW => ⟨v, S, μ, rfl, hq, by rw [ht]; exact ⟨hrep.1, hrep.2.1, hrep.2.2.1, hrep.2.2.2.1, hrep.2.2.2.2.1, fun q hq => by cases hq⟩, gw_kk_moved hW hkk⟩
    rcases hi with ⟨rfl, hrt, w, rfl⟩ | ⟨rfl, hrt, w, rfl, hw⟩ | ⟨rfl, hrt, w, rfl⟩ | ⟨rfl, ⟨n, hrt⟩, w, rfl⟩ | ⟨rfl, hrt, rfl⟩
    · exact W.iret (v := w) hx hb (hr.trans hrt) key hrep.2.2.2.2.2 hd hlocks
    · exact W.zret (v := w) hx hb (hr.trans hrt) (by rcases hw with rfl | rfl <;> rfl) key hrep.2.2.2.2.2 hd hlocks
    · exact W.lret (v := w) hx hb (hr.trans hrt) key hrep.2.2.2.2.2 hd hlocks
    · refine W.aret (v := gw_v x (.ref w)) hx hb (hr.trans hrt) (Or.inl ⟨n, rfl⟩) ?_ key hrep.2.2.2.2.2 hd hlocks
      cases w with
      | zero => exact Or.inl rfl
      | succ w => exact Or.inr ⟨_, rfl⟩
    · exact W.vret hx hb (hr.trans hrt) key hrep.2.2.2.2.2 hd hlocks
  have hat := body (gw_at p l e (gw_rm (d + 1) mc ms) s m (as.map (gw_v x)).toArray below meth c (MQ below (gw_qc x Q) (as.map (gw_v x)).toArray s mc ms (gw_A x)) x g.2.2.1) (fun pc lv st S μ cc ss hblk => by
    rcases gw_find_in bs pc with h1 | ⟨b, h1, h2, h3⟩
    · rw [h1] at hblk
      exact hblk
    · rw [← h3] at hblk
      have hc := hchk b h1
      rw [h2, ← hnm] at hc
      exact gw_blk_sound F ⟨Nat.le_refl _, Nat.le_refl _⟩ ⟨Nat.le_refl _, by show 40 * d + 40 ≤ 40 * (d + 1); omega⟩ hret (fun _ _ _ _ _ _ _ h => h) b.2 pc lv st S μ cc ss hc hblk)
  rw [lg_entry_eq]
  have hl := lv_entry (as.map (gw_v x)) (n := g.2.2.1) (by rw [gw_sl_len x as hpl]; exact hlen)
  generalize (lg_sl (as.map (gw_v x)) ++ List.replicate (g.2.2.1 - (lg_sl (as.map (gw_v x))).length) Slot.unset).toArray = ls at hl ⊢
  refine hat s.heap [] ls hrep ⟨hl.1, hl.2.1, ?_, fun i => ?_, fun i hi => ?_⟩
  · simp only [List.length_append, List.length_replicate]
    omega
  · rw [gw_nth_app]
    exact gw_plain_nth as hpl i
  · rw [gw_nth_app] at hi ⊢
    have := gw_args_mem x as 0 hpl i hi
    rw [Nat.zero_add] at this
    exact hl.2.2 _ this
end
