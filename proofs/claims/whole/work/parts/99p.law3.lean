/-! ===== the law: its loop ===== -/
theorem gw_sw_c {K : Nat → Prop} {d t : Nat} {ts : List Nat} {lo v : Int32} (h1 : K t) (h2 : gw_sw K d ts (lo + 1) v) : gw_sw K d (t :: ts) lo v := ⟨fun _ => h1, fun _ => h2⟩
section LAW3
variable {ok : gw_Ok} {x : gw_C} {mc ms : Nat} {Q : gw_Q} {K : Nat → gw_Kt} {pc pc' n : Nat} {an : List Nat} {iv : List Int32} {sg : List gw_Sig} {es : List gw_E} {ls t : List Value} {S : gw_S} {μ : gw_M} {cc ss : Nat} {v : Int32}
theorem gt_rfk1 {f : Value → Prop} : gw_rfk (.retAddr 1) f = f (.retAddr 1) := rfl
theorem gt_alen1 : gw_blk ok x mc ms Q K ((pc, n, .arraylength, an, iv, sg) :: es) pc' ls (.retAddr 1 :: t) S μ cc ss = gw_blk ok x mc ms Q K es (pc + n) ls (.int (Int32.ofNat x.2.2.2.2.2.2.2.1) :: t) S μ cc ss := rfl
theorem gt_iald1 : gw_blk ok x mc ms Q K ((pc, n, .iaload, an, iv, sg) :: es) pc' ls (.int v :: .retAddr 1 :: t) S μ cc ss = (gw_in v x.2.2.2.2.2.2.2.1 ∧ gw_blk ok x mc ms Q K es (pc + n) ls (.int (x.2.2.2.2.2.2.2.2 v.toNatClampNeg) :: t) S μ cc ss) := rfl
end LAW3
theorem law_big1 {z : Nat} (hz : z ≤ 60000) : z + 1640 ≤ 427204 := Nat.le_trans (Nat.add_le_add_right hz 1640) (Nat.le_of_ble_eq_true rfl)
theorem law_big2 {z : Nat} (hz : z ≤ 800000) : z + 22140 ≤ 7820637 := Nat.le_trans (Nat.add_le_add_right hz 22140) (Nat.le_of_ble_eq_true rfl)
theorem law_cmp {L i : Nat} (hL : L ≤ 2560) (hi : i ≤ 2600) : gw_c2 .gt (nI i) (Int32.ofNat L - 5) ↔ L < i + 5 := by
  show (Int32.ofNat L - 5 < nI i) ↔ _
  rw [Int32.lt_iff_toInt_lt, nI_toInt (by omega)]
  have e : (Int32.ofNat L - 5).toInt = (L : Int) - 5 := pk_sub_toInt (a := L) (b := 5) (by omega) (by decide)
  rw [e]
  omega
theorem law_end {l : Launch} {x : gw_C} {K : Nat → gw_Kt} (hB : LB l x K) {A m i cc ss : Nat} {S : gw_S} {M : gw_M} (h1 : cc ≤ 427204) (h2 : ss ≤ 7820637) : K 2064 [.retAddr 1, .ref A, .ref m, .int (nI i)] [] S M cc ss := by
  refine hB bkL_2064 2064 _ _ _ _ _ _ ckL_2064 ?_
  simp only [bkL_2064, gt_iconst, gt_retz]
  exact ⟨Or.inr rfl, h1, h2, trivial⟩
theorem law_hd {l : Launch} {x : gw_C} {K : Nat → gw_Kt} (hB : LB l x K) {A m i cc ss L : Nat} {S : gw_S} {M : gw_M} {p0 p1 p2 p3 p4 p5 p6 p7 p8 p9 p10 p11 n0 n1 n2 n3 n4 n5 n6 n7 n8 n9 n10 n11 pc : Nat} {off z1 z2 z3 c5 b7 : Int} {z4 : Array Int} {ts : List Nat} (hx : x.2.2.2.2.2.2.2.1 = L) (hL : L ≤ 2560) (hi : i ≤ 2600) (h1 : cc ≤ 427204) (h2 : ss ≤ 7820637) (h3 : i + 5 ≤ L → gw_sw (fun k => K k [.retAddr 1, .ref A, .ref m, .int (nI i)] [] S M cc ss) 2058 ts 0 (x.2.2.2.2.2.2.2.2 i &&& 127)) : gw_blk (gw_ok l x 16) x 427204 7820637 LQ K [(p0, n0, .iload_n 3, [3], [], []), (p1, n1, .aload_n 0, [0], [], []), (p2, n2, .arraylength, [], [], []), (p3, n3, .iconst c5, [], [5], []), (p4, n4, .isub, [], [], []), (p5, n5, .if_icmp .gt off, [2064], [], []), (p6, n6, .aload_n 0, [0], [], []), (p7, n7, .iload_n 3, [3], [], []), (p8, n8, .iaload, [], [], []), (p9, n9, .bipush b7, [], [127], []), (p10, n10, .iand, [], [], []), (p11, n11, .tableswitch z1 z2 z3 z4, 2058 :: ts, [0], [])] pc [.retAddr 1, .ref A, .ref m, .int (nI i)] [] S M cc ss := by
  subst hx
  simp only [gt_iload_n, gt_ink, gw_nth, gt_aload_n, gt_rfk1, gt_alen1, gt_iconst, gt_isub, gt_icmp, gt_iald1, gt_bipush, gt_iand, gt_tsw]
  refine ⟨fun _ => law_end hB h1 h2, fun hc => ?_⟩
  have hi' := mt (law_cmp hL hi).mpr hc
  refine ⟨⟨nI_pos' (by omega), by rw [nI_clamp (by omega)]; omega⟩, ?_⟩
  rw [nI_clamp (by omega)]
  exact h3 (by omega)
theorem law_head {l : Launch} {x : gw_C} {K : Nat → gw_Kt} (hB : LB l x K) {A m i cc ss L : Nat} {S : gw_S} {M : gw_M} (hx : x.2.2.2.2.2.2.2.1 = L) (hL : L ≤ 2560) (hi : i ≤ 2600) (h1 : cc ≤ 427204) (h2 : ss ≤ 7820637) (h3 : i + 5 ≤ L → gw_sw (fun k => K k [.retAddr 1, .ref A, .ref m, .int (nI i)] [] S M cc ss) 2058 [324, 377, 410, 433, 446, 459, 482, 515, 558, 581, 594, 627, 676, 689, 712, 755, 798, 821, 854, 877, 890, 913, 966, 989, 1012, 1025, 1048, 1091, 1114, 1137, 1160, 1183, 1206, 1219, 1242, 1265, 1278, 1311, 1334, 1347, 1370, 1383, 1406, 1429, 1462, 1485, 1508, 1531, 1564, 1587, 1620, 1643, 1666, 1689, 1722, 1745, 1778, 1791, 1834, 1867, 1880, 1903, 1926, 1959, 1982, 2005, 2019, 2032, 2045] 0 (x.2.2.2.2.2.2.2.2 i &&& 127)) : K 18 [.retAddr 1, .ref A, .ref m, .int (nI i)] [] S M cc ss :=
  hB bkL_18 18 _ _ _ _ _ _ ckL_18 (law_hd hB hx hL hi h1 h2 h3)
theorem law_loop {l : Launch} {x : gw_C} {K : Nat → gw_Kt} {A m L : Nat} (hB : LB l x K) (hV : LV l x K m) (hx : x.2.2.2.2.2.2.2.1 = L) (hL : L ≤ 2560) : ∀ (r i b cc ss : Nat) (S : gw_S) (M : gw_M), L < i + 5 * r + 5 → i ≤ 2600 → SH S A m → R2 b S A m M M → b + 8100 * r + 8100 < 2 ^ 28 → cc + nul S A * 82 + 82 * r ≤ 60000 → ss + nul S A * 1107 + 1107 * r ≤ 800000 → K 18 [.retAddr 1, .ref A, .ref m, .int (nI i)] [] S M cc ss := by
  intro r
  induction r with
  | zero =>
    intro i b cc ss S M h1 h2 hS hR h3 h4 h5
    have c60 : cc ≤ 60000 := by omega
    have s80 : ss ≤ 800000 := by omega
    exact law_head hB hx hL h2 (Nat.le_trans (Nat.le_add_right _ _) (law_big1 c60)) (Nat.le_trans (Nat.le_add_right _ _) (law_big2 s80)) (fun hi => by omega)
  | succ r ih =>
    intro i b cc ss S M h1 h2 hS hR h3 h4 h5
    have c60 : cc ≤ 60000 := by omega
    have s80 : ss ≤ 800000 := by omega
    refine law_head hB hx hL h2 (Nat.le_trans (Nat.le_add_right _ _) (law_big1 c60)) (Nat.le_trans (Nat.le_add_right _ _) (law_big2 s80)) (fun hi => ?_)
    have hN : NX K A m i b cc ss S := by
      intro S' M2 b' cc' ss' hS' hR' hb' g1 g2
      refine hB bkL_2058 2058 _ _ _ _ _ _ ckL_2058 ?_
      simp only [bkL_2058, gt_iinc, gw_nth, gt_ink, gw_set, gt_goto]
      rw [show nI i + 5 = nI (i + 5) from nI_add i 5]
      exact ih (i + 5) b' cc' ss' S' M2 (by omega) (by omega) hS' hR' (by omega) (by omega) (by omega)
    have hC : LC x K A m i b cc ss L S M := ⟨hS, hR, by omega, hx, by omega, hL, law_big1 c60, law_big2 s80, hN⟩
    refine gw_sw_c (lc_324 hB hC) ?_
    refine gw_sw_c (lc_377 hB hC) ?_
    refine gw_sw_c (lc_410 hB hC) ?_
    refine gw_sw_c (lc_433 hB hC) ?_
    refine gw_sw_c (lc_446 hB hC) ?_
    refine gw_sw_c (lc_459 hB hC) ?_
    refine gw_sw_c (lc_482 hB hC) ?_
    refine gw_sw_c (lc_515 hB hC) ?_
    refine gw_sw_c (lc_558 hB hC) ?_
    refine gw_sw_c (lc_581 hB hC) ?_
    refine gw_sw_c (lc_594 hB hC) ?_
    refine gw_sw_c (lc_627 hB hC) ?_
    refine gw_sw_c (lc_676 hB hC) ?_
    refine gw_sw_c (lc_689 hB hC) ?_
    refine gw_sw_c (lc_712 hB hC) ?_
    refine gw_sw_c (lc_755 hB hC) ?_
    refine gw_sw_c (lc_798 hB hC) ?_
    refine gw_sw_c (lc_821 hB hC) ?_
    refine gw_sw_c (lc_854 hB hC) ?_
    refine gw_sw_c (lc_877 hB hC) ?_
    refine gw_sw_c (lc_890 hB hC) ?_
    refine gw_sw_c (lc_913 hB hC) ?_
    refine gw_sw_c (lc_966 hB hC) ?_
    refine gw_sw_c (lc_989 hB hC) ?_
    refine gw_sw_c (lc_1012 hB hC) ?_
    refine gw_sw_c (lc_1025 hB hC) ?_
    refine gw_sw_c (lc_1048 hB hC) ?_
    refine gw_sw_c (lc_1091 hB hC) ?_
    refine gw_sw_c (lc_1114 hB hC) ?_
    refine gw_sw_c (lc_1137 hB hC) ?_
    refine gw_sw_c (lc_1160 hB hC) ?_
    refine gw_sw_c (lc_1183 hB hC) ?_
    refine gw_sw_c (lc_1206 hB hC) ?_
    refine gw_sw_c (lc_1219 hB hC) ?_
    refine gw_sw_c (lc_1242 hB hC) ?_
    refine gw_sw_c (lc_1265 hB hC) ?_
    refine gw_sw_c (lc_1278 hB hC) ?_
    refine gw_sw_c (lc_1311 hB hC) ?_
    refine gw_sw_c (lc_1334 hB hC) ?_
    refine gw_sw_c (lc_1347 hB hC) ?_
    refine gw_sw_c (lc_1370 hB hC) ?_
    refine gw_sw_c (lc_1383 hB hC) ?_
    refine gw_sw_c (lc_1406 hB hC) ?_
    refine gw_sw_c (lc_1429 hB hC) ?_
    refine gw_sw_c (lc_1462 hB hC) ?_
    refine gw_sw_c (lc_1485 hB hC) ?_
    refine gw_sw_c (lc_1508 hB hC) ?_
    refine gw_sw_c (lc_1531 hB hC) ?_
    refine gw_sw_c (lc_1564 hB hC) ?_
    refine gw_sw_c (lc_1587 hB hC) ?_
    refine gw_sw_c (lc_1620 hB hC) ?_
    refine gw_sw_c (lc_1643 hB hC) ?_
    refine gw_sw_c (lc_1666 hB hC) ?_
    refine gw_sw_c (lc_1689 hB hC) ?_
    refine gw_sw_c (lc_1722 hB hC) ?_
    refine gw_sw_c (lc_1745 hB hC) ?_
    refine gw_sw_c (lc_1778 hB hC) ?_
    refine gw_sw_c (lc_1791 hB hC) ?_
    refine gw_sw_c (lc_1834 hB hC) ?_
    refine gw_sw_c (lc_1867 hB hC) ?_
    refine gw_sw_c (lc_1880 hB hC) ?_
    refine gw_sw_c (lc_1903 hB hC) ?_
    refine gw_sw_c (lc_1926 hB hC) ?_
    refine gw_sw_c (lc_1959 hB hC) ?_
    refine gw_sw_c (lc_1982 hB hC) ?_
    refine gw_sw_c (lc_2005 hB hV hC) ?_
    refine gw_sw_c (lc_2019 hB hC) ?_
    refine gw_sw_c (lc_2032 hB hC) ?_
    refine gw_sw_c (lc_2045 hB hC) ?_
    exact hN S M b cc ss hS hR (by omega) (by omega) (by omega)
